theorem dX13_tilesBeside_0 : decode cX13_tilesBeside 0 = .ok (.iconst 0, 1) := by decide +kernel
theorem dX13_tilesBeside_1 : decode cX13_tilesBeside 1 = .ok (.istore_n 3, 1) := by decide +kernel
theorem dX13_tilesBeside_2 : decode cX13_tilesBeside 2 = .ok (.iconst 0, 1) := by decide +kernel
theorem dX13_tilesBeside_3 : decode cX13_tilesBeside 3 = .ok (.istore 4, 2) := by decide +kernel
theorem dX13_tilesBeside_5 : decode cX13_tilesBeside 5 = .ok (.iload 4, 2) := by decide +kernel
theorem dX13_tilesBeside_7 : decode cX13_tilesBeside 7 = .ok (.bipush 6, 2) := by decide +kernel
theorem dX13_tilesBeside_9 : decode cX13_tilesBeside 9 = .ok (.if_icmp .ge 29, 3) := by decide +kernel
theorem dX13_tilesBeside_12 : decode cX13_tilesBeside 12 = .ok (.iload_n 3, 1) := by decide +kernel
theorem dX13_tilesBeside_13 : decode cX13_tilesBeside 13 = .ok (.aload_n 0, 1) := by decide +kernel
theorem dX13_tilesBeside_14 : decode cX13_tilesBeside 14 = .ok (.aload_n 1, 1) := by decide +kernel
theorem dX13_tilesBeside_15 : decode cX13_tilesBeside 15 = .ok (.iload_n 2, 1) := by decide +kernel
theorem dX13_tilesBeside_16 : decode cX13_tilesBeside 16 = .ok (.iload 4, 2) := by decide +kernel
theorem dX13_tilesBeside_18 : decode cX13_tilesBeside 18 = .ok (.invokevirtual 289, 3) := by decide +kernel
theorem dX13_tilesBeside_21 : decode cX13_tilesBeside 21 = .ok (.iconst (-1), 1) := by decide +kernel
theorem dX13_tilesBeside_22 : decode cX13_tilesBeside 22 = .ok (.if_icmp .ne 7, 3) := by decide +kernel
theorem dX13_tilesBeside_25 : decode cX13_tilesBeside 25 = .ok (.iconst 0, 1) := by decide +kernel
theorem dX13_tilesBeside_26 : decode cX13_tilesBeside 26 = .ok (.goto 4, 3) := by decide +kernel
theorem dX13_tilesBeside_29 : decode cX13_tilesBeside 29 = .ok (.iconst 1, 1) := by decide +kernel
theorem dX13_tilesBeside_30 : decode cX13_tilesBeside 30 = .ok (.iadd, 1) := by decide +kernel
theorem dX13_tilesBeside_31 : decode cX13_tilesBeside 31 = .ok (.istore_n 3, 1) := by decide +kernel
theorem dX13_tilesBeside_32 : decode cX13_tilesBeside 32 = .ok (.iinc 4 1, 3) := by decide +kernel
theorem dX13_tilesBeside_35 : decode cX13_tilesBeside 35 = .ok (.goto (-30), 3) := by decide +kernel
theorem dX13_tilesBeside_38 : decode cX13_tilesBeside 38 = .ok (.iload_n 3, 1) := by decide +kernel
theorem dX13_tilesBeside_39 : decode cX13_tilesBeside 39 = .ok (.ireturn, 1) := by decide +kernel
theorem dX13_fits_0 : decode cX13_fits 0 = .ok (.aload_n 1, 1) := by decide +kernel
theorem dX13_fits_1 : decode cX13_fits 1 = .ok (.getfield 293, 3) := by decide +kernel
theorem dX13_fits_4 : decode cX13_fits 4 = .ok (.iload_n 2, 1) := by decide +kernel
theorem dX13_fits_5 : decode cX13_fits 5 = .ok (.iaload, 1) := by decide +kernel
theorem dX13_fits_6 : decode cX13_fits 6 = .ok (.iconst (-1), 1) := by decide +kernel
theorem dX13_fits_7 : decode cX13_fits 7 = .ok (.if_icmp .ne 13, 3) := by decide +kernel
theorem dX13_fits_10 : decode cX13_fits 10 = .ok (.aload_n 1, 1) := by decide +kernel
theorem dX13_fits_11 : decode cX13_fits 11 = .ok (.getfield 280, 3) := by decide +kernel
theorem dX13_fits_14 : decode cX13_fits 14 = .ok (.iload_n 3, 1) := by decide +kernel
theorem dX13_fits_15 : decode cX13_fits 15 = .ok (.iaload, 1) := by decide +kernel
theorem dX13_fits_16 : decode cX13_fits 16 = .ok (.iconst (-1), 1) := by decide +kernel
theorem dX13_fits_17 : decode cX13_fits 17 = .ok (.if_icmp .eq 5, 3) := by decide +kernel
theorem dX13_fits_20 : decode cX13_fits 20 = .ok (.iconst 0, 1) := by decide +kernel
theorem dX13_fits_21 : decode cX13_fits 21 = .ok (.ireturn, 1) := by decide +kernel
theorem dX13_fits_22 : decode cX13_fits 22 = .ok (.aload_n 1, 1) := by decide +kernel
theorem dX13_fits_23 : decode cX13_fits 23 = .ok (.getfield 296, 3) := by decide +kernel
theorem dX13_fits_26 : decode cX13_fits 26 = .ok (.ifCond .ne 5, 3) := by decide +kernel
theorem dX13_fits_29 : decode cX13_fits 29 = .ok (.iconst 1, 1) := by decide +kernel
theorem dX13_fits_30 : decode cX13_fits 30 = .ok (.ireturn, 1) := by decide +kernel
theorem dX13_fits_31 : decode cX13_fits 31 = .ok (.aload_n 0, 1) := by decide +kernel
theorem dX13_fits_32 : decode cX13_fits 32 = .ok (.aload_n 1, 1) := by decide +kernel
theorem dX13_fits_33 : decode cX13_fits 33 = .ok (.iload_n 3, 1) := by decide +kernel
theorem dX13_fits_34 : decode cX13_fits 34 = .ok (.invokevirtual 299, 3) := by decide +kernel
theorem dX13_fits_37 : decode cX13_fits 37 = .ok (.ifCond .le 20, 3) := by decide +kernel
theorem dX13_fits_40 : decode cX13_fits 40 = .ok (.aload_n 0, 1) := by decide +kernel
theorem dX13_fits_41 : decode cX13_fits 41 = .ok (.aload_n 1, 1) := by decide +kernel
theorem dX13_fits_42 : decode cX13_fits 42 = .ok (.iload_n 2, 1) := by decide +kernel
theorem dX13_fits_43 : decode cX13_fits 43 = .ok (.iload_n 3, 1) := by decide +kernel
theorem dX13_fits_44 : decode cX13_fits 44 = .ok (.iload 4, 2) := by decide +kernel
theorem dX13_fits_46 : decode cX13_fits 46 = .ok (.invokevirtual 303, 3) := by decide +kernel
theorem dX13_fits_49 : decode cX13_fits 49 = .ok (.iconst (-1), 1) := by decide +kernel
theorem dX13_fits_50 : decode cX13_fits 50 = .ok (.if_icmp .ne 7, 3) := by decide +kernel
theorem dX13_fits_53 : decode cX13_fits 53 = .ok (.iconst 1, 1) := by decide +kernel
theorem dX13_fits_54 : decode cX13_fits 54 = .ok (.goto 4, 3) := by decide +kernel
theorem dX13_fits_57 : decode cX13_fits 57 = .ok (.iconst 0, 1) := by decide +kernel
theorem dX13_fits_58 : decode cX13_fits 58 = .ok (.ireturn, 1) := by decide +kernel
theorem dX13_ways_0 : decode cX13_ways 0 = .ok (.iconst 0, 1) := by decide +kernel
theorem dX13_ways_1 : decode cX13_ways 1 = .ok (.istore_n 3, 1) := by decide +kernel
theorem dX13_ways_2 : decode cX13_ways 2 = .ok (.iconst 0, 1) := by decide +kernel
theorem dX13_ways_3 : decode cX13_ways 3 = .ok (.istore 4, 2) := by decide +kernel
theorem dX13_ways_5 : decode cX13_ways 5 = .ok (.iload 4, 2) := by decide +kernel
theorem dX13_ways_7 : decode cX13_ways 7 = .ok (.aload_n 0, 1) := by decide +kernel
theorem dX13_ways_8 : decode cX13_ways 8 = .ok (.invokevirtual 307, 3) := by decide +kernel
theorem dX13_ways_11 : decode cX13_ways 11 = .ok (.if_icmp .ge 46, 3) := by decide +kernel
theorem dX13_ways_14 : decode cX13_ways 14 = .ok (.iconst 0, 1) := by decide +kernel
theorem dX13_ways_15 : decode cX13_ways 15 = .ok (.istore 5, 2) := by decide +kernel
theorem dX13_ways_17 : decode cX13_ways 17 = .ok (.iload 5, 2) := by decide +kernel
theorem dX13_ways_19 : decode cX13_ways 19 = .ok (.bipush 6, 2) := by decide +kernel
theorem dX13_ways_21 : decode cX13_ways 21 = .ok (.if_icmp .ge 30, 3) := by decide +kernel
theorem dX13_ways_24 : decode cX13_ways 24 = .ok (.iload_n 3, 1) := by decide +kernel
theorem dX13_ways_25 : decode cX13_ways 25 = .ok (.aload_n 0, 1) := by decide +kernel
theorem dX13_ways_26 : decode cX13_ways 26 = .ok (.aload_n 1, 1) := by decide +kernel
theorem dX13_ways_27 : decode cX13_ways 27 = .ok (.iload_n 2, 1) := by decide +kernel
theorem dX13_ways_28 : decode cX13_ways 28 = .ok (.iload 4, 2) := by decide +kernel
theorem dX13_ways_30 : decode cX13_ways 30 = .ok (.iload 5, 2) := by decide +kernel
theorem dX13_ways_32 : decode cX13_ways 32 = .ok (.invokevirtual 310, 3) := by decide +kernel
theorem dX13_ways_35 : decode cX13_ways 35 = .ok (.ifCond .eq 7, 3) := by decide +kernel
theorem dX13_ways_38 : decode cX13_ways 38 = .ok (.iconst 1, 1) := by decide +kernel
theorem dX13_ways_39 : decode cX13_ways 39 = .ok (.goto 4, 3) := by decide +kernel
theorem dX13_ways_42 : decode cX13_ways 42 = .ok (.iconst 0, 1) := by decide +kernel
theorem dX13_ways_43 : decode cX13_ways 43 = .ok (.iadd, 1) := by decide +kernel
theorem dX13_ways_44 : decode cX13_ways 44 = .ok (.istore_n 3, 1) := by decide +kernel
theorem dX13_ways_45 : decode cX13_ways 45 = .ok (.iinc 5 1, 3) := by decide +kernel
theorem dX13_ways_48 : decode cX13_ways 48 = .ok (.goto (-31), 3) := by decide +kernel
theorem dX13_ways_51 : decode cX13_ways 51 = .ok (.iinc 4 1, 3) := by decide +kernel
theorem dX13_ways_54 : decode cX13_ways 54 = .ok (.goto (-49), 3) := by decide +kernel
theorem dX13_ways_57 : decode cX13_ways 57 = .ok (.iload_n 3, 1) := by decide +kernel
theorem dX13_ways_58 : decode cX13_ways 58 = .ok (.ireturn, 1) := by decide +kernel
theorem dX13_firstWay_0 : decode cX13_firstWay 0 = .ok (.iconst 0, 1) := by decide +kernel
theorem dX13_firstWay_1 : decode cX13_firstWay 1 = .ok (.istore_n 3, 1) := by decide +kernel
theorem dX13_firstWay_2 : decode cX13_firstWay 2 = .ok (.iload_n 3, 1) := by decide +kernel
theorem dX13_firstWay_3 : decode cX13_firstWay 3 = .ok (.aload_n 0, 1) := by decide +kernel
theorem dX13_firstWay_4 : decode cX13_firstWay 4 = .ok (.invokevirtual 307, 3) := by decide +kernel
theorem dX13_firstWay_7 : decode cX13_firstWay 7 = .ok (.if_icmp .ge 45, 3) := by decide +kernel
theorem dX13_firstWay_10 : decode cX13_firstWay 10 = .ok (.iconst 0, 1) := by decide +kernel
theorem dX13_firstWay_11 : decode cX13_firstWay 11 = .ok (.istore 4, 2) := by decide +kernel
theorem dX13_firstWay_13 : decode cX13_firstWay 13 = .ok (.iload 4, 2) := by decide +kernel
theorem dX13_firstWay_15 : decode cX13_firstWay 15 = .ok (.bipush 6, 2) := by decide +kernel
theorem dX13_firstWay_17 : decode cX13_firstWay 17 = .ok (.if_icmp .ge 29, 3) := by decide +kernel
theorem dX13_firstWay_20 : decode cX13_firstWay 20 = .ok (.aload_n 0, 1) := by decide +kernel
theorem dX13_firstWay_21 : decode cX13_firstWay 21 = .ok (.aload_n 1, 1) := by decide +kernel
theorem dX13_firstWay_22 : decode cX13_firstWay 22 = .ok (.iload_n 2, 1) := by decide +kernel
theorem dX13_firstWay_23 : decode cX13_firstWay 23 = .ok (.iload_n 3, 1) := by decide +kernel
theorem dX13_firstWay_24 : decode cX13_firstWay 24 = .ok (.iload 4, 2) := by decide +kernel
theorem dX13_firstWay_26 : decode cX13_firstWay 26 = .ok (.invokevirtual 310, 3) := by decide +kernel
theorem dX13_firstWay_29 : decode cX13_firstWay 29 = .ok (.ifCond .eq 11, 3) := by decide +kernel
theorem dX13_firstWay_32 : decode cX13_firstWay 32 = .ok (.bipush 6, 2) := by decide +kernel
theorem dX13_firstWay_34 : decode cX13_firstWay 34 = .ok (.iload_n 3, 1) := by decide +kernel
theorem dX13_firstWay_35 : decode cX13_firstWay 35 = .ok (.imul, 1) := by decide +kernel
theorem dX13_firstWay_36 : decode cX13_firstWay 36 = .ok (.iload 4, 2) := by decide +kernel
theorem dX13_firstWay_38 : decode cX13_firstWay 38 = .ok (.iadd, 1) := by decide +kernel
theorem dX13_firstWay_39 : decode cX13_firstWay 39 = .ok (.ireturn, 1) := by decide +kernel
theorem dX13_firstWay_40 : decode cX13_firstWay 40 = .ok (.iinc 4 1, 3) := by decide +kernel
theorem dX13_firstWay_43 : decode cX13_firstWay 43 = .ok (.goto (-30), 3) := by decide +kernel
theorem dX13_firstWay_46 : decode cX13_firstWay 46 = .ok (.iinc 3 1, 3) := by decide +kernel
theorem dX13_firstWay_49 : decode cX13_firstWay 49 = .ok (.goto (-47), 3) := by decide +kernel
theorem dX13_firstWay_52 : decode cX13_firstWay 52 = .ok (.iconst (-1), 1) := by decide +kernel
theorem dX13_firstWay_53 : decode cX13_firstWay 53 = .ok (.ireturn, 1) := by decide +kernel
theorem dX13_ring_0 : decode cX13_ring 0 = .ok (.aload_n 0, 1) := by decide +kernel
theorem dX13_ring_1 : decode cX13_ring 1 = .ok (.aload_n 1, 1) := by decide +kernel
theorem dX13_ring_2 : decode cX13_ring 2 = .ok (.iload_n 2, 1) := by decide +kernel
theorem dX13_ring_3 : decode cX13_ring 3 = .ok (.invokevirtual 299, 3) := by decide +kernel
theorem dX13_ring_6 : decode cX13_ring 6 = .ok (.bipush 6, 2) := by decide +kernel
theorem dX13_ring_8 : decode cX13_ring 8 = .ok (.if_icmp .ne 7, 3) := by decide +kernel
theorem dX13_ring_11 : decode cX13_ring 11 = .ok (.iconst 1, 1) := by decide +kernel
theorem dX13_ring_12 : decode cX13_ring 12 = .ok (.goto 4, 3) := by decide +kernel
theorem dX13_ring_15 : decode cX13_ring 15 = .ok (.iconst 0, 1) := by decide +kernel
theorem dX13_ring_16 : decode cX13_ring 16 = .ok (.ireturn, 1) := by decide +kernel
theorem dX13_rings_0 : decode cX13_rings 0 = .ok (.iconst 0, 1) := by decide +kernel
theorem dX13_rings_1 : decode cX13_rings 1 = .ok (.istore_n 2, 1) := by decide +kernel
theorem dX13_rings_2 : decode cX13_rings 2 = .ok (.iconst 0, 1) := by decide +kernel
theorem dX13_rings_3 : decode cX13_rings 3 = .ok (.istore_n 3, 1) := by decide +kernel
theorem dX13_rings_4 : decode cX13_rings 4 = .ok (.iload_n 3, 1) := by decide +kernel
theorem dX13_rings_5 : decode cX13_rings 5 = .ok (.aload_n 0, 1) := by decide +kernel
theorem dX13_rings_6 : decode cX13_rings 6 = .ok (.invokevirtual 307, 3) := by decide +kernel
theorem dX13_rings_9 : decode cX13_rings 9 = .ok (.if_icmp .ge 26, 3) := by decide +kernel
theorem dX13_rings_12 : decode cX13_rings 12 = .ok (.iload_n 2, 1) := by decide +kernel
theorem dX13_rings_13 : decode cX13_rings 13 = .ok (.aload_n 0, 1) := by decide +kernel
theorem dX13_rings_14 : decode cX13_rings 14 = .ok (.aload_n 1, 1) := by decide +kernel
theorem dX13_rings_15 : decode cX13_rings 15 = .ok (.iload_n 3, 1) := by decide +kernel
theorem dX13_rings_16 : decode cX13_rings 16 = .ok (.invokevirtual 314, 3) := by decide +kernel
theorem dX13_rings_19 : decode cX13_rings 19 = .ok (.ifCond .eq 7, 3) := by decide +kernel
theorem dX13_rings_22 : decode cX13_rings 22 = .ok (.iconst 1, 1) := by decide +kernel
theorem dX13_rings_23 : decode cX13_rings 23 = .ok (.goto 4, 3) := by decide +kernel
theorem dX13_rings_26 : decode cX13_rings 26 = .ok (.iconst 0, 1) := by decide +kernel
theorem dX13_rings_27 : decode cX13_rings 27 = .ok (.iadd, 1) := by decide +kernel
theorem dX13_rings_28 : decode cX13_rings 28 = .ok (.istore_n 2, 1) := by decide +kernel
theorem dX13_rings_29 : decode cX13_rings 29 = .ok (.iinc 3 1, 3) := by decide +kernel
theorem dX13_rings_32 : decode cX13_rings 32 = .ok (.goto (-28), 3) := by decide +kernel
theorem dX13_rings_35 : decode cX13_rings 35 = .ok (.iload_n 2, 1) := by decide +kernel
theorem dX13_rings_36 : decode cX13_rings 36 = .ok (.ireturn, 1) := by decide +kernel
theorem dX13_matches_0 : decode cX13_matches 0 = .ok (.iconst 0, 1) := by decide +kernel
theorem dX13_matches_1 : decode cX13_matches 1 = .ok (.istore_n 2, 1) := by decide +kernel
theorem dX13_matches_2 : decode cX13_matches 2 = .ok (.iconst 0, 1) := by decide +kernel
theorem dX13_matches_3 : decode cX13_matches 3 = .ok (.istore_n 3, 1) := by decide +kernel
theorem dX13_matches_4 : decode cX13_matches 4 = .ok (.iload_n 3, 1) := by decide +kernel
theorem dX13_matches_5 : decode cX13_matches 5 = .ok (.aload_n 0, 1) := by decide +kernel
theorem dX13_matches_6 : decode cX13_matches 6 = .ok (.invokevirtual 307, 3) := by decide +kernel
theorem dX13_matches_9 : decode cX13_matches 9 = .ok (.if_icmp .ge 28, 3) := by decide +kernel
theorem dX13_matches_12 : decode cX13_matches 12 = .ok (.aload_n 1, 1) := by decide +kernel
theorem dX13_matches_13 : decode cX13_matches 13 = .ok (.getfield 280, 3) := by decide +kernel
theorem dX13_matches_16 : decode cX13_matches 16 = .ok (.iload_n 3, 1) := by decide +kernel
theorem dX13_matches_17 : decode cX13_matches 17 = .ok (.iaload, 1) := by decide +kernel
theorem dX13_matches_18 : decode cX13_matches 18 = .ok (.iconst (-1), 1) := by decide +kernel
theorem dX13_matches_19 : decode cX13_matches 19 = .ok (.if_icmp .eq 12, 3) := by decide +kernel
theorem dX13_matches_22 : decode cX13_matches 22 = .ok (.iload_n 2, 1) := by decide +kernel
theorem dX13_matches_23 : decode cX13_matches 23 = .ok (.aload_n 0, 1) := by decide +kernel
theorem dX13_matches_24 : decode cX13_matches 24 = .ok (.aload_n 1, 1) := by decide +kernel
theorem dX13_matches_25 : decode cX13_matches 25 = .ok (.iload_n 3, 1) := by decide +kernel
theorem dX13_matches_26 : decode cX13_matches 26 = .ok (.invokevirtual 299, 3) := by decide +kernel
theorem dX13_matches_29 : decode cX13_matches 29 = .ok (.iadd, 1) := by decide +kernel
theorem dX13_matches_30 : decode cX13_matches 30 = .ok (.istore_n 2, 1) := by decide +kernel
theorem dX13_matches_31 : decode cX13_matches 31 = .ok (.iinc 3 1, 3) := by decide +kernel
theorem dX13_matches_34 : decode cX13_matches 34 = .ok (.goto (-30), 3) := by decide +kernel
theorem dX13_matches_37 : decode cX13_matches 37 = .ok (.iload_n 2, 1) := by decide +kernel
theorem dX13_matches_38 : decode cX13_matches 38 = .ok (.iconst 2, 1) := by decide +kernel
theorem dX13_matches_39 : decode cX13_matches 39 = .ok (.idiv, 1) := by decide +kernel
theorem dX13_matches_40 : decode cX13_matches 40 = .ok (.ireturn, 1) := by decide +kernel
theorem dX13_matched_0 : decode cX13_matched 0 = .ok (.iconst 0, 1) := by decide +kernel
theorem dX13_matched_1 : decode cX13_matched 1 = .ok (.istore_n 2, 1) := by decide +kernel
theorem dX13_matched_2 : decode cX13_matched 2 = .ok (.iconst 0, 1) := by decide +kernel
theorem dX13_matched_3 : decode cX13_matched 3 = .ok (.istore_n 3, 1) := by decide +kernel
theorem dX13_matched_4 : decode cX13_matched 4 = .ok (.iload_n 3, 1) := by decide +kernel
theorem dX13_matched_5 : decode cX13_matched 5 = .ok (.aload_n 0, 1) := by decide +kernel
theorem dX13_matched_6 : decode cX13_matched 6 = .ok (.invokevirtual 307, 3) := by decide +kernel
theorem dX13_matched_9 : decode cX13_matched 9 = .ok (.if_icmp .ge 64, 3) := by decide +kernel
theorem dX13_matched_12 : decode cX13_matched 12 = .ok (.aload_n 1, 1) := by decide +kernel
theorem dX13_matched_13 : decode cX13_matched 13 = .ok (.getfield 280, 3) := by decide +kernel
theorem dX13_matched_16 : decode cX13_matched 16 = .ok (.iload_n 3, 1) := by decide +kernel
theorem dX13_matched_17 : decode cX13_matched 17 = .ok (.iaload, 1) := by decide +kernel
theorem dX13_matched_18 : decode cX13_matched 18 = .ok (.iconst (-1), 1) := by decide +kernel
theorem dX13_matched_19 : decode cX13_matched 19 = .ok (.if_icmp .ne 6, 3) := by decide +kernel
theorem dX13_matched_22 : decode cX13_matched 22 = .ok (.goto 45, 3) := by decide +kernel
theorem dX13_matched_25 : decode cX13_matched 25 = .ok (.iconst 0, 1) := by decide +kernel
theorem dX13_matched_26 : decode cX13_matched 26 = .ok (.istore 4, 2) := by decide +kernel
theorem dX13_matched_28 : decode cX13_matched 28 = .ok (.iload 4, 2) := by decide +kernel
theorem dX13_matched_30 : decode cX13_matched 30 = .ok (.iconst 3, 1) := by decide +kernel
theorem dX13_matched_31 : decode cX13_matched 31 = .ok (.if_icmp .ge 36, 3) := by decide +kernel
theorem dX13_matched_34 : decode cX13_matched 34 = .ok (.iload_n 2, 1) := by decide +kernel
theorem dX13_matched_35 : decode cX13_matched 35 = .ok (.aload_n 0, 1) := by decide +kernel
theorem dX13_matched_36 : decode cX13_matched 36 = .ok (.aload_n 1, 1) := by decide +kernel
theorem dX13_matched_37 : decode cX13_matched 37 = .ok (.iload_n 3, 1) := by decide +kernel
theorem dX13_matched_38 : decode cX13_matched 38 = .ok (.iload 4, 2) := by decide +kernel
theorem dX13_matched_40 : decode cX13_matched 40 = .ok (.invokevirtual 289, 3) := by decide +kernel
theorem dX13_matched_43 : decode cX13_matched 43 = .ok (.iconst (-1), 1) := by decide +kernel
theorem dX13_matched_44 : decode cX13_matched 44 = .ok (.if_icmp .ne 7, 3) := by decide +kernel
theorem dX13_matched_47 : decode cX13_matched 47 = .ok (.iconst 0, 1) := by decide +kernel
theorem dX13_matched_48 : decode cX13_matched 48 = .ok (.goto 11, 3) := by decide +kernel
theorem dX13_matched_51 : decode cX13_matched 51 = .ok (.aload_n 0, 1) := by decide +kernel
theorem dX13_matched_52 : decode cX13_matched 52 = .ok (.aload_n 1, 1) := by decide +kernel
theorem dX13_matched_53 : decode cX13_matched 53 = .ok (.iload_n 3, 1) := by decide +kernel
theorem dX13_matched_54 : decode cX13_matched 54 = .ok (.iload 4, 2) := by decide +kernel
theorem dX13_matched_56 : decode cX13_matched 56 = .ok (.invokevirtual 318, 3) := by decide +kernel
theorem dX13_matched_59 : decode cX13_matched 59 = .ok (.iadd, 1) := by decide +kernel
theorem dX13_matched_60 : decode cX13_matched 60 = .ok (.istore_n 2, 1) := by decide +kernel
theorem dX13_matched_61 : decode cX13_matched 61 = .ok (.iinc 4 1, 3) := by decide +kernel
theorem dX13_matched_64 : decode cX13_matched 64 = .ok (.goto (-36), 3) := by decide +kernel
theorem dX13_matched_67 : decode cX13_matched 67 = .ok (.iinc 3 1, 3) := by decide +kernel
theorem dX13_matched_70 : decode cX13_matched 70 = .ok (.goto (-66), 3) := by decide +kernel
theorem dX13_matched_73 : decode cX13_matched 73 = .ok (.iload_n 2, 1) := by decide +kernel
theorem dX13_matched_74 : decode cX13_matched 74 = .ok (.ireturn, 1) := by decide +kernel
theorem dX13_points_0 : decode cX13_points 0 = .ok (.aload_n 0, 1) := by decide +kernel
theorem dX13_points_1 : decode cX13_points 1 = .ok (.aload_n 1, 1) := by decide +kernel
theorem dX13_points_2 : decode cX13_points 2 = .ok (.invokevirtual 321, 3) := by decide +kernel
theorem dX13_points_5 : decode cX13_points 5 = .ok (.bipush 10, 2) := by decide +kernel
theorem dX13_points_7 : decode cX13_points 7 = .ok (.aload_n 0, 1) := by decide +kernel
theorem dX13_points_8 : decode cX13_points 8 = .ok (.aload_n 1, 1) := by decide +kernel
theorem dX13_points_9 : decode cX13_points 9 = .ok (.invokevirtual 325, 3) := by decide +kernel
theorem dX13_points_12 : decode cX13_points 12 = .ok (.imul, 1) := by decide +kernel
theorem dX13_points_13 : decode cX13_points 13 = .ok (.iadd, 1) := by decide +kernel
theorem dX13_points_14 : decode cX13_points 14 = .ok (.ireturn, 1) := by decide +kernel
theorem dX13_gain_0 : decode cX13_gain 0 = .ok (.aload_n 1, 1) := by decide +kernel
theorem dX13_gain_1 : decode cX13_gain 1 = .ok (.getfield 296, 3) := by decide +kernel
theorem dX13_gain_4 : decode cX13_gain 4 = .ok (.ifCond .ne 5, 3) := by decide +kernel
theorem dX13_gain_7 : decode cX13_gain 7 = .ok (.iconst 0, 1) := by decide +kernel
theorem dX13_gain_8 : decode cX13_gain 8 = .ok (.ireturn, 1) := by decide +kernel
theorem dX13_gain_9 : decode cX13_gain 9 = .ok (.iconst 0, 1) := by decide +kernel
theorem dX13_gain_10 : decode cX13_gain 10 = .ok (.istore 5, 2) := by decide +kernel
theorem dX13_gain_12 : decode cX13_gain 12 = .ok (.iconst 0, 1) := by decide +kernel
theorem dX13_gain_13 : decode cX13_gain 13 = .ok (.istore 6, 2) := by decide +kernel
theorem dX13_gain_15 : decode cX13_gain 15 = .ok (.iload 6, 2) := by decide +kernel
theorem dX13_gain_17 : decode cX13_gain 17 = .ok (.bipush 6, 2) := by decide +kernel
theorem dX13_gain_19 : decode cX13_gain 19 = .ok (.if_icmp .ge 97, 3) := by decide +kernel
theorem dX13_gain_22 : decode cX13_gain 22 = .ok (.aload_n 0, 1) := by decide +kernel
theorem dX13_gain_23 : decode cX13_gain 23 = .ok (.iload_n 3, 1) := by decide +kernel
theorem dX13_gain_24 : decode cX13_gain 24 = .ok (.iload 6, 2) := by decide +kernel
theorem dX13_gain_26 : decode cX13_gain 26 = .ok (.invokevirtual 277, 3) := by decide +kernel
theorem dX13_gain_29 : decode cX13_gain 29 = .ok (.istore 7, 2) := by decide +kernel
theorem dX13_gain_31 : decode cX13_gain 31 = .ok (.iload 7, 2) := by decide +kernel
theorem dX13_gain_33 : decode cX13_gain 33 = .ok (.iconst (-1), 1) := by decide +kernel
theorem dX13_gain_34 : decode cX13_gain 34 = .ok (.if_icmp .ne 6, 3) := by decide +kernel
theorem dX13_gain_37 : decode cX13_gain 37 = .ok (.goto 73, 3) := by decide +kernel
theorem dX13_gain_40 : decode cX13_gain 40 = .ok (.iload 5, 2) := by decide +kernel
theorem dX13_gain_42 : decode cX13_gain 42 = .ok (.aload_n 1, 1) := by decide +kernel
theorem dX13_gain_43 : decode cX13_gain 43 = .ok (.getfield 280, 3) := by decide +kernel
theorem dX13_gain_46 : decode cX13_gain 46 = .ok (.iload 7, 2) := by decide +kernel
theorem dX13_gain_48 : decode cX13_gain 48 = .ok (.iaload, 1) := by decide +kernel
theorem dX13_gain_49 : decode cX13_gain 49 = .ok (.iconst (-1), 1) := by decide +kernel
theorem dX13_gain_50 : decode cX13_gain 50 = .ok (.if_icmp .ne 7, 3) := by decide +kernel
theorem dX13_gain_53 : decode cX13_gain 53 = .ok (.iconst 0, 1) := by decide +kernel
theorem dX13_gain_54 : decode cX13_gain 54 = .ok (.goto 12, 3) := by decide +kernel
theorem dX13_gain_57 : decode cX13_gain 57 = .ok (.aload_n 0, 1) := by decide +kernel
theorem dX13_gain_58 : decode cX13_gain 58 = .ok (.iload_n 2, 1) := by decide +kernel
theorem dX13_gain_59 : decode cX13_gain 59 = .ok (.iload 4, 2) := by decide +kernel
theorem dX13_gain_61 : decode cX13_gain 61 = .ok (.iload 6, 2) := by decide +kernel
theorem dX13_gain_63 : decode cX13_gain 63 = .ok (.invokevirtual 286, 3) := by decide +kernel
theorem dX13_gain_66 : decode cX13_gain 66 = .ok (.iadd, 1) := by decide +kernel
theorem dX13_gain_67 : decode cX13_gain 67 = .ok (.istore 5, 2) := by decide +kernel
theorem dX13_gain_69 : decode cX13_gain 69 = .ok (.iload 5, 2) := by decide +kernel
theorem dX13_gain_71 : decode cX13_gain 71 = .ok (.aload_n 0, 1) := by decide +kernel
theorem dX13_gain_72 : decode cX13_gain 72 = .ok (.aload_n 1, 1) := by decide +kernel
theorem dX13_gain_73 : decode cX13_gain 73 = .ok (.iload 7, 2) := by decide +kernel
theorem dX13_gain_75 : decode cX13_gain 75 = .ok (.invokevirtual 299, 3) := by decide +kernel
theorem dX13_gain_78 : decode cX13_gain 78 = .ok (.iconst 5, 1) := by decide +kernel
theorem dX13_gain_79 : decode cX13_gain 79 = .ok (.if_icmp .ne 27, 3) := by decide +kernel
theorem dX13_gain_82 : decode cX13_gain 82 = .ok (.aload_n 1, 1) := by decide +kernel
theorem dX13_gain_83 : decode cX13_gain 83 = .ok (.getfield 280, 3) := by decide +kernel
theorem dX13_gain_86 : decode cX13_gain 86 = .ok (.iload_n 3, 1) := by decide +kernel
theorem dX13_gain_87 : decode cX13_gain 87 = .ok (.iaload, 1) := by decide +kernel
theorem dX13_gain_88 : decode cX13_gain 88 = .ok (.iconst (-1), 1) := by decide +kernel
theorem dX13_gain_89 : decode cX13_gain 89 = .ok (.if_icmp .ne 17, 3) := by decide +kernel
theorem dX13_gain_92 : decode cX13_gain 92 = .ok (.aload_n 0, 1) := by decide +kernel
theorem dX13_gain_93 : decode cX13_gain 93 = .ok (.iload 7, 2) := by decide +kernel
theorem dX13_gain_95 : decode cX13_gain 95 = .ok (.invokevirtual 328, 3) := by decide +kernel
theorem dX13_gain_98 : decode cX13_gain 98 = .ok (.ifCond .eq 8, 3) := by decide +kernel
theorem dX13_gain_101 : decode cX13_gain 101 = .ok (.bipush 10, 2) := by decide +kernel
theorem dX13_gain_103 : decode cX13_gain 103 = .ok (.goto 4, 3) := by decide +kernel
theorem dX13_gain_106 : decode cX13_gain 106 = .ok (.iconst 0, 1) := by decide +kernel
theorem dX13_gain_107 : decode cX13_gain 107 = .ok (.iadd, 1) := by decide +kernel
theorem dX13_gain_108 : decode cX13_gain 108 = .ok (.istore 5, 2) := by decide +kernel
theorem dX13_gain_110 : decode cX13_gain 110 = .ok (.iinc 6 1, 3) := by decide +kernel
theorem dX13_gain_113 : decode cX13_gain 113 = .ok (.goto (-98), 3) := by decide +kernel
theorem dX13_gain_116 : decode cX13_gain 116 = .ok (.iload 5, 2) := by decide +kernel
theorem dX13_gain_118 : decode cX13_gain 118 = .ok (.ireturn, 1) := by decide +kernel
theorem dX13_isInside_0 : decode cX13_isInside 0 = .ok (.iconst 0, 1) := by decide +kernel
theorem dX13_isInside_1 : decode cX13_isInside 1 = .ok (.istore_n 2, 1) := by decide +kernel
theorem dX13_isInside_2 : decode cX13_isInside 2 = .ok (.iload_n 2, 1) := by decide +kernel
theorem dX13_isInside_3 : decode cX13_isInside 3 = .ok (.bipush 6, 2) := by decide +kernel
theorem dX13_isInside_5 : decode cX13_isInside 5 = .ok (.if_icmp .ge 21, 3) := by decide +kernel
theorem dX13_isInside_8 : decode cX13_isInside 8 = .ok (.aload_n 0, 1) := by decide +kernel
theorem dX13_isInside_9 : decode cX13_isInside 9 = .ok (.iload_n 1, 1) := by decide +kernel
theorem dX13_isInside_10 : decode cX13_isInside 10 = .ok (.iload_n 2, 1) := by decide +kernel
theorem dX13_isInside_11 : decode cX13_isInside 11 = .ok (.invokevirtual 277, 3) := by decide +kernel
theorem dX13_isInside_14 : decode cX13_isInside 14 = .ok (.iconst (-1), 1) := by decide +kernel
theorem dX13_isInside_15 : decode cX13_isInside 15 = .ok (.if_icmp .ne 5, 3) := by decide +kernel
theorem dX13_isInside_18 : decode cX13_isInside 18 = .ok (.iconst 0, 1) := by decide +kernel
theorem dX13_isInside_19 : decode cX13_isInside 19 = .ok (.ireturn, 1) := by decide +kernel
theorem dX13_isInside_20 : decode cX13_isInside 20 = .ok (.iinc 2 1, 3) := by decide +kernel
theorem dX13_isInside_23 : decode cX13_isInside 23 = .ok (.goto (-21), 3) := by decide +kernel
theorem dX13_isInside_26 : decode cX13_isInside 26 = .ok (.iconst 1, 1) := by decide +kernel
theorem dX13_isInside_27 : decode cX13_isInside 27 = .ok (.ireturn, 1) := by decide +kernel
theorem dX13_hasBest_0 : decode cX13_hasBest 0 = .ok (.aload_n 0, 1) := by decide +kernel
theorem dX13_hasBest_1 : decode cX13_hasBest 1 = .ok (.iconst (-1), 1) := by decide +kernel
theorem dX13_hasBest_2 : decode cX13_hasBest 2 = .ok (.putfield 331, 3) := by decide +kernel
theorem dX13_hasBest_5 : decode cX13_hasBest 5 = .ok (.iconst 0, 1) := by decide +kernel
theorem dX13_hasBest_6 : decode cX13_hasBest 6 = .ok (.istore_n 3, 1) := by decide +kernel
theorem dX13_hasBest_7 : decode cX13_hasBest 7 = .ok (.iload_n 3, 1) := by decide +kernel
theorem dX13_hasBest_8 : decode cX13_hasBest 8 = .ok (.aload_n 0, 1) := by decide +kernel
theorem dX13_hasBest_9 : decode cX13_hasBest 9 = .ok (.invokevirtual 307, 3) := by decide +kernel
theorem dX13_hasBest_12 : decode cX13_hasBest 12 = .ok (.if_icmp .ge 80, 3) := by decide +kernel
theorem dX13_hasBest_15 : decode cX13_hasBest 15 = .ok (.iconst 0, 1) := by decide +kernel
theorem dX13_hasBest_16 : decode cX13_hasBest 16 = .ok (.istore 4, 2) := by decide +kernel
theorem dX13_hasBest_18 : decode cX13_hasBest 18 = .ok (.iload 4, 2) := by decide +kernel
theorem dX13_hasBest_20 : decode cX13_hasBest 20 = .ok (.bipush 6, 2) := by decide +kernel
theorem dX13_hasBest_22 : decode cX13_hasBest 22 = .ok (.if_icmp .ge 64, 3) := by decide +kernel
theorem dX13_hasBest_25 : decode cX13_hasBest 25 = .ok (.aload_n 0, 1) := by decide +kernel
theorem dX13_hasBest_26 : decode cX13_hasBest 26 = .ok (.aload_n 1, 1) := by decide +kernel
theorem dX13_hasBest_27 : decode cX13_hasBest 27 = .ok (.iload_n 2, 1) := by decide +kernel
theorem dX13_hasBest_28 : decode cX13_hasBest 28 = .ok (.iload_n 3, 1) := by decide +kernel
theorem dX13_hasBest_29 : decode cX13_hasBest 29 = .ok (.iload 4, 2) := by decide +kernel
theorem dX13_hasBest_31 : decode cX13_hasBest 31 = .ok (.invokevirtual 310, 3) := by decide +kernel
theorem dX13_hasBest_34 : decode cX13_hasBest 34 = .ok (.ifCond .ne 6, 3) := by decide +kernel
theorem dX13_hasBest_37 : decode cX13_hasBest 37 = .ok (.goto 43, 3) := by decide +kernel
theorem dX13_hasBest_40 : decode cX13_hasBest 40 = .ok (.aload_n 0, 1) := by decide +kernel
theorem dX13_hasBest_41 : decode cX13_hasBest 41 = .ok (.aload_n 1, 1) := by decide +kernel
theorem dX13_hasBest_42 : decode cX13_hasBest 42 = .ok (.iload_n 2, 1) := by decide +kernel
theorem dX13_hasBest_43 : decode cX13_hasBest 43 = .ok (.iload_n 3, 1) := by decide +kernel
theorem dX13_hasBest_44 : decode cX13_hasBest 44 = .ok (.iload 4, 2) := by decide +kernel
theorem dX13_hasBest_46 : decode cX13_hasBest 46 = .ok (.invokevirtual 334, 3) := by decide +kernel
theorem dX13_hasBest_49 : decode cX13_hasBest 49 = .ok (.istore 5, 2) := by decide +kernel
theorem dX13_hasBest_51 : decode cX13_hasBest 51 = .ok (.iload 5, 2) := by decide +kernel
theorem dX13_hasBest_53 : decode cX13_hasBest 53 = .ok (.aload_n 0, 1) := by decide +kernel
theorem dX13_hasBest_54 : decode cX13_hasBest 54 = .ok (.getfield 331, 3) := by decide +kernel
theorem dX13_hasBest_57 : decode cX13_hasBest 57 = .ok (.if_icmp .gt 6, 3) := by decide +kernel
theorem dX13_hasBest_60 : decode cX13_hasBest 60 = .ok (.goto 20, 3) := by decide +kernel
theorem dX13_hasBest_63 : decode cX13_hasBest 63 = .ok (.aload_n 0, 1) := by decide +kernel
theorem dX13_hasBest_64 : decode cX13_hasBest 64 = .ok (.iload 5, 2) := by decide +kernel
theorem dX13_hasBest_66 : decode cX13_hasBest 66 = .ok (.putfield 331, 3) := by decide +kernel
theorem dX13_hasBest_69 : decode cX13_hasBest 69 = .ok (.aload_n 0, 1) := by decide +kernel
theorem dX13_hasBest_70 : decode cX13_hasBest 70 = .ok (.iload_n 3, 1) := by decide +kernel
theorem dX13_hasBest_71 : decode cX13_hasBest 71 = .ok (.putfield 337, 3) := by decide +kernel
theorem dX13_hasBest_74 : decode cX13_hasBest 74 = .ok (.aload_n 0, 1) := by decide +kernel
theorem dX13_hasBest_75 : decode cX13_hasBest 75 = .ok (.iload 4, 2) := by decide +kernel
theorem dX13_hasBest_77 : decode cX13_hasBest 77 = .ok (.putfield 340, 3) := by decide +kernel
theorem dX13_hasBest_80 : decode cX13_hasBest 80 = .ok (.iinc 4 1, 3) := by decide +kernel
theorem dX13_hasBest_83 : decode cX13_hasBest 83 = .ok (.goto (-65), 3) := by decide +kernel
theorem dX13_hasBest_86 : decode cX13_hasBest 86 = .ok (.iinc 3 1, 3) := by decide +kernel
theorem dX13_hasBest_89 : decode cX13_hasBest 89 = .ok (.goto (-82), 3) := by decide +kernel
theorem dX13_hasBest_92 : decode cX13_hasBest 92 = .ok (.aload_n 0, 1) := by decide +kernel
theorem dX13_hasBest_93 : decode cX13_hasBest 93 = .ok (.getfield 331, 3) := by decide +kernel
theorem dX13_hasBest_96 : decode cX13_hasBest 96 = .ok (.iconst (-1), 1) := by decide +kernel
theorem dX13_hasBest_97 : decode cX13_hasBest 97 = .ok (.if_icmp .eq 7, 3) := by decide +kernel
theorem dX13_hasBest_100 : decode cX13_hasBest 100 = .ok (.iconst 1, 1) := by decide +kernel
theorem dX13_hasBest_101 : decode cX13_hasBest 101 = .ok (.goto 4, 3) := by decide +kernel
theorem dX13_hasBest_104 : decode cX13_hasBest 104 = .ok (.iconst 0, 1) := by decide +kernel
theorem dX13_hasBest_105 : decode cX13_hasBest 105 = .ok (.ireturn, 1) := by decide +kernel
theorem dX13_reckon_0 : decode cX13_reckon 0 = .ok (.iload_n 2, 1) := by decide +kernel
theorem dX13_reckon_1 : decode cX13_reckon 1 = .ok (.lookupswitch 203 #[(9, 109), (10, 114), (11, 119), (12, 125), (13, 131), (14, 137), (15, 147), (17, 154), (18, 170), (19, 194), (31, 107), (60, 186)], 107) := by decide +kernel
theorem dX13_reckon_108 : decode cX13_reckon 108 = .ok (.iload_n 3, 1) := by decide +kernel
theorem dX13_reckon_109 : decode cX13_reckon 109 = .ok (.ireturn, 1) := by decide +kernel
theorem dX13_reckon_110 : decode cX13_reckon 110 = .ok (.aload_n 1, 1) := by decide +kernel
theorem dX13_reckon_111 : decode cX13_reckon 111 = .ok (.getfield 343, 3) := by decide +kernel
theorem dX13_reckon_114 : decode cX13_reckon 114 = .ok (.ireturn, 1) := by decide +kernel
theorem dX13_reckon_115 : decode cX13_reckon 115 = .ok (.aload_n 1, 1) := by decide +kernel
theorem dX13_reckon_116 : decode cX13_reckon 116 = .ok (.getfield 296, 3) := by decide +kernel
theorem dX13_reckon_119 : decode cX13_reckon 119 = .ok (.ireturn, 1) := by decide +kernel
theorem dX13_reckon_120 : decode cX13_reckon 120 = .ok (.aload_n 0, 1) := by decide +kernel
theorem dX13_reckon_121 : decode cX13_reckon 121 = .ok (.aload_n 1, 1) := by decide +kernel
theorem dX13_reckon_122 : decode cX13_reckon 122 = .ok (.invokevirtual 346, 3) := by decide +kernel
theorem dX13_reckon_125 : decode cX13_reckon 125 = .ok (.ireturn, 1) := by decide +kernel
theorem dX13_reckon_126 : decode cX13_reckon 126 = .ok (.aload_n 0, 1) := by decide +kernel
theorem dX13_reckon_127 : decode cX13_reckon 127 = .ok (.aload_n 1, 1) := by decide +kernel
theorem dX13_reckon_128 : decode cX13_reckon 128 = .ok (.invokevirtual 349, 3) := by decide +kernel
theorem dX13_reckon_131 : decode cX13_reckon 131 = .ok (.ireturn, 1) := by decide +kernel
theorem dX13_reckon_132 : decode cX13_reckon 132 = .ok (.aload_n 0, 1) := by decide +kernel
theorem dX13_reckon_133 : decode cX13_reckon 133 = .ok (.aload_n 1, 1) := by decide +kernel
theorem dX13_reckon_134 : decode cX13_reckon 134 = .ok (.invokevirtual 325, 3) := by decide +kernel
theorem dX13_reckon_137 : decode cX13_reckon 137 = .ok (.ireturn, 1) := by decide +kernel
theorem dX13_reckon_138 : decode cX13_reckon 138 = .ok (.aload_n 0, 1) := by decide +kernel
theorem dX13_reckon_139 : decode cX13_reckon 139 = .ok (.invokevirtual 307, 3) := by decide +kernel
theorem dX13_reckon_142 : decode cX13_reckon 142 = .ok (.aload_n 1, 1) := by decide +kernel
theorem dX13_reckon_143 : decode cX13_reckon 143 = .ok (.getfield 296, 3) := by decide +kernel
theorem dX13_reckon_146 : decode cX13_reckon 146 = .ok (.isub, 1) := by decide +kernel
theorem dX13_reckon_147 : decode cX13_reckon 147 = .ok (.ireturn, 1) := by decide +kernel
theorem dX13_reckon_148 : decode cX13_reckon 148 = .ok (.aload_n 0, 1) := by decide +kernel
theorem dX13_reckon_149 : decode cX13_reckon 149 = .ok (.aload_n 1, 1) := by decide +kernel
theorem dX13_reckon_150 : decode cX13_reckon 150 = .ok (.iload_n 3, 1) := by decide +kernel
theorem dX13_reckon_151 : decode cX13_reckon 151 = .ok (.invokevirtual 352, 3) := by decide +kernel
theorem dX13_reckon_154 : decode cX13_reckon 154 = .ok (.ireturn, 1) := by decide +kernel
theorem dX13_reckon_155 : decode cX13_reckon 155 = .ok (.aload_n 1, 1) := by decide +kernel
theorem dX13_reckon_156 : decode cX13_reckon 156 = .ok (.getfield 293, 3) := by decide +kernel
theorem dX13_reckon_159 : decode cX13_reckon 159 = .ok (.iload_n 3, 1) := by decide +kernel
theorem dX13_reckon_160 : decode cX13_reckon 160 = .ok (.iaload, 1) := by decide +kernel
theorem dX13_reckon_161 : decode cX13_reckon 161 = .ok (.iconst (-1), 1) := by decide +kernel
theorem dX13_reckon_162 : decode cX13_reckon 162 = .ok (.if_icmp .eq 7, 3) := by decide +kernel
theorem dX13_reckon_165 : decode cX13_reckon 165 = .ok (.iconst 1, 1) := by decide +kernel
theorem dX13_reckon_166 : decode cX13_reckon 166 = .ok (.goto 4, 3) := by decide +kernel
theorem dX13_reckon_169 : decode cX13_reckon 169 = .ok (.iconst 0, 1) := by decide +kernel
theorem dX13_reckon_170 : decode cX13_reckon 170 = .ok (.ireturn, 1) := by decide +kernel
theorem dX13_reckon_171 : decode cX13_reckon 171 = .ok (.aload_n 0, 1) := by decide +kernel
theorem dX13_reckon_172 : decode cX13_reckon 172 = .ok (.aload_n 1, 1) := by decide +kernel
theorem dX13_reckon_173 : decode cX13_reckon 173 = .ok (.iload_n 3, 1) := by decide +kernel
theorem dX13_reckon_174 : decode cX13_reckon 174 = .ok (.invokevirtual 355, 3) := by decide +kernel
theorem dX13_reckon_177 : decode cX13_reckon 177 = .ok (.iconst (-1), 1) := by decide +kernel
theorem dX13_reckon_178 : decode cX13_reckon 178 = .ok (.if_icmp .eq 7, 3) := by decide +kernel
theorem dX13_reckon_181 : decode cX13_reckon 181 = .ok (.iconst 1, 1) := by decide +kernel
theorem dX13_reckon_182 : decode cX13_reckon 182 = .ok (.goto 4, 3) := by decide +kernel
theorem dX13_reckon_185 : decode cX13_reckon 185 = .ok (.iconst 0, 1) := by decide +kernel
theorem dX13_reckon_186 : decode cX13_reckon 186 = .ok (.ireturn, 1) := by decide +kernel
theorem dX13_reckon_187 : decode cX13_reckon 187 = .ok (.aload_n 0, 1) := by decide +kernel
theorem dX13_reckon_188 : decode cX13_reckon 188 = .ok (.getfield 42, 3) := by decide +kernel
theorem dX13_reckon_191 : decode cX13_reckon 191 = .ok (.iload_n 3, 1) := by decide +kernel
theorem dX13_reckon_192 : decode cX13_reckon 192 = .ok (.iaload, 1) := by decide +kernel
theorem dX13_reckon_193 : decode cX13_reckon 193 = .ok (.ineg, 1) := by decide +kernel
theorem dX13_reckon_194 : decode cX13_reckon 194 = .ok (.ireturn, 1) := by decide +kernel
theorem dX13_reckon_195 : decode cX13_reckon 195 = .ok (.iconst 1, 1) := by decide +kernel
theorem dX13_reckon_196 : decode cX13_reckon 196 = .ok (.aload_n 0, 1) := by decide +kernel
theorem dX13_reckon_197 : decode cX13_reckon 197 = .ok (.getfield 42, 3) := by decide +kernel
theorem dX13_reckon_200 : decode cX13_reckon 200 = .ok (.iload_n 3, 1) := by decide +kernel
theorem dX13_reckon_201 : decode cX13_reckon 201 = .ok (.iaload, 1) := by decide +kernel
theorem dX13_reckon_202 : decode cX13_reckon 202 = .ok (.isub, 1) := by decide +kernel
theorem dX13_reckon_203 : decode cX13_reckon 203 = .ok (.ireturn, 1) := by decide +kernel
theorem dX13_reckon_204 : decode cX13_reckon 204 = .ok (.iload_n 2, 1) := by decide +kernel
theorem dX13_reckon_205 : decode cX13_reckon 205 = .ok (.aload_n 0, 1) := by decide +kernel
theorem dX13_reckon_206 : decode cX13_reckon 206 = .ok (.getfield 42, 3) := by decide +kernel
theorem dX13_reckon_209 : decode cX13_reckon 209 = .ok (.iload_n 3, 1) := by decide +kernel
theorem dX13_reckon_210 : decode cX13_reckon 210 = .ok (.iaload, 1) := by decide +kernel
theorem dX13_reckon_211 : decode cX13_reckon 211 = .ok (.aload_n 0, 1) := by decide +kernel
theorem dX13_reckon_212 : decode cX13_reckon 212 = .ok (.getfield 42, 3) := by decide +kernel
theorem dX13_reckon_215 : decode cX13_reckon 215 = .ok (.iload 4, 2) := by decide +kernel
theorem dX13_reckon_217 : decode cX13_reckon 217 = .ok (.iaload, 1) := by decide +kernel
theorem dX13_reckon_218 : decode cX13_reckon 218 = .ok (.invokestatic 358, 3) := by decide +kernel
theorem dX13_reckon_221 : decode cX13_reckon 221 = .ok (.ireturn, 1) := by decide +kernel
theorem dX13_joined_0 : decode cX13_joined 0 = .ok (.iload_n 0, 1) := by decide +kernel
theorem dX13_joined_1 : decode cX13_joined 1 = .ok (.tableswitch 215 20 47 #[163, 167, 151, 157, 215, 215, 215, 215, 215, 215, 215, 215, 215, 215, 215, 215, 215, 215, 215, 215, 127, 131, 135, 139, 171, 182, 193, 204], 127) := by decide +kernel
theorem dX13_joined_128 : decode cX13_joined 128 = .ok (.iload_n 1, 1) := by decide +kernel
theorem dX13_joined_129 : decode cX13_joined 129 = .ok (.iload_n 2, 1) := by decide +kernel
theorem dX13_joined_130 : decode cX13_joined 130 = .ok (.iadd, 1) := by decide +kernel
theorem dX13_joined_131 : decode cX13_joined 131 = .ok (.ireturn, 1) := by decide +kernel
theorem dX13_joined_132 : decode cX13_joined 132 = .ok (.iload_n 1, 1) := by decide +kernel
theorem dX13_joined_133 : decode cX13_joined 133 = .ok (.iload_n 2, 1) := by decide +kernel
theorem dX13_joined_134 : decode cX13_joined 134 = .ok (.isub, 1) := by decide +kernel
theorem dX13_joined_135 : decode cX13_joined 135 = .ok (.ireturn, 1) := by decide +kernel
theorem dX13_joined_136 : decode cX13_joined 136 = .ok (.iload_n 1, 1) := by decide +kernel
theorem dX13_joined_137 : decode cX13_joined 137 = .ok (.iload_n 2, 1) := by decide +kernel
theorem dX13_joined_138 : decode cX13_joined 138 = .ok (.imul, 1) := by decide +kernel
theorem dX13_joined_139 : decode cX13_joined 139 = .ok (.ireturn, 1) := by decide +kernel
theorem dX13_joined_140 : decode cX13_joined 140 = .ok (.iload_n 2, 1) := by decide +kernel
theorem dX13_joined_141 : decode cX13_joined 141 = .ok (.ifCond .ne 7, 3) := by decide +kernel
theorem dX13_joined_144 : decode cX13_joined 144 = .ok (.iconst 0, 1) := by decide +kernel
theorem dX13_joined_145 : decode cX13_joined 145 = .ok (.goto 6, 3) := by decide +kernel
theorem dX13_joined_148 : decode cX13_joined 148 = .ok (.iload_n 1, 1) := by decide +kernel
theorem dX13_joined_149 : decode cX13_joined 149 = .ok (.iload_n 2, 1) := by decide +kernel
theorem dX13_joined_150 : decode cX13_joined 150 = .ok (.idiv, 1) := by decide +kernel
theorem dX13_joined_151 : decode cX13_joined 151 = .ok (.ireturn, 1) := by decide +kernel
theorem dX13_joined_152 : decode cX13_joined 152 = .ok (.iload_n 1, 1) := by decide +kernel
theorem dX13_joined_153 : decode cX13_joined 153 = .ok (.iload_n 2, 1) := by decide +kernel
theorem dX13_joined_154 : decode cX13_joined 154 = .ok (.invokestatic 211, 3) := by decide +kernel
theorem dX13_joined_157 : decode cX13_joined 157 = .ok (.ireturn, 1) := by decide +kernel
theorem dX13_joined_158 : decode cX13_joined 158 = .ok (.iload_n 1, 1) := by decide +kernel
theorem dX13_joined_159 : decode cX13_joined 159 = .ok (.iload_n 2, 1) := by decide +kernel
theorem dX13_joined_160 : decode cX13_joined 160 = .ok (.invokestatic 167, 3) := by decide +kernel
theorem dX13_joined_163 : decode cX13_joined 163 = .ok (.ireturn, 1) := by decide +kernel
theorem dX13_joined_164 : decode cX13_joined 164 = .ok (.iload_n 1, 1) := by decide +kernel
theorem dX13_joined_165 : decode cX13_joined 165 = .ok (.iload_n 2, 1) := by decide +kernel
theorem dX13_joined_166 : decode cX13_joined 166 = .ok (.iand, 1) := by decide +kernel
theorem dX13_joined_167 : decode cX13_joined 167 = .ok (.ireturn, 1) := by decide +kernel
theorem dX13_joined_168 : decode cX13_joined 168 = .ok (.iload_n 1, 1) := by decide +kernel
theorem dX13_joined_169 : decode cX13_joined 169 = .ok (.iload_n 2, 1) := by decide +kernel
theorem dX13_joined_170 : decode cX13_joined 170 = .ok (.ior, 1) := by decide +kernel
theorem dX13_joined_171 : decode cX13_joined 171 = .ok (.ireturn, 1) := by decide +kernel
theorem dX13_joined_172 : decode cX13_joined 172 = .ok (.iload_n 1, 1) := by decide +kernel
theorem dX13_joined_173 : decode cX13_joined 173 = .ok (.iload_n 2, 1) := by decide +kernel
theorem dX13_joined_174 : decode cX13_joined 174 = .ok (.if_icmp .ge 7, 3) := by decide +kernel
theorem dX13_joined_177 : decode cX13_joined 177 = .ok (.iconst 1, 1) := by decide +kernel
theorem dX13_joined_178 : decode cX13_joined 178 = .ok (.goto 4, 3) := by decide +kernel
theorem dX13_joined_181 : decode cX13_joined 181 = .ok (.iconst 0, 1) := by decide +kernel
theorem dX13_joined_182 : decode cX13_joined 182 = .ok (.ireturn, 1) := by decide +kernel
theorem dX13_joined_183 : decode cX13_joined 183 = .ok (.iload_n 1, 1) := by decide +kernel
theorem dX13_joined_184 : decode cX13_joined 184 = .ok (.iload_n 2, 1) := by decide +kernel
theorem dX13_joined_185 : decode cX13_joined 185 = .ok (.if_icmp .le 7, 3) := by decide +kernel
theorem dX13_joined_188 : decode cX13_joined 188 = .ok (.iconst 1, 1) := by decide +kernel
theorem dX13_joined_189 : decode cX13_joined 189 = .ok (.goto 4, 3) := by decide +kernel
theorem dX13_joined_192 : decode cX13_joined 192 = .ok (.iconst 0, 1) := by decide +kernel
theorem dX13_joined_193 : decode cX13_joined 193 = .ok (.ireturn, 1) := by decide +kernel
theorem dX13_joined_194 : decode cX13_joined 194 = .ok (.iload_n 1, 1) := by decide +kernel
theorem dX13_joined_195 : decode cX13_joined 195 = .ok (.iload_n 2, 1) := by decide +kernel
theorem dX13_joined_196 : decode cX13_joined 196 = .ok (.if_icmp .ne 7, 3) := by decide +kernel
theorem dX13_joined_199 : decode cX13_joined 199 = .ok (.iconst 1, 1) := by decide +kernel
theorem dX13_joined_200 : decode cX13_joined 200 = .ok (.goto 4, 3) := by decide +kernel
theorem dX13_joined_203 : decode cX13_joined 203 = .ok (.iconst 0, 1) := by decide +kernel
theorem dX13_joined_204 : decode cX13_joined 204 = .ok (.ireturn, 1) := by decide +kernel
theorem dX13_joined_205 : decode cX13_joined 205 = .ok (.iload_n 1, 1) := by decide +kernel
theorem dX13_joined_206 : decode cX13_joined 206 = .ok (.iload_n 2, 1) := by decide +kernel
theorem dX13_joined_207 : decode cX13_joined 207 = .ok (.if_icmp .gt 7, 3) := by decide +kernel
theorem dX13_joined_210 : decode cX13_joined 210 = .ok (.iconst 1, 1) := by decide +kernel
theorem dX13_joined_211 : decode cX13_joined 211 = .ok (.goto 4, 3) := by decide +kernel
theorem dX13_joined_214 : decode cX13_joined 214 = .ok (.iconst 0, 1) := by decide +kernel
theorem dX13_joined_215 : decode cX13_joined 215 = .ok (.ireturn, 1) := by decide +kernel
theorem dX13_joined_216 : decode cX13_joined 216 = .ok (.iload_n 1, 1) := by decide +kernel
theorem dX13_joined_217 : decode cX13_joined 217 = .ok (.iload_n 2, 1) := by decide +kernel
theorem dX13_joined_218 : decode cX13_joined 218 = .ok (.if_icmp .lt 7, 3) := by decide +kernel
theorem dX13_joined_221 : decode cX13_joined 221 = .ok (.iconst 1, 1) := by decide +kernel
theorem dX13_joined_222 : decode cX13_joined 222 = .ok (.goto 4, 3) := by decide +kernel
theorem dX13_joined_225 : decode cX13_joined 225 = .ok (.iconst 0, 1) := by decide +kernel
theorem dX13_joined_226 : decode cX13_joined 226 = .ok (.ireturn, 1) := by decide +kernel
theorem dX13_isPut_0 : decode cX13_isPut 0 = .ok (.iload 4, 2) := by decide +kernel
theorem dX13_isPut_2 : decode cX13_isPut 2 = .ok (.aload_n 0, 1) := by decide +kernel
theorem dX13_isPut_3 : decode cX13_isPut 3 = .ok (.getfield 35, 3) := by decide +kernel
theorem dX13_isPut_6 : decode cX13_isPut 6 = .ok (.getfield 248, 3) := by decide +kernel
theorem dX13_isPut_9 : decode cX13_isPut 9 = .ok (.invokestatic 361, 3) := by decide +kernel
theorem dX13_isPut_12 : decode cX13_isPut 12 = .ok (.aload_n 0, 1) := by decide +kernel
theorem dX13_isPut_13 : decode cX13_isPut 13 = .ok (.getfield 35, 3) := by decide +kernel
theorem dX13_isPut_16 : decode cX13_isPut 16 = .ok (.getfield 245, 3) := by decide +kernel
theorem dX13_isPut_19 : decode cX13_isPut 19 = .ok (.imul, 1) := by decide +kernel
theorem dX13_isPut_20 : decode cX13_isPut 20 = .ok (.iload_n 3, 1) := by decide +kernel
theorem dX13_isPut_21 : decode cX13_isPut 21 = .ok (.aload_n 0, 1) := by decide +kernel
theorem dX13_isPut_22 : decode cX13_isPut 22 = .ok (.getfield 35, 3) := by decide +kernel
theorem dX13_isPut_25 : decode cX13_isPut 25 = .ok (.getfield 245, 3) := by decide +kernel
theorem dX13_isPut_28 : decode cX13_isPut 28 = .ok (.invokestatic 361, 3) := by decide +kernel
theorem dX13_isPut_31 : decode cX13_isPut 31 = .ok (.iadd, 1) := by decide +kernel
theorem dX13_isPut_32 : decode cX13_isPut 32 = .ok (.istore 6, 2) := by decide +kernel
theorem dX13_isPut_34 : decode cX13_isPut 34 = .ok (.iload 5, 2) := by decide +kernel
theorem dX13_isPut_36 : decode cX13_isPut 36 = .ok (.bipush 6, 2) := by decide +kernel
theorem dX13_isPut_38 : decode cX13_isPut 38 = .ok (.invokestatic 361, 3) := by decide +kernel
theorem dX13_isPut_41 : decode cX13_isPut 41 = .ok (.istore 7, 2) := by decide +kernel
theorem dX13_isPut_43 : decode cX13_isPut 43 = .ok (.aload_n 0, 1) := by decide +kernel
theorem dX13_isPut_44 : decode cX13_isPut 44 = .ok (.aload_n 1, 1) := by decide +kernel
theorem dX13_isPut_45 : decode cX13_isPut 45 = .ok (.iload_n 2, 1) := by decide +kernel
theorem dX13_isPut_46 : decode cX13_isPut 46 = .ok (.iload 6, 2) := by decide +kernel
theorem dX13_isPut_48 : decode cX13_isPut 48 = .ok (.iload 7, 2) := by decide +kernel
theorem dX13_isPut_50 : decode cX13_isPut 50 = .ok (.invokevirtual 310, 3) := by decide +kernel
theorem dX13_isPut_53 : decode cX13_isPut 53 = .ok (.ifCond .ne 5, 3) := by decide +kernel
theorem dX13_isPut_56 : decode cX13_isPut 56 = .ok (.iconst 0, 1) := by decide +kernel
theorem dX13_isPut_57 : decode cX13_isPut 57 = .ok (.ireturn, 1) := by decide +kernel
theorem dX13_isPut_58 : decode cX13_isPut 58 = .ok (.aload_n 1, 1) := by decide +kernel
theorem dX13_isPut_59 : decode cX13_isPut 59 = .ok (.iload_n 2, 1) := by decide +kernel
theorem dX13_isPut_60 : decode cX13_isPut 60 = .ok (.iload 6, 2) := by decide +kernel
theorem dX13_isPut_62 : decode cX13_isPut 62 = .ok (.iload 7, 2) := by decide +kernel
theorem dX13_isPut_64 : decode cX13_isPut 64 = .ok (.invokevirtual 364, 3) := by decide +kernel
theorem dX13_isPut_67 : decode cX13_isPut 67 = .ok (.iconst 1, 1) := by decide +kernel
theorem dX13_isPut_68 : decode cX13_isPut 68 = .ok (.ireturn, 1) := by decide +kernel
theorem dX13_isFitted_0 : decode cX13_isFitted 0 = .ok (.aload_n 0, 1) := by decide +kernel
theorem dX13_isFitted_1 : decode cX13_isFitted 1 = .ok (.aload_n 1, 1) := by decide +kernel
theorem dX13_isFitted_2 : decode cX13_isFitted 2 = .ok (.iload_n 2, 1) := by decide +kernel
theorem dX13_isFitted_3 : decode cX13_isFitted 3 = .ok (.invokevirtual 355, 3) := by decide +kernel
theorem dX13_isFitted_6 : decode cX13_isFitted 6 = .ok (.istore_n 3, 1) := by decide +kernel
theorem dX13_isFitted_7 : decode cX13_isFitted 7 = .ok (.iload_n 3, 1) := by decide +kernel
theorem dX13_isFitted_8 : decode cX13_isFitted 8 = .ok (.iconst (-1), 1) := by decide +kernel
theorem dX13_isFitted_9 : decode cX13_isFitted 9 = .ok (.if_icmp .ne 5, 3) := by decide +kernel
theorem dX13_isFitted_12 : decode cX13_isFitted 12 = .ok (.iconst 0, 1) := by decide +kernel
theorem dX13_isFitted_13 : decode cX13_isFitted 13 = .ok (.ireturn, 1) := by decide +kernel
theorem dX13_isFitted_14 : decode cX13_isFitted 14 = .ok (.aload_n 1, 1) := by decide +kernel
theorem dX13_isFitted_15 : decode cX13_isFitted 15 = .ok (.iload_n 2, 1) := by decide +kernel
theorem dX13_isFitted_16 : decode cX13_isFitted 16 = .ok (.iload_n 3, 1) := by decide +kernel
theorem dX13_isFitted_17 : decode cX13_isFitted 17 = .ok (.bipush 6, 2) := by decide +kernel
theorem dX13_isFitted_19 : decode cX13_isFitted 19 = .ok (.idiv, 1) := by decide +kernel
theorem dX13_isFitted_20 : decode cX13_isFitted 20 = .ok (.iload_n 3, 1) := by decide +kernel
theorem dX13_isFitted_21 : decode cX13_isFitted 21 = .ok (.bipush 6, 2) := by decide +kernel
theorem dX13_isFitted_23 : decode cX13_isFitted 23 = .ok (.irem, 1) := by decide +kernel
theorem dX13_isFitted_24 : decode cX13_isFitted 24 = .ok (.invokevirtual 364, 3) := by decide +kernel
theorem dX13_isFitted_27 : decode cX13_isFitted 27 = .ok (.iconst 1, 1) := by decide +kernel
theorem dX13_isFitted_28 : decode cX13_isFitted 28 = .ok (.ireturn, 1) := by decide +kernel
theorem dX13_carryOut_0 : decode cX13_carryOut 0 = .ok (.aload_n 0, 1) := by decide +kernel
theorem dX13_carryOut_1 : decode cX13_carryOut 1 = .ok (.getfield 35, 3) := by decide +kernel
theorem dX13_carryOut_4 : decode cX13_carryOut 4 = .ok (.getfield 223, 3) := by decide +kernel
theorem dX13_carryOut_7 : decode cX13_carryOut 7 = .ok (.iload_n 2, 1) := by decide +kernel
theorem dX13_carryOut_8 : decode cX13_carryOut 8 = .ok (.iaload, 1) := by decide +kernel
theorem dX13_carryOut_9 : decode cX13_carryOut 9 = .ok (.istore_n 3, 1) := by decide +kernel
theorem dX13_carryOut_10 : decode cX13_carryOut 10 = .ok (.iload_n 3, 1) := by decide +kernel
theorem dX13_carryOut_11 : decode cX13_carryOut 11 = .ok (.aload_n 0, 1) := by decide +kernel
theorem dX13_carryOut_12 : decode cX13_carryOut 12 = .ok (.getfield 35, 3) := by decide +kernel
theorem dX13_carryOut_15 : decode cX13_carryOut 15 = .ok (.getfield 237, 3) := by decide +kernel
theorem dX13_carryOut_18 : decode cX13_carryOut 18 = .ok (.iload_n 2, 1) := by decide +kernel
theorem dX13_carryOut_19 : decode cX13_carryOut 19 = .ok (.iaload, 1) := by decide +kernel
theorem dX13_carryOut_20 : decode cX13_carryOut 20 = .ok (.if_icmp .ge 47, 3) := by decide +kernel
theorem dX13_carryOut_23 : decode cX13_carryOut 23 = .ok (.aload_n 0, 1) := by decide +kernel
theorem dX13_carryOut_24 : decode cX13_carryOut 24 = .ok (.getfield 42, 3) := by decide +kernel
theorem dX13_carryOut_27 : decode cX13_carryOut 27 = .ok (.iload_n 3, 1) := by decide +kernel
theorem dX13_carryOut_28 : decode cX13_carryOut 28 = .ok (.aload_n 0, 1) := by decide +kernel
theorem dX13_carryOut_29 : decode cX13_carryOut 29 = .ok (.aload_n 1, 1) := by decide +kernel
theorem dX13_carryOut_30 : decode cX13_carryOut 30 = .ok (.aload_n 0, 1) := by decide +kernel
theorem dX13_carryOut_31 : decode cX13_carryOut 31 = .ok (.getfield 35, 3) := by decide +kernel
theorem dX13_carryOut_34 : decode cX13_carryOut 34 = .ok (.getfield 141, 3) := by decide +kernel
theorem dX13_carryOut_37 : decode cX13_carryOut 37 = .ok (.iload_n 3, 1) := by decide +kernel
theorem dX13_carryOut_38 : decode cX13_carryOut 38 = .ok (.iaload, 1) := by decide +kernel
theorem dX13_carryOut_39 : decode cX13_carryOut 39 = .ok (.aload_n 0, 1) := by decide +kernel
theorem dX13_carryOut_40 : decode cX13_carryOut 40 = .ok (.getfield 35, 3) := by decide +kernel
theorem dX13_carryOut_43 : decode cX13_carryOut 43 = .ok (.getfield 144, 3) := by decide +kernel
theorem dX13_carryOut_46 : decode cX13_carryOut 46 = .ok (.iload_n 3, 1) := by decide +kernel
theorem dX13_carryOut_47 : decode cX13_carryOut 47 = .ok (.iaload, 1) := by decide +kernel
theorem dX13_carryOut_48 : decode cX13_carryOut 48 = .ok (.aload_n 0, 1) := by decide +kernel
theorem dX13_carryOut_49 : decode cX13_carryOut 49 = .ok (.getfield 35, 3) := by decide +kernel
theorem dX13_carryOut_52 : decode cX13_carryOut 52 = .ok (.getfield 147, 3) := by decide +kernel
theorem dX13_carryOut_55 : decode cX13_carryOut 55 = .ok (.iload_n 3, 1) := by decide +kernel
theorem dX13_carryOut_56 : decode cX13_carryOut 56 = .ok (.iaload, 1) := by decide +kernel
theorem dX13_carryOut_57 : decode cX13_carryOut 57 = .ok (.invokevirtual 368, 3) := by decide +kernel
theorem dX13_carryOut_60 : decode cX13_carryOut 60 = .ok (.iastore, 1) := by decide +kernel
theorem dX13_carryOut_61 : decode cX13_carryOut 61 = .ok (.iinc 3 1, 3) := by decide +kernel
theorem dX13_carryOut_64 : decode cX13_carryOut 64 = .ok (.goto (-54), 3) := by decide +kernel
theorem dX13_carryOut_67 : decode cX13_carryOut 67 = .ok (.aload_n 0, 1) := by decide +kernel
theorem dX13_carryOut_68 : decode cX13_carryOut 68 = .ok (.getfield 35, 3) := by decide +kernel
theorem dX13_carryOut_71 : decode cX13_carryOut 71 = .ok (.getfield 235, 3) := by decide +kernel
theorem dX13_carryOut_74 : decode cX13_carryOut 74 = .ok (.iload_n 2, 1) := by decide +kernel
theorem dX13_carryOut_75 : decode cX13_carryOut 75 = .ok (.iaload, 1) := by decide +kernel
theorem dX13_carryOut_76 : decode cX13_carryOut 76 = .ok (.iconst (-1), 1) := by decide +kernel
theorem dX13_carryOut_77 : decode cX13_carryOut 77 = .ok (.if_icmp .eq 22, 3) := by decide +kernel
theorem dX13_carryOut_80 : decode cX13_carryOut 80 = .ok (.aload_n 0, 1) := by decide +kernel
theorem dX13_carryOut_81 : decode cX13_carryOut 81 = .ok (.getfield 42, 3) := by decide +kernel
theorem dX13_carryOut_84 : decode cX13_carryOut 84 = .ok (.aload_n 0, 1) := by decide +kernel
theorem dX13_carryOut_85 : decode cX13_carryOut 85 = .ok (.getfield 35, 3) := by decide +kernel
theorem dX13_carryOut_88 : decode cX13_carryOut 88 = .ok (.getfield 235, 3) := by decide +kernel
theorem dX13_carryOut_91 : decode cX13_carryOut 91 = .ok (.iload_n 2, 1) := by decide +kernel
theorem dX13_carryOut_92 : decode cX13_carryOut 92 = .ok (.iaload, 1) := by decide +kernel
theorem dX13_carryOut_93 : decode cX13_carryOut 93 = .ok (.iaload, 1) := by decide +kernel
theorem dX13_carryOut_94 : decode cX13_carryOut 94 = .ok (.ifCond .ne 5, 3) := by decide +kernel
theorem dX13_carryOut_97 : decode cX13_carryOut 97 = .ok (.iconst 0, 1) := by decide +kernel
theorem dX13_carryOut_98 : decode cX13_carryOut 98 = .ok (.ireturn, 1) := by decide +kernel
theorem dX13_carryOut_99 : decode cX13_carryOut 99 = .ok (.aload_n 0, 1) := by decide +kernel
theorem dX13_carryOut_100 : decode cX13_carryOut 100 = .ok (.getfield 35, 3) := by decide +kernel
theorem dX13_carryOut_103 : decode cX13_carryOut 103 = .ok (.getfield 229, 3) := by decide +kernel
theorem dX13_carryOut_106 : decode cX13_carryOut 106 = .ok (.iload_n 2, 1) := by decide +kernel
theorem dX13_carryOut_107 : decode cX13_carryOut 107 = .ok (.iaload, 1) := by decide +kernel
theorem dX13_carryOut_108 : decode cX13_carryOut 108 = .ok (.istore_n 3, 1) := by decide +kernel
theorem dX13_carryOut_109 : decode cX13_carryOut 109 = .ok (.aload_n 0, 1) := by decide +kernel
theorem dX13_carryOut_110 : decode cX13_carryOut 110 = .ok (.getfield 35, 3) := by decide +kernel
theorem dX13_carryOut_113 : decode cX13_carryOut 113 = .ok (.getfield 226, 3) := by decide +kernel
theorem dX13_carryOut_116 : decode cX13_carryOut 116 = .ok (.iload_n 2, 1) := by decide +kernel
theorem dX13_carryOut_117 : decode cX13_carryOut 117 = .ok (.iaload, 1) := by decide +kernel
theorem dX13_carryOut_118 : decode cX13_carryOut 118 = .ok (.iconst 2, 1) := by decide +kernel
theorem dX13_carryOut_119 : decode cX13_carryOut 119 = .ok (.if_icmp .ne 10, 3) := by decide +kernel
theorem dX13_carryOut_122 : decode cX13_carryOut 122 = .ok (.aload_n 0, 1) := by decide +kernel
theorem dX13_carryOut_123 : decode cX13_carryOut 123 = .ok (.aload_n 1, 1) := by decide +kernel
theorem dX13_carryOut_124 : decode cX13_carryOut 124 = .ok (.iload_n 3, 1) := by decide +kernel
theorem dX13_carryOut_125 : decode cX13_carryOut 125 = .ok (.invokevirtual 371, 3) := by decide +kernel
theorem dX13_carryOut_128 : decode cX13_carryOut 128 = .ok (.ireturn, 1) := by decide +kernel
theorem dX13_carryOut_129 : decode cX13_carryOut 129 = .ok (.aload_n 0, 1) := by decide +kernel
theorem dX13_carryOut_130 : decode cX13_carryOut 130 = .ok (.getfield 35, 3) := by decide +kernel
theorem dX13_carryOut_133 : decode cX13_carryOut 133 = .ok (.getfield 226, 3) := by decide +kernel
theorem dX13_carryOut_136 : decode cX13_carryOut 136 = .ok (.iload_n 2, 1) := by decide +kernel
theorem dX13_carryOut_137 : decode cX13_carryOut 137 = .ok (.iaload, 1) := by decide +kernel
theorem dX13_carryOut_138 : decode cX13_carryOut 138 = .ok (.ifCond .ne 62, 3) := by decide +kernel
theorem dX13_carryOut_141 : decode cX13_carryOut 141 = .ok (.aload_n 0, 1) := by decide +kernel
theorem dX13_carryOut_142 : decode cX13_carryOut 142 = .ok (.aload_n 1, 1) := by decide +kernel
theorem dX13_carryOut_143 : decode cX13_carryOut 143 = .ok (.iload_n 3, 1) := by decide +kernel
theorem dX13_carryOut_144 : decode cX13_carryOut 144 = .ok (.aload_n 0, 1) := by decide +kernel
theorem dX13_carryOut_145 : decode cX13_carryOut 145 = .ok (.getfield 42, 3) := by decide +kernel
theorem dX13_carryOut_148 : decode cX13_carryOut 148 = .ok (.aload_n 0, 1) := by decide +kernel
theorem dX13_carryOut_149 : decode cX13_carryOut 149 = .ok (.getfield 35, 3) := by decide +kernel
theorem dX13_carryOut_152 : decode cX13_carryOut 152 = .ok (.getfield 232, 3) := by decide +kernel
theorem dX13_carryOut_155 : decode cX13_carryOut 155 = .ok (.iconst 3, 1) := by decide +kernel
theorem dX13_carryOut_156 : decode cX13_carryOut 156 = .ok (.iload_n 2, 1) := by decide +kernel
theorem dX13_carryOut_157 : decode cX13_carryOut 157 = .ok (.imul, 1) := by decide +kernel
theorem dX13_carryOut_158 : decode cX13_carryOut 158 = .ok (.iaload, 1) := by decide +kernel
theorem dX13_carryOut_159 : decode cX13_carryOut 159 = .ok (.iaload, 1) := by decide +kernel
theorem dX13_carryOut_160 : decode cX13_carryOut 160 = .ok (.aload_n 0, 1) := by decide +kernel
theorem dX13_carryOut_161 : decode cX13_carryOut 161 = .ok (.getfield 42, 3) := by decide +kernel
theorem dX13_carryOut_164 : decode cX13_carryOut 164 = .ok (.aload_n 0, 1) := by decide +kernel
theorem dX13_carryOut_165 : decode cX13_carryOut 165 = .ok (.getfield 35, 3) := by decide +kernel
theorem dX13_carryOut_168 : decode cX13_carryOut 168 = .ok (.getfield 232, 3) := by decide +kernel
theorem dX13_carryOut_171 : decode cX13_carryOut 171 = .ok (.iconst 3, 1) := by decide +kernel
theorem dX13_carryOut_172 : decode cX13_carryOut 172 = .ok (.iload_n 2, 1) := by decide +kernel
theorem dX13_carryOut_173 : decode cX13_carryOut 173 = .ok (.imul, 1) := by decide +kernel
theorem dX13_carryOut_174 : decode cX13_carryOut 174 = .ok (.iconst 1, 1) := by decide +kernel
theorem dX13_carryOut_175 : decode cX13_carryOut 175 = .ok (.iadd, 1) := by decide +kernel
theorem dX13_carryOut_176 : decode cX13_carryOut 176 = .ok (.iaload, 1) := by decide +kernel
theorem dX13_carryOut_177 : decode cX13_carryOut 177 = .ok (.iaload, 1) := by decide +kernel
theorem dX13_carryOut_178 : decode cX13_carryOut 178 = .ok (.aload_n 0, 1) := by decide +kernel
theorem dX13_carryOut_179 : decode cX13_carryOut 179 = .ok (.getfield 42, 3) := by decide +kernel
theorem dX13_carryOut_182 : decode cX13_carryOut 182 = .ok (.aload_n 0, 1) := by decide +kernel
theorem dX13_carryOut_183 : decode cX13_carryOut 183 = .ok (.getfield 35, 3) := by decide +kernel
theorem dX13_carryOut_186 : decode cX13_carryOut 186 = .ok (.getfield 232, 3) := by decide +kernel
theorem dX13_carryOut_189 : decode cX13_carryOut 189 = .ok (.iconst 3, 1) := by decide +kernel
theorem dX13_carryOut_190 : decode cX13_carryOut 190 = .ok (.iload_n 2, 1) := by decide +kernel
theorem dX13_carryOut_191 : decode cX13_carryOut 191 = .ok (.imul, 1) := by decide +kernel
theorem dX13_carryOut_192 : decode cX13_carryOut 192 = .ok (.iconst 2, 1) := by decide +kernel
theorem dX13_carryOut_193 : decode cX13_carryOut 193 = .ok (.iadd, 1) := by decide +kernel
theorem dX13_carryOut_194 : decode cX13_carryOut 194 = .ok (.iaload, 1) := by decide +kernel
theorem dX13_carryOut_195 : decode cX13_carryOut 195 = .ok (.iaload, 1) := by decide +kernel
theorem dX13_carryOut_196 : decode cX13_carryOut 196 = .ok (.invokevirtual 374, 3) := by decide +kernel
theorem dX13_carryOut_199 : decode cX13_carryOut 199 = .ok (.ireturn, 1) := by decide +kernel
theorem dX13_carryOut_200 : decode cX13_carryOut 200 = .ok (.aload_n 1, 1) := by decide +kernel
theorem dX13_carryOut_201 : decode cX13_carryOut 201 = .ok (.getfield 293, 3) := by decide +kernel
theorem dX13_carryOut_204 : decode cX13_carryOut 204 = .ok (.iload_n 3, 1) := by decide +kernel
theorem dX13_carryOut_205 : decode cX13_carryOut 205 = .ok (.iaload, 1) := by decide +kernel
theorem dX13_carryOut_206 : decode cX13_carryOut 206 = .ok (.iconst (-1), 1) := by decide +kernel
theorem dX13_carryOut_207 : decode cX13_carryOut 207 = .ok (.if_icmp .ne 5, 3) := by decide +kernel
theorem dX13_carryOut_210 : decode cX13_carryOut 210 = .ok (.iconst 0, 1) := by decide +kernel
theorem dX13_carryOut_211 : decode cX13_carryOut 211 = .ok (.ireturn, 1) := by decide +kernel
theorem dX13_carryOut_212 : decode cX13_carryOut 212 = .ok (.aload_n 1, 1) := by decide +kernel
theorem dX13_carryOut_213 : decode cX13_carryOut 213 = .ok (.iload_n 3, 1) := by decide +kernel
theorem dX13_carryOut_214 : decode cX13_carryOut 214 = .ok (.invokevirtual 378, 3) := by decide +kernel
theorem dX13_carryOut_217 : decode cX13_carryOut 217 = .ok (.iconst 1, 1) := by decide +kernel
theorem dX13_carryOut_218 : decode cX13_carryOut 218 = .ok (.ireturn, 1) := by decide +kernel
theorem dX13_play_0 : decode cX13_play 0 = .ok (.iconst 0, 1) := by decide +kernel
theorem dX13_play_1 : decode cX13_play 1 = .ok (.istore_n 2, 1) := by decide +kernel
theorem dX13_play_2 : decode cX13_play 2 = .ok (.iconst 0, 1) := by decide +kernel
theorem dX13_play_3 : decode cX13_play 3 = .ok (.istore_n 3, 1) := by decide +kernel
theorem dX13_play_4 : decode cX13_play 4 = .ok (.iload_n 3, 1) := by decide +kernel
theorem dX13_play_5 : decode cX13_play 5 = .ok (.aload_n 0, 1) := by decide +kernel
theorem dX13_play_6 : decode cX13_play 6 = .ok (.getfield 35, 3) := by decide +kernel
theorem dX13_play_9 : decode cX13_play 9 = .ok (.getfield 220, 3) := by decide +kernel
theorem dX13_play_12 : decode cX13_play 12 = .ok (.if_icmp .ge 26, 3) := by decide +kernel
theorem dX13_play_15 : decode cX13_play 15 = .ok (.iload_n 2, 1) := by decide +kernel
theorem dX13_play_16 : decode cX13_play 16 = .ok (.aload_n 0, 1) := by decide +kernel
theorem dX13_play_17 : decode cX13_play 17 = .ok (.aload_n 1, 1) := by decide +kernel
theorem dX13_play_18 : decode cX13_play 18 = .ok (.iload_n 3, 1) := by decide +kernel
theorem dX13_play_19 : decode cX13_play 19 = .ok (.invokevirtual 379, 3) := by decide +kernel
theorem dX13_play_22 : decode cX13_play 22 = .ok (.ifCond .eq 7, 3) := by decide +kernel
theorem dX13_play_25 : decode cX13_play 25 = .ok (.iconst 1, 1) := by decide +kernel
theorem dX13_play_26 : decode cX13_play 26 = .ok (.goto 4, 3) := by decide +kernel
theorem dX13_play_29 : decode cX13_play 29 = .ok (.iconst 0, 1) := by decide +kernel
theorem dX13_play_30 : decode cX13_play 30 = .ok (.iadd, 1) := by decide +kernel
theorem dX13_play_31 : decode cX13_play 31 = .ok (.istore_n 2, 1) := by decide +kernel
theorem dX13_play_32 : decode cX13_play 32 = .ok (.iinc 3 1, 3) := by decide +kernel
theorem dX13_play_35 : decode cX13_play 35 = .ok (.goto (-31), 3) := by decide +kernel
theorem dX13_play_38 : decode cX13_play 38 = .ok (.aload_n 1, 1) := by decide +kernel
theorem dX13_play_39 : decode cX13_play 39 = .ok (.dup, 1) := by decide +kernel
theorem dX13_play_40 : decode cX13_play 40 = .ok (.getfield 343, 3) := by decide +kernel
theorem dX13_play_43 : decode cX13_play 43 = .ok (.iconst 1, 1) := by decide +kernel
theorem dX13_play_44 : decode cX13_play 44 = .ok (.iadd, 1) := by decide +kernel
theorem dX13_play_45 : decode cX13_play 45 = .ok (.putfield 343, 3) := by decide +kernel
theorem dX13_play_48 : decode cX13_play 48 = .ok (.iload_n 2, 1) := by decide +kernel
theorem dX13_play_49 : decode cX13_play 49 = .ok (.ireturn, 1) := by decide +kernel
theorem dX13_columns_0 : decode cX13_columns 0 = .ok (.aload_n 0, 1) := by decide +kernel
theorem dX13_columns_1 : decode cX13_columns 1 = .ok (.aload_n 0, 1) := by decide +kernel
theorem dX13_columns_2 : decode cX13_columns 2 = .ok (.getfield 35, 3) := by decide +kernel
theorem dX13_columns_5 : decode cX13_columns 5 = .ok (.getfield 245, 3) := by decide +kernel
theorem dX13_columns_8 : decode cX13_columns 8 = .ok (.invokevirtual 268, 3) := by decide +kernel
theorem dX13_columns_11 : decode cX13_columns 11 = .ok (.ireturn, 1) := by decide +kernel
theorem dX13_rows_0 : decode cX13_rows 0 = .ok (.aload_n 0, 1) := by decide +kernel
theorem dX13_rows_1 : decode cX13_rows 1 = .ok (.aload_n 0, 1) := by decide +kernel
theorem dX13_rows_2 : decode cX13_rows 2 = .ok (.getfield 35, 3) := by decide +kernel
theorem dX13_rows_5 : decode cX13_rows 5 = .ok (.getfield 248, 3) := by decide +kernel
theorem dX13_rows_8 : decode cX13_rows 8 = .ok (.invokevirtual 268, 3) := by decide +kernel
theorem dX13_rows_11 : decode cX13_rows 11 = .ok (.ireturn, 1) := by decide +kernel
theorem dX13_tiles_0 : decode cX13_tiles 0 = .ok (.aload_n 0, 1) := by decide +kernel
theorem dX13_tiles_1 : decode cX13_tiles 1 = .ok (.aload_n 0, 1) := by decide +kernel
theorem dX13_tiles_2 : decode cX13_tiles 2 = .ok (.getfield 35, 3) := by decide +kernel
theorem dX13_tiles_5 : decode cX13_tiles 5 = .ok (.getfield 150, 3) := by decide +kernel
theorem dX13_tiles_8 : decode cX13_tiles 8 = .ok (.invokevirtual 268, 3) := by decide +kernel
theorem dX13_tiles_11 : decode cX13_tiles 11 = .ok (.ireturn, 1) := by decide +kernel
theorem dX13_rounds_0 : decode cX13_rounds 0 = .ok (.aload_n 0, 1) := by decide +kernel
theorem dX13_rounds_1 : decode cX13_rounds 1 = .ok (.aload_n 0, 1) := by decide +kernel
theorem dX13_rounds_2 : decode cX13_rounds 2 = .ok (.getfield 48, 3) := by decide +kernel
theorem dX13_rounds_5 : decode cX13_rounds 5 = .ok (.getfield 343, 3) := by decide +kernel
theorem dX13_rounds_8 : decode cX13_rounds 8 = .ok (.invokevirtual 268, 3) := by decide +kernel
theorem dX13_rounds_11 : decode cX13_rounds 11 = .ok (.ireturn, 1) := by decide +kernel
theorem dX13_placedTiles_0 : decode cX13_placedTiles 0 = .ok (.aload_n 0, 1) := by decide +kernel
theorem dX13_placedTiles_1 : decode cX13_placedTiles 1 = .ok (.aload_n 0, 1) := by decide +kernel
theorem dX13_placedTiles_2 : decode cX13_placedTiles 2 = .ok (.getfield 48, 3) := by decide +kernel
theorem dX13_placedTiles_5 : decode cX13_placedTiles 5 = .ok (.getfield 296, 3) := by decide +kernel
theorem dX13_placedTiles_8 : decode cX13_placedTiles 8 = .ok (.invokevirtual 268, 3) := by decide +kernel
theorem dX13_placedTiles_11 : decode cX13_placedTiles 11 = .ok (.ireturn, 1) := by decide +kernel
theorem dX13_matches__0 : decode cX13_matches_ 0 = .ok (.aload_n 0, 1) := by decide +kernel
theorem dX13_matches__1 : decode cX13_matches_ 1 = .ok (.aload_n 0, 1) := by decide +kernel
theorem dX13_matches__2 : decode cX13_matches_ 2 = .ok (.aload_n 0, 1) := by decide +kernel
theorem dX13_matches__3 : decode cX13_matches_ 3 = .ok (.getfield 48, 3) := by decide +kernel
theorem dX13_matches__6 : decode cX13_matches_ 6 = .ok (.invokevirtual 346, 3) := by decide +kernel
theorem dX13_matches__9 : decode cX13_matches_ 9 = .ok (.invokevirtual 268, 3) := by decide +kernel
theorem dX13_matches__12 : decode cX13_matches_ 12 = .ok (.ireturn, 1) := by decide +kernel
theorem dX13_points__0 : decode cX13_points_ 0 = .ok (.aload_n 0, 1) := by decide +kernel
theorem dX13_points__1 : decode cX13_points_ 1 = .ok (.aload_n 0, 1) := by decide +kernel
theorem dX13_points__2 : decode cX13_points_ 2 = .ok (.aload_n 0, 1) := by decide +kernel
theorem dX13_points__3 : decode cX13_points_ 3 = .ok (.getfield 48, 3) := by decide +kernel
theorem dX13_points__6 : decode cX13_points_ 6 = .ok (.invokevirtual 349, 3) := by decide +kernel
theorem dX13_points__9 : decode cX13_points_ 9 = .ok (.invokevirtual 268, 3) := by decide +kernel
theorem dX13_points__12 : decode cX13_points_ 12 = .ok (.ireturn, 1) := by decide +kernel
theorem dX13_rings__0 : decode cX13_rings_ 0 = .ok (.aload_n 0, 1) := by decide +kernel
theorem dX13_rings__1 : decode cX13_rings_ 1 = .ok (.aload_n 0, 1) := by decide +kernel
theorem dX13_rings__2 : decode cX13_rings_ 2 = .ok (.aload_n 0, 1) := by decide +kernel
theorem dX13_rings__3 : decode cX13_rings_ 3 = .ok (.getfield 48, 3) := by decide +kernel
theorem dX13_rings__6 : decode cX13_rings_ 6 = .ok (.invokevirtual 325, 3) := by decide +kernel
theorem dX13_rings__9 : decode cX13_rings_ 9 = .ok (.invokevirtual 268, 3) := by decide +kernel
theorem dX13_rings__12 : decode cX13_rings_ 12 = .ok (.ireturn, 1) := by decide +kernel
theorem dX13_reach_0 : decode cX13_reach 0 = .ok (.iconst 1, 1) := by decide +kernel
theorem dX13_reach_1 : decode cX13_reach 1 = .ok (.istore_n 2, 1) := by decide +kernel
theorem dX13_reach_2 : decode cX13_reach 2 = .ok (.aload_n 0, 1) := by decide +kernel
theorem dX13_reach_3 : decode cX13_reach 3 = .ok (.getfield 55, 3) := by decide +kernel
theorem dX13_reach_6 : decode cX13_reach 6 = .ok (.iconst 0, 1) := by decide +kernel
theorem dX13_reach_7 : decode cX13_reach 7 = .ok (.iload_n 1, 1) := by decide +kernel
theorem dX13_reach_8 : decode cX13_reach 8 = .ok (.iastore, 1) := by decide +kernel
theorem dX13_reach_9 : decode cX13_reach 9 = .ok (.aload_n 0, 1) := by decide +kernel
theorem dX13_reach_10 : decode cX13_reach 10 = .ok (.getfield 58, 3) := by decide +kernel
theorem dX13_reach_13 : decode cX13_reach 13 = .ok (.iload_n 1, 1) := by decide +kernel
theorem dX13_reach_14 : decode cX13_reach 14 = .ok (.iconst 1, 1) := by decide +kernel
theorem dX13_reach_15 : decode cX13_reach 15 = .ok (.bastore, 1) := by decide +kernel
theorem dX13_reach_16 : decode cX13_reach 16 = .ok (.iconst 0, 1) := by decide +kernel
theorem dX13_reach_17 : decode cX13_reach 17 = .ok (.istore_n 3, 1) := by decide +kernel
theorem dX13_reach_18 : decode cX13_reach 18 = .ok (.iload_n 3, 1) := by decide +kernel
theorem dX13_reach_19 : decode cX13_reach 19 = .ok (.iload_n 2, 1) := by decide +kernel
theorem dX13_reach_20 : decode cX13_reach 20 = .ok (.if_icmp .ge 91, 3) := by decide +kernel
theorem dX13_reach_23 : decode cX13_reach 23 = .ok (.iconst 0, 1) := by decide +kernel
theorem dX13_reach_24 : decode cX13_reach 24 = .ok (.istore 4, 2) := by decide +kernel
theorem dX13_reach_26 : decode cX13_reach 26 = .ok (.iload 4, 2) := by decide +kernel
theorem dX13_reach_28 : decode cX13_reach 28 = .ok (.bipush 6, 2) := by decide +kernel
theorem dX13_reach_30 : decode cX13_reach 30 = .ok (.if_icmp .ge 75, 3) := by decide +kernel
theorem dX13_reach_33 : decode cX13_reach 33 = .ok (.aload_n 0, 1) := by decide +kernel
theorem dX13_reach_34 : decode cX13_reach 34 = .ok (.aload_n 0, 1) := by decide +kernel
theorem dX13_reach_35 : decode cX13_reach 35 = .ok (.getfield 55, 3) := by decide +kernel
theorem dX13_reach_38 : decode cX13_reach 38 = .ok (.iload_n 3, 1) := by decide +kernel
theorem dX13_reach_39 : decode cX13_reach 39 = .ok (.iaload, 1) := by decide +kernel
theorem dX13_reach_40 : decode cX13_reach 40 = .ok (.iload 4, 2) := by decide +kernel
theorem dX13_reach_42 : decode cX13_reach 42 = .ok (.invokevirtual 277, 3) := by decide +kernel
theorem dX13_reach_45 : decode cX13_reach 45 = .ok (.istore 5, 2) := by decide +kernel
theorem dX13_reach_47 : decode cX13_reach 47 = .ok (.iload 5, 2) := by decide +kernel
theorem dX13_reach_49 : decode cX13_reach 49 = .ok (.iconst (-1), 1) := by decide +kernel
theorem dX13_reach_50 : decode cX13_reach 50 = .ok (.if_icmp .eq 49, 3) := by decide +kernel
theorem dX13_reach_53 : decode cX13_reach 53 = .ok (.aload_n 0, 1) := by decide +kernel
theorem dX13_reach_54 : decode cX13_reach 54 = .ok (.getfield 48, 3) := by decide +kernel
theorem dX13_reach_57 : decode cX13_reach 57 = .ok (.getfield 280, 3) := by decide +kernel
theorem dX13_reach_60 : decode cX13_reach 60 = .ok (.iload 5, 2) := by decide +kernel
theorem dX13_reach_62 : decode cX13_reach 62 = .ok (.iaload, 1) := by decide +kernel
theorem dX13_reach_63 : decode cX13_reach 63 = .ok (.iconst (-1), 1) := by decide +kernel
theorem dX13_reach_64 : decode cX13_reach 64 = .ok (.if_icmp .eq 35, 3) := by decide +kernel
theorem dX13_reach_67 : decode cX13_reach 67 = .ok (.aload_n 0, 1) := by decide +kernel
theorem dX13_reach_68 : decode cX13_reach 68 = .ok (.getfield 58, 3) := by decide +kernel
theorem dX13_reach_71 : decode cX13_reach 71 = .ok (.iload 5, 2) := by decide +kernel
theorem dX13_reach_73 : decode cX13_reach 73 = .ok (.baload, 1) := by decide +kernel
theorem dX13_reach_74 : decode cX13_reach 74 = .ok (.ifCond .eq 6, 3) := by decide +kernel
theorem dX13_reach_77 : decode cX13_reach 77 = .ok (.goto 22, 3) := by decide +kernel
theorem dX13_reach_80 : decode cX13_reach 80 = .ok (.aload_n 0, 1) := by decide +kernel
theorem dX13_reach_81 : decode cX13_reach 81 = .ok (.getfield 58, 3) := by decide +kernel
theorem dX13_reach_84 : decode cX13_reach 84 = .ok (.iload 5, 2) := by decide +kernel
theorem dX13_reach_86 : decode cX13_reach 86 = .ok (.iconst 1, 1) := by decide +kernel
theorem dX13_reach_87 : decode cX13_reach 87 = .ok (.bastore, 1) := by decide +kernel
theorem dX13_reach_88 : decode cX13_reach 88 = .ok (.aload_n 0, 1) := by decide +kernel
theorem dX13_reach_89 : decode cX13_reach 89 = .ok (.getfield 55, 3) := by decide +kernel
theorem dX13_reach_92 : decode cX13_reach 92 = .ok (.iload_n 2, 1) := by decide +kernel
theorem dX13_reach_93 : decode cX13_reach 93 = .ok (.iload 5, 2) := by decide +kernel
theorem dX13_reach_95 : decode cX13_reach 95 = .ok (.iastore, 1) := by decide +kernel
theorem dX13_reach_96 : decode cX13_reach 96 = .ok (.iinc 2 1, 3) := by decide +kernel
theorem dX13_reach_99 : decode cX13_reach 99 = .ok (.iinc 4 1, 3) := by decide +kernel
theorem dX13_reach_102 : decode cX13_reach 102 = .ok (.goto (-76), 3) := by decide +kernel
theorem dX13_reach_105 : decode cX13_reach 105 = .ok (.iinc 3 1, 3) := by decide +kernel
theorem dX13_reach_108 : decode cX13_reach 108 = .ok (.goto (-90), 3) := by decide +kernel
theorem dX13_reach_111 : decode cX13_reach 111 = .ok (.return_, 1) := by decide +kernel
theorem dX13_groupsOf_0 : decode cX13_groupsOf 0 = .ok (.iconst 0, 1) := by decide +kernel
theorem dX13_groupsOf_1 : decode cX13_groupsOf 1 = .ok (.istore_n 1, 1) := by decide +kernel
theorem dX13_groupsOf_2 : decode cX13_groupsOf 2 = .ok (.iload_n 1, 1) := by decide +kernel
theorem dX13_groupsOf_3 : decode cX13_groupsOf 3 = .ok (.bipush 49, 2) := by decide +kernel
theorem dX13_groupsOf_5 : decode cX13_groupsOf 5 = .ok (.if_icmp .ge 16, 3) := by decide +kernel
theorem dX13_groupsOf_8 : decode cX13_groupsOf 8 = .ok (.aload_n 0, 1) := by decide +kernel
theorem dX13_groupsOf_9 : decode cX13_groupsOf 9 = .ok (.getfield 58, 3) := by decide +kernel
theorem dX13_groupsOf_12 : decode cX13_groupsOf 12 = .ok (.iload_n 1, 1) := by decide +kernel
theorem dX13_groupsOf_13 : decode cX13_groupsOf 13 = .ok (.iconst 0, 1) := by decide +kernel
theorem dX13_groupsOf_14 : decode cX13_groupsOf 14 = .ok (.bastore, 1) := by decide +kernel
theorem dX13_groupsOf_15 : decode cX13_groupsOf 15 = .ok (.iinc 1 1, 3) := by decide +kernel
theorem dX13_groupsOf_18 : decode cX13_groupsOf 18 = .ok (.goto (-16), 3) := by decide +kernel
theorem dX13_groupsOf_21 : decode cX13_groupsOf 21 = .ok (.iconst 0, 1) := by decide +kernel
theorem dX13_groupsOf_22 : decode cX13_groupsOf 22 = .ok (.istore_n 1, 1) := by decide +kernel
theorem dX13_groupsOf_23 : decode cX13_groupsOf 23 = .ok (.iconst 0, 1) := by decide +kernel
theorem dX13_groupsOf_24 : decode cX13_groupsOf 24 = .ok (.istore_n 2, 1) := by decide +kernel
theorem dX13_groupsOf_25 : decode cX13_groupsOf 25 = .ok (.iload_n 2, 1) := by decide +kernel
theorem dX13_groupsOf_26 : decode cX13_groupsOf 26 = .ok (.aload_n 0, 1) := by decide +kernel
theorem dX13_groupsOf_27 : decode cX13_groupsOf 27 = .ok (.invokevirtual 307, 3) := by decide +kernel
theorem dX13_groupsOf_30 : decode cX13_groupsOf 30 = .ok (.if_icmp .ge 42, 3) := by decide +kernel
theorem dX13_groupsOf_33 : decode cX13_groupsOf 33 = .ok (.aload_n 0, 1) := by decide +kernel
theorem dX13_groupsOf_34 : decode cX13_groupsOf 34 = .ok (.getfield 48, 3) := by decide +kernel
theorem dX13_groupsOf_37 : decode cX13_groupsOf 37 = .ok (.getfield 280, 3) := by decide +kernel
theorem dX13_groupsOf_40 : decode cX13_groupsOf 40 = .ok (.iload_n 2, 1) := by decide +kernel
theorem dX13_groupsOf_41 : decode cX13_groupsOf 41 = .ok (.iaload, 1) := by decide +kernel
theorem dX13_groupsOf_42 : decode cX13_groupsOf 42 = .ok (.iconst (-1), 1) := by decide +kernel
theorem dX13_groupsOf_43 : decode cX13_groupsOf 43 = .ok (.if_icmp .eq 23, 3) := by decide +kernel
theorem dX13_groupsOf_46 : decode cX13_groupsOf 46 = .ok (.aload_n 0, 1) := by decide +kernel
theorem dX13_groupsOf_47 : decode cX13_groupsOf 47 = .ok (.getfield 58, 3) := by decide +kernel
theorem dX13_groupsOf_50 : decode cX13_groupsOf 50 = .ok (.iload_n 2, 1) := by decide +kernel
theorem dX13_groupsOf_51 : decode cX13_groupsOf 51 = .ok (.baload, 1) := by decide +kernel
theorem dX13_groupsOf_52 : decode cX13_groupsOf 52 = .ok (.ifCond .eq 6, 3) := by decide +kernel
theorem dX13_groupsOf_55 : decode cX13_groupsOf 55 = .ok (.goto 11, 3) := by decide +kernel
theorem dX13_groupsOf_58 : decode cX13_groupsOf 58 = .ok (.aload_n 0, 1) := by decide +kernel
theorem dX13_groupsOf_59 : decode cX13_groupsOf 59 = .ok (.iload_n 2, 1) := by decide +kernel
theorem dX13_groupsOf_60 : decode cX13_groupsOf 60 = .ok (.invokevirtual 382, 3) := by decide +kernel
theorem dX13_groupsOf_63 : decode cX13_groupsOf 63 = .ok (.iinc 1 1, 3) := by decide +kernel
theorem dX13_groupsOf_66 : decode cX13_groupsOf 66 = .ok (.iinc 2 1, 3) := by decide +kernel
theorem dX13_groupsOf_69 : decode cX13_groupsOf 69 = .ok (.goto (-44), 3) := by decide +kernel
theorem dX13_groupsOf_72 : decode cX13_groupsOf 72 = .ok (.iload_n 1, 1) := by decide +kernel
theorem dX13_groupsOf_73 : decode cX13_groupsOf 73 = .ok (.ireturn, 1) := by decide +kernel
theorem dX13_groups_0 : decode cX13_groups 0 = .ok (.aload_n 0, 1) := by decide +kernel
theorem dX13_groups_1 : decode cX13_groups 1 = .ok (.aload_n 0, 1) := by decide +kernel
theorem dX13_groups_2 : decode cX13_groups 2 = .ok (.invokevirtual 385, 3) := by decide +kernel
theorem dX13_groups_5 : decode cX13_groups 5 = .ok (.invokevirtual 268, 3) := by decide +kernel
theorem dX13_groups_8 : decode cX13_groups 8 = .ok (.ireturn, 1) := by decide +kernel
theorem dX13_isCell_0 : decode cX13_isCell 0 = .ok (.iload_n 1, 1) := by decide +kernel
theorem dX13_isCell_1 : decode cX13_isCell 1 = .ok (.iconst 0, 1) := by decide +kernel
theorem dX13_isCell_2 : decode cX13_isCell 2 = .ok (.aload_n 0, 1) := by decide +kernel
theorem dX13_isCell_3 : decode cX13_isCell 3 = .ok (.invokevirtual 307, 3) := by decide +kernel
theorem dX13_isCell_6 : decode cX13_isCell 6 = .ok (.iconst 1, 1) := by decide +kernel
theorem dX13_isCell_7 : decode cX13_isCell 7 = .ok (.isub, 1) := by decide +kernel
theorem dX13_isCell_8 : decode cX13_isCell 8 = .ok (.invokestatic 68, 3) := by decide +kernel
theorem dX13_isCell_11 : decode cX13_isCell 11 = .ok (.ireturn, 1) := by decide +kernel
theorem dX13_isTile_0 : decode cX13_isTile 0 = .ok (.iload_n 1, 1) := by decide +kernel
theorem dX13_isTile_1 : decode cX13_isTile 1 = .ok (.iconst 0, 1) := by decide +kernel
theorem dX13_isTile_2 : decode cX13_isTile 2 = .ok (.aload_n 0, 1) := by decide +kernel
theorem dX13_isTile_3 : decode cX13_isTile 3 = .ok (.getfield 35, 3) := by decide +kernel
theorem dX13_isTile_6 : decode cX13_isTile 6 = .ok (.getfield 150, 3) := by decide +kernel
theorem dX13_isTile_9 : decode cX13_isTile 9 = .ok (.iconst 1, 1) := by decide +kernel
theorem dX13_isTile_10 : decode cX13_isTile 10 = .ok (.isub, 1) := by decide +kernel
theorem dX13_isTile_11 : decode cX13_isTile 11 = .ok (.invokestatic 68, 3) := by decide +kernel
theorem dX13_isTile_14 : decode cX13_isTile 14 = .ok (.ireturn, 1) := by decide +kernel
theorem dX13_isEdge_0 : decode cX13_isEdge 0 = .ok (.iload_n 0, 1) := by decide +kernel
theorem dX13_isEdge_1 : decode cX13_isEdge 1 = .ok (.iconst 0, 1) := by decide +kernel
theorem dX13_isEdge_2 : decode cX13_isEdge 2 = .ok (.iconst 5, 1) := by decide +kernel
theorem dX13_isEdge_3 : decode cX13_isEdge 3 = .ok (.invokestatic 68, 3) := by decide +kernel
theorem dX13_isEdge_6 : decode cX13_isEdge 6 = .ok (.ireturn, 1) := by decide +kernel
theorem dX13_hasTile_0 : decode cX13_hasTile 0 = .ok (.aload_n 0, 1) := by decide +kernel
theorem dX13_hasTile_1 : decode cX13_hasTile 1 = .ok (.iconst 0, 1) := by decide +kernel
theorem dX13_hasTile_2 : decode cX13_hasTile 2 = .ok (.putfield 65, 3) := by decide +kernel
theorem dX13_hasTile_5 : decode cX13_hasTile 5 = .ok (.aload_n 0, 1) := by decide +kernel
theorem dX13_hasTile_6 : decode cX13_hasTile 6 = .ok (.iload_n 1, 1) := by decide +kernel
theorem dX13_hasTile_7 : decode cX13_hasTile 7 = .ok (.invokevirtual 388, 3) := by decide +kernel
theorem dX13_hasTile_10 : decode cX13_hasTile 10 = .ok (.ifCond .eq 24, 3) := by decide +kernel
theorem dX13_hasTile_13 : decode cX13_hasTile 13 = .ok (.aload_n 0, 1) := by decide +kernel
theorem dX13_hasTile_14 : decode cX13_hasTile 14 = .ok (.getfield 48, 3) := by decide +kernel
theorem dX13_hasTile_17 : decode cX13_hasTile 17 = .ok (.getfield 280, 3) := by decide +kernel
theorem dX13_hasTile_20 : decode cX13_hasTile 20 = .ok (.iload_n 1, 1) := by decide +kernel
theorem dX13_hasTile_21 : decode cX13_hasTile 21 = .ok (.iaload, 1) := by decide +kernel
theorem dX13_hasTile_22 : decode cX13_hasTile 22 = .ok (.iconst (-1), 1) := by decide +kernel
theorem dX13_hasTile_23 : decode cX13_hasTile 23 = .ok (.if_icmp .eq 7, 3) := by decide +kernel
theorem dX13_hasTile_26 : decode cX13_hasTile 26 = .ok (.iconst 1, 1) := by decide +kernel
theorem dX13_hasTile_27 : decode cX13_hasTile 27 = .ok (.goto 12, 3) := by decide +kernel
theorem dX13_hasTile_30 : decode cX13_hasTile 30 = .ok (.iconst 0, 1) := by decide +kernel
theorem dX13_hasTile_31 : decode cX13_hasTile 31 = .ok (.goto 8, 3) := by decide +kernel
theorem dX13_hasTile_34 : decode cX13_hasTile 34 = .ok (.aload_n 0, 1) := by decide +kernel
theorem dX13_hasTile_35 : decode cX13_hasTile 35 = .ok (.iconst 1, 1) := by decide +kernel
theorem dX13_hasTile_36 : decode cX13_hasTile 36 = .ok (.invokevirtual 391, 3) := by decide +kernel
theorem dX13_hasTile_39 : decode cX13_hasTile 39 = .ok (.ireturn, 1) := by decide +kernel
theorem dX13_tileAt_0 : decode cX13_tileAt 0 = .ok (.aload_n 0, 1) := by decide +kernel
theorem dX13_tileAt_1 : decode cX13_tileAt 1 = .ok (.iconst 0, 1) := by decide +kernel
theorem dX13_tileAt_2 : decode cX13_tileAt 2 = .ok (.putfield 65, 3) := by decide +kernel
theorem dX13_tileAt_5 : decode cX13_tileAt 5 = .ok (.aload_n 0, 1) := by decide +kernel
theorem dX13_tileAt_6 : decode cX13_tileAt 6 = .ok (.iload_n 1, 1) := by decide +kernel
theorem dX13_tileAt_7 : decode cX13_tileAt 7 = .ok (.invokevirtual 388, 3) := by decide +kernel
theorem dX13_tileAt_10 : decode cX13_tileAt 10 = .ok (.ifCond .ne 9, 3) := by decide +kernel
theorem dX13_tileAt_13 : decode cX13_tileAt 13 = .ok (.aload_n 0, 1) := by decide +kernel
theorem dX13_tileAt_14 : decode cX13_tileAt 14 = .ok (.iconst 1, 1) := by decide +kernel
theorem dX13_tileAt_15 : decode cX13_tileAt 15 = .ok (.invokevirtual 254, 3) := by decide +kernel
theorem dX13_tileAt_18 : decode cX13_tileAt 18 = .ok (.ireturn, 1) := by decide +kernel
theorem dX13_tileAt_19 : decode cX13_tileAt 19 = .ok (.aload_n 0, 1) := by decide +kernel
theorem dX13_tileAt_20 : decode cX13_tileAt 20 = .ok (.getfield 48, 3) := by decide +kernel
theorem dX13_tileAt_23 : decode cX13_tileAt 23 = .ok (.getfield 280, 3) := by decide +kernel
theorem dX13_tileAt_26 : decode cX13_tileAt 26 = .ok (.iload_n 1, 1) := by decide +kernel
theorem dX13_tileAt_27 : decode cX13_tileAt 27 = .ok (.iaload, 1) := by decide +kernel
theorem dX13_tileAt_28 : decode cX13_tileAt 28 = .ok (.iconst (-1), 1) := by decide +kernel
theorem dX13_tileAt_29 : decode cX13_tileAt 29 = .ok (.if_icmp .ne 11, 3) := by decide +kernel
theorem dX13_tileAt_32 : decode cX13_tileAt 32 = .ok (.aload_n 0, 1) := by decide +kernel
theorem dX13_tileAt_33 : decode cX13_tileAt 33 = .ok (.iconst 2, 1) := by decide +kernel
theorem dX13_tileAt_34 : decode cX13_tileAt 34 = .ok (.invokevirtual 254, 3) := by decide +kernel
theorem dX13_tileAt_37 : decode cX13_tileAt 37 = .ok (.goto 12, 3) := by decide +kernel
theorem dX13_tileAt_40 : decode cX13_tileAt 40 = .ok (.aload_n 0, 1) := by decide +kernel
theorem dX13_tileAt_41 : decode cX13_tileAt 41 = .ok (.getfield 48, 3) := by decide +kernel
theorem dX13_tileAt_44 : decode cX13_tileAt 44 = .ok (.getfield 280, 3) := by decide +kernel
theorem dX13_tileAt_47 : decode cX13_tileAt 47 = .ok (.iload_n 1, 1) := by decide +kernel
theorem dX13_tileAt_48 : decode cX13_tileAt 48 = .ok (.iaload, 1) := by decide +kernel
theorem dX13_tileAt_49 : decode cX13_tileAt 49 = .ok (.ireturn, 1) := by decide +kernel
theorem dX13_numberAt__0 : decode cX13_numberAt_ 0 = .ok (.aload_n 0, 1) := by decide +kernel
theorem dX13_numberAt__1 : decode cX13_numberAt_ 1 = .ok (.iconst 0, 1) := by decide +kernel
theorem dX13_numberAt__2 : decode cX13_numberAt_ 2 = .ok (.putfield 65, 3) := by decide +kernel
theorem dX13_numberAt__5 : decode cX13_numberAt_ 5 = .ok (.aload_n 0, 1) := by decide +kernel
theorem dX13_numberAt__6 : decode cX13_numberAt_ 6 = .ok (.iload_n 1, 1) := by decide +kernel
theorem dX13_numberAt__7 : decode cX13_numberAt_ 7 = .ok (.invokevirtual 388, 3) := by decide +kernel
theorem dX13_numberAt__10 : decode cX13_numberAt_ 10 = .ok (.ifCond .eq 10, 3) := by decide +kernel
theorem dX13_numberAt__13 : decode cX13_numberAt_ 13 = .ok (.iload_n 2, 1) := by decide +kernel
theorem dX13_numberAt__14 : decode cX13_numberAt_ 14 = .ok (.invokestatic 394, 3) := by decide +kernel
theorem dX13_numberAt__17 : decode cX13_numberAt_ 17 = .ok (.ifCond .ne 9, 3) := by decide +kernel
theorem dX13_numberAt__20 : decode cX13_numberAt_ 20 = .ok (.aload_n 0, 1) := by decide +kernel
theorem dX13_numberAt__21 : decode cX13_numberAt_ 21 = .ok (.iconst 1, 1) := by decide +kernel
theorem dX13_numberAt__22 : decode cX13_numberAt_ 22 = .ok (.invokevirtual 254, 3) := by decide +kernel
theorem dX13_numberAt__25 : decode cX13_numberAt_ 25 = .ok (.ireturn, 1) := by decide +kernel
theorem dX13_numberAt__26 : decode cX13_numberAt_ 26 = .ok (.aload_n 0, 1) := by decide +kernel
theorem dX13_numberAt__27 : decode cX13_numberAt_ 27 = .ok (.getfield 48, 3) := by decide +kernel
theorem dX13_numberAt__30 : decode cX13_numberAt_ 30 = .ok (.getfield 280, 3) := by decide +kernel
theorem dX13_numberAt__33 : decode cX13_numberAt_ 33 = .ok (.iload_n 1, 1) := by decide +kernel
theorem dX13_numberAt__34 : decode cX13_numberAt_ 34 = .ok (.iaload, 1) := by decide +kernel
theorem dX13_numberAt__35 : decode cX13_numberAt_ 35 = .ok (.iconst (-1), 1) := by decide +kernel
theorem dX13_numberAt__36 : decode cX13_numberAt_ 36 = .ok (.if_icmp .ne 11, 3) := by decide +kernel
theorem dX13_numberAt__39 : decode cX13_numberAt_ 39 = .ok (.aload_n 0, 1) := by decide +kernel
theorem dX13_numberAt__40 : decode cX13_numberAt_ 40 = .ok (.iconst 2, 1) := by decide +kernel
theorem dX13_numberAt__41 : decode cX13_numberAt_ 41 = .ok (.invokevirtual 254, 3) := by decide +kernel
theorem dX13_numberAt__44 : decode cX13_numberAt_ 44 = .ok (.goto 13, 3) := by decide +kernel
theorem dX13_numberAt__47 : decode cX13_numberAt_ 47 = .ok (.aload_n 0, 1) := by decide +kernel
theorem dX13_numberAt__48 : decode cX13_numberAt_ 48 = .ok (.aload_n 0, 1) := by decide +kernel
theorem dX13_numberAt__49 : decode cX13_numberAt_ 49 = .ok (.getfield 48, 3) := by decide +kernel
theorem dX13_numberAt__52 : decode cX13_numberAt_ 52 = .ok (.iload_n 1, 1) := by decide +kernel
theorem dX13_numberAt__53 : decode cX13_numberAt_ 53 = .ok (.iload_n 2, 1) := by decide +kernel
theorem dX13_numberAt__54 : decode cX13_numberAt_ 54 = .ok (.invokevirtual 318, 3) := by decide +kernel
theorem dX13_numberAt__57 : decode cX13_numberAt_ 57 = .ok (.ireturn, 1) := by decide +kernel
theorem dX13_matchesAt_0 : decode cX13_matchesAt 0 = .ok (.aload_n 0, 1) := by decide +kernel
theorem dX13_matchesAt_1 : decode cX13_matchesAt 1 = .ok (.getfield 48, 3) := by decide +kernel
theorem dX13_matchesAt_4 : decode cX13_matchesAt 4 = .ok (.getfield 280, 3) := by decide +kernel
theorem dX13_matchesAt_7 : decode cX13_matchesAt 7 = .ok (.iload_n 1, 1) := by decide +kernel
theorem dX13_matchesAt_8 : decode cX13_matchesAt 8 = .ok (.iaload, 1) := by decide +kernel
theorem dX13_matchesAt_9 : decode cX13_matchesAt 9 = .ok (.iconst (-1), 1) := by decide +kernel
theorem dX13_matchesAt_10 : decode cX13_matchesAt 10 = .ok (.if_icmp .ne 7, 3) := by decide +kernel
theorem dX13_matchesAt_13 : decode cX13_matchesAt 13 = .ok (.iconst 0, 1) := by decide +kernel
theorem dX13_matchesAt_14 : decode cX13_matchesAt 14 = .ok (.goto 12, 3) := by decide +kernel
theorem dX13_matchesAt_17 : decode cX13_matchesAt 17 = .ok (.aload_n 0, 1) := by decide +kernel
theorem dX13_matchesAt_18 : decode cX13_matchesAt 18 = .ok (.aload_n 0, 1) := by decide +kernel
theorem dX13_matchesAt_19 : decode cX13_matchesAt 19 = .ok (.getfield 48, 3) := by decide +kernel
theorem dX13_matchesAt_22 : decode cX13_matchesAt 22 = .ok (.iload_n 1, 1) := by decide +kernel
theorem dX13_matchesAt_23 : decode cX13_matchesAt 23 = .ok (.invokevirtual 299, 3) := by decide +kernel
theorem dX13_matchesAt_26 : decode cX13_matchesAt 26 = .ok (.ireturn, 1) := by decide +kernel
theorem dX13_matchesOf_0 : decode cX13_matchesOf 0 = .ok (.aload_n 0, 1) := by decide +kernel
theorem dX13_matchesOf_1 : decode cX13_matchesOf 1 = .ok (.iconst 0, 1) := by decide +kernel
theorem dX13_matchesOf_2 : decode cX13_matchesOf 2 = .ok (.putfield 65, 3) := by decide +kernel
theorem dX13_matchesOf_5 : decode cX13_matchesOf 5 = .ok (.aload_n 0, 1) := by decide +kernel
theorem dX13_matchesOf_6 : decode cX13_matchesOf 6 = .ok (.iload_n 1, 1) := by decide +kernel
theorem dX13_matchesOf_7 : decode cX13_matchesOf 7 = .ok (.invokevirtual 388, 3) := by decide +kernel
theorem dX13_matchesOf_10 : decode cX13_matchesOf 10 = .ok (.ifCond .eq 11, 3) := by decide +kernel
theorem dX13_matchesOf_13 : decode cX13_matchesOf 13 = .ok (.aload_n 0, 1) := by decide +kernel
theorem dX13_matchesOf_14 : decode cX13_matchesOf 14 = .ok (.iload_n 1, 1) := by decide +kernel
theorem dX13_matchesOf_15 : decode cX13_matchesOf 15 = .ok (.invokevirtual 397, 3) := by decide +kernel
theorem dX13_matchesOf_18 : decode cX13_matchesOf 18 = .ok (.goto 8, 3) := by decide +kernel
theorem dX13_matchesOf_21 : decode cX13_matchesOf 21 = .ok (.aload_n 0, 1) := by decide +kernel
theorem dX13_matchesOf_22 : decode cX13_matchesOf 22 = .ok (.iconst 1, 1) := by decide +kernel
theorem dX13_matchesOf_23 : decode cX13_matchesOf 23 = .ok (.invokevirtual 254, 3) := by decide +kernel
theorem dX13_matchesOf_26 : decode cX13_matchesOf 26 = .ok (.ireturn, 1) := by decide +kernel
theorem dX13_isRing_0 : decode cX13_isRing 0 = .ok (.aload_n 0, 1) := by decide +kernel
theorem dX13_isRing_1 : decode cX13_isRing 1 = .ok (.iconst 0, 1) := by decide +kernel
theorem dX13_isRing_2 : decode cX13_isRing 2 = .ok (.putfield 65, 3) := by decide +kernel
theorem dX13_isRing_5 : decode cX13_isRing 5 = .ok (.aload_n 0, 1) := by decide +kernel
theorem dX13_isRing_6 : decode cX13_isRing 6 = .ok (.iload_n 1, 1) := by decide +kernel
theorem dX13_isRing_7 : decode cX13_isRing 7 = .ok (.invokevirtual 388, 3) := by decide +kernel
theorem dX13_isRing_10 : decode cX13_isRing 10 = .ok (.ifCond .eq 15, 3) := by decide +kernel
theorem dX13_isRing_13 : decode cX13_isRing 13 = .ok (.aload_n 0, 1) := by decide +kernel
theorem dX13_isRing_14 : decode cX13_isRing 14 = .ok (.aload_n 0, 1) := by decide +kernel
theorem dX13_isRing_15 : decode cX13_isRing 15 = .ok (.getfield 48, 3) := by decide +kernel
theorem dX13_isRing_18 : decode cX13_isRing 18 = .ok (.iload_n 1, 1) := by decide +kernel
theorem dX13_isRing_19 : decode cX13_isRing 19 = .ok (.invokevirtual 314, 3) := by decide +kernel
theorem dX13_isRing_22 : decode cX13_isRing 22 = .ok (.goto 8, 3) := by decide +kernel
theorem dX13_isRing_25 : decode cX13_isRing 25 = .ok (.aload_n 0, 1) := by decide +kernel
theorem dX13_isRing_26 : decode cX13_isRing 26 = .ok (.iconst 1, 1) := by decide +kernel
theorem dX13_isRing_27 : decode cX13_isRing 27 = .ok (.invokevirtual 391, 3) := by decide +kernel
theorem dX13_isRing_30 : decode cX13_isRing 30 = .ok (.ireturn, 1) := by decide +kernel
theorem dX13_isPlaced_0 : decode cX13_isPlaced 0 = .ok (.aload_n 0, 1) := by decide +kernel
theorem dX13_isPlaced_1 : decode cX13_isPlaced 1 = .ok (.iconst 0, 1) := by decide +kernel
theorem dX13_isPlaced_2 : decode cX13_isPlaced 2 = .ok (.putfield 65, 3) := by decide +kernel
theorem dX13_isPlaced_5 : decode cX13_isPlaced 5 = .ok (.aload_n 0, 1) := by decide +kernel
theorem dX13_isPlaced_6 : decode cX13_isPlaced 6 = .ok (.iload_n 1, 1) := by decide +kernel
theorem dX13_isPlaced_7 : decode cX13_isPlaced 7 = .ok (.invokevirtual 400, 3) := by decide +kernel
theorem dX13_isPlaced_10 : decode cX13_isPlaced 10 = .ok (.ifCond .eq 24, 3) := by decide +kernel
theorem dX13_isPlaced_13 : decode cX13_isPlaced 13 = .ok (.aload_n 0, 1) := by decide +kernel
theorem dX13_isPlaced_14 : decode cX13_isPlaced 14 = .ok (.getfield 48, 3) := by decide +kernel
theorem dX13_isPlaced_17 : decode cX13_isPlaced 17 = .ok (.getfield 293, 3) := by decide +kernel
theorem dX13_isPlaced_20 : decode cX13_isPlaced 20 = .ok (.iload_n 1, 1) := by decide +kernel
theorem dX13_isPlaced_21 : decode cX13_isPlaced 21 = .ok (.iaload, 1) := by decide +kernel
theorem dX13_isPlaced_22 : decode cX13_isPlaced 22 = .ok (.iconst (-1), 1) := by decide +kernel
theorem dX13_isPlaced_23 : decode cX13_isPlaced 23 = .ok (.if_icmp .eq 7, 3) := by decide +kernel
theorem dX13_isPlaced_26 : decode cX13_isPlaced 26 = .ok (.iconst 1, 1) := by decide +kernel
theorem dX13_isPlaced_27 : decode cX13_isPlaced 27 = .ok (.goto 12, 3) := by decide +kernel
theorem dX13_isPlaced_30 : decode cX13_isPlaced 30 = .ok (.iconst 0, 1) := by decide +kernel
theorem dX13_isPlaced_31 : decode cX13_isPlaced 31 = .ok (.goto 8, 3) := by decide +kernel
theorem dX13_isPlaced_34 : decode cX13_isPlaced 34 = .ok (.aload_n 0, 1) := by decide +kernel
theorem dX13_isPlaced_35 : decode cX13_isPlaced 35 = .ok (.iconst 1, 1) := by decide +kernel
theorem dX13_isPlaced_36 : decode cX13_isPlaced 36 = .ok (.invokevirtual 391, 3) := by decide +kernel
theorem dX13_isPlaced_39 : decode cX13_isPlaced 39 = .ok (.ireturn, 1) := by decide +kernel
theorem dX13_lies_0 : decode cX13_lies 0 = .ok (.aload_n 0, 1) := by decide +kernel
theorem dX13_lies_1 : decode cX13_lies 1 = .ok (.aload_n 0, 1) := by decide +kernel
theorem dX13_lies_2 : decode cX13_lies 2 = .ok (.iload_n 1, 1) := by decide +kernel
theorem dX13_lies_3 : decode cX13_lies 3 = .ok (.invokevirtual 400, 3) := by decide +kernel
theorem dX13_lies_6 : decode cX13_lies 6 = .ok (.ifCond .ne 7, 3) := by decide +kernel
theorem dX13_lies_9 : decode cX13_lies 9 = .ok (.iconst 1, 1) := by decide +kernel
theorem dX13_lies_10 : decode cX13_lies 10 = .ok (.goto 21, 3) := by decide +kernel
theorem dX13_lies_13 : decode cX13_lies 13 = .ok (.aload_n 0, 1) := by decide +kernel
theorem dX13_lies_14 : decode cX13_lies 14 = .ok (.getfield 48, 3) := by decide +kernel
theorem dX13_lies_17 : decode cX13_lies 17 = .ok (.getfield 293, 3) := by decide +kernel
theorem dX13_lies_20 : decode cX13_lies 20 = .ok (.iload_n 1, 1) := by decide +kernel
theorem dX13_lies_21 : decode cX13_lies 21 = .ok (.iaload, 1) := by decide +kernel
theorem dX13_lies_22 : decode cX13_lies 22 = .ok (.iconst (-1), 1) := by decide +kernel
theorem dX13_lies_23 : decode cX13_lies 23 = .ok (.if_icmp .ne 7, 3) := by decide +kernel
theorem dX13_lies_26 : decode cX13_lies 26 = .ok (.iconst 2, 1) := by decide +kernel
theorem dX13_lies_27 : decode cX13_lies 27 = .ok (.goto 4, 3) := by decide +kernel
theorem dX13_lies_30 : decode cX13_lies 30 = .ok (.iconst 0, 1) := by decide +kernel
theorem dX13_lies_31 : decode cX13_lies 31 = .ok (.putfield 65, 3) := by decide +kernel
theorem dX13_lies_34 : decode cX13_lies 34 = .ok (.aload_n 0, 1) := by decide +kernel
theorem dX13_lies_35 : decode cX13_lies 35 = .ok (.getfield 65, 3) := by decide +kernel
theorem dX13_lies_38 : decode cX13_lies 38 = .ok (.ifCond .ne 7, 3) := by decide +kernel
theorem dX13_lies_41 : decode cX13_lies 41 = .ok (.iconst 1, 1) := by decide +kernel
theorem dX13_lies_42 : decode cX13_lies 42 = .ok (.goto 4, 3) := by decide +kernel
theorem dX13_lies_45 : decode cX13_lies 45 = .ok (.iconst 0, 1) := by decide +kernel
theorem dX13_lies_46 : decode cX13_lies 46 = .ok (.ireturn, 1) := by decide +kernel
theorem dX13_cellOf_0 : decode cX13_cellOf 0 = .ok (.aload_n 0, 1) := by decide +kernel
theorem dX13_cellOf_1 : decode cX13_cellOf 1 = .ok (.iload_n 1, 1) := by decide +kernel
theorem dX13_cellOf_2 : decode cX13_cellOf 2 = .ok (.invokevirtual 403, 3) := by decide +kernel
theorem dX13_cellOf_5 : decode cX13_cellOf 5 = .ok (.ifCond .eq 15, 3) := by decide +kernel
theorem dX13_cellOf_8 : decode cX13_cellOf 8 = .ok (.aload_n 0, 1) := by decide +kernel
theorem dX13_cellOf_9 : decode cX13_cellOf 9 = .ok (.getfield 48, 3) := by decide +kernel
theorem dX13_cellOf_12 : decode cX13_cellOf 12 = .ok (.getfield 293, 3) := by decide +kernel
theorem dX13_cellOf_15 : decode cX13_cellOf 15 = .ok (.iload_n 1, 1) := by decide +kernel
theorem dX13_cellOf_16 : decode cX13_cellOf 16 = .ok (.iaload, 1) := by decide +kernel
theorem dX13_cellOf_17 : decode cX13_cellOf 17 = .ok (.goto 4, 3) := by decide +kernel
theorem dX13_cellOf_20 : decode cX13_cellOf 20 = .ok (.iconst 0, 1) := by decide +kernel
theorem dX13_cellOf_21 : decode cX13_cellOf 21 = .ok (.ireturn, 1) := by decide +kernel
theorem dX13_turnOf_0 : decode cX13_turnOf 0 = .ok (.aload_n 0, 1) := by decide +kernel
theorem dX13_turnOf_1 : decode cX13_turnOf 1 = .ok (.iload_n 1, 1) := by decide +kernel
theorem dX13_turnOf_2 : decode cX13_turnOf 2 = .ok (.invokevirtual 403, 3) := by decide +kernel
theorem dX13_turnOf_5 : decode cX13_turnOf 5 = .ok (.ifCond .eq 15, 3) := by decide +kernel
theorem dX13_turnOf_8 : decode cX13_turnOf 8 = .ok (.aload_n 0, 1) := by decide +kernel
theorem dX13_turnOf_9 : decode cX13_turnOf 9 = .ok (.getfield 48, 3) := by decide +kernel
theorem dX13_turnOf_12 : decode cX13_turnOf 12 = .ok (.getfield 283, 3) := by decide +kernel
theorem dX13_turnOf_15 : decode cX13_turnOf 15 = .ok (.iload_n 1, 1) := by decide +kernel
theorem dX13_turnOf_16 : decode cX13_turnOf 16 = .ok (.iaload, 1) := by decide +kernel
theorem dX13_turnOf_17 : decode cX13_turnOf 17 = .ok (.goto 4, 3) := by decide +kernel
theorem dX13_turnOf_20 : decode cX13_turnOf 20 = .ok (.iconst 0, 1) := by decide +kernel
theorem dX13_turnOf_21 : decode cX13_turnOf 21 = .ok (.ireturn, 1) := by decide +kernel
theorem dX13_isAsked_0 : decode cX13_isAsked 0 = .ok (.aload_n 0, 1) := by decide +kernel
theorem dX13_isAsked_1 : decode cX13_isAsked 1 = .ok (.iload_n 1, 1) := by decide +kernel
theorem dX13_isAsked_2 : decode cX13_isAsked 2 = .ok (.invokevirtual 400, 3) := by decide +kernel
theorem dX13_isAsked_5 : decode cX13_isAsked 5 = .ok (.ifCond .eq 22, 3) := by decide +kernel
theorem dX13_isAsked_8 : decode cX13_isAsked 8 = .ok (.aload_n 0, 1) := by decide +kernel
theorem dX13_isAsked_9 : decode cX13_isAsked 9 = .ok (.iload_n 2, 1) := by decide +kernel
theorem dX13_isAsked_10 : decode cX13_isAsked 10 = .ok (.invokevirtual 388, 3) := by decide +kernel
theorem dX13_isAsked_13 : decode cX13_isAsked 13 = .ok (.ifCond .eq 14, 3) := by decide +kernel
theorem dX13_isAsked_16 : decode cX13_isAsked 16 = .ok (.iload_n 3, 1) := by decide +kernel
theorem dX13_isAsked_17 : decode cX13_isAsked 17 = .ok (.invokestatic 394, 3) := by decide +kernel
theorem dX13_isAsked_20 : decode cX13_isAsked 20 = .ok (.ifCond .eq 7, 3) := by decide +kernel
theorem dX13_isAsked_23 : decode cX13_isAsked 23 = .ok (.iconst 1, 1) := by decide +kernel
theorem dX13_isAsked_24 : decode cX13_isAsked 24 = .ok (.goto 4, 3) := by decide +kernel
theorem dX13_isAsked_27 : decode cX13_isAsked 27 = .ok (.iconst 0, 1) := by decide +kernel
theorem dX13_isAsked_28 : decode cX13_isAsked 28 = .ok (.istore 4, 2) := by decide +kernel
theorem dX13_isAsked_30 : decode cX13_isAsked 30 = .ok (.aload_n 0, 1) := by decide +kernel
theorem dX13_isAsked_31 : decode cX13_isAsked 31 = .ok (.iload 4, 2) := by decide +kernel
theorem dX13_isAsked_33 : decode cX13_isAsked 33 = .ok (.ifCond .eq 7, 3) := by decide +kernel
theorem dX13_isAsked_36 : decode cX13_isAsked 36 = .ok (.iconst 0, 1) := by decide +kernel
theorem dX13_isAsked_37 : decode cX13_isAsked 37 = .ok (.goto 4, 3) := by decide +kernel
theorem dX13_isAsked_40 : decode cX13_isAsked 40 = .ok (.iconst 1, 1) := by decide +kernel
theorem dX13_isAsked_41 : decode cX13_isAsked 41 = .ok (.putfield 65, 3) := by decide +kernel
theorem dX13_isAsked_44 : decode cX13_isAsked 44 = .ok (.iload 4, 2) := by decide +kernel
theorem dX13_isAsked_46 : decode cX13_isAsked 46 = .ok (.ireturn, 1) := by decide +kernel
theorem dX13_fits__0 : decode cX13_fits_ 0 = .ok (.aload_n 0, 1) := by decide +kernel
theorem dX13_fits__1 : decode cX13_fits_ 1 = .ok (.iload_n 1, 1) := by decide +kernel
theorem dX13_fits__2 : decode cX13_fits_ 2 = .ok (.iload_n 2, 1) := by decide +kernel
theorem dX13_fits__3 : decode cX13_fits_ 3 = .ok (.iload_n 3, 1) := by decide +kernel
theorem dX13_fits__4 : decode cX13_fits_ 4 = .ok (.invokevirtual 406, 3) := by decide +kernel
theorem dX13_fits__7 : decode cX13_fits_ 7 = .ok (.ifCond .eq 21, 3) := by decide +kernel
theorem dX13_fits__10 : decode cX13_fits_ 10 = .ok (.aload_n 0, 1) := by decide +kernel
theorem dX13_fits__11 : decode cX13_fits_ 11 = .ok (.aload_n 0, 1) := by decide +kernel
theorem dX13_fits__12 : decode cX13_fits_ 12 = .ok (.getfield 48, 3) := by decide +kernel
theorem dX13_fits__15 : decode cX13_fits_ 15 = .ok (.iload_n 1, 1) := by decide +kernel
theorem dX13_fits__16 : decode cX13_fits_ 16 = .ok (.iload_n 2, 1) := by decide +kernel
theorem dX13_fits__17 : decode cX13_fits_ 17 = .ok (.iload_n 3, 1) := by decide +kernel
theorem dX13_fits__18 : decode cX13_fits_ 18 = .ok (.invokevirtual 310, 3) := by decide +kernel
theorem dX13_fits__21 : decode cX13_fits_ 21 = .ok (.ifCond .eq 7, 3) := by decide +kernel
theorem dX13_fits__24 : decode cX13_fits_ 24 = .ok (.iconst 1, 1) := by decide +kernel
theorem dX13_fits__25 : decode cX13_fits_ 25 = .ok (.goto 4, 3) := by decide +kernel
theorem dX13_fits__28 : decode cX13_fits_ 28 = .ok (.iconst 0, 1) := by decide +kernel
theorem dX13_fits__29 : decode cX13_fits_ 29 = .ok (.ireturn, 1) := by decide +kernel
theorem dX13_edgeAgainst_0 : decode cX13_edgeAgainst 0 = .ok (.aload_n 0, 1) := by decide +kernel
theorem dX13_edgeAgainst_1 : decode cX13_edgeAgainst 1 = .ok (.iload_n 1, 1) := by decide +kernel
theorem dX13_edgeAgainst_2 : decode cX13_edgeAgainst 2 = .ok (.iload_n 2, 1) := by decide +kernel
theorem dX13_edgeAgainst_3 : decode cX13_edgeAgainst 3 = .ok (.iload_n 3, 1) := by decide +kernel
theorem dX13_edgeAgainst_4 : decode cX13_edgeAgainst 4 = .ok (.invokevirtual 406, 3) := by decide +kernel
theorem dX13_edgeAgainst_7 : decode cX13_edgeAgainst 7 = .ok (.ifCond .eq 17, 3) := by decide +kernel
theorem dX13_edgeAgainst_10 : decode cX13_edgeAgainst 10 = .ok (.aload_n 0, 1) := by decide +kernel
theorem dX13_edgeAgainst_11 : decode cX13_edgeAgainst 11 = .ok (.aload_n 0, 1) := by decide +kernel
theorem dX13_edgeAgainst_12 : decode cX13_edgeAgainst 12 = .ok (.getfield 48, 3) := by decide +kernel
theorem dX13_edgeAgainst_15 : decode cX13_edgeAgainst 15 = .ok (.iload_n 1, 1) := by decide +kernel
theorem dX13_edgeAgainst_16 : decode cX13_edgeAgainst 16 = .ok (.iload_n 2, 1) := by decide +kernel
theorem dX13_edgeAgainst_17 : decode cX13_edgeAgainst 17 = .ok (.iload_n 3, 1) := by decide +kernel
theorem dX13_edgeAgainst_18 : decode cX13_edgeAgainst 18 = .ok (.invokevirtual 303, 3) := by decide +kernel
theorem dX13_edgeAgainst_21 : decode cX13_edgeAgainst 21 = .ok (.goto 4, 3) := by decide +kernel
theorem dX13_edgeAgainst_24 : decode cX13_edgeAgainst 24 = .ok (.iconst 0, 1) := by decide +kernel
theorem dX13_edgeAgainst_25 : decode cX13_edgeAgainst 25 = .ok (.ireturn, 1) := by decide +kernel
theorem dX13_waysOf_0 : decode cX13_waysOf 0 = .ok (.aload_n 0, 1) := by decide +kernel
theorem dX13_waysOf_1 : decode cX13_waysOf 1 = .ok (.iconst 0, 1) := by decide +kernel
theorem dX13_waysOf_2 : decode cX13_waysOf 2 = .ok (.putfield 65, 3) := by decide +kernel
theorem dX13_waysOf_5 : decode cX13_waysOf 5 = .ok (.aload_n 0, 1) := by decide +kernel
theorem dX13_waysOf_6 : decode cX13_waysOf 6 = .ok (.iload_n 1, 1) := by decide +kernel
theorem dX13_waysOf_7 : decode cX13_waysOf 7 = .ok (.invokevirtual 400, 3) := by decide +kernel
theorem dX13_waysOf_10 : decode cX13_waysOf 10 = .ok (.ifCond .eq 15, 3) := by decide +kernel
theorem dX13_waysOf_13 : decode cX13_waysOf 13 = .ok (.aload_n 0, 1) := by decide +kernel
theorem dX13_waysOf_14 : decode cX13_waysOf 14 = .ok (.aload_n 0, 1) := by decide +kernel
theorem dX13_waysOf_15 : decode cX13_waysOf 15 = .ok (.getfield 48, 3) := by decide +kernel
theorem dX13_waysOf_18 : decode cX13_waysOf 18 = .ok (.iload_n 1, 1) := by decide +kernel
theorem dX13_waysOf_19 : decode cX13_waysOf 19 = .ok (.invokevirtual 352, 3) := by decide +kernel
theorem dX13_waysOf_22 : decode cX13_waysOf 22 = .ok (.goto 8, 3) := by decide +kernel
theorem dX13_waysOf_25 : decode cX13_waysOf 25 = .ok (.aload_n 0, 1) := by decide +kernel
theorem dX13_waysOf_26 : decode cX13_waysOf 26 = .ok (.iconst 1, 1) := by decide +kernel
theorem dX13_waysOf_27 : decode cX13_waysOf 27 = .ok (.invokevirtual 254, 3) := by decide +kernel
theorem dX13_waysOf_30 : decode cX13_waysOf 30 = .ok (.ireturn, 1) := by decide +kernel
theorem dX13_leftover_0 : decode cX13_leftover 0 = .ok (.aload_n 0, 1) := by decide +kernel
theorem dX13_leftover_1 : decode cX13_leftover 1 = .ok (.getfield 48, 3) := by decide +kernel
theorem dX13_leftover_4 : decode cX13_leftover 4 = .ok (.getfield 293, 3) := by decide +kernel
theorem dX13_leftover_7 : decode cX13_leftover 7 = .ok (.iload_n 1, 1) := by decide +kernel
theorem dX13_leftover_8 : decode cX13_leftover 8 = .ok (.iaload, 1) := by decide +kernel
theorem dX13_leftover_9 : decode cX13_leftover 9 = .ok (.iconst (-1), 1) := by decide +kernel
theorem dX13_leftover_10 : decode cX13_leftover 10 = .ok (.if_icmp .ne 20, 3) := by decide +kernel
theorem dX13_leftover_13 : decode cX13_leftover 13 = .ok (.aload_n 0, 1) := by decide +kernel
theorem dX13_leftover_14 : decode cX13_leftover 14 = .ok (.aload_n 0, 1) := by decide +kernel
theorem dX13_leftover_15 : decode cX13_leftover 15 = .ok (.getfield 48, 3) := by decide +kernel
theorem dX13_leftover_18 : decode cX13_leftover 18 = .ok (.iload_n 1, 1) := by decide +kernel
theorem dX13_leftover_19 : decode cX13_leftover 19 = .ok (.invokevirtual 355, 3) := by decide +kernel
theorem dX13_leftover_22 : decode cX13_leftover 22 = .ok (.iconst (-1), 1) := by decide +kernel
theorem dX13_leftover_23 : decode cX13_leftover 23 = .ok (.if_icmp .ne 7, 3) := by decide +kernel
theorem dX13_leftover_26 : decode cX13_leftover 26 = .ok (.iconst 1, 1) := by decide +kernel
theorem dX13_leftover_27 : decode cX13_leftover 27 = .ok (.goto 4, 3) := by decide +kernel
theorem dX13_leftover_30 : decode cX13_leftover 30 = .ok (.iconst 0, 1) := by decide +kernel
theorem dX13_leftover_31 : decode cX13_leftover 31 = .ok (.ireturn, 1) := by decide +kernel
theorem dX13_isLeftover_0 : decode cX13_isLeftover 0 = .ok (.aload_n 0, 1) := by decide +kernel
theorem dX13_isLeftover_1 : decode cX13_isLeftover 1 = .ok (.iconst 0, 1) := by decide +kernel
theorem dX13_isLeftover_2 : decode cX13_isLeftover 2 = .ok (.putfield 65, 3) := by decide +kernel
theorem dX13_isLeftover_5 : decode cX13_isLeftover 5 = .ok (.aload_n 0, 1) := by decide +kernel
theorem dX13_isLeftover_6 : decode cX13_isLeftover 6 = .ok (.iload_n 1, 1) := by decide +kernel
theorem dX13_isLeftover_7 : decode cX13_isLeftover 7 = .ok (.invokevirtual 400, 3) := by decide +kernel
theorem dX13_isLeftover_10 : decode cX13_isLeftover 10 = .ok (.ifCond .eq 11, 3) := by decide +kernel
theorem dX13_isLeftover_13 : decode cX13_isLeftover 13 = .ok (.aload_n 0, 1) := by decide +kernel
theorem dX13_isLeftover_14 : decode cX13_isLeftover 14 = .ok (.iload_n 1, 1) := by decide +kernel
theorem dX13_isLeftover_15 : decode cX13_isLeftover 15 = .ok (.invokevirtual 409, 3) := by decide +kernel
theorem dX13_isLeftover_18 : decode cX13_isLeftover 18 = .ok (.goto 8, 3) := by decide +kernel
theorem dX13_isLeftover_21 : decode cX13_isLeftover 21 = .ok (.aload_n 0, 1) := by decide +kernel
theorem dX13_isLeftover_22 : decode cX13_isLeftover 22 = .ok (.iconst 1, 1) := by decide +kernel
theorem dX13_isLeftover_23 : decode cX13_isLeftover 23 = .ok (.invokevirtual 391, 3) := by decide +kernel
theorem dX13_isLeftover_26 : decode cX13_isLeftover 26 = .ok (.ireturn, 1) := by decide +kernel
theorem dX13_looksToProve_0 : decode cX13_looksToProve 0 = .ok (.aload_n 0, 1) := by decide +kernel
theorem dX13_looksToProve_1 : decode cX13_looksToProve 1 = .ok (.iconst 0, 1) := by decide +kernel
theorem dX13_looksToProve_2 : decode cX13_looksToProve 2 = .ok (.putfield 65, 3) := by decide +kernel
theorem dX13_looksToProve_5 : decode cX13_looksToProve 5 = .ok (.aload_n 0, 1) := by decide +kernel
theorem dX13_looksToProve_6 : decode cX13_looksToProve 6 = .ok (.iload_n 1, 1) := by decide +kernel
theorem dX13_looksToProve_7 : decode cX13_looksToProve 7 = .ok (.invokevirtual 400, 3) := by decide +kernel
theorem dX13_looksToProve_10 : decode cX13_looksToProve 10 = .ok (.ifCond .ne 9, 3) := by decide +kernel
theorem dX13_looksToProve_13 : decode cX13_looksToProve 13 = .ok (.aload_n 0, 1) := by decide +kernel
theorem dX13_looksToProve_14 : decode cX13_looksToProve 14 = .ok (.iconst 1, 1) := by decide +kernel
theorem dX13_looksToProve_15 : decode cX13_looksToProve 15 = .ok (.invokevirtual 254, 3) := by decide +kernel
theorem dX13_looksToProve_18 : decode cX13_looksToProve 18 = .ok (.ireturn, 1) := by decide +kernel
theorem dX13_looksToProve_19 : decode cX13_looksToProve 19 = .ok (.aload_n 0, 1) := by decide +kernel
theorem dX13_looksToProve_20 : decode cX13_looksToProve 20 = .ok (.iload_n 1, 1) := by decide +kernel
theorem dX13_looksToProve_21 : decode cX13_looksToProve 21 = .ok (.invokevirtual 409, 3) := by decide +kernel
theorem dX13_looksToProve_24 : decode cX13_looksToProve 24 = .ok (.ifCond .ne 9, 3) := by decide +kernel
theorem dX13_looksToProve_27 : decode cX13_looksToProve 27 = .ok (.aload_n 0, 1) := by decide +kernel
theorem dX13_looksToProve_28 : decode cX13_looksToProve 28 = .ok (.iconst 2, 1) := by decide +kernel
theorem dX13_looksToProve_29 : decode cX13_looksToProve 29 = .ok (.invokevirtual 254, 3) := by decide +kernel
theorem dX13_looksToProve_32 : decode cX13_looksToProve 32 = .ok (.ireturn, 1) := by decide +kernel
theorem dX13_looksToProve_33 : decode cX13_looksToProve 33 = .ok (.iconst 0, 1) := by decide +kernel
theorem dX13_looksToProve_34 : decode cX13_looksToProve 34 = .ok (.istore_n 2, 1) := by decide +kernel
theorem dX13_looksToProve_35 : decode cX13_looksToProve 35 = .ok (.iconst 0, 1) := by decide +kernel
theorem dX13_looksToProve_36 : decode cX13_looksToProve 36 = .ok (.istore_n 3, 1) := by decide +kernel
theorem dX13_looksToProve_37 : decode cX13_looksToProve 37 = .ok (.iload_n 3, 1) := by decide +kernel
theorem dX13_looksToProve_38 : decode cX13_looksToProve 38 = .ok (.aload_n 0, 1) := by decide +kernel
theorem dX13_looksToProve_39 : decode cX13_looksToProve 39 = .ok (.invokevirtual 307, 3) := by decide +kernel
theorem dX13_looksToProve_42 : decode cX13_looksToProve 42 = .ok (.if_icmp .ge 42, 3) := by decide +kernel
theorem dX13_looksToProve_45 : decode cX13_looksToProve 45 = .ok (.iload_n 2, 1) := by decide +kernel
theorem dX13_looksToProve_46 : decode cX13_looksToProve 46 = .ok (.aload_n 0, 1) := by decide +kernel
theorem dX13_looksToProve_47 : decode cX13_looksToProve 47 = .ok (.getfield 48, 3) := by decide +kernel
theorem dX13_looksToProve_50 : decode cX13_looksToProve 50 = .ok (.getfield 280, 3) := by decide +kernel
theorem dX13_looksToProve_53 : decode cX13_looksToProve 53 = .ok (.iload_n 3, 1) := by decide +kernel
theorem dX13_looksToProve_54 : decode cX13_looksToProve 54 = .ok (.iaload, 1) := by decide +kernel
theorem dX13_looksToProve_55 : decode cX13_looksToProve 55 = .ok (.iconst (-1), 1) := by decide +kernel
theorem dX13_looksToProve_56 : decode cX13_looksToProve 56 = .ok (.if_icmp .ne 19, 3) := by decide +kernel
theorem dX13_looksToProve_59 : decode cX13_looksToProve 59 = .ok (.aload_n 0, 1) := by decide +kernel
theorem dX13_looksToProve_60 : decode cX13_looksToProve 60 = .ok (.aload_n 0, 1) := by decide +kernel
theorem dX13_looksToProve_61 : decode cX13_looksToProve 61 = .ok (.getfield 48, 3) := by decide +kernel
theorem dX13_looksToProve_64 : decode cX13_looksToProve 64 = .ok (.iload_n 3, 1) := by decide +kernel
theorem dX13_looksToProve_65 : decode cX13_looksToProve 65 = .ok (.invokevirtual 299, 3) := by decide +kernel
theorem dX13_looksToProve_68 : decode cX13_looksToProve 68 = .ok (.ifCond .le 7, 3) := by decide +kernel
theorem dX13_looksToProve_71 : decode cX13_looksToProve 71 = .ok (.iconst 1, 1) := by decide +kernel
theorem dX13_looksToProve_72 : decode cX13_looksToProve 72 = .ok (.goto 4, 3) := by decide +kernel
theorem dX13_looksToProve_75 : decode cX13_looksToProve 75 = .ok (.iconst 0, 1) := by decide +kernel
theorem dX13_looksToProve_76 : decode cX13_looksToProve 76 = .ok (.iadd, 1) := by decide +kernel
theorem dX13_looksToProve_77 : decode cX13_looksToProve 77 = .ok (.istore_n 2, 1) := by decide +kernel
theorem dX13_looksToProve_78 : decode cX13_looksToProve 78 = .ok (.iinc 3 1, 3) := by decide +kernel
theorem dX13_looksToProve_81 : decode cX13_looksToProve 81 = .ok (.goto (-44), 3) := by decide +kernel
theorem dX13_looksToProve_84 : decode cX13_looksToProve 84 = .ok (.aload_n 0, 1) := by decide +kernel
theorem dX13_looksToProve_85 : decode cX13_looksToProve 85 = .ok (.getfield 35, 3) := by decide +kernel
theorem dX13_looksToProve_88 : decode cX13_looksToProve 88 = .ok (.getfield 214, 3) := by decide +kernel
theorem dX13_looksToProve_91 : decode cX13_looksToProve 91 = .ok (.iconst 3, 1) := by decide +kernel
theorem dX13_looksToProve_92 : decode cX13_looksToProve 92 = .ok (.iload_n 1, 1) := by decide +kernel
theorem dX13_looksToProve_93 : decode cX13_looksToProve 93 = .ok (.imul, 1) := by decide +kernel
theorem dX13_looksToProve_94 : decode cX13_looksToProve 94 = .ok (.iaload, 1) := by decide +kernel
theorem dX13_looksToProve_95 : decode cX13_looksToProve 95 = .ok (.aload_n 0, 1) := by decide +kernel
theorem dX13_looksToProve_96 : decode cX13_looksToProve 96 = .ok (.getfield 35, 3) := by decide +kernel
theorem dX13_looksToProve_99 : decode cX13_looksToProve 99 = .ok (.getfield 214, 3) := by decide +kernel
theorem dX13_looksToProve_102 : decode cX13_looksToProve 102 = .ok (.iconst 3, 1) := by decide +kernel
theorem dX13_looksToProve_103 : decode cX13_looksToProve 103 = .ok (.iload_n 1, 1) := by decide +kernel
theorem dX13_looksToProve_104 : decode cX13_looksToProve 104 = .ok (.imul, 1) := by decide +kernel
theorem dX13_looksToProve_105 : decode cX13_looksToProve 105 = .ok (.iconst 1, 1) := by decide +kernel
theorem dX13_looksToProve_106 : decode cX13_looksToProve 106 = .ok (.iadd, 1) := by decide +kernel
theorem dX13_looksToProve_107 : decode cX13_looksToProve 107 = .ok (.iaload, 1) := by decide +kernel
theorem dX13_looksToProve_108 : decode cX13_looksToProve 108 = .ok (.if_icmp .ne 34, 3) := by decide +kernel
theorem dX13_looksToProve_111 : decode cX13_looksToProve 111 = .ok (.aload_n 0, 1) := by decide +kernel
theorem dX13_looksToProve_112 : decode cX13_looksToProve 112 = .ok (.getfield 35, 3) := by decide +kernel
theorem dX13_looksToProve_115 : decode cX13_looksToProve 115 = .ok (.getfield 214, 3) := by decide +kernel
theorem dX13_looksToProve_118 : decode cX13_looksToProve 118 = .ok (.iconst 3, 1) := by decide +kernel
theorem dX13_looksToProve_119 : decode cX13_looksToProve 119 = .ok (.iload_n 1, 1) := by decide +kernel
theorem dX13_looksToProve_120 : decode cX13_looksToProve 120 = .ok (.imul, 1) := by decide +kernel
theorem dX13_looksToProve_121 : decode cX13_looksToProve 121 = .ok (.iaload, 1) := by decide +kernel
theorem dX13_looksToProve_122 : decode cX13_looksToProve 122 = .ok (.aload_n 0, 1) := by decide +kernel
theorem dX13_looksToProve_123 : decode cX13_looksToProve 123 = .ok (.getfield 35, 3) := by decide +kernel
theorem dX13_looksToProve_126 : decode cX13_looksToProve 126 = .ok (.getfield 214, 3) := by decide +kernel
theorem dX13_looksToProve_129 : decode cX13_looksToProve 129 = .ok (.iconst 3, 1) := by decide +kernel
theorem dX13_looksToProve_130 : decode cX13_looksToProve 130 = .ok (.iload_n 1, 1) := by decide +kernel
theorem dX13_looksToProve_131 : decode cX13_looksToProve 131 = .ok (.imul, 1) := by decide +kernel
theorem dX13_looksToProve_132 : decode cX13_looksToProve 132 = .ok (.iconst 2, 1) := by decide +kernel
theorem dX13_looksToProve_133 : decode cX13_looksToProve 133 = .ok (.iadd, 1) := by decide +kernel
theorem dX13_looksToProve_134 : decode cX13_looksToProve 134 = .ok (.iaload, 1) := by decide +kernel
theorem dX13_looksToProve_135 : decode cX13_looksToProve 135 = .ok (.if_icmp .ne 7, 3) := by decide +kernel
theorem dX13_looksToProve_138 : decode cX13_looksToProve 138 = .ok (.iconst 1, 1) := by decide +kernel
theorem dX13_looksToProve_139 : decode cX13_looksToProve 139 = .ok (.goto 4, 3) := by decide +kernel
theorem dX13_looksToProve_142 : decode cX13_looksToProve 142 = .ok (.iconst 0, 1) := by decide +kernel
theorem dX13_looksToProve_143 : decode cX13_looksToProve 143 = .ok (.istore_n 3, 1) := by decide +kernel
theorem dX13_looksToProve_144 : decode cX13_looksToProve 144 = .ok (.iload_n 3, 1) := by decide +kernel
theorem dX13_looksToProve_145 : decode cX13_looksToProve 145 = .ok (.ifCond .eq 7, 3) := by decide +kernel
theorem dX13_looksToProve_148 : decode cX13_looksToProve 148 = .ok (.iload_n 2, 1) := by decide +kernel
theorem dX13_looksToProve_149 : decode cX13_looksToProve 149 = .ok (.goto 7, 3) := by decide +kernel
theorem dX13_looksToProve_152 : decode cX13_looksToProve 152 = .ok (.bipush 6, 2) := by decide +kernel
theorem dX13_looksToProve_154 : decode cX13_looksToProve 154 = .ok (.iload_n 2, 1) := by decide +kernel
theorem dX13_looksToProve_155 : decode cX13_looksToProve 155 = .ok (.imul, 1) := by decide +kernel
theorem dX13_looksToProve_156 : decode cX13_looksToProve 156 = .ok (.ireturn, 1) := by decide +kernel
theorem dX13_putTile_0 : decode cX13_putTile 0 = .ok (.aload_n 0, 1) := by decide +kernel
theorem dX13_putTile_1 : decode cX13_putTile 1 = .ok (.iload_n 1, 1) := by decide +kernel
theorem dX13_putTile_2 : decode cX13_putTile 2 = .ok (.iload_n 2, 1) := by decide +kernel
theorem dX13_putTile_3 : decode cX13_putTile 3 = .ok (.iload_n 3, 1) := by decide +kernel
theorem dX13_putTile_4 : decode cX13_putTile 4 = .ok (.invokevirtual 406, 3) := by decide +kernel
theorem dX13_putTile_7 : decode cX13_putTile 7 = .ok (.ifCond .ne 5, 3) := by decide +kernel
theorem dX13_putTile_10 : decode cX13_putTile 10 = .ok (.iconst 0, 1) := by decide +kernel
theorem dX13_putTile_11 : decode cX13_putTile 11 = .ok (.ireturn, 1) := by decide +kernel
theorem dX13_putTile_12 : decode cX13_putTile 12 = .ok (.aload_n 0, 1) := by decide +kernel
theorem dX13_putTile_13 : decode cX13_putTile 13 = .ok (.aload_n 0, 1) := by decide +kernel
theorem dX13_putTile_14 : decode cX13_putTile 14 = .ok (.getfield 48, 3) := by decide +kernel
theorem dX13_putTile_17 : decode cX13_putTile 17 = .ok (.iload_n 1, 1) := by decide +kernel
theorem dX13_putTile_18 : decode cX13_putTile 18 = .ok (.iload_n 2, 1) := by decide +kernel
theorem dX13_putTile_19 : decode cX13_putTile 19 = .ok (.iload_n 3, 1) := by decide +kernel
theorem dX13_putTile_20 : decode cX13_putTile 20 = .ok (.invokevirtual 310, 3) := by decide +kernel
theorem dX13_putTile_23 : decode cX13_putTile 23 = .ok (.ifCond .ne 9, 3) := by decide +kernel
theorem dX13_putTile_26 : decode cX13_putTile 26 = .ok (.aload_n 0, 1) := by decide +kernel
theorem dX13_putTile_27 : decode cX13_putTile 27 = .ok (.iconst 2, 1) := by decide +kernel
theorem dX13_putTile_28 : decode cX13_putTile 28 = .ok (.invokevirtual 254, 3) := by decide +kernel
theorem dX13_putTile_31 : decode cX13_putTile 31 = .ok (.ireturn, 1) := by decide +kernel
theorem dX13_putTile_32 : decode cX13_putTile 32 = .ok (.aload_n 0, 1) := by decide +kernel
theorem dX13_putTile_33 : decode cX13_putTile 33 = .ok (.aload_n 0, 1) := by decide +kernel
theorem dX13_putTile_34 : decode cX13_putTile 34 = .ok (.getfield 48, 3) := by decide +kernel
theorem dX13_putTile_37 : decode cX13_putTile 37 = .ok (.invokevirtual 349, 3) := by decide +kernel
theorem dX13_putTile_40 : decode cX13_putTile 40 = .ok (.istore 4, 2) := by decide +kernel
theorem dX13_putTile_42 : decode cX13_putTile 42 = .ok (.aload_n 0, 1) := by decide +kernel
theorem dX13_putTile_43 : decode cX13_putTile 43 = .ok (.getfield 48, 3) := by decide +kernel
theorem dX13_putTile_46 : decode cX13_putTile 46 = .ok (.iload_n 1, 1) := by decide +kernel
theorem dX13_putTile_47 : decode cX13_putTile 47 = .ok (.iload_n 2, 1) := by decide +kernel
theorem dX13_putTile_48 : decode cX13_putTile 48 = .ok (.iload_n 3, 1) := by decide +kernel
theorem dX13_putTile_49 : decode cX13_putTile 49 = .ok (.invokevirtual 364, 3) := by decide +kernel
theorem dX13_putTile_52 : decode cX13_putTile 52 = .ok (.aload_n 0, 1) := by decide +kernel
theorem dX13_putTile_53 : decode cX13_putTile 53 = .ok (.aload_n 0, 1) := by decide +kernel
theorem dX13_putTile_54 : decode cX13_putTile 54 = .ok (.getfield 48, 3) := by decide +kernel
theorem dX13_putTile_57 : decode cX13_putTile 57 = .ok (.invokevirtual 349, 3) := by decide +kernel
theorem dX13_putTile_60 : decode cX13_putTile 60 = .ok (.iload 4, 2) := by decide +kernel
theorem dX13_putTile_62 : decode cX13_putTile 62 = .ok (.isub, 1) := by decide +kernel
theorem dX13_putTile_63 : decode cX13_putTile 63 = .ok (.ireturn, 1) := by decide +kernel
theorem dX13_takeTile_0 : decode cX13_takeTile 0 = .ok (.aload_n 0, 1) := by decide +kernel
theorem dX13_takeTile_1 : decode cX13_takeTile 1 = .ok (.iload_n 1, 1) := by decide +kernel
theorem dX13_takeTile_2 : decode cX13_takeTile 2 = .ok (.invokevirtual 403, 3) := by decide +kernel
theorem dX13_takeTile_5 : decode cX13_takeTile 5 = .ok (.ifCond .ne 5, 3) := by decide +kernel
theorem dX13_takeTile_8 : decode cX13_takeTile 8 = .ok (.iconst 0, 1) := by decide +kernel
theorem dX13_takeTile_9 : decode cX13_takeTile 9 = .ok (.ireturn, 1) := by decide +kernel
theorem dX13_takeTile_10 : decode cX13_takeTile 10 = .ok (.aload_n 0, 1) := by decide +kernel
theorem dX13_takeTile_11 : decode cX13_takeTile 11 = .ok (.aload_n 0, 1) := by decide +kernel
theorem dX13_takeTile_12 : decode cX13_takeTile 12 = .ok (.getfield 48, 3) := by decide +kernel
theorem dX13_takeTile_15 : decode cX13_takeTile 15 = .ok (.invokevirtual 349, 3) := by decide +kernel
theorem dX13_takeTile_18 : decode cX13_takeTile 18 = .ok (.istore_n 2, 1) := by decide +kernel
theorem dX13_takeTile_19 : decode cX13_takeTile 19 = .ok (.aload_n 0, 1) := by decide +kernel
theorem dX13_takeTile_20 : decode cX13_takeTile 20 = .ok (.getfield 48, 3) := by decide +kernel
theorem dX13_takeTile_23 : decode cX13_takeTile 23 = .ok (.iload_n 1, 1) := by decide +kernel
theorem dX13_takeTile_24 : decode cX13_takeTile 24 = .ok (.invokevirtual 378, 3) := by decide +kernel
theorem dX13_takeTile_27 : decode cX13_takeTile 27 = .ok (.iload_n 2, 1) := by decide +kernel
theorem dX13_takeTile_28 : decode cX13_takeTile 28 = .ok (.aload_n 0, 1) := by decide +kernel
theorem dX13_takeTile_29 : decode cX13_takeTile 29 = .ok (.aload_n 0, 1) := by decide +kernel
theorem dX13_takeTile_30 : decode cX13_takeTile 30 = .ok (.getfield 48, 3) := by decide +kernel
theorem dX13_takeTile_33 : decode cX13_takeTile 33 = .ok (.invokevirtual 349, 3) := by decide +kernel
theorem dX13_takeTile_36 : decode cX13_takeTile 36 = .ok (.isub, 1) := by decide +kernel
theorem dX13_takeTile_37 : decode cX13_takeTile 37 = .ok (.ireturn, 1) := by decide +kernel
theorem dX13_fitTile_0 : decode cX13_fitTile 0 = .ok (.aload_n 0, 1) := by decide +kernel
theorem dX13_fitTile_1 : decode cX13_fitTile 1 = .ok (.iconst 0, 1) := by decide +kernel
theorem dX13_fitTile_2 : decode cX13_fitTile 2 = .ok (.putfield 65, 3) := by decide +kernel
theorem dX13_fitTile_5 : decode cX13_fitTile 5 = .ok (.aload_n 0, 1) := by decide +kernel
theorem dX13_fitTile_6 : decode cX13_fitTile 6 = .ok (.iload_n 1, 1) := by decide +kernel
theorem dX13_fitTile_7 : decode cX13_fitTile 7 = .ok (.invokevirtual 400, 3) := by decide +kernel
theorem dX13_fitTile_10 : decode cX13_fitTile 10 = .ok (.ifCond .ne 9, 3) := by decide +kernel
theorem dX13_fitTile_13 : decode cX13_fitTile 13 = .ok (.aload_n 0, 1) := by decide +kernel
theorem dX13_fitTile_14 : decode cX13_fitTile 14 = .ok (.iconst 1, 1) := by decide +kernel
theorem dX13_fitTile_15 : decode cX13_fitTile 15 = .ok (.invokevirtual 254, 3) := by decide +kernel
theorem dX13_fitTile_18 : decode cX13_fitTile 18 = .ok (.ireturn, 1) := by decide +kernel
theorem dX13_fitTile_19 : decode cX13_fitTile 19 = .ok (.aload_n 0, 1) := by decide +kernel
theorem dX13_fitTile_20 : decode cX13_fitTile 20 = .ok (.aload_n 0, 1) := by decide +kernel
theorem dX13_fitTile_21 : decode cX13_fitTile 21 = .ok (.getfield 48, 3) := by decide +kernel
theorem dX13_fitTile_24 : decode cX13_fitTile 24 = .ok (.iload_n 1, 1) := by decide +kernel
theorem dX13_fitTile_25 : decode cX13_fitTile 25 = .ok (.invokevirtual 371, 3) := by decide +kernel
theorem dX13_fitTile_28 : decode cX13_fitTile 28 = .ok (.ifCond .eq 15, 3) := by decide +kernel
theorem dX13_fitTile_31 : decode cX13_fitTile 31 = .ok (.aload_n 0, 1) := by decide +kernel
theorem dX13_fitTile_32 : decode cX13_fitTile 32 = .ok (.getfield 48, 3) := by decide +kernel
theorem dX13_fitTile_35 : decode cX13_fitTile 35 = .ok (.getfield 293, 3) := by decide +kernel
theorem dX13_fitTile_38 : decode cX13_fitTile 38 = .ok (.iload_n 1, 1) := by decide +kernel
theorem dX13_fitTile_39 : decode cX13_fitTile 39 = .ok (.iaload, 1) := by decide +kernel
theorem dX13_fitTile_40 : decode cX13_fitTile 40 = .ok (.goto 8, 3) := by decide +kernel
theorem dX13_fitTile_43 : decode cX13_fitTile 43 = .ok (.aload_n 0, 1) := by decide +kernel
theorem dX13_fitTile_44 : decode cX13_fitTile 44 = .ok (.iconst 2, 1) := by decide +kernel
theorem dX13_fitTile_45 : decode cX13_fitTile 45 = .ok (.invokevirtual 254, 3) := by decide +kernel
theorem dX13_fitTile_48 : decode cX13_fitTile 48 = .ok (.ireturn, 1) := by decide +kernel
theorem dX13_playRounds_0 : decode cX13_playRounds 0 = .ok (.aload_n 0, 1) := by decide +kernel
theorem dX13_playRounds_1 : decode cX13_playRounds 1 = .ok (.iconst 0, 1) := by decide +kernel
theorem dX13_playRounds_2 : decode cX13_playRounds 2 = .ok (.putfield 65, 3) := by decide +kernel
theorem dX13_playRounds_5 : decode cX13_playRounds 5 = .ok (.iload_n 1, 1) := by decide +kernel
theorem dX13_playRounds_6 : decode cX13_playRounds 6 = .ok (.iconst 1, 1) := by decide +kernel
theorem dX13_playRounds_7 : decode cX13_playRounds 7 = .ok (.bipush 20, 2) := by decide +kernel
theorem dX13_playRounds_9 : decode cX13_playRounds 9 = .ok (.invokestatic 68, 3) := by decide +kernel
theorem dX13_playRounds_12 : decode cX13_playRounds 12 = .ok (.ifCond .ne 9, 3) := by decide +kernel
theorem dX13_playRounds_15 : decode cX13_playRounds 15 = .ok (.aload_n 0, 1) := by decide +kernel
theorem dX13_playRounds_16 : decode cX13_playRounds 16 = .ok (.iconst 1, 1) := by decide +kernel
theorem dX13_playRounds_17 : decode cX13_playRounds 17 = .ok (.invokevirtual 254, 3) := by decide +kernel
theorem dX13_playRounds_20 : decode cX13_playRounds 20 = .ok (.ireturn, 1) := by decide +kernel
theorem dX13_playRounds_21 : decode cX13_playRounds 21 = .ok (.iconst 0, 1) := by decide +kernel
theorem dX13_playRounds_22 : decode cX13_playRounds 22 = .ok (.istore_n 2, 1) := by decide +kernel
theorem dX13_playRounds_23 : decode cX13_playRounds 23 = .ok (.iconst 0, 1) := by decide +kernel
theorem dX13_playRounds_24 : decode cX13_playRounds 24 = .ok (.istore_n 3, 1) := by decide +kernel
theorem dX13_playRounds_25 : decode cX13_playRounds 25 = .ok (.iload_n 3, 1) := by decide +kernel
theorem dX13_playRounds_26 : decode cX13_playRounds 26 = .ok (.iload_n 1, 1) := by decide +kernel
theorem dX13_playRounds_27 : decode cX13_playRounds 27 = .ok (.if_icmp .ge 20, 3) := by decide +kernel
theorem dX13_playRounds_30 : decode cX13_playRounds 30 = .ok (.iload_n 2, 1) := by decide +kernel
theorem dX13_playRounds_31 : decode cX13_playRounds 31 = .ok (.aload_n 0, 1) := by decide +kernel
theorem dX13_playRounds_32 : decode cX13_playRounds 32 = .ok (.aload_n 0, 1) := by decide +kernel
theorem dX13_playRounds_33 : decode cX13_playRounds 33 = .ok (.getfield 48, 3) := by decide +kernel
theorem dX13_playRounds_36 : decode cX13_playRounds 36 = .ok (.invokevirtual 412, 3) := by decide +kernel
theorem dX13_playRounds_39 : decode cX13_playRounds 39 = .ok (.iadd, 1) := by decide +kernel
theorem dX13_playRounds_40 : decode cX13_playRounds 40 = .ok (.istore_n 2, 1) := by decide +kernel
theorem dX13_playRounds_41 : decode cX13_playRounds 41 = .ok (.iinc 3 1, 3) := by decide +kernel
theorem dX13_playRounds_44 : decode cX13_playRounds 44 = .ok (.goto (-19), 3) := by decide +kernel
theorem dX13_playRounds_47 : decode cX13_playRounds 47 = .ok (.iload_n 2, 1) := by decide +kernel
theorem dX13_playRounds_48 : decode cX13_playRounds 48 = .ok (.ireturn, 1) := by decide +kernel
theorem dX13_pointsAfter_0 : decode cX13_pointsAfter 0 = .ok (.aload_n 0, 1) := by decide +kernel
theorem dX13_pointsAfter_1 : decode cX13_pointsAfter 1 = .ok (.iconst 0, 1) := by decide +kernel
theorem dX13_pointsAfter_2 : decode cX13_pointsAfter 2 = .ok (.putfield 65, 3) := by decide +kernel
theorem dX13_pointsAfter_5 : decode cX13_pointsAfter 5 = .ok (.iload_n 1, 1) := by decide +kernel
theorem dX13_pointsAfter_6 : decode cX13_pointsAfter 6 = .ok (.iconst 1, 1) := by decide +kernel
theorem dX13_pointsAfter_7 : decode cX13_pointsAfter 7 = .ok (.bipush 20, 2) := by decide +kernel
theorem dX13_pointsAfter_9 : decode cX13_pointsAfter 9 = .ok (.invokestatic 68, 3) := by decide +kernel
theorem dX13_pointsAfter_12 : decode cX13_pointsAfter 12 = .ok (.ifCond .ne 9, 3) := by decide +kernel
theorem dX13_pointsAfter_15 : decode cX13_pointsAfter 15 = .ok (.aload_n 0, 1) := by decide +kernel
theorem dX13_pointsAfter_16 : decode cX13_pointsAfter 16 = .ok (.iconst 1, 1) := by decide +kernel
theorem dX13_pointsAfter_17 : decode cX13_pointsAfter 17 = .ok (.invokevirtual 254, 3) := by decide +kernel
theorem dX13_pointsAfter_20 : decode cX13_pointsAfter 20 = .ok (.ireturn, 1) := by decide +kernel
theorem dX13_pointsAfter_21 : decode cX13_pointsAfter 21 = .ok (.aload_n 0, 1) := by decide +kernel
theorem dX13_pointsAfter_22 : decode cX13_pointsAfter 22 = .ok (.getfield 52, 3) := by decide +kernel
theorem dX13_pointsAfter_25 : decode cX13_pointsAfter 25 = .ok (.aload_n 0, 1) := by decide +kernel
theorem dX13_pointsAfter_26 : decode cX13_pointsAfter 26 = .ok (.getfield 48, 3) := by decide +kernel
theorem dX13_pointsAfter_29 : decode cX13_pointsAfter 29 = .ok (.invokevirtual 415, 3) := by decide +kernel
theorem dX13_pointsAfter_32 : decode cX13_pointsAfter 32 = .ok (.iconst 0, 1) := by decide +kernel
theorem dX13_pointsAfter_33 : decode cX13_pointsAfter 33 = .ok (.istore_n 2, 1) := by decide +kernel
theorem dX13_pointsAfter_34 : decode cX13_pointsAfter 34 = .ok (.iload_n 2, 1) := by decide +kernel
theorem dX13_pointsAfter_35 : decode cX13_pointsAfter 35 = .ok (.iload_n 1, 1) := by decide +kernel
theorem dX13_pointsAfter_36 : decode cX13_pointsAfter 36 = .ok (.if_icmp .ge 18, 3) := by decide +kernel
theorem dX13_pointsAfter_39 : decode cX13_pointsAfter 39 = .ok (.aload_n 0, 1) := by decide +kernel
theorem dX13_pointsAfter_40 : decode cX13_pointsAfter 40 = .ok (.aload_n 0, 1) := by decide +kernel
theorem dX13_pointsAfter_41 : decode cX13_pointsAfter 41 = .ok (.getfield 52, 3) := by decide +kernel
theorem dX13_pointsAfter_44 : decode cX13_pointsAfter 44 = .ok (.invokevirtual 412, 3) := by decide +kernel
theorem dX13_pointsAfter_47 : decode cX13_pointsAfter 47 = .ok (.pop, 1) := by decide +kernel
theorem dX13_pointsAfter_48 : decode cX13_pointsAfter 48 = .ok (.iinc 2 1, 3) := by decide +kernel
theorem dX13_pointsAfter_51 : decode cX13_pointsAfter 51 = .ok (.goto (-17), 3) := by decide +kernel
theorem dX13_pointsAfter_54 : decode cX13_pointsAfter 54 = .ok (.aload_n 0, 1) := by decide +kernel
theorem dX13_pointsAfter_55 : decode cX13_pointsAfter 55 = .ok (.aload_n 0, 1) := by decide +kernel
theorem dX13_pointsAfter_56 : decode cX13_pointsAfter 56 = .ok (.getfield 52, 3) := by decide +kernel
theorem dX13_pointsAfter_59 : decode cX13_pointsAfter 59 = .ok (.invokevirtual 349, 3) := by decide +kernel
theorem dX13_pointsAfter_62 : decode cX13_pointsAfter 62 = .ok (.ireturn, 1) := by decide +kernel
theorem dX13_roundsUntilRing_0 : decode cX13_roundsUntilRing 0 = .ok (.aload_n 0, 1) := by decide +kernel
theorem dX13_roundsUntilRing_1 : decode cX13_roundsUntilRing 1 = .ok (.iconst 0, 1) := by decide +kernel
theorem dX13_roundsUntilRing_2 : decode cX13_roundsUntilRing 2 = .ok (.putfield 65, 3) := by decide +kernel
theorem dX13_roundsUntilRing_5 : decode cX13_roundsUntilRing 5 = .ok (.aload_n 0, 1) := by decide +kernel
theorem dX13_roundsUntilRing_6 : decode cX13_roundsUntilRing 6 = .ok (.getfield 52, 3) := by decide +kernel
theorem dX13_roundsUntilRing_9 : decode cX13_roundsUntilRing 9 = .ok (.aload_n 0, 1) := by decide +kernel
theorem dX13_roundsUntilRing_10 : decode cX13_roundsUntilRing 10 = .ok (.getfield 48, 3) := by decide +kernel
theorem dX13_roundsUntilRing_13 : decode cX13_roundsUntilRing 13 = .ok (.invokevirtual 415, 3) := by decide +kernel
theorem dX13_roundsUntilRing_16 : decode cX13_roundsUntilRing 16 = .ok (.iconst 0, 1) := by decide +kernel
theorem dX13_roundsUntilRing_17 : decode cX13_roundsUntilRing 17 = .ok (.istore_n 1, 1) := by decide +kernel
theorem dX13_roundsUntilRing_18 : decode cX13_roundsUntilRing 18 = .ok (.iload_n 1, 1) := by decide +kernel
theorem dX13_roundsUntilRing_19 : decode cX13_roundsUntilRing 19 = .ok (.bipush 20, 2) := by decide +kernel
theorem dX13_roundsUntilRing_21 : decode cX13_roundsUntilRing 21 = .ok (.if_icmp .gt 31, 3) := by decide +kernel
theorem dX13_roundsUntilRing_24 : decode cX13_roundsUntilRing 24 = .ok (.aload_n 0, 1) := by decide +kernel
theorem dX13_roundsUntilRing_25 : decode cX13_roundsUntilRing 25 = .ok (.aload_n 0, 1) := by decide +kernel
theorem dX13_roundsUntilRing_26 : decode cX13_roundsUntilRing 26 = .ok (.getfield 52, 3) := by decide +kernel
theorem dX13_roundsUntilRing_29 : decode cX13_roundsUntilRing 29 = .ok (.invokevirtual 325, 3) := by decide +kernel
theorem dX13_roundsUntilRing_32 : decode cX13_roundsUntilRing 32 = .ok (.ifCond .le 5, 3) := by decide +kernel
theorem dX13_roundsUntilRing_35 : decode cX13_roundsUntilRing 35 = .ok (.iload_n 1, 1) := by decide +kernel
theorem dX13_roundsUntilRing_36 : decode cX13_roundsUntilRing 36 = .ok (.ireturn, 1) := by decide +kernel
theorem dX13_roundsUntilRing_37 : decode cX13_roundsUntilRing 37 = .ok (.aload_n 0, 1) := by decide +kernel
theorem dX13_roundsUntilRing_38 : decode cX13_roundsUntilRing 38 = .ok (.aload_n 0, 1) := by decide +kernel
theorem dX13_roundsUntilRing_39 : decode cX13_roundsUntilRing 39 = .ok (.getfield 52, 3) := by decide +kernel
theorem dX13_roundsUntilRing_42 : decode cX13_roundsUntilRing 42 = .ok (.invokevirtual 412, 3) := by decide +kernel
theorem dX13_roundsUntilRing_45 : decode cX13_roundsUntilRing 45 = .ok (.pop, 1) := by decide +kernel
theorem dX13_roundsUntilRing_46 : decode cX13_roundsUntilRing 46 = .ok (.iinc 1 1, 3) := by decide +kernel
theorem dX13_roundsUntilRing_49 : decode cX13_roundsUntilRing 49 = .ok (.goto (-31), 3) := by decide +kernel
theorem dX13_roundsUntilRing_52 : decode cX13_roundsUntilRing 52 = .ok (.iconst (-1), 1) := by decide +kernel
theorem dX13_roundsUntilRing_53 : decode cX13_roundsUntilRing 53 = .ok (.ireturn, 1) := by decide +kernel
theorem dX13_bestCell_0 : decode cX13_bestCell 0 = .ok (.aload_n 0, 1) := by decide +kernel
theorem dX13_bestCell_1 : decode cX13_bestCell 1 = .ok (.iconst 0, 1) := by decide +kernel
theorem dX13_bestCell_2 : decode cX13_bestCell 2 = .ok (.putfield 65, 3) := by decide +kernel
theorem dX13_bestCell_5 : decode cX13_bestCell 5 = .ok (.aload_n 0, 1) := by decide +kernel
theorem dX13_bestCell_6 : decode cX13_bestCell 6 = .ok (.iload_n 1, 1) := by decide +kernel
theorem dX13_bestCell_7 : decode cX13_bestCell 7 = .ok (.invokevirtual 400, 3) := by decide +kernel
theorem dX13_bestCell_10 : decode cX13_bestCell 10 = .ok (.ifCond .ne 9, 3) := by decide +kernel
theorem dX13_bestCell_13 : decode cX13_bestCell 13 = .ok (.aload_n 0, 1) := by decide +kernel
theorem dX13_bestCell_14 : decode cX13_bestCell 14 = .ok (.iconst 1, 1) := by decide +kernel
theorem dX13_bestCell_15 : decode cX13_bestCell 15 = .ok (.invokevirtual 254, 3) := by decide +kernel
theorem dX13_bestCell_18 : decode cX13_bestCell 18 = .ok (.ireturn, 1) := by decide +kernel
theorem dX13_bestCell_19 : decode cX13_bestCell 19 = .ok (.aload_n 0, 1) := by decide +kernel
theorem dX13_bestCell_20 : decode cX13_bestCell 20 = .ok (.aload_n 0, 1) := by decide +kernel
theorem dX13_bestCell_21 : decode cX13_bestCell 21 = .ok (.getfield 48, 3) := by decide +kernel
theorem dX13_bestCell_24 : decode cX13_bestCell 24 = .ok (.iload_n 1, 1) := by decide +kernel
theorem dX13_bestCell_25 : decode cX13_bestCell 25 = .ok (.invokevirtual 418, 3) := by decide +kernel
theorem dX13_bestCell_28 : decode cX13_bestCell 28 = .ok (.ifCond .eq 10, 3) := by decide +kernel
theorem dX13_bestCell_31 : decode cX13_bestCell 31 = .ok (.aload_n 0, 1) := by decide +kernel
theorem dX13_bestCell_32 : decode cX13_bestCell 32 = .ok (.getfield 337, 3) := by decide +kernel
theorem dX13_bestCell_35 : decode cX13_bestCell 35 = .ok (.goto 8, 3) := by decide +kernel
theorem dX13_bestCell_38 : decode cX13_bestCell 38 = .ok (.aload_n 0, 1) := by decide +kernel
theorem dX13_bestCell_39 : decode cX13_bestCell 39 = .ok (.iconst 2, 1) := by decide +kernel
theorem dX13_bestCell_40 : decode cX13_bestCell 40 = .ok (.invokevirtual 254, 3) := by decide +kernel
theorem dX13_bestCell_43 : decode cX13_bestCell 43 = .ok (.ireturn, 1) := by decide +kernel
theorem dX13_bestTurn_0 : decode cX13_bestTurn 0 = .ok (.aload_n 0, 1) := by decide +kernel
theorem dX13_bestTurn_1 : decode cX13_bestTurn 1 = .ok (.iconst 0, 1) := by decide +kernel
theorem dX13_bestTurn_2 : decode cX13_bestTurn 2 = .ok (.putfield 65, 3) := by decide +kernel
theorem dX13_bestTurn_5 : decode cX13_bestTurn 5 = .ok (.aload_n 0, 1) := by decide +kernel
theorem dX13_bestTurn_6 : decode cX13_bestTurn 6 = .ok (.iload_n 1, 1) := by decide +kernel
theorem dX13_bestTurn_7 : decode cX13_bestTurn 7 = .ok (.invokevirtual 400, 3) := by decide +kernel
theorem dX13_bestTurn_10 : decode cX13_bestTurn 10 = .ok (.ifCond .ne 9, 3) := by decide +kernel
theorem dX13_bestTurn_13 : decode cX13_bestTurn 13 = .ok (.aload_n 0, 1) := by decide +kernel
theorem dX13_bestTurn_14 : decode cX13_bestTurn 14 = .ok (.iconst 1, 1) := by decide +kernel
theorem dX13_bestTurn_15 : decode cX13_bestTurn 15 = .ok (.invokevirtual 254, 3) := by decide +kernel
theorem dX13_bestTurn_18 : decode cX13_bestTurn 18 = .ok (.ireturn, 1) := by decide +kernel
theorem dX13_bestTurn_19 : decode cX13_bestTurn 19 = .ok (.aload_n 0, 1) := by decide +kernel
theorem dX13_bestTurn_20 : decode cX13_bestTurn 20 = .ok (.aload_n 0, 1) := by decide +kernel
theorem dX13_bestTurn_21 : decode cX13_bestTurn 21 = .ok (.getfield 48, 3) := by decide +kernel
theorem dX13_bestTurn_24 : decode cX13_bestTurn 24 = .ok (.iload_n 1, 1) := by decide +kernel
theorem dX13_bestTurn_25 : decode cX13_bestTurn 25 = .ok (.invokevirtual 418, 3) := by decide +kernel
theorem dX13_bestTurn_28 : decode cX13_bestTurn 28 = .ok (.ifCond .eq 10, 3) := by decide +kernel
theorem dX13_bestTurn_31 : decode cX13_bestTurn 31 = .ok (.aload_n 0, 1) := by decide +kernel
theorem dX13_bestTurn_32 : decode cX13_bestTurn 32 = .ok (.getfield 340, 3) := by decide +kernel
theorem dX13_bestTurn_35 : decode cX13_bestTurn 35 = .ok (.goto 8, 3) := by decide +kernel
theorem dX13_bestTurn_38 : decode cX13_bestTurn 38 = .ok (.aload_n 0, 1) := by decide +kernel
theorem dX13_bestTurn_39 : decode cX13_bestTurn 39 = .ok (.iconst 2, 1) := by decide +kernel
theorem dX13_bestTurn_40 : decode cX13_bestTurn 40 = .ok (.invokevirtual 254, 3) := by decide +kernel
theorem dX13_bestTurn_43 : decode cX13_bestTurn 43 = .ok (.ireturn, 1) := by decide +kernel
theorem dX13_best_0 : decode cX13_best 0 = .ok (.iconst (-1), 1) := by decide +kernel
theorem dX13_best_1 : decode cX13_best 1 = .ok (.istore_n 1, 1) := by decide +kernel
theorem dX13_best_2 : decode cX13_best 2 = .ok (.iconst (-1), 1) := by decide +kernel
theorem dX13_best_3 : decode cX13_best 3 = .ok (.istore_n 2, 1) := by decide +kernel
theorem dX13_best_4 : decode cX13_best 4 = .ok (.iconst 0, 1) := by decide +kernel
theorem dX13_best_5 : decode cX13_best 5 = .ok (.istore_n 3, 1) := by decide +kernel
theorem dX13_best_6 : decode cX13_best 6 = .ok (.iload_n 3, 1) := by decide +kernel
theorem dX13_best_7 : decode cX13_best 7 = .ok (.aload_n 0, 1) := by decide +kernel
theorem dX13_best_8 : decode cX13_best 8 = .ok (.getfield 35, 3) := by decide +kernel
theorem dX13_best_11 : decode cX13_best 11 = .ok (.getfield 150, 3) := by decide +kernel
theorem dX13_best_14 : decode cX13_best 14 = .ok (.if_icmp .ge 39, 3) := by decide +kernel
theorem dX13_best_17 : decode cX13_best 17 = .ok (.aload_n 0, 1) := by decide +kernel
theorem dX13_best_18 : decode cX13_best 18 = .ok (.aload_n 0, 1) := by decide +kernel
theorem dX13_best_19 : decode cX13_best 19 = .ok (.getfield 48, 3) := by decide +kernel
theorem dX13_best_22 : decode cX13_best 22 = .ok (.iload_n 3, 1) := by decide +kernel
theorem dX13_best_23 : decode cX13_best 23 = .ok (.invokevirtual 418, 3) := by decide +kernel
theorem dX13_best_26 : decode cX13_best 26 = .ok (.ifCond .eq 21, 3) := by decide +kernel
theorem dX13_best_29 : decode cX13_best 29 = .ok (.aload_n 0, 1) := by decide +kernel
theorem dX13_best_30 : decode cX13_best 30 = .ok (.getfield 331, 3) := by decide +kernel
theorem dX13_best_33 : decode cX13_best 33 = .ok (.iload_n 2, 1) := by decide +kernel
theorem dX13_best_34 : decode cX13_best 34 = .ok (.if_icmp .gt 6, 3) := by decide +kernel
theorem dX13_best_37 : decode cX13_best 37 = .ok (.goto 10, 3) := by decide +kernel
theorem dX13_best_40 : decode cX13_best 40 = .ok (.aload_n 0, 1) := by decide +kernel
theorem dX13_best_41 : decode cX13_best 41 = .ok (.getfield 331, 3) := by decide +kernel
theorem dX13_best_44 : decode cX13_best 44 = .ok (.istore_n 2, 1) := by decide +kernel
theorem dX13_best_45 : decode cX13_best 45 = .ok (.iload_n 3, 1) := by decide +kernel
theorem dX13_best_46 : decode cX13_best 46 = .ok (.istore_n 1, 1) := by decide +kernel
theorem dX13_best_47 : decode cX13_best 47 = .ok (.iinc 3 1, 3) := by decide +kernel
theorem dX13_best_50 : decode cX13_best 50 = .ok (.goto (-44), 3) := by decide +kernel
theorem dX13_best_53 : decode cX13_best 53 = .ok (.iload_n 1, 1) := by decide +kernel
theorem dX13_best_54 : decode cX13_best 54 = .ok (.ireturn, 1) := by decide +kernel
theorem dX13_bestTile_0 : decode cX13_bestTile 0 = .ok (.aload_n 0, 1) := by decide +kernel
theorem dX13_bestTile_1 : decode cX13_bestTile 1 = .ok (.aload_n 0, 1) := by decide +kernel
theorem dX13_bestTile_2 : decode cX13_bestTile 2 = .ok (.invokevirtual 421, 3) := by decide +kernel
theorem dX13_bestTile_5 : decode cX13_bestTile 5 = .ok (.invokevirtual 268, 3) := by decide +kernel
theorem dX13_bestTile_8 : decode cX13_bestTile 8 = .ok (.ireturn, 1) := by decide +kernel
theorem dX13_meanMatch_0 : decode cX13_meanMatch 0 = .ok (.aload_n 0, 1) := by decide +kernel
theorem dX13_meanMatch_1 : decode cX13_meanMatch 1 = .ok (.iconst 0, 1) := by decide +kernel
theorem dX13_meanMatch_2 : decode cX13_meanMatch 2 = .ok (.putfield 65, 3) := by decide +kernel
theorem dX13_meanMatch_5 : decode cX13_meanMatch 5 = .ok (.aload_n 0, 1) := by decide +kernel
theorem dX13_meanMatch_6 : decode cX13_meanMatch 6 = .ok (.aload_n 0, 1) := by decide +kernel
theorem dX13_meanMatch_7 : decode cX13_meanMatch 7 = .ok (.getfield 48, 3) := by decide +kernel
theorem dX13_meanMatch_10 : decode cX13_meanMatch 10 = .ok (.invokevirtual 346, 3) := by decide +kernel
theorem dX13_meanMatch_13 : decode cX13_meanMatch 13 = .ok (.ifCond .ne 7, 3) := by decide +kernel
theorem dX13_meanMatch_16 : decode cX13_meanMatch 16 = .ok (.dconst 0, 1) := by decide +kernel
theorem dX13_meanMatch_17 : decode cX13_meanMatch 17 = .ok (.goto 22, 3) := by decide +kernel
theorem dX13_meanMatch_20 : decode cX13_meanMatch 20 = .ok (.aload_n 0, 1) := by decide +kernel
theorem dX13_meanMatch_21 : decode cX13_meanMatch 21 = .ok (.aload_n 0, 1) := by decide +kernel
theorem dX13_meanMatch_22 : decode cX13_meanMatch 22 = .ok (.getfield 48, 3) := by decide +kernel
theorem dX13_meanMatch_25 : decode cX13_meanMatch 25 = .ok (.invokevirtual 321, 3) := by decide +kernel
theorem dX13_meanMatch_28 : decode cX13_meanMatch 28 = .ok (.i2d, 1) := by decide +kernel
theorem dX13_meanMatch_29 : decode cX13_meanMatch 29 = .ok (.aload_n 0, 1) := by decide +kernel
theorem dX13_meanMatch_30 : decode cX13_meanMatch 30 = .ok (.aload_n 0, 1) := by decide +kernel
theorem dX13_meanMatch_31 : decode cX13_meanMatch 31 = .ok (.getfield 48, 3) := by decide +kernel
theorem dX13_meanMatch_34 : decode cX13_meanMatch 34 = .ok (.invokevirtual 346, 3) := by decide +kernel
theorem dX13_meanMatch_37 : decode cX13_meanMatch 37 = .ok (.i2d, 1) := by decide +kernel
theorem dX13_meanMatch_38 : decode cX13_meanMatch 38 = .ok (.ddiv, 1) := by decide +kernel
theorem dX13_meanMatch_39 : decode cX13_meanMatch 39 = .ok (.dreturn, 1) := by decide +kernel
theorem dX13_digest_0 : decode cX13_digest 0 = .ok (.bipush 10, 2) := by decide +kernel
theorem dX13_digest_2 : decode cX13_digest 2 = .ok (.newarray .int, 2) := by decide +kernel
theorem dX13_digest_4 : decode cX13_digest 4 = .ok (.dup, 1) := by decide +kernel
theorem dX13_digest_5 : decode cX13_digest 5 = .ok (.iconst 0, 1) := by decide +kernel
theorem dX13_digest_6 : decode cX13_digest 6 = .ok (.aload_n 0, 1) := by decide +kernel
theorem dX13_digest_7 : decode cX13_digest 7 = .ok (.getfield 35, 3) := by decide +kernel
theorem dX13_digest_10 : decode cX13_digest 10 = .ok (.getfield 245, 3) := by decide +kernel
theorem dX13_digest_13 : decode cX13_digest 13 = .ok (.iastore, 1) := by decide +kernel
theorem dX13_digest_14 : decode cX13_digest 14 = .ok (.dup, 1) := by decide +kernel
theorem dX13_digest_15 : decode cX13_digest 15 = .ok (.iconst 1, 1) := by decide +kernel
theorem dX13_digest_16 : decode cX13_digest 16 = .ok (.aload_n 0, 1) := by decide +kernel
theorem dX13_digest_17 : decode cX13_digest 17 = .ok (.getfield 35, 3) := by decide +kernel
theorem dX13_digest_20 : decode cX13_digest 20 = .ok (.getfield 248, 3) := by decide +kernel
theorem dX13_digest_23 : decode cX13_digest 23 = .ok (.iastore, 1) := by decide +kernel
theorem dX13_digest_24 : decode cX13_digest 24 = .ok (.dup, 1) := by decide +kernel
theorem dX13_digest_25 : decode cX13_digest 25 = .ok (.iconst 2, 1) := by decide +kernel
theorem dX13_digest_26 : decode cX13_digest 26 = .ok (.aload_n 0, 1) := by decide +kernel
theorem dX13_digest_27 : decode cX13_digest 27 = .ok (.getfield 35, 3) := by decide +kernel
theorem dX13_digest_30 : decode cX13_digest 30 = .ok (.getfield 150, 3) := by decide +kernel
theorem dX13_digest_33 : decode cX13_digest 33 = .ok (.iastore, 1) := by decide +kernel
theorem dX13_digest_34 : decode cX13_digest 34 = .ok (.dup, 1) := by decide +kernel
theorem dX13_digest_35 : decode cX13_digest 35 = .ok (.iconst 3, 1) := by decide +kernel
theorem dX13_digest_36 : decode cX13_digest 36 = .ok (.aload_n 0, 1) := by decide +kernel
theorem dX13_digest_37 : decode cX13_digest 37 = .ok (.getfield 48, 3) := by decide +kernel
theorem dX13_digest_40 : decode cX13_digest 40 = .ok (.getfield 343, 3) := by decide +kernel
theorem dX13_digest_43 : decode cX13_digest 43 = .ok (.iastore, 1) := by decide +kernel
theorem dX13_digest_44 : decode cX13_digest 44 = .ok (.dup, 1) := by decide +kernel
theorem dX13_digest_45 : decode cX13_digest 45 = .ok (.iconst 4, 1) := by decide +kernel
theorem dX13_digest_46 : decode cX13_digest 46 = .ok (.aload_n 0, 1) := by decide +kernel
theorem dX13_digest_47 : decode cX13_digest 47 = .ok (.getfield 48, 3) := by decide +kernel
theorem dX13_digest_50 : decode cX13_digest 50 = .ok (.getfield 296, 3) := by decide +kernel
theorem dX13_digest_53 : decode cX13_digest 53 = .ok (.iastore, 1) := by decide +kernel
theorem dX13_digest_54 : decode cX13_digest 54 = .ok (.dup, 1) := by decide +kernel
theorem dX13_digest_55 : decode cX13_digest 55 = .ok (.iconst 5, 1) := by decide +kernel
theorem dX13_digest_56 : decode cX13_digest 56 = .ok (.aload_n 0, 1) := by decide +kernel
theorem dX13_digest_57 : decode cX13_digest 57 = .ok (.aload_n 0, 1) := by decide +kernel
theorem dX13_digest_58 : decode cX13_digest 58 = .ok (.getfield 48, 3) := by decide +kernel
theorem dX13_digest_61 : decode cX13_digest 61 = .ok (.invokevirtual 346, 3) := by decide +kernel
theorem dX13_digest_64 : decode cX13_digest 64 = .ok (.iastore, 1) := by decide +kernel
theorem dX13_digest_65 : decode cX13_digest 65 = .ok (.dup, 1) := by decide +kernel
theorem dX13_digest_66 : decode cX13_digest 66 = .ok (.bipush 6, 2) := by decide +kernel
theorem dX13_digest_68 : decode cX13_digest 68 = .ok (.aload_n 0, 1) := by decide +kernel
theorem dX13_digest_69 : decode cX13_digest 69 = .ok (.aload_n 0, 1) := by decide +kernel
theorem dX13_digest_70 : decode cX13_digest 70 = .ok (.getfield 48, 3) := by decide +kernel
theorem dX13_digest_73 : decode cX13_digest 73 = .ok (.invokevirtual 349, 3) := by decide +kernel
theorem dX13_digest_76 : decode cX13_digest 76 = .ok (.iastore, 1) := by decide +kernel
theorem dX13_digest_77 : decode cX13_digest 77 = .ok (.dup, 1) := by decide +kernel
theorem dX13_digest_78 : decode cX13_digest 78 = .ok (.bipush 7, 2) := by decide +kernel
theorem dX13_digest_80 : decode cX13_digest 80 = .ok (.aload_n 0, 1) := by decide +kernel
theorem dX13_digest_81 : decode cX13_digest 81 = .ok (.aload_n 0, 1) := by decide +kernel
theorem dX13_digest_82 : decode cX13_digest 82 = .ok (.getfield 48, 3) := by decide +kernel
theorem dX13_digest_85 : decode cX13_digest 85 = .ok (.invokevirtual 325, 3) := by decide +kernel
theorem dX13_digest_88 : decode cX13_digest 88 = .ok (.iastore, 1) := by decide +kernel
theorem dX13_digest_89 : decode cX13_digest 89 = .ok (.dup, 1) := by decide +kernel
theorem dX13_digest_90 : decode cX13_digest 90 = .ok (.bipush 8, 2) := by decide +kernel
theorem dX13_digest_92 : decode cX13_digest 92 = .ok (.aload_n 0, 1) := by decide +kernel
theorem dX13_digest_93 : decode cX13_digest 93 = .ok (.invokevirtual 385, 3) := by decide +kernel
theorem dX13_digest_96 : decode cX13_digest 96 = .ok (.iastore, 1) := by decide +kernel
theorem dX13_digest_97 : decode cX13_digest 97 = .ok (.dup, 1) := by decide +kernel
theorem dX13_digest_98 : decode cX13_digest 98 = .ok (.bipush 9, 2) := by decide +kernel
theorem dX13_digest_100 : decode cX13_digest 100 = .ok (.aload_n 0, 1) := by decide +kernel
theorem dX13_digest_101 : decode cX13_digest 101 = .ok (.invokevirtual 421, 3) := by decide +kernel
theorem dX13_digest_104 : decode cX13_digest 104 = .ok (.iastore, 1) := by decide +kernel
theorem dX13_digest_105 : decode cX13_digest 105 = .ok (.astore_n 1, 1) := by decide +kernel
theorem dX13_digest_106 : decode cX13_digest 106 = .ok (.ldc2_w 424, 3) := by decide +kernel
theorem dX13_digest_109 : decode cX13_digest 109 = .ok (.lstore_n 2, 1) := by decide +kernel
theorem dX13_digest_110 : decode cX13_digest 110 = .ok (.aload_n 1, 1) := by decide +kernel
theorem dX13_digest_111 : decode cX13_digest 111 = .ok (.astore 4, 2) := by decide +kernel
theorem dX13_digest_113 : decode cX13_digest 113 = .ok (.aload 4, 2) := by decide +kernel
theorem dX13_digest_115 : decode cX13_digest 115 = .ok (.arraylength, 1) := by decide +kernel
theorem dX13_digest_116 : decode cX13_digest 116 = .ok (.istore 5, 2) := by decide +kernel
theorem dX13_digest_118 : decode cX13_digest 118 = .ok (.iconst 0, 1) := by decide +kernel
theorem dX13_digest_119 : decode cX13_digest 119 = .ok (.istore 6, 2) := by decide +kernel
theorem dX13_digest_121 : decode cX13_digest 121 = .ok (.iload 6, 2) := by decide +kernel
theorem dX13_digest_123 : decode cX13_digest 123 = .ok (.iload 5, 2) := by decide +kernel
theorem dX13_digest_125 : decode cX13_digest 125 = .ok (.if_icmp .ge 26, 3) := by decide +kernel
theorem dX13_digest_128 : decode cX13_digest 128 = .ok (.aload 4, 2) := by decide +kernel
theorem dX13_digest_130 : decode cX13_digest 130 = .ok (.iload 6, 2) := by decide +kernel
theorem dX13_digest_132 : decode cX13_digest 132 = .ok (.iaload, 1) := by decide +kernel
theorem dX13_digest_133 : decode cX13_digest 133 = .ok (.istore 7, 2) := by decide +kernel
theorem dX13_digest_135 : decode cX13_digest 135 = .ok (.lload_n 2, 1) := by decide +kernel
theorem dX13_digest_136 : decode cX13_digest 136 = .ok (.ldc2_w 426, 3) := by decide +kernel
theorem dX13_digest_139 : decode cX13_digest 139 = .ok (.lmul, 1) := by decide +kernel
theorem dX13_digest_140 : decode cX13_digest 140 = .ok (.iload 7, 2) := by decide +kernel
theorem dX13_digest_142 : decode cX13_digest 142 = .ok (.i2l, 1) := by decide +kernel
theorem dX13_digest_143 : decode cX13_digest 143 = .ok (.ladd, 1) := by decide +kernel
theorem dX13_digest_144 : decode cX13_digest 144 = .ok (.lstore_n 2, 1) := by decide +kernel
theorem dX13_digest_145 : decode cX13_digest 145 = .ok (.iinc 6 1, 3) := by decide +kernel
theorem dX13_digest_148 : decode cX13_digest 148 = .ok (.goto (-27), 3) := by decide +kernel
theorem dX13_digest_151 : decode cX13_digest 151 = .ok (.iconst 0, 1) := by decide +kernel
theorem dX13_digest_152 : decode cX13_digest 152 = .ok (.istore 4, 2) := by decide +kernel
theorem dX13_digest_154 : decode cX13_digest 154 = .ok (.iload 4, 2) := by decide +kernel
theorem dX13_digest_156 : decode cX13_digest 156 = .ok (.aload_n 0, 1) := by decide +kernel
theorem dX13_digest_157 : decode cX13_digest 157 = .ok (.invokevirtual 307, 3) := by decide +kernel
theorem dX13_digest_160 : decode cX13_digest 160 = .ok (.if_icmp .ge 63, 3) := by decide +kernel
theorem dX13_digest_163 : decode cX13_digest 163 = .ok (.lload_n 2, 1) := by decide +kernel
theorem dX13_digest_164 : decode cX13_digest 164 = .ok (.ldc2_w 426, 3) := by decide +kernel
theorem dX13_digest_167 : decode cX13_digest 167 = .ok (.lmul, 1) := by decide +kernel
theorem dX13_digest_168 : decode cX13_digest 168 = .ok (.aload_n 0, 1) := by decide +kernel
theorem dX13_digest_169 : decode cX13_digest 169 = .ok (.getfield 48, 3) := by decide +kernel
theorem dX13_digest_172 : decode cX13_digest 172 = .ok (.getfield 280, 3) := by decide +kernel
theorem dX13_digest_175 : decode cX13_digest 175 = .ok (.iload 4, 2) := by decide +kernel
theorem dX13_digest_177 : decode cX13_digest 177 = .ok (.iaload, 1) := by decide +kernel
theorem dX13_digest_178 : decode cX13_digest 178 = .ok (.i2l, 1) := by decide +kernel
theorem dX13_digest_179 : decode cX13_digest 179 = .ok (.ladd, 1) := by decide +kernel
theorem dX13_digest_180 : decode cX13_digest 180 = .ok (.ldc2_w 426, 3) := by decide +kernel
theorem dX13_digest_183 : decode cX13_digest 183 = .ok (.lmul, 1) := by decide +kernel
theorem dX13_digest_184 : decode cX13_digest 184 = .ok (.aload_n 0, 1) := by decide +kernel
theorem dX13_digest_185 : decode cX13_digest 185 = .ok (.iload 4, 2) := by decide +kernel
theorem dX13_digest_187 : decode cX13_digest 187 = .ok (.invokevirtual 397, 3) := by decide +kernel
theorem dX13_digest_190 : decode cX13_digest 190 = .ok (.i2l, 1) := by decide +kernel
theorem dX13_digest_191 : decode cX13_digest 191 = .ok (.ladd, 1) := by decide +kernel
theorem dX13_digest_192 : decode cX13_digest 192 = .ok (.ldc2_w 426, 3) := by decide +kernel
theorem dX13_digest_195 : decode cX13_digest 195 = .ok (.lmul, 1) := by decide +kernel
theorem dX13_digest_196 : decode cX13_digest 196 = .ok (.aload_n 0, 1) := by decide +kernel
theorem dX13_digest_197 : decode cX13_digest 197 = .ok (.aload_n 0, 1) := by decide +kernel
theorem dX13_digest_198 : decode cX13_digest 198 = .ok (.getfield 48, 3) := by decide +kernel
theorem dX13_digest_201 : decode cX13_digest 201 = .ok (.iload 4, 2) := by decide +kernel
theorem dX13_digest_203 : decode cX13_digest 203 = .ok (.invokevirtual 314, 3) := by decide +kernel
theorem dX13_digest_206 : decode cX13_digest 206 = .ok (.ifCond .eq 7, 3) := by decide +kernel
theorem dX13_digest_209 : decode cX13_digest 209 = .ok (.iconst 1, 1) := by decide +kernel
theorem dX13_digest_210 : decode cX13_digest 210 = .ok (.goto 4, 3) := by decide +kernel
theorem dX13_digest_213 : decode cX13_digest 213 = .ok (.iconst 0, 1) := by decide +kernel
theorem dX13_digest_214 : decode cX13_digest 214 = .ok (.i2l, 1) := by decide +kernel
theorem dX13_digest_215 : decode cX13_digest 215 = .ok (.ladd, 1) := by decide +kernel
theorem dX13_digest_216 : decode cX13_digest 216 = .ok (.lstore_n 2, 1) := by decide +kernel
theorem dX13_digest_217 : decode cX13_digest 217 = .ok (.iinc 4 1, 3) := by decide +kernel
theorem dX13_digest_220 : decode cX13_digest 220 = .ok (.goto (-66), 3) := by decide +kernel
theorem dX13_digest_223 : decode cX13_digest 223 = .ok (.iconst 0, 1) := by decide +kernel
theorem dX13_digest_224 : decode cX13_digest 224 = .ok (.istore 4, 2) := by decide +kernel
theorem dX13_digest_226 : decode cX13_digest 226 = .ok (.iload 4, 2) := by decide +kernel
theorem dX13_digest_228 : decode cX13_digest 228 = .ok (.aload_n 0, 1) := by decide +kernel
theorem dX13_digest_229 : decode cX13_digest 229 = .ok (.getfield 35, 3) := by decide +kernel
theorem dX13_digest_232 : decode cX13_digest 232 = .ok (.getfield 150, 3) := by decide +kernel
theorem dX13_digest_235 : decode cX13_digest 235 = .ok (.if_icmp .ge 81, 3) := by decide +kernel
theorem dX13_digest_238 : decode cX13_digest 238 = .ok (.lload_n 2, 1) := by decide +kernel
theorem dX13_digest_239 : decode cX13_digest 239 = .ok (.ldc2_w 426, 3) := by decide +kernel
theorem dX13_digest_242 : decode cX13_digest 242 = .ok (.lmul, 1) := by decide +kernel
theorem dX13_digest_243 : decode cX13_digest 243 = .ok (.aload_n 0, 1) := by decide +kernel
theorem dX13_digest_244 : decode cX13_digest 244 = .ok (.getfield 48, 3) := by decide +kernel
theorem dX13_digest_247 : decode cX13_digest 247 = .ok (.getfield 293, 3) := by decide +kernel
theorem dX13_digest_250 : decode cX13_digest 250 = .ok (.iload 4, 2) := by decide +kernel
theorem dX13_digest_252 : decode cX13_digest 252 = .ok (.iaload, 1) := by decide +kernel
theorem dX13_digest_253 : decode cX13_digest 253 = .ok (.iconst (-1), 1) := by decide +kernel
theorem dX13_digest_254 : decode cX13_digest 254 = .ok (.if_icmp .ne 7, 3) := by decide +kernel
theorem dX13_digest_257 : decode cX13_digest 257 = .ok (.iconst (-1), 1) := by decide +kernel
theorem dX13_digest_258 : decode cX13_digest 258 = .ok (.goto 13, 3) := by decide +kernel
theorem dX13_digest_261 : decode cX13_digest 261 = .ok (.aload_n 0, 1) := by decide +kernel
theorem dX13_digest_262 : decode cX13_digest 262 = .ok (.getfield 48, 3) := by decide +kernel
theorem dX13_digest_265 : decode cX13_digest 265 = .ok (.getfield 283, 3) := by decide +kernel
theorem dX13_digest_268 : decode cX13_digest 268 = .ok (.iload 4, 2) := by decide +kernel
theorem dX13_digest_270 : decode cX13_digest 270 = .ok (.iaload, 1) := by decide +kernel
theorem dX13_digest_271 : decode cX13_digest 271 = .ok (.i2l, 1) := by decide +kernel
theorem dX13_digest_272 : decode cX13_digest 272 = .ok (.ladd, 1) := by decide +kernel
theorem dX13_digest_273 : decode cX13_digest 273 = .ok (.ldc2_w 426, 3) := by decide +kernel
theorem dX13_digest_276 : decode cX13_digest 276 = .ok (.lmul, 1) := by decide +kernel
theorem dX13_digest_277 : decode cX13_digest 277 = .ok (.aload_n 0, 1) := by decide +kernel
theorem dX13_digest_278 : decode cX13_digest 278 = .ok (.aload_n 0, 1) := by decide +kernel
theorem dX13_digest_279 : decode cX13_digest 279 = .ok (.getfield 48, 3) := by decide +kernel
theorem dX13_digest_282 : decode cX13_digest 282 = .ok (.iload 4, 2) := by decide +kernel
theorem dX13_digest_284 : decode cX13_digest 284 = .ok (.invokevirtual 352, 3) := by decide +kernel
theorem dX13_digest_287 : decode cX13_digest 287 = .ok (.i2l, 1) := by decide +kernel
theorem dX13_digest_288 : decode cX13_digest 288 = .ok (.ladd, 1) := by decide +kernel
theorem dX13_digest_289 : decode cX13_digest 289 = .ok (.ldc2_w 426, 3) := by decide +kernel
theorem dX13_digest_292 : decode cX13_digest 292 = .ok (.lmul, 1) := by decide +kernel
theorem dX13_digest_293 : decode cX13_digest 293 = .ok (.aload_n 0, 1) := by decide +kernel
theorem dX13_digest_294 : decode cX13_digest 294 = .ok (.iload 4, 2) := by decide +kernel
theorem dX13_digest_296 : decode cX13_digest 296 = .ok (.invokevirtual 409, 3) := by decide +kernel
theorem dX13_digest_299 : decode cX13_digest 299 = .ok (.ifCond .eq 7, 3) := by decide +kernel
theorem dX13_digest_302 : decode cX13_digest 302 = .ok (.iconst 1, 1) := by decide +kernel
theorem dX13_digest_303 : decode cX13_digest 303 = .ok (.goto 4, 3) := by decide +kernel
theorem dX13_digest_306 : decode cX13_digest 306 = .ok (.iconst 0, 1) := by decide +kernel
theorem dX13_digest_307 : decode cX13_digest 307 = .ok (.i2l, 1) := by decide +kernel
theorem dX13_digest_308 : decode cX13_digest 308 = .ok (.ladd, 1) := by decide +kernel
theorem dX13_digest_309 : decode cX13_digest 309 = .ok (.lstore_n 2, 1) := by decide +kernel
theorem dX13_digest_310 : decode cX13_digest 310 = .ok (.iinc 4 1, 3) := by decide +kernel
theorem dX13_digest_313 : decode cX13_digest 313 = .ok (.goto (-87), 3) := by decide +kernel
theorem dX13_digest_316 : decode cX13_digest 316 = .ok (.aload_n 0, 1) := by decide +kernel
theorem dX13_digest_317 : decode cX13_digest 317 = .ok (.iconst 0, 1) := by decide +kernel
theorem dX13_digest_318 : decode cX13_digest 318 = .ok (.putfield 65, 3) := by decide +kernel
theorem dX13_digest_321 : decode cX13_digest 321 = .ok (.lload_n 2, 1) := by decide +kernel
theorem dX13_digest_322 : decode cX13_digest 322 = .ok (.lreturn, 1) := by decide +kernel
