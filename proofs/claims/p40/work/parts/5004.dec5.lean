theorem dX11_init_0 : decode cX11_init 0 = .ok (.aload_n 0, 1) := by decide +kernel
theorem dX11_init_1 : decode cX11_init 1 = .ok (.invokespecial 1, 3) := by decide +kernel
theorem dX11_init_4 : decode cX11_init 4 = .ok (.aload_n 0, 1) := by decide +kernel
theorem dX11_init_5 : decode cX11_init 5 = .ok (.iload_n 1, 1) := by decide +kernel
theorem dX11_init_6 : decode cX11_init 6 = .ok (.putfield 7, 3) := by decide +kernel
theorem dX11_init_9 : decode cX11_init 9 = .ok (.return_, 1) := by decide +kernel
theorem dX11_next_0 : decode cX11_next 0 = .ok (.aload_n 0, 1) := by decide +kernel
theorem dX11_next_1 : decode cX11_next 1 = .ok (.aload_n 0, 1) := by decide +kernel
theorem dX11_next_2 : decode cX11_next 2 = .ok (.getfield 7, 3) := by decide +kernel
theorem dX11_next_5 : decode cX11_next 5 = .ok (.ldc 13, 2) := by decide +kernel
theorem dX11_next_7 : decode cX11_next 7 = .ok (.imul, 1) := by decide +kernel
theorem dX11_next_8 : decode cX11_next 8 = .ok (.sipush 12345, 3) := by decide +kernel
theorem dX11_next_11 : decode cX11_next 11 = .ok (.iadd, 1) := by decide +kernel
theorem dX11_next_12 : decode cX11_next 12 = .ok (.putfield 7, 3) := by decide +kernel
theorem dX11_next_15 : decode cX11_next 15 = .ok (.aload_n 0, 1) := by decide +kernel
theorem dX11_next_16 : decode cX11_next 16 = .ok (.getfield 7, 3) := by decide +kernel
theorem dX11_next_19 : decode cX11_next 19 = .ok (.bipush 9, 2) := by decide +kernel
theorem dX11_next_21 : decode cX11_next 21 = .ok (.ishr, 1) := by decide +kernel
theorem dX11_next_22 : decode cX11_next 22 = .ok (.iload_n 1, 1) := by decide +kernel
theorem dX11_next_23 : decode cX11_next 23 = .ok (.invokestatic 14, 3) := by decide +kernel
theorem dX11_next_26 : decode cX11_next 26 = .ok (.ireturn, 1) := by decide +kernel
theorem dX12_init_0 : decode cX12_init 0 = .ok (.aload_n 0, 1) := by decide +kernel
theorem dX12_init_1 : decode cX12_init 1 = .ok (.invokespecial 1, 3) := by decide +kernel
theorem dX12_init_4 : decode cX12_init 4 = .ok (.aload_n 0, 1) := by decide +kernel
theorem dX12_init_5 : decode cX12_init 5 = .ok (.iconst 5, 1) := by decide +kernel
theorem dX12_init_6 : decode cX12_init 6 = .ok (.putfield 7, 3) := by decide +kernel
theorem dX12_init_9 : decode cX12_init 9 = .ok (.aload_n 0, 1) := by decide +kernel
theorem dX12_init_10 : decode cX12_init 10 = .ok (.iconst 5, 1) := by decide +kernel
theorem dX12_init_11 : decode cX12_init 11 = .ok (.putfield 13, 3) := by decide +kernel
theorem dX12_init_14 : decode cX12_init 14 = .ok (.aload_n 0, 1) := by decide +kernel
theorem dX12_init_15 : decode cX12_init 15 = .ok (.iconst 0, 1) := by decide +kernel
theorem dX12_init_16 : decode cX12_init 16 = .ok (.anewarray 16, 3) := by decide +kernel
theorem dX12_init_19 : decode cX12_init 19 = .ok (.putfield 18, 3) := by decide +kernel
theorem dX12_init_22 : decode cX12_init 22 = .ok (.aload_n 0, 1) := by decide +kernel
theorem dX12_init_23 : decode cX12_init 23 = .ok (.iconst 0, 1) := by decide +kernel
theorem dX12_init_24 : decode cX12_init 24 = .ok (.anewarray 22, 3) := by decide +kernel
theorem dX12_init_27 : decode cX12_init 27 = .ok (.putfield 24, 3) := by decide +kernel
theorem dX12_init_30 : decode cX12_init 30 = .ok (.return_, 1) := by decide +kernel
theorem dX12_board_0 : decode cX12_board 0 = .ok (.aload_n 0, 1) := by decide +kernel
theorem dX12_board_1 : decode cX12_board 1 = .ok (.getfield 7, 3) := by decide +kernel
theorem dX12_board_4 : decode cX12_board 4 = .ok (.aload_n 0, 1) := by decide +kernel
theorem dX12_board_5 : decode cX12_board 5 = .ok (.getfield 13, 3) := by decide +kernel
theorem dX12_board_8 : decode cX12_board 8 = .ok (.imul, 1) := by decide +kernel
theorem dX12_board_9 : decode cX12_board 9 = .ok (.newarray .int, 2) := by decide +kernel
theorem dX12_board_11 : decode cX12_board 11 = .ok (.astore_n 1, 1) := by decide +kernel
theorem dX12_board_12 : decode cX12_board 12 = .ok (.iconst 0, 1) := by decide +kernel
theorem dX12_board_13 : decode cX12_board 13 = .ok (.istore_n 2, 1) := by decide +kernel
theorem dX12_board_14 : decode cX12_board 14 = .ok (.iload_n 2, 1) := by decide +kernel
theorem dX12_board_15 : decode cX12_board 15 = .ok (.aload_n 1, 1) := by decide +kernel
theorem dX12_board_16 : decode cX12_board 16 = .ok (.arraylength, 1) := by decide +kernel
theorem dX12_board_17 : decode cX12_board 17 = .ok (.if_icmp .ge 13, 3) := by decide +kernel
theorem dX12_board_20 : decode cX12_board 20 = .ok (.aload_n 1, 1) := by decide +kernel
theorem dX12_board_21 : decode cX12_board 21 = .ok (.iload_n 2, 1) := by decide +kernel
theorem dX12_board_22 : decode cX12_board 22 = .ok (.iconst (-1), 1) := by decide +kernel
theorem dX12_board_23 : decode cX12_board 23 = .ok (.iastore, 1) := by decide +kernel
theorem dX12_board_24 : decode cX12_board 24 = .ok (.iinc 2 1, 3) := by decide +kernel
theorem dX12_board_27 : decode cX12_board 27 = .ok (.goto (-13), 3) := by decide +kernel
theorem dX12_board_30 : decode cX12_board 30 = .ok (.iconst 0, 1) := by decide +kernel
theorem dX12_board_31 : decode cX12_board 31 = .ok (.istore_n 2, 1) := by decide +kernel
theorem dX12_board_32 : decode cX12_board 32 = .ok (.iload_n 2, 1) := by decide +kernel
theorem dX12_board_33 : decode cX12_board 33 = .ok (.aload_n 0, 1) := by decide +kernel
theorem dX12_board_34 : decode cX12_board 34 = .ok (.getfield 18, 3) := by decide +kernel
theorem dX12_board_37 : decode cX12_board 37 = .ok (.arraylength, 1) := by decide +kernel
theorem dX12_board_38 : decode cX12_board 38 = .ok (.if_icmp .ge 31, 3) := by decide +kernel
theorem dX12_board_41 : decode cX12_board 41 = .ok (.aload_n 0, 1) := by decide +kernel
theorem dX12_board_42 : decode cX12_board 42 = .ok (.getfield 18, 3) := by decide +kernel
theorem dX12_board_45 : decode cX12_board 45 = .ok (.iload_n 2, 1) := by decide +kernel
theorem dX12_board_46 : decode cX12_board 46 = .ok (.aaload, 1) := by decide +kernel
theorem dX12_board_47 : decode cX12_board 47 = .ok (.iconst 3, 1) := by decide +kernel
theorem dX12_board_48 : decode cX12_board 48 = .ok (.iaload, 1) := by decide +kernel
theorem dX12_board_49 : decode cX12_board 49 = .ok (.ifCond .lt 14, 3) := by decide +kernel
theorem dX12_board_52 : decode cX12_board 52 = .ok (.aload_n 1, 1) := by decide +kernel
theorem dX12_board_53 : decode cX12_board 53 = .ok (.aload_n 0, 1) := by decide +kernel
theorem dX12_board_54 : decode cX12_board 54 = .ok (.getfield 18, 3) := by decide +kernel
theorem dX12_board_57 : decode cX12_board 57 = .ok (.iload_n 2, 1) := by decide +kernel
theorem dX12_board_58 : decode cX12_board 58 = .ok (.aaload, 1) := by decide +kernel
theorem dX12_board_59 : decode cX12_board 59 = .ok (.iconst 3, 1) := by decide +kernel
theorem dX12_board_60 : decode cX12_board 60 = .ok (.iaload, 1) := by decide +kernel
theorem dX12_board_61 : decode cX12_board 61 = .ok (.iload_n 2, 1) := by decide +kernel
theorem dX12_board_62 : decode cX12_board 62 = .ok (.iastore, 1) := by decide +kernel
theorem dX12_board_63 : decode cX12_board 63 = .ok (.iinc 2 1, 3) := by decide +kernel
theorem dX12_board_66 : decode cX12_board 66 = .ok (.goto (-34), 3) := by decide +kernel
theorem dX12_board_69 : decode cX12_board 69 = .ok (.aload_n 1, 1) := by decide +kernel
theorem dX12_board_70 : decode cX12_board 70 = .ok (.areturn, 1) := by decide +kernel
theorem dX12_beside_0 : decode cX12_beside 0 = .ok (.iload_n 1, 1) := by decide +kernel
theorem dX12_beside_1 : decode cX12_beside 1 = .ok (.aload_n 0, 1) := by decide +kernel
theorem dX12_beside_2 : decode cX12_beside 2 = .ok (.getfield 7, 3) := by decide +kernel
theorem dX12_beside_5 : decode cX12_beside 5 = .ok (.irem, 1) := by decide +kernel
theorem dX12_beside_6 : decode cX12_beside 6 = .ok (.getstatic 36, 3) := by decide +kernel
theorem dX12_beside_9 : decode cX12_beside 9 = .ok (.iload_n 2, 1) := by decide +kernel
theorem dX12_beside_10 : decode cX12_beside 10 = .ok (.aaload, 1) := by decide +kernel
theorem dX12_beside_11 : decode cX12_beside 11 = .ok (.iconst 0, 1) := by decide +kernel
theorem dX12_beside_12 : decode cX12_beside 12 = .ok (.iaload, 1) := by decide +kernel
theorem dX12_beside_13 : decode cX12_beside 13 = .ok (.iadd, 1) := by decide +kernel
theorem dX12_beside_14 : decode cX12_beside 14 = .ok (.istore_n 3, 1) := by decide +kernel
theorem dX12_beside_15 : decode cX12_beside 15 = .ok (.iload_n 1, 1) := by decide +kernel
theorem dX12_beside_16 : decode cX12_beside 16 = .ok (.aload_n 0, 1) := by decide +kernel
theorem dX12_beside_17 : decode cX12_beside 17 = .ok (.getfield 7, 3) := by decide +kernel
theorem dX12_beside_20 : decode cX12_beside 20 = .ok (.idiv, 1) := by decide +kernel
theorem dX12_beside_21 : decode cX12_beside 21 = .ok (.getstatic 36, 3) := by decide +kernel
theorem dX12_beside_24 : decode cX12_beside 24 = .ok (.iload_n 2, 1) := by decide +kernel
theorem dX12_beside_25 : decode cX12_beside 25 = .ok (.aaload, 1) := by decide +kernel
theorem dX12_beside_26 : decode cX12_beside 26 = .ok (.iconst 1, 1) := by decide +kernel
theorem dX12_beside_27 : decode cX12_beside 27 = .ok (.iaload, 1) := by decide +kernel
theorem dX12_beside_28 : decode cX12_beside 28 = .ok (.iadd, 1) := by decide +kernel
theorem dX12_beside_29 : decode cX12_beside 29 = .ok (.istore 4, 2) := by decide +kernel
theorem dX12_beside_31 : decode cX12_beside 31 = .ok (.iload_n 3, 1) := by decide +kernel
theorem dX12_beside_32 : decode cX12_beside 32 = .ok (.ifCond .lt 25, 3) := by decide +kernel
theorem dX12_beside_35 : decode cX12_beside 35 = .ok (.iload_n 3, 1) := by decide +kernel
theorem dX12_beside_36 : decode cX12_beside 36 = .ok (.aload_n 0, 1) := by decide +kernel
theorem dX12_beside_37 : decode cX12_beside 37 = .ok (.getfield 7, 3) := by decide +kernel
theorem dX12_beside_40 : decode cX12_beside 40 = .ok (.if_icmp .ge 17, 3) := by decide +kernel
theorem dX12_beside_43 : decode cX12_beside 43 = .ok (.iload 4, 2) := by decide +kernel
theorem dX12_beside_45 : decode cX12_beside 45 = .ok (.ifCond .lt 12, 3) := by decide +kernel
theorem dX12_beside_48 : decode cX12_beside 48 = .ok (.iload 4, 2) := by decide +kernel
theorem dX12_beside_50 : decode cX12_beside 50 = .ok (.aload_n 0, 1) := by decide +kernel
theorem dX12_beside_51 : decode cX12_beside 51 = .ok (.getfield 13, 3) := by decide +kernel
theorem dX12_beside_54 : decode cX12_beside 54 = .ok (.if_icmp .lt 7, 3) := by decide +kernel
theorem dX12_beside_57 : decode cX12_beside 57 = .ok (.iconst (-1), 1) := by decide +kernel
theorem dX12_beside_58 : decode cX12_beside 58 = .ok (.goto 12, 3) := by decide +kernel
theorem dX12_beside_61 : decode cX12_beside 61 = .ok (.aload_n 0, 1) := by decide +kernel
theorem dX12_beside_62 : decode cX12_beside 62 = .ok (.getfield 7, 3) := by decide +kernel
theorem dX12_beside_65 : decode cX12_beside 65 = .ok (.iload 4, 2) := by decide +kernel
theorem dX12_beside_67 : decode cX12_beside 67 = .ok (.imul, 1) := by decide +kernel
theorem dX12_beside_68 : decode cX12_beside 68 = .ok (.iload_n 3, 1) := by decide +kernel
theorem dX12_beside_69 : decode cX12_beside 69 = .ok (.iadd, 1) := by decide +kernel
theorem dX12_beside_70 : decode cX12_beside 70 = .ok (.ireturn, 1) := by decide +kernel
theorem dX12_number_0 : decode cX12_number 0 = .ok (.iload_n 3, 1) := by decide +kernel
theorem dX12_number_1 : decode cX12_number 1 = .ok (.iload_n 2, 1) := by decide +kernel
theorem dX12_number_2 : decode cX12_number 2 = .ok (.isub, 1) := by decide +kernel
theorem dX12_number_3 : decode cX12_number 3 = .ok (.istore 4, 2) := by decide +kernel
theorem dX12_number_5 : decode cX12_number 5 = .ok (.iload 4, 2) := by decide +kernel
theorem dX12_number_7 : decode cX12_number 7 = .ok (.ifCond .ge 6, 3) := by decide +kernel
theorem dX12_number_10 : decode cX12_number 10 = .ok (.iinc 4 6, 3) := by decide +kernel
theorem dX12_number_13 : decode cX12_number 13 = .ok (.aload_n 1, 1) := by decide +kernel
theorem dX12_number_14 : decode cX12_number 14 = .ok (.iload 4, 2) := by decide +kernel
theorem dX12_number_16 : decode cX12_number 16 = .ok (.iconst 2, 1) := by decide +kernel
theorem dX12_number_17 : decode cX12_number 17 = .ok (.if_icmp .ge 7, 3) := by decide +kernel
theorem dX12_number_20 : decode cX12_number 20 = .ok (.iconst 0, 1) := by decide +kernel
theorem dX12_number_21 : decode cX12_number 21 = .ok (.goto 14, 3) := by decide +kernel
theorem dX12_number_24 : decode cX12_number 24 = .ok (.iload 4, 2) := by decide +kernel
theorem dX12_number_26 : decode cX12_number 26 = .ok (.iconst 4, 1) := by decide +kernel
theorem dX12_number_27 : decode cX12_number 27 = .ok (.if_icmp .ge 7, 3) := by decide +kernel
theorem dX12_number_30 : decode cX12_number 30 = .ok (.iconst 1, 1) := by decide +kernel
theorem dX12_number_31 : decode cX12_number 31 = .ok (.goto 4, 3) := by decide +kernel
theorem dX12_number_34 : decode cX12_number 34 = .ok (.iconst 2, 1) := by decide +kernel
theorem dX12_number_35 : decode cX12_number 35 = .ok (.iaload, 1) := by decide +kernel
theorem dX12_number_36 : decode cX12_number 36 = .ok (.ireturn, 1) := by decide +kernel
theorem dX12_against_0 : decode cX12_against 0 = .ok (.iconst 0, 1) := by decide +kernel
theorem dX12_against_1 : decode cX12_against 1 = .ok (.istore 5, 2) := by decide +kernel
theorem dX12_against_3 : decode cX12_against 3 = .ok (.iload 5, 2) := by decide +kernel
theorem dX12_against_5 : decode cX12_against 5 = .ok (.bipush 6, 2) := by decide +kernel
theorem dX12_against_7 : decode cX12_against 7 = .ok (.if_icmp .ge 91, 3) := by decide +kernel
theorem dX12_against_10 : decode cX12_against 10 = .ok (.aload_n 0, 1) := by decide +kernel
theorem dX12_against_11 : decode cX12_against 11 = .ok (.iload_n 3, 1) := by decide +kernel
theorem dX12_against_12 : decode cX12_against 12 = .ok (.iload 5, 2) := by decide +kernel
theorem dX12_against_14 : decode cX12_against 14 = .ok (.invokevirtual 39, 3) := by decide +kernel
theorem dX12_against_17 : decode cX12_against 17 = .ok (.istore 6, 2) := by decide +kernel
theorem dX12_against_19 : decode cX12_against 19 = .ok (.iload 6, 2) := by decide +kernel
theorem dX12_against_21 : decode cX12_against 21 = .ok (.ifCond .lt 71, 3) := by decide +kernel
theorem dX12_against_24 : decode cX12_against 24 = .ok (.aload_n 1, 1) := by decide +kernel
theorem dX12_against_25 : decode cX12_against 25 = .ok (.iload 6, 2) := by decide +kernel
theorem dX12_against_27 : decode cX12_against 27 = .ok (.iaload, 1) := by decide +kernel
theorem dX12_against_28 : decode cX12_against 28 = .ok (.ifCond .ge 6, 3) := by decide +kernel
theorem dX12_against_31 : decode cX12_against 31 = .ok (.goto 61, 3) := by decide +kernel
theorem dX12_against_34 : decode cX12_against 34 = .ok (.aload_n 0, 1) := by decide +kernel
theorem dX12_against_35 : decode cX12_against 35 = .ok (.getfield 18, 3) := by decide +kernel
theorem dX12_against_38 : decode cX12_against 38 = .ok (.aload_n 1, 1) := by decide +kernel
theorem dX12_against_39 : decode cX12_against 39 = .ok (.iload 6, 2) := by decide +kernel
theorem dX12_against_41 : decode cX12_against 41 = .ok (.iaload, 1) := by decide +kernel
theorem dX12_against_42 : decode cX12_against 42 = .ok (.aaload, 1) := by decide +kernel
theorem dX12_against_43 : decode cX12_against 43 = .ok (.astore 7, 2) := by decide +kernel
theorem dX12_against_45 : decode cX12_against 45 = .ok (.aload_n 0, 1) := by decide +kernel
theorem dX12_against_46 : decode cX12_against 46 = .ok (.aload 7, 2) := by decide +kernel
theorem dX12_against_48 : decode cX12_against 48 = .ok (.aload 7, 2) := by decide +kernel
theorem dX12_against_50 : decode cX12_against 50 = .ok (.iconst 4, 1) := by decide +kernel
theorem dX12_against_51 : decode cX12_against 51 = .ok (.iaload, 1) := by decide +kernel
theorem dX12_against_52 : decode cX12_against 52 = .ok (.iload 5, 2) := by decide +kernel
theorem dX12_against_54 : decode cX12_against 54 = .ok (.iconst 3, 1) := by decide +kernel
theorem dX12_against_55 : decode cX12_against 55 = .ok (.if_icmp .ge 10, 3) := by decide +kernel
theorem dX12_against_58 : decode cX12_against 58 = .ok (.iload 5, 2) := by decide +kernel
theorem dX12_against_60 : decode cX12_against 60 = .ok (.iconst 3, 1) := by decide +kernel
theorem dX12_against_61 : decode cX12_against 61 = .ok (.iadd, 1) := by decide +kernel
theorem dX12_against_62 : decode cX12_against 62 = .ok (.goto 7, 3) := by decide +kernel
theorem dX12_against_65 : decode cX12_against 65 = .ok (.iload 5, 2) := by decide +kernel
theorem dX12_against_67 : decode cX12_against 67 = .ok (.iconst 3, 1) := by decide +kernel
theorem dX12_against_68 : decode cX12_against 68 = .ok (.isub, 1) := by decide +kernel
theorem dX12_against_69 : decode cX12_against 69 = .ok (.invokevirtual 43, 3) := by decide +kernel
theorem dX12_against_72 : decode cX12_against 72 = .ok (.aload_n 0, 1) := by decide +kernel
theorem dX12_against_73 : decode cX12_against 73 = .ok (.aload_n 0, 1) := by decide +kernel
theorem dX12_against_74 : decode cX12_against 74 = .ok (.getfield 18, 3) := by decide +kernel
theorem dX12_against_77 : decode cX12_against 77 = .ok (.iload_n 2, 1) := by decide +kernel
theorem dX12_against_78 : decode cX12_against 78 = .ok (.aaload, 1) := by decide +kernel
theorem dX12_against_79 : decode cX12_against 79 = .ok (.iload 4, 2) := by decide +kernel
theorem dX12_against_81 : decode cX12_against 81 = .ok (.iload 5, 2) := by decide +kernel
theorem dX12_against_83 : decode cX12_against 83 = .ok (.invokevirtual 43, 3) := by decide +kernel
theorem dX12_against_86 : decode cX12_against 86 = .ok (.if_icmp .eq 6, 3) := by decide +kernel
theorem dX12_against_89 : decode cX12_against 89 = .ok (.iload 5, 2) := by decide +kernel
theorem dX12_against_91 : decode cX12_against 91 = .ok (.ireturn, 1) := by decide +kernel
theorem dX12_against_92 : decode cX12_against 92 = .ok (.iinc 5 1, 3) := by decide +kernel
theorem dX12_against_95 : decode cX12_against 95 = .ok (.goto (-92), 3) := by decide +kernel
theorem dX12_against_98 : decode cX12_against 98 = .ok (.iconst (-1), 1) := by decide +kernel
theorem dX12_against_99 : decode cX12_against 99 = .ok (.ireturn, 1) := by decide +kernel
theorem dX12_many_0 : decode cX12_many 0 = .ok (.iconst 0, 1) := by decide +kernel
theorem dX12_many_1 : decode cX12_many 1 = .ok (.istore_n 3, 1) := by decide +kernel
theorem dX12_many_2 : decode cX12_many 2 = .ok (.iconst 0, 1) := by decide +kernel
theorem dX12_many_3 : decode cX12_many 3 = .ok (.istore 4, 2) := by decide +kernel
theorem dX12_many_5 : decode cX12_many 5 = .ok (.iload 4, 2) := by decide +kernel
theorem dX12_many_7 : decode cX12_many 7 = .ok (.bipush 6, 2) := by decide +kernel
theorem dX12_many_9 : decode cX12_many 9 = .ok (.if_icmp .ge 39, 3) := by decide +kernel
theorem dX12_many_12 : decode cX12_many 12 = .ok (.iload_n 3, 1) := by decide +kernel
theorem dX12_many_13 : decode cX12_many 13 = .ok (.aload_n 0, 1) := by decide +kernel
theorem dX12_many_14 : decode cX12_many 14 = .ok (.iload_n 2, 1) := by decide +kernel
theorem dX12_many_15 : decode cX12_many 15 = .ok (.iload 4, 2) := by decide +kernel
theorem dX12_many_17 : decode cX12_many 17 = .ok (.invokevirtual 39, 3) := by decide +kernel
theorem dX12_many_20 : decode cX12_many 20 = .ok (.ifCond .lt 19, 3) := by decide +kernel
theorem dX12_many_23 : decode cX12_many 23 = .ok (.aload_n 1, 1) := by decide +kernel
theorem dX12_many_24 : decode cX12_many 24 = .ok (.aload_n 0, 1) := by decide +kernel
theorem dX12_many_25 : decode cX12_many 25 = .ok (.iload_n 2, 1) := by decide +kernel
theorem dX12_many_26 : decode cX12_many 26 = .ok (.iload 4, 2) := by decide +kernel
theorem dX12_many_28 : decode cX12_many 28 = .ok (.invokevirtual 39, 3) := by decide +kernel
theorem dX12_many_31 : decode cX12_many 31 = .ok (.iaload, 1) := by decide +kernel
theorem dX12_many_32 : decode cX12_many 32 = .ok (.ifCond .lt 7, 3) := by decide +kernel
theorem dX12_many_35 : decode cX12_many 35 = .ok (.iconst 1, 1) := by decide +kernel
theorem dX12_many_36 : decode cX12_many 36 = .ok (.goto 4, 3) := by decide +kernel
theorem dX12_many_39 : decode cX12_many 39 = .ok (.iconst 0, 1) := by decide +kernel
theorem dX12_many_40 : decode cX12_many 40 = .ok (.iadd, 1) := by decide +kernel
theorem dX12_many_41 : decode cX12_many 41 = .ok (.istore_n 3, 1) := by decide +kernel
theorem dX12_many_42 : decode cX12_many 42 = .ok (.iinc 4 1, 3) := by decide +kernel
theorem dX12_many_45 : decode cX12_many 45 = .ok (.goto (-40), 3) := by decide +kernel
theorem dX12_many_48 : decode cX12_many 48 = .ok (.iload_n 3, 1) := by decide +kernel
theorem dX12_many_49 : decode cX12_many 49 = .ok (.ireturn, 1) := by decide +kernel
theorem dX12_fits_0 : decode cX12_fits 0 = .ok (.aload_n 0, 1) := by decide +kernel
theorem dX12_fits_1 : decode cX12_fits 1 = .ok (.getfield 18, 3) := by decide +kernel
theorem dX12_fits_4 : decode cX12_fits 4 = .ok (.iload_n 2, 1) := by decide +kernel
theorem dX12_fits_5 : decode cX12_fits 5 = .ok (.aaload, 1) := by decide +kernel
theorem dX12_fits_6 : decode cX12_fits 6 = .ok (.iconst 3, 1) := by decide +kernel
theorem dX12_fits_7 : decode cX12_fits 7 = .ok (.iaload, 1) := by decide +kernel
theorem dX12_fits_8 : decode cX12_fits 8 = .ok (.ifCond .ge 9, 3) := by decide +kernel
theorem dX12_fits_11 : decode cX12_fits 11 = .ok (.aload_n 1, 1) := by decide +kernel
theorem dX12_fits_12 : decode cX12_fits 12 = .ok (.iload_n 3, 1) := by decide +kernel
theorem dX12_fits_13 : decode cX12_fits 13 = .ok (.iaload, 1) := by decide +kernel
theorem dX12_fits_14 : decode cX12_fits 14 = .ok (.ifCond .lt 5, 3) := by decide +kernel
theorem dX12_fits_17 : decode cX12_fits 17 = .ok (.iconst 0, 1) := by decide +kernel
theorem dX12_fits_18 : decode cX12_fits 18 = .ok (.ireturn, 1) := by decide +kernel
theorem dX12_fits_19 : decode cX12_fits 19 = .ok (.iconst 1, 1) := by decide +kernel
theorem dX12_fits_20 : decode cX12_fits 20 = .ok (.istore 5, 2) := by decide +kernel
theorem dX12_fits_22 : decode cX12_fits 22 = .ok (.aload_n 1, 1) := by decide +kernel
theorem dX12_fits_23 : decode cX12_fits 23 = .ok (.astore 6, 2) := by decide +kernel
theorem dX12_fits_25 : decode cX12_fits 25 = .ok (.aload 6, 2) := by decide +kernel
theorem dX12_fits_27 : decode cX12_fits 27 = .ok (.arraylength, 1) := by decide +kernel
theorem dX12_fits_28 : decode cX12_fits 28 = .ok (.istore 7, 2) := by decide +kernel
theorem dX12_fits_30 : decode cX12_fits 30 = .ok (.iconst 0, 1) := by decide +kernel
theorem dX12_fits_31 : decode cX12_fits 31 = .ok (.istore 8, 2) := by decide +kernel
theorem dX12_fits_33 : decode cX12_fits 33 = .ok (.iload 8, 2) := by decide +kernel
theorem dX12_fits_35 : decode cX12_fits 35 = .ok (.iload 7, 2) := by decide +kernel
theorem dX12_fits_37 : decode cX12_fits 37 = .ok (.if_icmp .ge 31, 3) := by decide +kernel
theorem dX12_fits_40 : decode cX12_fits 40 = .ok (.aload 6, 2) := by decide +kernel
theorem dX12_fits_42 : decode cX12_fits 42 = .ok (.iload 8, 2) := by decide +kernel
theorem dX12_fits_44 : decode cX12_fits 44 = .ok (.iaload, 1) := by decide +kernel
theorem dX12_fits_45 : decode cX12_fits 45 = .ok (.istore 9, 2) := by decide +kernel
theorem dX12_fits_47 : decode cX12_fits 47 = .ok (.iload 5, 2) := by decide +kernel
theorem dX12_fits_49 : decode cX12_fits 49 = .ok (.iload 9, 2) := by decide +kernel
theorem dX12_fits_51 : decode cX12_fits 51 = .ok (.ifCond .ge 7, 3) := by decide +kernel
theorem dX12_fits_54 : decode cX12_fits 54 = .ok (.iconst 1, 1) := by decide +kernel
theorem dX12_fits_55 : decode cX12_fits 55 = .ok (.goto 4, 3) := by decide +kernel
theorem dX12_fits_58 : decode cX12_fits 58 = .ok (.iconst 0, 1) := by decide +kernel
theorem dX12_fits_59 : decode cX12_fits 59 = .ok (.iand, 1) := by decide +kernel
theorem dX12_fits_60 : decode cX12_fits 60 = .ok (.istore 5, 2) := by decide +kernel
theorem dX12_fits_62 : decode cX12_fits 62 = .ok (.iinc 8 1, 3) := by decide +kernel
theorem dX12_fits_65 : decode cX12_fits 65 = .ok (.goto (-32), 3) := by decide +kernel
theorem dX12_fits_68 : decode cX12_fits 68 = .ok (.iload 5, 2) := by decide +kernel
theorem dX12_fits_70 : decode cX12_fits 70 = .ok (.ifCond .ne 24, 3) := by decide +kernel
theorem dX12_fits_73 : decode cX12_fits 73 = .ok (.aload_n 0, 1) := by decide +kernel
theorem dX12_fits_74 : decode cX12_fits 74 = .ok (.aload_n 1, 1) := by decide +kernel
theorem dX12_fits_75 : decode cX12_fits 75 = .ok (.iload_n 3, 1) := by decide +kernel
theorem dX12_fits_76 : decode cX12_fits 76 = .ok (.invokevirtual 47, 3) := by decide +kernel
theorem dX12_fits_79 : decode cX12_fits 79 = .ok (.ifCond .le 19, 3) := by decide +kernel
theorem dX12_fits_82 : decode cX12_fits 82 = .ok (.aload_n 0, 1) := by decide +kernel
theorem dX12_fits_83 : decode cX12_fits 83 = .ok (.aload_n 1, 1) := by decide +kernel
theorem dX12_fits_84 : decode cX12_fits 84 = .ok (.iload_n 2, 1) := by decide +kernel
theorem dX12_fits_85 : decode cX12_fits 85 = .ok (.iload_n 3, 1) := by decide +kernel
theorem dX12_fits_86 : decode cX12_fits 86 = .ok (.iload 4, 2) := by decide +kernel
theorem dX12_fits_88 : decode cX12_fits 88 = .ok (.invokevirtual 51, 3) := by decide +kernel
theorem dX12_fits_91 : decode cX12_fits 91 = .ok (.ifCond .ge 7, 3) := by decide +kernel
theorem dX12_fits_94 : decode cX12_fits 94 = .ok (.iconst 1, 1) := by decide +kernel
theorem dX12_fits_95 : decode cX12_fits 95 = .ok (.goto 4, 3) := by decide +kernel
theorem dX12_fits_98 : decode cX12_fits 98 = .ok (.iconst 0, 1) := by decide +kernel
theorem dX12_fits_99 : decode cX12_fits 99 = .ok (.ireturn, 1) := by decide +kernel
theorem dX12_ways_0 : decode cX12_ways 0 = .ok (.iconst 0, 1) := by decide +kernel
theorem dX12_ways_1 : decode cX12_ways 1 = .ok (.istore_n 3, 1) := by decide +kernel
theorem dX12_ways_2 : decode cX12_ways 2 = .ok (.iconst 0, 1) := by decide +kernel
theorem dX12_ways_3 : decode cX12_ways 3 = .ok (.istore 4, 2) := by decide +kernel
theorem dX12_ways_5 : decode cX12_ways 5 = .ok (.iload 4, 2) := by decide +kernel
theorem dX12_ways_7 : decode cX12_ways 7 = .ok (.aload_n 1, 1) := by decide +kernel
theorem dX12_ways_8 : decode cX12_ways 8 = .ok (.arraylength, 1) := by decide +kernel
theorem dX12_ways_9 : decode cX12_ways 9 = .ok (.if_icmp .ge 46, 3) := by decide +kernel
theorem dX12_ways_12 : decode cX12_ways 12 = .ok (.iconst 0, 1) := by decide +kernel
theorem dX12_ways_13 : decode cX12_ways 13 = .ok (.istore 5, 2) := by decide +kernel
theorem dX12_ways_15 : decode cX12_ways 15 = .ok (.iload 5, 2) := by decide +kernel
theorem dX12_ways_17 : decode cX12_ways 17 = .ok (.bipush 6, 2) := by decide +kernel
theorem dX12_ways_19 : decode cX12_ways 19 = .ok (.if_icmp .ge 30, 3) := by decide +kernel
theorem dX12_ways_22 : decode cX12_ways 22 = .ok (.iload_n 3, 1) := by decide +kernel
theorem dX12_ways_23 : decode cX12_ways 23 = .ok (.aload_n 0, 1) := by decide +kernel
theorem dX12_ways_24 : decode cX12_ways 24 = .ok (.aload_n 1, 1) := by decide +kernel
theorem dX12_ways_25 : decode cX12_ways 25 = .ok (.iload_n 2, 1) := by decide +kernel
theorem dX12_ways_26 : decode cX12_ways 26 = .ok (.iload 4, 2) := by decide +kernel
theorem dX12_ways_28 : decode cX12_ways 28 = .ok (.iload 5, 2) := by decide +kernel
theorem dX12_ways_30 : decode cX12_ways 30 = .ok (.invokevirtual 55, 3) := by decide +kernel
theorem dX12_ways_33 : decode cX12_ways 33 = .ok (.ifCond .eq 7, 3) := by decide +kernel
theorem dX12_ways_36 : decode cX12_ways 36 = .ok (.iconst 1, 1) := by decide +kernel
theorem dX12_ways_37 : decode cX12_ways 37 = .ok (.goto 4, 3) := by decide +kernel
theorem dX12_ways_40 : decode cX12_ways 40 = .ok (.iconst 0, 1) := by decide +kernel
theorem dX12_ways_41 : decode cX12_ways 41 = .ok (.iadd, 1) := by decide +kernel
theorem dX12_ways_42 : decode cX12_ways 42 = .ok (.istore_n 3, 1) := by decide +kernel
theorem dX12_ways_43 : decode cX12_ways 43 = .ok (.iinc 5 1, 3) := by decide +kernel
theorem dX12_ways_46 : decode cX12_ways 46 = .ok (.goto (-31), 3) := by decide +kernel
theorem dX12_ways_49 : decode cX12_ways 49 = .ok (.iinc 4 1, 3) := by decide +kernel
theorem dX12_ways_52 : decode cX12_ways 52 = .ok (.goto (-47), 3) := by decide +kernel
theorem dX12_ways_55 : decode cX12_ways 55 = .ok (.iload_n 3, 1) := by decide +kernel
theorem dX12_ways_56 : decode cX12_ways 56 = .ok (.ireturn, 1) := by decide +kernel
theorem dX12_fit_0 : decode cX12_fit 0 = .ok (.aload_n 0, 1) := by decide +kernel
theorem dX12_fit_1 : decode cX12_fit 1 = .ok (.invokevirtual 59, 3) := by decide +kernel
theorem dX12_fit_4 : decode cX12_fit 4 = .ok (.astore_n 2, 1) := by decide +kernel
theorem dX12_fit_5 : decode cX12_fit 5 = .ok (.iconst 0, 1) := by decide +kernel
theorem dX12_fit_6 : decode cX12_fit 6 = .ok (.istore_n 3, 1) := by decide +kernel
theorem dX12_fit_7 : decode cX12_fit 7 = .ok (.iload_n 3, 1) := by decide +kernel
theorem dX12_fit_8 : decode cX12_fit 8 = .ok (.aload_n 2, 1) := by decide +kernel
theorem dX12_fit_9 : decode cX12_fit 9 = .ok (.arraylength, 1) := by decide +kernel
theorem dX12_fit_10 : decode cX12_fit 10 = .ok (.if_icmp .ge 61, 3) := by decide +kernel
theorem dX12_fit_13 : decode cX12_fit 13 = .ok (.iconst 0, 1) := by decide +kernel
theorem dX12_fit_14 : decode cX12_fit 14 = .ok (.istore 4, 2) := by decide +kernel
theorem dX12_fit_16 : decode cX12_fit 16 = .ok (.iload 4, 2) := by decide +kernel
theorem dX12_fit_18 : decode cX12_fit 18 = .ok (.bipush 6, 2) := by decide +kernel
theorem dX12_fit_20 : decode cX12_fit 20 = .ok (.if_icmp .ge 45, 3) := by decide +kernel
theorem dX12_fit_23 : decode cX12_fit 23 = .ok (.aload_n 0, 1) := by decide +kernel
theorem dX12_fit_24 : decode cX12_fit 24 = .ok (.aload_n 2, 1) := by decide +kernel
theorem dX12_fit_25 : decode cX12_fit 25 = .ok (.iload_n 1, 1) := by decide +kernel
theorem dX12_fit_26 : decode cX12_fit 26 = .ok (.iload_n 3, 1) := by decide +kernel
theorem dX12_fit_27 : decode cX12_fit 27 = .ok (.iload 4, 2) := by decide +kernel
theorem dX12_fit_29 : decode cX12_fit 29 = .ok (.invokevirtual 55, 3) := by decide +kernel
theorem dX12_fit_32 : decode cX12_fit 32 = .ok (.ifCond .ne 6, 3) := by decide +kernel
theorem dX12_fit_35 : decode cX12_fit 35 = .ok (.goto 24, 3) := by decide +kernel
theorem dX12_fit_38 : decode cX12_fit 38 = .ok (.aload_n 0, 1) := by decide +kernel
theorem dX12_fit_39 : decode cX12_fit 39 = .ok (.getfield 18, 3) := by decide +kernel
theorem dX12_fit_42 : decode cX12_fit 42 = .ok (.iload_n 1, 1) := by decide +kernel
theorem dX12_fit_43 : decode cX12_fit 43 = .ok (.aaload, 1) := by decide +kernel
theorem dX12_fit_44 : decode cX12_fit 44 = .ok (.iconst 3, 1) := by decide +kernel
theorem dX12_fit_45 : decode cX12_fit 45 = .ok (.iload_n 3, 1) := by decide +kernel
theorem dX12_fit_46 : decode cX12_fit 46 = .ok (.iastore, 1) := by decide +kernel
theorem dX12_fit_47 : decode cX12_fit 47 = .ok (.aload_n 0, 1) := by decide +kernel
theorem dX12_fit_48 : decode cX12_fit 48 = .ok (.getfield 18, 3) := by decide +kernel
theorem dX12_fit_51 : decode cX12_fit 51 = .ok (.iload_n 1, 1) := by decide +kernel
theorem dX12_fit_52 : decode cX12_fit 52 = .ok (.aaload, 1) := by decide +kernel
theorem dX12_fit_53 : decode cX12_fit 53 = .ok (.iconst 4, 1) := by decide +kernel
theorem dX12_fit_54 : decode cX12_fit 54 = .ok (.iload 4, 2) := by decide +kernel
theorem dX12_fit_56 : decode cX12_fit 56 = .ok (.iastore, 1) := by decide +kernel
theorem dX12_fit_57 : decode cX12_fit 57 = .ok (.iconst 1, 1) := by decide +kernel
theorem dX12_fit_58 : decode cX12_fit 58 = .ok (.ireturn, 1) := by decide +kernel
theorem dX12_fit_59 : decode cX12_fit 59 = .ok (.iinc 4 1, 3) := by decide +kernel
theorem dX12_fit_62 : decode cX12_fit 62 = .ok (.goto (-46), 3) := by decide +kernel
theorem dX12_fit_65 : decode cX12_fit 65 = .ok (.iinc 3 1, 3) := by decide +kernel
theorem dX12_fit_68 : decode cX12_fit 68 = .ok (.goto (-61), 3) := by decide +kernel
theorem dX12_fit_71 : decode cX12_fit 71 = .ok (.iconst 0, 1) := by decide +kernel
theorem dX12_fit_72 : decode cX12_fit 72 = .ok (.ireturn, 1) := by decide +kernel
theorem dX12_counts_0 : decode cX12_counts 0 = .ok (.aload_n 0, 1) := by decide +kernel
theorem dX12_counts_1 : decode cX12_counts 1 = .ok (.invokevirtual 59, 3) := by decide +kernel
theorem dX12_counts_4 : decode cX12_counts 4 = .ok (.astore_n 1, 1) := by decide +kernel
theorem dX12_counts_5 : decode cX12_counts 5 = .ok (.iconst 5, 1) := by decide +kernel
theorem dX12_counts_6 : decode cX12_counts 6 = .ok (.newarray .int, 2) := by decide +kernel
theorem dX12_counts_8 : decode cX12_counts 8 = .ok (.astore_n 2, 1) := by decide +kernel
theorem dX12_counts_9 : decode cX12_counts 9 = .ok (.iconst 0, 1) := by decide +kernel
theorem dX12_counts_10 : decode cX12_counts 10 = .ok (.istore_n 3, 1) := by decide +kernel
theorem dX12_counts_11 : decode cX12_counts 11 = .ok (.iload_n 3, 1) := by decide +kernel
theorem dX12_counts_12 : decode cX12_counts 12 = .ok (.aload_n 1, 1) := by decide +kernel
theorem dX12_counts_13 : decode cX12_counts 13 = .ok (.arraylength, 1) := by decide +kernel
theorem dX12_counts_14 : decode cX12_counts 14 = .ok (.if_icmp .ge 120, 3) := by decide +kernel
theorem dX12_counts_17 : decode cX12_counts 17 = .ok (.aload_n 0, 1) := by decide +kernel
theorem dX12_counts_18 : decode cX12_counts 18 = .ok (.aload_n 1, 1) := by decide +kernel
theorem dX12_counts_19 : decode cX12_counts 19 = .ok (.iload_n 3, 1) := by decide +kernel
theorem dX12_counts_20 : decode cX12_counts 20 = .ok (.invokevirtual 47, 3) := by decide +kernel
theorem dX12_counts_23 : decode cX12_counts 23 = .ok (.bipush 6, 2) := by decide +kernel
theorem dX12_counts_25 : decode cX12_counts 25 = .ok (.if_icmp .ne 10, 3) := by decide +kernel
theorem dX12_counts_28 : decode cX12_counts 28 = .ok (.aload_n 2, 1) := by decide +kernel
theorem dX12_counts_29 : decode cX12_counts 29 = .ok (.iconst 2, 1) := by decide +kernel
theorem dX12_counts_30 : decode cX12_counts 30 = .ok (.dup2, 1) := by decide +kernel
theorem dX12_counts_31 : decode cX12_counts 31 = .ok (.iaload, 1) := by decide +kernel
theorem dX12_counts_32 : decode cX12_counts 32 = .ok (.iconst 1, 1) := by decide +kernel
theorem dX12_counts_33 : decode cX12_counts 33 = .ok (.iadd, 1) := by decide +kernel
theorem dX12_counts_34 : decode cX12_counts 34 = .ok (.iastore, 1) := by decide +kernel
theorem dX12_counts_35 : decode cX12_counts 35 = .ok (.aload_n 1, 1) := by decide +kernel
theorem dX12_counts_36 : decode cX12_counts 36 = .ok (.iload_n 3, 1) := by decide +kernel
theorem dX12_counts_37 : decode cX12_counts 37 = .ok (.iaload, 1) := by decide +kernel
theorem dX12_counts_38 : decode cX12_counts 38 = .ok (.ifCond .ge 6, 3) := by decide +kernel
theorem dX12_counts_41 : decode cX12_counts 41 = .ok (.goto 87, 3) := by decide +kernel
theorem dX12_counts_44 : decode cX12_counts 44 = .ok (.aload_n 2, 1) := by decide +kernel
theorem dX12_counts_45 : decode cX12_counts 45 = .ok (.iconst 4, 1) := by decide +kernel
theorem dX12_counts_46 : decode cX12_counts 46 = .ok (.dup2, 1) := by decide +kernel
theorem dX12_counts_47 : decode cX12_counts 47 = .ok (.iaload, 1) := by decide +kernel
theorem dX12_counts_48 : decode cX12_counts 48 = .ok (.iconst 1, 1) := by decide +kernel
theorem dX12_counts_49 : decode cX12_counts 49 = .ok (.iadd, 1) := by decide +kernel
theorem dX12_counts_50 : decode cX12_counts 50 = .ok (.iastore, 1) := by decide +kernel
theorem dX12_counts_51 : decode cX12_counts 51 = .ok (.iconst 3, 1) := by decide +kernel
theorem dX12_counts_52 : decode cX12_counts 52 = .ok (.istore 4, 2) := by decide +kernel
theorem dX12_counts_54 : decode cX12_counts 54 = .ok (.iload 4, 2) := by decide +kernel
theorem dX12_counts_56 : decode cX12_counts 56 = .ok (.bipush 6, 2) := by decide +kernel
theorem dX12_counts_58 : decode cX12_counts 58 = .ok (.if_icmp .ge 70, 3) := by decide +kernel
theorem dX12_counts_61 : decode cX12_counts 61 = .ok (.aload_n 0, 1) := by decide +kernel
theorem dX12_counts_62 : decode cX12_counts 62 = .ok (.iload_n 3, 1) := by decide +kernel
theorem dX12_counts_63 : decode cX12_counts 63 = .ok (.iload 4, 2) := by decide +kernel
theorem dX12_counts_65 : decode cX12_counts 65 = .ok (.invokevirtual 39, 3) := by decide +kernel
theorem dX12_counts_68 : decode cX12_counts 68 = .ok (.istore 5, 2) := by decide +kernel
theorem dX12_counts_70 : decode cX12_counts 70 = .ok (.iload 5, 2) := by decide +kernel
theorem dX12_counts_72 : decode cX12_counts 72 = .ok (.ifCond .lt 50, 3) := by decide +kernel
theorem dX12_counts_75 : decode cX12_counts 75 = .ok (.aload_n 1, 1) := by decide +kernel
theorem dX12_counts_76 : decode cX12_counts 76 = .ok (.iload 5, 2) := by decide +kernel
theorem dX12_counts_78 : decode cX12_counts 78 = .ok (.iaload, 1) := by decide +kernel
theorem dX12_counts_79 : decode cX12_counts 79 = .ok (.ifCond .ge 6, 3) := by decide +kernel
theorem dX12_counts_82 : decode cX12_counts 82 = .ok (.goto 40, 3) := by decide +kernel
theorem dX12_counts_85 : decode cX12_counts 85 = .ok (.aload_n 2, 1) := by decide +kernel
theorem dX12_counts_86 : decode cX12_counts 86 = .ok (.iconst 0, 1) := by decide +kernel
theorem dX12_counts_87 : decode cX12_counts 87 = .ok (.dup2, 1) := by decide +kernel
theorem dX12_counts_88 : decode cX12_counts 88 = .ok (.iaload, 1) := by decide +kernel
theorem dX12_counts_89 : decode cX12_counts 89 = .ok (.iconst 1, 1) := by decide +kernel
theorem dX12_counts_90 : decode cX12_counts 90 = .ok (.iadd, 1) := by decide +kernel
theorem dX12_counts_91 : decode cX12_counts 91 = .ok (.iastore, 1) := by decide +kernel
theorem dX12_counts_92 : decode cX12_counts 92 = .ok (.aload_n 2, 1) := by decide +kernel
theorem dX12_counts_93 : decode cX12_counts 93 = .ok (.iconst 1, 1) := by decide +kernel
theorem dX12_counts_94 : decode cX12_counts 94 = .ok (.dup2, 1) := by decide +kernel
theorem dX12_counts_95 : decode cX12_counts 95 = .ok (.iaload, 1) := by decide +kernel
theorem dX12_counts_96 : decode cX12_counts 96 = .ok (.aload_n 0, 1) := by decide +kernel
theorem dX12_counts_97 : decode cX12_counts 97 = .ok (.aload_n 0, 1) := by decide +kernel
theorem dX12_counts_98 : decode cX12_counts 98 = .ok (.getfield 18, 3) := by decide +kernel
theorem dX12_counts_101 : decode cX12_counts 101 = .ok (.aload_n 1, 1) := by decide +kernel
theorem dX12_counts_102 : decode cX12_counts 102 = .ok (.iload_n 3, 1) := by decide +kernel
theorem dX12_counts_103 : decode cX12_counts 103 = .ok (.iaload, 1) := by decide +kernel
theorem dX12_counts_104 : decode cX12_counts 104 = .ok (.aaload, 1) := by decide +kernel
theorem dX12_counts_105 : decode cX12_counts 105 = .ok (.aload_n 0, 1) := by decide +kernel
theorem dX12_counts_106 : decode cX12_counts 106 = .ok (.getfield 18, 3) := by decide +kernel
theorem dX12_counts_109 : decode cX12_counts 109 = .ok (.aload_n 1, 1) := by decide +kernel
theorem dX12_counts_110 : decode cX12_counts 110 = .ok (.iload_n 3, 1) := by decide +kernel
theorem dX12_counts_111 : decode cX12_counts 111 = .ok (.iaload, 1) := by decide +kernel
theorem dX12_counts_112 : decode cX12_counts 112 = .ok (.aaload, 1) := by decide +kernel
theorem dX12_counts_113 : decode cX12_counts 113 = .ok (.iconst 4, 1) := by decide +kernel
theorem dX12_counts_114 : decode cX12_counts 114 = .ok (.iaload, 1) := by decide +kernel
theorem dX12_counts_115 : decode cX12_counts 115 = .ok (.iload 4, 2) := by decide +kernel
theorem dX12_counts_117 : decode cX12_counts 117 = .ok (.invokevirtual 43, 3) := by decide +kernel
theorem dX12_counts_120 : decode cX12_counts 120 = .ok (.iadd, 1) := by decide +kernel
theorem dX12_counts_121 : decode cX12_counts 121 = .ok (.iastore, 1) := by decide +kernel
theorem dX12_counts_122 : decode cX12_counts 122 = .ok (.iinc 4 1, 3) := by decide +kernel
theorem dX12_counts_125 : decode cX12_counts 125 = .ok (.goto (-71), 3) := by decide +kernel
theorem dX12_counts_128 : decode cX12_counts 128 = .ok (.iinc 3 1, 3) := by decide +kernel
theorem dX12_counts_131 : decode cX12_counts 131 = .ok (.goto (-120), 3) := by decide +kernel
theorem dX12_counts_134 : decode cX12_counts 134 = .ok (.aload_n 2, 1) := by decide +kernel
theorem dX12_counts_135 : decode cX12_counts 135 = .ok (.iconst 3, 1) := by decide +kernel
theorem dX12_counts_136 : decode cX12_counts 136 = .ok (.aload_n 2, 1) := by decide +kernel
theorem dX12_counts_137 : decode cX12_counts 137 = .ok (.iconst 1, 1) := by decide +kernel
theorem dX12_counts_138 : decode cX12_counts 138 = .ok (.iaload, 1) := by decide +kernel
theorem dX12_counts_139 : decode cX12_counts 139 = .ok (.bipush 10, 2) := by decide +kernel
theorem dX12_counts_141 : decode cX12_counts 141 = .ok (.aload_n 2, 1) := by decide +kernel
theorem dX12_counts_142 : decode cX12_counts 142 = .ok (.iconst 2, 1) := by decide +kernel
theorem dX12_counts_143 : decode cX12_counts 143 = .ok (.iaload, 1) := by decide +kernel
theorem dX12_counts_144 : decode cX12_counts 144 = .ok (.imul, 1) := by decide +kernel
theorem dX12_counts_145 : decode cX12_counts 145 = .ok (.iadd, 1) := by decide +kernel
theorem dX12_counts_146 : decode cX12_counts 146 = .ok (.iastore, 1) := by decide +kernel
theorem dX12_counts_147 : decode cX12_counts 147 = .ok (.aload_n 2, 1) := by decide +kernel
theorem dX12_counts_148 : decode cX12_counts 148 = .ok (.areturn, 1) := by decide +kernel
theorem dX12_groups_0 : decode cX12_groups 0 = .ok (.aload_n 0, 1) := by decide +kernel
theorem dX12_groups_1 : decode cX12_groups 1 = .ok (.invokevirtual 59, 3) := by decide +kernel
theorem dX12_groups_4 : decode cX12_groups 4 = .ok (.astore_n 1, 1) := by decide +kernel
theorem dX12_groups_5 : decode cX12_groups 5 = .ok (.aload_n 1, 1) := by decide +kernel
theorem dX12_groups_6 : decode cX12_groups 6 = .ok (.arraylength, 1) := by decide +kernel
theorem dX12_groups_7 : decode cX12_groups 7 = .ok (.newarray .int, 2) := by decide +kernel
theorem dX12_groups_9 : decode cX12_groups 9 = .ok (.astore_n 2, 1) := by decide +kernel
theorem dX12_groups_10 : decode cX12_groups 10 = .ok (.iconst 0, 1) := by decide +kernel
theorem dX12_groups_11 : decode cX12_groups 11 = .ok (.istore_n 3, 1) := by decide +kernel
theorem dX12_groups_12 : decode cX12_groups 12 = .ok (.iconst 0, 1) := by decide +kernel
theorem dX12_groups_13 : decode cX12_groups 13 = .ok (.istore 4, 2) := by decide +kernel
theorem dX12_groups_15 : decode cX12_groups 15 = .ok (.iload 4, 2) := by decide +kernel
theorem dX12_groups_17 : decode cX12_groups 17 = .ok (.aload_n 1, 1) := by decide +kernel
theorem dX12_groups_18 : decode cX12_groups 18 = .ok (.arraylength, 1) := by decide +kernel
theorem dX12_groups_19 : decode cX12_groups 19 = .ok (.if_icmp .ge 26, 3) := by decide +kernel
theorem dX12_groups_22 : decode cX12_groups 22 = .ok (.aload_n 2, 1) := by decide +kernel
theorem dX12_groups_23 : decode cX12_groups 23 = .ok (.iload 4, 2) := by decide +kernel
theorem dX12_groups_25 : decode cX12_groups 25 = .ok (.aload_n 1, 1) := by decide +kernel
theorem dX12_groups_26 : decode cX12_groups 26 = .ok (.iload 4, 2) := by decide +kernel
theorem dX12_groups_28 : decode cX12_groups 28 = .ok (.iaload, 1) := by decide +kernel
theorem dX12_groups_29 : decode cX12_groups 29 = .ok (.ifCond .ge 7, 3) := by decide +kernel
theorem dX12_groups_32 : decode cX12_groups 32 = .ok (.iconst (-1), 1) := by decide +kernel
theorem dX12_groups_33 : decode cX12_groups 33 = .ok (.goto 5, 3) := by decide +kernel
theorem dX12_groups_36 : decode cX12_groups 36 = .ok (.iload 4, 2) := by decide +kernel
theorem dX12_groups_38 : decode cX12_groups 38 = .ok (.iastore, 1) := by decide +kernel
theorem dX12_groups_39 : decode cX12_groups 39 = .ok (.iinc 4 1, 3) := by decide +kernel
theorem dX12_groups_42 : decode cX12_groups 42 = .ok (.goto (-27), 3) := by decide +kernel
theorem dX12_groups_45 : decode cX12_groups 45 = .ok (.iconst 1, 1) := by decide +kernel
theorem dX12_groups_46 : decode cX12_groups 46 = .ok (.istore 4, 2) := by decide +kernel
theorem dX12_groups_48 : decode cX12_groups 48 = .ok (.iload 4, 2) := by decide +kernel
theorem dX12_groups_50 : decode cX12_groups 50 = .ok (.ifCond .eq 95, 3) := by decide +kernel
theorem dX12_groups_53 : decode cX12_groups 53 = .ok (.iconst 0, 1) := by decide +kernel
theorem dX12_groups_54 : decode cX12_groups 54 = .ok (.istore 4, 2) := by decide +kernel
theorem dX12_groups_56 : decode cX12_groups 56 = .ok (.iconst 0, 1) := by decide +kernel
theorem dX12_groups_57 : decode cX12_groups 57 = .ok (.istore 5, 2) := by decide +kernel
theorem dX12_groups_59 : decode cX12_groups 59 = .ok (.iload 5, 2) := by decide +kernel
theorem dX12_groups_61 : decode cX12_groups 61 = .ok (.aload_n 1, 1) := by decide +kernel
theorem dX12_groups_62 : decode cX12_groups 62 = .ok (.arraylength, 1) := by decide +kernel
theorem dX12_groups_63 : decode cX12_groups 63 = .ok (.if_icmp .ge 79, 3) := by decide +kernel
theorem dX12_groups_66 : decode cX12_groups 66 = .ok (.iconst 0, 1) := by decide +kernel
theorem dX12_groups_67 : decode cX12_groups 67 = .ok (.istore 6, 2) := by decide +kernel
theorem dX12_groups_69 : decode cX12_groups 69 = .ok (.iload 6, 2) := by decide +kernel
theorem dX12_groups_71 : decode cX12_groups 71 = .ok (.bipush 6, 2) := by decide +kernel
theorem dX12_groups_73 : decode cX12_groups 73 = .ok (.if_icmp .ge 63, 3) := by decide +kernel
theorem dX12_groups_76 : decode cX12_groups 76 = .ok (.aload_n 2, 1) := by decide +kernel
theorem dX12_groups_77 : decode cX12_groups 77 = .ok (.iload 5, 2) := by decide +kernel
theorem dX12_groups_79 : decode cX12_groups 79 = .ok (.iaload, 1) := by decide +kernel
theorem dX12_groups_80 : decode cX12_groups 80 = .ok (.ifCond .lt 56, 3) := by decide +kernel
theorem dX12_groups_83 : decode cX12_groups 83 = .ok (.aload_n 0, 1) := by decide +kernel
theorem dX12_groups_84 : decode cX12_groups 84 = .ok (.iload 5, 2) := by decide +kernel
theorem dX12_groups_86 : decode cX12_groups 86 = .ok (.iload 6, 2) := by decide +kernel
theorem dX12_groups_88 : decode cX12_groups 88 = .ok (.invokevirtual 39, 3) := by decide +kernel
theorem dX12_groups_91 : decode cX12_groups 91 = .ok (.istore 7, 2) := by decide +kernel
theorem dX12_groups_93 : decode cX12_groups 93 = .ok (.iload 7, 2) := by decide +kernel
theorem dX12_groups_95 : decode cX12_groups 95 = .ok (.ifCond .lt 35, 3) := by decide +kernel
theorem dX12_groups_98 : decode cX12_groups 98 = .ok (.aload_n 2, 1) := by decide +kernel
theorem dX12_groups_99 : decode cX12_groups 99 = .ok (.iload 7, 2) := by decide +kernel
theorem dX12_groups_101 : decode cX12_groups 101 = .ok (.iaload, 1) := by decide +kernel
theorem dX12_groups_102 : decode cX12_groups 102 = .ok (.ifCond .lt 28, 3) := by decide +kernel
theorem dX12_groups_105 : decode cX12_groups 105 = .ok (.aload_n 2, 1) := by decide +kernel
theorem dX12_groups_106 : decode cX12_groups 106 = .ok (.iload 7, 2) := by decide +kernel
theorem dX12_groups_108 : decode cX12_groups 108 = .ok (.iaload, 1) := by decide +kernel
theorem dX12_groups_109 : decode cX12_groups 109 = .ok (.aload_n 2, 1) := by decide +kernel
theorem dX12_groups_110 : decode cX12_groups 110 = .ok (.iload 5, 2) := by decide +kernel
theorem dX12_groups_112 : decode cX12_groups 112 = .ok (.iaload, 1) := by decide +kernel
theorem dX12_groups_113 : decode cX12_groups 113 = .ok (.if_icmp .lt 6, 3) := by decide +kernel
theorem dX12_groups_116 : decode cX12_groups 116 = .ok (.goto 14, 3) := by decide +kernel
theorem dX12_groups_119 : decode cX12_groups 119 = .ok (.aload_n 2, 1) := by decide +kernel
theorem dX12_groups_120 : decode cX12_groups 120 = .ok (.iload 5, 2) := by decide +kernel
theorem dX12_groups_122 : decode cX12_groups 122 = .ok (.aload_n 2, 1) := by decide +kernel
theorem dX12_groups_123 : decode cX12_groups 123 = .ok (.iload 7, 2) := by decide +kernel
theorem dX12_groups_125 : decode cX12_groups 125 = .ok (.iaload, 1) := by decide +kernel
theorem dX12_groups_126 : decode cX12_groups 126 = .ok (.iastore, 1) := by decide +kernel
theorem dX12_groups_127 : decode cX12_groups 127 = .ok (.iconst 1, 1) := by decide +kernel
theorem dX12_groups_128 : decode cX12_groups 128 = .ok (.istore 4, 2) := by decide +kernel
theorem dX12_groups_130 : decode cX12_groups 130 = .ok (.iinc 6 1, 3) := by decide +kernel
theorem dX12_groups_133 : decode cX12_groups 133 = .ok (.goto (-64), 3) := by decide +kernel
theorem dX12_groups_136 : decode cX12_groups 136 = .ok (.iinc 5 1, 3) := by decide +kernel
theorem dX12_groups_139 : decode cX12_groups 139 = .ok (.goto (-80), 3) := by decide +kernel
theorem dX12_groups_142 : decode cX12_groups 142 = .ok (.goto (-94), 3) := by decide +kernel
theorem dX12_groups_145 : decode cX12_groups 145 = .ok (.iconst 0, 1) := by decide +kernel
theorem dX12_groups_146 : decode cX12_groups 146 = .ok (.istore 5, 2) := by decide +kernel
theorem dX12_groups_148 : decode cX12_groups 148 = .ok (.iload 5, 2) := by decide +kernel
theorem dX12_groups_150 : decode cX12_groups 150 = .ok (.aload_n 1, 1) := by decide +kernel
theorem dX12_groups_151 : decode cX12_groups 151 = .ok (.arraylength, 1) := by decide +kernel
theorem dX12_groups_152 : decode cX12_groups 152 = .ok (.if_icmp .ge 26, 3) := by decide +kernel
theorem dX12_groups_155 : decode cX12_groups 155 = .ok (.iload_n 3, 1) := by decide +kernel
theorem dX12_groups_156 : decode cX12_groups 156 = .ok (.aload_n 2, 1) := by decide +kernel
theorem dX12_groups_157 : decode cX12_groups 157 = .ok (.iload 5, 2) := by decide +kernel
theorem dX12_groups_159 : decode cX12_groups 159 = .ok (.iaload, 1) := by decide +kernel
theorem dX12_groups_160 : decode cX12_groups 160 = .ok (.iload 5, 2) := by decide +kernel
theorem dX12_groups_162 : decode cX12_groups 162 = .ok (.if_icmp .ne 7, 3) := by decide +kernel
theorem dX12_groups_165 : decode cX12_groups 165 = .ok (.iconst 1, 1) := by decide +kernel
theorem dX12_groups_166 : decode cX12_groups 166 = .ok (.goto 4, 3) := by decide +kernel
theorem dX12_groups_169 : decode cX12_groups 169 = .ok (.iconst 0, 1) := by decide +kernel
theorem dX12_groups_170 : decode cX12_groups 170 = .ok (.iadd, 1) := by decide +kernel
theorem dX12_groups_171 : decode cX12_groups 171 = .ok (.istore_n 3, 1) := by decide +kernel
theorem dX12_groups_172 : decode cX12_groups 172 = .ok (.iinc 5 1, 3) := by decide +kernel
theorem dX12_groups_175 : decode cX12_groups 175 = .ok (.goto (-27), 3) := by decide +kernel
theorem dX12_groups_178 : decode cX12_groups 178 = .ok (.iload_n 3, 1) := by decide +kernel
theorem dX12_groups_179 : decode cX12_groups 179 = .ok (.ireturn, 1) := by decide +kernel
theorem dX12_play_0 : decode cX12_play 0 = .ok (.iconst 0, 1) := by decide +kernel
theorem dX12_play_1 : decode cX12_play 1 = .ok (.istore_n 1, 1) := by decide +kernel
theorem dX12_play_2 : decode cX12_play 2 = .ok (.aload_n 0, 1) := by decide +kernel
theorem dX12_play_3 : decode cX12_play 3 = .ok (.getfield 24, 3) := by decide +kernel
theorem dX12_play_6 : decode cX12_play 6 = .ok (.astore_n 2, 1) := by decide +kernel
theorem dX12_play_7 : decode cX12_play 7 = .ok (.aload_n 2, 1) := by decide +kernel
theorem dX12_play_8 : decode cX12_play 8 = .ok (.arraylength, 1) := by decide +kernel
theorem dX12_play_9 : decode cX12_play 9 = .ok (.istore_n 3, 1) := by decide +kernel
theorem dX12_play_10 : decode cX12_play 10 = .ok (.iconst 0, 1) := by decide +kernel
theorem dX12_play_11 : decode cX12_play 11 = .ok (.istore 4, 2) := by decide +kernel
theorem dX12_play_13 : decode cX12_play 13 = .ok (.iload 4, 2) := by decide +kernel
theorem dX12_play_15 : decode cX12_play 15 = .ok (.iload_n 3, 1) := by decide +kernel
theorem dX12_play_16 : decode cX12_play 16 = .ok (.if_icmp .ge 32, 3) := by decide +kernel
theorem dX12_play_19 : decode cX12_play 19 = .ok (.aload_n 2, 1) := by decide +kernel
theorem dX12_play_20 : decode cX12_play 20 = .ok (.iload 4, 2) := by decide +kernel
theorem dX12_play_22 : decode cX12_play 22 = .ok (.aaload, 1) := by decide +kernel
theorem dX12_play_23 : decode cX12_play 23 = .ok (.astore 5, 2) := by decide +kernel
theorem dX12_play_25 : decode cX12_play 25 = .ok (.iload_n 1, 1) := by decide +kernel
theorem dX12_play_26 : decode cX12_play 26 = .ok (.aload 5, 2) := by decide +kernel
theorem dX12_play_28 : decode cX12_play 28 = .ok (.aload_n 0, 1) := by decide +kernel
theorem dX12_play_29 : decode cX12_play 29 = .ok (.invokevirtual 63, 3) := by decide +kernel
theorem dX12_play_32 : decode cX12_play 32 = .ok (.ifCond .eq 7, 3) := by decide +kernel
theorem dX12_play_35 : decode cX12_play 35 = .ok (.iconst 1, 1) := by decide +kernel
theorem dX12_play_36 : decode cX12_play 36 = .ok (.goto 4, 3) := by decide +kernel
theorem dX12_play_39 : decode cX12_play 39 = .ok (.iconst 0, 1) := by decide +kernel
theorem dX12_play_40 : decode cX12_play 40 = .ok (.iadd, 1) := by decide +kernel
theorem dX12_play_41 : decode cX12_play 41 = .ok (.istore_n 1, 1) := by decide +kernel
theorem dX12_play_42 : decode cX12_play 42 = .ok (.iinc 4 1, 3) := by decide +kernel
theorem dX12_play_45 : decode cX12_play 45 = .ok (.goto (-32), 3) := by decide +kernel
theorem dX12_play_48 : decode cX12_play 48 = .ok (.aload_n 0, 1) := by decide +kernel
theorem dX12_play_49 : decode cX12_play 49 = .ok (.dup, 1) := by decide +kernel
theorem dX12_play_50 : decode cX12_play 50 = .ok (.getfield 33, 3) := by decide +kernel
theorem dX12_play_53 : decode cX12_play 53 = .ok (.iconst 1, 1) := by decide +kernel
theorem dX12_play_54 : decode cX12_play 54 = .ok (.iadd, 1) := by decide +kernel
theorem dX12_play_55 : decode cX12_play 55 = .ok (.putfield 33, 3) := by decide +kernel
theorem dX12_play_58 : decode cX12_play 58 = .ok (.iload_n 1, 1) := by decide +kernel
theorem dX12_play_59 : decode cX12_play 59 = .ok (.ireturn, 1) := by decide +kernel
theorem dX12_play__0 : decode cX12_play_ 0 = .ok (.iconst 0, 1) := by decide +kernel
theorem dX12_play__1 : decode cX12_play_ 1 = .ok (.istore_n 2, 1) := by decide +kernel
theorem dX12_play__2 : decode cX12_play_ 2 = .ok (.iconst 0, 1) := by decide +kernel
theorem dX12_play__3 : decode cX12_play_ 3 = .ok (.istore_n 3, 1) := by decide +kernel
theorem dX12_play__4 : decode cX12_play_ 4 = .ok (.iload_n 3, 1) := by decide +kernel
theorem dX12_play__5 : decode cX12_play_ 5 = .ok (.iload_n 1, 1) := by decide +kernel
theorem dX12_play__6 : decode cX12_play_ 6 = .ok (.if_icmp .ge 16, 3) := by decide +kernel
theorem dX12_play__9 : decode cX12_play_ 9 = .ok (.iload_n 2, 1) := by decide +kernel
theorem dX12_play__10 : decode cX12_play_ 10 = .ok (.aload_n 0, 1) := by decide +kernel
theorem dX12_play__11 : decode cX12_play_ 11 = .ok (.invokevirtual 67, 3) := by decide +kernel
theorem dX12_play__14 : decode cX12_play_ 14 = .ok (.iadd, 1) := by decide +kernel
theorem dX12_play__15 : decode cX12_play_ 15 = .ok (.istore_n 2, 1) := by decide +kernel
theorem dX12_play__16 : decode cX12_play_ 16 = .ok (.iinc 3 1, 3) := by decide +kernel
theorem dX12_play__19 : decode cX12_play_ 19 = .ok (.goto (-15), 3) := by decide +kernel
theorem dX12_play__22 : decode cX12_play_ 22 = .ok (.iload_n 2, 1) := by decide +kernel
theorem dX12_play__23 : decode cX12_play_ 23 = .ok (.ireturn, 1) := by decide +kernel
theorem dX12_isSame_0 : decode cX12_isSame 0 = .ok (.aload_n 0, 1) := by decide +kernel
theorem dX12_isSame_1 : decode cX12_isSame 1 = .ok (.invokevirtual 59, 3) := by decide +kernel
theorem dX12_isSame_4 : decode cX12_isSame 4 = .ok (.astore_n 2, 1) := by decide +kernel
theorem dX12_isSame_5 : decode cX12_isSame 5 = .ok (.aload_n 0, 1) := by decide +kernel
theorem dX12_isSame_6 : decode cX12_isSame 6 = .ok (.invokevirtual 71, 3) := by decide +kernel
theorem dX12_isSame_9 : decode cX12_isSame 9 = .ok (.astore_n 3, 1) := by decide +kernel
theorem dX12_isSame_10 : decode cX12_isSame 10 = .ok (.aload_n 1, 1) := by decide +kernel
theorem dX12_isSame_11 : decode cX12_isSame 11 = .ok (.invokevirtual 74, 3) := by decide +kernel
theorem dX12_isSame_14 : decode cX12_isSame 14 = .ok (.aload_n 0, 1) := by decide +kernel
theorem dX12_isSame_15 : decode cX12_isSame 15 = .ok (.getfield 7, 3) := by decide +kernel
theorem dX12_isSame_18 : decode cX12_isSame 18 = .ok (.if_icmp .ne 115, 3) := by decide +kernel
theorem dX12_isSame_21 : decode cX12_isSame 21 = .ok (.aload_n 1, 1) := by decide +kernel
theorem dX12_isSame_22 : decode cX12_isSame 22 = .ok (.invokevirtual 78, 3) := by decide +kernel
theorem dX12_isSame_25 : decode cX12_isSame 25 = .ok (.aload_n 0, 1) := by decide +kernel
theorem dX12_isSame_26 : decode cX12_isSame 26 = .ok (.getfield 13, 3) := by decide +kernel
theorem dX12_isSame_29 : decode cX12_isSame 29 = .ok (.if_icmp .ne 104, 3) := by decide +kernel
theorem dX12_isSame_32 : decode cX12_isSame 32 = .ok (.aload_n 1, 1) := by decide +kernel
theorem dX12_isSame_33 : decode cX12_isSame 33 = .ok (.invokevirtual 80, 3) := by decide +kernel
theorem dX12_isSame_36 : decode cX12_isSame 36 = .ok (.aload_n 0, 1) := by decide +kernel
theorem dX12_isSame_37 : decode cX12_isSame 37 = .ok (.getfield 18, 3) := by decide +kernel
theorem dX12_isSame_40 : decode cX12_isSame 40 = .ok (.arraylength, 1) := by decide +kernel
theorem dX12_isSame_41 : decode cX12_isSame 41 = .ok (.if_icmp .ne 92, 3) := by decide +kernel
theorem dX12_isSame_44 : decode cX12_isSame 44 = .ok (.aload_n 1, 1) := by decide +kernel
theorem dX12_isSame_45 : decode cX12_isSame 45 = .ok (.invokevirtual 82, 3) := by decide +kernel
theorem dX12_isSame_48 : decode cX12_isSame 48 = .ok (.aload_n 0, 1) := by decide +kernel
theorem dX12_isSame_49 : decode cX12_isSame 49 = .ok (.getfield 33, 3) := by decide +kernel
theorem dX12_isSame_52 : decode cX12_isSame 52 = .ok (.if_icmp .ne 81, 3) := by decide +kernel
theorem dX12_isSame_55 : decode cX12_isSame 55 = .ok (.aload_n 1, 1) := by decide +kernel
theorem dX12_isSame_56 : decode cX12_isSame 56 = .ok (.invokevirtual 84, 3) := by decide +kernel
theorem dX12_isSame_59 : decode cX12_isSame 59 = .ok (.aload_n 3, 1) := by decide +kernel
theorem dX12_isSame_60 : decode cX12_isSame 60 = .ok (.iconst 0, 1) := by decide +kernel
theorem dX12_isSame_61 : decode cX12_isSame 61 = .ok (.iaload, 1) := by decide +kernel
theorem dX12_isSame_62 : decode cX12_isSame 62 = .ok (.if_icmp .ne 71, 3) := by decide +kernel
theorem dX12_isSame_65 : decode cX12_isSame 65 = .ok (.aload_n 1, 1) := by decide +kernel
theorem dX12_isSame_66 : decode cX12_isSame 66 = .ok (.invokevirtual 87, 3) := by decide +kernel
theorem dX12_isSame_69 : decode cX12_isSame 69 = .ok (.aload_n 3, 1) := by decide +kernel
theorem dX12_isSame_70 : decode cX12_isSame 70 = .ok (.iconst 3, 1) := by decide +kernel
theorem dX12_isSame_71 : decode cX12_isSame 71 = .ok (.iaload, 1) := by decide +kernel
theorem dX12_isSame_72 : decode cX12_isSame 72 = .ok (.if_icmp .ne 61, 3) := by decide +kernel
theorem dX12_isSame_75 : decode cX12_isSame 75 = .ok (.aload_n 1, 1) := by decide +kernel
theorem dX12_isSame_76 : decode cX12_isSame 76 = .ok (.invokevirtual 90, 3) := by decide +kernel
theorem dX12_isSame_79 : decode cX12_isSame 79 = .ok (.aload_n 3, 1) := by decide +kernel
theorem dX12_isSame_80 : decode cX12_isSame 80 = .ok (.iconst 2, 1) := by decide +kernel
theorem dX12_isSame_81 : decode cX12_isSame 81 = .ok (.iaload, 1) := by decide +kernel
theorem dX12_isSame_82 : decode cX12_isSame 82 = .ok (.if_icmp .ne 51, 3) := by decide +kernel
theorem dX12_isSame_85 : decode cX12_isSame 85 = .ok (.aload_n 1, 1) := by decide +kernel
theorem dX12_isSame_86 : decode cX12_isSame 86 = .ok (.invokevirtual 93, 3) := by decide +kernel
theorem dX12_isSame_89 : decode cX12_isSame 89 = .ok (.aload_n 3, 1) := by decide +kernel
theorem dX12_isSame_90 : decode cX12_isSame 90 = .ok (.iconst 4, 1) := by decide +kernel
theorem dX12_isSame_91 : decode cX12_isSame 91 = .ok (.iaload, 1) := by decide +kernel
theorem dX12_isSame_92 : decode cX12_isSame 92 = .ok (.if_icmp .ne 41, 3) := by decide +kernel
theorem dX12_isSame_95 : decode cX12_isSame 95 = .ok (.aload_n 1, 1) := by decide +kernel
theorem dX12_isSame_96 : decode cX12_isSame 96 = .ok (.invokevirtual 96, 3) := by decide +kernel
theorem dX12_isSame_99 : decode cX12_isSame 99 = .ok (.aload_n 0, 1) := by decide +kernel
theorem dX12_isSame_100 : decode cX12_isSame 100 = .ok (.invokevirtual 99, 3) := by decide +kernel
theorem dX12_isSame_103 : decode cX12_isSame 103 = .ok (.if_icmp .ne 30, 3) := by decide +kernel
theorem dX12_isSame_106 : decode cX12_isSame 106 = .ok (.aload_n 1, 1) := by decide +kernel
theorem dX12_isSame_107 : decode cX12_isSame 107 = .ok (.invokevirtual 100, 3) := by decide +kernel
theorem dX12_isSame_110 : decode cX12_isSame 110 = .ok (.aload_n 3, 1) := by decide +kernel
theorem dX12_isSame_111 : decode cX12_isSame 111 = .ok (.iconst 0, 1) := by decide +kernel
theorem dX12_isSame_112 : decode cX12_isSame 112 = .ok (.iaload, 1) := by decide +kernel
theorem dX12_isSame_113 : decode cX12_isSame 113 = .ok (.ifCond .ne 7, 3) := by decide +kernel
theorem dX12_isSame_116 : decode cX12_isSame 116 = .ok (.dconst 0, 1) := by decide +kernel
theorem dX12_isSame_117 : decode cX12_isSame 117 = .ok (.goto 12, 3) := by decide +kernel
theorem dX12_isSame_120 : decode cX12_isSame 120 = .ok (.aload_n 3, 1) := by decide +kernel
theorem dX12_isSame_121 : decode cX12_isSame 121 = .ok (.iconst 1, 1) := by decide +kernel
theorem dX12_isSame_122 : decode cX12_isSame 122 = .ok (.iaload, 1) := by decide +kernel
theorem dX12_isSame_123 : decode cX12_isSame 123 = .ok (.i2d, 1) := by decide +kernel
theorem dX12_isSame_124 : decode cX12_isSame 124 = .ok (.aload_n 3, 1) := by decide +kernel
theorem dX12_isSame_125 : decode cX12_isSame 125 = .ok (.iconst 0, 1) := by decide +kernel
theorem dX12_isSame_126 : decode cX12_isSame 126 = .ok (.iaload, 1) := by decide +kernel
theorem dX12_isSame_127 : decode cX12_isSame 127 = .ok (.i2d, 1) := by decide +kernel
theorem dX12_isSame_128 : decode cX12_isSame 128 = .ok (.ddiv, 1) := by decide +kernel
theorem dX12_isSame_129 : decode cX12_isSame 129 = .ok (.dcmp .l, 1) := by decide +kernel
theorem dX12_isSame_130 : decode cX12_isSame 130 = .ok (.ifCond .eq 5, 3) := by decide +kernel
theorem dX12_isSame_133 : decode cX12_isSame 133 = .ok (.iconst 0, 1) := by decide +kernel
theorem dX12_isSame_134 : decode cX12_isSame 134 = .ok (.ireturn, 1) := by decide +kernel
theorem dX12_isSame_135 : decode cX12_isSame 135 = .ok (.iconst 0, 1) := by decide +kernel
theorem dX12_isSame_136 : decode cX12_isSame 136 = .ok (.istore 4, 2) := by decide +kernel
theorem dX12_isSame_138 : decode cX12_isSame 138 = .ok (.iload 4, 2) := by decide +kernel
theorem dX12_isSame_140 : decode cX12_isSame 140 = .ok (.aload_n 2, 1) := by decide +kernel
theorem dX12_isSame_141 : decode cX12_isSame 141 = .ok (.arraylength, 1) := by decide +kernel
theorem dX12_isSame_142 : decode cX12_isSame 142 = .ok (.if_icmp .ge 161, 3) := by decide +kernel
theorem dX12_isSame_145 : decode cX12_isSame 145 = .ok (.aload_n 0, 1) := by decide +kernel
theorem dX12_isSame_146 : decode cX12_isSame 146 = .ok (.aload_n 2, 1) := by decide +kernel
theorem dX12_isSame_147 : decode cX12_isSame 147 = .ok (.iload 4, 2) := by decide +kernel
theorem dX12_isSame_149 : decode cX12_isSame 149 = .ok (.invokevirtual 47, 3) := by decide +kernel
theorem dX12_isSame_152 : decode cX12_isSame 152 = .ok (.istore 5, 2) := by decide +kernel
theorem dX12_isSame_154 : decode cX12_isSame 154 = .ok (.aload_n 1, 1) := by decide +kernel
theorem dX12_isSame_155 : decode cX12_isSame 155 = .ok (.iload 4, 2) := by decide +kernel
theorem dX12_isSame_157 : decode cX12_isSame 157 = .ok (.invokevirtual 104, 3) := by decide +kernel
theorem dX12_isSame_160 : decode cX12_isSame 160 = .ok (.aload_n 2, 1) := by decide +kernel
theorem dX12_isSame_161 : decode cX12_isSame 161 = .ok (.iload 4, 2) := by decide +kernel
theorem dX12_isSame_163 : decode cX12_isSame 163 = .ok (.iaload, 1) := by decide +kernel
theorem dX12_isSame_164 : decode cX12_isSame 164 = .ok (.ifCond .lt 7, 3) := by decide +kernel
theorem dX12_isSame_167 : decode cX12_isSame 167 = .ok (.iconst 1, 1) := by decide +kernel
theorem dX12_isSame_168 : decode cX12_isSame 168 = .ok (.goto 4, 3) := by decide +kernel
theorem dX12_isSame_171 : decode cX12_isSame 171 = .ok (.iconst 0, 1) := by decide +kernel
theorem dX12_isSame_172 : decode cX12_isSame 172 = .ok (.if_icmp .ne 46, 3) := by decide +kernel
theorem dX12_isSame_175 : decode cX12_isSame 175 = .ok (.aload_n 1, 1) := by decide +kernel
theorem dX12_isSame_176 : decode cX12_isSame 176 = .ok (.iload 4, 2) := by decide +kernel
theorem dX12_isSame_178 : decode cX12_isSame 178 = .ok (.invokevirtual 108, 3) := by decide +kernel
theorem dX12_isSame_181 : decode cX12_isSame 181 = .ok (.iload 5, 2) := by decide +kernel
theorem dX12_isSame_183 : decode cX12_isSame 183 = .ok (.bipush 6, 2) := by decide +kernel
theorem dX12_isSame_185 : decode cX12_isSame 185 = .ok (.if_icmp .ne 7, 3) := by decide +kernel
theorem dX12_isSame_188 : decode cX12_isSame 188 = .ok (.iconst 1, 1) := by decide +kernel
theorem dX12_isSame_189 : decode cX12_isSame 189 = .ok (.goto 4, 3) := by decide +kernel
theorem dX12_isSame_192 : decode cX12_isSame 192 = .ok (.iconst 0, 1) := by decide +kernel
theorem dX12_isSame_193 : decode cX12_isSame 193 = .ok (.if_icmp .ne 25, 3) := by decide +kernel
theorem dX12_isSame_196 : decode cX12_isSame 196 = .ok (.aload_n 1, 1) := by decide +kernel
theorem dX12_isSame_197 : decode cX12_isSame 197 = .ok (.iload 4, 2) := by decide +kernel
theorem dX12_isSame_199 : decode cX12_isSame 199 = .ok (.invokevirtual 111, 3) := by decide +kernel
theorem dX12_isSame_202 : decode cX12_isSame 202 = .ok (.aload_n 2, 1) := by decide +kernel
theorem dX12_isSame_203 : decode cX12_isSame 203 = .ok (.iload 4, 2) := by decide +kernel
theorem dX12_isSame_205 : decode cX12_isSame 205 = .ok (.iaload, 1) := by decide +kernel
theorem dX12_isSame_206 : decode cX12_isSame 206 = .ok (.ifCond .ge 7, 3) := by decide +kernel
theorem dX12_isSame_209 : decode cX12_isSame 209 = .ok (.iconst 0, 1) := by decide +kernel
theorem dX12_isSame_210 : decode cX12_isSame 210 = .ok (.goto 5, 3) := by decide +kernel
theorem dX12_isSame_213 : decode cX12_isSame 213 = .ok (.iload 5, 2) := by decide +kernel
theorem dX12_isSame_215 : decode cX12_isSame 215 = .ok (.if_icmp .eq 5, 3) := by decide +kernel
theorem dX12_isSame_218 : decode cX12_isSame 218 = .ok (.iconst 0, 1) := by decide +kernel
theorem dX12_isSame_219 : decode cX12_isSame 219 = .ok (.ireturn, 1) := by decide +kernel
theorem dX12_isSame_220 : decode cX12_isSame 220 = .ok (.aload_n 2, 1) := by decide +kernel
theorem dX12_isSame_221 : decode cX12_isSame 221 = .ok (.iload 4, 2) := by decide +kernel
theorem dX12_isSame_223 : decode cX12_isSame 223 = .ok (.iaload, 1) := by decide +kernel
theorem dX12_isSame_224 : decode cX12_isSame 224 = .ok (.ifCond .ge 6, 3) := by decide +kernel
theorem dX12_isSame_227 : decode cX12_isSame 227 = .ok (.goto 70, 3) := by decide +kernel
theorem dX12_isSame_230 : decode cX12_isSame 230 = .ok (.aload_n 0, 1) := by decide +kernel
theorem dX12_isSame_231 : decode cX12_isSame 231 = .ok (.getfield 18, 3) := by decide +kernel
theorem dX12_isSame_234 : decode cX12_isSame 234 = .ok (.aload_n 2, 1) := by decide +kernel
theorem dX12_isSame_235 : decode cX12_isSame 235 = .ok (.iload 4, 2) := by decide +kernel
theorem dX12_isSame_237 : decode cX12_isSame 237 = .ok (.iaload, 1) := by decide +kernel
theorem dX12_isSame_238 : decode cX12_isSame 238 = .ok (.aaload, 1) := by decide +kernel
theorem dX12_isSame_239 : decode cX12_isSame 239 = .ok (.astore 6, 2) := by decide +kernel
theorem dX12_isSame_241 : decode cX12_isSame 241 = .ok (.aload_n 1, 1) := by decide +kernel
theorem dX12_isSame_242 : decode cX12_isSame 242 = .ok (.iload 4, 2) := by decide +kernel
theorem dX12_isSame_244 : decode cX12_isSame 244 = .ok (.invokevirtual 115, 3) := by decide +kernel
theorem dX12_isSame_247 : decode cX12_isSame 247 = .ok (.aload_n 2, 1) := by decide +kernel
theorem dX12_isSame_248 : decode cX12_isSame 248 = .ok (.iload 4, 2) := by decide +kernel
theorem dX12_isSame_250 : decode cX12_isSame 250 = .ok (.iaload, 1) := by decide +kernel
theorem dX12_isSame_251 : decode cX12_isSame 251 = .ok (.if_icmp .eq 5, 3) := by decide +kernel
theorem dX12_isSame_254 : decode cX12_isSame 254 = .ok (.iconst 0, 1) := by decide +kernel
theorem dX12_isSame_255 : decode cX12_isSame 255 = .ok (.ireturn, 1) := by decide +kernel
theorem dX12_isSame_256 : decode cX12_isSame 256 = .ok (.iconst 0, 1) := by decide +kernel
theorem dX12_isSame_257 : decode cX12_isSame 257 = .ok (.istore 7, 2) := by decide +kernel
theorem dX12_isSame_259 : decode cX12_isSame 259 = .ok (.iload 7, 2) := by decide +kernel
theorem dX12_isSame_261 : decode cX12_isSame 261 = .ok (.bipush 6, 2) := by decide +kernel
theorem dX12_isSame_263 : decode cX12_isSame 263 = .ok (.if_icmp .ge 34, 3) := by decide +kernel
theorem dX12_isSame_266 : decode cX12_isSame 266 = .ok (.aload_n 1, 1) := by decide +kernel
theorem dX12_isSame_267 : decode cX12_isSame 267 = .ok (.iload 4, 2) := by decide +kernel
theorem dX12_isSame_269 : decode cX12_isSame 269 = .ok (.iload 7, 2) := by decide +kernel
theorem dX12_isSame_271 : decode cX12_isSame 271 = .ok (.invokevirtual 118, 3) := by decide +kernel
theorem dX12_isSame_274 : decode cX12_isSame 274 = .ok (.aload_n 0, 1) := by decide +kernel
theorem dX12_isSame_275 : decode cX12_isSame 275 = .ok (.aload 6, 2) := by decide +kernel
theorem dX12_isSame_277 : decode cX12_isSame 277 = .ok (.aload 6, 2) := by decide +kernel
theorem dX12_isSame_279 : decode cX12_isSame 279 = .ok (.iconst 4, 1) := by decide +kernel
theorem dX12_isSame_280 : decode cX12_isSame 280 = .ok (.iaload, 1) := by decide +kernel
theorem dX12_isSame_281 : decode cX12_isSame 281 = .ok (.iload 7, 2) := by decide +kernel
theorem dX12_isSame_283 : decode cX12_isSame 283 = .ok (.invokevirtual 43, 3) := by decide +kernel
theorem dX12_isSame_286 : decode cX12_isSame 286 = .ok (.if_icmp .eq 5, 3) := by decide +kernel
theorem dX12_isSame_289 : decode cX12_isSame 289 = .ok (.iconst 0, 1) := by decide +kernel
theorem dX12_isSame_290 : decode cX12_isSame 290 = .ok (.ireturn, 1) := by decide +kernel
theorem dX12_isSame_291 : decode cX12_isSame 291 = .ok (.iinc 7 1, 3) := by decide +kernel
theorem dX12_isSame_294 : decode cX12_isSame 294 = .ok (.goto (-35), 3) := by decide +kernel
theorem dX12_isSame_297 : decode cX12_isSame 297 = .ok (.iinc 4 1, 3) := by decide +kernel
theorem dX12_isSame_300 : decode cX12_isSame 300 = .ok (.goto (-162), 3) := by decide +kernel
theorem dX12_isSame_303 : decode cX12_isSame 303 = .ok (.iconst 0, 1) := by decide +kernel
theorem dX12_isSame_304 : decode cX12_isSame 304 = .ok (.istore 4, 2) := by decide +kernel
theorem dX12_isSame_306 : decode cX12_isSame 306 = .ok (.iload 4, 2) := by decide +kernel
theorem dX12_isSame_308 : decode cX12_isSame 308 = .ok (.aload_n 0, 1) := by decide +kernel
theorem dX12_isSame_309 : decode cX12_isSame 309 = .ok (.getfield 18, 3) := by decide +kernel
theorem dX12_isSame_312 : decode cX12_isSame 312 = .ok (.arraylength, 1) := by decide +kernel
theorem dX12_isSame_313 : decode cX12_isSame 313 = .ok (.if_icmp .ge 82, 3) := by decide +kernel
theorem dX12_isSame_316 : decode cX12_isSame 316 = .ok (.aload_n 0, 1) := by decide +kernel
theorem dX12_isSame_317 : decode cX12_isSame 317 = .ok (.getfield 18, 3) := by decide +kernel
theorem dX12_isSame_320 : decode cX12_isSame 320 = .ok (.iload 4, 2) := by decide +kernel
theorem dX12_isSame_322 : decode cX12_isSame 322 = .ok (.aaload, 1) := by decide +kernel
theorem dX12_isSame_323 : decode cX12_isSame 323 = .ok (.iconst 3, 1) := by decide +kernel
theorem dX12_isSame_324 : decode cX12_isSame 324 = .ok (.iaload, 1) := by decide +kernel
theorem dX12_isSame_325 : decode cX12_isSame 325 = .ok (.ifCond .lt 7, 3) := by decide +kernel
theorem dX12_isSame_328 : decode cX12_isSame 328 = .ok (.iconst 1, 1) := by decide +kernel
theorem dX12_isSame_329 : decode cX12_isSame 329 = .ok (.goto 4, 3) := by decide +kernel
theorem dX12_isSame_332 : decode cX12_isSame 332 = .ok (.iconst 0, 1) := by decide +kernel
theorem dX12_isSame_333 : decode cX12_isSame 333 = .ok (.istore 5, 2) := by decide +kernel
theorem dX12_isSame_335 : decode cX12_isSame 335 = .ok (.aload_n 1, 1) := by decide +kernel
theorem dX12_isSame_336 : decode cX12_isSame 336 = .ok (.iload 4, 2) := by decide +kernel
theorem dX12_isSame_338 : decode cX12_isSame 338 = .ok (.invokevirtual 121, 3) := by decide +kernel
theorem dX12_isSame_341 : decode cX12_isSame 341 = .ok (.iload 5, 2) := by decide +kernel
theorem dX12_isSame_343 : decode cX12_isSame 343 = .ok (.if_icmp .ne 44, 3) := by decide +kernel
theorem dX12_isSame_346 : decode cX12_isSame 346 = .ok (.iload 5, 2) := by decide +kernel
theorem dX12_isSame_348 : decode cX12_isSame 348 = .ok (.ifCond .eq 41, 3) := by decide +kernel
theorem dX12_isSame_351 : decode cX12_isSame 351 = .ok (.aload_n 1, 1) := by decide +kernel
theorem dX12_isSame_352 : decode cX12_isSame 352 = .ok (.iload 4, 2) := by decide +kernel
theorem dX12_isSame_354 : decode cX12_isSame 354 = .ok (.invokevirtual 124, 3) := by decide +kernel
theorem dX12_isSame_357 : decode cX12_isSame 357 = .ok (.aload_n 0, 1) := by decide +kernel
theorem dX12_isSame_358 : decode cX12_isSame 358 = .ok (.getfield 18, 3) := by decide +kernel
theorem dX12_isSame_361 : decode cX12_isSame 361 = .ok (.iload 4, 2) := by decide +kernel
theorem dX12_isSame_363 : decode cX12_isSame 363 = .ok (.aaload, 1) := by decide +kernel
theorem dX12_isSame_364 : decode cX12_isSame 364 = .ok (.iconst 3, 1) := by decide +kernel
theorem dX12_isSame_365 : decode cX12_isSame 365 = .ok (.iaload, 1) := by decide +kernel
theorem dX12_isSame_366 : decode cX12_isSame 366 = .ok (.if_icmp .ne 21, 3) := by decide +kernel
theorem dX12_isSame_369 : decode cX12_isSame 369 = .ok (.aload_n 1, 1) := by decide +kernel
theorem dX12_isSame_370 : decode cX12_isSame 370 = .ok (.iload 4, 2) := by decide +kernel
theorem dX12_isSame_372 : decode cX12_isSame 372 = .ok (.invokevirtual 127, 3) := by decide +kernel
theorem dX12_isSame_375 : decode cX12_isSame 375 = .ok (.aload_n 0, 1) := by decide +kernel
theorem dX12_isSame_376 : decode cX12_isSame 376 = .ok (.getfield 18, 3) := by decide +kernel
theorem dX12_isSame_379 : decode cX12_isSame 379 = .ok (.iload 4, 2) := by decide +kernel
theorem dX12_isSame_381 : decode cX12_isSame 381 = .ok (.aaload, 1) := by decide +kernel
theorem dX12_isSame_382 : decode cX12_isSame 382 = .ok (.iconst 4, 1) := by decide +kernel
theorem dX12_isSame_383 : decode cX12_isSame 383 = .ok (.iaload, 1) := by decide +kernel
theorem dX12_isSame_384 : decode cX12_isSame 384 = .ok (.if_icmp .eq 5, 3) := by decide +kernel
theorem dX12_isSame_387 : decode cX12_isSame 387 = .ok (.iconst 0, 1) := by decide +kernel
theorem dX12_isSame_388 : decode cX12_isSame 388 = .ok (.ireturn, 1) := by decide +kernel
theorem dX12_isSame_389 : decode cX12_isSame 389 = .ok (.iinc 4 1, 3) := by decide +kernel
theorem dX12_isSame_392 : decode cX12_isSame 392 = .ok (.goto (-86), 3) := by decide +kernel
theorem dX12_isSame_395 : decode cX12_isSame 395 = .ok (.iconst 1, 1) := by decide +kernel
theorem dX12_isSame_396 : decode cX12_isSame 396 = .ok (.ireturn, 1) := by decide +kernel
theorem dX13_init_0 : decode cX13_init 0 = .ok (.aload_n 0, 1) := by decide +kernel
theorem dX13_init_1 : decode cX13_init 1 = .ok (.invokespecial 1, 3) := by decide +kernel
theorem dX13_init_4 : decode cX13_init 4 = .ok (.aload_n 0, 1) := by decide +kernel
theorem dX13_init_5 : decode cX13_init 5 = .ok (.iload_n 1, 1) := by decide +kernel
theorem dX13_init_6 : decode cX13_init 6 = .ok (.putfield 7, 3) := by decide +kernel
theorem dX13_init_9 : decode cX13_init 9 = .ok (.aload_n 0, 1) := by decide +kernel
theorem dX13_init_10 : decode cX13_init 10 = .ok (.iload_n 2, 1) := by decide +kernel
theorem dX13_init_11 : decode cX13_init 11 = .ok (.putfield 13, 3) := by decide +kernel
theorem dX13_init_14 : decode cX13_init 14 = .ok (.aload_n 0, 1) := by decide +kernel
theorem dX13_init_15 : decode cX13_init 15 = .ok (.aload_n 3, 1) := by decide +kernel
theorem dX13_init_16 : decode cX13_init 16 = .ok (.putfield 16, 3) := by decide +kernel
theorem dX13_init_19 : decode cX13_init 19 = .ok (.aload_n 0, 1) := by decide +kernel
theorem dX13_init_20 : decode cX13_init 20 = .ok (.aload 4, 2) := by decide +kernel
theorem dX13_init_22 : decode cX13_init 22 = .ok (.putfield 20, 3) := by decide +kernel
theorem dX13_init_25 : decode cX13_init 25 = .ok (.return_, 1) := by decide +kernel
theorem dX13_sum_0 : decode cX13_sum 0 = .ok (.aload_n 0, 1) := by decide +kernel
theorem dX13_sum_1 : decode cX13_sum 1 = .ok (.iload_n 2, 1) := by decide +kernel
theorem dX13_sum_2 : decode cX13_sum 2 = .ok (.ifCond .ne 8, 3) := by decide +kernel
theorem dX13_sum_5 : decode cX13_sum 5 = .ok (.bipush 8, 2) := by decide +kernel
theorem dX13_sum_7 : decode cX13_sum 7 = .ok (.goto 5, 3) := by decide +kernel
theorem dX13_sum_10 : decode cX13_sum 10 = .ok (.bipush 15, 2) := by decide +kernel
theorem dX13_sum_12 : decode cX13_sum 12 = .ok (.invokevirtual 23, 3) := by decide +kernel
theorem dX13_sum_15 : decode cX13_sum 15 = .ok (.istore_n 3, 1) := by decide +kernel
theorem dX13_sum_16 : decode cX13_sum 16 = .ok (.iload_n 3, 1) := by decide +kernel
theorem dX13_sum_17 : decode cX13_sum 17 = .ok (.bipush 8, 2) := by decide +kernel
theorem dX13_sum_19 : decode cX13_sum 19 = .ok (.if_icmp .ge 50, 3) := by decide +kernel
theorem dX13_sum_22 : decode cX13_sum 22 = .ok (.new 8, 3) := by decide +kernel
theorem dX13_sum_25 : decode cX13_sum 25 = .ok (.dup, 1) := by decide +kernel
theorem dX13_sum_26 : decode cX13_sum 26 = .ok (.iload_n 3, 1) := by decide +kernel
theorem dX13_sum_27 : decode cX13_sum 27 = .ok (.iload_n 3, 1) := by decide +kernel
theorem dX13_sum_28 : decode cX13_sum 28 = .ok (.ifCond .le 11, 3) := by decide +kernel
theorem dX13_sum_31 : decode cX13_sum 31 = .ok (.aload_n 0, 1) := by decide +kernel
theorem dX13_sum_32 : decode cX13_sum 32 = .ok (.iload_n 1, 1) := by decide +kernel
theorem dX13_sum_33 : decode cX13_sum 33 = .ok (.invokevirtual 23, 3) := by decide +kernel
theorem dX13_sum_36 : decode cX13_sum 36 = .ok (.goto 27, 3) := by decide +kernel
theorem dX13_sum_39 : decode cX13_sum 39 = .ok (.aload_n 0, 1) := by decide +kernel
theorem dX13_sum_40 : decode cX13_sum 40 = .ok (.bipush 7, 2) := by decide +kernel
theorem dX13_sum_42 : decode cX13_sum 42 = .ok (.invokevirtual 23, 3) := by decide +kernel
theorem dX13_sum_45 : decode cX13_sum 45 = .ok (.ifCond .ne 12, 3) := by decide +kernel
theorem dX13_sum_48 : decode cX13_sum 48 = .ok (.aload_n 0, 1) := by decide +kernel
theorem dX13_sum_49 : decode cX13_sum 49 = .ok (.ldc 29, 2) := by decide +kernel
theorem dX13_sum_51 : decode cX13_sum 51 = .ok (.invokevirtual 23, 3) := by decide +kernel
theorem dX13_sum_54 : decode cX13_sum 54 = .ok (.goto 9, 3) := by decide +kernel
theorem dX13_sum_57 : decode cX13_sum 57 = .ok (.aload_n 0, 1) := by decide +kernel
theorem dX13_sum_58 : decode cX13_sum 58 = .ok (.bipush 12, 2) := by decide +kernel
theorem dX13_sum_60 : decode cX13_sum 60 = .ok (.invokevirtual 23, 3) := by decide +kernel
theorem dX13_sum_63 : decode cX13_sum 63 = .ok (.aconst_null, 1) := by decide +kernel
theorem dX13_sum_64 : decode cX13_sum 64 = .ok (.aconst_null, 1) := by decide +kernel
theorem dX13_sum_65 : decode cX13_sum 65 = .ok (.invokespecial 30, 3) := by decide +kernel
theorem dX13_sum_68 : decode cX13_sum 68 = .ok (.areturn, 1) := by decide +kernel
theorem dX13_sum_69 : decode cX13_sum 69 = .ok (.aload_n 0, 1) := by decide +kernel
theorem dX13_sum_70 : decode cX13_sum 70 = .ok (.iload_n 1, 1) := by decide +kernel
theorem dX13_sum_71 : decode cX13_sum 71 = .ok (.iload_n 2, 1) := by decide +kernel
theorem dX13_sum_72 : decode cX13_sum 72 = .ok (.iconst 1, 1) := by decide +kernel
theorem dX13_sum_73 : decode cX13_sum 73 = .ok (.isub, 1) := by decide +kernel
theorem dX13_sum_74 : decode cX13_sum 74 = .ok (.invokestatic 33, 3) := by decide +kernel
theorem dX13_sum_77 : decode cX13_sum 77 = .ok (.astore 4, 2) := by decide +kernel
theorem dX13_sum_79 : decode cX13_sum 79 = .ok (.new 8, 3) := by decide +kernel
theorem dX13_sum_82 : decode cX13_sum 82 = .ok (.dup, 1) := by decide +kernel
theorem dX13_sum_83 : decode cX13_sum 83 = .ok (.iload_n 3, 1) := by decide +kernel
theorem dX13_sum_84 : decode cX13_sum 84 = .ok (.iconst 0, 1) := by decide +kernel
theorem dX13_sum_85 : decode cX13_sum 85 = .ok (.aload 4, 2) := by decide +kernel
theorem dX13_sum_87 : decode cX13_sum 87 = .ok (.iload_n 3, 1) := by decide +kernel
theorem dX13_sum_88 : decode cX13_sum 88 = .ok (.bipush 8, 2) := by decide +kernel
theorem dX13_sum_90 : decode cX13_sum 90 = .ok (.if_icmp .ne 7, 3) := by decide +kernel
theorem dX13_sum_93 : decode cX13_sum 93 = .ok (.aconst_null, 1) := by decide +kernel
theorem dX13_sum_94 : decode cX13_sum 94 = .ok (.goto 11, 3) := by decide +kernel
theorem dX13_sum_97 : decode cX13_sum 97 = .ok (.aload_n 0, 1) := by decide +kernel
theorem dX13_sum_98 : decode cX13_sum 98 = .ok (.iload_n 1, 1) := by decide +kernel
theorem dX13_sum_99 : decode cX13_sum 99 = .ok (.iload_n 2, 1) := by decide +kernel
theorem dX13_sum_100 : decode cX13_sum 100 = .ok (.iconst 1, 1) := by decide +kernel
theorem dX13_sum_101 : decode cX13_sum 101 = .ok (.isub, 1) := by decide +kernel
theorem dX13_sum_102 : decode cX13_sum 102 = .ok (.invokestatic 33, 3) := by decide +kernel
theorem dX13_sum_105 : decode cX13_sum 105 = .ok (.invokespecial 30, 3) := by decide +kernel
theorem dX13_sum_108 : decode cX13_sum 108 = .ok (.areturn, 1) := by decide +kernel
theorem dX13_test_0 : decode cX13_test 0 = .ok (.aload_n 0, 1) := by decide +kernel
theorem dX13_test_1 : decode cX13_test 1 = .ok (.iload_n 2, 1) := by decide +kernel
theorem dX13_test_2 : decode cX13_test 2 = .ok (.ifCond .ne 7, 3) := by decide +kernel
theorem dX13_test_5 : decode cX13_test 5 = .ok (.iconst 5, 1) := by decide +kernel
theorem dX13_test_6 : decode cX13_test 6 = .ok (.goto 5, 3) := by decide +kernel
theorem dX13_test_9 : decode cX13_test 9 = .ok (.bipush 8, 2) := by decide +kernel
theorem dX13_test_11 : decode cX13_test 11 = .ok (.invokevirtual 23, 3) := by decide +kernel
theorem dX13_test_14 : decode cX13_test 14 = .ok (.istore_n 3, 1) := by decide +kernel
theorem dX13_test_15 : decode cX13_test 15 = .ok (.iload_n 3, 1) := by decide +kernel
theorem dX13_test_16 : decode cX13_test 16 = .ok (.iconst 2, 1) := by decide +kernel
theorem dX13_test_17 : decode cX13_test 17 = .ok (.if_icmp .ge 22, 3) := by decide +kernel
theorem dX13_test_20 : decode cX13_test 20 = .ok (.new 8, 3) := by decide +kernel
theorem dX13_test_23 : decode cX13_test 23 = .ok (.dup, 1) := by decide +kernel
theorem dX13_test_24 : decode cX13_test 24 = .ok (.bipush 20, 2) := by decide +kernel
theorem dX13_test_26 : decode cX13_test 26 = .ok (.iload_n 3, 1) := by decide +kernel
theorem dX13_test_27 : decode cX13_test 27 = .ok (.iadd, 1) := by decide +kernel
theorem dX13_test_28 : decode cX13_test 28 = .ok (.aload_n 0, 1) := by decide +kernel
theorem dX13_test_29 : decode cX13_test 29 = .ok (.iload_n 1, 1) := by decide +kernel
theorem dX13_test_30 : decode cX13_test 30 = .ok (.invokevirtual 23, 3) := by decide +kernel
theorem dX13_test_33 : decode cX13_test 33 = .ok (.aconst_null, 1) := by decide +kernel
theorem dX13_test_34 : decode cX13_test 34 = .ok (.aconst_null, 1) := by decide +kernel
theorem dX13_test_35 : decode cX13_test 35 = .ok (.invokespecial 30, 3) := by decide +kernel
theorem dX13_test_38 : decode cX13_test 38 = .ok (.areturn, 1) := by decide +kernel
theorem dX13_test_39 : decode cX13_test 39 = .ok (.iload_n 3, 1) := by decide +kernel
theorem dX13_test_40 : decode cX13_test 40 = .ok (.iconst 5, 1) := by decide +kernel
theorem dX13_test_41 : decode cX13_test 41 = .ok (.if_icmp .ge 32, 3) := by decide +kernel
theorem dX13_test_44 : decode cX13_test 44 = .ok (.new 8, 3) := by decide +kernel
theorem dX13_test_47 : decode cX13_test 47 = .ok (.dup, 1) := by decide +kernel
theorem dX13_test_48 : decode cX13_test 48 = .ok (.bipush 15, 2) := by decide +kernel
theorem dX13_test_50 : decode cX13_test 50 = .ok (.aload_n 0, 1) := by decide +kernel
theorem dX13_test_51 : decode cX13_test 51 = .ok (.iconst 5, 1) := by decide +kernel
theorem dX13_test_52 : decode cX13_test 52 = .ok (.invokevirtual 23, 3) := by decide +kernel
theorem dX13_test_55 : decode cX13_test 55 = .ok (.iadd, 1) := by decide +kernel
theorem dX13_test_56 : decode cX13_test 56 = .ok (.iconst 0, 1) := by decide +kernel
theorem dX13_test_57 : decode cX13_test 57 = .ok (.aload_n 0, 1) := by decide +kernel
theorem dX13_test_58 : decode cX13_test 58 = .ok (.iload_n 1, 1) := by decide +kernel
theorem dX13_test_59 : decode cX13_test 59 = .ok (.iconst 1, 1) := by decide +kernel
theorem dX13_test_60 : decode cX13_test 60 = .ok (.invokestatic 33, 3) := by decide +kernel
theorem dX13_test_63 : decode cX13_test 63 = .ok (.aload_n 0, 1) := by decide +kernel
theorem dX13_test_64 : decode cX13_test 64 = .ok (.iload_n 1, 1) := by decide +kernel
theorem dX13_test_65 : decode cX13_test 65 = .ok (.iconst 0, 1) := by decide +kernel
theorem dX13_test_66 : decode cX13_test 66 = .ok (.invokestatic 33, 3) := by decide +kernel
theorem dX13_test_69 : decode cX13_test 69 = .ok (.invokespecial 30, 3) := by decide +kernel
theorem dX13_test_72 : decode cX13_test 72 = .ok (.areturn, 1) := by decide +kernel
theorem dX13_test_73 : decode cX13_test 73 = .ok (.aload_n 0, 1) := by decide +kernel
theorem dX13_test_74 : decode cX13_test 74 = .ok (.iload_n 1, 1) := by decide +kernel
theorem dX13_test_75 : decode cX13_test 75 = .ok (.iload_n 2, 1) := by decide +kernel
theorem dX13_test_76 : decode cX13_test 76 = .ok (.iconst 1, 1) := by decide +kernel
theorem dX13_test_77 : decode cX13_test 77 = .ok (.isub, 1) := by decide +kernel
theorem dX13_test_78 : decode cX13_test 78 = .ok (.invokestatic 37, 3) := by decide +kernel
theorem dX13_test_81 : decode cX13_test 81 = .ok (.astore 4, 2) := by decide +kernel
theorem dX13_test_83 : decode cX13_test 83 = .ok (.new 8, 3) := by decide +kernel
theorem dX13_test_86 : decode cX13_test 86 = .ok (.dup, 1) := by decide +kernel
theorem dX13_test_87 : decode cX13_test 87 = .ok (.bipush 17, 2) := by decide +kernel
theorem dX13_test_89 : decode cX13_test 89 = .ok (.iload_n 3, 1) := by decide +kernel
theorem dX13_test_90 : decode cX13_test 90 = .ok (.iadd, 1) := by decide +kernel
theorem dX13_test_91 : decode cX13_test 91 = .ok (.iconst 0, 1) := by decide +kernel
theorem dX13_test_92 : decode cX13_test 92 = .ok (.aload 4, 2) := by decide +kernel
theorem dX13_test_94 : decode cX13_test 94 = .ok (.iload_n 3, 1) := by decide +kernel
theorem dX13_test_95 : decode cX13_test 95 = .ok (.iconst 5, 1) := by decide +kernel
theorem dX13_test_96 : decode cX13_test 96 = .ok (.if_icmp .ne 7, 3) := by decide +kernel
theorem dX13_test_99 : decode cX13_test 99 = .ok (.aconst_null, 1) := by decide +kernel
theorem dX13_test_100 : decode cX13_test 100 = .ok (.goto 11, 3) := by decide +kernel
theorem dX13_test_103 : decode cX13_test 103 = .ok (.aload_n 0, 1) := by decide +kernel
theorem dX13_test_104 : decode cX13_test 104 = .ok (.iload_n 1, 1) := by decide +kernel
theorem dX13_test_105 : decode cX13_test 105 = .ok (.iload_n 2, 1) := by decide +kernel
theorem dX13_test_106 : decode cX13_test 106 = .ok (.iconst 1, 1) := by decide +kernel
theorem dX13_test_107 : decode cX13_test 107 = .ok (.isub, 1) := by decide +kernel
theorem dX13_test_108 : decode cX13_test 108 = .ok (.invokestatic 37, 3) := by decide +kernel
theorem dX13_test_111 : decode cX13_test 111 = .ok (.invokespecial 30, 3) := by decide +kernel
theorem dX13_test_114 : decode cX13_test 114 = .ok (.areturn, 1) := by decide +kernel
theorem dX13_text_0 : decode cX13_text 0 = .ok (.aload_n 0, 1) := by decide +kernel
theorem dX13_text_1 : decode cX13_text 1 = .ok (.getfield 7, 3) := by decide +kernel
theorem dX13_text_4 : decode cX13_text 4 = .ok (.tableswitch 444 0 24 #[116, 444, 444, 444, 444, 444, 444, 139, 162, 188, 234, 444, 444, 444, 444, 444, 444, 444, 444, 444, 280, 303, 326, 352, 398], 116) := by decide +kernel
theorem dX13_text_120 : decode cX13_text 120 = .ok (.new 40, 3) := by decide +kernel
theorem dX13_text_123 : decode cX13_text 123 = .ok (.dup, 1) := by decide +kernel
theorem dX13_text_124 : decode cX13_text 124 = .ok (.invokespecial 42, 3) := by decide +kernel
theorem dX13_text_127 : decode cX13_text 127 = .ok (.ldc 43, 2) := by decide +kernel
theorem dX13_text_129 : decode cX13_text 129 = .ok (.invokevirtual 45, 3) := by decide +kernel
theorem dX13_text_132 : decode cX13_text 132 = .ok (.aload_n 0, 1) := by decide +kernel
theorem dX13_text_133 : decode cX13_text 133 = .ok (.getfield 13, 3) := by decide +kernel
theorem dX13_text_136 : decode cX13_text 136 = .ok (.invokevirtual 49, 3) := by decide +kernel
theorem dX13_text_139 : decode cX13_text 139 = .ok (.invokevirtual 52, 3) := by decide +kernel
theorem dX13_text_142 : decode cX13_text 142 = .ok (.areturn, 1) := by decide +kernel
theorem dX13_text_143 : decode cX13_text 143 = .ok (.new 40, 3) := by decide +kernel
theorem dX13_text_146 : decode cX13_text 146 = .ok (.dup, 1) := by decide +kernel
theorem dX13_text_147 : decode cX13_text 147 = .ok (.invokespecial 42, 3) := by decide +kernel
theorem dX13_text_150 : decode cX13_text 150 = .ok (.ldc 56, 2) := by decide +kernel
theorem dX13_text_152 : decode cX13_text 152 = .ok (.invokevirtual 45, 3) := by decide +kernel
theorem dX13_text_155 : decode cX13_text 155 = .ok (.aload_n 0, 1) := by decide +kernel
theorem dX13_text_156 : decode cX13_text 156 = .ok (.getfield 13, 3) := by decide +kernel
theorem dX13_text_159 : decode cX13_text 159 = .ok (.invokevirtual 49, 3) := by decide +kernel
theorem dX13_text_162 : decode cX13_text 162 = .ok (.invokevirtual 52, 3) := by decide +kernel
theorem dX13_text_165 : decode cX13_text 165 = .ok (.areturn, 1) := by decide +kernel
theorem dX13_text_166 : decode cX13_text 166 = .ok (.new 40, 3) := by decide +kernel
theorem dX13_text_169 : decode cX13_text 169 = .ok (.dup, 1) := by decide +kernel
theorem dX13_text_170 : decode cX13_text 170 = .ok (.invokespecial 42, 3) := by decide +kernel
theorem dX13_text_173 : decode cX13_text 173 = .ok (.ldc 58, 2) := by decide +kernel
theorem dX13_text_175 : decode cX13_text 175 = .ok (.invokevirtual 45, 3) := by decide +kernel
theorem dX13_text_178 : decode cX13_text 178 = .ok (.aload_n 0, 1) := by decide +kernel
theorem dX13_text_179 : decode cX13_text 179 = .ok (.getfield 16, 3) := by decide +kernel
theorem dX13_text_182 : decode cX13_text 182 = .ok (.invokevirtual 60, 3) := by decide +kernel
theorem dX13_text_185 : decode cX13_text 185 = .ok (.invokevirtual 45, 3) := by decide +kernel
theorem dX13_text_188 : decode cX13_text 188 = .ok (.invokevirtual 52, 3) := by decide +kernel
theorem dX13_text_191 : decode cX13_text 191 = .ok (.areturn, 1) := by decide +kernel
theorem dX13_text_192 : decode cX13_text 192 = .ok (.new 40, 3) := by decide +kernel
theorem dX13_text_195 : decode cX13_text 195 = .ok (.dup, 1) := by decide +kernel
theorem dX13_text_196 : decode cX13_text 196 = .ok (.invokespecial 42, 3) := by decide +kernel
theorem dX13_text_199 : decode cX13_text 199 = .ok (.ldc 63, 2) := by decide +kernel
theorem dX13_text_201 : decode cX13_text 201 = .ok (.invokevirtual 45, 3) := by decide +kernel
theorem dX13_text_204 : decode cX13_text 204 = .ok (.aload_n 0, 1) := by decide +kernel
theorem dX13_text_205 : decode cX13_text 205 = .ok (.getfield 16, 3) := by decide +kernel
theorem dX13_text_208 : decode cX13_text 208 = .ok (.invokevirtual 60, 3) := by decide +kernel
theorem dX13_text_211 : decode cX13_text 211 = .ok (.invokevirtual 45, 3) := by decide +kernel
theorem dX13_text_214 : decode cX13_text 214 = .ok (.ldc 65, 2) := by decide +kernel
theorem dX13_text_216 : decode cX13_text 216 = .ok (.invokevirtual 45, 3) := by decide +kernel
theorem dX13_text_219 : decode cX13_text 219 = .ok (.aload_n 0, 1) := by decide +kernel
theorem dX13_text_220 : decode cX13_text 220 = .ok (.getfield 20, 3) := by decide +kernel
theorem dX13_text_223 : decode cX13_text 223 = .ok (.invokevirtual 60, 3) := by decide +kernel
theorem dX13_text_226 : decode cX13_text 226 = .ok (.invokevirtual 45, 3) := by decide +kernel
theorem dX13_text_229 : decode cX13_text 229 = .ok (.ldc 67, 2) := by decide +kernel
theorem dX13_text_231 : decode cX13_text 231 = .ok (.invokevirtual 45, 3) := by decide +kernel
theorem dX13_text_234 : decode cX13_text 234 = .ok (.invokevirtual 52, 3) := by decide +kernel
theorem dX13_text_237 : decode cX13_text 237 = .ok (.areturn, 1) := by decide +kernel
theorem dX13_text_238 : decode cX13_text 238 = .ok (.new 40, 3) := by decide +kernel
theorem dX13_text_241 : decode cX13_text 241 = .ok (.dup, 1) := by decide +kernel
theorem dX13_text_242 : decode cX13_text 242 = .ok (.invokespecial 42, 3) := by decide +kernel
theorem dX13_text_245 : decode cX13_text 245 = .ok (.ldc 69, 2) := by decide +kernel
theorem dX13_text_247 : decode cX13_text 247 = .ok (.invokevirtual 45, 3) := by decide +kernel
theorem dX13_text_250 : decode cX13_text 250 = .ok (.aload_n 0, 1) := by decide +kernel
theorem dX13_text_251 : decode cX13_text 251 = .ok (.getfield 16, 3) := by decide +kernel
theorem dX13_text_254 : decode cX13_text 254 = .ok (.invokevirtual 60, 3) := by decide +kernel
theorem dX13_text_257 : decode cX13_text 257 = .ok (.invokevirtual 45, 3) := by decide +kernel
theorem dX13_text_260 : decode cX13_text 260 = .ok (.ldc 71, 2) := by decide +kernel
theorem dX13_text_262 : decode cX13_text 262 = .ok (.invokevirtual 45, 3) := by decide +kernel
theorem dX13_text_265 : decode cX13_text 265 = .ok (.aload_n 0, 1) := by decide +kernel
theorem dX13_text_266 : decode cX13_text 266 = .ok (.getfield 20, 3) := by decide +kernel
theorem dX13_text_269 : decode cX13_text 269 = .ok (.invokevirtual 60, 3) := by decide +kernel
theorem dX13_text_272 : decode cX13_text 272 = .ok (.invokevirtual 45, 3) := by decide +kernel
theorem dX13_text_275 : decode cX13_text 275 = .ok (.ldc 67, 2) := by decide +kernel
theorem dX13_text_277 : decode cX13_text 277 = .ok (.invokevirtual 45, 3) := by decide +kernel
theorem dX13_text_280 : decode cX13_text 280 = .ok (.invokevirtual 52, 3) := by decide +kernel
theorem dX13_text_283 : decode cX13_text 283 = .ok (.areturn, 1) := by decide +kernel
theorem dX13_text_284 : decode cX13_text 284 = .ok (.new 40, 3) := by decide +kernel
theorem dX13_text_287 : decode cX13_text 287 = .ok (.dup, 1) := by decide +kernel
theorem dX13_text_288 : decode cX13_text 288 = .ok (.invokespecial 42, 3) := by decide +kernel
theorem dX13_text_291 : decode cX13_text 291 = .ok (.ldc 73, 2) := by decide +kernel
theorem dX13_text_293 : decode cX13_text 293 = .ok (.invokevirtual 45, 3) := by decide +kernel
theorem dX13_text_296 : decode cX13_text 296 = .ok (.aload_n 0, 1) := by decide +kernel
theorem dX13_text_297 : decode cX13_text 297 = .ok (.getfield 13, 3) := by decide +kernel
theorem dX13_text_300 : decode cX13_text 300 = .ok (.invokevirtual 49, 3) := by decide +kernel
theorem dX13_text_303 : decode cX13_text 303 = .ok (.invokevirtual 52, 3) := by decide +kernel
theorem dX13_text_306 : decode cX13_text 306 = .ok (.areturn, 1) := by decide +kernel
theorem dX13_text_307 : decode cX13_text 307 = .ok (.new 40, 3) := by decide +kernel
theorem dX13_text_310 : decode cX13_text 310 = .ok (.dup, 1) := by decide +kernel
theorem dX13_text_311 : decode cX13_text 311 = .ok (.invokespecial 42, 3) := by decide +kernel
theorem dX13_text_314 : decode cX13_text 314 = .ok (.ldc 75, 2) := by decide +kernel
theorem dX13_text_316 : decode cX13_text 316 = .ok (.invokevirtual 45, 3) := by decide +kernel
theorem dX13_text_319 : decode cX13_text 319 = .ok (.aload_n 0, 1) := by decide +kernel
theorem dX13_text_320 : decode cX13_text 320 = .ok (.getfield 13, 3) := by decide +kernel
theorem dX13_text_323 : decode cX13_text 323 = .ok (.invokevirtual 49, 3) := by decide +kernel
theorem dX13_text_326 : decode cX13_text 326 = .ok (.invokevirtual 52, 3) := by decide +kernel
theorem dX13_text_329 : decode cX13_text 329 = .ok (.areturn, 1) := by decide +kernel
theorem dX13_text_330 : decode cX13_text 330 = .ok (.new 40, 3) := by decide +kernel
theorem dX13_text_333 : decode cX13_text 333 = .ok (.dup, 1) := by decide +kernel
theorem dX13_text_334 : decode cX13_text 334 = .ok (.invokespecial 42, 3) := by decide +kernel
theorem dX13_text_337 : decode cX13_text 337 = .ok (.ldc 77, 2) := by decide +kernel
theorem dX13_text_339 : decode cX13_text 339 = .ok (.invokevirtual 45, 3) := by decide +kernel
theorem dX13_text_342 : decode cX13_text 342 = .ok (.aload_n 0, 1) := by decide +kernel
theorem dX13_text_343 : decode cX13_text 343 = .ok (.getfield 16, 3) := by decide +kernel
theorem dX13_text_346 : decode cX13_text 346 = .ok (.invokevirtual 60, 3) := by decide +kernel
theorem dX13_text_349 : decode cX13_text 349 = .ok (.invokevirtual 45, 3) := by decide +kernel
theorem dX13_text_352 : decode cX13_text 352 = .ok (.invokevirtual 52, 3) := by decide +kernel
theorem dX13_text_355 : decode cX13_text 355 = .ok (.areturn, 1) := by decide +kernel
theorem dX13_text_356 : decode cX13_text 356 = .ok (.new 40, 3) := by decide +kernel
theorem dX13_text_359 : decode cX13_text 359 = .ok (.dup, 1) := by decide +kernel
theorem dX13_text_360 : decode cX13_text 360 = .ok (.invokespecial 42, 3) := by decide +kernel
theorem dX13_text_363 : decode cX13_text 363 = .ok (.ldc 79, 2) := by decide +kernel
theorem dX13_text_365 : decode cX13_text 365 = .ok (.invokevirtual 45, 3) := by decide +kernel
theorem dX13_text_368 : decode cX13_text 368 = .ok (.aload_n 0, 1) := by decide +kernel
theorem dX13_text_369 : decode cX13_text 369 = .ok (.getfield 16, 3) := by decide +kernel
theorem dX13_text_372 : decode cX13_text 372 = .ok (.invokevirtual 60, 3) := by decide +kernel
theorem dX13_text_375 : decode cX13_text 375 = .ok (.invokevirtual 45, 3) := by decide +kernel
theorem dX13_text_378 : decode cX13_text 378 = .ok (.ldc 81, 2) := by decide +kernel
theorem dX13_text_380 : decode cX13_text 380 = .ok (.invokevirtual 45, 3) := by decide +kernel
theorem dX13_text_383 : decode cX13_text 383 = .ok (.aload_n 0, 1) := by decide +kernel
theorem dX13_text_384 : decode cX13_text 384 = .ok (.getfield 20, 3) := by decide +kernel
theorem dX13_text_387 : decode cX13_text 387 = .ok (.invokevirtual 60, 3) := by decide +kernel
theorem dX13_text_390 : decode cX13_text 390 = .ok (.invokevirtual 45, 3) := by decide +kernel
theorem dX13_text_393 : decode cX13_text 393 = .ok (.ldc 83, 2) := by decide +kernel
theorem dX13_text_395 : decode cX13_text 395 = .ok (.invokevirtual 45, 3) := by decide +kernel
theorem dX13_text_398 : decode cX13_text 398 = .ok (.invokevirtual 52, 3) := by decide +kernel
theorem dX13_text_401 : decode cX13_text 401 = .ok (.areturn, 1) := by decide +kernel
theorem dX13_text_402 : decode cX13_text 402 = .ok (.new 40, 3) := by decide +kernel
theorem dX13_text_405 : decode cX13_text 405 = .ok (.dup, 1) := by decide +kernel
theorem dX13_text_406 : decode cX13_text 406 = .ok (.invokespecial 42, 3) := by decide +kernel
theorem dX13_text_409 : decode cX13_text 409 = .ok (.ldc 79, 2) := by decide +kernel
theorem dX13_text_411 : decode cX13_text 411 = .ok (.invokevirtual 45, 3) := by decide +kernel
theorem dX13_text_414 : decode cX13_text 414 = .ok (.aload_n 0, 1) := by decide +kernel
theorem dX13_text_415 : decode cX13_text 415 = .ok (.getfield 16, 3) := by decide +kernel
theorem dX13_text_418 : decode cX13_text 418 = .ok (.invokevirtual 60, 3) := by decide +kernel
theorem dX13_text_421 : decode cX13_text 421 = .ok (.invokevirtual 45, 3) := by decide +kernel
theorem dX13_text_424 : decode cX13_text 424 = .ok (.ldc 85, 2) := by decide +kernel
theorem dX13_text_426 : decode cX13_text 426 = .ok (.invokevirtual 45, 3) := by decide +kernel
theorem dX13_text_429 : decode cX13_text 429 = .ok (.aload_n 0, 1) := by decide +kernel
theorem dX13_text_430 : decode cX13_text 430 = .ok (.getfield 20, 3) := by decide +kernel
theorem dX13_text_433 : decode cX13_text 433 = .ok (.invokevirtual 60, 3) := by decide +kernel
theorem dX13_text_436 : decode cX13_text 436 = .ok (.invokevirtual 45, 3) := by decide +kernel
theorem dX13_text_439 : decode cX13_text 439 = .ok (.ldc 83, 2) := by decide +kernel
theorem dX13_text_441 : decode cX13_text 441 = .ok (.invokevirtual 45, 3) := by decide +kernel
theorem dX13_text_444 : decode cX13_text 444 = .ok (.invokevirtual 52, 3) := by decide +kernel
theorem dX13_text_447 : decode cX13_text 447 = .ok (.areturn, 1) := by decide +kernel
theorem dX13_text_448 : decode cX13_text 448 = .ok (.aload_n 0, 1) := by decide +kernel
theorem dX13_text_449 : decode cX13_text 449 = .ok (.getfield 7, 3) := by decide +kernel
theorem dX13_text_452 : decode cX13_text 452 = .ok (.bipush 7, 2) := by decide +kernel
theorem dX13_text_454 : decode cX13_text 454 = .ok (.if_icmp .ge 16, 3) := by decide +kernel
theorem dX13_text_457 : decode cX13_text 457 = .ok (.getstatic 87, 3) := by decide +kernel
theorem dX13_text_460 : decode cX13_text 460 = .ok (.aload_n 0, 1) := by decide +kernel
theorem dX13_text_461 : decode cX13_text 461 = .ok (.getfield 7, 3) := by decide +kernel
theorem dX13_text_464 : decode cX13_text 464 = .ok (.iconst 1, 1) := by decide +kernel
theorem dX13_text_465 : decode cX13_text 465 = .ok (.isub, 1) := by decide +kernel
theorem dX13_text_466 : decode cX13_text 466 = .ok (.aaload, 1) := by decide +kernel
theorem dX13_text_467 : decode cX13_text 467 = .ok (.goto 113, 3) := by decide +kernel
theorem dX13_text_470 : decode cX13_text 470 = .ok (.aload_n 0, 1) := by decide +kernel
theorem dX13_text_471 : decode cX13_text 471 = .ok (.getfield 7, 3) := by decide +kernel
theorem dX13_text_474 : decode cX13_text 474 = .ok (.bipush 15, 2) := by decide +kernel
theorem dX13_text_476 : decode cX13_text 476 = .ok (.if_icmp .ge 60, 3) := by decide +kernel
theorem dX13_text_479 : decode cX13_text 479 = .ok (.new 40, 3) := by decide +kernel
theorem dX13_text_482 : decode cX13_text 482 = .ok (.dup, 1) := by decide +kernel
theorem dX13_text_483 : decode cX13_text 483 = .ok (.invokespecial 42, 3) := by decide +kernel
theorem dX13_text_486 : decode cX13_text 486 = .ok (.ldc 93, 2) := by decide +kernel
theorem dX13_text_488 : decode cX13_text 488 = .ok (.invokevirtual 45, 3) := by decide +kernel
theorem dX13_text_491 : decode cX13_text 491 = .ok (.aload_n 0, 1) := by decide +kernel
theorem dX13_text_492 : decode cX13_text 492 = .ok (.getfield 16, 3) := by decide +kernel
theorem dX13_text_495 : decode cX13_text 495 = .ok (.invokevirtual 60, 3) := by decide +kernel
theorem dX13_text_498 : decode cX13_text 498 = .ok (.invokevirtual 45, 3) := by decide +kernel
theorem dX13_text_501 : decode cX13_text 501 = .ok (.getstatic 95, 3) := by decide +kernel
theorem dX13_text_504 : decode cX13_text 504 = .ok (.aload_n 0, 1) := by decide +kernel
theorem dX13_text_505 : decode cX13_text 505 = .ok (.getfield 7, 3) := by decide +kernel
theorem dX13_text_508 : decode cX13_text 508 = .ok (.bipush 11, 2) := by decide +kernel
theorem dX13_text_510 : decode cX13_text 510 = .ok (.isub, 1) := by decide +kernel
theorem dX13_text_511 : decode cX13_text 511 = .ok (.aaload, 1) := by decide +kernel
theorem dX13_text_512 : decode cX13_text 512 = .ok (.invokevirtual 45, 3) := by decide +kernel
theorem dX13_text_515 : decode cX13_text 515 = .ok (.aload_n 0, 1) := by decide +kernel
theorem dX13_text_516 : decode cX13_text 516 = .ok (.getfield 20, 3) := by decide +kernel
theorem dX13_text_519 : decode cX13_text 519 = .ok (.invokevirtual 60, 3) := by decide +kernel
theorem dX13_text_522 : decode cX13_text 522 = .ok (.invokevirtual 45, 3) := by decide +kernel
theorem dX13_text_525 : decode cX13_text 525 = .ok (.ldc 67, 2) := by decide +kernel
theorem dX13_text_527 : decode cX13_text 527 = .ok (.invokevirtual 45, 3) := by decide +kernel
theorem dX13_text_530 : decode cX13_text 530 = .ok (.invokevirtual 52, 3) := by decide +kernel
theorem dX13_text_533 : decode cX13_text 533 = .ok (.goto 47, 3) := by decide +kernel
theorem dX13_text_536 : decode cX13_text 536 = .ok (.new 40, 3) := by decide +kernel
theorem dX13_text_539 : decode cX13_text 539 = .ok (.dup, 1) := by decide +kernel
theorem dX13_text_540 : decode cX13_text 540 = .ok (.invokespecial 42, 3) := by decide +kernel
theorem dX13_text_543 : decode cX13_text 543 = .ok (.aload_n 0, 1) := by decide +kernel
theorem dX13_text_544 : decode cX13_text 544 = .ok (.getfield 16, 3) := by decide +kernel
theorem dX13_text_547 : decode cX13_text 547 = .ok (.invokevirtual 60, 3) := by decide +kernel
theorem dX13_text_550 : decode cX13_text 550 = .ok (.invokevirtual 45, 3) := by decide +kernel
theorem dX13_text_553 : decode cX13_text 553 = .ok (.getstatic 95, 3) := by decide +kernel
theorem dX13_text_556 : decode cX13_text 556 = .ok (.aload_n 0, 1) := by decide +kernel
theorem dX13_text_557 : decode cX13_text 557 = .ok (.getfield 7, 3) := by decide +kernel
theorem dX13_text_560 : decode cX13_text 560 = .ok (.bipush 11, 2) := by decide +kernel
theorem dX13_text_562 : decode cX13_text 562 = .ok (.isub, 1) := by decide +kernel
theorem dX13_text_563 : decode cX13_text 563 = .ok (.aaload, 1) := by decide +kernel
theorem dX13_text_564 : decode cX13_text 564 = .ok (.invokevirtual 45, 3) := by decide +kernel
theorem dX13_text_567 : decode cX13_text 567 = .ok (.aload_n 0, 1) := by decide +kernel
theorem dX13_text_568 : decode cX13_text 568 = .ok (.getfield 20, 3) := by decide +kernel
theorem dX13_text_571 : decode cX13_text 571 = .ok (.invokevirtual 60, 3) := by decide +kernel
theorem dX13_text_574 : decode cX13_text 574 = .ok (.invokevirtual 45, 3) := by decide +kernel
theorem dX13_text_577 : decode cX13_text 577 = .ok (.invokevirtual 52, 3) := by decide +kernel
theorem dX13_text_580 : decode cX13_text 580 = .ok (.areturn, 1) := by decide +kernel
theorem dX13_value_0 : decode cX13_value 0 = .ok (.aload_n 0, 1) := by decide +kernel
theorem dX13_value_1 : decode cX13_value 1 = .ok (.getfield 7, 3) := by decide +kernel
theorem dX13_value_4 : decode cX13_value 4 = .ok (.tableswitch 239 0 22 #[108, 113, 118, 125, 132, 139, 146, 163, 176, 239, 239, 239, 239, 239, 239, 239, 239, 239, 239, 239, 187, 207, 228], 108) := by decide +kernel
theorem dX13_value_112 : decode cX13_value 112 = .ok (.aload_n 0, 1) := by decide +kernel
theorem dX13_value_113 : decode cX13_value 113 = .ok (.getfield 13, 3) := by decide +kernel
theorem dX13_value_116 : decode cX13_value 116 = .ok (.ireturn, 1) := by decide +kernel
theorem dX13_value_117 : decode cX13_value 117 = .ok (.aload_n 1, 1) := by decide +kernel
theorem dX13_value_118 : decode cX13_value 118 = .ok (.getfield 98, 3) := by decide +kernel
theorem dX13_value_121 : decode cX13_value 121 = .ok (.ireturn, 1) := by decide +kernel
theorem dX13_value_122 : decode cX13_value 122 = .ok (.aload_n 1, 1) := by decide +kernel
theorem dX13_value_123 : decode cX13_value 123 = .ok (.invokevirtual 103, 3) := by decide +kernel
theorem dX13_value_126 : decode cX13_value 126 = .ok (.iconst 4, 1) := by decide +kernel
theorem dX13_value_127 : decode cX13_value 127 = .ok (.iaload, 1) := by decide +kernel
theorem dX13_value_128 : decode cX13_value 128 = .ok (.ireturn, 1) := by decide +kernel
theorem dX13_value_129 : decode cX13_value 129 = .ok (.aload_n 1, 1) := by decide +kernel
theorem dX13_value_130 : decode cX13_value 130 = .ok (.invokevirtual 103, 3) := by decide +kernel
theorem dX13_value_133 : decode cX13_value 133 = .ok (.iconst 0, 1) := by decide +kernel
theorem dX13_value_134 : decode cX13_value 134 = .ok (.iaload, 1) := by decide +kernel
theorem dX13_value_135 : decode cX13_value 135 = .ok (.ireturn, 1) := by decide +kernel
theorem dX13_value_136 : decode cX13_value 136 = .ok (.aload_n 1, 1) := by decide +kernel
theorem dX13_value_137 : decode cX13_value 137 = .ok (.invokevirtual 103, 3) := by decide +kernel
theorem dX13_value_140 : decode cX13_value 140 = .ok (.iconst 3, 1) := by decide +kernel
theorem dX13_value_141 : decode cX13_value 141 = .ok (.iaload, 1) := by decide +kernel
theorem dX13_value_142 : decode cX13_value 142 = .ok (.ireturn, 1) := by decide +kernel
theorem dX13_value_143 : decode cX13_value 143 = .ok (.aload_n 1, 1) := by decide +kernel
theorem dX13_value_144 : decode cX13_value 144 = .ok (.invokevirtual 103, 3) := by decide +kernel
theorem dX13_value_147 : decode cX13_value 147 = .ok (.iconst 2, 1) := by decide +kernel
theorem dX13_value_148 : decode cX13_value 148 = .ok (.iaload, 1) := by decide +kernel
theorem dX13_value_149 : decode cX13_value 149 = .ok (.ireturn, 1) := by decide +kernel
theorem dX13_value_150 : decode cX13_value 150 = .ok (.aload_n 1, 1) := by decide +kernel
theorem dX13_value_151 : decode cX13_value 151 = .ok (.getfield 107, 3) := by decide +kernel
theorem dX13_value_154 : decode cX13_value 154 = .ok (.aload_n 1, 1) := by decide +kernel
theorem dX13_value_155 : decode cX13_value 155 = .ok (.getfield 110, 3) := by decide +kernel
theorem dX13_value_158 : decode cX13_value 158 = .ok (.imul, 1) := by decide +kernel
theorem dX13_value_159 : decode cX13_value 159 = .ok (.aload_n 1, 1) := by decide +kernel
theorem dX13_value_160 : decode cX13_value 160 = .ok (.invokevirtual 103, 3) := by decide +kernel
theorem dX13_value_163 : decode cX13_value 163 = .ok (.iconst 4, 1) := by decide +kernel
theorem dX13_value_164 : decode cX13_value 164 = .ok (.iaload, 1) := by decide +kernel
theorem dX13_value_165 : decode cX13_value 165 = .ok (.isub, 1) := by decide +kernel
theorem dX13_value_166 : decode cX13_value 166 = .ok (.ireturn, 1) := by decide +kernel
theorem dX13_value_167 : decode cX13_value 167 = .ok (.aload_n 1, 1) := by decide +kernel
theorem dX13_value_168 : decode cX13_value 168 = .ok (.aload_n 1, 1) := by decide +kernel
theorem dX13_value_169 : decode cX13_value 169 = .ok (.invokevirtual 113, 3) := by decide +kernel
theorem dX13_value_172 : decode cX13_value 172 = .ok (.aload_n 0, 1) := by decide +kernel
theorem dX13_value_173 : decode cX13_value 173 = .ok (.getfield 13, 3) := by decide +kernel
theorem dX13_value_176 : decode cX13_value 176 = .ok (.invokevirtual 116, 3) := by decide +kernel
theorem dX13_value_179 : decode cX13_value 179 = .ok (.ireturn, 1) := by decide +kernel
theorem dX13_value_180 : decode cX13_value 180 = .ok (.iconst 0, 1) := by decide +kernel
theorem dX13_value_181 : decode cX13_value 181 = .ok (.aload_n 0, 1) := by decide +kernel
theorem dX13_value_182 : decode cX13_value 182 = .ok (.getfield 16, 3) := by decide +kernel
theorem dX13_value_185 : decode cX13_value 185 = .ok (.aload_n 1, 1) := by decide +kernel
theorem dX13_value_186 : decode cX13_value 186 = .ok (.invokevirtual 120, 3) := by decide +kernel
theorem dX13_value_189 : decode cX13_value 189 = .ok (.isub, 1) := by decide +kernel
theorem dX13_value_190 : decode cX13_value 190 = .ok (.ireturn, 1) := by decide +kernel
theorem dX13_value_191 : decode cX13_value 191 = .ok (.aload_n 1, 1) := by decide +kernel
theorem dX13_value_192 : decode cX13_value 192 = .ok (.getfield 124, 3) := by decide +kernel
theorem dX13_value_195 : decode cX13_value 195 = .ok (.aload_n 0, 1) := by decide +kernel
theorem dX13_value_196 : decode cX13_value 196 = .ok (.getfield 13, 3) := by decide +kernel
theorem dX13_value_199 : decode cX13_value 199 = .ok (.aaload, 1) := by decide +kernel
theorem dX13_value_200 : decode cX13_value 200 = .ok (.iconst 3, 1) := by decide +kernel
theorem dX13_value_201 : decode cX13_value 201 = .ok (.iaload, 1) := by decide +kernel
theorem dX13_value_202 : decode cX13_value 202 = .ok (.ifCond .lt 7, 3) := by decide +kernel
theorem dX13_value_205 : decode cX13_value 205 = .ok (.iconst 1, 1) := by decide +kernel
theorem dX13_value_206 : decode cX13_value 206 = .ok (.goto 4, 3) := by decide +kernel
theorem dX13_value_209 : decode cX13_value 209 = .ok (.iconst 0, 1) := by decide +kernel
theorem dX13_value_210 : decode cX13_value 210 = .ok (.ireturn, 1) := by decide +kernel
theorem dX13_value_211 : decode cX13_value 211 = .ok (.aload_n 1, 1) := by decide +kernel
theorem dX13_value_212 : decode cX13_value 212 = .ok (.aload_n 1, 1) := by decide +kernel
theorem dX13_value_213 : decode cX13_value 213 = .ok (.invokevirtual 113, 3) := by decide +kernel
theorem dX13_value_216 : decode cX13_value 216 = .ok (.aload_n 0, 1) := by decide +kernel
theorem dX13_value_217 : decode cX13_value 217 = .ok (.getfield 13, 3) := by decide +kernel
theorem dX13_value_220 : decode cX13_value 220 = .ok (.invokevirtual 116, 3) := by decide +kernel
theorem dX13_value_223 : decode cX13_value 223 = .ok (.ifCond .le 7, 3) := by decide +kernel
theorem dX13_value_226 : decode cX13_value 226 = .ok (.iconst 1, 1) := by decide +kernel
theorem dX13_value_227 : decode cX13_value 227 = .ok (.goto 4, 3) := by decide +kernel
theorem dX13_value_230 : decode cX13_value 230 = .ok (.iconst 0, 1) := by decide +kernel
theorem dX13_value_231 : decode cX13_value 231 = .ok (.ireturn, 1) := by decide +kernel
theorem dX13_value_232 : decode cX13_value 232 = .ok (.iconst 1, 1) := by decide +kernel
theorem dX13_value_233 : decode cX13_value 233 = .ok (.aload_n 0, 1) := by decide +kernel
theorem dX13_value_234 : decode cX13_value 234 = .ok (.getfield 16, 3) := by decide +kernel
theorem dX13_value_237 : decode cX13_value 237 = .ok (.aload_n 1, 1) := by decide +kernel
theorem dX13_value_238 : decode cX13_value 238 = .ok (.invokevirtual 120, 3) := by decide +kernel
theorem dX13_value_241 : decode cX13_value 241 = .ok (.isub, 1) := by decide +kernel
theorem dX13_value_242 : decode cX13_value 242 = .ok (.ireturn, 1) := by decide +kernel
theorem dX13_value_243 : decode cX13_value 243 = .ok (.aload_n 0, 1) := by decide +kernel
theorem dX13_value_244 : decode cX13_value 244 = .ok (.getfield 7, 3) := by decide +kernel
theorem dX13_value_247 : decode cX13_value 247 = .ok (.aload_n 0, 1) := by decide +kernel
theorem dX13_value_248 : decode cX13_value 248 = .ok (.getfield 16, 3) := by decide +kernel
theorem dX13_value_251 : decode cX13_value 251 = .ok (.aload_n 1, 1) := by decide +kernel
theorem dX13_value_252 : decode cX13_value 252 = .ok (.invokevirtual 120, 3) := by decide +kernel
theorem dX13_value_255 : decode cX13_value 255 = .ok (.aload_n 0, 1) := by decide +kernel
theorem dX13_value_256 : decode cX13_value 256 = .ok (.getfield 20, 3) := by decide +kernel
theorem dX13_value_259 : decode cX13_value 259 = .ok (.aload_n 1, 1) := by decide +kernel
theorem dX13_value_260 : decode cX13_value 260 = .ok (.invokevirtual 120, 3) := by decide +kernel
theorem dX13_value_263 : decode cX13_value 263 = .ok (.invokestatic 128, 3) := by decide +kernel
theorem dX13_value_266 : decode cX13_value 266 = .ok (.ireturn, 1) := by decide +kernel
theorem dX13_both_0 : decode cX13_both 0 = .ok (.iload_n 0, 1) := by decide +kernel
theorem dX13_both_1 : decode cX13_both 1 = .ok (.tableswitch 141 9 24 #[79, 90, 101, 105, 109, 113, 141, 141, 141, 141, 141, 141, 141, 141, 125, 129], 79) := by decide +kernel
theorem dX13_both_80 : decode cX13_both 80 = .ok (.iload_n 1, 1) := by decide +kernel
theorem dX13_both_81 : decode cX13_both 81 = .ok (.iload_n 2, 1) := by decide +kernel
theorem dX13_both_82 : decode cX13_both 82 = .ok (.if_icmp .ge 7, 3) := by decide +kernel
theorem dX13_both_85 : decode cX13_both 85 = .ok (.iload_n 1, 1) := by decide +kernel
theorem dX13_both_86 : decode cX13_both 86 = .ok (.goto 4, 3) := by decide +kernel
theorem dX13_both_89 : decode cX13_both 89 = .ok (.iload_n 2, 1) := by decide +kernel
theorem dX13_both_90 : decode cX13_both 90 = .ok (.ireturn, 1) := by decide +kernel
theorem dX13_both_91 : decode cX13_both 91 = .ok (.iload_n 1, 1) := by decide +kernel
theorem dX13_both_92 : decode cX13_both 92 = .ok (.iload_n 2, 1) := by decide +kernel
theorem dX13_both_93 : decode cX13_both 93 = .ok (.if_icmp .ge 7, 3) := by decide +kernel
theorem dX13_both_96 : decode cX13_both 96 = .ok (.iload_n 2, 1) := by decide +kernel
theorem dX13_both_97 : decode cX13_both 97 = .ok (.goto 4, 3) := by decide +kernel
theorem dX13_both_100 : decode cX13_both 100 = .ok (.iload_n 1, 1) := by decide +kernel
theorem dX13_both_101 : decode cX13_both 101 = .ok (.ireturn, 1) := by decide +kernel
theorem dX13_both_102 : decode cX13_both 102 = .ok (.iload_n 1, 1) := by decide +kernel
theorem dX13_both_103 : decode cX13_both 103 = .ok (.iload_n 2, 1) := by decide +kernel
theorem dX13_both_104 : decode cX13_both 104 = .ok (.iadd, 1) := by decide +kernel
theorem dX13_both_105 : decode cX13_both 105 = .ok (.ireturn, 1) := by decide +kernel
theorem dX13_both_106 : decode cX13_both 106 = .ok (.iload_n 1, 1) := by decide +kernel
theorem dX13_both_107 : decode cX13_both 107 = .ok (.iload_n 2, 1) := by decide +kernel
theorem dX13_both_108 : decode cX13_both 108 = .ok (.isub, 1) := by decide +kernel
theorem dX13_both_109 : decode cX13_both 109 = .ok (.ireturn, 1) := by decide +kernel
theorem dX13_both_110 : decode cX13_both 110 = .ok (.iload_n 1, 1) := by decide +kernel
theorem dX13_both_111 : decode cX13_both 111 = .ok (.iload_n 2, 1) := by decide +kernel
theorem dX13_both_112 : decode cX13_both 112 = .ok (.imul, 1) := by decide +kernel
theorem dX13_both_113 : decode cX13_both 113 = .ok (.ireturn, 1) := by decide +kernel
theorem dX13_both_114 : decode cX13_both 114 = .ok (.iload_n 2, 1) := by decide +kernel
theorem dX13_both_115 : decode cX13_both 115 = .ok (.ifCond .ne 7, 3) := by decide +kernel
theorem dX13_both_118 : decode cX13_both 118 = .ok (.iconst 0, 1) := by decide +kernel
theorem dX13_both_119 : decode cX13_both 119 = .ok (.goto 6, 3) := by decide +kernel
theorem dX13_both_122 : decode cX13_both 122 = .ok (.iload_n 1, 1) := by decide +kernel
theorem dX13_both_123 : decode cX13_both 123 = .ok (.iload_n 2, 1) := by decide +kernel
theorem dX13_both_124 : decode cX13_both 124 = .ok (.idiv, 1) := by decide +kernel
theorem dX13_both_125 : decode cX13_both 125 = .ok (.ireturn, 1) := by decide +kernel
theorem dX13_both_126 : decode cX13_both 126 = .ok (.iload_n 1, 1) := by decide +kernel
theorem dX13_both_127 : decode cX13_both 127 = .ok (.iload_n 2, 1) := by decide +kernel
theorem dX13_both_128 : decode cX13_both 128 = .ok (.imul, 1) := by decide +kernel
theorem dX13_both_129 : decode cX13_both 129 = .ok (.ireturn, 1) := by decide +kernel
theorem dX13_both_130 : decode cX13_both 130 = .ok (.iload_n 1, 1) := by decide +kernel
theorem dX13_both_131 : decode cX13_both 131 = .ok (.iload_n 2, 1) := by decide +kernel
theorem dX13_both_132 : decode cX13_both 132 = .ok (.iadd, 1) := by decide +kernel
theorem dX13_both_133 : decode cX13_both 133 = .ok (.ifCond .le 7, 3) := by decide +kernel
theorem dX13_both_136 : decode cX13_both 136 = .ok (.iconst 1, 1) := by decide +kernel
theorem dX13_both_137 : decode cX13_both 137 = .ok (.goto 4, 3) := by decide +kernel
theorem dX13_both_140 : decode cX13_both 140 = .ok (.iconst 0, 1) := by decide +kernel
theorem dX13_both_141 : decode cX13_both 141 = .ok (.ireturn, 1) := by decide +kernel
theorem dX13_both_142 : decode cX13_both 142 = .ok (.iload_n 0, 1) := by decide +kernel
theorem dX13_both_143 : decode cX13_both 143 = .ok (.bipush 15, 2) := by decide +kernel
theorem dX13_both_145 : decode cX13_both 145 = .ok (.if_icmp .ne 11, 3) := by decide +kernel
theorem dX13_both_148 : decode cX13_both 148 = .ok (.iload_n 1, 1) := by decide +kernel
theorem dX13_both_149 : decode cX13_both 149 = .ok (.iload_n 2, 1) := by decide +kernel
theorem dX13_both_150 : decode cX13_both 150 = .ok (.if_icmp .ge 57, 3) := by decide +kernel
theorem dX13_both_153 : decode cX13_both 153 = .ok (.goto 50, 3) := by decide +kernel
theorem dX13_both_156 : decode cX13_both 156 = .ok (.iload_n 0, 1) := by decide +kernel
theorem dX13_both_157 : decode cX13_both 157 = .ok (.bipush 16, 2) := by decide +kernel
theorem dX13_both_159 : decode cX13_both 159 = .ok (.if_icmp .ne 11, 3) := by decide +kernel
theorem dX13_both_162 : decode cX13_both 162 = .ok (.iload_n 1, 1) := by decide +kernel
theorem dX13_both_163 : decode cX13_both 163 = .ok (.iload_n 2, 1) := by decide +kernel
theorem dX13_both_164 : decode cX13_both 164 = .ok (.if_icmp .le 43, 3) := by decide +kernel
theorem dX13_both_167 : decode cX13_both 167 = .ok (.goto 36, 3) := by decide +kernel
theorem dX13_both_170 : decode cX13_both 170 = .ok (.iload_n 0, 1) := by decide +kernel
theorem dX13_both_171 : decode cX13_both 171 = .ok (.bipush 17, 2) := by decide +kernel
theorem dX13_both_173 : decode cX13_both 173 = .ok (.if_icmp .ne 11, 3) := by decide +kernel
theorem dX13_both_176 : decode cX13_both 176 = .ok (.iload_n 1, 1) := by decide +kernel
theorem dX13_both_177 : decode cX13_both 177 = .ok (.iload_n 2, 1) := by decide +kernel
theorem dX13_both_178 : decode cX13_both 178 = .ok (.if_icmp .ne 29, 3) := by decide +kernel
theorem dX13_both_181 : decode cX13_both 181 = .ok (.goto 22, 3) := by decide +kernel
theorem dX13_both_184 : decode cX13_both 184 = .ok (.iload_n 0, 1) := by decide +kernel
theorem dX13_both_185 : decode cX13_both 185 = .ok (.bipush 18, 2) := by decide +kernel
theorem dX13_both_187 : decode cX13_both 187 = .ok (.if_icmp .ne 11, 3) := by decide +kernel
theorem dX13_both_190 : decode cX13_both 190 = .ok (.iload_n 1, 1) := by decide +kernel
theorem dX13_both_191 : decode cX13_both 191 = .ok (.iload_n 2, 1) := by decide +kernel
theorem dX13_both_192 : decode cX13_both 192 = .ok (.if_icmp .gt 15, 3) := by decide +kernel
theorem dX13_both_195 : decode cX13_both 195 = .ok (.goto 8, 3) := by decide +kernel
theorem dX13_both_198 : decode cX13_both 198 = .ok (.iload_n 1, 1) := by decide +kernel
theorem dX13_both_199 : decode cX13_both 199 = .ok (.iload_n 2, 1) := by decide +kernel
theorem dX13_both_200 : decode cX13_both 200 = .ok (.if_icmp .lt 7, 3) := by decide +kernel
theorem dX13_both_203 : decode cX13_both 203 = .ok (.iconst 1, 1) := by decide +kernel
theorem dX13_both_204 : decode cX13_both 204 = .ok (.goto 4, 3) := by decide +kernel
theorem dX13_both_207 : decode cX13_both 207 = .ok (.iconst 0, 1) := by decide +kernel
theorem dX13_both_208 : decode cX13_both 208 = .ok (.ireturn, 1) := by decide +kernel
theorem dX14_init_0 : decode cX14_init 0 = .ok (.aload_n 0, 1) := by decide +kernel
theorem dX14_init_1 : decode cX14_init 1 = .ok (.invokespecial 1, 3) := by decide +kernel
theorem dX14_init_4 : decode cX14_init 4 = .ok (.aload_n 0, 1) := by decide +kernel
theorem dX14_init_5 : decode cX14_init 5 = .ok (.iconst 3, 1) := by decide +kernel
theorem dX14_init_6 : decode cX14_init 6 = .ok (.anewarray 7, 3) := by decide +kernel
theorem dX14_init_9 : decode cX14_init 9 = .ok (.putfield 9, 3) := by decide +kernel
theorem dX14_init_12 : decode cX14_init 12 = .ok (.aload_n 1, 1) := by decide +kernel
theorem dX14_init_13 : decode cX14_init 13 = .ok (.bipush 6, 2) := by decide +kernel
theorem dX14_init_15 : decode cX14_init 15 = .ok (.invokevirtual 15, 3) := by decide +kernel
theorem dX14_init_18 : decode cX14_init 18 = .ok (.istore_n 3, 1) := by decide +kernel
theorem dX14_init_19 : decode cX14_init 19 = .ok (.aload_n 0, 1) := by decide +kernel
theorem dX14_init_20 : decode cX14_init 20 = .ok (.iload_n 3, 1) := by decide +kernel
theorem dX14_init_21 : decode cX14_init 21 = .ok (.iconst 2, 1) := by decide +kernel
theorem dX14_init_22 : decode cX14_init 22 = .ok (.if_icmp .ge 7, 3) := by decide +kernel
theorem dX14_init_25 : decode cX14_init 25 = .ok (.iconst 0, 1) := by decide +kernel
theorem dX14_init_26 : decode cX14_init 26 = .ok (.goto 13, 3) := by decide +kernel
theorem dX14_init_29 : decode cX14_init 29 = .ok (.iload_n 3, 1) := by decide +kernel
theorem dX14_init_30 : decode cX14_init 30 = .ok (.iconst 3, 1) := by decide +kernel
theorem dX14_init_31 : decode cX14_init 31 = .ok (.if_icmp .ge 7, 3) := by decide +kernel
theorem dX14_init_34 : decode cX14_init 34 = .ok (.iconst 1, 1) := by decide +kernel
theorem dX14_init_35 : decode cX14_init 35 = .ok (.goto 4, 3) := by decide +kernel
theorem dX14_init_38 : decode cX14_init 38 = .ok (.iconst 2, 1) := by decide +kernel
theorem dX14_init_39 : decode cX14_init 39 = .ok (.putfield 21, 3) := by decide +kernel
theorem dX14_init_42 : decode cX14_init 42 = .ok (.aload_n 0, 1) := by decide +kernel
theorem dX14_init_43 : decode cX14_init 43 = .ok (.aload_n 1, 1) := by decide +kernel
theorem dX14_init_44 : decode cX14_init 44 = .ok (.iload_n 2, 1) := by decide +kernel
theorem dX14_init_45 : decode cX14_init 45 = .ok (.invokevirtual 15, 3) := by decide +kernel
theorem dX14_init_48 : decode cX14_init 48 = .ok (.putfield 25, 3) := by decide +kernel
theorem dX14_init_51 : decode cX14_init 51 = .ok (.iconst 0, 1) := by decide +kernel
theorem dX14_init_52 : decode cX14_init 52 = .ok (.istore 4, 2) := by decide +kernel
theorem dX14_init_54 : decode cX14_init 54 = .ok (.iload 4, 2) := by decide +kernel
theorem dX14_init_56 : decode cX14_init 56 = .ok (.iconst 3, 1) := by decide +kernel
theorem dX14_init_57 : decode cX14_init 57 = .ok (.if_icmp .ge 56, 3) := by decide +kernel
theorem dX14_init_60 : decode cX14_init 60 = .ok (.aload_n 0, 1) := by decide +kernel
theorem dX14_init_61 : decode cX14_init 61 = .ok (.getfield 21, 3) := by decide +kernel
theorem dX14_init_64 : decode cX14_init 64 = .ok (.ifCond .ne 49, 3) := by decide +kernel
theorem dX14_init_67 : decode cX14_init 67 = .ok (.aload_n 0, 1) := by decide +kernel
theorem dX14_init_68 : decode cX14_init 68 = .ok (.getfield 9, 3) := by decide +kernel
theorem dX14_init_71 : decode cX14_init 71 = .ok (.iload 4, 2) := by decide +kernel
theorem dX14_init_73 : decode cX14_init 73 = .ok (.aload_n 1, 1) := by decide +kernel
theorem dX14_init_74 : decode cX14_init 74 = .ok (.iconst 2, 1) := by decide +kernel
theorem dX14_init_75 : decode cX14_init 75 = .ok (.invokevirtual 15, 3) := by decide +kernel
theorem dX14_init_78 : decode cX14_init 78 = .ok (.ifCond .ne 22, 3) := by decide +kernel
theorem dX14_init_81 : decode cX14_init 81 = .ok (.new 7, 3) := by decide +kernel
theorem dX14_init_84 : decode cX14_init 84 = .ok (.dup, 1) := by decide +kernel
theorem dX14_init_85 : decode cX14_init 85 = .ok (.iconst 0, 1) := by decide +kernel
theorem dX14_init_86 : decode cX14_init 86 = .ok (.aload_n 1, 1) := by decide +kernel
theorem dX14_init_87 : decode cX14_init 87 = .ok (.bipush 7, 2) := by decide +kernel
theorem dX14_init_89 : decode cX14_init 89 = .ok (.invokevirtual 15, 3) := by decide +kernel
theorem dX14_init_92 : decode cX14_init 92 = .ok (.aconst_null, 1) := by decide +kernel
theorem dX14_init_93 : decode cX14_init 93 = .ok (.aconst_null, 1) := by decide +kernel
theorem dX14_init_94 : decode cX14_init 94 = .ok (.invokespecial 28, 3) := by decide +kernel
theorem dX14_init_97 : decode cX14_init 97 = .ok (.goto 9, 3) := by decide +kernel
theorem dX14_init_100 : decode cX14_init 100 = .ok (.aload_n 1, 1) := by decide +kernel
theorem dX14_init_101 : decode cX14_init 101 = .ok (.iload_n 2, 1) := by decide +kernel
theorem dX14_init_102 : decode cX14_init 102 = .ok (.iconst 1, 1) := by decide +kernel
theorem dX14_init_103 : decode cX14_init 103 = .ok (.invokestatic 31, 3) := by decide +kernel
theorem dX14_init_106 : decode cX14_init 106 = .ok (.aastore, 1) := by decide +kernel
theorem dX14_init_107 : decode cX14_init 107 = .ok (.iinc 4 1, 3) := by decide +kernel
theorem dX14_init_110 : decode cX14_init 110 = .ok (.goto (-56), 3) := by decide +kernel
theorem dX14_init_113 : decode cX14_init 113 = .ok (.aload_n 0, 1) := by decide +kernel
theorem dX14_init_114 : decode cX14_init 114 = .ok (.aload_n 1, 1) := by decide +kernel
theorem dX14_init_115 : decode cX14_init 115 = .ok (.iconst 2, 1) := by decide +kernel
theorem dX14_init_116 : decode cX14_init 116 = .ok (.invokevirtual 15, 3) := by decide +kernel
theorem dX14_init_119 : decode cX14_init 119 = .ok (.ifCond .ne 7, 3) := by decide +kernel
theorem dX14_init_122 : decode cX14_init 122 = .ok (.aconst_null, 1) := by decide +kernel
theorem dX14_init_123 : decode cX14_init 123 = .ok (.goto 9, 3) := by decide +kernel
theorem dX14_init_126 : decode cX14_init 126 = .ok (.aload_n 1, 1) := by decide +kernel
theorem dX14_init_127 : decode cX14_init 127 = .ok (.iload_n 2, 1) := by decide +kernel
theorem dX14_init_128 : decode cX14_init 128 = .ok (.iconst 1, 1) := by decide +kernel
theorem dX14_init_129 : decode cX14_init 129 = .ok (.invokestatic 35, 3) := by decide +kernel
theorem dX14_init_132 : decode cX14_init 132 = .ok (.putfield 38, 3) := by decide +kernel
theorem dX14_init_135 : decode cX14_init 135 = .ok (.return_, 1) := by decide +kernel
theorem dX14_text_0 : decode cX14_text 0 = .ok (.aload_n 0, 1) := by decide +kernel
theorem dX14_text_1 : decode cX14_text 1 = .ok (.getfield 38, 3) := by decide +kernel
theorem dX14_text_4 : decode cX14_text 4 = .ok (.ifnonnull 8, 3) := by decide +kernel
theorem dX14_text_7 : decode cX14_text 7 = .ok (.ldc 41, 2) := by decide +kernel
theorem dX14_text_9 : decode cX14_text 9 = .ok (.goto 33, 3) := by decide +kernel
theorem dX14_text_12 : decode cX14_text 12 = .ok (.new 43, 3) := by decide +kernel
theorem dX14_text_15 : decode cX14_text 15 = .ok (.dup, 1) := by decide +kernel
theorem dX14_text_16 : decode cX14_text 16 = .ok (.invokespecial 45, 3) := by decide +kernel
theorem dX14_text_19 : decode cX14_text 19 = .ok (.ldc 46, 2) := by decide +kernel
theorem dX14_text_21 : decode cX14_text 21 = .ok (.invokevirtual 48, 3) := by decide +kernel
theorem dX14_text_24 : decode cX14_text 24 = .ok (.aload_n 0, 1) := by decide +kernel
theorem dX14_text_25 : decode cX14_text 25 = .ok (.getfield 38, 3) := by decide +kernel
theorem dX14_text_28 : decode cX14_text 28 = .ok (.invokevirtual 52, 3) := by decide +kernel
theorem dX14_text_31 : decode cX14_text 31 = .ok (.invokevirtual 48, 3) := by decide +kernel
theorem dX14_text_34 : decode cX14_text 34 = .ok (.ldc 41, 2) := by decide +kernel
theorem dX14_text_36 : decode cX14_text 36 = .ok (.invokevirtual 48, 3) := by decide +kernel
theorem dX14_text_39 : decode cX14_text 39 = .ok (.invokevirtual 56, 3) := by decide +kernel
theorem dX14_text_42 : decode cX14_text 42 = .ok (.astore_n 1, 1) := by decide +kernel
theorem dX14_text_43 : decode cX14_text 43 = .ok (.aload_n 0, 1) := by decide +kernel
theorem dX14_text_44 : decode cX14_text 44 = .ok (.getfield 21, 3) := by decide +kernel
theorem dX14_text_47 : decode cX14_text 47 = .ok (.ifCond .le 43, 3) := by decide +kernel
theorem dX14_text_50 : decode cX14_text 50 = .ok (.new 43, 3) := by decide +kernel
theorem dX14_text_53 : decode cX14_text 53 = .ok (.dup, 1) := by decide +kernel
theorem dX14_text_54 : decode cX14_text 54 = .ok (.invokespecial 45, 3) := by decide +kernel
theorem dX14_text_57 : decode cX14_text 57 = .ok (.aload_n 0, 1) := by decide +kernel
theorem dX14_text_58 : decode cX14_text 58 = .ok (.getfield 21, 3) := by decide +kernel
theorem dX14_text_61 : decode cX14_text 61 = .ok (.iconst 1, 1) := by decide +kernel
theorem dX14_text_62 : decode cX14_text 62 = .ok (.if_icmp .ne 8, 3) := by decide +kernel
theorem dX14_text_65 : decode cX14_text 65 = .ok (.ldc 59, 2) := by decide +kernel
theorem dX14_text_67 : decode cX14_text 67 = .ok (.goto 5, 3) := by decide +kernel
theorem dX14_text_70 : decode cX14_text 70 = .ok (.ldc 61, 2) := by decide +kernel
theorem dX14_text_72 : decode cX14_text 72 = .ok (.invokevirtual 48, 3) := by decide +kernel
theorem dX14_text_75 : decode cX14_text 75 = .ok (.aload_n 0, 1) := by decide +kernel
theorem dX14_text_76 : decode cX14_text 76 = .ok (.getfield 25, 3) := by decide +kernel
theorem dX14_text_79 : decode cX14_text 79 = .ok (.invokevirtual 63, 3) := by decide +kernel
theorem dX14_text_82 : decode cX14_text 82 = .ok (.aload_n 1, 1) := by decide +kernel
theorem dX14_text_83 : decode cX14_text 83 = .ok (.invokevirtual 48, 3) := by decide +kernel
theorem dX14_text_86 : decode cX14_text 86 = .ok (.invokevirtual 56, 3) := by decide +kernel
theorem dX14_text_89 : decode cX14_text 89 = .ok (.areturn, 1) := by decide +kernel
theorem dX14_text_90 : decode cX14_text 90 = .ok (.new 43, 3) := by decide +kernel
theorem dX14_text_93 : decode cX14_text 93 = .ok (.dup, 1) := by decide +kernel
theorem dX14_text_94 : decode cX14_text 94 = .ok (.invokespecial 45, 3) := by decide +kernel
theorem dX14_text_97 : decode cX14_text 97 = .ok (.ldc 66, 2) := by decide +kernel
theorem dX14_text_99 : decode cX14_text 99 = .ok (.invokevirtual 48, 3) := by decide +kernel
theorem dX14_text_102 : decode cX14_text 102 = .ok (.aload_n 0, 1) := by decide +kernel
theorem dX14_text_103 : decode cX14_text 103 = .ok (.getfield 25, 3) := by decide +kernel
theorem dX14_text_106 : decode cX14_text 106 = .ok (.invokevirtual 63, 3) := by decide +kernel
theorem dX14_text_109 : decode cX14_text 109 = .ok (.ldc 68, 2) := by decide +kernel
theorem dX14_text_111 : decode cX14_text 111 = .ok (.invokevirtual 48, 3) := by decide +kernel
theorem dX14_text_114 : decode cX14_text 114 = .ok (.aload_n 0, 1) := by decide +kernel
theorem dX14_text_115 : decode cX14_text 115 = .ok (.getfield 9, 3) := by decide +kernel
theorem dX14_text_118 : decode cX14_text 118 = .ok (.iconst 0, 1) := by decide +kernel
theorem dX14_text_119 : decode cX14_text 119 = .ok (.aaload, 1) := by decide +kernel
theorem dX14_text_120 : decode cX14_text 120 = .ok (.invokevirtual 52, 3) := by decide +kernel
theorem dX14_text_123 : decode cX14_text 123 = .ok (.invokevirtual 48, 3) := by decide +kernel
theorem dX14_text_126 : decode cX14_text 126 = .ok (.ldc 70, 2) := by decide +kernel
theorem dX14_text_128 : decode cX14_text 128 = .ok (.invokevirtual 48, 3) := by decide +kernel
theorem dX14_text_131 : decode cX14_text 131 = .ok (.aload_n 0, 1) := by decide +kernel
theorem dX14_text_132 : decode cX14_text 132 = .ok (.getfield 9, 3) := by decide +kernel
theorem dX14_text_135 : decode cX14_text 135 = .ok (.iconst 1, 1) := by decide +kernel
theorem dX14_text_136 : decode cX14_text 136 = .ok (.aaload, 1) := by decide +kernel
theorem dX14_text_137 : decode cX14_text 137 = .ok (.invokevirtual 52, 3) := by decide +kernel
theorem dX14_text_140 : decode cX14_text 140 = .ok (.invokevirtual 48, 3) := by decide +kernel
theorem dX14_text_143 : decode cX14_text 143 = .ok (.ldc 72, 2) := by decide +kernel
theorem dX14_text_145 : decode cX14_text 145 = .ok (.invokevirtual 48, 3) := by decide +kernel
theorem dX14_text_148 : decode cX14_text 148 = .ok (.aload_n 0, 1) := by decide +kernel
theorem dX14_text_149 : decode cX14_text 149 = .ok (.getfield 9, 3) := by decide +kernel
theorem dX14_text_152 : decode cX14_text 152 = .ok (.iconst 2, 1) := by decide +kernel
theorem dX14_text_153 : decode cX14_text 153 = .ok (.aaload, 1) := by decide +kernel
theorem dX14_text_154 : decode cX14_text 154 = .ok (.invokevirtual 52, 3) := by decide +kernel
theorem dX14_text_157 : decode cX14_text 157 = .ok (.invokevirtual 48, 3) := by decide +kernel
theorem dX14_text_160 : decode cX14_text 160 = .ok (.aload_n 1, 1) := by decide +kernel
theorem dX14_text_161 : decode cX14_text 161 = .ok (.invokevirtual 48, 3) := by decide +kernel
theorem dX14_text_164 : decode cX14_text 164 = .ok (.invokevirtual 56, 3) := by decide +kernel
theorem dX14_text_167 : decode cX14_text 167 = .ok (.areturn, 1) := by decide +kernel
theorem dX14_rest_0 : decode cX14_rest 0 = .ok (.iload_n 0, 1) := by decide +kernel
theorem dX14_rest_1 : decode cX14_rest 1 = .ok (.iload_n 1, 1) := by decide +kernel
theorem dX14_rest_2 : decode cX14_rest 2 = .ok (.irem, 1) := by decide +kernel
theorem dX14_rest_3 : decode cX14_rest 3 = .ok (.istore_n 2, 1) := by decide +kernel
theorem dX14_rest_4 : decode cX14_rest 4 = .ok (.iload_n 2, 1) := by decide +kernel
theorem dX14_rest_5 : decode cX14_rest 5 = .ok (.ifCond .ge 9, 3) := by decide +kernel
theorem dX14_rest_8 : decode cX14_rest 8 = .ok (.iload_n 2, 1) := by decide +kernel
theorem dX14_rest_9 : decode cX14_rest 9 = .ok (.iload_n 1, 1) := by decide +kernel
theorem dX14_rest_10 : decode cX14_rest 10 = .ok (.iadd, 1) := by decide +kernel
theorem dX14_rest_11 : decode cX14_rest 11 = .ok (.goto 4, 3) := by decide +kernel
theorem dX14_rest_14 : decode cX14_rest 14 = .ok (.iload_n 2, 1) := by decide +kernel
theorem dX14_rest_15 : decode cX14_rest 15 = .ok (.ireturn, 1) := by decide +kernel
theorem dX14_isDone_0 : decode cX14_isDone 0 = .ok (.aload_n 1, 1) := by decide +kernel
theorem dX14_isDone_1 : decode cX14_isDone 1 = .ok (.getfield 74, 3) := by decide +kernel
theorem dX14_isDone_4 : decode cX14_isDone 4 = .ok (.aload_n 0, 1) := by decide +kernel
theorem dX14_isDone_5 : decode cX14_isDone 5 = .ok (.getfield 25, 3) := by decide +kernel
theorem dX14_isDone_8 : decode cX14_isDone 8 = .ok (.aaload, 1) := by decide +kernel
theorem dX14_isDone_9 : decode cX14_isDone 9 = .ok (.astore_n 2, 1) := by decide +kernel
theorem dX14_isDone_10 : decode cX14_isDone 10 = .ok (.aload_n 0, 1) := by decide +kernel
theorem dX14_isDone_11 : decode cX14_isDone 11 = .ok (.getfield 38, 3) := by decide +kernel
theorem dX14_isDone_14 : decode cX14_isDone 14 = .ok (.ifnull 16, 3) := by decide +kernel
theorem dX14_isDone_17 : decode cX14_isDone 17 = .ok (.aload_n 0, 1) := by decide +kernel
theorem dX14_isDone_18 : decode cX14_isDone 18 = .ok (.getfield 38, 3) := by decide +kernel
theorem dX14_isDone_21 : decode cX14_isDone 21 = .ok (.aload_n 1, 1) := by decide +kernel
theorem dX14_isDone_22 : decode cX14_isDone 22 = .ok (.invokevirtual 80, 3) := by decide +kernel
theorem dX14_isDone_25 : decode cX14_isDone 25 = .ok (.ifCond .ne 5, 3) := by decide +kernel
theorem dX14_isDone_28 : decode cX14_isDone 28 = .ok (.iconst 0, 1) := by decide +kernel
theorem dX14_isDone_29 : decode cX14_isDone 29 = .ok (.ireturn, 1) := by decide +kernel
theorem dX14_isDone_30 : decode cX14_isDone 30 = .ok (.aload_n 0, 1) := by decide +kernel
theorem dX14_isDone_31 : decode cX14_isDone 31 = .ok (.getfield 21, 3) := by decide +kernel
theorem dX14_isDone_34 : decode cX14_isDone 34 = .ok (.iconst 2, 1) := by decide +kernel
theorem dX14_isDone_35 : decode cX14_isDone 35 = .ok (.if_icmp .ne 12, 3) := by decide +kernel
theorem dX14_isDone_38 : decode cX14_isDone 38 = .ok (.aload_n 1, 1) := by decide +kernel
theorem dX14_isDone_39 : decode cX14_isDone 39 = .ok (.aload_n 0, 1) := by decide +kernel
theorem dX14_isDone_40 : decode cX14_isDone 40 = .ok (.getfield 25, 3) := by decide +kernel
theorem dX14_isDone_43 : decode cX14_isDone 43 = .ok (.invokevirtual 84, 3) := by decide +kernel
theorem dX14_isDone_46 : decode cX14_isDone 46 = .ok (.ireturn, 1) := by decide +kernel
theorem dX14_isDone_47 : decode cX14_isDone 47 = .ok (.aload_n 0, 1) := by decide +kernel
theorem dX14_isDone_48 : decode cX14_isDone 48 = .ok (.getfield 21, 3) := by decide +kernel
theorem dX14_isDone_51 : decode cX14_isDone 51 = .ok (.iconst 1, 1) := by decide +kernel
theorem dX14_isDone_52 : decode cX14_isDone 52 = .ok (.if_icmp .ne 21, 3) := by decide +kernel
theorem dX14_isDone_55 : decode cX14_isDone 55 = .ok (.aload_n 2, 1) := by decide +kernel
theorem dX14_isDone_56 : decode cX14_isDone 56 = .ok (.iconst 3, 1) := by decide +kernel
theorem dX14_isDone_57 : decode cX14_isDone 57 = .ok (.iaload, 1) := by decide +kernel
theorem dX14_isDone_58 : decode cX14_isDone 58 = .ok (.ifCond .lt 7, 3) := by decide +kernel
theorem dX14_isDone_61 : decode cX14_isDone 61 = .ok (.iconst 1, 1) := by decide +kernel
theorem dX14_isDone_62 : decode cX14_isDone 62 = .ok (.goto 4, 3) := by decide +kernel
theorem dX14_isDone_65 : decode cX14_isDone 65 = .ok (.iconst 0, 1) := by decide +kernel
theorem dX14_isDone_66 : decode cX14_isDone 66 = .ok (.istore_n 3, 1) := by decide +kernel
theorem dX14_isDone_67 : decode cX14_isDone 67 = .ok (.aload_n 2, 1) := by decide +kernel
theorem dX14_isDone_68 : decode cX14_isDone 68 = .ok (.iconst 3, 1) := by decide +kernel
theorem dX14_isDone_69 : decode cX14_isDone 69 = .ok (.iconst (-1), 1) := by decide +kernel
theorem dX14_isDone_70 : decode cX14_isDone 70 = .ok (.iastore, 1) := by decide +kernel
theorem dX14_isDone_71 : decode cX14_isDone 71 = .ok (.iload_n 3, 1) := by decide +kernel
theorem dX14_isDone_72 : decode cX14_isDone 72 = .ok (.ireturn, 1) := by decide +kernel
theorem dX14_isDone_73 : decode cX14_isDone 73 = .ok (.aload_n 0, 1) := by decide +kernel
theorem dX14_isDone_74 : decode cX14_isDone 74 = .ok (.getfield 9, 3) := by decide +kernel
theorem dX14_isDone_77 : decode cX14_isDone 77 = .ok (.iconst 0, 1) := by decide +kernel
theorem dX14_isDone_78 : decode cX14_isDone 78 = .ok (.aaload, 1) := by decide +kernel
theorem dX14_isDone_79 : decode cX14_isDone 79 = .ok (.aload_n 1, 1) := by decide +kernel
theorem dX14_isDone_80 : decode cX14_isDone 80 = .ok (.invokevirtual 80, 3) := by decide +kernel
theorem dX14_isDone_83 : decode cX14_isDone 83 = .ok (.aload_n 1, 1) := by decide +kernel
theorem dX14_isDone_84 : decode cX14_isDone 84 = .ok (.getfield 88, 3) := by decide +kernel
theorem dX14_isDone_87 : decode cX14_isDone 87 = .ok (.invokestatic 91, 3) := by decide +kernel
theorem dX14_isDone_90 : decode cX14_isDone 90 = .ok (.aload_n 1, 1) := by decide +kernel
theorem dX14_isDone_91 : decode cX14_isDone 91 = .ok (.getfield 88, 3) := by decide +kernel
theorem dX14_isDone_94 : decode cX14_isDone 94 = .ok (.aload_n 0, 1) := by decide +kernel
theorem dX14_isDone_95 : decode cX14_isDone 95 = .ok (.getfield 9, 3) := by decide +kernel
theorem dX14_isDone_98 : decode cX14_isDone 98 = .ok (.iconst 1, 1) := by decide +kernel
theorem dX14_isDone_99 : decode cX14_isDone 99 = .ok (.aaload, 1) := by decide +kernel
theorem dX14_isDone_100 : decode cX14_isDone 100 = .ok (.aload_n 1, 1) := by decide +kernel
theorem dX14_isDone_101 : decode cX14_isDone 101 = .ok (.invokevirtual 80, 3) := by decide +kernel
theorem dX14_isDone_104 : decode cX14_isDone 104 = .ok (.aload_n 1, 1) := by decide +kernel
theorem dX14_isDone_105 : decode cX14_isDone 105 = .ok (.getfield 95, 3) := by decide +kernel
theorem dX14_isDone_108 : decode cX14_isDone 108 = .ok (.invokestatic 91, 3) := by decide +kernel
theorem dX14_isDone_111 : decode cX14_isDone 111 = .ok (.imul, 1) := by decide +kernel
theorem dX14_isDone_112 : decode cX14_isDone 112 = .ok (.iadd, 1) := by decide +kernel
theorem dX14_isDone_113 : decode cX14_isDone 113 = .ok (.istore_n 3, 1) := by decide +kernel
theorem dX14_isDone_114 : decode cX14_isDone 114 = .ok (.aload_n 0, 1) := by decide +kernel
theorem dX14_isDone_115 : decode cX14_isDone 115 = .ok (.getfield 9, 3) := by decide +kernel
theorem dX14_isDone_118 : decode cX14_isDone 118 = .ok (.iconst 2, 1) := by decide +kernel
theorem dX14_isDone_119 : decode cX14_isDone 119 = .ok (.aaload, 1) := by decide +kernel
theorem dX14_isDone_120 : decode cX14_isDone 120 = .ok (.aload_n 1, 1) := by decide +kernel
theorem dX14_isDone_121 : decode cX14_isDone 121 = .ok (.invokevirtual 80, 3) := by decide +kernel
theorem dX14_isDone_124 : decode cX14_isDone 124 = .ok (.bipush 6, 2) := by decide +kernel
theorem dX14_isDone_126 : decode cX14_isDone 126 = .ok (.invokestatic 91, 3) := by decide +kernel
theorem dX14_isDone_129 : decode cX14_isDone 129 = .ok (.istore 4, 2) := by decide +kernel
theorem dX14_isDone_131 : decode cX14_isDone 131 = .ok (.aload_n 1, 1) := by decide +kernel
theorem dX14_isDone_132 : decode cX14_isDone 132 = .ok (.aload_n 1, 1) := by decide +kernel
theorem dX14_isDone_133 : decode cX14_isDone 133 = .ok (.invokevirtual 98, 3) := by decide +kernel
theorem dX14_isDone_136 : decode cX14_isDone 136 = .ok (.aload_n 0, 1) := by decide +kernel
theorem dX14_isDone_137 : decode cX14_isDone 137 = .ok (.getfield 25, 3) := by decide +kernel
theorem dX14_isDone_140 : decode cX14_isDone 140 = .ok (.iload_n 3, 1) := by decide +kernel
theorem dX14_isDone_141 : decode cX14_isDone 141 = .ok (.iload 4, 2) := by decide +kernel
theorem dX14_isDone_143 : decode cX14_isDone 143 = .ok (.invokevirtual 102, 3) := by decide +kernel
theorem dX14_isDone_146 : decode cX14_isDone 146 = .ok (.ifCond .ne 5, 3) := by decide +kernel
theorem dX14_isDone_149 : decode cX14_isDone 149 = .ok (.iconst 0, 1) := by decide +kernel
theorem dX14_isDone_150 : decode cX14_isDone 150 = .ok (.ireturn, 1) := by decide +kernel
theorem dX14_isDone_151 : decode cX14_isDone 151 = .ok (.aload_n 2, 1) := by decide +kernel
theorem dX14_isDone_152 : decode cX14_isDone 152 = .ok (.iconst 3, 1) := by decide +kernel
theorem dX14_isDone_153 : decode cX14_isDone 153 = .ok (.iload_n 3, 1) := by decide +kernel
theorem dX14_isDone_154 : decode cX14_isDone 154 = .ok (.iastore, 1) := by decide +kernel
theorem dX14_isDone_155 : decode cX14_isDone 155 = .ok (.aload_n 2, 1) := by decide +kernel
theorem dX14_isDone_156 : decode cX14_isDone 156 = .ok (.iconst 4, 1) := by decide +kernel
theorem dX14_isDone_157 : decode cX14_isDone 157 = .ok (.iload 4, 2) := by decide +kernel
theorem dX14_isDone_159 : decode cX14_isDone 159 = .ok (.iastore, 1) := by decide +kernel
theorem dX14_isDone_160 : decode cX14_isDone 160 = .ok (.iconst 1, 1) := by decide +kernel
theorem dX14_isDone_161 : decode cX14_isDone 161 = .ok (.ireturn, 1) := by decide +kernel
