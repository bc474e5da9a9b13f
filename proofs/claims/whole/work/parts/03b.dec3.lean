theorem dX11_init_0 : decode cX11_init 0 = .ok (.aload_n 0, 1) := by decide +kernel
theorem dX11_init_1 : decode cX11_init 1 = .ok (.invokespecial 3, 3) := by decide +kernel
theorem dX11_init_4 : decode cX11_init 4 = .ok (.aload_n 0, 1) := by decide +kernel
theorem dX11_init_5 : decode cX11_init 5 = .ok (.bipush 49, 2) := by decide +kernel
theorem dX11_init_7 : decode cX11_init 7 = .ok (.newarray .int, 2) := by decide +kernel
theorem dX11_init_9 : decode cX11_init 9 = .ok (.putfield 9, 3) := by decide +kernel
theorem dX11_init_12 : decode cX11_init 12 = .ok (.aload_n 0, 1) := by decide +kernel
theorem dX11_init_13 : decode cX11_init 13 = .ok (.bipush 16, 2) := by decide +kernel
theorem dX11_init_15 : decode cX11_init 15 = .ok (.newarray .int, 2) := by decide +kernel
theorem dX11_init_17 : decode cX11_init 17 = .ok (.putfield 15, 3) := by decide +kernel
theorem dX11_init_20 : decode cX11_init 20 = .ok (.aload_n 0, 1) := by decide +kernel
theorem dX11_init_21 : decode cX11_init 21 = .ok (.bipush 16, 2) := by decide +kernel
theorem dX11_init_23 : decode cX11_init 23 = .ok (.newarray .int, 2) := by decide +kernel
theorem dX11_init_25 : decode cX11_init 25 = .ok (.putfield 18, 3) := by decide +kernel
theorem dX11_init_28 : decode cX11_init 28 = .ok (.return_, 1) := by decide +kernel
theorem dX11_begin_0 : decode cX11_begin 0 = .ok (.iconst 0, 1) := by decide +kernel
theorem dX11_begin_1 : decode cX11_begin 1 = .ok (.istore_n 1, 1) := by decide +kernel
theorem dX11_begin_2 : decode cX11_begin 2 = .ok (.iload_n 1, 1) := by decide +kernel
theorem dX11_begin_3 : decode cX11_begin 3 = .ok (.bipush 49, 2) := by decide +kernel
theorem dX11_begin_5 : decode cX11_begin 5 = .ok (.if_icmp .ge 16, 3) := by decide +kernel
theorem dX11_begin_8 : decode cX11_begin 8 = .ok (.aload_n 0, 1) := by decide +kernel
theorem dX11_begin_9 : decode cX11_begin 9 = .ok (.getfield 9, 3) := by decide +kernel
theorem dX11_begin_12 : decode cX11_begin 12 = .ok (.iload_n 1, 1) := by decide +kernel
theorem dX11_begin_13 : decode cX11_begin 13 = .ok (.iconst (-1), 1) := by decide +kernel
theorem dX11_begin_14 : decode cX11_begin 14 = .ok (.iastore, 1) := by decide +kernel
theorem dX11_begin_15 : decode cX11_begin 15 = .ok (.iinc 1 1, 3) := by decide +kernel
theorem dX11_begin_18 : decode cX11_begin 18 = .ok (.goto (-16), 3) := by decide +kernel
theorem dX11_begin_21 : decode cX11_begin 21 = .ok (.iconst 0, 1) := by decide +kernel
theorem dX11_begin_22 : decode cX11_begin 22 = .ok (.istore_n 1, 1) := by decide +kernel
theorem dX11_begin_23 : decode cX11_begin 23 = .ok (.iload_n 1, 1) := by decide +kernel
theorem dX11_begin_24 : decode cX11_begin 24 = .ok (.bipush 16, 2) := by decide +kernel
theorem dX11_begin_26 : decode cX11_begin 26 = .ok (.if_icmp .ge 16, 3) := by decide +kernel
theorem dX11_begin_29 : decode cX11_begin 29 = .ok (.aload_n 0, 1) := by decide +kernel
theorem dX11_begin_30 : decode cX11_begin 30 = .ok (.getfield 15, 3) := by decide +kernel
theorem dX11_begin_33 : decode cX11_begin 33 = .ok (.iload_n 1, 1) := by decide +kernel
theorem dX11_begin_34 : decode cX11_begin 34 = .ok (.iconst (-1), 1) := by decide +kernel
theorem dX11_begin_35 : decode cX11_begin 35 = .ok (.iastore, 1) := by decide +kernel
theorem dX11_begin_36 : decode cX11_begin 36 = .ok (.iinc 1 1, 3) := by decide +kernel
theorem dX11_begin_39 : decode cX11_begin 39 = .ok (.goto (-16), 3) := by decide +kernel
theorem dX11_begin_42 : decode cX11_begin 42 = .ok (.aload_n 0, 1) := by decide +kernel
theorem dX11_begin_43 : decode cX11_begin 43 = .ok (.iconst 0, 1) := by decide +kernel
theorem dX11_begin_44 : decode cX11_begin 44 = .ok (.putfield 21, 3) := by decide +kernel
theorem dX11_begin_47 : decode cX11_begin 47 = .ok (.aload_n 0, 1) := by decide +kernel
theorem dX11_begin_48 : decode cX11_begin 48 = .ok (.iconst 0, 1) := by decide +kernel
theorem dX11_begin_49 : decode cX11_begin 49 = .ok (.putfield 25, 3) := by decide +kernel
theorem dX11_begin_52 : decode cX11_begin 52 = .ok (.return_, 1) := by decide +kernel
theorem dX11_become_0 : decode cX11_become 0 = .ok (.aload_n 1, 1) := by decide +kernel
theorem dX11_become_1 : decode cX11_become 1 = .ok (.getfield 9, 3) := by decide +kernel
theorem dX11_become_4 : decode cX11_become 4 = .ok (.aload_n 0, 1) := by decide +kernel
theorem dX11_become_5 : decode cX11_become 5 = .ok (.getfield 9, 3) := by decide +kernel
theorem dX11_become_8 : decode cX11_become 8 = .ok (.invokestatic 28, 3) := by decide +kernel
theorem dX11_become_11 : decode cX11_become 11 = .ok (.aload_n 1, 1) := by decide +kernel
theorem dX11_become_12 : decode cX11_become 12 = .ok (.getfield 15, 3) := by decide +kernel
theorem dX11_become_15 : decode cX11_become 15 = .ok (.aload_n 0, 1) := by decide +kernel
theorem dX11_become_16 : decode cX11_become 16 = .ok (.getfield 15, 3) := by decide +kernel
theorem dX11_become_19 : decode cX11_become 19 = .ok (.invokestatic 28, 3) := by decide +kernel
theorem dX11_become_22 : decode cX11_become 22 = .ok (.aload_n 1, 1) := by decide +kernel
theorem dX11_become_23 : decode cX11_become 23 = .ok (.getfield 18, 3) := by decide +kernel
theorem dX11_become_26 : decode cX11_become 26 = .ok (.aload_n 0, 1) := by decide +kernel
theorem dX11_become_27 : decode cX11_become 27 = .ok (.getfield 18, 3) := by decide +kernel
theorem dX11_become_30 : decode cX11_become 30 = .ok (.invokestatic 28, 3) := by decide +kernel
theorem dX11_become_33 : decode cX11_become 33 = .ok (.aload_n 0, 1) := by decide +kernel
theorem dX11_become_34 : decode cX11_become 34 = .ok (.aload_n 1, 1) := by decide +kernel
theorem dX11_become_35 : decode cX11_become 35 = .ok (.getfield 21, 3) := by decide +kernel
theorem dX11_become_38 : decode cX11_become 38 = .ok (.putfield 21, 3) := by decide +kernel
theorem dX11_become_41 : decode cX11_become 41 = .ok (.aload_n 0, 1) := by decide +kernel
theorem dX11_become_42 : decode cX11_become 42 = .ok (.aload_n 1, 1) := by decide +kernel
theorem dX11_become_43 : decode cX11_become 43 = .ok (.getfield 25, 3) := by decide +kernel
theorem dX11_become_46 : decode cX11_become 46 = .ok (.putfield 25, 3) := by decide +kernel
theorem dX11_become_49 : decode cX11_become 49 = .ok (.return_, 1) := by decide +kernel
theorem dX11_put_0 : decode cX11_put 0 = .ok (.aload_n 0, 1) := by decide +kernel
theorem dX11_put_1 : decode cX11_put 1 = .ok (.getfield 9, 3) := by decide +kernel
theorem dX11_put_4 : decode cX11_put 4 = .ok (.iload_n 2, 1) := by decide +kernel
theorem dX11_put_5 : decode cX11_put 5 = .ok (.iload_n 1, 1) := by decide +kernel
theorem dX11_put_6 : decode cX11_put 6 = .ok (.iastore, 1) := by decide +kernel
theorem dX11_put_7 : decode cX11_put 7 = .ok (.aload_n 0, 1) := by decide +kernel
theorem dX11_put_8 : decode cX11_put 8 = .ok (.getfield 15, 3) := by decide +kernel
theorem dX11_put_11 : decode cX11_put 11 = .ok (.iload_n 1, 1) := by decide +kernel
theorem dX11_put_12 : decode cX11_put 12 = .ok (.iload_n 2, 1) := by decide +kernel
theorem dX11_put_13 : decode cX11_put 13 = .ok (.iastore, 1) := by decide +kernel
theorem dX11_put_14 : decode cX11_put 14 = .ok (.aload_n 0, 1) := by decide +kernel
theorem dX11_put_15 : decode cX11_put 15 = .ok (.getfield 18, 3) := by decide +kernel
theorem dX11_put_18 : decode cX11_put 18 = .ok (.iload_n 1, 1) := by decide +kernel
theorem dX11_put_19 : decode cX11_put 19 = .ok (.iload_n 3, 1) := by decide +kernel
theorem dX11_put_20 : decode cX11_put 20 = .ok (.iastore, 1) := by decide +kernel
theorem dX11_put_21 : decode cX11_put 21 = .ok (.aload_n 0, 1) := by decide +kernel
theorem dX11_put_22 : decode cX11_put 22 = .ok (.dup, 1) := by decide +kernel
theorem dX11_put_23 : decode cX11_put 23 = .ok (.getfield 21, 3) := by decide +kernel
theorem dX11_put_26 : decode cX11_put 26 = .ok (.iconst 1, 1) := by decide +kernel
theorem dX11_put_27 : decode cX11_put 27 = .ok (.iadd, 1) := by decide +kernel
theorem dX11_put_28 : decode cX11_put 28 = .ok (.putfield 21, 3) := by decide +kernel
theorem dX11_put_31 : decode cX11_put 31 = .ok (.return_, 1) := by decide +kernel
theorem dX11_take_0 : decode cX11_take 0 = .ok (.aload_n 0, 1) := by decide +kernel
theorem dX11_take_1 : decode cX11_take 1 = .ok (.getfield 9, 3) := by decide +kernel
theorem dX11_take_4 : decode cX11_take 4 = .ok (.aload_n 0, 1) := by decide +kernel
theorem dX11_take_5 : decode cX11_take 5 = .ok (.getfield 15, 3) := by decide +kernel
theorem dX11_take_8 : decode cX11_take 8 = .ok (.iload_n 1, 1) := by decide +kernel
theorem dX11_take_9 : decode cX11_take 9 = .ok (.iaload, 1) := by decide +kernel
theorem dX11_take_10 : decode cX11_take 10 = .ok (.iconst (-1), 1) := by decide +kernel
theorem dX11_take_11 : decode cX11_take 11 = .ok (.iastore, 1) := by decide +kernel
theorem dX11_take_12 : decode cX11_take 12 = .ok (.aload_n 0, 1) := by decide +kernel
theorem dX11_take_13 : decode cX11_take 13 = .ok (.getfield 15, 3) := by decide +kernel
theorem dX11_take_16 : decode cX11_take 16 = .ok (.iload_n 1, 1) := by decide +kernel
theorem dX11_take_17 : decode cX11_take 17 = .ok (.iconst (-1), 1) := by decide +kernel
theorem dX11_take_18 : decode cX11_take 18 = .ok (.iastore, 1) := by decide +kernel
theorem dX11_take_19 : decode cX11_take 19 = .ok (.aload_n 0, 1) := by decide +kernel
theorem dX11_take_20 : decode cX11_take 20 = .ok (.dup, 1) := by decide +kernel
theorem dX11_take_21 : decode cX11_take 21 = .ok (.getfield 21, 3) := by decide +kernel
theorem dX11_take_24 : decode cX11_take 24 = .ok (.iconst 1, 1) := by decide +kernel
theorem dX11_take_25 : decode cX11_take 25 = .ok (.isub, 1) := by decide +kernel
theorem dX11_take_26 : decode cX11_take 26 = .ok (.putfield 21, 3) := by decide +kernel
theorem dX11_take_29 : decode cX11_take 29 = .ok (.return_, 1) := by decide +kernel
theorem dX12_init_0 : decode cX12_init 0 = .ok (.aload_n 0, 1) := by decide +kernel
theorem dX12_init_1 : decode cX12_init 1 = .ok (.invokespecial 3, 3) := by decide +kernel
theorem dX12_init_4 : decode cX12_init 4 = .ok (.aload_n 0, 1) := by decide +kernel
theorem dX12_init_5 : decode cX12_init 5 = .ok (.iconst 5, 1) := by decide +kernel
theorem dX12_init_6 : decode cX12_init 6 = .ok (.putfield 9, 3) := by decide +kernel
theorem dX12_init_9 : decode cX12_init 9 = .ok (.aload_n 0, 1) := by decide +kernel
theorem dX12_init_10 : decode cX12_init 10 = .ok (.iconst 5, 1) := by decide +kernel
theorem dX12_init_11 : decode cX12_init 11 = .ok (.putfield 15, 3) := by decide +kernel
theorem dX12_init_14 : decode cX12_init 14 = .ok (.aload_n 0, 1) := by decide +kernel
theorem dX12_init_15 : decode cX12_init 15 = .ok (.bipush 51, 2) := by decide +kernel
theorem dX12_init_17 : decode cX12_init 17 = .ok (.newarray .int, 2) := by decide +kernel
theorem dX12_init_19 : decode cX12_init 19 = .ok (.putfield 18, 3) := by decide +kernel
theorem dX12_init_22 : decode cX12_init 22 = .ok (.aload_n 0, 1) := by decide +kernel
theorem dX12_init_23 : decode cX12_init 23 = .ok (.bipush 17, 2) := by decide +kernel
theorem dX12_init_25 : decode cX12_init 25 = .ok (.newarray .int, 2) := by decide +kernel
theorem dX12_init_27 : decode cX12_init 27 = .ok (.putfield 22, 3) := by decide +kernel
theorem dX12_init_30 : decode cX12_init 30 = .ok (.aload_n 0, 1) := by decide +kernel
theorem dX12_init_31 : decode cX12_init 31 = .ok (.bipush 17, 2) := by decide +kernel
theorem dX12_init_33 : decode cX12_init 33 = .ok (.newarray .int, 2) := by decide +kernel
theorem dX12_init_35 : decode cX12_init 35 = .ok (.putfield 25, 3) := by decide +kernel
theorem dX12_init_38 : decode cX12_init 38 = .ok (.aload_n 0, 1) := by decide +kernel
theorem dX12_init_39 : decode cX12_init 39 = .ok (.bipush 17, 2) := by decide +kernel
theorem dX12_init_41 : decode cX12_init 41 = .ok (.newarray .int, 2) := by decide +kernel
theorem dX12_init_43 : decode cX12_init 43 = .ok (.putfield 28, 3) := by decide +kernel
theorem dX12_init_46 : decode cX12_init 46 = .ok (.aload_n 0, 1) := by decide +kernel
theorem dX12_init_47 : decode cX12_init 47 = .ok (.bipush 17, 2) := by decide +kernel
theorem dX12_init_49 : decode cX12_init 49 = .ok (.newarray .int, 2) := by decide +kernel
theorem dX12_init_51 : decode cX12_init 51 = .ok (.putfield 31, 3) := by decide +kernel
theorem dX12_init_54 : decode cX12_init 54 = .ok (.aload_n 0, 1) := by decide +kernel
theorem dX12_init_55 : decode cX12_init 55 = .ok (.bipush 51, 2) := by decide +kernel
theorem dX12_init_57 : decode cX12_init 57 = .ok (.newarray .int, 2) := by decide +kernel
theorem dX12_init_59 : decode cX12_init 59 = .ok (.putfield 34, 3) := by decide +kernel
theorem dX12_init_62 : decode cX12_init 62 = .ok (.aload_n 0, 1) := by decide +kernel
theorem dX12_init_63 : decode cX12_init 63 = .ok (.bipush 17, 2) := by decide +kernel
theorem dX12_init_65 : decode cX12_init 65 = .ok (.newarray .int, 2) := by decide +kernel
theorem dX12_init_67 : decode cX12_init 67 = .ok (.putfield 37, 3) := by decide +kernel
theorem dX12_init_70 : decode cX12_init 70 = .ok (.aload_n 0, 1) := by decide +kernel
theorem dX12_init_71 : decode cX12_init 71 = .ok (.sipush 800, 3) := by decide +kernel
theorem dX12_init_74 : decode cX12_init 74 = .ok (.newarray .int, 2) := by decide +kernel
theorem dX12_init_76 : decode cX12_init 76 = .ok (.putfield 40, 3) := by decide +kernel
theorem dX12_init_79 : decode cX12_init 79 = .ok (.aload_n 0, 1) := by decide +kernel
theorem dX12_init_80 : decode cX12_init 80 = .ok (.sipush 800, 3) := by decide +kernel
theorem dX12_init_83 : decode cX12_init 83 = .ok (.newarray .int, 2) := by decide +kernel
theorem dX12_init_85 : decode cX12_init 85 = .ok (.putfield 43, 3) := by decide +kernel
theorem dX12_init_88 : decode cX12_init 88 = .ok (.aload_n 0, 1) := by decide +kernel
theorem dX12_init_89 : decode cX12_init 89 = .ok (.sipush 800, 3) := by decide +kernel
theorem dX12_init_92 : decode cX12_init 92 = .ok (.newarray .int, 2) := by decide +kernel
theorem dX12_init_94 : decode cX12_init 94 = .ok (.putfield 46, 3) := by decide +kernel
theorem dX12_init_97 : decode cX12_init 97 = .ok (.return_, 1) := by decide +kernel
theorem dX12_begin_0 : decode cX12_begin 0 = .ok (.aload_n 0, 1) := by decide +kernel
theorem dX12_begin_1 : decode cX12_begin 1 = .ok (.iconst 5, 1) := by decide +kernel
theorem dX12_begin_2 : decode cX12_begin 2 = .ok (.putfield 9, 3) := by decide +kernel
theorem dX12_begin_5 : decode cX12_begin 5 = .ok (.aload_n 0, 1) := by decide +kernel
theorem dX12_begin_6 : decode cX12_begin 6 = .ok (.iconst 5, 1) := by decide +kernel
theorem dX12_begin_7 : decode cX12_begin 7 = .ok (.putfield 15, 3) := by decide +kernel
theorem dX12_begin_10 : decode cX12_begin 10 = .ok (.aload_n 0, 1) := by decide +kernel
theorem dX12_begin_11 : decode cX12_begin 11 = .ok (.iconst 0, 1) := by decide +kernel
theorem dX12_begin_12 : decode cX12_begin 12 = .ok (.putfield 49, 3) := by decide +kernel
theorem dX12_begin_15 : decode cX12_begin 15 = .ok (.aload_n 0, 1) := by decide +kernel
theorem dX12_begin_16 : decode cX12_begin 16 = .ok (.iconst 0, 1) := by decide +kernel
theorem dX12_begin_17 : decode cX12_begin 17 = .ok (.putfield 52, 3) := by decide +kernel
theorem dX12_begin_20 : decode cX12_begin 20 = .ok (.aload_n 0, 1) := by decide +kernel
theorem dX12_begin_21 : decode cX12_begin 21 = .ok (.iconst 0, 1) := by decide +kernel
theorem dX12_begin_22 : decode cX12_begin 22 = .ok (.putfield 55, 3) := by decide +kernel
theorem dX12_begin_25 : decode cX12_begin 25 = .ok (.return_, 1) := by decide +kernel
theorem dX12_copy_0 : decode cX12_copy 0 = .ok (.aload_n 0, 1) := by decide +kernel
theorem dX12_copy_1 : decode cX12_copy 1 = .ok (.iconst 0, 1) := by decide +kernel
theorem dX12_copy_2 : decode cX12_copy 2 = .ok (.aload_n 1, 1) := by decide +kernel
theorem dX12_copy_3 : decode cX12_copy 3 = .ok (.iconst 0, 1) := by decide +kernel
theorem dX12_copy_4 : decode cX12_copy 4 = .ok (.aload_n 1, 1) := by decide +kernel
theorem dX12_copy_5 : decode cX12_copy 5 = .ok (.arraylength, 1) := by decide +kernel
theorem dX12_copy_6 : decode cX12_copy 6 = .ok (.invokestatic 58, 3) := by decide +kernel
theorem dX12_copy_9 : decode cX12_copy 9 = .ok (.return_, 1) := by decide +kernel
theorem dX12_become_0 : decode cX12_become 0 = .ok (.aload_n 0, 1) := by decide +kernel
theorem dX12_become_1 : decode cX12_become 1 = .ok (.aload_n 1, 1) := by decide +kernel
theorem dX12_become_2 : decode cX12_become 2 = .ok (.getfield 9, 3) := by decide +kernel
theorem dX12_become_5 : decode cX12_become 5 = .ok (.putfield 9, 3) := by decide +kernel
theorem dX12_become_8 : decode cX12_become 8 = .ok (.aload_n 0, 1) := by decide +kernel
theorem dX12_become_9 : decode cX12_become 9 = .ok (.aload_n 1, 1) := by decide +kernel
theorem dX12_become_10 : decode cX12_become 10 = .ok (.getfield 15, 3) := by decide +kernel
theorem dX12_become_13 : decode cX12_become 13 = .ok (.putfield 15, 3) := by decide +kernel
theorem dX12_become_16 : decode cX12_become 16 = .ok (.aload_n 0, 1) := by decide +kernel
theorem dX12_become_17 : decode cX12_become 17 = .ok (.aload_n 1, 1) := by decide +kernel
theorem dX12_become_18 : decode cX12_become 18 = .ok (.getfield 49, 3) := by decide +kernel
theorem dX12_become_21 : decode cX12_become 21 = .ok (.putfield 49, 3) := by decide +kernel
theorem dX12_become_24 : decode cX12_become 24 = .ok (.aload_n 0, 1) := by decide +kernel
theorem dX12_become_25 : decode cX12_become 25 = .ok (.aload_n 1, 1) := by decide +kernel
theorem dX12_become_26 : decode cX12_become 26 = .ok (.getfield 52, 3) := by decide +kernel
theorem dX12_become_29 : decode cX12_become 29 = .ok (.putfield 52, 3) := by decide +kernel
theorem dX12_become_32 : decode cX12_become 32 = .ok (.aload_n 0, 1) := by decide +kernel
theorem dX12_become_33 : decode cX12_become 33 = .ok (.aload_n 1, 1) := by decide +kernel
theorem dX12_become_34 : decode cX12_become 34 = .ok (.getfield 55, 3) := by decide +kernel
theorem dX12_become_37 : decode cX12_become 37 = .ok (.putfield 55, 3) := by decide +kernel
theorem dX12_become_40 : decode cX12_become 40 = .ok (.aload_n 1, 1) := by decide +kernel
theorem dX12_become_41 : decode cX12_become 41 = .ok (.getfield 18, 3) := by decide +kernel
theorem dX12_become_44 : decode cX12_become 44 = .ok (.aload_n 0, 1) := by decide +kernel
theorem dX12_become_45 : decode cX12_become 45 = .ok (.getfield 18, 3) := by decide +kernel
theorem dX12_become_48 : decode cX12_become 48 = .ok (.invokestatic 64, 3) := by decide +kernel
theorem dX12_become_51 : decode cX12_become 51 = .ok (.aload_n 1, 1) := by decide +kernel
theorem dX12_become_52 : decode cX12_become 52 = .ok (.getfield 22, 3) := by decide +kernel
theorem dX12_become_55 : decode cX12_become 55 = .ok (.aload_n 0, 1) := by decide +kernel
theorem dX12_become_56 : decode cX12_become 56 = .ok (.getfield 22, 3) := by decide +kernel
theorem dX12_become_59 : decode cX12_become 59 = .ok (.invokestatic 64, 3) := by decide +kernel
theorem dX12_become_62 : decode cX12_become 62 = .ok (.aload_n 1, 1) := by decide +kernel
theorem dX12_become_63 : decode cX12_become 63 = .ok (.getfield 25, 3) := by decide +kernel
theorem dX12_become_66 : decode cX12_become 66 = .ok (.aload_n 0, 1) := by decide +kernel
theorem dX12_become_67 : decode cX12_become 67 = .ok (.getfield 25, 3) := by decide +kernel
theorem dX12_become_70 : decode cX12_become 70 = .ok (.invokestatic 64, 3) := by decide +kernel
theorem dX12_become_73 : decode cX12_become 73 = .ok (.aload_n 1, 1) := by decide +kernel
theorem dX12_become_74 : decode cX12_become 74 = .ok (.getfield 28, 3) := by decide +kernel
theorem dX12_become_77 : decode cX12_become 77 = .ok (.aload_n 0, 1) := by decide +kernel
theorem dX12_become_78 : decode cX12_become 78 = .ok (.getfield 28, 3) := by decide +kernel
theorem dX12_become_81 : decode cX12_become 81 = .ok (.invokestatic 64, 3) := by decide +kernel
theorem dX12_become_84 : decode cX12_become 84 = .ok (.aload_n 1, 1) := by decide +kernel
theorem dX12_become_85 : decode cX12_become 85 = .ok (.getfield 31, 3) := by decide +kernel
theorem dX12_become_88 : decode cX12_become 88 = .ok (.aload_n 0, 1) := by decide +kernel
theorem dX12_become_89 : decode cX12_become 89 = .ok (.getfield 31, 3) := by decide +kernel
theorem dX12_become_92 : decode cX12_become 92 = .ok (.invokestatic 64, 3) := by decide +kernel
theorem dX12_become_95 : decode cX12_become 95 = .ok (.aload_n 1, 1) := by decide +kernel
theorem dX12_become_96 : decode cX12_become 96 = .ok (.getfield 34, 3) := by decide +kernel
theorem dX12_become_99 : decode cX12_become 99 = .ok (.aload_n 0, 1) := by decide +kernel
theorem dX12_become_100 : decode cX12_become 100 = .ok (.getfield 34, 3) := by decide +kernel
theorem dX12_become_103 : decode cX12_become 103 = .ok (.invokestatic 64, 3) := by decide +kernel
theorem dX12_become_106 : decode cX12_become 106 = .ok (.aload_n 1, 1) := by decide +kernel
theorem dX12_become_107 : decode cX12_become 107 = .ok (.getfield 37, 3) := by decide +kernel
theorem dX12_become_110 : decode cX12_become 110 = .ok (.aload_n 0, 1) := by decide +kernel
theorem dX12_become_111 : decode cX12_become 111 = .ok (.getfield 37, 3) := by decide +kernel
theorem dX12_become_114 : decode cX12_become 114 = .ok (.invokestatic 64, 3) := by decide +kernel
theorem dX12_become_117 : decode cX12_become 117 = .ok (.aload_n 1, 1) := by decide +kernel
theorem dX12_become_118 : decode cX12_become 118 = .ok (.getfield 40, 3) := by decide +kernel
theorem dX12_become_121 : decode cX12_become 121 = .ok (.aload_n 0, 1) := by decide +kernel
theorem dX12_become_122 : decode cX12_become 122 = .ok (.getfield 40, 3) := by decide +kernel
theorem dX12_become_125 : decode cX12_become 125 = .ok (.invokestatic 64, 3) := by decide +kernel
theorem dX12_become_128 : decode cX12_become 128 = .ok (.aload_n 1, 1) := by decide +kernel
theorem dX12_become_129 : decode cX12_become 129 = .ok (.getfield 43, 3) := by decide +kernel
theorem dX12_become_132 : decode cX12_become 132 = .ok (.aload_n 0, 1) := by decide +kernel
theorem dX12_become_133 : decode cX12_become 133 = .ok (.getfield 43, 3) := by decide +kernel
theorem dX12_become_136 : decode cX12_become 136 = .ok (.invokestatic 64, 3) := by decide +kernel
theorem dX12_become_139 : decode cX12_become 139 = .ok (.aload_n 1, 1) := by decide +kernel
theorem dX12_become_140 : decode cX12_become 140 = .ok (.getfield 46, 3) := by decide +kernel
theorem dX12_become_143 : decode cX12_become 143 = .ok (.aload_n 0, 1) := by decide +kernel
theorem dX12_become_144 : decode cX12_become 144 = .ok (.getfield 46, 3) := by decide +kernel
theorem dX12_become_147 : decode cX12_become 147 = .ok (.invokestatic 64, 3) := by decide +kernel
theorem dX12_become_150 : decode cX12_become 150 = .ok (.return_, 1) := by decide +kernel
theorem dX13_init_0 : decode cX13_init 0 = .ok (.aload_n 0, 1) := by decide +kernel
theorem dX13_init_1 : decode cX13_init 1 = .ok (.invokespecial 1, 3) := by decide +kernel
theorem dX13_init_4 : decode cX13_init 4 = .ok (.aload_n 0, 1) := by decide +kernel
theorem dX13_init_5 : decode cX13_init 5 = .ok (.sipush 2000, 3) := by decide +kernel
theorem dX13_init_8 : decode cX13_init 8 = .ok (.newarray .int, 2) := by decide +kernel
theorem dX13_init_10 : decode cX13_init 10 = .ok (.putfield 9, 3) := by decide +kernel
theorem dX13_init_13 : decode cX13_init 13 = .ok (.aload_n 0, 1) := by decide +kernel
theorem dX13_init_14 : decode cX13_init 14 = .ok (.iconst (-1), 1) := by decide +kernel
theorem dX13_init_15 : decode cX13_init 15 = .ok (.putfield 13, 3) := by decide +kernel
theorem dX13_init_18 : decode cX13_init 18 = .ok (.aload_n 0, 1) := by decide +kernel
theorem dX13_init_19 : decode cX13_init 19 = .ok (.sipush 402, 3) := by decide +kernel
theorem dX13_init_22 : decode cX13_init 22 = .ok (.newarray .int, 2) := by decide +kernel
theorem dX13_init_24 : decode cX13_init 24 = .ok (.putfield 17, 3) := by decide +kernel
theorem dX13_init_27 : decode cX13_init 27 = .ok (.aload_n 0, 1) := by decide +kernel
theorem dX13_init_28 : decode cX13_init 28 = .ok (.sipush 402, 3) := by decide +kernel
theorem dX13_init_31 : decode cX13_init 31 = .ok (.newarray .int, 2) := by decide +kernel
theorem dX13_init_33 : decode cX13_init 33 = .ok (.putfield 20, 3) := by decide +kernel
theorem dX13_init_36 : decode cX13_init 36 = .ok (.aload_n 0, 1) := by decide +kernel
theorem dX13_init_37 : decode cX13_init 37 = .ok (.sipush 402, 3) := by decide +kernel
theorem dX13_init_40 : decode cX13_init 40 = .ok (.newarray .int, 2) := by decide +kernel
theorem dX13_init_42 : decode cX13_init 42 = .ok (.putfield 23, 3) := by decide +kernel
theorem dX13_init_45 : decode cX13_init 45 = .ok (.aload_n 0, 1) := by decide +kernel
theorem dX13_init_46 : decode cX13_init 46 = .ok (.sipush 402, 3) := by decide +kernel
theorem dX13_init_49 : decode cX13_init 49 = .ok (.newarray .int, 2) := by decide +kernel
theorem dX13_init_51 : decode cX13_init 51 = .ok (.putfield 26, 3) := by decide +kernel
theorem dX13_init_54 : decode cX13_init 54 = .ok (.aload_n 0, 1) := by decide +kernel
theorem dX13_init_55 : decode cX13_init 55 = .ok (.bipush 16, 2) := by decide +kernel
theorem dX13_init_57 : decode cX13_init 57 = .ok (.newarray .int, 2) := by decide +kernel
theorem dX13_init_59 : decode cX13_init 59 = .ok (.putfield 29, 3) := by decide +kernel
theorem dX13_init_62 : decode cX13_init 62 = .ok (.aload_n 0, 1) := by decide +kernel
theorem dX13_init_63 : decode cX13_init 63 = .ok (.new 32, 3) := by decide +kernel
theorem dX13_init_66 : decode cX13_init 66 = .ok (.dup, 1) := by decide +kernel
theorem dX13_init_67 : decode cX13_init 67 = .ok (.invokespecial 34, 3) := by decide +kernel
theorem dX13_init_70 : decode cX13_init 70 = .ok (.putfield 35, 3) := by decide +kernel
theorem dX13_init_73 : decode cX13_init 73 = .ok (.aload_n 0, 1) := by decide +kernel
theorem dX13_init_74 : decode cX13_init 74 = .ok (.new 32, 3) := by decide +kernel
theorem dX13_init_77 : decode cX13_init 77 = .ok (.dup, 1) := by decide +kernel
theorem dX13_init_78 : decode cX13_init 78 = .ok (.invokespecial 34, 3) := by decide +kernel
theorem dX13_init_81 : decode cX13_init 81 = .ok (.putfield 39, 3) := by decide +kernel
theorem dX13_init_84 : decode cX13_init 84 = .ok (.aload_n 0, 1) := by decide +kernel
theorem dX13_init_85 : decode cX13_init 85 = .ok (.sipush 800, 3) := by decide +kernel
theorem dX13_init_88 : decode cX13_init 88 = .ok (.newarray .int, 2) := by decide +kernel
theorem dX13_init_90 : decode cX13_init 90 = .ok (.putfield 42, 3) := by decide +kernel
theorem dX13_init_93 : decode cX13_init 93 = .ok (.aload_n 0, 1) := by decide +kernel
theorem dX13_init_94 : decode cX13_init 94 = .ok (.new 45, 3) := by decide +kernel
theorem dX13_init_97 : decode cX13_init 97 = .ok (.dup, 1) := by decide +kernel
theorem dX13_init_98 : decode cX13_init 98 = .ok (.invokespecial 47, 3) := by decide +kernel
theorem dX13_init_101 : decode cX13_init 101 = .ok (.putfield 48, 3) := by decide +kernel
theorem dX13_init_104 : decode cX13_init 104 = .ok (.aload_n 0, 1) := by decide +kernel
theorem dX13_init_105 : decode cX13_init 105 = .ok (.new 45, 3) := by decide +kernel
theorem dX13_init_108 : decode cX13_init 108 = .ok (.dup, 1) := by decide +kernel
theorem dX13_init_109 : decode cX13_init 109 = .ok (.invokespecial 47, 3) := by decide +kernel
theorem dX13_init_112 : decode cX13_init 112 = .ok (.putfield 52, 3) := by decide +kernel
theorem dX13_init_115 : decode cX13_init 115 = .ok (.aload_n 0, 1) := by decide +kernel
theorem dX13_init_116 : decode cX13_init 116 = .ok (.bipush 49, 2) := by decide +kernel
theorem dX13_init_118 : decode cX13_init 118 = .ok (.newarray .int, 2) := by decide +kernel
theorem dX13_init_120 : decode cX13_init 120 = .ok (.putfield 55, 3) := by decide +kernel
theorem dX13_init_123 : decode cX13_init 123 = .ok (.aload_n 0, 1) := by decide +kernel
theorem dX13_init_124 : decode cX13_init 124 = .ok (.bipush 49, 2) := by decide +kernel
theorem dX13_init_126 : decode cX13_init 126 = .ok (.newarray .boolean, 2) := by decide +kernel
theorem dX13_init_128 : decode cX13_init 128 = .ok (.putfield 58, 3) := by decide +kernel
theorem dX13_init_131 : decode cX13_init 131 = .ok (.aload_n 0, 1) := by decide +kernel
theorem dX13_init_132 : decode cX13_init 132 = .ok (.getfield 48, 3) := by decide +kernel
theorem dX13_init_135 : decode cX13_init 135 = .ok (.invokevirtual 62, 3) := by decide +kernel
theorem dX13_init_138 : decode cX13_init 138 = .ok (.return_, 1) := by decide +kernel
theorem dX13_thrown_0 : decode cX13_thrown 0 = .ok (.aload_n 0, 1) := by decide +kernel
theorem dX13_thrown_1 : decode cX13_thrown 1 = .ok (.getfield 65, 3) := by decide +kernel
theorem dX13_thrown_4 : decode cX13_thrown 4 = .ok (.ireturn, 1) := by decide +kernel
theorem dX13_no_0 : decode cX13_no 0 = .ok (.aload_n 0, 1) := by decide +kernel
theorem dX13_no_1 : decode cX13_no 1 = .ok (.iload_n 1, 1) := by decide +kernel
theorem dX13_no_2 : decode cX13_no 2 = .ok (.putfield 65, 3) := by decide +kernel
theorem dX13_no_5 : decode cX13_no 5 = .ok (.iconst 0, 1) := by decide +kernel
theorem dX13_no_6 : decode cX13_no 6 = .ok (.ireturn, 1) := by decide +kernel
theorem dX13_isNot_0 : decode cX13_isNot 0 = .ok (.aload_n 0, 1) := by decide +kernel
theorem dX13_isNot_1 : decode cX13_isNot 1 = .ok (.iload_n 1, 1) := by decide +kernel
theorem dX13_isNot_2 : decode cX13_isNot 2 = .ok (.putfield 65, 3) := by decide +kernel
theorem dX13_isNot_5 : decode cX13_isNot 5 = .ok (.iconst 0, 1) := by decide +kernel
theorem dX13_isNot_6 : decode cX13_isNot 6 = .ok (.ireturn, 1) := by decide +kernel
theorem dX13_ok_0 : decode cX13_ok 0 = .ok (.aload_n 0, 1) := by decide +kernel
theorem dX13_ok_1 : decode cX13_ok 1 = .ok (.iconst 0, 1) := by decide +kernel
theorem dX13_ok_2 : decode cX13_ok 2 = .ok (.putfield 65, 3) := by decide +kernel
theorem dX13_ok_5 : decode cX13_ok 5 = .ok (.iload_n 1, 1) := by decide +kernel
theorem dX13_ok_6 : decode cX13_ok 6 = .ok (.ireturn, 1) := by decide +kernel
theorem dX13_isIn_0 : decode cX13_isIn 0 = .ok (.iload_n 0, 1) := by decide +kernel
theorem dX13_isIn_1 : decode cX13_isIn 1 = .ok (.iload_n 1, 1) := by decide +kernel
theorem dX13_isIn_2 : decode cX13_isIn 2 = .ok (.if_icmp .lt 12, 3) := by decide +kernel
theorem dX13_isIn_5 : decode cX13_isIn 5 = .ok (.iload_n 0, 1) := by decide +kernel
theorem dX13_isIn_6 : decode cX13_isIn 6 = .ok (.iload_n 2, 1) := by decide +kernel
theorem dX13_isIn_7 : decode cX13_isIn 7 = .ok (.if_icmp .gt 7, 3) := by decide +kernel
theorem dX13_isIn_10 : decode cX13_isIn 10 = .ok (.iconst 1, 1) := by decide +kernel
theorem dX13_isIn_11 : decode cX13_isIn 11 = .ok (.goto 4, 3) := by decide +kernel
theorem dX13_isIn_14 : decode cX13_isIn 14 = .ok (.iconst 0, 1) := by decide +kernel
theorem dX13_isIn_15 : decode cX13_isIn 15 = .ok (.ireturn, 1) := by decide +kernel
theorem dX13_isLetter_0 : decode cX13_isLetter 0 = .ok (.iload_n 0, 1) := by decide +kernel
theorem dX13_isLetter_1 : decode cX13_isLetter 1 = .ok (.bipush 97, 2) := by decide +kernel
theorem dX13_isLetter_3 : decode cX13_isLetter 3 = .ok (.bipush 122, 2) := by decide +kernel
theorem dX13_isLetter_5 : decode cX13_isLetter 5 = .ok (.invokestatic 68, 3) := by decide +kernel
theorem dX13_isLetter_8 : decode cX13_isLetter 8 = .ok (.ireturn, 1) := by decide +kernel
theorem dX13_isDigit_0 : decode cX13_isDigit 0 = .ok (.iload_n 0, 1) := by decide +kernel
theorem dX13_isDigit_1 : decode cX13_isDigit 1 = .ok (.bipush 48, 2) := by decide +kernel
theorem dX13_isDigit_3 : decode cX13_isDigit 3 = .ok (.bipush 57, 2) := by decide +kernel
theorem dX13_isDigit_5 : decode cX13_isDigit 5 = .ok (.invokestatic 68, 3) := by decide +kernel
theorem dX13_isDigit_8 : decode cX13_isDigit 8 = .ok (.ireturn, 1) := by decide +kernel
theorem dX13_byteAt_0 : decode cX13_byteAt 0 = .ok (.iload_n 1, 1) := by decide +kernel
theorem dX13_byteAt_1 : decode cX13_byteAt 1 = .ok (.aload_n 0, 1) := by decide +kernel
theorem dX13_byteAt_2 : decode cX13_byteAt 2 = .ok (.getfield 72, 3) := by decide +kernel
theorem dX13_byteAt_5 : decode cX13_byteAt 5 = .ok (.if_icmp .ge 12, 3) := by decide +kernel
theorem dX13_byteAt_8 : decode cX13_byteAt 8 = .ok (.aload_n 0, 1) := by decide +kernel
theorem dX13_byteAt_9 : decode cX13_byteAt 9 = .ok (.getfield 9, 3) := by decide +kernel
theorem dX13_byteAt_12 : decode cX13_byteAt 12 = .ok (.iload_n 1, 1) := by decide +kernel
theorem dX13_byteAt_13 : decode cX13_byteAt 13 = .ok (.iaload, 1) := by decide +kernel
theorem dX13_byteAt_14 : decode cX13_byteAt 14 = .ok (.goto 4, 3) := by decide +kernel
theorem dX13_byteAt_17 : decode cX13_byteAt 17 = .ok (.iconst (-1), 1) := by decide +kernel
theorem dX13_byteAt_18 : decode cX13_byteAt 18 = .ok (.ireturn, 1) := by decide +kernel
theorem dX13_isWord_0 : decode cX13_isWord 0 = .ok (.aload_n 3, 1) := by decide +kernel
theorem dX13_isWord_1 : decode cX13_isWord 1 = .ok (.invokevirtual 75, 3) := by decide +kernel
theorem dX13_isWord_4 : decode cX13_isWord 4 = .ok (.iload_n 2, 1) := by decide +kernel
theorem dX13_isWord_5 : decode cX13_isWord 5 = .ok (.if_icmp .eq 5, 3) := by decide +kernel
theorem dX13_isWord_8 : decode cX13_isWord 8 = .ok (.iconst 0, 1) := by decide +kernel
theorem dX13_isWord_9 : decode cX13_isWord 9 = .ok (.ireturn, 1) := by decide +kernel
theorem dX13_isWord_10 : decode cX13_isWord 10 = .ok (.iconst 0, 1) := by decide +kernel
theorem dX13_isWord_11 : decode cX13_isWord 11 = .ok (.istore 4, 2) := by decide +kernel
theorem dX13_isWord_13 : decode cX13_isWord 13 = .ok (.iload 4, 2) := by decide +kernel
theorem dX13_isWord_15 : decode cX13_isWord 15 = .ok (.iload_n 2, 1) := by decide +kernel
theorem dX13_isWord_16 : decode cX13_isWord 16 = .ok (.if_icmp .ge 29, 3) := by decide +kernel
theorem dX13_isWord_19 : decode cX13_isWord 19 = .ok (.aload_n 3, 1) := by decide +kernel
theorem dX13_isWord_20 : decode cX13_isWord 20 = .ok (.iload 4, 2) := by decide +kernel
theorem dX13_isWord_22 : decode cX13_isWord 22 = .ok (.invokevirtual 80, 3) := by decide +kernel
theorem dX13_isWord_25 : decode cX13_isWord 25 = .ok (.aload_n 0, 1) := by decide +kernel
theorem dX13_isWord_26 : decode cX13_isWord 26 = .ok (.getfield 9, 3) := by decide +kernel
theorem dX13_isWord_29 : decode cX13_isWord 29 = .ok (.iload_n 1, 1) := by decide +kernel
theorem dX13_isWord_30 : decode cX13_isWord 30 = .ok (.iload 4, 2) := by decide +kernel
theorem dX13_isWord_32 : decode cX13_isWord 32 = .ok (.iadd, 1) := by decide +kernel
theorem dX13_isWord_33 : decode cX13_isWord 33 = .ok (.iaload, 1) := by decide +kernel
theorem dX13_isWord_34 : decode cX13_isWord 34 = .ok (.if_icmp .eq 5, 3) := by decide +kernel
theorem dX13_isWord_37 : decode cX13_isWord 37 = .ok (.iconst 0, 1) := by decide +kernel
theorem dX13_isWord_38 : decode cX13_isWord 38 = .ok (.ireturn, 1) := by decide +kernel
theorem dX13_isWord_39 : decode cX13_isWord 39 = .ok (.iinc 4 1, 3) := by decide +kernel
theorem dX13_isWord_42 : decode cX13_isWord 42 = .ok (.goto (-29), 3) := by decide +kernel
theorem dX13_isWord_45 : decode cX13_isWord 45 = .ok (.iconst 1, 1) := by decide +kernel
theorem dX13_isWord_46 : decode cX13_isWord 46 = .ok (.ireturn, 1) := by decide +kernel
theorem dX13_keyword_0 : decode cX13_keyword 0 = .ok (.iconst 0, 1) := by decide +kernel
theorem dX13_keyword_1 : decode cX13_keyword 1 = .ok (.istore_n 3, 1) := by decide +kernel
theorem dX13_keyword_2 : decode cX13_keyword 2 = .ok (.iload_n 3, 1) := by decide +kernel
theorem dX13_keyword_3 : decode cX13_keyword 3 = .ok (.getstatic 84, 3) := by decide +kernel
theorem dX13_keyword_6 : decode cX13_keyword 6 = .ok (.arraylength, 1) := by decide +kernel
theorem dX13_keyword_7 : decode cX13_keyword 7 = .ok (.if_icmp .ge 25, 3) := by decide +kernel
theorem dX13_keyword_10 : decode cX13_keyword 10 = .ok (.aload_n 0, 1) := by decide +kernel
theorem dX13_keyword_11 : decode cX13_keyword 11 = .ok (.iload_n 1, 1) := by decide +kernel
theorem dX13_keyword_12 : decode cX13_keyword 12 = .ok (.iload_n 2, 1) := by decide +kernel
theorem dX13_keyword_13 : decode cX13_keyword 13 = .ok (.getstatic 84, 3) := by decide +kernel
theorem dX13_keyword_16 : decode cX13_keyword 16 = .ok (.iload_n 3, 1) := by decide +kernel
theorem dX13_keyword_17 : decode cX13_keyword 17 = .ok (.aaload, 1) := by decide +kernel
theorem dX13_keyword_18 : decode cX13_keyword 18 = .ok (.invokevirtual 88, 3) := by decide +kernel
theorem dX13_keyword_21 : decode cX13_keyword 21 = .ok (.ifCond .eq 5, 3) := by decide +kernel
theorem dX13_keyword_24 : decode cX13_keyword 24 = .ok (.iload_n 3, 1) := by decide +kernel
theorem dX13_keyword_25 : decode cX13_keyword 25 = .ok (.ireturn, 1) := by decide +kernel
theorem dX13_keyword_26 : decode cX13_keyword 26 = .ok (.iinc 3 1, 3) := by decide +kernel
theorem dX13_keyword_29 : decode cX13_keyword 29 = .ok (.goto (-27), 3) := by decide +kernel
theorem dX13_keyword_32 : decode cX13_keyword 32 = .ok (.iload_n 2, 1) := by decide +kernel
theorem dX13_keyword_33 : decode cX13_keyword 33 = .ok (.bipush 10, 2) := by decide +kernel
theorem dX13_keyword_35 : decode cX13_keyword 35 = .ok (.if_icmp .le 8, 3) := by decide +kernel
theorem dX13_keyword_38 : decode cX13_keyword 38 = .ok (.bipush 32, 2) := by decide +kernel
theorem dX13_keyword_40 : decode cX13_keyword 40 = .ok (.goto 5, 3) := by decide +kernel
theorem dX13_keyword_43 : decode cX13_keyword 43 = .ok (.bipush 30, 2) := by decide +kernel
theorem dX13_keyword_45 : decode cX13_keyword 45 = .ok (.ireturn, 1) := by decide +kernel
theorem dX13_symbol_0 : decode cX13_symbol 0 = .ok (.iload_n 0, 1) := by decide +kernel
theorem dX13_symbol_1 : decode cX13_symbol 1 = .ok (.tableswitch 270 40 93 #[231, 234, 255, 249, 246, 252, 270, 258, 270, 270, 270, 270, 270, 270, 270, 270, 270, 270, 270, 243, 261, 267, 264, 270, 270, 270, 270, 270, 270, 270, 270, 270, 270, 270, 270, 270, 270, 270, 270, 270, 270, 270, 270, 270, 270, 270, 270, 270, 270, 270, 270, 237, 270, 240], 231) := by decide +kernel
theorem dX13_symbol_232 : decode cX13_symbol 232 = .ok (.bipush 49, 2) := by decide +kernel
theorem dX13_symbol_234 : decode cX13_symbol 234 = .ok (.ireturn, 1) := by decide +kernel
theorem dX13_symbol_235 : decode cX13_symbol 235 = .ok (.bipush 50, 2) := by decide +kernel
theorem dX13_symbol_237 : decode cX13_symbol 237 = .ok (.ireturn, 1) := by decide +kernel
theorem dX13_symbol_238 : decode cX13_symbol 238 = .ok (.bipush 51, 2) := by decide +kernel
theorem dX13_symbol_240 : decode cX13_symbol 240 = .ok (.ireturn, 1) := by decide +kernel
theorem dX13_symbol_241 : decode cX13_symbol 241 = .ok (.bipush 52, 2) := by decide +kernel
theorem dX13_symbol_243 : decode cX13_symbol 243 = .ok (.ireturn, 1) := by decide +kernel
theorem dX13_symbol_244 : decode cX13_symbol 244 = .ok (.bipush 53, 2) := by decide +kernel
theorem dX13_symbol_246 : decode cX13_symbol 246 = .ok (.ireturn, 1) := by decide +kernel
theorem dX13_symbol_247 : decode cX13_symbol 247 = .ok (.bipush 54, 2) := by decide +kernel
theorem dX13_symbol_249 : decode cX13_symbol 249 = .ok (.ireturn, 1) := by decide +kernel
theorem dX13_symbol_250 : decode cX13_symbol 250 = .ok (.bipush 40, 2) := by decide +kernel
theorem dX13_symbol_252 : decode cX13_symbol 252 = .ok (.ireturn, 1) := by decide +kernel
theorem dX13_symbol_253 : decode cX13_symbol 253 = .ok (.bipush 41, 2) := by decide +kernel
theorem dX13_symbol_255 : decode cX13_symbol 255 = .ok (.ireturn, 1) := by decide +kernel
theorem dX13_symbol_256 : decode cX13_symbol 256 = .ok (.bipush 42, 2) := by decide +kernel
theorem dX13_symbol_258 : decode cX13_symbol 258 = .ok (.ireturn, 1) := by decide +kernel
theorem dX13_symbol_259 : decode cX13_symbol 259 = .ok (.bipush 43, 2) := by decide +kernel
theorem dX13_symbol_261 : decode cX13_symbol 261 = .ok (.ireturn, 1) := by decide +kernel
theorem dX13_symbol_262 : decode cX13_symbol 262 = .ok (.bipush 44, 2) := by decide +kernel
theorem dX13_symbol_264 : decode cX13_symbol 264 = .ok (.ireturn, 1) := by decide +kernel
theorem dX13_symbol_265 : decode cX13_symbol 265 = .ok (.bipush 45, 2) := by decide +kernel
theorem dX13_symbol_267 : decode cX13_symbol 267 = .ok (.ireturn, 1) := by decide +kernel
theorem dX13_symbol_268 : decode cX13_symbol 268 = .ok (.bipush 46, 2) := by decide +kernel
theorem dX13_symbol_270 : decode cX13_symbol 270 = .ok (.ireturn, 1) := by decide +kernel
theorem dX13_symbol_271 : decode cX13_symbol 271 = .ok (.bipush 32, 2) := by decide +kernel
theorem dX13_symbol_273 : decode cX13_symbol 273 = .ok (.ireturn, 1) := by decide +kernel
theorem dX13_read_0 : decode cX13_read 0 = .ok (.aload_n 0, 1) := by decide +kernel
theorem dX13_read_1 : decode cX13_read 1 = .ok (.getfield 9, 3) := by decide +kernel
theorem dX13_read_4 : decode cX13_read 4 = .ok (.iload_n 1, 1) := by decide +kernel
theorem dX13_read_5 : decode cX13_read 5 = .ok (.iaload, 1) := by decide +kernel
theorem dX13_read_6 : decode cX13_read 6 = .ok (.istore_n 3, 1) := by decide +kernel
theorem dX13_read_7 : decode cX13_read 7 = .ok (.iload_n 1, 1) := by decide +kernel
theorem dX13_read_8 : decode cX13_read 8 = .ok (.iconst 1, 1) := by decide +kernel
theorem dX13_read_9 : decode cX13_read 9 = .ok (.iadd, 1) := by decide +kernel
theorem dX13_read_10 : decode cX13_read 10 = .ok (.istore 4, 2) := by decide +kernel
theorem dX13_read_12 : decode cX13_read 12 = .ok (.aload_n 0, 1) := by decide +kernel
theorem dX13_read_13 : decode cX13_read 13 = .ok (.getfield 23, 3) := by decide +kernel
theorem dX13_read_16 : decode cX13_read 16 = .ok (.iload_n 2, 1) := by decide +kernel
theorem dX13_read_17 : decode cX13_read 17 = .ok (.iload_n 1, 1) := by decide +kernel
theorem dX13_read_18 : decode cX13_read 18 = .ok (.iastore, 1) := by decide +kernel
theorem dX13_read_19 : decode cX13_read 19 = .ok (.iload_n 3, 1) := by decide +kernel
theorem dX13_read_20 : decode cX13_read 20 = .ok (.invokestatic 92, 3) := by decide +kernel
theorem dX13_read_23 : decode cX13_read 23 = .ok (.ifCond .eq 51, 3) := by decide +kernel
theorem dX13_read_26 : decode cX13_read 26 = .ok (.aload_n 0, 1) := by decide +kernel
theorem dX13_read_27 : decode cX13_read 27 = .ok (.iload 4, 2) := by decide +kernel
theorem dX13_read_29 : decode cX13_read 29 = .ok (.invokevirtual 96, 3) := by decide +kernel
theorem dX13_read_32 : decode cX13_read 32 = .ok (.invokestatic 92, 3) := by decide +kernel
theorem dX13_read_35 : decode cX13_read 35 = .ok (.ifCond .ne 15, 3) := by decide +kernel
theorem dX13_read_38 : decode cX13_read 38 = .ok (.aload_n 0, 1) := by decide +kernel
theorem dX13_read_39 : decode cX13_read 39 = .ok (.iload 4, 2) := by decide +kernel
theorem dX13_read_41 : decode cX13_read 41 = .ok (.invokevirtual 96, 3) := by decide +kernel
theorem dX13_read_44 : decode cX13_read 44 = .ok (.invokestatic 100, 3) := by decide +kernel
theorem dX13_read_47 : decode cX13_read 47 = .ok (.ifCond .eq 9, 3) := by decide +kernel
theorem dX13_read_50 : decode cX13_read 50 = .ok (.iinc 4 1, 3) := by decide +kernel
theorem dX13_read_53 : decode cX13_read 53 = .ok (.goto (-27), 3) := by decide +kernel
theorem dX13_read_56 : decode cX13_read 56 = .ok (.aload_n 0, 1) := by decide +kernel
theorem dX13_read_57 : decode cX13_read 57 = .ok (.getfield 17, 3) := by decide +kernel
theorem dX13_read_60 : decode cX13_read 60 = .ok (.iload_n 2, 1) := by decide +kernel
theorem dX13_read_61 : decode cX13_read 61 = .ok (.aload_n 0, 1) := by decide +kernel
theorem dX13_read_62 : decode cX13_read 62 = .ok (.iload_n 1, 1) := by decide +kernel
theorem dX13_read_63 : decode cX13_read 63 = .ok (.iload 4, 2) := by decide +kernel
theorem dX13_read_65 : decode cX13_read 65 = .ok (.iload_n 1, 1) := by decide +kernel
theorem dX13_read_66 : decode cX13_read 66 = .ok (.isub, 1) := by decide +kernel
theorem dX13_read_67 : decode cX13_read 67 = .ok (.invokevirtual 103, 3) := by decide +kernel
theorem dX13_read_70 : decode cX13_read 70 = .ok (.iastore, 1) := by decide +kernel
theorem dX13_read_71 : decode cX13_read 71 = .ok (.goto 168, 3) := by decide +kernel
theorem dX13_read_74 : decode cX13_read 74 = .ok (.iload_n 3, 1) := by decide +kernel
theorem dX13_read_75 : decode cX13_read 75 = .ok (.invokestatic 100, 3) := by decide +kernel
theorem dX13_read_78 : decode cX13_read 78 = .ok (.ifCond .eq 91, 3) := by decide +kernel
theorem dX13_read_81 : decode cX13_read 81 = .ok (.iload_n 3, 1) := by decide +kernel
theorem dX13_read_82 : decode cX13_read 82 = .ok (.bipush 48, 2) := by decide +kernel
theorem dX13_read_84 : decode cX13_read 84 = .ok (.isub, 1) := by decide +kernel
theorem dX13_read_85 : decode cX13_read 85 = .ok (.istore 5, 2) := by decide +kernel
theorem dX13_read_87 : decode cX13_read 87 = .ok (.aload_n 0, 1) := by decide +kernel
theorem dX13_read_88 : decode cX13_read 88 = .ok (.iload 4, 2) := by decide +kernel
theorem dX13_read_90 : decode cX13_read 90 = .ok (.invokevirtual 96, 3) := by decide +kernel
theorem dX13_read_93 : decode cX13_read 93 = .ok (.invokestatic 100, 3) := by decide +kernel
theorem dX13_read_96 : decode cX13_read 96 = .ok (.ifCond .eq 40, 3) := by decide +kernel
theorem dX13_read_99 : decode cX13_read 99 = .ok (.iload 4, 2) := by decide +kernel
theorem dX13_read_101 : decode cX13_read 101 = .ok (.iload_n 1, 1) := by decide +kernel
theorem dX13_read_102 : decode cX13_read 102 = .ok (.isub, 1) := by decide +kernel
theorem dX13_read_103 : decode cX13_read 103 = .ok (.bipush 7, 2) := by decide +kernel
theorem dX13_read_105 : decode cX13_read 105 = .ok (.if_icmp .ge 21, 3) := by decide +kernel
theorem dX13_read_108 : decode cX13_read 108 = .ok (.bipush 10, 2) := by decide +kernel
theorem dX13_read_110 : decode cX13_read 110 = .ok (.iload 5, 2) := by decide +kernel
theorem dX13_read_112 : decode cX13_read 112 = .ok (.imul, 1) := by decide +kernel
theorem dX13_read_113 : decode cX13_read 113 = .ok (.aload_n 0, 1) := by decide +kernel
theorem dX13_read_114 : decode cX13_read 114 = .ok (.iload 4, 2) := by decide +kernel
theorem dX13_read_116 : decode cX13_read 116 = .ok (.invokevirtual 96, 3) := by decide +kernel
theorem dX13_read_119 : decode cX13_read 119 = .ok (.iadd, 1) := by decide +kernel
theorem dX13_read_120 : decode cX13_read 120 = .ok (.bipush 48, 2) := by decide +kernel
theorem dX13_read_122 : decode cX13_read 122 = .ok (.isub, 1) := by decide +kernel
theorem dX13_read_123 : decode cX13_read 123 = .ok (.goto 5, 3) := by decide +kernel
theorem dX13_read_126 : decode cX13_read 126 = .ok (.iload 5, 2) := by decide +kernel
theorem dX13_read_128 : decode cX13_read 128 = .ok (.istore 5, 2) := by decide +kernel
theorem dX13_read_130 : decode cX13_read 130 = .ok (.iinc 4 1, 3) := by decide +kernel
theorem dX13_read_133 : decode cX13_read 133 = .ok (.goto (-46), 3) := by decide +kernel
theorem dX13_read_136 : decode cX13_read 136 = .ok (.aload_n 0, 1) := by decide +kernel
theorem dX13_read_137 : decode cX13_read 137 = .ok (.getfield 20, 3) := by decide +kernel
theorem dX13_read_140 : decode cX13_read 140 = .ok (.iload_n 2, 1) := by decide +kernel
theorem dX13_read_141 : decode cX13_read 141 = .ok (.iload 5, 2) := by decide +kernel
theorem dX13_read_143 : decode cX13_read 143 = .ok (.iastore, 1) := by decide +kernel
theorem dX13_read_144 : decode cX13_read 144 = .ok (.aload_n 0, 1) := by decide +kernel
theorem dX13_read_145 : decode cX13_read 145 = .ok (.getfield 17, 3) := by decide +kernel
theorem dX13_read_148 : decode cX13_read 148 = .ok (.iload_n 2, 1) := by decide +kernel
theorem dX13_read_149 : decode cX13_read 149 = .ok (.iload 4, 2) := by decide +kernel
theorem dX13_read_151 : decode cX13_read 151 = .ok (.iload_n 1, 1) := by decide +kernel
theorem dX13_read_152 : decode cX13_read 152 = .ok (.isub, 1) := by decide +kernel
theorem dX13_read_153 : decode cX13_read 153 = .ok (.bipush 6, 2) := by decide +kernel
theorem dX13_read_155 : decode cX13_read 155 = .ok (.if_icmp .le 8, 3) := by decide +kernel
theorem dX13_read_158 : decode cX13_read 158 = .ok (.bipush 32, 2) := by decide +kernel
theorem dX13_read_160 : decode cX13_read 160 = .ok (.goto 5, 3) := by decide +kernel
theorem dX13_read_163 : decode cX13_read 163 = .ok (.bipush 31, 2) := by decide +kernel
theorem dX13_read_165 : decode cX13_read 165 = .ok (.iastore, 1) := by decide +kernel
theorem dX13_read_166 : decode cX13_read 166 = .ok (.goto 73, 3) := by decide +kernel
theorem dX13_read_169 : decode cX13_read 169 = .ok (.aload_n 0, 1) := by decide +kernel
theorem dX13_read_170 : decode cX13_read 170 = .ok (.getfield 17, 3) := by decide +kernel
theorem dX13_read_173 : decode cX13_read 173 = .ok (.iload_n 2, 1) := by decide +kernel
theorem dX13_read_174 : decode cX13_read 174 = .ok (.iload_n 3, 1) := by decide +kernel
theorem dX13_read_175 : decode cX13_read 175 = .ok (.invokestatic 107, 3) := by decide +kernel
theorem dX13_read_178 : decode cX13_read 178 = .ok (.iastore, 1) := by decide +kernel
theorem dX13_read_179 : decode cX13_read 179 = .ok (.aload_n 0, 1) := by decide +kernel
theorem dX13_read_180 : decode cX13_read 180 = .ok (.getfield 17, 3) := by decide +kernel
theorem dX13_read_183 : decode cX13_read 183 = .ok (.iload_n 2, 1) := by decide +kernel
theorem dX13_read_184 : decode cX13_read 184 = .ok (.iaload, 1) := by decide +kernel
theorem dX13_read_185 : decode cX13_read 185 = .ok (.bipush 44, 2) := by decide +kernel
theorem dX13_read_187 : decode cX13_read 187 = .ok (.if_icmp .eq 14, 3) := by decide +kernel
theorem dX13_read_190 : decode cX13_read 190 = .ok (.aload_n 0, 1) := by decide +kernel
theorem dX13_read_191 : decode cX13_read 191 = .ok (.getfield 17, 3) := by decide +kernel
theorem dX13_read_194 : decode cX13_read 194 = .ok (.iload_n 2, 1) := by decide +kernel
theorem dX13_read_195 : decode cX13_read 195 = .ok (.iaload, 1) := by decide +kernel
theorem dX13_read_196 : decode cX13_read 196 = .ok (.bipush 45, 2) := by decide +kernel
theorem dX13_read_198 : decode cX13_read 198 = .ok (.if_icmp .ne 41, 3) := by decide +kernel
theorem dX13_read_201 : decode cX13_read 201 = .ok (.aload_n 0, 1) := by decide +kernel
theorem dX13_read_202 : decode cX13_read 202 = .ok (.iload 4, 2) := by decide +kernel
theorem dX13_read_204 : decode cX13_read 204 = .ok (.invokevirtual 96, 3) := by decide +kernel
theorem dX13_read_207 : decode cX13_read 207 = .ok (.bipush 61, 2) := by decide +kernel
theorem dX13_read_209 : decode cX13_read 209 = .ok (.if_icmp .ne 30, 3) := by decide +kernel
theorem dX13_read_212 : decode cX13_read 212 = .ok (.aload_n 0, 1) := by decide +kernel
theorem dX13_read_213 : decode cX13_read 213 = .ok (.getfield 17, 3) := by decide +kernel
theorem dX13_read_216 : decode cX13_read 216 = .ok (.iload_n 2, 1) := by decide +kernel
theorem dX13_read_217 : decode cX13_read 217 = .ok (.aload_n 0, 1) := by decide +kernel
theorem dX13_read_218 : decode cX13_read 218 = .ok (.getfield 17, 3) := by decide +kernel
theorem dX13_read_221 : decode cX13_read 221 = .ok (.iload_n 2, 1) := by decide +kernel
theorem dX13_read_222 : decode cX13_read 222 = .ok (.iaload, 1) := by decide +kernel
theorem dX13_read_223 : decode cX13_read 223 = .ok (.bipush 44, 2) := by decide +kernel
theorem dX13_read_225 : decode cX13_read 225 = .ok (.if_icmp .ne 8, 3) := by decide +kernel
theorem dX13_read_228 : decode cX13_read 228 = .ok (.bipush 47, 2) := by decide +kernel
theorem dX13_read_230 : decode cX13_read 230 = .ok (.goto 5, 3) := by decide +kernel
theorem dX13_read_233 : decode cX13_read 233 = .ok (.bipush 48, 2) := by decide +kernel
theorem dX13_read_235 : decode cX13_read 235 = .ok (.iastore, 1) := by decide +kernel
theorem dX13_read_236 : decode cX13_read 236 = .ok (.iinc 4 1, 3) := by decide +kernel
theorem dX13_read_239 : decode cX13_read 239 = .ok (.aload_n 0, 1) := by decide +kernel
theorem dX13_read_240 : decode cX13_read 240 = .ok (.getfield 26, 3) := by decide +kernel
theorem dX13_read_243 : decode cX13_read 243 = .ok (.iload_n 2, 1) := by decide +kernel
theorem dX13_read_244 : decode cX13_read 244 = .ok (.iload 4, 2) := by decide +kernel
theorem dX13_read_246 : decode cX13_read 246 = .ok (.iload_n 1, 1) := by decide +kernel
theorem dX13_read_247 : decode cX13_read 247 = .ok (.isub, 1) := by decide +kernel
theorem dX13_read_248 : decode cX13_read 248 = .ok (.iastore, 1) := by decide +kernel
theorem dX13_read_249 : decode cX13_read 249 = .ok (.iload 4, 2) := by decide +kernel
theorem dX13_read_251 : decode cX13_read 251 = .ok (.ireturn, 1) := by decide +kernel
theorem dX13_skip_0 : decode cX13_skip 0 = .ok (.iload_n 1, 1) := by decide +kernel
theorem dX13_skip_1 : decode cX13_skip 1 = .ok (.istore_n 2, 1) := by decide +kernel
theorem dX13_skip_2 : decode cX13_skip 2 = .ok (.aload_n 0, 1) := by decide +kernel
theorem dX13_skip_3 : decode cX13_skip 3 = .ok (.iload_n 2, 1) := by decide +kernel
theorem dX13_skip_4 : decode cX13_skip 4 = .ok (.invokevirtual 96, 3) := by decide +kernel
theorem dX13_skip_7 : decode cX13_skip 7 = .ok (.bipush 32, 2) := by decide +kernel
theorem dX13_skip_9 : decode cX13_skip 9 = .ok (.if_icmp .eq 13, 3) := by decide +kernel
theorem dX13_skip_12 : decode cX13_skip 12 = .ok (.aload_n 0, 1) := by decide +kernel
theorem dX13_skip_13 : decode cX13_skip 13 = .ok (.iload_n 2, 1) := by decide +kernel
theorem dX13_skip_14 : decode cX13_skip 14 = .ok (.invokevirtual 96, 3) := by decide +kernel
theorem dX13_skip_17 : decode cX13_skip 17 = .ok (.bipush 10, 2) := by decide +kernel
theorem dX13_skip_19 : decode cX13_skip 19 = .ok (.if_icmp .ne 9, 3) := by decide +kernel
theorem dX13_skip_22 : decode cX13_skip 22 = .ok (.iinc 2 1, 3) := by decide +kernel
theorem dX13_skip_25 : decode cX13_skip 25 = .ok (.goto (-23), 3) := by decide +kernel
theorem dX13_skip_28 : decode cX13_skip 28 = .ok (.iload_n 2, 1) := by decide +kernel
theorem dX13_skip_29 : decode cX13_skip 29 = .ok (.ireturn, 1) := by decide +kernel
theorem dX13_readAll_0 : decode cX13_readAll 0 = .ok (.aload_n 0, 1) := by decide +kernel
theorem dX13_readAll_1 : decode cX13_readAll 1 = .ok (.iconst 0, 1) := by decide +kernel
theorem dX13_readAll_2 : decode cX13_readAll 2 = .ok (.invokevirtual 110, 3) := by decide +kernel
theorem dX13_readAll_5 : decode cX13_readAll 5 = .ok (.istore_n 1, 1) := by decide +kernel
theorem dX13_readAll_6 : decode cX13_readAll 6 = .ok (.iconst 0, 1) := by decide +kernel
theorem dX13_readAll_7 : decode cX13_readAll 7 = .ok (.istore_n 2, 1) := by decide +kernel
theorem dX13_readAll_8 : decode cX13_readAll 8 = .ok (.iload_n 1, 1) := by decide +kernel
theorem dX13_readAll_9 : decode cX13_readAll 9 = .ok (.aload_n 0, 1) := by decide +kernel
theorem dX13_readAll_10 : decode cX13_readAll 10 = .ok (.getfield 72, 3) := by decide +kernel
theorem dX13_readAll_13 : decode cX13_readAll 13 = .ok (.if_icmp .ge 52, 3) := by decide +kernel
theorem dX13_readAll_16 : decode cX13_readAll 16 = .ok (.iload_n 2, 1) := by decide +kernel
theorem dX13_readAll_17 : decode cX13_readAll 17 = .ok (.ifCond .eq 16, 3) := by decide +kernel
theorem dX13_readAll_20 : decode cX13_readAll 20 = .ok (.aload_n 0, 1) := by decide +kernel
theorem dX13_readAll_21 : decode cX13_readAll 21 = .ok (.getfield 17, 3) := by decide +kernel
theorem dX13_readAll_24 : decode cX13_readAll 24 = .ok (.iload_n 2, 1) := by decide +kernel
theorem dX13_readAll_25 : decode cX13_readAll 25 = .ok (.iconst 1, 1) := by decide +kernel
theorem dX13_readAll_26 : decode cX13_readAll 26 = .ok (.isub, 1) := by decide +kernel
theorem dX13_readAll_27 : decode cX13_readAll 27 = .ok (.iaload, 1) := by decide +kernel
theorem dX13_readAll_28 : decode cX13_readAll 28 = .ok (.bipush 32, 2) := by decide +kernel
theorem dX13_readAll_30 : decode cX13_readAll 30 = .ok (.if_icmp .eq 35, 3) := by decide +kernel
theorem dX13_readAll_33 : decode cX13_readAll 33 = .ok (.aload_n 0, 1) := by decide +kernel
theorem dX13_readAll_34 : decode cX13_readAll 34 = .ok (.aload_n 0, 1) := by decide +kernel
theorem dX13_readAll_35 : decode cX13_readAll 35 = .ok (.iload_n 1, 1) := by decide +kernel
theorem dX13_readAll_36 : decode cX13_readAll 36 = .ok (.iload_n 2, 1) := by decide +kernel
theorem dX13_readAll_37 : decode cX13_readAll 37 = .ok (.invokevirtual 113, 3) := by decide +kernel
theorem dX13_readAll_40 : decode cX13_readAll 40 = .ok (.invokevirtual 110, 3) := by decide +kernel
theorem dX13_readAll_43 : decode cX13_readAll 43 = .ok (.istore_n 1, 1) := by decide +kernel
theorem dX13_readAll_44 : decode cX13_readAll 44 = .ok (.iload_n 2, 1) := by decide +kernel
theorem dX13_readAll_45 : decode cX13_readAll 45 = .ok (.sipush 400, 3) := by decide +kernel
theorem dX13_readAll_48 : decode cX13_readAll 48 = .ok (.if_icmp .ne 11, 3) := by decide +kernel
theorem dX13_readAll_51 : decode cX13_readAll 51 = .ok (.aload_n 0, 1) := by decide +kernel
theorem dX13_readAll_52 : decode cX13_readAll 52 = .ok (.getfield 17, 3) := by decide +kernel
theorem dX13_readAll_55 : decode cX13_readAll 55 = .ok (.iload_n 2, 1) := by decide +kernel
theorem dX13_readAll_56 : decode cX13_readAll 56 = .ok (.bipush 32, 2) := by decide +kernel
theorem dX13_readAll_58 : decode cX13_readAll 58 = .ok (.iastore, 1) := by decide +kernel
theorem dX13_readAll_59 : decode cX13_readAll 59 = .ok (.iinc 2 1, 3) := by decide +kernel
theorem dX13_readAll_62 : decode cX13_readAll 62 = .ok (.goto (-54), 3) := by decide +kernel
theorem dX13_readAll_65 : decode cX13_readAll 65 = .ok (.aload_n 0, 1) := by decide +kernel
theorem dX13_readAll_66 : decode cX13_readAll 66 = .ok (.getfield 17, 3) := by decide +kernel
theorem dX13_readAll_69 : decode cX13_readAll 69 = .ok (.iload_n 2, 1) := by decide +kernel
theorem dX13_readAll_70 : decode cX13_readAll 70 = .ok (.bipush 33, 2) := by decide +kernel
theorem dX13_readAll_72 : decode cX13_readAll 72 = .ok (.iastore, 1) := by decide +kernel
theorem dX13_readAll_73 : decode cX13_readAll 73 = .ok (.aload_n 0, 1) := by decide +kernel
theorem dX13_readAll_74 : decode cX13_readAll 74 = .ok (.getfield 23, 3) := by decide +kernel
theorem dX13_readAll_77 : decode cX13_readAll 77 = .ok (.iload_n 2, 1) := by decide +kernel
theorem dX13_readAll_78 : decode cX13_readAll 78 = .ok (.aload_n 0, 1) := by decide +kernel
theorem dX13_readAll_79 : decode cX13_readAll 79 = .ok (.getfield 72, 3) := by decide +kernel
theorem dX13_readAll_82 : decode cX13_readAll 82 = .ok (.iastore, 1) := by decide +kernel
theorem dX13_readAll_83 : decode cX13_readAll 83 = .ok (.return_, 1) := by decide +kernel
theorem dX13_is_0 : decode cX13_is 0 = .ok (.aload_n 0, 1) := by decide +kernel
theorem dX13_is_1 : decode cX13_is 1 = .ok (.getfield 116, 3) := by decide +kernel
theorem dX13_is_4 : decode cX13_is 4 = .ok (.ifCond .ne 20, 3) := by decide +kernel
theorem dX13_is_7 : decode cX13_is 7 = .ok (.aload_n 0, 1) := by decide +kernel
theorem dX13_is_8 : decode cX13_is 8 = .ok (.getfield 17, 3) := by decide +kernel
theorem dX13_is_11 : decode cX13_is 11 = .ok (.aload_n 0, 1) := by decide +kernel
theorem dX13_is_12 : decode cX13_is 12 = .ok (.getfield 120, 3) := by decide +kernel
theorem dX13_is_15 : decode cX13_is 15 = .ok (.iaload, 1) := by decide +kernel
theorem dX13_is_16 : decode cX13_is 16 = .ok (.iload_n 1, 1) := by decide +kernel
theorem dX13_is_17 : decode cX13_is 17 = .ok (.if_icmp .ne 7, 3) := by decide +kernel
theorem dX13_is_20 : decode cX13_is 20 = .ok (.iconst 1, 1) := by decide +kernel
theorem dX13_is_21 : decode cX13_is 21 = .ok (.goto 4, 3) := by decide +kernel
theorem dX13_is_24 : decode cX13_is 24 = .ok (.iconst 0, 1) := by decide +kernel
theorem dX13_is_25 : decode cX13_is 25 = .ok (.ireturn, 1) := by decide +kernel
theorem dX13_wrong_0 : decode cX13_wrong 0 = .ok (.aload_n 0, 1) := by decide +kernel
theorem dX13_wrong_1 : decode cX13_wrong 1 = .ok (.getfield 116, 3) := by decide +kernel
theorem dX13_wrong_4 : decode cX13_wrong 4 = .ok (.ifCond .eq 4, 3) := by decide +kernel
theorem dX13_wrong_7 : decode cX13_wrong 7 = .ok (.return_, 1) := by decide +kernel
theorem dX13_wrong_8 : decode cX13_wrong 8 = .ok (.aload_n 0, 1) := by decide +kernel
theorem dX13_wrong_9 : decode cX13_wrong 9 = .ok (.iconst 1, 1) := by decide +kernel
theorem dX13_wrong_10 : decode cX13_wrong 10 = .ok (.putfield 116, 3) := by decide +kernel
theorem dX13_wrong_13 : decode cX13_wrong 13 = .ok (.aload_n 0, 1) := by decide +kernel
theorem dX13_wrong_14 : decode cX13_wrong 14 = .ok (.iconst 1, 1) := by decide +kernel
theorem dX13_wrong_15 : decode cX13_wrong 15 = .ok (.putfield 123, 3) := by decide +kernel
theorem dX13_wrong_18 : decode cX13_wrong 18 = .ok (.aload_n 0, 1) := by decide +kernel
theorem dX13_wrong_19 : decode cX13_wrong 19 = .ok (.aload_n 0, 1) := by decide +kernel
theorem dX13_wrong_20 : decode cX13_wrong 20 = .ok (.getfield 120, 3) := by decide +kernel
theorem dX13_wrong_23 : decode cX13_wrong 23 = .ok (.putfield 126, 3) := by decide +kernel
theorem dX13_wrong_26 : decode cX13_wrong 26 = .ok (.return_, 1) := by decide +kernel
theorem dX13_take_0 : decode cX13_take 0 = .ok (.aload_n 0, 1) := by decide +kernel
theorem dX13_take_1 : decode cX13_take 1 = .ok (.iload_n 1, 1) := by decide +kernel
theorem dX13_take_2 : decode cX13_take 2 = .ok (.invokevirtual 129, 3) := by decide +kernel
theorem dX13_take_5 : decode cX13_take 5 = .ok (.ifCond .eq 16, 3) := by decide +kernel
theorem dX13_take_8 : decode cX13_take 8 = .ok (.aload_n 0, 1) := by decide +kernel
theorem dX13_take_9 : decode cX13_take 9 = .ok (.dup, 1) := by decide +kernel
theorem dX13_take_10 : decode cX13_take 10 = .ok (.getfield 120, 3) := by decide +kernel
theorem dX13_take_13 : decode cX13_take 13 = .ok (.iconst 1, 1) := by decide +kernel
theorem dX13_take_14 : decode cX13_take 14 = .ok (.iadd, 1) := by decide +kernel
theorem dX13_take_15 : decode cX13_take 15 = .ok (.putfield 120, 3) := by decide +kernel
theorem dX13_take_18 : decode cX13_take 18 = .ok (.goto 7, 3) := by decide +kernel
theorem dX13_take_21 : decode cX13_take 21 = .ok (.aload_n 0, 1) := by decide +kernel
theorem dX13_take_22 : decode cX13_take 22 = .ok (.invokevirtual 132, 3) := by decide +kernel
theorem dX13_take_25 : decode cX13_take 25 = .ok (.return_, 1) := by decide +kernel
theorem dX13_takes_0 : decode cX13_takes 0 = .ok (.aload_n 0, 1) := by decide +kernel
theorem dX13_takes_1 : decode cX13_takes 1 = .ok (.iload_n 1, 1) := by decide +kernel
theorem dX13_takes_2 : decode cX13_takes 2 = .ok (.invokevirtual 129, 3) := by decide +kernel
theorem dX13_takes_5 : decode cX13_takes 5 = .ok (.ifCond .ne 5, 3) := by decide +kernel
theorem dX13_takes_8 : decode cX13_takes 8 = .ok (.iconst 0, 1) := by decide +kernel
theorem dX13_takes_9 : decode cX13_takes 9 = .ok (.ireturn, 1) := by decide +kernel
theorem dX13_takes_10 : decode cX13_takes 10 = .ok (.aload_n 0, 1) := by decide +kernel
theorem dX13_takes_11 : decode cX13_takes 11 = .ok (.dup, 1) := by decide +kernel
theorem dX13_takes_12 : decode cX13_takes 12 = .ok (.getfield 120, 3) := by decide +kernel
theorem dX13_takes_15 : decode cX13_takes 15 = .ok (.iconst 1, 1) := by decide +kernel
theorem dX13_takes_16 : decode cX13_takes 16 = .ok (.iadd, 1) := by decide +kernel
theorem dX13_takes_17 : decode cX13_takes 17 = .ok (.putfield 120, 3) := by decide +kernel
theorem dX13_takes_20 : decode cX13_takes 20 = .ok (.iconst 1, 1) := by decide +kernel
theorem dX13_takes_21 : decode cX13_takes 21 = .ok (.ireturn, 1) := by decide +kernel
theorem dX13_deeper_0 : decode cX13_deeper 0 = .ok (.aload_n 0, 1) := by decide +kernel
theorem dX13_deeper_1 : decode cX13_deeper 1 = .ok (.getfield 135, 3) := by decide +kernel
theorem dX13_deeper_4 : decode cX13_deeper 4 = .ok (.bipush 8, 2) := by decide +kernel
theorem dX13_deeper_6 : decode cX13_deeper 6 = .ok (.if_icmp .ne 10, 3) := by decide +kernel
theorem dX13_deeper_9 : decode cX13_deeper 9 = .ok (.aload_n 0, 1) := by decide +kernel
theorem dX13_deeper_10 : decode cX13_deeper 10 = .ok (.invokevirtual 132, 3) := by decide +kernel
theorem dX13_deeper_13 : decode cX13_deeper 13 = .ok (.goto 13, 3) := by decide +kernel
theorem dX13_deeper_16 : decode cX13_deeper 16 = .ok (.aload_n 0, 1) := by decide +kernel
theorem dX13_deeper_17 : decode cX13_deeper 17 = .ok (.dup, 1) := by decide +kernel
theorem dX13_deeper_18 : decode cX13_deeper 18 = .ok (.getfield 120, 3) := by decide +kernel
theorem dX13_deeper_21 : decode cX13_deeper 21 = .ok (.iconst 1, 1) := by decide +kernel
theorem dX13_deeper_22 : decode cX13_deeper 22 = .ok (.iadd, 1) := by decide +kernel
theorem dX13_deeper_23 : decode cX13_deeper 23 = .ok (.putfield 120, 3) := by decide +kernel
theorem dX13_deeper_26 : decode cX13_deeper 26 = .ok (.aload_n 0, 1) := by decide +kernel
theorem dX13_deeper_27 : decode cX13_deeper 27 = .ok (.dup, 1) := by decide +kernel
theorem dX13_deeper_28 : decode cX13_deeper 28 = .ok (.getfield 135, 3) := by decide +kernel
theorem dX13_deeper_31 : decode cX13_deeper 31 = .ok (.iconst 1, 1) := by decide +kernel
theorem dX13_deeper_32 : decode cX13_deeper 32 = .ok (.iadd, 1) := by decide +kernel
theorem dX13_deeper_33 : decode cX13_deeper 33 = .ok (.putfield 135, 3) := by decide +kernel
theorem dX13_deeper_36 : decode cX13_deeper 36 = .ok (.return_, 1) := by decide +kernel
theorem dX13_mark_0 : decode cX13_mark 0 = .ok (.aload_n 0, 1) := by decide +kernel
theorem dX13_mark_1 : decode cX13_mark 1 = .ok (.getfield 116, 3) := by decide +kernel
theorem dX13_mark_4 : decode cX13_mark 4 = .ok (.ifCond .ne 10, 3) := by decide +kernel
theorem dX13_mark_7 : decode cX13_mark 7 = .ok (.aload_n 0, 1) := by decide +kernel
theorem dX13_mark_8 : decode cX13_mark 8 = .ok (.getfield 123, 3) := by decide +kernel
theorem dX13_mark_11 : decode cX13_mark 11 = .ok (.ifCond .eq 4, 3) := by decide +kernel
theorem dX13_mark_14 : decode cX13_mark 14 = .ok (.return_, 1) := by decide +kernel
theorem dX13_mark_15 : decode cX13_mark 15 = .ok (.aload_n 0, 1) := by decide +kernel
theorem dX13_mark_16 : decode cX13_mark 16 = .ok (.iload_n 1, 1) := by decide +kernel
theorem dX13_mark_17 : decode cX13_mark 17 = .ok (.putfield 123, 3) := by decide +kernel
theorem dX13_mark_20 : decode cX13_mark 20 = .ok (.aload_n 0, 1) := by decide +kernel
theorem dX13_mark_21 : decode cX13_mark 21 = .ok (.aload_n 0, 1) := by decide +kernel
theorem dX13_mark_22 : decode cX13_mark 22 = .ok (.getfield 120, 3) := by decide +kernel
theorem dX13_mark_25 : decode cX13_mark 25 = .ok (.putfield 126, 3) := by decide +kernel
theorem dX13_mark_28 : decode cX13_mark 28 = .ok (.return_, 1) := by decide +kernel
theorem dX13_node_0 : decode cX13_node 0 = .ok (.aload_n 0, 1) := by decide +kernel
theorem dX13_node_1 : decode cX13_node 1 = .ok (.getfield 39, 3) := by decide +kernel
theorem dX13_node_4 : decode cX13_node 4 = .ok (.getfield 138, 3) := by decide +kernel
theorem dX13_node_7 : decode cX13_node 7 = .ok (.istore 4, 2) := by decide +kernel
theorem dX13_node_9 : decode cX13_node 9 = .ok (.aload_n 0, 1) := by decide +kernel
theorem dX13_node_10 : decode cX13_node 10 = .ok (.getfield 39, 3) := by decide +kernel
theorem dX13_node_13 : decode cX13_node 13 = .ok (.getfield 141, 3) := by decide +kernel
theorem dX13_node_16 : decode cX13_node 16 = .ok (.iload 4, 2) := by decide +kernel
theorem dX13_node_18 : decode cX13_node 18 = .ok (.iload_n 1, 1) := by decide +kernel
theorem dX13_node_19 : decode cX13_node 19 = .ok (.iastore, 1) := by decide +kernel
theorem dX13_node_20 : decode cX13_node 20 = .ok (.aload_n 0, 1) := by decide +kernel
theorem dX13_node_21 : decode cX13_node 21 = .ok (.getfield 39, 3) := by decide +kernel
theorem dX13_node_24 : decode cX13_node 24 = .ok (.getfield 144, 3) := by decide +kernel
theorem dX13_node_27 : decode cX13_node 27 = .ok (.iload 4, 2) := by decide +kernel
theorem dX13_node_29 : decode cX13_node 29 = .ok (.iload_n 2, 1) := by decide +kernel
theorem dX13_node_30 : decode cX13_node 30 = .ok (.iastore, 1) := by decide +kernel
theorem dX13_node_31 : decode cX13_node 31 = .ok (.aload_n 0, 1) := by decide +kernel
theorem dX13_node_32 : decode cX13_node 32 = .ok (.getfield 39, 3) := by decide +kernel
theorem dX13_node_35 : decode cX13_node 35 = .ok (.getfield 147, 3) := by decide +kernel
theorem dX13_node_38 : decode cX13_node 38 = .ok (.iload 4, 2) := by decide +kernel
theorem dX13_node_40 : decode cX13_node 40 = .ok (.iload_n 3, 1) := by decide +kernel
theorem dX13_node_41 : decode cX13_node 41 = .ok (.iastore, 1) := by decide +kernel
theorem dX13_node_42 : decode cX13_node 42 = .ok (.aload_n 0, 1) := by decide +kernel
theorem dX13_node_43 : decode cX13_node 43 = .ok (.getfield 39, 3) := by decide +kernel
theorem dX13_node_46 : decode cX13_node 46 = .ok (.dup, 1) := by decide +kernel
theorem dX13_node_47 : decode cX13_node 47 = .ok (.getfield 138, 3) := by decide +kernel
theorem dX13_node_50 : decode cX13_node 50 = .ok (.iconst 1, 1) := by decide +kernel
theorem dX13_node_51 : decode cX13_node 51 = .ok (.iadd, 1) := by decide +kernel
theorem dX13_node_52 : decode cX13_node 52 = .ok (.putfield 138, 3) := by decide +kernel
theorem dX13_node_55 : decode cX13_node 55 = .ok (.iload 4, 2) := by decide +kernel
theorem dX13_node_57 : decode cX13_node 57 = .ok (.ireturn, 1) := by decide +kernel
theorem dX13_isSameName_0 : decode cX13_isSameName 0 = .ok (.aload_n 0, 1) := by decide +kernel
theorem dX13_isSameName_1 : decode cX13_isSameName 1 = .ok (.getfield 26, 3) := by decide +kernel
theorem dX13_isSameName_4 : decode cX13_isSameName 4 = .ok (.iload_n 1, 1) := by decide +kernel
theorem dX13_isSameName_5 : decode cX13_isSameName 5 = .ok (.iaload, 1) := by decide +kernel
theorem dX13_isSameName_6 : decode cX13_isSameName 6 = .ok (.aload_n 0, 1) := by decide +kernel
theorem dX13_isSameName_7 : decode cX13_isSameName 7 = .ok (.getfield 26, 3) := by decide +kernel
theorem dX13_isSameName_10 : decode cX13_isSameName 10 = .ok (.iload_n 2, 1) := by decide +kernel
theorem dX13_isSameName_11 : decode cX13_isSameName 11 = .ok (.iaload, 1) := by decide +kernel
theorem dX13_isSameName_12 : decode cX13_isSameName 12 = .ok (.if_icmp .eq 5, 3) := by decide +kernel
theorem dX13_isSameName_15 : decode cX13_isSameName 15 = .ok (.iconst 0, 1) := by decide +kernel
theorem dX13_isSameName_16 : decode cX13_isSameName 16 = .ok (.ireturn, 1) := by decide +kernel
theorem dX13_isSameName_17 : decode cX13_isSameName 17 = .ok (.iconst 0, 1) := by decide +kernel
theorem dX13_isSameName_18 : decode cX13_isSameName 18 = .ok (.istore_n 3, 1) := by decide +kernel
theorem dX13_isSameName_19 : decode cX13_isSameName 19 = .ok (.iload_n 3, 1) := by decide +kernel
theorem dX13_isSameName_20 : decode cX13_isSameName 20 = .ok (.aload_n 0, 1) := by decide +kernel
theorem dX13_isSameName_21 : decode cX13_isSameName 21 = .ok (.getfield 26, 3) := by decide +kernel
theorem dX13_isSameName_24 : decode cX13_isSameName 24 = .ok (.iload_n 1, 1) := by decide +kernel
theorem dX13_isSameName_25 : decode cX13_isSameName 25 = .ok (.iaload, 1) := by decide +kernel
theorem dX13_isSameName_26 : decode cX13_isSameName 26 = .ok (.if_icmp .ge 40, 3) := by decide +kernel
theorem dX13_isSameName_29 : decode cX13_isSameName 29 = .ok (.aload_n 0, 1) := by decide +kernel
theorem dX13_isSameName_30 : decode cX13_isSameName 30 = .ok (.getfield 9, 3) := by decide +kernel
theorem dX13_isSameName_33 : decode cX13_isSameName 33 = .ok (.aload_n 0, 1) := by decide +kernel
theorem dX13_isSameName_34 : decode cX13_isSameName 34 = .ok (.getfield 23, 3) := by decide +kernel
theorem dX13_isSameName_37 : decode cX13_isSameName 37 = .ok (.iload_n 1, 1) := by decide +kernel
theorem dX13_isSameName_38 : decode cX13_isSameName 38 = .ok (.iaload, 1) := by decide +kernel
theorem dX13_isSameName_39 : decode cX13_isSameName 39 = .ok (.iload_n 3, 1) := by decide +kernel
theorem dX13_isSameName_40 : decode cX13_isSameName 40 = .ok (.iadd, 1) := by decide +kernel
theorem dX13_isSameName_41 : decode cX13_isSameName 41 = .ok (.iaload, 1) := by decide +kernel
theorem dX13_isSameName_42 : decode cX13_isSameName 42 = .ok (.aload_n 0, 1) := by decide +kernel
theorem dX13_isSameName_43 : decode cX13_isSameName 43 = .ok (.getfield 9, 3) := by decide +kernel
theorem dX13_isSameName_46 : decode cX13_isSameName 46 = .ok (.aload_n 0, 1) := by decide +kernel
theorem dX13_isSameName_47 : decode cX13_isSameName 47 = .ok (.getfield 23, 3) := by decide +kernel
theorem dX13_isSameName_50 : decode cX13_isSameName 50 = .ok (.iload_n 2, 1) := by decide +kernel
theorem dX13_isSameName_51 : decode cX13_isSameName 51 = .ok (.iaload, 1) := by decide +kernel
theorem dX13_isSameName_52 : decode cX13_isSameName 52 = .ok (.iload_n 3, 1) := by decide +kernel
theorem dX13_isSameName_53 : decode cX13_isSameName 53 = .ok (.iadd, 1) := by decide +kernel
theorem dX13_isSameName_54 : decode cX13_isSameName 54 = .ok (.iaload, 1) := by decide +kernel
theorem dX13_isSameName_55 : decode cX13_isSameName 55 = .ok (.if_icmp .eq 5, 3) := by decide +kernel
theorem dX13_isSameName_58 : decode cX13_isSameName 58 = .ok (.iconst 0, 1) := by decide +kernel
theorem dX13_isSameName_59 : decode cX13_isSameName 59 = .ok (.ireturn, 1) := by decide +kernel
theorem dX13_isSameName_60 : decode cX13_isSameName 60 = .ok (.iinc 3 1, 3) := by decide +kernel
theorem dX13_isSameName_63 : decode cX13_isSameName 63 = .ok (.goto (-44), 3) := by decide +kernel
theorem dX13_isSameName_66 : decode cX13_isSameName 66 = .ok (.iconst 1, 1) := by decide +kernel
theorem dX13_isSameName_67 : decode cX13_isSameName 67 = .ok (.ireturn, 1) := by decide +kernel
theorem dX13_known_0 : decode cX13_known 0 = .ok (.iconst 0, 1) := by decide +kernel
theorem dX13_known_1 : decode cX13_known 1 = .ok (.istore_n 1, 1) := by decide +kernel
theorem dX13_known_2 : decode cX13_known 2 = .ok (.iload_n 1, 1) := by decide +kernel
theorem dX13_known_3 : decode cX13_known 3 = .ok (.aload_n 0, 1) := by decide +kernel
theorem dX13_known_4 : decode cX13_known 4 = .ok (.getfield 39, 3) := by decide +kernel
theorem dX13_known_7 : decode cX13_known 7 = .ok (.getfield 150, 3) := by decide +kernel
theorem dX13_known_10 : decode cX13_known 10 = .ok (.if_icmp .ge 28, 3) := by decide +kernel
theorem dX13_known_13 : decode cX13_known 13 = .ok (.aload_n 0, 1) := by decide +kernel
theorem dX13_known_14 : decode cX13_known 14 = .ok (.aload_n 0, 1) := by decide +kernel
theorem dX13_known_15 : decode cX13_known 15 = .ok (.getfield 29, 3) := by decide +kernel
theorem dX13_known_18 : decode cX13_known 18 = .ok (.iload_n 1, 1) := by decide +kernel
theorem dX13_known_19 : decode cX13_known 19 = .ok (.iaload, 1) := by decide +kernel
theorem dX13_known_20 : decode cX13_known 20 = .ok (.aload_n 0, 1) := by decide +kernel
theorem dX13_known_21 : decode cX13_known 21 = .ok (.getfield 120, 3) := by decide +kernel
theorem dX13_known_24 : decode cX13_known 24 = .ok (.invokevirtual 153, 3) := by decide +kernel
theorem dX13_known_27 : decode cX13_known 27 = .ok (.ifCond .eq 5, 3) := by decide +kernel
theorem dX13_known_30 : decode cX13_known 30 = .ok (.iload_n 1, 1) := by decide +kernel
theorem dX13_known_31 : decode cX13_known 31 = .ok (.ireturn, 1) := by decide +kernel
theorem dX13_known_32 : decode cX13_known 32 = .ok (.iinc 1 1, 3) := by decide +kernel
theorem dX13_known_35 : decode cX13_known 35 = .ok (.goto (-33), 3) := by decide +kernel
theorem dX13_known_38 : decode cX13_known 38 = .ok (.iconst (-1), 1) := by decide +kernel
theorem dX13_known_39 : decode cX13_known 39 = .ok (.ireturn, 1) := by decide +kernel
theorem dX13_name_0 : decode cX13_name 0 = .ok (.aload_n 0, 1) := by decide +kernel
theorem dX13_name_1 : decode cX13_name 1 = .ok (.bipush 30, 2) := by decide +kernel
theorem dX13_name_3 : decode cX13_name 3 = .ok (.invokevirtual 129, 3) := by decide +kernel
theorem dX13_name_6 : decode cX13_name 6 = .ok (.ifCond .eq 10, 3) := by decide +kernel
theorem dX13_name_9 : decode cX13_name 9 = .ok (.aload_n 0, 1) := by decide +kernel
theorem dX13_name_10 : decode cX13_name 10 = .ok (.invokevirtual 157, 3) := by decide +kernel
theorem dX13_name_13 : decode cX13_name 13 = .ok (.goto 4, 3) := by decide +kernel
theorem dX13_name_16 : decode cX13_name 16 = .ok (.iconst 0, 1) := by decide +kernel
theorem dX13_name_17 : decode cX13_name 17 = .ok (.istore_n 1, 1) := by decide +kernel
theorem dX13_name_18 : decode cX13_name 18 = .ok (.iload_n 1, 1) := by decide +kernel
theorem dX13_name_19 : decode cX13_name 19 = .ok (.iconst (-1), 1) := by decide +kernel
theorem dX13_name_20 : decode cX13_name 20 = .ok (.if_icmp .ne 8, 3) := by decide +kernel
theorem dX13_name_23 : decode cX13_name 23 = .ok (.aload_n 0, 1) := by decide +kernel
theorem dX13_name_24 : decode cX13_name 24 = .ok (.iconst 3, 1) := by decide +kernel
theorem dX13_name_25 : decode cX13_name 25 = .ok (.invokevirtual 160, 3) := by decide +kernel
theorem dX13_name_28 : decode cX13_name 28 = .ok (.aload_n 0, 1) := by decide +kernel
theorem dX13_name_29 : decode cX13_name 29 = .ok (.bipush 30, 2) := by decide +kernel
theorem dX13_name_31 : decode cX13_name 31 = .ok (.invokevirtual 164, 3) := by decide +kernel
theorem dX13_name_34 : decode cX13_name 34 = .ok (.iconst 0, 1) := by decide +kernel
theorem dX13_name_35 : decode cX13_name 35 = .ok (.iload_n 1, 1) := by decide +kernel
theorem dX13_name_36 : decode cX13_name 36 = .ok (.invokestatic 167, 3) := by decide +kernel
theorem dX13_name_39 : decode cX13_name 39 = .ok (.ireturn, 1) := by decide +kernel
theorem dX13_inBrackets_0 : decode cX13_inBrackets 0 = .ok (.aload_n 0, 1) := by decide +kernel
theorem dX13_inBrackets_1 : decode cX13_inBrackets 1 = .ok (.invokevirtual 172, 3) := by decide +kernel
theorem dX13_inBrackets_4 : decode cX13_inBrackets 4 = .ok (.aload_n 0, 1) := by decide +kernel
theorem dX13_inBrackets_5 : decode cX13_inBrackets 5 = .ok (.invokevirtual 175, 3) := by decide +kernel
theorem dX13_inBrackets_8 : decode cX13_inBrackets 8 = .ok (.istore_n 1, 1) := by decide +kernel
theorem dX13_inBrackets_9 : decode cX13_inBrackets 9 = .ok (.aload_n 0, 1) := by decide +kernel
theorem dX13_inBrackets_10 : decode cX13_inBrackets 10 = .ok (.bipush 50, 2) := by decide +kernel
theorem dX13_inBrackets_12 : decode cX13_inBrackets 12 = .ok (.invokevirtual 164, 3) := by decide +kernel
theorem dX13_inBrackets_15 : decode cX13_inBrackets 15 = .ok (.aload_n 0, 1) := by decide +kernel
theorem dX13_inBrackets_16 : decode cX13_inBrackets 16 = .ok (.dup, 1) := by decide +kernel
theorem dX13_inBrackets_17 : decode cX13_inBrackets 17 = .ok (.getfield 135, 3) := by decide +kernel
theorem dX13_inBrackets_20 : decode cX13_inBrackets 20 = .ok (.iconst 1, 1) := by decide +kernel
theorem dX13_inBrackets_21 : decode cX13_inBrackets 21 = .ok (.isub, 1) := by decide +kernel
theorem dX13_inBrackets_22 : decode cX13_inBrackets 22 = .ok (.putfield 135, 3) := by decide +kernel
theorem dX13_inBrackets_25 : decode cX13_inBrackets 25 = .ok (.iload_n 1, 1) := by decide +kernel
theorem dX13_inBrackets_26 : decode cX13_inBrackets 26 = .ok (.ireturn, 1) := by decide +kernel
theorem dX13_ofTwo_0 : decode cX13_ofTwo 0 = .ok (.aload_n 0, 1) := by decide +kernel
theorem dX13_ofTwo_1 : decode cX13_ofTwo 1 = .ok (.dup, 1) := by decide +kernel
theorem dX13_ofTwo_2 : decode cX13_ofTwo 2 = .ok (.getfield 120, 3) := by decide +kernel
theorem dX13_ofTwo_5 : decode cX13_ofTwo 5 = .ok (.iconst 1, 1) := by decide +kernel
theorem dX13_ofTwo_6 : decode cX13_ofTwo 6 = .ok (.iadd, 1) := by decide +kernel
theorem dX13_ofTwo_7 : decode cX13_ofTwo 7 = .ok (.putfield 120, 3) := by decide +kernel
theorem dX13_ofTwo_10 : decode cX13_ofTwo 10 = .ok (.aload_n 0, 1) := by decide +kernel
theorem dX13_ofTwo_11 : decode cX13_ofTwo 11 = .ok (.bipush 49, 2) := by decide +kernel
theorem dX13_ofTwo_13 : decode cX13_ofTwo 13 = .ok (.invokevirtual 129, 3) := by decide +kernel
theorem dX13_ofTwo_16 : decode cX13_ofTwo 16 = .ok (.ifCond .ne 9, 3) := by decide +kernel
theorem dX13_ofTwo_19 : decode cX13_ofTwo 19 = .ok (.aload_n 0, 1) := by decide +kernel
theorem dX13_ofTwo_20 : decode cX13_ofTwo 20 = .ok (.invokevirtual 132, 3) := by decide +kernel
theorem dX13_ofTwo_23 : decode cX13_ofTwo 23 = .ok (.iconst 0, 1) := by decide +kernel
theorem dX13_ofTwo_24 : decode cX13_ofTwo 24 = .ok (.ireturn, 1) := by decide +kernel
theorem dX13_ofTwo_25 : decode cX13_ofTwo 25 = .ok (.aload_n 0, 1) := by decide +kernel
theorem dX13_ofTwo_26 : decode cX13_ofTwo 26 = .ok (.invokevirtual 172, 3) := by decide +kernel
theorem dX13_ofTwo_29 : decode cX13_ofTwo 29 = .ok (.aload_n 0, 1) := by decide +kernel
theorem dX13_ofTwo_30 : decode cX13_ofTwo 30 = .ok (.invokevirtual 175, 3) := by decide +kernel
theorem dX13_ofTwo_33 : decode cX13_ofTwo 33 = .ok (.istore_n 2, 1) := by decide +kernel
theorem dX13_ofTwo_34 : decode cX13_ofTwo 34 = .ok (.aload_n 0, 1) := by decide +kernel
theorem dX13_ofTwo_35 : decode cX13_ofTwo 35 = .ok (.bipush 54, 2) := by decide +kernel
theorem dX13_ofTwo_37 : decode cX13_ofTwo 37 = .ok (.invokevirtual 164, 3) := by decide +kernel
theorem dX13_ofTwo_40 : decode cX13_ofTwo 40 = .ok (.aload_n 0, 1) := by decide +kernel
theorem dX13_ofTwo_41 : decode cX13_ofTwo 41 = .ok (.invokevirtual 175, 3) := by decide +kernel
theorem dX13_ofTwo_44 : decode cX13_ofTwo 44 = .ok (.istore_n 3, 1) := by decide +kernel
theorem dX13_ofTwo_45 : decode cX13_ofTwo 45 = .ok (.aload_n 0, 1) := by decide +kernel
theorem dX13_ofTwo_46 : decode cX13_ofTwo 46 = .ok (.bipush 50, 2) := by decide +kernel
theorem dX13_ofTwo_48 : decode cX13_ofTwo 48 = .ok (.invokevirtual 164, 3) := by decide +kernel
theorem dX13_ofTwo_51 : decode cX13_ofTwo 51 = .ok (.aload_n 0, 1) := by decide +kernel
theorem dX13_ofTwo_52 : decode cX13_ofTwo 52 = .ok (.dup, 1) := by decide +kernel
theorem dX13_ofTwo_53 : decode cX13_ofTwo 53 = .ok (.getfield 135, 3) := by decide +kernel
theorem dX13_ofTwo_56 : decode cX13_ofTwo 56 = .ok (.iconst 1, 1) := by decide +kernel
theorem dX13_ofTwo_57 : decode cX13_ofTwo 57 = .ok (.isub, 1) := by decide +kernel
theorem dX13_ofTwo_58 : decode cX13_ofTwo 58 = .ok (.putfield 135, 3) := by decide +kernel
theorem dX13_ofTwo_61 : decode cX13_ofTwo 61 = .ok (.aload_n 0, 1) := by decide +kernel
theorem dX13_ofTwo_62 : decode cX13_ofTwo 62 = .ok (.iload_n 1, 1) := by decide +kernel
theorem dX13_ofTwo_63 : decode cX13_ofTwo 63 = .ok (.iload_n 2, 1) := by decide +kernel
theorem dX13_ofTwo_64 : decode cX13_ofTwo 64 = .ok (.iload_n 3, 1) := by decide +kernel
theorem dX13_ofTwo_65 : decode cX13_ofTwo 65 = .ok (.invokevirtual 178, 3) := by decide +kernel
theorem dX13_ofTwo_68 : decode cX13_ofTwo 68 = .ok (.ireturn, 1) := by decide +kernel
theorem dX13_value_0 : decode cX13_value 0 = .ok (.aload_n 0, 1) := by decide +kernel
theorem dX13_value_1 : decode cX13_value 1 = .ok (.bipush 31, 2) := by decide +kernel
theorem dX13_value_3 : decode cX13_value 3 = .ok (.invokevirtual 129, 3) := by decide +kernel
theorem dX13_value_6 : decode cX13_value 6 = .ok (.ifCond .eq 32, 3) := by decide +kernel
theorem dX13_value_9 : decode cX13_value 9 = .ok (.aload_n 0, 1) := by decide +kernel
theorem dX13_value_10 : decode cX13_value 10 = .ok (.dup, 1) := by decide +kernel
theorem dX13_value_11 : decode cX13_value 11 = .ok (.getfield 120, 3) := by decide +kernel
theorem dX13_value_14 : decode cX13_value 14 = .ok (.iconst 1, 1) := by decide +kernel
theorem dX13_value_15 : decode cX13_value 15 = .ok (.iadd, 1) := by decide +kernel
theorem dX13_value_16 : decode cX13_value 16 = .ok (.putfield 120, 3) := by decide +kernel
theorem dX13_value_19 : decode cX13_value 19 = .ok (.aload_n 0, 1) := by decide +kernel
theorem dX13_value_20 : decode cX13_value 20 = .ok (.bipush 31, 2) := by decide +kernel
theorem dX13_value_22 : decode cX13_value 22 = .ok (.aload_n 0, 1) := by decide +kernel
theorem dX13_value_23 : decode cX13_value 23 = .ok (.getfield 20, 3) := by decide +kernel
theorem dX13_value_26 : decode cX13_value 26 = .ok (.aload_n 0, 1) := by decide +kernel
theorem dX13_value_27 : decode cX13_value 27 = .ok (.getfield 120, 3) := by decide +kernel
theorem dX13_value_30 : decode cX13_value 30 = .ok (.iconst 1, 1) := by decide +kernel
theorem dX13_value_31 : decode cX13_value 31 = .ok (.isub, 1) := by decide +kernel
theorem dX13_value_32 : decode cX13_value 32 = .ok (.iaload, 1) := by decide +kernel
theorem dX13_value_33 : decode cX13_value 33 = .ok (.iconst 0, 1) := by decide +kernel
theorem dX13_value_34 : decode cX13_value 34 = .ok (.invokevirtual 178, 3) := by decide +kernel
theorem dX13_value_37 : decode cX13_value 37 = .ok (.ireturn, 1) := by decide +kernel
theorem dX13_value_38 : decode cX13_value 38 = .ok (.bipush 9, 2) := by decide +kernel
theorem dX13_value_40 : decode cX13_value 40 = .ok (.istore_n 1, 1) := by decide +kernel
theorem dX13_value_41 : decode cX13_value 41 = .ok (.iload_n 1, 1) := by decide +kernel
theorem dX13_value_42 : decode cX13_value 42 = .ok (.bipush 14, 2) := by decide +kernel
theorem dX13_value_44 : decode cX13_value 44 = .ok (.if_icmp .gt 25, 3) := by decide +kernel
theorem dX13_value_47 : decode cX13_value 47 = .ok (.aload_n 0, 1) := by decide +kernel
theorem dX13_value_48 : decode cX13_value 48 = .ok (.iload_n 1, 1) := by decide +kernel
theorem dX13_value_49 : decode cX13_value 49 = .ok (.invokevirtual 182, 3) := by decide +kernel
theorem dX13_value_52 : decode cX13_value 52 = .ok (.ifCond .eq 11, 3) := by decide +kernel
theorem dX13_value_55 : decode cX13_value 55 = .ok (.aload_n 0, 1) := by decide +kernel
theorem dX13_value_56 : decode cX13_value 56 = .ok (.iload_n 1, 1) := by decide +kernel
theorem dX13_value_57 : decode cX13_value 57 = .ok (.iconst 0, 1) := by decide +kernel
theorem dX13_value_58 : decode cX13_value 58 = .ok (.iconst 0, 1) := by decide +kernel
theorem dX13_value_59 : decode cX13_value 59 = .ok (.invokevirtual 178, 3) := by decide +kernel
theorem dX13_value_62 : decode cX13_value 62 = .ok (.ireturn, 1) := by decide +kernel
theorem dX13_value_63 : decode cX13_value 63 = .ok (.iinc 1 1, 3) := by decide +kernel
theorem dX13_value_66 : decode cX13_value 66 = .ok (.goto (-25), 3) := by decide +kernel
theorem dX13_value_69 : decode cX13_value 69 = .ok (.aload_n 0, 1) := by decide +kernel
theorem dX13_value_70 : decode cX13_value 70 = .ok (.bipush 15, 2) := by decide +kernel
theorem dX13_value_72 : decode cX13_value 72 = .ok (.invokevirtual 182, 3) := by decide +kernel
theorem dX13_value_75 : decode cX13_value 75 = .ok (.ifCond .eq 21, 3) := by decide +kernel
theorem dX13_value_78 : decode cX13_value 78 = .ok (.aload_n 0, 1) := by decide +kernel
theorem dX13_value_79 : decode cX13_value 79 = .ok (.bipush 16, 2) := by decide +kernel
theorem dX13_value_81 : decode cX13_value 81 = .ok (.invokevirtual 164, 3) := by decide +kernel
theorem dX13_value_84 : decode cX13_value 84 = .ok (.aload_n 0, 1) := by decide +kernel
theorem dX13_value_85 : decode cX13_value 85 = .ok (.bipush 15, 2) := by decide +kernel
theorem dX13_value_87 : decode cX13_value 87 = .ok (.aload_n 0, 1) := by decide +kernel
theorem dX13_value_88 : decode cX13_value 88 = .ok (.invokevirtual 185, 3) := by decide +kernel
theorem dX13_value_91 : decode cX13_value 91 = .ok (.iconst 0, 1) := by decide +kernel
theorem dX13_value_92 : decode cX13_value 92 = .ok (.invokevirtual 178, 3) := by decide +kernel
theorem dX13_value_95 : decode cX13_value 95 = .ok (.ireturn, 1) := by decide +kernel
theorem dX13_value_96 : decode cX13_value 96 = .ok (.aload_n 0, 1) := by decide +kernel
theorem dX13_value_97 : decode cX13_value 97 = .ok (.bipush 22, 2) := by decide +kernel
theorem dX13_value_99 : decode cX13_value 99 = .ok (.invokevirtual 129, 3) := by decide +kernel
theorem dX13_value_102 : decode cX13_value 102 = .ok (.ifCond .ne 12, 3) := by decide +kernel
theorem dX13_value_105 : decode cX13_value 105 = .ok (.aload_n 0, 1) := by decide +kernel
theorem dX13_value_106 : decode cX13_value 106 = .ok (.bipush 23, 2) := by decide +kernel
theorem dX13_value_108 : decode cX13_value 108 = .ok (.invokevirtual 129, 3) := by decide +kernel
theorem dX13_value_111 : decode cX13_value 111 = .ok (.ifCond .eq 17, 3) := by decide +kernel
theorem dX13_value_114 : decode cX13_value 114 = .ok (.aload_n 0, 1) := by decide +kernel
theorem dX13_value_115 : decode cX13_value 115 = .ok (.aload_n 0, 1) := by decide +kernel
theorem dX13_value_116 : decode cX13_value 116 = .ok (.getfield 17, 3) := by decide +kernel
theorem dX13_value_119 : decode cX13_value 119 = .ok (.aload_n 0, 1) := by decide +kernel
theorem dX13_value_120 : decode cX13_value 120 = .ok (.getfield 120, 3) := by decide +kernel
theorem dX13_value_123 : decode cX13_value 123 = .ok (.iaload, 1) := by decide +kernel
theorem dX13_value_124 : decode cX13_value 124 = .ok (.invokevirtual 188, 3) := by decide +kernel
theorem dX13_value_127 : decode cX13_value 127 = .ok (.ireturn, 1) := by decide +kernel
theorem dX13_value_128 : decode cX13_value 128 = .ok (.aload_n 0, 1) := by decide +kernel
theorem dX13_value_129 : decode cX13_value 129 = .ok (.bipush 49, 2) := by decide +kernel
theorem dX13_value_131 : decode cX13_value 131 = .ok (.invokevirtual 129, 3) := by decide +kernel
theorem dX13_value_134 : decode cX13_value 134 = .ok (.ifCond .eq 8, 3) := by decide +kernel
theorem dX13_value_137 : decode cX13_value 137 = .ok (.aload_n 0, 1) := by decide +kernel
theorem dX13_value_138 : decode cX13_value 138 = .ok (.invokevirtual 191, 3) := by decide +kernel
theorem dX13_value_141 : decode cX13_value 141 = .ok (.ireturn, 1) := by decide +kernel
theorem dX13_value_142 : decode cX13_value 142 = .ok (.aload_n 0, 1) := by decide +kernel
theorem dX13_value_143 : decode cX13_value 143 = .ok (.bipush 41, 2) := by decide +kernel
theorem dX13_value_145 : decode cX13_value 145 = .ok (.invokevirtual 129, 3) := by decide +kernel
theorem dX13_value_148 : decode cX13_value 148 = .ok (.ifCond .ne 9, 3) := by decide +kernel
theorem dX13_value_151 : decode cX13_value 151 = .ok (.aload_n 0, 1) := by decide +kernel
theorem dX13_value_152 : decode cX13_value 152 = .ok (.invokevirtual 132, 3) := by decide +kernel
theorem dX13_value_155 : decode cX13_value 155 = .ok (.iconst 0, 1) := by decide +kernel
theorem dX13_value_156 : decode cX13_value 156 = .ok (.ireturn, 1) := by decide +kernel
theorem dX13_value_157 : decode cX13_value 157 = .ok (.aload_n 0, 1) := by decide +kernel
theorem dX13_value_158 : decode cX13_value 158 = .ok (.invokevirtual 172, 3) := by decide +kernel
theorem dX13_value_161 : decode cX13_value 161 = .ok (.aload_n 0, 1) := by decide +kernel
theorem dX13_value_162 : decode cX13_value 162 = .ok (.invokevirtual 194, 3) := by decide +kernel
theorem dX13_value_165 : decode cX13_value 165 = .ok (.istore_n 1, 1) := by decide +kernel
theorem dX13_value_166 : decode cX13_value 166 = .ok (.aload_n 0, 1) := by decide +kernel
theorem dX13_value_167 : decode cX13_value 167 = .ok (.dup, 1) := by decide +kernel
theorem dX13_value_168 : decode cX13_value 168 = .ok (.getfield 135, 3) := by decide +kernel
theorem dX13_value_171 : decode cX13_value 171 = .ok (.iconst 1, 1) := by decide +kernel
theorem dX13_value_172 : decode cX13_value 172 = .ok (.isub, 1) := by decide +kernel
theorem dX13_value_173 : decode cX13_value 173 = .ok (.putfield 135, 3) := by decide +kernel
theorem dX13_value_176 : decode cX13_value 176 = .ok (.aload_n 0, 1) := by decide +kernel
theorem dX13_value_177 : decode cX13_value 177 = .ok (.bipush 60, 2) := by decide +kernel
theorem dX13_value_179 : decode cX13_value 179 = .ok (.iload_n 1, 1) := by decide +kernel
theorem dX13_value_180 : decode cX13_value 180 = .ok (.iconst 0, 1) := by decide +kernel
theorem dX13_value_181 : decode cX13_value 181 = .ok (.invokevirtual 178, 3) := by decide +kernel
theorem dX13_value_184 : decode cX13_value 184 = .ok (.ireturn, 1) := by decide +kernel
theorem dX13_product_0 : decode cX13_product 0 = .ok (.aload_n 0, 1) := by decide +kernel
theorem dX13_product_1 : decode cX13_product 1 = .ok (.invokevirtual 194, 3) := by decide +kernel
theorem dX13_product_4 : decode cX13_product 4 = .ok (.istore_n 1, 1) := by decide +kernel
theorem dX13_product_5 : decode cX13_product 5 = .ok (.aload_n 0, 1) := by decide +kernel
theorem dX13_product_6 : decode cX13_product 6 = .ok (.bipush 42, 2) := by decide +kernel
theorem dX13_product_8 : decode cX13_product 8 = .ok (.invokevirtual 129, 3) := by decide +kernel
theorem dX13_product_11 : decode cX13_product 11 = .ok (.ifCond .ne 12, 3) := by decide +kernel
theorem dX13_product_14 : decode cX13_product 14 = .ok (.aload_n 0, 1) := by decide +kernel
theorem dX13_product_15 : decode cX13_product 15 = .ok (.bipush 43, 2) := by decide +kernel
theorem dX13_product_17 : decode cX13_product 17 = .ok (.invokevirtual 129, 3) := by decide +kernel
theorem dX13_product_20 : decode cX13_product 20 = .ok (.ifCond .eq 37, 3) := by decide +kernel
theorem dX13_product_23 : decode cX13_product 23 = .ok (.aload_n 0, 1) := by decide +kernel
theorem dX13_product_24 : decode cX13_product 24 = .ok (.getfield 17, 3) := by decide +kernel
theorem dX13_product_27 : decode cX13_product 27 = .ok (.aload_n 0, 1) := by decide +kernel
theorem dX13_product_28 : decode cX13_product 28 = .ok (.getfield 120, 3) := by decide +kernel
theorem dX13_product_31 : decode cX13_product 31 = .ok (.iaload, 1) := by decide +kernel
theorem dX13_product_32 : decode cX13_product 32 = .ok (.istore_n 2, 1) := by decide +kernel
theorem dX13_product_33 : decode cX13_product 33 = .ok (.aload_n 0, 1) := by decide +kernel
theorem dX13_product_34 : decode cX13_product 34 = .ok (.dup, 1) := by decide +kernel
theorem dX13_product_35 : decode cX13_product 35 = .ok (.getfield 120, 3) := by decide +kernel
theorem dX13_product_38 : decode cX13_product 38 = .ok (.iconst 1, 1) := by decide +kernel
theorem dX13_product_39 : decode cX13_product 39 = .ok (.iadd, 1) := by decide +kernel
theorem dX13_product_40 : decode cX13_product 40 = .ok (.putfield 120, 3) := by decide +kernel
theorem dX13_product_43 : decode cX13_product 43 = .ok (.aload_n 0, 1) := by decide +kernel
theorem dX13_product_44 : decode cX13_product 44 = .ok (.iload_n 2, 1) := by decide +kernel
theorem dX13_product_45 : decode cX13_product 45 = .ok (.iload_n 1, 1) := by decide +kernel
theorem dX13_product_46 : decode cX13_product 46 = .ok (.aload_n 0, 1) := by decide +kernel
theorem dX13_product_47 : decode cX13_product 47 = .ok (.invokevirtual 194, 3) := by decide +kernel
theorem dX13_product_50 : decode cX13_product 50 = .ok (.invokevirtual 178, 3) := by decide +kernel
theorem dX13_product_53 : decode cX13_product 53 = .ok (.istore_n 1, 1) := by decide +kernel
theorem dX13_product_54 : decode cX13_product 54 = .ok (.goto (-49), 3) := by decide +kernel
theorem dX13_product_57 : decode cX13_product 57 = .ok (.iload_n 1, 1) := by decide +kernel
theorem dX13_product_58 : decode cX13_product 58 = .ok (.ireturn, 1) := by decide +kernel
theorem dX13_sum_0 : decode cX13_sum 0 = .ok (.aload_n 0, 1) := by decide +kernel
theorem dX13_sum_1 : decode cX13_sum 1 = .ok (.invokevirtual 196, 3) := by decide +kernel
theorem dX13_sum_4 : decode cX13_sum 4 = .ok (.istore_n 1, 1) := by decide +kernel
theorem dX13_sum_5 : decode cX13_sum 5 = .ok (.aload_n 0, 1) := by decide +kernel
theorem dX13_sum_6 : decode cX13_sum 6 = .ok (.bipush 40, 2) := by decide +kernel
theorem dX13_sum_8 : decode cX13_sum 8 = .ok (.invokevirtual 129, 3) := by decide +kernel
theorem dX13_sum_11 : decode cX13_sum 11 = .ok (.ifCond .ne 12, 3) := by decide +kernel
theorem dX13_sum_14 : decode cX13_sum 14 = .ok (.aload_n 0, 1) := by decide +kernel
theorem dX13_sum_15 : decode cX13_sum 15 = .ok (.bipush 41, 2) := by decide +kernel
theorem dX13_sum_17 : decode cX13_sum 17 = .ok (.invokevirtual 129, 3) := by decide +kernel
theorem dX13_sum_20 : decode cX13_sum 20 = .ok (.ifCond .eq 37, 3) := by decide +kernel
theorem dX13_sum_23 : decode cX13_sum 23 = .ok (.aload_n 0, 1) := by decide +kernel
theorem dX13_sum_24 : decode cX13_sum 24 = .ok (.getfield 17, 3) := by decide +kernel
theorem dX13_sum_27 : decode cX13_sum 27 = .ok (.aload_n 0, 1) := by decide +kernel
theorem dX13_sum_28 : decode cX13_sum 28 = .ok (.getfield 120, 3) := by decide +kernel
theorem dX13_sum_31 : decode cX13_sum 31 = .ok (.iaload, 1) := by decide +kernel
theorem dX13_sum_32 : decode cX13_sum 32 = .ok (.istore_n 2, 1) := by decide +kernel
theorem dX13_sum_33 : decode cX13_sum 33 = .ok (.aload_n 0, 1) := by decide +kernel
theorem dX13_sum_34 : decode cX13_sum 34 = .ok (.dup, 1) := by decide +kernel
theorem dX13_sum_35 : decode cX13_sum 35 = .ok (.getfield 120, 3) := by decide +kernel
theorem dX13_sum_38 : decode cX13_sum 38 = .ok (.iconst 1, 1) := by decide +kernel
theorem dX13_sum_39 : decode cX13_sum 39 = .ok (.iadd, 1) := by decide +kernel
theorem dX13_sum_40 : decode cX13_sum 40 = .ok (.putfield 120, 3) := by decide +kernel
theorem dX13_sum_43 : decode cX13_sum 43 = .ok (.aload_n 0, 1) := by decide +kernel
theorem dX13_sum_44 : decode cX13_sum 44 = .ok (.iload_n 2, 1) := by decide +kernel
theorem dX13_sum_45 : decode cX13_sum 45 = .ok (.iload_n 1, 1) := by decide +kernel
theorem dX13_sum_46 : decode cX13_sum 46 = .ok (.aload_n 0, 1) := by decide +kernel
theorem dX13_sum_47 : decode cX13_sum 47 = .ok (.invokevirtual 196, 3) := by decide +kernel
theorem dX13_sum_50 : decode cX13_sum 50 = .ok (.invokevirtual 178, 3) := by decide +kernel
theorem dX13_sum_53 : decode cX13_sum 53 = .ok (.istore_n 1, 1) := by decide +kernel
theorem dX13_sum_54 : decode cX13_sum 54 = .ok (.goto (-49), 3) := by decide +kernel
theorem dX13_sum_57 : decode cX13_sum 57 = .ok (.iload_n 1, 1) := by decide +kernel
theorem dX13_sum_58 : decode cX13_sum 58 = .ok (.ireturn, 1) := by decide +kernel
theorem dX13_comparison_0 : decode cX13_comparison 0 = .ok (.aload_n 0, 1) := by decide +kernel
theorem dX13_comparison_1 : decode cX13_comparison 1 = .ok (.invokevirtual 175, 3) := by decide +kernel
theorem dX13_comparison_4 : decode cX13_comparison 4 = .ok (.istore_n 1, 1) := by decide +kernel
theorem dX13_comparison_5 : decode cX13_comparison 5 = .ok (.aload_n 0, 1) := by decide +kernel
theorem dX13_comparison_6 : decode cX13_comparison 6 = .ok (.getfield 17, 3) := by decide +kernel
theorem dX13_comparison_9 : decode cX13_comparison 9 = .ok (.aload_n 0, 1) := by decide +kernel
theorem dX13_comparison_10 : decode cX13_comparison 10 = .ok (.getfield 120, 3) := by decide +kernel
theorem dX13_comparison_13 : decode cX13_comparison 13 = .ok (.iaload, 1) := by decide +kernel
theorem dX13_comparison_14 : decode cX13_comparison 14 = .ok (.istore_n 2, 1) := by decide +kernel
theorem dX13_comparison_15 : decode cX13_comparison 15 = .ok (.aload_n 0, 1) := by decide +kernel
theorem dX13_comparison_16 : decode cX13_comparison 16 = .ok (.getfield 116, 3) := by decide +kernel
theorem dX13_comparison_19 : decode cX13_comparison 19 = .ok (.ifCond .ne 14, 3) := by decide +kernel
theorem dX13_comparison_22 : decode cX13_comparison 22 = .ok (.iload_n 2, 1) := by decide +kernel
theorem dX13_comparison_23 : decode cX13_comparison 23 = .ok (.bipush 44, 2) := by decide +kernel
theorem dX13_comparison_25 : decode cX13_comparison 25 = .ok (.bipush 48, 2) := by decide +kernel
theorem dX13_comparison_27 : decode cX13_comparison 27 = .ok (.invokestatic 68, 3) := by decide +kernel
theorem dX13_comparison_30 : decode cX13_comparison 30 = .ok (.ifCond .ne 9, 3) := by decide +kernel
theorem dX13_comparison_33 : decode cX13_comparison 33 = .ok (.aload_n 0, 1) := by decide +kernel
theorem dX13_comparison_34 : decode cX13_comparison 34 = .ok (.invokevirtual 132, 3) := by decide +kernel
theorem dX13_comparison_37 : decode cX13_comparison 37 = .ok (.iconst 0, 1) := by decide +kernel
theorem dX13_comparison_38 : decode cX13_comparison 38 = .ok (.ireturn, 1) := by decide +kernel
theorem dX13_comparison_39 : decode cX13_comparison 39 = .ok (.aload_n 0, 1) := by decide +kernel
theorem dX13_comparison_40 : decode cX13_comparison 40 = .ok (.dup, 1) := by decide +kernel
theorem dX13_comparison_41 : decode cX13_comparison 41 = .ok (.getfield 120, 3) := by decide +kernel
theorem dX13_comparison_44 : decode cX13_comparison 44 = .ok (.iconst 1, 1) := by decide +kernel
theorem dX13_comparison_45 : decode cX13_comparison 45 = .ok (.iadd, 1) := by decide +kernel
theorem dX13_comparison_46 : decode cX13_comparison 46 = .ok (.putfield 120, 3) := by decide +kernel
theorem dX13_comparison_49 : decode cX13_comparison 49 = .ok (.aload_n 0, 1) := by decide +kernel
theorem dX13_comparison_50 : decode cX13_comparison 50 = .ok (.iload_n 2, 1) := by decide +kernel
theorem dX13_comparison_51 : decode cX13_comparison 51 = .ok (.iload_n 1, 1) := by decide +kernel
theorem dX13_comparison_52 : decode cX13_comparison 52 = .ok (.aload_n 0, 1) := by decide +kernel
theorem dX13_comparison_53 : decode cX13_comparison 53 = .ok (.invokevirtual 175, 3) := by decide +kernel
theorem dX13_comparison_56 : decode cX13_comparison 56 = .ok (.invokevirtual 178, 3) := by decide +kernel
theorem dX13_comparison_59 : decode cX13_comparison 59 = .ok (.ireturn, 1) := by decide +kernel
theorem dX13_single_0 : decode cX13_single 0 = .ok (.aload_n 0, 1) := by decide +kernel
theorem dX13_single_1 : decode cX13_single 1 = .ok (.bipush 19, 2) := by decide +kernel
theorem dX13_single_3 : decode cX13_single 3 = .ok (.invokevirtual 129, 3) := by decide +kernel
theorem dX13_single_6 : decode cX13_single 6 = .ok (.ifCond .eq 31, 3) := by decide +kernel
theorem dX13_single_9 : decode cX13_single 9 = .ok (.aload_n 0, 1) := by decide +kernel
theorem dX13_single_10 : decode cX13_single 10 = .ok (.invokevirtual 172, 3) := by decide +kernel
theorem dX13_single_13 : decode cX13_single 13 = .ok (.aload_n 0, 1) := by decide +kernel
theorem dX13_single_14 : decode cX13_single 14 = .ok (.invokevirtual 199, 3) := by decide +kernel
theorem dX13_single_17 : decode cX13_single 17 = .ok (.istore_n 1, 1) := by decide +kernel
theorem dX13_single_18 : decode cX13_single 18 = .ok (.aload_n 0, 1) := by decide +kernel
theorem dX13_single_19 : decode cX13_single 19 = .ok (.dup, 1) := by decide +kernel
theorem dX13_single_20 : decode cX13_single 20 = .ok (.getfield 135, 3) := by decide +kernel
theorem dX13_single_23 : decode cX13_single 23 = .ok (.iconst 1, 1) := by decide +kernel
theorem dX13_single_24 : decode cX13_single 24 = .ok (.isub, 1) := by decide +kernel
theorem dX13_single_25 : decode cX13_single 25 = .ok (.putfield 135, 3) := by decide +kernel
theorem dX13_single_28 : decode cX13_single 28 = .ok (.aload_n 0, 1) := by decide +kernel
theorem dX13_single_29 : decode cX13_single 29 = .ok (.bipush 19, 2) := by decide +kernel
theorem dX13_single_31 : decode cX13_single 31 = .ok (.iload_n 1, 1) := by decide +kernel
theorem dX13_single_32 : decode cX13_single 32 = .ok (.iconst 0, 1) := by decide +kernel
theorem dX13_single_33 : decode cX13_single 33 = .ok (.invokevirtual 178, 3) := by decide +kernel
theorem dX13_single_36 : decode cX13_single 36 = .ok (.ireturn, 1) := by decide +kernel
theorem dX13_single_37 : decode cX13_single 37 = .ok (.aload_n 0, 1) := by decide +kernel
theorem dX13_single_38 : decode cX13_single 38 = .ok (.bipush 51, 2) := by decide +kernel
theorem dX13_single_40 : decode cX13_single 40 = .ok (.invokevirtual 129, 3) := by decide +kernel
theorem dX13_single_43 : decode cX13_single 43 = .ok (.ifCond .eq 30, 3) := by decide +kernel
theorem dX13_single_46 : decode cX13_single 46 = .ok (.aload_n 0, 1) := by decide +kernel
theorem dX13_single_47 : decode cX13_single 47 = .ok (.invokevirtual 172, 3) := by decide +kernel
theorem dX13_single_50 : decode cX13_single 50 = .ok (.aload_n 0, 1) := by decide +kernel
theorem dX13_single_51 : decode cX13_single 51 = .ok (.invokevirtual 202, 3) := by decide +kernel
theorem dX13_single_54 : decode cX13_single 54 = .ok (.istore_n 1, 1) := by decide +kernel
theorem dX13_single_55 : decode cX13_single 55 = .ok (.aload_n 0, 1) := by decide +kernel
theorem dX13_single_56 : decode cX13_single 56 = .ok (.bipush 52, 2) := by decide +kernel
theorem dX13_single_58 : decode cX13_single 58 = .ok (.invokevirtual 164, 3) := by decide +kernel
theorem dX13_single_61 : decode cX13_single 61 = .ok (.aload_n 0, 1) := by decide +kernel
theorem dX13_single_62 : decode cX13_single 62 = .ok (.dup, 1) := by decide +kernel
theorem dX13_single_63 : decode cX13_single 63 = .ok (.getfield 135, 3) := by decide +kernel
theorem dX13_single_66 : decode cX13_single 66 = .ok (.iconst 1, 1) := by decide +kernel
theorem dX13_single_67 : decode cX13_single 67 = .ok (.isub, 1) := by decide +kernel
theorem dX13_single_68 : decode cX13_single 68 = .ok (.putfield 135, 3) := by decide +kernel
theorem dX13_single_71 : decode cX13_single 71 = .ok (.iload_n 1, 1) := by decide +kernel
theorem dX13_single_72 : decode cX13_single 72 = .ok (.ireturn, 1) := by decide +kernel
theorem dX13_single_73 : decode cX13_single 73 = .ok (.aload_n 0, 1) := by decide +kernel
theorem dX13_single_74 : decode cX13_single 74 = .ok (.bipush 17, 2) := by decide +kernel
theorem dX13_single_76 : decode cX13_single 76 = .ok (.invokevirtual 182, 3) := by decide +kernel
theorem dX13_single_79 : decode cX13_single 79 = .ok (.ifCond .eq 15, 3) := by decide +kernel
theorem dX13_single_82 : decode cX13_single 82 = .ok (.aload_n 0, 1) := by decide +kernel
theorem dX13_single_83 : decode cX13_single 83 = .ok (.bipush 17, 2) := by decide +kernel
theorem dX13_single_85 : decode cX13_single 85 = .ok (.aload_n 0, 1) := by decide +kernel
theorem dX13_single_86 : decode cX13_single 86 = .ok (.invokevirtual 185, 3) := by decide +kernel
theorem dX13_single_89 : decode cX13_single 89 = .ok (.iconst 0, 1) := by decide +kernel
theorem dX13_single_90 : decode cX13_single 90 = .ok (.invokevirtual 178, 3) := by decide +kernel
theorem dX13_single_93 : decode cX13_single 93 = .ok (.ireturn, 1) := by decide +kernel
theorem dX13_single_94 : decode cX13_single 94 = .ok (.aload_n 0, 1) := by decide +kernel
theorem dX13_single_95 : decode cX13_single 95 = .ok (.bipush 18, 2) := by decide +kernel
theorem dX13_single_97 : decode cX13_single 97 = .ok (.invokevirtual 182, 3) := by decide +kernel
theorem dX13_single_100 : decode cX13_single 100 = .ok (.ifCond .eq 17, 3) := by decide +kernel
theorem dX13_single_103 : decode cX13_single 103 = .ok (.aload_n 0, 1) := by decide +kernel
theorem dX13_single_104 : decode cX13_single 104 = .ok (.bipush 18, 2) := by decide +kernel
theorem dX13_single_106 : decode cX13_single 106 = .ok (.aload_n 0, 1) := by decide +kernel
theorem dX13_single_107 : decode cX13_single 107 = .ok (.invokevirtual 185, 3) := by decide +kernel
theorem dX13_single_110 : decode cX13_single 110 = .ok (.iconst 0, 1) := by decide +kernel
theorem dX13_single_111 : decode cX13_single 111 = .ok (.invokevirtual 178, 3) := by decide +kernel
theorem dX13_single_114 : decode cX13_single 114 = .ok (.goto 7, 3) := by decide +kernel
theorem dX13_single_117 : decode cX13_single 117 = .ok (.aload_n 0, 1) := by decide +kernel
theorem dX13_single_118 : decode cX13_single 118 = .ok (.invokevirtual 205, 3) := by decide +kernel
theorem dX13_single_121 : decode cX13_single 121 = .ok (.ireturn, 1) := by decide +kernel
theorem dX13_both_0 : decode cX13_both 0 = .ok (.aload_n 0, 1) := by decide +kernel
theorem dX13_both_1 : decode cX13_both 1 = .ok (.invokevirtual 199, 3) := by decide +kernel
theorem dX13_both_4 : decode cX13_both 4 = .ok (.istore_n 1, 1) := by decide +kernel
theorem dX13_both_5 : decode cX13_both 5 = .ok (.aload_n 0, 1) := by decide +kernel
theorem dX13_both_6 : decode cX13_both 6 = .ok (.bipush 20, 2) := by decide +kernel
theorem dX13_both_8 : decode cX13_both 8 = .ok (.invokevirtual 182, 3) := by decide +kernel
theorem dX13_both_11 : decode cX13_both 11 = .ok (.ifCond .eq 18, 3) := by decide +kernel
theorem dX13_both_14 : decode cX13_both 14 = .ok (.aload_n 0, 1) := by decide +kernel
theorem dX13_both_15 : decode cX13_both 15 = .ok (.bipush 20, 2) := by decide +kernel
theorem dX13_both_17 : decode cX13_both 17 = .ok (.iload_n 1, 1) := by decide +kernel
theorem dX13_both_18 : decode cX13_both 18 = .ok (.aload_n 0, 1) := by decide +kernel
theorem dX13_both_19 : decode cX13_both 19 = .ok (.invokevirtual 199, 3) := by decide +kernel
theorem dX13_both_22 : decode cX13_both 22 = .ok (.invokevirtual 178, 3) := by decide +kernel
theorem dX13_both_25 : decode cX13_both 25 = .ok (.istore_n 1, 1) := by decide +kernel
theorem dX13_both_26 : decode cX13_both 26 = .ok (.goto (-21), 3) := by decide +kernel
theorem dX13_both_29 : decode cX13_both 29 = .ok (.iload_n 1, 1) := by decide +kernel
theorem dX13_both_30 : decode cX13_both 30 = .ok (.ireturn, 1) := by decide +kernel
theorem dX13_test_0 : decode cX13_test 0 = .ok (.aload_n 0, 1) := by decide +kernel
theorem dX13_test_1 : decode cX13_test 1 = .ok (.invokevirtual 208, 3) := by decide +kernel
theorem dX13_test_4 : decode cX13_test 4 = .ok (.istore_n 1, 1) := by decide +kernel
theorem dX13_test_5 : decode cX13_test 5 = .ok (.aload_n 0, 1) := by decide +kernel
theorem dX13_test_6 : decode cX13_test 6 = .ok (.bipush 21, 2) := by decide +kernel
theorem dX13_test_8 : decode cX13_test 8 = .ok (.invokevirtual 182, 3) := by decide +kernel
theorem dX13_test_11 : decode cX13_test 11 = .ok (.ifCond .eq 18, 3) := by decide +kernel
theorem dX13_test_14 : decode cX13_test 14 = .ok (.aload_n 0, 1) := by decide +kernel
theorem dX13_test_15 : decode cX13_test 15 = .ok (.bipush 21, 2) := by decide +kernel
theorem dX13_test_17 : decode cX13_test 17 = .ok (.iload_n 1, 1) := by decide +kernel
theorem dX13_test_18 : decode cX13_test 18 = .ok (.aload_n 0, 1) := by decide +kernel
theorem dX13_test_19 : decode cX13_test 19 = .ok (.invokevirtual 208, 3) := by decide +kernel
theorem dX13_test_22 : decode cX13_test 22 = .ok (.invokevirtual 178, 3) := by decide +kernel
theorem dX13_test_25 : decode cX13_test 25 = .ok (.istore_n 1, 1) := by decide +kernel
theorem dX13_test_26 : decode cX13_test 26 = .ok (.goto (-21), 3) := by decide +kernel
theorem dX13_test_29 : decode cX13_test 29 = .ok (.iload_n 1, 1) := by decide +kernel
theorem dX13_test_30 : decode cX13_test 30 = .ok (.ireturn, 1) := by decide +kernel
theorem dX13_numberIn_0 : decode cX13_numberIn 0 = .ok (.aload_n 0, 1) := by decide +kernel
theorem dX13_numberIn_1 : decode cX13_numberIn 1 = .ok (.getfield 20, 3) := by decide +kernel
theorem dX13_numberIn_4 : decode cX13_numberIn 4 = .ok (.aload_n 0, 1) := by decide +kernel
theorem dX13_numberIn_5 : decode cX13_numberIn 5 = .ok (.getfield 120, 3) := by decide +kernel
theorem dX13_numberIn_8 : decode cX13_numberIn 8 = .ok (.iaload, 1) := by decide +kernel
theorem dX13_numberIn_9 : decode cX13_numberIn 9 = .ok (.istore_n 3, 1) := by decide +kernel
theorem dX13_numberIn_10 : decode cX13_numberIn 10 = .ok (.aload_n 0, 1) := by decide +kernel
theorem dX13_numberIn_11 : decode cX13_numberIn 11 = .ok (.bipush 31, 2) := by decide +kernel
theorem dX13_numberIn_13 : decode cX13_numberIn 13 = .ok (.invokevirtual 129, 3) := by decide +kernel
theorem dX13_numberIn_16 : decode cX13_numberIn 16 = .ok (.ifCond .eq 17, 3) := by decide +kernel
theorem dX13_numberIn_19 : decode cX13_numberIn 19 = .ok (.iload_n 3, 1) := by decide +kernel
theorem dX13_numberIn_20 : decode cX13_numberIn 20 = .ok (.iload_n 1, 1) := by decide +kernel
theorem dX13_numberIn_21 : decode cX13_numberIn 21 = .ok (.iload_n 2, 1) := by decide +kernel
theorem dX13_numberIn_22 : decode cX13_numberIn 22 = .ok (.invokestatic 68, 3) := by decide +kernel
theorem dX13_numberIn_25 : decode cX13_numberIn 25 = .ok (.ifCond .ne 8, 3) := by decide +kernel
theorem dX13_numberIn_28 : decode cX13_numberIn 28 = .ok (.aload_n 0, 1) := by decide +kernel
theorem dX13_numberIn_29 : decode cX13_numberIn 29 = .ok (.iconst 5, 1) := by decide +kernel
theorem dX13_numberIn_30 : decode cX13_numberIn 30 = .ok (.invokevirtual 160, 3) := by decide +kernel
theorem dX13_numberIn_33 : decode cX13_numberIn 33 = .ok (.aload_n 0, 1) := by decide +kernel
theorem dX13_numberIn_34 : decode cX13_numberIn 34 = .ok (.bipush 31, 2) := by decide +kernel
theorem dX13_numberIn_36 : decode cX13_numberIn 36 = .ok (.invokevirtual 164, 3) := by decide +kernel
theorem dX13_numberIn_39 : decode cX13_numberIn 39 = .ok (.iload_n 3, 1) := by decide +kernel
theorem dX13_numberIn_40 : decode cX13_numberIn 40 = .ok (.ireturn, 1) := by decide +kernel
theorem dX13_tile_0 : decode cX13_tile 0 = .ok (.bipush 16, 2) := by decide +kernel
theorem dX13_tile_2 : decode cX13_tile 2 = .ok (.aload_n 0, 1) := by decide +kernel
theorem dX13_tile_3 : decode cX13_tile 3 = .ok (.getfield 39, 3) := by decide +kernel
theorem dX13_tile_6 : decode cX13_tile 6 = .ok (.getfield 150, 3) := by decide +kernel
theorem dX13_tile_9 : decode cX13_tile 9 = .ok (.invokestatic 211, 3) := by decide +kernel
theorem dX13_tile_12 : decode cX13_tile 12 = .ok (.istore_n 1, 1) := by decide +kernel
theorem dX13_tile_13 : decode cX13_tile 13 = .ok (.aload_n 0, 1) := by decide +kernel
theorem dX13_tile_14 : decode cX13_tile 14 = .ok (.bipush 30, 2) := by decide +kernel
theorem dX13_tile_16 : decode cX13_tile 16 = .ok (.invokevirtual 129, 3) := by decide +kernel
theorem dX13_tile_19 : decode cX13_tile 19 = .ok (.ifCond .eq 16, 3) := by decide +kernel
theorem dX13_tile_22 : decode cX13_tile 22 = .ok (.aload_n 0, 1) := by decide +kernel
theorem dX13_tile_23 : decode cX13_tile 23 = .ok (.invokevirtual 157, 3) := by decide +kernel
theorem dX13_tile_26 : decode cX13_tile 26 = .ok (.iconst (-1), 1) := by decide +kernel
theorem dX13_tile_27 : decode cX13_tile 27 = .ok (.if_icmp .eq 8, 3) := by decide +kernel
theorem dX13_tile_30 : decode cX13_tile 30 = .ok (.aload_n 0, 1) := by decide +kernel
theorem dX13_tile_31 : decode cX13_tile 31 = .ok (.iconst 2, 1) := by decide +kernel
theorem dX13_tile_32 : decode cX13_tile 32 = .ok (.invokevirtual 160, 3) := by decide +kernel
theorem dX13_tile_35 : decode cX13_tile 35 = .ok (.aload_n 0, 1) := by decide +kernel
theorem dX13_tile_36 : decode cX13_tile 36 = .ok (.bipush 30, 2) := by decide +kernel
theorem dX13_tile_38 : decode cX13_tile 38 = .ok (.invokevirtual 129, 3) := by decide +kernel
theorem dX13_tile_41 : decode cX13_tile 41 = .ok (.ifCond .eq 14, 3) := by decide +kernel
theorem dX13_tile_44 : decode cX13_tile 44 = .ok (.iload_n 1, 1) := by decide +kernel
theorem dX13_tile_45 : decode cX13_tile 45 = .ok (.bipush 16, 2) := by decide +kernel
theorem dX13_tile_47 : decode cX13_tile 47 = .ok (.if_icmp .ne 8, 3) := by decide +kernel
theorem dX13_tile_50 : decode cX13_tile 50 = .ok (.aload_n 0, 1) := by decide +kernel
theorem dX13_tile_51 : decode cX13_tile 51 = .ok (.iconst 4, 1) := by decide +kernel
theorem dX13_tile_52 : decode cX13_tile 52 = .ok (.invokevirtual 160, 3) := by decide +kernel
theorem dX13_tile_55 : decode cX13_tile 55 = .ok (.aload_n 0, 1) := by decide +kernel
theorem dX13_tile_56 : decode cX13_tile 56 = .ok (.bipush 30, 2) := by decide +kernel
theorem dX13_tile_58 : decode cX13_tile 58 = .ok (.invokevirtual 129, 3) := by decide +kernel
theorem dX13_tile_61 : decode cX13_tile 61 = .ok (.ifCond .eq 19, 3) := by decide +kernel
theorem dX13_tile_64 : decode cX13_tile 64 = .ok (.iload_n 1, 1) := by decide +kernel
theorem dX13_tile_65 : decode cX13_tile 65 = .ok (.bipush 16, 2) := by decide +kernel
theorem dX13_tile_67 : decode cX13_tile 67 = .ok (.if_icmp .ge 13, 3) := by decide +kernel
theorem dX13_tile_70 : decode cX13_tile 70 = .ok (.aload_n 0, 1) := by decide +kernel
theorem dX13_tile_71 : decode cX13_tile 71 = .ok (.getfield 29, 3) := by decide +kernel
theorem dX13_tile_74 : decode cX13_tile 74 = .ok (.iload_n 1, 1) := by decide +kernel
theorem dX13_tile_75 : decode cX13_tile 75 = .ok (.aload_n 0, 1) := by decide +kernel
theorem dX13_tile_76 : decode cX13_tile 76 = .ok (.getfield 120, 3) := by decide +kernel
theorem dX13_tile_79 : decode cX13_tile 79 = .ok (.iastore, 1) := by decide +kernel
theorem dX13_tile_80 : decode cX13_tile 80 = .ok (.aload_n 0, 1) := by decide +kernel
theorem dX13_tile_81 : decode cX13_tile 81 = .ok (.bipush 30, 2) := by decide +kernel
theorem dX13_tile_83 : decode cX13_tile 83 = .ok (.invokevirtual 164, 3) := by decide +kernel
theorem dX13_tile_86 : decode cX13_tile 86 = .ok (.iconst 0, 1) := by decide +kernel
theorem dX13_tile_87 : decode cX13_tile 87 = .ok (.istore_n 2, 1) := by decide +kernel
theorem dX13_tile_88 : decode cX13_tile 88 = .ok (.iload_n 2, 1) := by decide +kernel
theorem dX13_tile_89 : decode cX13_tile 89 = .ok (.iconst 3, 1) := by decide +kernel
theorem dX13_tile_90 : decode cX13_tile 90 = .ok (.if_icmp .ge 29, 3) := by decide +kernel
theorem dX13_tile_93 : decode cX13_tile 93 = .ok (.aload_n 0, 1) := by decide +kernel
theorem dX13_tile_94 : decode cX13_tile 94 = .ok (.getfield 39, 3) := by decide +kernel
theorem dX13_tile_97 : decode cX13_tile 97 = .ok (.getfield 214, 3) := by decide +kernel
theorem dX13_tile_100 : decode cX13_tile 100 = .ok (.iconst 3, 1) := by decide +kernel
theorem dX13_tile_101 : decode cX13_tile 101 = .ok (.iload_n 1, 1) := by decide +kernel
theorem dX13_tile_102 : decode cX13_tile 102 = .ok (.imul, 1) := by decide +kernel
theorem dX13_tile_103 : decode cX13_tile 103 = .ok (.iload_n 2, 1) := by decide +kernel
theorem dX13_tile_104 : decode cX13_tile 104 = .ok (.iadd, 1) := by decide +kernel
theorem dX13_tile_105 : decode cX13_tile 105 = .ok (.aload_n 0, 1) := by decide +kernel
theorem dX13_tile_106 : decode cX13_tile 106 = .ok (.iconst 0, 1) := by decide +kernel
theorem dX13_tile_107 : decode cX13_tile 107 = .ok (.bipush 9, 2) := by decide +kernel
theorem dX13_tile_109 : decode cX13_tile 109 = .ok (.invokevirtual 217, 3) := by decide +kernel
theorem dX13_tile_112 : decode cX13_tile 112 = .ok (.iastore, 1) := by decide +kernel
theorem dX13_tile_113 : decode cX13_tile 113 = .ok (.iinc 2 1, 3) := by decide +kernel
theorem dX13_tile_116 : decode cX13_tile 116 = .ok (.goto (-28), 3) := by decide +kernel
theorem dX13_tile_119 : decode cX13_tile 119 = .ok (.aload_n 0, 1) := by decide +kernel
theorem dX13_tile_120 : decode cX13_tile 120 = .ok (.getfield 39, 3) := by decide +kernel
theorem dX13_tile_123 : decode cX13_tile 123 = .ok (.bipush 16, 2) := by decide +kernel
theorem dX13_tile_125 : decode cX13_tile 125 = .ok (.iload_n 1, 1) := by decide +kernel
theorem dX13_tile_126 : decode cX13_tile 126 = .ok (.iconst 1, 1) := by decide +kernel
theorem dX13_tile_127 : decode cX13_tile 127 = .ok (.iadd, 1) := by decide +kernel
theorem dX13_tile_128 : decode cX13_tile 128 = .ok (.invokestatic 211, 3) := by decide +kernel
theorem dX13_tile_131 : decode cX13_tile 131 = .ok (.putfield 150, 3) := by decide +kernel
theorem dX13_tile_134 : decode cX13_tile 134 = .ok (.return_, 1) := by decide +kernel
theorem dX13_order_0 : decode cX13_order 0 = .ok (.bipush 16, 2) := by decide +kernel
theorem dX13_order_2 : decode cX13_order 2 = .ok (.aload_n 0, 1) := by decide +kernel
theorem dX13_order_3 : decode cX13_order 3 = .ok (.getfield 39, 3) := by decide +kernel
theorem dX13_order_6 : decode cX13_order 6 = .ok (.getfield 220, 3) := by decide +kernel
theorem dX13_order_9 : decode cX13_order 9 = .ok (.invokestatic 211, 3) := by decide +kernel
theorem dX13_order_12 : decode cX13_order 12 = .ok (.istore_n 2, 1) := by decide +kernel
theorem dX13_order_13 : decode cX13_order 13 = .ok (.iload_n 2, 1) := by decide +kernel
theorem dX13_order_14 : decode cX13_order 14 = .ok (.bipush 16, 2) := by decide +kernel
theorem dX13_order_16 : decode cX13_order 16 = .ok (.if_icmp .ne 8, 3) := by decide +kernel
theorem dX13_order_19 : decode cX13_order 19 = .ok (.aload_n 0, 1) := by decide +kernel
theorem dX13_order_20 : decode cX13_order 20 = .ok (.iconst 4, 1) := by decide +kernel
theorem dX13_order_21 : decode cX13_order 21 = .ok (.invokevirtual 160, 3) := by decide +kernel
theorem dX13_order_24 : decode cX13_order 24 = .ok (.aload_n 0, 1) := by decide +kernel
theorem dX13_order_25 : decode cX13_order 25 = .ok (.dup, 1) := by decide +kernel
theorem dX13_order_26 : decode cX13_order 26 = .ok (.getfield 120, 3) := by decide +kernel
theorem dX13_order_29 : decode cX13_order 29 = .ok (.iconst 1, 1) := by decide +kernel
theorem dX13_order_30 : decode cX13_order 30 = .ok (.iadd, 1) := by decide +kernel
theorem dX13_order_31 : decode cX13_order 31 = .ok (.putfield 120, 3) := by decide +kernel
theorem dX13_order_34 : decode cX13_order 34 = .ok (.aload_n 0, 1) := by decide +kernel
theorem dX13_order_35 : decode cX13_order 35 = .ok (.getfield 39, 3) := by decide +kernel
theorem dX13_order_38 : decode cX13_order 38 = .ok (.getfield 223, 3) := by decide +kernel
theorem dX13_order_41 : decode cX13_order 41 = .ok (.iload_n 2, 1) := by decide +kernel
theorem dX13_order_42 : decode cX13_order 42 = .ok (.aload_n 0, 1) := by decide +kernel
theorem dX13_order_43 : decode cX13_order 43 = .ok (.getfield 39, 3) := by decide +kernel
theorem dX13_order_46 : decode cX13_order 46 = .ok (.getfield 138, 3) := by decide +kernel
theorem dX13_order_49 : decode cX13_order 49 = .ok (.iastore, 1) := by decide +kernel
theorem dX13_order_50 : decode cX13_order 50 = .ok (.aload_n 0, 1) := by decide +kernel
theorem dX13_order_51 : decode cX13_order 51 = .ok (.getfield 39, 3) := by decide +kernel
theorem dX13_order_54 : decode cX13_order 54 = .ok (.getfield 226, 3) := by decide +kernel
theorem dX13_order_57 : decode cX13_order 57 = .ok (.iload_n 2, 1) := by decide +kernel
theorem dX13_order_58 : decode cX13_order 58 = .ok (.iload_n 1, 1) := by decide +kernel
theorem dX13_order_59 : decode cX13_order 59 = .ok (.iastore, 1) := by decide +kernel
theorem dX13_order_60 : decode cX13_order 60 = .ok (.aload_n 0, 1) := by decide +kernel
theorem dX13_order_61 : decode cX13_order 61 = .ok (.getfield 39, 3) := by decide +kernel
theorem dX13_order_64 : decode cX13_order 64 = .ok (.getfield 229, 3) := by decide +kernel
theorem dX13_order_67 : decode cX13_order 67 = .ok (.iload_n 2, 1) := by decide +kernel
theorem dX13_order_68 : decode cX13_order 68 = .ok (.aload_n 0, 1) := by decide +kernel
theorem dX13_order_69 : decode cX13_order 69 = .ok (.invokevirtual 185, 3) := by decide +kernel
theorem dX13_order_72 : decode cX13_order 72 = .ok (.iastore, 1) := by decide +kernel
theorem dX13_order_73 : decode cX13_order 73 = .ok (.iload_n 1, 1) := by decide +kernel
theorem dX13_order_74 : decode cX13_order 74 = .ok (.ifCond .ne 68, 3) := by decide +kernel
theorem dX13_order_77 : decode cX13_order 77 = .ok (.aload_n 0, 1) := by decide +kernel
theorem dX13_order_78 : decode cX13_order 78 = .ok (.iconst 4, 1) := by decide +kernel
theorem dX13_order_79 : decode cX13_order 79 = .ok (.invokevirtual 164, 3) := by decide +kernel
theorem dX13_order_82 : decode cX13_order 82 = .ok (.aload_n 0, 1) := by decide +kernel
theorem dX13_order_83 : decode cX13_order 83 = .ok (.getfield 39, 3) := by decide +kernel
theorem dX13_order_86 : decode cX13_order 86 = .ok (.getfield 232, 3) := by decide +kernel
theorem dX13_order_89 : decode cX13_order 89 = .ok (.iconst 3, 1) := by decide +kernel
theorem dX13_order_90 : decode cX13_order 90 = .ok (.iload_n 2, 1) := by decide +kernel
theorem dX13_order_91 : decode cX13_order 91 = .ok (.imul, 1) := by decide +kernel
theorem dX13_order_92 : decode cX13_order 92 = .ok (.aload_n 0, 1) := by decide +kernel
theorem dX13_order_93 : decode cX13_order 93 = .ok (.invokevirtual 175, 3) := by decide +kernel
theorem dX13_order_96 : decode cX13_order 96 = .ok (.iastore, 1) := by decide +kernel
theorem dX13_order_97 : decode cX13_order 97 = .ok (.aload_n 0, 1) := by decide +kernel
theorem dX13_order_98 : decode cX13_order 98 = .ok (.bipush 54, 2) := by decide +kernel
theorem dX13_order_100 : decode cX13_order 100 = .ok (.invokevirtual 164, 3) := by decide +kernel
theorem dX13_order_103 : decode cX13_order 103 = .ok (.aload_n 0, 1) := by decide +kernel
theorem dX13_order_104 : decode cX13_order 104 = .ok (.getfield 39, 3) := by decide +kernel
theorem dX13_order_107 : decode cX13_order 107 = .ok (.getfield 232, 3) := by decide +kernel
theorem dX13_order_110 : decode cX13_order 110 = .ok (.iconst 3, 1) := by decide +kernel
theorem dX13_order_111 : decode cX13_order 111 = .ok (.iload_n 2, 1) := by decide +kernel
theorem dX13_order_112 : decode cX13_order 112 = .ok (.imul, 1) := by decide +kernel
theorem dX13_order_113 : decode cX13_order 113 = .ok (.iconst 1, 1) := by decide +kernel
theorem dX13_order_114 : decode cX13_order 114 = .ok (.iadd, 1) := by decide +kernel
theorem dX13_order_115 : decode cX13_order 115 = .ok (.aload_n 0, 1) := by decide +kernel
theorem dX13_order_116 : decode cX13_order 116 = .ok (.invokevirtual 175, 3) := by decide +kernel
theorem dX13_order_119 : decode cX13_order 119 = .ok (.iastore, 1) := by decide +kernel
theorem dX13_order_120 : decode cX13_order 120 = .ok (.aload_n 0, 1) := by decide +kernel
theorem dX13_order_121 : decode cX13_order 121 = .ok (.iconst 5, 1) := by decide +kernel
theorem dX13_order_122 : decode cX13_order 122 = .ok (.invokevirtual 164, 3) := by decide +kernel
theorem dX13_order_125 : decode cX13_order 125 = .ok (.aload_n 0, 1) := by decide +kernel
theorem dX13_order_126 : decode cX13_order 126 = .ok (.getfield 39, 3) := by decide +kernel
theorem dX13_order_129 : decode cX13_order 129 = .ok (.getfield 232, 3) := by decide +kernel
theorem dX13_order_132 : decode cX13_order 132 = .ok (.iconst 3, 1) := by decide +kernel
theorem dX13_order_133 : decode cX13_order 133 = .ok (.iload_n 2, 1) := by decide +kernel
theorem dX13_order_134 : decode cX13_order 134 = .ok (.imul, 1) := by decide +kernel
theorem dX13_order_135 : decode cX13_order 135 = .ok (.iconst 2, 1) := by decide +kernel
theorem dX13_order_136 : decode cX13_order 136 = .ok (.iadd, 1) := by decide +kernel
theorem dX13_order_137 : decode cX13_order 137 = .ok (.aload_n 0, 1) := by decide +kernel
theorem dX13_order_138 : decode cX13_order 138 = .ok (.invokevirtual 175, 3) := by decide +kernel
theorem dX13_order_141 : decode cX13_order 141 = .ok (.iastore, 1) := by decide +kernel
theorem dX13_order_142 : decode cX13_order 142 = .ok (.aload_n 0, 1) := by decide +kernel
theorem dX13_order_143 : decode cX13_order 143 = .ok (.getfield 39, 3) := by decide +kernel
theorem dX13_order_146 : decode cX13_order 146 = .ok (.getfield 235, 3) := by decide +kernel
theorem dX13_order_149 : decode cX13_order 149 = .ok (.iload_n 2, 1) := by decide +kernel
theorem dX13_order_150 : decode cX13_order 150 = .ok (.aload_n 0, 1) := by decide +kernel
theorem dX13_order_151 : decode cX13_order 151 = .ok (.bipush 8, 2) := by decide +kernel
theorem dX13_order_153 : decode cX13_order 153 = .ok (.invokevirtual 182, 3) := by decide +kernel
theorem dX13_order_156 : decode cX13_order 156 = .ok (.ifCond .eq 10, 3) := by decide +kernel
theorem dX13_order_159 : decode cX13_order 159 = .ok (.aload_n 0, 1) := by decide +kernel
theorem dX13_order_160 : decode cX13_order 160 = .ok (.invokevirtual 202, 3) := by decide +kernel
theorem dX13_order_163 : decode cX13_order 163 = .ok (.goto 4, 3) := by decide +kernel
theorem dX13_order_166 : decode cX13_order 166 = .ok (.iconst (-1), 1) := by decide +kernel
theorem dX13_order_167 : decode cX13_order 167 = .ok (.iastore, 1) := by decide +kernel
theorem dX13_order_168 : decode cX13_order 168 = .ok (.aload_n 0, 1) := by decide +kernel
theorem dX13_order_169 : decode cX13_order 169 = .ok (.getfield 39, 3) := by decide +kernel
theorem dX13_order_172 : decode cX13_order 172 = .ok (.getfield 237, 3) := by decide +kernel
theorem dX13_order_175 : decode cX13_order 175 = .ok (.iload_n 2, 1) := by decide +kernel
theorem dX13_order_176 : decode cX13_order 176 = .ok (.aload_n 0, 1) := by decide +kernel
theorem dX13_order_177 : decode cX13_order 177 = .ok (.getfield 39, 3) := by decide +kernel
theorem dX13_order_180 : decode cX13_order 180 = .ok (.getfield 138, 3) := by decide +kernel
theorem dX13_order_183 : decode cX13_order 183 = .ok (.iastore, 1) := by decide +kernel
theorem dX13_order_184 : decode cX13_order 184 = .ok (.aload_n 0, 1) := by decide +kernel
theorem dX13_order_185 : decode cX13_order 185 = .ok (.getfield 39, 3) := by decide +kernel
theorem dX13_order_188 : decode cX13_order 188 = .ok (.bipush 16, 2) := by decide +kernel
theorem dX13_order_190 : decode cX13_order 190 = .ok (.iload_n 2, 1) := by decide +kernel
theorem dX13_order_191 : decode cX13_order 191 = .ok (.iconst 1, 1) := by decide +kernel
theorem dX13_order_192 : decode cX13_order 192 = .ok (.iadd, 1) := by decide +kernel
theorem dX13_order_193 : decode cX13_order 193 = .ok (.invokestatic 211, 3) := by decide +kernel
theorem dX13_order_196 : decode cX13_order 196 = .ok (.putfield 220, 3) := by decide +kernel
theorem dX13_order_199 : decode cX13_order 199 = .ok (.return_, 1) := by decide +kernel
theorem dX13_line_0 : decode cX13_line 0 = .ok (.aload_n 0, 1) := by decide +kernel
theorem dX13_line_1 : decode cX13_line 1 = .ok (.iconst 2, 1) := by decide +kernel
theorem dX13_line_2 : decode cX13_line 2 = .ok (.invokevirtual 182, 3) := by decide +kernel
theorem dX13_line_5 : decode cX13_line 5 = .ok (.ifCond .eq 10, 3) := by decide +kernel
theorem dX13_line_8 : decode cX13_line 8 = .ok (.aload_n 0, 1) := by decide +kernel
theorem dX13_line_9 : decode cX13_line 9 = .ok (.invokevirtual 240, 3) := by decide +kernel
theorem dX13_line_12 : decode cX13_line 12 = .ok (.goto 57, 3) := by decide +kernel
theorem dX13_line_15 : decode cX13_line 15 = .ok (.aload_n 0, 1) := by decide +kernel
theorem dX13_line_16 : decode cX13_line 16 = .ok (.iconst 3, 1) := by decide +kernel
theorem dX13_line_17 : decode cX13_line 17 = .ok (.invokevirtual 129, 3) := by decide +kernel
theorem dX13_line_20 : decode cX13_line 20 = .ok (.ifCond .eq 11, 3) := by decide +kernel
theorem dX13_line_23 : decode cX13_line 23 = .ok (.aload_n 0, 1) := by decide +kernel
theorem dX13_line_24 : decode cX13_line 24 = .ok (.iconst 0, 1) := by decide +kernel
theorem dX13_line_25 : decode cX13_line 25 = .ok (.invokevirtual 242, 3) := by decide +kernel
theorem dX13_line_28 : decode cX13_line 28 = .ok (.goto 41, 3) := by decide +kernel
theorem dX13_line_31 : decode cX13_line 31 = .ok (.aload_n 0, 1) := by decide +kernel
theorem dX13_line_32 : decode cX13_line 32 = .ok (.bipush 6, 2) := by decide +kernel
theorem dX13_line_34 : decode cX13_line 34 = .ok (.invokevirtual 129, 3) := by decide +kernel
theorem dX13_line_37 : decode cX13_line 37 = .ok (.ifCond .eq 11, 3) := by decide +kernel
theorem dX13_line_40 : decode cX13_line 40 = .ok (.aload_n 0, 1) := by decide +kernel
theorem dX13_line_41 : decode cX13_line 41 = .ok (.iconst 1, 1) := by decide +kernel
theorem dX13_line_42 : decode cX13_line 42 = .ok (.invokevirtual 242, 3) := by decide +kernel
theorem dX13_line_45 : decode cX13_line 45 = .ok (.goto 24, 3) := by decide +kernel
theorem dX13_line_48 : decode cX13_line 48 = .ok (.aload_n 0, 1) := by decide +kernel
theorem dX13_line_49 : decode cX13_line 49 = .ok (.bipush 7, 2) := by decide +kernel
theorem dX13_line_51 : decode cX13_line 51 = .ok (.invokevirtual 129, 3) := by decide +kernel
theorem dX13_line_54 : decode cX13_line 54 = .ok (.ifCond .eq 11, 3) := by decide +kernel
theorem dX13_line_57 : decode cX13_line 57 = .ok (.aload_n 0, 1) := by decide +kernel
theorem dX13_line_58 : decode cX13_line 58 = .ok (.iconst 2, 1) := by decide +kernel
theorem dX13_line_59 : decode cX13_line 59 = .ok (.invokevirtual 242, 3) := by decide +kernel
theorem dX13_line_62 : decode cX13_line 62 = .ok (.goto 7, 3) := by decide +kernel
theorem dX13_line_65 : decode cX13_line 65 = .ok (.aload_n 0, 1) := by decide +kernel
theorem dX13_line_66 : decode cX13_line 66 = .ok (.invokevirtual 132, 3) := by decide +kernel
theorem dX13_line_69 : decode cX13_line 69 = .ok (.return_, 1) := by decide +kernel
theorem dX13_game_0 : decode cX13_game 0 = .ok (.aload_n 0, 1) := by decide +kernel
theorem dX13_game_1 : decode cX13_game 1 = .ok (.iconst 0, 1) := by decide +kernel
theorem dX13_game_2 : decode cX13_game 2 = .ok (.invokevirtual 182, 3) := by decide +kernel
theorem dX13_game_5 : decode cX13_game 5 = .ok (.ifCond .eq 42, 3) := by decide +kernel
theorem dX13_game_8 : decode cX13_game 8 = .ok (.aload_n 0, 1) := by decide +kernel
theorem dX13_game_9 : decode cX13_game 9 = .ok (.getfield 39, 3) := by decide +kernel
theorem dX13_game_12 : decode cX13_game 12 = .ok (.aload_n 0, 1) := by decide +kernel
theorem dX13_game_13 : decode cX13_game 13 = .ok (.iconst 3, 1) := by decide +kernel
theorem dX13_game_14 : decode cX13_game 14 = .ok (.bipush 7, 2) := by decide +kernel
theorem dX13_game_16 : decode cX13_game 16 = .ok (.invokevirtual 217, 3) := by decide +kernel
theorem dX13_game_19 : decode cX13_game 19 = .ok (.putfield 245, 3) := by decide +kernel
theorem dX13_game_22 : decode cX13_game 22 = .ok (.aload_n 0, 1) := by decide +kernel
theorem dX13_game_23 : decode cX13_game 23 = .ok (.iconst 1, 1) := by decide +kernel
theorem dX13_game_24 : decode cX13_game 24 = .ok (.invokevirtual 164, 3) := by decide +kernel
theorem dX13_game_27 : decode cX13_game 27 = .ok (.aload_n 0, 1) := by decide +kernel
theorem dX13_game_28 : decode cX13_game 28 = .ok (.getfield 39, 3) := by decide +kernel
theorem dX13_game_31 : decode cX13_game 31 = .ok (.aload_n 0, 1) := by decide +kernel
theorem dX13_game_32 : decode cX13_game 32 = .ok (.iconst 3, 1) := by decide +kernel
theorem dX13_game_33 : decode cX13_game 33 = .ok (.bipush 7, 2) := by decide +kernel
theorem dX13_game_35 : decode cX13_game 35 = .ok (.invokevirtual 217, 3) := by decide +kernel
theorem dX13_game_38 : decode cX13_game 38 = .ok (.putfield 248, 3) := by decide +kernel
theorem dX13_game_41 : decode cX13_game 41 = .ok (.aload_n 0, 1) := by decide +kernel
theorem dX13_game_42 : decode cX13_game 42 = .ok (.bipush 53, 2) := by decide +kernel
theorem dX13_game_44 : decode cX13_game 44 = .ok (.invokevirtual 164, 3) := by decide +kernel
theorem dX13_game_47 : decode cX13_game 47 = .ok (.aload_n 0, 1) := by decide +kernel
theorem dX13_game_48 : decode cX13_game 48 = .ok (.getfield 116, 3) := by decide +kernel
theorem dX13_game_51 : decode cX13_game 51 = .ok (.ifCond .ne 30, 3) := by decide +kernel
theorem dX13_game_54 : decode cX13_game 54 = .ok (.aload_n 0, 1) := by decide +kernel
theorem dX13_game_55 : decode cX13_game 55 = .ok (.getfield 17, 3) := by decide +kernel
theorem dX13_game_58 : decode cX13_game 58 = .ok (.aload_n 0, 1) := by decide +kernel
theorem dX13_game_59 : decode cX13_game 59 = .ok (.getfield 120, 3) := by decide +kernel
theorem dX13_game_62 : decode cX13_game 62 = .ok (.iaload, 1) := by decide +kernel
theorem dX13_game_63 : decode cX13_game 63 = .ok (.bipush 33, 2) := by decide +kernel
theorem dX13_game_65 : decode cX13_game 65 = .ok (.if_icmp .eq 16, 3) := by decide +kernel
theorem dX13_game_68 : decode cX13_game 68 = .ok (.aload_n 0, 1) := by decide +kernel
theorem dX13_game_69 : decode cX13_game 69 = .ok (.invokevirtual 251, 3) := by decide +kernel
theorem dX13_game_72 : decode cX13_game 72 = .ok (.aload_n 0, 1) := by decide +kernel
theorem dX13_game_73 : decode cX13_game 73 = .ok (.bipush 53, 2) := by decide +kernel
theorem dX13_game_75 : decode cX13_game 75 = .ok (.invokevirtual 164, 3) := by decide +kernel
theorem dX13_game_78 : decode cX13_game 78 = .ok (.goto (-31), 3) := by decide +kernel
theorem dX13_game_81 : decode cX13_game 81 = .ok (.return_, 1) := by decide +kernel
theorem dX13_feed_0 : decode cX13_feed 0 = .ok (.aload_n 0, 1) := by decide +kernel
theorem dX13_feed_1 : decode cX13_feed 1 = .ok (.iconst 0, 1) := by decide +kernel
theorem dX13_feed_2 : decode cX13_feed 2 = .ok (.putfield 65, 3) := by decide +kernel
theorem dX13_feed_5 : decode cX13_feed 5 = .ok (.aload_n 0, 1) := by decide +kernel
theorem dX13_feed_6 : decode cX13_feed 6 = .ok (.getfield 72, 3) := by decide +kernel
theorem dX13_feed_9 : decode cX13_feed 9 = .ok (.bipush 20, 2) := by decide +kernel
theorem dX13_feed_11 : decode cX13_feed 11 = .ok (.iadd, 1) := by decide +kernel
theorem dX13_feed_12 : decode cX13_feed 12 = .ok (.sipush 2000, 3) := by decide +kernel
theorem dX13_feed_15 : decode cX13_feed 15 = .ok (.if_icmp .le 9, 3) := by decide +kernel
theorem dX13_feed_18 : decode cX13_feed 18 = .ok (.aload_n 0, 1) := by decide +kernel
theorem dX13_feed_19 : decode cX13_feed 19 = .ok (.iconst 1, 1) := by decide +kernel
theorem dX13_feed_20 : decode cX13_feed 20 = .ok (.invokevirtual 254, 3) := by decide +kernel
theorem dX13_feed_23 : decode cX13_feed 23 = .ok (.ireturn, 1) := by decide +kernel
theorem dX13_feed_24 : decode cX13_feed 24 = .ok (.iconst 5, 1) := by decide +kernel
theorem dX13_feed_25 : decode cX13_feed 25 = .ok (.newarray .int, 2) := by decide +kernel
theorem dX13_feed_27 : decode cX13_feed 27 = .ok (.dup, 1) := by decide +kernel
theorem dX13_feed_28 : decode cX13_feed 28 = .ok (.iconst 0, 1) := by decide +kernel
theorem dX13_feed_29 : decode cX13_feed 29 = .ok (.iload_n 1, 1) := by decide +kernel
theorem dX13_feed_30 : decode cX13_feed 30 = .ok (.iastore, 1) := by decide +kernel
theorem dX13_feed_31 : decode cX13_feed 31 = .ok (.dup, 1) := by decide +kernel
theorem dX13_feed_32 : decode cX13_feed 32 = .ok (.iconst 1, 1) := by decide +kernel
theorem dX13_feed_33 : decode cX13_feed 33 = .ok (.iload_n 2, 1) := by decide +kernel
theorem dX13_feed_34 : decode cX13_feed 34 = .ok (.iastore, 1) := by decide +kernel
theorem dX13_feed_35 : decode cX13_feed 35 = .ok (.dup, 1) := by decide +kernel
theorem dX13_feed_36 : decode cX13_feed 36 = .ok (.iconst 2, 1) := by decide +kernel
theorem dX13_feed_37 : decode cX13_feed 37 = .ok (.iload_n 3, 1) := by decide +kernel
theorem dX13_feed_38 : decode cX13_feed 38 = .ok (.iastore, 1) := by decide +kernel
theorem dX13_feed_39 : decode cX13_feed 39 = .ok (.dup, 1) := by decide +kernel
theorem dX13_feed_40 : decode cX13_feed 40 = .ok (.iconst 3, 1) := by decide +kernel
theorem dX13_feed_41 : decode cX13_feed 41 = .ok (.iload 4, 2) := by decide +kernel
theorem dX13_feed_43 : decode cX13_feed 43 = .ok (.iastore, 1) := by decide +kernel
theorem dX13_feed_44 : decode cX13_feed 44 = .ok (.dup, 1) := by decide +kernel
theorem dX13_feed_45 : decode cX13_feed 45 = .ok (.iconst 4, 1) := by decide +kernel
theorem dX13_feed_46 : decode cX13_feed 46 = .ok (.iload 5, 2) := by decide +kernel
theorem dX13_feed_48 : decode cX13_feed 48 = .ok (.iastore, 1) := by decide +kernel
theorem dX13_feed_49 : decode cX13_feed 49 = .ok (.astore 6, 2) := by decide +kernel
theorem dX13_feed_51 : decode cX13_feed 51 = .ok (.aload 6, 2) := by decide +kernel
theorem dX13_feed_53 : decode cX13_feed 53 = .ok (.astore 7, 2) := by decide +kernel
theorem dX13_feed_55 : decode cX13_feed 55 = .ok (.aload 7, 2) := by decide +kernel
theorem dX13_feed_57 : decode cX13_feed 57 = .ok (.arraylength, 1) := by decide +kernel
theorem dX13_feed_58 : decode cX13_feed 58 = .ok (.istore 8, 2) := by decide +kernel
theorem dX13_feed_60 : decode cX13_feed 60 = .ok (.iconst 0, 1) := by decide +kernel
theorem dX13_feed_61 : decode cX13_feed 61 = .ok (.istore 9, 2) := by decide +kernel
theorem dX13_feed_63 : decode cX13_feed 63 = .ok (.iload 9, 2) := by decide +kernel
theorem dX13_feed_65 : decode cX13_feed 65 = .ok (.iload 8, 2) := by decide +kernel
theorem dX13_feed_67 : decode cX13_feed 67 = .ok (.if_icmp .ge 59, 3) := by decide +kernel
theorem dX13_feed_70 : decode cX13_feed 70 = .ok (.aload 7, 2) := by decide +kernel
theorem dX13_feed_72 : decode cX13_feed 72 = .ok (.iload 9, 2) := by decide +kernel
theorem dX13_feed_74 : decode cX13_feed 74 = .ok (.iaload, 1) := by decide +kernel
theorem dX13_feed_75 : decode cX13_feed 75 = .ok (.istore 10, 2) := by decide +kernel
theorem dX13_feed_77 : decode cX13_feed 77 = .ok (.bipush 24, 2) := by decide +kernel
theorem dX13_feed_79 : decode cX13_feed 79 = .ok (.istore 11, 2) := by decide +kernel
theorem dX13_feed_81 : decode cX13_feed 81 = .ok (.iload 11, 2) := by decide +kernel
theorem dX13_feed_83 : decode cX13_feed 83 = .ok (.ifCond .lt 37, 3) := by decide +kernel
theorem dX13_feed_86 : decode cX13_feed 86 = .ok (.aload_n 0, 1) := by decide +kernel
theorem dX13_feed_87 : decode cX13_feed 87 = .ok (.getfield 9, 3) := by decide +kernel
theorem dX13_feed_90 : decode cX13_feed 90 = .ok (.aload_n 0, 1) := by decide +kernel
theorem dX13_feed_91 : decode cX13_feed 91 = .ok (.getfield 72, 3) := by decide +kernel
theorem dX13_feed_94 : decode cX13_feed 94 = .ok (.iload 10, 2) := by decide +kernel
theorem dX13_feed_96 : decode cX13_feed 96 = .ok (.iload 11, 2) := by decide +kernel
theorem dX13_feed_98 : decode cX13_feed 98 = .ok (.ishr, 1) := by decide +kernel
theorem dX13_feed_99 : decode cX13_feed 99 = .ok (.sipush 255, 3) := by decide +kernel
theorem dX13_feed_102 : decode cX13_feed 102 = .ok (.iand, 1) := by decide +kernel
theorem dX13_feed_103 : decode cX13_feed 103 = .ok (.iastore, 1) := by decide +kernel
theorem dX13_feed_104 : decode cX13_feed 104 = .ok (.aload_n 0, 1) := by decide +kernel
theorem dX13_feed_105 : decode cX13_feed 105 = .ok (.dup, 1) := by decide +kernel
theorem dX13_feed_106 : decode cX13_feed 106 = .ok (.getfield 72, 3) := by decide +kernel
theorem dX13_feed_109 : decode cX13_feed 109 = .ok (.iconst 1, 1) := by decide +kernel
theorem dX13_feed_110 : decode cX13_feed 110 = .ok (.iadd, 1) := by decide +kernel
theorem dX13_feed_111 : decode cX13_feed 111 = .ok (.putfield 72, 3) := by decide +kernel
theorem dX13_feed_114 : decode cX13_feed 114 = .ok (.iinc 11 (-8), 3) := by decide +kernel
theorem dX13_feed_117 : decode cX13_feed 117 = .ok (.goto (-36), 3) := by decide +kernel
theorem dX13_feed_120 : decode cX13_feed 120 = .ok (.iinc 9 1, 3) := by decide +kernel
theorem dX13_feed_123 : decode cX13_feed 123 = .ok (.goto (-60), 3) := by decide +kernel
theorem dX13_feed_126 : decode cX13_feed 126 = .ok (.aload_n 0, 1) := by decide +kernel
theorem dX13_feed_127 : decode cX13_feed 127 = .ok (.getfield 72, 3) := by decide +kernel
theorem dX13_feed_130 : decode cX13_feed 130 = .ok (.ireturn, 1) := by decide +kernel
theorem dX13_trim_0 : decode cX13_trim 0 = .ok (.aload_n 0, 1) := by decide +kernel
theorem dX13_trim_1 : decode cX13_trim 1 = .ok (.iconst 0, 1) := by decide +kernel
theorem dX13_trim_2 : decode cX13_trim 2 = .ok (.putfield 65, 3) := by decide +kernel
theorem dX13_trim_5 : decode cX13_trim 5 = .ok (.iload_n 1, 1) := by decide +kernel
theorem dX13_trim_6 : decode cX13_trim 6 = .ok (.iconst 0, 1) := by decide +kernel
theorem dX13_trim_7 : decode cX13_trim 7 = .ok (.aload_n 0, 1) := by decide +kernel
theorem dX13_trim_8 : decode cX13_trim 8 = .ok (.getfield 72, 3) := by decide +kernel
theorem dX13_trim_11 : decode cX13_trim 11 = .ok (.invokestatic 68, 3) := by decide +kernel
theorem dX13_trim_14 : decode cX13_trim 14 = .ok (.ifCond .ne 9, 3) := by decide +kernel
theorem dX13_trim_17 : decode cX13_trim 17 = .ok (.aload_n 0, 1) := by decide +kernel
theorem dX13_trim_18 : decode cX13_trim 18 = .ok (.iconst 1, 1) := by decide +kernel
theorem dX13_trim_19 : decode cX13_trim 19 = .ok (.invokevirtual 254, 3) := by decide +kernel
theorem dX13_trim_22 : decode cX13_trim 22 = .ok (.ireturn, 1) := by decide +kernel
theorem dX13_trim_23 : decode cX13_trim 23 = .ok (.aload_n 0, 1) := by decide +kernel
theorem dX13_trim_24 : decode cX13_trim 24 = .ok (.iload_n 1, 1) := by decide +kernel
theorem dX13_trim_25 : decode cX13_trim 25 = .ok (.putfield 72, 3) := by decide +kernel
theorem dX13_trim_28 : decode cX13_trim 28 = .ok (.iload_n 1, 1) := by decide +kernel
theorem dX13_trim_29 : decode cX13_trim 29 = .ok (.ireturn, 1) := by decide +kernel
theorem dX13_teach_0 : decode cX13_teach 0 = .ok (.aload_n 0, 1) := by decide +kernel
theorem dX13_teach_1 : decode cX13_teach 1 = .ok (.iconst 0, 1) := by decide +kernel
theorem dX13_teach_2 : decode cX13_teach 2 = .ok (.putfield 65, 3) := by decide +kernel
theorem dX13_teach_5 : decode cX13_teach 5 = .ok (.aload_n 0, 1) := by decide +kernel
theorem dX13_teach_6 : decode cX13_teach 6 = .ok (.iconst 0, 1) := by decide +kernel
theorem dX13_teach_7 : decode cX13_teach 7 = .ok (.putfield 120, 3) := by decide +kernel
theorem dX13_teach_10 : decode cX13_teach 10 = .ok (.aload_n 0, 1) := by decide +kernel
theorem dX13_teach_11 : decode cX13_teach 11 = .ok (.iconst 0, 1) := by decide +kernel
theorem dX13_teach_12 : decode cX13_teach 12 = .ok (.putfield 116, 3) := by decide +kernel
theorem dX13_teach_15 : decode cX13_teach 15 = .ok (.aload_n 0, 1) := by decide +kernel
theorem dX13_teach_16 : decode cX13_teach 16 = .ok (.iconst 0, 1) := by decide +kernel
theorem dX13_teach_17 : decode cX13_teach 17 = .ok (.putfield 123, 3) := by decide +kernel
theorem dX13_teach_20 : decode cX13_teach 20 = .ok (.aload_n 0, 1) := by decide +kernel
theorem dX13_teach_21 : decode cX13_teach 21 = .ok (.iconst 0, 1) := by decide +kernel
theorem dX13_teach_22 : decode cX13_teach 22 = .ok (.putfield 135, 3) := by decide +kernel
theorem dX13_teach_25 : decode cX13_teach 25 = .ok (.aload_n 0, 1) := by decide +kernel
theorem dX13_teach_26 : decode cX13_teach 26 = .ok (.getfield 39, 3) := by decide +kernel
theorem dX13_teach_29 : decode cX13_teach 29 = .ok (.invokevirtual 257, 3) := by decide +kernel
theorem dX13_teach_32 : decode cX13_teach 32 = .ok (.aload_n 0, 1) := by decide +kernel
theorem dX13_teach_33 : decode cX13_teach 33 = .ok (.invokevirtual 258, 3) := by decide +kernel
theorem dX13_teach_36 : decode cX13_teach 36 = .ok (.aload_n 0, 1) := by decide +kernel
theorem dX13_teach_37 : decode cX13_teach 37 = .ok (.invokevirtual 261, 3) := by decide +kernel
theorem dX13_teach_40 : decode cX13_teach 40 = .ok (.aload_n 0, 1) := by decide +kernel
theorem dX13_teach_41 : decode cX13_teach 41 = .ok (.iconst 0, 1) := by decide +kernel
theorem dX13_teach_42 : decode cX13_teach 42 = .ok (.putfield 72, 3) := by decide +kernel
theorem dX13_teach_45 : decode cX13_teach 45 = .ok (.aload_n 0, 1) := by decide +kernel
theorem dX13_teach_46 : decode cX13_teach 46 = .ok (.aload_n 0, 1) := by decide +kernel
theorem dX13_teach_47 : decode cX13_teach 47 = .ok (.getfield 123, 3) := by decide +kernel
theorem dX13_teach_50 : decode cX13_teach 50 = .ok (.ifCond .ne 7, 3) := by decide +kernel
theorem dX13_teach_53 : decode cX13_teach 53 = .ok (.iconst (-1), 1) := by decide +kernel
theorem dX13_teach_54 : decode cX13_teach 54 = .ok (.goto 12, 3) := by decide +kernel
theorem dX13_teach_57 : decode cX13_teach 57 = .ok (.aload_n 0, 1) := by decide +kernel
theorem dX13_teach_58 : decode cX13_teach 58 = .ok (.getfield 23, 3) := by decide +kernel
theorem dX13_teach_61 : decode cX13_teach 61 = .ok (.aload_n 0, 1) := by decide +kernel
theorem dX13_teach_62 : decode cX13_teach 62 = .ok (.getfield 126, 3) := by decide +kernel
theorem dX13_teach_65 : decode cX13_teach 65 = .ok (.iaload, 1) := by decide +kernel
theorem dX13_teach_66 : decode cX13_teach 66 = .ok (.putfield 13, 3) := by decide +kernel
theorem dX13_teach_69 : decode cX13_teach 69 = .ok (.aload_n 0, 1) := by decide +kernel
theorem dX13_teach_70 : decode cX13_teach 70 = .ok (.getfield 123, 3) := by decide +kernel
theorem dX13_teach_73 : decode cX13_teach 73 = .ok (.ifCond .eq 8, 3) := by decide +kernel
theorem dX13_teach_76 : decode cX13_teach 76 = .ok (.aload_n 0, 1) := by decide +kernel
theorem dX13_teach_77 : decode cX13_teach 77 = .ok (.getfield 123, 3) := by decide +kernel
theorem dX13_teach_80 : decode cX13_teach 80 = .ok (.ireturn, 1) := by decide +kernel
theorem dX13_teach_81 : decode cX13_teach 81 = .ok (.aload_n 0, 1) := by decide +kernel
theorem dX13_teach_82 : decode cX13_teach 82 = .ok (.getfield 35, 3) := by decide +kernel
theorem dX13_teach_85 : decode cX13_teach 85 = .ok (.aload_n 0, 1) := by decide +kernel
theorem dX13_teach_86 : decode cX13_teach 86 = .ok (.getfield 39, 3) := by decide +kernel
theorem dX13_teach_89 : decode cX13_teach 89 = .ok (.invokevirtual 264, 3) := by decide +kernel
theorem dX13_teach_92 : decode cX13_teach 92 = .ok (.aload_n 0, 1) := by decide +kernel
theorem dX13_teach_93 : decode cX13_teach 93 = .ok (.getfield 48, 3) := by decide +kernel
theorem dX13_teach_96 : decode cX13_teach 96 = .ok (.invokevirtual 62, 3) := by decide +kernel
theorem dX13_teach_99 : decode cX13_teach 99 = .ok (.iconst 0, 1) := by decide +kernel
theorem dX13_teach_100 : decode cX13_teach 100 = .ok (.ireturn, 1) := by decide +kernel
theorem dX13_errorAt_0 : decode cX13_errorAt 0 = .ok (.aload_n 0, 1) := by decide +kernel
theorem dX13_errorAt_1 : decode cX13_errorAt 1 = .ok (.aload_n 0, 1) := by decide +kernel
theorem dX13_errorAt_2 : decode cX13_errorAt 2 = .ok (.getfield 13, 3) := by decide +kernel
theorem dX13_errorAt_5 : decode cX13_errorAt 5 = .ok (.invokevirtual 268, 3) := by decide +kernel
theorem dX13_errorAt_8 : decode cX13_errorAt 8 = .ok (.ireturn, 1) := by decide +kernel
theorem dX13_cells_0 : decode cX13_cells 0 = .ok (.aload_n 0, 1) := by decide +kernel
theorem dX13_cells_1 : decode cX13_cells 1 = .ok (.getfield 35, 3) := by decide +kernel
theorem dX13_cells_4 : decode cX13_cells 4 = .ok (.getfield 245, 3) := by decide +kernel
theorem dX13_cells_7 : decode cX13_cells 7 = .ok (.aload_n 0, 1) := by decide +kernel
theorem dX13_cells_8 : decode cX13_cells 8 = .ok (.getfield 35, 3) := by decide +kernel
theorem dX13_cells_11 : decode cX13_cells 11 = .ok (.getfield 248, 3) := by decide +kernel
theorem dX13_cells_14 : decode cX13_cells 14 = .ok (.imul, 1) := by decide +kernel
theorem dX13_cells_15 : decode cX13_cells 15 = .ok (.ireturn, 1) := by decide +kernel
theorem dX13_beside_0 : decode cX13_beside 0 = .ok (.iload_n 1, 1) := by decide +kernel
theorem dX13_beside_1 : decode cX13_beside 1 = .ok (.aload_n 0, 1) := by decide +kernel
theorem dX13_beside_2 : decode cX13_beside 2 = .ok (.getfield 35, 3) := by decide +kernel
theorem dX13_beside_5 : decode cX13_beside 5 = .ok (.getfield 245, 3) := by decide +kernel
theorem dX13_beside_8 : decode cX13_beside 8 = .ok (.irem, 1) := by decide +kernel
theorem dX13_beside_9 : decode cX13_beside 9 = .ok (.getstatic 271, 3) := by decide +kernel
theorem dX13_beside_12 : decode cX13_beside 12 = .ok (.iload_n 2, 1) := by decide +kernel
theorem dX13_beside_13 : decode cX13_beside 13 = .ok (.iaload, 1) := by decide +kernel
theorem dX13_beside_14 : decode cX13_beside 14 = .ok (.iadd, 1) := by decide +kernel
theorem dX13_beside_15 : decode cX13_beside 15 = .ok (.istore_n 3, 1) := by decide +kernel
theorem dX13_beside_16 : decode cX13_beside 16 = .ok (.iload_n 1, 1) := by decide +kernel
theorem dX13_beside_17 : decode cX13_beside 17 = .ok (.aload_n 0, 1) := by decide +kernel
theorem dX13_beside_18 : decode cX13_beside 18 = .ok (.getfield 35, 3) := by decide +kernel
theorem dX13_beside_21 : decode cX13_beside 21 = .ok (.getfield 245, 3) := by decide +kernel
theorem dX13_beside_24 : decode cX13_beside 24 = .ok (.idiv, 1) := by decide +kernel
theorem dX13_beside_25 : decode cX13_beside 25 = .ok (.getstatic 274, 3) := by decide +kernel
theorem dX13_beside_28 : decode cX13_beside 28 = .ok (.iload_n 2, 1) := by decide +kernel
theorem dX13_beside_29 : decode cX13_beside 29 = .ok (.iaload, 1) := by decide +kernel
theorem dX13_beside_30 : decode cX13_beside 30 = .ok (.iadd, 1) := by decide +kernel
theorem dX13_beside_31 : decode cX13_beside 31 = .ok (.istore 4, 2) := by decide +kernel
theorem dX13_beside_33 : decode cX13_beside 33 = .ok (.iload_n 3, 1) := by decide +kernel
theorem dX13_beside_34 : decode cX13_beside 34 = .ok (.iconst 0, 1) := by decide +kernel
theorem dX13_beside_35 : decode cX13_beside 35 = .ok (.aload_n 0, 1) := by decide +kernel
theorem dX13_beside_36 : decode cX13_beside 36 = .ok (.getfield 35, 3) := by decide +kernel
theorem dX13_beside_39 : decode cX13_beside 39 = .ok (.getfield 245, 3) := by decide +kernel
theorem dX13_beside_42 : decode cX13_beside 42 = .ok (.iconst 1, 1) := by decide +kernel
theorem dX13_beside_43 : decode cX13_beside 43 = .ok (.isub, 1) := by decide +kernel
theorem dX13_beside_44 : decode cX13_beside 44 = .ok (.invokestatic 68, 3) := by decide +kernel
theorem dX13_beside_47 : decode cX13_beside 47 = .ok (.ifCond .eq 36, 3) := by decide +kernel
theorem dX13_beside_50 : decode cX13_beside 50 = .ok (.iload 4, 2) := by decide +kernel
theorem dX13_beside_52 : decode cX13_beside 52 = .ok (.iconst 0, 1) := by decide +kernel
theorem dX13_beside_53 : decode cX13_beside 53 = .ok (.aload_n 0, 1) := by decide +kernel
theorem dX13_beside_54 : decode cX13_beside 54 = .ok (.getfield 35, 3) := by decide +kernel
theorem dX13_beside_57 : decode cX13_beside 57 = .ok (.getfield 248, 3) := by decide +kernel
theorem dX13_beside_60 : decode cX13_beside 60 = .ok (.iconst 1, 1) := by decide +kernel
theorem dX13_beside_61 : decode cX13_beside 61 = .ok (.isub, 1) := by decide +kernel
theorem dX13_beside_62 : decode cX13_beside 62 = .ok (.invokestatic 68, 3) := by decide +kernel
theorem dX13_beside_65 : decode cX13_beside 65 = .ok (.ifCond .eq 18, 3) := by decide +kernel
theorem dX13_beside_68 : decode cX13_beside 68 = .ok (.iload 4, 2) := by decide +kernel
theorem dX13_beside_70 : decode cX13_beside 70 = .ok (.aload_n 0, 1) := by decide +kernel
theorem dX13_beside_71 : decode cX13_beside 71 = .ok (.getfield 35, 3) := by decide +kernel
theorem dX13_beside_74 : decode cX13_beside 74 = .ok (.getfield 245, 3) := by decide +kernel
theorem dX13_beside_77 : decode cX13_beside 77 = .ok (.imul, 1) := by decide +kernel
theorem dX13_beside_78 : decode cX13_beside 78 = .ok (.iload_n 3, 1) := by decide +kernel
theorem dX13_beside_79 : decode cX13_beside 79 = .ok (.iadd, 1) := by decide +kernel
theorem dX13_beside_80 : decode cX13_beside 80 = .ok (.goto 4, 3) := by decide +kernel
theorem dX13_beside_83 : decode cX13_beside 83 = .ok (.iconst (-1), 1) := by decide +kernel
theorem dX13_beside_84 : decode cX13_beside 84 = .ok (.ireturn, 1) := by decide +kernel
theorem dX13_tileBeside_0 : decode cX13_tileBeside 0 = .ok (.aload_n 0, 1) := by decide +kernel
theorem dX13_tileBeside_1 : decode cX13_tileBeside 1 = .ok (.iload_n 2, 1) := by decide +kernel
theorem dX13_tileBeside_2 : decode cX13_tileBeside 2 = .ok (.iload_n 3, 1) := by decide +kernel
theorem dX13_tileBeside_3 : decode cX13_tileBeside 3 = .ok (.invokevirtual 277, 3) := by decide +kernel
theorem dX13_tileBeside_6 : decode cX13_tileBeside 6 = .ok (.istore 4, 2) := by decide +kernel
theorem dX13_tileBeside_8 : decode cX13_tileBeside 8 = .ok (.iload 4, 2) := by decide +kernel
theorem dX13_tileBeside_10 : decode cX13_tileBeside 10 = .ok (.iconst (-1), 1) := by decide +kernel
theorem dX13_tileBeside_11 : decode cX13_tileBeside 11 = .ok (.if_icmp .ne 7, 3) := by decide +kernel
theorem dX13_tileBeside_14 : decode cX13_tileBeside 14 = .ok (.iconst (-1), 1) := by decide +kernel
theorem dX13_tileBeside_15 : decode cX13_tileBeside 15 = .ok (.goto 10, 3) := by decide +kernel
theorem dX13_tileBeside_18 : decode cX13_tileBeside 18 = .ok (.aload_n 1, 1) := by decide +kernel
theorem dX13_tileBeside_19 : decode cX13_tileBeside 19 = .ok (.getfield 280, 3) := by decide +kernel
theorem dX13_tileBeside_22 : decode cX13_tileBeside 22 = .ok (.iload 4, 2) := by decide +kernel
theorem dX13_tileBeside_24 : decode cX13_tileBeside 24 = .ok (.iaload, 1) := by decide +kernel
theorem dX13_tileBeside_25 : decode cX13_tileBeside 25 = .ok (.ireturn, 1) := by decide +kernel
theorem dX13_numberOf_0 : decode cX13_numberOf 0 = .ok (.aload_n 0, 1) := by decide +kernel
theorem dX13_numberOf_1 : decode cX13_numberOf 1 = .ok (.getfield 35, 3) := by decide +kernel
theorem dX13_numberOf_4 : decode cX13_numberOf 4 = .ok (.getfield 214, 3) := by decide +kernel
theorem dX13_numberOf_7 : decode cX13_numberOf 7 = .ok (.iconst 3, 1) := by decide +kernel
theorem dX13_numberOf_8 : decode cX13_numberOf 8 = .ok (.iload_n 1, 1) := by decide +kernel
theorem dX13_numberOf_9 : decode cX13_numberOf 9 = .ok (.imul, 1) := by decide +kernel
theorem dX13_numberOf_10 : decode cX13_numberOf 10 = .ok (.iload_n 3, 1) := by decide +kernel
theorem dX13_numberOf_11 : decode cX13_numberOf 11 = .ok (.iload_n 2, 1) := by decide +kernel
theorem dX13_numberOf_12 : decode cX13_numberOf 12 = .ok (.isub, 1) := by decide +kernel
theorem dX13_numberOf_13 : decode cX13_numberOf 13 = .ok (.bipush 6, 2) := by decide +kernel
theorem dX13_numberOf_15 : decode cX13_numberOf 15 = .ok (.iadd, 1) := by decide +kernel
theorem dX13_numberOf_16 : decode cX13_numberOf 16 = .ok (.bipush 6, 2) := by decide +kernel
theorem dX13_numberOf_18 : decode cX13_numberOf 18 = .ok (.irem, 1) := by decide +kernel
theorem dX13_numberOf_19 : decode cX13_numberOf 19 = .ok (.iconst 2, 1) := by decide +kernel
theorem dX13_numberOf_20 : decode cX13_numberOf 20 = .ok (.idiv, 1) := by decide +kernel
theorem dX13_numberOf_21 : decode cX13_numberOf 21 = .ok (.iadd, 1) := by decide +kernel
theorem dX13_numberOf_22 : decode cX13_numberOf 22 = .ok (.iaload, 1) := by decide +kernel
theorem dX13_numberOf_23 : decode cX13_numberOf 23 = .ok (.ireturn, 1) := by decide +kernel
theorem dX13_numberAt_0 : decode cX13_numberAt 0 = .ok (.aload_n 0, 1) := by decide +kernel
theorem dX13_numberAt_1 : decode cX13_numberAt 1 = .ok (.aload_n 1, 1) := by decide +kernel
theorem dX13_numberAt_2 : decode cX13_numberAt 2 = .ok (.getfield 280, 3) := by decide +kernel
theorem dX13_numberAt_5 : decode cX13_numberAt 5 = .ok (.iload_n 2, 1) := by decide +kernel
theorem dX13_numberAt_6 : decode cX13_numberAt 6 = .ok (.iaload, 1) := by decide +kernel
theorem dX13_numberAt_7 : decode cX13_numberAt 7 = .ok (.aload_n 1, 1) := by decide +kernel
theorem dX13_numberAt_8 : decode cX13_numberAt 8 = .ok (.getfield 283, 3) := by decide +kernel
theorem dX13_numberAt_11 : decode cX13_numberAt 11 = .ok (.aload_n 1, 1) := by decide +kernel
theorem dX13_numberAt_12 : decode cX13_numberAt 12 = .ok (.getfield 280, 3) := by decide +kernel
theorem dX13_numberAt_15 : decode cX13_numberAt 15 = .ok (.iload_n 2, 1) := by decide +kernel
theorem dX13_numberAt_16 : decode cX13_numberAt 16 = .ok (.iaload, 1) := by decide +kernel
theorem dX13_numberAt_17 : decode cX13_numberAt 17 = .ok (.iaload, 1) := by decide +kernel
theorem dX13_numberAt_18 : decode cX13_numberAt 18 = .ok (.iload_n 3, 1) := by decide +kernel
theorem dX13_numberAt_19 : decode cX13_numberAt 19 = .ok (.invokevirtual 286, 3) := by decide +kernel
theorem dX13_numberAt_22 : decode cX13_numberAt 22 = .ok (.ireturn, 1) := by decide +kernel
theorem dX13_against_0 : decode cX13_against 0 = .ok (.iconst 0, 1) := by decide +kernel
theorem dX13_against_1 : decode cX13_against 1 = .ok (.istore 5, 2) := by decide +kernel
theorem dX13_against_3 : decode cX13_against 3 = .ok (.iload 5, 2) := by decide +kernel
theorem dX13_against_5 : decode cX13_against 5 = .ok (.bipush 6, 2) := by decide +kernel
theorem dX13_against_7 : decode cX13_against 7 = .ok (.if_icmp .ge 60, 3) := by decide +kernel
theorem dX13_against_10 : decode cX13_against 10 = .ok (.aload_n 0, 1) := by decide +kernel
theorem dX13_against_11 : decode cX13_against 11 = .ok (.aload_n 1, 1) := by decide +kernel
theorem dX13_against_12 : decode cX13_against 12 = .ok (.iload_n 3, 1) := by decide +kernel
theorem dX13_against_13 : decode cX13_against 13 = .ok (.iload 5, 2) := by decide +kernel
theorem dX13_against_15 : decode cX13_against 15 = .ok (.invokevirtual 289, 3) := by decide +kernel
theorem dX13_against_18 : decode cX13_against 18 = .ok (.istore 6, 2) := by decide +kernel
theorem dX13_against_20 : decode cX13_against 20 = .ok (.iload 6, 2) := by decide +kernel
theorem dX13_against_22 : decode cX13_against 22 = .ok (.iconst (-1), 1) := by decide +kernel
theorem dX13_against_23 : decode cX13_against 23 = .ok (.if_icmp .eq 38, 3) := by decide +kernel
theorem dX13_against_26 : decode cX13_against 26 = .ok (.aload_n 0, 1) := by decide +kernel
theorem dX13_against_27 : decode cX13_against 27 = .ok (.iload 6, 2) := by decide +kernel
theorem dX13_against_29 : decode cX13_against 29 = .ok (.aload_n 1, 1) := by decide +kernel
theorem dX13_against_30 : decode cX13_against 30 = .ok (.getfield 283, 3) := by decide +kernel
theorem dX13_against_33 : decode cX13_against 33 = .ok (.iload 6, 2) := by decide +kernel
theorem dX13_against_35 : decode cX13_against 35 = .ok (.iaload, 1) := by decide +kernel
theorem dX13_against_36 : decode cX13_against 36 = .ok (.iload 5, 2) := by decide +kernel
theorem dX13_against_38 : decode cX13_against 38 = .ok (.iconst 3, 1) := by decide +kernel
theorem dX13_against_39 : decode cX13_against 39 = .ok (.iadd, 1) := by decide +kernel
theorem dX13_against_40 : decode cX13_against 40 = .ok (.bipush 6, 2) := by decide +kernel
theorem dX13_against_42 : decode cX13_against 42 = .ok (.irem, 1) := by decide +kernel
theorem dX13_against_43 : decode cX13_against 43 = .ok (.invokevirtual 286, 3) := by decide +kernel
theorem dX13_against_46 : decode cX13_against 46 = .ok (.aload_n 0, 1) := by decide +kernel
theorem dX13_against_47 : decode cX13_against 47 = .ok (.iload_n 2, 1) := by decide +kernel
theorem dX13_against_48 : decode cX13_against 48 = .ok (.iload 4, 2) := by decide +kernel
theorem dX13_against_50 : decode cX13_against 50 = .ok (.iload 5, 2) := by decide +kernel
theorem dX13_against_52 : decode cX13_against 52 = .ok (.invokevirtual 286, 3) := by decide +kernel
theorem dX13_against_55 : decode cX13_against 55 = .ok (.if_icmp .eq 6, 3) := by decide +kernel
theorem dX13_against_58 : decode cX13_against 58 = .ok (.iload 5, 2) := by decide +kernel
theorem dX13_against_60 : decode cX13_against 60 = .ok (.ireturn, 1) := by decide +kernel
theorem dX13_against_61 : decode cX13_against 61 = .ok (.iinc 5 1, 3) := by decide +kernel
theorem dX13_against_64 : decode cX13_against 64 = .ok (.goto (-61), 3) := by decide +kernel
theorem dX13_against_67 : decode cX13_against 67 = .ok (.iconst (-1), 1) := by decide +kernel
theorem dX13_against_68 : decode cX13_against 68 = .ok (.ireturn, 1) := by decide +kernel
