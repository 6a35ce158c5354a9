theorem d_X_init_0 : decode c_X_init 0 = .ok (.aload_n 0, 1) := by decide +kernel
theorem d_X_init_1 : decode c_X_init 1 = .ok (.invokespecial 3, 3) := by decide +kernel
theorem d_X_init_4 : decode c_X_init 4 = .ok (.aload_n 0, 1) := by decide +kernel
theorem d_X_init_5 : decode c_X_init 5 = .ok (.sipush 512, 3) := by decide +kernel
theorem d_X_init_8 : decode c_X_init 8 = .ok (.newarray .int, 2) := by decide +kernel
theorem d_X_init_10 : decode c_X_init 10 = .ok (.putfield 9, 3) := by decide +kernel
theorem d_X_init_13 : decode c_X_init 13 = .ok (.aload_n 0, 1) := by decide +kernel
theorem d_X_init_14 : decode c_X_init 14 = .ok (.sipush 512, 3) := by decide +kernel
theorem d_X_init_17 : decode c_X_init 17 = .ok (.newarray .int, 2) := by decide +kernel
theorem d_X_init_19 : decode c_X_init 19 = .ok (.putfield 13, 3) := by decide +kernel
theorem d_X_init_22 : decode c_X_init 22 = .ok (.aload_n 0, 1) := by decide +kernel
theorem d_X_init_23 : decode c_X_init 23 = .ok (.sipush 1024, 3) := by decide +kernel
theorem d_X_init_26 : decode c_X_init 26 = .ok (.invokevirtual 16, 3) := by decide +kernel
theorem d_X_init_29 : decode c_X_init 29 = .ok (.return_, 1) := by decide +kernel
theorem d_X_space_0 : decode c_X_space 0 = .ok (.iload_n 1, 1) := by decide +kernel
theorem d_X_space_1 : decode c_X_space 1 = .ok (.iconst 1, 1) := by decide +kernel
theorem d_X_space_2 : decode c_X_space 2 = .ok (.if_icmp .lt 10, 3) := by decide +kernel
theorem d_X_space_5 : decode c_X_space 5 = .ok (.iload_n 1, 1) := by decide +kernel
theorem d_X_space_6 : decode c_X_space 6 = .ok (.sipush 16384, 3) := by decide +kernel
theorem d_X_space_9 : decode c_X_space 9 = .ok (.if_icmp .le 13, 3) := by decide +kernel
theorem d_X_space_12 : decode c_X_space 12 = .ok (.new 20, 3) := by decide +kernel
theorem d_X_space_15 : decode c_X_space 15 = .ok (.dup, 1) := by decide +kernel
theorem d_X_space_16 : decode c_X_space 16 = .ok (.ldc 22, 2) := by decide +kernel
theorem d_X_space_18 : decode c_X_space 18 = .ok (.invokespecial 24, 3) := by decide +kernel
theorem d_X_space_21 : decode c_X_space 21 = .ok (.athrow, 1) := by decide +kernel
theorem d_X_space_22 : decode c_X_space 22 = .ok (.aload_n 0, 1) := by decide +kernel
theorem d_X_space_23 : decode c_X_space 23 = .ok (.getfield 27, 3) := by decide +kernel
theorem d_X_space_26 : decode c_X_space 26 = .ok (.istore_n 2, 1) := by decide +kernel
theorem d_X_space_27 : decode c_X_space 27 = .ok (.aload_n 0, 1) := by decide +kernel
theorem d_X_space_28 : decode c_X_space 28 = .ok (.iload_n 1, 1) := by decide +kernel
theorem d_X_space_29 : decode c_X_space 29 = .ok (.invokevirtual 16, 3) := by decide +kernel
theorem d_X_space_32 : decode c_X_space 32 = .ok (.iload_n 2, 1) := by decide +kernel
theorem d_X_space_33 : decode c_X_space 33 = .ok (.ireturn, 1) := by decide +kernel
theorem d_X_cut_0 : decode c_X_cut 0 = .ok (.aload_n 0, 1) := by decide +kernel
theorem d_X_cut_1 : decode c_X_cut 1 = .ok (.iload_n 1, 1) := by decide +kernel
theorem d_X_cut_2 : decode c_X_cut 2 = .ok (.invokevirtual 31, 3) := by decide +kernel
theorem d_X_cut_5 : decode c_X_cut 5 = .ok (.iload_n 1, 1) := by decide +kernel
theorem d_X_cut_6 : decode c_X_cut 6 = .ok (.aload_n 0, 1) := by decide +kernel
theorem d_X_cut_7 : decode c_X_cut 7 = .ok (.iload_n 1, 1) := by decide +kernel
theorem d_X_cut_8 : decode c_X_cut 8 = .ok (.invokevirtual 34, 3) := by decide +kernel
theorem d_X_cut_11 : decode c_X_cut 11 = .ok (.isub, 1) := by decide +kernel
theorem d_X_cut_12 : decode c_X_cut 12 = .ok (.istore_n 2, 1) := by decide +kernel
theorem d_X_cut_13 : decode c_X_cut 13 = .ok (.aload_n 0, 1) := by decide +kernel
theorem d_X_cut_14 : decode c_X_cut 14 = .ok (.iload_n 1, 1) := by decide +kernel
theorem d_X_cut_15 : decode c_X_cut 15 = .ok (.invokevirtual 38, 3) := by decide +kernel
theorem d_X_cut_18 : decode c_X_cut 18 = .ok (.iload_n 2, 1) := by decide +kernel
theorem d_X_cut_19 : decode c_X_cut 19 = .ok (.ireturn, 1) := by decide +kernel
theorem d_X_join_0 : decode c_X_join 0 = .ok (.aload_n 0, 1) := by decide +kernel
theorem d_X_join_1 : decode c_X_join 1 = .ok (.iload_n 1, 1) := by decide +kernel
theorem d_X_join_2 : decode c_X_join 2 = .ok (.invokevirtual 31, 3) := by decide +kernel
theorem d_X_join_5 : decode c_X_join 5 = .ok (.aload_n 0, 1) := by decide +kernel
theorem d_X_join_6 : decode c_X_join 6 = .ok (.iload_n 1, 1) := by decide +kernel
theorem d_X_join_7 : decode c_X_join 7 = .ok (.invokevirtual 41, 3) := by decide +kernel
theorem d_X_join_10 : decode c_X_join 10 = .ok (.istore_n 2, 1) := by decide +kernel
theorem d_X_join_11 : decode c_X_join 11 = .ok (.iload_n 2, 1) := by decide +kernel
theorem d_X_join_12 : decode c_X_join 12 = .ok (.aload_n 0, 1) := by decide +kernel
theorem d_X_join_13 : decode c_X_join 13 = .ok (.getfield 27, 3) := by decide +kernel
theorem d_X_join_16 : decode c_X_join 16 = .ok (.if_icmp .lt 5, 3) := by decide +kernel
theorem d_X_join_19 : decode c_X_join 19 = .ok (.iconst 0, 1) := by decide +kernel
theorem d_X_join_20 : decode c_X_join 20 = .ok (.ireturn, 1) := by decide +kernel
theorem d_X_join_21 : decode c_X_join 21 = .ok (.aload_n 0, 1) := by decide +kernel
theorem d_X_join_22 : decode c_X_join 22 = .ok (.iload_n 1, 1) := by decide +kernel
theorem d_X_join_23 : decode c_X_join 23 = .ok (.invokevirtual 34, 3) := by decide +kernel
theorem d_X_join_26 : decode c_X_join 26 = .ok (.istore_n 3, 1) := by decide +kernel
theorem d_X_join_27 : decode c_X_join 27 = .ok (.aload_n 0, 1) := by decide +kernel
theorem d_X_join_28 : decode c_X_join 28 = .ok (.iload_n 2, 1) := by decide +kernel
theorem d_X_join_29 : decode c_X_join 29 = .ok (.invokevirtual 41, 3) := by decide +kernel
theorem d_X_join_32 : decode c_X_join 32 = .ok (.istore 4, 2) := by decide +kernel
theorem d_X_join_34 : decode c_X_join 34 = .ok (.aload_n 0, 1) := by decide +kernel
theorem d_X_join_35 : decode c_X_join 35 = .ok (.iload_n 3, 1) := by decide +kernel
theorem d_X_join_36 : decode c_X_join 36 = .ok (.iload 4, 2) := by decide +kernel
theorem d_X_join_38 : decode c_X_join 38 = .ok (.invokevirtual 44, 3) := by decide +kernel
theorem d_X_join_41 : decode c_X_join 41 = .ok (.iload 4, 2) := by decide +kernel
theorem d_X_join_43 : decode c_X_join 43 = .ok (.iload_n 3, 1) := by decide +kernel
theorem d_X_join_44 : decode c_X_join 44 = .ok (.isub, 1) := by decide +kernel
theorem d_X_join_45 : decode c_X_join 45 = .ok (.ireturn, 1) := by decide +kernel
theorem d_X_make_0 : decode c_X_make 0 = .ok (.aload_n 0, 1) := by decide +kernel
theorem d_X_make_1 : decode c_X_make 1 = .ok (.iload_n 1, 1) := by decide +kernel
theorem d_X_make_2 : decode c_X_make 2 = .ok (.invokevirtual 31, 3) := by decide +kernel
theorem d_X_make_5 : decode c_X_make 5 = .ok (.iload_n 2, 1) := by decide +kernel
theorem d_X_make_6 : decode c_X_make 6 = .ok (.iload_n 1, 1) := by decide +kernel
theorem d_X_make_7 : decode c_X_make 7 = .ok (.if_icmp .le 11, 3) := by decide +kernel
theorem d_X_make_10 : decode c_X_make 10 = .ok (.iload_n 2, 1) := by decide +kernel
theorem d_X_make_11 : decode c_X_make 11 = .ok (.aload_n 0, 1) := by decide +kernel
theorem d_X_make_12 : decode c_X_make 12 = .ok (.getfield 27, 3) := by decide +kernel
theorem d_X_make_15 : decode c_X_make 15 = .ok (.if_icmp .le 13, 3) := by decide +kernel
theorem d_X_make_18 : decode c_X_make 18 = .ok (.new 48, 3) := by decide +kernel
theorem d_X_make_21 : decode c_X_make 21 = .ok (.dup, 1) := by decide +kernel
theorem d_X_make_22 : decode c_X_make 22 = .ok (.ldc 50, 2) := by decide +kernel
theorem d_X_make_24 : decode c_X_make 24 = .ok (.invokespecial 52, 3) := by decide +kernel
theorem d_X_make_27 : decode c_X_make 27 = .ok (.athrow, 1) := by decide +kernel
theorem d_X_make_28 : decode c_X_make 28 = .ok (.aload_n 0, 1) := by decide +kernel
theorem d_X_make_29 : decode c_X_make 29 = .ok (.iload_n 1, 1) := by decide +kernel
theorem d_X_make_30 : decode c_X_make 30 = .ok (.invokevirtual 38, 3) := by decide +kernel
theorem d_X_make_33 : decode c_X_make 33 = .ok (.iload_n 2, 1) := by decide +kernel
theorem d_X_make_34 : decode c_X_make 34 = .ok (.aload_n 0, 1) := by decide +kernel
theorem d_X_make_35 : decode c_X_make 35 = .ok (.getfield 27, 3) := by decide +kernel
theorem d_X_make_38 : decode c_X_make 38 = .ok (.if_icmp .ge 8, 3) := by decide +kernel
theorem d_X_make_41 : decode c_X_make 41 = .ok (.aload_n 0, 1) := by decide +kernel
theorem d_X_make_42 : decode c_X_make 42 = .ok (.iload_n 2, 1) := by decide +kernel
theorem d_X_make_43 : decode c_X_make 43 = .ok (.invokevirtual 38, 3) := by decide +kernel
theorem d_X_make_46 : decode c_X_make 46 = .ok (.aload_n 0, 1) := by decide +kernel
theorem d_X_make_47 : decode c_X_make 47 = .ok (.iload_n 1, 1) := by decide +kernel
theorem d_X_make_48 : decode c_X_make 48 = .ok (.iload_n 2, 1) := by decide +kernel
theorem d_X_make_49 : decode c_X_make 49 = .ok (.invokevirtual 44, 3) := by decide +kernel
theorem d_X_make_52 : decode c_X_make 52 = .ok (.aload_n 0, 1) := by decide +kernel
theorem d_X_make_53 : decode c_X_make 53 = .ok (.getfield 53, 3) := by decide +kernel
theorem d_X_make_56 : decode c_X_make 56 = .ok (.ireturn, 1) := by decide +kernel
theorem d_X_begin_0 : decode c_X_begin 0 = .ok (.aload_n 0, 1) := by decide +kernel
theorem d_X_begin_1 : decode c_X_begin 1 = .ok (.iload_n 1, 1) := by decide +kernel
theorem d_X_begin_2 : decode c_X_begin 2 = .ok (.invokevirtual 31, 3) := by decide +kernel
theorem d_X_begin_5 : decode c_X_begin 5 = .ok (.aload_n 0, 1) := by decide +kernel
theorem d_X_begin_6 : decode c_X_begin 6 = .ok (.iload_n 1, 1) := by decide +kernel
theorem d_X_begin_7 : decode c_X_begin 7 = .ok (.invokevirtual 34, 3) := by decide +kernel
theorem d_X_begin_10 : decode c_X_begin 10 = .ok (.ireturn, 1) := by decide +kernel
theorem d_X_size_0 : decode c_X_size 0 = .ok (.aload_n 0, 1) := by decide +kernel
theorem d_X_size_1 : decode c_X_size 1 = .ok (.iload_n 1, 1) := by decide +kernel
theorem d_X_size_2 : decode c_X_size 2 = .ok (.invokevirtual 31, 3) := by decide +kernel
theorem d_X_size_5 : decode c_X_size 5 = .ok (.aload_n 0, 1) := by decide +kernel
theorem d_X_size_6 : decode c_X_size 6 = .ok (.iload_n 1, 1) := by decide +kernel
theorem d_X_size_7 : decode c_X_size 7 = .ok (.invokevirtual 41, 3) := by decide +kernel
theorem d_X_size_10 : decode c_X_size 10 = .ok (.aload_n 0, 1) := by decide +kernel
theorem d_X_size_11 : decode c_X_size 11 = .ok (.iload_n 1, 1) := by decide +kernel
theorem d_X_size_12 : decode c_X_size 12 = .ok (.invokevirtual 34, 3) := by decide +kernel
theorem d_X_size_15 : decode c_X_size 15 = .ok (.isub, 1) := by decide +kernel
theorem d_X_size_16 : decode c_X_size 16 = .ok (.ireturn, 1) := by decide +kernel
theorem d_X_start_0 : decode c_X_start 0 = .ok (.aload_n 0, 1) := by decide +kernel
theorem d_X_start_1 : decode c_X_start 1 = .ok (.iload_n 1, 1) := by decide +kernel
theorem d_X_start_2 : decode c_X_start 2 = .ok (.invokevirtual 56, 3) := by decide +kernel
theorem d_X_start_5 : decode c_X_start 5 = .ok (.aload_n 0, 1) := by decide +kernel
theorem d_X_start_6 : decode c_X_start 6 = .ok (.getfield 13, 3) := by decide +kernel
theorem d_X_start_9 : decode c_X_start 9 = .ok (.iload_n 1, 1) := by decide +kernel
theorem d_X_start_10 : decode c_X_start 10 = .ok (.iaload, 1) := by decide +kernel
theorem d_X_start_11 : decode c_X_start 11 = .ok (.ireturn, 1) := by decide +kernel
theorem d_X_begins_0 : decode c_X_begins 0 = .ok (.aload_n 0, 1) := by decide +kernel
theorem d_X_begins_1 : decode c_X_begins 1 = .ok (.iload_n 1, 1) := by decide +kernel
theorem d_X_begins_2 : decode c_X_begins 2 = .ok (.invokevirtual 56, 3) := by decide +kernel
theorem d_X_begins_5 : decode c_X_begins 5 = .ok (.aload_n 0, 1) := by decide +kernel
theorem d_X_begins_6 : decode c_X_begins 6 = .ok (.getfield 9, 3) := by decide +kernel
theorem d_X_begins_9 : decode c_X_begins 9 = .ok (.iload_n 1, 1) := by decide +kernel
theorem d_X_begins_10 : decode c_X_begins 10 = .ok (.iaload, 1) := by decide +kernel
theorem d_X_begins_11 : decode c_X_begins 11 = .ok (.invokestatic 59, 3) := by decide +kernel
theorem d_X_begins_14 : decode c_X_begins 14 = .ok (.ireturn, 1) := by decide +kernel
theorem d_X_count_0 : decode c_X_count 0 = .ok (.iload_n 1, 1) := by decide +kernel
theorem d_X_count_1 : decode c_X_count 1 = .ok (.tableswitch 62 0 4 #[35, 40, 45, 50, 56], 35) := by decide +kernel
theorem d_X_count_36 : decode c_X_count 36 = .ok (.aload_n 0, 1) := by decide +kernel
theorem d_X_count_37 : decode c_X_count 37 = .ok (.getfield 27, 3) := by decide +kernel
theorem d_X_count_40 : decode c_X_count 40 = .ok (.ireturn, 1) := by decide +kernel
theorem d_X_count_41 : decode c_X_count 41 = .ok (.aload_n 0, 1) := by decide +kernel
theorem d_X_count_42 : decode c_X_count 42 = .ok (.invokevirtual 64, 3) := by decide +kernel
theorem d_X_count_45 : decode c_X_count 45 = .ok (.ireturn, 1) := by decide +kernel
theorem d_X_count_46 : decode c_X_count 46 = .ok (.aload_n 0, 1) := by decide +kernel
theorem d_X_count_47 : decode c_X_count 47 = .ok (.getfield 53, 3) := by decide +kernel
theorem d_X_count_50 : decode c_X_count 50 = .ok (.ireturn, 1) := by decide +kernel
theorem d_X_count_51 : decode c_X_count 51 = .ok (.aload_n 0, 1) := by decide +kernel
theorem d_X_count_52 : decode c_X_count 52 = .ok (.iconst 1, 1) := by decide +kernel
theorem d_X_count_53 : decode c_X_count 53 = .ok (.invokevirtual 68, 3) := by decide +kernel
theorem d_X_count_56 : decode c_X_count 56 = .ok (.ireturn, 1) := by decide +kernel
theorem d_X_count_57 : decode c_X_count 57 = .ok (.aload_n 0, 1) := by decide +kernel
theorem d_X_count_58 : decode c_X_count 58 = .ok (.iconst 0, 1) := by decide +kernel
theorem d_X_count_59 : decode c_X_count 59 = .ok (.invokevirtual 68, 3) := by decide +kernel
theorem d_X_count_62 : decode c_X_count 62 = .ok (.ireturn, 1) := by decide +kernel
theorem d_X_count_63 : decode c_X_count 63 = .ok (.new 20, 3) := by decide +kernel
theorem d_X_count_66 : decode c_X_count 66 = .ok (.dup, 1) := by decide +kernel
theorem d_X_count_67 : decode c_X_count 67 = .ok (.ldc 72, 2) := by decide +kernel
theorem d_X_count_69 : decode c_X_count 69 = .ok (.invokespecial 24, 3) := by decide +kernel
theorem d_X_count_72 : decode c_X_count 72 = .ok (.athrow, 1) := by decide +kernel
theorem d_X_checkCell_0 : decode c_X_checkCell 0 = .ok (.iload_n 1, 1) := by decide +kernel
theorem d_X_checkCell_1 : decode c_X_checkCell 1 = .ok (.ifCond .lt 11, 3) := by decide +kernel
theorem d_X_checkCell_4 : decode c_X_checkCell 4 = .ok (.iload_n 1, 1) := by decide +kernel
theorem d_X_checkCell_5 : decode c_X_checkCell 5 = .ok (.aload_n 0, 1) := by decide +kernel
theorem d_X_checkCell_6 : decode c_X_checkCell 6 = .ok (.getfield 27, 3) := by decide +kernel
theorem d_X_checkCell_9 : decode c_X_checkCell 9 = .ok (.if_icmp .lt 13, 3) := by decide +kernel
theorem d_X_checkCell_12 : decode c_X_checkCell 12 = .ok (.new 48, 3) := by decide +kernel
theorem d_X_checkCell_15 : decode c_X_checkCell 15 = .ok (.dup, 1) := by decide +kernel
theorem d_X_checkCell_16 : decode c_X_checkCell 16 = .ok (.ldc 74, 2) := by decide +kernel
theorem d_X_checkCell_18 : decode c_X_checkCell 18 = .ok (.invokespecial 52, 3) := by decide +kernel
theorem d_X_checkCell_21 : decode c_X_checkCell 21 = .ok (.athrow, 1) := by decide +kernel
theorem d_X_checkCell_22 : decode c_X_checkCell 22 = .ok (.return_, 1) := by decide +kernel
theorem d_X_checkCard_0 : decode c_X_checkCard 0 = .ok (.iload_n 1, 1) := by decide +kernel
theorem d_X_checkCard_1 : decode c_X_checkCard 1 = .ok (.ifCond .lt 11, 3) := by decide +kernel
theorem d_X_checkCard_4 : decode c_X_checkCard 4 = .ok (.iload_n 1, 1) := by decide +kernel
theorem d_X_checkCard_5 : decode c_X_checkCard 5 = .ok (.aload_n 0, 1) := by decide +kernel
theorem d_X_checkCard_6 : decode c_X_checkCard 6 = .ok (.invokevirtual 64, 3) := by decide +kernel
theorem d_X_checkCard_9 : decode c_X_checkCard 9 = .ok (.if_icmp .lt 13, 3) := by decide +kernel
theorem d_X_checkCard_12 : decode c_X_checkCard 12 = .ok (.new 48, 3) := by decide +kernel
theorem d_X_checkCard_15 : decode c_X_checkCard 15 = .ok (.dup, 1) := by decide +kernel
theorem d_X_checkCard_16 : decode c_X_checkCard 16 = .ok (.ldc 76, 2) := by decide +kernel
theorem d_X_checkCard_18 : decode c_X_checkCard 18 = .ok (.invokespecial 52, 3) := by decide +kernel
theorem d_X_checkCard_21 : decode c_X_checkCard 21 = .ok (.athrow, 1) := by decide +kernel
theorem d_X_checkCard_22 : decode c_X_checkCard 22 = .ok (.return_, 1) := by decide +kernel
theorem d_X_cardCount_0 : decode c_X_cardCount 0 = .ok (.aload_n 0, 1) := by decide +kernel
theorem d_X_cardCount_1 : decode c_X_cardCount 1 = .ok (.getfield 27, 3) := by decide +kernel
theorem d_X_cardCount_4 : decode c_X_cardCount 4 = .ok (.bipush 32, 2) := by decide +kernel
theorem d_X_cardCount_6 : decode c_X_cardCount 6 = .ok (.iadd, 1) := by decide +kernel
theorem d_X_cardCount_7 : decode c_X_cardCount 7 = .ok (.iconst 1, 1) := by decide +kernel
theorem d_X_cardCount_8 : decode c_X_cardCount 8 = .ok (.isub, 1) := by decide +kernel
theorem d_X_cardCount_9 : decode c_X_cardCount 9 = .ok (.bipush 32, 2) := by decide +kernel
theorem d_X_cardCount_11 : decode c_X_cardCount 11 = .ok (.idiv, 1) := by decide +kernel
theorem d_X_cardCount_12 : decode c_X_cardCount 12 = .ok (.ireturn, 1) := by decide +kernel
theorem d_X_layOnePiece_0 : decode c_X_layOnePiece 0 = .ok (.aload_n 0, 1) := by decide +kernel
theorem d_X_layOnePiece_1 : decode c_X_layOnePiece 1 = .ok (.getfield 9, 3) := by decide +kernel
theorem d_X_layOnePiece_4 : decode c_X_layOnePiece 4 = .ok (.iconst 0, 1) := by decide +kernel
theorem d_X_layOnePiece_5 : decode c_X_layOnePiece 5 = .ok (.invokestatic 78, 3) := by decide +kernel
theorem d_X_layOnePiece_8 : decode c_X_layOnePiece 8 = .ok (.aload_n 0, 1) := by decide +kernel
theorem d_X_layOnePiece_9 : decode c_X_layOnePiece 9 = .ok (.getfield 13, 3) := by decide +kernel
theorem d_X_layOnePiece_12 : decode c_X_layOnePiece 12 = .ok (.iconst 0, 1) := by decide +kernel
theorem d_X_layOnePiece_13 : decode c_X_layOnePiece 13 = .ok (.invokestatic 78, 3) := by decide +kernel
theorem d_X_layOnePiece_16 : decode c_X_layOnePiece 16 = .ok (.aload_n 0, 1) := by decide +kernel
theorem d_X_layOnePiece_17 : decode c_X_layOnePiece 17 = .ok (.getfield 9, 3) := by decide +kernel
theorem d_X_layOnePiece_20 : decode c_X_layOnePiece 20 = .ok (.iconst 0, 1) := by decide +kernel
theorem d_X_layOnePiece_21 : decode c_X_layOnePiece 21 = .ok (.iconst 1, 1) := by decide +kernel
theorem d_X_layOnePiece_22 : decode c_X_layOnePiece 22 = .ok (.iastore, 1) := by decide +kernel
theorem d_X_layOnePiece_23 : decode c_X_layOnePiece 23 = .ok (.aload_n 0, 1) := by decide +kernel
theorem d_X_layOnePiece_24 : decode c_X_layOnePiece 24 = .ok (.iload_n 1, 1) := by decide +kernel
theorem d_X_layOnePiece_25 : decode c_X_layOnePiece 25 = .ok (.putfield 27, 3) := by decide +kernel
theorem d_X_layOnePiece_28 : decode c_X_layOnePiece 28 = .ok (.aload_n 0, 1) := by decide +kernel
theorem d_X_layOnePiece_29 : decode c_X_layOnePiece 29 = .ok (.iconst 1, 1) := by decide +kernel
theorem d_X_layOnePiece_30 : decode c_X_layOnePiece 30 = .ok (.putfield 53, 3) := by decide +kernel
theorem d_X_layOnePiece_33 : decode c_X_layOnePiece 33 = .ok (.return_, 1) := by decide +kernel
theorem d_X_beginOf_0 : decode c_X_beginOf 0 = .ok (.iload_n 1, 1) := by decide +kernel
theorem d_X_beginOf_1 : decode c_X_beginOf 1 = .ok (.bipush 32, 2) := by decide +kernel
theorem d_X_beginOf_3 : decode c_X_beginOf 3 = .ok (.idiv, 1) := by decide +kernel
theorem d_X_beginOf_4 : decode c_X_beginOf 4 = .ok (.istore_n 2, 1) := by decide +kernel
theorem d_X_beginOf_5 : decode c_X_beginOf 5 = .ok (.iconst (-1), 1) := by decide +kernel
theorem d_X_beginOf_6 : decode c_X_beginOf 6 = .ok (.bipush 31, 2) := by decide +kernel
theorem d_X_beginOf_8 : decode c_X_beginOf 8 = .ok (.iload_n 1, 1) := by decide +kernel
theorem d_X_beginOf_9 : decode c_X_beginOf 9 = .ok (.bipush 32, 2) := by decide +kernel
theorem d_X_beginOf_11 : decode c_X_beginOf 11 = .ok (.irem, 1) := by decide +kernel
theorem d_X_beginOf_12 : decode c_X_beginOf 12 = .ok (.isub, 1) := by decide +kernel
theorem d_X_beginOf_13 : decode c_X_beginOf 13 = .ok (.iushr, 1) := by decide +kernel
theorem d_X_beginOf_14 : decode c_X_beginOf 14 = .ok (.istore_n 3, 1) := by decide +kernel
theorem d_X_beginOf_15 : decode c_X_beginOf 15 = .ok (.aload_n 0, 1) := by decide +kernel
theorem d_X_beginOf_16 : decode c_X_beginOf 16 = .ok (.getfield 9, 3) := by decide +kernel
theorem d_X_beginOf_19 : decode c_X_beginOf 19 = .ok (.iload_n 2, 1) := by decide +kernel
theorem d_X_beginOf_20 : decode c_X_beginOf 20 = .ok (.iaload, 1) := by decide +kernel
theorem d_X_beginOf_21 : decode c_X_beginOf 21 = .ok (.iload_n 3, 1) := by decide +kernel
theorem d_X_beginOf_22 : decode c_X_beginOf 22 = .ok (.iand, 1) := by decide +kernel
theorem d_X_beginOf_23 : decode c_X_beginOf 23 = .ok (.istore 4, 2) := by decide +kernel
theorem d_X_beginOf_25 : decode c_X_beginOf 25 = .ok (.iload 4, 2) := by decide +kernel
theorem d_X_beginOf_27 : decode c_X_beginOf 27 = .ok (.ifCond .ne 10, 3) := by decide +kernel
theorem d_X_beginOf_30 : decode c_X_beginOf 30 = .ok (.aload_n 0, 1) := by decide +kernel
theorem d_X_beginOf_31 : decode c_X_beginOf 31 = .ok (.getfield 13, 3) := by decide +kernel
theorem d_X_beginOf_34 : decode c_X_beginOf 34 = .ok (.iload_n 2, 1) := by decide +kernel
theorem d_X_beginOf_35 : decode c_X_beginOf 35 = .ok (.iaload, 1) := by decide +kernel
theorem d_X_beginOf_36 : decode c_X_beginOf 36 = .ok (.ireturn, 1) := by decide +kernel
theorem d_X_beginOf_37 : decode c_X_beginOf 37 = .ok (.iload_n 2, 1) := by decide +kernel
theorem d_X_beginOf_38 : decode c_X_beginOf 38 = .ok (.bipush 32, 2) := by decide +kernel
theorem d_X_beginOf_40 : decode c_X_beginOf 40 = .ok (.imul, 1) := by decide +kernel
theorem d_X_beginOf_41 : decode c_X_beginOf 41 = .ok (.bipush 32, 2) := by decide +kernel
theorem d_X_beginOf_43 : decode c_X_beginOf 43 = .ok (.iadd, 1) := by decide +kernel
theorem d_X_beginOf_44 : decode c_X_beginOf 44 = .ok (.iconst 1, 1) := by decide +kernel
theorem d_X_beginOf_45 : decode c_X_beginOf 45 = .ok (.isub, 1) := by decide +kernel
theorem d_X_beginOf_46 : decode c_X_beginOf 46 = .ok (.iload 4, 2) := by decide +kernel
theorem d_X_beginOf_48 : decode c_X_beginOf 48 = .ok (.invokestatic 84, 3) := by decide +kernel
theorem d_X_beginOf_51 : decode c_X_beginOf 51 = .ok (.isub, 1) := by decide +kernel
theorem d_X_beginOf_52 : decode c_X_beginOf 52 = .ok (.ireturn, 1) := by decide +kernel
theorem d_X_endOf_0 : decode c_X_endOf 0 = .ok (.aload_n 0, 1) := by decide +kernel
theorem d_X_endOf_1 : decode c_X_endOf 1 = .ok (.iload_n 1, 1) := by decide +kernel
theorem d_X_endOf_2 : decode c_X_endOf 2 = .ok (.iconst 1, 1) := by decide +kernel
theorem d_X_endOf_3 : decode c_X_endOf 3 = .ok (.iadd, 1) := by decide +kernel
theorem d_X_endOf_4 : decode c_X_endOf 4 = .ok (.invokevirtual 87, 3) := by decide +kernel
theorem d_X_endOf_7 : decode c_X_endOf 7 = .ok (.ireturn, 1) := by decide +kernel
theorem d_X_firstBeginFrom_0 : decode c_X_firstBeginFrom 0 = .ok (.iconst (-1), 1) := by decide +kernel
theorem d_X_firstBeginFrom_1 : decode c_X_firstBeginFrom 1 = .ok (.iload_n 1, 1) := by decide +kernel
theorem d_X_firstBeginFrom_2 : decode c_X_firstBeginFrom 2 = .ok (.bipush 32, 2) := by decide +kernel
theorem d_X_firstBeginFrom_4 : decode c_X_firstBeginFrom 4 = .ok (.irem, 1) := by decide +kernel
theorem d_X_firstBeginFrom_5 : decode c_X_firstBeginFrom 5 = .ok (.ishl, 1) := by decide +kernel
theorem d_X_firstBeginFrom_6 : decode c_X_firstBeginFrom 6 = .ok (.istore_n 2, 1) := by decide +kernel
theorem d_X_firstBeginFrom_7 : decode c_X_firstBeginFrom 7 = .ok (.aload_n 0, 1) := by decide +kernel
theorem d_X_firstBeginFrom_8 : decode c_X_firstBeginFrom 8 = .ok (.invokevirtual 64, 3) := by decide +kernel
theorem d_X_firstBeginFrom_11 : decode c_X_firstBeginFrom 11 = .ok (.istore_n 3, 1) := by decide +kernel
theorem d_X_firstBeginFrom_12 : decode c_X_firstBeginFrom 12 = .ok (.iload_n 1, 1) := by decide +kernel
theorem d_X_firstBeginFrom_13 : decode c_X_firstBeginFrom 13 = .ok (.bipush 32, 2) := by decide +kernel
theorem d_X_firstBeginFrom_15 : decode c_X_firstBeginFrom 15 = .ok (.idiv, 1) := by decide +kernel
theorem d_X_firstBeginFrom_16 : decode c_X_firstBeginFrom 16 = .ok (.istore 4, 2) := by decide +kernel
theorem d_X_firstBeginFrom_18 : decode c_X_firstBeginFrom 18 = .ok (.iload 4, 2) := by decide +kernel
theorem d_X_firstBeginFrom_20 : decode c_X_firstBeginFrom 20 = .ok (.iload_n 3, 1) := by decide +kernel
theorem d_X_firstBeginFrom_21 : decode c_X_firstBeginFrom 21 = .ok (.if_icmp .ge 39, 3) := by decide +kernel
theorem d_X_firstBeginFrom_24 : decode c_X_firstBeginFrom 24 = .ok (.aload_n 0, 1) := by decide +kernel
theorem d_X_firstBeginFrom_25 : decode c_X_firstBeginFrom 25 = .ok (.getfield 9, 3) := by decide +kernel
theorem d_X_firstBeginFrom_28 : decode c_X_firstBeginFrom 28 = .ok (.iload 4, 2) := by decide +kernel
theorem d_X_firstBeginFrom_30 : decode c_X_firstBeginFrom 30 = .ok (.iaload, 1) := by decide +kernel
theorem d_X_firstBeginFrom_31 : decode c_X_firstBeginFrom 31 = .ok (.iload_n 2, 1) := by decide +kernel
theorem d_X_firstBeginFrom_32 : decode c_X_firstBeginFrom 32 = .ok (.iand, 1) := by decide +kernel
theorem d_X_firstBeginFrom_33 : decode c_X_firstBeginFrom 33 = .ok (.istore 5, 2) := by decide +kernel
theorem d_X_firstBeginFrom_35 : decode c_X_firstBeginFrom 35 = .ok (.iload 5, 2) := by decide +kernel
theorem d_X_firstBeginFrom_37 : decode c_X_firstBeginFrom 37 = .ok (.ifCond .eq 15, 3) := by decide +kernel
theorem d_X_firstBeginFrom_40 : decode c_X_firstBeginFrom 40 = .ok (.iload 4, 2) := by decide +kernel
theorem d_X_firstBeginFrom_42 : decode c_X_firstBeginFrom 42 = .ok (.bipush 32, 2) := by decide +kernel
theorem d_X_firstBeginFrom_44 : decode c_X_firstBeginFrom 44 = .ok (.imul, 1) := by decide +kernel
theorem d_X_firstBeginFrom_45 : decode c_X_firstBeginFrom 45 = .ok (.iload 5, 2) := by decide +kernel
theorem d_X_firstBeginFrom_47 : decode c_X_firstBeginFrom 47 = .ok (.invokestatic 90, 3) := by decide +kernel
theorem d_X_firstBeginFrom_50 : decode c_X_firstBeginFrom 50 = .ok (.iadd, 1) := by decide +kernel
theorem d_X_firstBeginFrom_51 : decode c_X_firstBeginFrom 51 = .ok (.ireturn, 1) := by decide +kernel
theorem d_X_firstBeginFrom_52 : decode c_X_firstBeginFrom 52 = .ok (.iconst (-1), 1) := by decide +kernel
theorem d_X_firstBeginFrom_53 : decode c_X_firstBeginFrom 53 = .ok (.istore_n 2, 1) := by decide +kernel
theorem d_X_firstBeginFrom_54 : decode c_X_firstBeginFrom 54 = .ok (.iinc 4 1, 3) := by decide +kernel
theorem d_X_firstBeginFrom_57 : decode c_X_firstBeginFrom 57 = .ok (.goto (-39), 3) := by decide +kernel
theorem d_X_firstBeginFrom_60 : decode c_X_firstBeginFrom 60 = .ok (.aload_n 0, 1) := by decide +kernel
theorem d_X_firstBeginFrom_61 : decode c_X_firstBeginFrom 61 = .ok (.getfield 27, 3) := by decide +kernel
theorem d_X_firstBeginFrom_64 : decode c_X_firstBeginFrom 64 = .ok (.ireturn, 1) := by decide +kernel
theorem d_X_cutAt_0 : decode c_X_cutAt 0 = .ok (.aload_n 0, 1) := by decide +kernel
theorem d_X_cutAt_1 : decode c_X_cutAt 1 = .ok (.iload_n 1, 1) := by decide +kernel
theorem d_X_cutAt_2 : decode c_X_cutAt 2 = .ok (.invokevirtual 34, 3) := by decide +kernel
theorem d_X_cutAt_5 : decode c_X_cutAt 5 = .ok (.iload_n 1, 1) := by decide +kernel
theorem d_X_cutAt_6 : decode c_X_cutAt 6 = .ok (.if_icmp .ne 4, 3) := by decide +kernel
theorem d_X_cutAt_9 : decode c_X_cutAt 9 = .ok (.return_, 1) := by decide +kernel
theorem d_X_cutAt_10 : decode c_X_cutAt 10 = .ok (.aload_n 0, 1) := by decide +kernel
theorem d_X_cutAt_11 : decode c_X_cutAt 11 = .ok (.getfield 9, 3) := by decide +kernel
theorem d_X_cutAt_14 : decode c_X_cutAt 14 = .ok (.iload_n 1, 1) := by decide +kernel
theorem d_X_cutAt_15 : decode c_X_cutAt 15 = .ok (.bipush 32, 2) := by decide +kernel
theorem d_X_cutAt_17 : decode c_X_cutAt 17 = .ok (.idiv, 1) := by decide +kernel
theorem d_X_cutAt_18 : decode c_X_cutAt 18 = .ok (.dup2, 1) := by decide +kernel
theorem d_X_cutAt_19 : decode c_X_cutAt 19 = .ok (.iaload, 1) := by decide +kernel
theorem d_X_cutAt_20 : decode c_X_cutAt 20 = .ok (.iload_n 1, 1) := by decide +kernel
theorem d_X_cutAt_21 : decode c_X_cutAt 21 = .ok (.invokestatic 93, 3) := by decide +kernel
theorem d_X_cutAt_24 : decode c_X_cutAt 24 = .ok (.ior, 1) := by decide +kernel
theorem d_X_cutAt_25 : decode c_X_cutAt 25 = .ok (.iastore, 1) := by decide +kernel
theorem d_X_cutAt_26 : decode c_X_cutAt 26 = .ok (.aload_n 0, 1) := by decide +kernel
theorem d_X_cutAt_27 : decode c_X_cutAt 27 = .ok (.dup, 1) := by decide +kernel
theorem d_X_cutAt_28 : decode c_X_cutAt 28 = .ok (.getfield 53, 3) := by decide +kernel
theorem d_X_cutAt_31 : decode c_X_cutAt 31 = .ok (.iconst 1, 1) := by decide +kernel
theorem d_X_cutAt_32 : decode c_X_cutAt 32 = .ok (.iadd, 1) := by decide +kernel
theorem d_X_cutAt_33 : decode c_X_cutAt 33 = .ok (.putfield 53, 3) := by decide +kernel
theorem d_X_cutAt_36 : decode c_X_cutAt 36 = .ok (.aload_n 0, 1) := by decide +kernel
theorem d_X_cutAt_37 : decode c_X_cutAt 37 = .ok (.iload_n 1, 1) := by decide +kernel
theorem d_X_cutAt_38 : decode c_X_cutAt 38 = .ok (.aload_n 0, 1) := by decide +kernel
theorem d_X_cutAt_39 : decode c_X_cutAt 39 = .ok (.iload_n 1, 1) := by decide +kernel
theorem d_X_cutAt_40 : decode c_X_cutAt 40 = .ok (.invokevirtual 41, 3) := by decide +kernel
theorem d_X_cutAt_43 : decode c_X_cutAt 43 = .ok (.invokevirtual 96, 3) := by decide +kernel
theorem d_X_cutAt_46 : decode c_X_cutAt 46 = .ok (.return_, 1) := by decide +kernel
theorem d_X_merge_0 : decode c_X_merge 0 = .ok (.aload_n 0, 1) := by decide +kernel
theorem d_X_merge_1 : decode c_X_merge 1 = .ok (.getfield 53, 3) := by decide +kernel
theorem d_X_merge_4 : decode c_X_merge 4 = .ok (.istore_n 3, 1) := by decide +kernel
theorem d_X_merge_5 : decode c_X_merge 5 = .ok (.aload_n 0, 1) := by decide +kernel
theorem d_X_merge_6 : decode c_X_merge 6 = .ok (.iload_n 1, 1) := by decide +kernel
theorem d_X_merge_7 : decode c_X_merge 7 = .ok (.invokevirtual 41, 3) := by decide +kernel
theorem d_X_merge_10 : decode c_X_merge 10 = .ok (.istore 4, 2) := by decide +kernel
theorem d_X_merge_12 : decode c_X_merge 12 = .ok (.iconst 0, 1) := by decide +kernel
theorem d_X_merge_13 : decode c_X_merge 13 = .ok (.istore 5, 2) := by decide +kernel
theorem d_X_merge_15 : decode c_X_merge 15 = .ok (.iload 5, 2) := by decide +kernel
theorem d_X_merge_17 : decode c_X_merge 17 = .ok (.iload_n 3, 1) := by decide +kernel
theorem d_X_merge_18 : decode c_X_merge 18 = .ok (.if_icmp .ge 53, 3) := by decide +kernel
theorem d_X_merge_21 : decode c_X_merge 21 = .ok (.iload 4, 2) := by decide +kernel
theorem d_X_merge_23 : decode c_X_merge 23 = .ok (.iload_n 2, 1) := by decide +kernel
theorem d_X_merge_24 : decode c_X_merge 24 = .ok (.if_icmp .ge 47, 3) := by decide +kernel
theorem d_X_merge_27 : decode c_X_merge 27 = .ok (.aload_n 0, 1) := by decide +kernel
theorem d_X_merge_28 : decode c_X_merge 28 = .ok (.getfield 9, 3) := by decide +kernel
theorem d_X_merge_31 : decode c_X_merge 31 = .ok (.iload 4, 2) := by decide +kernel
theorem d_X_merge_33 : decode c_X_merge 33 = .ok (.bipush 32, 2) := by decide +kernel
theorem d_X_merge_35 : decode c_X_merge 35 = .ok (.idiv, 1) := by decide +kernel
theorem d_X_merge_36 : decode c_X_merge 36 = .ok (.dup2, 1) := by decide +kernel
theorem d_X_merge_37 : decode c_X_merge 37 = .ok (.iaload, 1) := by decide +kernel
theorem d_X_merge_38 : decode c_X_merge 38 = .ok (.iload 4, 2) := by decide +kernel
theorem d_X_merge_40 : decode c_X_merge 40 = .ok (.invokestatic 93, 3) := by decide +kernel
theorem d_X_merge_43 : decode c_X_merge 43 = .ok (.iconst (-1), 1) := by decide +kernel
theorem d_X_merge_44 : decode c_X_merge 44 = .ok (.ixor, 1) := by decide +kernel
theorem d_X_merge_45 : decode c_X_merge 45 = .ok (.iand, 1) := by decide +kernel
theorem d_X_merge_46 : decode c_X_merge 46 = .ok (.iastore, 1) := by decide +kernel
theorem d_X_merge_47 : decode c_X_merge 47 = .ok (.aload_n 0, 1) := by decide +kernel
theorem d_X_merge_48 : decode c_X_merge 48 = .ok (.dup, 1) := by decide +kernel
theorem d_X_merge_49 : decode c_X_merge 49 = .ok (.getfield 53, 3) := by decide +kernel
theorem d_X_merge_52 : decode c_X_merge 52 = .ok (.iconst 1, 1) := by decide +kernel
theorem d_X_merge_53 : decode c_X_merge 53 = .ok (.isub, 1) := by decide +kernel
theorem d_X_merge_54 : decode c_X_merge 54 = .ok (.putfield 53, 3) := by decide +kernel
theorem d_X_merge_57 : decode c_X_merge 57 = .ok (.aload_n 0, 1) := by decide +kernel
theorem d_X_merge_58 : decode c_X_merge 58 = .ok (.iload 4, 2) := by decide +kernel
theorem d_X_merge_60 : decode c_X_merge 60 = .ok (.invokevirtual 41, 3) := by decide +kernel
theorem d_X_merge_63 : decode c_X_merge 63 = .ok (.istore 4, 2) := by decide +kernel
theorem d_X_merge_65 : decode c_X_merge 65 = .ok (.iinc 5 1, 3) := by decide +kernel
theorem d_X_merge_68 : decode c_X_merge 68 = .ok (.goto (-53), 3) := by decide +kernel
theorem d_X_merge_71 : decode c_X_merge 71 = .ok (.aload_n 0, 1) := by decide +kernel
theorem d_X_merge_72 : decode c_X_merge 72 = .ok (.iload_n 1, 1) := by decide +kernel
theorem d_X_merge_73 : decode c_X_merge 73 = .ok (.iload_n 2, 1) := by decide +kernel
theorem d_X_merge_74 : decode c_X_merge 74 = .ok (.invokevirtual 96, 3) := by decide +kernel
theorem d_X_merge_77 : decode c_X_merge 77 = .ok (.return_, 1) := by decide +kernel
theorem d_X_bitOf_0 : decode c_X_bitOf 0 = .ok (.iconst 1, 1) := by decide +kernel
theorem d_X_bitOf_1 : decode c_X_bitOf 1 = .ok (.iload_n 0, 1) := by decide +kernel
theorem d_X_bitOf_2 : decode c_X_bitOf 2 = .ok (.bipush 32, 2) := by decide +kernel
theorem d_X_bitOf_4 : decode c_X_bitOf 4 = .ok (.irem, 1) := by decide +kernel
theorem d_X_bitOf_5 : decode c_X_bitOf 5 = .ok (.ishl, 1) := by decide +kernel
theorem d_X_bitOf_6 : decode c_X_bitOf 6 = .ok (.ireturn, 1) := by decide +kernel
theorem d_X_tellStarts_0 : decode c_X_tellStarts 0 = .ok (.iload_n 1, 1) := by decide +kernel
theorem d_X_tellStarts_1 : decode c_X_tellStarts 1 = .ok (.bipush 32, 2) := by decide +kernel
theorem d_X_tellStarts_3 : decode c_X_tellStarts 3 = .ok (.iadd, 1) := by decide +kernel
theorem d_X_tellStarts_4 : decode c_X_tellStarts 4 = .ok (.iconst 1, 1) := by decide +kernel
theorem d_X_tellStarts_5 : decode c_X_tellStarts 5 = .ok (.isub, 1) := by decide +kernel
theorem d_X_tellStarts_6 : decode c_X_tellStarts 6 = .ok (.bipush 32, 2) := by decide +kernel
theorem d_X_tellStarts_8 : decode c_X_tellStarts 8 = .ok (.idiv, 1) := by decide +kernel
theorem d_X_tellStarts_9 : decode c_X_tellStarts 9 = .ok (.istore_n 3, 1) := by decide +kernel
theorem d_X_tellStarts_10 : decode c_X_tellStarts 10 = .ok (.iload_n 2, 1) := by decide +kernel
theorem d_X_tellStarts_11 : decode c_X_tellStarts 11 = .ok (.bipush 32, 2) := by decide +kernel
theorem d_X_tellStarts_13 : decode c_X_tellStarts 13 = .ok (.iadd, 1) := by decide +kernel
theorem d_X_tellStarts_14 : decode c_X_tellStarts 14 = .ok (.iconst 1, 1) := by decide +kernel
theorem d_X_tellStarts_15 : decode c_X_tellStarts 15 = .ok (.isub, 1) := by decide +kernel
theorem d_X_tellStarts_16 : decode c_X_tellStarts 16 = .ok (.bipush 32, 2) := by decide +kernel
theorem d_X_tellStarts_18 : decode c_X_tellStarts 18 = .ok (.idiv, 1) := by decide +kernel
theorem d_X_tellStarts_19 : decode c_X_tellStarts 19 = .ok (.istore 4, 2) := by decide +kernel
theorem d_X_tellStarts_21 : decode c_X_tellStarts 21 = .ok (.iload_n 3, 1) := by decide +kernel
theorem d_X_tellStarts_22 : decode c_X_tellStarts 22 = .ok (.istore 5, 2) := by decide +kernel
theorem d_X_tellStarts_24 : decode c_X_tellStarts 24 = .ok (.iload 5, 2) := by decide +kernel
theorem d_X_tellStarts_26 : decode c_X_tellStarts 26 = .ok (.iload 4, 2) := by decide +kernel
theorem d_X_tellStarts_28 : decode c_X_tellStarts 28 = .ok (.if_icmp .ge 17, 3) := by decide +kernel
theorem d_X_tellStarts_31 : decode c_X_tellStarts 31 = .ok (.aload_n 0, 1) := by decide +kernel
theorem d_X_tellStarts_32 : decode c_X_tellStarts 32 = .ok (.getfield 13, 3) := by decide +kernel
theorem d_X_tellStarts_35 : decode c_X_tellStarts 35 = .ok (.iload 5, 2) := by decide +kernel
theorem d_X_tellStarts_37 : decode c_X_tellStarts 37 = .ok (.iload_n 1, 1) := by decide +kernel
theorem d_X_tellStarts_38 : decode c_X_tellStarts 38 = .ok (.iastore, 1) := by decide +kernel
theorem d_X_tellStarts_39 : decode c_X_tellStarts 39 = .ok (.iinc 5 1, 3) := by decide +kernel
theorem d_X_tellStarts_42 : decode c_X_tellStarts 42 = .ok (.goto (-18), 3) := by decide +kernel
theorem d_X_tellStarts_45 : decode c_X_tellStarts 45 = .ok (.return_, 1) := by decide +kernel
theorem d_X_outermostSize_0 : decode c_X_outermostSize 0 = .ok (.aload_n 0, 1) := by decide +kernel
theorem d_X_outermostSize_1 : decode c_X_outermostSize 1 = .ok (.iconst 0, 1) := by decide +kernel
theorem d_X_outermostSize_2 : decode c_X_outermostSize 2 = .ok (.invokevirtual 41, 3) := by decide +kernel
theorem d_X_outermostSize_5 : decode c_X_outermostSize 5 = .ok (.istore_n 2, 1) := by decide +kernel
theorem d_X_outermostSize_6 : decode c_X_outermostSize 6 = .ok (.iload_n 2, 1) := by decide +kernel
theorem d_X_outermostSize_7 : decode c_X_outermostSize 7 = .ok (.istore_n 3, 1) := by decide +kernel
theorem d_X_outermostSize_8 : decode c_X_outermostSize 8 = .ok (.iconst 1, 1) := by decide +kernel
theorem d_X_outermostSize_9 : decode c_X_outermostSize 9 = .ok (.istore 4, 2) := by decide +kernel
theorem d_X_outermostSize_11 : decode c_X_outermostSize 11 = .ok (.iload 4, 2) := by decide +kernel
theorem d_X_outermostSize_13 : decode c_X_outermostSize 13 = .ok (.aload_n 0, 1) := by decide +kernel
theorem d_X_outermostSize_14 : decode c_X_outermostSize 14 = .ok (.getfield 53, 3) := by decide +kernel
theorem d_X_outermostSize_17 : decode c_X_outermostSize 17 = .ok (.if_icmp .ge 45, 3) := by decide +kernel
theorem d_X_outermostSize_20 : decode c_X_outermostSize 20 = .ok (.aload_n 0, 1) := by decide +kernel
theorem d_X_outermostSize_21 : decode c_X_outermostSize 21 = .ok (.iload_n 3, 1) := by decide +kernel
theorem d_X_outermostSize_22 : decode c_X_outermostSize 22 = .ok (.invokevirtual 41, 3) := by decide +kernel
theorem d_X_outermostSize_25 : decode c_X_outermostSize 25 = .ok (.istore 5, 2) := by decide +kernel
theorem d_X_outermostSize_27 : decode c_X_outermostSize 27 = .ok (.iload 5, 2) := by decide +kernel
theorem d_X_outermostSize_29 : decode c_X_outermostSize 29 = .ok (.iload_n 3, 1) := by decide +kernel
theorem d_X_outermostSize_30 : decode c_X_outermostSize 30 = .ok (.isub, 1) := by decide +kernel
theorem d_X_outermostSize_31 : decode c_X_outermostSize 31 = .ok (.istore 6, 2) := by decide +kernel
theorem d_X_outermostSize_33 : decode c_X_outermostSize 33 = .ok (.iload_n 1, 1) := by decide +kernel
theorem d_X_outermostSize_34 : decode c_X_outermostSize 34 = .ok (.ifCond .eq 12, 3) := by decide +kernel
theorem d_X_outermostSize_37 : decode c_X_outermostSize 37 = .ok (.iload_n 2, 1) := by decide +kernel
theorem d_X_outermostSize_38 : decode c_X_outermostSize 38 = .ok (.iload 6, 2) := by decide +kernel
theorem d_X_outermostSize_40 : decode c_X_outermostSize 40 = .ok (.invokestatic 99, 3) := by decide +kernel
theorem d_X_outermostSize_43 : decode c_X_outermostSize 43 = .ok (.goto 9, 3) := by decide +kernel
theorem d_X_outermostSize_46 : decode c_X_outermostSize 46 = .ok (.iload_n 2, 1) := by decide +kernel
theorem d_X_outermostSize_47 : decode c_X_outermostSize 47 = .ok (.iload 6, 2) := by decide +kernel
theorem d_X_outermostSize_49 : decode c_X_outermostSize 49 = .ok (.invokestatic 105, 3) := by decide +kernel
theorem d_X_outermostSize_52 : decode c_X_outermostSize 52 = .ok (.istore_n 2, 1) := by decide +kernel
theorem d_X_outermostSize_53 : decode c_X_outermostSize 53 = .ok (.iload 5, 2) := by decide +kernel
theorem d_X_outermostSize_55 : decode c_X_outermostSize 55 = .ok (.istore_n 3, 1) := by decide +kernel
theorem d_X_outermostSize_56 : decode c_X_outermostSize 56 = .ok (.iinc 4 1, 3) := by decide +kernel
theorem d_X_outermostSize_59 : decode c_X_outermostSize 59 = .ok (.goto (-48), 3) := by decide +kernel
theorem d_X_outermostSize_62 : decode c_X_outermostSize 62 = .ok (.iload_n 2, 1) := by decide +kernel
theorem d_X_outermostSize_63 : decode c_X_outermostSize 63 = .ok (.ireturn, 1) := by decide +kernel
theorem d_M_init_0 : decode c_M_init 0 = .ok (.aload_n 0, 1) := by decide +kernel
theorem d_M_init_1 : decode c_M_init 1 = .ok (.invokespecial 1, 3) := by decide +kernel
theorem d_M_init_4 : decode c_M_init 4 = .ok (.aload_n 0, 1) := by decide +kernel
theorem d_M_init_5 : decode c_M_init 5 = .ok (.sipush 1024, 3) := by decide +kernel
theorem d_M_init_8 : decode c_M_init 8 = .ok (.putfield 7, 3) := by decide +kernel
theorem d_M_init_11 : decode c_M_init 11 = .ok (.aload_n 0, 1) := by decide +kernel
theorem d_M_init_12 : decode c_M_init 12 = .ok (.sipush 16385, 3) := by decide +kernel
theorem d_M_init_15 : decode c_M_init 15 = .ok (.newarray .boolean, 2) := by decide +kernel
theorem d_M_init_17 : decode c_M_init 17 = .ok (.putfield 13, 3) := by decide +kernel
theorem d_M_init_20 : decode c_M_init 20 = .ok (.aload_n 0, 1) := by decide +kernel
theorem d_M_init_21 : decode c_M_init 21 = .ok (.getfield 13, 3) := by decide +kernel
theorem d_M_init_24 : decode c_M_init 24 = .ok (.iconst 0, 1) := by decide +kernel
theorem d_M_init_25 : decode c_M_init 25 = .ok (.iconst 1, 1) := by decide +kernel
theorem d_M_init_26 : decode c_M_init 26 = .ok (.bastore, 1) := by decide +kernel
theorem d_M_init_27 : decode c_M_init 27 = .ok (.aload_n 0, 1) := by decide +kernel
theorem d_M_init_28 : decode c_M_init 28 = .ok (.getfield 13, 3) := by decide +kernel
theorem d_M_init_31 : decode c_M_init 31 = .ok (.sipush 1024, 3) := by decide +kernel
theorem d_M_init_34 : decode c_M_init 34 = .ok (.iconst 1, 1) := by decide +kernel
theorem d_M_init_35 : decode c_M_init 35 = .ok (.bastore, 1) := by decide +kernel
theorem d_M_init_36 : decode c_M_init 36 = .ok (.return_, 1) := by decide +kernel
theorem d_M_thrown_0 : decode c_M_thrown 0 = .ok (.aload_n 0, 1) := by decide +kernel
theorem d_M_thrown_1 : decode c_M_thrown 1 = .ok (.getfield 17, 3) := by decide +kernel
theorem d_M_thrown_4 : decode c_M_thrown 4 = .ok (.ireturn, 1) := by decide +kernel
theorem d_M_goes_0 : decode c_M_goes 0 = .ok (.aload_n 0, 1) := by decide +kernel
theorem d_M_goes_1 : decode c_M_goes 1 = .ok (.iload_n 1, 1) := by decide +kernel
theorem d_M_goes_2 : decode c_M_goes 2 = .ok (.ifCond .eq 7, 3) := by decide +kernel
theorem d_M_goes_5 : decode c_M_goes 5 = .ok (.iconst 0, 1) := by decide +kernel
theorem d_M_goes_6 : decode c_M_goes 6 = .ok (.goto 4, 3) := by decide +kernel
theorem d_M_goes_9 : decode c_M_goes 9 = .ok (.iconst 1, 1) := by decide +kernel
theorem d_M_goes_10 : decode c_M_goes 10 = .ok (.putfield 17, 3) := by decide +kernel
theorem d_M_goes_13 : decode c_M_goes 13 = .ok (.iload_n 1, 1) := by decide +kernel
theorem d_M_goes_14 : decode c_M_goes 14 = .ok (.ireturn, 1) := by decide +kernel
theorem d_M_cards_0 : decode c_M_cards 0 = .ok (.aload_n 0, 1) := by decide +kernel
theorem d_M_cards_1 : decode c_M_cards 1 = .ok (.getfield 7, 3) := by decide +kernel
theorem d_M_cards_4 : decode c_M_cards 4 = .ok (.bipush 31, 2) := by decide +kernel
theorem d_M_cards_6 : decode c_M_cards 6 = .ok (.iadd, 1) := by decide +kernel
theorem d_M_cards_7 : decode c_M_cards 7 = .ok (.bipush 32, 2) := by decide +kernel
theorem d_M_cards_9 : decode c_M_cards 9 = .ok (.idiv, 1) := by decide +kernel
theorem d_M_cards_10 : decode c_M_cards 10 = .ok (.ireturn, 1) := by decide +kernel
theorem d_M_isCell_0 : decode c_M_isCell 0 = .ok (.iload_n 1, 1) := by decide +kernel
theorem d_M_isCell_1 : decode c_M_isCell 1 = .ok (.ifCond .lt 15, 3) := by decide +kernel
theorem d_M_isCell_4 : decode c_M_isCell 4 = .ok (.iload_n 1, 1) := by decide +kernel
theorem d_M_isCell_5 : decode c_M_isCell 5 = .ok (.aload_n 0, 1) := by decide +kernel
theorem d_M_isCell_6 : decode c_M_isCell 6 = .ok (.getfield 7, 3) := by decide +kernel
theorem d_M_isCell_9 : decode c_M_isCell 9 = .ok (.if_icmp .ge 7, 3) := by decide +kernel
theorem d_M_isCell_12 : decode c_M_isCell 12 = .ok (.iconst 1, 1) := by decide +kernel
theorem d_M_isCell_13 : decode c_M_isCell 13 = .ok (.goto 4, 3) := by decide +kernel
theorem d_M_isCell_16 : decode c_M_isCell 16 = .ok (.iconst 0, 1) := by decide +kernel
theorem d_M_isCell_17 : decode c_M_isCell 17 = .ok (.ireturn, 1) := by decide +kernel
theorem d_M_isCard_0 : decode c_M_isCard 0 = .ok (.iload_n 1, 1) := by decide +kernel
theorem d_M_isCard_1 : decode c_M_isCard 1 = .ok (.ifCond .lt 15, 3) := by decide +kernel
theorem d_M_isCard_4 : decode c_M_isCard 4 = .ok (.iload_n 1, 1) := by decide +kernel
theorem d_M_isCard_5 : decode c_M_isCard 5 = .ok (.aload_n 0, 1) := by decide +kernel
theorem d_M_isCard_6 : decode c_M_isCard 6 = .ok (.invokevirtual 20, 3) := by decide +kernel
theorem d_M_isCard_9 : decode c_M_isCard 9 = .ok (.if_icmp .ge 7, 3) := by decide +kernel
theorem d_M_isCard_12 : decode c_M_isCard 12 = .ok (.iconst 1, 1) := by decide +kernel
theorem d_M_isCard_13 : decode c_M_isCard 13 = .ok (.goto 4, 3) := by decide +kernel
theorem d_M_isCard_16 : decode c_M_isCard 16 = .ok (.iconst 0, 1) := by decide +kernel
theorem d_M_isCard_17 : decode c_M_isCard 17 = .ok (.ireturn, 1) := by decide +kernel
theorem d_M_space_0 : decode c_M_space 0 = .ok (.aload_n 0, 1) := by decide +kernel
theorem d_M_space_1 : decode c_M_space 1 = .ok (.iload_n 1, 1) := by decide +kernel
theorem d_M_space_2 : decode c_M_space 2 = .ok (.iconst 1, 1) := by decide +kernel
theorem d_M_space_3 : decode c_M_space 3 = .ok (.if_icmp .lt 14, 3) := by decide +kernel
theorem d_M_space_6 : decode c_M_space 6 = .ok (.iload_n 1, 1) := by decide +kernel
theorem d_M_space_7 : decode c_M_space 7 = .ok (.sipush 16384, 3) := by decide +kernel
theorem d_M_space_10 : decode c_M_space 10 = .ok (.if_icmp .gt 7, 3) := by decide +kernel
theorem d_M_space_13 : decode c_M_space 13 = .ok (.iconst 1, 1) := by decide +kernel
theorem d_M_space_14 : decode c_M_space 14 = .ok (.goto 4, 3) := by decide +kernel
theorem d_M_space_17 : decode c_M_space 17 = .ok (.iconst 0, 1) := by decide +kernel
theorem d_M_space_18 : decode c_M_space 18 = .ok (.invokevirtual 24, 3) := by decide +kernel
theorem d_M_space_21 : decode c_M_space 21 = .ok (.ifCond .ne 5, 3) := by decide +kernel
theorem d_M_space_24 : decode c_M_space 24 = .ok (.iconst 0, 1) := by decide +kernel
theorem d_M_space_25 : decode c_M_space 25 = .ok (.ireturn, 1) := by decide +kernel
theorem d_M_space_26 : decode c_M_space 26 = .ok (.aload_n 0, 1) := by decide +kernel
theorem d_M_space_27 : decode c_M_space 27 = .ok (.getfield 7, 3) := by decide +kernel
theorem d_M_space_30 : decode c_M_space 30 = .ok (.istore_n 2, 1) := by decide +kernel
theorem d_M_space_31 : decode c_M_space 31 = .ok (.iconst 0, 1) := by decide +kernel
theorem d_M_space_32 : decode c_M_space 32 = .ok (.istore_n 3, 1) := by decide +kernel
theorem d_M_space_33 : decode c_M_space 33 = .ok (.iload_n 3, 1) := by decide +kernel
theorem d_M_space_34 : decode c_M_space 34 = .ok (.sipush 16384, 3) := by decide +kernel
theorem d_M_space_37 : decode c_M_space 37 = .ok (.if_icmp .gt 29, 3) := by decide +kernel
theorem d_M_space_40 : decode c_M_space 40 = .ok (.aload_n 0, 1) := by decide +kernel
theorem d_M_space_41 : decode c_M_space 41 = .ok (.getfield 13, 3) := by decide +kernel
theorem d_M_space_44 : decode c_M_space 44 = .ok (.iload_n 3, 1) := by decide +kernel
theorem d_M_space_45 : decode c_M_space 45 = .ok (.iload_n 3, 1) := by decide +kernel
theorem d_M_space_46 : decode c_M_space 46 = .ok (.ifCond .eq 8, 3) := by decide +kernel
theorem d_M_space_49 : decode c_M_space 49 = .ok (.iload_n 3, 1) := by decide +kernel
theorem d_M_space_50 : decode c_M_space 50 = .ok (.iload_n 1, 1) := by decide +kernel
theorem d_M_space_51 : decode c_M_space 51 = .ok (.if_icmp .ne 7, 3) := by decide +kernel
theorem d_M_space_54 : decode c_M_space 54 = .ok (.iconst 1, 1) := by decide +kernel
theorem d_M_space_55 : decode c_M_space 55 = .ok (.goto 4, 3) := by decide +kernel
theorem d_M_space_58 : decode c_M_space 58 = .ok (.iconst 0, 1) := by decide +kernel
theorem d_M_space_59 : decode c_M_space 59 = .ok (.bastore, 1) := by decide +kernel
theorem d_M_space_60 : decode c_M_space 60 = .ok (.iinc 3 1, 3) := by decide +kernel
theorem d_M_space_63 : decode c_M_space 63 = .ok (.goto (-30), 3) := by decide +kernel
theorem d_M_space_66 : decode c_M_space 66 = .ok (.aload_n 0, 1) := by decide +kernel
theorem d_M_space_67 : decode c_M_space 67 = .ok (.iload_n 1, 1) := by decide +kernel
theorem d_M_space_68 : decode c_M_space 68 = .ok (.putfield 7, 3) := by decide +kernel
theorem d_M_space_71 : decode c_M_space 71 = .ok (.iload_n 2, 1) := by decide +kernel
theorem d_M_space_72 : decode c_M_space 72 = .ok (.ireturn, 1) := by decide +kernel
theorem d_M_from_0 : decode c_M_from 0 = .ok (.iload_n 1, 1) := by decide +kernel
theorem d_M_from_1 : decode c_M_from 1 = .ok (.istore_n 2, 1) := by decide +kernel
theorem d_M_from_2 : decode c_M_from 2 = .ok (.aload_n 0, 1) := by decide +kernel
theorem d_M_from_3 : decode c_M_from 3 = .ok (.getfield 13, 3) := by decide +kernel
theorem d_M_from_6 : decode c_M_from 6 = .ok (.iload_n 2, 1) := by decide +kernel
theorem d_M_from_7 : decode c_M_from 7 = .ok (.baload, 1) := by decide +kernel
theorem d_M_from_8 : decode c_M_from 8 = .ok (.ifCond .ne 9, 3) := by decide +kernel
theorem d_M_from_11 : decode c_M_from 11 = .ok (.iinc 2 (-1), 3) := by decide +kernel
theorem d_M_from_14 : decode c_M_from 14 = .ok (.goto (-12), 3) := by decide +kernel
theorem d_M_from_17 : decode c_M_from 17 = .ok (.iload_n 2, 1) := by decide +kernel
theorem d_M_from_18 : decode c_M_from 18 = .ok (.ireturn, 1) := by decide +kernel
theorem d_M_behind_0 : decode c_M_behind 0 = .ok (.iload_n 1, 1) := by decide +kernel
theorem d_M_behind_1 : decode c_M_behind 1 = .ok (.iconst 1, 1) := by decide +kernel
theorem d_M_behind_2 : decode c_M_behind 2 = .ok (.iadd, 1) := by decide +kernel
theorem d_M_behind_3 : decode c_M_behind 3 = .ok (.istore_n 2, 1) := by decide +kernel
theorem d_M_behind_4 : decode c_M_behind 4 = .ok (.aload_n 0, 1) := by decide +kernel
theorem d_M_behind_5 : decode c_M_behind 5 = .ok (.getfield 13, 3) := by decide +kernel
theorem d_M_behind_8 : decode c_M_behind 8 = .ok (.iload_n 2, 1) := by decide +kernel
theorem d_M_behind_9 : decode c_M_behind 9 = .ok (.baload, 1) := by decide +kernel
theorem d_M_behind_10 : decode c_M_behind 10 = .ok (.ifCond .ne 9, 3) := by decide +kernel
theorem d_M_behind_13 : decode c_M_behind 13 = .ok (.iinc 2 1, 3) := by decide +kernel
theorem d_M_behind_16 : decode c_M_behind 16 = .ok (.goto (-12), 3) := by decide +kernel
theorem d_M_behind_19 : decode c_M_behind 19 = .ok (.iload_n 2, 1) := by decide +kernel
theorem d_M_behind_20 : decode c_M_behind 20 = .ok (.ireturn, 1) := by decide +kernel
theorem d_M_pieces_0 : decode c_M_pieces 0 = .ok (.iconst 0, 1) := by decide +kernel
theorem d_M_pieces_1 : decode c_M_pieces 1 = .ok (.istore_n 1, 1) := by decide +kernel
theorem d_M_pieces_2 : decode c_M_pieces 2 = .ok (.iconst 0, 1) := by decide +kernel
theorem d_M_pieces_3 : decode c_M_pieces 3 = .ok (.istore_n 2, 1) := by decide +kernel
theorem d_M_pieces_4 : decode c_M_pieces 4 = .ok (.iload_n 2, 1) := by decide +kernel
theorem d_M_pieces_5 : decode c_M_pieces 5 = .ok (.aload_n 0, 1) := by decide +kernel
theorem d_M_pieces_6 : decode c_M_pieces 6 = .ok (.getfield 7, 3) := by decide +kernel
theorem d_M_pieces_9 : decode c_M_pieces 9 = .ok (.if_icmp .ge 26, 3) := by decide +kernel
theorem d_M_pieces_12 : decode c_M_pieces 12 = .ok (.aload_n 0, 1) := by decide +kernel
theorem d_M_pieces_13 : decode c_M_pieces 13 = .ok (.getfield 13, 3) := by decide +kernel
theorem d_M_pieces_16 : decode c_M_pieces 16 = .ok (.iload_n 2, 1) := by decide +kernel
theorem d_M_pieces_17 : decode c_M_pieces 17 = .ok (.baload, 1) := by decide +kernel
theorem d_M_pieces_18 : decode c_M_pieces 18 = .ok (.ifCond .eq 9, 3) := by decide +kernel
theorem d_M_pieces_21 : decode c_M_pieces 21 = .ok (.iload_n 1, 1) := by decide +kernel
theorem d_M_pieces_22 : decode c_M_pieces 22 = .ok (.iconst 1, 1) := by decide +kernel
theorem d_M_pieces_23 : decode c_M_pieces 23 = .ok (.iadd, 1) := by decide +kernel
theorem d_M_pieces_24 : decode c_M_pieces 24 = .ok (.goto 4, 3) := by decide +kernel
theorem d_M_pieces_27 : decode c_M_pieces 27 = .ok (.iload_n 1, 1) := by decide +kernel
theorem d_M_pieces_28 : decode c_M_pieces 28 = .ok (.istore_n 1, 1) := by decide +kernel
theorem d_M_pieces_29 : decode c_M_pieces 29 = .ok (.iinc 2 1, 3) := by decide +kernel
theorem d_M_pieces_32 : decode c_M_pieces 32 = .ok (.goto (-28), 3) := by decide +kernel
theorem d_M_pieces_35 : decode c_M_pieces 35 = .ok (.iload_n 1, 1) := by decide +kernel
theorem d_M_pieces_36 : decode c_M_pieces 36 = .ok (.ireturn, 1) := by decide +kernel
theorem d_M_cut_0 : decode c_M_cut 0 = .ok (.aload_n 0, 1) := by decide +kernel
theorem d_M_cut_1 : decode c_M_cut 1 = .ok (.aload_n 0, 1) := by decide +kernel
theorem d_M_cut_2 : decode c_M_cut 2 = .ok (.iload_n 1, 1) := by decide +kernel
theorem d_M_cut_3 : decode c_M_cut 3 = .ok (.invokevirtual 28, 3) := by decide +kernel
theorem d_M_cut_6 : decode c_M_cut 6 = .ok (.invokevirtual 24, 3) := by decide +kernel
theorem d_M_cut_9 : decode c_M_cut 9 = .ok (.ifCond .ne 5, 3) := by decide +kernel
theorem d_M_cut_12 : decode c_M_cut 12 = .ok (.iconst 0, 1) := by decide +kernel
theorem d_M_cut_13 : decode c_M_cut 13 = .ok (.ireturn, 1) := by decide +kernel
theorem d_M_cut_14 : decode c_M_cut 14 = .ok (.iload_n 1, 1) := by decide +kernel
theorem d_M_cut_15 : decode c_M_cut 15 = .ok (.aload_n 0, 1) := by decide +kernel
theorem d_M_cut_16 : decode c_M_cut 16 = .ok (.iload_n 1, 1) := by decide +kernel
theorem d_M_cut_17 : decode c_M_cut 17 = .ok (.invokevirtual 32, 3) := by decide +kernel
theorem d_M_cut_20 : decode c_M_cut 20 = .ok (.isub, 1) := by decide +kernel
theorem d_M_cut_21 : decode c_M_cut 21 = .ok (.istore_n 2, 1) := by decide +kernel
theorem d_M_cut_22 : decode c_M_cut 22 = .ok (.aload_n 0, 1) := by decide +kernel
theorem d_M_cut_23 : decode c_M_cut 23 = .ok (.getfield 13, 3) := by decide +kernel
theorem d_M_cut_26 : decode c_M_cut 26 = .ok (.iload_n 1, 1) := by decide +kernel
theorem d_M_cut_27 : decode c_M_cut 27 = .ok (.iconst 1, 1) := by decide +kernel
theorem d_M_cut_28 : decode c_M_cut 28 = .ok (.bastore, 1) := by decide +kernel
theorem d_M_cut_29 : decode c_M_cut 29 = .ok (.iload_n 2, 1) := by decide +kernel
theorem d_M_cut_30 : decode c_M_cut 30 = .ok (.ireturn, 1) := by decide +kernel
theorem d_M_join_0 : decode c_M_join 0 = .ok (.aload_n 0, 1) := by decide +kernel
theorem d_M_join_1 : decode c_M_join 1 = .ok (.aload_n 0, 1) := by decide +kernel
theorem d_M_join_2 : decode c_M_join 2 = .ok (.iload_n 1, 1) := by decide +kernel
theorem d_M_join_3 : decode c_M_join 3 = .ok (.invokevirtual 28, 3) := by decide +kernel
theorem d_M_join_6 : decode c_M_join 6 = .ok (.invokevirtual 24, 3) := by decide +kernel
theorem d_M_join_9 : decode c_M_join 9 = .ok (.ifCond .ne 5, 3) := by decide +kernel
theorem d_M_join_12 : decode c_M_join 12 = .ok (.iconst 0, 1) := by decide +kernel
theorem d_M_join_13 : decode c_M_join 13 = .ok (.ireturn, 1) := by decide +kernel
theorem d_M_join_14 : decode c_M_join 14 = .ok (.aload_n 0, 1) := by decide +kernel
theorem d_M_join_15 : decode c_M_join 15 = .ok (.iload_n 1, 1) := by decide +kernel
theorem d_M_join_16 : decode c_M_join 16 = .ok (.invokevirtual 36, 3) := by decide +kernel
theorem d_M_join_19 : decode c_M_join 19 = .ok (.istore_n 2, 1) := by decide +kernel
theorem d_M_join_20 : decode c_M_join 20 = .ok (.iload_n 2, 1) := by decide +kernel
theorem d_M_join_21 : decode c_M_join 21 = .ok (.aload_n 0, 1) := by decide +kernel
theorem d_M_join_22 : decode c_M_join 22 = .ok (.getfield 7, 3) := by decide +kernel
theorem d_M_join_25 : decode c_M_join 25 = .ok (.if_icmp .ne 5, 3) := by decide +kernel
theorem d_M_join_28 : decode c_M_join 28 = .ok (.iconst 0, 1) := by decide +kernel
theorem d_M_join_29 : decode c_M_join 29 = .ok (.ireturn, 1) := by decide +kernel
theorem d_M_join_30 : decode c_M_join 30 = .ok (.aload_n 0, 1) := by decide +kernel
theorem d_M_join_31 : decode c_M_join 31 = .ok (.getfield 13, 3) := by decide +kernel
theorem d_M_join_34 : decode c_M_join 34 = .ok (.iload_n 2, 1) := by decide +kernel
theorem d_M_join_35 : decode c_M_join 35 = .ok (.iconst 0, 1) := by decide +kernel
theorem d_M_join_36 : decode c_M_join 36 = .ok (.bastore, 1) := by decide +kernel
theorem d_M_join_37 : decode c_M_join 37 = .ok (.aload_n 0, 1) := by decide +kernel
theorem d_M_join_38 : decode c_M_join 38 = .ok (.iload_n 1, 1) := by decide +kernel
theorem d_M_join_39 : decode c_M_join 39 = .ok (.invokevirtual 36, 3) := by decide +kernel
theorem d_M_join_42 : decode c_M_join 42 = .ok (.aload_n 0, 1) := by decide +kernel
theorem d_M_join_43 : decode c_M_join 43 = .ok (.iload_n 1, 1) := by decide +kernel
theorem d_M_join_44 : decode c_M_join 44 = .ok (.invokevirtual 32, 3) := by decide +kernel
theorem d_M_join_47 : decode c_M_join 47 = .ok (.isub, 1) := by decide +kernel
theorem d_M_join_48 : decode c_M_join 48 = .ok (.ireturn, 1) := by decide +kernel
theorem d_M_make_0 : decode c_M_make 0 = .ok (.aload_n 0, 1) := by decide +kernel
theorem d_M_make_1 : decode c_M_make 1 = .ok (.aload_n 0, 1) := by decide +kernel
theorem d_M_make_2 : decode c_M_make 2 = .ok (.iload_n 1, 1) := by decide +kernel
theorem d_M_make_3 : decode c_M_make 3 = .ok (.invokevirtual 28, 3) := by decide +kernel
theorem d_M_make_6 : decode c_M_make 6 = .ok (.ifCond .eq 20, 3) := by decide +kernel
theorem d_M_make_9 : decode c_M_make 9 = .ok (.iload_n 2, 1) := by decide +kernel
theorem d_M_make_10 : decode c_M_make 10 = .ok (.iload_n 1, 1) := by decide +kernel
theorem d_M_make_11 : decode c_M_make 11 = .ok (.if_icmp .le 15, 3) := by decide +kernel
theorem d_M_make_14 : decode c_M_make 14 = .ok (.iload_n 2, 1) := by decide +kernel
theorem d_M_make_15 : decode c_M_make 15 = .ok (.aload_n 0, 1) := by decide +kernel
theorem d_M_make_16 : decode c_M_make 16 = .ok (.getfield 7, 3) := by decide +kernel
theorem d_M_make_19 : decode c_M_make 19 = .ok (.if_icmp .gt 7, 3) := by decide +kernel
theorem d_M_make_22 : decode c_M_make 22 = .ok (.iconst 1, 1) := by decide +kernel
theorem d_M_make_23 : decode c_M_make 23 = .ok (.goto 4, 3) := by decide +kernel
theorem d_M_make_26 : decode c_M_make 26 = .ok (.iconst 0, 1) := by decide +kernel
theorem d_M_make_27 : decode c_M_make 27 = .ok (.invokevirtual 24, 3) := by decide +kernel
theorem d_M_make_30 : decode c_M_make 30 = .ok (.ifCond .ne 5, 3) := by decide +kernel
theorem d_M_make_33 : decode c_M_make 33 = .ok (.iconst 0, 1) := by decide +kernel
theorem d_M_make_34 : decode c_M_make 34 = .ok (.ireturn, 1) := by decide +kernel
theorem d_M_make_35 : decode c_M_make 35 = .ok (.iload_n 1, 1) := by decide +kernel
theorem d_M_make_36 : decode c_M_make 36 = .ok (.istore_n 3, 1) := by decide +kernel
theorem d_M_make_37 : decode c_M_make 37 = .ok (.iload_n 3, 1) := by decide +kernel
theorem d_M_make_38 : decode c_M_make 38 = .ok (.iload_n 2, 1) := by decide +kernel
theorem d_M_make_39 : decode c_M_make 39 = .ok (.if_icmp .gt 30, 3) := by decide +kernel
theorem d_M_make_42 : decode c_M_make 42 = .ok (.aload_n 0, 1) := by decide +kernel
theorem d_M_make_43 : decode c_M_make 43 = .ok (.getfield 13, 3) := by decide +kernel
theorem d_M_make_46 : decode c_M_make 46 = .ok (.iload_n 3, 1) := by decide +kernel
theorem d_M_make_47 : decode c_M_make 47 = .ok (.iload_n 3, 1) := by decide +kernel
theorem d_M_make_48 : decode c_M_make 48 = .ok (.iload_n 1, 1) := by decide +kernel
theorem d_M_make_49 : decode c_M_make 49 = .ok (.if_icmp .eq 8, 3) := by decide +kernel
theorem d_M_make_52 : decode c_M_make 52 = .ok (.iload_n 3, 1) := by decide +kernel
theorem d_M_make_53 : decode c_M_make 53 = .ok (.iload_n 2, 1) := by decide +kernel
theorem d_M_make_54 : decode c_M_make 54 = .ok (.if_icmp .ne 7, 3) := by decide +kernel
theorem d_M_make_57 : decode c_M_make 57 = .ok (.iconst 1, 1) := by decide +kernel
theorem d_M_make_58 : decode c_M_make 58 = .ok (.goto 4, 3) := by decide +kernel
theorem d_M_make_61 : decode c_M_make 61 = .ok (.iconst 0, 1) := by decide +kernel
theorem d_M_make_62 : decode c_M_make 62 = .ok (.bastore, 1) := by decide +kernel
theorem d_M_make_63 : decode c_M_make 63 = .ok (.iinc 3 1, 3) := by decide +kernel
theorem d_M_make_66 : decode c_M_make 66 = .ok (.goto (-29), 3) := by decide +kernel
theorem d_M_make_69 : decode c_M_make 69 = .ok (.aload_n 0, 1) := by decide +kernel
theorem d_M_make_70 : decode c_M_make 70 = .ok (.invokevirtual 39, 3) := by decide +kernel
theorem d_M_make_73 : decode c_M_make 73 = .ok (.ireturn, 1) := by decide +kernel
theorem d_M_begin_0 : decode c_M_begin 0 = .ok (.aload_n 0, 1) := by decide +kernel
theorem d_M_begin_1 : decode c_M_begin 1 = .ok (.aload_n 0, 1) := by decide +kernel
theorem d_M_begin_2 : decode c_M_begin 2 = .ok (.iload_n 1, 1) := by decide +kernel
theorem d_M_begin_3 : decode c_M_begin 3 = .ok (.invokevirtual 28, 3) := by decide +kernel
theorem d_M_begin_6 : decode c_M_begin 6 = .ok (.invokevirtual 24, 3) := by decide +kernel
theorem d_M_begin_9 : decode c_M_begin 9 = .ok (.ifCond .eq 11, 3) := by decide +kernel
theorem d_M_begin_12 : decode c_M_begin 12 = .ok (.aload_n 0, 1) := by decide +kernel
theorem d_M_begin_13 : decode c_M_begin 13 = .ok (.iload_n 1, 1) := by decide +kernel
theorem d_M_begin_14 : decode c_M_begin 14 = .ok (.invokevirtual 32, 3) := by decide +kernel
theorem d_M_begin_17 : decode c_M_begin 17 = .ok (.goto 4, 3) := by decide +kernel
theorem d_M_begin_20 : decode c_M_begin 20 = .ok (.iconst 0, 1) := by decide +kernel
theorem d_M_begin_21 : decode c_M_begin 21 = .ok (.ireturn, 1) := by decide +kernel
theorem d_M_size_0 : decode c_M_size 0 = .ok (.aload_n 0, 1) := by decide +kernel
theorem d_M_size_1 : decode c_M_size 1 = .ok (.aload_n 0, 1) := by decide +kernel
theorem d_M_size_2 : decode c_M_size 2 = .ok (.iload_n 1, 1) := by decide +kernel
theorem d_M_size_3 : decode c_M_size 3 = .ok (.invokevirtual 28, 3) := by decide +kernel
theorem d_M_size_6 : decode c_M_size 6 = .ok (.invokevirtual 24, 3) := by decide +kernel
theorem d_M_size_9 : decode c_M_size 9 = .ok (.ifCond .eq 17, 3) := by decide +kernel
theorem d_M_size_12 : decode c_M_size 12 = .ok (.aload_n 0, 1) := by decide +kernel
theorem d_M_size_13 : decode c_M_size 13 = .ok (.iload_n 1, 1) := by decide +kernel
theorem d_M_size_14 : decode c_M_size 14 = .ok (.invokevirtual 36, 3) := by decide +kernel
theorem d_M_size_17 : decode c_M_size 17 = .ok (.aload_n 0, 1) := by decide +kernel
theorem d_M_size_18 : decode c_M_size 18 = .ok (.iload_n 1, 1) := by decide +kernel
theorem d_M_size_19 : decode c_M_size 19 = .ok (.invokevirtual 32, 3) := by decide +kernel
theorem d_M_size_22 : decode c_M_size 22 = .ok (.isub, 1) := by decide +kernel
theorem d_M_size_23 : decode c_M_size 23 = .ok (.goto 4, 3) := by decide +kernel
theorem d_M_size_26 : decode c_M_size 26 = .ok (.iconst 0, 1) := by decide +kernel
theorem d_M_size_27 : decode c_M_size 27 = .ok (.ireturn, 1) := by decide +kernel
theorem d_M_start_0 : decode c_M_start 0 = .ok (.aload_n 0, 1) := by decide +kernel
theorem d_M_start_1 : decode c_M_start 1 = .ok (.aload_n 0, 1) := by decide +kernel
theorem d_M_start_2 : decode c_M_start 2 = .ok (.iload_n 1, 1) := by decide +kernel
theorem d_M_start_3 : decode c_M_start 3 = .ok (.invokevirtual 42, 3) := by decide +kernel
theorem d_M_start_6 : decode c_M_start 6 = .ok (.invokevirtual 24, 3) := by decide +kernel
theorem d_M_start_9 : decode c_M_start 9 = .ok (.ifCond .eq 14, 3) := by decide +kernel
theorem d_M_start_12 : decode c_M_start 12 = .ok (.aload_n 0, 1) := by decide +kernel
theorem d_M_start_13 : decode c_M_start 13 = .ok (.bipush 32, 2) := by decide +kernel
theorem d_M_start_15 : decode c_M_start 15 = .ok (.iload_n 1, 1) := by decide +kernel
theorem d_M_start_16 : decode c_M_start 16 = .ok (.imul, 1) := by decide +kernel
theorem d_M_start_17 : decode c_M_start 17 = .ok (.invokevirtual 32, 3) := by decide +kernel
theorem d_M_start_20 : decode c_M_start 20 = .ok (.goto 4, 3) := by decide +kernel
theorem d_M_start_23 : decode c_M_start 23 = .ok (.iconst 0, 1) := by decide +kernel
theorem d_M_start_24 : decode c_M_start 24 = .ok (.ireturn, 1) := by decide +kernel
theorem d_M_begins_0 : decode c_M_begins 0 = .ok (.aload_n 0, 1) := by decide +kernel
theorem d_M_begins_1 : decode c_M_begins 1 = .ok (.aload_n 0, 1) := by decide +kernel
theorem d_M_begins_2 : decode c_M_begins 2 = .ok (.iload_n 1, 1) := by decide +kernel
theorem d_M_begins_3 : decode c_M_begins 3 = .ok (.invokevirtual 42, 3) := by decide +kernel
theorem d_M_begins_6 : decode c_M_begins 6 = .ok (.invokevirtual 24, 3) := by decide +kernel
theorem d_M_begins_9 : decode c_M_begins 9 = .ok (.ifCond .ne 5, 3) := by decide +kernel
theorem d_M_begins_12 : decode c_M_begins 12 = .ok (.iconst 0, 1) := by decide +kernel
theorem d_M_begins_13 : decode c_M_begins 13 = .ok (.ireturn, 1) := by decide +kernel
theorem d_M_begins_14 : decode c_M_begins 14 = .ok (.iconst 0, 1) := by decide +kernel
theorem d_M_begins_15 : decode c_M_begins 15 = .ok (.istore_n 2, 1) := by decide +kernel
theorem d_M_begins_16 : decode c_M_begins 16 = .ok (.bipush 32, 2) := by decide +kernel
theorem d_M_begins_18 : decode c_M_begins 18 = .ok (.iload_n 1, 1) := by decide +kernel
theorem d_M_begins_19 : decode c_M_begins 19 = .ok (.imul, 1) := by decide +kernel
theorem d_M_begins_20 : decode c_M_begins 20 = .ok (.istore_n 3, 1) := by decide +kernel
theorem d_M_begins_21 : decode c_M_begins 21 = .ok (.iload_n 3, 1) := by decide +kernel
theorem d_M_begins_22 : decode c_M_begins 22 = .ok (.bipush 32, 2) := by decide +kernel
theorem d_M_begins_24 : decode c_M_begins 24 = .ok (.iload_n 1, 1) := by decide +kernel
theorem d_M_begins_25 : decode c_M_begins 25 = .ok (.imul, 1) := by decide +kernel
theorem d_M_begins_26 : decode c_M_begins 26 = .ok (.bipush 32, 2) := by decide +kernel
theorem d_M_begins_28 : decode c_M_begins 28 = .ok (.iadd, 1) := by decide +kernel
theorem d_M_begins_29 : decode c_M_begins 29 = .ok (.if_icmp .ge 34, 3) := by decide +kernel
theorem d_M_begins_32 : decode c_M_begins 32 = .ok (.iload_n 3, 1) := by decide +kernel
theorem d_M_begins_33 : decode c_M_begins 33 = .ok (.aload_n 0, 1) := by decide +kernel
theorem d_M_begins_34 : decode c_M_begins 34 = .ok (.getfield 7, 3) := by decide +kernel
theorem d_M_begins_37 : decode c_M_begins 37 = .ok (.if_icmp .ge 26, 3) := by decide +kernel
theorem d_M_begins_40 : decode c_M_begins 40 = .ok (.aload_n 0, 1) := by decide +kernel
theorem d_M_begins_41 : decode c_M_begins 41 = .ok (.getfield 13, 3) := by decide +kernel
theorem d_M_begins_44 : decode c_M_begins 44 = .ok (.iload_n 3, 1) := by decide +kernel
theorem d_M_begins_45 : decode c_M_begins 45 = .ok (.baload, 1) := by decide +kernel
theorem d_M_begins_46 : decode c_M_begins 46 = .ok (.ifCond .eq 9, 3) := by decide +kernel
theorem d_M_begins_49 : decode c_M_begins 49 = .ok (.iload_n 2, 1) := by decide +kernel
theorem d_M_begins_50 : decode c_M_begins 50 = .ok (.iconst 1, 1) := by decide +kernel
theorem d_M_begins_51 : decode c_M_begins 51 = .ok (.iadd, 1) := by decide +kernel
theorem d_M_begins_52 : decode c_M_begins 52 = .ok (.goto 4, 3) := by decide +kernel
theorem d_M_begins_55 : decode c_M_begins 55 = .ok (.iload_n 2, 1) := by decide +kernel
theorem d_M_begins_56 : decode c_M_begins 56 = .ok (.istore_n 2, 1) := by decide +kernel
theorem d_M_begins_57 : decode c_M_begins 57 = .ok (.iinc 3 1, 3) := by decide +kernel
theorem d_M_begins_60 : decode c_M_begins 60 = .ok (.goto (-39), 3) := by decide +kernel
theorem d_M_begins_63 : decode c_M_begins 63 = .ok (.iload_n 2, 1) := by decide +kernel
theorem d_M_begins_64 : decode c_M_begins 64 = .ok (.ireturn, 1) := by decide +kernel
theorem d_M_count_0 : decode c_M_count 0 = .ok (.aload_n 0, 1) := by decide +kernel
theorem d_M_count_1 : decode c_M_count 1 = .ok (.iload_n 1, 1) := by decide +kernel
theorem d_M_count_2 : decode c_M_count 2 = .ok (.ifCond .lt 12, 3) := by decide +kernel
theorem d_M_count_5 : decode c_M_count 5 = .ok (.iload_n 1, 1) := by decide +kernel
theorem d_M_count_6 : decode c_M_count 6 = .ok (.iconst 4, 1) := by decide +kernel
theorem d_M_count_7 : decode c_M_count 7 = .ok (.if_icmp .gt 7, 3) := by decide +kernel
theorem d_M_count_10 : decode c_M_count 10 = .ok (.iconst 1, 1) := by decide +kernel
theorem d_M_count_11 : decode c_M_count 11 = .ok (.goto 4, 3) := by decide +kernel
theorem d_M_count_14 : decode c_M_count 14 = .ok (.iconst 0, 1) := by decide +kernel
theorem d_M_count_15 : decode c_M_count 15 = .ok (.invokevirtual 24, 3) := by decide +kernel
theorem d_M_count_18 : decode c_M_count 18 = .ok (.ifCond .ne 5, 3) := by decide +kernel
theorem d_M_count_21 : decode c_M_count 21 = .ok (.iconst 0, 1) := by decide +kernel
theorem d_M_count_22 : decode c_M_count 22 = .ok (.ireturn, 1) := by decide +kernel
theorem d_M_count_23 : decode c_M_count 23 = .ok (.iconst 0, 1) := by decide +kernel
theorem d_M_count_24 : decode c_M_count 24 = .ok (.istore_n 2, 1) := by decide +kernel
theorem d_M_count_25 : decode c_M_count 25 = .ok (.sipush 16384, 3) := by decide +kernel
theorem d_M_count_28 : decode c_M_count 28 = .ok (.istore_n 3, 1) := by decide +kernel
theorem d_M_count_29 : decode c_M_count 29 = .ok (.iconst 0, 1) := by decide +kernel
theorem d_M_count_30 : decode c_M_count 30 = .ok (.istore 4, 2) := by decide +kernel
theorem d_M_count_32 : decode c_M_count 32 = .ok (.iload 4, 2) := by decide +kernel
theorem d_M_count_34 : decode c_M_count 34 = .ok (.aload_n 0, 1) := by decide +kernel
theorem d_M_count_35 : decode c_M_count 35 = .ok (.getfield 7, 3) := by decide +kernel
theorem d_M_count_38 : decode c_M_count 38 = .ok (.if_icmp .ge 51, 3) := by decide +kernel
theorem d_M_count_41 : decode c_M_count 41 = .ok (.aload_n 0, 1) := by decide +kernel
theorem d_M_count_42 : decode c_M_count 42 = .ok (.iload 4, 2) := by decide +kernel
theorem d_M_count_44 : decode c_M_count 44 = .ok (.invokevirtual 36, 3) := by decide +kernel
theorem d_M_count_47 : decode c_M_count 47 = .ok (.iload 4, 2) := by decide +kernel
theorem d_M_count_49 : decode c_M_count 49 = .ok (.isub, 1) := by decide +kernel
theorem d_M_count_50 : decode c_M_count 50 = .ok (.istore 5, 2) := by decide +kernel
theorem d_M_count_52 : decode c_M_count 52 = .ok (.iload 5, 2) := by decide +kernel
theorem d_M_count_54 : decode c_M_count 54 = .ok (.iload_n 2, 1) := by decide +kernel
theorem d_M_count_55 : decode c_M_count 55 = .ok (.if_icmp .le 8, 3) := by decide +kernel
theorem d_M_count_58 : decode c_M_count 58 = .ok (.iload 5, 2) := by decide +kernel
theorem d_M_count_60 : decode c_M_count 60 = .ok (.goto 4, 3) := by decide +kernel
theorem d_M_count_63 : decode c_M_count 63 = .ok (.iload_n 2, 1) := by decide +kernel
theorem d_M_count_64 : decode c_M_count 64 = .ok (.istore_n 2, 1) := by decide +kernel
theorem d_M_count_65 : decode c_M_count 65 = .ok (.iload 5, 2) := by decide +kernel
theorem d_M_count_67 : decode c_M_count 67 = .ok (.iload_n 3, 1) := by decide +kernel
theorem d_M_count_68 : decode c_M_count 68 = .ok (.if_icmp .ge 8, 3) := by decide +kernel
theorem d_M_count_71 : decode c_M_count 71 = .ok (.iload 5, 2) := by decide +kernel
theorem d_M_count_73 : decode c_M_count 73 = .ok (.goto 4, 3) := by decide +kernel
theorem d_M_count_76 : decode c_M_count 76 = .ok (.iload_n 3, 1) := by decide +kernel
theorem d_M_count_77 : decode c_M_count 77 = .ok (.istore_n 3, 1) := by decide +kernel
theorem d_M_count_78 : decode c_M_count 78 = .ok (.aload_n 0, 1) := by decide +kernel
theorem d_M_count_79 : decode c_M_count 79 = .ok (.iload 4, 2) := by decide +kernel
theorem d_M_count_81 : decode c_M_count 81 = .ok (.invokevirtual 36, 3) := by decide +kernel
theorem d_M_count_84 : decode c_M_count 84 = .ok (.istore 4, 2) := by decide +kernel
theorem d_M_count_86 : decode c_M_count 86 = .ok (.goto (-54), 3) := by decide +kernel
theorem d_M_count_89 : decode c_M_count 89 = .ok (.iload_n 1, 1) := by decide +kernel
theorem d_M_count_90 : decode c_M_count 90 = .ok (.tableswitch 47 0 3 #[30, 35, 40, 45], 30) := by decide +kernel
theorem d_M_count_120 : decode c_M_count 120 = .ok (.aload_n 0, 1) := by decide +kernel
theorem d_M_count_121 : decode c_M_count 121 = .ok (.getfield 7, 3) := by decide +kernel
theorem d_M_count_124 : decode c_M_count 124 = .ok (.ireturn, 1) := by decide +kernel
theorem d_M_count_125 : decode c_M_count 125 = .ok (.aload_n 0, 1) := by decide +kernel
theorem d_M_count_126 : decode c_M_count 126 = .ok (.invokevirtual 20, 3) := by decide +kernel
theorem d_M_count_129 : decode c_M_count 129 = .ok (.ireturn, 1) := by decide +kernel
theorem d_M_count_130 : decode c_M_count 130 = .ok (.aload_n 0, 1) := by decide +kernel
theorem d_M_count_131 : decode c_M_count 131 = .ok (.invokevirtual 39, 3) := by decide +kernel
theorem d_M_count_134 : decode c_M_count 134 = .ok (.ireturn, 1) := by decide +kernel
theorem d_M_count_135 : decode c_M_count 135 = .ok (.iload_n 2, 1) := by decide +kernel
theorem d_M_count_136 : decode c_M_count 136 = .ok (.ireturn, 1) := by decide +kernel
theorem d_M_count_137 : decode c_M_count 137 = .ok (.iload_n 3, 1) := by decide +kernel
theorem d_M_count_138 : decode c_M_count 138 = .ok (.ireturn, 1) := by decide +kernel
theorem d_L_space_0 : decode c_L_space 0 = .ok (.aload_n 2, 1) := by decide +kernel
theorem d_L_space_1 : decode c_L_space 1 = .ok (.iconst 0, 1) := by decide +kernel
theorem d_L_space_2 : decode c_L_space 2 = .ok (.aload_n 0, 1) := by decide +kernel
theorem d_L_space_3 : decode c_L_space 3 = .ok (.iload_n 1, 1) := by decide +kernel
theorem d_L_space_4 : decode c_L_space 4 = .ok (.invokevirtual 7, 3) := by decide +kernel
theorem d_L_space_7 : decode c_L_space 7 = .ok (.i2l, 1) := by decide +kernel
theorem d_L_space_8 : decode c_L_space 8 = .ok (.lastore, 1) := by decide +kernel
theorem d_L_space_9 : decode c_L_space 9 = .ok (.goto 6, 3) := by decide +kernel
theorem d_L_space_12 : decode c_L_space 12 = .ok (.astore_n 3, 1) := by decide +kernel
theorem d_L_space_13 : decode c_L_space 13 = .ok (.iconst 1, 1) := by decide +kernel
theorem d_L_space_14 : decode c_L_space 14 = .ok (.ireturn, 1) := by decide +kernel
theorem d_L_space_15 : decode c_L_space 15 = .ok (.iconst 0, 1) := by decide +kernel
theorem d_L_space_16 : decode c_L_space 16 = .ok (.ireturn, 1) := by decide +kernel
theorem d_L_cut_0 : decode c_L_cut 0 = .ok (.aload_n 2, 1) := by decide +kernel
theorem d_L_cut_1 : decode c_L_cut 1 = .ok (.iconst 0, 1) := by decide +kernel
theorem d_L_cut_2 : decode c_L_cut 2 = .ok (.aload_n 0, 1) := by decide +kernel
theorem d_L_cut_3 : decode c_L_cut 3 = .ok (.iload_n 1, 1) := by decide +kernel
theorem d_L_cut_4 : decode c_L_cut 4 = .ok (.invokevirtual 15, 3) := by decide +kernel
theorem d_L_cut_7 : decode c_L_cut 7 = .ok (.i2l, 1) := by decide +kernel
theorem d_L_cut_8 : decode c_L_cut 8 = .ok (.lastore, 1) := by decide +kernel
theorem d_L_cut_9 : decode c_L_cut 9 = .ok (.goto 6, 3) := by decide +kernel
theorem d_L_cut_12 : decode c_L_cut 12 = .ok (.astore_n 3, 1) := by decide +kernel
theorem d_L_cut_13 : decode c_L_cut 13 = .ok (.iconst 1, 1) := by decide +kernel
theorem d_L_cut_14 : decode c_L_cut 14 = .ok (.ireturn, 1) := by decide +kernel
theorem d_L_cut_15 : decode c_L_cut 15 = .ok (.iconst 0, 1) := by decide +kernel
theorem d_L_cut_16 : decode c_L_cut 16 = .ok (.ireturn, 1) := by decide +kernel
theorem d_L_join_0 : decode c_L_join 0 = .ok (.aload_n 2, 1) := by decide +kernel
theorem d_L_join_1 : decode c_L_join 1 = .ok (.iconst 0, 1) := by decide +kernel
theorem d_L_join_2 : decode c_L_join 2 = .ok (.aload_n 0, 1) := by decide +kernel
theorem d_L_join_3 : decode c_L_join 3 = .ok (.iload_n 1, 1) := by decide +kernel
theorem d_L_join_4 : decode c_L_join 4 = .ok (.invokevirtual 20, 3) := by decide +kernel
theorem d_L_join_7 : decode c_L_join 7 = .ok (.i2l, 1) := by decide +kernel
theorem d_L_join_8 : decode c_L_join 8 = .ok (.lastore, 1) := by decide +kernel
theorem d_L_join_9 : decode c_L_join 9 = .ok (.goto 6, 3) := by decide +kernel
theorem d_L_join_12 : decode c_L_join 12 = .ok (.astore_n 3, 1) := by decide +kernel
theorem d_L_join_13 : decode c_L_join 13 = .ok (.iconst 1, 1) := by decide +kernel
theorem d_L_join_14 : decode c_L_join 14 = .ok (.ireturn, 1) := by decide +kernel
theorem d_L_join_15 : decode c_L_join 15 = .ok (.iconst 0, 1) := by decide +kernel
theorem d_L_join_16 : decode c_L_join 16 = .ok (.ireturn, 1) := by decide +kernel
theorem d_L_make_0 : decode c_L_make 0 = .ok (.aload_n 3, 1) := by decide +kernel
theorem d_L_make_1 : decode c_L_make 1 = .ok (.iconst 0, 1) := by decide +kernel
theorem d_L_make_2 : decode c_L_make 2 = .ok (.aload_n 0, 1) := by decide +kernel
theorem d_L_make_3 : decode c_L_make 3 = .ok (.iload_n 1, 1) := by decide +kernel
theorem d_L_make_4 : decode c_L_make 4 = .ok (.iload_n 2, 1) := by decide +kernel
theorem d_L_make_5 : decode c_L_make 5 = .ok (.invokevirtual 23, 3) := by decide +kernel
theorem d_L_make_8 : decode c_L_make 8 = .ok (.i2l, 1) := by decide +kernel
theorem d_L_make_9 : decode c_L_make 9 = .ok (.lastore, 1) := by decide +kernel
theorem d_L_make_10 : decode c_L_make 10 = .ok (.goto 7, 3) := by decide +kernel
theorem d_L_make_13 : decode c_L_make 13 = .ok (.astore 4, 2) := by decide +kernel
theorem d_L_make_15 : decode c_L_make 15 = .ok (.iconst 1, 1) := by decide +kernel
theorem d_L_make_16 : decode c_L_make 16 = .ok (.ireturn, 1) := by decide +kernel
theorem d_L_make_17 : decode c_L_make 17 = .ok (.iconst 0, 1) := by decide +kernel
theorem d_L_make_18 : decode c_L_make 18 = .ok (.ireturn, 1) := by decide +kernel
theorem d_L_begin_0 : decode c_L_begin 0 = .ok (.aload_n 2, 1) := by decide +kernel
theorem d_L_begin_1 : decode c_L_begin 1 = .ok (.iconst 0, 1) := by decide +kernel
theorem d_L_begin_2 : decode c_L_begin 2 = .ok (.aload_n 0, 1) := by decide +kernel
theorem d_L_begin_3 : decode c_L_begin 3 = .ok (.iload_n 1, 1) := by decide +kernel
theorem d_L_begin_4 : decode c_L_begin 4 = .ok (.invokevirtual 27, 3) := by decide +kernel
theorem d_L_begin_7 : decode c_L_begin 7 = .ok (.i2l, 1) := by decide +kernel
theorem d_L_begin_8 : decode c_L_begin 8 = .ok (.lastore, 1) := by decide +kernel
theorem d_L_begin_9 : decode c_L_begin 9 = .ok (.goto 6, 3) := by decide +kernel
theorem d_L_begin_12 : decode c_L_begin 12 = .ok (.astore_n 3, 1) := by decide +kernel
theorem d_L_begin_13 : decode c_L_begin 13 = .ok (.iconst 1, 1) := by decide +kernel
theorem d_L_begin_14 : decode c_L_begin 14 = .ok (.ireturn, 1) := by decide +kernel
theorem d_L_begin_15 : decode c_L_begin 15 = .ok (.iconst 0, 1) := by decide +kernel
theorem d_L_begin_16 : decode c_L_begin 16 = .ok (.ireturn, 1) := by decide +kernel
theorem d_L_size_0 : decode c_L_size 0 = .ok (.aload_n 2, 1) := by decide +kernel
theorem d_L_size_1 : decode c_L_size 1 = .ok (.iconst 0, 1) := by decide +kernel
theorem d_L_size_2 : decode c_L_size 2 = .ok (.aload_n 0, 1) := by decide +kernel
theorem d_L_size_3 : decode c_L_size 3 = .ok (.iload_n 1, 1) := by decide +kernel
theorem d_L_size_4 : decode c_L_size 4 = .ok (.invokevirtual 30, 3) := by decide +kernel
theorem d_L_size_7 : decode c_L_size 7 = .ok (.i2l, 1) := by decide +kernel
theorem d_L_size_8 : decode c_L_size 8 = .ok (.lastore, 1) := by decide +kernel
theorem d_L_size_9 : decode c_L_size 9 = .ok (.goto 6, 3) := by decide +kernel
theorem d_L_size_12 : decode c_L_size 12 = .ok (.astore_n 3, 1) := by decide +kernel
theorem d_L_size_13 : decode c_L_size 13 = .ok (.iconst 1, 1) := by decide +kernel
theorem d_L_size_14 : decode c_L_size 14 = .ok (.ireturn, 1) := by decide +kernel
theorem d_L_size_15 : decode c_L_size 15 = .ok (.iconst 0, 1) := by decide +kernel
theorem d_L_size_16 : decode c_L_size 16 = .ok (.ireturn, 1) := by decide +kernel
theorem d_L_start_0 : decode c_L_start 0 = .ok (.aload_n 2, 1) := by decide +kernel
theorem d_L_start_1 : decode c_L_start 1 = .ok (.iconst 0, 1) := by decide +kernel
theorem d_L_start_2 : decode c_L_start 2 = .ok (.aload_n 0, 1) := by decide +kernel
theorem d_L_start_3 : decode c_L_start 3 = .ok (.iload_n 1, 1) := by decide +kernel
theorem d_L_start_4 : decode c_L_start 4 = .ok (.invokevirtual 33, 3) := by decide +kernel
theorem d_L_start_7 : decode c_L_start 7 = .ok (.i2l, 1) := by decide +kernel
theorem d_L_start_8 : decode c_L_start 8 = .ok (.lastore, 1) := by decide +kernel
theorem d_L_start_9 : decode c_L_start 9 = .ok (.goto 6, 3) := by decide +kernel
theorem d_L_start_12 : decode c_L_start 12 = .ok (.astore_n 3, 1) := by decide +kernel
theorem d_L_start_13 : decode c_L_start 13 = .ok (.iconst 1, 1) := by decide +kernel
theorem d_L_start_14 : decode c_L_start 14 = .ok (.ireturn, 1) := by decide +kernel
theorem d_L_start_15 : decode c_L_start 15 = .ok (.iconst 0, 1) := by decide +kernel
theorem d_L_start_16 : decode c_L_start 16 = .ok (.ireturn, 1) := by decide +kernel
theorem d_L_begins_0 : decode c_L_begins 0 = .ok (.aload_n 2, 1) := by decide +kernel
theorem d_L_begins_1 : decode c_L_begins 1 = .ok (.iconst 0, 1) := by decide +kernel
theorem d_L_begins_2 : decode c_L_begins 2 = .ok (.aload_n 0, 1) := by decide +kernel
theorem d_L_begins_3 : decode c_L_begins 3 = .ok (.iload_n 1, 1) := by decide +kernel
theorem d_L_begins_4 : decode c_L_begins 4 = .ok (.invokevirtual 36, 3) := by decide +kernel
theorem d_L_begins_7 : decode c_L_begins 7 = .ok (.i2l, 1) := by decide +kernel
theorem d_L_begins_8 : decode c_L_begins 8 = .ok (.lastore, 1) := by decide +kernel
theorem d_L_begins_9 : decode c_L_begins 9 = .ok (.goto 6, 3) := by decide +kernel
theorem d_L_begins_12 : decode c_L_begins 12 = .ok (.astore_n 3, 1) := by decide +kernel
theorem d_L_begins_13 : decode c_L_begins 13 = .ok (.iconst 1, 1) := by decide +kernel
theorem d_L_begins_14 : decode c_L_begins 14 = .ok (.ireturn, 1) := by decide +kernel
theorem d_L_begins_15 : decode c_L_begins 15 = .ok (.iconst 0, 1) := by decide +kernel
theorem d_L_begins_16 : decode c_L_begins 16 = .ok (.ireturn, 1) := by decide +kernel
theorem d_L_count_0 : decode c_L_count 0 = .ok (.aload_n 2, 1) := by decide +kernel
theorem d_L_count_1 : decode c_L_count 1 = .ok (.iconst 0, 1) := by decide +kernel
theorem d_L_count_2 : decode c_L_count 2 = .ok (.aload_n 0, 1) := by decide +kernel
theorem d_L_count_3 : decode c_L_count 3 = .ok (.iload_n 1, 1) := by decide +kernel
theorem d_L_count_4 : decode c_L_count 4 = .ok (.invokevirtual 39, 3) := by decide +kernel
theorem d_L_count_7 : decode c_L_count 7 = .ok (.i2l, 1) := by decide +kernel
theorem d_L_count_8 : decode c_L_count 8 = .ok (.lastore, 1) := by decide +kernel
theorem d_L_count_9 : decode c_L_count 9 = .ok (.goto 6, 3) := by decide +kernel
theorem d_L_count_12 : decode c_L_count 12 = .ok (.astore_n 3, 1) := by decide +kernel
theorem d_L_count_13 : decode c_L_count 13 = .ok (.iconst 1, 1) := by decide +kernel
theorem d_L_count_14 : decode c_L_count 14 = .ok (.ireturn, 1) := by decide +kernel
theorem d_L_count_15 : decode c_L_count 15 = .ok (.iconst 0, 1) := by decide +kernel
theorem d_L_count_16 : decode c_L_count 16 = .ok (.ireturn, 1) := by decide +kernel
