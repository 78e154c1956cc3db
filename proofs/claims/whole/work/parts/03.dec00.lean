theorem dX0_init_0 : decode cX0_init 0 = .ok (.aload_n 0, 1) := by decide +kernel
theorem dX0_init_1 : decode cX0_init 1 = .ok (.invokespecial 3, 3) := by decide +kernel
theorem dX0_init_4 : decode cX0_init 4 = .ok (.aload_n 0, 1) := by decide +kernel
theorem dX0_init_5 : decode cX0_init 5 = .ok (.new 9, 3) := by decide +kernel
theorem dX0_init_8 : decode cX0_init 8 = .ok (.dup, 1) := by decide +kernel
theorem dX0_init_9 : decode cX0_init 9 = .ok (.bipush 19, 2) := by decide +kernel
theorem dX0_init_11 : decode cX0_init 11 = .ok (.invokespecial 11, 3) := by decide +kernel
theorem dX0_init_14 : decode cX0_init 14 = .ok (.putfield 14, 3) := by decide +kernel
theorem dX0_init_17 : decode cX0_init 17 = .ok (.aload_n 0, 1) := by decide +kernel
theorem dX0_init_18 : decode cX0_init 18 = .ok (.new 9, 3) := by decide +kernel
theorem dX0_init_21 : decode cX0_init 21 = .ok (.dup, 1) := by decide +kernel
theorem dX0_init_22 : decode cX0_init 22 = .ok (.sipush 510, 3) := by decide +kernel
theorem dX0_init_25 : decode cX0_init 25 = .ok (.invokespecial 11, 3) := by decide +kernel
theorem dX0_init_28 : decode cX0_init 28 = .ok (.putfield 20, 3) := by decide +kernel
theorem dX0_init_31 : decode cX0_init 31 = .ok (.aload_n 0, 1) := by decide +kernel
theorem dX0_init_32 : decode cX0_init 32 = .ok (.new 9, 3) := by decide +kernel
theorem dX0_init_35 : decode cX0_init 35 = .ok (.dup, 1) := by decide +kernel
theorem dX0_init_36 : decode cX0_init 36 = .ok (.bipush 14, 2) := by decide +kernel
theorem dX0_init_38 : decode cX0_init 38 = .ok (.invokespecial 11, 3) := by decide +kernel
theorem dX0_init_41 : decode cX0_init 41 = .ok (.putfield 23, 3) := by decide +kernel
theorem dX0_init_44 : decode cX0_init 44 = .ok (.aload_n 0, 1) := by decide +kernel
theorem dX0_init_45 : decode cX0_init 45 = .ok (.iconst 0, 1) := by decide +kernel
theorem dX0_init_46 : decode cX0_init 46 = .ok (.putfield 26, 3) := by decide +kernel
theorem dX0_init_49 : decode cX0_init 49 = .ok (.aload_n 0, 1) := by decide +kernel
theorem dX0_init_50 : decode cX0_init 50 = .ok (.iconst 0, 1) := by decide +kernel
theorem dX0_init_51 : decode cX0_init 51 = .ok (.putfield 30, 3) := by decide +kernel
theorem dX0_init_54 : decode cX0_init 54 = .ok (.aload_n 0, 1) := by decide +kernel
theorem dX0_init_55 : decode cX0_init 55 = .ok (.iconst 0, 1) := by decide +kernel
theorem dX0_init_56 : decode cX0_init 56 = .ok (.putfield 34, 3) := by decide +kernel
theorem dX0_init_59 : decode cX0_init 59 = .ok (.aload_n 0, 1) := by decide +kernel
theorem dX0_init_60 : decode cX0_init 60 = .ok (.iconst 0, 1) := by decide +kernel
theorem dX0_init_61 : decode cX0_init 61 = .ok (.putfield 37, 3) := by decide +kernel
theorem dX0_init_64 : decode cX0_init 64 = .ok (.aload_n 0, 1) := by decide +kernel
theorem dX0_init_65 : decode cX0_init 65 = .ok (.iconst 0, 1) := by decide +kernel
theorem dX0_init_66 : decode cX0_init 66 = .ok (.putfield 40, 3) := by decide +kernel
theorem dX0_init_69 : decode cX0_init 69 = .ok (.return_, 1) := by decide +kernel
theorem dX0_open_0 : decode cX0_open 0 = .ok (.aload_n 0, 1) := by decide +kernel
theorem dX0_open_1 : decode cX0_open 1 = .ok (.iconst 1, 1) := by decide +kernel
theorem dX0_open_2 : decode cX0_open 2 = .ok (.putfield 26, 3) := by decide +kernel
theorem dX0_open_5 : decode cX0_open 5 = .ok (.aload_n 0, 1) := by decide +kernel
theorem dX0_open_6 : decode cX0_open 6 = .ok (.iconst 0, 1) := by decide +kernel
theorem dX0_open_7 : decode cX0_open 7 = .ok (.putfield 30, 3) := by decide +kernel
theorem dX0_open_10 : decode cX0_open 10 = .ok (.aload_n 0, 1) := by decide +kernel
theorem dX0_open_11 : decode cX0_open 11 = .ok (.iconst 0, 1) := by decide +kernel
theorem dX0_open_12 : decode cX0_open 12 = .ok (.putfield 34, 3) := by decide +kernel
theorem dX0_open_15 : decode cX0_open 15 = .ok (.aload_n 0, 1) := by decide +kernel
theorem dX0_open_16 : decode cX0_open 16 = .ok (.iconst 0, 1) := by decide +kernel
theorem dX0_open_17 : decode cX0_open 17 = .ok (.putfield 37, 3) := by decide +kernel
theorem dX0_open_20 : decode cX0_open 20 = .ok (.aload_n 0, 1) := by decide +kernel
theorem dX0_open_21 : decode cX0_open 21 = .ok (.iconst 0, 1) := by decide +kernel
theorem dX0_open_22 : decode cX0_open 22 = .ok (.putfield 40, 3) := by decide +kernel
theorem dX0_open_25 : decode cX0_open 25 = .ok (.return_, 1) := by decide +kernel
theorem dX0_beginBlock_0 : decode cX0_beginBlock 0 = .ok (.aload_n 0, 1) := by decide +kernel
theorem dX0_beginBlock_1 : decode cX0_beginBlock 1 = .ok (.dup, 1) := by decide +kernel
theorem dX0_beginBlock_2 : decode cX0_beginBlock 2 = .ok (.getfield 30, 3) := by decide +kernel
theorem dX0_beginBlock_5 : decode cX0_beginBlock 5 = .ok (.iconst 1, 1) := by decide +kernel
theorem dX0_beginBlock_6 : decode cX0_beginBlock 6 = .ok (.iadd, 1) := by decide +kernel
theorem dX0_beginBlock_7 : decode cX0_beginBlock 7 = .ok (.putfield 30, 3) := by decide +kernel
theorem dX0_beginBlock_10 : decode cX0_beginBlock 10 = .ok (.aload_n 0, 1) := by decide +kernel
theorem dX0_beginBlock_11 : decode cX0_beginBlock 11 = .ok (.getfield 14, 3) := by decide +kernel
theorem dX0_beginBlock_14 : decode cX0_beginBlock 14 = .ok (.invokevirtual 43, 3) := by decide +kernel
theorem dX0_beginBlock_17 : decode cX0_beginBlock 17 = .ok (.aload_n 0, 1) := by decide +kernel
theorem dX0_beginBlock_18 : decode cX0_beginBlock 18 = .ok (.getfield 20, 3) := by decide +kernel
theorem dX0_beginBlock_21 : decode cX0_beginBlock 21 = .ok (.invokevirtual 43, 3) := by decide +kernel
theorem dX0_beginBlock_24 : decode cX0_beginBlock 24 = .ok (.aload_n 0, 1) := by decide +kernel
theorem dX0_beginBlock_25 : decode cX0_beginBlock 25 = .ok (.getfield 23, 3) := by decide +kernel
theorem dX0_beginBlock_28 : decode cX0_beginBlock 28 = .ok (.invokevirtual 43, 3) := by decide +kernel
theorem dX0_beginBlock_31 : decode cX0_beginBlock 31 = .ok (.return_, 1) := by decide +kernel
theorem dX0_countByte_0 : decode cX0_countByte 0 = .ok (.aload_n 0, 1) := by decide +kernel
theorem dX0_countByte_1 : decode cX0_countByte 1 = .ok (.dup, 1) := by decide +kernel
theorem dX0_countByte_2 : decode cX0_countByte 2 = .ok (.getfield 34, 3) := by decide +kernel
theorem dX0_countByte_5 : decode cX0_countByte 5 = .ok (.iconst 1, 1) := by decide +kernel
theorem dX0_countByte_6 : decode cX0_countByte 6 = .ok (.iadd, 1) := by decide +kernel
theorem dX0_countByte_7 : decode cX0_countByte 7 = .ok (.putfield 34, 3) := by decide +kernel
theorem dX0_countByte_10 : decode cX0_countByte 10 = .ok (.return_, 1) := by decide +kernel
theorem dX0_countCopy_0 : decode cX0_countCopy 0 = .ok (.aload_n 0, 1) := by decide +kernel
theorem dX0_countCopy_1 : decode cX0_countCopy 1 = .ok (.dup, 1) := by decide +kernel
theorem dX0_countCopy_2 : decode cX0_countCopy 2 = .ok (.getfield 34, 3) := by decide +kernel
theorem dX0_countCopy_5 : decode cX0_countCopy 5 = .ok (.iconst 1, 1) := by decide +kernel
theorem dX0_countCopy_6 : decode cX0_countCopy 6 = .ok (.iadd, 1) := by decide +kernel
theorem dX0_countCopy_7 : decode cX0_countCopy 7 = .ok (.putfield 34, 3) := by decide +kernel
theorem dX0_countCopy_10 : decode cX0_countCopy 10 = .ok (.aload_n 0, 1) := by decide +kernel
theorem dX0_countCopy_11 : decode cX0_countCopy 11 = .ok (.dup, 1) := by decide +kernel
theorem dX0_countCopy_12 : decode cX0_countCopy 12 = .ok (.getfield 37, 3) := by decide +kernel
theorem dX0_countCopy_15 : decode cX0_countCopy 15 = .ok (.iconst 1, 1) := by decide +kernel
theorem dX0_countCopy_16 : decode cX0_countCopy 16 = .ok (.iadd, 1) := by decide +kernel
theorem dX0_countCopy_17 : decode cX0_countCopy 17 = .ok (.putfield 37, 3) := by decide +kernel
theorem dX0_countCopy_20 : decode cX0_countCopy 20 = .ok (.return_, 1) := by decide +kernel
theorem dX0_close_0 : decode cX0_close 0 = .ok (.aload_n 0, 1) := by decide +kernel
theorem dX0_close_1 : decode cX0_close 1 = .ok (.iload_n 1, 1) := by decide +kernel
theorem dX0_close_2 : decode cX0_close 2 = .ok (.putfield 40, 3) := by decide +kernel
theorem dX0_close_5 : decode cX0_close 5 = .ok (.return_, 1) := by decide +kernel
theorem dX0_hasBlock_0 : decode cX0_hasBlock 0 = .ok (.aload_n 0, 1) := by decide +kernel
theorem dX0_hasBlock_1 : decode cX0_hasBlock 1 = .ok (.getfield 30, 3) := by decide +kernel
theorem dX0_hasBlock_4 : decode cX0_hasBlock 4 = .ok (.ifCond .le 7, 3) := by decide +kernel
theorem dX0_hasBlock_7 : decode cX0_hasBlock 7 = .ok (.iconst 1, 1) := by decide +kernel
theorem dX0_hasBlock_8 : decode cX0_hasBlock 8 = .ok (.goto 4, 3) := by decide +kernel
theorem dX0_hasBlock_11 : decode cX0_hasBlock 11 = .ok (.iconst 0, 1) := by decide +kernel
theorem dX0_hasBlock_12 : decode cX0_hasBlock 12 = .ok (.ireturn, 1) := by decide +kernel
theorem dX0_tree_0 : decode cX0_tree 0 = .ok (.iload_n 1, 1) := by decide +kernel
theorem dX0_tree_1 : decode cX0_tree 1 = .ok (.ifCond .ne 10, 3) := by decide +kernel
theorem dX0_tree_4 : decode cX0_tree 4 = .ok (.aload_n 0, 1) := by decide +kernel
theorem dX0_tree_5 : decode cX0_tree 5 = .ok (.getfield 14, 3) := by decide +kernel
theorem dX0_tree_8 : decode cX0_tree 8 = .ok (.goto 19, 3) := by decide +kernel
theorem dX0_tree_11 : decode cX0_tree 11 = .ok (.iload_n 1, 1) := by decide +kernel
theorem dX0_tree_12 : decode cX0_tree 12 = .ok (.iconst 1, 1) := by decide +kernel
theorem dX0_tree_13 : decode cX0_tree 13 = .ok (.if_icmp .ne 10, 3) := by decide +kernel
theorem dX0_tree_16 : decode cX0_tree 16 = .ok (.aload_n 0, 1) := by decide +kernel
theorem dX0_tree_17 : decode cX0_tree 17 = .ok (.getfield 20, 3) := by decide +kernel
theorem dX0_tree_20 : decode cX0_tree 20 = .ok (.goto 7, 3) := by decide +kernel
theorem dX0_tree_23 : decode cX0_tree 23 = .ok (.aload_n 0, 1) := by decide +kernel
theorem dX0_tree_24 : decode cX0_tree 24 = .ok (.getfield 23, 3) := by decide +kernel
theorem dX0_tree_27 : decode cX0_tree 27 = .ok (.areturn, 1) := by decide +kernel
theorem dX0_number_0 : decode cX0_number 0 = .ok (.aload_n 0, 1) := by decide +kernel
theorem dX0_number_1 : decode cX0_number 1 = .ok (.getfield 26, 3) := by decide +kernel
theorem dX0_number_4 : decode cX0_number 4 = .ok (.ifCond .ne 5, 3) := by decide +kernel
theorem dX0_number_7 : decode cX0_number 7 = .ok (.iconst (-1), 1) := by decide +kernel
theorem dX0_number_8 : decode cX0_number 8 = .ok (.ireturn, 1) := by decide +kernel
theorem dX0_number_9 : decode cX0_number 9 = .ok (.iload_n 1, 1) := by decide +kernel
theorem dX0_number_10 : decode cX0_number 10 = .ok (.tableswitch 50 0 3 #[30, 35, 40, 45], 30) := by decide +kernel
theorem dX0_number_40 : decode cX0_number 40 = .ok (.aload_n 0, 1) := by decide +kernel
theorem dX0_number_41 : decode cX0_number 41 = .ok (.getfield 30, 3) := by decide +kernel
theorem dX0_number_44 : decode cX0_number 44 = .ok (.ireturn, 1) := by decide +kernel
theorem dX0_number_45 : decode cX0_number 45 = .ok (.aload_n 0, 1) := by decide +kernel
theorem dX0_number_46 : decode cX0_number 46 = .ok (.getfield 34, 3) := by decide +kernel
theorem dX0_number_49 : decode cX0_number 49 = .ok (.ireturn, 1) := by decide +kernel
theorem dX0_number_50 : decode cX0_number 50 = .ok (.aload_n 0, 1) := by decide +kernel
theorem dX0_number_51 : decode cX0_number 51 = .ok (.getfield 37, 3) := by decide +kernel
theorem dX0_number_54 : decode cX0_number 54 = .ok (.ireturn, 1) := by decide +kernel
theorem dX0_number_55 : decode cX0_number 55 = .ok (.aload_n 0, 1) := by decide +kernel
theorem dX0_number_56 : decode cX0_number 56 = .ok (.getfield 40, 3) := by decide +kernel
theorem dX0_number_59 : decode cX0_number 59 = .ok (.ireturn, 1) := by decide +kernel
theorem dX0_number_60 : decode cX0_number 60 = .ok (.iconst (-1), 1) := by decide +kernel
theorem dX0_number_61 : decode cX0_number 61 = .ok (.ireturn, 1) := by decide +kernel
theorem dX1_init_0 : decode cX1_init 0 = .ok (.aload_n 0, 1) := by decide +kernel
theorem dX1_init_1 : decode cX1_init 1 = .ok (.invokespecial 3, 3) := by decide +kernel
theorem dX1_init_4 : decode cX1_init 4 = .ok (.aload_n 0, 1) := by decide +kernel
theorem dX1_init_5 : decode cX1_init 5 = .ok (.aload_n 1, 1) := by decide +kernel
theorem dX1_init_6 : decode cX1_init 6 = .ok (.putfield 9, 3) := by decide +kernel
theorem dX1_init_9 : decode cX1_init 9 = .ok (.aload_n 0, 1) := by decide +kernel
theorem dX1_init_10 : decode cX1_init 10 = .ok (.iconst 0, 1) := by decide +kernel
theorem dX1_init_11 : decode cX1_init 11 = .ok (.putfield 15, 3) := by decide +kernel
theorem dX1_init_14 : decode cX1_init 14 = .ok (.return_, 1) := by decide +kernel
theorem dX1_open_0 : decode cX1_open 0 = .ok (.aload_n 0, 1) := by decide +kernel
theorem dX1_open_1 : decode cX1_open 1 = .ok (.getfield 9, 3) := by decide +kernel
theorem dX1_open_4 : decode cX1_open 4 = .ok (.invokevirtual 19, 3) := by decide +kernel
theorem dX1_open_7 : decode cX1_open 7 = .ok (.aload_n 0, 1) := by decide +kernel
theorem dX1_open_8 : decode cX1_open 8 = .ok (.iconst 0, 1) := by decide +kernel
theorem dX1_open_9 : decode cX1_open 9 = .ok (.putfield 15, 3) := by decide +kernel
theorem dX1_open_12 : decode cX1_open 12 = .ok (.return_, 1) := by decide +kernel
theorem dX1_given_0 : decode cX1_given 0 = .ok (.aload_n 0, 1) := by decide +kernel
theorem dX1_given_1 : decode cX1_given 1 = .ok (.getfield 15, 3) := by decide +kernel
theorem dX1_given_4 : decode cX1_given 4 = .ok (.ireturn, 1) := by decide +kernel
theorem dX1_give_0 : decode cX1_give 0 = .ok (.iload_n 2, 1) := by decide +kernel
theorem dX1_give_1 : decode cX1_give 1 = .ok (.iconst 1, 1) := by decide +kernel
theorem dX1_give_2 : decode cX1_give 2 = .ok (.isub, 1) := by decide +kernel
theorem dX1_give_3 : decode cX1_give 3 = .ok (.istore_n 3, 1) := by decide +kernel
theorem dX1_give_4 : decode cX1_give 4 = .ok (.iload_n 3, 1) := by decide +kernel
theorem dX1_give_5 : decode cX1_give 5 = .ok (.ifCond .lt 60, 3) := by decide +kernel
theorem dX1_give_8 : decode cX1_give 8 = .ok (.aload_n 0, 1) := by decide +kernel
theorem dX1_give_9 : decode cX1_give 9 = .ok (.getfield 15, 3) := by decide +kernel
theorem dX1_give_12 : decode cX1_give 12 = .ok (.bipush 7, 2) := by decide +kernel
theorem dX1_give_14 : decode cX1_give 14 = .ok (.iand, 1) := by decide +kernel
theorem dX1_give_15 : decode cX1_give 15 = .ok (.ifCond .ne 11, 3) := by decide +kernel
theorem dX1_give_18 : decode cX1_give 18 = .ok (.aload_n 0, 1) := by decide +kernel
theorem dX1_give_19 : decode cX1_give 19 = .ok (.getfield 9, 3) := by decide +kernel
theorem dX1_give_22 : decode cX1_give 22 = .ok (.iconst 0, 1) := by decide +kernel
theorem dX1_give_23 : decode cX1_give 23 = .ok (.invokevirtual 24, 3) := by decide +kernel
theorem dX1_give_26 : decode cX1_give 26 = .ok (.aload_n 0, 1) := by decide +kernel
theorem dX1_give_27 : decode cX1_give 27 = .ok (.getfield 9, 3) := by decide +kernel
theorem dX1_give_30 : decode cX1_give 30 = .ok (.iload_n 1, 1) := by decide +kernel
theorem dX1_give_31 : decode cX1_give 31 = .ok (.iload_n 3, 1) := by decide +kernel
theorem dX1_give_32 : decode cX1_give 32 = .ok (.ishr, 1) := by decide +kernel
theorem dX1_give_33 : decode cX1_give 33 = .ok (.iconst 1, 1) := by decide +kernel
theorem dX1_give_34 : decode cX1_give 34 = .ok (.iand, 1) := by decide +kernel
theorem dX1_give_35 : decode cX1_give 35 = .ok (.bipush 7, 2) := by decide +kernel
theorem dX1_give_37 : decode cX1_give 37 = .ok (.aload_n 0, 1) := by decide +kernel
theorem dX1_give_38 : decode cX1_give 38 = .ok (.getfield 15, 3) := by decide +kernel
theorem dX1_give_41 : decode cX1_give 41 = .ok (.bipush 7, 2) := by decide +kernel
theorem dX1_give_43 : decode cX1_give 43 = .ok (.iand, 1) := by decide +kernel
theorem dX1_give_44 : decode cX1_give 44 = .ok (.isub, 1) := by decide +kernel
theorem dX1_give_45 : decode cX1_give 45 = .ok (.ishl, 1) := by decide +kernel
theorem dX1_give_46 : decode cX1_give 46 = .ok (.invokevirtual 28, 3) := by decide +kernel
theorem dX1_give_49 : decode cX1_give 49 = .ok (.aload_n 0, 1) := by decide +kernel
theorem dX1_give_50 : decode cX1_give 50 = .ok (.dup, 1) := by decide +kernel
theorem dX1_give_51 : decode cX1_give 51 = .ok (.getfield 15, 3) := by decide +kernel
theorem dX1_give_54 : decode cX1_give 54 = .ok (.iconst 1, 1) := by decide +kernel
theorem dX1_give_55 : decode cX1_give 55 = .ok (.iadd, 1) := by decide +kernel
theorem dX1_give_56 : decode cX1_give 56 = .ok (.putfield 15, 3) := by decide +kernel
theorem dX1_give_59 : decode cX1_give 59 = .ok (.iinc 3 (-1), 3) := by decide +kernel
theorem dX1_give_62 : decode cX1_give 62 = .ok (.goto (-58), 3) := by decide +kernel
theorem dX1_give_65 : decode cX1_give 65 = .ok (.return_, 1) := by decide +kernel
theorem dX1_giveSymbol_0 : decode cX1_giveSymbol 0 = .ok (.aload_n 1, 1) := by decide +kernel
theorem dX1_giveSymbol_1 : decode cX1_giveSymbol 1 = .ok (.invokevirtual 31, 3) := by decide +kernel
theorem dX1_giveSymbol_4 : decode cX1_giveSymbol 4 = .ok (.ifCond .ne 17, 3) := by decide +kernel
theorem dX1_giveSymbol_7 : decode cX1_giveSymbol 7 = .ok (.aload_n 0, 1) := by decide +kernel
theorem dX1_giveSymbol_8 : decode cX1_giveSymbol 8 = .ok (.aload_n 1, 1) := by decide +kernel
theorem dX1_giveSymbol_9 : decode cX1_giveSymbol 9 = .ok (.iload_n 2, 1) := by decide +kernel
theorem dX1_giveSymbol_10 : decode cX1_giveSymbol 10 = .ok (.invokevirtual 37, 3) := by decide +kernel
theorem dX1_giveSymbol_13 : decode cX1_giveSymbol 13 = .ok (.aload_n 1, 1) := by decide +kernel
theorem dX1_giveSymbol_14 : decode cX1_giveSymbol 14 = .ok (.iload_n 2, 1) := by decide +kernel
theorem dX1_giveSymbol_15 : decode cX1_giveSymbol 15 = .ok (.invokevirtual 41, 3) := by decide +kernel
theorem dX1_giveSymbol_18 : decode cX1_giveSymbol 18 = .ok (.invokevirtual 44, 3) := by decide +kernel
theorem dX1_giveSymbol_21 : decode cX1_giveSymbol 21 = .ok (.return_, 1) := by decide +kernel
theorem dX1_giveLength_0 : decode cX1_giveLength 0 = .ok (.aload_n 0, 1) := by decide +kernel
theorem dX1_giveLength_1 : decode cX1_giveLength 1 = .ok (.iload_n 1, 1) := by decide +kernel
theorem dX1_giveLength_2 : decode cX1_giveLength 2 = .ok (.bipush 7, 2) := by decide +kernel
theorem dX1_giveLength_4 : decode cX1_giveLength 4 = .ok (.invokestatic 48, 3) := by decide +kernel
theorem dX1_giveLength_7 : decode cX1_giveLength 7 = .ok (.iconst 3, 1) := by decide +kernel
theorem dX1_giveLength_8 : decode cX1_giveLength 8 = .ok (.invokevirtual 44, 3) := by decide +kernel
theorem dX1_giveLength_11 : decode cX1_giveLength 11 = .ok (.iload_n 1, 1) := by decide +kernel
theorem dX1_giveLength_12 : decode cX1_giveLength 12 = .ok (.bipush 7, 2) := by decide +kernel
theorem dX1_giveLength_14 : decode cX1_giveLength 14 = .ok (.if_icmp .lt 29, 3) := by decide +kernel
theorem dX1_giveLength_17 : decode cX1_giveLength 17 = .ok (.bipush 7, 2) := by decide +kernel
theorem dX1_giveLength_19 : decode cX1_giveLength 19 = .ok (.istore_n 2, 1) := by decide +kernel
theorem dX1_giveLength_20 : decode cX1_giveLength 20 = .ok (.iload_n 2, 1) := by decide +kernel
theorem dX1_giveLength_21 : decode cX1_giveLength 21 = .ok (.iload_n 1, 1) := by decide +kernel
theorem dX1_giveLength_22 : decode cX1_giveLength 22 = .ok (.if_icmp .ge 15, 3) := by decide +kernel
theorem dX1_giveLength_25 : decode cX1_giveLength 25 = .ok (.aload_n 0, 1) := by decide +kernel
theorem dX1_giveLength_26 : decode cX1_giveLength 26 = .ok (.iconst 1, 1) := by decide +kernel
theorem dX1_giveLength_27 : decode cX1_giveLength 27 = .ok (.iconst 1, 1) := by decide +kernel
theorem dX1_giveLength_28 : decode cX1_giveLength 28 = .ok (.invokevirtual 44, 3) := by decide +kernel
theorem dX1_giveLength_31 : decode cX1_giveLength 31 = .ok (.iinc 2 1, 3) := by decide +kernel
theorem dX1_giveLength_34 : decode cX1_giveLength 34 = .ok (.goto (-14), 3) := by decide +kernel
theorem dX1_giveLength_37 : decode cX1_giveLength 37 = .ok (.aload_n 0, 1) := by decide +kernel
theorem dX1_giveLength_38 : decode cX1_giveLength 38 = .ok (.iconst 0, 1) := by decide +kernel
theorem dX1_giveLength_39 : decode cX1_giveLength 39 = .ok (.iconst 1, 1) := by decide +kernel
theorem dX1_giveLength_40 : decode cX1_giveLength 40 = .ok (.invokevirtual 44, 3) := by decide +kernel
theorem dX1_giveLength_43 : decode cX1_giveLength 43 = .ok (.return_, 1) := by decide +kernel
theorem dX1_giveAlone_0 : decode cX1_giveAlone 0 = .ok (.aload_n 0, 1) := by decide +kernel
theorem dX1_giveAlone_1 : decode cX1_giveAlone 1 = .ok (.iconst 0, 1) := by decide +kernel
theorem dX1_giveAlone_2 : decode cX1_giveAlone 2 = .ok (.iload_n 2, 1) := by decide +kernel
theorem dX1_giveAlone_3 : decode cX1_giveAlone 3 = .ok (.invokevirtual 44, 3) := by decide +kernel
theorem dX1_giveAlone_6 : decode cX1_giveAlone 6 = .ok (.aload_n 0, 1) := by decide +kernel
theorem dX1_giveAlone_7 : decode cX1_giveAlone 7 = .ok (.iload_n 1, 1) := by decide +kernel
theorem dX1_giveAlone_8 : decode cX1_giveAlone 8 = .ok (.iload_n 2, 1) := by decide +kernel
theorem dX1_giveAlone_9 : decode cX1_giveAlone 9 = .ok (.invokevirtual 44, 3) := by decide +kernel
theorem dX1_giveAlone_12 : decode cX1_giveAlone 12 = .ok (.return_, 1) := by decide +kernel
theorem dX2_init_0 : decode cX2_init 0 = .ok (.aload_n 0, 1) := by decide +kernel
theorem dX2_init_1 : decode cX2_init 1 = .ok (.invokespecial 3, 3) := by decide +kernel
theorem dX2_init_4 : decode cX2_init 4 = .ok (.aload_n 0, 1) := by decide +kernel
theorem dX2_init_5 : decode cX2_init 5 = .ok (.aload_n 1, 1) := by decide +kernel
theorem dX2_init_6 : decode cX2_init 6 = .ok (.putfield 9, 3) := by decide +kernel
theorem dX2_init_9 : decode cX2_init 9 = .ok (.aload_n 0, 1) := by decide +kernel
theorem dX2_init_10 : decode cX2_init 10 = .ok (.iconst 0, 1) := by decide +kernel
theorem dX2_init_11 : decode cX2_init 11 = .ok (.putfield 15, 3) := by decide +kernel
theorem dX2_init_14 : decode cX2_init 14 = .ok (.aload_n 0, 1) := by decide +kernel
theorem dX2_init_15 : decode cX2_init 15 = .ok (.iconst 0, 1) := by decide +kernel
theorem dX2_init_16 : decode cX2_init 16 = .ok (.putfield 19, 3) := by decide +kernel
theorem dX2_init_19 : decode cX2_init 19 = .ok (.return_, 1) := by decide +kernel
theorem dX2_open_0 : decode cX2_open 0 = .ok (.aload_n 0, 1) := by decide +kernel
theorem dX2_open_1 : decode cX2_open 1 = .ok (.bipush 8, 2) := by decide +kernel
theorem dX2_open_3 : decode cX2_open 3 = .ok (.iload_n 1, 1) := by decide +kernel
theorem dX2_open_4 : decode cX2_open 4 = .ok (.aload_n 0, 1) := by decide +kernel
theorem dX2_open_5 : decode cX2_open 5 = .ok (.getfield 9, 3) := by decide +kernel
theorem dX2_open_8 : decode cX2_open 8 = .ok (.invokevirtual 22, 3) := by decide +kernel
theorem dX2_open_11 : decode cX2_open 11 = .ok (.invokestatic 28, 3) := by decide +kernel
theorem dX2_open_14 : decode cX2_open 14 = .ok (.imul, 1) := by decide +kernel
theorem dX2_open_15 : decode cX2_open 15 = .ok (.putfield 15, 3) := by decide +kernel
theorem dX2_open_18 : decode cX2_open 18 = .ok (.aload_n 0, 1) := by decide +kernel
theorem dX2_open_19 : decode cX2_open 19 = .ok (.iconst 0, 1) := by decide +kernel
theorem dX2_open_20 : decode cX2_open 20 = .ok (.putfield 19, 3) := by decide +kernel
theorem dX2_open_23 : decode cX2_open 23 = .ok (.return_, 1) := by decide +kernel
theorem dX2_taken_0 : decode cX2_taken 0 = .ok (.aload_n 0, 1) := by decide +kernel
theorem dX2_taken_1 : decode cX2_taken 1 = .ok (.getfield 19, 3) := by decide +kernel
theorem dX2_taken_4 : decode cX2_taken 4 = .ok (.ireturn, 1) := by decide +kernel
theorem dX2_take_0 : decode cX2_take 0 = .ok (.iload_n 1, 1) := by decide +kernel
theorem dX2_take_1 : decode cX2_take 1 = .ok (.aload_n 0, 1) := by decide +kernel
theorem dX2_take_2 : decode cX2_take 2 = .ok (.getfield 15, 3) := by decide +kernel
theorem dX2_take_5 : decode cX2_take 5 = .ok (.aload_n 0, 1) := by decide +kernel
theorem dX2_take_6 : decode cX2_take 6 = .ok (.getfield 19, 3) := by decide +kernel
theorem dX2_take_9 : decode cX2_take 9 = .ok (.isub, 1) := by decide +kernel
theorem dX2_take_10 : decode cX2_take 10 = .ok (.if_icmp .le 13, 3) := by decide +kernel
theorem dX2_take_13 : decode cX2_take 13 = .ok (.aload_n 0, 1) := by decide +kernel
theorem dX2_take_14 : decode cX2_take 14 = .ok (.aload_n 0, 1) := by decide +kernel
theorem dX2_take_15 : decode cX2_take 15 = .ok (.getfield 15, 3) := by decide +kernel
theorem dX2_take_18 : decode cX2_take 18 = .ok (.putfield 19, 3) := by decide +kernel
theorem dX2_take_21 : decode cX2_take 21 = .ok (.iconst (-1), 1) := by decide +kernel
theorem dX2_take_22 : decode cX2_take 22 = .ok (.ireturn, 1) := by decide +kernel
theorem dX2_take_23 : decode cX2_take 23 = .ok (.iconst 0, 1) := by decide +kernel
theorem dX2_take_24 : decode cX2_take 24 = .ok (.istore_n 2, 1) := by decide +kernel
theorem dX2_take_25 : decode cX2_take 25 = .ok (.iconst 0, 1) := by decide +kernel
theorem dX2_take_26 : decode cX2_take 26 = .ok (.istore_n 3, 1) := by decide +kernel
theorem dX2_take_27 : decode cX2_take 27 = .ok (.iload_n 3, 1) := by decide +kernel
theorem dX2_take_28 : decode cX2_take 28 = .ok (.iload_n 1, 1) := by decide +kernel
theorem dX2_take_29 : decode cX2_take 29 = .ok (.if_icmp .ge 51, 3) := by decide +kernel
theorem dX2_take_32 : decode cX2_take 32 = .ok (.iload_n 2, 1) := by decide +kernel
theorem dX2_take_33 : decode cX2_take 33 = .ok (.iconst 1, 1) := by decide +kernel
theorem dX2_take_34 : decode cX2_take 34 = .ok (.ishl, 1) := by decide +kernel
theorem dX2_take_35 : decode cX2_take 35 = .ok (.aload_n 0, 1) := by decide +kernel
theorem dX2_take_36 : decode cX2_take 36 = .ok (.getfield 9, 3) := by decide +kernel
theorem dX2_take_39 : decode cX2_take 39 = .ok (.getfield 34, 3) := by decide +kernel
theorem dX2_take_42 : decode cX2_take 42 = .ok (.aload_n 0, 1) := by decide +kernel
theorem dX2_take_43 : decode cX2_take 43 = .ok (.getfield 19, 3) := by decide +kernel
theorem dX2_take_46 : decode cX2_take 46 = .ok (.iconst 3, 1) := by decide +kernel
theorem dX2_take_47 : decode cX2_take 47 = .ok (.ishr, 1) := by decide +kernel
theorem dX2_take_48 : decode cX2_take 48 = .ok (.iaload, 1) := by decide +kernel
theorem dX2_take_49 : decode cX2_take 49 = .ok (.bipush 7, 2) := by decide +kernel
theorem dX2_take_51 : decode cX2_take 51 = .ok (.aload_n 0, 1) := by decide +kernel
theorem dX2_take_52 : decode cX2_take 52 = .ok (.getfield 19, 3) := by decide +kernel
theorem dX2_take_55 : decode cX2_take 55 = .ok (.bipush 7, 2) := by decide +kernel
theorem dX2_take_57 : decode cX2_take 57 = .ok (.iand, 1) := by decide +kernel
theorem dX2_take_58 : decode cX2_take 58 = .ok (.isub, 1) := by decide +kernel
theorem dX2_take_59 : decode cX2_take 59 = .ok (.ishr, 1) := by decide +kernel
theorem dX2_take_60 : decode cX2_take 60 = .ok (.iconst 1, 1) := by decide +kernel
theorem dX2_take_61 : decode cX2_take 61 = .ok (.iand, 1) := by decide +kernel
theorem dX2_take_62 : decode cX2_take 62 = .ok (.ior, 1) := by decide +kernel
theorem dX2_take_63 : decode cX2_take 63 = .ok (.istore_n 2, 1) := by decide +kernel
theorem dX2_take_64 : decode cX2_take 64 = .ok (.aload_n 0, 1) := by decide +kernel
theorem dX2_take_65 : decode cX2_take 65 = .ok (.dup, 1) := by decide +kernel
theorem dX2_take_66 : decode cX2_take 66 = .ok (.getfield 19, 3) := by decide +kernel
theorem dX2_take_69 : decode cX2_take 69 = .ok (.iconst 1, 1) := by decide +kernel
theorem dX2_take_70 : decode cX2_take 70 = .ok (.iadd, 1) := by decide +kernel
theorem dX2_take_71 : decode cX2_take 71 = .ok (.putfield 19, 3) := by decide +kernel
theorem dX2_take_74 : decode cX2_take 74 = .ok (.iinc 3 1, 3) := by decide +kernel
theorem dX2_take_77 : decode cX2_take 77 = .ok (.goto (-50), 3) := by decide +kernel
theorem dX2_take_80 : decode cX2_take 80 = .ok (.iload_n 2, 1) := by decide +kernel
theorem dX2_take_81 : decode cX2_take 81 = .ok (.ireturn, 1) := by decide +kernel
theorem dX2_takeSymbol_0 : decode cX2_takeSymbol 0 = .ok (.aload_n 1, 1) := by decide +kernel
theorem dX2_takeSymbol_1 : decode cX2_takeSymbol 1 = .ok (.invokevirtual 38, 3) := by decide +kernel
theorem dX2_takeSymbol_4 : decode cX2_takeSymbol 4 = .ok (.ifCond .eq 8, 3) := by decide +kernel
theorem dX2_takeSymbol_7 : decode cX2_takeSymbol 7 = .ok (.aload_n 1, 1) := by decide +kernel
theorem dX2_takeSymbol_8 : decode cX2_takeSymbol 8 = .ok (.invokevirtual 44, 3) := by decide +kernel
theorem dX2_takeSymbol_11 : decode cX2_takeSymbol 11 = .ok (.ireturn, 1) := by decide +kernel
theorem dX2_takeSymbol_12 : decode cX2_takeSymbol 12 = .ok (.iconst 0, 1) := by decide +kernel
theorem dX2_takeSymbol_13 : decode cX2_takeSymbol 13 = .ok (.istore_n 2, 1) := by decide +kernel
theorem dX2_takeSymbol_14 : decode cX2_takeSymbol 14 = .ok (.iconst 1, 1) := by decide +kernel
theorem dX2_takeSymbol_15 : decode cX2_takeSymbol 15 = .ok (.istore_n 3, 1) := by decide +kernel
theorem dX2_takeSymbol_16 : decode cX2_takeSymbol 16 = .ok (.iload_n 3, 1) := by decide +kernel
theorem dX2_takeSymbol_17 : decode cX2_takeSymbol 17 = .ok (.bipush 16, 2) := by decide +kernel
theorem dX2_takeSymbol_19 : decode cX2_takeSymbol 19 = .ok (.if_icmp .gt 48, 3) := by decide +kernel
theorem dX2_takeSymbol_22 : decode cX2_takeSymbol 22 = .ok (.aload_n 0, 1) := by decide +kernel
theorem dX2_takeSymbol_23 : decode cX2_takeSymbol 23 = .ok (.iconst 1, 1) := by decide +kernel
theorem dX2_takeSymbol_24 : decode cX2_takeSymbol 24 = .ok (.invokevirtual 47, 3) := by decide +kernel
theorem dX2_takeSymbol_27 : decode cX2_takeSymbol 27 = .ok (.istore 4, 2) := by decide +kernel
theorem dX2_takeSymbol_29 : decode cX2_takeSymbol 29 = .ok (.iload 4, 2) := by decide +kernel
theorem dX2_takeSymbol_31 : decode cX2_takeSymbol 31 = .ok (.iconst (-1), 1) := by decide +kernel
theorem dX2_takeSymbol_32 : decode cX2_takeSymbol 32 = .ok (.if_icmp .ne 5, 3) := by decide +kernel
theorem dX2_takeSymbol_35 : decode cX2_takeSymbol 35 = .ok (.iconst (-1), 1) := by decide +kernel
theorem dX2_takeSymbol_36 : decode cX2_takeSymbol 36 = .ok (.ireturn, 1) := by decide +kernel
theorem dX2_takeSymbol_37 : decode cX2_takeSymbol 37 = .ok (.iload_n 2, 1) := by decide +kernel
theorem dX2_takeSymbol_38 : decode cX2_takeSymbol 38 = .ok (.iconst 1, 1) := by decide +kernel
theorem dX2_takeSymbol_39 : decode cX2_takeSymbol 39 = .ok (.ishl, 1) := by decide +kernel
theorem dX2_takeSymbol_40 : decode cX2_takeSymbol 40 = .ok (.iload 4, 2) := by decide +kernel
theorem dX2_takeSymbol_42 : decode cX2_takeSymbol 42 = .ok (.ior, 1) := by decide +kernel
theorem dX2_takeSymbol_43 : decode cX2_takeSymbol 43 = .ok (.istore_n 2, 1) := by decide +kernel
theorem dX2_takeSymbol_44 : decode cX2_takeSymbol 44 = .ok (.aload_n 1, 1) := by decide +kernel
theorem dX2_takeSymbol_45 : decode cX2_takeSymbol 45 = .ok (.iload_n 2, 1) := by decide +kernel
theorem dX2_takeSymbol_46 : decode cX2_takeSymbol 46 = .ok (.iload_n 3, 1) := by decide +kernel
theorem dX2_takeSymbol_47 : decode cX2_takeSymbol 47 = .ok (.invokevirtual 51, 3) := by decide +kernel
theorem dX2_takeSymbol_50 : decode cX2_takeSymbol 50 = .ok (.istore 5, 2) := by decide +kernel
theorem dX2_takeSymbol_52 : decode cX2_takeSymbol 52 = .ok (.iload 5, 2) := by decide +kernel
theorem dX2_takeSymbol_54 : decode cX2_takeSymbol 54 = .ok (.iconst (-1), 1) := by decide +kernel
theorem dX2_takeSymbol_55 : decode cX2_takeSymbol 55 = .ok (.if_icmp .eq 6, 3) := by decide +kernel
theorem dX2_takeSymbol_58 : decode cX2_takeSymbol 58 = .ok (.iload 5, 2) := by decide +kernel
theorem dX2_takeSymbol_60 : decode cX2_takeSymbol 60 = .ok (.ireturn, 1) := by decide +kernel
theorem dX2_takeSymbol_61 : decode cX2_takeSymbol 61 = .ok (.iinc 3 1, 3) := by decide +kernel
theorem dX2_takeSymbol_64 : decode cX2_takeSymbol 64 = .ok (.goto (-48), 3) := by decide +kernel
theorem dX2_takeSymbol_67 : decode cX2_takeSymbol 67 = .ok (.iconst (-1), 1) := by decide +kernel
theorem dX2_takeSymbol_68 : decode cX2_takeSymbol 68 = .ok (.ireturn, 1) := by decide +kernel
theorem dX2_takeLength_0 : decode cX2_takeLength 0 = .ok (.aload_n 0, 1) := by decide +kernel
theorem dX2_takeLength_1 : decode cX2_takeLength 1 = .ok (.iconst 3, 1) := by decide +kernel
theorem dX2_takeLength_2 : decode cX2_takeLength 2 = .ok (.invokevirtual 47, 3) := by decide +kernel
theorem dX2_takeLength_5 : decode cX2_takeLength 5 = .ok (.istore_n 1, 1) := by decide +kernel
theorem dX2_takeLength_6 : decode cX2_takeLength 6 = .ok (.iload_n 1, 1) := by decide +kernel
theorem dX2_takeLength_7 : decode cX2_takeLength 7 = .ok (.bipush 7, 2) := by decide +kernel
theorem dX2_takeLength_9 : decode cX2_takeLength 9 = .ok (.if_icmp .eq 5, 3) := by decide +kernel
theorem dX2_takeLength_12 : decode cX2_takeLength 12 = .ok (.iload_n 1, 1) := by decide +kernel
theorem dX2_takeLength_13 : decode cX2_takeLength 13 = .ok (.ireturn, 1) := by decide +kernel
theorem dX2_takeLength_14 : decode cX2_takeLength 14 = .ok (.iload_n 1, 1) := by decide +kernel
theorem dX2_takeLength_15 : decode cX2_takeLength 15 = .ok (.bipush 16, 2) := by decide +kernel
theorem dX2_takeLength_17 : decode cX2_takeLength 17 = .ok (.if_icmp .gt 28, 3) := by decide +kernel
theorem dX2_takeLength_20 : decode cX2_takeLength 20 = .ok (.aload_n 0, 1) := by decide +kernel
theorem dX2_takeLength_21 : decode cX2_takeLength 21 = .ok (.iconst 1, 1) := by decide +kernel
theorem dX2_takeLength_22 : decode cX2_takeLength 22 = .ok (.invokevirtual 47, 3) := by decide +kernel
theorem dX2_takeLength_25 : decode cX2_takeLength 25 = .ok (.istore_n 2, 1) := by decide +kernel
theorem dX2_takeLength_26 : decode cX2_takeLength 26 = .ok (.iload_n 2, 1) := by decide +kernel
theorem dX2_takeLength_27 : decode cX2_takeLength 27 = .ok (.iconst (-1), 1) := by decide +kernel
theorem dX2_takeLength_28 : decode cX2_takeLength 28 = .ok (.if_icmp .ne 5, 3) := by decide +kernel
theorem dX2_takeLength_31 : decode cX2_takeLength 31 = .ok (.iconst (-1), 1) := by decide +kernel
theorem dX2_takeLength_32 : decode cX2_takeLength 32 = .ok (.ireturn, 1) := by decide +kernel
theorem dX2_takeLength_33 : decode cX2_takeLength 33 = .ok (.iload_n 2, 1) := by decide +kernel
theorem dX2_takeLength_34 : decode cX2_takeLength 34 = .ok (.ifCond .ne 5, 3) := by decide +kernel
theorem dX2_takeLength_37 : decode cX2_takeLength 37 = .ok (.iload_n 1, 1) := by decide +kernel
theorem dX2_takeLength_38 : decode cX2_takeLength 38 = .ok (.ireturn, 1) := by decide +kernel
theorem dX2_takeLength_39 : decode cX2_takeLength 39 = .ok (.iinc 1 1, 3) := by decide +kernel
theorem dX2_takeLength_42 : decode cX2_takeLength 42 = .ok (.goto (-28), 3) := by decide +kernel
theorem dX2_takeLength_45 : decode cX2_takeLength 45 = .ok (.iload_n 1, 1) := by decide +kernel
theorem dX2_takeLength_46 : decode cX2_takeLength 46 = .ok (.ireturn, 1) := by decide +kernel
theorem dX2_takeDistance_0 : decode cX2_takeDistance 0 = .ok (.aload_n 0, 1) := by decide +kernel
theorem dX2_takeDistance_1 : decode cX2_takeDistance 1 = .ok (.aload_n 1, 1) := by decide +kernel
theorem dX2_takeDistance_2 : decode cX2_takeDistance 2 = .ok (.invokevirtual 54, 3) := by decide +kernel
theorem dX2_takeDistance_5 : decode cX2_takeDistance 5 = .ok (.istore_n 2, 1) := by decide +kernel
theorem dX2_takeDistance_6 : decode cX2_takeDistance 6 = .ok (.iload_n 2, 1) := by decide +kernel
theorem dX2_takeDistance_7 : decode cX2_takeDistance 7 = .ok (.iconst (-1), 1) := by decide +kernel
theorem dX2_takeDistance_8 : decode cX2_takeDistance 8 = .ok (.if_icmp .ne 5, 3) := by decide +kernel
theorem dX2_takeDistance_11 : decode cX2_takeDistance 11 = .ok (.iconst (-1), 1) := by decide +kernel
theorem dX2_takeDistance_12 : decode cX2_takeDistance 12 = .ok (.ireturn, 1) := by decide +kernel
theorem dX2_takeDistance_13 : decode cX2_takeDistance 13 = .ok (.iload_n 2, 1) := by decide +kernel
theorem dX2_takeDistance_14 : decode cX2_takeDistance 14 = .ok (.ifCond .ne 5, 3) := by decide +kernel
theorem dX2_takeDistance_17 : decode cX2_takeDistance 17 = .ok (.iconst 1, 1) := by decide +kernel
theorem dX2_takeDistance_18 : decode cX2_takeDistance 18 = .ok (.ireturn, 1) := by decide +kernel
theorem dX2_takeDistance_19 : decode cX2_takeDistance 19 = .ok (.aload_n 0, 1) := by decide +kernel
theorem dX2_takeDistance_20 : decode cX2_takeDistance 20 = .ok (.iload_n 2, 1) := by decide +kernel
theorem dX2_takeDistance_21 : decode cX2_takeDistance 21 = .ok (.iconst 1, 1) := by decide +kernel
theorem dX2_takeDistance_22 : decode cX2_takeDistance 22 = .ok (.isub, 1) := by decide +kernel
theorem dX2_takeDistance_23 : decode cX2_takeDistance 23 = .ok (.invokevirtual 47, 3) := by decide +kernel
theorem dX2_takeDistance_26 : decode cX2_takeDistance 26 = .ok (.istore_n 3, 1) := by decide +kernel
theorem dX2_takeDistance_27 : decode cX2_takeDistance 27 = .ok (.iload_n 3, 1) := by decide +kernel
theorem dX2_takeDistance_28 : decode cX2_takeDistance 28 = .ok (.iconst (-1), 1) := by decide +kernel
theorem dX2_takeDistance_29 : decode cX2_takeDistance 29 = .ok (.if_icmp .ne 7, 3) := by decide +kernel
theorem dX2_takeDistance_32 : decode cX2_takeDistance 32 = .ok (.iconst (-1), 1) := by decide +kernel
theorem dX2_takeDistance_33 : decode cX2_takeDistance 33 = .ok (.goto 12, 3) := by decide +kernel
theorem dX2_takeDistance_36 : decode cX2_takeDistance 36 = .ok (.iconst 1, 1) := by decide +kernel
theorem dX2_takeDistance_37 : decode cX2_takeDistance 37 = .ok (.iload_n 2, 1) := by decide +kernel
theorem dX2_takeDistance_38 : decode cX2_takeDistance 38 = .ok (.iconst 1, 1) := by decide +kernel
theorem dX2_takeDistance_39 : decode cX2_takeDistance 39 = .ok (.isub, 1) := by decide +kernel
theorem dX2_takeDistance_40 : decode cX2_takeDistance 40 = .ok (.ishl, 1) := by decide +kernel
theorem dX2_takeDistance_41 : decode cX2_takeDistance 41 = .ok (.iload_n 3, 1) := by decide +kernel
theorem dX2_takeDistance_42 : decode cX2_takeDistance 42 = .ok (.iadd, 1) := by decide +kernel
theorem dX2_takeDistance_43 : decode cX2_takeDistance 43 = .ok (.iconst 1, 1) := by decide +kernel
theorem dX2_takeDistance_44 : decode cX2_takeDistance 44 = .ok (.iadd, 1) := by decide +kernel
theorem dX2_takeDistance_45 : decode cX2_takeDistance 45 = .ok (.ireturn, 1) := by decide +kernel
theorem dX3_init_0 : decode cX3_init 0 = .ok (.aload_n 0, 1) := by decide +kernel
theorem dX3_init_1 : decode cX3_init 1 = .ok (.invokespecial 3, 3) := by decide +kernel
theorem dX3_init_4 : decode cX3_init 4 = .ok (.aload_n 0, 1) := by decide +kernel
theorem dX3_init_5 : decode cX3_init 5 = .ok (.iload_n 1, 1) := by decide +kernel
theorem dX3_init_6 : decode cX3_init 6 = .ok (.newarray .int, 2) := by decide +kernel
theorem dX3_init_8 : decode cX3_init 8 = .ok (.putfield 9, 3) := by decide +kernel
theorem dX3_init_11 : decode cX3_init 11 = .ok (.aload_n 0, 1) := by decide +kernel
theorem dX3_init_12 : decode cX3_init 12 = .ok (.iconst 0, 1) := by decide +kernel
theorem dX3_init_13 : decode cX3_init 13 = .ok (.putfield 15, 3) := by decide +kernel
theorem dX3_init_16 : decode cX3_init 16 = .ok (.return_, 1) := by decide +kernel
theorem dX3_count_0 : decode cX3_count 0 = .ok (.aload_n 0, 1) := by decide +kernel
theorem dX3_count_1 : decode cX3_count 1 = .ok (.getfield 15, 3) := by decide +kernel
theorem dX3_count_4 : decode cX3_count 4 = .ok (.ireturn, 1) := by decide +kernel
theorem dX3_hasRoomFor_0 : decode cX3_hasRoomFor 0 = .ok (.iload_n 1, 1) := by decide +kernel
theorem dX3_hasRoomFor_1 : decode cX3_hasRoomFor 1 = .ok (.aload_n 0, 1) := by decide +kernel
theorem dX3_hasRoomFor_2 : decode cX3_hasRoomFor 2 = .ok (.getfield 9, 3) := by decide +kernel
theorem dX3_hasRoomFor_5 : decode cX3_hasRoomFor 5 = .ok (.arraylength, 1) := by decide +kernel
theorem dX3_hasRoomFor_6 : decode cX3_hasRoomFor 6 = .ok (.aload_n 0, 1) := by decide +kernel
theorem dX3_hasRoomFor_7 : decode cX3_hasRoomFor 7 = .ok (.getfield 15, 3) := by decide +kernel
theorem dX3_hasRoomFor_10 : decode cX3_hasRoomFor 10 = .ok (.isub, 1) := by decide +kernel
theorem dX3_hasRoomFor_11 : decode cX3_hasRoomFor 11 = .ok (.if_icmp .gt 7, 3) := by decide +kernel
theorem dX3_hasRoomFor_14 : decode cX3_hasRoomFor 14 = .ok (.iconst 1, 1) := by decide +kernel
theorem dX3_hasRoomFor_15 : decode cX3_hasRoomFor 15 = .ok (.goto 4, 3) := by decide +kernel
theorem dX3_hasRoomFor_18 : decode cX3_hasRoomFor 18 = .ok (.iconst 0, 1) := by decide +kernel
theorem dX3_hasRoomFor_19 : decode cX3_hasRoomFor 19 = .ok (.ireturn, 1) := by decide +kernel
theorem dX3_has_0 : decode cX3_has 0 = .ok (.iload_n 1, 1) := by decide +kernel
theorem dX3_has_1 : decode cX3_has 1 = .ok (.ifCond .lt 15, 3) := by decide +kernel
theorem dX3_has_4 : decode cX3_has 4 = .ok (.iload_n 1, 1) := by decide +kernel
theorem dX3_has_5 : decode cX3_has 5 = .ok (.aload_n 0, 1) := by decide +kernel
theorem dX3_has_6 : decode cX3_has 6 = .ok (.getfield 15, 3) := by decide +kernel
theorem dX3_has_9 : decode cX3_has 9 = .ok (.if_icmp .ge 7, 3) := by decide +kernel
theorem dX3_has_12 : decode cX3_has 12 = .ok (.iconst 1, 1) := by decide +kernel
theorem dX3_has_13 : decode cX3_has 13 = .ok (.goto 4, 3) := by decide +kernel
theorem dX3_has_16 : decode cX3_has 16 = .ok (.iconst 0, 1) := by decide +kernel
theorem dX3_has_17 : decode cX3_has 17 = .ok (.ireturn, 1) := by decide +kernel
theorem dX3_at_0 : decode cX3_at 0 = .ok (.aload_n 0, 1) := by decide +kernel
theorem dX3_at_1 : decode cX3_at 1 = .ok (.iload_n 1, 1) := by decide +kernel
theorem dX3_at_2 : decode cX3_at 2 = .ok (.invokevirtual 19, 3) := by decide +kernel
theorem dX3_at_5 : decode cX3_at 5 = .ok (.ifCond .eq 12, 3) := by decide +kernel
theorem dX3_at_8 : decode cX3_at 8 = .ok (.aload_n 0, 1) := by decide +kernel
theorem dX3_at_9 : decode cX3_at 9 = .ok (.getfield 9, 3) := by decide +kernel
theorem dX3_at_12 : decode cX3_at 12 = .ok (.iload_n 1, 1) := by decide +kernel
theorem dX3_at_13 : decode cX3_at 13 = .ok (.iaload, 1) := by decide +kernel
theorem dX3_at_14 : decode cX3_at 14 = .ok (.goto 4, 3) := by decide +kernel
theorem dX3_at_17 : decode cX3_at 17 = .ok (.iconst (-1), 1) := by decide +kernel
theorem dX3_at_18 : decode cX3_at 18 = .ok (.ireturn, 1) := by decide +kernel
theorem dX3_change_0 : decode cX3_change 0 = .ok (.aload_n 0, 1) := by decide +kernel
theorem dX3_change_1 : decode cX3_change 1 = .ok (.iload_n 1, 1) := by decide +kernel
theorem dX3_change_2 : decode cX3_change 2 = .ok (.invokevirtual 19, 3) := by decide +kernel
theorem dX3_change_5 : decode cX3_change 5 = .ok (.ifCond .eq 10, 3) := by decide +kernel
theorem dX3_change_8 : decode cX3_change 8 = .ok (.aload_n 0, 1) := by decide +kernel
theorem dX3_change_9 : decode cX3_change 9 = .ok (.getfield 9, 3) := by decide +kernel
theorem dX3_change_12 : decode cX3_change 12 = .ok (.iload_n 1, 1) := by decide +kernel
theorem dX3_change_13 : decode cX3_change 13 = .ok (.iload_n 2, 1) := by decide +kernel
theorem dX3_change_14 : decode cX3_change 14 = .ok (.iastore, 1) := by decide +kernel
theorem dX3_change_15 : decode cX3_change 15 = .ok (.return_, 1) := by decide +kernel
theorem dX3_add_0 : decode cX3_add 0 = .ok (.aload_n 0, 1) := by decide +kernel
theorem dX3_add_1 : decode cX3_add 1 = .ok (.getfield 15, 3) := by decide +kernel
theorem dX3_add_4 : decode cX3_add 4 = .ok (.aload_n 0, 1) := by decide +kernel
theorem dX3_add_5 : decode cX3_add 5 = .ok (.getfield 9, 3) := by decide +kernel
theorem dX3_add_8 : decode cX3_add 8 = .ok (.arraylength, 1) := by decide +kernel
theorem dX3_add_9 : decode cX3_add 9 = .ok (.if_icmp .ge 23, 3) := by decide +kernel
theorem dX3_add_12 : decode cX3_add 12 = .ok (.aload_n 0, 1) := by decide +kernel
theorem dX3_add_13 : decode cX3_add 13 = .ok (.getfield 9, 3) := by decide +kernel
theorem dX3_add_16 : decode cX3_add 16 = .ok (.aload_n 0, 1) := by decide +kernel
theorem dX3_add_17 : decode cX3_add 17 = .ok (.getfield 15, 3) := by decide +kernel
theorem dX3_add_20 : decode cX3_add 20 = .ok (.iload_n 1, 1) := by decide +kernel
theorem dX3_add_21 : decode cX3_add 21 = .ok (.iastore, 1) := by decide +kernel
theorem dX3_add_22 : decode cX3_add 22 = .ok (.aload_n 0, 1) := by decide +kernel
theorem dX3_add_23 : decode cX3_add 23 = .ok (.dup, 1) := by decide +kernel
theorem dX3_add_24 : decode cX3_add 24 = .ok (.getfield 15, 3) := by decide +kernel
theorem dX3_add_27 : decode cX3_add 27 = .ok (.iconst 1, 1) := by decide +kernel
theorem dX3_add_28 : decode cX3_add 28 = .ok (.iadd, 1) := by decide +kernel
theorem dX3_add_29 : decode cX3_add 29 = .ok (.putfield 15, 3) := by decide +kernel
theorem dX3_add_32 : decode cX3_add 32 = .ok (.return_, 1) := by decide +kernel
theorem dX3_mixIntoLast_0 : decode cX3_mixIntoLast 0 = .ok (.aload_n 0, 1) := by decide +kernel
theorem dX3_mixIntoLast_1 : decode cX3_mixIntoLast 1 = .ok (.getfield 15, 3) := by decide +kernel
theorem dX3_mixIntoLast_4 : decode cX3_mixIntoLast 4 = .ok (.ifCond .le 18, 3) := by decide +kernel
theorem dX3_mixIntoLast_7 : decode cX3_mixIntoLast 7 = .ok (.aload_n 0, 1) := by decide +kernel
theorem dX3_mixIntoLast_8 : decode cX3_mixIntoLast 8 = .ok (.getfield 9, 3) := by decide +kernel
theorem dX3_mixIntoLast_11 : decode cX3_mixIntoLast 11 = .ok (.aload_n 0, 1) := by decide +kernel
theorem dX3_mixIntoLast_12 : decode cX3_mixIntoLast 12 = .ok (.getfield 15, 3) := by decide +kernel
theorem dX3_mixIntoLast_15 : decode cX3_mixIntoLast 15 = .ok (.iconst 1, 1) := by decide +kernel
theorem dX3_mixIntoLast_16 : decode cX3_mixIntoLast 16 = .ok (.isub, 1) := by decide +kernel
theorem dX3_mixIntoLast_17 : decode cX3_mixIntoLast 17 = .ok (.dup2, 1) := by decide +kernel
theorem dX3_mixIntoLast_18 : decode cX3_mixIntoLast 18 = .ok (.iaload, 1) := by decide +kernel
theorem dX3_mixIntoLast_19 : decode cX3_mixIntoLast 19 = .ok (.iload_n 1, 1) := by decide +kernel
theorem dX3_mixIntoLast_20 : decode cX3_mixIntoLast 20 = .ok (.ior, 1) := by decide +kernel
theorem dX3_mixIntoLast_21 : decode cX3_mixIntoLast 21 = .ok (.iastore, 1) := by decide +kernel
theorem dX3_mixIntoLast_22 : decode cX3_mixIntoLast 22 = .ok (.return_, 1) := by decide +kernel
theorem dX3_addWord_0 : decode cX3_addWord 0 = .ok (.bipush 24, 2) := by decide +kernel
theorem dX3_addWord_2 : decode cX3_addWord 2 = .ok (.istore_n 2, 1) := by decide +kernel
theorem dX3_addWord_3 : decode cX3_addWord 3 = .ok (.iload_n 2, 1) := by decide +kernel
theorem dX3_addWord_4 : decode cX3_addWord 4 = .ok (.ifCond .lt 20, 3) := by decide +kernel
theorem dX3_addWord_7 : decode cX3_addWord 7 = .ok (.aload_n 0, 1) := by decide +kernel
theorem dX3_addWord_8 : decode cX3_addWord 8 = .ok (.iload_n 1, 1) := by decide +kernel
theorem dX3_addWord_9 : decode cX3_addWord 9 = .ok (.iload_n 2, 1) := by decide +kernel
theorem dX3_addWord_10 : decode cX3_addWord 10 = .ok (.ishr, 1) := by decide +kernel
theorem dX3_addWord_11 : decode cX3_addWord 11 = .ok (.sipush 255, 3) := by decide +kernel
theorem dX3_addWord_14 : decode cX3_addWord 14 = .ok (.iand, 1) := by decide +kernel
theorem dX3_addWord_15 : decode cX3_addWord 15 = .ok (.invokevirtual 23, 3) := by decide +kernel
theorem dX3_addWord_18 : decode cX3_addWord 18 = .ok (.iinc 2 (-8), 3) := by decide +kernel
theorem dX3_addWord_21 : decode cX3_addWord 21 = .ok (.goto (-18), 3) := by decide +kernel
theorem dX3_addWord_24 : decode cX3_addWord 24 = .ok (.return_, 1) := by decide +kernel
theorem dX3_empty_0 : decode cX3_empty 0 = .ok (.aload_n 0, 1) := by decide +kernel
theorem dX3_empty_1 : decode cX3_empty 1 = .ok (.iconst 0, 1) := by decide +kernel
theorem dX3_empty_2 : decode cX3_empty 2 = .ok (.putfield 15, 3) := by decide +kernel
theorem dX3_empty_5 : decode cX3_empty 5 = .ok (.return_, 1) := by decide +kernel
theorem dX3_become_0 : decode cX3_become 0 = .ok (.aload_n 0, 1) := by decide +kernel
theorem dX3_become_1 : decode cX3_become 1 = .ok (.aload_n 1, 1) := by decide +kernel
theorem dX3_become_2 : decode cX3_become 2 = .ok (.getfield 15, 3) := by decide +kernel
theorem dX3_become_5 : decode cX3_become 5 = .ok (.aload_n 0, 1) := by decide +kernel
theorem dX3_become_6 : decode cX3_become 6 = .ok (.getfield 9, 3) := by decide +kernel
theorem dX3_become_9 : decode cX3_become 9 = .ok (.arraylength, 1) := by decide +kernel
theorem dX3_become_10 : decode cX3_become 10 = .ok (.invokestatic 27, 3) := by decide +kernel
theorem dX3_become_13 : decode cX3_become 13 = .ok (.putfield 15, 3) := by decide +kernel
theorem dX3_become_16 : decode cX3_become 16 = .ok (.aload_n 1, 1) := by decide +kernel
theorem dX3_become_17 : decode cX3_become 17 = .ok (.getfield 9, 3) := by decide +kernel
theorem dX3_become_20 : decode cX3_become 20 = .ok (.iconst 0, 1) := by decide +kernel
theorem dX3_become_21 : decode cX3_become 21 = .ok (.aload_n 0, 1) := by decide +kernel
theorem dX3_become_22 : decode cX3_become 22 = .ok (.getfield 9, 3) := by decide +kernel
theorem dX3_become_25 : decode cX3_become 25 = .ok (.iconst 0, 1) := by decide +kernel
theorem dX3_become_26 : decode cX3_become 26 = .ok (.aload_n 0, 1) := by decide +kernel
theorem dX3_become_27 : decode cX3_become 27 = .ok (.getfield 15, 3) := by decide +kernel
theorem dX3_become_30 : decode cX3_become 30 = .ok (.invokestatic 33, 3) := by decide +kernel
theorem dX3_become_33 : decode cX3_become 33 = .ok (.return_, 1) := by decide +kernel
theorem dX4_init_0 : decode cX4_init 0 = .ok (.aload_n 0, 1) := by decide +kernel
theorem dX4_init_1 : decode cX4_init 1 = .ok (.invokespecial 3, 3) := by decide +kernel
theorem dX4_init_4 : decode cX4_init 4 = .ok (.aload_n 0, 1) := by decide +kernel
theorem dX4_init_5 : decode cX4_init 5 = .ok (.aload_n 1, 1) := by decide +kernel
theorem dX4_init_6 : decode cX4_init 6 = .ok (.putfield 9, 3) := by decide +kernel
theorem dX4_init_9 : decode cX4_init 9 = .ok (.aload_n 0, 1) := by decide +kernel
theorem dX4_init_10 : decode cX4_init 10 = .ok (.sipush 4096, 3) := by decide +kernel
theorem dX4_init_13 : decode cX4_init 13 = .ok (.newarray .int, 2) := by decide +kernel
theorem dX4_init_15 : decode cX4_init 15 = .ok (.putfield 15, 3) := by decide +kernel
theorem dX4_init_18 : decode cX4_init 18 = .ok (.aload_n 0, 1) := by decide +kernel
theorem dX4_init_19 : decode cX4_init 19 = .ok (.iload_n 2, 1) := by decide +kernel
theorem dX4_init_20 : decode cX4_init 20 = .ok (.newarray .int, 2) := by decide +kernel
theorem dX4_init_22 : decode cX4_init 22 = .ok (.putfield 19, 3) := by decide +kernel
theorem dX4_init_25 : decode cX4_init 25 = .ok (.aload_n 0, 1) := by decide +kernel
theorem dX4_init_26 : decode cX4_init 26 = .ok (.iconst 0, 1) := by decide +kernel
theorem dX4_init_27 : decode cX4_init 27 = .ok (.putfield 22, 3) := by decide +kernel
theorem dX4_init_30 : decode cX4_init 30 = .ok (.aload_n 0, 1) := by decide +kernel
theorem dX4_init_31 : decode cX4_init 31 = .ok (.iconst 0, 1) := by decide +kernel
theorem dX4_init_32 : decode cX4_init 32 = .ok (.putfield 26, 3) := by decide +kernel
theorem dX4_init_35 : decode cX4_init 35 = .ok (.aload_n 0, 1) := by decide +kernel
theorem dX4_init_36 : decode cX4_init 36 = .ok (.iconst 0, 1) := by decide +kernel
theorem dX4_init_37 : decode cX4_init 37 = .ok (.putfield 29, 3) := by decide +kernel
theorem dX4_init_40 : decode cX4_init 40 = .ok (.return_, 1) := by decide +kernel
theorem dX4_open_0 : decode cX4_open 0 = .ok (.aload_n 0, 1) := by decide +kernel
theorem dX4_open_1 : decode cX4_open 1 = .ok (.iload_n 1, 1) := by decide +kernel
theorem dX4_open_2 : decode cX4_open 2 = .ok (.aload_n 0, 1) := by decide +kernel
theorem dX4_open_3 : decode cX4_open 3 = .ok (.getfield 19, 3) := by decide +kernel
theorem dX4_open_6 : decode cX4_open 6 = .ok (.arraylength, 1) := by decide +kernel
theorem dX4_open_7 : decode cX4_open 7 = .ok (.invokestatic 32, 3) := by decide +kernel
theorem dX4_open_10 : decode cX4_open 10 = .ok (.putfield 22, 3) := by decide +kernel
theorem dX4_open_13 : decode cX4_open 13 = .ok (.aload_n 0, 1) := by decide +kernel
theorem dX4_open_14 : decode cX4_open 14 = .ok (.getfield 15, 3) := by decide +kernel
theorem dX4_open_17 : decode cX4_open 17 = .ok (.iconst (-1), 1) := by decide +kernel
theorem dX4_open_18 : decode cX4_open 18 = .ok (.invokestatic 38, 3) := by decide +kernel
theorem dX4_open_21 : decode cX4_open 21 = .ok (.iconst 0, 1) := by decide +kernel
theorem dX4_open_22 : decode cX4_open 22 = .ok (.istore_n 2, 1) := by decide +kernel
theorem dX4_open_23 : decode cX4_open 23 = .ok (.iload_n 2, 1) := by decide +kernel
theorem dX4_open_24 : decode cX4_open 24 = .ok (.iconst 3, 1) := by decide +kernel
theorem dX4_open_25 : decode cX4_open 25 = .ok (.iadd, 1) := by decide +kernel
theorem dX4_open_26 : decode cX4_open 26 = .ok (.aload_n 0, 1) := by decide +kernel
theorem dX4_open_27 : decode cX4_open 27 = .ok (.getfield 22, 3) := by decide +kernel
theorem dX4_open_30 : decode cX4_open 30 = .ok (.if_icmp .gt 34, 3) := by decide +kernel
theorem dX4_open_33 : decode cX4_open 33 = .ok (.aload_n 0, 1) := by decide +kernel
theorem dX4_open_34 : decode cX4_open 34 = .ok (.iload_n 2, 1) := by decide +kernel
theorem dX4_open_35 : decode cX4_open 35 = .ok (.invokevirtual 44, 3) := by decide +kernel
theorem dX4_open_38 : decode cX4_open 38 = .ok (.istore_n 3, 1) := by decide +kernel
theorem dX4_open_39 : decode cX4_open 39 = .ok (.aload_n 0, 1) := by decide +kernel
theorem dX4_open_40 : decode cX4_open 40 = .ok (.getfield 19, 3) := by decide +kernel
theorem dX4_open_43 : decode cX4_open 43 = .ok (.iload_n 2, 1) := by decide +kernel
theorem dX4_open_44 : decode cX4_open 44 = .ok (.aload_n 0, 1) := by decide +kernel
theorem dX4_open_45 : decode cX4_open 45 = .ok (.getfield 15, 3) := by decide +kernel
theorem dX4_open_48 : decode cX4_open 48 = .ok (.iload_n 3, 1) := by decide +kernel
theorem dX4_open_49 : decode cX4_open 49 = .ok (.iaload, 1) := by decide +kernel
theorem dX4_open_50 : decode cX4_open 50 = .ok (.iastore, 1) := by decide +kernel
theorem dX4_open_51 : decode cX4_open 51 = .ok (.aload_n 0, 1) := by decide +kernel
theorem dX4_open_52 : decode cX4_open 52 = .ok (.getfield 15, 3) := by decide +kernel
theorem dX4_open_55 : decode cX4_open 55 = .ok (.iload_n 3, 1) := by decide +kernel
theorem dX4_open_56 : decode cX4_open 56 = .ok (.iload_n 2, 1) := by decide +kernel
theorem dX4_open_57 : decode cX4_open 57 = .ok (.iastore, 1) := by decide +kernel
theorem dX4_open_58 : decode cX4_open 58 = .ok (.iinc 2 1, 3) := by decide +kernel
theorem dX4_open_61 : decode cX4_open 61 = .ok (.goto (-38), 3) := by decide +kernel
theorem dX4_open_64 : decode cX4_open 64 = .ok (.return_, 1) := by decide +kernel
theorem dX4_chainOf_0 : decode cX4_chainOf 0 = .ok (.aload_n 0, 1) := by decide +kernel
theorem dX4_chainOf_1 : decode cX4_chainOf 1 = .ok (.getfield 9, 3) := by decide +kernel
theorem dX4_chainOf_4 : decode cX4_chainOf 4 = .ok (.iload_n 1, 1) := by decide +kernel
theorem dX4_chainOf_5 : decode cX4_chainOf 5 = .ok (.invokevirtual 48, 3) := by decide +kernel
theorem dX4_chainOf_8 : decode cX4_chainOf 8 = .ok (.sipush 961, 3) := by decide +kernel
theorem dX4_chainOf_11 : decode cX4_chainOf 11 = .ok (.imul, 1) := by decide +kernel
theorem dX4_chainOf_12 : decode cX4_chainOf 12 = .ok (.aload_n 0, 1) := by decide +kernel
theorem dX4_chainOf_13 : decode cX4_chainOf 13 = .ok (.getfield 9, 3) := by decide +kernel
theorem dX4_chainOf_16 : decode cX4_chainOf 16 = .ok (.iload_n 1, 1) := by decide +kernel
theorem dX4_chainOf_17 : decode cX4_chainOf 17 = .ok (.iconst 1, 1) := by decide +kernel
theorem dX4_chainOf_18 : decode cX4_chainOf 18 = .ok (.iadd, 1) := by decide +kernel
theorem dX4_chainOf_19 : decode cX4_chainOf 19 = .ok (.invokevirtual 48, 3) := by decide +kernel
theorem dX4_chainOf_22 : decode cX4_chainOf 22 = .ok (.bipush 31, 2) := by decide +kernel
theorem dX4_chainOf_24 : decode cX4_chainOf 24 = .ok (.imul, 1) := by decide +kernel
theorem dX4_chainOf_25 : decode cX4_chainOf 25 = .ok (.iadd, 1) := by decide +kernel
theorem dX4_chainOf_26 : decode cX4_chainOf 26 = .ok (.aload_n 0, 1) := by decide +kernel
theorem dX4_chainOf_27 : decode cX4_chainOf 27 = .ok (.getfield 9, 3) := by decide +kernel
theorem dX4_chainOf_30 : decode cX4_chainOf 30 = .ok (.iload_n 1, 1) := by decide +kernel
theorem dX4_chainOf_31 : decode cX4_chainOf 31 = .ok (.iconst 2, 1) := by decide +kernel
theorem dX4_chainOf_32 : decode cX4_chainOf 32 = .ok (.iadd, 1) := by decide +kernel
theorem dX4_chainOf_33 : decode cX4_chainOf 33 = .ok (.invokevirtual 48, 3) := by decide +kernel
theorem dX4_chainOf_36 : decode cX4_chainOf 36 = .ok (.iadd, 1) := by decide +kernel
theorem dX4_chainOf_37 : decode cX4_chainOf 37 = .ok (.sipush 4095, 3) := by decide +kernel
theorem dX4_chainOf_40 : decode cX4_chainOf 40 = .ok (.iand, 1) := by decide +kernel
theorem dX4_chainOf_41 : decode cX4_chainOf 41 = .ok (.ireturn, 1) := by decide +kernel
theorem dX4_find_0 : decode cX4_find 0 = .ok (.aload_n 0, 1) := by decide +kernel
theorem dX4_find_1 : decode cX4_find 1 = .ok (.iconst 2, 1) := by decide +kernel
theorem dX4_find_2 : decode cX4_find 2 = .ok (.putfield 26, 3) := by decide +kernel
theorem dX4_find_5 : decode cX4_find 5 = .ok (.sipush 256, 3) := by decide +kernel
theorem dX4_find_8 : decode cX4_find 8 = .ok (.aload_n 0, 1) := by decide +kernel
theorem dX4_find_9 : decode cX4_find 9 = .ok (.getfield 22, 3) := by decide +kernel
theorem dX4_find_12 : decode cX4_find 12 = .ok (.iload_n 1, 1) := by decide +kernel
theorem dX4_find_13 : decode cX4_find 13 = .ok (.isub, 1) := by decide +kernel
theorem dX4_find_14 : decode cX4_find 14 = .ok (.invokestatic 32, 3) := by decide +kernel
theorem dX4_find_17 : decode cX4_find 17 = .ok (.istore_n 2, 1) := by decide +kernel
theorem dX4_find_18 : decode cX4_find 18 = .ok (.iload_n 1, 1) := by decide +kernel
theorem dX4_find_19 : decode cX4_find 19 = .ok (.ifCond .lt 8, 3) := by decide +kernel
theorem dX4_find_22 : decode cX4_find 22 = .ok (.iload_n 2, 1) := by decide +kernel
theorem dX4_find_23 : decode cX4_find 23 = .ok (.iconst 3, 1) := by decide +kernel
theorem dX4_find_24 : decode cX4_find 24 = .ok (.if_icmp .ge 5, 3) := by decide +kernel
theorem dX4_find_27 : decode cX4_find 27 = .ok (.iconst 0, 1) := by decide +kernel
theorem dX4_find_28 : decode cX4_find 28 = .ok (.ireturn, 1) := by decide +kernel
theorem dX4_find_29 : decode cX4_find 29 = .ok (.aload_n 0, 1) := by decide +kernel
theorem dX4_find_30 : decode cX4_find 30 = .ok (.getfield 19, 3) := by decide +kernel
theorem dX4_find_33 : decode cX4_find 33 = .ok (.iload_n 1, 1) := by decide +kernel
theorem dX4_find_34 : decode cX4_find 34 = .ok (.iaload, 1) := by decide +kernel
theorem dX4_find_35 : decode cX4_find 35 = .ok (.istore_n 3, 1) := by decide +kernel
theorem dX4_find_36 : decode cX4_find 36 = .ok (.iconst 0, 1) := by decide +kernel
theorem dX4_find_37 : decode cX4_find 37 = .ok (.istore 4, 2) := by decide +kernel
theorem dX4_find_39 : decode cX4_find 39 = .ok (.iload 4, 2) := by decide +kernel
theorem dX4_find_41 : decode cX4_find 41 = .ok (.iload_n 1, 1) := by decide +kernel
theorem dX4_find_42 : decode cX4_find 42 = .ok (.if_icmp .ge 71, 3) := by decide +kernel
theorem dX4_find_45 : decode cX4_find 45 = .ok (.iload_n 3, 1) := by decide +kernel
theorem dX4_find_46 : decode cX4_find 46 = .ok (.ifCond .lt 67, 3) := by decide +kernel
theorem dX4_find_49 : decode cX4_find 49 = .ok (.aload_n 0, 1) := by decide +kernel
theorem dX4_find_50 : decode cX4_find 50 = .ok (.getfield 26, 3) := by decide +kernel
theorem dX4_find_53 : decode cX4_find 53 = .ok (.iload_n 2, 1) := by decide +kernel
theorem dX4_find_54 : decode cX4_find 54 = .ok (.if_icmp .ge 59, 3) := by decide +kernel
theorem dX4_find_57 : decode cX4_find 57 = .ok (.iload_n 1, 1) := by decide +kernel
theorem dX4_find_58 : decode cX4_find 58 = .ok (.iload_n 3, 1) := by decide +kernel
theorem dX4_find_59 : decode cX4_find 59 = .ok (.isub, 1) := by decide +kernel
theorem dX4_find_60 : decode cX4_find 60 = .ok (.sipush 8191, 3) := by decide +kernel
theorem dX4_find_63 : decode cX4_find 63 = .ok (.if_icmp .le 6, 3) := by decide +kernel
theorem dX4_find_66 : decode cX4_find 66 = .ok (.goto 47, 3) := by decide +kernel
theorem dX4_find_69 : decode cX4_find 69 = .ok (.aload_n 0, 1) := by decide +kernel
theorem dX4_find_70 : decode cX4_find 70 = .ok (.iload_n 3, 1) := by decide +kernel
theorem dX4_find_71 : decode cX4_find 71 = .ok (.iload_n 1, 1) := by decide +kernel
theorem dX4_find_72 : decode cX4_find 72 = .ok (.iload_n 2, 1) := by decide +kernel
theorem dX4_find_73 : decode cX4_find 73 = .ok (.invokevirtual 53, 3) := by decide +kernel
theorem dX4_find_76 : decode cX4_find 76 = .ok (.istore 5, 2) := by decide +kernel
theorem dX4_find_78 : decode cX4_find 78 = .ok (.iload 5, 2) := by decide +kernel
theorem dX4_find_80 : decode cX4_find 80 = .ok (.aload_n 0, 1) := by decide +kernel
theorem dX4_find_81 : decode cX4_find 81 = .ok (.getfield 26, 3) := by decide +kernel
theorem dX4_find_84 : decode cX4_find 84 = .ok (.if_icmp .le 16, 3) := by decide +kernel
theorem dX4_find_87 : decode cX4_find 87 = .ok (.aload_n 0, 1) := by decide +kernel
theorem dX4_find_88 : decode cX4_find 88 = .ok (.iload 5, 2) := by decide +kernel
theorem dX4_find_90 : decode cX4_find 90 = .ok (.putfield 26, 3) := by decide +kernel
theorem dX4_find_93 : decode cX4_find 93 = .ok (.aload_n 0, 1) := by decide +kernel
theorem dX4_find_94 : decode cX4_find 94 = .ok (.iload_n 1, 1) := by decide +kernel
theorem dX4_find_95 : decode cX4_find 95 = .ok (.iload_n 3, 1) := by decide +kernel
theorem dX4_find_96 : decode cX4_find 96 = .ok (.isub, 1) := by decide +kernel
theorem dX4_find_97 : decode cX4_find 97 = .ok (.putfield 29, 3) := by decide +kernel
theorem dX4_find_100 : decode cX4_find 100 = .ok (.aload_n 0, 1) := by decide +kernel
theorem dX4_find_101 : decode cX4_find 101 = .ok (.getfield 19, 3) := by decide +kernel
theorem dX4_find_104 : decode cX4_find 104 = .ok (.iload_n 3, 1) := by decide +kernel
theorem dX4_find_105 : decode cX4_find 105 = .ok (.iaload, 1) := by decide +kernel
theorem dX4_find_106 : decode cX4_find 106 = .ok (.istore_n 3, 1) := by decide +kernel
theorem dX4_find_107 : decode cX4_find 107 = .ok (.iinc 4 1, 3) := by decide +kernel
theorem dX4_find_110 : decode cX4_find 110 = .ok (.goto (-71), 3) := by decide +kernel
theorem dX4_find_113 : decode cX4_find 113 = .ok (.aload_n 0, 1) := by decide +kernel
theorem dX4_find_114 : decode cX4_find 114 = .ok (.getfield 26, 3) := by decide +kernel
theorem dX4_find_117 : decode cX4_find 117 = .ok (.iconst 3, 1) := by decide +kernel
theorem dX4_find_118 : decode cX4_find 118 = .ok (.if_icmp .lt 7, 3) := by decide +kernel
theorem dX4_find_121 : decode cX4_find 121 = .ok (.iconst 1, 1) := by decide +kernel
theorem dX4_find_122 : decode cX4_find 122 = .ok (.goto 4, 3) := by decide +kernel
theorem dX4_find_125 : decode cX4_find 125 = .ok (.iconst 0, 1) := by decide +kernel
theorem dX4_find_126 : decode cX4_find 126 = .ok (.ireturn, 1) := by decide +kernel
theorem dX4_sameBytes_0 : decode cX4_sameBytes 0 = .ok (.iconst 0, 1) := by decide +kernel
theorem dX4_sameBytes_1 : decode cX4_sameBytes 1 = .ok (.istore 4, 2) := by decide +kernel
theorem dX4_sameBytes_3 : decode cX4_sameBytes 3 = .ok (.iload 4, 2) := by decide +kernel
theorem dX4_sameBytes_5 : decode cX4_sameBytes 5 = .ok (.iload_n 3, 1) := by decide +kernel
theorem dX4_sameBytes_6 : decode cX4_sameBytes 6 = .ok (.if_icmp .ge 37, 3) := by decide +kernel
theorem dX4_sameBytes_9 : decode cX4_sameBytes 9 = .ok (.aload_n 0, 1) := by decide +kernel
theorem dX4_sameBytes_10 : decode cX4_sameBytes 10 = .ok (.getfield 9, 3) := by decide +kernel
theorem dX4_sameBytes_13 : decode cX4_sameBytes 13 = .ok (.iload_n 1, 1) := by decide +kernel
theorem dX4_sameBytes_14 : decode cX4_sameBytes 14 = .ok (.iload 4, 2) := by decide +kernel
theorem dX4_sameBytes_16 : decode cX4_sameBytes 16 = .ok (.iadd, 1) := by decide +kernel
theorem dX4_sameBytes_17 : decode cX4_sameBytes 17 = .ok (.invokevirtual 48, 3) := by decide +kernel
theorem dX4_sameBytes_20 : decode cX4_sameBytes 20 = .ok (.aload_n 0, 1) := by decide +kernel
theorem dX4_sameBytes_21 : decode cX4_sameBytes 21 = .ok (.getfield 9, 3) := by decide +kernel
theorem dX4_sameBytes_24 : decode cX4_sameBytes 24 = .ok (.iload_n 2, 1) := by decide +kernel
theorem dX4_sameBytes_25 : decode cX4_sameBytes 25 = .ok (.iload 4, 2) := by decide +kernel
theorem dX4_sameBytes_27 : decode cX4_sameBytes 27 = .ok (.iadd, 1) := by decide +kernel
theorem dX4_sameBytes_28 : decode cX4_sameBytes 28 = .ok (.invokevirtual 48, 3) := by decide +kernel
theorem dX4_sameBytes_31 : decode cX4_sameBytes 31 = .ok (.if_icmp .eq 6, 3) := by decide +kernel
theorem dX4_sameBytes_34 : decode cX4_sameBytes 34 = .ok (.iload 4, 2) := by decide +kernel
theorem dX4_sameBytes_36 : decode cX4_sameBytes 36 = .ok (.ireturn, 1) := by decide +kernel
theorem dX4_sameBytes_37 : decode cX4_sameBytes 37 = .ok (.iinc 4 1, 3) := by decide +kernel
theorem dX4_sameBytes_40 : decode cX4_sameBytes 40 = .ok (.goto (-37), 3) := by decide +kernel
theorem dX4_sameBytes_43 : decode cX4_sameBytes 43 = .ok (.iload_n 3, 1) := by decide +kernel
theorem dX4_sameBytes_44 : decode cX4_sameBytes 44 = .ok (.ireturn, 1) := by decide +kernel
theorem dX4_foundLength_0 : decode cX4_foundLength 0 = .ok (.aload_n 0, 1) := by decide +kernel
theorem dX4_foundLength_1 : decode cX4_foundLength 1 = .ok (.getfield 26, 3) := by decide +kernel
theorem dX4_foundLength_4 : decode cX4_foundLength 4 = .ok (.ireturn, 1) := by decide +kernel
theorem dX4_foundDistance_0 : decode cX4_foundDistance 0 = .ok (.aload_n 0, 1) := by decide +kernel
theorem dX4_foundDistance_1 : decode cX4_foundDistance 1 = .ok (.getfield 29, 3) := by decide +kernel
theorem dX4_foundDistance_4 : decode cX4_foundDistance 4 = .ok (.ireturn, 1) := by decide +kernel
theorem dX5_init_0 : decode cX5_init 0 = .ok (.aload_n 0, 1) := by decide +kernel
theorem dX5_init_1 : decode cX5_init 1 = .ok (.invokespecial 1, 3) := by decide +kernel
theorem dX5_init_4 : decode cX5_init 4 = .ok (.aload_n 0, 1) := by decide +kernel
theorem dX5_init_5 : decode cX5_init 5 = .ok (.iload_n 1, 1) := by decide +kernel
theorem dX5_init_6 : decode cX5_init 6 = .ok (.newarray .int, 2) := by decide +kernel
theorem dX5_init_8 : decode cX5_init 8 = .ok (.putfield 7, 3) := by decide +kernel
theorem dX5_init_11 : decode cX5_init 11 = .ok (.aload_n 0, 1) := by decide +kernel
theorem dX5_init_12 : decode cX5_init 12 = .ok (.iconst 2, 1) := by decide +kernel
theorem dX5_init_13 : decode cX5_init 13 = .ok (.iload_n 1, 1) := by decide +kernel
theorem dX5_init_14 : decode cX5_init 14 = .ok (.imul, 1) := by decide +kernel
theorem dX5_init_15 : decode cX5_init 15 = .ok (.newarray .int, 2) := by decide +kernel
theorem dX5_init_17 : decode cX5_init 17 = .ok (.putfield 13, 3) := by decide +kernel
theorem dX5_init_20 : decode cX5_init 20 = .ok (.aload_n 0, 1) := by decide +kernel
theorem dX5_init_21 : decode cX5_init 21 = .ok (.iconst 2, 1) := by decide +kernel
theorem dX5_init_22 : decode cX5_init 22 = .ok (.iload_n 1, 1) := by decide +kernel
theorem dX5_init_23 : decode cX5_init 23 = .ok (.imul, 1) := by decide +kernel
theorem dX5_init_24 : decode cX5_init 24 = .ok (.newarray .int, 2) := by decide +kernel
theorem dX5_init_26 : decode cX5_init 26 = .ok (.putfield 16, 3) := by decide +kernel
theorem dX5_init_29 : decode cX5_init 29 = .ok (.aload_n 0, 1) := by decide +kernel
theorem dX5_init_30 : decode cX5_init 30 = .ok (.iconst 2, 1) := by decide +kernel
theorem dX5_init_31 : decode cX5_init 31 = .ok (.iload_n 1, 1) := by decide +kernel
theorem dX5_init_32 : decode cX5_init 32 = .ok (.imul, 1) := by decide +kernel
theorem dX5_init_33 : decode cX5_init 33 = .ok (.newarray .int, 2) := by decide +kernel
theorem dX5_init_35 : decode cX5_init 35 = .ok (.putfield 19, 3) := by decide +kernel
theorem dX5_init_38 : decode cX5_init 38 = .ok (.aload_n 0, 1) := by decide +kernel
theorem dX5_init_39 : decode cX5_init 39 = .ok (.iconst 0, 1) := by decide +kernel
theorem dX5_init_40 : decode cX5_init 40 = .ok (.putfield 22, 3) := by decide +kernel
theorem dX5_init_43 : decode cX5_init 43 = .ok (.aload_n 0, 1) := by decide +kernel
theorem dX5_init_44 : decode cX5_init 44 = .ok (.iconst 0, 1) := by decide +kernel
theorem dX5_init_45 : decode cX5_init 45 = .ok (.putfield 26, 3) := by decide +kernel
theorem dX5_init_48 : decode cX5_init 48 = .ok (.aload_n 0, 1) := by decide +kernel
theorem dX5_init_49 : decode cX5_init 49 = .ok (.iconst 0, 1) := by decide +kernel
theorem dX5_init_50 : decode cX5_init 50 = .ok (.putfield 29, 3) := by decide +kernel
theorem dX5_init_53 : decode cX5_init 53 = .ok (.aload_n 0, 1) := by decide +kernel
theorem dX5_init_54 : decode cX5_init 54 = .ok (.iconst 0, 1) := by decide +kernel
theorem dX5_init_55 : decode cX5_init 55 = .ok (.putfield 32, 3) := by decide +kernel
theorem dX5_init_58 : decode cX5_init 58 = .ok (.return_, 1) := by decide +kernel
theorem dX5_shape_0 : decode cX5_shape 0 = .ok (.aload_n 0, 1) := by decide +kernel
theorem dX5_shape_1 : decode cX5_shape 1 = .ok (.aload_n 1, 1) := by decide +kernel
theorem dX5_shape_2 : decode cX5_shape 2 = .ok (.invokevirtual 35, 3) := by decide +kernel
theorem dX5_shape_5 : decode cX5_shape 5 = .ok (.aload_n 0, 1) := by decide +kernel
theorem dX5_shape_6 : decode cX5_shape 6 = .ok (.getfield 22, 3) := by decide +kernel
theorem dX5_shape_9 : decode cX5_shape 9 = .ok (.iconst 2, 1) := by decide +kernel
theorem dX5_shape_10 : decode cX5_shape 10 = .ok (.if_icmp .ge 25, 3) := by decide +kernel
theorem dX5_shape_13 : decode cX5_shape 13 = .ok (.aload_n 1, 1) := by decide +kernel
theorem dX5_shape_14 : decode cX5_shape 14 = .ok (.aload_n 0, 1) := by decide +kernel
theorem dX5_shape_15 : decode cX5_shape 15 = .ok (.getfield 22, 3) := by decide +kernel
theorem dX5_shape_18 : decode cX5_shape 18 = .ok (.ifCond .ne 7, 3) := by decide +kernel
theorem dX5_shape_21 : decode cX5_shape 21 = .ok (.iconst 0, 1) := by decide +kernel
theorem dX5_shape_22 : decode cX5_shape 22 = .ok (.goto 9, 3) := by decide +kernel
theorem dX5_shape_25 : decode cX5_shape 25 = .ok (.aload_n 0, 1) := by decide +kernel
theorem dX5_shape_26 : decode cX5_shape 26 = .ok (.getfield 7, 3) := by decide +kernel
theorem dX5_shape_29 : decode cX5_shape 29 = .ok (.iconst 0, 1) := by decide +kernel
theorem dX5_shape_30 : decode cX5_shape 30 = .ok (.iaload, 1) := by decide +kernel
theorem dX5_shape_31 : decode cX5_shape 31 = .ok (.invokevirtual 39, 3) := by decide +kernel
theorem dX5_shape_34 : decode cX5_shape 34 = .ok (.return_, 1) := by decide +kernel
theorem dX5_shape_35 : decode cX5_shape 35 = .ok (.aload_n 0, 1) := by decide +kernel
theorem dX5_shape_36 : decode cX5_shape 36 = .ok (.aload_n 1, 1) := by decide +kernel
theorem dX5_shape_37 : decode cX5_shape 37 = .ok (.invokevirtual 45, 3) := by decide +kernel
theorem dX5_shape_40 : decode cX5_shape 40 = .ok (.invokevirtual 49, 3) := by decide +kernel
theorem dX5_shape_43 : decode cX5_shape 43 = .ok (.aload_n 0, 1) := by decide +kernel
theorem dX5_shape_44 : decode cX5_shape 44 = .ok (.aload_n 1, 1) := by decide +kernel
