theorem dX9_fill_26 : decode cX9_fill 26 = .ok (.iload_n 3, 1) := by decide +kernel
theorem dX9_fill_27 : decode cX9_fill 27 = .ok (.iload_n 2, 1) := by decide +kernel
theorem dX9_fill_28 : decode cX9_fill 28 = .ok (.if_icmp .ge 17, 3) := by decide +kernel
theorem dX9_fill_31 : decode cX9_fill 31 = .ok (.aload_n 0, 1) := by decide +kernel
theorem dX9_fill_32 : decode cX9_fill 32 = .ok (.getfield 14, 3) := by decide +kernel
theorem dX9_fill_35 : decode cX9_fill 35 = .ok (.iload_n 1, 1) := by decide +kernel
theorem dX9_fill_36 : decode cX9_fill 36 = .ok (.invokevirtual 58, 3) := by decide +kernel
theorem dX9_fill_39 : decode cX9_fill 39 = .ok (.iinc 3 1, 3) := by decide +kernel
theorem dX9_fill_42 : decode cX9_fill 42 = .ok (.goto (-16), 3) := by decide +kernel
theorem dX9_fill_45 : decode cX9_fill 45 = .ok (.aload_n 0, 1) := by decide +kernel
theorem dX9_fill_46 : decode cX9_fill 46 = .ok (.getfield 14, 3) := by decide +kernel
theorem dX9_fill_49 : decode cX9_fill 49 = .ok (.invokevirtual 51, 3) := by decide +kernel
theorem dX9_fill_52 : decode cX9_fill 52 = .ok (.ireturn, 1) := by decide +kernel
theorem dX9_peek_0 : decode cX9_peek 0 = .ok (.aload_n 0, 1) := by decide +kernel
theorem dX9_peek_1 : decode cX9_peek 1 = .ok (.getfield 14, 3) := by decide +kernel
theorem dX9_peek_4 : decode cX9_peek 4 = .ok (.iload_n 1, 1) := by decide +kernel
theorem dX9_peek_5 : decode cX9_peek 5 = .ok (.invokevirtual 61, 3) := by decide +kernel
theorem dX9_peek_8 : decode cX9_peek 8 = .ok (.ireturn, 1) := by decide +kernel
theorem dX9_poke_0 : decode cX9_poke 0 = .ok (.aload_n 0, 1) := by decide +kernel
theorem dX9_poke_1 : decode cX9_poke 1 = .ok (.getfield 14, 3) := by decide +kernel
theorem dX9_poke_4 : decode cX9_poke 4 = .ok (.iload_n 1, 1) := by decide +kernel
theorem dX9_poke_5 : decode cX9_poke 5 = .ok (.invokevirtual 65, 3) := by decide +kernel
theorem dX9_poke_8 : decode cX9_poke 8 = .ok (.ifCond .eq 10, 3) := by decide +kernel
theorem dX9_poke_11 : decode cX9_poke 11 = .ok (.iload_n 2, 1) := by decide +kernel
theorem dX9_poke_12 : decode cX9_poke 12 = .ok (.invokestatic 55, 3) := by decide +kernel
theorem dX9_poke_15 : decode cX9_poke 15 = .ok (.ifCond .ne 5, 3) := by decide +kernel
theorem dX9_poke_18 : decode cX9_poke 18 = .ok (.iconst 0, 1) := by decide +kernel
theorem dX9_poke_19 : decode cX9_poke 19 = .ok (.ireturn, 1) := by decide +kernel
theorem dX9_poke_20 : decode cX9_poke 20 = .ok (.aload_n 0, 1) := by decide +kernel
theorem dX9_poke_21 : decode cX9_poke 21 = .ok (.getfield 14, 3) := by decide +kernel
theorem dX9_poke_24 : decode cX9_poke 24 = .ok (.iload_n 1, 1) := by decide +kernel
theorem dX9_poke_25 : decode cX9_poke 25 = .ok (.iload_n 2, 1) := by decide +kernel
theorem dX9_poke_26 : decode cX9_poke 26 = .ok (.invokevirtual 68, 3) := by decide +kernel
theorem dX9_poke_29 : decode cX9_poke 29 = .ok (.iconst 1, 1) := by decide +kernel
theorem dX9_poke_30 : decode cX9_poke 30 = .ok (.ireturn, 1) := by decide +kernel
theorem dX9_clear_0 : decode cX9_clear 0 = .ok (.aload_n 0, 1) := by decide +kernel
theorem dX9_clear_1 : decode cX9_clear 1 = .ok (.getfield 14, 3) := by decide +kernel
theorem dX9_clear_4 : decode cX9_clear 4 = .ok (.invokevirtual 72, 3) := by decide +kernel
theorem dX9_clear_7 : decode cX9_clear 7 = .ok (.return_, 1) := by decide +kernel
theorem dX9_read_0 : decode cX9_read 0 = .ok (.aload_n 0, 1) := by decide +kernel
theorem dX9_read_1 : decode cX9_read 1 = .ok (.iload_n 1, 1) := by decide +kernel
theorem dX9_read_2 : decode cX9_read 2 = .ok (.invokevirtual 75, 3) := by decide +kernel
theorem dX9_read_5 : decode cX9_read 5 = .ok (.ifCond .eq 14, 3) := by decide +kernel
theorem dX9_read_8 : decode cX9_read 8 = .ok (.iload_n 2, 1) := by decide +kernel
theorem dX9_read_9 : decode cX9_read 9 = .ok (.ifCond .lt 10, 3) := by decide +kernel
theorem dX9_read_12 : decode cX9_read 12 = .ok (.iload_n 2, 1) := by decide +kernel
theorem dX9_read_13 : decode cX9_read 13 = .ok (.sipush 8000, 3) := by decide +kernel
theorem dX9_read_16 : decode cX9_read 16 = .ok (.if_icmp .le 5, 3) := by decide +kernel
theorem dX9_read_19 : decode cX9_read 19 = .ok (.iconst (-1), 1) := by decide +kernel
theorem dX9_read_20 : decode cX9_read 20 = .ok (.ireturn, 1) := by decide +kernel
theorem dX9_read_21 : decode cX9_read 21 = .ok (.aload_n 0, 1) := by decide +kernel
theorem dX9_read_22 : decode cX9_read 22 = .ok (.getfield 33, 3) := by decide +kernel
theorem dX9_read_25 : decode cX9_read 25 = .ok (.iload_n 1, 1) := by decide +kernel
theorem dX9_read_26 : decode cX9_read 26 = .ok (.iload_n 2, 1) := by decide +kernel
theorem dX9_read_27 : decode cX9_read 27 = .ok (.invokevirtual 78, 3) := by decide +kernel
theorem dX9_read_30 : decode cX9_read 30 = .ok (.ireturn, 1) := by decide +kernel
theorem dX9_write_0 : decode cX9_write 0 = .ok (.aload_n 0, 1) := by decide +kernel
theorem dX9_write_1 : decode cX9_write 1 = .ok (.iload_n 1, 1) := by decide +kernel
theorem dX9_write_2 : decode cX9_write 2 = .ok (.invokevirtual 75, 3) := by decide +kernel
theorem dX9_write_5 : decode cX9_write 5 = .ok (.ifCond .ne 5, 3) := by decide +kernel
theorem dX9_write_8 : decode cX9_write 8 = .ok (.iconst (-1), 1) := by decide +kernel
theorem dX9_write_9 : decode cX9_write 9 = .ok (.ireturn, 1) := by decide +kernel
theorem dX9_write_10 : decode cX9_write 10 = .ok (.aload_n 0, 1) := by decide +kernel
theorem dX9_write_11 : decode cX9_write 11 = .ok (.getfield 40, 3) := by decide +kernel
theorem dX9_write_14 : decode cX9_write 14 = .ok (.iload_n 1, 1) := by decide +kernel
theorem dX9_write_15 : decode cX9_write 15 = .ok (.invokevirtual 82, 3) := by decide +kernel
theorem dX9_write_18 : decode cX9_write 18 = .ok (.aload_n 0, 1) := by decide +kernel
theorem dX9_write_19 : decode cX9_write 19 = .ok (.getfield 18, 3) := by decide +kernel
theorem dX9_write_22 : decode cX9_write 22 = .ok (.invokevirtual 51, 3) := by decide +kernel
theorem dX9_write_25 : decode cX9_write 25 = .ok (.ireturn, 1) := by decide +kernel
theorem dX9_back_0 : decode cX9_back 0 = .ok (.aload_n 0, 1) := by decide +kernel
theorem dX9_back_1 : decode cX9_back 1 = .ok (.getfield 18, 3) := by decide +kernel
theorem dX9_back_4 : decode cX9_back 4 = .ok (.invokevirtual 51, 3) := by decide +kernel
theorem dX9_back_7 : decode cX9_back 7 = .ok (.sipush 4000, 3) := by decide +kernel
theorem dX9_back_10 : decode cX9_back 10 = .ok (.if_icmp .le 5, 3) := by decide +kernel
theorem dX9_back_13 : decode cX9_back 13 = .ok (.iconst (-1), 1) := by decide +kernel
theorem dX9_back_14 : decode cX9_back 14 = .ok (.ireturn, 1) := by decide +kernel
theorem dX9_back_15 : decode cX9_back 15 = .ok (.aload_n 0, 1) := by decide +kernel
theorem dX9_back_16 : decode cX9_back 16 = .ok (.getfield 14, 3) := by decide +kernel
theorem dX9_back_19 : decode cX9_back 19 = .ok (.aload_n 0, 1) := by decide +kernel
theorem dX9_back_20 : decode cX9_back 20 = .ok (.getfield 18, 3) := by decide +kernel
theorem dX9_back_23 : decode cX9_back 23 = .ok (.invokevirtual 85, 3) := by decide +kernel
theorem dX9_back_26 : decode cX9_back 26 = .ok (.aload_n 0, 1) := by decide +kernel
theorem dX9_back_27 : decode cX9_back 27 = .ok (.getfield 14, 3) := by decide +kernel
theorem dX9_back_30 : decode cX9_back 30 = .ok (.invokevirtual 51, 3) := by decide +kernel
theorem dX9_back_33 : decode cX9_back 33 = .ok (.ireturn, 1) := by decide +kernel
theorem dX9_made_0 : decode cX9_made 0 = .ok (.aload_n 0, 1) := by decide +kernel
theorem dX9_made_1 : decode cX9_made 1 = .ok (.getfield 18, 3) := by decide +kernel
theorem dX9_made_4 : decode cX9_made 4 = .ok (.invokevirtual 51, 3) := by decide +kernel
theorem dX9_made_7 : decode cX9_made 7 = .ok (.ireturn, 1) := by decide +kernel
theorem dX9_out_0 : decode cX9_out 0 = .ok (.aload_n 0, 1) := by decide +kernel
theorem dX9_out_1 : decode cX9_out 1 = .ok (.getfield 18, 3) := by decide +kernel
theorem dX9_out_4 : decode cX9_out 4 = .ok (.iload_n 1, 1) := by decide +kernel
theorem dX9_out_5 : decode cX9_out 5 = .ok (.invokevirtual 61, 3) := by decide +kernel
theorem dX9_out_8 : decode cX9_out 8 = .ok (.ireturn, 1) := by decide +kernel
theorem dX9_told_0 : decode cX9_told 0 = .ok (.aload_n 0, 1) := by decide +kernel
theorem dX9_told_1 : decode cX9_told 1 = .ok (.getfield 24, 3) := by decide +kernel
theorem dX9_told_4 : decode cX9_told 4 = .ok (.iload_n 1, 1) := by decide +kernel
theorem dX9_told_5 : decode cX9_told 5 = .ok (.invokevirtual 89, 3) := by decide +kernel
theorem dX9_told_8 : decode cX9_told 8 = .ok (.ireturn, 1) := by decide +kernel
theorem dX9_length_0 : decode cX9_length 0 = .ok (.aload_n 0, 1) := by decide +kernel
theorem dX9_length_1 : decode cX9_length 1 = .ok (.getfield 24, 3) := by decide +kernel
theorem dX9_length_4 : decode cX9_length 4 = .ok (.invokevirtual 92, 3) := by decide +kernel
theorem dX9_length_7 : decode cX9_length 7 = .ok (.ifCond .eq 12, 3) := by decide +kernel
theorem dX9_length_10 : decode cX9_length 10 = .ok (.iload_n 1, 1) := by decide +kernel
theorem dX9_length_11 : decode cX9_length 11 = .ok (.ifCond .lt 8, 3) := by decide +kernel
theorem dX9_length_14 : decode cX9_length 14 = .ok (.iload_n 1, 1) := by decide +kernel
theorem dX9_length_15 : decode cX9_length 15 = .ok (.iconst 3, 1) := by decide +kernel
theorem dX9_length_16 : decode cX9_length 16 = .ok (.if_icmp .lt 5, 3) := by decide +kernel
theorem dX9_length_19 : decode cX9_length 19 = .ok (.iconst (-1), 1) := by decide +kernel
theorem dX9_length_20 : decode cX9_length 20 = .ok (.ireturn, 1) := by decide +kernel
theorem dX9_length_21 : decode cX9_length 21 = .ok (.aload_n 0, 1) := by decide +kernel
theorem dX9_length_22 : decode cX9_length 22 = .ok (.getfield 24, 3) := by decide +kernel
theorem dX9_length_25 : decode cX9_length 25 = .ok (.iload_n 1, 1) := by decide +kernel
theorem dX9_length_26 : decode cX9_length 26 = .ok (.invokevirtual 96, 3) := by decide +kernel
theorem dX9_length_29 : decode cX9_length 29 = .ok (.iload_n 2, 1) := by decide +kernel
theorem dX9_length_30 : decode cX9_length 30 = .ok (.invokevirtual 100, 3) := by decide +kernel
theorem dX9_length_33 : decode cX9_length 33 = .ok (.ireturn, 1) := by decide +kernel
theorem dX9_isOnTape_0 : decode cX9_isOnTape 0 = .ok (.iload_n 1, 1) := by decide +kernel
theorem dX9_isOnTape_1 : decode cX9_isOnTape 1 = .ok (.ifCond .lt 18, 3) := by decide +kernel
theorem dX9_isOnTape_4 : decode cX9_isOnTape 4 = .ok (.iload_n 1, 1) := by decide +kernel
theorem dX9_isOnTape_5 : decode cX9_isOnTape 5 = .ok (.aload_n 0, 1) := by decide +kernel
theorem dX9_isOnTape_6 : decode cX9_isOnTape 6 = .ok (.getfield 14, 3) := by decide +kernel
theorem dX9_isOnTape_9 : decode cX9_isOnTape 9 = .ok (.invokevirtual 51, 3) := by decide +kernel
theorem dX9_isOnTape_12 : decode cX9_isOnTape 12 = .ok (.if_icmp .gt 7, 3) := by decide +kernel
theorem dX9_isOnTape_15 : decode cX9_isOnTape 15 = .ok (.iconst 1, 1) := by decide +kernel
theorem dX9_isOnTape_16 : decode cX9_isOnTape 16 = .ok (.goto 4, 3) := by decide +kernel
theorem dX9_isOnTape_19 : decode cX9_isOnTape 19 = .ok (.iconst 0, 1) := by decide +kernel
theorem dX9_isOnTape_20 : decode cX9_isOnTape 20 = .ok (.ireturn, 1) := by decide +kernel
theorem dX9_isByte_0 : decode cX9_isByte 0 = .ok (.iload_n 0, 1) := by decide +kernel
theorem dX9_isByte_1 : decode cX9_isByte 1 = .ok (.ifCond .lt 14, 3) := by decide +kernel
theorem dX9_isByte_4 : decode cX9_isByte 4 = .ok (.iload_n 0, 1) := by decide +kernel
theorem dX9_isByte_5 : decode cX9_isByte 5 = .ok (.sipush 256, 3) := by decide +kernel
theorem dX9_isByte_8 : decode cX9_isByte 8 = .ok (.if_icmp .ge 7, 3) := by decide +kernel
theorem dX9_isByte_11 : decode cX9_isByte 11 = .ok (.iconst 1, 1) := by decide +kernel
theorem dX9_isByte_12 : decode cX9_isByte 12 = .ok (.goto 4, 3) := by decide +kernel
theorem dX9_isByte_15 : decode cX9_isByte 15 = .ok (.iconst 0, 1) := by decide +kernel
theorem dX9_isByte_16 : decode cX9_isByte 16 = .ok (.ireturn, 1) := by decide +kernel
theorem dX9_bitsBehind_0 : decode cX9_bitsBehind 0 = .ok (.iload_n 0, 1) := by decide +kernel
theorem dX9_bitsBehind_1 : decode cX9_bitsBehind 1 = .ok (.iconst 1, 1) := by decide +kernel
theorem dX9_bitsBehind_2 : decode cX9_bitsBehind 2 = .ok (.if_icmp .ne 7, 3) := by decide +kernel
theorem dX9_bitsBehind_5 : decode cX9_bitsBehind 5 = .ok (.iconst 4, 1) := by decide +kernel
theorem dX9_bitsBehind_6 : decode cX9_bitsBehind 6 = .ok (.goto 14, 3) := by decide +kernel
theorem dX9_bitsBehind_9 : decode cX9_bitsBehind 9 = .ok (.iload_n 0, 1) := by decide +kernel
theorem dX9_bitsBehind_10 : decode cX9_bitsBehind 10 = .ok (.iconst 2, 1) := by decide +kernel
theorem dX9_bitsBehind_11 : decode cX9_bitsBehind 11 = .ok (.if_icmp .ne 8, 3) := by decide +kernel
theorem dX9_bitsBehind_14 : decode cX9_bitsBehind 14 = .ok (.bipush 9, 2) := by decide +kernel
theorem dX9_bitsBehind_16 : decode cX9_bitsBehind 16 = .ok (.goto 4, 3) := by decide +kernel
theorem dX9_bitsBehind_19 : decode cX9_bitsBehind 19 = .ok (.iconst 0, 1) := by decide +kernel
theorem dX9_bitsBehind_20 : decode cX9_bitsBehind 20 = .ok (.ireturn, 1) := by decide +kernel
theorem dX9_leastOf_0 : decode cX9_leastOf 0 = .ok (.iload_n 0, 1) := by decide +kernel
theorem dX9_leastOf_1 : decode cX9_leastOf 1 = .ok (.iconst 1, 1) := by decide +kernel
theorem dX9_leastOf_2 : decode cX9_leastOf 2 = .ok (.if_icmp .ne 7, 3) := by decide +kernel
theorem dX9_leastOf_5 : decode cX9_leastOf 5 = .ok (.iconst 3, 1) := by decide +kernel
theorem dX9_leastOf_6 : decode cX9_leastOf 6 = .ok (.goto 14, 3) := by decide +kernel
theorem dX9_leastOf_9 : decode cX9_leastOf 9 = .ok (.iload_n 0, 1) := by decide +kernel
theorem dX9_leastOf_10 : decode cX9_leastOf 10 = .ok (.iconst 2, 1) := by decide +kernel
theorem dX9_leastOf_11 : decode cX9_leastOf 11 = .ok (.if_icmp .ne 8, 3) := by decide +kernel
theorem dX9_leastOf_14 : decode cX9_leastOf 14 = .ok (.bipush 20, 2) := by decide +kernel
theorem dX9_leastOf_16 : decode cX9_leastOf 16 = .ok (.goto 4, 3) := by decide +kernel
theorem dX9_leastOf_19 : decode cX9_leastOf 19 = .ok (.iconst 1, 1) := by decide +kernel
theorem dX9_leastOf_20 : decode cX9_leastOf 20 = .ok (.ireturn, 1) := by decide +kernel
theorem dX10_init_0 : decode cX10_init 0 = .ok (.aload_n 0, 1) := by decide +kernel
theorem dX10_init_1 : decode cX10_init 1 = .ok (.invokespecial 1, 3) := by decide +kernel
theorem dX10_init_4 : decode cX10_init 4 = .ok (.aload_n 0, 1) := by decide +kernel
theorem dX10_init_5 : decode cX10_init 5 = .ok (.sipush 4000, 3) := by decide +kernel
theorem dX10_init_8 : decode cX10_init 8 = .ok (.newarray .int, 2) := by decide +kernel
theorem dX10_init_10 : decode cX10_init 10 = .ok (.putfield 7, 3) := by decide +kernel
theorem dX10_init_13 : decode cX10_init 13 = .ok (.aload_n 0, 1) := by decide +kernel
theorem dX10_init_14 : decode cX10_init 14 = .ok (.sipush 16000, 3) := by decide +kernel
theorem dX10_init_17 : decode cX10_init 17 = .ok (.newarray .int, 2) := by decide +kernel
theorem dX10_init_19 : decode cX10_init 19 = .ok (.putfield 13, 3) := by decide +kernel
theorem dX10_init_22 : decode cX10_init 22 = .ok (.aload_n 0, 1) := by decide +kernel
theorem dX10_init_23 : decode cX10_init 23 = .ok (.sipush 1800, 3) := by decide +kernel
theorem dX10_init_26 : decode cX10_init 26 = .ok (.newarray .int, 2) := by decide +kernel
theorem dX10_init_28 : decode cX10_init 28 = .ok (.putfield 16, 3) := by decide +kernel
theorem dX10_init_31 : decode cX10_init 31 = .ok (.aload_n 0, 1) := by decide +kernel
theorem dX10_init_32 : decode cX10_init 32 = .ok (.sipush 1800, 3) := by decide +kernel
theorem dX10_init_35 : decode cX10_init 35 = .ok (.newarray .int, 2) := by decide +kernel
theorem dX10_init_37 : decode cX10_init 37 = .ok (.putfield 19, 3) := by decide +kernel
theorem dX10_init_40 : decode cX10_init 40 = .ok (.aload_n 0, 1) := by decide +kernel
theorem dX10_init_41 : decode cX10_init 41 = .ok (.iconst 3, 1) := by decide +kernel
theorem dX10_init_42 : decode cX10_init 42 = .ok (.newarray .int, 2) := by decide +kernel
theorem dX10_init_44 : decode cX10_init 44 = .ok (.putfield 22, 3) := by decide +kernel
theorem dX10_init_47 : decode cX10_init 47 = .ok (.aload_n 0, 1) := by decide +kernel
theorem dX10_init_48 : decode cX10_init 48 = .ok (.sipush 4000, 3) := by decide +kernel
theorem dX10_init_51 : decode cX10_init 51 = .ok (.newarray .int, 2) := by decide +kernel
theorem dX10_init_53 : decode cX10_init 53 = .ok (.putfield 25, 3) := by decide +kernel
theorem dX10_init_56 : decode cX10_init 56 = .ok (.aload_n 0, 1) := by decide +kernel
theorem dX10_init_57 : decode cX10_init 57 = .ok (.sipush 4000, 3) := by decide +kernel
theorem dX10_init_60 : decode cX10_init 60 = .ok (.newarray .int, 2) := by decide +kernel
theorem dX10_init_62 : decode cX10_init 62 = .ok (.putfield 28, 3) := by decide +kernel
theorem dX10_init_65 : decode cX10_init 65 = .ok (.aload_n 0, 1) := by decide +kernel
theorem dX10_init_66 : decode cX10_init 66 = .ok (.sipush 1200, 3) := by decide +kernel
theorem dX10_init_69 : decode cX10_init 69 = .ok (.newarray .int, 2) := by decide +kernel
theorem dX10_init_71 : decode cX10_init 71 = .ok (.putfield 31, 3) := by decide +kernel
theorem dX10_init_74 : decode cX10_init 74 = .ok (.aload_n 0, 1) := by decide +kernel
theorem dX10_init_75 : decode cX10_init 75 = .ok (.sipush 1200, 3) := by decide +kernel
theorem dX10_init_78 : decode cX10_init 78 = .ok (.newarray .int, 2) := by decide +kernel
theorem dX10_init_80 : decode cX10_init 80 = .ok (.putfield 34, 3) := by decide +kernel
theorem dX10_init_83 : decode cX10_init 83 = .ok (.aload_n 0, 1) := by decide +kernel
theorem dX10_init_84 : decode cX10_init 84 = .ok (.sipush 1200, 3) := by decide +kernel
theorem dX10_init_87 : decode cX10_init 87 = .ok (.newarray .boolean, 2) := by decide +kernel
theorem dX10_init_89 : decode cX10_init 89 = .ok (.putfield 37, 3) := by decide +kernel
theorem dX10_init_92 : decode cX10_init 92 = .ok (.aload_n 0, 1) := by decide +kernel
theorem dX10_init_93 : decode cX10_init 93 = .ok (.sipush 600, 3) := by decide +kernel
theorem dX10_init_96 : decode cX10_init 96 = .ok (.newarray .int, 2) := by decide +kernel
theorem dX10_init_98 : decode cX10_init 98 = .ok (.putfield 41, 3) := by decide +kernel
theorem dX10_init_101 : decode cX10_init 101 = .ok (.aload_n 0, 1) := by decide +kernel
theorem dX10_init_102 : decode cX10_init 102 = .ok (.sipush 1200, 3) := by decide +kernel
theorem dX10_init_105 : decode cX10_init 105 = .ok (.newarray .int, 2) := by decide +kernel
theorem dX10_init_107 : decode cX10_init 107 = .ok (.putfield 44, 3) := by decide +kernel
theorem dX10_init_110 : decode cX10_init 110 = .ok (.aload_n 0, 1) := by decide +kernel
theorem dX10_init_111 : decode cX10_init 111 = .ok (.sipush 1200, 3) := by decide +kernel
theorem dX10_init_114 : decode cX10_init 114 = .ok (.newarray .int, 2) := by decide +kernel
theorem dX10_init_116 : decode cX10_init 116 = .ok (.putfield 47, 3) := by decide +kernel
theorem dX10_init_119 : decode cX10_init 119 = .ok (.return_, 1) := by decide +kernel
theorem dX10_feed_0 : decode cX10_feed 0 = .ok (.aload_n 0, 1) := by decide +kernel
theorem dX10_feed_1 : decode cX10_feed 1 = .ok (.getfield 50, 3) := by decide +kernel
theorem dX10_feed_4 : decode cX10_feed 4 = .ok (.bipush 20, 2) := by decide +kernel
theorem dX10_feed_6 : decode cX10_feed 6 = .ok (.iadd, 1) := by decide +kernel
theorem dX10_feed_7 : decode cX10_feed 7 = .ok (.sipush 4000, 3) := by decide +kernel
theorem dX10_feed_10 : decode cX10_feed 10 = .ok (.if_icmp .le 5, 3) := by decide +kernel
theorem dX10_feed_13 : decode cX10_feed 13 = .ok (.iconst (-1), 1) := by decide +kernel
theorem dX10_feed_14 : decode cX10_feed 14 = .ok (.ireturn, 1) := by decide +kernel
theorem dX10_feed_15 : decode cX10_feed 15 = .ok (.iconst 0, 1) := by decide +kernel
theorem dX10_feed_16 : decode cX10_feed 16 = .ok (.istore 6, 2) := by decide +kernel
theorem dX10_feed_18 : decode cX10_feed 18 = .ok (.iload 6, 2) := by decide +kernel
theorem dX10_feed_20 : decode cX10_feed 20 = .ok (.bipush 20, 2) := by decide +kernel
theorem dX10_feed_22 : decode cX10_feed 22 = .ok (.if_icmp .ge 93, 3) := by decide +kernel
theorem dX10_feed_25 : decode cX10_feed 25 = .ok (.iload 6, 2) := by decide +kernel
theorem dX10_feed_27 : decode cX10_feed 27 = .ok (.iconst 4, 1) := by decide +kernel
theorem dX10_feed_28 : decode cX10_feed 28 = .ok (.if_icmp .ge 7, 3) := by decide +kernel
theorem dX10_feed_31 : decode cX10_feed 31 = .ok (.iload_n 1, 1) := by decide +kernel
theorem dX10_feed_32 : decode cX10_feed 32 = .ok (.goto 39, 3) := by decide +kernel
theorem dX10_feed_35 : decode cX10_feed 35 = .ok (.iload 6, 2) := by decide +kernel
theorem dX10_feed_37 : decode cX10_feed 37 = .ok (.bipush 8, 2) := by decide +kernel
theorem dX10_feed_39 : decode cX10_feed 39 = .ok (.if_icmp .ge 7, 3) := by decide +kernel
theorem dX10_feed_42 : decode cX10_feed 42 = .ok (.iload_n 2, 1) := by decide +kernel
theorem dX10_feed_43 : decode cX10_feed 43 = .ok (.goto 28, 3) := by decide +kernel
theorem dX10_feed_46 : decode cX10_feed 46 = .ok (.iload 6, 2) := by decide +kernel
theorem dX10_feed_48 : decode cX10_feed 48 = .ok (.bipush 12, 2) := by decide +kernel
theorem dX10_feed_50 : decode cX10_feed 50 = .ok (.if_icmp .ge 7, 3) := by decide +kernel
theorem dX10_feed_53 : decode cX10_feed 53 = .ok (.iload_n 3, 1) := by decide +kernel
theorem dX10_feed_54 : decode cX10_feed 54 = .ok (.goto 17, 3) := by decide +kernel
theorem dX10_feed_57 : decode cX10_feed 57 = .ok (.iload 6, 2) := by decide +kernel
theorem dX10_feed_59 : decode cX10_feed 59 = .ok (.bipush 16, 2) := by decide +kernel
theorem dX10_feed_61 : decode cX10_feed 61 = .ok (.if_icmp .ge 8, 3) := by decide +kernel
theorem dX10_feed_64 : decode cX10_feed 64 = .ok (.iload 4, 2) := by decide +kernel
theorem dX10_feed_66 : decode cX10_feed 66 = .ok (.goto 5, 3) := by decide +kernel
theorem dX10_feed_69 : decode cX10_feed 69 = .ok (.iload 5, 2) := by decide +kernel
theorem dX10_feed_71 : decode cX10_feed 71 = .ok (.istore 7, 2) := by decide +kernel
theorem dX10_feed_73 : decode cX10_feed 73 = .ok (.aload_n 0, 1) := by decide +kernel
theorem dX10_feed_74 : decode cX10_feed 74 = .ok (.getfield 7, 3) := by decide +kernel
theorem dX10_feed_77 : decode cX10_feed 77 = .ok (.aload_n 0, 1) := by decide +kernel
theorem dX10_feed_78 : decode cX10_feed 78 = .ok (.getfield 50, 3) := by decide +kernel
theorem dX10_feed_81 : decode cX10_feed 81 = .ok (.iload 7, 2) := by decide +kernel
theorem dX10_feed_83 : decode cX10_feed 83 = .ok (.bipush 24, 2) := by decide +kernel
theorem dX10_feed_85 : decode cX10_feed 85 = .ok (.bipush 8, 2) := by decide +kernel
theorem dX10_feed_87 : decode cX10_feed 87 = .ok (.iload 6, 2) := by decide +kernel
theorem dX10_feed_89 : decode cX10_feed 89 = .ok (.iconst 4, 1) := by decide +kernel
theorem dX10_feed_90 : decode cX10_feed 90 = .ok (.irem, 1) := by decide +kernel
theorem dX10_feed_91 : decode cX10_feed 91 = .ok (.imul, 1) := by decide +kernel
theorem dX10_feed_92 : decode cX10_feed 92 = .ok (.isub, 1) := by decide +kernel
theorem dX10_feed_93 : decode cX10_feed 93 = .ok (.ishr, 1) := by decide +kernel
theorem dX10_feed_94 : decode cX10_feed 94 = .ok (.sipush 255, 3) := by decide +kernel
theorem dX10_feed_97 : decode cX10_feed 97 = .ok (.iand, 1) := by decide +kernel
theorem dX10_feed_98 : decode cX10_feed 98 = .ok (.iastore, 1) := by decide +kernel
theorem dX10_feed_99 : decode cX10_feed 99 = .ok (.aload_n 0, 1) := by decide +kernel
theorem dX10_feed_100 : decode cX10_feed 100 = .ok (.dup, 1) := by decide +kernel
theorem dX10_feed_101 : decode cX10_feed 101 = .ok (.getfield 50, 3) := by decide +kernel
theorem dX10_feed_104 : decode cX10_feed 104 = .ok (.iconst 1, 1) := by decide +kernel
theorem dX10_feed_105 : decode cX10_feed 105 = .ok (.iadd, 1) := by decide +kernel
theorem dX10_feed_106 : decode cX10_feed 106 = .ok (.putfield 50, 3) := by decide +kernel
theorem dX10_feed_109 : decode cX10_feed 109 = .ok (.iinc 6 1, 3) := by decide +kernel
theorem dX10_feed_112 : decode cX10_feed 112 = .ok (.goto (-94), 3) := by decide +kernel
theorem dX10_feed_115 : decode cX10_feed 115 = .ok (.aload_n 0, 1) := by decide +kernel
theorem dX10_feed_116 : decode cX10_feed 116 = .ok (.getfield 50, 3) := by decide +kernel
theorem dX10_feed_119 : decode cX10_feed 119 = .ok (.ireturn, 1) := by decide +kernel
theorem dX10_fill_0 : decode cX10_fill 0 = .ok (.iload_n 2, 1) := by decide +kernel
theorem dX10_fill_1 : decode cX10_fill 1 = .ok (.ifCond .lt 26, 3) := by decide +kernel
theorem dX10_fill_4 : decode cX10_fill 4 = .ok (.iload_n 2, 1) := by decide +kernel
theorem dX10_fill_5 : decode cX10_fill 5 = .ok (.sipush 4000, 3) := by decide +kernel
theorem dX10_fill_8 : decode cX10_fill 8 = .ok (.aload_n 0, 1) := by decide +kernel
theorem dX10_fill_9 : decode cX10_fill 9 = .ok (.getfield 50, 3) := by decide +kernel
theorem dX10_fill_12 : decode cX10_fill 12 = .ok (.isub, 1) := by decide +kernel
theorem dX10_fill_13 : decode cX10_fill 13 = .ok (.if_icmp .gt 14, 3) := by decide +kernel
theorem dX10_fill_16 : decode cX10_fill 16 = .ok (.iload_n 1, 1) := by decide +kernel
theorem dX10_fill_17 : decode cX10_fill 17 = .ok (.ifCond .lt 10, 3) := by decide +kernel
theorem dX10_fill_20 : decode cX10_fill 20 = .ok (.iload_n 1, 1) := by decide +kernel
theorem dX10_fill_21 : decode cX10_fill 21 = .ok (.sipush 255, 3) := by decide +kernel
theorem dX10_fill_24 : decode cX10_fill 24 = .ok (.if_icmp .le 5, 3) := by decide +kernel
theorem dX10_fill_27 : decode cX10_fill 27 = .ok (.iconst (-1), 1) := by decide +kernel
theorem dX10_fill_28 : decode cX10_fill 28 = .ok (.ireturn, 1) := by decide +kernel
theorem dX10_fill_29 : decode cX10_fill 29 = .ok (.iconst 0, 1) := by decide +kernel
theorem dX10_fill_30 : decode cX10_fill 30 = .ok (.istore_n 3, 1) := by decide +kernel
theorem dX10_fill_31 : decode cX10_fill 31 = .ok (.iload_n 3, 1) := by decide +kernel
theorem dX10_fill_32 : decode cX10_fill 32 = .ok (.iload_n 2, 1) := by decide +kernel
theorem dX10_fill_33 : decode cX10_fill 33 = .ok (.if_icmp .ge 29, 3) := by decide +kernel
theorem dX10_fill_36 : decode cX10_fill 36 = .ok (.aload_n 0, 1) := by decide +kernel
theorem dX10_fill_37 : decode cX10_fill 37 = .ok (.getfield 7, 3) := by decide +kernel
theorem dX10_fill_40 : decode cX10_fill 40 = .ok (.aload_n 0, 1) := by decide +kernel
theorem dX10_fill_41 : decode cX10_fill 41 = .ok (.getfield 50, 3) := by decide +kernel
theorem dX10_fill_44 : decode cX10_fill 44 = .ok (.iload_n 1, 1) := by decide +kernel
theorem dX10_fill_45 : decode cX10_fill 45 = .ok (.iastore, 1) := by decide +kernel
theorem dX10_fill_46 : decode cX10_fill 46 = .ok (.aload_n 0, 1) := by decide +kernel
theorem dX10_fill_47 : decode cX10_fill 47 = .ok (.dup, 1) := by decide +kernel
theorem dX10_fill_48 : decode cX10_fill 48 = .ok (.getfield 50, 3) := by decide +kernel
theorem dX10_fill_51 : decode cX10_fill 51 = .ok (.iconst 1, 1) := by decide +kernel
theorem dX10_fill_52 : decode cX10_fill 52 = .ok (.iadd, 1) := by decide +kernel
theorem dX10_fill_53 : decode cX10_fill 53 = .ok (.putfield 50, 3) := by decide +kernel
theorem dX10_fill_56 : decode cX10_fill 56 = .ok (.iinc 3 1, 3) := by decide +kernel
theorem dX10_fill_59 : decode cX10_fill 59 = .ok (.goto (-28), 3) := by decide +kernel
theorem dX10_fill_62 : decode cX10_fill 62 = .ok (.aload_n 0, 1) := by decide +kernel
theorem dX10_fill_63 : decode cX10_fill 63 = .ok (.getfield 50, 3) := by decide +kernel
theorem dX10_fill_66 : decode cX10_fill 66 = .ok (.ireturn, 1) := by decide +kernel
theorem dX10_peek_0 : decode cX10_peek 0 = .ok (.iload_n 1, 1) := by decide +kernel
theorem dX10_peek_1 : decode cX10_peek 1 = .ok (.ifCond .lt 11, 3) := by decide +kernel
theorem dX10_peek_4 : decode cX10_peek 4 = .ok (.iload_n 1, 1) := by decide +kernel
theorem dX10_peek_5 : decode cX10_peek 5 = .ok (.aload_n 0, 1) := by decide +kernel
theorem dX10_peek_6 : decode cX10_peek 6 = .ok (.getfield 50, 3) := by decide +kernel
theorem dX10_peek_9 : decode cX10_peek 9 = .ok (.if_icmp .lt 7, 3) := by decide +kernel
theorem dX10_peek_12 : decode cX10_peek 12 = .ok (.iconst (-1), 1) := by decide +kernel
theorem dX10_peek_13 : decode cX10_peek 13 = .ok (.goto 9, 3) := by decide +kernel
theorem dX10_peek_16 : decode cX10_peek 16 = .ok (.aload_n 0, 1) := by decide +kernel
theorem dX10_peek_17 : decode cX10_peek 17 = .ok (.getfield 7, 3) := by decide +kernel
theorem dX10_peek_20 : decode cX10_peek 20 = .ok (.iload_n 1, 1) := by decide +kernel
theorem dX10_peek_21 : decode cX10_peek 21 = .ok (.iaload, 1) := by decide +kernel
theorem dX10_peek_22 : decode cX10_peek 22 = .ok (.ireturn, 1) := by decide +kernel
theorem dX10_poke_0 : decode cX10_poke 0 = .ok (.iload_n 1, 1) := by decide +kernel
theorem dX10_poke_1 : decode cX10_poke 1 = .ok (.ifCond .lt 22, 3) := by decide +kernel
theorem dX10_poke_4 : decode cX10_poke 4 = .ok (.iload_n 1, 1) := by decide +kernel
theorem dX10_poke_5 : decode cX10_poke 5 = .ok (.aload_n 0, 1) := by decide +kernel
theorem dX10_poke_6 : decode cX10_poke 6 = .ok (.getfield 50, 3) := by decide +kernel
theorem dX10_poke_9 : decode cX10_poke 9 = .ok (.if_icmp .ge 14, 3) := by decide +kernel
theorem dX10_poke_12 : decode cX10_poke 12 = .ok (.iload_n 2, 1) := by decide +kernel
theorem dX10_poke_13 : decode cX10_poke 13 = .ok (.ifCond .lt 10, 3) := by decide +kernel
theorem dX10_poke_16 : decode cX10_poke 16 = .ok (.iload_n 2, 1) := by decide +kernel
theorem dX10_poke_17 : decode cX10_poke 17 = .ok (.sipush 255, 3) := by decide +kernel
theorem dX10_poke_20 : decode cX10_poke 20 = .ok (.if_icmp .le 5, 3) := by decide +kernel
theorem dX10_poke_23 : decode cX10_poke 23 = .ok (.iconst 0, 1) := by decide +kernel
theorem dX10_poke_24 : decode cX10_poke 24 = .ok (.ireturn, 1) := by decide +kernel
theorem dX10_poke_25 : decode cX10_poke 25 = .ok (.aload_n 0, 1) := by decide +kernel
theorem dX10_poke_26 : decode cX10_poke 26 = .ok (.getfield 7, 3) := by decide +kernel
theorem dX10_poke_29 : decode cX10_poke 29 = .ok (.iload_n 1, 1) := by decide +kernel
theorem dX10_poke_30 : decode cX10_poke 30 = .ok (.iload_n 2, 1) := by decide +kernel
theorem dX10_poke_31 : decode cX10_poke 31 = .ok (.iastore, 1) := by decide +kernel
theorem dX10_poke_32 : decode cX10_poke 32 = .ok (.iconst 1, 1) := by decide +kernel
theorem dX10_poke_33 : decode cX10_poke 33 = .ok (.ireturn, 1) := by decide +kernel
theorem dX10_clear_0 : decode cX10_clear 0 = .ok (.aload_n 0, 1) := by decide +kernel
theorem dX10_clear_1 : decode cX10_clear 1 = .ok (.iconst 0, 1) := by decide +kernel
theorem dX10_clear_2 : decode cX10_clear 2 = .ok (.putfield 50, 3) := by decide +kernel
theorem dX10_clear_5 : decode cX10_clear 5 = .ok (.return_, 1) := by decide +kernel
theorem dX10_begin_0 : decode cX10_begin 0 = .ok (.aload_n 0, 1) := by decide +kernel
theorem dX10_begin_1 : decode cX10_begin 1 = .ok (.iconst 0, 1) := by decide +kernel
theorem dX10_begin_2 : decode cX10_begin 2 = .ok (.putfield 54, 3) := by decide +kernel
theorem dX10_begin_5 : decode cX10_begin 5 = .ok (.aload_n 0, 1) := by decide +kernel
theorem dX10_begin_6 : decode cX10_begin 6 = .ok (.iconst 1, 1) := by decide +kernel
theorem dX10_begin_7 : decode cX10_begin 7 = .ok (.putfield 57, 3) := by decide +kernel
theorem dX10_begin_10 : decode cX10_begin 10 = .ok (.aload_n 0, 1) := by decide +kernel
theorem dX10_begin_11 : decode cX10_begin 11 = .ok (.iconst 0, 1) := by decide +kernel
theorem dX10_begin_12 : decode cX10_begin 12 = .ok (.putfield 61, 3) := by decide +kernel
theorem dX10_begin_15 : decode cX10_begin 15 = .ok (.aload_n 0, 1) := by decide +kernel
theorem dX10_begin_16 : decode cX10_begin 16 = .ok (.iconst 0, 1) := by decide +kernel
theorem dX10_begin_17 : decode cX10_begin 17 = .ok (.putfield 64, 3) := by decide +kernel
theorem dX10_begin_20 : decode cX10_begin 20 = .ok (.aload_n 0, 1) := by decide +kernel
theorem dX10_begin_21 : decode cX10_begin 21 = .ok (.iconst 0, 1) := by decide +kernel
theorem dX10_begin_22 : decode cX10_begin 22 = .ok (.putfield 67, 3) := by decide +kernel
theorem dX10_begin_25 : decode cX10_begin 25 = .ok (.aload_n 0, 1) := by decide +kernel
theorem dX10_begin_26 : decode cX10_begin 26 = .ok (.iconst 0, 1) := by decide +kernel
theorem dX10_begin_27 : decode cX10_begin 27 = .ok (.putfield 70, 3) := by decide +kernel
theorem dX10_begin_30 : decode cX10_begin 30 = .ok (.aload_n 0, 1) := by decide +kernel
theorem dX10_begin_31 : decode cX10_begin 31 = .ok (.iconst 0, 1) := by decide +kernel
theorem dX10_begin_32 : decode cX10_begin 32 = .ok (.putfield 73, 3) := by decide +kernel
theorem dX10_begin_35 : decode cX10_begin 35 = .ok (.aload_n 0, 1) := by decide +kernel
theorem dX10_begin_36 : decode cX10_begin 36 = .ok (.invokevirtual 76, 3) := by decide +kernel
theorem dX10_begin_39 : decode cX10_begin 39 = .ok (.return_, 1) := by decide +kernel
theorem dX10_clearTrees_0 : decode cX10_clearTrees 0 = .ok (.iconst 0, 1) := by decide +kernel
theorem dX10_clearTrees_1 : decode cX10_clearTrees 1 = .ok (.istore_n 1, 1) := by decide +kernel
theorem dX10_clearTrees_2 : decode cX10_clearTrees 2 = .ok (.iload_n 1, 1) := by decide +kernel
theorem dX10_clearTrees_3 : decode cX10_clearTrees 3 = .ok (.sipush 1800, 3) := by decide +kernel
theorem dX10_clearTrees_6 : decode cX10_clearTrees 6 = .ok (.if_icmp .ge 16, 3) := by decide +kernel
theorem dX10_clearTrees_9 : decode cX10_clearTrees 9 = .ok (.aload_n 0, 1) := by decide +kernel
theorem dX10_clearTrees_10 : decode cX10_clearTrees 10 = .ok (.getfield 16, 3) := by decide +kernel
theorem dX10_clearTrees_13 : decode cX10_clearTrees 13 = .ok (.iload_n 1, 1) := by decide +kernel
theorem dX10_clearTrees_14 : decode cX10_clearTrees 14 = .ok (.iconst 0, 1) := by decide +kernel
theorem dX10_clearTrees_15 : decode cX10_clearTrees 15 = .ok (.iastore, 1) := by decide +kernel
theorem dX10_clearTrees_16 : decode cX10_clearTrees 16 = .ok (.iinc 1 1, 3) := by decide +kernel
theorem dX10_clearTrees_19 : decode cX10_clearTrees 19 = .ok (.goto (-17), 3) := by decide +kernel
theorem dX10_clearTrees_22 : decode cX10_clearTrees 22 = .ok (.iconst 0, 1) := by decide +kernel
theorem dX10_clearTrees_23 : decode cX10_clearTrees 23 = .ok (.istore_n 1, 1) := by decide +kernel
theorem dX10_clearTrees_24 : decode cX10_clearTrees 24 = .ok (.iload_n 1, 1) := by decide +kernel
theorem dX10_clearTrees_25 : decode cX10_clearTrees 25 = .ok (.iconst 3, 1) := by decide +kernel
theorem dX10_clearTrees_26 : decode cX10_clearTrees 26 = .ok (.if_icmp .ge 16, 3) := by decide +kernel
theorem dX10_clearTrees_29 : decode cX10_clearTrees 29 = .ok (.aload_n 0, 1) := by decide +kernel
theorem dX10_clearTrees_30 : decode cX10_clearTrees 30 = .ok (.getfield 22, 3) := by decide +kernel
theorem dX10_clearTrees_33 : decode cX10_clearTrees 33 = .ok (.iload_n 1, 1) := by decide +kernel
theorem dX10_clearTrees_34 : decode cX10_clearTrees 34 = .ok (.iconst (-1), 1) := by decide +kernel
theorem dX10_clearTrees_35 : decode cX10_clearTrees 35 = .ok (.iastore, 1) := by decide +kernel
theorem dX10_clearTrees_36 : decode cX10_clearTrees 36 = .ok (.iinc 1 1, 3) := by decide +kernel
theorem dX10_clearTrees_39 : decode cX10_clearTrees 39 = .ok (.goto (-15), 3) := by decide +kernel
theorem dX10_clearTrees_42 : decode cX10_clearTrees 42 = .ok (.return_, 1) := by decide +kernel
theorem dX10_symbols_0 : decode cX10_symbols 0 = .ok (.iload_n 0, 1) := by decide +kernel
theorem dX10_symbols_1 : decode cX10_symbols 1 = .ok (.ifCond .ne 8, 3) := by decide +kernel
theorem dX10_symbols_4 : decode cX10_symbols 4 = .ok (.bipush 19, 2) := by decide +kernel
theorem dX10_symbols_6 : decode cX10_symbols 6 = .ok (.goto 16, 3) := by decide +kernel
theorem dX10_symbols_9 : decode cX10_symbols 9 = .ok (.iload_n 0, 1) := by decide +kernel
theorem dX10_symbols_10 : decode cX10_symbols 10 = .ok (.iconst 1, 1) := by decide +kernel
theorem dX10_symbols_11 : decode cX10_symbols 11 = .ok (.if_icmp .ne 9, 3) := by decide +kernel
theorem dX10_symbols_14 : decode cX10_symbols 14 = .ok (.sipush 510, 3) := by decide +kernel
theorem dX10_symbols_17 : decode cX10_symbols 17 = .ok (.goto 5, 3) := by decide +kernel
theorem dX10_symbols_20 : decode cX10_symbols 20 = .ok (.bipush 14, 2) := by decide +kernel
theorem dX10_symbols_22 : decode cX10_symbols 22 = .ok (.ireturn, 1) := by decide +kernel
theorem dX10_number_0 : decode cX10_number 0 = .ok (.iconst 0, 1) := by decide +kernel
theorem dX10_number_1 : decode cX10_number 1 = .ok (.istore_n 2, 1) := by decide +kernel
theorem dX10_number_2 : decode cX10_number 2 = .ok (.iconst 1, 1) := by decide +kernel
theorem dX10_number_3 : decode cX10_number 3 = .ok (.istore_n 3, 1) := by decide +kernel
theorem dX10_number_4 : decode cX10_number 4 = .ok (.iload_n 3, 1) := by decide +kernel
theorem dX10_number_5 : decode cX10_number 5 = .ok (.bipush 16, 2) := by decide +kernel
theorem dX10_number_7 : decode cX10_number 7 = .ok (.if_icmp .gt 65, 3) := by decide +kernel
theorem dX10_number_10 : decode cX10_number 10 = .ok (.iload_n 2, 1) := by decide +kernel
theorem dX10_number_11 : decode cX10_number 11 = .ok (.iconst 1, 1) := by decide +kernel
theorem dX10_number_12 : decode cX10_number 12 = .ok (.ishl, 1) := by decide +kernel
theorem dX10_number_13 : decode cX10_number 13 = .ok (.istore_n 2, 1) := by decide +kernel
theorem dX10_number_14 : decode cX10_number 14 = .ok (.iconst 0, 1) := by decide +kernel
theorem dX10_number_15 : decode cX10_number 15 = .ok (.istore 4, 2) := by decide +kernel
theorem dX10_number_17 : decode cX10_number 17 = .ok (.iload 4, 2) := by decide +kernel
theorem dX10_number_19 : decode cX10_number 19 = .ok (.iload_n 1, 1) := by decide +kernel
theorem dX10_number_20 : decode cX10_number 20 = .ok (.invokestatic 79, 3) := by decide +kernel
theorem dX10_number_23 : decode cX10_number 23 = .ok (.if_icmp .ge 43, 3) := by decide +kernel
theorem dX10_number_26 : decode cX10_number 26 = .ok (.aload_n 0, 1) := by decide +kernel
theorem dX10_number_27 : decode cX10_number 27 = .ok (.getfield 16, 3) := by decide +kernel
theorem dX10_number_30 : decode cX10_number 30 = .ok (.sipush 600, 3) := by decide +kernel
theorem dX10_number_33 : decode cX10_number 33 = .ok (.iload_n 1, 1) := by decide +kernel
theorem dX10_number_34 : decode cX10_number 34 = .ok (.imul, 1) := by decide +kernel
theorem dX10_number_35 : decode cX10_number 35 = .ok (.iload 4, 2) := by decide +kernel
theorem dX10_number_37 : decode cX10_number 37 = .ok (.iadd, 1) := by decide +kernel
theorem dX10_number_38 : decode cX10_number 38 = .ok (.iaload, 1) := by decide +kernel
theorem dX10_number_39 : decode cX10_number 39 = .ok (.iload_n 3, 1) := by decide +kernel
theorem dX10_number_40 : decode cX10_number 40 = .ok (.if_icmp .ne 20, 3) := by decide +kernel
theorem dX10_number_43 : decode cX10_number 43 = .ok (.aload_n 0, 1) := by decide +kernel
theorem dX10_number_44 : decode cX10_number 44 = .ok (.getfield 19, 3) := by decide +kernel
theorem dX10_number_47 : decode cX10_number 47 = .ok (.sipush 600, 3) := by decide +kernel
theorem dX10_number_50 : decode cX10_number 50 = .ok (.iload_n 1, 1) := by decide +kernel
theorem dX10_number_51 : decode cX10_number 51 = .ok (.imul, 1) := by decide +kernel
theorem dX10_number_52 : decode cX10_number 52 = .ok (.iload 4, 2) := by decide +kernel
theorem dX10_number_54 : decode cX10_number 54 = .ok (.iadd, 1) := by decide +kernel
theorem dX10_number_55 : decode cX10_number 55 = .ok (.iload_n 2, 1) := by decide +kernel
theorem dX10_number_56 : decode cX10_number 56 = .ok (.iastore, 1) := by decide +kernel
theorem dX10_number_57 : decode cX10_number 57 = .ok (.iinc 2 1, 3) := by decide +kernel
theorem dX10_number_60 : decode cX10_number 60 = .ok (.iinc 4 1, 3) := by decide +kernel
theorem dX10_number_63 : decode cX10_number 63 = .ok (.goto (-46), 3) := by decide +kernel
theorem dX10_number_66 : decode cX10_number 66 = .ok (.iinc 3 1, 3) := by decide +kernel
theorem dX10_number_69 : decode cX10_number 69 = .ok (.goto (-65), 3) := by decide +kernel
theorem dX10_number_72 : decode cX10_number 72 = .ok (.return_, 1) := by decide +kernel
theorem dX10_fails_0 : decode cX10_fails 0 = .ok (.aload_n 0, 1) := by decide +kernel
theorem dX10_fails_1 : decode cX10_fails 1 = .ok (.aload_n 0, 1) := by decide +kernel
theorem dX10_fails_2 : decode cX10_fails 2 = .ok (.getfield 73, 3) := by decide +kernel
theorem dX10_fails_5 : decode cX10_fails 5 = .ok (.ifCond .ne 7, 3) := by decide +kernel
theorem dX10_fails_8 : decode cX10_fails 8 = .ok (.iload_n 1, 1) := by decide +kernel
theorem dX10_fails_9 : decode cX10_fails 9 = .ok (.goto 7, 3) := by decide +kernel
theorem dX10_fails_12 : decode cX10_fails 12 = .ok (.aload_n 0, 1) := by decide +kernel
theorem dX10_fails_13 : decode cX10_fails 13 = .ok (.getfield 73, 3) := by decide +kernel
theorem dX10_fails_16 : decode cX10_fails 16 = .ok (.putfield 73, 3) := by decide +kernel
theorem dX10_fails_19 : decode cX10_fails 19 = .ok (.return_, 1) := by decide +kernel
theorem dX10_take_0 : decode cX10_take 0 = .ok (.iconst 0, 1) := by decide +kernel
theorem dX10_take_1 : decode cX10_take 1 = .ok (.istore_n 2, 1) := by decide +kernel
theorem dX10_take_2 : decode cX10_take 2 = .ok (.iconst 0, 1) := by decide +kernel
theorem dX10_take_3 : decode cX10_take 3 = .ok (.istore_n 3, 1) := by decide +kernel
theorem dX10_take_4 : decode cX10_take 4 = .ok (.iload_n 3, 1) := by decide +kernel
theorem dX10_take_5 : decode cX10_take 5 = .ok (.iload_n 1, 1) := by decide +kernel
theorem dX10_take_6 : decode cX10_take 6 = .ok (.if_icmp .ge 75, 3) := by decide +kernel
theorem dX10_take_9 : decode cX10_take 9 = .ok (.aload_n 0, 1) := by decide +kernel
theorem dX10_take_10 : decode cX10_take 10 = .ok (.getfield 73, 3) := by decide +kernel
theorem dX10_take_13 : decode cX10_take 13 = .ok (.ifCond .ne 68, 3) := by decide +kernel
theorem dX10_take_16 : decode cX10_take 16 = .ok (.aload_n 0, 1) := by decide +kernel
theorem dX10_take_17 : decode cX10_take 17 = .ok (.getfield 70, 3) := by decide +kernel
theorem dX10_take_20 : decode cX10_take 20 = .ok (.aload_n 0, 1) := by decide +kernel
theorem dX10_take_21 : decode cX10_take 21 = .ok (.getfield 83, 3) := by decide +kernel
theorem dX10_take_24 : decode cX10_take 24 = .ok (.if_icmp .ne 11, 3) := by decide +kernel
theorem dX10_take_27 : decode cX10_take 27 = .ok (.aload_n 0, 1) := by decide +kernel
theorem dX10_take_28 : decode cX10_take 28 = .ok (.iconst 1, 1) := by decide +kernel
theorem dX10_take_29 : decode cX10_take 29 = .ok (.invokevirtual 86, 3) := by decide +kernel
theorem dX10_take_32 : decode cX10_take 32 = .ok (.goto 43, 3) := by decide +kernel
theorem dX10_take_35 : decode cX10_take 35 = .ok (.iload_n 2, 1) := by decide +kernel
theorem dX10_take_36 : decode cX10_take 36 = .ok (.iconst 1, 1) := by decide +kernel
theorem dX10_take_37 : decode cX10_take 37 = .ok (.ishl, 1) := by decide +kernel
theorem dX10_take_38 : decode cX10_take 38 = .ok (.aload_n 0, 1) := by decide +kernel
theorem dX10_take_39 : decode cX10_take 39 = .ok (.getfield 7, 3) := by decide +kernel
theorem dX10_take_42 : decode cX10_take 42 = .ok (.aload_n 0, 1) := by decide +kernel
theorem dX10_take_43 : decode cX10_take 43 = .ok (.getfield 70, 3) := by decide +kernel
theorem dX10_take_46 : decode cX10_take 46 = .ok (.bipush 8, 2) := by decide +kernel
theorem dX10_take_48 : decode cX10_take 48 = .ok (.idiv, 1) := by decide +kernel
theorem dX10_take_49 : decode cX10_take 49 = .ok (.iaload, 1) := by decide +kernel
theorem dX10_take_50 : decode cX10_take 50 = .ok (.bipush 7, 2) := by decide +kernel
theorem dX10_take_52 : decode cX10_take 52 = .ok (.aload_n 0, 1) := by decide +kernel
theorem dX10_take_53 : decode cX10_take 53 = .ok (.getfield 70, 3) := by decide +kernel
theorem dX10_take_56 : decode cX10_take 56 = .ok (.bipush 8, 2) := by decide +kernel
theorem dX10_take_58 : decode cX10_take 58 = .ok (.irem, 1) := by decide +kernel
theorem dX10_take_59 : decode cX10_take 59 = .ok (.isub, 1) := by decide +kernel
theorem dX10_take_60 : decode cX10_take 60 = .ok (.ishr, 1) := by decide +kernel
theorem dX10_take_61 : decode cX10_take 61 = .ok (.iconst 1, 1) := by decide +kernel
theorem dX10_take_62 : decode cX10_take 62 = .ok (.iand, 1) := by decide +kernel
theorem dX10_take_63 : decode cX10_take 63 = .ok (.ior, 1) := by decide +kernel
theorem dX10_take_64 : decode cX10_take 64 = .ok (.istore_n 2, 1) := by decide +kernel
theorem dX10_take_65 : decode cX10_take 65 = .ok (.aload_n 0, 1) := by decide +kernel
theorem dX10_take_66 : decode cX10_take 66 = .ok (.dup, 1) := by decide +kernel
theorem dX10_take_67 : decode cX10_take 67 = .ok (.getfield 70, 3) := by decide +kernel
theorem dX10_take_70 : decode cX10_take 70 = .ok (.iconst 1, 1) := by decide +kernel
theorem dX10_take_71 : decode cX10_take 71 = .ok (.iadd, 1) := by decide +kernel
theorem dX10_take_72 : decode cX10_take 72 = .ok (.putfield 70, 3) := by decide +kernel
theorem dX10_take_75 : decode cX10_take 75 = .ok (.iinc 3 1, 3) := by decide +kernel
theorem dX10_take_78 : decode cX10_take 78 = .ok (.goto (-74), 3) := by decide +kernel
theorem dX10_take_81 : decode cX10_take 81 = .ok (.iload_n 2, 1) := by decide +kernel
theorem dX10_take_82 : decode cX10_take 82 = .ok (.ireturn, 1) := by decide +kernel
theorem dX10_symbol_0 : decode cX10_symbol 0 = .ok (.aload_n 0, 1) := by decide +kernel
theorem dX10_symbol_1 : decode cX10_symbol 1 = .ok (.getfield 22, 3) := by decide +kernel
theorem dX10_symbol_4 : decode cX10_symbol 4 = .ok (.iload_n 1, 1) := by decide +kernel
theorem dX10_symbol_5 : decode cX10_symbol 5 = .ok (.iaload, 1) := by decide +kernel
theorem dX10_symbol_6 : decode cX10_symbol 6 = .ok (.iconst (-1), 1) := by decide +kernel
theorem dX10_symbol_7 : decode cX10_symbol 7 = .ok (.if_icmp .eq 10, 3) := by decide +kernel
theorem dX10_symbol_10 : decode cX10_symbol 10 = .ok (.aload_n 0, 1) := by decide +kernel
theorem dX10_symbol_11 : decode cX10_symbol 11 = .ok (.getfield 22, 3) := by decide +kernel
theorem dX10_symbol_14 : decode cX10_symbol 14 = .ok (.iload_n 1, 1) := by decide +kernel
theorem dX10_symbol_15 : decode cX10_symbol 15 = .ok (.iaload, 1) := by decide +kernel
theorem dX10_symbol_16 : decode cX10_symbol 16 = .ok (.ireturn, 1) := by decide +kernel
theorem dX10_symbol_17 : decode cX10_symbol 17 = .ok (.iconst 0, 1) := by decide +kernel
theorem dX10_symbol_18 : decode cX10_symbol 18 = .ok (.istore_n 2, 1) := by decide +kernel
theorem dX10_symbol_19 : decode cX10_symbol 19 = .ok (.iconst 1, 1) := by decide +kernel
theorem dX10_symbol_20 : decode cX10_symbol 20 = .ok (.istore_n 3, 1) := by decide +kernel
theorem dX10_symbol_21 : decode cX10_symbol 21 = .ok (.iload_n 3, 1) := by decide +kernel
theorem dX10_symbol_22 : decode cX10_symbol 22 = .ok (.bipush 16, 2) := by decide +kernel
theorem dX10_symbol_24 : decode cX10_symbol 24 = .ok (.if_icmp .gt 88, 3) := by decide +kernel
theorem dX10_symbol_27 : decode cX10_symbol 27 = .ok (.aload_n 0, 1) := by decide +kernel
theorem dX10_symbol_28 : decode cX10_symbol 28 = .ok (.getfield 73, 3) := by decide +kernel
theorem dX10_symbol_31 : decode cX10_symbol 31 = .ok (.ifCond .ne 81, 3) := by decide +kernel
theorem dX10_symbol_34 : decode cX10_symbol 34 = .ok (.iload_n 2, 1) := by decide +kernel
theorem dX10_symbol_35 : decode cX10_symbol 35 = .ok (.iconst 1, 1) := by decide +kernel
theorem dX10_symbol_36 : decode cX10_symbol 36 = .ok (.ishl, 1) := by decide +kernel
theorem dX10_symbol_37 : decode cX10_symbol 37 = .ok (.aload_n 0, 1) := by decide +kernel
theorem dX10_symbol_38 : decode cX10_symbol 38 = .ok (.iconst 1, 1) := by decide +kernel
theorem dX10_symbol_39 : decode cX10_symbol 39 = .ok (.invokevirtual 90, 3) := by decide +kernel
theorem dX10_symbol_42 : decode cX10_symbol 42 = .ok (.ior, 1) := by decide +kernel
theorem dX10_symbol_43 : decode cX10_symbol 43 = .ok (.istore_n 2, 1) := by decide +kernel
theorem dX10_symbol_44 : decode cX10_symbol 44 = .ok (.iconst 0, 1) := by decide +kernel
theorem dX10_symbol_45 : decode cX10_symbol 45 = .ok (.istore 4, 2) := by decide +kernel
theorem dX10_symbol_47 : decode cX10_symbol 47 = .ok (.iload 4, 2) := by decide +kernel
theorem dX10_symbol_49 : decode cX10_symbol 49 = .ok (.iload_n 1, 1) := by decide +kernel
theorem dX10_symbol_50 : decode cX10_symbol 50 = .ok (.invokestatic 79, 3) := by decide +kernel
theorem dX10_symbol_53 : decode cX10_symbol 53 = .ok (.if_icmp .ge 53, 3) := by decide +kernel
theorem dX10_symbol_56 : decode cX10_symbol 56 = .ok (.aload_n 0, 1) := by decide +kernel
theorem dX10_symbol_57 : decode cX10_symbol 57 = .ok (.getfield 73, 3) := by decide +kernel
theorem dX10_symbol_60 : decode cX10_symbol 60 = .ok (.ifCond .ne 46, 3) := by decide +kernel
theorem dX10_symbol_63 : decode cX10_symbol 63 = .ok (.aload_n 0, 1) := by decide +kernel
theorem dX10_symbol_64 : decode cX10_symbol 64 = .ok (.getfield 16, 3) := by decide +kernel
theorem dX10_symbol_67 : decode cX10_symbol 67 = .ok (.sipush 600, 3) := by decide +kernel
theorem dX10_symbol_70 : decode cX10_symbol 70 = .ok (.iload_n 1, 1) := by decide +kernel
theorem dX10_symbol_71 : decode cX10_symbol 71 = .ok (.imul, 1) := by decide +kernel
theorem dX10_symbol_72 : decode cX10_symbol 72 = .ok (.iload 4, 2) := by decide +kernel
theorem dX10_symbol_74 : decode cX10_symbol 74 = .ok (.iadd, 1) := by decide +kernel
theorem dX10_symbol_75 : decode cX10_symbol 75 = .ok (.iaload, 1) := by decide +kernel
theorem dX10_symbol_76 : decode cX10_symbol 76 = .ok (.iload_n 3, 1) := by decide +kernel
theorem dX10_symbol_77 : decode cX10_symbol 77 = .ok (.if_icmp .ne 23, 3) := by decide +kernel
theorem dX10_symbol_80 : decode cX10_symbol 80 = .ok (.aload_n 0, 1) := by decide +kernel
theorem dX10_symbol_81 : decode cX10_symbol 81 = .ok (.getfield 19, 3) := by decide +kernel
theorem dX10_symbol_84 : decode cX10_symbol 84 = .ok (.sipush 600, 3) := by decide +kernel
theorem dX10_symbol_87 : decode cX10_symbol 87 = .ok (.iload_n 1, 1) := by decide +kernel
theorem dX10_symbol_88 : decode cX10_symbol 88 = .ok (.imul, 1) := by decide +kernel
theorem dX10_symbol_89 : decode cX10_symbol 89 = .ok (.iload 4, 2) := by decide +kernel
theorem dX10_symbol_91 : decode cX10_symbol 91 = .ok (.iadd, 1) := by decide +kernel
theorem dX10_symbol_92 : decode cX10_symbol 92 = .ok (.iaload, 1) := by decide +kernel
theorem dX10_symbol_93 : decode cX10_symbol 93 = .ok (.iload_n 2, 1) := by decide +kernel
theorem dX10_symbol_94 : decode cX10_symbol 94 = .ok (.if_icmp .ne 6, 3) := by decide +kernel
theorem dX10_symbol_97 : decode cX10_symbol 97 = .ok (.iload 4, 2) := by decide +kernel
theorem dX10_symbol_99 : decode cX10_symbol 99 = .ok (.ireturn, 1) := by decide +kernel
theorem dX10_symbol_100 : decode cX10_symbol 100 = .ok (.iinc 4 1, 3) := by decide +kernel
theorem dX10_symbol_103 : decode cX10_symbol 103 = .ok (.goto (-56), 3) := by decide +kernel
theorem dX10_symbol_106 : decode cX10_symbol 106 = .ok (.iinc 3 1, 3) := by decide +kernel
theorem dX10_symbol_109 : decode cX10_symbol 109 = .ok (.goto (-88), 3) := by decide +kernel
theorem dX10_symbol_112 : decode cX10_symbol 112 = .ok (.iconst 0, 1) := by decide +kernel
theorem dX10_symbol_113 : decode cX10_symbol 113 = .ok (.ireturn, 1) := by decide +kernel
theorem dX10_complete_0 : decode cX10_complete 0 = .ok (.iconst 0, 1) := by decide +kernel
theorem dX10_complete_1 : decode cX10_complete 1 = .ok (.istore_n 2, 1) := by decide +kernel
theorem dX10_complete_2 : decode cX10_complete 2 = .ok (.iconst 0, 1) := by decide +kernel
theorem dX10_complete_3 : decode cX10_complete 3 = .ok (.istore_n 3, 1) := by decide +kernel
theorem dX10_complete_4 : decode cX10_complete 4 = .ok (.iload_n 3, 1) := by decide +kernel
theorem dX10_complete_5 : decode cX10_complete 5 = .ok (.iload_n 1, 1) := by decide +kernel
theorem dX10_complete_6 : decode cX10_complete 6 = .ok (.invokestatic 79, 3) := by decide +kernel
theorem dX10_complete_9 : decode cX10_complete 9 = .ok (.if_icmp .ge 40, 3) := by decide +kernel
theorem dX10_complete_12 : decode cX10_complete 12 = .ok (.aload_n 0, 1) := by decide +kernel
theorem dX10_complete_13 : decode cX10_complete 13 = .ok (.getfield 16, 3) := by decide +kernel
theorem dX10_complete_16 : decode cX10_complete 16 = .ok (.sipush 600, 3) := by decide +kernel
theorem dX10_complete_19 : decode cX10_complete 19 = .ok (.iload_n 1, 1) := by decide +kernel
theorem dX10_complete_20 : decode cX10_complete 20 = .ok (.imul, 1) := by decide +kernel
theorem dX10_complete_21 : decode cX10_complete 21 = .ok (.iload_n 3, 1) := by decide +kernel
theorem dX10_complete_22 : decode cX10_complete 22 = .ok (.iadd, 1) := by decide +kernel
theorem dX10_complete_23 : decode cX10_complete 23 = .ok (.iaload, 1) := by decide +kernel
theorem dX10_complete_24 : decode cX10_complete 24 = .ok (.istore 4, 2) := by decide +kernel
theorem dX10_complete_26 : decode cX10_complete 26 = .ok (.iload_n 2, 1) := by decide +kernel
theorem dX10_complete_27 : decode cX10_complete 27 = .ok (.iload 4, 2) := by decide +kernel
theorem dX10_complete_29 : decode cX10_complete 29 = .ok (.ifCond .ne 7, 3) := by decide +kernel
theorem dX10_complete_32 : decode cX10_complete 32 = .ok (.iconst 0, 1) := by decide +kernel
theorem dX10_complete_33 : decode cX10_complete 33 = .ok (.goto 8, 3) := by decide +kernel
theorem dX10_complete_36 : decode cX10_complete 36 = .ok (.ldc 93, 2) := by decide +kernel
theorem dX10_complete_38 : decode cX10_complete 38 = .ok (.iload 4, 2) := by decide +kernel
theorem dX10_complete_40 : decode cX10_complete 40 = .ok (.ishr, 1) := by decide +kernel
theorem dX10_complete_41 : decode cX10_complete 41 = .ok (.iadd, 1) := by decide +kernel
theorem dX10_complete_42 : decode cX10_complete 42 = .ok (.istore_n 2, 1) := by decide +kernel
theorem dX10_complete_43 : decode cX10_complete 43 = .ok (.iinc 3 1, 3) := by decide +kernel
theorem dX10_complete_46 : decode cX10_complete 46 = .ok (.goto (-42), 3) := by decide +kernel
theorem dX10_complete_49 : decode cX10_complete 49 = .ok (.iload_n 2, 1) := by decide +kernel
theorem dX10_complete_50 : decode cX10_complete 50 = .ok (.ldc 93, 2) := by decide +kernel
theorem dX10_complete_52 : decode cX10_complete 52 = .ok (.if_icmp .eq 8, 3) := by decide +kernel
theorem dX10_complete_55 : decode cX10_complete 55 = .ok (.aload_n 0, 1) := by decide +kernel
theorem dX10_complete_56 : decode cX10_complete 56 = .ok (.iconst 2, 1) := by decide +kernel
theorem dX10_complete_57 : decode cX10_complete 57 = .ok (.invokevirtual 86, 3) := by decide +kernel
theorem dX10_complete_60 : decode cX10_complete 60 = .ok (.aload_n 0, 1) := by decide +kernel
theorem dX10_complete_61 : decode cX10_complete 61 = .ok (.iload_n 1, 1) := by decide +kernel
theorem dX10_complete_62 : decode cX10_complete 62 = .ok (.invokevirtual 94, 3) := by decide +kernel
theorem dX10_complete_65 : decode cX10_complete 65 = .ok (.return_, 1) := by decide +kernel
theorem dX10_many_0 : decode cX10_many 0 = .ok (.aload_n 0, 1) := by decide +kernel
theorem dX10_many_1 : decode cX10_many 1 = .ok (.iload_n 2, 1) := by decide +kernel
theorem dX10_many_2 : decode cX10_many 2 = .ok (.invokevirtual 90, 3) := by decide +kernel
theorem dX10_many_5 : decode cX10_many 5 = .ok (.istore_n 3, 1) := by decide +kernel
theorem dX10_many_6 : decode cX10_many 6 = .ok (.aload_n 0, 1) := by decide +kernel
theorem dX10_many_7 : decode cX10_many 7 = .ok (.getfield 73, 3) := by decide +kernel
theorem dX10_many_10 : decode cX10_many 10 = .ok (.ifCond .ne 36, 3) := by decide +kernel
theorem dX10_many_13 : decode cX10_many 13 = .ok (.iload_n 3, 1) := by decide +kernel
theorem dX10_many_14 : decode cX10_many 14 = .ok (.ifCond .ne 32, 3) := by decide +kernel
theorem dX10_many_17 : decode cX10_many 17 = .ok (.aload_n 0, 1) := by decide +kernel
theorem dX10_many_18 : decode cX10_many 18 = .ok (.iload_n 2, 1) := by decide +kernel
theorem dX10_many_19 : decode cX10_many 19 = .ok (.invokevirtual 90, 3) := by decide +kernel
theorem dX10_many_22 : decode cX10_many 22 = .ok (.istore 4, 2) := by decide +kernel
theorem dX10_many_24 : decode cX10_many 24 = .ok (.iload 4, 2) := by decide +kernel
theorem dX10_many_26 : decode cX10_many 26 = .ok (.iload_n 1, 1) := by decide +kernel
theorem dX10_many_27 : decode cX10_many 27 = .ok (.invokestatic 79, 3) := by decide +kernel
theorem dX10_many_30 : decode cX10_many 30 = .ok (.if_icmp .lt 8, 3) := by decide +kernel
theorem dX10_many_33 : decode cX10_many 33 = .ok (.aload_n 0, 1) := by decide +kernel
theorem dX10_many_34 : decode cX10_many 34 = .ok (.iconst 3, 1) := by decide +kernel
theorem dX10_many_35 : decode cX10_many 35 = .ok (.invokevirtual 86, 3) := by decide +kernel
theorem dX10_many_38 : decode cX10_many 38 = .ok (.aload_n 0, 1) := by decide +kernel
theorem dX10_many_39 : decode cX10_many 39 = .ok (.getfield 22, 3) := by decide +kernel
theorem dX10_many_42 : decode cX10_many 42 = .ok (.iload_n 1, 1) := by decide +kernel
theorem dX10_many_43 : decode cX10_many 43 = .ok (.iload 4, 2) := by decide +kernel
theorem dX10_many_45 : decode cX10_many 45 = .ok (.iastore, 1) := by decide +kernel
theorem dX10_many_46 : decode cX10_many 46 = .ok (.iload_n 3, 1) := by decide +kernel
theorem dX10_many_47 : decode cX10_many 47 = .ok (.iload_n 1, 1) := by decide +kernel
theorem dX10_many_48 : decode cX10_many 48 = .ok (.invokestatic 79, 3) := by decide +kernel
theorem dX10_many_51 : decode cX10_many 51 = .ok (.if_icmp .le 8, 3) := by decide +kernel
theorem dX10_many_54 : decode cX10_many 54 = .ok (.aload_n 0, 1) := by decide +kernel
theorem dX10_many_55 : decode cX10_many 55 = .ok (.iconst 3, 1) := by decide +kernel
theorem dX10_many_56 : decode cX10_many 56 = .ok (.invokevirtual 86, 3) := by decide +kernel
theorem dX10_many_59 : decode cX10_many 59 = .ok (.aload_n 0, 1) := by decide +kernel
theorem dX10_many_60 : decode cX10_many 60 = .ok (.getfield 73, 3) := by decide +kernel
theorem dX10_many_63 : decode cX10_many 63 = .ok (.ifCond .ne 7, 3) := by decide +kernel
theorem dX10_many_66 : decode cX10_many 66 = .ok (.iload_n 3, 1) := by decide +kernel
theorem dX10_many_67 : decode cX10_many 67 = .ok (.goto 4, 3) := by decide +kernel
theorem dX10_many_70 : decode cX10_many 70 = .ok (.iconst 0, 1) := by decide +kernel
theorem dX10_many_71 : decode cX10_many 71 = .ok (.ireturn, 1) := by decide +kernel
theorem dX10_small_0 : decode cX10_small 0 = .ok (.aload_n 0, 1) := by decide +kernel
theorem dX10_small_1 : decode cX10_small 1 = .ok (.iload_n 1, 1) := by decide +kernel
theorem dX10_small_2 : decode cX10_small 2 = .ok (.iload_n 2, 1) := by decide +kernel
theorem dX10_small_3 : decode cX10_small 3 = .ok (.invokevirtual 97, 3) := by decide +kernel
theorem dX10_small_6 : decode cX10_small 6 = .ok (.istore_n 3, 1) := by decide +kernel
theorem dX10_small_7 : decode cX10_small 7 = .ok (.iconst 0, 1) := by decide +kernel
theorem dX10_small_8 : decode cX10_small 8 = .ok (.istore 4, 2) := by decide +kernel
theorem dX10_small_10 : decode cX10_small 10 = .ok (.iload 4, 2) := by decide +kernel
theorem dX10_small_12 : decode cX10_small 12 = .ok (.iload_n 3, 1) := by decide +kernel
theorem dX10_small_13 : decode cX10_small 13 = .ok (.if_icmp .ge 106, 3) := by decide +kernel
theorem dX10_small_16 : decode cX10_small 16 = .ok (.aload_n 0, 1) := by decide +kernel
theorem dX10_small_17 : decode cX10_small 17 = .ok (.getfield 73, 3) := by decide +kernel
theorem dX10_small_20 : decode cX10_small 20 = .ok (.ifCond .ne 99, 3) := by decide +kernel
theorem dX10_small_23 : decode cX10_small 23 = .ok (.aload_n 0, 1) := by decide +kernel
theorem dX10_small_24 : decode cX10_small 24 = .ok (.iconst 3, 1) := by decide +kernel
theorem dX10_small_25 : decode cX10_small 25 = .ok (.invokevirtual 90, 3) := by decide +kernel
theorem dX10_small_28 : decode cX10_small 28 = .ok (.istore 5, 2) := by decide +kernel
theorem dX10_small_30 : decode cX10_small 30 = .ok (.iload 5, 2) := by decide +kernel
theorem dX10_small_32 : decode cX10_small 32 = .ok (.bipush 7, 2) := by decide +kernel
theorem dX10_small_34 : decode cX10_small 34 = .ok (.if_icmp .lt 37, 3) := by decide +kernel
theorem dX10_small_37 : decode cX10_small 37 = .ok (.aload_n 0, 1) := by decide +kernel
theorem dX10_small_38 : decode cX10_small 38 = .ok (.getfield 73, 3) := by decide +kernel
theorem dX10_small_41 : decode cX10_small 41 = .ok (.ifCond .ne 30, 3) := by decide +kernel
theorem dX10_small_44 : decode cX10_small 44 = .ok (.aload_n 0, 1) := by decide +kernel
theorem dX10_small_45 : decode cX10_small 45 = .ok (.iconst 1, 1) := by decide +kernel
theorem dX10_small_46 : decode cX10_small 46 = .ok (.invokevirtual 90, 3) := by decide +kernel
theorem dX10_small_49 : decode cX10_small 49 = .ok (.iconst 1, 1) := by decide +kernel
theorem dX10_small_50 : decode cX10_small 50 = .ok (.if_icmp .ne 21, 3) := by decide +kernel
theorem dX10_small_53 : decode cX10_small 53 = .ok (.iinc 5 1, 3) := by decide +kernel
theorem dX10_small_56 : decode cX10_small 56 = .ok (.iload 5, 2) := by decide +kernel
theorem dX10_small_58 : decode cX10_small 58 = .ok (.bipush 16, 2) := by decide +kernel
theorem dX10_small_60 : decode cX10_small 60 = .ok (.if_icmp .le (-30), 3) := by decide +kernel
theorem dX10_small_63 : decode cX10_small 63 = .ok (.aload_n 0, 1) := by decide +kernel
theorem dX10_small_64 : decode cX10_small 64 = .ok (.iconst 2, 1) := by decide +kernel
theorem dX10_small_65 : decode cX10_small 65 = .ok (.invokevirtual 86, 3) := by decide +kernel
theorem dX10_small_68 : decode cX10_small 68 = .ok (.goto (-38), 3) := by decide +kernel
theorem dX10_small_71 : decode cX10_small 71 = .ok (.aload_n 0, 1) := by decide +kernel
theorem dX10_small_72 : decode cX10_small 72 = .ok (.getfield 73, 3) := by decide +kernel
theorem dX10_small_75 : decode cX10_small 75 = .ok (.ifCond .ne 18, 3) := by decide +kernel
theorem dX10_small_78 : decode cX10_small 78 = .ok (.aload_n 0, 1) := by decide +kernel
theorem dX10_small_79 : decode cX10_small 79 = .ok (.getfield 16, 3) := by decide +kernel
theorem dX10_small_82 : decode cX10_small 82 = .ok (.sipush 600, 3) := by decide +kernel
theorem dX10_small_85 : decode cX10_small 85 = .ok (.iload_n 1, 1) := by decide +kernel
theorem dX10_small_86 : decode cX10_small 86 = .ok (.imul, 1) := by decide +kernel
theorem dX10_small_87 : decode cX10_small 87 = .ok (.iload 4, 2) := by decide +kernel
theorem dX10_small_89 : decode cX10_small 89 = .ok (.iadd, 1) := by decide +kernel
theorem dX10_small_90 : decode cX10_small 90 = .ok (.iload 5, 2) := by decide +kernel
theorem dX10_small_92 : decode cX10_small 92 = .ok (.iastore, 1) := by decide +kernel
theorem dX10_small_93 : decode cX10_small 93 = .ok (.iinc 4 1, 3) := by decide +kernel
theorem dX10_small_96 : decode cX10_small 96 = .ok (.iload_n 1, 1) := by decide +kernel
theorem dX10_small_97 : decode cX10_small 97 = .ok (.ifCond .ne 19, 3) := by decide +kernel
theorem dX10_small_100 : decode cX10_small 100 = .ok (.iload 4, 2) := by decide +kernel
theorem dX10_small_102 : decode cX10_small 102 = .ok (.iconst 3, 1) := by decide +kernel
theorem dX10_small_103 : decode cX10_small 103 = .ok (.if_icmp .ne 13, 3) := by decide +kernel
theorem dX10_small_106 : decode cX10_small 106 = .ok (.iload 4, 2) := by decide +kernel
theorem dX10_small_108 : decode cX10_small 108 = .ok (.aload_n 0, 1) := by decide +kernel
theorem dX10_small_109 : decode cX10_small 109 = .ok (.iconst 2, 1) := by decide +kernel
theorem dX10_small_110 : decode cX10_small 110 = .ok (.invokevirtual 90, 3) := by decide +kernel
theorem dX10_small_113 : decode cX10_small 113 = .ok (.iadd, 1) := by decide +kernel
theorem dX10_small_114 : decode cX10_small 114 = .ok (.istore 4, 2) := by decide +kernel
theorem dX10_small_116 : decode cX10_small 116 = .ok (.goto (-106), 3) := by decide +kernel
theorem dX10_small_119 : decode cX10_small 119 = .ok (.iload_n 3, 1) := by decide +kernel
theorem dX10_small_120 : decode cX10_small 120 = .ok (.ifCond .le 15, 3) := by decide +kernel
theorem dX10_small_123 : decode cX10_small 123 = .ok (.aload_n 0, 1) := by decide +kernel
theorem dX10_small_124 : decode cX10_small 124 = .ok (.getfield 73, 3) := by decide +kernel
theorem dX10_small_127 : decode cX10_small 127 = .ok (.ifCond .ne 8, 3) := by decide +kernel
theorem dX10_small_130 : decode cX10_small 130 = .ok (.aload_n 0, 1) := by decide +kernel
theorem dX10_small_131 : decode cX10_small 131 = .ok (.iload_n 1, 1) := by decide +kernel
theorem dX10_small_132 : decode cX10_small 132 = .ok (.invokevirtual 101, 3) := by decide +kernel
theorem dX10_small_135 : decode cX10_small 135 = .ok (.return_, 1) := by decide +kernel
theorem dX10_great_0 : decode cX10_great 0 = .ok (.aload_n 0, 1) := by decide +kernel
theorem dX10_great_1 : decode cX10_great 1 = .ok (.iconst 1, 1) := by decide +kernel
theorem dX10_great_2 : decode cX10_great 2 = .ok (.bipush 9, 2) := by decide +kernel
theorem dX10_great_4 : decode cX10_great 4 = .ok (.invokevirtual 97, 3) := by decide +kernel
theorem dX10_great_7 : decode cX10_great 7 = .ok (.istore_n 1, 1) := by decide +kernel
theorem dX10_great_8 : decode cX10_great 8 = .ok (.iconst 0, 1) := by decide +kernel
theorem dX10_great_9 : decode cX10_great 9 = .ok (.istore_n 2, 1) := by decide +kernel
theorem dX10_great_10 : decode cX10_great 10 = .ok (.iload_n 2, 1) := by decide +kernel
theorem dX10_great_11 : decode cX10_great 11 = .ok (.iload_n 1, 1) := by decide +kernel
theorem dX10_great_12 : decode cX10_great 12 = .ok (.if_icmp .ge 102, 3) := by decide +kernel
theorem dX10_great_15 : decode cX10_great 15 = .ok (.aload_n 0, 1) := by decide +kernel
theorem dX10_great_16 : decode cX10_great 16 = .ok (.getfield 73, 3) := by decide +kernel
theorem dX10_great_19 : decode cX10_great 19 = .ok (.ifCond .ne 95, 3) := by decide +kernel
theorem dX10_great_22 : decode cX10_great 22 = .ok (.aload_n 0, 1) := by decide +kernel
theorem dX10_great_23 : decode cX10_great 23 = .ok (.iconst 0, 1) := by decide +kernel
theorem dX10_great_24 : decode cX10_great 24 = .ok (.invokevirtual 104, 3) := by decide +kernel
theorem dX10_great_27 : decode cX10_great 27 = .ok (.istore_n 3, 1) := by decide +kernel
theorem dX10_great_28 : decode cX10_great 28 = .ok (.iload_n 3, 1) := by decide +kernel
theorem dX10_great_29 : decode cX10_great 29 = .ok (.iconst 2, 1) := by decide +kernel
theorem dX10_great_30 : decode cX10_great 30 = .ok (.if_icmp .le 29, 3) := by decide +kernel
theorem dX10_great_33 : decode cX10_great 33 = .ok (.aload_n 0, 1) := by decide +kernel
theorem dX10_great_34 : decode cX10_great 34 = .ok (.getfield 73, 3) := by decide +kernel
theorem dX10_great_37 : decode cX10_great 37 = .ok (.ifCond .ne 16, 3) := by decide +kernel
theorem dX10_great_40 : decode cX10_great 40 = .ok (.aload_n 0, 1) := by decide +kernel
theorem dX10_great_41 : decode cX10_great 41 = .ok (.getfield 16, 3) := by decide +kernel
theorem dX10_great_44 : decode cX10_great 44 = .ok (.sipush 600, 3) := by decide +kernel
theorem dX10_great_47 : decode cX10_great 47 = .ok (.iload_n 2, 1) := by decide +kernel
theorem dX10_great_48 : decode cX10_great 48 = .ok (.iadd, 1) := by decide +kernel
theorem dX10_great_49 : decode cX10_great 49 = .ok (.iload_n 3, 1) := by decide +kernel
theorem dX10_great_50 : decode cX10_great 50 = .ok (.iconst 2, 1) := by decide +kernel
theorem dX10_great_51 : decode cX10_great 51 = .ok (.isub, 1) := by decide +kernel
theorem dX10_great_52 : decode cX10_great 52 = .ok (.iastore, 1) := by decide +kernel
theorem dX10_great_53 : decode cX10_great 53 = .ok (.iinc 2 1, 3) := by decide +kernel
theorem dX10_great_56 : decode cX10_great 56 = .ok (.goto 55, 3) := by decide +kernel
theorem dX10_great_59 : decode cX10_great 59 = .ok (.iload_n 2, 1) := by decide +kernel
theorem dX10_great_60 : decode cX10_great 60 = .ok (.iload_n 3, 1) := by decide +kernel
theorem dX10_great_61 : decode cX10_great 61 = .ok (.ifCond .ne 7, 3) := by decide +kernel
theorem dX10_great_64 : decode cX10_great 64 = .ok (.iconst 1, 1) := by decide +kernel
theorem dX10_great_65 : decode cX10_great 65 = .ok (.goto 27, 3) := by decide +kernel
theorem dX10_great_68 : decode cX10_great 68 = .ok (.iload_n 3, 1) := by decide +kernel
theorem dX10_great_69 : decode cX10_great 69 = .ok (.iconst 1, 1) := by decide +kernel
theorem dX10_great_70 : decode cX10_great 70 = .ok (.if_icmp .ne 13, 3) := by decide +kernel
theorem dX10_great_73 : decode cX10_great 73 = .ok (.iconst 3, 1) := by decide +kernel
theorem dX10_great_74 : decode cX10_great 74 = .ok (.aload_n 0, 1) := by decide +kernel
theorem dX10_great_75 : decode cX10_great 75 = .ok (.iconst 4, 1) := by decide +kernel
theorem dX10_great_76 : decode cX10_great 76 = .ok (.invokevirtual 90, 3) := by decide +kernel
theorem dX10_great_79 : decode cX10_great 79 = .ok (.iadd, 1) := by decide +kernel
theorem dX10_great_80 : decode cX10_great 80 = .ok (.goto 12, 3) := by decide +kernel
theorem dX10_great_83 : decode cX10_great 83 = .ok (.bipush 20, 2) := by decide +kernel
theorem dX10_great_85 : decode cX10_great 85 = .ok (.aload_n 0, 1) := by decide +kernel
theorem dX10_great_86 : decode cX10_great 86 = .ok (.bipush 9, 2) := by decide +kernel
theorem dX10_great_88 : decode cX10_great 88 = .ok (.invokevirtual 90, 3) := by decide +kernel
theorem dX10_great_91 : decode cX10_great 91 = .ok (.iadd, 1) := by decide +kernel
theorem dX10_great_92 : decode cX10_great 92 = .ok (.iadd, 1) := by decide +kernel
theorem dX10_great_93 : decode cX10_great 93 = .ok (.istore_n 2, 1) := by decide +kernel
theorem dX10_great_94 : decode cX10_great 94 = .ok (.aload_n 0, 1) := by decide +kernel
theorem dX10_great_95 : decode cX10_great 95 = .ok (.getfield 73, 3) := by decide +kernel
theorem dX10_great_98 : decode cX10_great 98 = .ok (.ifCond .ne 13, 3) := by decide +kernel
theorem dX10_great_101 : decode cX10_great 101 = .ok (.iload_n 2, 1) := by decide +kernel
theorem dX10_great_102 : decode cX10_great 102 = .ok (.iload_n 1, 1) := by decide +kernel
theorem dX10_great_103 : decode cX10_great 103 = .ok (.if_icmp .le 8, 3) := by decide +kernel
theorem dX10_great_106 : decode cX10_great 106 = .ok (.aload_n 0, 1) := by decide +kernel
theorem dX10_great_107 : decode cX10_great 107 = .ok (.iconst 3, 1) := by decide +kernel
theorem dX10_great_108 : decode cX10_great 108 = .ok (.invokevirtual 86, 3) := by decide +kernel
theorem dX10_great_111 : decode cX10_great 111 = .ok (.goto (-101), 3) := by decide +kernel
theorem dX10_great_114 : decode cX10_great 114 = .ok (.iload_n 1, 1) := by decide +kernel
theorem dX10_great_115 : decode cX10_great 115 = .ok (.ifCond .le 15, 3) := by decide +kernel
theorem dX10_great_118 : decode cX10_great 118 = .ok (.aload_n 0, 1) := by decide +kernel
theorem dX10_great_119 : decode cX10_great 119 = .ok (.getfield 73, 3) := by decide +kernel
theorem dX10_great_122 : decode cX10_great 122 = .ok (.ifCond .ne 8, 3) := by decide +kernel
theorem dX10_great_125 : decode cX10_great 125 = .ok (.aload_n 0, 1) := by decide +kernel
