theorem dX7_init_43 : decode cX7_init 43 = .ok (.newarray .int, 2) := by decide +kernel
theorem dX7_init_45 : decode cX7_init 45 = .ok (.putfield 27, 3) := by decide +kernel
theorem dX7_init_48 : decode cX7_init 48 = .ok (.aload_n 0, 1) := by decide +kernel
theorem dX7_init_49 : decode cX7_init 49 = .ok (.bipush 17, 2) := by decide +kernel
theorem dX7_init_51 : decode cX7_init 51 = .ok (.newarray .int, 2) := by decide +kernel
theorem dX7_init_53 : decode cX7_init 53 = .ok (.putfield 30, 3) := by decide +kernel
theorem dX7_init_56 : decode cX7_init 56 = .ok (.aload_n 0, 1) := by decide +kernel
theorem dX7_init_57 : decode cX7_init 57 = .ok (.iconst (-1), 1) := by decide +kernel
theorem dX7_init_58 : decode cX7_init 58 = .ok (.putfield 33, 3) := by decide +kernel
theorem dX7_init_61 : decode cX7_init 61 = .ok (.return_, 1) := by decide +kernel
theorem dX7_wipe_0 : decode cX7_wipe 0 = .ok (.aload_n 0, 1) := by decide +kernel
theorem dX7_wipe_1 : decode cX7_wipe 1 = .ok (.getfield 9, 3) := by decide +kernel
theorem dX7_wipe_4 : decode cX7_wipe 4 = .ok (.iconst 0, 1) := by decide +kernel
theorem dX7_wipe_5 : decode cX7_wipe 5 = .ok (.invokestatic 37, 3) := by decide +kernel
theorem dX7_wipe_8 : decode cX7_wipe 8 = .ok (.aload_n 0, 1) := by decide +kernel
theorem dX7_wipe_9 : decode cX7_wipe 9 = .ok (.getfield 18, 3) := by decide +kernel
theorem dX7_wipe_12 : decode cX7_wipe 12 = .ok (.iconst 0, 1) := by decide +kernel
theorem dX7_wipe_13 : decode cX7_wipe 13 = .ok (.invokestatic 37, 3) := by decide +kernel
theorem dX7_wipe_16 : decode cX7_wipe 16 = .ok (.aload_n 0, 1) := by decide +kernel
theorem dX7_wipe_17 : decode cX7_wipe 17 = .ok (.iconst (-1), 1) := by decide +kernel
theorem dX7_wipe_18 : decode cX7_wipe 18 = .ok (.putfield 33, 3) := by decide +kernel
theorem dX7_wipe_21 : decode cX7_wipe 21 = .ok (.return_, 1) := by decide +kernel
theorem dX7_symbols_0 : decode cX7_symbols 0 = .ok (.aload_n 0, 1) := by decide +kernel
theorem dX7_symbols_1 : decode cX7_symbols 1 = .ok (.getfield 9, 3) := by decide +kernel
theorem dX7_symbols_4 : decode cX7_symbols 4 = .ok (.arraylength, 1) := by decide +kernel
theorem dX7_symbols_5 : decode cX7_symbols 5 = .ok (.ireturn, 1) := by decide +kernel
theorem dX7_has_0 : decode cX7_has 0 = .ok (.iload_n 1, 1) := by decide +kernel
theorem dX7_has_1 : decode cX7_has 1 = .ok (.ifCond .lt 16, 3) := by decide +kernel
theorem dX7_has_4 : decode cX7_has 4 = .ok (.iload_n 1, 1) := by decide +kernel
theorem dX7_has_5 : decode cX7_has 5 = .ok (.aload_n 0, 1) := by decide +kernel
theorem dX7_has_6 : decode cX7_has 6 = .ok (.getfield 9, 3) := by decide +kernel
theorem dX7_has_9 : decode cX7_has 9 = .ok (.arraylength, 1) := by decide +kernel
theorem dX7_has_10 : decode cX7_has 10 = .ok (.if_icmp .ge 7, 3) := by decide +kernel
theorem dX7_has_13 : decode cX7_has 13 = .ok (.iconst 1, 1) := by decide +kernel
theorem dX7_has_14 : decode cX7_has 14 = .ok (.goto 4, 3) := by decide +kernel
theorem dX7_has_17 : decode cX7_has 17 = .ok (.iconst 0, 1) := by decide +kernel
theorem dX7_has_18 : decode cX7_has 18 = .ok (.ireturn, 1) := by decide +kernel
theorem dX7_lengthOf_0 : decode cX7_lengthOf 0 = .ok (.aload_n 0, 1) := by decide +kernel
theorem dX7_lengthOf_1 : decode cX7_lengthOf 1 = .ok (.iload_n 1, 1) := by decide +kernel
theorem dX7_lengthOf_2 : decode cX7_lengthOf 2 = .ok (.invokevirtual 43, 3) := by decide +kernel
theorem dX7_lengthOf_5 : decode cX7_lengthOf 5 = .ok (.ifCond .eq 12, 3) := by decide +kernel
theorem dX7_lengthOf_8 : decode cX7_lengthOf 8 = .ok (.aload_n 0, 1) := by decide +kernel
theorem dX7_lengthOf_9 : decode cX7_lengthOf 9 = .ok (.getfield 9, 3) := by decide +kernel
theorem dX7_lengthOf_12 : decode cX7_lengthOf 12 = .ok (.iload_n 1, 1) := by decide +kernel
theorem dX7_lengthOf_13 : decode cX7_lengthOf 13 = .ok (.iaload, 1) := by decide +kernel
theorem dX7_lengthOf_14 : decode cX7_lengthOf 14 = .ok (.goto 4, 3) := by decide +kernel
theorem dX7_lengthOf_17 : decode cX7_lengthOf 17 = .ok (.iconst (-1), 1) := by decide +kernel
theorem dX7_lengthOf_18 : decode cX7_lengthOf 18 = .ok (.ireturn, 1) := by decide +kernel
theorem dX7_codeOf_0 : decode cX7_codeOf 0 = .ok (.aload_n 0, 1) := by decide +kernel
theorem dX7_codeOf_1 : decode cX7_codeOf 1 = .ok (.iload_n 1, 1) := by decide +kernel
theorem dX7_codeOf_2 : decode cX7_codeOf 2 = .ok (.invokevirtual 43, 3) := by decide +kernel
theorem dX7_codeOf_5 : decode cX7_codeOf 5 = .ok (.ifCond .eq 12, 3) := by decide +kernel
theorem dX7_codeOf_8 : decode cX7_codeOf 8 = .ok (.aload_n 0, 1) := by decide +kernel
theorem dX7_codeOf_9 : decode cX7_codeOf 9 = .ok (.getfield 15, 3) := by decide +kernel
theorem dX7_codeOf_12 : decode cX7_codeOf 12 = .ok (.iload_n 1, 1) := by decide +kernel
theorem dX7_codeOf_13 : decode cX7_codeOf 13 = .ok (.iaload, 1) := by decide +kernel
theorem dX7_codeOf_14 : decode cX7_codeOf 14 = .ok (.goto 4, 3) := by decide +kernel
theorem dX7_codeOf_17 : decode cX7_codeOf 17 = .ok (.iconst 0, 1) := by decide +kernel
theorem dX7_codeOf_18 : decode cX7_codeOf 18 = .ok (.ireturn, 1) := by decide +kernel
theorem dX7_usesOf_0 : decode cX7_usesOf 0 = .ok (.aload_n 0, 1) := by decide +kernel
theorem dX7_usesOf_1 : decode cX7_usesOf 1 = .ok (.iload_n 1, 1) := by decide +kernel
theorem dX7_usesOf_2 : decode cX7_usesOf 2 = .ok (.invokevirtual 43, 3) := by decide +kernel
theorem dX7_usesOf_5 : decode cX7_usesOf 5 = .ok (.ifCond .eq 12, 3) := by decide +kernel
theorem dX7_usesOf_8 : decode cX7_usesOf 8 = .ok (.aload_n 0, 1) := by decide +kernel
theorem dX7_usesOf_9 : decode cX7_usesOf 9 = .ok (.getfield 18, 3) := by decide +kernel
theorem dX7_usesOf_12 : decode cX7_usesOf 12 = .ok (.iload_n 1, 1) := by decide +kernel
theorem dX7_usesOf_13 : decode cX7_usesOf 13 = .ok (.iaload, 1) := by decide +kernel
theorem dX7_usesOf_14 : decode cX7_usesOf 14 = .ok (.goto 4, 3) := by decide +kernel
theorem dX7_usesOf_17 : decode cX7_usesOf 17 = .ok (.iconst 0, 1) := by decide +kernel
theorem dX7_usesOf_18 : decode cX7_usesOf 18 = .ok (.ireturn, 1) := by decide +kernel
theorem dX7_alone_0 : decode cX7_alone 0 = .ok (.aload_n 0, 1) := by decide +kernel
theorem dX7_alone_1 : decode cX7_alone 1 = .ok (.getfield 33, 3) := by decide +kernel
theorem dX7_alone_4 : decode cX7_alone 4 = .ok (.ireturn, 1) := by decide +kernel
theorem dX7_isAlone_0 : decode cX7_isAlone 0 = .ok (.aload_n 0, 1) := by decide +kernel
theorem dX7_isAlone_1 : decode cX7_isAlone 1 = .ok (.getfield 33, 3) := by decide +kernel
theorem dX7_isAlone_4 : decode cX7_isAlone 4 = .ok (.iconst (-1), 1) := by decide +kernel
theorem dX7_isAlone_5 : decode cX7_isAlone 5 = .ok (.if_icmp .eq 7, 3) := by decide +kernel
theorem dX7_isAlone_8 : decode cX7_isAlone 8 = .ok (.iconst 1, 1) := by decide +kernel
theorem dX7_isAlone_9 : decode cX7_isAlone 9 = .ok (.goto 4, 3) := by decide +kernel
theorem dX7_isAlone_12 : decode cX7_isAlone 12 = .ok (.iconst 0, 1) := by decide +kernel
theorem dX7_isAlone_13 : decode cX7_isAlone 13 = .ok (.ireturn, 1) := by decide +kernel
theorem dX7_use_0 : decode cX7_use 0 = .ok (.aload_n 0, 1) := by decide +kernel
theorem dX7_use_1 : decode cX7_use 1 = .ok (.iload_n 1, 1) := by decide +kernel
theorem dX7_use_2 : decode cX7_use 2 = .ok (.invokevirtual 43, 3) := by decide +kernel
theorem dX7_use_5 : decode cX7_use 5 = .ok (.ifCond .eq 13, 3) := by decide +kernel
theorem dX7_use_8 : decode cX7_use 8 = .ok (.aload_n 0, 1) := by decide +kernel
theorem dX7_use_9 : decode cX7_use 9 = .ok (.getfield 18, 3) := by decide +kernel
theorem dX7_use_12 : decode cX7_use 12 = .ok (.iload_n 1, 1) := by decide +kernel
theorem dX7_use_13 : decode cX7_use 13 = .ok (.dup2, 1) := by decide +kernel
theorem dX7_use_14 : decode cX7_use 14 = .ok (.iaload, 1) := by decide +kernel
theorem dX7_use_15 : decode cX7_use 15 = .ok (.iconst 1, 1) := by decide +kernel
theorem dX7_use_16 : decode cX7_use 16 = .ok (.iadd, 1) := by decide +kernel
theorem dX7_use_17 : decode cX7_use 17 = .ok (.iastore, 1) := by decide +kernel
theorem dX7_use_18 : decode cX7_use 18 = .ok (.return_, 1) := by decide +kernel
theorem dX7_setAlone_0 : decode cX7_setAlone 0 = .ok (.aload_n 0, 1) := by decide +kernel
theorem dX7_setAlone_1 : decode cX7_setAlone 1 = .ok (.iload_n 1, 1) := by decide +kernel
theorem dX7_setAlone_2 : decode cX7_setAlone 2 = .ok (.putfield 33, 3) := by decide +kernel
theorem dX7_setAlone_5 : decode cX7_setAlone 5 = .ok (.return_, 1) := by decide +kernel
theorem dX7_setLength_0 : decode cX7_setLength 0 = .ok (.aload_n 0, 1) := by decide +kernel
theorem dX7_setLength_1 : decode cX7_setLength 1 = .ok (.iload_n 1, 1) := by decide +kernel
theorem dX7_setLength_2 : decode cX7_setLength 2 = .ok (.invokevirtual 43, 3) := by decide +kernel
theorem dX7_setLength_5 : decode cX7_setLength 5 = .ok (.ifCond .eq 20, 3) := by decide +kernel
theorem dX7_setLength_8 : decode cX7_setLength 8 = .ok (.iload_n 2, 1) := by decide +kernel
theorem dX7_setLength_9 : decode cX7_setLength 9 = .ok (.ifCond .lt 16, 3) := by decide +kernel
theorem dX7_setLength_12 : decode cX7_setLength 12 = .ok (.iload_n 2, 1) := by decide +kernel
theorem dX7_setLength_13 : decode cX7_setLength 13 = .ok (.bipush 16, 2) := by decide +kernel
theorem dX7_setLength_15 : decode cX7_setLength 15 = .ok (.if_icmp .gt 10, 3) := by decide +kernel
theorem dX7_setLength_18 : decode cX7_setLength 18 = .ok (.aload_n 0, 1) := by decide +kernel
theorem dX7_setLength_19 : decode cX7_setLength 19 = .ok (.getfield 9, 3) := by decide +kernel
theorem dX7_setLength_22 : decode cX7_setLength 22 = .ok (.iload_n 1, 1) := by decide +kernel
theorem dX7_setLength_23 : decode cX7_setLength 23 = .ok (.iload_n 2, 1) := by decide +kernel
theorem dX7_setLength_24 : decode cX7_setLength 24 = .ok (.iastore, 1) := by decide +kernel
theorem dX7_setLength_25 : decode cX7_setLength 25 = .ok (.return_, 1) := by decide +kernel
theorem dX7_lengthsInUse_0 : decode cX7_lengthsInUse 0 = .ok (.aload_n 0, 1) := by decide +kernel
theorem dX7_lengthsInUse_1 : decode cX7_lengthsInUse 1 = .ok (.getfield 9, 3) := by decide +kernel
theorem dX7_lengthsInUse_4 : decode cX7_lengthsInUse 4 = .ok (.arraylength, 1) := by decide +kernel
theorem dX7_lengthsInUse_5 : decode cX7_lengthsInUse 5 = .ok (.istore_n 1, 1) := by decide +kernel
theorem dX7_lengthsInUse_6 : decode cX7_lengthsInUse 6 = .ok (.iload_n 1, 1) := by decide +kernel
theorem dX7_lengthsInUse_7 : decode cX7_lengthsInUse 7 = .ok (.ifCond .le 22, 3) := by decide +kernel
theorem dX7_lengthsInUse_10 : decode cX7_lengthsInUse 10 = .ok (.aload_n 0, 1) := by decide +kernel
theorem dX7_lengthsInUse_11 : decode cX7_lengthsInUse 11 = .ok (.getfield 9, 3) := by decide +kernel
theorem dX7_lengthsInUse_14 : decode cX7_lengthsInUse 14 = .ok (.iload_n 1, 1) := by decide +kernel
theorem dX7_lengthsInUse_15 : decode cX7_lengthsInUse 15 = .ok (.iconst 1, 1) := by decide +kernel
theorem dX7_lengthsInUse_16 : decode cX7_lengthsInUse 16 = .ok (.isub, 1) := by decide +kernel
theorem dX7_lengthsInUse_17 : decode cX7_lengthsInUse 17 = .ok (.iaload, 1) := by decide +kernel
theorem dX7_lengthsInUse_18 : decode cX7_lengthsInUse 18 = .ok (.ifCond .le 5, 3) := by decide +kernel
theorem dX7_lengthsInUse_21 : decode cX7_lengthsInUse 21 = .ok (.iload_n 1, 1) := by decide +kernel
theorem dX7_lengthsInUse_22 : decode cX7_lengthsInUse 22 = .ok (.ireturn, 1) := by decide +kernel
theorem dX7_lengthsInUse_23 : decode cX7_lengthsInUse 23 = .ok (.iinc 1 (-1), 3) := by decide +kernel
theorem dX7_lengthsInUse_26 : decode cX7_lengthsInUse 26 = .ok (.goto (-20), 3) := by decide +kernel
theorem dX7_lengthsInUse_29 : decode cX7_lengthsInUse 29 = .ok (.iconst 0, 1) := by decide +kernel
theorem dX7_lengthsInUse_30 : decode cX7_lengthsInUse 30 = .ok (.ireturn, 1) := by decide +kernel
theorem dX7_zerosFrom_0 : decode cX7_zerosFrom 0 = .ok (.iconst 0, 1) := by decide +kernel
theorem dX7_zerosFrom_1 : decode cX7_zerosFrom 1 = .ok (.istore_n 3, 1) := by decide +kernel
theorem dX7_zerosFrom_2 : decode cX7_zerosFrom 2 = .ok (.iload_n 3, 1) := by decide +kernel
theorem dX7_zerosFrom_3 : decode cX7_zerosFrom 3 = .ok (.iload_n 2, 1) := by decide +kernel
theorem dX7_zerosFrom_4 : decode cX7_zerosFrom 4 = .ok (.if_icmp .ge 21, 3) := by decide +kernel
theorem dX7_zerosFrom_7 : decode cX7_zerosFrom 7 = .ok (.aload_n 0, 1) := by decide +kernel
theorem dX7_zerosFrom_8 : decode cX7_zerosFrom 8 = .ok (.iload_n 1, 1) := by decide +kernel
theorem dX7_zerosFrom_9 : decode cX7_zerosFrom 9 = .ok (.iload_n 3, 1) := by decide +kernel
theorem dX7_zerosFrom_10 : decode cX7_zerosFrom 10 = .ok (.iadd, 1) := by decide +kernel
theorem dX7_zerosFrom_11 : decode cX7_zerosFrom 11 = .ok (.invokevirtual 47, 3) := by decide +kernel
theorem dX7_zerosFrom_14 : decode cX7_zerosFrom 14 = .ok (.ifCond .eq 5, 3) := by decide +kernel
theorem dX7_zerosFrom_17 : decode cX7_zerosFrom 17 = .ok (.iload_n 3, 1) := by decide +kernel
theorem dX7_zerosFrom_18 : decode cX7_zerosFrom 18 = .ok (.ireturn, 1) := by decide +kernel
theorem dX7_zerosFrom_19 : decode cX7_zerosFrom 19 = .ok (.iinc 3 1, 3) := by decide +kernel
theorem dX7_zerosFrom_22 : decode cX7_zerosFrom 22 = .ok (.goto (-20), 3) := by decide +kernel
theorem dX7_zerosFrom_25 : decode cX7_zerosFrom 25 = .ok (.iload_n 2, 1) := by decide +kernel
theorem dX7_zerosFrom_26 : decode cX7_zerosFrom 26 = .ok (.ireturn, 1) := by decide +kernel
theorem dX7_settle_0 : decode cX7_settle 0 = .ok (.aload_n 0, 1) := by decide +kernel
theorem dX7_settle_1 : decode cX7_settle 1 = .ok (.getfield 24, 3) := by decide +kernel
theorem dX7_settle_4 : decode cX7_settle 4 = .ok (.iconst 0, 1) := by decide +kernel
theorem dX7_settle_5 : decode cX7_settle 5 = .ok (.invokestatic 37, 3) := by decide +kernel
theorem dX7_settle_8 : decode cX7_settle 8 = .ok (.aload_n 0, 1) := by decide +kernel
theorem dX7_settle_9 : decode cX7_settle 9 = .ok (.getfield 9, 3) := by decide +kernel
theorem dX7_settle_12 : decode cX7_settle 12 = .ok (.astore_n 1, 1) := by decide +kernel
theorem dX7_settle_13 : decode cX7_settle 13 = .ok (.aload_n 1, 1) := by decide +kernel
theorem dX7_settle_14 : decode cX7_settle 14 = .ok (.arraylength, 1) := by decide +kernel
theorem dX7_settle_15 : decode cX7_settle 15 = .ok (.istore_n 2, 1) := by decide +kernel
theorem dX7_settle_16 : decode cX7_settle 16 = .ok (.iconst 0, 1) := by decide +kernel
theorem dX7_settle_17 : decode cX7_settle 17 = .ok (.istore_n 3, 1) := by decide +kernel
theorem dX7_settle_18 : decode cX7_settle 18 = .ok (.iload_n 3, 1) := by decide +kernel
theorem dX7_settle_19 : decode cX7_settle 19 = .ok (.iload_n 2, 1) := by decide +kernel
theorem dX7_settle_20 : decode cX7_settle 20 = .ok (.if_icmp .ge 25, 3) := by decide +kernel
theorem dX7_settle_23 : decode cX7_settle 23 = .ok (.aload_n 1, 1) := by decide +kernel
theorem dX7_settle_24 : decode cX7_settle 24 = .ok (.iload_n 3, 1) := by decide +kernel
theorem dX7_settle_25 : decode cX7_settle 25 = .ok (.iaload, 1) := by decide +kernel
theorem dX7_settle_26 : decode cX7_settle 26 = .ok (.istore 4, 2) := by decide +kernel
theorem dX7_settle_28 : decode cX7_settle 28 = .ok (.aload_n 0, 1) := by decide +kernel
theorem dX7_settle_29 : decode cX7_settle 29 = .ok (.getfield 24, 3) := by decide +kernel
theorem dX7_settle_32 : decode cX7_settle 32 = .ok (.iload 4, 2) := by decide +kernel
theorem dX7_settle_34 : decode cX7_settle 34 = .ok (.dup2, 1) := by decide +kernel
theorem dX7_settle_35 : decode cX7_settle 35 = .ok (.iaload, 1) := by decide +kernel
theorem dX7_settle_36 : decode cX7_settle 36 = .ok (.iconst 1, 1) := by decide +kernel
theorem dX7_settle_37 : decode cX7_settle 37 = .ok (.iadd, 1) := by decide +kernel
theorem dX7_settle_38 : decode cX7_settle 38 = .ok (.iastore, 1) := by decide +kernel
theorem dX7_settle_39 : decode cX7_settle 39 = .ok (.iinc 3 1, 3) := by decide +kernel
theorem dX7_settle_42 : decode cX7_settle 42 = .ok (.goto (-24), 3) := by decide +kernel
theorem dX7_settle_45 : decode cX7_settle 45 = .ok (.iconst 0, 1) := by decide +kernel
theorem dX7_settle_46 : decode cX7_settle 46 = .ok (.istore_n 1, 1) := by decide +kernel
theorem dX7_settle_47 : decode cX7_settle 47 = .ok (.iconst 0, 1) := by decide +kernel
theorem dX7_settle_48 : decode cX7_settle 48 = .ok (.istore_n 2, 1) := by decide +kernel
theorem dX7_settle_49 : decode cX7_settle 49 = .ok (.iconst 1, 1) := by decide +kernel
theorem dX7_settle_50 : decode cX7_settle 50 = .ok (.istore_n 3, 1) := by decide +kernel
theorem dX7_settle_51 : decode cX7_settle 51 = .ok (.iload_n 3, 1) := by decide +kernel
theorem dX7_settle_52 : decode cX7_settle 52 = .ok (.bipush 16, 2) := by decide +kernel
theorem dX7_settle_54 : decode cX7_settle 54 = .ok (.if_icmp .gt 51, 3) := by decide +kernel
theorem dX7_settle_57 : decode cX7_settle 57 = .ok (.aload_n 0, 1) := by decide +kernel
theorem dX7_settle_58 : decode cX7_settle 58 = .ok (.getfield 27, 3) := by decide +kernel
theorem dX7_settle_61 : decode cX7_settle 61 = .ok (.iload_n 3, 1) := by decide +kernel
theorem dX7_settle_62 : decode cX7_settle 62 = .ok (.iload_n 1, 1) := by decide +kernel
theorem dX7_settle_63 : decode cX7_settle 63 = .ok (.bipush 16, 2) := by decide +kernel
theorem dX7_settle_65 : decode cX7_settle 65 = .ok (.iload_n 3, 1) := by decide +kernel
theorem dX7_settle_66 : decode cX7_settle 66 = .ok (.isub, 1) := by decide +kernel
theorem dX7_settle_67 : decode cX7_settle 67 = .ok (.ishr, 1) := by decide +kernel
theorem dX7_settle_68 : decode cX7_settle 68 = .ok (.iastore, 1) := by decide +kernel
theorem dX7_settle_69 : decode cX7_settle 69 = .ok (.aload_n 0, 1) := by decide +kernel
theorem dX7_settle_70 : decode cX7_settle 70 = .ok (.getfield 30, 3) := by decide +kernel
theorem dX7_settle_73 : decode cX7_settle 73 = .ok (.iload_n 3, 1) := by decide +kernel
theorem dX7_settle_74 : decode cX7_settle 74 = .ok (.iload_n 2, 1) := by decide +kernel
theorem dX7_settle_75 : decode cX7_settle 75 = .ok (.iastore, 1) := by decide +kernel
theorem dX7_settle_76 : decode cX7_settle 76 = .ok (.iload_n 1, 1) := by decide +kernel
theorem dX7_settle_77 : decode cX7_settle 77 = .ok (.aload_n 0, 1) := by decide +kernel
theorem dX7_settle_78 : decode cX7_settle 78 = .ok (.getfield 24, 3) := by decide +kernel
theorem dX7_settle_81 : decode cX7_settle 81 = .ok (.iload_n 3, 1) := by decide +kernel
theorem dX7_settle_82 : decode cX7_settle 82 = .ok (.iaload, 1) := by decide +kernel
theorem dX7_settle_83 : decode cX7_settle 83 = .ok (.bipush 16, 2) := by decide +kernel
theorem dX7_settle_85 : decode cX7_settle 85 = .ok (.iload_n 3, 1) := by decide +kernel
theorem dX7_settle_86 : decode cX7_settle 86 = .ok (.isub, 1) := by decide +kernel
theorem dX7_settle_87 : decode cX7_settle 87 = .ok (.ishl, 1) := by decide +kernel
theorem dX7_settle_88 : decode cX7_settle 88 = .ok (.iadd, 1) := by decide +kernel
theorem dX7_settle_89 : decode cX7_settle 89 = .ok (.istore_n 1, 1) := by decide +kernel
theorem dX7_settle_90 : decode cX7_settle 90 = .ok (.iload_n 2, 1) := by decide +kernel
theorem dX7_settle_91 : decode cX7_settle 91 = .ok (.aload_n 0, 1) := by decide +kernel
theorem dX7_settle_92 : decode cX7_settle 92 = .ok (.getfield 24, 3) := by decide +kernel
theorem dX7_settle_95 : decode cX7_settle 95 = .ok (.iload_n 3, 1) := by decide +kernel
theorem dX7_settle_96 : decode cX7_settle 96 = .ok (.iaload, 1) := by decide +kernel
theorem dX7_settle_97 : decode cX7_settle 97 = .ok (.iadd, 1) := by decide +kernel
theorem dX7_settle_98 : decode cX7_settle 98 = .ok (.istore_n 2, 1) := by decide +kernel
theorem dX7_settle_99 : decode cX7_settle 99 = .ok (.iinc 3 1, 3) := by decide +kernel
theorem dX7_settle_102 : decode cX7_settle 102 = .ok (.goto (-51), 3) := by decide +kernel
theorem dX7_settle_105 : decode cX7_settle 105 = .ok (.iload_n 1, 1) := by decide +kernel
theorem dX7_settle_106 : decode cX7_settle 106 = .ok (.ldc 51, 2) := by decide +kernel
theorem dX7_settle_108 : decode cX7_settle 108 = .ok (.if_icmp .eq 5, 3) := by decide +kernel
theorem dX7_settle_111 : decode cX7_settle 111 = .ok (.iconst 0, 1) := by decide +kernel
theorem dX7_settle_112 : decode cX7_settle 112 = .ok (.ireturn, 1) := by decide +kernel
theorem dX7_settle_113 : decode cX7_settle 113 = .ok (.aload_n 0, 1) := by decide +kernel
theorem dX7_settle_114 : decode cX7_settle 114 = .ok (.invokevirtual 52, 3) := by decide +kernel
theorem dX7_settle_117 : decode cX7_settle 117 = .ok (.iconst 1, 1) := by decide +kernel
theorem dX7_settle_118 : decode cX7_settle 118 = .ok (.ireturn, 1) := by decide +kernel
theorem dX7_number_0 : decode cX7_number 0 = .ok (.aload_n 0, 1) := by decide +kernel
theorem dX7_number_1 : decode cX7_number 1 = .ok (.getfield 24, 3) := by decide +kernel
theorem dX7_number_4 : decode cX7_number 4 = .ok (.iconst 0, 1) := by decide +kernel
theorem dX7_number_5 : decode cX7_number 5 = .ok (.invokestatic 37, 3) := by decide +kernel
theorem dX7_number_8 : decode cX7_number 8 = .ok (.iconst 0, 1) := by decide +kernel
theorem dX7_number_9 : decode cX7_number 9 = .ok (.istore_n 1, 1) := by decide +kernel
theorem dX7_number_10 : decode cX7_number 10 = .ok (.iload_n 1, 1) := by decide +kernel
theorem dX7_number_11 : decode cX7_number 11 = .ok (.aload_n 0, 1) := by decide +kernel
theorem dX7_number_12 : decode cX7_number 12 = .ok (.getfield 9, 3) := by decide +kernel
theorem dX7_number_15 : decode cX7_number 15 = .ok (.arraylength, 1) := by decide +kernel
theorem dX7_number_16 : decode cX7_number 16 = .ok (.if_icmp .ge 68, 3) := by decide +kernel
theorem dX7_number_19 : decode cX7_number 19 = .ok (.aload_n 0, 1) := by decide +kernel
theorem dX7_number_20 : decode cX7_number 20 = .ok (.getfield 9, 3) := by decide +kernel
theorem dX7_number_23 : decode cX7_number 23 = .ok (.iload_n 1, 1) := by decide +kernel
theorem dX7_number_24 : decode cX7_number 24 = .ok (.iaload, 1) := by decide +kernel
theorem dX7_number_25 : decode cX7_number 25 = .ok (.istore_n 2, 1) := by decide +kernel
theorem dX7_number_26 : decode cX7_number 26 = .ok (.iload_n 2, 1) := by decide +kernel
theorem dX7_number_27 : decode cX7_number 27 = .ok (.ifCond .le 51, 3) := by decide +kernel
theorem dX7_number_30 : decode cX7_number 30 = .ok (.aload_n 0, 1) := by decide +kernel
theorem dX7_number_31 : decode cX7_number 31 = .ok (.getfield 15, 3) := by decide +kernel
theorem dX7_number_34 : decode cX7_number 34 = .ok (.iload_n 1, 1) := by decide +kernel
theorem dX7_number_35 : decode cX7_number 35 = .ok (.aload_n 0, 1) := by decide +kernel
theorem dX7_number_36 : decode cX7_number 36 = .ok (.getfield 27, 3) := by decide +kernel
theorem dX7_number_39 : decode cX7_number 39 = .ok (.iload_n 2, 1) := by decide +kernel
theorem dX7_number_40 : decode cX7_number 40 = .ok (.iaload, 1) := by decide +kernel
theorem dX7_number_41 : decode cX7_number 41 = .ok (.aload_n 0, 1) := by decide +kernel
theorem dX7_number_42 : decode cX7_number 42 = .ok (.getfield 24, 3) := by decide +kernel
theorem dX7_number_45 : decode cX7_number 45 = .ok (.iload_n 2, 1) := by decide +kernel
theorem dX7_number_46 : decode cX7_number 46 = .ok (.iaload, 1) := by decide +kernel
theorem dX7_number_47 : decode cX7_number 47 = .ok (.iadd, 1) := by decide +kernel
theorem dX7_number_48 : decode cX7_number 48 = .ok (.iastore, 1) := by decide +kernel
theorem dX7_number_49 : decode cX7_number 49 = .ok (.aload_n 0, 1) := by decide +kernel
theorem dX7_number_50 : decode cX7_number 50 = .ok (.getfield 21, 3) := by decide +kernel
theorem dX7_number_53 : decode cX7_number 53 = .ok (.aload_n 0, 1) := by decide +kernel
theorem dX7_number_54 : decode cX7_number 54 = .ok (.getfield 30, 3) := by decide +kernel
theorem dX7_number_57 : decode cX7_number 57 = .ok (.iload_n 2, 1) := by decide +kernel
theorem dX7_number_58 : decode cX7_number 58 = .ok (.iaload, 1) := by decide +kernel
theorem dX7_number_59 : decode cX7_number 59 = .ok (.aload_n 0, 1) := by decide +kernel
theorem dX7_number_60 : decode cX7_number 60 = .ok (.getfield 24, 3) := by decide +kernel
theorem dX7_number_63 : decode cX7_number 63 = .ok (.iload_n 2, 1) := by decide +kernel
theorem dX7_number_64 : decode cX7_number 64 = .ok (.iaload, 1) := by decide +kernel
theorem dX7_number_65 : decode cX7_number 65 = .ok (.iadd, 1) := by decide +kernel
theorem dX7_number_66 : decode cX7_number 66 = .ok (.iload_n 1, 1) := by decide +kernel
theorem dX7_number_67 : decode cX7_number 67 = .ok (.iastore, 1) := by decide +kernel
theorem dX7_number_68 : decode cX7_number 68 = .ok (.aload_n 0, 1) := by decide +kernel
theorem dX7_number_69 : decode cX7_number 69 = .ok (.getfield 24, 3) := by decide +kernel
theorem dX7_number_72 : decode cX7_number 72 = .ok (.iload_n 2, 1) := by decide +kernel
theorem dX7_number_73 : decode cX7_number 73 = .ok (.dup2, 1) := by decide +kernel
theorem dX7_number_74 : decode cX7_number 74 = .ok (.iaload, 1) := by decide +kernel
theorem dX7_number_75 : decode cX7_number 75 = .ok (.iconst 1, 1) := by decide +kernel
theorem dX7_number_76 : decode cX7_number 76 = .ok (.iadd, 1) := by decide +kernel
theorem dX7_number_77 : decode cX7_number 77 = .ok (.iastore, 1) := by decide +kernel
theorem dX7_number_78 : decode cX7_number 78 = .ok (.iinc 1 1, 3) := by decide +kernel
theorem dX7_number_81 : decode cX7_number 81 = .ok (.goto (-71), 3) := by decide +kernel
theorem dX7_number_84 : decode cX7_number 84 = .ok (.return_, 1) := by decide +kernel
theorem dX7_symbolOf_0 : decode cX7_symbolOf 0 = .ok (.iload_n 1, 1) := by decide +kernel
theorem dX7_symbolOf_1 : decode cX7_symbolOf 1 = .ok (.aload_n 0, 1) := by decide +kernel
theorem dX7_symbolOf_2 : decode cX7_symbolOf 2 = .ok (.getfield 27, 3) := by decide +kernel
theorem dX7_symbolOf_5 : decode cX7_symbolOf 5 = .ok (.iload_n 2, 1) := by decide +kernel
theorem dX7_symbolOf_6 : decode cX7_symbolOf 6 = .ok (.iaload, 1) := by decide +kernel
theorem dX7_symbolOf_7 : decode cX7_symbolOf 7 = .ok (.isub, 1) := by decide +kernel
theorem dX7_symbolOf_8 : decode cX7_symbolOf 8 = .ok (.istore_n 3, 1) := by decide +kernel
theorem dX7_symbolOf_9 : decode cX7_symbolOf 9 = .ok (.iload_n 3, 1) := by decide +kernel
theorem dX7_symbolOf_10 : decode cX7_symbolOf 10 = .ok (.ifCond .lt 13, 3) := by decide +kernel
theorem dX7_symbolOf_13 : decode cX7_symbolOf 13 = .ok (.iload_n 3, 1) := by decide +kernel
theorem dX7_symbolOf_14 : decode cX7_symbolOf 14 = .ok (.aload_n 0, 1) := by decide +kernel
theorem dX7_symbolOf_15 : decode cX7_symbolOf 15 = .ok (.getfield 24, 3) := by decide +kernel
theorem dX7_symbolOf_18 : decode cX7_symbolOf 18 = .ok (.iload_n 2, 1) := by decide +kernel
theorem dX7_symbolOf_19 : decode cX7_symbolOf 19 = .ok (.iaload, 1) := by decide +kernel
theorem dX7_symbolOf_20 : decode cX7_symbolOf 20 = .ok (.if_icmp .lt 5, 3) := by decide +kernel
theorem dX7_symbolOf_23 : decode cX7_symbolOf 23 = .ok (.iconst (-1), 1) := by decide +kernel
theorem dX7_symbolOf_24 : decode cX7_symbolOf 24 = .ok (.ireturn, 1) := by decide +kernel
theorem dX7_symbolOf_25 : decode cX7_symbolOf 25 = .ok (.aload_n 0, 1) := by decide +kernel
theorem dX7_symbolOf_26 : decode cX7_symbolOf 26 = .ok (.getfield 21, 3) := by decide +kernel
theorem dX7_symbolOf_29 : decode cX7_symbolOf 29 = .ok (.aload_n 0, 1) := by decide +kernel
theorem dX7_symbolOf_30 : decode cX7_symbolOf 30 = .ok (.getfield 30, 3) := by decide +kernel
theorem dX7_symbolOf_33 : decode cX7_symbolOf 33 = .ok (.iload_n 2, 1) := by decide +kernel
theorem dX7_symbolOf_34 : decode cX7_symbolOf 34 = .ok (.iaload, 1) := by decide +kernel
theorem dX7_symbolOf_35 : decode cX7_symbolOf 35 = .ok (.iload_n 3, 1) := by decide +kernel
theorem dX7_symbolOf_36 : decode cX7_symbolOf 36 = .ok (.iadd, 1) := by decide +kernel
theorem dX7_symbolOf_37 : decode cX7_symbolOf 37 = .ok (.iaload, 1) := by decide +kernel
theorem dX7_symbolOf_38 : decode cX7_symbolOf 38 = .ok (.ireturn, 1) := by decide +kernel
theorem dX8_init_0 : decode cX8_init 0 = .ok (.aload_n 0, 1) := by decide +kernel
theorem dX8_init_1 : decode cX8_init 1 = .ok (.invokespecial 3, 3) := by decide +kernel
theorem dX8_init_4 : decode cX8_init 4 = .ok (.aload_n 0, 1) := by decide +kernel
theorem dX8_init_5 : decode cX8_init 5 = .ok (.new 9, 3) := by decide +kernel
theorem dX8_init_8 : decode cX8_init 8 = .ok (.dup, 1) := by decide +kernel
theorem dX8_init_9 : decode cX8_init 9 = .ok (.aload_n 1, 1) := by decide +kernel
theorem dX8_init_10 : decode cX8_init 10 = .ok (.invokespecial 11, 3) := by decide +kernel
theorem dX8_init_13 : decode cX8_init 13 = .ok (.putfield 14, 3) := by decide +kernel
theorem dX8_init_16 : decode cX8_init 16 = .ok (.aload_n 0, 1) := by decide +kernel
theorem dX8_init_17 : decode cX8_init 17 = .ok (.aload_n 2, 1) := by decide +kernel
theorem dX8_init_18 : decode cX8_init 18 = .ok (.putfield 20, 3) := by decide +kernel
theorem dX8_init_21 : decode cX8_init 21 = .ok (.aload_n 0, 1) := by decide +kernel
theorem dX8_init_22 : decode cX8_init 22 = .ok (.aload_n 3, 1) := by decide +kernel
theorem dX8_init_23 : decode cX8_init 23 = .ok (.putfield 24, 3) := by decide +kernel
theorem dX8_init_26 : decode cX8_init 26 = .ok (.aload_n 0, 1) := by decide +kernel
theorem dX8_init_27 : decode cX8_init 27 = .ok (.aload_n 3, 1) := by decide +kernel
theorem dX8_init_28 : decode cX8_init 28 = .ok (.iconst 0, 1) := by decide +kernel
theorem dX8_init_29 : decode cX8_init 29 = .ok (.invokevirtual 28, 3) := by decide +kernel
theorem dX8_init_32 : decode cX8_init 32 = .ok (.putfield 34, 3) := by decide +kernel
theorem dX8_init_35 : decode cX8_init 35 = .ok (.aload_n 0, 1) := by decide +kernel
theorem dX8_init_36 : decode cX8_init 36 = .ok (.aload_n 3, 1) := by decide +kernel
theorem dX8_init_37 : decode cX8_init 37 = .ok (.iconst 1, 1) := by decide +kernel
theorem dX8_init_38 : decode cX8_init 38 = .ok (.invokevirtual 28, 3) := by decide +kernel
theorem dX8_init_41 : decode cX8_init 41 = .ok (.putfield 38, 3) := by decide +kernel
theorem dX8_init_44 : decode cX8_init 44 = .ok (.aload_n 0, 1) := by decide +kernel
theorem dX8_init_45 : decode cX8_init 45 = .ok (.aload_n 3, 1) := by decide +kernel
theorem dX8_init_46 : decode cX8_init 46 = .ok (.iconst 2, 1) := by decide +kernel
theorem dX8_init_47 : decode cX8_init 47 = .ok (.invokevirtual 28, 3) := by decide +kernel
theorem dX8_init_50 : decode cX8_init 50 = .ok (.putfield 41, 3) := by decide +kernel
theorem dX8_init_53 : decode cX8_init 53 = .ok (.aload_n 0, 1) := by decide +kernel
theorem dX8_init_54 : decode cX8_init 54 = .ok (.iconst 0, 1) := by decide +kernel
theorem dX8_init_55 : decode cX8_init 55 = .ok (.putfield 44, 3) := by decide +kernel
theorem dX8_init_58 : decode cX8_init 58 = .ok (.return_, 1) := by decide +kernel
theorem dX8_unpack_0 : decode cX8_unpack 0 = .ok (.aload_n 0, 1) := by decide +kernel
theorem dX8_unpack_1 : decode cX8_unpack 1 = .ok (.getfield 14, 3) := by decide +kernel
theorem dX8_unpack_4 : decode cX8_unpack 4 = .ok (.iload_n 1, 1) := by decide +kernel
theorem dX8_unpack_5 : decode cX8_unpack 5 = .ok (.invokevirtual 48, 3) := by decide +kernel
theorem dX8_unpack_8 : decode cX8_unpack 8 = .ok (.aload_n 0, 1) := by decide +kernel
theorem dX8_unpack_9 : decode cX8_unpack 9 = .ok (.getfield 20, 3) := by decide +kernel
theorem dX8_unpack_12 : decode cX8_unpack 12 = .ok (.invokevirtual 52, 3) := by decide +kernel
theorem dX8_unpack_15 : decode cX8_unpack 15 = .ok (.aload_n 0, 1) := by decide +kernel
theorem dX8_unpack_16 : decode cX8_unpack 16 = .ok (.getfield 24, 3) := by decide +kernel
theorem dX8_unpack_19 : decode cX8_unpack 19 = .ok (.invokevirtual 57, 3) := by decide +kernel
theorem dX8_unpack_22 : decode cX8_unpack 22 = .ok (.aload_n 0, 1) := by decide +kernel
theorem dX8_unpack_23 : decode cX8_unpack 23 = .ok (.iload_n 2, 1) := by decide +kernel
theorem dX8_unpack_24 : decode cX8_unpack 24 = .ok (.putfield 44, 3) := by decide +kernel
theorem dX8_unpack_27 : decode cX8_unpack 27 = .ok (.iconst 0, 1) := by decide +kernel
theorem dX8_unpack_28 : decode cX8_unpack 28 = .ok (.istore_n 3, 1) := by decide +kernel
theorem dX8_unpack_29 : decode cX8_unpack 29 = .ok (.iconst 0, 1) := by decide +kernel
theorem dX8_unpack_30 : decode cX8_unpack 30 = .ok (.istore 4, 2) := by decide +kernel
theorem dX8_unpack_32 : decode cX8_unpack 32 = .ok (.iload 4, 2) := by decide +kernel
theorem dX8_unpack_34 : decode cX8_unpack 34 = .ok (.iload_n 2, 1) := by decide +kernel
theorem dX8_unpack_35 : decode cX8_unpack 35 = .ok (.if_icmp .ge 25, 3) := by decide +kernel
theorem dX8_unpack_38 : decode cX8_unpack 38 = .ok (.iload_n 3, 1) := by decide +kernel
theorem dX8_unpack_39 : decode cX8_unpack 39 = .ok (.ifCond .ne 21, 3) := by decide +kernel
theorem dX8_unpack_42 : decode cX8_unpack 42 = .ok (.aload_n 0, 1) := by decide +kernel
theorem dX8_unpack_43 : decode cX8_unpack 43 = .ok (.invokevirtual 59, 3) := by decide +kernel
theorem dX8_unpack_46 : decode cX8_unpack 46 = .ok (.ifCond .eq 14, 3) := by decide +kernel
theorem dX8_unpack_49 : decode cX8_unpack 49 = .ok (.aload_n 0, 1) := by decide +kernel
theorem dX8_unpack_50 : decode cX8_unpack 50 = .ok (.invokevirtual 63, 3) := by decide +kernel
theorem dX8_unpack_53 : decode cX8_unpack 53 = .ok (.istore_n 3, 1) := by decide +kernel
theorem dX8_unpack_54 : decode cX8_unpack 54 = .ok (.iinc 4 1, 3) := by decide +kernel
theorem dX8_unpack_57 : decode cX8_unpack 57 = .ok (.goto (-25), 3) := by decide +kernel
theorem dX8_unpack_60 : decode cX8_unpack 60 = .ok (.aload_n 0, 1) := by decide +kernel
theorem dX8_unpack_61 : decode cX8_unpack 61 = .ok (.getfield 24, 3) := by decide +kernel
theorem dX8_unpack_64 : decode cX8_unpack 64 = .ok (.aload_n 0, 1) := by decide +kernel
theorem dX8_unpack_65 : decode cX8_unpack 65 = .ok (.getfield 14, 3) := by decide +kernel
theorem dX8_unpack_68 : decode cX8_unpack 68 = .ok (.invokevirtual 67, 3) := by decide +kernel
theorem dX8_unpack_71 : decode cX8_unpack 71 = .ok (.invokevirtual 70, 3) := by decide +kernel
theorem dX8_unpack_74 : decode cX8_unpack 74 = .ok (.iload_n 3, 1) := by decide +kernel
theorem dX8_unpack_75 : decode cX8_unpack 75 = .ok (.ireturn, 1) := by decide +kernel
theorem dX8_wantsMore_0 : decode cX8_wantsMore 0 = .ok (.aload_n 0, 1) := by decide +kernel
theorem dX8_wantsMore_1 : decode cX8_wantsMore 1 = .ok (.getfield 20, 3) := by decide +kernel
theorem dX8_wantsMore_4 : decode cX8_wantsMore 4 = .ok (.invokevirtual 73, 3) := by decide +kernel
theorem dX8_wantsMore_7 : decode cX8_wantsMore 7 = .ok (.aload_n 0, 1) := by decide +kernel
theorem dX8_wantsMore_8 : decode cX8_wantsMore 8 = .ok (.getfield 44, 3) := by decide +kernel
theorem dX8_wantsMore_11 : decode cX8_wantsMore 11 = .ok (.if_icmp .ge 7, 3) := by decide +kernel
theorem dX8_wantsMore_14 : decode cX8_wantsMore 14 = .ok (.iconst 1, 1) := by decide +kernel
theorem dX8_wantsMore_15 : decode cX8_wantsMore 15 = .ok (.goto 4, 3) := by decide +kernel
theorem dX8_wantsMore_18 : decode cX8_wantsMore 18 = .ok (.iconst 0, 1) := by decide +kernel
theorem dX8_wantsMore_19 : decode cX8_wantsMore 19 = .ok (.ireturn, 1) := by decide +kernel
theorem dX8_unpackBlock_0 : decode cX8_unpackBlock 0 = .ok (.aload_n 0, 1) := by decide +kernel
theorem dX8_unpackBlock_1 : decode cX8_unpackBlock 1 = .ok (.getfield 24, 3) := by decide +kernel
theorem dX8_unpackBlock_4 : decode cX8_unpackBlock 4 = .ok (.invokevirtual 76, 3) := by decide +kernel
theorem dX8_unpackBlock_7 : decode cX8_unpackBlock 7 = .ok (.aload_n 0, 1) := by decide +kernel
theorem dX8_unpackBlock_8 : decode cX8_unpackBlock 8 = .ok (.getfield 14, 3) := by decide +kernel
theorem dX8_unpackBlock_11 : decode cX8_unpackBlock 11 = .ok (.bipush 16, 2) := by decide +kernel
theorem dX8_unpackBlock_13 : decode cX8_unpackBlock 13 = .ok (.invokevirtual 79, 3) := by decide +kernel
theorem dX8_unpackBlock_16 : decode cX8_unpackBlock 16 = .ok (.istore_n 1, 1) := by decide +kernel
theorem dX8_unpackBlock_17 : decode cX8_unpackBlock 17 = .ok (.iload_n 1, 1) := by decide +kernel
theorem dX8_unpackBlock_18 : decode cX8_unpackBlock 18 = .ok (.iconst (-1), 1) := by decide +kernel
theorem dX8_unpackBlock_19 : decode cX8_unpackBlock 19 = .ok (.if_icmp .ne 5, 3) := by decide +kernel
theorem dX8_unpackBlock_22 : decode cX8_unpackBlock 22 = .ok (.iconst 1, 1) := by decide +kernel
theorem dX8_unpackBlock_23 : decode cX8_unpackBlock 23 = .ok (.ireturn, 1) := by decide +kernel
theorem dX8_unpackBlock_24 : decode cX8_unpackBlock 24 = .ok (.iload_n 1, 1) := by decide +kernel
theorem dX8_unpackBlock_25 : decode cX8_unpackBlock 25 = .ok (.ifCond .ne 6, 3) := by decide +kernel
theorem dX8_unpackBlock_28 : decode cX8_unpackBlock 28 = .ok (.bipush 6, 2) := by decide +kernel
theorem dX8_unpackBlock_30 : decode cX8_unpackBlock 30 = .ok (.ireturn, 1) := by decide +kernel
theorem dX8_unpackBlock_31 : decode cX8_unpackBlock 31 = .ok (.aload_n 0, 1) := by decide +kernel
theorem dX8_unpackBlock_32 : decode cX8_unpackBlock 32 = .ok (.iconst 0, 1) := by decide +kernel
theorem dX8_unpackBlock_33 : decode cX8_unpackBlock 33 = .ok (.iconst 5, 1) := by decide +kernel
theorem dX8_unpackBlock_34 : decode cX8_unpackBlock 34 = .ok (.invokevirtual 83, 3) := by decide +kernel
theorem dX8_unpackBlock_37 : decode cX8_unpackBlock 37 = .ok (.istore_n 2, 1) := by decide +kernel
theorem dX8_unpackBlock_38 : decode cX8_unpackBlock 38 = .ok (.iload_n 2, 1) := by decide +kernel
theorem dX8_unpackBlock_39 : decode cX8_unpackBlock 39 = .ok (.ifCond .ne 11, 3) := by decide +kernel
theorem dX8_unpackBlock_42 : decode cX8_unpackBlock 42 = .ok (.aload_n 0, 1) := by decide +kernel
theorem dX8_unpackBlock_43 : decode cX8_unpackBlock 43 = .ok (.iconst 1, 1) := by decide +kernel
theorem dX8_unpackBlock_44 : decode cX8_unpackBlock 44 = .ok (.bipush 9, 2) := by decide +kernel
theorem dX8_unpackBlock_46 : decode cX8_unpackBlock 46 = .ok (.invokevirtual 83, 3) := by decide +kernel
theorem dX8_unpackBlock_49 : decode cX8_unpackBlock 49 = .ok (.istore_n 2, 1) := by decide +kernel
theorem dX8_unpackBlock_50 : decode cX8_unpackBlock 50 = .ok (.iload_n 2, 1) := by decide +kernel
theorem dX8_unpackBlock_51 : decode cX8_unpackBlock 51 = .ok (.ifCond .ne 10, 3) := by decide +kernel
theorem dX8_unpackBlock_54 : decode cX8_unpackBlock 54 = .ok (.aload_n 0, 1) := by decide +kernel
theorem dX8_unpackBlock_55 : decode cX8_unpackBlock 55 = .ok (.iconst 2, 1) := by decide +kernel
theorem dX8_unpackBlock_56 : decode cX8_unpackBlock 56 = .ok (.iconst 4, 1) := by decide +kernel
theorem dX8_unpackBlock_57 : decode cX8_unpackBlock 57 = .ok (.invokevirtual 83, 3) := by decide +kernel
theorem dX8_unpackBlock_60 : decode cX8_unpackBlock 60 = .ok (.istore_n 2, 1) := by decide +kernel
theorem dX8_unpackBlock_61 : decode cX8_unpackBlock 61 = .ok (.iconst 0, 1) := by decide +kernel
theorem dX8_unpackBlock_62 : decode cX8_unpackBlock 62 = .ok (.istore_n 3, 1) := by decide +kernel
theorem dX8_unpackBlock_63 : decode cX8_unpackBlock 63 = .ok (.iload_n 3, 1) := by decide +kernel
theorem dX8_unpackBlock_64 : decode cX8_unpackBlock 64 = .ok (.iload_n 1, 1) := by decide +kernel
theorem dX8_unpackBlock_65 : decode cX8_unpackBlock 65 = .ok (.if_icmp .ge 25, 3) := by decide +kernel
theorem dX8_unpackBlock_68 : decode cX8_unpackBlock 68 = .ok (.iload_n 2, 1) := by decide +kernel
theorem dX8_unpackBlock_69 : decode cX8_unpackBlock 69 = .ok (.ifCond .ne 21, 3) := by decide +kernel
theorem dX8_unpackBlock_72 : decode cX8_unpackBlock 72 = .ok (.aload_n 0, 1) := by decide +kernel
theorem dX8_unpackBlock_73 : decode cX8_unpackBlock 73 = .ok (.invokevirtual 59, 3) := by decide +kernel
theorem dX8_unpackBlock_76 : decode cX8_unpackBlock 76 = .ok (.ifCond .eq 14, 3) := by decide +kernel
theorem dX8_unpackBlock_79 : decode cX8_unpackBlock 79 = .ok (.aload_n 0, 1) := by decide +kernel
theorem dX8_unpackBlock_80 : decode cX8_unpackBlock 80 = .ok (.invokevirtual 87, 3) := by decide +kernel
theorem dX8_unpackBlock_83 : decode cX8_unpackBlock 83 = .ok (.istore_n 2, 1) := by decide +kernel
theorem dX8_unpackBlock_84 : decode cX8_unpackBlock 84 = .ok (.iinc 3 1, 3) := by decide +kernel
theorem dX8_unpackBlock_87 : decode cX8_unpackBlock 87 = .ok (.goto (-24), 3) := by decide +kernel
theorem dX8_unpackBlock_90 : decode cX8_unpackBlock 90 = .ok (.iload_n 2, 1) := by decide +kernel
theorem dX8_unpackBlock_91 : decode cX8_unpackBlock 91 = .ok (.ireturn, 1) := by decide +kernel
theorem dX8_takeTree_0 : decode cX8_takeTree 0 = .ok (.aload_n 0, 1) := by decide +kernel
theorem dX8_takeTree_1 : decode cX8_takeTree 1 = .ok (.getfield 24, 3) := by decide +kernel
theorem dX8_takeTree_4 : decode cX8_takeTree 4 = .ok (.iload_n 1, 1) := by decide +kernel
theorem dX8_takeTree_5 : decode cX8_takeTree 5 = .ok (.invokevirtual 28, 3) := by decide +kernel
theorem dX8_takeTree_8 : decode cX8_takeTree 8 = .ok (.astore_n 3, 1) := by decide +kernel
theorem dX8_takeTree_9 : decode cX8_takeTree 9 = .ok (.aload_n 0, 1) := by decide +kernel
theorem dX8_takeTree_10 : decode cX8_takeTree 10 = .ok (.getfield 14, 3) := by decide +kernel
theorem dX8_takeTree_13 : decode cX8_takeTree 13 = .ok (.iload_n 2, 1) := by decide +kernel
theorem dX8_takeTree_14 : decode cX8_takeTree 14 = .ok (.invokevirtual 79, 3) := by decide +kernel
theorem dX8_takeTree_17 : decode cX8_takeTree 17 = .ok (.istore 4, 2) := by decide +kernel
theorem dX8_takeTree_19 : decode cX8_takeTree 19 = .ok (.iload 4, 2) := by decide +kernel
theorem dX8_takeTree_21 : decode cX8_takeTree 21 = .ok (.iconst (-1), 1) := by decide +kernel
theorem dX8_takeTree_22 : decode cX8_takeTree 22 = .ok (.if_icmp .ne 5, 3) := by decide +kernel
theorem dX8_takeTree_25 : decode cX8_takeTree 25 = .ok (.iconst 1, 1) := by decide +kernel
theorem dX8_takeTree_26 : decode cX8_takeTree 26 = .ok (.ireturn, 1) := by decide +kernel
theorem dX8_takeTree_27 : decode cX8_takeTree 27 = .ok (.iload 4, 2) := by decide +kernel
theorem dX8_takeTree_29 : decode cX8_takeTree 29 = .ok (.aload_n 3, 1) := by decide +kernel
theorem dX8_takeTree_30 : decode cX8_takeTree 30 = .ok (.invokevirtual 90, 3) := by decide +kernel
theorem dX8_takeTree_33 : decode cX8_takeTree 33 = .ok (.if_icmp .le 5, 3) := by decide +kernel
theorem dX8_takeTree_36 : decode cX8_takeTree 36 = .ok (.iconst 3, 1) := by decide +kernel
theorem dX8_takeTree_37 : decode cX8_takeTree 37 = .ok (.ireturn, 1) := by decide +kernel
theorem dX8_takeTree_38 : decode cX8_takeTree 38 = .ok (.iload 4, 2) := by decide +kernel
theorem dX8_takeTree_40 : decode cX8_takeTree 40 = .ok (.ifCond .ne 10, 3) := by decide +kernel
theorem dX8_takeTree_43 : decode cX8_takeTree 43 = .ok (.aload_n 0, 1) := by decide +kernel
theorem dX8_takeTree_44 : decode cX8_takeTree 44 = .ok (.aload_n 3, 1) := by decide +kernel
theorem dX8_takeTree_45 : decode cX8_takeTree 45 = .ok (.iload_n 2, 1) := by decide +kernel
theorem dX8_takeTree_46 : decode cX8_takeTree 46 = .ok (.invokevirtual 95, 3) := by decide +kernel
theorem dX8_takeTree_49 : decode cX8_takeTree 49 = .ok (.ireturn, 1) := by decide +kernel
theorem dX8_takeTree_50 : decode cX8_takeTree 50 = .ok (.iload_n 1, 1) := by decide +kernel
theorem dX8_takeTree_51 : decode cX8_takeTree 51 = .ok (.iconst 1, 1) := by decide +kernel
theorem dX8_takeTree_52 : decode cX8_takeTree 52 = .ok (.if_icmp .ne 12, 3) := by decide +kernel
theorem dX8_takeTree_55 : decode cX8_takeTree 55 = .ok (.aload_n 0, 1) := by decide +kernel
theorem dX8_takeTree_56 : decode cX8_takeTree 56 = .ok (.iload 4, 2) := by decide +kernel
theorem dX8_takeTree_58 : decode cX8_takeTree 58 = .ok (.invokevirtual 99, 3) := by decide +kernel
theorem dX8_takeTree_61 : decode cX8_takeTree 61 = .ok (.goto 19, 3) := by decide +kernel
theorem dX8_takeTree_64 : decode cX8_takeTree 64 = .ok (.aload_n 0, 1) := by decide +kernel
theorem dX8_takeTree_65 : decode cX8_takeTree 65 = .ok (.aload_n 3, 1) := by decide +kernel
theorem dX8_takeTree_66 : decode cX8_takeTree 66 = .ok (.iload 4, 2) := by decide +kernel
theorem dX8_takeTree_68 : decode cX8_takeTree 68 = .ok (.iload_n 1, 1) := by decide +kernel
theorem dX8_takeTree_69 : decode cX8_takeTree 69 = .ok (.ifCond .ne 7, 3) := by decide +kernel
theorem dX8_takeTree_72 : decode cX8_takeTree 72 = .ok (.iconst 1, 1) := by decide +kernel
theorem dX8_takeTree_73 : decode cX8_takeTree 73 = .ok (.goto 4, 3) := by decide +kernel
theorem dX8_takeTree_76 : decode cX8_takeTree 76 = .ok (.iconst 0, 1) := by decide +kernel
theorem dX8_takeTree_77 : decode cX8_takeTree 77 = .ok (.invokevirtual 102, 3) := by decide +kernel
theorem dX8_takeTree_80 : decode cX8_takeTree 80 = .ok (.istore 5, 2) := by decide +kernel
theorem dX8_takeTree_82 : decode cX8_takeTree 82 = .ok (.iload 5, 2) := by decide +kernel
theorem dX8_takeTree_84 : decode cX8_takeTree 84 = .ok (.ifCond .eq 6, 3) := by decide +kernel
theorem dX8_takeTree_87 : decode cX8_takeTree 87 = .ok (.iload 5, 2) := by decide +kernel
theorem dX8_takeTree_89 : decode cX8_takeTree 89 = .ok (.ireturn, 1) := by decide +kernel
theorem dX8_takeTree_90 : decode cX8_takeTree 90 = .ok (.aload_n 3, 1) := by decide +kernel
theorem dX8_takeTree_91 : decode cX8_takeTree 91 = .ok (.invokevirtual 106, 3) := by decide +kernel
theorem dX8_takeTree_94 : decode cX8_takeTree 94 = .ok (.ifCond .eq 7, 3) := by decide +kernel
theorem dX8_takeTree_97 : decode cX8_takeTree 97 = .ok (.iconst 0, 1) := by decide +kernel
theorem dX8_takeTree_98 : decode cX8_takeTree 98 = .ok (.goto 4, 3) := by decide +kernel
theorem dX8_takeTree_101 : decode cX8_takeTree 101 = .ok (.iconst 2, 1) := by decide +kernel
theorem dX8_takeTree_102 : decode cX8_takeTree 102 = .ok (.ireturn, 1) := by decide +kernel
theorem dX8_takeAlone_0 : decode cX8_takeAlone 0 = .ok (.aload_n 0, 1) := by decide +kernel
theorem dX8_takeAlone_1 : decode cX8_takeAlone 1 = .ok (.getfield 14, 3) := by decide +kernel
theorem dX8_takeAlone_4 : decode cX8_takeAlone 4 = .ok (.iload_n 2, 1) := by decide +kernel
theorem dX8_takeAlone_5 : decode cX8_takeAlone 5 = .ok (.invokevirtual 79, 3) := by decide +kernel
theorem dX8_takeAlone_8 : decode cX8_takeAlone 8 = .ok (.istore_n 3, 1) := by decide +kernel
theorem dX8_takeAlone_9 : decode cX8_takeAlone 9 = .ok (.iload_n 3, 1) := by decide +kernel
theorem dX8_takeAlone_10 : decode cX8_takeAlone 10 = .ok (.iconst (-1), 1) := by decide +kernel
theorem dX8_takeAlone_11 : decode cX8_takeAlone 11 = .ok (.if_icmp .ne 5, 3) := by decide +kernel
theorem dX8_takeAlone_14 : decode cX8_takeAlone 14 = .ok (.iconst 1, 1) := by decide +kernel
theorem dX8_takeAlone_15 : decode cX8_takeAlone 15 = .ok (.ireturn, 1) := by decide +kernel
theorem dX8_takeAlone_16 : decode cX8_takeAlone 16 = .ok (.aload_n 1, 1) := by decide +kernel
theorem dX8_takeAlone_17 : decode cX8_takeAlone 17 = .ok (.iload_n 3, 1) := by decide +kernel
theorem dX8_takeAlone_18 : decode cX8_takeAlone 18 = .ok (.invokevirtual 109, 3) := by decide +kernel
theorem dX8_takeAlone_21 : decode cX8_takeAlone 21 = .ok (.ifCond .ne 5, 3) := by decide +kernel
theorem dX8_takeAlone_24 : decode cX8_takeAlone 24 = .ok (.iconst 3, 1) := by decide +kernel
theorem dX8_takeAlone_25 : decode cX8_takeAlone 25 = .ok (.ireturn, 1) := by decide +kernel
theorem dX8_takeAlone_26 : decode cX8_takeAlone 26 = .ok (.aload_n 1, 1) := by decide +kernel
theorem dX8_takeAlone_27 : decode cX8_takeAlone 27 = .ok (.iload_n 3, 1) := by decide +kernel
theorem dX8_takeAlone_28 : decode cX8_takeAlone 28 = .ok (.invokevirtual 113, 3) := by decide +kernel
theorem dX8_takeAlone_31 : decode cX8_takeAlone 31 = .ok (.iconst 0, 1) := by decide +kernel
theorem dX8_takeAlone_32 : decode cX8_takeAlone 32 = .ok (.ireturn, 1) := by decide +kernel
theorem dX8_takeLengths_0 : decode cX8_takeLengths 0 = .ok (.iconst 0, 1) := by decide +kernel
theorem dX8_takeLengths_1 : decode cX8_takeLengths 1 = .ok (.istore 4, 2) := by decide +kernel
theorem dX8_takeLengths_3 : decode cX8_takeLengths 3 = .ok (.iload 4, 2) := by decide +kernel
theorem dX8_takeLengths_5 : decode cX8_takeLengths 5 = .ok (.iload_n 2, 1) := by decide +kernel
theorem dX8_takeLengths_6 : decode cX8_takeLengths 6 = .ok (.if_icmp .ge 78, 3) := by decide +kernel
theorem dX8_takeLengths_9 : decode cX8_takeLengths 9 = .ok (.aload_n 0, 1) := by decide +kernel
theorem dX8_takeLengths_10 : decode cX8_takeLengths 10 = .ok (.getfield 14, 3) := by decide +kernel
theorem dX8_takeLengths_13 : decode cX8_takeLengths 13 = .ok (.invokevirtual 116, 3) := by decide +kernel
theorem dX8_takeLengths_16 : decode cX8_takeLengths 16 = .ok (.istore 5, 2) := by decide +kernel
theorem dX8_takeLengths_18 : decode cX8_takeLengths 18 = .ok (.iload 5, 2) := by decide +kernel
theorem dX8_takeLengths_20 : decode cX8_takeLengths 20 = .ok (.iconst (-1), 1) := by decide +kernel
theorem dX8_takeLengths_21 : decode cX8_takeLengths 21 = .ok (.if_icmp .ne 5, 3) := by decide +kernel
theorem dX8_takeLengths_24 : decode cX8_takeLengths 24 = .ok (.iconst 1, 1) := by decide +kernel
theorem dX8_takeLengths_25 : decode cX8_takeLengths 25 = .ok (.ireturn, 1) := by decide +kernel
theorem dX8_takeLengths_26 : decode cX8_takeLengths 26 = .ok (.iload 5, 2) := by decide +kernel
theorem dX8_takeLengths_28 : decode cX8_takeLengths 28 = .ok (.bipush 16, 2) := by decide +kernel
theorem dX8_takeLengths_30 : decode cX8_takeLengths 30 = .ok (.if_icmp .le 5, 3) := by decide +kernel
theorem dX8_takeLengths_33 : decode cX8_takeLengths 33 = .ok (.iconst 2, 1) := by decide +kernel
theorem dX8_takeLengths_34 : decode cX8_takeLengths 34 = .ok (.ireturn, 1) := by decide +kernel
theorem dX8_takeLengths_35 : decode cX8_takeLengths 35 = .ok (.aload_n 1, 1) := by decide +kernel
theorem dX8_takeLengths_36 : decode cX8_takeLengths 36 = .ok (.iload 4, 2) := by decide +kernel
theorem dX8_takeLengths_38 : decode cX8_takeLengths 38 = .ok (.iload 5, 2) := by decide +kernel
theorem dX8_takeLengths_40 : decode cX8_takeLengths 40 = .ok (.invokevirtual 119, 3) := by decide +kernel
theorem dX8_takeLengths_43 : decode cX8_takeLengths 43 = .ok (.iload_n 3, 1) := by decide +kernel
theorem dX8_takeLengths_44 : decode cX8_takeLengths 44 = .ok (.ifCond .eq 34, 3) := by decide +kernel
theorem dX8_takeLengths_47 : decode cX8_takeLengths 47 = .ok (.iload 4, 2) := by decide +kernel
theorem dX8_takeLengths_49 : decode cX8_takeLengths 49 = .ok (.iconst 2, 1) := by decide +kernel
theorem dX8_takeLengths_50 : decode cX8_takeLengths 50 = .ok (.if_icmp .ne 28, 3) := by decide +kernel
theorem dX8_takeLengths_53 : decode cX8_takeLengths 53 = .ok (.aload_n 0, 1) := by decide +kernel
theorem dX8_takeLengths_54 : decode cX8_takeLengths 54 = .ok (.getfield 14, 3) := by decide +kernel
theorem dX8_takeLengths_57 : decode cX8_takeLengths 57 = .ok (.iconst 2, 1) := by decide +kernel
theorem dX8_takeLengths_58 : decode cX8_takeLengths 58 = .ok (.invokevirtual 79, 3) := by decide +kernel
theorem dX8_takeLengths_61 : decode cX8_takeLengths 61 = .ok (.istore 6, 2) := by decide +kernel
theorem dX8_takeLengths_63 : decode cX8_takeLengths 63 = .ok (.iload 6, 2) := by decide +kernel
theorem dX8_takeLengths_65 : decode cX8_takeLengths 65 = .ok (.iconst (-1), 1) := by decide +kernel
theorem dX8_takeLengths_66 : decode cX8_takeLengths 66 = .ok (.if_icmp .ne 5, 3) := by decide +kernel
theorem dX8_takeLengths_69 : decode cX8_takeLengths 69 = .ok (.iconst 1, 1) := by decide +kernel
theorem dX8_takeLengths_70 : decode cX8_takeLengths 70 = .ok (.ireturn, 1) := by decide +kernel
theorem dX8_takeLengths_71 : decode cX8_takeLengths 71 = .ok (.iload 4, 2) := by decide +kernel
theorem dX8_takeLengths_73 : decode cX8_takeLengths 73 = .ok (.iload 6, 2) := by decide +kernel
theorem dX8_takeLengths_75 : decode cX8_takeLengths 75 = .ok (.iadd, 1) := by decide +kernel
theorem dX8_takeLengths_76 : decode cX8_takeLengths 76 = .ok (.istore 4, 2) := by decide +kernel
theorem dX8_takeLengths_78 : decode cX8_takeLengths 78 = .ok (.iinc 4 1, 3) := by decide +kernel
theorem dX8_takeLengths_81 : decode cX8_takeLengths 81 = .ok (.goto (-78), 3) := by decide +kernel
theorem dX8_takeLengths_84 : decode cX8_takeLengths 84 = .ok (.iconst 0, 1) := by decide +kernel
theorem dX8_takeLengths_85 : decode cX8_takeLengths 85 = .ok (.ireturn, 1) := by decide +kernel
theorem dX8_takeLengthsByT_0 : decode cX8_takeLengthsByT 0 = .ok (.iconst 0, 1) := by decide +kernel
theorem dX8_takeLengthsByT_1 : decode cX8_takeLengthsByT 1 = .ok (.istore_n 2, 1) := by decide +kernel
theorem dX8_takeLengthsByT_2 : decode cX8_takeLengthsByT 2 = .ok (.iconst 0, 1) := by decide +kernel
theorem dX8_takeLengthsByT_3 : decode cX8_takeLengthsByT 3 = .ok (.istore_n 3, 1) := by decide +kernel
theorem dX8_takeLengthsByT_4 : decode cX8_takeLengthsByT 4 = .ok (.iload_n 3, 1) := by decide +kernel
theorem dX8_takeLengthsByT_5 : decode cX8_takeLengthsByT 5 = .ok (.iload_n 1, 1) := by decide +kernel
theorem dX8_takeLengthsByT_6 : decode cX8_takeLengthsByT 6 = .ok (.if_icmp .ge 86, 3) := by decide +kernel
theorem dX8_takeLengthsByT_9 : decode cX8_takeLengthsByT 9 = .ok (.iload_n 2, 1) := by decide +kernel
theorem dX8_takeLengthsByT_10 : decode cX8_takeLengthsByT 10 = .ok (.iload_n 1, 1) := by decide +kernel
theorem dX8_takeLengthsByT_11 : decode cX8_takeLengthsByT 11 = .ok (.if_icmp .ge 81, 3) := by decide +kernel
theorem dX8_takeLengthsByT_14 : decode cX8_takeLengthsByT 14 = .ok (.aload_n 0, 1) := by decide +kernel
theorem dX8_takeLengthsByT_15 : decode cX8_takeLengthsByT 15 = .ok (.getfield 14, 3) := by decide +kernel
theorem dX8_takeLengthsByT_18 : decode cX8_takeLengthsByT 18 = .ok (.aload_n 0, 1) := by decide +kernel
theorem dX8_takeLengthsByT_19 : decode cX8_takeLengthsByT 19 = .ok (.getfield 34, 3) := by decide +kernel
theorem dX8_takeLengthsByT_22 : decode cX8_takeLengthsByT 22 = .ok (.invokevirtual 123, 3) := by decide +kernel
theorem dX8_takeLengthsByT_25 : decode cX8_takeLengthsByT 25 = .ok (.istore 4, 2) := by decide +kernel
theorem dX8_takeLengthsByT_27 : decode cX8_takeLengthsByT 27 = .ok (.iload 4, 2) := by decide +kernel
theorem dX8_takeLengthsByT_29 : decode cX8_takeLengthsByT 29 = .ok (.iconst (-1), 1) := by decide +kernel
theorem dX8_takeLengthsByT_30 : decode cX8_takeLengthsByT 30 = .ok (.if_icmp .ne 5, 3) := by decide +kernel
theorem dX8_takeLengthsByT_33 : decode cX8_takeLengthsByT 33 = .ok (.iconst 1, 1) := by decide +kernel
theorem dX8_takeLengthsByT_34 : decode cX8_takeLengthsByT 34 = .ok (.ireturn, 1) := by decide +kernel
theorem dX8_takeLengthsByT_35 : decode cX8_takeLengthsByT 35 = .ok (.iload 4, 2) := by decide +kernel
theorem dX8_takeLengthsByT_37 : decode cX8_takeLengthsByT 37 = .ok (.iconst 2, 1) := by decide +kernel
theorem dX8_takeLengthsByT_38 : decode cX8_takeLengthsByT 38 = .ok (.if_icmp .le 15, 3) := by decide +kernel
theorem dX8_takeLengthsByT_41 : decode cX8_takeLengthsByT 41 = .ok (.aload_n 0, 1) := by decide +kernel
theorem dX8_takeLengthsByT_42 : decode cX8_takeLengthsByT 42 = .ok (.getfield 38, 3) := by decide +kernel
theorem dX8_takeLengthsByT_45 : decode cX8_takeLengthsByT 45 = .ok (.iload_n 2, 1) := by decide +kernel
theorem dX8_takeLengthsByT_46 : decode cX8_takeLengthsByT 46 = .ok (.iload 4, 2) := by decide +kernel
theorem dX8_takeLengthsByT_48 : decode cX8_takeLengthsByT 48 = .ok (.iconst 2, 1) := by decide +kernel
theorem dX8_takeLengthsByT_49 : decode cX8_takeLengthsByT 49 = .ok (.isub, 1) := by decide +kernel
theorem dX8_takeLengthsByT_50 : decode cX8_takeLengthsByT 50 = .ok (.invokevirtual 119, 3) := by decide +kernel
theorem dX8_takeLengthsByT_53 : decode cX8_takeLengthsByT 53 = .ok (.aload_n 0, 1) := by decide +kernel
theorem dX8_takeLengthsByT_54 : decode cX8_takeLengthsByT 54 = .ok (.getfield 14, 3) := by decide +kernel
theorem dX8_takeLengthsByT_57 : decode cX8_takeLengthsByT 57 = .ok (.iload 4, 2) := by decide +kernel
theorem dX8_takeLengthsByT_59 : decode cX8_takeLengthsByT 59 = .ok (.invokestatic 127, 3) := by decide +kernel
theorem dX8_takeLengthsByT_62 : decode cX8_takeLengthsByT 62 = .ok (.invokevirtual 79, 3) := by decide +kernel
theorem dX8_takeLengthsByT_65 : decode cX8_takeLengthsByT 65 = .ok (.istore 5, 2) := by decide +kernel
theorem dX8_takeLengthsByT_67 : decode cX8_takeLengthsByT 67 = .ok (.iload 5, 2) := by decide +kernel
theorem dX8_takeLengthsByT_69 : decode cX8_takeLengthsByT 69 = .ok (.iconst (-1), 1) := by decide +kernel
theorem dX8_takeLengthsByT_70 : decode cX8_takeLengthsByT 70 = .ok (.if_icmp .ne 5, 3) := by decide +kernel
theorem dX8_takeLengthsByT_73 : decode cX8_takeLengthsByT 73 = .ok (.iconst 1, 1) := by decide +kernel
theorem dX8_takeLengthsByT_74 : decode cX8_takeLengthsByT 74 = .ok (.ireturn, 1) := by decide +kernel
theorem dX8_takeLengthsByT_75 : decode cX8_takeLengthsByT 75 = .ok (.iload_n 2, 1) := by decide +kernel
theorem dX8_takeLengthsByT_76 : decode cX8_takeLengthsByT 76 = .ok (.iload 4, 2) := by decide +kernel
theorem dX8_takeLengthsByT_78 : decode cX8_takeLengthsByT 78 = .ok (.invokestatic 130, 3) := by decide +kernel
theorem dX8_takeLengthsByT_81 : decode cX8_takeLengthsByT 81 = .ok (.iload 5, 2) := by decide +kernel
theorem dX8_takeLengthsByT_83 : decode cX8_takeLengthsByT 83 = .ok (.iadd, 1) := by decide +kernel
theorem dX8_takeLengthsByT_84 : decode cX8_takeLengthsByT 84 = .ok (.iadd, 1) := by decide +kernel
theorem dX8_takeLengthsByT_85 : decode cX8_takeLengthsByT 85 = .ok (.istore_n 2, 1) := by decide +kernel
theorem dX8_takeLengthsByT_86 : decode cX8_takeLengthsByT 86 = .ok (.iinc 3 1, 3) := by decide +kernel
theorem dX8_takeLengthsByT_89 : decode cX8_takeLengthsByT 89 = .ok (.goto (-85), 3) := by decide +kernel
theorem dX8_takeLengthsByT_92 : decode cX8_takeLengthsByT 92 = .ok (.iload_n 2, 1) := by decide +kernel
theorem dX8_takeLengthsByT_93 : decode cX8_takeLengthsByT 93 = .ok (.iload_n 1, 1) := by decide +kernel
theorem dX8_takeLengthsByT_94 : decode cX8_takeLengthsByT 94 = .ok (.if_icmp .le 7, 3) := by decide +kernel
theorem dX8_takeLengthsByT_97 : decode cX8_takeLengthsByT 97 = .ok (.iconst 3, 1) := by decide +kernel
theorem dX8_takeLengthsByT_98 : decode cX8_takeLengthsByT 98 = .ok (.goto 4, 3) := by decide +kernel
theorem dX8_takeLengthsByT_101 : decode cX8_takeLengthsByT 101 = .ok (.iconst 0, 1) := by decide +kernel
theorem dX8_takeLengthsByT_102 : decode cX8_takeLengthsByT 102 = .ok (.ireturn, 1) := by decide +kernel
theorem dX8_unpackCode_0 : decode cX8_unpackCode 0 = .ok (.aload_n 0, 1) := by decide +kernel
theorem dX8_unpackCode_1 : decode cX8_unpackCode 1 = .ok (.getfield 14, 3) := by decide +kernel
theorem dX8_unpackCode_4 : decode cX8_unpackCode 4 = .ok (.aload_n 0, 1) := by decide +kernel
theorem dX8_unpackCode_5 : decode cX8_unpackCode 5 = .ok (.getfield 38, 3) := by decide +kernel
theorem dX8_unpackCode_8 : decode cX8_unpackCode 8 = .ok (.invokevirtual 123, 3) := by decide +kernel
theorem dX8_unpackCode_11 : decode cX8_unpackCode 11 = .ok (.istore_n 1, 1) := by decide +kernel
theorem dX8_unpackCode_12 : decode cX8_unpackCode 12 = .ok (.iload_n 1, 1) := by decide +kernel
theorem dX8_unpackCode_13 : decode cX8_unpackCode 13 = .ok (.iconst (-1), 1) := by decide +kernel
theorem dX8_unpackCode_14 : decode cX8_unpackCode 14 = .ok (.if_icmp .ne 5, 3) := by decide +kernel
theorem dX8_unpackCode_17 : decode cX8_unpackCode 17 = .ok (.iconst 1, 1) := by decide +kernel
theorem dX8_unpackCode_18 : decode cX8_unpackCode 18 = .ok (.ireturn, 1) := by decide +kernel
theorem dX8_unpackCode_19 : decode cX8_unpackCode 19 = .ok (.iload_n 1, 1) := by decide +kernel
theorem dX8_unpackCode_20 : decode cX8_unpackCode 20 = .ok (.sipush 256, 3) := by decide +kernel
theorem dX8_unpackCode_23 : decode cX8_unpackCode 23 = .ok (.if_icmp .ge 20, 3) := by decide +kernel
theorem dX8_unpackCode_26 : decode cX8_unpackCode 26 = .ok (.aload_n 0, 1) := by decide +kernel
theorem dX8_unpackCode_27 : decode cX8_unpackCode 27 = .ok (.getfield 20, 3) := by decide +kernel
theorem dX8_unpackCode_30 : decode cX8_unpackCode 30 = .ok (.iload_n 1, 1) := by decide +kernel
theorem dX8_unpackCode_31 : decode cX8_unpackCode 31 = .ok (.invokevirtual 133, 3) := by decide +kernel
theorem dX8_unpackCode_34 : decode cX8_unpackCode 34 = .ok (.aload_n 0, 1) := by decide +kernel
theorem dX8_unpackCode_35 : decode cX8_unpackCode 35 = .ok (.getfield 24, 3) := by decide +kernel
theorem dX8_unpackCode_38 : decode cX8_unpackCode 38 = .ok (.invokevirtual 136, 3) := by decide +kernel
theorem dX8_unpackCode_41 : decode cX8_unpackCode 41 = .ok (.iconst 0, 1) := by decide +kernel
theorem dX8_unpackCode_42 : decode cX8_unpackCode 42 = .ok (.ireturn, 1) := by decide +kernel
theorem dX8_unpackCode_43 : decode cX8_unpackCode 43 = .ok (.aload_n 0, 1) := by decide +kernel
theorem dX8_unpackCode_44 : decode cX8_unpackCode 44 = .ok (.getfield 14, 3) := by decide +kernel
theorem dX8_unpackCode_47 : decode cX8_unpackCode 47 = .ok (.aload_n 0, 1) := by decide +kernel
theorem dX8_unpackCode_48 : decode cX8_unpackCode 48 = .ok (.getfield 41, 3) := by decide +kernel
theorem dX8_unpackCode_51 : decode cX8_unpackCode 51 = .ok (.invokevirtual 139, 3) := by decide +kernel
theorem dX8_unpackCode_54 : decode cX8_unpackCode 54 = .ok (.istore_n 2, 1) := by decide +kernel
theorem dX8_unpackCode_55 : decode cX8_unpackCode 55 = .ok (.iload_n 2, 1) := by decide +kernel
theorem dX8_unpackCode_56 : decode cX8_unpackCode 56 = .ok (.iconst (-1), 1) := by decide +kernel
theorem dX8_unpackCode_57 : decode cX8_unpackCode 57 = .ok (.if_icmp .ne 5, 3) := by decide +kernel
theorem dX8_unpackCode_60 : decode cX8_unpackCode 60 = .ok (.iconst 1, 1) := by decide +kernel
theorem dX8_unpackCode_61 : decode cX8_unpackCode 61 = .ok (.ireturn, 1) := by decide +kernel
theorem dX8_unpackCode_62 : decode cX8_unpackCode 62 = .ok (.iload_n 2, 1) := by decide +kernel
theorem dX8_unpackCode_63 : decode cX8_unpackCode 63 = .ok (.aload_n 0, 1) := by decide +kernel
theorem dX8_unpackCode_64 : decode cX8_unpackCode 64 = .ok (.getfield 20, 3) := by decide +kernel
theorem dX8_unpackCode_67 : decode cX8_unpackCode 67 = .ok (.invokevirtual 73, 3) := by decide +kernel
theorem dX8_unpackCode_70 : decode cX8_unpackCode 70 = .ok (.if_icmp .le 7, 3) := by decide +kernel
theorem dX8_unpackCode_73 : decode cX8_unpackCode 73 = .ok (.iconst 4, 1) := by decide +kernel
theorem dX8_unpackCode_74 : decode cX8_unpackCode 74 = .ok (.goto 13, 3) := by decide +kernel
theorem dX8_unpackCode_77 : decode cX8_unpackCode 77 = .ok (.aload_n 0, 1) := by decide +kernel
theorem dX8_unpackCode_78 : decode cX8_unpackCode 78 = .ok (.iload_n 1, 1) := by decide +kernel
theorem dX8_unpackCode_79 : decode cX8_unpackCode 79 = .ok (.sipush 253, 3) := by decide +kernel
theorem dX8_unpackCode_82 : decode cX8_unpackCode 82 = .ok (.isub, 1) := by decide +kernel
theorem dX8_unpackCode_83 : decode cX8_unpackCode 83 = .ok (.iload_n 2, 1) := by decide +kernel
theorem dX8_unpackCode_84 : decode cX8_unpackCode 84 = .ok (.invokevirtual 142, 3) := by decide +kernel
theorem dX8_unpackCode_87 : decode cX8_unpackCode 87 = .ok (.ireturn, 1) := by decide +kernel
theorem dX8_copy_0 : decode cX8_copy 0 = .ok (.aload_n 0, 1) := by decide +kernel
theorem dX8_copy_1 : decode cX8_copy 1 = .ok (.getfield 24, 3) := by decide +kernel
theorem dX8_copy_4 : decode cX8_copy 4 = .ok (.invokevirtual 145, 3) := by decide +kernel
theorem dX8_copy_7 : decode cX8_copy 7 = .ok (.aload_n 0, 1) := by decide +kernel
theorem dX8_copy_8 : decode cX8_copy 8 = .ok (.getfield 44, 3) := by decide +kernel
theorem dX8_copy_11 : decode cX8_copy 11 = .ok (.aload_n 0, 1) := by decide +kernel
theorem dX8_copy_12 : decode cX8_copy 12 = .ok (.getfield 20, 3) := by decide +kernel
theorem dX8_copy_15 : decode cX8_copy 15 = .ok (.invokevirtual 73, 3) := by decide +kernel
theorem dX8_copy_18 : decode cX8_copy 18 = .ok (.isub, 1) := by decide +kernel
theorem dX8_copy_19 : decode cX8_copy 19 = .ok (.istore_n 3, 1) := by decide +kernel
theorem dX8_copy_20 : decode cX8_copy 20 = .ok (.iconst 0, 1) := by decide +kernel
theorem dX8_copy_21 : decode cX8_copy 21 = .ok (.istore 4, 2) := by decide +kernel
theorem dX8_copy_23 : decode cX8_copy 23 = .ok (.iload 4, 2) := by decide +kernel
theorem dX8_copy_25 : decode cX8_copy 25 = .ok (.iload_n 1, 1) := by decide +kernel
theorem dX8_copy_26 : decode cX8_copy 26 = .ok (.if_icmp .ge 38, 3) := by decide +kernel
theorem dX8_copy_29 : decode cX8_copy 29 = .ok (.iload 4, 2) := by decide +kernel
theorem dX8_copy_31 : decode cX8_copy 31 = .ok (.iload_n 3, 1) := by decide +kernel
theorem dX8_copy_32 : decode cX8_copy 32 = .ok (.if_icmp .ge 32, 3) := by decide +kernel
theorem dX8_copy_35 : decode cX8_copy 35 = .ok (.aload_n 0, 1) := by decide +kernel
theorem dX8_copy_36 : decode cX8_copy 36 = .ok (.getfield 20, 3) := by decide +kernel
theorem dX8_copy_39 : decode cX8_copy 39 = .ok (.aload_n 0, 1) := by decide +kernel
theorem dX8_copy_40 : decode cX8_copy 40 = .ok (.getfield 20, 3) := by decide +kernel
theorem dX8_copy_43 : decode cX8_copy 43 = .ok (.aload_n 0, 1) := by decide +kernel
theorem dX8_copy_44 : decode cX8_copy 44 = .ok (.getfield 20, 3) := by decide +kernel
theorem dX8_copy_47 : decode cX8_copy 47 = .ok (.invokevirtual 73, 3) := by decide +kernel
theorem dX8_copy_50 : decode cX8_copy 50 = .ok (.iload_n 2, 1) := by decide +kernel
theorem dX8_copy_51 : decode cX8_copy 51 = .ok (.isub, 1) := by decide +kernel
theorem dX8_copy_52 : decode cX8_copy 52 = .ok (.invokevirtual 148, 3) := by decide +kernel
theorem dX8_copy_55 : decode cX8_copy 55 = .ok (.invokevirtual 133, 3) := by decide +kernel
theorem dX8_copy_58 : decode cX8_copy 58 = .ok (.iinc 4 1, 3) := by decide +kernel
theorem dX8_copy_61 : decode cX8_copy 61 = .ok (.goto (-38), 3) := by decide +kernel
theorem dX8_copy_64 : decode cX8_copy 64 = .ok (.iload_n 1, 1) := by decide +kernel
theorem dX8_copy_65 : decode cX8_copy 65 = .ok (.iload_n 3, 1) := by decide +kernel
theorem dX8_copy_66 : decode cX8_copy 66 = .ok (.if_icmp .le 7, 3) := by decide +kernel
theorem dX8_copy_69 : decode cX8_copy 69 = .ok (.iconst 5, 1) := by decide +kernel
theorem dX8_copy_70 : decode cX8_copy 70 = .ok (.goto 4, 3) := by decide +kernel
theorem dX8_copy_73 : decode cX8_copy 73 = .ok (.iconst 0, 1) := by decide +kernel
theorem dX8_copy_74 : decode cX8_copy 74 = .ok (.ireturn, 1) := by decide +kernel
theorem dX9_init_0 : decode cX9_init 0 = .ok (.aload_n 0, 1) := by decide +kernel
theorem dX9_init_1 : decode cX9_init 1 = .ok (.invokespecial 1, 3) := by decide +kernel
theorem dX9_init_4 : decode cX9_init 4 = .ok (.aload_n 0, 1) := by decide +kernel
theorem dX9_init_5 : decode cX9_init 5 = .ok (.new 7, 3) := by decide +kernel
theorem dX9_init_8 : decode cX9_init 8 = .ok (.dup, 1) := by decide +kernel
theorem dX9_init_9 : decode cX9_init 9 = .ok (.sipush 4000, 3) := by decide +kernel
theorem dX9_init_12 : decode cX9_init 12 = .ok (.invokespecial 11, 3) := by decide +kernel
theorem dX9_init_15 : decode cX9_init 15 = .ok (.putfield 14, 3) := by decide +kernel
theorem dX9_init_18 : decode cX9_init 18 = .ok (.aload_n 0, 1) := by decide +kernel
theorem dX9_init_19 : decode cX9_init 19 = .ok (.new 7, 3) := by decide +kernel
theorem dX9_init_22 : decode cX9_init 22 = .ok (.dup, 1) := by decide +kernel
theorem dX9_init_23 : decode cX9_init 23 = .ok (.sipush 12000, 3) := by decide +kernel
theorem dX9_init_26 : decode cX9_init 26 = .ok (.invokespecial 11, 3) := by decide +kernel
theorem dX9_init_29 : decode cX9_init 29 = .ok (.putfield 18, 3) := by decide +kernel
theorem dX9_init_32 : decode cX9_init 32 = .ok (.aload_n 0, 1) := by decide +kernel
theorem dX9_init_33 : decode cX9_init 33 = .ok (.new 21, 3) := by decide +kernel
theorem dX9_init_36 : decode cX9_init 36 = .ok (.dup, 1) := by decide +kernel
theorem dX9_init_37 : decode cX9_init 37 = .ok (.invokespecial 23, 3) := by decide +kernel
theorem dX9_init_40 : decode cX9_init 40 = .ok (.putfield 24, 3) := by decide +kernel
theorem dX9_init_43 : decode cX9_init 43 = .ok (.aload_n 0, 1) := by decide +kernel
theorem dX9_init_44 : decode cX9_init 44 = .ok (.new 28, 3) := by decide +kernel
theorem dX9_init_47 : decode cX9_init 47 = .ok (.dup, 1) := by decide +kernel
theorem dX9_init_48 : decode cX9_init 48 = .ok (.aload_n 0, 1) := by decide +kernel
theorem dX9_init_49 : decode cX9_init 49 = .ok (.getfield 14, 3) := by decide +kernel
theorem dX9_init_52 : decode cX9_init 52 = .ok (.aload_n 0, 1) := by decide +kernel
theorem dX9_init_53 : decode cX9_init 53 = .ok (.getfield 18, 3) := by decide +kernel
theorem dX9_init_56 : decode cX9_init 56 = .ok (.aload_n 0, 1) := by decide +kernel
theorem dX9_init_57 : decode cX9_init 57 = .ok (.getfield 24, 3) := by decide +kernel
theorem dX9_init_60 : decode cX9_init 60 = .ok (.invokespecial 30, 3) := by decide +kernel
theorem dX9_init_63 : decode cX9_init 63 = .ok (.putfield 33, 3) := by decide +kernel
theorem dX9_init_66 : decode cX9_init 66 = .ok (.aload_n 0, 1) := by decide +kernel
theorem dX9_init_67 : decode cX9_init 67 = .ok (.new 37, 3) := by decide +kernel
theorem dX9_init_70 : decode cX9_init 70 = .ok (.dup, 1) := by decide +kernel
theorem dX9_init_71 : decode cX9_init 71 = .ok (.aload_n 0, 1) := by decide +kernel
theorem dX9_init_72 : decode cX9_init 72 = .ok (.getfield 14, 3) := by decide +kernel
theorem dX9_init_75 : decode cX9_init 75 = .ok (.aload_n 0, 1) := by decide +kernel
theorem dX9_init_76 : decode cX9_init 76 = .ok (.getfield 18, 3) := by decide +kernel
theorem dX9_init_79 : decode cX9_init 79 = .ok (.aload_n 0, 1) := by decide +kernel
theorem dX9_init_80 : decode cX9_init 80 = .ok (.getfield 24, 3) := by decide +kernel
theorem dX9_init_83 : decode cX9_init 83 = .ok (.invokespecial 39, 3) := by decide +kernel
theorem dX9_init_86 : decode cX9_init 86 = .ok (.putfield 40, 3) := by decide +kernel
theorem dX9_init_89 : decode cX9_init 89 = .ok (.return_, 1) := by decide +kernel
theorem dX9_feed_0 : decode cX9_feed 0 = .ok (.aload_n 0, 1) := by decide +kernel
theorem dX9_feed_1 : decode cX9_feed 1 = .ok (.getfield 14, 3) := by decide +kernel
theorem dX9_feed_4 : decode cX9_feed 4 = .ok (.bipush 20, 2) := by decide +kernel
theorem dX9_feed_6 : decode cX9_feed 6 = .ok (.invokevirtual 44, 3) := by decide +kernel
theorem dX9_feed_9 : decode cX9_feed 9 = .ok (.ifCond .ne 5, 3) := by decide +kernel
theorem dX9_feed_12 : decode cX9_feed 12 = .ok (.iconst (-1), 1) := by decide +kernel
theorem dX9_feed_13 : decode cX9_feed 13 = .ok (.ireturn, 1) := by decide +kernel
theorem dX9_feed_14 : decode cX9_feed 14 = .ok (.aload_n 0, 1) := by decide +kernel
theorem dX9_feed_15 : decode cX9_feed 15 = .ok (.getfield 14, 3) := by decide +kernel
theorem dX9_feed_18 : decode cX9_feed 18 = .ok (.iload_n 1, 1) := by decide +kernel
theorem dX9_feed_19 : decode cX9_feed 19 = .ok (.invokevirtual 48, 3) := by decide +kernel
theorem dX9_feed_22 : decode cX9_feed 22 = .ok (.aload_n 0, 1) := by decide +kernel
theorem dX9_feed_23 : decode cX9_feed 23 = .ok (.getfield 14, 3) := by decide +kernel
theorem dX9_feed_26 : decode cX9_feed 26 = .ok (.iload_n 2, 1) := by decide +kernel
theorem dX9_feed_27 : decode cX9_feed 27 = .ok (.invokevirtual 48, 3) := by decide +kernel
theorem dX9_feed_30 : decode cX9_feed 30 = .ok (.aload_n 0, 1) := by decide +kernel
theorem dX9_feed_31 : decode cX9_feed 31 = .ok (.getfield 14, 3) := by decide +kernel
theorem dX9_feed_34 : decode cX9_feed 34 = .ok (.iload_n 3, 1) := by decide +kernel
theorem dX9_feed_35 : decode cX9_feed 35 = .ok (.invokevirtual 48, 3) := by decide +kernel
theorem dX9_feed_38 : decode cX9_feed 38 = .ok (.aload_n 0, 1) := by decide +kernel
theorem dX9_feed_39 : decode cX9_feed 39 = .ok (.getfield 14, 3) := by decide +kernel
theorem dX9_feed_42 : decode cX9_feed 42 = .ok (.iload 4, 2) := by decide +kernel
theorem dX9_feed_44 : decode cX9_feed 44 = .ok (.invokevirtual 48, 3) := by decide +kernel
theorem dX9_feed_47 : decode cX9_feed 47 = .ok (.aload_n 0, 1) := by decide +kernel
theorem dX9_feed_48 : decode cX9_feed 48 = .ok (.getfield 14, 3) := by decide +kernel
theorem dX9_feed_51 : decode cX9_feed 51 = .ok (.iload 5, 2) := by decide +kernel
theorem dX9_feed_53 : decode cX9_feed 53 = .ok (.invokevirtual 48, 3) := by decide +kernel
theorem dX9_feed_56 : decode cX9_feed 56 = .ok (.aload_n 0, 1) := by decide +kernel
theorem dX9_feed_57 : decode cX9_feed 57 = .ok (.getfield 14, 3) := by decide +kernel
theorem dX9_feed_60 : decode cX9_feed 60 = .ok (.invokevirtual 51, 3) := by decide +kernel
theorem dX9_feed_63 : decode cX9_feed 63 = .ok (.ireturn, 1) := by decide +kernel
theorem dX9_fill_0 : decode cX9_fill 0 = .ok (.iload_n 2, 1) := by decide +kernel
theorem dX9_fill_1 : decode cX9_fill 1 = .ok (.ifCond .lt 21, 3) := by decide +kernel
theorem dX9_fill_4 : decode cX9_fill 4 = .ok (.iload_n 1, 1) := by decide +kernel
theorem dX9_fill_5 : decode cX9_fill 5 = .ok (.invokestatic 55, 3) := by decide +kernel
theorem dX9_fill_8 : decode cX9_fill 8 = .ok (.ifCond .eq 14, 3) := by decide +kernel
theorem dX9_fill_11 : decode cX9_fill 11 = .ok (.aload_n 0, 1) := by decide +kernel
theorem dX9_fill_12 : decode cX9_fill 12 = .ok (.getfield 14, 3) := by decide +kernel
theorem dX9_fill_15 : decode cX9_fill 15 = .ok (.iload_n 2, 1) := by decide +kernel
theorem dX9_fill_16 : decode cX9_fill 16 = .ok (.invokevirtual 44, 3) := by decide +kernel
theorem dX9_fill_19 : decode cX9_fill 19 = .ok (.ifCond .ne 5, 3) := by decide +kernel
theorem dX9_fill_22 : decode cX9_fill 22 = .ok (.iconst (-1), 1) := by decide +kernel
theorem dX9_fill_23 : decode cX9_fill 23 = .ok (.ireturn, 1) := by decide +kernel
theorem dX9_fill_24 : decode cX9_fill 24 = .ok (.iconst 0, 1) := by decide +kernel
theorem dX9_fill_25 : decode cX9_fill 25 = .ok (.istore_n 3, 1) := by decide +kernel
