theorem dX5_shape_45 : decode cX5_shape 45 = .ok (.invokevirtual 52, 3) := by decide +kernel
theorem dX5_shape_48 : decode cX5_shape 48 = .ok (.aload_n 1, 1) := by decide +kernel
theorem dX5_shape_49 : decode cX5_shape 49 = .ok (.invokevirtual 55, 3) := by decide +kernel
theorem dX5_shape_52 : decode cX5_shape 52 = .ok (.pop, 1) := by decide +kernel
theorem dX5_shape_53 : decode cX5_shape 53 = .ok (.return_, 1) := by decide +kernel
theorem dX5_sortLeaves_0 : decode cX5_sortLeaves 0 = .ok (.aload_n 0, 1) := by decide +kernel
theorem dX5_sortLeaves_1 : decode cX5_sortLeaves 1 = .ok (.iconst 0, 1) := by decide +kernel
theorem dX5_sortLeaves_2 : decode cX5_sortLeaves 2 = .ok (.putfield 22, 3) := by decide +kernel
theorem dX5_sortLeaves_5 : decode cX5_sortLeaves 5 = .ok (.iconst 0, 1) := by decide +kernel
theorem dX5_sortLeaves_6 : decode cX5_sortLeaves 6 = .ok (.istore_n 2, 1) := by decide +kernel
theorem dX5_sortLeaves_7 : decode cX5_sortLeaves 7 = .ok (.iload_n 2, 1) := by decide +kernel
theorem dX5_sortLeaves_8 : decode cX5_sortLeaves 8 = .ok (.aload_n 1, 1) := by decide +kernel
theorem dX5_sortLeaves_9 : decode cX5_sortLeaves 9 = .ok (.invokevirtual 45, 3) := by decide +kernel
theorem dX5_sortLeaves_12 : decode cX5_sortLeaves 12 = .ok (.if_icmp .ge 43, 3) := by decide +kernel
theorem dX5_sortLeaves_15 : decode cX5_sortLeaves 15 = .ok (.iload_n 2, 1) := by decide +kernel
theorem dX5_sortLeaves_16 : decode cX5_sortLeaves 16 = .ok (.aload_n 0, 1) := by decide +kernel
theorem dX5_sortLeaves_17 : decode cX5_sortLeaves 17 = .ok (.getfield 7, 3) := by decide +kernel
theorem dX5_sortLeaves_20 : decode cX5_sortLeaves 20 = .ok (.arraylength, 1) := by decide +kernel
theorem dX5_sortLeaves_21 : decode cX5_sortLeaves 21 = .ok (.if_icmp .ge 34, 3) := by decide +kernel
theorem dX5_sortLeaves_24 : decode cX5_sortLeaves 24 = .ok (.aload_n 0, 1) := by decide +kernel
theorem dX5_sortLeaves_25 : decode cX5_sortLeaves 25 = .ok (.getfield 13, 3) := by decide +kernel
theorem dX5_sortLeaves_28 : decode cX5_sortLeaves 28 = .ok (.iload_n 2, 1) := by decide +kernel
theorem dX5_sortLeaves_29 : decode cX5_sortLeaves 29 = .ok (.aload_n 1, 1) := by decide +kernel
theorem dX5_sortLeaves_30 : decode cX5_sortLeaves 30 = .ok (.iload_n 2, 1) := by decide +kernel
theorem dX5_sortLeaves_31 : decode cX5_sortLeaves 31 = .ok (.invokevirtual 59, 3) := by decide +kernel
theorem dX5_sortLeaves_34 : decode cX5_sortLeaves 34 = .ok (.iastore, 1) := by decide +kernel
theorem dX5_sortLeaves_35 : decode cX5_sortLeaves 35 = .ok (.aload_n 0, 1) := by decide +kernel
theorem dX5_sortLeaves_36 : decode cX5_sortLeaves 36 = .ok (.getfield 13, 3) := by decide +kernel
theorem dX5_sortLeaves_39 : decode cX5_sortLeaves 39 = .ok (.iload_n 2, 1) := by decide +kernel
theorem dX5_sortLeaves_40 : decode cX5_sortLeaves 40 = .ok (.iaload, 1) := by decide +kernel
theorem dX5_sortLeaves_41 : decode cX5_sortLeaves 41 = .ok (.ifCond .le 8, 3) := by decide +kernel
theorem dX5_sortLeaves_44 : decode cX5_sortLeaves 44 = .ok (.aload_n 0, 1) := by decide +kernel
theorem dX5_sortLeaves_45 : decode cX5_sortLeaves 45 = .ok (.iload_n 2, 1) := by decide +kernel
theorem dX5_sortLeaves_46 : decode cX5_sortLeaves 46 = .ok (.invokevirtual 63, 3) := by decide +kernel
theorem dX5_sortLeaves_49 : decode cX5_sortLeaves 49 = .ok (.iinc 2 1, 3) := by decide +kernel
theorem dX5_sortLeaves_52 : decode cX5_sortLeaves 52 = .ok (.goto (-45), 3) := by decide +kernel
theorem dX5_sortLeaves_55 : decode cX5_sortLeaves 55 = .ok (.return_, 1) := by decide +kernel
theorem dX5_insertLeaf_0 : decode cX5_insertLeaf 0 = .ok (.aload_n 0, 1) := by decide +kernel
theorem dX5_insertLeaf_1 : decode cX5_insertLeaf 1 = .ok (.getfield 22, 3) := by decide +kernel
theorem dX5_insertLeaf_4 : decode cX5_insertLeaf 4 = .ok (.istore_n 2, 1) := by decide +kernel
theorem dX5_insertLeaf_5 : decode cX5_insertLeaf 5 = .ok (.iload_n 2, 1) := by decide +kernel
theorem dX5_insertLeaf_6 : decode cX5_insertLeaf 6 = .ok (.ifCond .le 45, 3) := by decide +kernel
theorem dX5_insertLeaf_9 : decode cX5_insertLeaf 9 = .ok (.aload_n 0, 1) := by decide +kernel
theorem dX5_insertLeaf_10 : decode cX5_insertLeaf 10 = .ok (.getfield 13, 3) := by decide +kernel
theorem dX5_insertLeaf_13 : decode cX5_insertLeaf 13 = .ok (.aload_n 0, 1) := by decide +kernel
theorem dX5_insertLeaf_14 : decode cX5_insertLeaf 14 = .ok (.getfield 7, 3) := by decide +kernel
theorem dX5_insertLeaf_17 : decode cX5_insertLeaf 17 = .ok (.iload_n 2, 1) := by decide +kernel
theorem dX5_insertLeaf_18 : decode cX5_insertLeaf 18 = .ok (.iconst 1, 1) := by decide +kernel
theorem dX5_insertLeaf_19 : decode cX5_insertLeaf 19 = .ok (.isub, 1) := by decide +kernel
theorem dX5_insertLeaf_20 : decode cX5_insertLeaf 20 = .ok (.iaload, 1) := by decide +kernel
theorem dX5_insertLeaf_21 : decode cX5_insertLeaf 21 = .ok (.iaload, 1) := by decide +kernel
theorem dX5_insertLeaf_22 : decode cX5_insertLeaf 22 = .ok (.aload_n 0, 1) := by decide +kernel
theorem dX5_insertLeaf_23 : decode cX5_insertLeaf 23 = .ok (.getfield 13, 3) := by decide +kernel
theorem dX5_insertLeaf_26 : decode cX5_insertLeaf 26 = .ok (.iload_n 1, 1) := by decide +kernel
theorem dX5_insertLeaf_27 : decode cX5_insertLeaf 27 = .ok (.iaload, 1) := by decide +kernel
theorem dX5_insertLeaf_28 : decode cX5_insertLeaf 28 = .ok (.if_icmp .le 23, 3) := by decide +kernel
theorem dX5_insertLeaf_31 : decode cX5_insertLeaf 31 = .ok (.aload_n 0, 1) := by decide +kernel
theorem dX5_insertLeaf_32 : decode cX5_insertLeaf 32 = .ok (.getfield 7, 3) := by decide +kernel
theorem dX5_insertLeaf_35 : decode cX5_insertLeaf 35 = .ok (.iload_n 2, 1) := by decide +kernel
theorem dX5_insertLeaf_36 : decode cX5_insertLeaf 36 = .ok (.aload_n 0, 1) := by decide +kernel
theorem dX5_insertLeaf_37 : decode cX5_insertLeaf 37 = .ok (.getfield 7, 3) := by decide +kernel
theorem dX5_insertLeaf_40 : decode cX5_insertLeaf 40 = .ok (.iload_n 2, 1) := by decide +kernel
theorem dX5_insertLeaf_41 : decode cX5_insertLeaf 41 = .ok (.iconst 1, 1) := by decide +kernel
theorem dX5_insertLeaf_42 : decode cX5_insertLeaf 42 = .ok (.isub, 1) := by decide +kernel
theorem dX5_insertLeaf_43 : decode cX5_insertLeaf 43 = .ok (.iaload, 1) := by decide +kernel
theorem dX5_insertLeaf_44 : decode cX5_insertLeaf 44 = .ok (.iastore, 1) := by decide +kernel
theorem dX5_insertLeaf_45 : decode cX5_insertLeaf 45 = .ok (.iinc 2 (-1), 3) := by decide +kernel
theorem dX5_insertLeaf_48 : decode cX5_insertLeaf 48 = .ok (.goto (-43), 3) := by decide +kernel
theorem dX5_insertLeaf_51 : decode cX5_insertLeaf 51 = .ok (.aload_n 0, 1) := by decide +kernel
theorem dX5_insertLeaf_52 : decode cX5_insertLeaf 52 = .ok (.getfield 7, 3) := by decide +kernel
theorem dX5_insertLeaf_55 : decode cX5_insertLeaf 55 = .ok (.iload_n 2, 1) := by decide +kernel
theorem dX5_insertLeaf_56 : decode cX5_insertLeaf 56 = .ok (.iload_n 1, 1) := by decide +kernel
theorem dX5_insertLeaf_57 : decode cX5_insertLeaf 57 = .ok (.iastore, 1) := by decide +kernel
theorem dX5_insertLeaf_58 : decode cX5_insertLeaf 58 = .ok (.aload_n 0, 1) := by decide +kernel
theorem dX5_insertLeaf_59 : decode cX5_insertLeaf 59 = .ok (.dup, 1) := by decide +kernel
theorem dX5_insertLeaf_60 : decode cX5_insertLeaf 60 = .ok (.getfield 22, 3) := by decide +kernel
theorem dX5_insertLeaf_63 : decode cX5_insertLeaf 63 = .ok (.iconst 1, 1) := by decide +kernel
theorem dX5_insertLeaf_64 : decode cX5_insertLeaf 64 = .ok (.iadd, 1) := by decide +kernel
theorem dX5_insertLeaf_65 : decode cX5_insertLeaf 65 = .ok (.putfield 22, 3) := by decide +kernel
theorem dX5_insertLeaf_68 : decode cX5_insertLeaf 68 = .ok (.return_, 1) := by decide +kernel
theorem dX5_merge_0 : decode cX5_merge 0 = .ok (.aload_n 0, 1) := by decide +kernel
theorem dX5_merge_1 : decode cX5_merge 1 = .ok (.iconst 0, 1) := by decide +kernel
theorem dX5_merge_2 : decode cX5_merge 2 = .ok (.putfield 26, 3) := by decide +kernel
theorem dX5_merge_5 : decode cX5_merge 5 = .ok (.aload_n 0, 1) := by decide +kernel
theorem dX5_merge_6 : decode cX5_merge 6 = .ok (.iload_n 1, 1) := by decide +kernel
theorem dX5_merge_7 : decode cX5_merge 7 = .ok (.putfield 29, 3) := by decide +kernel
theorem dX5_merge_10 : decode cX5_merge 10 = .ok (.aload_n 0, 1) := by decide +kernel
theorem dX5_merge_11 : decode cX5_merge 11 = .ok (.iload_n 1, 1) := by decide +kernel
theorem dX5_merge_12 : decode cX5_merge 12 = .ok (.putfield 32, 3) := by decide +kernel
theorem dX5_merge_15 : decode cX5_merge 15 = .ok (.iconst 1, 1) := by decide +kernel
theorem dX5_merge_16 : decode cX5_merge 16 = .ok (.istore_n 2, 1) := by decide +kernel
theorem dX5_merge_17 : decode cX5_merge 17 = .ok (.iload_n 2, 1) := by decide +kernel
theorem dX5_merge_18 : decode cX5_merge 18 = .ok (.aload_n 0, 1) := by decide +kernel
theorem dX5_merge_19 : decode cX5_merge 19 = .ok (.getfield 22, 3) := by decide +kernel
theorem dX5_merge_22 : decode cX5_merge 22 = .ok (.if_icmp .ge 86, 3) := by decide +kernel
theorem dX5_merge_25 : decode cX5_merge 25 = .ok (.aload_n 0, 1) := by decide +kernel
theorem dX5_merge_26 : decode cX5_merge 26 = .ok (.getfield 32, 3) := by decide +kernel
theorem dX5_merge_29 : decode cX5_merge 29 = .ok (.aload_n 0, 1) := by decide +kernel
theorem dX5_merge_30 : decode cX5_merge 30 = .ok (.getfield 13, 3) := by decide +kernel
theorem dX5_merge_33 : decode cX5_merge 33 = .ok (.arraylength, 1) := by decide +kernel
theorem dX5_merge_34 : decode cX5_merge 34 = .ok (.if_icmp .ge 74, 3) := by decide +kernel
theorem dX5_merge_37 : decode cX5_merge 37 = .ok (.aload_n 0, 1) := by decide +kernel
theorem dX5_merge_38 : decode cX5_merge 38 = .ok (.invokevirtual 66, 3) := by decide +kernel
theorem dX5_merge_41 : decode cX5_merge 41 = .ok (.istore_n 3, 1) := by decide +kernel
theorem dX5_merge_42 : decode cX5_merge 42 = .ok (.aload_n 0, 1) := by decide +kernel
theorem dX5_merge_43 : decode cX5_merge 43 = .ok (.invokevirtual 66, 3) := by decide +kernel
theorem dX5_merge_46 : decode cX5_merge 46 = .ok (.istore 4, 2) := by decide +kernel
theorem dX5_merge_48 : decode cX5_merge 48 = .ok (.aload_n 0, 1) := by decide +kernel
theorem dX5_merge_49 : decode cX5_merge 49 = .ok (.getfield 13, 3) := by decide +kernel
theorem dX5_merge_52 : decode cX5_merge 52 = .ok (.aload_n 0, 1) := by decide +kernel
theorem dX5_merge_53 : decode cX5_merge 53 = .ok (.getfield 32, 3) := by decide +kernel
theorem dX5_merge_56 : decode cX5_merge 56 = .ok (.aload_n 0, 1) := by decide +kernel
theorem dX5_merge_57 : decode cX5_merge 57 = .ok (.getfield 13, 3) := by decide +kernel
theorem dX5_merge_60 : decode cX5_merge 60 = .ok (.iload_n 3, 1) := by decide +kernel
theorem dX5_merge_61 : decode cX5_merge 61 = .ok (.iaload, 1) := by decide +kernel
theorem dX5_merge_62 : decode cX5_merge 62 = .ok (.aload_n 0, 1) := by decide +kernel
theorem dX5_merge_63 : decode cX5_merge 63 = .ok (.getfield 13, 3) := by decide +kernel
theorem dX5_merge_66 : decode cX5_merge 66 = .ok (.iload 4, 2) := by decide +kernel
theorem dX5_merge_68 : decode cX5_merge 68 = .ok (.iaload, 1) := by decide +kernel
theorem dX5_merge_69 : decode cX5_merge 69 = .ok (.iadd, 1) := by decide +kernel
theorem dX5_merge_70 : decode cX5_merge 70 = .ok (.iastore, 1) := by decide +kernel
theorem dX5_merge_71 : decode cX5_merge 71 = .ok (.aload_n 0, 1) := by decide +kernel
theorem dX5_merge_72 : decode cX5_merge 72 = .ok (.getfield 16, 3) := by decide +kernel
theorem dX5_merge_75 : decode cX5_merge 75 = .ok (.iload_n 3, 1) := by decide +kernel
theorem dX5_merge_76 : decode cX5_merge 76 = .ok (.aload_n 0, 1) := by decide +kernel
theorem dX5_merge_77 : decode cX5_merge 77 = .ok (.getfield 32, 3) := by decide +kernel
theorem dX5_merge_80 : decode cX5_merge 80 = .ok (.iastore, 1) := by decide +kernel
theorem dX5_merge_81 : decode cX5_merge 81 = .ok (.aload_n 0, 1) := by decide +kernel
theorem dX5_merge_82 : decode cX5_merge 82 = .ok (.getfield 16, 3) := by decide +kernel
theorem dX5_merge_85 : decode cX5_merge 85 = .ok (.iload 4, 2) := by decide +kernel
theorem dX5_merge_87 : decode cX5_merge 87 = .ok (.aload_n 0, 1) := by decide +kernel
theorem dX5_merge_88 : decode cX5_merge 88 = .ok (.getfield 32, 3) := by decide +kernel
theorem dX5_merge_91 : decode cX5_merge 91 = .ok (.iastore, 1) := by decide +kernel
theorem dX5_merge_92 : decode cX5_merge 92 = .ok (.aload_n 0, 1) := by decide +kernel
theorem dX5_merge_93 : decode cX5_merge 93 = .ok (.dup, 1) := by decide +kernel
theorem dX5_merge_94 : decode cX5_merge 94 = .ok (.getfield 32, 3) := by decide +kernel
theorem dX5_merge_97 : decode cX5_merge 97 = .ok (.iconst 1, 1) := by decide +kernel
theorem dX5_merge_98 : decode cX5_merge 98 = .ok (.iadd, 1) := by decide +kernel
theorem dX5_merge_99 : decode cX5_merge 99 = .ok (.putfield 32, 3) := by decide +kernel
theorem dX5_merge_102 : decode cX5_merge 102 = .ok (.iinc 2 1, 3) := by decide +kernel
theorem dX5_merge_105 : decode cX5_merge 105 = .ok (.goto (-88), 3) := by decide +kernel
theorem dX5_merge_108 : decode cX5_merge 108 = .ok (.return_, 1) := by decide +kernel
theorem dX5_takeLeast_0 : decode cX5_takeLeast 0 = .ok (.aload_n 0, 1) := by decide +kernel
theorem dX5_takeLeast_1 : decode cX5_takeLeast 1 = .ok (.getfield 29, 3) := by decide +kernel
theorem dX5_takeLeast_4 : decode cX5_takeLeast 4 = .ok (.aload_n 0, 1) := by decide +kernel
theorem dX5_takeLeast_5 : decode cX5_takeLeast 5 = .ok (.getfield 32, 3) := by decide +kernel
theorem dX5_takeLeast_8 : decode cX5_takeLeast 8 = .ok (.if_icmp .ge 7, 3) := by decide +kernel
theorem dX5_takeLeast_11 : decode cX5_takeLeast 11 = .ok (.iconst 1, 1) := by decide +kernel
theorem dX5_takeLeast_12 : decode cX5_takeLeast 12 = .ok (.goto 4, 3) := by decide +kernel
theorem dX5_takeLeast_15 : decode cX5_takeLeast 15 = .ok (.iconst 0, 1) := by decide +kernel
theorem dX5_takeLeast_16 : decode cX5_takeLeast 16 = .ok (.istore_n 1, 1) := by decide +kernel
theorem dX5_takeLeast_17 : decode cX5_takeLeast 17 = .ok (.aload_n 0, 1) := by decide +kernel
theorem dX5_takeLeast_18 : decode cX5_takeLeast 18 = .ok (.getfield 26, 3) := by decide +kernel
theorem dX5_takeLeast_21 : decode cX5_takeLeast 21 = .ok (.aload_n 0, 1) := by decide +kernel
theorem dX5_takeLeast_22 : decode cX5_takeLeast 22 = .ok (.getfield 22, 3) := by decide +kernel
theorem dX5_takeLeast_25 : decode cX5_takeLeast 25 = .ok (.if_icmp .ge 7, 3) := by decide +kernel
theorem dX5_takeLeast_28 : decode cX5_takeLeast 28 = .ok (.iconst 1, 1) := by decide +kernel
theorem dX5_takeLeast_29 : decode cX5_takeLeast 29 = .ok (.goto 4, 3) := by decide +kernel
theorem dX5_takeLeast_32 : decode cX5_takeLeast 32 = .ok (.iconst 0, 1) := by decide +kernel
theorem dX5_takeLeast_33 : decode cX5_takeLeast 33 = .ok (.istore_n 2, 1) := by decide +kernel
theorem dX5_takeLeast_34 : decode cX5_takeLeast 34 = .ok (.iload_n 2, 1) := by decide +kernel
theorem dX5_takeLeast_35 : decode cX5_takeLeast 35 = .ok (.ifCond .eq 55, 3) := by decide +kernel
theorem dX5_takeLeast_38 : decode cX5_takeLeast 38 = .ok (.iload_n 1, 1) := by decide +kernel
theorem dX5_takeLeast_39 : decode cX5_takeLeast 39 = .ok (.ifCond .eq 29, 3) := by decide +kernel
theorem dX5_takeLeast_42 : decode cX5_takeLeast 42 = .ok (.aload_n 0, 1) := by decide +kernel
theorem dX5_takeLeast_43 : decode cX5_takeLeast 43 = .ok (.getfield 13, 3) := by decide +kernel
theorem dX5_takeLeast_46 : decode cX5_takeLeast 46 = .ok (.aload_n 0, 1) := by decide +kernel
theorem dX5_takeLeast_47 : decode cX5_takeLeast 47 = .ok (.getfield 7, 3) := by decide +kernel
theorem dX5_takeLeast_50 : decode cX5_takeLeast 50 = .ok (.aload_n 0, 1) := by decide +kernel
theorem dX5_takeLeast_51 : decode cX5_takeLeast 51 = .ok (.getfield 26, 3) := by decide +kernel
theorem dX5_takeLeast_54 : decode cX5_takeLeast 54 = .ok (.iaload, 1) := by decide +kernel
theorem dX5_takeLeast_55 : decode cX5_takeLeast 55 = .ok (.iaload, 1) := by decide +kernel
theorem dX5_takeLeast_56 : decode cX5_takeLeast 56 = .ok (.aload_n 0, 1) := by decide +kernel
theorem dX5_takeLeast_57 : decode cX5_takeLeast 57 = .ok (.getfield 13, 3) := by decide +kernel
theorem dX5_takeLeast_60 : decode cX5_takeLeast 60 = .ok (.aload_n 0, 1) := by decide +kernel
theorem dX5_takeLeast_61 : decode cX5_takeLeast 61 = .ok (.getfield 29, 3) := by decide +kernel
theorem dX5_takeLeast_64 : decode cX5_takeLeast 64 = .ok (.iaload, 1) := by decide +kernel
theorem dX5_takeLeast_65 : decode cX5_takeLeast 65 = .ok (.if_icmp .gt 25, 3) := by decide +kernel
theorem dX5_takeLeast_68 : decode cX5_takeLeast 68 = .ok (.aload_n 0, 1) := by decide +kernel
theorem dX5_takeLeast_69 : decode cX5_takeLeast 69 = .ok (.dup, 1) := by decide +kernel
theorem dX5_takeLeast_70 : decode cX5_takeLeast 70 = .ok (.getfield 26, 3) := by decide +kernel
theorem dX5_takeLeast_73 : decode cX5_takeLeast 73 = .ok (.iconst 1, 1) := by decide +kernel
theorem dX5_takeLeast_74 : decode cX5_takeLeast 74 = .ok (.iadd, 1) := by decide +kernel
theorem dX5_takeLeast_75 : decode cX5_takeLeast 75 = .ok (.putfield 26, 3) := by decide +kernel
theorem dX5_takeLeast_78 : decode cX5_takeLeast 78 = .ok (.aload_n 0, 1) := by decide +kernel
theorem dX5_takeLeast_79 : decode cX5_takeLeast 79 = .ok (.getfield 7, 3) := by decide +kernel
theorem dX5_takeLeast_82 : decode cX5_takeLeast 82 = .ok (.aload_n 0, 1) := by decide +kernel
theorem dX5_takeLeast_83 : decode cX5_takeLeast 83 = .ok (.getfield 26, 3) := by decide +kernel
theorem dX5_takeLeast_86 : decode cX5_takeLeast 86 = .ok (.iconst 1, 1) := by decide +kernel
theorem dX5_takeLeast_87 : decode cX5_takeLeast 87 = .ok (.isub, 1) := by decide +kernel
theorem dX5_takeLeast_88 : decode cX5_takeLeast 88 = .ok (.iaload, 1) := by decide +kernel
theorem dX5_takeLeast_89 : decode cX5_takeLeast 89 = .ok (.ireturn, 1) := by decide +kernel
theorem dX5_takeLeast_90 : decode cX5_takeLeast 90 = .ok (.aload_n 0, 1) := by decide +kernel
theorem dX5_takeLeast_91 : decode cX5_takeLeast 91 = .ok (.dup, 1) := by decide +kernel
theorem dX5_takeLeast_92 : decode cX5_takeLeast 92 = .ok (.getfield 29, 3) := by decide +kernel
theorem dX5_takeLeast_95 : decode cX5_takeLeast 95 = .ok (.iconst 1, 1) := by decide +kernel
theorem dX5_takeLeast_96 : decode cX5_takeLeast 96 = .ok (.iadd, 1) := by decide +kernel
theorem dX5_takeLeast_97 : decode cX5_takeLeast 97 = .ok (.putfield 29, 3) := by decide +kernel
theorem dX5_takeLeast_100 : decode cX5_takeLeast 100 = .ok (.aload_n 0, 1) := by decide +kernel
theorem dX5_takeLeast_101 : decode cX5_takeLeast 101 = .ok (.getfield 29, 3) := by decide +kernel
theorem dX5_takeLeast_104 : decode cX5_takeLeast 104 = .ok (.iconst 1, 1) := by decide +kernel
theorem dX5_takeLeast_105 : decode cX5_takeLeast 105 = .ok (.isub, 1) := by decide +kernel
theorem dX5_takeLeast_106 : decode cX5_takeLeast 106 = .ok (.ireturn, 1) := by decide +kernel
theorem dX5_measure_0 : decode cX5_measure 0 = .ok (.aload_n 0, 1) := by decide +kernel
theorem dX5_measure_1 : decode cX5_measure 1 = .ok (.getfield 19, 3) := by decide +kernel
theorem dX5_measure_4 : decode cX5_measure 4 = .ok (.aload_n 0, 1) := by decide +kernel
theorem dX5_measure_5 : decode cX5_measure 5 = .ok (.getfield 32, 3) := by decide +kernel
theorem dX5_measure_8 : decode cX5_measure 8 = .ok (.iconst 1, 1) := by decide +kernel
theorem dX5_measure_9 : decode cX5_measure 9 = .ok (.isub, 1) := by decide +kernel
theorem dX5_measure_10 : decode cX5_measure 10 = .ok (.iconst 0, 1) := by decide +kernel
theorem dX5_measure_11 : decode cX5_measure 11 = .ok (.iastore, 1) := by decide +kernel
theorem dX5_measure_12 : decode cX5_measure 12 = .ok (.aload_n 0, 1) := by decide +kernel
theorem dX5_measure_13 : decode cX5_measure 13 = .ok (.getfield 32, 3) := by decide +kernel
theorem dX5_measure_16 : decode cX5_measure 16 = .ok (.iconst 2, 1) := by decide +kernel
theorem dX5_measure_17 : decode cX5_measure 17 = .ok (.isub, 1) := by decide +kernel
theorem dX5_measure_18 : decode cX5_measure 18 = .ok (.istore_n 2, 1) := by decide +kernel
theorem dX5_measure_19 : decode cX5_measure 19 = .ok (.iload_n 2, 1) := by decide +kernel
theorem dX5_measure_20 : decode cX5_measure 20 = .ok (.aload_n 1, 1) := by decide +kernel
theorem dX5_measure_21 : decode cX5_measure 21 = .ok (.invokevirtual 45, 3) := by decide +kernel
theorem dX5_measure_24 : decode cX5_measure 24 = .ok (.if_icmp .lt 28, 3) := by decide +kernel
theorem dX5_measure_27 : decode cX5_measure 27 = .ok (.aload_n 0, 1) := by decide +kernel
theorem dX5_measure_28 : decode cX5_measure 28 = .ok (.getfield 19, 3) := by decide +kernel
theorem dX5_measure_31 : decode cX5_measure 31 = .ok (.iload_n 2, 1) := by decide +kernel
theorem dX5_measure_32 : decode cX5_measure 32 = .ok (.aload_n 0, 1) := by decide +kernel
theorem dX5_measure_33 : decode cX5_measure 33 = .ok (.getfield 19, 3) := by decide +kernel
theorem dX5_measure_36 : decode cX5_measure 36 = .ok (.aload_n 0, 1) := by decide +kernel
theorem dX5_measure_37 : decode cX5_measure 37 = .ok (.getfield 16, 3) := by decide +kernel
theorem dX5_measure_40 : decode cX5_measure 40 = .ok (.iload_n 2, 1) := by decide +kernel
theorem dX5_measure_41 : decode cX5_measure 41 = .ok (.iaload, 1) := by decide +kernel
theorem dX5_measure_42 : decode cX5_measure 42 = .ok (.iaload, 1) := by decide +kernel
theorem dX5_measure_43 : decode cX5_measure 43 = .ok (.iconst 1, 1) := by decide +kernel
theorem dX5_measure_44 : decode cX5_measure 44 = .ok (.iadd, 1) := by decide +kernel
theorem dX5_measure_45 : decode cX5_measure 45 = .ok (.iastore, 1) := by decide +kernel
theorem dX5_measure_46 : decode cX5_measure 46 = .ok (.iinc 2 (-1), 3) := by decide +kernel
theorem dX5_measure_49 : decode cX5_measure 49 = .ok (.goto (-30), 3) := by decide +kernel
theorem dX5_measure_52 : decode cX5_measure 52 = .ok (.iconst 0, 1) := by decide +kernel
theorem dX5_measure_53 : decode cX5_measure 53 = .ok (.istore_n 2, 1) := by decide +kernel
theorem dX5_measure_54 : decode cX5_measure 54 = .ok (.iload_n 2, 1) := by decide +kernel
theorem dX5_measure_55 : decode cX5_measure 55 = .ok (.aload_n 0, 1) := by decide +kernel
theorem dX5_measure_56 : decode cX5_measure 56 = .ok (.getfield 22, 3) := by decide +kernel
theorem dX5_measure_59 : decode cX5_measure 59 = .ok (.if_icmp .ge 37, 3) := by decide +kernel
theorem dX5_measure_62 : decode cX5_measure 62 = .ok (.aload_n 1, 1) := by decide +kernel
theorem dX5_measure_63 : decode cX5_measure 63 = .ok (.aload_n 0, 1) := by decide +kernel
theorem dX5_measure_64 : decode cX5_measure 64 = .ok (.getfield 7, 3) := by decide +kernel
theorem dX5_measure_67 : decode cX5_measure 67 = .ok (.iload_n 2, 1) := by decide +kernel
theorem dX5_measure_68 : decode cX5_measure 68 = .ok (.iaload, 1) := by decide +kernel
theorem dX5_measure_69 : decode cX5_measure 69 = .ok (.aload_n 0, 1) := by decide +kernel
theorem dX5_measure_70 : decode cX5_measure 70 = .ok (.getfield 19, 3) := by decide +kernel
theorem dX5_measure_73 : decode cX5_measure 73 = .ok (.aload_n 0, 1) := by decide +kernel
theorem dX5_measure_74 : decode cX5_measure 74 = .ok (.getfield 16, 3) := by decide +kernel
theorem dX5_measure_77 : decode cX5_measure 77 = .ok (.aload_n 0, 1) := by decide +kernel
theorem dX5_measure_78 : decode cX5_measure 78 = .ok (.getfield 7, 3) := by decide +kernel
theorem dX5_measure_81 : decode cX5_measure 81 = .ok (.iload_n 2, 1) := by decide +kernel
theorem dX5_measure_82 : decode cX5_measure 82 = .ok (.iaload, 1) := by decide +kernel
theorem dX5_measure_83 : decode cX5_measure 83 = .ok (.iaload, 1) := by decide +kernel
theorem dX5_measure_84 : decode cX5_measure 84 = .ok (.iaload, 1) := by decide +kernel
theorem dX5_measure_85 : decode cX5_measure 85 = .ok (.iconst 1, 1) := by decide +kernel
theorem dX5_measure_86 : decode cX5_measure 86 = .ok (.iadd, 1) := by decide +kernel
theorem dX5_measure_87 : decode cX5_measure 87 = .ok (.invokevirtual 69, 3) := by decide +kernel
theorem dX5_measure_90 : decode cX5_measure 90 = .ok (.iinc 2 1, 3) := by decide +kernel
theorem dX5_measure_93 : decode cX5_measure 93 = .ok (.goto (-39), 3) := by decide +kernel
theorem dX5_measure_96 : decode cX5_measure 96 = .ok (.return_, 1) := by decide +kernel
theorem dX6_init_0 : decode cX6_init 0 = .ok (.aload_n 0, 1) := by decide +kernel
theorem dX6_init_1 : decode cX6_init 1 = .ok (.invokespecial 3, 3) := by decide +kernel
theorem dX6_init_4 : decode cX6_init 4 = .ok (.aload_n 0, 1) := by decide +kernel
theorem dX6_init_5 : decode cX6_init 5 = .ok (.aload_n 1, 1) := by decide +kernel
theorem dX6_init_6 : decode cX6_init 6 = .ok (.putfield 9, 3) := by decide +kernel
theorem dX6_init_9 : decode cX6_init 9 = .ok (.aload_n 0, 1) := by decide +kernel
theorem dX6_init_10 : decode cX6_init 10 = .ok (.aload_n 3, 1) := by decide +kernel
theorem dX6_init_11 : decode cX6_init 11 = .ok (.putfield 15, 3) := by decide +kernel
theorem dX6_init_14 : decode cX6_init 14 = .ok (.aload_n 0, 1) := by decide +kernel
theorem dX6_init_15 : decode cX6_init 15 = .ok (.new 19, 3) := by decide +kernel
theorem dX6_init_18 : decode cX6_init 18 = .ok (.dup, 1) := by decide +kernel
theorem dX6_init_19 : decode cX6_init 19 = .ok (.aload_n 2, 1) := by decide +kernel
theorem dX6_init_20 : decode cX6_init 20 = .ok (.invokespecial 21, 3) := by decide +kernel
theorem dX6_init_23 : decode cX6_init 23 = .ok (.putfield 24, 3) := by decide +kernel
theorem dX6_init_26 : decode cX6_init 26 = .ok (.aload_n 0, 1) := by decide +kernel
theorem dX6_init_27 : decode cX6_init 27 = .ok (.new 28, 3) := by decide +kernel
theorem dX6_init_30 : decode cX6_init 30 = .ok (.dup, 1) := by decide +kernel
theorem dX6_init_31 : decode cX6_init 31 = .ok (.aload_n 1, 1) := by decide +kernel
theorem dX6_init_32 : decode cX6_init 32 = .ok (.sipush 4000, 3) := by decide +kernel
theorem dX6_init_35 : decode cX6_init 35 = .ok (.invokespecial 30, 3) := by decide +kernel
theorem dX6_init_38 : decode cX6_init 38 = .ok (.putfield 33, 3) := by decide +kernel
theorem dX6_init_41 : decode cX6_init 41 = .ok (.aload_n 0, 1) := by decide +kernel
theorem dX6_init_42 : decode cX6_init 42 = .ok (.new 37, 3) := by decide +kernel
theorem dX6_init_45 : decode cX6_init 45 = .ok (.dup, 1) := by decide +kernel
theorem dX6_init_46 : decode cX6_init 46 = .ok (.sipush 510, 3) := by decide +kernel
theorem dX6_init_49 : decode cX6_init 49 = .ok (.invokespecial 39, 3) := by decide +kernel
theorem dX6_init_52 : decode cX6_init 52 = .ok (.putfield 42, 3) := by decide +kernel
theorem dX6_init_55 : decode cX6_init 55 = .ok (.aload_n 0, 1) := by decide +kernel
theorem dX6_init_56 : decode cX6_init 56 = .ok (.aload_n 3, 1) := by decide +kernel
theorem dX6_init_57 : decode cX6_init 57 = .ok (.iconst 0, 1) := by decide +kernel
theorem dX6_init_58 : decode cX6_init 58 = .ok (.invokevirtual 46, 3) := by decide +kernel
theorem dX6_init_61 : decode cX6_init 61 = .ok (.putfield 52, 3) := by decide +kernel
theorem dX6_init_64 : decode cX6_init 64 = .ok (.aload_n 0, 1) := by decide +kernel
theorem dX6_init_65 : decode cX6_init 65 = .ok (.aload_n 3, 1) := by decide +kernel
theorem dX6_init_66 : decode cX6_init 66 = .ok (.iconst 1, 1) := by decide +kernel
theorem dX6_init_67 : decode cX6_init 67 = .ok (.invokevirtual 46, 3) := by decide +kernel
theorem dX6_init_70 : decode cX6_init 70 = .ok (.putfield 56, 3) := by decide +kernel
theorem dX6_init_73 : decode cX6_init 73 = .ok (.aload_n 0, 1) := by decide +kernel
theorem dX6_init_74 : decode cX6_init 74 = .ok (.aload_n 3, 1) := by decide +kernel
theorem dX6_init_75 : decode cX6_init 75 = .ok (.iconst 2, 1) := by decide +kernel
theorem dX6_init_76 : decode cX6_init 76 = .ok (.invokevirtual 46, 3) := by decide +kernel
theorem dX6_init_79 : decode cX6_init 79 = .ok (.putfield 59, 3) := by decide +kernel
theorem dX6_init_82 : decode cX6_init 82 = .ok (.aload_n 0, 1) := by decide +kernel
theorem dX6_init_83 : decode cX6_init 83 = .ok (.sipush 400, 3) := by decide +kernel
theorem dX6_init_86 : decode cX6_init 86 = .ok (.newarray .int, 2) := by decide +kernel
theorem dX6_init_88 : decode cX6_init 88 = .ok (.putfield 62, 3) := by decide +kernel
theorem dX6_init_91 : decode cX6_init 91 = .ok (.aload_n 0, 1) := by decide +kernel
theorem dX6_init_92 : decode cX6_init 92 = .ok (.sipush 400, 3) := by decide +kernel
theorem dX6_init_95 : decode cX6_init 95 = .ok (.newarray .int, 2) := by decide +kernel
theorem dX6_init_97 : decode cX6_init 97 = .ok (.putfield 66, 3) := by decide +kernel
theorem dX6_init_100 : decode cX6_init 100 = .ok (.aload_n 0, 1) := by decide +kernel
theorem dX6_init_101 : decode cX6_init 101 = .ok (.iconst 0, 1) := by decide +kernel
theorem dX6_init_102 : decode cX6_init 102 = .ok (.putfield 69, 3) := by decide +kernel
theorem dX6_init_105 : decode cX6_init 105 = .ok (.aload_n 0, 1) := by decide +kernel
theorem dX6_init_106 : decode cX6_init 106 = .ok (.sipush 510, 3) := by decide +kernel
theorem dX6_init_109 : decode cX6_init 109 = .ok (.newarray .int, 2) := by decide +kernel
theorem dX6_init_111 : decode cX6_init 111 = .ok (.putfield 73, 3) := by decide +kernel
theorem dX6_init_114 : decode cX6_init 114 = .ok (.aload_n 0, 1) := by decide +kernel
theorem dX6_init_115 : decode cX6_init 115 = .ok (.sipush 510, 3) := by decide +kernel
theorem dX6_init_118 : decode cX6_init 118 = .ok (.newarray .int, 2) := by decide +kernel
theorem dX6_init_120 : decode cX6_init 120 = .ok (.putfield 76, 3) := by decide +kernel
theorem dX6_init_123 : decode cX6_init 123 = .ok (.aload_n 0, 1) := by decide +kernel
theorem dX6_init_124 : decode cX6_init 124 = .ok (.iconst 0, 1) := by decide +kernel
theorem dX6_init_125 : decode cX6_init 125 = .ok (.putfield 79, 3) := by decide +kernel
theorem dX6_init_128 : decode cX6_init 128 = .ok (.return_, 1) := by decide +kernel
theorem dX6_pack_0 : decode cX6_pack 0 = .ok (.aload_n 0, 1) := by decide +kernel
theorem dX6_pack_1 : decode cX6_pack 1 = .ok (.getfield 24, 3) := by decide +kernel
theorem dX6_pack_4 : decode cX6_pack 4 = .ok (.invokevirtual 82, 3) := by decide +kernel
theorem dX6_pack_7 : decode cX6_pack 7 = .ok (.aload_n 0, 1) := by decide +kernel
theorem dX6_pack_8 : decode cX6_pack 8 = .ok (.getfield 15, 3) := by decide +kernel
theorem dX6_pack_11 : decode cX6_pack 11 = .ok (.invokevirtual 85, 3) := by decide +kernel
theorem dX6_pack_14 : decode cX6_pack 14 = .ok (.aload_n 0, 1) := by decide +kernel
theorem dX6_pack_15 : decode cX6_pack 15 = .ok (.getfield 33, 3) := by decide +kernel
theorem dX6_pack_18 : decode cX6_pack 18 = .ok (.iload_n 1, 1) := by decide +kernel
theorem dX6_pack_19 : decode cX6_pack 19 = .ok (.invokevirtual 86, 3) := by decide +kernel
theorem dX6_pack_22 : decode cX6_pack 22 = .ok (.iconst 0, 1) := by decide +kernel
theorem dX6_pack_23 : decode cX6_pack 23 = .ok (.istore_n 2, 1) := by decide +kernel
theorem dX6_pack_24 : decode cX6_pack 24 = .ok (.iconst 0, 1) := by decide +kernel
theorem dX6_pack_25 : decode cX6_pack 25 = .ok (.istore_n 3, 1) := by decide +kernel
theorem dX6_pack_26 : decode cX6_pack 26 = .ok (.iload_n 3, 1) := by decide +kernel
theorem dX6_pack_27 : decode cX6_pack 27 = .ok (.iload_n 1, 1) := by decide +kernel
theorem dX6_pack_28 : decode cX6_pack 28 = .ok (.if_icmp .ge 69, 3) := by decide +kernel
theorem dX6_pack_31 : decode cX6_pack 31 = .ok (.iload_n 2, 1) := by decide +kernel
theorem dX6_pack_32 : decode cX6_pack 32 = .ok (.iload_n 1, 1) := by decide +kernel
theorem dX6_pack_33 : decode cX6_pack 33 = .ok (.if_icmp .ge 64, 3) := by decide +kernel
theorem dX6_pack_36 : decode cX6_pack 36 = .ok (.aload_n 0, 1) := by decide +kernel
theorem dX6_pack_37 : decode cX6_pack 37 = .ok (.getfield 15, 3) := by decide +kernel
theorem dX6_pack_40 : decode cX6_pack 40 = .ok (.invokevirtual 88, 3) := by decide +kernel
theorem dX6_pack_43 : decode cX6_pack 43 = .ok (.aload_n 0, 1) := by decide +kernel
theorem dX6_pack_44 : decode cX6_pack 44 = .ok (.iload_n 2, 1) := by decide +kernel
theorem dX6_pack_45 : decode cX6_pack 45 = .ok (.iload_n 1, 1) := by decide +kernel
theorem dX6_pack_46 : decode cX6_pack 46 = .ok (.invokevirtual 91, 3) := by decide +kernel
theorem dX6_pack_49 : decode cX6_pack 49 = .ok (.istore_n 2, 1) := by decide +kernel
theorem dX6_pack_50 : decode cX6_pack 50 = .ok (.aload_n 0, 1) := by decide +kernel
theorem dX6_pack_51 : decode cX6_pack 51 = .ok (.getfield 42, 3) := by decide +kernel
theorem dX6_pack_54 : decode cX6_pack 54 = .ok (.aload_n 0, 1) := by decide +kernel
theorem dX6_pack_55 : decode cX6_pack 55 = .ok (.getfield 56, 3) := by decide +kernel
theorem dX6_pack_58 : decode cX6_pack 58 = .ok (.invokevirtual 95, 3) := by decide +kernel
theorem dX6_pack_61 : decode cX6_pack 61 = .ok (.aload_n 0, 1) := by decide +kernel
theorem dX6_pack_62 : decode cX6_pack 62 = .ok (.getfield 42, 3) := by decide +kernel
theorem dX6_pack_65 : decode cX6_pack 65 = .ok (.aload_n 0, 1) := by decide +kernel
theorem dX6_pack_66 : decode cX6_pack 66 = .ok (.getfield 59, 3) := by decide +kernel
theorem dX6_pack_69 : decode cX6_pack 69 = .ok (.invokevirtual 95, 3) := by decide +kernel
theorem dX6_pack_72 : decode cX6_pack 72 = .ok (.aload_n 0, 1) := by decide +kernel
theorem dX6_pack_73 : decode cX6_pack 73 = .ok (.invokevirtual 99, 3) := by decide +kernel
theorem dX6_pack_76 : decode cX6_pack 76 = .ok (.aload_n 0, 1) := by decide +kernel
theorem dX6_pack_77 : decode cX6_pack 77 = .ok (.getfield 42, 3) := by decide +kernel
theorem dX6_pack_80 : decode cX6_pack 80 = .ok (.aload_n 0, 1) := by decide +kernel
theorem dX6_pack_81 : decode cX6_pack 81 = .ok (.getfield 52, 3) := by decide +kernel
theorem dX6_pack_84 : decode cX6_pack 84 = .ok (.invokevirtual 95, 3) := by decide +kernel
theorem dX6_pack_87 : decode cX6_pack 87 = .ok (.aload_n 0, 1) := by decide +kernel
theorem dX6_pack_88 : decode cX6_pack 88 = .ok (.invokevirtual 102, 3) := by decide +kernel
theorem dX6_pack_91 : decode cX6_pack 91 = .ok (.iinc 3 1, 3) := by decide +kernel
theorem dX6_pack_94 : decode cX6_pack 94 = .ok (.goto (-68), 3) := by decide +kernel
theorem dX6_pack_97 : decode cX6_pack 97 = .ok (.aload_n 0, 1) := by decide +kernel
theorem dX6_pack_98 : decode cX6_pack 98 = .ok (.getfield 15, 3) := by decide +kernel
theorem dX6_pack_101 : decode cX6_pack 101 = .ok (.aload_n 0, 1) := by decide +kernel
theorem dX6_pack_102 : decode cX6_pack 102 = .ok (.getfield 24, 3) := by decide +kernel
theorem dX6_pack_105 : decode cX6_pack 105 = .ok (.invokevirtual 105, 3) := by decide +kernel
theorem dX6_pack_108 : decode cX6_pack 108 = .ok (.invokevirtual 109, 3) := by decide +kernel
theorem dX6_pack_111 : decode cX6_pack 111 = .ok (.return_, 1) := by decide +kernel
theorem dX6_gatherCodes_0 : decode cX6_gatherCodes 0 = .ok (.iload_n 1, 1) := by decide +kernel
theorem dX6_gatherCodes_1 : decode cX6_gatherCodes 1 = .ok (.istore_n 3, 1) := by decide +kernel
theorem dX6_gatherCodes_2 : decode cX6_gatherCodes 2 = .ok (.aload_n 0, 1) := by decide +kernel
theorem dX6_gatherCodes_3 : decode cX6_gatherCodes 3 = .ok (.iconst 0, 1) := by decide +kernel
theorem dX6_gatherCodes_4 : decode cX6_gatherCodes 4 = .ok (.putfield 69, 3) := by decide +kernel
theorem dX6_gatherCodes_7 : decode cX6_gatherCodes 7 = .ok (.iconst 0, 1) := by decide +kernel
theorem dX6_gatherCodes_8 : decode cX6_gatherCodes 8 = .ok (.istore 4, 2) := by decide +kernel
theorem dX6_gatherCodes_10 : decode cX6_gatherCodes 10 = .ok (.iload 4, 2) := by decide +kernel
theorem dX6_gatherCodes_12 : decode cX6_gatherCodes 12 = .ok (.sipush 400, 3) := by decide +kernel
theorem dX6_gatherCodes_15 : decode cX6_gatherCodes 15 = .ok (.if_icmp .ge 143, 3) := by decide +kernel
theorem dX6_gatherCodes_18 : decode cX6_gatherCodes 18 = .ok (.iload_n 3, 1) := by decide +kernel
theorem dX6_gatherCodes_19 : decode cX6_gatherCodes 19 = .ok (.iload_n 2, 1) := by decide +kernel
theorem dX6_gatherCodes_20 : decode cX6_gatherCodes 20 = .ok (.if_icmp .ge 138, 3) := by decide +kernel
theorem dX6_gatherCodes_23 : decode cX6_gatherCodes 23 = .ok (.aload_n 0, 1) := by decide +kernel
theorem dX6_gatherCodes_24 : decode cX6_gatherCodes 24 = .ok (.getfield 33, 3) := by decide +kernel
theorem dX6_gatherCodes_27 : decode cX6_gatherCodes 27 = .ok (.iload_n 3, 1) := by decide +kernel
theorem dX6_gatherCodes_28 : decode cX6_gatherCodes 28 = .ok (.invokevirtual 112, 3) := by decide +kernel
theorem dX6_gatherCodes_31 : decode cX6_gatherCodes 31 = .ok (.ifCond .eq 72, 3) := by decide +kernel
theorem dX6_gatherCodes_34 : decode cX6_gatherCodes 34 = .ok (.aload_n 0, 1) := by decide +kernel
theorem dX6_gatherCodes_35 : decode cX6_gatherCodes 35 = .ok (.getfield 62, 3) := by decide +kernel
theorem dX6_gatherCodes_38 : decode cX6_gatherCodes 38 = .ok (.iload 4, 2) := by decide +kernel
theorem dX6_gatherCodes_40 : decode cX6_gatherCodes 40 = .ok (.aload_n 0, 1) := by decide +kernel
theorem dX6_gatherCodes_41 : decode cX6_gatherCodes 41 = .ok (.getfield 33, 3) := by decide +kernel
theorem dX6_gatherCodes_44 : decode cX6_gatherCodes 44 = .ok (.invokevirtual 116, 3) := by decide +kernel
theorem dX6_gatherCodes_47 : decode cX6_gatherCodes 47 = .ok (.sipush 253, 3) := by decide +kernel
theorem dX6_gatherCodes_50 : decode cX6_gatherCodes 50 = .ok (.iadd, 1) := by decide +kernel
theorem dX6_gatherCodes_51 : decode cX6_gatherCodes 51 = .ok (.iastore, 1) := by decide +kernel
theorem dX6_gatherCodes_52 : decode cX6_gatherCodes 52 = .ok (.aload_n 0, 1) := by decide +kernel
theorem dX6_gatherCodes_53 : decode cX6_gatherCodes 53 = .ok (.getfield 66, 3) := by decide +kernel
theorem dX6_gatherCodes_56 : decode cX6_gatherCodes 56 = .ok (.iload 4, 2) := by decide +kernel
theorem dX6_gatherCodes_58 : decode cX6_gatherCodes 58 = .ok (.aload_n 0, 1) := by decide +kernel
theorem dX6_gatherCodes_59 : decode cX6_gatherCodes 59 = .ok (.getfield 33, 3) := by decide +kernel
theorem dX6_gatherCodes_62 : decode cX6_gatherCodes 62 = .ok (.invokevirtual 119, 3) := by decide +kernel
theorem dX6_gatherCodes_65 : decode cX6_gatherCodes 65 = .ok (.iastore, 1) := by decide +kernel
theorem dX6_gatherCodes_66 : decode cX6_gatherCodes 66 = .ok (.iload_n 3, 1) := by decide +kernel
theorem dX6_gatherCodes_67 : decode cX6_gatherCodes 67 = .ok (.aload_n 0, 1) := by decide +kernel
theorem dX6_gatherCodes_68 : decode cX6_gatherCodes 68 = .ok (.getfield 33, 3) := by decide +kernel
theorem dX6_gatherCodes_71 : decode cX6_gatherCodes 71 = .ok (.invokevirtual 116, 3) := by decide +kernel
theorem dX6_gatherCodes_74 : decode cX6_gatherCodes 74 = .ok (.iadd, 1) := by decide +kernel
theorem dX6_gatherCodes_75 : decode cX6_gatherCodes 75 = .ok (.istore_n 3, 1) := by decide +kernel
theorem dX6_gatherCodes_76 : decode cX6_gatherCodes 76 = .ok (.aload_n 0, 1) := by decide +kernel
theorem dX6_gatherCodes_77 : decode cX6_gatherCodes 77 = .ok (.getfield 59, 3) := by decide +kernel
theorem dX6_gatherCodes_80 : decode cX6_gatherCodes 80 = .ok (.aload_n 0, 1) := by decide +kernel
theorem dX6_gatherCodes_81 : decode cX6_gatherCodes 81 = .ok (.getfield 66, 3) := by decide +kernel
theorem dX6_gatherCodes_84 : decode cX6_gatherCodes 84 = .ok (.iload 4, 2) := by decide +kernel
theorem dX6_gatherCodes_86 : decode cX6_gatherCodes 86 = .ok (.iaload, 1) := by decide +kernel
theorem dX6_gatherCodes_87 : decode cX6_gatherCodes 87 = .ok (.invokestatic 122, 3) := by decide +kernel
theorem dX6_gatherCodes_90 : decode cX6_gatherCodes 90 = .ok (.invokevirtual 126, 3) := by decide +kernel
theorem dX6_gatherCodes_93 : decode cX6_gatherCodes 93 = .ok (.aload_n 0, 1) := by decide +kernel
theorem dX6_gatherCodes_94 : decode cX6_gatherCodes 94 = .ok (.getfield 15, 3) := by decide +kernel
theorem dX6_gatherCodes_97 : decode cX6_gatherCodes 97 = .ok (.invokevirtual 131, 3) := by decide +kernel
theorem dX6_gatherCodes_100 : decode cX6_gatherCodes 100 = .ok (.goto 28, 3) := by decide +kernel
theorem dX6_gatherCodes_103 : decode cX6_gatherCodes 103 = .ok (.aload_n 0, 1) := by decide +kernel
theorem dX6_gatherCodes_104 : decode cX6_gatherCodes 104 = .ok (.getfield 62, 3) := by decide +kernel
theorem dX6_gatherCodes_107 : decode cX6_gatherCodes 107 = .ok (.iload 4, 2) := by decide +kernel
theorem dX6_gatherCodes_109 : decode cX6_gatherCodes 109 = .ok (.aload_n 0, 1) := by decide +kernel
theorem dX6_gatherCodes_110 : decode cX6_gatherCodes 110 = .ok (.getfield 9, 3) := by decide +kernel
theorem dX6_gatherCodes_113 : decode cX6_gatherCodes 113 = .ok (.iload_n 3, 1) := by decide +kernel
theorem dX6_gatherCodes_114 : decode cX6_gatherCodes 114 = .ok (.invokevirtual 134, 3) := by decide +kernel
theorem dX6_gatherCodes_117 : decode cX6_gatherCodes 117 = .ok (.iastore, 1) := by decide +kernel
theorem dX6_gatherCodes_118 : decode cX6_gatherCodes 118 = .ok (.iinc 3 1, 3) := by decide +kernel
theorem dX6_gatherCodes_121 : decode cX6_gatherCodes 121 = .ok (.aload_n 0, 1) := by decide +kernel
theorem dX6_gatherCodes_122 : decode cX6_gatherCodes 122 = .ok (.getfield 15, 3) := by decide +kernel
theorem dX6_gatherCodes_125 : decode cX6_gatherCodes 125 = .ok (.invokevirtual 139, 3) := by decide +kernel
theorem dX6_gatherCodes_128 : decode cX6_gatherCodes 128 = .ok (.aload_n 0, 1) := by decide +kernel
theorem dX6_gatherCodes_129 : decode cX6_gatherCodes 129 = .ok (.getfield 56, 3) := by decide +kernel
theorem dX6_gatherCodes_132 : decode cX6_gatherCodes 132 = .ok (.aload_n 0, 1) := by decide +kernel
theorem dX6_gatherCodes_133 : decode cX6_gatherCodes 133 = .ok (.getfield 62, 3) := by decide +kernel
theorem dX6_gatherCodes_136 : decode cX6_gatherCodes 136 = .ok (.iload 4, 2) := by decide +kernel
theorem dX6_gatherCodes_138 : decode cX6_gatherCodes 138 = .ok (.iaload, 1) := by decide +kernel
theorem dX6_gatherCodes_139 : decode cX6_gatherCodes 139 = .ok (.invokevirtual 126, 3) := by decide +kernel
theorem dX6_gatherCodes_142 : decode cX6_gatherCodes 142 = .ok (.aload_n 0, 1) := by decide +kernel
theorem dX6_gatherCodes_143 : decode cX6_gatherCodes 143 = .ok (.dup, 1) := by decide +kernel
theorem dX6_gatherCodes_144 : decode cX6_gatherCodes 144 = .ok (.getfield 69, 3) := by decide +kernel
theorem dX6_gatherCodes_147 : decode cX6_gatherCodes 147 = .ok (.iconst 1, 1) := by decide +kernel
theorem dX6_gatherCodes_148 : decode cX6_gatherCodes 148 = .ok (.iadd, 1) := by decide +kernel
theorem dX6_gatherCodes_149 : decode cX6_gatherCodes 149 = .ok (.putfield 69, 3) := by decide +kernel
theorem dX6_gatherCodes_152 : decode cX6_gatherCodes 152 = .ok (.iinc 4 1, 3) := by decide +kernel
theorem dX6_gatherCodes_155 : decode cX6_gatherCodes 155 = .ok (.goto (-145), 3) := by decide +kernel
theorem dX6_gatherCodes_158 : decode cX6_gatherCodes 158 = .ok (.iload_n 3, 1) := by decide +kernel
theorem dX6_gatherCodes_159 : decode cX6_gatherCodes 159 = .ok (.ireturn, 1) := by decide +kernel
theorem dX6_gatherTellers_0 : decode cX6_gatherTellers 0 = .ok (.aload_n 0, 1) := by decide +kernel
theorem dX6_gatherTellers_1 : decode cX6_gatherTellers 1 = .ok (.iconst 0, 1) := by decide +kernel
theorem dX6_gatherTellers_2 : decode cX6_gatherTellers 2 = .ok (.putfield 79, 3) := by decide +kernel
theorem dX6_gatherTellers_5 : decode cX6_gatherTellers 5 = .ok (.aload_n 0, 1) := by decide +kernel
theorem dX6_gatherTellers_6 : decode cX6_gatherTellers 6 = .ok (.getfield 56, 3) := by decide +kernel
theorem dX6_gatherTellers_9 : decode cX6_gatherTellers 9 = .ok (.invokevirtual 142, 3) := by decide +kernel
theorem dX6_gatherTellers_12 : decode cX6_gatherTellers 12 = .ok (.istore_n 1, 1) := by decide +kernel
theorem dX6_gatherTellers_13 : decode cX6_gatherTellers 13 = .ok (.iconst 0, 1) := by decide +kernel
theorem dX6_gatherTellers_14 : decode cX6_gatherTellers 14 = .ok (.istore_n 2, 1) := by decide +kernel
theorem dX6_gatherTellers_15 : decode cX6_gatherTellers 15 = .ok (.iload_n 2, 1) := by decide +kernel
theorem dX6_gatherTellers_16 : decode cX6_gatherTellers 16 = .ok (.iload_n 1, 1) := by decide +kernel
theorem dX6_gatherTellers_17 : decode cX6_gatherTellers 17 = .ok (.if_icmp .ge 54, 3) := by decide +kernel
theorem dX6_gatherTellers_20 : decode cX6_gatherTellers 20 = .ok (.aload_n 0, 1) := by decide +kernel
theorem dX6_gatherTellers_21 : decode cX6_gatherTellers 21 = .ok (.getfield 56, 3) := by decide +kernel
theorem dX6_gatherTellers_24 : decode cX6_gatherTellers 24 = .ok (.iload_n 2, 1) := by decide +kernel
theorem dX6_gatherTellers_25 : decode cX6_gatherTellers 25 = .ok (.iload_n 1, 1) := by decide +kernel
theorem dX6_gatherTellers_26 : decode cX6_gatherTellers 26 = .ok (.iload_n 2, 1) := by decide +kernel
theorem dX6_gatherTellers_27 : decode cX6_gatherTellers 27 = .ok (.isub, 1) := by decide +kernel
theorem dX6_gatherTellers_28 : decode cX6_gatherTellers 28 = .ok (.invokevirtual 145, 3) := by decide +kernel
theorem dX6_gatherTellers_31 : decode cX6_gatherTellers 31 = .ok (.istore_n 3, 1) := by decide +kernel
theorem dX6_gatherTellers_32 : decode cX6_gatherTellers 32 = .ok (.iload_n 3, 1) := by decide +kernel
theorem dX6_gatherTellers_33 : decode cX6_gatherTellers 33 = .ok (.ifCond .ne 21, 3) := by decide +kernel
theorem dX6_gatherTellers_36 : decode cX6_gatherTellers 36 = .ok (.aload_n 0, 1) := by decide +kernel
theorem dX6_gatherTellers_37 : decode cX6_gatherTellers 37 = .ok (.aload_n 0, 1) := by decide +kernel
theorem dX6_gatherTellers_38 : decode cX6_gatherTellers 38 = .ok (.getfield 56, 3) := by decide +kernel
theorem dX6_gatherTellers_41 : decode cX6_gatherTellers 41 = .ok (.iload_n 2, 1) := by decide +kernel
theorem dX6_gatherTellers_42 : decode cX6_gatherTellers 42 = .ok (.invokevirtual 148, 3) := by decide +kernel
theorem dX6_gatherTellers_45 : decode cX6_gatherTellers 45 = .ok (.iconst 2, 1) := by decide +kernel
theorem dX6_gatherTellers_46 : decode cX6_gatherTellers 46 = .ok (.iadd, 1) := by decide +kernel
theorem dX6_gatherTellers_47 : decode cX6_gatherTellers 47 = .ok (.iconst 0, 1) := by decide +kernel
theorem dX6_gatherTellers_48 : decode cX6_gatherTellers 48 = .ok (.invokevirtual 151, 3) := by decide +kernel
theorem dX6_gatherTellers_51 : decode cX6_gatherTellers 51 = .ok (.goto 14, 3) := by decide +kernel
theorem dX6_gatherTellers_54 : decode cX6_gatherTellers 54 = .ok (.aload_n 0, 1) := by decide +kernel
theorem dX6_gatherTellers_55 : decode cX6_gatherTellers 55 = .ok (.iload_n 3, 1) := by decide +kernel
theorem dX6_gatherTellers_56 : decode cX6_gatherTellers 56 = .ok (.invokevirtual 155, 3) := by decide +kernel
theorem dX6_gatherTellers_59 : decode cX6_gatherTellers 59 = .ok (.iload_n 2, 1) := by decide +kernel
theorem dX6_gatherTellers_60 : decode cX6_gatherTellers 60 = .ok (.iload_n 3, 1) := by decide +kernel
theorem dX6_gatherTellers_61 : decode cX6_gatherTellers 61 = .ok (.iconst 1, 1) := by decide +kernel
theorem dX6_gatherTellers_62 : decode cX6_gatherTellers 62 = .ok (.isub, 1) := by decide +kernel
theorem dX6_gatherTellers_63 : decode cX6_gatherTellers 63 = .ok (.iadd, 1) := by decide +kernel
theorem dX6_gatherTellers_64 : decode cX6_gatherTellers 64 = .ok (.istore_n 2, 1) := by decide +kernel
theorem dX6_gatherTellers_65 : decode cX6_gatherTellers 65 = .ok (.iinc 2 1, 3) := by decide +kernel
theorem dX6_gatherTellers_68 : decode cX6_gatherTellers 68 = .ok (.goto (-53), 3) := by decide +kernel
theorem dX6_gatherTellers_71 : decode cX6_gatherTellers 71 = .ok (.return_, 1) := by decide +kernel
theorem dX6_addZeros_0 : decode cX6_addZeros 0 = .ok (.iload_n 1, 1) := by decide +kernel
theorem dX6_addZeros_1 : decode cX6_addZeros 1 = .ok (.bipush 20, 2) := by decide +kernel
theorem dX6_addZeros_3 : decode cX6_addZeros 3 = .ok (.if_icmp .lt 15, 3) := by decide +kernel
theorem dX6_addZeros_6 : decode cX6_addZeros 6 = .ok (.aload_n 0, 1) := by decide +kernel
theorem dX6_addZeros_7 : decode cX6_addZeros 7 = .ok (.iconst 2, 1) := by decide +kernel
theorem dX6_addZeros_8 : decode cX6_addZeros 8 = .ok (.iload_n 1, 1) := by decide +kernel
theorem dX6_addZeros_9 : decode cX6_addZeros 9 = .ok (.bipush 20, 2) := by decide +kernel
theorem dX6_addZeros_11 : decode cX6_addZeros 11 = .ok (.isub, 1) := by decide +kernel
theorem dX6_addZeros_12 : decode cX6_addZeros 12 = .ok (.invokevirtual 151, 3) := by decide +kernel
theorem dX6_addZeros_15 : decode cX6_addZeros 15 = .ok (.goto 60, 3) := by decide +kernel
theorem dX6_addZeros_18 : decode cX6_addZeros 18 = .ok (.iload_n 1, 1) := by decide +kernel
theorem dX6_addZeros_19 : decode cX6_addZeros 19 = .ok (.bipush 18, 2) := by decide +kernel
theorem dX6_addZeros_21 : decode cX6_addZeros 21 = .ok (.if_icmp .le 19, 3) := by decide +kernel
theorem dX6_addZeros_24 : decode cX6_addZeros 24 = .ok (.aload_n 0, 1) := by decide +kernel
theorem dX6_addZeros_25 : decode cX6_addZeros 25 = .ok (.iconst 0, 1) := by decide +kernel
theorem dX6_addZeros_26 : decode cX6_addZeros 26 = .ok (.iconst 0, 1) := by decide +kernel
theorem dX6_addZeros_27 : decode cX6_addZeros 27 = .ok (.invokevirtual 151, 3) := by decide +kernel
theorem dX6_addZeros_30 : decode cX6_addZeros 30 = .ok (.aload_n 0, 1) := by decide +kernel
theorem dX6_addZeros_31 : decode cX6_addZeros 31 = .ok (.iconst 1, 1) := by decide +kernel
theorem dX6_addZeros_32 : decode cX6_addZeros 32 = .ok (.bipush 15, 2) := by decide +kernel
theorem dX6_addZeros_34 : decode cX6_addZeros 34 = .ok (.invokevirtual 151, 3) := by decide +kernel
theorem dX6_addZeros_37 : decode cX6_addZeros 37 = .ok (.goto 38, 3) := by decide +kernel
theorem dX6_addZeros_40 : decode cX6_addZeros 40 = .ok (.iload_n 1, 1) := by decide +kernel
theorem dX6_addZeros_41 : decode cX6_addZeros 41 = .ok (.iconst 3, 1) := by decide +kernel
theorem dX6_addZeros_42 : decode cX6_addZeros 42 = .ok (.if_icmp .lt 14, 3) := by decide +kernel
theorem dX6_addZeros_45 : decode cX6_addZeros 45 = .ok (.aload_n 0, 1) := by decide +kernel
theorem dX6_addZeros_46 : decode cX6_addZeros 46 = .ok (.iconst 1, 1) := by decide +kernel
theorem dX6_addZeros_47 : decode cX6_addZeros 47 = .ok (.iload_n 1, 1) := by decide +kernel
theorem dX6_addZeros_48 : decode cX6_addZeros 48 = .ok (.iconst 3, 1) := by decide +kernel
theorem dX6_addZeros_49 : decode cX6_addZeros 49 = .ok (.isub, 1) := by decide +kernel
theorem dX6_addZeros_50 : decode cX6_addZeros 50 = .ok (.invokevirtual 151, 3) := by decide +kernel
theorem dX6_addZeros_53 : decode cX6_addZeros 53 = .ok (.goto 22, 3) := by decide +kernel
theorem dX6_addZeros_56 : decode cX6_addZeros 56 = .ok (.iconst 0, 1) := by decide +kernel
theorem dX6_addZeros_57 : decode cX6_addZeros 57 = .ok (.istore_n 2, 1) := by decide +kernel
theorem dX6_addZeros_58 : decode cX6_addZeros 58 = .ok (.iload_n 2, 1) := by decide +kernel
theorem dX6_addZeros_59 : decode cX6_addZeros 59 = .ok (.iload_n 1, 1) := by decide +kernel
theorem dX6_addZeros_60 : decode cX6_addZeros 60 = .ok (.if_icmp .ge 15, 3) := by decide +kernel
theorem dX6_addZeros_63 : decode cX6_addZeros 63 = .ok (.aload_n 0, 1) := by decide +kernel
theorem dX6_addZeros_64 : decode cX6_addZeros 64 = .ok (.iconst 0, 1) := by decide +kernel
theorem dX6_addZeros_65 : decode cX6_addZeros 65 = .ok (.iconst 0, 1) := by decide +kernel
theorem dX6_addZeros_66 : decode cX6_addZeros 66 = .ok (.invokevirtual 151, 3) := by decide +kernel
theorem dX6_addZeros_69 : decode cX6_addZeros 69 = .ok (.iinc 2 1, 3) := by decide +kernel
theorem dX6_addZeros_72 : decode cX6_addZeros 72 = .ok (.goto (-14), 3) := by decide +kernel
theorem dX6_addZeros_75 : decode cX6_addZeros 75 = .ok (.return_, 1) := by decide +kernel
theorem dX6_addTeller_0 : decode cX6_addTeller 0 = .ok (.aload_n 0, 1) := by decide +kernel
theorem dX6_addTeller_1 : decode cX6_addTeller 1 = .ok (.getfield 79, 3) := by decide +kernel
theorem dX6_addTeller_4 : decode cX6_addTeller 4 = .ok (.aload_n 0, 1) := by decide +kernel
theorem dX6_addTeller_5 : decode cX6_addTeller 5 = .ok (.getfield 73, 3) := by decide +kernel
theorem dX6_addTeller_8 : decode cX6_addTeller 8 = .ok (.arraylength, 1) := by decide +kernel
theorem dX6_addTeller_9 : decode cX6_addTeller 9 = .ok (.if_icmp .ge 41, 3) := by decide +kernel
theorem dX6_addTeller_12 : decode cX6_addTeller 12 = .ok (.aload_n 0, 1) := by decide +kernel
theorem dX6_addTeller_13 : decode cX6_addTeller 13 = .ok (.getfield 73, 3) := by decide +kernel
theorem dX6_addTeller_16 : decode cX6_addTeller 16 = .ok (.aload_n 0, 1) := by decide +kernel
theorem dX6_addTeller_17 : decode cX6_addTeller 17 = .ok (.getfield 79, 3) := by decide +kernel
theorem dX6_addTeller_20 : decode cX6_addTeller 20 = .ok (.iload_n 1, 1) := by decide +kernel
theorem dX6_addTeller_21 : decode cX6_addTeller 21 = .ok (.iastore, 1) := by decide +kernel
theorem dX6_addTeller_22 : decode cX6_addTeller 22 = .ok (.aload_n 0, 1) := by decide +kernel
theorem dX6_addTeller_23 : decode cX6_addTeller 23 = .ok (.getfield 76, 3) := by decide +kernel
theorem dX6_addTeller_26 : decode cX6_addTeller 26 = .ok (.aload_n 0, 1) := by decide +kernel
theorem dX6_addTeller_27 : decode cX6_addTeller 27 = .ok (.getfield 79, 3) := by decide +kernel
theorem dX6_addTeller_30 : decode cX6_addTeller 30 = .ok (.iload_n 2, 1) := by decide +kernel
theorem dX6_addTeller_31 : decode cX6_addTeller 31 = .ok (.iastore, 1) := by decide +kernel
theorem dX6_addTeller_32 : decode cX6_addTeller 32 = .ok (.aload_n 0, 1) := by decide +kernel
theorem dX6_addTeller_33 : decode cX6_addTeller 33 = .ok (.dup, 1) := by decide +kernel
theorem dX6_addTeller_34 : decode cX6_addTeller 34 = .ok (.getfield 79, 3) := by decide +kernel
theorem dX6_addTeller_37 : decode cX6_addTeller 37 = .ok (.iconst 1, 1) := by decide +kernel
theorem dX6_addTeller_38 : decode cX6_addTeller 38 = .ok (.iadd, 1) := by decide +kernel
theorem dX6_addTeller_39 : decode cX6_addTeller 39 = .ok (.putfield 79, 3) := by decide +kernel
theorem dX6_addTeller_42 : decode cX6_addTeller 42 = .ok (.aload_n 0, 1) := by decide +kernel
theorem dX6_addTeller_43 : decode cX6_addTeller 43 = .ok (.getfield 52, 3) := by decide +kernel
theorem dX6_addTeller_46 : decode cX6_addTeller 46 = .ok (.iload_n 1, 1) := by decide +kernel
theorem dX6_addTeller_47 : decode cX6_addTeller 47 = .ok (.invokevirtual 126, 3) := by decide +kernel
theorem dX6_addTeller_50 : decode cX6_addTeller 50 = .ok (.return_, 1) := by decide +kernel
theorem dX6_packBlock_0 : decode cX6_packBlock 0 = .ok (.aload_n 0, 1) := by decide +kernel
theorem dX6_packBlock_1 : decode cX6_packBlock 1 = .ok (.getfield 24, 3) := by decide +kernel
theorem dX6_packBlock_4 : decode cX6_packBlock 4 = .ok (.aload_n 0, 1) := by decide +kernel
theorem dX6_packBlock_5 : decode cX6_packBlock 5 = .ok (.getfield 69, 3) := by decide +kernel
theorem dX6_packBlock_8 : decode cX6_packBlock 8 = .ok (.bipush 16, 2) := by decide +kernel
theorem dX6_packBlock_10 : decode cX6_packBlock 10 = .ok (.invokevirtual 158, 3) := by decide +kernel
theorem dX6_packBlock_13 : decode cX6_packBlock 13 = .ok (.aload_n 0, 1) := by decide +kernel
theorem dX6_packBlock_14 : decode cX6_packBlock 14 = .ok (.aload_n 0, 1) := by decide +kernel
theorem dX6_packBlock_15 : decode cX6_packBlock 15 = .ok (.getfield 52, 3) := by decide +kernel
theorem dX6_packBlock_18 : decode cX6_packBlock 18 = .ok (.iconst 5, 1) := by decide +kernel
theorem dX6_packBlock_19 : decode cX6_packBlock 19 = .ok (.iconst 1, 1) := by decide +kernel
theorem dX6_packBlock_20 : decode cX6_packBlock 20 = .ok (.invokevirtual 161, 3) := by decide +kernel
theorem dX6_packBlock_23 : decode cX6_packBlock 23 = .ok (.aload_n 0, 1) := by decide +kernel
theorem dX6_packBlock_24 : decode cX6_packBlock 24 = .ok (.invokevirtual 165, 3) := by decide +kernel
theorem dX6_packBlock_27 : decode cX6_packBlock 27 = .ok (.aload_n 0, 1) := by decide +kernel
theorem dX6_packBlock_28 : decode cX6_packBlock 28 = .ok (.aload_n 0, 1) := by decide +kernel
theorem dX6_packBlock_29 : decode cX6_packBlock 29 = .ok (.getfield 59, 3) := by decide +kernel
theorem dX6_packBlock_32 : decode cX6_packBlock 32 = .ok (.iconst 4, 1) := by decide +kernel
theorem dX6_packBlock_33 : decode cX6_packBlock 33 = .ok (.iconst 0, 1) := by decide +kernel
theorem dX6_packBlock_34 : decode cX6_packBlock 34 = .ok (.invokevirtual 161, 3) := by decide +kernel
theorem dX6_packBlock_37 : decode cX6_packBlock 37 = .ok (.iconst 0, 1) := by decide +kernel
theorem dX6_packBlock_38 : decode cX6_packBlock 38 = .ok (.istore_n 1, 1) := by decide +kernel
theorem dX6_packBlock_39 : decode cX6_packBlock 39 = .ok (.iload_n 1, 1) := by decide +kernel
theorem dX6_packBlock_40 : decode cX6_packBlock 40 = .ok (.aload_n 0, 1) := by decide +kernel
theorem dX6_packBlock_41 : decode cX6_packBlock 41 = .ok (.getfield 69, 3) := by decide +kernel
theorem dX6_packBlock_44 : decode cX6_packBlock 44 = .ok (.if_icmp .ge 48, 3) := by decide +kernel
theorem dX6_packBlock_47 : decode cX6_packBlock 47 = .ok (.aload_n 0, 1) := by decide +kernel
theorem dX6_packBlock_48 : decode cX6_packBlock 48 = .ok (.getfield 24, 3) := by decide +kernel
theorem dX6_packBlock_51 : decode cX6_packBlock 51 = .ok (.aload_n 0, 1) := by decide +kernel
theorem dX6_packBlock_52 : decode cX6_packBlock 52 = .ok (.getfield 56, 3) := by decide +kernel
theorem dX6_packBlock_55 : decode cX6_packBlock 55 = .ok (.aload_n 0, 1) := by decide +kernel
theorem dX6_packBlock_56 : decode cX6_packBlock 56 = .ok (.getfield 62, 3) := by decide +kernel
theorem dX6_packBlock_59 : decode cX6_packBlock 59 = .ok (.iload_n 1, 1) := by decide +kernel
theorem dX6_packBlock_60 : decode cX6_packBlock 60 = .ok (.iaload, 1) := by decide +kernel
theorem dX6_packBlock_61 : decode cX6_packBlock 61 = .ok (.invokevirtual 168, 3) := by decide +kernel
theorem dX6_packBlock_64 : decode cX6_packBlock 64 = .ok (.aload_n 0, 1) := by decide +kernel
theorem dX6_packBlock_65 : decode cX6_packBlock 65 = .ok (.getfield 62, 3) := by decide +kernel
theorem dX6_packBlock_68 : decode cX6_packBlock 68 = .ok (.iload_n 1, 1) := by decide +kernel
theorem dX6_packBlock_69 : decode cX6_packBlock 69 = .ok (.iaload, 1) := by decide +kernel
theorem dX6_packBlock_70 : decode cX6_packBlock 70 = .ok (.sipush 256, 3) := by decide +kernel
theorem dX6_packBlock_73 : decode cX6_packBlock 73 = .ok (.if_icmp .lt 13, 3) := by decide +kernel
theorem dX6_packBlock_76 : decode cX6_packBlock 76 = .ok (.aload_n 0, 1) := by decide +kernel
theorem dX6_packBlock_77 : decode cX6_packBlock 77 = .ok (.aload_n 0, 1) := by decide +kernel
theorem dX6_packBlock_78 : decode cX6_packBlock 78 = .ok (.getfield 66, 3) := by decide +kernel
theorem dX6_packBlock_81 : decode cX6_packBlock 81 = .ok (.iload_n 1, 1) := by decide +kernel
theorem dX6_packBlock_82 : decode cX6_packBlock 82 = .ok (.iaload, 1) := by decide +kernel
theorem dX6_packBlock_83 : decode cX6_packBlock 83 = .ok (.invokevirtual 172, 3) := by decide +kernel
theorem dX6_packBlock_86 : decode cX6_packBlock 86 = .ok (.iinc 1 1, 3) := by decide +kernel
theorem dX6_packBlock_89 : decode cX6_packBlock 89 = .ok (.goto (-50), 3) := by decide +kernel
theorem dX6_packBlock_92 : decode cX6_packBlock 92 = .ok (.return_, 1) := by decide +kernel
theorem dX6_tellTree_0 : decode cX6_tellTree 0 = .ok (.aload_n 1, 1) := by decide +kernel
theorem dX6_tellTree_1 : decode cX6_tellTree 1 = .ok (.invokevirtual 175, 3) := by decide +kernel
theorem dX6_tellTree_4 : decode cX6_tellTree 4 = .ok (.ifCond .eq 16, 3) := by decide +kernel
theorem dX6_tellTree_7 : decode cX6_tellTree 7 = .ok (.aload_n 0, 1) := by decide +kernel
theorem dX6_tellTree_8 : decode cX6_tellTree 8 = .ok (.getfield 24, 3) := by decide +kernel
theorem dX6_tellTree_11 : decode cX6_tellTree 11 = .ok (.aload_n 1, 1) := by decide +kernel
theorem dX6_tellTree_12 : decode cX6_tellTree 12 = .ok (.invokevirtual 179, 3) := by decide +kernel
theorem dX6_tellTree_15 : decode cX6_tellTree 15 = .ok (.iload_n 2, 1) := by decide +kernel
theorem dX6_tellTree_16 : decode cX6_tellTree 16 = .ok (.invokevirtual 182, 3) := by decide +kernel
theorem dX6_tellTree_19 : decode cX6_tellTree 19 = .ok (.return_, 1) := by decide +kernel
theorem dX6_tellTree_20 : decode cX6_tellTree 20 = .ok (.aload_n 1, 1) := by decide +kernel
theorem dX6_tellTree_21 : decode cX6_tellTree 21 = .ok (.invokevirtual 142, 3) := by decide +kernel
theorem dX6_tellTree_24 : decode cX6_tellTree 24 = .ok (.istore 4, 2) := by decide +kernel
theorem dX6_tellTree_26 : decode cX6_tellTree 26 = .ok (.aload_n 0, 1) := by decide +kernel
theorem dX6_tellTree_27 : decode cX6_tellTree 27 = .ok (.getfield 24, 3) := by decide +kernel
theorem dX6_tellTree_30 : decode cX6_tellTree 30 = .ok (.iload 4, 2) := by decide +kernel
theorem dX6_tellTree_32 : decode cX6_tellTree 32 = .ok (.iload_n 2, 1) := by decide +kernel
theorem dX6_tellTree_33 : decode cX6_tellTree 33 = .ok (.invokevirtual 158, 3) := by decide +kernel
theorem dX6_tellTree_36 : decode cX6_tellTree 36 = .ok (.iconst 0, 1) := by decide +kernel
theorem dX6_tellTree_37 : decode cX6_tellTree 37 = .ok (.istore 5, 2) := by decide +kernel
theorem dX6_tellTree_39 : decode cX6_tellTree 39 = .ok (.iload 5, 2) := by decide +kernel
theorem dX6_tellTree_41 : decode cX6_tellTree 41 = .ok (.iload 4, 2) := by decide +kernel
theorem dX6_tellTree_43 : decode cX6_tellTree 43 = .ok (.if_icmp .ge 60, 3) := by decide +kernel
theorem dX6_tellTree_46 : decode cX6_tellTree 46 = .ok (.aload_n 0, 1) := by decide +kernel
theorem dX6_tellTree_47 : decode cX6_tellTree 47 = .ok (.getfield 24, 3) := by decide +kernel
theorem dX6_tellTree_50 : decode cX6_tellTree 50 = .ok (.aload_n 1, 1) := by decide +kernel
theorem dX6_tellTree_51 : decode cX6_tellTree 51 = .ok (.iload 5, 2) := by decide +kernel
theorem dX6_tellTree_53 : decode cX6_tellTree 53 = .ok (.invokevirtual 148, 3) := by decide +kernel
theorem dX6_tellTree_56 : decode cX6_tellTree 56 = .ok (.invokevirtual 185, 3) := by decide +kernel
theorem dX6_tellTree_59 : decode cX6_tellTree 59 = .ok (.iload_n 3, 1) := by decide +kernel
theorem dX6_tellTree_60 : decode cX6_tellTree 60 = .ok (.ifCond .eq 37, 3) := by decide +kernel
theorem dX6_tellTree_63 : decode cX6_tellTree 63 = .ok (.iload 5, 2) := by decide +kernel
theorem dX6_tellTree_65 : decode cX6_tellTree 65 = .ok (.iconst 2, 1) := by decide +kernel
theorem dX6_tellTree_66 : decode cX6_tellTree 66 = .ok (.if_icmp .ne 31, 3) := by decide +kernel
theorem dX6_tellTree_69 : decode cX6_tellTree 69 = .ok (.aload_n 1, 1) := by decide +kernel
theorem dX6_tellTree_70 : decode cX6_tellTree 70 = .ok (.iload 5, 2) := by decide +kernel
theorem dX6_tellTree_72 : decode cX6_tellTree 72 = .ok (.iconst 1, 1) := by decide +kernel
theorem dX6_tellTree_73 : decode cX6_tellTree 73 = .ok (.iadd, 1) := by decide +kernel
theorem dX6_tellTree_74 : decode cX6_tellTree 74 = .ok (.iconst 3, 1) := by decide +kernel
theorem dX6_tellTree_75 : decode cX6_tellTree 75 = .ok (.invokevirtual 145, 3) := by decide +kernel
theorem dX6_tellTree_78 : decode cX6_tellTree 78 = .ok (.istore 6, 2) := by decide +kernel
theorem dX6_tellTree_80 : decode cX6_tellTree 80 = .ok (.aload_n 0, 1) := by decide +kernel
theorem dX6_tellTree_81 : decode cX6_tellTree 81 = .ok (.getfield 24, 3) := by decide +kernel
theorem dX6_tellTree_84 : decode cX6_tellTree 84 = .ok (.iload 6, 2) := by decide +kernel
theorem dX6_tellTree_86 : decode cX6_tellTree 86 = .ok (.iconst 2, 1) := by decide +kernel
theorem dX6_tellTree_87 : decode cX6_tellTree 87 = .ok (.invokevirtual 158, 3) := by decide +kernel
theorem dX6_tellTree_90 : decode cX6_tellTree 90 = .ok (.iload 5, 2) := by decide +kernel
theorem dX6_tellTree_92 : decode cX6_tellTree 92 = .ok (.iload 6, 2) := by decide +kernel
theorem dX6_tellTree_94 : decode cX6_tellTree 94 = .ok (.iadd, 1) := by decide +kernel
theorem dX6_tellTree_95 : decode cX6_tellTree 95 = .ok (.istore 5, 2) := by decide +kernel
theorem dX6_tellTree_97 : decode cX6_tellTree 97 = .ok (.iinc 5 1, 3) := by decide +kernel
theorem dX6_tellTree_100 : decode cX6_tellTree 100 = .ok (.goto (-61), 3) := by decide +kernel
theorem dX6_tellTree_103 : decode cX6_tellTree 103 = .ok (.return_, 1) := by decide +kernel
theorem dX6_tellTreeC_0 : decode cX6_tellTreeC 0 = .ok (.aload_n 0, 1) := by decide +kernel
theorem dX6_tellTreeC_1 : decode cX6_tellTreeC 1 = .ok (.getfield 56, 3) := by decide +kernel
theorem dX6_tellTreeC_4 : decode cX6_tellTreeC 4 = .ok (.invokevirtual 175, 3) := by decide +kernel
theorem dX6_tellTreeC_7 : decode cX6_tellTreeC 7 = .ok (.ifCond .eq 20, 3) := by decide +kernel
theorem dX6_tellTreeC_10 : decode cX6_tellTreeC 10 = .ok (.aload_n 0, 1) := by decide +kernel
theorem dX6_tellTreeC_11 : decode cX6_tellTreeC 11 = .ok (.getfield 24, 3) := by decide +kernel
theorem dX6_tellTreeC_14 : decode cX6_tellTreeC 14 = .ok (.aload_n 0, 1) := by decide +kernel
theorem dX6_tellTreeC_15 : decode cX6_tellTreeC 15 = .ok (.getfield 56, 3) := by decide +kernel
theorem dX6_tellTreeC_18 : decode cX6_tellTreeC 18 = .ok (.invokevirtual 179, 3) := by decide +kernel
theorem dX6_tellTreeC_21 : decode cX6_tellTreeC 21 = .ok (.bipush 9, 2) := by decide +kernel
theorem dX6_tellTreeC_23 : decode cX6_tellTreeC 23 = .ok (.invokevirtual 182, 3) := by decide +kernel
theorem dX6_tellTreeC_26 : decode cX6_tellTreeC 26 = .ok (.return_, 1) := by decide +kernel
theorem dX6_tellTreeC_27 : decode cX6_tellTreeC 27 = .ok (.aload_n 0, 1) := by decide +kernel
theorem dX6_tellTreeC_28 : decode cX6_tellTreeC 28 = .ok (.getfield 24, 3) := by decide +kernel
theorem dX6_tellTreeC_31 : decode cX6_tellTreeC 31 = .ok (.aload_n 0, 1) := by decide +kernel
theorem dX6_tellTreeC_32 : decode cX6_tellTreeC 32 = .ok (.getfield 56, 3) := by decide +kernel
theorem dX6_tellTreeC_35 : decode cX6_tellTreeC 35 = .ok (.invokevirtual 142, 3) := by decide +kernel
theorem dX6_tellTreeC_38 : decode cX6_tellTreeC 38 = .ok (.bipush 9, 2) := by decide +kernel
theorem dX6_tellTreeC_40 : decode cX6_tellTreeC 40 = .ok (.invokevirtual 158, 3) := by decide +kernel
theorem dX6_tellTreeC_43 : decode cX6_tellTreeC 43 = .ok (.iconst 0, 1) := by decide +kernel
theorem dX6_tellTreeC_44 : decode cX6_tellTreeC 44 = .ok (.istore_n 1, 1) := by decide +kernel
theorem dX6_tellTreeC_45 : decode cX6_tellTreeC 45 = .ok (.iload_n 1, 1) := by decide +kernel
theorem dX6_tellTreeC_46 : decode cX6_tellTreeC 46 = .ok (.aload_n 0, 1) := by decide +kernel
theorem dX6_tellTreeC_47 : decode cX6_tellTreeC 47 = .ok (.getfield 79, 3) := by decide +kernel
theorem dX6_tellTreeC_50 : decode cX6_tellTreeC 50 = .ok (.if_icmp .ge 48, 3) := by decide +kernel
theorem dX6_tellTreeC_53 : decode cX6_tellTreeC 53 = .ok (.aload_n 0, 1) := by decide +kernel
theorem dX6_tellTreeC_54 : decode cX6_tellTreeC 54 = .ok (.getfield 24, 3) := by decide +kernel
theorem dX6_tellTreeC_57 : decode cX6_tellTreeC 57 = .ok (.aload_n 0, 1) := by decide +kernel
theorem dX6_tellTreeC_58 : decode cX6_tellTreeC 58 = .ok (.getfield 52, 3) := by decide +kernel
theorem dX6_tellTreeC_61 : decode cX6_tellTreeC 61 = .ok (.aload_n 0, 1) := by decide +kernel
theorem dX6_tellTreeC_62 : decode cX6_tellTreeC 62 = .ok (.getfield 73, 3) := by decide +kernel
theorem dX6_tellTreeC_65 : decode cX6_tellTreeC 65 = .ok (.iload_n 1, 1) := by decide +kernel
theorem dX6_tellTreeC_66 : decode cX6_tellTreeC 66 = .ok (.iaload, 1) := by decide +kernel
theorem dX6_tellTreeC_67 : decode cX6_tellTreeC 67 = .ok (.invokevirtual 168, 3) := by decide +kernel
theorem dX6_tellTreeC_70 : decode cX6_tellTreeC 70 = .ok (.aload_n 0, 1) := by decide +kernel
theorem dX6_tellTreeC_71 : decode cX6_tellTreeC 71 = .ok (.getfield 24, 3) := by decide +kernel
theorem dX6_tellTreeC_74 : decode cX6_tellTreeC 74 = .ok (.aload_n 0, 1) := by decide +kernel
theorem dX6_tellTreeC_75 : decode cX6_tellTreeC 75 = .ok (.getfield 76, 3) := by decide +kernel
theorem dX6_tellTreeC_78 : decode cX6_tellTreeC 78 = .ok (.iload_n 1, 1) := by decide +kernel
theorem dX6_tellTreeC_79 : decode cX6_tellTreeC 79 = .ok (.iaload, 1) := by decide +kernel
theorem dX6_tellTreeC_80 : decode cX6_tellTreeC 80 = .ok (.aload_n 0, 1) := by decide +kernel
theorem dX6_tellTreeC_81 : decode cX6_tellTreeC 81 = .ok (.getfield 73, 3) := by decide +kernel
theorem dX6_tellTreeC_84 : decode cX6_tellTreeC 84 = .ok (.iload_n 1, 1) := by decide +kernel
theorem dX6_tellTreeC_85 : decode cX6_tellTreeC 85 = .ok (.iaload, 1) := by decide +kernel
theorem dX6_tellTreeC_86 : decode cX6_tellTreeC 86 = .ok (.invokestatic 188, 3) := by decide +kernel
theorem dX6_tellTreeC_89 : decode cX6_tellTreeC 89 = .ok (.invokevirtual 158, 3) := by decide +kernel
theorem dX6_tellTreeC_92 : decode cX6_tellTreeC 92 = .ok (.iinc 1 1, 3) := by decide +kernel
theorem dX6_tellTreeC_95 : decode cX6_tellTreeC 95 = .ok (.goto (-50), 3) := by decide +kernel
theorem dX6_tellTreeC_98 : decode cX6_tellTreeC 98 = .ok (.return_, 1) := by decide +kernel
theorem dX6_packDistance_0 : decode cX6_packDistance 0 = .ok (.iload_n 1, 1) := by decide +kernel
theorem dX6_packDistance_1 : decode cX6_packDistance 1 = .ok (.invokestatic 122, 3) := by decide +kernel
theorem dX6_packDistance_4 : decode cX6_packDistance 4 = .ok (.istore_n 2, 1) := by decide +kernel
theorem dX6_packDistance_5 : decode cX6_packDistance 5 = .ok (.aload_n 0, 1) := by decide +kernel
theorem dX6_packDistance_6 : decode cX6_packDistance 6 = .ok (.getfield 24, 3) := by decide +kernel
theorem dX6_packDistance_9 : decode cX6_packDistance 9 = .ok (.aload_n 0, 1) := by decide +kernel
theorem dX6_packDistance_10 : decode cX6_packDistance 10 = .ok (.getfield 59, 3) := by decide +kernel
theorem dX6_packDistance_13 : decode cX6_packDistance 13 = .ok (.iload_n 2, 1) := by decide +kernel
theorem dX6_packDistance_14 : decode cX6_packDistance 14 = .ok (.invokevirtual 168, 3) := by decide +kernel
theorem dX6_packDistance_17 : decode cX6_packDistance 17 = .ok (.iload_n 2, 1) := by decide +kernel
theorem dX6_packDistance_18 : decode cX6_packDistance 18 = .ok (.ifCond .le 22, 3) := by decide +kernel
theorem dX6_packDistance_21 : decode cX6_packDistance 21 = .ok (.aload_n 0, 1) := by decide +kernel
theorem dX6_packDistance_22 : decode cX6_packDistance 22 = .ok (.getfield 24, 3) := by decide +kernel
theorem dX6_packDistance_25 : decode cX6_packDistance 25 = .ok (.iload_n 1, 1) := by decide +kernel
theorem dX6_packDistance_26 : decode cX6_packDistance 26 = .ok (.iconst 1, 1) := by decide +kernel
theorem dX6_packDistance_27 : decode cX6_packDistance 27 = .ok (.isub, 1) := by decide +kernel
theorem dX6_packDistance_28 : decode cX6_packDistance 28 = .ok (.iconst 1, 1) := by decide +kernel
theorem dX6_packDistance_29 : decode cX6_packDistance 29 = .ok (.iload_n 2, 1) := by decide +kernel
theorem dX6_packDistance_30 : decode cX6_packDistance 30 = .ok (.iconst 1, 1) := by decide +kernel
theorem dX6_packDistance_31 : decode cX6_packDistance 31 = .ok (.isub, 1) := by decide +kernel
theorem dX6_packDistance_32 : decode cX6_packDistance 32 = .ok (.ishl, 1) := by decide +kernel
theorem dX6_packDistance_33 : decode cX6_packDistance 33 = .ok (.isub, 1) := by decide +kernel
theorem dX6_packDistance_34 : decode cX6_packDistance 34 = .ok (.iload_n 2, 1) := by decide +kernel
theorem dX6_packDistance_35 : decode cX6_packDistance 35 = .ok (.iconst 1, 1) := by decide +kernel
theorem dX6_packDistance_36 : decode cX6_packDistance 36 = .ok (.isub, 1) := by decide +kernel
theorem dX6_packDistance_37 : decode cX6_packDistance 37 = .ok (.invokevirtual 158, 3) := by decide +kernel
theorem dX6_packDistance_40 : decode cX6_packDistance 40 = .ok (.return_, 1) := by decide +kernel
theorem dX6_distanceSymbol_0 : decode cX6_distanceSymbol 0 = .ok (.iconst 0, 1) := by decide +kernel
theorem dX6_distanceSymbol_1 : decode cX6_distanceSymbol 1 = .ok (.istore_n 1, 1) := by decide +kernel
theorem dX6_distanceSymbol_2 : decode cX6_distanceSymbol 2 = .ok (.iload_n 1, 1) := by decide +kernel
theorem dX6_distanceSymbol_3 : decode cX6_distanceSymbol 3 = .ok (.bipush 14, 2) := by decide +kernel
theorem dX6_distanceSymbol_5 : decode cX6_distanceSymbol 5 = .ok (.if_icmp .ge 18, 3) := by decide +kernel
theorem dX6_distanceSymbol_8 : decode cX6_distanceSymbol 8 = .ok (.iload_n 0, 1) := by decide +kernel
theorem dX6_distanceSymbol_9 : decode cX6_distanceSymbol 9 = .ok (.iconst 1, 1) := by decide +kernel
theorem dX6_distanceSymbol_10 : decode cX6_distanceSymbol 10 = .ok (.iload_n 1, 1) := by decide +kernel
theorem dX6_distanceSymbol_11 : decode cX6_distanceSymbol 11 = .ok (.ishl, 1) := by decide +kernel
theorem dX6_distanceSymbol_12 : decode cX6_distanceSymbol 12 = .ok (.if_icmp .gt 5, 3) := by decide +kernel
theorem dX6_distanceSymbol_15 : decode cX6_distanceSymbol 15 = .ok (.iload_n 1, 1) := by decide +kernel
theorem dX6_distanceSymbol_16 : decode cX6_distanceSymbol 16 = .ok (.ireturn, 1) := by decide +kernel
theorem dX6_distanceSymbol_17 : decode cX6_distanceSymbol 17 = .ok (.iinc 1 1, 3) := by decide +kernel
theorem dX6_distanceSymbol_20 : decode cX6_distanceSymbol 20 = .ok (.goto (-18), 3) := by decide +kernel
theorem dX6_distanceSymbol_23 : decode cX6_distanceSymbol 23 = .ok (.bipush 13, 2) := by decide +kernel
theorem dX6_distanceSymbol_25 : decode cX6_distanceSymbol 25 = .ok (.ireturn, 1) := by decide +kernel
theorem dX7_init_0 : decode cX7_init 0 = .ok (.aload_n 0, 1) := by decide +kernel
theorem dX7_init_1 : decode cX7_init 1 = .ok (.invokespecial 3, 3) := by decide +kernel
theorem dX7_init_4 : decode cX7_init 4 = .ok (.aload_n 0, 1) := by decide +kernel
theorem dX7_init_5 : decode cX7_init 5 = .ok (.iload_n 1, 1) := by decide +kernel
theorem dX7_init_6 : decode cX7_init 6 = .ok (.newarray .int, 2) := by decide +kernel
theorem dX7_init_8 : decode cX7_init 8 = .ok (.putfield 9, 3) := by decide +kernel
theorem dX7_init_11 : decode cX7_init 11 = .ok (.aload_n 0, 1) := by decide +kernel
theorem dX7_init_12 : decode cX7_init 12 = .ok (.iload_n 1, 1) := by decide +kernel
theorem dX7_init_13 : decode cX7_init 13 = .ok (.newarray .int, 2) := by decide +kernel
theorem dX7_init_15 : decode cX7_init 15 = .ok (.putfield 15, 3) := by decide +kernel
theorem dX7_init_18 : decode cX7_init 18 = .ok (.aload_n 0, 1) := by decide +kernel
theorem dX7_init_19 : decode cX7_init 19 = .ok (.iload_n 1, 1) := by decide +kernel
theorem dX7_init_20 : decode cX7_init 20 = .ok (.newarray .int, 2) := by decide +kernel
theorem dX7_init_22 : decode cX7_init 22 = .ok (.putfield 18, 3) := by decide +kernel
theorem dX7_init_25 : decode cX7_init 25 = .ok (.aload_n 0, 1) := by decide +kernel
theorem dX7_init_26 : decode cX7_init 26 = .ok (.iload_n 1, 1) := by decide +kernel
theorem dX7_init_27 : decode cX7_init 27 = .ok (.newarray .int, 2) := by decide +kernel
theorem dX7_init_29 : decode cX7_init 29 = .ok (.putfield 21, 3) := by decide +kernel
theorem dX7_init_32 : decode cX7_init 32 = .ok (.aload_n 0, 1) := by decide +kernel
theorem dX7_init_33 : decode cX7_init 33 = .ok (.bipush 17, 2) := by decide +kernel
theorem dX7_init_35 : decode cX7_init 35 = .ok (.newarray .int, 2) := by decide +kernel
theorem dX7_init_37 : decode cX7_init 37 = .ok (.putfield 24, 3) := by decide +kernel
theorem dX7_init_40 : decode cX7_init 40 = .ok (.aload_n 0, 1) := by decide +kernel
theorem dX7_init_41 : decode cX7_init 41 = .ok (.bipush 17, 2) := by decide +kernel
