theorem dX0_init_0 : decode cX0_init 0 = .ok (.aload_n 0, 1) := by decide +kernel
theorem dX0_init_1 : decode cX0_init 1 = .ok (.invokespecial 3, 3) := by decide +kernel
theorem dX0_init_4 : decode cX0_init 4 = .ok (.aload_n 0, 1) := by decide +kernel
theorem dX0_init_5 : decode cX0_init 5 = .ok (.bipush 8, 2) := by decide +kernel
theorem dX0_init_7 : decode cX0_init 7 = .ok (.newarray .int, 2) := by decide +kernel
theorem dX0_init_9 : decode cX0_init 9 = .ok (.putfield 9, 3) := by decide +kernel
theorem dX0_init_12 : decode cX0_init 12 = .ok (.aload_n 0, 1) := by decide +kernel
theorem dX0_init_13 : decode cX0_init 13 = .ok (.bipush 8, 2) := by decide +kernel
theorem dX0_init_15 : decode cX0_init 15 = .ok (.newarray .int, 2) := by decide +kernel
theorem dX0_init_17 : decode cX0_init 17 = .ok (.putfield 15, 3) := by decide +kernel
theorem dX0_init_20 : decode cX0_init 20 = .ok (.aload_n 0, 1) := by decide +kernel
theorem dX0_init_21 : decode cX0_init 21 = .ok (.bipush 8, 2) := by decide +kernel
theorem dX0_init_23 : decode cX0_init 23 = .ok (.newarray .int, 2) := by decide +kernel
theorem dX0_init_25 : decode cX0_init 25 = .ok (.putfield 18, 3) := by decide +kernel
theorem dX0_init_28 : decode cX0_init 28 = .ok (.aload_n 0, 1) := by decide +kernel
theorem dX0_init_29 : decode cX0_init 29 = .ok (.bipush 12, 2) := by decide +kernel
theorem dX0_init_31 : decode cX0_init 31 = .ok (.newarray .int, 2) := by decide +kernel
theorem dX0_init_33 : decode cX0_init 33 = .ok (.putfield 21, 3) := by decide +kernel
theorem dX0_init_36 : decode cX0_init 36 = .ok (.aload_n 0, 1) := by decide +kernel
theorem dX0_init_37 : decode cX0_init 37 = .ok (.bipush 12, 2) := by decide +kernel
theorem dX0_init_39 : decode cX0_init 39 = .ok (.newarray .int, 2) := by decide +kernel
theorem dX0_init_41 : decode cX0_init 41 = .ok (.putfield 24, 3) := by decide +kernel
theorem dX0_init_44 : decode cX0_init 44 = .ok (.aload_n 0, 1) := by decide +kernel
theorem dX0_init_45 : decode cX0_init 45 = .ok (.iconst 4, 1) := by decide +kernel
theorem dX0_init_46 : decode cX0_init 46 = .ok (.newarray .int, 2) := by decide +kernel
theorem dX0_init_48 : decode cX0_init 48 = .ok (.putfield 27, 3) := by decide +kernel
theorem dX0_init_51 : decode cX0_init 51 = .ok (.aload_n 0, 1) := by decide +kernel
theorem dX0_init_52 : decode cX0_init 52 = .ok (.sipush 10000, 3) := by decide +kernel
theorem dX0_init_55 : decode cX0_init 55 = .ok (.newarray .int, 2) := by decide +kernel
theorem dX0_init_57 : decode cX0_init 57 = .ok (.putfield 30, 3) := by decide +kernel
theorem dX0_init_60 : decode cX0_init 60 = .ok (.return_, 1) := by decide +kernel
theorem dX0_forgetHeard_0 : decode cX0_forgetHeard 0 = .ok (.aload_n 0, 1) := by decide +kernel
theorem dX0_forgetHeard_1 : decode cX0_forgetHeard 1 = .ok (.iconst 0, 1) := by decide +kernel
theorem dX0_forgetHeard_2 : decode cX0_forgetHeard 2 = .ok (.putfield 33, 3) := by decide +kernel
theorem dX0_forgetHeard_5 : decode cX0_forgetHeard 5 = .ok (.aload_n 0, 1) := by decide +kernel
theorem dX0_forgetHeard_6 : decode cX0_forgetHeard 6 = .ok (.iconst 0, 1) := by decide +kernel
theorem dX0_forgetHeard_7 : decode cX0_forgetHeard 7 = .ok (.putfield 37, 3) := by decide +kernel
theorem dX0_forgetHeard_10 : decode cX0_forgetHeard 10 = .ok (.return_, 1) := by decide +kernel
theorem dX0_addHeard_0 : decode cX0_addHeard 0 = .ok (.aload_n 0, 1) := by decide +kernel
theorem dX0_addHeard_1 : decode cX0_addHeard 1 = .ok (.getfield 33, 3) := by decide +kernel
theorem dX0_addHeard_4 : decode cX0_addHeard 4 = .ok (.bipush 8, 2) := by decide +kernel
theorem dX0_addHeard_6 : decode cX0_addHeard 6 = .ok (.if_icmp .lt 6, 3) := by decide +kernel
theorem dX0_addHeard_9 : decode cX0_addHeard 9 = .ok (.bipush (-2), 2) := by decide +kernel
theorem dX0_addHeard_11 : decode cX0_addHeard 11 = .ok (.ireturn, 1) := by decide +kernel
theorem dX0_addHeard_12 : decode cX0_addHeard 12 = .ok (.aload_n 0, 1) := by decide +kernel
theorem dX0_addHeard_13 : decode cX0_addHeard 13 = .ok (.getfield 9, 3) := by decide +kernel
theorem dX0_addHeard_16 : decode cX0_addHeard 16 = .ok (.aload_n 0, 1) := by decide +kernel
theorem dX0_addHeard_17 : decode cX0_addHeard 17 = .ok (.getfield 33, 3) := by decide +kernel
theorem dX0_addHeard_20 : decode cX0_addHeard 20 = .ok (.iload_n 1, 1) := by decide +kernel
theorem dX0_addHeard_21 : decode cX0_addHeard 21 = .ok (.iastore, 1) := by decide +kernel
theorem dX0_addHeard_22 : decode cX0_addHeard 22 = .ok (.aload_n 0, 1) := by decide +kernel
theorem dX0_addHeard_23 : decode cX0_addHeard 23 = .ok (.getfield 15, 3) := by decide +kernel
theorem dX0_addHeard_26 : decode cX0_addHeard 26 = .ok (.aload_n 0, 1) := by decide +kernel
theorem dX0_addHeard_27 : decode cX0_addHeard 27 = .ok (.getfield 33, 3) := by decide +kernel
theorem dX0_addHeard_30 : decode cX0_addHeard 30 = .ok (.iload_n 2, 1) := by decide +kernel
theorem dX0_addHeard_31 : decode cX0_addHeard 31 = .ok (.iastore, 1) := by decide +kernel
theorem dX0_addHeard_32 : decode cX0_addHeard 32 = .ok (.aload_n 0, 1) := by decide +kernel
theorem dX0_addHeard_33 : decode cX0_addHeard 33 = .ok (.dup, 1) := by decide +kernel
theorem dX0_addHeard_34 : decode cX0_addHeard 34 = .ok (.getfield 33, 3) := by decide +kernel
theorem dX0_addHeard_37 : decode cX0_addHeard 37 = .ok (.iconst 1, 1) := by decide +kernel
theorem dX0_addHeard_38 : decode cX0_addHeard 38 = .ok (.iadd, 1) := by decide +kernel
theorem dX0_addHeard_39 : decode cX0_addHeard 39 = .ok (.putfield 33, 3) := by decide +kernel
theorem dX0_addHeard_42 : decode cX0_addHeard 42 = .ok (.aload_n 0, 1) := by decide +kernel
theorem dX0_addHeard_43 : decode cX0_addHeard 43 = .ok (.iconst 0, 1) := by decide +kernel
theorem dX0_addHeard_44 : decode cX0_addHeard 44 = .ok (.putfield 37, 3) := by decide +kernel
theorem dX0_addHeard_47 : decode cX0_addHeard 47 = .ok (.aload_n 0, 1) := by decide +kernel
theorem dX0_addHeard_48 : decode cX0_addHeard 48 = .ok (.getfield 33, 3) := by decide +kernel
theorem dX0_addHeard_51 : decode cX0_addHeard 51 = .ok (.ireturn, 1) := by decide +kernel
theorem dX0_addTold_0 : decode cX0_addTold 0 = .ok (.aload_n 0, 1) := by decide +kernel
theorem dX0_addTold_1 : decode cX0_addTold 1 = .ok (.getfield 41, 3) := by decide +kernel
theorem dX0_addTold_4 : decode cX0_addTold 4 = .ok (.bipush 12, 2) := by decide +kernel
theorem dX0_addTold_6 : decode cX0_addTold 6 = .ok (.if_icmp .lt 6, 3) := by decide +kernel
theorem dX0_addTold_9 : decode cX0_addTold 9 = .ok (.bipush (-2), 2) := by decide +kernel
theorem dX0_addTold_11 : decode cX0_addTold 11 = .ok (.ireturn, 1) := by decide +kernel
theorem dX0_addTold_12 : decode cX0_addTold 12 = .ok (.aload_n 0, 1) := by decide +kernel
theorem dX0_addTold_13 : decode cX0_addTold 13 = .ok (.getfield 21, 3) := by decide +kernel
theorem dX0_addTold_16 : decode cX0_addTold 16 = .ok (.aload_n 0, 1) := by decide +kernel
theorem dX0_addTold_17 : decode cX0_addTold 17 = .ok (.getfield 41, 3) := by decide +kernel
theorem dX0_addTold_20 : decode cX0_addTold 20 = .ok (.iload_n 1, 1) := by decide +kernel
theorem dX0_addTold_21 : decode cX0_addTold 21 = .ok (.iastore, 1) := by decide +kernel
theorem dX0_addTold_22 : decode cX0_addTold 22 = .ok (.aload_n 0, 1) := by decide +kernel
theorem dX0_addTold_23 : decode cX0_addTold 23 = .ok (.getfield 24, 3) := by decide +kernel
theorem dX0_addTold_26 : decode cX0_addTold 26 = .ok (.aload_n 0, 1) := by decide +kernel
theorem dX0_addTold_27 : decode cX0_addTold 27 = .ok (.getfield 41, 3) := by decide +kernel
theorem dX0_addTold_30 : decode cX0_addTold 30 = .ok (.iload_n 2, 1) := by decide +kernel
theorem dX0_addTold_31 : decode cX0_addTold 31 = .ok (.iastore, 1) := by decide +kernel
theorem dX0_addTold_32 : decode cX0_addTold 32 = .ok (.aload_n 0, 1) := by decide +kernel
theorem dX0_addTold_33 : decode cX0_addTold 33 = .ok (.dup, 1) := by decide +kernel
theorem dX0_addTold_34 : decode cX0_addTold 34 = .ok (.getfield 41, 3) := by decide +kernel
theorem dX0_addTold_37 : decode cX0_addTold 37 = .ok (.iconst 1, 1) := by decide +kernel
theorem dX0_addTold_38 : decode cX0_addTold 38 = .ok (.iadd, 1) := by decide +kernel
theorem dX0_addTold_39 : decode cX0_addTold 39 = .ok (.putfield 41, 3) := by decide +kernel
theorem dX0_addTold_42 : decode cX0_addTold 42 = .ok (.aload_n 0, 1) := by decide +kernel
theorem dX0_addTold_43 : decode cX0_addTold 43 = .ok (.getfield 41, 3) := by decide +kernel
theorem dX0_addTold_46 : decode cX0_addTold 46 = .ok (.ireturn, 1) := by decide +kernel
theorem dX0_wordsHeard_0 : decode cX0_wordsHeard 0 = .ok (.iconst 0, 1) := by decide +kernel
theorem dX0_wordsHeard_1 : decode cX0_wordsHeard 1 = .ok (.istore_n 3, 1) := by decide +kernel
theorem dX0_wordsHeard_2 : decode cX0_wordsHeard 2 = .ok (.iconst 0, 1) := by decide +kernel
theorem dX0_wordsHeard_3 : decode cX0_wordsHeard 3 = .ok (.istore 4, 2) := by decide +kernel
theorem dX0_wordsHeard_5 : decode cX0_wordsHeard 5 = .ok (.iload 4, 2) := by decide +kernel
theorem dX0_wordsHeard_7 : decode cX0_wordsHeard 7 = .ok (.aload_n 0, 1) := by decide +kernel
theorem dX0_wordsHeard_8 : decode cX0_wordsHeard 8 = .ok (.getfield 33, 3) := by decide +kernel
theorem dX0_wordsHeard_11 : decode cX0_wordsHeard 11 = .ok (.if_icmp .ge 35, 3) := by decide +kernel
theorem dX0_wordsHeard_14 : decode cX0_wordsHeard 14 = .ok (.aload_n 0, 1) := by decide +kernel
theorem dX0_wordsHeard_15 : decode cX0_wordsHeard 15 = .ok (.getfield 9, 3) := by decide +kernel
theorem dX0_wordsHeard_18 : decode cX0_wordsHeard 18 = .ok (.iload 4, 2) := by decide +kernel
theorem dX0_wordsHeard_20 : decode cX0_wordsHeard 20 = .ok (.iaload, 1) := by decide +kernel
theorem dX0_wordsHeard_21 : decode cX0_wordsHeard 21 = .ok (.iload_n 1, 1) := by decide +kernel
theorem dX0_wordsHeard_22 : decode cX0_wordsHeard 22 = .ok (.if_icmp .ne 18, 3) := by decide +kernel
theorem dX0_wordsHeard_25 : decode cX0_wordsHeard 25 = .ok (.iload_n 3, 1) := by decide +kernel
theorem dX0_wordsHeard_26 : decode cX0_wordsHeard 26 = .ok (.aload_n 2, 1) := by decide +kernel
theorem dX0_wordsHeard_27 : decode cX0_wordsHeard 27 = .ok (.getfield 44, 3) := by decide +kernel
theorem dX0_wordsHeard_30 : decode cX0_wordsHeard 30 = .ok (.aload_n 0, 1) := by decide +kernel
theorem dX0_wordsHeard_31 : decode cX0_wordsHeard 31 = .ok (.getfield 15, 3) := by decide +kernel
theorem dX0_wordsHeard_34 : decode cX0_wordsHeard 34 = .ok (.iload 4, 2) := by decide +kernel
theorem dX0_wordsHeard_36 : decode cX0_wordsHeard 36 = .ok (.iaload, 1) := by decide +kernel
theorem dX0_wordsHeard_37 : decode cX0_wordsHeard 37 = .ok (.iaload, 1) := by decide +kernel
theorem dX0_wordsHeard_38 : decode cX0_wordsHeard 38 = .ok (.ior, 1) := by decide +kernel
theorem dX0_wordsHeard_39 : decode cX0_wordsHeard 39 = .ok (.istore_n 3, 1) := by decide +kernel
theorem dX0_wordsHeard_40 : decode cX0_wordsHeard 40 = .ok (.iinc 4 1, 3) := by decide +kernel
theorem dX0_wordsHeard_43 : decode cX0_wordsHeard 43 = .ok (.goto (-38), 3) := by decide +kernel
theorem dX0_wordsHeard_46 : decode cX0_wordsHeard 46 = .ok (.iload_n 3, 1) := by decide +kernel
theorem dX0_wordsHeard_47 : decode cX0_wordsHeard 47 = .ok (.ireturn, 1) := by decide +kernel
theorem dX0_liesIn_0 : decode cX0_liesIn 0 = .ok (.iconst 0, 1) := by decide +kernel
theorem dX0_liesIn_1 : decode cX0_liesIn 1 = .ok (.istore_n 2, 1) := by decide +kernel
theorem dX0_liesIn_2 : decode cX0_liesIn 2 = .ok (.iconst 0, 1) := by decide +kernel
theorem dX0_liesIn_3 : decode cX0_liesIn 3 = .ok (.istore_n 3, 1) := by decide +kernel
theorem dX0_liesIn_4 : decode cX0_liesIn 4 = .ok (.iload_n 3, 1) := by decide +kernel
theorem dX0_liesIn_5 : decode cX0_liesIn 5 = .ok (.aload_n 0, 1) := by decide +kernel
theorem dX0_liesIn_6 : decode cX0_liesIn 6 = .ok (.getfield 41, 3) := by decide +kernel
theorem dX0_liesIn_9 : decode cX0_liesIn 9 = .ok (.if_icmp .ge 35, 3) := by decide +kernel
theorem dX0_liesIn_12 : decode cX0_liesIn 12 = .ok (.aload_n 1, 1) := by decide +kernel
theorem dX0_liesIn_13 : decode cX0_liesIn 13 = .ok (.getfield 49, 3) := by decide +kernel
theorem dX0_liesIn_16 : decode cX0_liesIn 16 = .ok (.aload_n 0, 1) := by decide +kernel
theorem dX0_liesIn_17 : decode cX0_liesIn 17 = .ok (.getfield 21, 3) := by decide +kernel
theorem dX0_liesIn_20 : decode cX0_liesIn 20 = .ok (.iload_n 3, 1) := by decide +kernel
theorem dX0_liesIn_21 : decode cX0_liesIn 21 = .ok (.iaload, 1) := by decide +kernel
theorem dX0_liesIn_22 : decode cX0_liesIn 22 = .ok (.iaload, 1) := by decide +kernel
theorem dX0_liesIn_23 : decode cX0_liesIn 23 = .ok (.aload_n 0, 1) := by decide +kernel
theorem dX0_liesIn_24 : decode cX0_liesIn 24 = .ok (.getfield 24, 3) := by decide +kernel
theorem dX0_liesIn_27 : decode cX0_liesIn 27 = .ok (.iload_n 3, 1) := by decide +kernel
theorem dX0_liesIn_28 : decode cX0_liesIn 28 = .ok (.iaload, 1) := by decide +kernel
theorem dX0_liesIn_29 : decode cX0_liesIn 29 = .ok (.if_icmp .eq 9, 3) := by decide +kernel
theorem dX0_liesIn_32 : decode cX0_liesIn 32 = .ok (.iload_n 2, 1) := by decide +kernel
theorem dX0_liesIn_33 : decode cX0_liesIn 33 = .ok (.iconst 1, 1) := by decide +kernel
theorem dX0_liesIn_34 : decode cX0_liesIn 34 = .ok (.iload_n 3, 1) := by decide +kernel
theorem dX0_liesIn_35 : decode cX0_liesIn 35 = .ok (.ishl, 1) := by decide +kernel
theorem dX0_liesIn_36 : decode cX0_liesIn 36 = .ok (.ior, 1) := by decide +kernel
theorem dX0_liesIn_37 : decode cX0_liesIn 37 = .ok (.istore_n 2, 1) := by decide +kernel
theorem dX0_liesIn_38 : decode cX0_liesIn 38 = .ok (.iinc 3 1, 3) := by decide +kernel
theorem dX0_liesIn_41 : decode cX0_liesIn 41 = .ok (.goto (-37), 3) := by decide +kernel
theorem dX0_liesIn_44 : decode cX0_liesIn 44 = .ok (.iload_n 2, 1) := by decide +kernel
theorem dX0_liesIn_45 : decode cX0_liesIn 45 = .ok (.ireturn, 1) := by decide +kernel
theorem dX0_firstClash_0 : decode cX0_firstClash 0 = .ok (.iconst 0, 1) := by decide +kernel
theorem dX0_firstClash_1 : decode cX0_firstClash 1 = .ok (.istore_n 2, 1) := by decide +kernel
theorem dX0_firstClash_2 : decode cX0_firstClash 2 = .ok (.iload_n 2, 1) := by decide +kernel
theorem dX0_firstClash_3 : decode cX0_firstClash 3 = .ok (.aload_n 0, 1) := by decide +kernel
theorem dX0_firstClash_4 : decode cX0_firstClash 4 = .ok (.getfield 41, 3) := by decide +kernel
theorem dX0_firstClash_7 : decode cX0_firstClash 7 = .ok (.if_icmp .ge 67, 3) := by decide +kernel
theorem dX0_firstClash_10 : decode cX0_firstClash 10 = .ok (.iconst 0, 1) := by decide +kernel
theorem dX0_firstClash_11 : decode cX0_firstClash 11 = .ok (.istore_n 3, 1) := by decide +kernel
theorem dX0_firstClash_12 : decode cX0_firstClash 12 = .ok (.iload_n 3, 1) := by decide +kernel
theorem dX0_firstClash_13 : decode cX0_firstClash 13 = .ok (.iload_n 2, 1) := by decide +kernel
theorem dX0_firstClash_14 : decode cX0_firstClash 14 = .ok (.if_icmp .ge 54, 3) := by decide +kernel
theorem dX0_firstClash_17 : decode cX0_firstClash 17 = .ok (.aload_n 1, 1) := by decide +kernel
theorem dX0_firstClash_18 : decode cX0_firstClash 18 = .ok (.aload_n 0, 1) := by decide +kernel
theorem dX0_firstClash_19 : decode cX0_firstClash 19 = .ok (.getfield 21, 3) := by decide +kernel
theorem dX0_firstClash_22 : decode cX0_firstClash 22 = .ok (.iload_n 3, 1) := by decide +kernel
theorem dX0_firstClash_23 : decode cX0_firstClash 23 = .ok (.iaload, 1) := by decide +kernel
theorem dX0_firstClash_24 : decode cX0_firstClash 24 = .ok (.aload_n 0, 1) := by decide +kernel
theorem dX0_firstClash_25 : decode cX0_firstClash 25 = .ok (.getfield 21, 3) := by decide +kernel
theorem dX0_firstClash_28 : decode cX0_firstClash 28 = .ok (.iload_n 2, 1) := by decide +kernel
theorem dX0_firstClash_29 : decode cX0_firstClash 29 = .ok (.iaload, 1) := by decide +kernel
theorem dX0_firstClash_30 : decode cX0_firstClash 30 = .ok (.invokevirtual 52, 3) := by decide +kernel
theorem dX0_firstClash_33 : decode cX0_firstClash 33 = .ok (.istore 4, 2) := by decide +kernel
theorem dX0_firstClash_35 : decode cX0_firstClash 35 = .ok (.iload 4, 2) := by decide +kernel
theorem dX0_firstClash_37 : decode cX0_firstClash 37 = .ok (.ifCond .eq 25, 3) := by decide +kernel
theorem dX0_firstClash_40 : decode cX0_firstClash 40 = .ok (.aload_n 0, 1) := by decide +kernel
theorem dX0_firstClash_41 : decode cX0_firstClash 41 = .ok (.getfield 24, 3) := by decide +kernel
theorem dX0_firstClash_44 : decode cX0_firstClash 44 = .ok (.iload_n 3, 1) := by decide +kernel
theorem dX0_firstClash_45 : decode cX0_firstClash 45 = .ok (.iaload, 1) := by decide +kernel
theorem dX0_firstClash_46 : decode cX0_firstClash 46 = .ok (.aload_n 0, 1) := by decide +kernel
theorem dX0_firstClash_47 : decode cX0_firstClash 47 = .ok (.getfield 24, 3) := by decide +kernel
theorem dX0_firstClash_50 : decode cX0_firstClash 50 = .ok (.iload_n 2, 1) := by decide +kernel
theorem dX0_firstClash_51 : decode cX0_firstClash 51 = .ok (.iaload, 1) := by decide +kernel
theorem dX0_firstClash_52 : decode cX0_firstClash 52 = .ok (.if_icmp .eq 10, 3) := by decide +kernel
theorem dX0_firstClash_55 : decode cX0_firstClash 55 = .ok (.bipush 12, 2) := by decide +kernel
theorem dX0_firstClash_57 : decode cX0_firstClash 57 = .ok (.iload_n 3, 1) := by decide +kernel
theorem dX0_firstClash_58 : decode cX0_firstClash 58 = .ok (.imul, 1) := by decide +kernel
theorem dX0_firstClash_59 : decode cX0_firstClash 59 = .ok (.iload_n 2, 1) := by decide +kernel
theorem dX0_firstClash_60 : decode cX0_firstClash 60 = .ok (.iadd, 1) := by decide +kernel
theorem dX0_firstClash_61 : decode cX0_firstClash 61 = .ok (.ireturn, 1) := by decide +kernel
theorem dX0_firstClash_62 : decode cX0_firstClash 62 = .ok (.iinc 3 1, 3) := by decide +kernel
theorem dX0_firstClash_65 : decode cX0_firstClash 65 = .ok (.goto (-53), 3) := by decide +kernel
theorem dX0_firstClash_68 : decode cX0_firstClash 68 = .ok (.iinc 2 1, 3) := by decide +kernel
theorem dX0_firstClash_71 : decode cX0_firstClash 71 = .ok (.goto (-69), 3) := by decide +kernel
theorem dX0_firstClash_74 : decode cX0_firstClash 74 = .ok (.iconst (-1), 1) := by decide +kernel
theorem dX0_firstClash_75 : decode cX0_firstClash 75 = .ok (.ireturn, 1) := by decide +kernel
theorem dX0_findParting_0 : decode cX0_findParting 0 = .ok (.iload_n 1, 1) := by decide +kernel
theorem dX0_findParting_1 : decode cX0_findParting 1 = .ok (.iload_n 2, 1) := by decide +kernel
theorem dX0_findParting_2 : decode cX0_findParting 2 = .ok (.if_icmp .ne 5, 3) := by decide +kernel
theorem dX0_findParting_5 : decode cX0_findParting 5 = .ok (.iconst 0, 1) := by decide +kernel
theorem dX0_findParting_6 : decode cX0_findParting 6 = .ok (.ireturn, 1) := by decide +kernel
theorem dX0_findParting_7 : decode cX0_findParting 7 = .ok (.aload_n 3, 1) := by decide +kernel
theorem dX0_findParting_8 : decode cX0_findParting 8 = .ok (.getfield 44, 3) := by decide +kernel
theorem dX0_findParting_11 : decode cX0_findParting 11 = .ok (.iload_n 1, 1) := by decide +kernel
theorem dX0_findParting_12 : decode cX0_findParting 12 = .ok (.iaload, 1) := by decide +kernel
theorem dX0_findParting_13 : decode cX0_findParting 13 = .ok (.aload_n 3, 1) := by decide +kernel
theorem dX0_findParting_14 : decode cX0_findParting 14 = .ok (.getfield 44, 3) := by decide +kernel
theorem dX0_findParting_17 : decode cX0_findParting 17 = .ok (.iload_n 2, 1) := by decide +kernel
theorem dX0_findParting_18 : decode cX0_findParting 18 = .ok (.iaload, 1) := by decide +kernel
theorem dX0_findParting_19 : decode cX0_findParting 19 = .ok (.ior, 1) := by decide +kernel
theorem dX0_findParting_20 : decode cX0_findParting 20 = .ok (.istore 5, 2) := by decide +kernel
theorem dX0_findParting_22 : decode cX0_findParting 22 = .ok (.aload_n 0, 1) := by decide +kernel
theorem dX0_findParting_23 : decode cX0_findParting 23 = .ok (.getfield 27, 3) := by decide +kernel
theorem dX0_findParting_26 : decode cX0_findParting 26 = .ok (.iconst 0, 1) := by decide +kernel
theorem dX0_findParting_27 : decode cX0_findParting 27 = .ok (.invokestatic 56, 3) := by decide +kernel
theorem dX0_findParting_30 : decode cX0_findParting 30 = .ok (.iconst 0, 1) := by decide +kernel
theorem dX0_findParting_31 : decode cX0_findParting 31 = .ok (.istore 6, 2) := by decide +kernel
theorem dX0_findParting_33 : decode cX0_findParting 33 = .ok (.iload 6, 2) := by decide +kernel
theorem dX0_findParting_35 : decode cX0_findParting 35 = .ok (.sipush 10000, 3) := by decide +kernel
theorem dX0_findParting_38 : decode cX0_findParting 38 = .ok (.if_icmp .ge 47, 3) := by decide +kernel
theorem dX0_findParting_41 : decode cX0_findParting 41 = .ok (.aload_n 3, 1) := by decide +kernel
theorem dX0_findParting_42 : decode cX0_findParting 42 = .ok (.iload_n 1, 1) := by decide +kernel
theorem dX0_findParting_43 : decode cX0_findParting 43 = .ok (.aload 4, 2) := by decide +kernel
theorem dX0_findParting_45 : decode cX0_findParting 45 = .ok (.aload_n 0, 1) := by decide +kernel
theorem dX0_findParting_46 : decode cX0_findParting 46 = .ok (.getfield 27, 3) := by decide +kernel
theorem dX0_findParting_49 : decode cX0_findParting 49 = .ok (.invokevirtual 62, 3) := by decide +kernel
theorem dX0_findParting_52 : decode cX0_findParting 52 = .ok (.aload_n 3, 1) := by decide +kernel
theorem dX0_findParting_53 : decode cX0_findParting 53 = .ok (.iload_n 2, 1) := by decide +kernel
theorem dX0_findParting_54 : decode cX0_findParting 54 = .ok (.aload 4, 2) := by decide +kernel
theorem dX0_findParting_56 : decode cX0_findParting 56 = .ok (.aload_n 0, 1) := by decide +kernel
theorem dX0_findParting_57 : decode cX0_findParting 57 = .ok (.getfield 27, 3) := by decide +kernel
theorem dX0_findParting_60 : decode cX0_findParting 60 = .ok (.invokevirtual 62, 3) := by decide +kernel
theorem dX0_findParting_63 : decode cX0_findParting 63 = .ok (.if_icmp .eq 5, 3) := by decide +kernel
theorem dX0_findParting_66 : decode cX0_findParting 66 = .ok (.iconst 1, 1) := by decide +kernel
theorem dX0_findParting_67 : decode cX0_findParting 67 = .ok (.ireturn, 1) := by decide +kernel
theorem dX0_findParting_68 : decode cX0_findParting 68 = .ok (.aload_n 0, 1) := by decide +kernel
theorem dX0_findParting_69 : decode cX0_findParting 69 = .ok (.iload 5, 2) := by decide +kernel
theorem dX0_findParting_71 : decode cX0_findParting 71 = .ok (.invokevirtual 66, 3) := by decide +kernel
theorem dX0_findParting_74 : decode cX0_findParting 74 = .ok (.ifCond .ne 5, 3) := by decide +kernel
theorem dX0_findParting_77 : decode cX0_findParting 77 = .ok (.iconst 0, 1) := by decide +kernel
theorem dX0_findParting_78 : decode cX0_findParting 78 = .ok (.ireturn, 1) := by decide +kernel
theorem dX0_findParting_79 : decode cX0_findParting 79 = .ok (.iinc 6 1, 3) := by decide +kernel
theorem dX0_findParting_82 : decode cX0_findParting 82 = .ok (.goto (-49), 3) := by decide +kernel
theorem dX0_findParting_85 : decode cX0_findParting 85 = .ok (.iconst 0, 1) := by decide +kernel
theorem dX0_findParting_86 : decode cX0_findParting 86 = .ok (.ireturn, 1) := by decide +kernel
theorem dX0_nextWorld_0 : decode cX0_nextWorld 0 = .ok (.iconst 3, 1) := by decide +kernel
theorem dX0_nextWorld_1 : decode cX0_nextWorld 1 = .ok (.istore_n 2, 1) := by decide +kernel
theorem dX0_nextWorld_2 : decode cX0_nextWorld 2 = .ok (.iload_n 2, 1) := by decide +kernel
theorem dX0_nextWorld_3 : decode cX0_nextWorld 3 = .ok (.ifCond .lt 47, 3) := by decide +kernel
theorem dX0_nextWorld_6 : decode cX0_nextWorld 6 = .ok (.iload_n 1, 1) := by decide +kernel
theorem dX0_nextWorld_7 : decode cX0_nextWorld 7 = .ok (.iload_n 2, 1) := by decide +kernel
theorem dX0_nextWorld_8 : decode cX0_nextWorld 8 = .ok (.ishr, 1) := by decide +kernel
theorem dX0_nextWorld_9 : decode cX0_nextWorld 9 = .ok (.iconst 1, 1) := by decide +kernel
theorem dX0_nextWorld_10 : decode cX0_nextWorld 10 = .ok (.iand, 1) := by decide +kernel
theorem dX0_nextWorld_11 : decode cX0_nextWorld 11 = .ok (.ifCond .eq 33, 3) := by decide +kernel
theorem dX0_nextWorld_14 : decode cX0_nextWorld 14 = .ok (.aload_n 0, 1) := by decide +kernel
theorem dX0_nextWorld_15 : decode cX0_nextWorld 15 = .ok (.getfield 27, 3) := by decide +kernel
theorem dX0_nextWorld_18 : decode cX0_nextWorld 18 = .ok (.iload_n 2, 1) := by decide +kernel
theorem dX0_nextWorld_19 : decode cX0_nextWorld 19 = .ok (.iaload, 1) := by decide +kernel
theorem dX0_nextWorld_20 : decode cX0_nextWorld 20 = .ok (.bipush 9, 2) := by decide +kernel
theorem dX0_nextWorld_22 : decode cX0_nextWorld 22 = .ok (.if_icmp .ge 15, 3) := by decide +kernel
theorem dX0_nextWorld_25 : decode cX0_nextWorld 25 = .ok (.aload_n 0, 1) := by decide +kernel
theorem dX0_nextWorld_26 : decode cX0_nextWorld 26 = .ok (.getfield 27, 3) := by decide +kernel
theorem dX0_nextWorld_29 : decode cX0_nextWorld 29 = .ok (.iload_n 2, 1) := by decide +kernel
theorem dX0_nextWorld_30 : decode cX0_nextWorld 30 = .ok (.dup2, 1) := by decide +kernel
theorem dX0_nextWorld_31 : decode cX0_nextWorld 31 = .ok (.iaload, 1) := by decide +kernel
theorem dX0_nextWorld_32 : decode cX0_nextWorld 32 = .ok (.iconst 1, 1) := by decide +kernel
theorem dX0_nextWorld_33 : decode cX0_nextWorld 33 = .ok (.iadd, 1) := by decide +kernel
theorem dX0_nextWorld_34 : decode cX0_nextWorld 34 = .ok (.iastore, 1) := by decide +kernel
theorem dX0_nextWorld_35 : decode cX0_nextWorld 35 = .ok (.iconst 1, 1) := by decide +kernel
theorem dX0_nextWorld_36 : decode cX0_nextWorld 36 = .ok (.ireturn, 1) := by decide +kernel
theorem dX0_nextWorld_37 : decode cX0_nextWorld 37 = .ok (.aload_n 0, 1) := by decide +kernel
theorem dX0_nextWorld_38 : decode cX0_nextWorld 38 = .ok (.getfield 27, 3) := by decide +kernel
theorem dX0_nextWorld_41 : decode cX0_nextWorld 41 = .ok (.iload_n 2, 1) := by decide +kernel
theorem dX0_nextWorld_42 : decode cX0_nextWorld 42 = .ok (.iconst 0, 1) := by decide +kernel
theorem dX0_nextWorld_43 : decode cX0_nextWorld 43 = .ok (.iastore, 1) := by decide +kernel
theorem dX0_nextWorld_44 : decode cX0_nextWorld 44 = .ok (.iinc 2 (-1), 3) := by decide +kernel
theorem dX0_nextWorld_47 : decode cX0_nextWorld 47 = .ok (.goto (-45), 3) := by decide +kernel
theorem dX0_nextWorld_50 : decode cX0_nextWorld 50 = .ok (.iconst 0, 1) := by decide +kernel
theorem dX0_nextWorld_51 : decode cX0_nextWorld 51 = .ok (.ireturn, 1) := by decide +kernel
theorem dX0_countWorlds_0 : decode cX0_countWorlds 0 = .ok (.aload_n 0, 1) := by decide +kernel
theorem dX0_countWorlds_1 : decode cX0_countWorlds 1 = .ok (.getfield 37, 3) := by decide +kernel
theorem dX0_countWorlds_4 : decode cX0_countWorlds 4 = .ok (.ifCond .eq 19, 3) := by decide +kernel
theorem dX0_countWorlds_7 : decode cX0_countWorlds 7 = .ok (.aload_n 0, 1) := by decide +kernel
theorem dX0_countWorlds_8 : decode cX0_countWorlds 8 = .ok (.getfield 70, 3) := by decide +kernel
theorem dX0_countWorlds_11 : decode cX0_countWorlds 11 = .ok (.aload_n 2, 1) := by decide +kernel
theorem dX0_countWorlds_12 : decode cX0_countWorlds 12 = .ok (.getfield 73, 3) := by decide +kernel
theorem dX0_countWorlds_15 : decode cX0_countWorlds 15 = .ok (.if_icmp .ne 8, 3) := by decide +kernel
theorem dX0_countWorlds_18 : decode cX0_countWorlds 18 = .ok (.aload_n 0, 1) := by decide +kernel
theorem dX0_countWorlds_19 : decode cX0_countWorlds 19 = .ok (.getfield 78, 3) := by decide +kernel
theorem dX0_countWorlds_22 : decode cX0_countWorlds 22 = .ok (.ireturn, 1) := by decide +kernel
theorem dX0_countWorlds_23 : decode cX0_countWorlds 23 = .ok (.iconst 0, 1) := by decide +kernel
theorem dX0_countWorlds_24 : decode cX0_countWorlds 24 = .ok (.istore_n 3, 1) := by decide +kernel
theorem dX0_countWorlds_25 : decode cX0_countWorlds 25 = .ok (.aload_n 0, 1) := by decide +kernel
theorem dX0_countWorlds_26 : decode cX0_countWorlds 26 = .ok (.iconst 0, 1) := by decide +kernel
theorem dX0_countWorlds_27 : decode cX0_countWorlds 27 = .ok (.putfield 81, 3) := by decide +kernel
theorem dX0_countWorlds_30 : decode cX0_countWorlds 30 = .ok (.iconst 0, 1) := by decide +kernel
theorem dX0_countWorlds_31 : decode cX0_countWorlds 31 = .ok (.istore 4, 2) := by decide +kernel
theorem dX0_countWorlds_33 : decode cX0_countWorlds 33 = .ok (.iload 4, 2) := by decide +kernel
theorem dX0_countWorlds_35 : decode cX0_countWorlds 35 = .ok (.aload_n 0, 1) := by decide +kernel
theorem dX0_countWorlds_36 : decode cX0_countWorlds 36 = .ok (.getfield 33, 3) := by decide +kernel
theorem dX0_countWorlds_39 : decode cX0_countWorlds 39 = .ok (.if_icmp .ge 35, 3) := by decide +kernel
theorem dX0_countWorlds_42 : decode cX0_countWorlds 42 = .ok (.iload_n 3, 1) := by decide +kernel
theorem dX0_countWorlds_43 : decode cX0_countWorlds 43 = .ok (.aload_n 1, 1) := by decide +kernel
theorem dX0_countWorlds_44 : decode cX0_countWorlds 44 = .ok (.getfield 44, 3) := by decide +kernel
theorem dX0_countWorlds_47 : decode cX0_countWorlds 47 = .ok (.aload_n 0, 1) := by decide +kernel
theorem dX0_countWorlds_48 : decode cX0_countWorlds 48 = .ok (.getfield 15, 3) := by decide +kernel
theorem dX0_countWorlds_51 : decode cX0_countWorlds 51 = .ok (.iload 4, 2) := by decide +kernel
theorem dX0_countWorlds_53 : decode cX0_countWorlds 53 = .ok (.iaload, 1) := by decide +kernel
theorem dX0_countWorlds_54 : decode cX0_countWorlds 54 = .ok (.iaload, 1) := by decide +kernel
theorem dX0_countWorlds_55 : decode cX0_countWorlds 55 = .ok (.ior, 1) := by decide +kernel
theorem dX0_countWorlds_56 : decode cX0_countWorlds 56 = .ok (.istore_n 3, 1) := by decide +kernel
theorem dX0_countWorlds_57 : decode cX0_countWorlds 57 = .ok (.aload_n 0, 1) := by decide +kernel
theorem dX0_countWorlds_58 : decode cX0_countWorlds 58 = .ok (.aload_n 0, 1) := by decide +kernel
theorem dX0_countWorlds_59 : decode cX0_countWorlds 59 = .ok (.getfield 15, 3) := by decide +kernel
theorem dX0_countWorlds_62 : decode cX0_countWorlds 62 = .ok (.iload 4, 2) := by decide +kernel
theorem dX0_countWorlds_64 : decode cX0_countWorlds 64 = .ok (.iaload, 1) := by decide +kernel
theorem dX0_countWorlds_65 : decode cX0_countWorlds 65 = .ok (.invokevirtual 84, 3) := by decide +kernel
theorem dX0_countWorlds_68 : decode cX0_countWorlds 68 = .ok (.iinc 4 1, 3) := by decide +kernel
theorem dX0_countWorlds_71 : decode cX0_countWorlds 71 = .ok (.goto (-38), 3) := by decide +kernel
theorem dX0_countWorlds_74 : decode cX0_countWorlds 74 = .ok (.aload_n 0, 1) := by decide +kernel
theorem dX0_countWorlds_75 : decode cX0_countWorlds 75 = .ok (.getfield 27, 3) := by decide +kernel
theorem dX0_countWorlds_78 : decode cX0_countWorlds 78 = .ok (.iconst 0, 1) := by decide +kernel
theorem dX0_countWorlds_79 : decode cX0_countWorlds 79 = .ok (.invokestatic 56, 3) := by decide +kernel
theorem dX0_countWorlds_82 : decode cX0_countWorlds 82 = .ok (.aload_n 0, 1) := by decide +kernel
theorem dX0_countWorlds_83 : decode cX0_countWorlds 83 = .ok (.iconst 0, 1) := by decide +kernel
theorem dX0_countWorlds_84 : decode cX0_countWorlds 84 = .ok (.putfield 78, 3) := by decide +kernel
theorem dX0_countWorlds_87 : decode cX0_countWorlds 87 = .ok (.iconst 1, 1) := by decide +kernel
theorem dX0_countWorlds_88 : decode cX0_countWorlds 88 = .ok (.istore 4, 2) := by decide +kernel
theorem dX0_countWorlds_90 : decode cX0_countWorlds 90 = .ok (.iconst 0, 1) := by decide +kernel
theorem dX0_countWorlds_91 : decode cX0_countWorlds 91 = .ok (.istore 5, 2) := by decide +kernel
theorem dX0_countWorlds_93 : decode cX0_countWorlds 93 = .ok (.iload 5, 2) := by decide +kernel
theorem dX0_countWorlds_95 : decode cX0_countWorlds 95 = .ok (.sipush 10000, 3) := by decide +kernel
theorem dX0_countWorlds_98 : decode cX0_countWorlds 98 = .ok (.if_icmp .ge 86, 3) := by decide +kernel
theorem dX0_countWorlds_101 : decode cX0_countWorlds 101 = .ok (.iload 4, 2) := by decide +kernel
theorem dX0_countWorlds_103 : decode cX0_countWorlds 103 = .ok (.ifCond .eq 81, 3) := by decide +kernel
theorem dX0_countWorlds_106 : decode cX0_countWorlds 106 = .ok (.aload_n 0, 1) := by decide +kernel
theorem dX0_countWorlds_107 : decode cX0_countWorlds 107 = .ok (.aload_n 1, 1) := by decide +kernel
theorem dX0_countWorlds_108 : decode cX0_countWorlds 108 = .ok (.aload_n 2, 1) := by decide +kernel
theorem dX0_countWorlds_109 : decode cX0_countWorlds 109 = .ok (.invokevirtual 88, 3) := by decide +kernel
theorem dX0_countWorlds_112 : decode cX0_countWorlds 112 = .ok (.ifCond .eq 59, 3) := by decide +kernel
theorem dX0_countWorlds_115 : decode cX0_countWorlds 115 = .ok (.aload_n 0, 1) := by decide +kernel
theorem dX0_countWorlds_116 : decode cX0_countWorlds 116 = .ok (.getfield 30, 3) := by decide +kernel
theorem dX0_countWorlds_119 : decode cX0_countWorlds 119 = .ok (.aload_n 0, 1) := by decide +kernel
theorem dX0_countWorlds_120 : decode cX0_countWorlds 120 = .ok (.getfield 78, 3) := by decide +kernel
theorem dX0_countWorlds_123 : decode cX0_countWorlds 123 = .ok (.aload_n 0, 1) := by decide +kernel
theorem dX0_countWorlds_124 : decode cX0_countWorlds 124 = .ok (.getfield 27, 3) := by decide +kernel
theorem dX0_countWorlds_127 : decode cX0_countWorlds 127 = .ok (.iconst 0, 1) := by decide +kernel
theorem dX0_countWorlds_128 : decode cX0_countWorlds 128 = .ok (.iaload, 1) := by decide +kernel
theorem dX0_countWorlds_129 : decode cX0_countWorlds 129 = .ok (.sipush 1000, 3) := by decide +kernel
theorem dX0_countWorlds_132 : decode cX0_countWorlds 132 = .ok (.imul, 1) := by decide +kernel
theorem dX0_countWorlds_133 : decode cX0_countWorlds 133 = .ok (.aload_n 0, 1) := by decide +kernel
theorem dX0_countWorlds_134 : decode cX0_countWorlds 134 = .ok (.getfield 27, 3) := by decide +kernel
theorem dX0_countWorlds_137 : decode cX0_countWorlds 137 = .ok (.iconst 1, 1) := by decide +kernel
theorem dX0_countWorlds_138 : decode cX0_countWorlds 138 = .ok (.iaload, 1) := by decide +kernel
theorem dX0_countWorlds_139 : decode cX0_countWorlds 139 = .ok (.bipush 100, 2) := by decide +kernel
theorem dX0_countWorlds_141 : decode cX0_countWorlds 141 = .ok (.imul, 1) := by decide +kernel
theorem dX0_countWorlds_142 : decode cX0_countWorlds 142 = .ok (.iadd, 1) := by decide +kernel
theorem dX0_countWorlds_143 : decode cX0_countWorlds 143 = .ok (.aload_n 0, 1) := by decide +kernel
theorem dX0_countWorlds_144 : decode cX0_countWorlds 144 = .ok (.getfield 27, 3) := by decide +kernel
theorem dX0_countWorlds_147 : decode cX0_countWorlds 147 = .ok (.iconst 2, 1) := by decide +kernel
theorem dX0_countWorlds_148 : decode cX0_countWorlds 148 = .ok (.iaload, 1) := by decide +kernel
theorem dX0_countWorlds_149 : decode cX0_countWorlds 149 = .ok (.bipush 10, 2) := by decide +kernel
theorem dX0_countWorlds_151 : decode cX0_countWorlds 151 = .ok (.imul, 1) := by decide +kernel
theorem dX0_countWorlds_152 : decode cX0_countWorlds 152 = .ok (.iadd, 1) := by decide +kernel
theorem dX0_countWorlds_153 : decode cX0_countWorlds 153 = .ok (.aload_n 0, 1) := by decide +kernel
theorem dX0_countWorlds_154 : decode cX0_countWorlds 154 = .ok (.getfield 27, 3) := by decide +kernel
theorem dX0_countWorlds_157 : decode cX0_countWorlds 157 = .ok (.iconst 3, 1) := by decide +kernel
theorem dX0_countWorlds_158 : decode cX0_countWorlds 158 = .ok (.iaload, 1) := by decide +kernel
theorem dX0_countWorlds_159 : decode cX0_countWorlds 159 = .ok (.iadd, 1) := by decide +kernel
theorem dX0_countWorlds_160 : decode cX0_countWorlds 160 = .ok (.iastore, 1) := by decide +kernel
theorem dX0_countWorlds_161 : decode cX0_countWorlds 161 = .ok (.aload_n 0, 1) := by decide +kernel
theorem dX0_countWorlds_162 : decode cX0_countWorlds 162 = .ok (.dup, 1) := by decide +kernel
theorem dX0_countWorlds_163 : decode cX0_countWorlds 163 = .ok (.getfield 78, 3) := by decide +kernel
theorem dX0_countWorlds_166 : decode cX0_countWorlds 166 = .ok (.iconst 1, 1) := by decide +kernel
theorem dX0_countWorlds_167 : decode cX0_countWorlds 167 = .ok (.iadd, 1) := by decide +kernel
theorem dX0_countWorlds_168 : decode cX0_countWorlds 168 = .ok (.putfield 78, 3) := by decide +kernel
theorem dX0_countWorlds_171 : decode cX0_countWorlds 171 = .ok (.aload_n 0, 1) := by decide +kernel
theorem dX0_countWorlds_172 : decode cX0_countWorlds 172 = .ok (.iload_n 3, 1) := by decide +kernel
theorem dX0_countWorlds_173 : decode cX0_countWorlds 173 = .ok (.invokevirtual 66, 3) := by decide +kernel
theorem dX0_countWorlds_176 : decode cX0_countWorlds 176 = .ok (.istore 4, 2) := by decide +kernel
theorem dX0_countWorlds_178 : decode cX0_countWorlds 178 = .ok (.iinc 5 1, 3) := by decide +kernel
theorem dX0_countWorlds_181 : decode cX0_countWorlds 181 = .ok (.goto (-88), 3) := by decide +kernel
theorem dX0_countWorlds_184 : decode cX0_countWorlds 184 = .ok (.aload_n 0, 1) := by decide +kernel
theorem dX0_countWorlds_185 : decode cX0_countWorlds 185 = .ok (.iconst 1, 1) := by decide +kernel
theorem dX0_countWorlds_186 : decode cX0_countWorlds 186 = .ok (.putfield 37, 3) := by decide +kernel
theorem dX0_countWorlds_189 : decode cX0_countWorlds 189 = .ok (.aload_n 0, 1) := by decide +kernel
theorem dX0_countWorlds_190 : decode cX0_countWorlds 190 = .ok (.aload_n 2, 1) := by decide +kernel
theorem dX0_countWorlds_191 : decode cX0_countWorlds 191 = .ok (.getfield 73, 3) := by decide +kernel
theorem dX0_countWorlds_194 : decode cX0_countWorlds 194 = .ok (.putfield 70, 3) := by decide +kernel
theorem dX0_countWorlds_197 : decode cX0_countWorlds 197 = .ok (.aload_n 0, 1) := by decide +kernel
theorem dX0_countWorlds_198 : decode cX0_countWorlds 198 = .ok (.getfield 78, 3) := by decide +kernel
theorem dX0_countWorlds_201 : decode cX0_countWorlds 201 = .ok (.ireturn, 1) := by decide +kernel
theorem dX0_addUnlike_0 : decode cX0_addUnlike 0 = .ok (.iconst 0, 1) := by decide +kernel
theorem dX0_addUnlike_1 : decode cX0_addUnlike 1 = .ok (.istore_n 2, 1) := by decide +kernel
theorem dX0_addUnlike_2 : decode cX0_addUnlike 2 = .ok (.iload_n 2, 1) := by decide +kernel
theorem dX0_addUnlike_3 : decode cX0_addUnlike 3 = .ok (.aload_n 0, 1) := by decide +kernel
theorem dX0_addUnlike_4 : decode cX0_addUnlike 4 = .ok (.getfield 81, 3) := by decide +kernel
theorem dX0_addUnlike_7 : decode cX0_addUnlike 7 = .ok (.if_icmp .ge 20, 3) := by decide +kernel
theorem dX0_addUnlike_10 : decode cX0_addUnlike 10 = .ok (.aload_n 0, 1) := by decide +kernel
theorem dX0_addUnlike_11 : decode cX0_addUnlike 11 = .ok (.getfield 18, 3) := by decide +kernel
theorem dX0_addUnlike_14 : decode cX0_addUnlike 14 = .ok (.iload_n 2, 1) := by decide +kernel
theorem dX0_addUnlike_15 : decode cX0_addUnlike 15 = .ok (.iaload, 1) := by decide +kernel
theorem dX0_addUnlike_16 : decode cX0_addUnlike 16 = .ok (.iload_n 1, 1) := by decide +kernel
theorem dX0_addUnlike_17 : decode cX0_addUnlike 17 = .ok (.if_icmp .ne 4, 3) := by decide +kernel
theorem dX0_addUnlike_20 : decode cX0_addUnlike 20 = .ok (.return_, 1) := by decide +kernel
theorem dX0_addUnlike_21 : decode cX0_addUnlike 21 = .ok (.iinc 2 1, 3) := by decide +kernel
theorem dX0_addUnlike_24 : decode cX0_addUnlike 24 = .ok (.goto (-22), 3) := by decide +kernel
theorem dX0_addUnlike_27 : decode cX0_addUnlike 27 = .ok (.aload_n 0, 1) := by decide +kernel
theorem dX0_addUnlike_28 : decode cX0_addUnlike 28 = .ok (.getfield 81, 3) := by decide +kernel
theorem dX0_addUnlike_31 : decode cX0_addUnlike 31 = .ok (.bipush 8, 2) := by decide +kernel
theorem dX0_addUnlike_33 : decode cX0_addUnlike 33 = .ok (.if_icmp .ge 23, 3) := by decide +kernel
theorem dX0_addUnlike_36 : decode cX0_addUnlike 36 = .ok (.aload_n 0, 1) := by decide +kernel
theorem dX0_addUnlike_37 : decode cX0_addUnlike 37 = .ok (.getfield 18, 3) := by decide +kernel
theorem dX0_addUnlike_40 : decode cX0_addUnlike 40 = .ok (.aload_n 0, 1) := by decide +kernel
theorem dX0_addUnlike_41 : decode cX0_addUnlike 41 = .ok (.getfield 81, 3) := by decide +kernel
theorem dX0_addUnlike_44 : decode cX0_addUnlike 44 = .ok (.iload_n 1, 1) := by decide +kernel
theorem dX0_addUnlike_45 : decode cX0_addUnlike 45 = .ok (.iastore, 1) := by decide +kernel
theorem dX0_addUnlike_46 : decode cX0_addUnlike 46 = .ok (.aload_n 0, 1) := by decide +kernel
theorem dX0_addUnlike_47 : decode cX0_addUnlike 47 = .ok (.dup, 1) := by decide +kernel
theorem dX0_addUnlike_48 : decode cX0_addUnlike 48 = .ok (.getfield 81, 3) := by decide +kernel
theorem dX0_addUnlike_51 : decode cX0_addUnlike 51 = .ok (.iconst 1, 1) := by decide +kernel
theorem dX0_addUnlike_52 : decode cX0_addUnlike 52 = .ok (.iadd, 1) := by decide +kernel
theorem dX0_addUnlike_53 : decode cX0_addUnlike 53 = .ok (.putfield 81, 3) := by decide +kernel
theorem dX0_addUnlike_56 : decode cX0_addUnlike 56 = .ok (.return_, 1) := by decide +kernel
theorem dX0_allAnswerAlike_0 : decode cX0_allAnswerAlike 0 = .ok (.aload_n 0, 1) := by decide +kernel
theorem dX0_allAnswerAlike_1 : decode cX0_allAnswerAlike 1 = .ok (.getfield 81, 3) := by decide +kernel
theorem dX0_allAnswerAlike_4 : decode cX0_allAnswerAlike 4 = .ok (.iconst 2, 1) := by decide +kernel
theorem dX0_allAnswerAlike_5 : decode cX0_allAnswerAlike 5 = .ok (.if_icmp .ge 5, 3) := by decide +kernel
theorem dX0_allAnswerAlike_8 : decode cX0_allAnswerAlike 8 = .ok (.iconst 1, 1) := by decide +kernel
theorem dX0_allAnswerAlike_9 : decode cX0_allAnswerAlike 9 = .ok (.ireturn, 1) := by decide +kernel
theorem dX0_allAnswerAlike_10 : decode cX0_allAnswerAlike 10 = .ok (.aload_n 1, 1) := by decide +kernel
theorem dX0_allAnswerAlike_11 : decode cX0_allAnswerAlike 11 = .ok (.aload_n 0, 1) := by decide +kernel
theorem dX0_allAnswerAlike_12 : decode cX0_allAnswerAlike 12 = .ok (.getfield 18, 3) := by decide +kernel
theorem dX0_allAnswerAlike_15 : decode cX0_allAnswerAlike 15 = .ok (.iconst 0, 1) := by decide +kernel
theorem dX0_allAnswerAlike_16 : decode cX0_allAnswerAlike 16 = .ok (.iaload, 1) := by decide +kernel
theorem dX0_allAnswerAlike_17 : decode cX0_allAnswerAlike 17 = .ok (.aload_n 2, 1) := by decide +kernel
theorem dX0_allAnswerAlike_18 : decode cX0_allAnswerAlike 18 = .ok (.aload_n 0, 1) := by decide +kernel
theorem dX0_allAnswerAlike_19 : decode cX0_allAnswerAlike 19 = .ok (.getfield 27, 3) := by decide +kernel
theorem dX0_allAnswerAlike_22 : decode cX0_allAnswerAlike 22 = .ok (.invokevirtual 62, 3) := by decide +kernel
theorem dX0_allAnswerAlike_25 : decode cX0_allAnswerAlike 25 = .ok (.istore_n 3, 1) := by decide +kernel
theorem dX0_allAnswerAlike_26 : decode cX0_allAnswerAlike 26 = .ok (.iconst 1, 1) := by decide +kernel
theorem dX0_allAnswerAlike_27 : decode cX0_allAnswerAlike 27 = .ok (.istore 4, 2) := by decide +kernel
theorem dX0_allAnswerAlike_29 : decode cX0_allAnswerAlike 29 = .ok (.iload 4, 2) := by decide +kernel
theorem dX0_allAnswerAlike_31 : decode cX0_allAnswerAlike 31 = .ok (.aload_n 0, 1) := by decide +kernel
theorem dX0_allAnswerAlike_32 : decode cX0_allAnswerAlike 32 = .ok (.getfield 81, 3) := by decide +kernel
theorem dX0_allAnswerAlike_35 : decode cX0_allAnswerAlike 35 = .ok (.if_icmp .ge 31, 3) := by decide +kernel
theorem dX0_allAnswerAlike_38 : decode cX0_allAnswerAlike 38 = .ok (.aload_n 1, 1) := by decide +kernel
theorem dX0_allAnswerAlike_39 : decode cX0_allAnswerAlike 39 = .ok (.aload_n 0, 1) := by decide +kernel
theorem dX0_allAnswerAlike_40 : decode cX0_allAnswerAlike 40 = .ok (.getfield 18, 3) := by decide +kernel
theorem dX0_allAnswerAlike_43 : decode cX0_allAnswerAlike 43 = .ok (.iload 4, 2) := by decide +kernel
theorem dX0_allAnswerAlike_45 : decode cX0_allAnswerAlike 45 = .ok (.iaload, 1) := by decide +kernel
theorem dX0_allAnswerAlike_46 : decode cX0_allAnswerAlike 46 = .ok (.aload_n 2, 1) := by decide +kernel
theorem dX0_allAnswerAlike_47 : decode cX0_allAnswerAlike 47 = .ok (.aload_n 0, 1) := by decide +kernel
theorem dX0_allAnswerAlike_48 : decode cX0_allAnswerAlike 48 = .ok (.getfield 27, 3) := by decide +kernel
theorem dX0_allAnswerAlike_51 : decode cX0_allAnswerAlike 51 = .ok (.invokevirtual 62, 3) := by decide +kernel
theorem dX0_allAnswerAlike_54 : decode cX0_allAnswerAlike 54 = .ok (.iload_n 3, 1) := by decide +kernel
theorem dX0_allAnswerAlike_55 : decode cX0_allAnswerAlike 55 = .ok (.if_icmp .eq 5, 3) := by decide +kernel
theorem dX0_allAnswerAlike_58 : decode cX0_allAnswerAlike 58 = .ok (.iconst 0, 1) := by decide +kernel
theorem dX0_allAnswerAlike_59 : decode cX0_allAnswerAlike 59 = .ok (.ireturn, 1) := by decide +kernel
theorem dX0_allAnswerAlike_60 : decode cX0_allAnswerAlike 60 = .ok (.iinc 4 1, 3) := by decide +kernel
theorem dX0_allAnswerAlike_63 : decode cX0_allAnswerAlike 63 = .ok (.goto (-34), 3) := by decide +kernel
theorem dX0_allAnswerAlike_66 : decode cX0_allAnswerAlike 66 = .ok (.iconst 1, 1) := by decide +kernel
theorem dX0_allAnswerAlike_67 : decode cX0_allAnswerAlike 67 = .ok (.ireturn, 1) := by decide +kernel
theorem dX0_save_0 : decode cX0_save 0 = .ok (.aload_n 1, 1) := by decide +kernel
theorem dX0_save_1 : decode cX0_save 1 = .ok (.aload_n 0, 1) := by decide +kernel
theorem dX0_save_2 : decode cX0_save 2 = .ok (.getfield 33, 3) := by decide +kernel
theorem dX0_save_5 : decode cX0_save 5 = .ok (.invokevirtual 92, 3) := by decide +kernel
theorem dX0_save_8 : decode cX0_save 8 = .ok (.aload_n 1, 1) := by decide +kernel
theorem dX0_save_9 : decode cX0_save 9 = .ok (.aload_n 0, 1) := by decide +kernel
theorem dX0_save_10 : decode cX0_save 10 = .ok (.getfield 9, 3) := by decide +kernel
theorem dX0_save_13 : decode cX0_save 13 = .ok (.invokevirtual 97, 3) := by decide +kernel
theorem dX0_save_16 : decode cX0_save 16 = .ok (.aload_n 1, 1) := by decide +kernel
theorem dX0_save_17 : decode cX0_save 17 = .ok (.aload_n 0, 1) := by decide +kernel
theorem dX0_save_18 : decode cX0_save 18 = .ok (.getfield 15, 3) := by decide +kernel
theorem dX0_save_21 : decode cX0_save 21 = .ok (.invokevirtual 97, 3) := by decide +kernel
theorem dX0_save_24 : decode cX0_save 24 = .ok (.aload_n 1, 1) := by decide +kernel
theorem dX0_save_25 : decode cX0_save 25 = .ok (.aload_n 0, 1) := by decide +kernel
theorem dX0_save_26 : decode cX0_save 26 = .ok (.getfield 41, 3) := by decide +kernel
theorem dX0_save_29 : decode cX0_save 29 = .ok (.invokevirtual 92, 3) := by decide +kernel
theorem dX0_save_32 : decode cX0_save 32 = .ok (.aload_n 1, 1) := by decide +kernel
theorem dX0_save_33 : decode cX0_save 33 = .ok (.aload_n 0, 1) := by decide +kernel
theorem dX0_save_34 : decode cX0_save 34 = .ok (.getfield 21, 3) := by decide +kernel
theorem dX0_save_37 : decode cX0_save 37 = .ok (.invokevirtual 97, 3) := by decide +kernel
theorem dX0_save_40 : decode cX0_save 40 = .ok (.aload_n 1, 1) := by decide +kernel
theorem dX0_save_41 : decode cX0_save 41 = .ok (.aload_n 0, 1) := by decide +kernel
theorem dX0_save_42 : decode cX0_save 42 = .ok (.getfield 24, 3) := by decide +kernel
theorem dX0_save_45 : decode cX0_save 45 = .ok (.invokevirtual 97, 3) := by decide +kernel
theorem dX0_save_48 : decode cX0_save 48 = .ok (.return_, 1) := by decide +kernel
theorem dX0_restore_0 : decode cX0_restore 0 = .ok (.aload_n 0, 1) := by decide +kernel
theorem dX0_restore_1 : decode cX0_restore 1 = .ok (.iconst 0, 1) := by decide +kernel
theorem dX0_restore_2 : decode cX0_restore 2 = .ok (.aload_n 1, 1) := by decide +kernel
theorem dX0_restore_3 : decode cX0_restore 3 = .ok (.invokevirtual 101, 3) := by decide +kernel
theorem dX0_restore_6 : decode cX0_restore 6 = .ok (.bipush 8, 2) := by decide +kernel
theorem dX0_restore_8 : decode cX0_restore 8 = .ok (.invokestatic 105, 3) := by decide +kernel
theorem dX0_restore_11 : decode cX0_restore 11 = .ok (.invokestatic 111, 3) := by decide +kernel
theorem dX0_restore_14 : decode cX0_restore 14 = .ok (.putfield 33, 3) := by decide +kernel
theorem dX0_restore_17 : decode cX0_restore 17 = .ok (.aload_n 1, 1) := by decide +kernel
theorem dX0_restore_18 : decode cX0_restore 18 = .ok (.aload_n 0, 1) := by decide +kernel
theorem dX0_restore_19 : decode cX0_restore 19 = .ok (.getfield 9, 3) := by decide +kernel
theorem dX0_restore_22 : decode cX0_restore 22 = .ok (.invokevirtual 114, 3) := by decide +kernel
theorem dX0_restore_25 : decode cX0_restore 25 = .ok (.aload_n 1, 1) := by decide +kernel
theorem dX0_restore_26 : decode cX0_restore 26 = .ok (.aload_n 0, 1) := by decide +kernel
theorem dX0_restore_27 : decode cX0_restore 27 = .ok (.getfield 15, 3) := by decide +kernel
theorem dX0_restore_30 : decode cX0_restore 30 = .ok (.invokevirtual 114, 3) := by decide +kernel
theorem dX0_restore_33 : decode cX0_restore 33 = .ok (.aload_n 0, 1) := by decide +kernel
theorem dX0_restore_34 : decode cX0_restore 34 = .ok (.iconst 0, 1) := by decide +kernel
theorem dX0_restore_35 : decode cX0_restore 35 = .ok (.aload_n 1, 1) := by decide +kernel
theorem dX0_restore_36 : decode cX0_restore 36 = .ok (.invokevirtual 101, 3) := by decide +kernel
theorem dX0_restore_39 : decode cX0_restore 39 = .ok (.bipush 12, 2) := by decide +kernel
theorem dX0_restore_41 : decode cX0_restore 41 = .ok (.invokestatic 105, 3) := by decide +kernel
theorem dX0_restore_44 : decode cX0_restore 44 = .ok (.invokestatic 111, 3) := by decide +kernel
theorem dX0_restore_47 : decode cX0_restore 47 = .ok (.putfield 41, 3) := by decide +kernel
theorem dX0_restore_50 : decode cX0_restore 50 = .ok (.aload_n 1, 1) := by decide +kernel
theorem dX0_restore_51 : decode cX0_restore 51 = .ok (.aload_n 0, 1) := by decide +kernel
theorem dX0_restore_52 : decode cX0_restore 52 = .ok (.getfield 21, 3) := by decide +kernel
theorem dX0_restore_55 : decode cX0_restore 55 = .ok (.invokevirtual 114, 3) := by decide +kernel
theorem dX0_restore_58 : decode cX0_restore 58 = .ok (.aload_n 1, 1) := by decide +kernel
theorem dX0_restore_59 : decode cX0_restore 59 = .ok (.aload_n 0, 1) := by decide +kernel
theorem dX0_restore_60 : decode cX0_restore 60 = .ok (.getfield 24, 3) := by decide +kernel
theorem dX0_restore_63 : decode cX0_restore 63 = .ok (.invokevirtual 114, 3) := by decide +kernel
theorem dX0_restore_66 : decode cX0_restore 66 = .ok (.aload_n 0, 1) := by decide +kernel
theorem dX0_restore_67 : decode cX0_restore 67 = .ok (.iconst 0, 1) := by decide +kernel
theorem dX0_restore_68 : decode cX0_restore 68 = .ok (.putfield 37, 3) := by decide +kernel
theorem dX0_restore_71 : decode cX0_restore 71 = .ok (.return_, 1) := by decide +kernel
theorem dX1_init_0 : decode cX1_init 0 = .ok (.aload_n 0, 1) := by decide +kernel
theorem dX1_init_1 : decode cX1_init 1 = .ok (.invokespecial 3, 3) := by decide +kernel
theorem dX1_init_4 : decode cX1_init 4 = .ok (.aload_n 0, 1) := by decide +kernel
theorem dX1_init_5 : decode cX1_init 5 = .ok (.sipush 300, 3) := by decide +kernel
theorem dX1_init_8 : decode cX1_init 8 = .ok (.newarray .int, 2) := by decide +kernel
theorem dX1_init_10 : decode cX1_init 10 = .ok (.putfield 9, 3) := by decide +kernel
theorem dX1_init_13 : decode cX1_init 13 = .ok (.aload_n 0, 1) := by decide +kernel
theorem dX1_init_14 : decode cX1_init 14 = .ok (.sipush 300, 3) := by decide +kernel
theorem dX1_init_17 : decode cX1_init 17 = .ok (.newarray .int, 2) := by decide +kernel
theorem dX1_init_19 : decode cX1_init 19 = .ok (.putfield 15, 3) := by decide +kernel
theorem dX1_init_22 : decode cX1_init 22 = .ok (.aload_n 0, 1) := by decide +kernel
theorem dX1_init_23 : decode cX1_init 23 = .ok (.sipush 300, 3) := by decide +kernel
theorem dX1_init_26 : decode cX1_init 26 = .ok (.newarray .int, 2) := by decide +kernel
theorem dX1_init_28 : decode cX1_init 28 = .ok (.putfield 18, 3) := by decide +kernel
theorem dX1_init_31 : decode cX1_init 31 = .ok (.aload_n 0, 1) := by decide +kernel
theorem dX1_init_32 : decode cX1_init 32 = .ok (.sipush 300, 3) := by decide +kernel
theorem dX1_init_35 : decode cX1_init 35 = .ok (.newarray .int, 2) := by decide +kernel
theorem dX1_init_37 : decode cX1_init 37 = .ok (.putfield 21, 3) := by decide +kernel
theorem dX1_init_40 : decode cX1_init 40 = .ok (.aload_n 0, 1) := by decide +kernel
theorem dX1_init_41 : decode cX1_init 41 = .ok (.sipush 300, 3) := by decide +kernel
theorem dX1_init_44 : decode cX1_init 44 = .ok (.newarray .int, 2) := by decide +kernel
theorem dX1_init_46 : decode cX1_init 46 = .ok (.putfield 24, 3) := by decide +kernel
theorem dX1_init_49 : decode cX1_init 49 = .ok (.aload_n 0, 1) := by decide +kernel
theorem dX1_init_50 : decode cX1_init 50 = .ok (.sipush 300, 3) := by decide +kernel
theorem dX1_init_53 : decode cX1_init 53 = .ok (.newarray .int, 2) := by decide +kernel
theorem dX1_init_55 : decode cX1_init 55 = .ok (.putfield 27, 3) := by decide +kernel
theorem dX1_init_58 : decode cX1_init 58 = .ok (.aload_n 0, 1) := by decide +kernel
theorem dX1_init_59 : decode cX1_init 59 = .ok (.sipush 300, 3) := by decide +kernel
theorem dX1_init_62 : decode cX1_init 62 = .ok (.newarray .int, 2) := by decide +kernel
theorem dX1_init_64 : decode cX1_init 64 = .ok (.putfield 30, 3) := by decide +kernel
theorem dX1_init_67 : decode cX1_init 67 = .ok (.aload_n 0, 1) := by decide +kernel
theorem dX1_init_68 : decode cX1_init 68 = .ok (.bipush 16, 2) := by decide +kernel
theorem dX1_init_70 : decode cX1_init 70 = .ok (.newarray .int, 2) := by decide +kernel
theorem dX1_init_72 : decode cX1_init 72 = .ok (.putfield 33, 3) := by decide +kernel
theorem dX1_init_75 : decode cX1_init 75 = .ok (.return_, 1) := by decide +kernel
theorem dX1_make_0 : decode cX1_make 0 = .ok (.aload_n 0, 1) := by decide +kernel
theorem dX1_make_1 : decode cX1_make 1 = .ok (.getfield 36, 3) := by decide +kernel
theorem dX1_make_4 : decode cX1_make 4 = .ok (.sipush 300, 3) := by decide +kernel
theorem dX1_make_7 : decode cX1_make 7 = .ok (.if_icmp .lt 5, 3) := by decide +kernel
theorem dX1_make_10 : decode cX1_make 10 = .ok (.iconst (-1), 1) := by decide +kernel
theorem dX1_make_11 : decode cX1_make 11 = .ok (.ireturn, 1) := by decide +kernel
theorem dX1_make_12 : decode cX1_make 12 = .ok (.aload_n 0, 1) := by decide +kernel
theorem dX1_make_13 : decode cX1_make 13 = .ok (.getfield 9, 3) := by decide +kernel
theorem dX1_make_16 : decode cX1_make 16 = .ok (.aload_n 0, 1) := by decide +kernel
theorem dX1_make_17 : decode cX1_make 17 = .ok (.getfield 36, 3) := by decide +kernel
theorem dX1_make_20 : decode cX1_make 20 = .ok (.iload_n 1, 1) := by decide +kernel
theorem dX1_make_21 : decode cX1_make 21 = .ok (.iastore, 1) := by decide +kernel
theorem dX1_make_22 : decode cX1_make 22 = .ok (.aload_n 0, 1) := by decide +kernel
theorem dX1_make_23 : decode cX1_make 23 = .ok (.getfield 15, 3) := by decide +kernel
theorem dX1_make_26 : decode cX1_make 26 = .ok (.aload_n 0, 1) := by decide +kernel
theorem dX1_make_27 : decode cX1_make 27 = .ok (.getfield 36, 3) := by decide +kernel
theorem dX1_make_30 : decode cX1_make 30 = .ok (.iload_n 2, 1) := by decide +kernel
theorem dX1_make_31 : decode cX1_make 31 = .ok (.iastore, 1) := by decide +kernel
theorem dX1_make_32 : decode cX1_make 32 = .ok (.aload_n 0, 1) := by decide +kernel
theorem dX1_make_33 : decode cX1_make 33 = .ok (.getfield 18, 3) := by decide +kernel
theorem dX1_make_36 : decode cX1_make 36 = .ok (.aload_n 0, 1) := by decide +kernel
theorem dX1_make_37 : decode cX1_make 37 = .ok (.getfield 36, 3) := by decide +kernel
theorem dX1_make_40 : decode cX1_make 40 = .ok (.iconst 1, 1) := by decide +kernel
theorem dX1_make_41 : decode cX1_make 41 = .ok (.iastore, 1) := by decide +kernel
theorem dX1_make_42 : decode cX1_make 42 = .ok (.aload_n 0, 1) := by decide +kernel
theorem dX1_make_43 : decode cX1_make 43 = .ok (.getfield 21, 3) := by decide +kernel
theorem dX1_make_46 : decode cX1_make 46 = .ok (.aload_n 0, 1) := by decide +kernel
theorem dX1_make_47 : decode cX1_make 47 = .ok (.getfield 36, 3) := by decide +kernel
theorem dX1_make_50 : decode cX1_make 50 = .ok (.iconst 0, 1) := by decide +kernel
theorem dX1_make_51 : decode cX1_make 51 = .ok (.iastore, 1) := by decide +kernel
theorem dX1_make_52 : decode cX1_make 52 = .ok (.aload_n 0, 1) := by decide +kernel
theorem dX1_make_53 : decode cX1_make 53 = .ok (.getfield 24, 3) := by decide +kernel
theorem dX1_make_56 : decode cX1_make 56 = .ok (.aload_n 0, 1) := by decide +kernel
theorem dX1_make_57 : decode cX1_make 57 = .ok (.getfield 36, 3) := by decide +kernel
theorem dX1_make_60 : decode cX1_make 60 = .ok (.iconst (-1), 1) := by decide +kernel
theorem dX1_make_61 : decode cX1_make 61 = .ok (.iastore, 1) := by decide +kernel
theorem dX1_make_62 : decode cX1_make 62 = .ok (.aload_n 0, 1) := by decide +kernel
theorem dX1_make_63 : decode cX1_make 63 = .ok (.getfield 27, 3) := by decide +kernel
theorem dX1_make_66 : decode cX1_make 66 = .ok (.aload_n 0, 1) := by decide +kernel
theorem dX1_make_67 : decode cX1_make 67 = .ok (.getfield 36, 3) := by decide +kernel
theorem dX1_make_70 : decode cX1_make 70 = .ok (.iconst (-1), 1) := by decide +kernel
theorem dX1_make_71 : decode cX1_make 71 = .ok (.iastore, 1) := by decide +kernel
theorem dX1_make_72 : decode cX1_make 72 = .ok (.aload_n 0, 1) := by decide +kernel
theorem dX1_make_73 : decode cX1_make 73 = .ok (.getfield 30, 3) := by decide +kernel
theorem dX1_make_76 : decode cX1_make 76 = .ok (.aload_n 0, 1) := by decide +kernel
theorem dX1_make_77 : decode cX1_make 77 = .ok (.getfield 36, 3) := by decide +kernel
theorem dX1_make_80 : decode cX1_make 80 = .ok (.iconst (-1), 1) := by decide +kernel
theorem dX1_make_81 : decode cX1_make 81 = .ok (.iastore, 1) := by decide +kernel
theorem dX1_make_82 : decode cX1_make 82 = .ok (.aload_n 0, 1) := by decide +kernel
theorem dX1_make_83 : decode cX1_make 83 = .ok (.dup, 1) := by decide +kernel
theorem dX1_make_84 : decode cX1_make 84 = .ok (.getfield 36, 3) := by decide +kernel
theorem dX1_make_87 : decode cX1_make 87 = .ok (.iconst 1, 1) := by decide +kernel
theorem dX1_make_88 : decode cX1_make 88 = .ok (.iadd, 1) := by decide +kernel
theorem dX1_make_89 : decode cX1_make 89 = .ok (.putfield 36, 3) := by decide +kernel
theorem dX1_make_92 : decode cX1_make 92 = .ok (.aload_n 0, 1) := by decide +kernel
theorem dX1_make_93 : decode cX1_make 93 = .ok (.getfield 36, 3) := by decide +kernel
theorem dX1_make_96 : decode cX1_make 96 = .ok (.iconst 1, 1) := by decide +kernel
theorem dX1_make_97 : decode cX1_make 97 = .ok (.isub, 1) := by decide +kernel
theorem dX1_make_98 : decode cX1_make 98 = .ok (.ireturn, 1) := by decide +kernel
theorem dX1_become_0 : decode cX1_become 0 = .ok (.iload_n 1, 1) := by decide +kernel
theorem dX1_become_1 : decode cX1_become 1 = .ok (.ifCond .lt 46, 3) := by decide +kernel
theorem dX1_become_4 : decode cX1_become 4 = .ok (.iload_n 1, 1) := by decide +kernel
theorem dX1_become_5 : decode cX1_become 5 = .ok (.aload_n 0, 1) := by decide +kernel
theorem dX1_become_6 : decode cX1_become 6 = .ok (.getfield 36, 3) := by decide +kernel
theorem dX1_become_9 : decode cX1_become 9 = .ok (.if_icmp .ge 38, 3) := by decide +kernel
theorem dX1_become_12 : decode cX1_become 12 = .ok (.aload_n 0, 1) := by decide +kernel
theorem dX1_become_13 : decode cX1_become 13 = .ok (.getfield 9, 3) := by decide +kernel
theorem dX1_become_16 : decode cX1_become 16 = .ok (.iload_n 1, 1) := by decide +kernel
theorem dX1_become_17 : decode cX1_become 17 = .ok (.iload_n 2, 1) := by decide +kernel
theorem dX1_become_18 : decode cX1_become 18 = .ok (.iastore, 1) := by decide +kernel
theorem dX1_become_19 : decode cX1_become 19 = .ok (.aload_n 0, 1) := by decide +kernel
theorem dX1_become_20 : decode cX1_become 20 = .ok (.getfield 15, 3) := by decide +kernel
theorem dX1_become_23 : decode cX1_become 23 = .ok (.iload_n 1, 1) := by decide +kernel
theorem dX1_become_24 : decode cX1_become 24 = .ok (.iload_n 3, 1) := by decide +kernel
theorem dX1_become_25 : decode cX1_become 25 = .ok (.iastore, 1) := by decide +kernel
theorem dX1_become_26 : decode cX1_become 26 = .ok (.aload_n 0, 1) := by decide +kernel
theorem dX1_become_27 : decode cX1_become 27 = .ok (.getfield 21, 3) := by decide +kernel
theorem dX1_become_30 : decode cX1_become 30 = .ok (.iload_n 1, 1) := by decide +kernel
theorem dX1_become_31 : decode cX1_become 31 = .ok (.iconst 0, 1) := by decide +kernel
theorem dX1_become_32 : decode cX1_become 32 = .ok (.iastore, 1) := by decide +kernel
theorem dX1_become_33 : decode cX1_become 33 = .ok (.aload_n 0, 1) := by decide +kernel
theorem dX1_become_34 : decode cX1_become 34 = .ok (.getfield 24, 3) := by decide +kernel
theorem dX1_become_37 : decode cX1_become 37 = .ok (.iload_n 1, 1) := by decide +kernel
theorem dX1_become_38 : decode cX1_become 38 = .ok (.iconst (-1), 1) := by decide +kernel
theorem dX1_become_39 : decode cX1_become 39 = .ok (.iastore, 1) := by decide +kernel
theorem dX1_become_40 : decode cX1_become 40 = .ok (.aload_n 0, 1) := by decide +kernel
theorem dX1_become_41 : decode cX1_become 41 = .ok (.getfield 27, 3) := by decide +kernel
theorem dX1_become_44 : decode cX1_become 44 = .ok (.iload_n 1, 1) := by decide +kernel
theorem dX1_become_45 : decode cX1_become 45 = .ok (.iconst (-1), 1) := by decide +kernel
theorem dX1_become_46 : decode cX1_become 46 = .ok (.iastore, 1) := by decide +kernel
theorem dX1_become_47 : decode cX1_become 47 = .ok (.return_, 1) := by decide +kernel
theorem dX1_link_0 : decode cX1_link 0 = .ok (.iload_n 1, 1) := by decide +kernel
theorem dX1_link_1 : decode cX1_link 1 = .ok (.ifCond .lt 37, 3) := by decide +kernel
theorem dX1_link_4 : decode cX1_link 4 = .ok (.iload_n 1, 1) := by decide +kernel
theorem dX1_link_5 : decode cX1_link 5 = .ok (.aload_n 0, 1) := by decide +kernel
theorem dX1_link_6 : decode cX1_link 6 = .ok (.getfield 36, 3) := by decide +kernel
theorem dX1_link_9 : decode cX1_link 9 = .ok (.if_icmp .ge 29, 3) := by decide +kernel
theorem dX1_link_12 : decode cX1_link 12 = .ok (.iload_n 2, 1) := by decide +kernel
theorem dX1_link_13 : decode cX1_link 13 = .ok (.ifCond .lt 25, 3) := by decide +kernel
theorem dX1_link_16 : decode cX1_link 16 = .ok (.iload_n 2, 1) := by decide +kernel
theorem dX1_link_17 : decode cX1_link 17 = .ok (.aload_n 0, 1) := by decide +kernel
theorem dX1_link_18 : decode cX1_link 18 = .ok (.getfield 36, 3) := by decide +kernel
theorem dX1_link_21 : decode cX1_link 21 = .ok (.if_icmp .ge 17, 3) := by decide +kernel
theorem dX1_link_24 : decode cX1_link 24 = .ok (.aload_n 0, 1) := by decide +kernel
theorem dX1_link_25 : decode cX1_link 25 = .ok (.getfield 30, 3) := by decide +kernel
theorem dX1_link_28 : decode cX1_link 28 = .ok (.iload_n 1, 1) := by decide +kernel
theorem dX1_link_29 : decode cX1_link 29 = .ok (.iload_n 2, 1) := by decide +kernel
theorem dX1_link_30 : decode cX1_link 30 = .ok (.iastore, 1) := by decide +kernel
theorem dX1_link_31 : decode cX1_link 31 = .ok (.aload_n 0, 1) := by decide +kernel
theorem dX1_link_32 : decode cX1_link 32 = .ok (.getfield 18, 3) := by decide +kernel
theorem dX1_link_35 : decode cX1_link 35 = .ok (.iload_n 2, 1) := by decide +kernel
theorem dX1_link_36 : decode cX1_link 36 = .ok (.iload_n 3, 1) := by decide +kernel
theorem dX1_link_37 : decode cX1_link 37 = .ok (.iastore, 1) := by decide +kernel
theorem dX1_link_38 : decode cX1_link 38 = .ok (.return_, 1) := by decide +kernel
theorem dX1_makeOf_0 : decode cX1_makeOf 0 = .ok (.aload_n 0, 1) := by decide +kernel
theorem dX1_makeOf_1 : decode cX1_makeOf 1 = .ok (.iload_n 1, 1) := by decide +kernel
theorem dX1_makeOf_2 : decode cX1_makeOf 2 = .ok (.iconst 0, 1) := by decide +kernel
theorem dX1_makeOf_3 : decode cX1_makeOf 3 = .ok (.invokevirtual 40, 3) := by decide +kernel
theorem dX1_makeOf_6 : decode cX1_makeOf 6 = .ok (.istore 5, 2) := by decide +kernel
theorem dX1_makeOf_8 : decode cX1_makeOf 8 = .ok (.iload 5, 2) := by decide +kernel
theorem dX1_makeOf_10 : decode cX1_makeOf 10 = .ok (.iconst (-1), 1) := by decide +kernel
theorem dX1_makeOf_11 : decode cX1_makeOf 11 = .ok (.if_icmp .eq 28, 3) := by decide +kernel
theorem dX1_makeOf_14 : decode cX1_makeOf 14 = .ok (.aload_n 0, 1) := by decide +kernel
theorem dX1_makeOf_15 : decode cX1_makeOf 15 = .ok (.getfield 24, 3) := by decide +kernel
theorem dX1_makeOf_18 : decode cX1_makeOf 18 = .ok (.iload 5, 2) := by decide +kernel
theorem dX1_makeOf_20 : decode cX1_makeOf 20 = .ok (.iload_n 2, 1) := by decide +kernel
theorem dX1_makeOf_21 : decode cX1_makeOf 21 = .ok (.iastore, 1) := by decide +kernel
theorem dX1_makeOf_22 : decode cX1_makeOf 22 = .ok (.aload_n 0, 1) := by decide +kernel
theorem dX1_makeOf_23 : decode cX1_makeOf 23 = .ok (.getfield 27, 3) := by decide +kernel
theorem dX1_makeOf_26 : decode cX1_makeOf 26 = .ok (.iload 5, 2) := by decide +kernel
theorem dX1_makeOf_28 : decode cX1_makeOf 28 = .ok (.iload_n 3, 1) := by decide +kernel
theorem dX1_makeOf_29 : decode cX1_makeOf 29 = .ok (.iastore, 1) := by decide +kernel
theorem dX1_makeOf_30 : decode cX1_makeOf 30 = .ok (.aload_n 0, 1) := by decide +kernel
theorem dX1_makeOf_31 : decode cX1_makeOf 31 = .ok (.getfield 21, 3) := by decide +kernel
theorem dX1_makeOf_34 : decode cX1_makeOf 34 = .ok (.iload 5, 2) := by decide +kernel
theorem dX1_makeOf_36 : decode cX1_makeOf 36 = .ok (.iload 4, 2) := by decide +kernel
theorem dX1_makeOf_38 : decode cX1_makeOf 38 = .ok (.iastore, 1) := by decide +kernel
theorem dX1_makeOf_39 : decode cX1_makeOf 39 = .ok (.iload 5, 2) := by decide +kernel
theorem dX1_makeOf_41 : decode cX1_makeOf 41 = .ok (.ireturn, 1) := by decide +kernel
theorem dX1_setValue_0 : decode cX1_setValue 0 = .ok (.iload_n 1, 1) := by decide +kernel
theorem dX1_setValue_1 : decode cX1_setValue 1 = .ok (.ifCond .lt 18, 3) := by decide +kernel
theorem dX1_setValue_4 : decode cX1_setValue 4 = .ok (.iload_n 1, 1) := by decide +kernel
theorem dX1_setValue_5 : decode cX1_setValue 5 = .ok (.aload_n 0, 1) := by decide +kernel
theorem dX1_setValue_6 : decode cX1_setValue 6 = .ok (.getfield 36, 3) := by decide +kernel
theorem dX1_setValue_9 : decode cX1_setValue 9 = .ok (.if_icmp .ge 10, 3) := by decide +kernel
theorem dX1_setValue_12 : decode cX1_setValue 12 = .ok (.aload_n 0, 1) := by decide +kernel
theorem dX1_setValue_13 : decode cX1_setValue 13 = .ok (.getfield 15, 3) := by decide +kernel
theorem dX1_setValue_16 : decode cX1_setValue 16 = .ok (.iload_n 1, 1) := by decide +kernel
theorem dX1_setValue_17 : decode cX1_setValue 17 = .ok (.iload_n 2, 1) := by decide +kernel
theorem dX1_setValue_18 : decode cX1_setValue 18 = .ok (.iastore, 1) := by decide +kernel
theorem dX1_setValue_19 : decode cX1_setValue 19 = .ok (.return_, 1) := by decide +kernel
theorem dX1_dropParts_0 : decode cX1_dropParts 0 = .ok (.iload_n 1, 1) := by decide +kernel
theorem dX1_dropParts_1 : decode cX1_dropParts 1 = .ok (.ifCond .lt 32, 3) := by decide +kernel
theorem dX1_dropParts_4 : decode cX1_dropParts 4 = .ok (.iload_n 1, 1) := by decide +kernel
theorem dX1_dropParts_5 : decode cX1_dropParts 5 = .ok (.aload_n 0, 1) := by decide +kernel
theorem dX1_dropParts_6 : decode cX1_dropParts 6 = .ok (.getfield 36, 3) := by decide +kernel
theorem dX1_dropParts_9 : decode cX1_dropParts 9 = .ok (.if_icmp .ge 24, 3) := by decide +kernel
theorem dX1_dropParts_12 : decode cX1_dropParts 12 = .ok (.aload_n 0, 1) := by decide +kernel
theorem dX1_dropParts_13 : decode cX1_dropParts 13 = .ok (.getfield 21, 3) := by decide +kernel
theorem dX1_dropParts_16 : decode cX1_dropParts 16 = .ok (.iload_n 1, 1) := by decide +kernel
theorem dX1_dropParts_17 : decode cX1_dropParts 17 = .ok (.iconst 0, 1) := by decide +kernel
theorem dX1_dropParts_18 : decode cX1_dropParts 18 = .ok (.iastore, 1) := by decide +kernel
theorem dX1_dropParts_19 : decode cX1_dropParts 19 = .ok (.aload_n 0, 1) := by decide +kernel
theorem dX1_dropParts_20 : decode cX1_dropParts 20 = .ok (.getfield 24, 3) := by decide +kernel
theorem dX1_dropParts_23 : decode cX1_dropParts 23 = .ok (.iload_n 1, 1) := by decide +kernel
theorem dX1_dropParts_24 : decode cX1_dropParts 24 = .ok (.iconst (-1), 1) := by decide +kernel
theorem dX1_dropParts_25 : decode cX1_dropParts 25 = .ok (.iastore, 1) := by decide +kernel
theorem dX1_dropParts_26 : decode cX1_dropParts 26 = .ok (.aload_n 0, 1) := by decide +kernel
theorem dX1_dropParts_27 : decode cX1_dropParts 27 = .ok (.getfield 27, 3) := by decide +kernel
theorem dX1_dropParts_30 : decode cX1_dropParts 30 = .ok (.iload_n 1, 1) := by decide +kernel
theorem dX1_dropParts_31 : decode cX1_dropParts 31 = .ok (.iconst (-1), 1) := by decide +kernel
theorem dX1_dropParts_32 : decode cX1_dropParts 32 = .ok (.iastore, 1) := by decide +kernel
theorem dX1_dropParts_33 : decode cX1_dropParts 33 = .ok (.return_, 1) := by decide +kernel
theorem dX1_append_0 : decode cX1_append 0 = .ok (.iload_n 1, 1) := by decide +kernel
theorem dX1_append_1 : decode cX1_append 1 = .ok (.ifCond .lt 23, 3) := by decide +kernel
theorem dX1_append_4 : decode cX1_append 4 = .ok (.iload_n 1, 1) := by decide +kernel
theorem dX1_append_5 : decode cX1_append 5 = .ok (.aload_n 0, 1) := by decide +kernel
theorem dX1_append_6 : decode cX1_append 6 = .ok (.getfield 36, 3) := by decide +kernel
theorem dX1_append_9 : decode cX1_append 9 = .ok (.if_icmp .ge 15, 3) := by decide +kernel
theorem dX1_append_12 : decode cX1_append 12 = .ok (.iload_n 2, 1) := by decide +kernel
theorem dX1_append_13 : decode cX1_append 13 = .ok (.ifCond .lt 11, 3) := by decide +kernel
theorem dX1_append_16 : decode cX1_append 16 = .ok (.iload_n 2, 1) := by decide +kernel
theorem dX1_append_17 : decode cX1_append 17 = .ok (.aload_n 0, 1) := by decide +kernel
theorem dX1_append_18 : decode cX1_append 18 = .ok (.getfield 36, 3) := by decide +kernel
theorem dX1_append_21 : decode cX1_append 21 = .ok (.if_icmp .lt 4, 3) := by decide +kernel
theorem dX1_append_24 : decode cX1_append 24 = .ok (.return_, 1) := by decide +kernel
theorem dX1_append_25 : decode cX1_append 25 = .ok (.aload_n 0, 1) := by decide +kernel
theorem dX1_append_26 : decode cX1_append 26 = .ok (.getfield 27, 3) := by decide +kernel
theorem dX1_append_29 : decode cX1_append 29 = .ok (.iload_n 1, 1) := by decide +kernel
theorem dX1_append_30 : decode cX1_append 30 = .ok (.iaload, 1) := by decide +kernel
theorem dX1_append_31 : decode cX1_append 31 = .ok (.istore 4, 2) := by decide +kernel
theorem dX1_append_33 : decode cX1_append 33 = .ok (.iload 4, 2) := by decide +kernel
theorem dX1_append_35 : decode cX1_append 35 = .ok (.ifCond .lt 23, 3) := by decide +kernel
theorem dX1_append_38 : decode cX1_append 38 = .ok (.iload 4, 2) := by decide +kernel
theorem dX1_append_40 : decode cX1_append 40 = .ok (.aload_n 0, 1) := by decide +kernel
theorem dX1_append_41 : decode cX1_append 41 = .ok (.getfield 36, 3) := by decide +kernel
theorem dX1_append_44 : decode cX1_append 44 = .ok (.if_icmp .ge 14, 3) := by decide +kernel
theorem dX1_append_47 : decode cX1_append 47 = .ok (.aload_n 0, 1) := by decide +kernel
theorem dX1_append_48 : decode cX1_append 48 = .ok (.getfield 30, 3) := by decide +kernel
theorem dX1_append_51 : decode cX1_append 51 = .ok (.iload 4, 2) := by decide +kernel
theorem dX1_append_53 : decode cX1_append 53 = .ok (.iload_n 2, 1) := by decide +kernel
theorem dX1_append_54 : decode cX1_append 54 = .ok (.iastore, 1) := by decide +kernel
theorem dX1_append_55 : decode cX1_append 55 = .ok (.goto 10, 3) := by decide +kernel
theorem dX1_append_58 : decode cX1_append 58 = .ok (.aload_n 0, 1) := by decide +kernel
theorem dX1_append_59 : decode cX1_append 59 = .ok (.getfield 24, 3) := by decide +kernel
theorem dX1_append_62 : decode cX1_append 62 = .ok (.iload_n 1, 1) := by decide +kernel
theorem dX1_append_63 : decode cX1_append 63 = .ok (.iload_n 2, 1) := by decide +kernel
theorem dX1_append_64 : decode cX1_append 64 = .ok (.iastore, 1) := by decide +kernel
theorem dX1_append_65 : decode cX1_append 65 = .ok (.aload_n 0, 1) := by decide +kernel
theorem dX1_append_66 : decode cX1_append 66 = .ok (.getfield 27, 3) := by decide +kernel
theorem dX1_append_69 : decode cX1_append 69 = .ok (.iload_n 1, 1) := by decide +kernel
theorem dX1_append_70 : decode cX1_append 70 = .ok (.iload_n 2, 1) := by decide +kernel
theorem dX1_append_71 : decode cX1_append 71 = .ok (.iastore, 1) := by decide +kernel
theorem dX1_append_72 : decode cX1_append 72 = .ok (.aload_n 0, 1) := by decide +kernel
theorem dX1_append_73 : decode cX1_append 73 = .ok (.getfield 30, 3) := by decide +kernel
theorem dX1_append_76 : decode cX1_append 76 = .ok (.iload_n 2, 1) := by decide +kernel
theorem dX1_append_77 : decode cX1_append 77 = .ok (.iconst (-1), 1) := by decide +kernel
theorem dX1_append_78 : decode cX1_append 78 = .ok (.iastore, 1) := by decide +kernel
theorem dX1_append_79 : decode cX1_append 79 = .ok (.aload_n 0, 1) := by decide +kernel
theorem dX1_append_80 : decode cX1_append 80 = .ok (.getfield 18, 3) := by decide +kernel
theorem dX1_append_83 : decode cX1_append 83 = .ok (.iload_n 2, 1) := by decide +kernel
theorem dX1_append_84 : decode cX1_append 84 = .ok (.iload_n 3, 1) := by decide +kernel
theorem dX1_append_85 : decode cX1_append 85 = .ok (.iastore, 1) := by decide +kernel
theorem dX1_append_86 : decode cX1_append 86 = .ok (.aload_n 0, 1) := by decide +kernel
theorem dX1_append_87 : decode cX1_append 87 = .ok (.getfield 21, 3) := by decide +kernel
theorem dX1_append_90 : decode cX1_append 90 = .ok (.iload_n 1, 1) := by decide +kernel
theorem dX1_append_91 : decode cX1_append 91 = .ok (.dup2, 1) := by decide +kernel
theorem dX1_append_92 : decode cX1_append 92 = .ok (.iaload, 1) := by decide +kernel
theorem dX1_append_93 : decode cX1_append 93 = .ok (.iconst 1, 1) := by decide +kernel
theorem dX1_append_94 : decode cX1_append 94 = .ok (.iadd, 1) := by decide +kernel
theorem dX1_append_95 : decode cX1_append 95 = .ok (.iastore, 1) := by decide +kernel
theorem dX1_append_96 : decode cX1_append 96 = .ok (.return_, 1) := by decide +kernel
theorem dX1_kindOf_0 : decode cX1_kindOf 0 = .ok (.iload_n 1, 1) := by decide +kernel
theorem dX1_kindOf_1 : decode cX1_kindOf 1 = .ok (.ifCond .lt 20, 3) := by decide +kernel
theorem dX1_kindOf_4 : decode cX1_kindOf 4 = .ok (.iload_n 1, 1) := by decide +kernel
theorem dX1_kindOf_5 : decode cX1_kindOf 5 = .ok (.aload_n 0, 1) := by decide +kernel
theorem dX1_kindOf_6 : decode cX1_kindOf 6 = .ok (.getfield 36, 3) := by decide +kernel
theorem dX1_kindOf_9 : decode cX1_kindOf 9 = .ok (.if_icmp .ge 12, 3) := by decide +kernel
theorem dX1_kindOf_12 : decode cX1_kindOf 12 = .ok (.aload_n 0, 1) := by decide +kernel
theorem dX1_kindOf_13 : decode cX1_kindOf 13 = .ok (.getfield 9, 3) := by decide +kernel
theorem dX1_kindOf_16 : decode cX1_kindOf 16 = .ok (.iload_n 1, 1) := by decide +kernel
theorem dX1_kindOf_17 : decode cX1_kindOf 17 = .ok (.iaload, 1) := by decide +kernel
theorem dX1_kindOf_18 : decode cX1_kindOf 18 = .ok (.goto 4, 3) := by decide +kernel
theorem dX1_kindOf_21 : decode cX1_kindOf 21 = .ok (.iconst (-1), 1) := by decide +kernel
theorem dX1_kindOf_22 : decode cX1_kindOf 22 = .ok (.ireturn, 1) := by decide +kernel
theorem dX1_valueOf_0 : decode cX1_valueOf 0 = .ok (.iload_n 1, 1) := by decide +kernel
theorem dX1_valueOf_1 : decode cX1_valueOf 1 = .ok (.ifCond .lt 20, 3) := by decide +kernel
theorem dX1_valueOf_4 : decode cX1_valueOf 4 = .ok (.iload_n 1, 1) := by decide +kernel
theorem dX1_valueOf_5 : decode cX1_valueOf 5 = .ok (.aload_n 0, 1) := by decide +kernel
theorem dX1_valueOf_6 : decode cX1_valueOf 6 = .ok (.getfield 36, 3) := by decide +kernel
theorem dX1_valueOf_9 : decode cX1_valueOf 9 = .ok (.if_icmp .ge 12, 3) := by decide +kernel
theorem dX1_valueOf_12 : decode cX1_valueOf 12 = .ok (.aload_n 0, 1) := by decide +kernel
theorem dX1_valueOf_13 : decode cX1_valueOf 13 = .ok (.getfield 15, 3) := by decide +kernel
theorem dX1_valueOf_16 : decode cX1_valueOf 16 = .ok (.iload_n 1, 1) := by decide +kernel
theorem dX1_valueOf_17 : decode cX1_valueOf 17 = .ok (.iaload, 1) := by decide +kernel
theorem dX1_valueOf_18 : decode cX1_valueOf 18 = .ok (.goto 4, 3) := by decide +kernel
theorem dX1_valueOf_21 : decode cX1_valueOf 21 = .ok (.iconst 0, 1) := by decide +kernel
theorem dX1_valueOf_22 : decode cX1_valueOf 22 = .ok (.ireturn, 1) := by decide +kernel
theorem dX1_signOf_0 : decode cX1_signOf 0 = .ok (.iload_n 1, 1) := by decide +kernel
theorem dX1_signOf_1 : decode cX1_signOf 1 = .ok (.ifCond .lt 20, 3) := by decide +kernel
theorem dX1_signOf_4 : decode cX1_signOf 4 = .ok (.iload_n 1, 1) := by decide +kernel
theorem dX1_signOf_5 : decode cX1_signOf 5 = .ok (.aload_n 0, 1) := by decide +kernel
theorem dX1_signOf_6 : decode cX1_signOf 6 = .ok (.getfield 36, 3) := by decide +kernel
theorem dX1_signOf_9 : decode cX1_signOf 9 = .ok (.if_icmp .ge 12, 3) := by decide +kernel
theorem dX1_signOf_12 : decode cX1_signOf 12 = .ok (.aload_n 0, 1) := by decide +kernel
theorem dX1_signOf_13 : decode cX1_signOf 13 = .ok (.getfield 18, 3) := by decide +kernel
theorem dX1_signOf_16 : decode cX1_signOf 16 = .ok (.iload_n 1, 1) := by decide +kernel
theorem dX1_signOf_17 : decode cX1_signOf 17 = .ok (.iaload, 1) := by decide +kernel
theorem dX1_signOf_18 : decode cX1_signOf 18 = .ok (.goto 4, 3) := by decide +kernel
theorem dX1_signOf_21 : decode cX1_signOf 21 = .ok (.iconst 1, 1) := by decide +kernel
theorem dX1_signOf_22 : decode cX1_signOf 22 = .ok (.ireturn, 1) := by decide +kernel
theorem dX1_partsOf_0 : decode cX1_partsOf 0 = .ok (.iload_n 1, 1) := by decide +kernel
theorem dX1_partsOf_1 : decode cX1_partsOf 1 = .ok (.ifCond .lt 20, 3) := by decide +kernel
theorem dX1_partsOf_4 : decode cX1_partsOf 4 = .ok (.iload_n 1, 1) := by decide +kernel
theorem dX1_partsOf_5 : decode cX1_partsOf 5 = .ok (.aload_n 0, 1) := by decide +kernel
theorem dX1_partsOf_6 : decode cX1_partsOf 6 = .ok (.getfield 36, 3) := by decide +kernel
theorem dX1_partsOf_9 : decode cX1_partsOf 9 = .ok (.if_icmp .ge 12, 3) := by decide +kernel
theorem dX1_partsOf_12 : decode cX1_partsOf 12 = .ok (.aload_n 0, 1) := by decide +kernel
theorem dX1_partsOf_13 : decode cX1_partsOf 13 = .ok (.getfield 21, 3) := by decide +kernel
theorem dX1_partsOf_16 : decode cX1_partsOf 16 = .ok (.iload_n 1, 1) := by decide +kernel
theorem dX1_partsOf_17 : decode cX1_partsOf 17 = .ok (.iaload, 1) := by decide +kernel
theorem dX1_partsOf_18 : decode cX1_partsOf 18 = .ok (.goto 4, 3) := by decide +kernel
theorem dX1_partsOf_21 : decode cX1_partsOf 21 = .ok (.iconst 0, 1) := by decide +kernel
theorem dX1_partsOf_22 : decode cX1_partsOf 22 = .ok (.ireturn, 1) := by decide +kernel
theorem dX1_firstOf_0 : decode cX1_firstOf 0 = .ok (.iload_n 1, 1) := by decide +kernel
theorem dX1_firstOf_1 : decode cX1_firstOf 1 = .ok (.ifCond .lt 20, 3) := by decide +kernel
theorem dX1_firstOf_4 : decode cX1_firstOf 4 = .ok (.iload_n 1, 1) := by decide +kernel
theorem dX1_firstOf_5 : decode cX1_firstOf 5 = .ok (.aload_n 0, 1) := by decide +kernel
theorem dX1_firstOf_6 : decode cX1_firstOf 6 = .ok (.getfield 36, 3) := by decide +kernel
theorem dX1_firstOf_9 : decode cX1_firstOf 9 = .ok (.if_icmp .ge 12, 3) := by decide +kernel
theorem dX1_firstOf_12 : decode cX1_firstOf 12 = .ok (.aload_n 0, 1) := by decide +kernel
theorem dX1_firstOf_13 : decode cX1_firstOf 13 = .ok (.getfield 24, 3) := by decide +kernel
theorem dX1_firstOf_16 : decode cX1_firstOf 16 = .ok (.iload_n 1, 1) := by decide +kernel
theorem dX1_firstOf_17 : decode cX1_firstOf 17 = .ok (.iaload, 1) := by decide +kernel
theorem dX1_firstOf_18 : decode cX1_firstOf 18 = .ok (.goto 4, 3) := by decide +kernel
theorem dX1_firstOf_21 : decode cX1_firstOf 21 = .ok (.iconst (-1), 1) := by decide +kernel
theorem dX1_firstOf_22 : decode cX1_firstOf 22 = .ok (.ireturn, 1) := by decide +kernel
theorem dX1_behind_0 : decode cX1_behind 0 = .ok (.iload_n 1, 1) := by decide +kernel
theorem dX1_behind_1 : decode cX1_behind 1 = .ok (.ifCond .lt 20, 3) := by decide +kernel
theorem dX1_behind_4 : decode cX1_behind 4 = .ok (.iload_n 1, 1) := by decide +kernel
theorem dX1_behind_5 : decode cX1_behind 5 = .ok (.aload_n 0, 1) := by decide +kernel
theorem dX1_behind_6 : decode cX1_behind 6 = .ok (.getfield 36, 3) := by decide +kernel
theorem dX1_behind_9 : decode cX1_behind 9 = .ok (.if_icmp .ge 12, 3) := by decide +kernel
theorem dX1_behind_12 : decode cX1_behind 12 = .ok (.aload_n 0, 1) := by decide +kernel
theorem dX1_behind_13 : decode cX1_behind 13 = .ok (.getfield 30, 3) := by decide +kernel
theorem dX1_behind_16 : decode cX1_behind 16 = .ok (.iload_n 1, 1) := by decide +kernel
theorem dX1_behind_17 : decode cX1_behind 17 = .ok (.iaload, 1) := by decide +kernel
theorem dX1_behind_18 : decode cX1_behind 18 = .ok (.goto 4, 3) := by decide +kernel
theorem dX1_behind_21 : decode cX1_behind 21 = .ok (.iconst (-1), 1) := by decide +kernel
theorem dX1_behind_22 : decode cX1_behind 22 = .ok (.ireturn, 1) := by decide +kernel
theorem dX1_say_0 : decode cX1_say 0 = .ok (.iload_n 2, 1) := by decide +kernel
theorem dX1_say_1 : decode cX1_say 1 = .ok (.ifCond .lt 18, 3) := by decide +kernel
theorem dX1_say_4 : decode cX1_say 4 = .ok (.iload_n 2, 1) := by decide +kernel
theorem dX1_say_5 : decode cX1_say 5 = .ok (.aload_n 1, 1) := by decide +kernel
theorem dX1_say_6 : decode cX1_say 6 = .ok (.getfield 36, 3) := by decide +kernel
theorem dX1_say_9 : decode cX1_say 9 = .ok (.if_icmp .ge 10, 3) := by decide +kernel
theorem dX1_say_12 : decode cX1_say 12 = .ok (.iload 4, 2) := by decide +kernel
theorem dX1_say_14 : decode cX1_say 14 = .ok (.bipush 40, 2) := by decide +kernel
theorem dX1_say_16 : decode cX1_say 16 = .ok (.if_icmp .le 5, 3) := by decide +kernel
theorem dX1_say_19 : decode cX1_say 19 = .ok (.iconst (-1), 1) := by decide +kernel
theorem dX1_say_20 : decode cX1_say 20 = .ok (.ireturn, 1) := by decide +kernel
theorem dX1_say_21 : decode cX1_say 21 = .ok (.aload_n 0, 1) := by decide +kernel
theorem dX1_say_22 : decode cX1_say 22 = .ok (.aload_n 1, 1) := by decide +kernel
theorem dX1_say_23 : decode cX1_say 23 = .ok (.iload_n 2, 1) := by decide +kernel
theorem dX1_say_24 : decode cX1_say 24 = .ok (.invokevirtual 44, 3) := by decide +kernel
theorem dX1_say_27 : decode cX1_say 27 = .ok (.aload_n 1, 1) := by decide +kernel
theorem dX1_say_28 : decode cX1_say 28 = .ok (.iload_n 2, 1) := by decide +kernel
theorem dX1_say_29 : decode cX1_say 29 = .ok (.invokevirtual 48, 3) := by decide +kernel
theorem dX1_say_32 : decode cX1_say 32 = .ok (.invokevirtual 40, 3) := by decide +kernel
theorem dX1_say_35 : decode cX1_say 35 = .ok (.istore 5, 2) := by decide +kernel
theorem dX1_say_37 : decode cX1_say 37 = .ok (.aload_n 1, 1) := by decide +kernel
theorem dX1_say_38 : decode cX1_say 38 = .ok (.iload_n 2, 1) := by decide +kernel
theorem dX1_say_39 : decode cX1_say 39 = .ok (.invokevirtual 51, 3) := by decide +kernel
theorem dX1_say_42 : decode cX1_say 42 = .ok (.istore 6, 2) := by decide +kernel
theorem dX1_say_44 : decode cX1_say 44 = .ok (.iconst 0, 1) := by decide +kernel
theorem dX1_say_45 : decode cX1_say 45 = .ok (.istore 7, 2) := by decide +kernel
theorem dX1_say_47 : decode cX1_say 47 = .ok (.iload 7, 2) := by decide +kernel
theorem dX1_say_49 : decode cX1_say 49 = .ok (.aload_n 1, 1) := by decide +kernel
theorem dX1_say_50 : decode cX1_say 50 = .ok (.iload_n 2, 1) := by decide +kernel
theorem dX1_say_51 : decode cX1_say 51 = .ok (.invokevirtual 54, 3) := by decide +kernel
theorem dX1_say_54 : decode cX1_say 54 = .ok (.if_icmp .ge 42, 3) := by decide +kernel
theorem dX1_say_57 : decode cX1_say 57 = .ok (.aload_n 0, 1) := by decide +kernel
theorem dX1_say_58 : decode cX1_say 58 = .ok (.iload 5, 2) := by decide +kernel
theorem dX1_say_60 : decode cX1_say 60 = .ok (.aload_n 0, 1) := by decide +kernel
theorem dX1_say_61 : decode cX1_say 61 = .ok (.aload_n 1, 1) := by decide +kernel
theorem dX1_say_62 : decode cX1_say 62 = .ok (.iload 6, 2) := by decide +kernel
theorem dX1_say_64 : decode cX1_say 64 = .ok (.iload_n 3, 1) := by decide +kernel
theorem dX1_say_65 : decode cX1_say 65 = .ok (.iload 4, 2) := by decide +kernel
theorem dX1_say_67 : decode cX1_say 67 = .ok (.iconst 1, 1) := by decide +kernel
theorem dX1_say_68 : decode cX1_say 68 = .ok (.iadd, 1) := by decide +kernel
theorem dX1_say_69 : decode cX1_say 69 = .ok (.invokevirtual 57, 3) := by decide +kernel
theorem dX1_say_72 : decode cX1_say 72 = .ok (.aload_n 1, 1) := by decide +kernel
theorem dX1_say_73 : decode cX1_say 73 = .ok (.iload 6, 2) := by decide +kernel
theorem dX1_say_75 : decode cX1_say 75 = .ok (.invokevirtual 61, 3) := by decide +kernel
theorem dX1_say_78 : decode cX1_say 78 = .ok (.iload_n 3, 1) := by decide +kernel
theorem dX1_say_79 : decode cX1_say 79 = .ok (.invokevirtual 64, 3) := by decide +kernel
theorem dX1_say_82 : decode cX1_say 82 = .ok (.aload_n 1, 1) := by decide +kernel
theorem dX1_say_83 : decode cX1_say 83 = .ok (.iload 6, 2) := by decide +kernel
theorem dX1_say_85 : decode cX1_say 85 = .ok (.invokevirtual 68, 3) := by decide +kernel
theorem dX1_say_88 : decode cX1_say 88 = .ok (.istore 6, 2) := by decide +kernel
theorem dX1_say_90 : decode cX1_say 90 = .ok (.iinc 7 1, 3) := by decide +kernel
theorem dX1_say_93 : decode cX1_say 93 = .ok (.goto (-46), 3) := by decide +kernel
theorem dX1_say_96 : decode cX1_say 96 = .ok (.aload_n 0, 1) := by decide +kernel
theorem dX1_say_97 : decode cX1_say 97 = .ok (.iload 5, 2) := by decide +kernel
theorem dX1_say_99 : decode cX1_say 99 = .ok (.iload_n 3, 1) := by decide +kernel
theorem dX1_say_100 : decode cX1_say 100 = .ok (.invokevirtual 71, 3) := by decide +kernel
theorem dX1_say_103 : decode cX1_say 103 = .ok (.ireturn, 1) := by decide +kernel
theorem dX1_adopt_0 : decode cX1_adopt 0 = .ok (.aload_n 0, 1) := by decide +kernel
theorem dX1_adopt_1 : decode cX1_adopt 1 = .ok (.iload_n 2, 1) := by decide +kernel
theorem dX1_adopt_2 : decode cX1_adopt 2 = .ok (.invokevirtual 44, 3) := by decide +kernel
theorem dX1_adopt_5 : decode cX1_adopt 5 = .ok (.istore 5, 2) := by decide +kernel
theorem dX1_adopt_7 : decode cX1_adopt 7 = .ok (.iload 5, 2) := by decide +kernel
theorem dX1_adopt_9 : decode cX1_adopt 9 = .ok (.iconst 2, 1) := by decide +kernel
theorem dX1_adopt_10 : decode cX1_adopt 10 = .ok (.if_icmp .ne 10, 3) := by decide +kernel
theorem dX1_adopt_13 : decode cX1_adopt 13 = .ok (.iload 4, 2) := by decide +kernel
theorem dX1_adopt_15 : decode cX1_adopt 15 = .ok (.iconst 1, 1) := by decide +kernel
theorem dX1_adopt_16 : decode cX1_adopt 16 = .ok (.iand, 1) := by decide +kernel
theorem dX1_adopt_17 : decode cX1_adopt 17 = .ok (.ifCond .ne 16, 3) := by decide +kernel
theorem dX1_adopt_20 : decode cX1_adopt 20 = .ok (.iload 5, 2) := by decide +kernel
theorem dX1_adopt_22 : decode cX1_adopt 22 = .ok (.iconst 3, 1) := by decide +kernel
theorem dX1_adopt_23 : decode cX1_adopt 23 = .ok (.if_icmp .ne 14, 3) := by decide +kernel
theorem dX1_adopt_26 : decode cX1_adopt 26 = .ok (.iload 4, 2) := by decide +kernel
theorem dX1_adopt_28 : decode cX1_adopt 28 = .ok (.iconst 2, 1) := by decide +kernel
theorem dX1_adopt_29 : decode cX1_adopt 29 = .ok (.iand, 1) := by decide +kernel
theorem dX1_adopt_30 : decode cX1_adopt 30 = .ok (.ifCond .eq 7, 3) := by decide +kernel
theorem dX1_adopt_33 : decode cX1_adopt 33 = .ok (.iconst 1, 1) := by decide +kernel
theorem dX1_adopt_34 : decode cX1_adopt 34 = .ok (.goto 4, 3) := by decide +kernel
theorem dX1_adopt_37 : decode cX1_adopt 37 = .ok (.iconst 0, 1) := by decide +kernel
theorem dX1_adopt_38 : decode cX1_adopt 38 = .ok (.istore 6, 2) := by decide +kernel
theorem dX1_adopt_40 : decode cX1_adopt 40 = .ok (.iload 6, 2) := by decide +kernel
theorem dX1_adopt_42 : decode cX1_adopt 42 = .ok (.ifCond .eq 13, 3) := by decide +kernel
theorem dX1_adopt_45 : decode cX1_adopt 45 = .ok (.aload_n 0, 1) := by decide +kernel
theorem dX1_adopt_46 : decode cX1_adopt 46 = .ok (.iload_n 1, 1) := by decide +kernel
theorem dX1_adopt_47 : decode cX1_adopt 47 = .ok (.invokevirtual 44, 3) := by decide +kernel
theorem dX1_adopt_50 : decode cX1_adopt 50 = .ok (.iload 5, 2) := by decide +kernel
theorem dX1_adopt_52 : decode cX1_adopt 52 = .ok (.if_icmp .eq 11, 3) := by decide +kernel
theorem dX1_adopt_55 : decode cX1_adopt 55 = .ok (.aload_n 0, 1) := by decide +kernel
theorem dX1_adopt_56 : decode cX1_adopt 56 = .ok (.iload_n 1, 1) := by decide +kernel
theorem dX1_adopt_57 : decode cX1_adopt 57 = .ok (.iload_n 2, 1) := by decide +kernel
theorem dX1_adopt_58 : decode cX1_adopt 58 = .ok (.iload_n 3, 1) := by decide +kernel
theorem dX1_adopt_59 : decode cX1_adopt 59 = .ok (.invokevirtual 74, 3) := by decide +kernel
theorem dX1_adopt_62 : decode cX1_adopt 62 = .ok (.return_, 1) := by decide +kernel
theorem dX1_adopt_63 : decode cX1_adopt 63 = .ok (.aload_n 0, 1) := by decide +kernel
theorem dX1_adopt_64 : decode cX1_adopt 64 = .ok (.iload_n 2, 1) := by decide +kernel
theorem dX1_adopt_65 : decode cX1_adopt 65 = .ok (.invokevirtual 54, 3) := by decide +kernel
theorem dX1_adopt_68 : decode cX1_adopt 68 = .ok (.istore 7, 2) := by decide +kernel
theorem dX1_adopt_70 : decode cX1_adopt 70 = .ok (.aload_n 0, 1) := by decide +kernel
theorem dX1_adopt_71 : decode cX1_adopt 71 = .ok (.iload_n 2, 1) := by decide +kernel
theorem dX1_adopt_72 : decode cX1_adopt 72 = .ok (.invokevirtual 51, 3) := by decide +kernel
theorem dX1_adopt_75 : decode cX1_adopt 75 = .ok (.istore 8, 2) := by decide +kernel
theorem dX1_adopt_77 : decode cX1_adopt 77 = .ok (.iconst 0, 1) := by decide +kernel
theorem dX1_adopt_78 : decode cX1_adopt 78 = .ok (.istore 9, 2) := by decide +kernel
theorem dX1_adopt_80 : decode cX1_adopt 80 = .ok (.iload 9, 2) := by decide +kernel
theorem dX1_adopt_82 : decode cX1_adopt 82 = .ok (.iload 7, 2) := by decide +kernel
theorem dX1_adopt_84 : decode cX1_adopt 84 = .ok (.if_icmp .ge 36, 3) := by decide +kernel
theorem dX1_adopt_87 : decode cX1_adopt 87 = .ok (.aload_n 0, 1) := by decide +kernel
theorem dX1_adopt_88 : decode cX1_adopt 88 = .ok (.iload 8, 2) := by decide +kernel
theorem dX1_adopt_90 : decode cX1_adopt 90 = .ok (.invokevirtual 68, 3) := by decide +kernel
theorem dX1_adopt_93 : decode cX1_adopt 93 = .ok (.istore 10, 2) := by decide +kernel
theorem dX1_adopt_95 : decode cX1_adopt 95 = .ok (.aload_n 0, 1) := by decide +kernel
theorem dX1_adopt_96 : decode cX1_adopt 96 = .ok (.iload_n 1, 1) := by decide +kernel
theorem dX1_adopt_97 : decode cX1_adopt 97 = .ok (.iload 8, 2) := by decide +kernel
theorem dX1_adopt_99 : decode cX1_adopt 99 = .ok (.iload_n 3, 1) := by decide +kernel
theorem dX1_adopt_100 : decode cX1_adopt 100 = .ok (.aload_n 0, 1) := by decide +kernel
theorem dX1_adopt_101 : decode cX1_adopt 101 = .ok (.iload 8, 2) := by decide +kernel
theorem dX1_adopt_103 : decode cX1_adopt 103 = .ok (.invokevirtual 61, 3) := by decide +kernel
theorem dX1_adopt_106 : decode cX1_adopt 106 = .ok (.imul, 1) := by decide +kernel
theorem dX1_adopt_107 : decode cX1_adopt 107 = .ok (.invokevirtual 74, 3) := by decide +kernel
theorem dX1_adopt_110 : decode cX1_adopt 110 = .ok (.iload 10, 2) := by decide +kernel
theorem dX1_adopt_112 : decode cX1_adopt 112 = .ok (.istore 8, 2) := by decide +kernel
theorem dX1_adopt_114 : decode cX1_adopt 114 = .ok (.iinc 9 1, 3) := by decide +kernel
theorem dX1_adopt_117 : decode cX1_adopt 117 = .ok (.goto (-37), 3) := by decide +kernel
theorem dX1_adopt_120 : decode cX1_adopt 120 = .ok (.return_, 1) := by decide +kernel
theorem dX1_change_0 : decode cX1_change 0 = .ok (.aload_n 0, 1) := by decide +kernel
theorem dX1_change_1 : decode cX1_change 1 = .ok (.iload_n 1, 1) := by decide +kernel
theorem dX1_change_2 : decode cX1_change 2 = .ok (.invokevirtual 44, 3) := by decide +kernel
theorem dX1_change_5 : decode cX1_change 5 = .ok (.tableswitch 150 2 10 #[51, 80, 150, 150, 110, 110, 121, 121, 143], 51) := by decide +kernel
theorem dX1_change_56 : decode cX1_change 56 = .ok (.aload_n 0, 1) := by decide +kernel
theorem dX1_change_57 : decode cX1_change 57 = .ok (.iload_n 1, 1) := by decide +kernel
theorem dX1_change_58 : decode cX1_change 58 = .ok (.iconst 0, 1) := by decide +kernel
theorem dX1_change_59 : decode cX1_change 59 = .ok (.iload_n 2, 1) := by decide +kernel
theorem dX1_change_60 : decode cX1_change 60 = .ok (.iconst 4, 1) := by decide +kernel
theorem dX1_change_61 : decode cX1_change 61 = .ok (.iand, 1) := by decide +kernel
theorem dX1_change_62 : decode cX1_change 62 = .ok (.invokevirtual 78, 3) := by decide +kernel
theorem dX1_change_65 : decode cX1_change 65 = .ok (.aload_n 0, 1) := by decide +kernel
theorem dX1_change_66 : decode cX1_change 66 = .ok (.iload_n 1, 1) := by decide +kernel
theorem dX1_change_67 : decode cX1_change 67 = .ok (.iload_n 2, 1) := by decide +kernel
theorem dX1_change_68 : decode cX1_change 68 = .ok (.invokevirtual 81, 3) := by decide +kernel
theorem dX1_change_71 : decode cX1_change 71 = .ok (.aload_n 0, 1) := by decide +kernel
theorem dX1_change_72 : decode cX1_change 72 = .ok (.iload_n 1, 1) := by decide +kernel
theorem dX1_change_73 : decode cX1_change 73 = .ok (.iload_n 2, 1) := by decide +kernel
theorem dX1_change_74 : decode cX1_change 74 = .ok (.iconst 1, 1) := by decide +kernel
theorem dX1_change_75 : decode cX1_change 75 = .ok (.iand, 1) := by decide +kernel
theorem dX1_change_76 : decode cX1_change 76 = .ok (.invokevirtual 85, 3) := by decide +kernel
theorem dX1_change_79 : decode cX1_change 79 = .ok (.aload_n 0, 1) := by decide +kernel
theorem dX1_change_80 : decode cX1_change 80 = .ok (.iload_n 1, 1) := by decide +kernel
theorem dX1_change_81 : decode cX1_change 81 = .ok (.invokevirtual 88, 3) := by decide +kernel
theorem dX1_change_84 : decode cX1_change 84 = .ok (.ireturn, 1) := by decide +kernel
theorem dX1_change_85 : decode cX1_change 85 = .ok (.aload_n 0, 1) := by decide +kernel
theorem dX1_change_86 : decode cX1_change 86 = .ok (.iload_n 1, 1) := by decide +kernel
theorem dX1_change_87 : decode cX1_change 87 = .ok (.iconst 1, 1) := by decide +kernel
theorem dX1_change_88 : decode cX1_change 88 = .ok (.iload_n 2, 1) := by decide +kernel
theorem dX1_change_89 : decode cX1_change 89 = .ok (.bipush 8, 2) := by decide +kernel
theorem dX1_change_91 : decode cX1_change 91 = .ok (.iand, 1) := by decide +kernel
theorem dX1_change_92 : decode cX1_change 92 = .ok (.invokevirtual 78, 3) := by decide +kernel
theorem dX1_change_95 : decode cX1_change 95 = .ok (.aload_n 0, 1) := by decide +kernel
theorem dX1_change_96 : decode cX1_change 96 = .ok (.iload_n 1, 1) := by decide +kernel
theorem dX1_change_97 : decode cX1_change 97 = .ok (.iload_n 2, 1) := by decide +kernel
theorem dX1_change_98 : decode cX1_change 98 = .ok (.invokevirtual 81, 3) := by decide +kernel
theorem dX1_change_101 : decode cX1_change 101 = .ok (.aload_n 0, 1) := by decide +kernel
theorem dX1_change_102 : decode cX1_change 102 = .ok (.iload_n 1, 1) := by decide +kernel
theorem dX1_change_103 : decode cX1_change 103 = .ok (.iload_n 2, 1) := by decide +kernel
theorem dX1_change_104 : decode cX1_change 104 = .ok (.iconst 2, 1) := by decide +kernel
theorem dX1_change_105 : decode cX1_change 105 = .ok (.iand, 1) := by decide +kernel
theorem dX1_change_106 : decode cX1_change 106 = .ok (.invokevirtual 85, 3) := by decide +kernel
theorem dX1_change_109 : decode cX1_change 109 = .ok (.aload_n 0, 1) := by decide +kernel
theorem dX1_change_110 : decode cX1_change 110 = .ok (.iload_n 1, 1) := by decide +kernel
theorem dX1_change_111 : decode cX1_change 111 = .ok (.invokevirtual 88, 3) := by decide +kernel
theorem dX1_change_114 : decode cX1_change 114 = .ok (.ireturn, 1) := by decide +kernel
theorem dX1_change_115 : decode cX1_change 115 = .ok (.aload_n 0, 1) := by decide +kernel
theorem dX1_change_116 : decode cX1_change 116 = .ok (.iload_n 1, 1) := by decide +kernel
theorem dX1_change_117 : decode cX1_change 117 = .ok (.iload_n 2, 1) := by decide +kernel
theorem dX1_change_118 : decode cX1_change 118 = .ok (.bipush 16, 2) := by decide +kernel
theorem dX1_change_120 : decode cX1_change 120 = .ok (.iand, 1) := by decide +kernel
theorem dX1_change_121 : decode cX1_change 121 = .ok (.invokevirtual 85, 3) := by decide +kernel
theorem dX1_change_124 : decode cX1_change 124 = .ok (.iload_n 1, 1) := by decide +kernel
theorem dX1_change_125 : decode cX1_change 125 = .ok (.ireturn, 1) := by decide +kernel
theorem dX1_change_126 : decode cX1_change 126 = .ok (.aload_n 0, 1) := by decide +kernel
theorem dX1_change_127 : decode cX1_change 127 = .ok (.iload_n 1, 1) := by decide +kernel
theorem dX1_change_128 : decode cX1_change 128 = .ok (.iload_n 2, 1) := by decide +kernel
theorem dX1_change_129 : decode cX1_change 129 = .ok (.invokevirtual 81, 3) := by decide +kernel
theorem dX1_change_132 : decode cX1_change 132 = .ok (.aload_n 0, 1) := by decide +kernel
theorem dX1_change_133 : decode cX1_change 133 = .ok (.iload_n 1, 1) := by decide +kernel
theorem dX1_change_134 : decode cX1_change 134 = .ok (.iload_n 2, 1) := by decide +kernel
theorem dX1_change_135 : decode cX1_change 135 = .ok (.bipush 32, 2) := by decide +kernel
theorem dX1_change_137 : decode cX1_change 137 = .ok (.iand, 1) := by decide +kernel
theorem dX1_change_138 : decode cX1_change 138 = .ok (.invokevirtual 85, 3) := by decide +kernel
theorem dX1_change_141 : decode cX1_change 141 = .ok (.aload_n 0, 1) := by decide +kernel
theorem dX1_change_142 : decode cX1_change 142 = .ok (.iload_n 1, 1) := by decide +kernel
theorem dX1_change_143 : decode cX1_change 143 = .ok (.iload_n 2, 1) := by decide +kernel
theorem dX1_change_144 : decode cX1_change 144 = .ok (.invokevirtual 91, 3) := by decide +kernel
theorem dX1_change_147 : decode cX1_change 147 = .ok (.ireturn, 1) := by decide +kernel
theorem dX1_change_148 : decode cX1_change 148 = .ok (.aload_n 0, 1) := by decide +kernel
theorem dX1_change_149 : decode cX1_change 149 = .ok (.iload_n 1, 1) := by decide +kernel
theorem dX1_change_150 : decode cX1_change 150 = .ok (.iload_n 2, 1) := by decide +kernel
theorem dX1_change_151 : decode cX1_change 151 = .ok (.invokevirtual 94, 3) := by decide +kernel
theorem dX1_change_154 : decode cX1_change 154 = .ok (.ireturn, 1) := by decide +kernel
theorem dX1_change_155 : decode cX1_change 155 = .ok (.iload_n 1, 1) := by decide +kernel
theorem dX1_change_156 : decode cX1_change 156 = .ok (.ireturn, 1) := by decide +kernel
theorem dX1_aloneOr_0 : decode cX1_aloneOr 0 = .ok (.aload_n 0, 1) := by decide +kernel
theorem dX1_aloneOr_1 : decode cX1_aloneOr 1 = .ok (.iload_n 1, 1) := by decide +kernel
theorem dX1_aloneOr_2 : decode cX1_aloneOr 2 = .ok (.invokevirtual 51, 3) := by decide +kernel
theorem dX1_aloneOr_5 : decode cX1_aloneOr 5 = .ok (.istore_n 2, 1) := by decide +kernel
theorem dX1_aloneOr_6 : decode cX1_aloneOr 6 = .ok (.aload_n 0, 1) := by decide +kernel
theorem dX1_aloneOr_7 : decode cX1_aloneOr 7 = .ok (.iload_n 1, 1) := by decide +kernel
theorem dX1_aloneOr_8 : decode cX1_aloneOr 8 = .ok (.invokevirtual 54, 3) := by decide +kernel
theorem dX1_aloneOr_11 : decode cX1_aloneOr 11 = .ok (.iconst 1, 1) := by decide +kernel
theorem dX1_aloneOr_12 : decode cX1_aloneOr 12 = .ok (.if_icmp .ne 15, 3) := by decide +kernel
theorem dX1_aloneOr_15 : decode cX1_aloneOr 15 = .ok (.aload_n 0, 1) := by decide +kernel
theorem dX1_aloneOr_16 : decode cX1_aloneOr 16 = .ok (.iload_n 2, 1) := by decide +kernel
theorem dX1_aloneOr_17 : decode cX1_aloneOr 17 = .ok (.invokevirtual 61, 3) := by decide +kernel
theorem dX1_aloneOr_20 : decode cX1_aloneOr 20 = .ok (.ifCond .le 7, 3) := by decide +kernel
theorem dX1_aloneOr_23 : decode cX1_aloneOr 23 = .ok (.iload_n 2, 1) := by decide +kernel
theorem dX1_aloneOr_24 : decode cX1_aloneOr 24 = .ok (.goto 4, 3) := by decide +kernel
theorem dX1_aloneOr_27 : decode cX1_aloneOr 27 = .ok (.iload_n 1, 1) := by decide +kernel
theorem dX1_aloneOr_28 : decode cX1_aloneOr 28 = .ok (.ireturn, 1) := by decide +kernel
theorem dX1_leaveOut_0 : decode cX1_leaveOut 0 = .ok (.iload_n 3, 1) := by decide +kernel
theorem dX1_leaveOut_1 : decode cX1_leaveOut 1 = .ok (.ifCond .ne 4, 3) := by decide +kernel
theorem dX1_leaveOut_4 : decode cX1_leaveOut 4 = .ok (.return_, 1) := by decide +kernel
theorem dX1_leaveOut_5 : decode cX1_leaveOut 5 = .ok (.aload_n 0, 1) := by decide +kernel
theorem dX1_leaveOut_6 : decode cX1_leaveOut 6 = .ok (.iload_n 1, 1) := by decide +kernel
theorem dX1_leaveOut_7 : decode cX1_leaveOut 7 = .ok (.invokevirtual 97, 3) := by decide +kernel
theorem dX1_leaveOut_10 : decode cX1_leaveOut 10 = .ok (.istore 4, 2) := by decide +kernel
theorem dX1_leaveOut_12 : decode cX1_leaveOut 12 = .ok (.aload_n 0, 1) := by decide +kernel
theorem dX1_leaveOut_13 : decode cX1_leaveOut 13 = .ok (.iload_n 1, 1) := by decide +kernel
theorem dX1_leaveOut_14 : decode cX1_leaveOut 14 = .ok (.invokevirtual 100, 3) := by decide +kernel
theorem dX1_leaveOut_17 : decode cX1_leaveOut 17 = .ok (.iconst 0, 1) := by decide +kernel
theorem dX1_leaveOut_18 : decode cX1_leaveOut 18 = .ok (.istore 5, 2) := by decide +kernel
theorem dX1_leaveOut_20 : decode cX1_leaveOut 20 = .ok (.iload 5, 2) := by decide +kernel
theorem dX1_leaveOut_22 : decode cX1_leaveOut 22 = .ok (.iload 4, 2) := by decide +kernel
theorem dX1_leaveOut_24 : decode cX1_leaveOut 24 = .ok (.if_icmp .ge 61, 3) := by decide +kernel
theorem dX1_leaveOut_27 : decode cX1_leaveOut 27 = .ok (.aload_n 0, 1) := by decide +kernel
theorem dX1_leaveOut_28 : decode cX1_leaveOut 28 = .ok (.aload_n 0, 1) := by decide +kernel
theorem dX1_leaveOut_29 : decode cX1_leaveOut 29 = .ok (.getfield 33, 3) := by decide +kernel
theorem dX1_leaveOut_32 : decode cX1_leaveOut 32 = .ok (.iload 5, 2) := by decide +kernel
theorem dX1_leaveOut_34 : decode cX1_leaveOut 34 = .ok (.iaload, 1) := by decide +kernel
theorem dX1_leaveOut_35 : decode cX1_leaveOut 35 = .ok (.invokevirtual 44, 3) := by decide +kernel
theorem dX1_leaveOut_38 : decode cX1_leaveOut 38 = .ok (.ifCond .ne 18, 3) := by decide +kernel
theorem dX1_leaveOut_41 : decode cX1_leaveOut 41 = .ok (.aload_n 0, 1) := by decide +kernel
theorem dX1_leaveOut_42 : decode cX1_leaveOut 42 = .ok (.aload_n 0, 1) := by decide +kernel
theorem dX1_leaveOut_43 : decode cX1_leaveOut 43 = .ok (.getfield 33, 3) := by decide +kernel
theorem dX1_leaveOut_46 : decode cX1_leaveOut 46 = .ok (.iload 5, 2) := by decide +kernel
theorem dX1_leaveOut_48 : decode cX1_leaveOut 48 = .ok (.iaload, 1) := by decide +kernel
theorem dX1_leaveOut_49 : decode cX1_leaveOut 49 = .ok (.invokevirtual 48, 3) := by decide +kernel
theorem dX1_leaveOut_52 : decode cX1_leaveOut 52 = .ok (.iload_n 2, 1) := by decide +kernel
theorem dX1_leaveOut_53 : decode cX1_leaveOut 53 = .ok (.if_icmp .eq 26, 3) := by decide +kernel
theorem dX1_leaveOut_56 : decode cX1_leaveOut 56 = .ok (.aload_n 0, 1) := by decide +kernel
theorem dX1_leaveOut_57 : decode cX1_leaveOut 57 = .ok (.iload_n 1, 1) := by decide +kernel
theorem dX1_leaveOut_58 : decode cX1_leaveOut 58 = .ok (.aload_n 0, 1) := by decide +kernel
theorem dX1_leaveOut_59 : decode cX1_leaveOut 59 = .ok (.getfield 33, 3) := by decide +kernel
theorem dX1_leaveOut_62 : decode cX1_leaveOut 62 = .ok (.iload 5, 2) := by decide +kernel
theorem dX1_leaveOut_64 : decode cX1_leaveOut 64 = .ok (.iaload, 1) := by decide +kernel
theorem dX1_leaveOut_65 : decode cX1_leaveOut 65 = .ok (.aload_n 0, 1) := by decide +kernel
theorem dX1_leaveOut_66 : decode cX1_leaveOut 66 = .ok (.aload_n 0, 1) := by decide +kernel
theorem dX1_leaveOut_67 : decode cX1_leaveOut 67 = .ok (.getfield 33, 3) := by decide +kernel
theorem dX1_leaveOut_70 : decode cX1_leaveOut 70 = .ok (.iload 5, 2) := by decide +kernel
theorem dX1_leaveOut_72 : decode cX1_leaveOut 72 = .ok (.iaload, 1) := by decide +kernel
theorem dX1_leaveOut_73 : decode cX1_leaveOut 73 = .ok (.invokevirtual 61, 3) := by decide +kernel
theorem dX1_leaveOut_76 : decode cX1_leaveOut 76 = .ok (.invokevirtual 74, 3) := by decide +kernel
theorem dX1_leaveOut_79 : decode cX1_leaveOut 79 = .ok (.iinc 5 1, 3) := by decide +kernel
theorem dX1_leaveOut_82 : decode cX1_leaveOut 82 = .ok (.goto (-62), 3) := by decide +kernel
theorem dX1_leaveOut_85 : decode cX1_leaveOut 85 = .ok (.aload_n 0, 1) := by decide +kernel
theorem dX1_leaveOut_86 : decode cX1_leaveOut 86 = .ok (.iload_n 1, 1) := by decide +kernel
theorem dX1_leaveOut_87 : decode cX1_leaveOut 87 = .ok (.invokevirtual 54, 3) := by decide +kernel
theorem dX1_leaveOut_90 : decode cX1_leaveOut 90 = .ok (.ifCond .ne 10, 3) := by decide +kernel
theorem dX1_leaveOut_93 : decode cX1_leaveOut 93 = .ok (.aload_n 0, 1) := by decide +kernel
theorem dX1_leaveOut_94 : decode cX1_leaveOut 94 = .ok (.iload_n 1, 1) := by decide +kernel
theorem dX1_leaveOut_95 : decode cX1_leaveOut 95 = .ok (.iconst 0, 1) := by decide +kernel
theorem dX1_leaveOut_96 : decode cX1_leaveOut 96 = .ok (.iload_n 2, 1) := by decide +kernel
theorem dX1_leaveOut_97 : decode cX1_leaveOut 97 = .ok (.invokevirtual 104, 3) := by decide +kernel
theorem dX1_leaveOut_100 : decode cX1_leaveOut 100 = .ok (.return_, 1) := by decide +kernel
theorem dX1_collectParts_0 : decode cX1_collectParts 0 = .ok (.aload_n 0, 1) := by decide +kernel
theorem dX1_collectParts_1 : decode cX1_collectParts 1 = .ok (.iload_n 1, 1) := by decide +kernel
theorem dX1_collectParts_2 : decode cX1_collectParts 2 = .ok (.invokevirtual 54, 3) := by decide +kernel
theorem dX1_collectParts_5 : decode cX1_collectParts 5 = .ok (.aload_n 0, 1) := by decide +kernel
theorem dX1_collectParts_6 : decode cX1_collectParts 6 = .ok (.getfield 33, 3) := by decide +kernel
theorem dX1_collectParts_9 : decode cX1_collectParts 9 = .ok (.arraylength, 1) := by decide +kernel
theorem dX1_collectParts_10 : decode cX1_collectParts 10 = .ok (.invokestatic 107, 3) := by decide +kernel
theorem dX1_collectParts_13 : decode cX1_collectParts 13 = .ok (.istore_n 2, 1) := by decide +kernel
theorem dX1_collectParts_14 : decode cX1_collectParts 14 = .ok (.aload_n 0, 1) := by decide +kernel
theorem dX1_collectParts_15 : decode cX1_collectParts 15 = .ok (.iload_n 1, 1) := by decide +kernel
theorem dX1_collectParts_16 : decode cX1_collectParts 16 = .ok (.invokevirtual 51, 3) := by decide +kernel
theorem dX1_collectParts_19 : decode cX1_collectParts 19 = .ok (.istore_n 3, 1) := by decide +kernel
theorem dX1_collectParts_20 : decode cX1_collectParts 20 = .ok (.iconst 0, 1) := by decide +kernel
theorem dX1_collectParts_21 : decode cX1_collectParts 21 = .ok (.istore 4, 2) := by decide +kernel
theorem dX1_collectParts_23 : decode cX1_collectParts 23 = .ok (.iload 4, 2) := by decide +kernel
theorem dX1_collectParts_25 : decode cX1_collectParts 25 = .ok (.iload_n 2, 1) := by decide +kernel
theorem dX1_collectParts_26 : decode cX1_collectParts 26 = .ok (.if_icmp .ge 23, 3) := by decide +kernel
theorem dX1_collectParts_29 : decode cX1_collectParts 29 = .ok (.aload_n 0, 1) := by decide +kernel
theorem dX1_collectParts_30 : decode cX1_collectParts 30 = .ok (.getfield 33, 3) := by decide +kernel
theorem dX1_collectParts_33 : decode cX1_collectParts 33 = .ok (.iload 4, 2) := by decide +kernel
theorem dX1_collectParts_35 : decode cX1_collectParts 35 = .ok (.iload_n 3, 1) := by decide +kernel
theorem dX1_collectParts_36 : decode cX1_collectParts 36 = .ok (.iastore, 1) := by decide +kernel
theorem dX1_collectParts_37 : decode cX1_collectParts 37 = .ok (.aload_n 0, 1) := by decide +kernel
theorem dX1_collectParts_38 : decode cX1_collectParts 38 = .ok (.iload_n 3, 1) := by decide +kernel
theorem dX1_collectParts_39 : decode cX1_collectParts 39 = .ok (.invokevirtual 68, 3) := by decide +kernel
theorem dX1_collectParts_42 : decode cX1_collectParts 42 = .ok (.istore_n 3, 1) := by decide +kernel
theorem dX1_collectParts_43 : decode cX1_collectParts 43 = .ok (.iinc 4 1, 3) := by decide +kernel
theorem dX1_collectParts_46 : decode cX1_collectParts 46 = .ok (.goto (-23), 3) := by decide +kernel
theorem dX1_collectParts_49 : decode cX1_collectParts 49 = .ok (.iload_n 2, 1) := by decide +kernel
theorem dX1_collectParts_50 : decode cX1_collectParts 50 = .ok (.ireturn, 1) := by decide +kernel
theorem dX1_chainParts_0 : decode cX1_chainParts 0 = .ok (.aload_n 0, 1) := by decide +kernel
theorem dX1_chainParts_1 : decode cX1_chainParts 1 = .ok (.iload_n 1, 1) := by decide +kernel
theorem dX1_chainParts_2 : decode cX1_chainParts 2 = .ok (.invokevirtual 100, 3) := by decide +kernel
theorem dX1_chainParts_5 : decode cX1_chainParts 5 = .ok (.iconst 0, 1) := by decide +kernel
theorem dX1_chainParts_6 : decode cX1_chainParts 6 = .ok (.istore_n 3, 1) := by decide +kernel
theorem dX1_chainParts_7 : decode cX1_chainParts 7 = .ok (.iload_n 3, 1) := by decide +kernel
theorem dX1_chainParts_8 : decode cX1_chainParts 8 = .ok (.iload_n 2, 1) := by decide +kernel
theorem dX1_chainParts_9 : decode cX1_chainParts 9 = .ok (.if_icmp .ge 39, 3) := by decide +kernel
theorem dX1_chainParts_12 : decode cX1_chainParts 12 = .ok (.iload_n 3, 1) := by decide +kernel
theorem dX1_chainParts_13 : decode cX1_chainParts 13 = .ok (.aload_n 0, 1) := by decide +kernel
theorem dX1_chainParts_14 : decode cX1_chainParts 14 = .ok (.getfield 33, 3) := by decide +kernel
theorem dX1_chainParts_17 : decode cX1_chainParts 17 = .ok (.arraylength, 1) := by decide +kernel
theorem dX1_chainParts_18 : decode cX1_chainParts 18 = .ok (.if_icmp .ge 30, 3) := by decide +kernel
theorem dX1_chainParts_21 : decode cX1_chainParts 21 = .ok (.aload_n 0, 1) := by decide +kernel
theorem dX1_chainParts_22 : decode cX1_chainParts 22 = .ok (.iload_n 1, 1) := by decide +kernel
theorem dX1_chainParts_23 : decode cX1_chainParts 23 = .ok (.aload_n 0, 1) := by decide +kernel
theorem dX1_chainParts_24 : decode cX1_chainParts 24 = .ok (.getfield 33, 3) := by decide +kernel
theorem dX1_chainParts_27 : decode cX1_chainParts 27 = .ok (.iload_n 3, 1) := by decide +kernel
theorem dX1_chainParts_28 : decode cX1_chainParts 28 = .ok (.iaload, 1) := by decide +kernel
theorem dX1_chainParts_29 : decode cX1_chainParts 29 = .ok (.aload_n 0, 1) := by decide +kernel
theorem dX1_chainParts_30 : decode cX1_chainParts 30 = .ok (.aload_n 0, 1) := by decide +kernel
theorem dX1_chainParts_31 : decode cX1_chainParts 31 = .ok (.getfield 33, 3) := by decide +kernel
theorem dX1_chainParts_34 : decode cX1_chainParts 34 = .ok (.iload_n 3, 1) := by decide +kernel
theorem dX1_chainParts_35 : decode cX1_chainParts 35 = .ok (.iaload, 1) := by decide +kernel
theorem dX1_chainParts_36 : decode cX1_chainParts 36 = .ok (.invokevirtual 61, 3) := by decide +kernel
theorem dX1_chainParts_39 : decode cX1_chainParts 39 = .ok (.invokevirtual 74, 3) := by decide +kernel
theorem dX1_chainParts_42 : decode cX1_chainParts 42 = .ok (.iinc 3 1, 3) := by decide +kernel
theorem dX1_chainParts_45 : decode cX1_chainParts 45 = .ok (.goto (-38), 3) := by decide +kernel
theorem dX1_chainParts_48 : decode cX1_chainParts 48 = .ok (.return_, 1) := by decide +kernel
theorem dX1_workNumbers_0 : decode cX1_workNumbers 0 = .ok (.aload_n 0, 1) := by decide +kernel
theorem dX1_workNumbers_1 : decode cX1_workNumbers 1 = .ok (.iload_n 1, 1) := by decide +kernel
theorem dX1_workNumbers_2 : decode cX1_workNumbers 2 = .ok (.invokevirtual 44, 3) := by decide +kernel
theorem dX1_workNumbers_5 : decode cX1_workNumbers 5 = .ok (.istore_n 3, 1) := by decide +kernel
theorem dX1_workNumbers_6 : decode cX1_workNumbers 6 = .ok (.aload_n 0, 1) := by decide +kernel
theorem dX1_workNumbers_7 : decode cX1_workNumbers 7 = .ok (.iload_n 1, 1) := by decide +kernel
theorem dX1_workNumbers_8 : decode cX1_workNumbers 8 = .ok (.invokevirtual 51, 3) := by decide +kernel
theorem dX1_workNumbers_11 : decode cX1_workNumbers 11 = .ok (.istore 4, 2) := by decide +kernel
theorem dX1_workNumbers_13 : decode cX1_workNumbers 13 = .ok (.iload_n 2, 1) := by decide +kernel
theorem dX1_workNumbers_14 : decode cX1_workNumbers 14 = .ok (.sipush 128, 3) := by decide +kernel
theorem dX1_workNumbers_17 : decode cX1_workNumbers 17 = .ok (.iand, 1) := by decide +kernel
theorem dX1_workNumbers_18 : decode cX1_workNumbers 18 = .ok (.ifCond .eq 11, 3) := by decide +kernel
theorem dX1_workNumbers_21 : decode cX1_workNumbers 21 = .ok (.aload_n 0, 1) := by decide +kernel
theorem dX1_workNumbers_22 : decode cX1_workNumbers 22 = .ok (.iload_n 1, 1) := by decide +kernel
theorem dX1_workNumbers_23 : decode cX1_workNumbers 23 = .ok (.invokevirtual 54, 3) := by decide +kernel
theorem dX1_workNumbers_26 : decode cX1_workNumbers 26 = .ok (.ifCond .ne 4, 3) := by decide +kernel
theorem dX1_workNumbers_29 : decode cX1_workNumbers 29 = .ok (.return_, 1) := by decide +kernel
theorem dX1_workNumbers_30 : decode cX1_workNumbers 30 = .ok (.iload_n 3, 1) := by decide +kernel
theorem dX1_workNumbers_31 : decode cX1_workNumbers 31 = .ok (.iconst 2, 1) := by decide +kernel
theorem dX1_workNumbers_32 : decode cX1_workNumbers 32 = .ok (.if_icmp .ne 7, 3) := by decide +kernel
theorem dX1_workNumbers_35 : decode cX1_workNumbers 35 = .ok (.lconst 0, 1) := by decide +kernel
theorem dX1_workNumbers_36 : decode cX1_workNumbers 36 = .ok (.goto 19, 3) := by decide +kernel
theorem dX1_workNumbers_39 : decode cX1_workNumbers 39 = .ok (.iload_n 3, 1) := by decide +kernel
theorem dX1_workNumbers_40 : decode cX1_workNumbers 40 = .ok (.iconst 3, 1) := by decide +kernel
theorem dX1_workNumbers_41 : decode cX1_workNumbers 41 = .ok (.if_icmp .ne 7, 3) := by decide +kernel
theorem dX1_workNumbers_44 : decode cX1_workNumbers 44 = .ok (.lconst 1, 1) := by decide +kernel
theorem dX1_workNumbers_45 : decode cX1_workNumbers 45 = .ok (.goto 10, 3) := by decide +kernel
theorem dX1_workNumbers_48 : decode cX1_workNumbers 48 = .ok (.aload_n 0, 1) := by decide +kernel
theorem dX1_workNumbers_49 : decode cX1_workNumbers 49 = .ok (.iload 4, 2) := by decide +kernel
theorem dX1_workNumbers_51 : decode cX1_workNumbers 51 = .ok (.invokevirtual 48, 3) := by decide +kernel
theorem dX1_workNumbers_54 : decode cX1_workNumbers 54 = .ok (.i2l, 1) := by decide +kernel
theorem dX1_workNumbers_55 : decode cX1_workNumbers 55 = .ok (.lstore 5, 2) := by decide +kernel
theorem dX1_workNumbers_57 : decode cX1_workNumbers 57 = .ok (.iconst 0, 1) := by decide +kernel
theorem dX1_workNumbers_58 : decode cX1_workNumbers 58 = .ok (.istore 7, 2) := by decide +kernel
theorem dX1_workNumbers_60 : decode cX1_workNumbers 60 = .ok (.iload 7, 2) := by decide +kernel
theorem dX1_workNumbers_62 : decode cX1_workNumbers 62 = .ok (.aload_n 0, 1) := by decide +kernel
theorem dX1_workNumbers_63 : decode cX1_workNumbers 63 = .ok (.iload_n 1, 1) := by decide +kernel
theorem dX1_workNumbers_64 : decode cX1_workNumbers 64 = .ok (.invokevirtual 54, 3) := by decide +kernel
theorem dX1_workNumbers_67 : decode cX1_workNumbers 67 = .ok (.if_icmp .ge 51, 3) := by decide +kernel
theorem dX1_workNumbers_70 : decode cX1_workNumbers 70 = .ok (.aload_n 0, 1) := by decide +kernel
theorem dX1_workNumbers_71 : decode cX1_workNumbers 71 = .ok (.iload 4, 2) := by decide +kernel
theorem dX1_workNumbers_73 : decode cX1_workNumbers 73 = .ok (.invokevirtual 44, 3) := by decide +kernel
theorem dX1_workNumbers_76 : decode cX1_workNumbers 76 = .ok (.ifCond .eq 4, 3) := by decide +kernel
theorem dX1_workNumbers_79 : decode cX1_workNumbers 79 = .ok (.return_, 1) := by decide +kernel
theorem dX1_workNumbers_80 : decode cX1_workNumbers 80 = .ok (.iload_n 3, 1) := by decide +kernel
theorem dX1_workNumbers_81 : decode cX1_workNumbers 81 = .ok (.lload 5, 2) := by decide +kernel
theorem dX1_workNumbers_83 : decode cX1_workNumbers 83 = .ok (.aload_n 0, 1) := by decide +kernel
theorem dX1_workNumbers_84 : decode cX1_workNumbers 84 = .ok (.iload 4, 2) := by decide +kernel
theorem dX1_workNumbers_86 : decode cX1_workNumbers 86 = .ok (.invokevirtual 61, 3) := by decide +kernel
theorem dX1_workNumbers_89 : decode cX1_workNumbers 89 = .ok (.i2l, 1) := by decide +kernel
theorem dX1_workNumbers_90 : decode cX1_workNumbers 90 = .ok (.aload_n 0, 1) := by decide +kernel
theorem dX1_workNumbers_91 : decode cX1_workNumbers 91 = .ok (.iload 4, 2) := by decide +kernel
theorem dX1_workNumbers_93 : decode cX1_workNumbers 93 = .ok (.invokevirtual 48, 3) := by decide +kernel
theorem dX1_workNumbers_96 : decode cX1_workNumbers 96 = .ok (.i2l, 1) := by decide +kernel
theorem dX1_workNumbers_97 : decode cX1_workNumbers 97 = .ok (.lmul, 1) := by decide +kernel
theorem dX1_workNumbers_98 : decode cX1_workNumbers 98 = .ok (.invokestatic 112, 3) := by decide +kernel
theorem dX1_workNumbers_101 : decode cX1_workNumbers 101 = .ok (.i2l, 1) := by decide +kernel
theorem dX1_workNumbers_102 : decode cX1_workNumbers 102 = .ok (.lstore 5, 2) := by decide +kernel
theorem dX1_workNumbers_104 : decode cX1_workNumbers 104 = .ok (.aload_n 0, 1) := by decide +kernel
theorem dX1_workNumbers_105 : decode cX1_workNumbers 105 = .ok (.iload 4, 2) := by decide +kernel
theorem dX1_workNumbers_107 : decode cX1_workNumbers 107 = .ok (.invokevirtual 68, 3) := by decide +kernel
theorem dX1_workNumbers_110 : decode cX1_workNumbers 110 = .ok (.istore 4, 2) := by decide +kernel
theorem dX1_workNumbers_112 : decode cX1_workNumbers 112 = .ok (.iinc 7 1, 3) := by decide +kernel
theorem dX1_workNumbers_115 : decode cX1_workNumbers 115 = .ok (.goto (-55), 3) := by decide +kernel
theorem dX1_workNumbers_118 : decode cX1_workNumbers 118 = .ok (.aload_n 0, 1) := by decide +kernel
theorem dX1_workNumbers_119 : decode cX1_workNumbers 119 = .ok (.iload_n 1, 1) := by decide +kernel
theorem dX1_workNumbers_120 : decode cX1_workNumbers 120 = .ok (.iconst 0, 1) := by decide +kernel
theorem dX1_workNumbers_121 : decode cX1_workNumbers 121 = .ok (.lload 5, 2) := by decide +kernel
theorem dX1_workNumbers_123 : decode cX1_workNumbers 123 = .ok (.l2i, 1) := by decide +kernel
theorem dX1_workNumbers_124 : decode cX1_workNumbers 124 = .ok (.invokevirtual 104, 3) := by decide +kernel
theorem dX1_workNumbers_127 : decode cX1_workNumbers 127 = .ok (.return_, 1) := by decide +kernel
theorem dX1_workedWith_0 : decode cX1_workedWith 0 = .ok (.iload_n 0, 1) := by decide +kernel
theorem dX1_workedWith_1 : decode cX1_workedWith 1 = .ok (.lookupswitch 58 #[(2, 35), (3, 42), (8, 49)], 35) := by decide +kernel
theorem dX1_workedWith_36 : decode cX1_workedWith 36 = .ok (.lload_n 1, 1) := by decide +kernel
theorem dX1_workedWith_37 : decode cX1_workedWith 37 = .ok (.lload_n 3, 1) := by decide +kernel
theorem dX1_workedWith_38 : decode cX1_workedWith 38 = .ok (.ladd, 1) := by decide +kernel
theorem dX1_workedWith_39 : decode cX1_workedWith 39 = .ok (.invokestatic 116, 3) := by decide +kernel
theorem dX1_workedWith_42 : decode cX1_workedWith 42 = .ok (.ireturn, 1) := by decide +kernel
theorem dX1_workedWith_43 : decode cX1_workedWith 43 = .ok (.lload_n 1, 1) := by decide +kernel
theorem dX1_workedWith_44 : decode cX1_workedWith 44 = .ok (.lload_n 3, 1) := by decide +kernel
theorem dX1_workedWith_45 : decode cX1_workedWith 45 = .ok (.lmul, 1) := by decide +kernel
theorem dX1_workedWith_46 : decode cX1_workedWith 46 = .ok (.invokestatic 116, 3) := by decide +kernel
theorem dX1_workedWith_49 : decode cX1_workedWith 49 = .ok (.ireturn, 1) := by decide +kernel
theorem dX1_workedWith_50 : decode cX1_workedWith 50 = .ok (.lload_n 1, 1) := by decide +kernel
theorem dX1_workedWith_51 : decode cX1_workedWith 51 = .ok (.lload_n 3, 1) := by decide +kernel
theorem dX1_workedWith_52 : decode cX1_workedWith 52 = .ok (.invokestatic 120, 3) := by decide +kernel
theorem dX1_workedWith_55 : decode cX1_workedWith 55 = .ok (.invokestatic 116, 3) := by decide +kernel
theorem dX1_workedWith_58 : decode cX1_workedWith 58 = .ok (.ireturn, 1) := by decide +kernel
theorem dX1_workedWith_59 : decode cX1_workedWith 59 = .ok (.lload_n 1, 1) := by decide +kernel
theorem dX1_workedWith_60 : decode cX1_workedWith 60 = .ok (.lload_n 3, 1) := by decide +kernel
theorem dX1_workedWith_61 : decode cX1_workedWith 61 = .ok (.invokestatic 124, 3) := by decide +kernel
theorem dX1_workedWith_64 : decode cX1_workedWith 64 = .ok (.invokestatic 116, 3) := by decide +kernel
theorem dX1_workedWith_67 : decode cX1_workedWith 67 = .ok (.ireturn, 1) := by decide +kernel
theorem dX1_sortParts_0 : decode cX1_sortParts 0 = .ok (.iload_n 2, 1) := by decide +kernel
theorem dX1_sortParts_1 : decode cX1_sortParts 1 = .ok (.ifCond .eq 12, 3) := by decide +kernel
theorem dX1_sortParts_4 : decode cX1_sortParts 4 = .ok (.aload_n 0, 1) := by decide +kernel
theorem dX1_sortParts_5 : decode cX1_sortParts 5 = .ok (.iload_n 1, 1) := by decide +kernel
theorem dX1_sortParts_6 : decode cX1_sortParts 6 = .ok (.invokevirtual 54, 3) := by decide +kernel
theorem dX1_sortParts_9 : decode cX1_sortParts 9 = .ok (.iconst 2, 1) := by decide +kernel
theorem dX1_sortParts_10 : decode cX1_sortParts 10 = .ok (.if_icmp .ge 4, 3) := by decide +kernel
theorem dX1_sortParts_13 : decode cX1_sortParts 13 = .ok (.return_, 1) := by decide +kernel
theorem dX1_sortParts_14 : decode cX1_sortParts 14 = .ok (.aload_n 0, 1) := by decide +kernel
theorem dX1_sortParts_15 : decode cX1_sortParts 15 = .ok (.iload_n 1, 1) := by decide +kernel
theorem dX1_sortParts_16 : decode cX1_sortParts 16 = .ok (.invokevirtual 97, 3) := by decide +kernel
theorem dX1_sortParts_19 : decode cX1_sortParts 19 = .ok (.istore_n 3, 1) := by decide +kernel
theorem dX1_sortParts_20 : decode cX1_sortParts 20 = .ok (.iconst 1, 1) := by decide +kernel
theorem dX1_sortParts_21 : decode cX1_sortParts 21 = .ok (.istore 4, 2) := by decide +kernel
theorem dX1_sortParts_23 : decode cX1_sortParts 23 = .ok (.iload 4, 2) := by decide +kernel
theorem dX1_sortParts_25 : decode cX1_sortParts 25 = .ok (.iload_n 3, 1) := by decide +kernel
theorem dX1_sortParts_26 : decode cX1_sortParts 26 = .ok (.if_icmp .ge 78, 3) := by decide +kernel
theorem dX1_sortParts_29 : decode cX1_sortParts 29 = .ok (.aload_n 0, 1) := by decide +kernel
theorem dX1_sortParts_30 : decode cX1_sortParts 30 = .ok (.getfield 33, 3) := by decide +kernel
theorem dX1_sortParts_33 : decode cX1_sortParts 33 = .ok (.iload 4, 2) := by decide +kernel
theorem dX1_sortParts_35 : decode cX1_sortParts 35 = .ok (.iaload, 1) := by decide +kernel
theorem dX1_sortParts_36 : decode cX1_sortParts 36 = .ok (.istore 5, 2) := by decide +kernel
theorem dX1_sortParts_38 : decode cX1_sortParts 38 = .ok (.iload 4, 2) := by decide +kernel
theorem dX1_sortParts_40 : decode cX1_sortParts 40 = .ok (.istore 6, 2) := by decide +kernel
theorem dX1_sortParts_42 : decode cX1_sortParts 42 = .ok (.iload 6, 2) := by decide +kernel
theorem dX1_sortParts_44 : decode cX1_sortParts 44 = .ok (.ifCond .le 45, 3) := by decide +kernel
theorem dX1_sortParts_47 : decode cX1_sortParts 47 = .ok (.aload_n 0, 1) := by decide +kernel
theorem dX1_sortParts_48 : decode cX1_sortParts 48 = .ok (.aload_n 0, 1) := by decide +kernel
theorem dX1_sortParts_49 : decode cX1_sortParts 49 = .ok (.getfield 33, 3) := by decide +kernel
theorem dX1_sortParts_52 : decode cX1_sortParts 52 = .ok (.iload 6, 2) := by decide +kernel
theorem dX1_sortParts_54 : decode cX1_sortParts 54 = .ok (.iconst 1, 1) := by decide +kernel
theorem dX1_sortParts_55 : decode cX1_sortParts 55 = .ok (.isub, 1) := by decide +kernel
theorem dX1_sortParts_56 : decode cX1_sortParts 56 = .ok (.iaload, 1) := by decide +kernel
theorem dX1_sortParts_57 : decode cX1_sortParts 57 = .ok (.aload_n 0, 1) := by decide +kernel
theorem dX1_sortParts_58 : decode cX1_sortParts 58 = .ok (.iload 5, 2) := by decide +kernel
theorem dX1_sortParts_60 : decode cX1_sortParts 60 = .ok (.iconst 0, 1) := by decide +kernel
theorem dX1_sortParts_61 : decode cX1_sortParts 61 = .ok (.invokestatic 126, 3) := by decide +kernel
theorem dX1_sortParts_64 : decode cX1_sortParts 64 = .ok (.ifCond .le 25, 3) := by decide +kernel
theorem dX1_sortParts_67 : decode cX1_sortParts 67 = .ok (.aload_n 0, 1) := by decide +kernel
theorem dX1_sortParts_68 : decode cX1_sortParts 68 = .ok (.getfield 33, 3) := by decide +kernel
theorem dX1_sortParts_71 : decode cX1_sortParts 71 = .ok (.iload 6, 2) := by decide +kernel
theorem dX1_sortParts_73 : decode cX1_sortParts 73 = .ok (.aload_n 0, 1) := by decide +kernel
theorem dX1_sortParts_74 : decode cX1_sortParts 74 = .ok (.getfield 33, 3) := by decide +kernel
theorem dX1_sortParts_77 : decode cX1_sortParts 77 = .ok (.iload 6, 2) := by decide +kernel
theorem dX1_sortParts_79 : decode cX1_sortParts 79 = .ok (.iconst 1, 1) := by decide +kernel
theorem dX1_sortParts_80 : decode cX1_sortParts 80 = .ok (.isub, 1) := by decide +kernel
theorem dX1_sortParts_81 : decode cX1_sortParts 81 = .ok (.iaload, 1) := by decide +kernel
theorem dX1_sortParts_82 : decode cX1_sortParts 82 = .ok (.iastore, 1) := by decide +kernel
theorem dX1_sortParts_83 : decode cX1_sortParts 83 = .ok (.iinc 6 (-1), 3) := by decide +kernel
theorem dX1_sortParts_86 : decode cX1_sortParts 86 = .ok (.goto (-44), 3) := by decide +kernel
theorem dX1_sortParts_89 : decode cX1_sortParts 89 = .ok (.aload_n 0, 1) := by decide +kernel
theorem dX1_sortParts_90 : decode cX1_sortParts 90 = .ok (.getfield 33, 3) := by decide +kernel
theorem dX1_sortParts_93 : decode cX1_sortParts 93 = .ok (.iload 6, 2) := by decide +kernel
theorem dX1_sortParts_95 : decode cX1_sortParts 95 = .ok (.iload 5, 2) := by decide +kernel
theorem dX1_sortParts_97 : decode cX1_sortParts 97 = .ok (.iastore, 1) := by decide +kernel
theorem dX1_sortParts_98 : decode cX1_sortParts 98 = .ok (.iinc 4 1, 3) := by decide +kernel
theorem dX1_sortParts_101 : decode cX1_sortParts 101 = .ok (.goto (-78), 3) := by decide +kernel
theorem dX1_sortParts_104 : decode cX1_sortParts 104 = .ok (.aload_n 0, 1) := by decide +kernel
theorem dX1_sortParts_105 : decode cX1_sortParts 105 = .ok (.iload_n 1, 1) := by decide +kernel
theorem dX1_sortParts_106 : decode cX1_sortParts 106 = .ok (.iload_n 3, 1) := by decide +kernel
theorem dX1_sortParts_107 : decode cX1_sortParts 107 = .ok (.invokevirtual 130, 3) := by decide +kernel
theorem dX1_sortParts_110 : decode cX1_sortParts 110 = .ok (.return_, 1) := by decide +kernel
theorem dX1_eitherOr_0 : decode cX1_eitherOr 0 = .ok (.aload_n 0, 1) := by decide +kernel
theorem dX1_eitherOr_1 : decode cX1_eitherOr 1 = .ok (.iload_n 1, 1) := by decide +kernel
theorem dX1_eitherOr_2 : decode cX1_eitherOr 2 = .ok (.invokevirtual 51, 3) := by decide +kernel
theorem dX1_eitherOr_5 : decode cX1_eitherOr 5 = .ok (.istore_n 3, 1) := by decide +kernel
theorem dX1_eitherOr_6 : decode cX1_eitherOr 6 = .ok (.aload_n 0, 1) := by decide +kernel
theorem dX1_eitherOr_7 : decode cX1_eitherOr 7 = .ok (.iload_n 1, 1) := by decide +kernel
theorem dX1_eitherOr_8 : decode cX1_eitherOr 8 = .ok (.invokevirtual 54, 3) := by decide +kernel
theorem dX1_eitherOr_11 : decode cX1_eitherOr 11 = .ok (.iconst 2, 1) := by decide +kernel
theorem dX1_eitherOr_12 : decode cX1_eitherOr 12 = .ok (.if_icmp .ne 14, 3) := by decide +kernel
theorem dX1_eitherOr_15 : decode cX1_eitherOr 15 = .ok (.iload_n 2, 1) := by decide +kernel
theorem dX1_eitherOr_16 : decode cX1_eitherOr 16 = .ok (.bipush 32, 2) := by decide +kernel
theorem dX1_eitherOr_18 : decode cX1_eitherOr 18 = .ok (.iand, 1) := by decide +kernel
theorem dX1_eitherOr_19 : decode cX1_eitherOr 19 = .ok (.ifCond .eq 7, 3) := by decide +kernel
theorem dX1_eitherOr_22 : decode cX1_eitherOr 22 = .ok (.iconst 1, 1) := by decide +kernel
theorem dX1_eitherOr_23 : decode cX1_eitherOr 23 = .ok (.goto 4, 3) := by decide +kernel
theorem dX1_eitherOr_26 : decode cX1_eitherOr 26 = .ok (.iconst 0, 1) := by decide +kernel
theorem dX1_eitherOr_27 : decode cX1_eitherOr 27 = .ok (.istore 4, 2) := by decide +kernel
theorem dX1_eitherOr_29 : decode cX1_eitherOr 29 = .ok (.iload 4, 2) := by decide +kernel
theorem dX1_eitherOr_31 : decode cX1_eitherOr 31 = .ok (.ifCond .eq 22, 3) := by decide +kernel
theorem dX1_eitherOr_34 : decode cX1_eitherOr 34 = .ok (.aload_n 0, 1) := by decide +kernel
theorem dX1_eitherOr_35 : decode cX1_eitherOr 35 = .ok (.iload_n 3, 1) := by decide +kernel
theorem dX1_eitherOr_36 : decode cX1_eitherOr 36 = .ok (.aload_n 0, 1) := by decide +kernel
theorem dX1_eitherOr_37 : decode cX1_eitherOr 37 = .ok (.aload_n 0, 1) := by decide +kernel
theorem dX1_eitherOr_38 : decode cX1_eitherOr 38 = .ok (.iload_n 3, 1) := by decide +kernel
theorem dX1_eitherOr_39 : decode cX1_eitherOr 39 = .ok (.invokevirtual 68, 3) := by decide +kernel
theorem dX1_eitherOr_42 : decode cX1_eitherOr 42 = .ok (.iconst 0, 1) := by decide +kernel
theorem dX1_eitherOr_43 : decode cX1_eitherOr 43 = .ok (.invokestatic 133, 3) := by decide +kernel
theorem dX1_eitherOr_46 : decode cX1_eitherOr 46 = .ok (.ifCond .ne 7, 3) := by decide +kernel
theorem dX1_eitherOr_49 : decode cX1_eitherOr 49 = .ok (.iload_n 3, 1) := by decide +kernel
theorem dX1_eitherOr_50 : decode cX1_eitherOr 50 = .ok (.goto 4, 3) := by decide +kernel
theorem dX1_eitherOr_53 : decode cX1_eitherOr 53 = .ok (.iload_n 1, 1) := by decide +kernel
theorem dX1_eitherOr_54 : decode cX1_eitherOr 54 = .ok (.ireturn, 1) := by decide +kernel
theorem dX1_changeIf_0 : decode cX1_changeIf 0 = .ok (.iload_n 2, 1) := by decide +kernel
theorem dX1_changeIf_1 : decode cX1_changeIf 1 = .ok (.bipush 64, 2) := by decide +kernel
theorem dX1_changeIf_3 : decode cX1_changeIf 3 = .ok (.iand, 1) := by decide +kernel
theorem dX1_changeIf_4 : decode cX1_changeIf 4 = .ok (.ifCond .eq 12, 3) := by decide +kernel
theorem dX1_changeIf_7 : decode cX1_changeIf 7 = .ok (.aload_n 0, 1) := by decide +kernel
theorem dX1_changeIf_8 : decode cX1_changeIf 8 = .ok (.iload_n 1, 1) := by decide +kernel
theorem dX1_changeIf_9 : decode cX1_changeIf 9 = .ok (.invokevirtual 97, 3) := by decide +kernel
theorem dX1_changeIf_12 : decode cX1_changeIf 12 = .ok (.iconst 4, 1) := by decide +kernel
theorem dX1_changeIf_13 : decode cX1_changeIf 13 = .ok (.if_icmp .ge 5, 3) := by decide +kernel
theorem dX1_changeIf_16 : decode cX1_changeIf 16 = .ok (.iload_n 1, 1) := by decide +kernel
theorem dX1_changeIf_17 : decode cX1_changeIf 17 = .ok (.ireturn, 1) := by decide +kernel
theorem dX1_changeIf_18 : decode cX1_changeIf 18 = .ok (.aload_n 0, 1) := by decide +kernel
theorem dX1_changeIf_19 : decode cX1_changeIf 19 = .ok (.iload_n 1, 1) := by decide +kernel
theorem dX1_changeIf_20 : decode cX1_changeIf 20 = .ok (.invokevirtual 48, 3) := by decide +kernel
theorem dX1_changeIf_23 : decode cX1_changeIf 23 = .ok (.iconst 2, 1) := by decide +kernel
theorem dX1_changeIf_24 : decode cX1_changeIf 24 = .ok (.if_icmp .eq 12, 3) := by decide +kernel
theorem dX1_changeIf_27 : decode cX1_changeIf 27 = .ok (.aload_n 0, 1) := by decide +kernel
theorem dX1_changeIf_28 : decode cX1_changeIf 28 = .ok (.iload_n 1, 1) := by decide +kernel
theorem dX1_changeIf_29 : decode cX1_changeIf 29 = .ok (.invokevirtual 48, 3) := by decide +kernel
theorem dX1_changeIf_32 : decode cX1_changeIf 32 = .ok (.iconst 3, 1) := by decide +kernel
theorem dX1_changeIf_33 : decode cX1_changeIf 33 = .ok (.if_icmp .ne 54, 3) := by decide +kernel
theorem dX1_changeIf_36 : decode cX1_changeIf 36 = .ok (.aload_n 0, 1) := by decide +kernel
theorem dX1_changeIf_37 : decode cX1_changeIf 37 = .ok (.iload_n 1, 1) := by decide +kernel
theorem dX1_changeIf_38 : decode cX1_changeIf 38 = .ok (.aload_n 0, 1) := by decide +kernel
theorem dX1_changeIf_39 : decode cX1_changeIf 39 = .ok (.iload_n 1, 1) := by decide +kernel
theorem dX1_changeIf_40 : decode cX1_changeIf 40 = .ok (.invokevirtual 48, 3) := by decide +kernel
theorem dX1_changeIf_43 : decode cX1_changeIf 43 = .ok (.iconst 2, 1) := by decide +kernel
theorem dX1_changeIf_44 : decode cX1_changeIf 44 = .ok (.if_icmp .ne 7, 3) := by decide +kernel
theorem dX1_changeIf_47 : decode cX1_changeIf 47 = .ok (.iconst 0, 1) := by decide +kernel
theorem dX1_changeIf_48 : decode cX1_changeIf 48 = .ok (.goto 4, 3) := by decide +kernel
theorem dX1_changeIf_51 : decode cX1_changeIf 51 = .ok (.iconst 1, 1) := by decide +kernel
theorem dX1_changeIf_52 : decode cX1_changeIf 52 = .ok (.invokevirtual 136, 3) := by decide +kernel
theorem dX1_changeIf_55 : decode cX1_changeIf 55 = .ok (.aload_n 0, 1) := by decide +kernel
theorem dX1_changeIf_56 : decode cX1_changeIf 56 = .ok (.getfield 33, 3) := by decide +kernel
theorem dX1_changeIf_59 : decode cX1_changeIf 59 = .ok (.iconst 0, 1) := by decide +kernel
theorem dX1_changeIf_60 : decode cX1_changeIf 60 = .ok (.iaload, 1) := by decide +kernel
theorem dX1_changeIf_61 : decode cX1_changeIf 61 = .ok (.istore_n 3, 1) := by decide +kernel
theorem dX1_changeIf_62 : decode cX1_changeIf 62 = .ok (.aload_n 0, 1) := by decide +kernel
theorem dX1_changeIf_63 : decode cX1_changeIf 63 = .ok (.getfield 33, 3) := by decide +kernel
theorem dX1_changeIf_66 : decode cX1_changeIf 66 = .ok (.iconst 0, 1) := by decide +kernel
theorem dX1_changeIf_67 : decode cX1_changeIf 67 = .ok (.aload_n 0, 1) := by decide +kernel
theorem dX1_changeIf_68 : decode cX1_changeIf 68 = .ok (.getfield 33, 3) := by decide +kernel
theorem dX1_changeIf_71 : decode cX1_changeIf 71 = .ok (.iconst 1, 1) := by decide +kernel
theorem dX1_changeIf_72 : decode cX1_changeIf 72 = .ok (.iaload, 1) := by decide +kernel
theorem dX1_changeIf_73 : decode cX1_changeIf 73 = .ok (.iastore, 1) := by decide +kernel
theorem dX1_changeIf_74 : decode cX1_changeIf 74 = .ok (.aload_n 0, 1) := by decide +kernel
theorem dX1_changeIf_75 : decode cX1_changeIf 75 = .ok (.getfield 33, 3) := by decide +kernel
theorem dX1_changeIf_78 : decode cX1_changeIf 78 = .ok (.iconst 1, 1) := by decide +kernel
theorem dX1_changeIf_79 : decode cX1_changeIf 79 = .ok (.iload_n 3, 1) := by decide +kernel
theorem dX1_changeIf_80 : decode cX1_changeIf 80 = .ok (.iastore, 1) := by decide +kernel
theorem dX1_changeIf_81 : decode cX1_changeIf 81 = .ok (.aload_n 0, 1) := by decide +kernel
theorem dX1_changeIf_82 : decode cX1_changeIf 82 = .ok (.iload_n 1, 1) := by decide +kernel
theorem dX1_changeIf_83 : decode cX1_changeIf 83 = .ok (.iconst 4, 1) := by decide +kernel
theorem dX1_changeIf_84 : decode cX1_changeIf 84 = .ok (.invokevirtual 130, 3) := by decide +kernel
theorem dX1_changeIf_87 : decode cX1_changeIf 87 = .ok (.aload_n 0, 1) := by decide +kernel
theorem dX1_changeIf_88 : decode cX1_changeIf 88 = .ok (.aload_n 0, 1) := by decide +kernel
theorem dX1_changeIf_89 : decode cX1_changeIf 89 = .ok (.getfield 33, 3) := by decide +kernel
theorem dX1_changeIf_92 : decode cX1_changeIf 92 = .ok (.iconst 2, 1) := by decide +kernel
theorem dX1_changeIf_93 : decode cX1_changeIf 93 = .ok (.iaload, 1) := by decide +kernel
theorem dX1_changeIf_94 : decode cX1_changeIf 94 = .ok (.aload_n 0, 1) := by decide +kernel
theorem dX1_changeIf_95 : decode cX1_changeIf 95 = .ok (.aload_n 0, 1) := by decide +kernel
theorem dX1_changeIf_96 : decode cX1_changeIf 96 = .ok (.getfield 33, 3) := by decide +kernel
theorem dX1_changeIf_99 : decode cX1_changeIf 99 = .ok (.iconst 3, 1) := by decide +kernel
theorem dX1_changeIf_100 : decode cX1_changeIf 100 = .ok (.iaload, 1) := by decide +kernel
theorem dX1_changeIf_101 : decode cX1_changeIf 101 = .ok (.iconst 0, 1) := by decide +kernel
theorem dX1_changeIf_102 : decode cX1_changeIf 102 = .ok (.invokestatic 133, 3) := by decide +kernel
theorem dX1_changeIf_105 : decode cX1_changeIf 105 = .ok (.ifCond .ne 12, 3) := by decide +kernel
theorem dX1_changeIf_108 : decode cX1_changeIf 108 = .ok (.aload_n 0, 1) := by decide +kernel
theorem dX1_changeIf_109 : decode cX1_changeIf 109 = .ok (.getfield 33, 3) := by decide +kernel
theorem dX1_changeIf_112 : decode cX1_changeIf 112 = .ok (.iconst 2, 1) := by decide +kernel
theorem dX1_changeIf_113 : decode cX1_changeIf 113 = .ok (.iaload, 1) := by decide +kernel
theorem dX1_changeIf_114 : decode cX1_changeIf 114 = .ok (.goto 4, 3) := by decide +kernel
theorem dX1_changeIf_117 : decode cX1_changeIf 117 = .ok (.iload_n 1, 1) := by decide +kernel
theorem dX1_changeIf_118 : decode cX1_changeIf 118 = .ok (.ireturn, 1) := by decide +kernel
theorem dX1_orderOf_0 : decode cX1_orderOf 0 = .ok (.iload 4, 2) := by decide +kernel
theorem dX1_orderOf_2 : decode cX1_orderOf 2 = .ok (.bipush 40, 2) := by decide +kernel
theorem dX1_orderOf_4 : decode cX1_orderOf 4 = .ok (.if_icmp .gt 27, 3) := by decide +kernel
theorem dX1_orderOf_7 : decode cX1_orderOf 7 = .ok (.iload_n 1, 1) := by decide +kernel
theorem dX1_orderOf_8 : decode cX1_orderOf 8 = .ok (.ifCond .lt 23, 3) := by decide +kernel
theorem dX1_orderOf_11 : decode cX1_orderOf 11 = .ok (.iload_n 1, 1) := by decide +kernel
theorem dX1_orderOf_12 : decode cX1_orderOf 12 = .ok (.aload_n 0, 1) := by decide +kernel
theorem dX1_orderOf_13 : decode cX1_orderOf 13 = .ok (.getfield 36, 3) := by decide +kernel
theorem dX1_orderOf_16 : decode cX1_orderOf 16 = .ok (.if_icmp .ge 15, 3) := by decide +kernel
theorem dX1_orderOf_19 : decode cX1_orderOf 19 = .ok (.iload_n 3, 1) := by decide +kernel
theorem dX1_orderOf_20 : decode cX1_orderOf 20 = .ok (.ifCond .lt 11, 3) := by decide +kernel
theorem dX1_orderOf_23 : decode cX1_orderOf 23 = .ok (.iload_n 3, 1) := by decide +kernel
theorem dX1_orderOf_24 : decode cX1_orderOf 24 = .ok (.aload_n 2, 1) := by decide +kernel
theorem dX1_orderOf_25 : decode cX1_orderOf 25 = .ok (.getfield 36, 3) := by decide +kernel
theorem dX1_orderOf_28 : decode cX1_orderOf 28 = .ok (.if_icmp .lt 5, 3) := by decide +kernel
theorem dX1_orderOf_31 : decode cX1_orderOf 31 = .ok (.iconst 0, 1) := by decide +kernel
theorem dX1_orderOf_32 : decode cX1_orderOf 32 = .ok (.ireturn, 1) := by decide +kernel
theorem dX1_orderOf_33 : decode cX1_orderOf 33 = .ok (.aload_n 0, 1) := by decide +kernel
theorem dX1_orderOf_34 : decode cX1_orderOf 34 = .ok (.getfield 9, 3) := by decide +kernel
theorem dX1_orderOf_37 : decode cX1_orderOf 37 = .ok (.iload_n 1, 1) := by decide +kernel
theorem dX1_orderOf_38 : decode cX1_orderOf 38 = .ok (.iaload, 1) := by decide +kernel
theorem dX1_orderOf_39 : decode cX1_orderOf 39 = .ok (.aload_n 2, 1) := by decide +kernel
theorem dX1_orderOf_40 : decode cX1_orderOf 40 = .ok (.getfield 9, 3) := by decide +kernel
theorem dX1_orderOf_43 : decode cX1_orderOf 43 = .ok (.iload_n 3, 1) := by decide +kernel
theorem dX1_orderOf_44 : decode cX1_orderOf 44 = .ok (.iaload, 1) := by decide +kernel
theorem dX1_orderOf_45 : decode cX1_orderOf 45 = .ok (.if_icmp .eq 19, 3) := by decide +kernel
theorem dX1_orderOf_48 : decode cX1_orderOf 48 = .ok (.aload_n 0, 1) := by decide +kernel
theorem dX1_orderOf_49 : decode cX1_orderOf 49 = .ok (.getfield 9, 3) := by decide +kernel
theorem dX1_orderOf_52 : decode cX1_orderOf 52 = .ok (.iload_n 1, 1) := by decide +kernel
theorem dX1_orderOf_53 : decode cX1_orderOf 53 = .ok (.iaload, 1) := by decide +kernel
theorem dX1_orderOf_54 : decode cX1_orderOf 54 = .ok (.aload_n 2, 1) := by decide +kernel
theorem dX1_orderOf_55 : decode cX1_orderOf 55 = .ok (.getfield 9, 3) := by decide +kernel
theorem dX1_orderOf_58 : decode cX1_orderOf 58 = .ok (.iload_n 3, 1) := by decide +kernel
theorem dX1_orderOf_59 : decode cX1_orderOf 59 = .ok (.iaload, 1) := by decide +kernel
theorem dX1_orderOf_60 : decode cX1_orderOf 60 = .ok (.invokestatic 139, 3) := by decide +kernel
theorem dX1_orderOf_63 : decode cX1_orderOf 63 = .ok (.ireturn, 1) := by decide +kernel
theorem dX1_orderOf_64 : decode cX1_orderOf 64 = .ok (.aload_n 0, 1) := by decide +kernel
theorem dX1_orderOf_65 : decode cX1_orderOf 65 = .ok (.getfield 15, 3) := by decide +kernel
theorem dX1_orderOf_68 : decode cX1_orderOf 68 = .ok (.iload_n 1, 1) := by decide +kernel
theorem dX1_orderOf_69 : decode cX1_orderOf 69 = .ok (.iaload, 1) := by decide +kernel
theorem dX1_orderOf_70 : decode cX1_orderOf 70 = .ok (.aload_n 2, 1) := by decide +kernel
theorem dX1_orderOf_71 : decode cX1_orderOf 71 = .ok (.getfield 15, 3) := by decide +kernel
theorem dX1_orderOf_74 : decode cX1_orderOf 74 = .ok (.iload_n 3, 1) := by decide +kernel
theorem dX1_orderOf_75 : decode cX1_orderOf 75 = .ok (.iaload, 1) := by decide +kernel
theorem dX1_orderOf_76 : decode cX1_orderOf 76 = .ok (.if_icmp .eq 19, 3) := by decide +kernel
theorem dX1_orderOf_79 : decode cX1_orderOf 79 = .ok (.aload_n 0, 1) := by decide +kernel
theorem dX1_orderOf_80 : decode cX1_orderOf 80 = .ok (.getfield 15, 3) := by decide +kernel
theorem dX1_orderOf_83 : decode cX1_orderOf 83 = .ok (.iload_n 1, 1) := by decide +kernel
theorem dX1_orderOf_84 : decode cX1_orderOf 84 = .ok (.iaload, 1) := by decide +kernel
theorem dX1_orderOf_85 : decode cX1_orderOf 85 = .ok (.aload_n 2, 1) := by decide +kernel
theorem dX1_orderOf_86 : decode cX1_orderOf 86 = .ok (.getfield 15, 3) := by decide +kernel
theorem dX1_orderOf_89 : decode cX1_orderOf 89 = .ok (.iload_n 3, 1) := by decide +kernel
theorem dX1_orderOf_90 : decode cX1_orderOf 90 = .ok (.iaload, 1) := by decide +kernel
theorem dX1_orderOf_91 : decode cX1_orderOf 91 = .ok (.invokestatic 139, 3) := by decide +kernel
theorem dX1_orderOf_94 : decode cX1_orderOf 94 = .ok (.ireturn, 1) := by decide +kernel
theorem dX1_orderOf_95 : decode cX1_orderOf 95 = .ok (.aload_n 0, 1) := by decide +kernel
theorem dX1_orderOf_96 : decode cX1_orderOf 96 = .ok (.getfield 21, 3) := by decide +kernel
theorem dX1_orderOf_99 : decode cX1_orderOf 99 = .ok (.iload_n 1, 1) := by decide +kernel
theorem dX1_orderOf_100 : decode cX1_orderOf 100 = .ok (.iaload, 1) := by decide +kernel
theorem dX1_orderOf_101 : decode cX1_orderOf 101 = .ok (.aload_n 2, 1) := by decide +kernel
theorem dX1_orderOf_102 : decode cX1_orderOf 102 = .ok (.getfield 21, 3) := by decide +kernel
theorem dX1_orderOf_105 : decode cX1_orderOf 105 = .ok (.iload_n 3, 1) := by decide +kernel
theorem dX1_orderOf_106 : decode cX1_orderOf 106 = .ok (.iaload, 1) := by decide +kernel
theorem dX1_orderOf_107 : decode cX1_orderOf 107 = .ok (.if_icmp .eq 19, 3) := by decide +kernel
theorem dX1_orderOf_110 : decode cX1_orderOf 110 = .ok (.aload_n 0, 1) := by decide +kernel
theorem dX1_orderOf_111 : decode cX1_orderOf 111 = .ok (.getfield 21, 3) := by decide +kernel
theorem dX1_orderOf_114 : decode cX1_orderOf 114 = .ok (.iload_n 1, 1) := by decide +kernel
theorem dX1_orderOf_115 : decode cX1_orderOf 115 = .ok (.iaload, 1) := by decide +kernel
theorem dX1_orderOf_116 : decode cX1_orderOf 116 = .ok (.aload_n 2, 1) := by decide +kernel
theorem dX1_orderOf_117 : decode cX1_orderOf 117 = .ok (.getfield 21, 3) := by decide +kernel
theorem dX1_orderOf_120 : decode cX1_orderOf 120 = .ok (.iload_n 3, 1) := by decide +kernel
theorem dX1_orderOf_121 : decode cX1_orderOf 121 = .ok (.iaload, 1) := by decide +kernel
theorem dX1_orderOf_122 : decode cX1_orderOf 122 = .ok (.invokestatic 139, 3) := by decide +kernel
theorem dX1_orderOf_125 : decode cX1_orderOf 125 = .ok (.ireturn, 1) := by decide +kernel
theorem dX1_orderOf_126 : decode cX1_orderOf 126 = .ok (.iconst 0, 1) := by decide +kernel
theorem dX1_orderOf_127 : decode cX1_orderOf 127 = .ok (.istore 5, 2) := by decide +kernel
theorem dX1_orderOf_129 : decode cX1_orderOf 129 = .ok (.aload_n 0, 1) := by decide +kernel
theorem dX1_orderOf_130 : decode cX1_orderOf 130 = .ok (.getfield 24, 3) := by decide +kernel
theorem dX1_orderOf_133 : decode cX1_orderOf 133 = .ok (.iload_n 1, 1) := by decide +kernel
theorem dX1_orderOf_134 : decode cX1_orderOf 134 = .ok (.iaload, 1) := by decide +kernel
theorem dX1_orderOf_135 : decode cX1_orderOf 135 = .ok (.istore 6, 2) := by decide +kernel
theorem dX1_orderOf_137 : decode cX1_orderOf 137 = .ok (.aload_n 2, 1) := by decide +kernel
theorem dX1_orderOf_138 : decode cX1_orderOf 138 = .ok (.getfield 24, 3) := by decide +kernel
theorem dX1_orderOf_141 : decode cX1_orderOf 141 = .ok (.iload_n 3, 1) := by decide +kernel
theorem dX1_orderOf_142 : decode cX1_orderOf 142 = .ok (.iaload, 1) := by decide +kernel
theorem dX1_orderOf_143 : decode cX1_orderOf 143 = .ok (.istore 7, 2) := by decide +kernel
theorem dX1_orderOf_145 : decode cX1_orderOf 145 = .ok (.iconst 0, 1) := by decide +kernel
theorem dX1_orderOf_146 : decode cX1_orderOf 146 = .ok (.istore 8, 2) := by decide +kernel
theorem dX1_orderOf_148 : decode cX1_orderOf 148 = .ok (.iload 8, 2) := by decide +kernel
theorem dX1_orderOf_150 : decode cX1_orderOf 150 = .ok (.aload_n 0, 1) := by decide +kernel
theorem dX1_orderOf_151 : decode cX1_orderOf 151 = .ok (.getfield 21, 3) := by decide +kernel
theorem dX1_orderOf_154 : decode cX1_orderOf 154 = .ok (.iload_n 1, 1) := by decide +kernel
theorem dX1_orderOf_155 : decode cX1_orderOf 155 = .ok (.iaload, 1) := by decide +kernel
theorem dX1_orderOf_156 : decode cX1_orderOf 156 = .ok (.if_icmp .ge 45, 3) := by decide +kernel
theorem dX1_orderOf_159 : decode cX1_orderOf 159 = .ok (.iload 5, 2) := by decide +kernel
theorem dX1_orderOf_161 : decode cX1_orderOf 161 = .ok (.ifCond .ne 40, 3) := by decide +kernel
theorem dX1_orderOf_164 : decode cX1_orderOf 164 = .ok (.aload_n 0, 1) := by decide +kernel
theorem dX1_orderOf_165 : decode cX1_orderOf 165 = .ok (.iload 6, 2) := by decide +kernel
theorem dX1_orderOf_167 : decode cX1_orderOf 167 = .ok (.aload_n 2, 1) := by decide +kernel
theorem dX1_orderOf_168 : decode cX1_orderOf 168 = .ok (.iload 7, 2) := by decide +kernel
theorem dX1_orderOf_170 : decode cX1_orderOf 170 = .ok (.iload 4, 2) := by decide +kernel
theorem dX1_orderOf_172 : decode cX1_orderOf 172 = .ok (.iconst 1, 1) := by decide +kernel
theorem dX1_orderOf_173 : decode cX1_orderOf 173 = .ok (.iadd, 1) := by decide +kernel
theorem dX1_orderOf_174 : decode cX1_orderOf 174 = .ok (.invokestatic 126, 3) := by decide +kernel
theorem dX1_orderOf_177 : decode cX1_orderOf 177 = .ok (.istore 5, 2) := by decide +kernel
theorem dX1_orderOf_179 : decode cX1_orderOf 179 = .ok (.aload_n 0, 1) := by decide +kernel
theorem dX1_orderOf_180 : decode cX1_orderOf 180 = .ok (.iload 6, 2) := by decide +kernel
theorem dX1_orderOf_182 : decode cX1_orderOf 182 = .ok (.invokevirtual 68, 3) := by decide +kernel
theorem dX1_orderOf_185 : decode cX1_orderOf 185 = .ok (.istore 6, 2) := by decide +kernel
theorem dX1_orderOf_187 : decode cX1_orderOf 187 = .ok (.aload_n 2, 1) := by decide +kernel
theorem dX1_orderOf_188 : decode cX1_orderOf 188 = .ok (.iload 7, 2) := by decide +kernel
theorem dX1_orderOf_190 : decode cX1_orderOf 190 = .ok (.invokevirtual 68, 3) := by decide +kernel
theorem dX1_orderOf_193 : decode cX1_orderOf 193 = .ok (.istore 7, 2) := by decide +kernel
theorem dX1_orderOf_195 : decode cX1_orderOf 195 = .ok (.iinc 8 1, 3) := by decide +kernel
theorem dX1_orderOf_198 : decode cX1_orderOf 198 = .ok (.goto (-50), 3) := by decide +kernel
theorem dX1_orderOf_201 : decode cX1_orderOf 201 = .ok (.iload 5, 2) := by decide +kernel
theorem dX1_orderOf_203 : decode cX1_orderOf 203 = .ok (.ireturn, 1) := by decide +kernel
theorem dX1_orderOfTerms_0 : decode cX1_orderOfTerms 0 = .ok (.aload_n 2, 1) := by decide +kernel
theorem dX1_orderOfTerms_1 : decode cX1_orderOfTerms 1 = .ok (.iload_n 3, 1) := by decide +kernel
theorem dX1_orderOfTerms_2 : decode cX1_orderOfTerms 2 = .ok (.invokevirtual 61, 3) := by decide +kernel
theorem dX1_orderOfTerms_5 : decode cX1_orderOfTerms 5 = .ok (.aload_n 0, 1) := by decide +kernel
theorem dX1_orderOfTerms_6 : decode cX1_orderOfTerms 6 = .ok (.iload_n 1, 1) := by decide +kernel
theorem dX1_orderOfTerms_7 : decode cX1_orderOfTerms 7 = .ok (.invokevirtual 61, 3) := by decide +kernel
theorem dX1_orderOfTerms_10 : decode cX1_orderOfTerms 10 = .ok (.invokestatic 139, 3) := by decide +kernel
theorem dX1_orderOfTerms_13 : decode cX1_orderOfTerms 13 = .ok (.istore 5, 2) := by decide +kernel
theorem dX1_orderOfTerms_15 : decode cX1_orderOfTerms 15 = .ok (.iload 5, 2) := by decide +kernel
theorem dX1_orderOfTerms_17 : decode cX1_orderOfTerms 17 = .ok (.ifCond .eq 8, 3) := by decide +kernel
theorem dX1_orderOfTerms_20 : decode cX1_orderOfTerms 20 = .ok (.iload 5, 2) := by decide +kernel
theorem dX1_orderOfTerms_22 : decode cX1_orderOfTerms 22 = .ok (.goto 12, 3) := by decide +kernel
theorem dX1_orderOfTerms_25 : decode cX1_orderOfTerms 25 = .ok (.aload_n 0, 1) := by decide +kernel
theorem dX1_orderOfTerms_26 : decode cX1_orderOfTerms 26 = .ok (.iload_n 1, 1) := by decide +kernel
theorem dX1_orderOfTerms_27 : decode cX1_orderOfTerms 27 = .ok (.aload_n 2, 1) := by decide +kernel
theorem dX1_orderOfTerms_28 : decode cX1_orderOfTerms 28 = .ok (.iload_n 3, 1) := by decide +kernel
theorem dX1_orderOfTerms_29 : decode cX1_orderOfTerms 29 = .ok (.iload 4, 2) := by decide +kernel
theorem dX1_orderOfTerms_31 : decode cX1_orderOfTerms 31 = .ok (.invokestatic 133, 3) := by decide +kernel
theorem dX1_orderOfTerms_34 : decode cX1_orderOfTerms 34 = .ok (.ireturn, 1) := by decide +kernel
theorem dX2_init_0 : decode cX2_init 0 = .ok (.aload_n 0, 1) := by decide +kernel
theorem dX2_init_1 : decode cX2_init 1 = .ok (.invokespecial 3, 3) := by decide +kernel
theorem dX2_init_4 : decode cX2_init 4 = .ok (.aload_n 0, 1) := by decide +kernel
theorem dX2_init_5 : decode cX2_init 5 = .ok (.bipush 6, 2) := by decide +kernel
theorem dX2_init_7 : decode cX2_init 7 = .ok (.newarray .int, 2) := by decide +kernel
theorem dX2_init_9 : decode cX2_init 9 = .ok (.putfield 9, 3) := by decide +kernel
theorem dX2_init_12 : decode cX2_init 12 = .ok (.aload_n 0, 1) := by decide +kernel
theorem dX2_init_13 : decode cX2_init 13 = .ok (.bipush 12, 2) := by decide +kernel
theorem dX2_init_15 : decode cX2_init 15 = .ok (.newarray .int, 2) := by decide +kernel
theorem dX2_init_17 : decode cX2_init 17 = .ok (.putfield 15, 3) := by decide +kernel
theorem dX2_init_20 : decode cX2_init 20 = .ok (.aload_n 0, 1) := by decide +kernel
theorem dX2_init_21 : decode cX2_init 21 = .ok (.bipush 64, 2) := by decide +kernel
theorem dX2_init_23 : decode cX2_init 23 = .ok (.newarray .boolean, 2) := by decide +kernel
theorem dX2_init_25 : decode cX2_init 25 = .ok (.putfield 18, 3) := by decide +kernel
theorem dX2_init_28 : decode cX2_init 28 = .ok (.aload_n 0, 1) := by decide +kernel
theorem dX2_init_29 : decode cX2_init 29 = .ok (.bipush 6, 2) := by decide +kernel
theorem dX2_init_31 : decode cX2_init 31 = .ok (.newarray .int, 2) := by decide +kernel
theorem dX2_init_33 : decode cX2_init 33 = .ok (.putfield 22, 3) := by decide +kernel
theorem dX2_init_36 : decode cX2_init 36 = .ok (.return_, 1) := by decide +kernel
theorem dX2_look_0 : decode cX2_look 0 = .ok (.aload_n 0, 1) := by decide +kernel
theorem dX2_look_1 : decode cX2_look 1 = .ok (.aload_n 1, 1) := by decide +kernel
theorem dX2_look_2 : decode cX2_look 2 = .ok (.getfield 25, 3) := by decide +kernel
theorem dX2_look_5 : decode cX2_look 5 = .ok (.putfield 31, 3) := by decide +kernel
theorem dX2_look_8 : decode cX2_look 8 = .ok (.aload_n 0, 1) := by decide +kernel
theorem dX2_look_9 : decode cX2_look 9 = .ok (.aload_n 2, 1) := by decide +kernel
theorem dX2_look_10 : decode cX2_look 10 = .ok (.getfield 32, 3) := by decide +kernel
theorem dX2_look_13 : decode cX2_look 13 = .ok (.putfield 37, 3) := by decide +kernel
theorem dX2_look_16 : decode cX2_look 16 = .ok (.aload_n 0, 1) := by decide +kernel
theorem dX2_look_17 : decode cX2_look 17 = .ok (.getfield 9, 3) := by decide +kernel
theorem dX2_look_20 : decode cX2_look 20 = .ok (.iconst 0, 1) := by decide +kernel
theorem dX2_look_21 : decode cX2_look 21 = .ok (.invokestatic 40, 3) := by decide +kernel
theorem dX2_look_24 : decode cX2_look 24 = .ok (.iconst 0, 1) := by decide +kernel
theorem dX2_look_25 : decode cX2_look 25 = .ok (.istore_n 3, 1) := by decide +kernel
theorem dX2_look_26 : decode cX2_look 26 = .ok (.iload_n 3, 1) := by decide +kernel
theorem dX2_look_27 : decode cX2_look 27 = .ok (.aload_n 0, 1) := by decide +kernel
theorem dX2_look_28 : decode cX2_look 28 = .ok (.getfield 37, 3) := by decide +kernel
theorem dX2_look_31 : decode cX2_look 31 = .ok (.if_icmp .ge 40, 3) := by decide +kernel
theorem dX2_look_34 : decode cX2_look 34 = .ok (.aload_n 0, 1) := by decide +kernel
theorem dX2_look_35 : decode cX2_look 35 = .ok (.getfield 15, 3) := by decide +kernel
theorem dX2_look_38 : decode cX2_look 38 = .ok (.iload_n 3, 1) := by decide +kernel
theorem dX2_look_39 : decode cX2_look 39 = .ok (.aload_n 2, 1) := by decide +kernel
theorem dX2_look_40 : decode cX2_look 40 = .ok (.iload_n 3, 1) := by decide +kernel
theorem dX2_look_41 : decode cX2_look 41 = .ok (.invokevirtual 46, 3) := by decide +kernel
theorem dX2_look_44 : decode cX2_look 44 = .ok (.iastore, 1) := by decide +kernel
theorem dX2_look_45 : decode cX2_look 45 = .ok (.aload_n 2, 1) := by decide +kernel
theorem dX2_look_46 : decode cX2_look 46 = .ok (.getfield 50, 3) := by decide +kernel
theorem dX2_look_49 : decode cX2_look 49 = .ok (.iload_n 3, 1) := by decide +kernel
theorem dX2_look_50 : decode cX2_look 50 = .ok (.iaload, 1) := by decide +kernel
theorem dX2_look_51 : decode cX2_look 51 = .ok (.aload_n 1, 1) := by decide +kernel
theorem dX2_look_52 : decode cX2_look 52 = .ok (.getfield 53, 3) := by decide +kernel
theorem dX2_look_55 : decode cX2_look 55 = .ok (.if_icmp .ne 10, 3) := by decide +kernel
theorem dX2_look_58 : decode cX2_look 58 = .ok (.aload_n 0, 1) := by decide +kernel
theorem dX2_look_59 : decode cX2_look 59 = .ok (.iload_n 3, 1) := by decide +kernel
theorem dX2_look_60 : decode cX2_look 60 = .ok (.aload_n 1, 1) := by decide +kernel
theorem dX2_look_61 : decode cX2_look 61 = .ok (.aload_n 2, 1) := by decide +kernel
theorem dX2_look_62 : decode cX2_look 62 = .ok (.invokevirtual 56, 3) := by decide +kernel
theorem dX2_look_65 : decode cX2_look 65 = .ok (.iinc 3 1, 3) := by decide +kernel
theorem dX2_look_68 : decode cX2_look 68 = .ok (.goto (-42), 3) := by decide +kernel
theorem dX2_look_71 : decode cX2_look 71 = .ok (.return_, 1) := by decide +kernel
theorem dX2_openTo_0 : decode cX2_openTo 0 = .ok (.iconst 0, 1) := by decide +kernel
theorem dX2_openTo_1 : decode cX2_openTo 1 = .ok (.istore 4, 2) := by decide +kernel
theorem dX2_openTo_3 : decode cX2_openTo 3 = .ok (.iload 4, 2) := by decide +kernel
theorem dX2_openTo_5 : decode cX2_openTo 5 = .ok (.aload_n 0, 1) := by decide +kernel
theorem dX2_openTo_6 : decode cX2_openTo 6 = .ok (.getfield 31, 3) := by decide +kernel
theorem dX2_openTo_9 : decode cX2_openTo 9 = .ok (.if_icmp .ge 33, 3) := by decide +kernel
theorem dX2_openTo_12 : decode cX2_openTo 12 = .ok (.aload_n 2, 1) := by decide +kernel
theorem dX2_openTo_13 : decode cX2_openTo 13 = .ok (.iload 4, 2) := by decide +kernel
theorem dX2_openTo_15 : decode cX2_openTo 15 = .ok (.iload_n 1, 1) := by decide +kernel
theorem dX2_openTo_16 : decode cX2_openTo 16 = .ok (.aload_n 3, 1) := by decide +kernel
theorem dX2_openTo_17 : decode cX2_openTo 17 = .ok (.invokevirtual 60, 3) := by decide +kernel
theorem dX2_openTo_20 : decode cX2_openTo 20 = .ok (.ifCond .ne 16, 3) := by decide +kernel
theorem dX2_openTo_23 : decode cX2_openTo 23 = .ok (.aload_n 0, 1) := by decide +kernel
theorem dX2_openTo_24 : decode cX2_openTo 24 = .ok (.getfield 9, 3) := by decide +kernel
theorem dX2_openTo_27 : decode cX2_openTo 27 = .ok (.iload 4, 2) := by decide +kernel
theorem dX2_openTo_29 : decode cX2_openTo 29 = .ok (.dup2, 1) := by decide +kernel
theorem dX2_openTo_30 : decode cX2_openTo 30 = .ok (.iaload, 1) := by decide +kernel
theorem dX2_openTo_31 : decode cX2_openTo 31 = .ok (.iconst 1, 1) := by decide +kernel
theorem dX2_openTo_32 : decode cX2_openTo 32 = .ok (.iload_n 1, 1) := by decide +kernel
theorem dX2_openTo_33 : decode cX2_openTo 33 = .ok (.ishl, 1) := by decide +kernel
theorem dX2_openTo_34 : decode cX2_openTo 34 = .ok (.ior, 1) := by decide +kernel
theorem dX2_openTo_35 : decode cX2_openTo 35 = .ok (.iastore, 1) := by decide +kernel
theorem dX2_openTo_36 : decode cX2_openTo 36 = .ok (.iinc 4 1, 3) := by decide +kernel
theorem dX2_openTo_39 : decode cX2_openTo 39 = .ok (.goto (-36), 3) := by decide +kernel
theorem dX2_openTo_42 : decode cX2_openTo 42 = .ok (.return_, 1) := by decide +kernel
theorem dX2_lowestOf_0 : decode cX2_lowestOf 0 = .ok (.iconst 0, 1) := by decide +kernel
theorem dX2_lowestOf_1 : decode cX2_lowestOf 1 = .ok (.istore_n 2, 1) := by decide +kernel
theorem dX2_lowestOf_2 : decode cX2_lowestOf 2 = .ok (.iload_n 2, 1) := by decide +kernel
theorem dX2_lowestOf_3 : decode cX2_lowestOf 3 = .ok (.aload_n 0, 1) := by decide +kernel
theorem dX2_lowestOf_4 : decode cX2_lowestOf 4 = .ok (.getfield 37, 3) := by decide +kernel
theorem dX2_lowestOf_7 : decode cX2_lowestOf 7 = .ok (.if_icmp .ge 19, 3) := by decide +kernel
theorem dX2_lowestOf_10 : decode cX2_lowestOf 10 = .ok (.iload_n 1, 1) := by decide +kernel
theorem dX2_lowestOf_11 : decode cX2_lowestOf 11 = .ok (.iload_n 2, 1) := by decide +kernel
theorem dX2_lowestOf_12 : decode cX2_lowestOf 12 = .ok (.ishr, 1) := by decide +kernel
theorem dX2_lowestOf_13 : decode cX2_lowestOf 13 = .ok (.iconst 1, 1) := by decide +kernel
theorem dX2_lowestOf_14 : decode cX2_lowestOf 14 = .ok (.iand, 1) := by decide +kernel
theorem dX2_lowestOf_15 : decode cX2_lowestOf 15 = .ok (.ifCond .eq 5, 3) := by decide +kernel
theorem dX2_lowestOf_18 : decode cX2_lowestOf 18 = .ok (.iload_n 2, 1) := by decide +kernel
theorem dX2_lowestOf_19 : decode cX2_lowestOf 19 = .ok (.ireturn, 1) := by decide +kernel
theorem dX2_lowestOf_20 : decode cX2_lowestOf 20 = .ok (.iinc 2 1, 3) := by decide +kernel
theorem dX2_lowestOf_23 : decode cX2_lowestOf 23 = .ok (.goto (-21), 3) := by decide +kernel
theorem dX2_lowestOf_26 : decode cX2_lowestOf 26 = .ok (.iconst (-1), 1) := by decide +kernel
theorem dX2_lowestOf_27 : decode cX2_lowestOf 27 = .ok (.ireturn, 1) := by decide +kernel
theorem dX2_explore_0 : decode cX2_explore 0 = .ok (.aload_n 0, 1) := by decide +kernel
theorem dX2_explore_1 : decode cX2_explore 1 = .ok (.getfield 18, 3) := by decide +kernel
theorem dX2_explore_4 : decode cX2_explore 4 = .ok (.iload_n 1, 1) := by decide +kernel
theorem dX2_explore_5 : decode cX2_explore 5 = .ok (.aload_n 0, 1) := by decide +kernel
theorem dX2_explore_6 : decode cX2_explore 6 = .ok (.getfield 18, 3) := by decide +kernel
theorem dX2_explore_9 : decode cX2_explore 9 = .ok (.arraylength, 1) := by decide +kernel
theorem dX2_explore_10 : decode cX2_explore 10 = .ok (.iconst 1, 1) := by decide +kernel
theorem dX2_explore_11 : decode cX2_explore 11 = .ok (.isub, 1) := by decide +kernel
theorem dX2_explore_12 : decode cX2_explore 12 = .ok (.iand, 1) := by decide +kernel
theorem dX2_explore_13 : decode cX2_explore 13 = .ok (.iconst 1, 1) := by decide +kernel
theorem dX2_explore_14 : decode cX2_explore 14 = .ok (.bastore, 1) := by decide +kernel
theorem dX2_explore_15 : decode cX2_explore 15 = .ok (.iconst 0, 1) := by decide +kernel
theorem dX2_explore_16 : decode cX2_explore 16 = .ok (.istore 4, 2) := by decide +kernel
theorem dX2_explore_18 : decode cX2_explore 18 = .ok (.iload 4, 2) := by decide +kernel
theorem dX2_explore_20 : decode cX2_explore 20 = .ok (.aload_n 0, 1) := by decide +kernel
theorem dX2_explore_21 : decode cX2_explore 21 = .ok (.getfield 31, 3) := by decide +kernel
theorem dX2_explore_24 : decode cX2_explore 24 = .ok (.if_icmp .ge 71, 3) := by decide +kernel
theorem dX2_explore_27 : decode cX2_explore 27 = .ok (.iload_n 3, 1) := by decide +kernel
theorem dX2_explore_28 : decode cX2_explore 28 = .ok (.aload_n 0, 1) := by decide +kernel
theorem dX2_explore_29 : decode cX2_explore 29 = .ok (.getfield 31, 3) := by decide +kernel
theorem dX2_explore_32 : decode cX2_explore 32 = .ok (.if_icmp .ge 63, 3) := by decide +kernel
theorem dX2_explore_35 : decode cX2_explore 35 = .ok (.aload_n 0, 1) := by decide +kernel
theorem dX2_explore_36 : decode cX2_explore 36 = .ok (.aload_n 0, 1) := by decide +kernel
theorem dX2_explore_37 : decode cX2_explore 37 = .ok (.getfield 9, 3) := by decide +kernel
theorem dX2_explore_40 : decode cX2_explore 40 = .ok (.iload 4, 2) := by decide +kernel
theorem dX2_explore_42 : decode cX2_explore 42 = .ok (.iaload, 1) := by decide +kernel
theorem dX2_explore_43 : decode cX2_explore 43 = .ok (.iload_n 2, 1) := by decide +kernel
theorem dX2_explore_44 : decode cX2_explore 44 = .ok (.iconst (-1), 1) := by decide +kernel
theorem dX2_explore_45 : decode cX2_explore 45 = .ok (.ixor, 1) := by decide +kernel
theorem dX2_explore_46 : decode cX2_explore 46 = .ok (.iand, 1) := by decide +kernel
theorem dX2_explore_47 : decode cX2_explore 47 = .ok (.invokevirtual 64, 3) := by decide +kernel
theorem dX2_explore_50 : decode cX2_explore 50 = .ok (.istore 5, 2) := by decide +kernel
theorem dX2_explore_52 : decode cX2_explore 52 = .ok (.iload_n 1, 1) := by decide +kernel
theorem dX2_explore_53 : decode cX2_explore 53 = .ok (.iload 4, 2) := by decide +kernel
theorem dX2_explore_55 : decode cX2_explore 55 = .ok (.ishr, 1) := by decide +kernel
theorem dX2_explore_56 : decode cX2_explore 56 = .ok (.iconst 1, 1) := by decide +kernel
theorem dX2_explore_57 : decode cX2_explore 57 = .ok (.iand, 1) := by decide +kernel
theorem dX2_explore_58 : decode cX2_explore 58 = .ok (.ifCond .ne 31, 3) := by decide +kernel
theorem dX2_explore_61 : decode cX2_explore 61 = .ok (.iload 5, 2) := by decide +kernel
theorem dX2_explore_63 : decode cX2_explore 63 = .ok (.iconst (-1), 1) := by decide +kernel
theorem dX2_explore_64 : decode cX2_explore 64 = .ok (.if_icmp .eq 25, 3) := by decide +kernel
theorem dX2_explore_67 : decode cX2_explore 67 = .ok (.aload_n 0, 1) := by decide +kernel
theorem dX2_explore_68 : decode cX2_explore 68 = .ok (.iload_n 1, 1) := by decide +kernel
theorem dX2_explore_69 : decode cX2_explore 69 = .ok (.iconst 1, 1) := by decide +kernel
theorem dX2_explore_70 : decode cX2_explore 70 = .ok (.iload 4, 2) := by decide +kernel
theorem dX2_explore_72 : decode cX2_explore 72 = .ok (.ishl, 1) := by decide +kernel
theorem dX2_explore_73 : decode cX2_explore 73 = .ok (.ior, 1) := by decide +kernel
theorem dX2_explore_74 : decode cX2_explore 74 = .ok (.iload_n 2, 1) := by decide +kernel
theorem dX2_explore_75 : decode cX2_explore 75 = .ok (.aload_n 0, 1) := by decide +kernel
theorem dX2_explore_76 : decode cX2_explore 76 = .ok (.getfield 15, 3) := by decide +kernel
theorem dX2_explore_79 : decode cX2_explore 79 = .ok (.iload 5, 2) := by decide +kernel
theorem dX2_explore_81 : decode cX2_explore 81 = .ok (.iaload, 1) := by decide +kernel
theorem dX2_explore_82 : decode cX2_explore 82 = .ok (.ior, 1) := by decide +kernel
theorem dX2_explore_83 : decode cX2_explore 83 = .ok (.iload_n 3, 1) := by decide +kernel
theorem dX2_explore_84 : decode cX2_explore 84 = .ok (.iconst 1, 1) := by decide +kernel
theorem dX2_explore_85 : decode cX2_explore 85 = .ok (.iadd, 1) := by decide +kernel
theorem dX2_explore_86 : decode cX2_explore 86 = .ok (.invokevirtual 67, 3) := by decide +kernel
theorem dX2_explore_89 : decode cX2_explore 89 = .ok (.iinc 4 1, 3) := by decide +kernel
theorem dX2_explore_92 : decode cX2_explore 92 = .ok (.goto (-74), 3) := by decide +kernel
theorem dX2_explore_95 : decode cX2_explore 95 = .ok (.return_, 1) := by decide +kernel
theorem dX2_exploreAll_0 : decode cX2_exploreAll 0 = .ok (.iconst 0, 1) := by decide +kernel
theorem dX2_exploreAll_1 : decode cX2_exploreAll 1 = .ok (.istore_n 1, 1) := by decide +kernel
theorem dX2_exploreAll_2 : decode cX2_exploreAll 2 = .ok (.iload_n 1, 1) := by decide +kernel
theorem dX2_exploreAll_3 : decode cX2_exploreAll 3 = .ok (.aload_n 0, 1) := by decide +kernel
theorem dX2_exploreAll_4 : decode cX2_exploreAll 4 = .ok (.getfield 18, 3) := by decide +kernel
theorem dX2_exploreAll_7 : decode cX2_exploreAll 7 = .ok (.arraylength, 1) := by decide +kernel
theorem dX2_exploreAll_8 : decode cX2_exploreAll 8 = .ok (.if_icmp .ge 16, 3) := by decide +kernel
theorem dX2_exploreAll_11 : decode cX2_exploreAll 11 = .ok (.aload_n 0, 1) := by decide +kernel
theorem dX2_exploreAll_12 : decode cX2_exploreAll 12 = .ok (.getfield 18, 3) := by decide +kernel
theorem dX2_exploreAll_15 : decode cX2_exploreAll 15 = .ok (.iload_n 1, 1) := by decide +kernel
theorem dX2_exploreAll_16 : decode cX2_exploreAll 16 = .ok (.iconst 0, 1) := by decide +kernel
theorem dX2_exploreAll_17 : decode cX2_exploreAll 17 = .ok (.bastore, 1) := by decide +kernel
theorem dX2_exploreAll_18 : decode cX2_exploreAll 18 = .ok (.iinc 1 1, 3) := by decide +kernel
theorem dX2_exploreAll_21 : decode cX2_exploreAll 21 = .ok (.goto (-19), 3) := by decide +kernel
theorem dX2_exploreAll_24 : decode cX2_exploreAll 24 = .ok (.aload_n 0, 1) := by decide +kernel
theorem dX2_exploreAll_25 : decode cX2_exploreAll 25 = .ok (.iconst 0, 1) := by decide +kernel
theorem dX2_exploreAll_26 : decode cX2_exploreAll 26 = .ok (.iconst 0, 1) := by decide +kernel
theorem dX2_exploreAll_27 : decode cX2_exploreAll 27 = .ok (.iconst 0, 1) := by decide +kernel
theorem dX2_exploreAll_28 : decode cX2_exploreAll 28 = .ok (.invokevirtual 67, 3) := by decide +kernel
theorem dX2_exploreAll_31 : decode cX2_exploreAll 31 = .ok (.return_, 1) := by decide +kernel
theorem dX2_mostWhoCan_0 : decode cX2_mostWhoCan 0 = .ok (.aload_n 0, 1) := by decide +kernel
theorem dX2_mostWhoCan_1 : decode cX2_mostWhoCan 1 = .ok (.invokevirtual 71, 3) := by decide +kernel
theorem dX2_mostWhoCan_4 : decode cX2_mostWhoCan 4 = .ok (.iconst 0, 1) := by decide +kernel
theorem dX2_mostWhoCan_5 : decode cX2_mostWhoCan 5 = .ok (.istore_n 1, 1) := by decide +kernel
theorem dX2_mostWhoCan_6 : decode cX2_mostWhoCan 6 = .ok (.iconst 0, 1) := by decide +kernel
theorem dX2_mostWhoCan_7 : decode cX2_mostWhoCan 7 = .ok (.istore_n 2, 1) := by decide +kernel
theorem dX2_mostWhoCan_8 : decode cX2_mostWhoCan 8 = .ok (.iload_n 2, 1) := by decide +kernel
theorem dX2_mostWhoCan_9 : decode cX2_mostWhoCan 9 = .ok (.aload_n 0, 1) := by decide +kernel
theorem dX2_mostWhoCan_10 : decode cX2_mostWhoCan 10 = .ok (.getfield 18, 3) := by decide +kernel
theorem dX2_mostWhoCan_13 : decode cX2_mostWhoCan 13 = .ok (.arraylength, 1) := by decide +kernel
theorem dX2_mostWhoCan_14 : decode cX2_mostWhoCan 14 = .ok (.if_icmp .ge 27, 3) := by decide +kernel
theorem dX2_mostWhoCan_17 : decode cX2_mostWhoCan 17 = .ok (.aload_n 0, 1) := by decide +kernel
theorem dX2_mostWhoCan_18 : decode cX2_mostWhoCan 18 = .ok (.getfield 18, 3) := by decide +kernel
theorem dX2_mostWhoCan_21 : decode cX2_mostWhoCan 21 = .ok (.iload_n 2, 1) := by decide +kernel
theorem dX2_mostWhoCan_22 : decode cX2_mostWhoCan 22 = .ok (.baload, 1) := by decide +kernel
theorem dX2_mostWhoCan_23 : decode cX2_mostWhoCan 23 = .ok (.ifCond .eq 12, 3) := by decide +kernel
theorem dX2_mostWhoCan_26 : decode cX2_mostWhoCan 26 = .ok (.iload_n 1, 1) := by decide +kernel
theorem dX2_mostWhoCan_27 : decode cX2_mostWhoCan 27 = .ok (.iload_n 2, 1) := by decide +kernel
theorem dX2_mostWhoCan_28 : decode cX2_mostWhoCan 28 = .ok (.invokestatic 74, 3) := by decide +kernel
theorem dX2_mostWhoCan_31 : decode cX2_mostWhoCan 31 = .ok (.invokestatic 79, 3) := by decide +kernel
theorem dX2_mostWhoCan_34 : decode cX2_mostWhoCan 34 = .ok (.istore_n 1, 1) := by decide +kernel
theorem dX2_mostWhoCan_35 : decode cX2_mostWhoCan 35 = .ok (.iinc 2 1, 3) := by decide +kernel
theorem dX2_mostWhoCan_38 : decode cX2_mostWhoCan 38 = .ok (.goto (-30), 3) := by decide +kernel
theorem dX2_mostWhoCan_41 : decode cX2_mostWhoCan 41 = .ok (.iload_n 1, 1) := by decide +kernel
theorem dX2_mostWhoCan_42 : decode cX2_mostWhoCan 42 = .ok (.ireturn, 1) := by decide +kernel
theorem dX2_fewestToShut_0 : decode cX2_fewestToShut 0 = .ok (.aload_n 0, 1) := by decide +kernel
theorem dX2_fewestToShut_1 : decode cX2_fewestToShut 1 = .ok (.invokevirtual 71, 3) := by decide +kernel
theorem dX2_fewestToShut_4 : decode cX2_fewestToShut 4 = .ok (.iconst 1, 1) := by decide +kernel
theorem dX2_fewestToShut_5 : decode cX2_fewestToShut 5 = .ok (.aload_n 0, 1) := by decide +kernel
theorem dX2_fewestToShut_6 : decode cX2_fewestToShut 6 = .ok (.getfield 31, 3) := by decide +kernel
theorem dX2_fewestToShut_9 : decode cX2_fewestToShut 9 = .ok (.ishl, 1) := by decide +kernel
theorem dX2_fewestToShut_10 : decode cX2_fewestToShut 10 = .ok (.iconst 1, 1) := by decide +kernel
theorem dX2_fewestToShut_11 : decode cX2_fewestToShut 11 = .ok (.isub, 1) := by decide +kernel
theorem dX2_fewestToShut_12 : decode cX2_fewestToShut 12 = .ok (.istore_n 1, 1) := by decide +kernel
theorem dX2_fewestToShut_13 : decode cX2_fewestToShut 13 = .ok (.iload_n 1, 1) := by decide +kernel
theorem dX2_fewestToShut_14 : decode cX2_fewestToShut 14 = .ok (.istore_n 2, 1) := by decide +kernel
theorem dX2_fewestToShut_15 : decode cX2_fewestToShut 15 = .ok (.iconst 0, 1) := by decide +kernel
theorem dX2_fewestToShut_16 : decode cX2_fewestToShut 16 = .ok (.istore_n 3, 1) := by decide +kernel
theorem dX2_fewestToShut_17 : decode cX2_fewestToShut 17 = .ok (.iload_n 3, 1) := by decide +kernel
theorem dX2_fewestToShut_18 : decode cX2_fewestToShut 18 = .ok (.iload_n 1, 1) := by decide +kernel
theorem dX2_fewestToShut_19 : decode cX2_fewestToShut 19 = .ok (.if_icmp .gt 35, 3) := by decide +kernel
theorem dX2_fewestToShut_22 : decode cX2_fewestToShut 22 = .ok (.aload_n 0, 1) := by decide +kernel
theorem dX2_fewestToShut_23 : decode cX2_fewestToShut 23 = .ok (.getfield 18, 3) := by decide +kernel
theorem dX2_fewestToShut_26 : decode cX2_fewestToShut 26 = .ok (.iload_n 1, 1) := by decide +kernel
theorem dX2_fewestToShut_27 : decode cX2_fewestToShut 27 = .ok (.iload_n 3, 1) := by decide +kernel
theorem dX2_fewestToShut_28 : decode cX2_fewestToShut 28 = .ok (.iconst (-1), 1) := by decide +kernel
theorem dX2_fewestToShut_29 : decode cX2_fewestToShut 29 = .ok (.ixor, 1) := by decide +kernel
theorem dX2_fewestToShut_30 : decode cX2_fewestToShut 30 = .ok (.iand, 1) := by decide +kernel
theorem dX2_fewestToShut_31 : decode cX2_fewestToShut 31 = .ok (.baload, 1) := by decide +kernel
theorem dX2_fewestToShut_32 : decode cX2_fewestToShut 32 = .ok (.ifCond .eq 16, 3) := by decide +kernel
theorem dX2_fewestToShut_35 : decode cX2_fewestToShut 35 = .ok (.iload_n 3, 1) := by decide +kernel
theorem dX2_fewestToShut_36 : decode cX2_fewestToShut 36 = .ok (.invokestatic 74, 3) := by decide +kernel
theorem dX2_fewestToShut_39 : decode cX2_fewestToShut 39 = .ok (.iload_n 2, 1) := by decide +kernel
theorem dX2_fewestToShut_40 : decode cX2_fewestToShut 40 = .ok (.invokestatic 74, 3) := by decide +kernel
theorem dX2_fewestToShut_43 : decode cX2_fewestToShut 43 = .ok (.if_icmp .ge 5, 3) := by decide +kernel
theorem dX2_fewestToShut_46 : decode cX2_fewestToShut 46 = .ok (.iload_n 3, 1) := by decide +kernel
theorem dX2_fewestToShut_47 : decode cX2_fewestToShut 47 = .ok (.istore_n 2, 1) := by decide +kernel
theorem dX2_fewestToShut_48 : decode cX2_fewestToShut 48 = .ok (.iinc 3 1, 3) := by decide +kernel
theorem dX2_fewestToShut_51 : decode cX2_fewestToShut 51 = .ok (.goto (-34), 3) := by decide +kernel
theorem dX2_fewestToShut_54 : decode cX2_fewestToShut 54 = .ok (.iload_n 2, 1) := by decide +kernel
theorem dX2_fewestToShut_55 : decode cX2_fewestToShut 55 = .ok (.ireturn, 1) := by decide +kernel
theorem dX2_findOrder_0 : decode cX2_findOrder 0 = .ok (.aload_n 0, 1) := by decide +kernel
theorem dX2_findOrder_1 : decode cX2_findOrder 1 = .ok (.iconst 0, 1) := by decide +kernel
theorem dX2_findOrder_2 : decode cX2_findOrder 2 = .ok (.iconst 0, 1) := by decide +kernel
theorem dX2_findOrder_3 : decode cX2_findOrder 3 = .ok (.iconst 0, 1) := by decide +kernel
theorem dX2_findOrder_4 : decode cX2_findOrder 4 = .ok (.invokevirtual 85, 3) := by decide +kernel
theorem dX2_findOrder_7 : decode cX2_findOrder 7 = .ok (.ireturn, 1) := by decide +kernel
theorem dX2_orderFrom_0 : decode cX2_orderFrom 0 = .ok (.iload_n 3, 1) := by decide +kernel
theorem dX2_orderFrom_1 : decode cX2_orderFrom 1 = .ok (.aload_n 0, 1) := by decide +kernel
theorem dX2_orderFrom_2 : decode cX2_orderFrom 2 = .ok (.getfield 31, 3) := by decide +kernel
theorem dX2_orderFrom_5 : decode cX2_orderFrom 5 = .ok (.if_icmp .lt 5, 3) := by decide +kernel
theorem dX2_orderFrom_8 : decode cX2_orderFrom 8 = .ok (.iconst 1, 1) := by decide +kernel
theorem dX2_orderFrom_9 : decode cX2_orderFrom 9 = .ok (.ireturn, 1) := by decide +kernel
theorem dX2_orderFrom_10 : decode cX2_orderFrom 10 = .ok (.iconst 0, 1) := by decide +kernel
theorem dX2_orderFrom_11 : decode cX2_orderFrom 11 = .ok (.istore 4, 2) := by decide +kernel
theorem dX2_orderFrom_13 : decode cX2_orderFrom 13 = .ok (.iload 4, 2) := by decide +kernel
theorem dX2_orderFrom_15 : decode cX2_orderFrom 15 = .ok (.aload_n 0, 1) := by decide +kernel
theorem dX2_orderFrom_16 : decode cX2_orderFrom 16 = .ok (.getfield 31, 3) := by decide +kernel
theorem dX2_orderFrom_19 : decode cX2_orderFrom 19 = .ok (.if_icmp .ge 76, 3) := by decide +kernel
theorem dX2_orderFrom_22 : decode cX2_orderFrom 22 = .ok (.aload_n 0, 1) := by decide +kernel
theorem dX2_orderFrom_23 : decode cX2_orderFrom 23 = .ok (.aload_n 0, 1) := by decide +kernel
theorem dX2_orderFrom_24 : decode cX2_orderFrom 24 = .ok (.getfield 9, 3) := by decide +kernel
theorem dX2_orderFrom_27 : decode cX2_orderFrom 27 = .ok (.iload 4, 2) := by decide +kernel
theorem dX2_orderFrom_29 : decode cX2_orderFrom 29 = .ok (.iaload, 1) := by decide +kernel
theorem dX2_orderFrom_30 : decode cX2_orderFrom 30 = .ok (.iload_n 2, 1) := by decide +kernel
theorem dX2_orderFrom_31 : decode cX2_orderFrom 31 = .ok (.iconst (-1), 1) := by decide +kernel
theorem dX2_orderFrom_32 : decode cX2_orderFrom 32 = .ok (.ixor, 1) := by decide +kernel
theorem dX2_orderFrom_33 : decode cX2_orderFrom 33 = .ok (.iand, 1) := by decide +kernel
theorem dX2_orderFrom_34 : decode cX2_orderFrom 34 = .ok (.invokevirtual 64, 3) := by decide +kernel
theorem dX2_orderFrom_37 : decode cX2_orderFrom 37 = .ok (.istore 5, 2) := by decide +kernel
theorem dX2_orderFrom_39 : decode cX2_orderFrom 39 = .ok (.iload_n 1, 1) := by decide +kernel
theorem dX2_orderFrom_40 : decode cX2_orderFrom 40 = .ok (.iload 4, 2) := by decide +kernel
theorem dX2_orderFrom_42 : decode cX2_orderFrom 42 = .ok (.ishr, 1) := by decide +kernel
theorem dX2_orderFrom_43 : decode cX2_orderFrom 43 = .ok (.iconst 1, 1) := by decide +kernel
theorem dX2_orderFrom_44 : decode cX2_orderFrom 44 = .ok (.iand, 1) := by decide +kernel
theorem dX2_orderFrom_45 : decode cX2_orderFrom 45 = .ok (.ifCond .ne 44, 3) := by decide +kernel
theorem dX2_orderFrom_48 : decode cX2_orderFrom 48 = .ok (.iload 5, 2) := by decide +kernel
theorem dX2_orderFrom_50 : decode cX2_orderFrom 50 = .ok (.iconst (-1), 1) := by decide +kernel
theorem dX2_orderFrom_51 : decode cX2_orderFrom 51 = .ok (.if_icmp .eq 38, 3) := by decide +kernel
theorem dX2_orderFrom_54 : decode cX2_orderFrom 54 = .ok (.aload_n 0, 1) := by decide +kernel
theorem dX2_orderFrom_55 : decode cX2_orderFrom 55 = .ok (.getfield 22, 3) := by decide +kernel
theorem dX2_orderFrom_58 : decode cX2_orderFrom 58 = .ok (.iload_n 3, 1) := by decide +kernel
theorem dX2_orderFrom_59 : decode cX2_orderFrom 59 = .ok (.iload 4, 2) := by decide +kernel
theorem dX2_orderFrom_61 : decode cX2_orderFrom 61 = .ok (.iastore, 1) := by decide +kernel
theorem dX2_orderFrom_62 : decode cX2_orderFrom 62 = .ok (.aload_n 0, 1) := by decide +kernel
theorem dX2_orderFrom_63 : decode cX2_orderFrom 63 = .ok (.iload_n 1, 1) := by decide +kernel
theorem dX2_orderFrom_64 : decode cX2_orderFrom 64 = .ok (.iconst 1, 1) := by decide +kernel
theorem dX2_orderFrom_65 : decode cX2_orderFrom 65 = .ok (.iload 4, 2) := by decide +kernel
theorem dX2_orderFrom_67 : decode cX2_orderFrom 67 = .ok (.ishl, 1) := by decide +kernel
theorem dX2_orderFrom_68 : decode cX2_orderFrom 68 = .ok (.ior, 1) := by decide +kernel
theorem dX2_orderFrom_69 : decode cX2_orderFrom 69 = .ok (.iload_n 2, 1) := by decide +kernel
theorem dX2_orderFrom_70 : decode cX2_orderFrom 70 = .ok (.aload_n 0, 1) := by decide +kernel
theorem dX2_orderFrom_71 : decode cX2_orderFrom 71 = .ok (.getfield 15, 3) := by decide +kernel
theorem dX2_orderFrom_74 : decode cX2_orderFrom 74 = .ok (.iload 5, 2) := by decide +kernel
theorem dX2_orderFrom_76 : decode cX2_orderFrom 76 = .ok (.iaload, 1) := by decide +kernel
theorem dX2_orderFrom_77 : decode cX2_orderFrom 77 = .ok (.ior, 1) := by decide +kernel
theorem dX2_orderFrom_78 : decode cX2_orderFrom 78 = .ok (.iload_n 3, 1) := by decide +kernel
theorem dX2_orderFrom_79 : decode cX2_orderFrom 79 = .ok (.iconst 1, 1) := by decide +kernel
theorem dX2_orderFrom_80 : decode cX2_orderFrom 80 = .ok (.iadd, 1) := by decide +kernel
theorem dX2_orderFrom_81 : decode cX2_orderFrom 81 = .ok (.invokevirtual 85, 3) := by decide +kernel
theorem dX2_orderFrom_84 : decode cX2_orderFrom 84 = .ok (.ifCond .eq 5, 3) := by decide +kernel
theorem dX2_orderFrom_87 : decode cX2_orderFrom 87 = .ok (.iconst 1, 1) := by decide +kernel
theorem dX2_orderFrom_88 : decode cX2_orderFrom 88 = .ok (.ireturn, 1) := by decide +kernel
theorem dX2_orderFrom_89 : decode cX2_orderFrom 89 = .ok (.iinc 4 1, 3) := by decide +kernel
theorem dX2_orderFrom_92 : decode cX2_orderFrom 92 = .ok (.goto (-79), 3) := by decide +kernel
theorem dX2_orderFrom_95 : decode cX2_orderFrom 95 = .ok (.iconst 0, 1) := by decide +kernel
theorem dX2_orderFrom_96 : decode cX2_orderFrom 96 = .ok (.ireturn, 1) := by decide +kernel
theorem dX2_winningStart_0 : decode cX2_winningStart 0 = .ok (.iconst 0, 1) := by decide +kernel
theorem dX2_winningStart_1 : decode cX2_winningStart 1 = .ok (.istore_n 3, 1) := by decide +kernel
theorem dX2_winningStart_2 : decode cX2_winningStart 2 = .ok (.iload_n 3, 1) := by decide +kernel
theorem dX2_winningStart_3 : decode cX2_winningStart 3 = .ok (.aload_n 0, 1) := by decide +kernel
theorem dX2_winningStart_4 : decode cX2_winningStart 4 = .ok (.getfield 37, 3) := by decide +kernel
theorem dX2_winningStart_7 : decode cX2_winningStart 7 = .ok (.if_icmp .ge 61, 3) := by decide +kernel
theorem dX2_winningStart_10 : decode cX2_winningStart 10 = .ok (.aload_n 0, 1) := by decide +kernel
theorem dX2_winningStart_11 : decode cX2_winningStart 11 = .ok (.getfield 9, 3) := by decide +kernel
theorem dX2_winningStart_14 : decode cX2_winningStart 14 = .ok (.iload_n 1, 1) := by decide +kernel
theorem dX2_winningStart_15 : decode cX2_winningStart 15 = .ok (.iaload, 1) := by decide +kernel
theorem dX2_winningStart_16 : decode cX2_winningStart 16 = .ok (.iload_n 3, 1) := by decide +kernel
theorem dX2_winningStart_17 : decode cX2_winningStart 17 = .ok (.ishr, 1) := by decide +kernel
theorem dX2_winningStart_18 : decode cX2_winningStart 18 = .ok (.iconst 1, 1) := by decide +kernel
theorem dX2_winningStart_19 : decode cX2_winningStart 19 = .ok (.iand, 1) := by decide +kernel
theorem dX2_winningStart_20 : decode cX2_winningStart 20 = .ok (.ifCond .eq 42, 3) := by decide +kernel
theorem dX2_winningStart_23 : decode cX2_winningStart 23 = .ok (.aload_n 0, 1) := by decide +kernel
theorem dX2_winningStart_24 : decode cX2_winningStart 24 = .ok (.aload_n 0, 1) := by decide +kernel
theorem dX2_winningStart_25 : decode cX2_winningStart 25 = .ok (.getfield 9, 3) := by decide +kernel
theorem dX2_winningStart_28 : decode cX2_winningStart 28 = .ok (.iload_n 2, 1) := by decide +kernel
theorem dX2_winningStart_29 : decode cX2_winningStart 29 = .ok (.iaload, 1) := by decide +kernel
theorem dX2_winningStart_30 : decode cX2_winningStart 30 = .ok (.aload_n 0, 1) := by decide +kernel
theorem dX2_winningStart_31 : decode cX2_winningStart 31 = .ok (.getfield 15, 3) := by decide +kernel
theorem dX2_winningStart_34 : decode cX2_winningStart 34 = .ok (.iload_n 3, 1) := by decide +kernel
theorem dX2_winningStart_35 : decode cX2_winningStart 35 = .ok (.iaload, 1) := by decide +kernel
theorem dX2_winningStart_36 : decode cX2_winningStart 36 = .ok (.iconst (-1), 1) := by decide +kernel
theorem dX2_winningStart_37 : decode cX2_winningStart 37 = .ok (.ixor, 1) := by decide +kernel
theorem dX2_winningStart_38 : decode cX2_winningStart 38 = .ok (.iand, 1) := by decide +kernel
theorem dX2_winningStart_39 : decode cX2_winningStart 39 = .ok (.aload_n 0, 1) := by decide +kernel
theorem dX2_winningStart_40 : decode cX2_winningStart 40 = .ok (.getfield 9, 3) := by decide +kernel
theorem dX2_winningStart_43 : decode cX2_winningStart 43 = .ok (.iload_n 1, 1) := by decide +kernel
theorem dX2_winningStart_44 : decode cX2_winningStart 44 = .ok (.iaload, 1) := by decide +kernel
theorem dX2_winningStart_45 : decode cX2_winningStart 45 = .ok (.aload_n 0, 1) := by decide +kernel
theorem dX2_winningStart_46 : decode cX2_winningStart 46 = .ok (.getfield 15, 3) := by decide +kernel
theorem dX2_winningStart_49 : decode cX2_winningStart 49 = .ok (.iload_n 3, 1) := by decide +kernel
theorem dX2_winningStart_50 : decode cX2_winningStart 50 = .ok (.iaload, 1) := by decide +kernel
theorem dX2_winningStart_51 : decode cX2_winningStart 51 = .ok (.iconst (-1), 1) := by decide +kernel
theorem dX2_winningStart_52 : decode cX2_winningStart 52 = .ok (.ixor, 1) := by decide +kernel
theorem dX2_winningStart_53 : decode cX2_winningStart 53 = .ok (.iand, 1) := by decide +kernel
theorem dX2_winningStart_54 : decode cX2_winningStart 54 = .ok (.invokevirtual 89, 3) := by decide +kernel
theorem dX2_winningStart_57 : decode cX2_winningStart 57 = .ok (.ifCond .ne 5, 3) := by decide +kernel
theorem dX2_winningStart_60 : decode cX2_winningStart 60 = .ok (.iload_n 3, 1) := by decide +kernel
theorem dX2_winningStart_61 : decode cX2_winningStart 61 = .ok (.ireturn, 1) := by decide +kernel
theorem dX2_winningStart_62 : decode cX2_winningStart 62 = .ok (.iinc 3 1, 3) := by decide +kernel
theorem dX2_winningStart_65 : decode cX2_winningStart 65 = .ok (.goto (-63), 3) := by decide +kernel
theorem dX2_winningStart_68 : decode cX2_winningStart 68 = .ok (.iconst (-1), 1) := by decide +kernel
theorem dX2_winningStart_69 : decode cX2_winningStart 69 = .ok (.ireturn, 1) := by decide +kernel
theorem dX2_winsFrom_0 : decode cX2_winsFrom 0 = .ok (.iconst 0, 1) := by decide +kernel
theorem dX2_winsFrom_1 : decode cX2_winsFrom 1 = .ok (.istore_n 3, 1) := by decide +kernel
theorem dX2_winsFrom_2 : decode cX2_winsFrom 2 = .ok (.iconst 0, 1) := by decide +kernel
theorem dX2_winsFrom_3 : decode cX2_winsFrom 3 = .ok (.istore 4, 2) := by decide +kernel
theorem dX2_winsFrom_5 : decode cX2_winsFrom 5 = .ok (.iconst 0, 1) := by decide +kernel
theorem dX2_winsFrom_6 : decode cX2_winsFrom 6 = .ok (.istore 5, 2) := by decide +kernel
theorem dX2_winsFrom_8 : decode cX2_winsFrom 8 = .ok (.iconst 0, 1) := by decide +kernel
theorem dX2_winsFrom_9 : decode cX2_winsFrom 9 = .ok (.istore 6, 2) := by decide +kernel
theorem dX2_winsFrom_11 : decode cX2_winsFrom 11 = .ok (.iload 6, 2) := by decide +kernel
theorem dX2_winsFrom_13 : decode cX2_winsFrom 13 = .ok (.aload_n 0, 1) := by decide +kernel
theorem dX2_winsFrom_14 : decode cX2_winsFrom 14 = .ok (.getfield 37, 3) := by decide +kernel
theorem dX2_winsFrom_17 : decode cX2_winsFrom 17 = .ok (.if_icmp .ge 121, 3) := by decide +kernel
theorem dX2_winsFrom_20 : decode cX2_winsFrom 20 = .ok (.aload_n 0, 1) := by decide +kernel
theorem dX2_winsFrom_21 : decode cX2_winsFrom 21 = .ok (.aload_n 0, 1) := by decide +kernel
theorem dX2_winsFrom_22 : decode cX2_winsFrom 22 = .ok (.getfield 15, 3) := by decide +kernel
theorem dX2_winsFrom_25 : decode cX2_winsFrom 25 = .ok (.iload 6, 2) := by decide +kernel
theorem dX2_winsFrom_27 : decode cX2_winsFrom 27 = .ok (.iaload, 1) := by decide +kernel
theorem dX2_winsFrom_28 : decode cX2_winsFrom 28 = .ok (.invokevirtual 64, 3) := by decide +kernel
theorem dX2_winsFrom_31 : decode cX2_winsFrom 31 = .ok (.iload 6, 2) := by decide +kernel
theorem dX2_winsFrom_33 : decode cX2_winsFrom 33 = .ok (.if_icmp .ne 99, 3) := by decide +kernel
theorem dX2_winsFrom_36 : decode cX2_winsFrom 36 = .ok (.iload_n 1, 1) := by decide +kernel
theorem dX2_winsFrom_37 : decode cX2_winsFrom 37 = .ok (.aload_n 0, 1) := by decide +kernel
theorem dX2_winsFrom_38 : decode cX2_winsFrom 38 = .ok (.getfield 15, 3) := by decide +kernel
theorem dX2_winsFrom_41 : decode cX2_winsFrom 41 = .ok (.iload 6, 2) := by decide +kernel
theorem dX2_winsFrom_43 : decode cX2_winsFrom 43 = .ok (.iaload, 1) := by decide +kernel
theorem dX2_winsFrom_44 : decode cX2_winsFrom 44 = .ok (.iand, 1) := by decide +kernel
theorem dX2_winsFrom_45 : decode cX2_winsFrom 45 = .ok (.ifCond .eq 7, 3) := by decide +kernel
theorem dX2_winsFrom_48 : decode cX2_winsFrom 48 = .ok (.iconst 1, 1) := by decide +kernel
theorem dX2_winsFrom_49 : decode cX2_winsFrom 49 = .ok (.goto 4, 3) := by decide +kernel
theorem dX2_winsFrom_52 : decode cX2_winsFrom 52 = .ok (.iconst 0, 1) := by decide +kernel
theorem dX2_winsFrom_53 : decode cX2_winsFrom 53 = .ok (.istore 7, 2) := by decide +kernel
theorem dX2_winsFrom_55 : decode cX2_winsFrom 55 = .ok (.iload_n 2, 1) := by decide +kernel
theorem dX2_winsFrom_56 : decode cX2_winsFrom 56 = .ok (.aload_n 0, 1) := by decide +kernel
theorem dX2_winsFrom_57 : decode cX2_winsFrom 57 = .ok (.getfield 15, 3) := by decide +kernel
theorem dX2_winsFrom_60 : decode cX2_winsFrom 60 = .ok (.iload 6, 2) := by decide +kernel
theorem dX2_winsFrom_62 : decode cX2_winsFrom 62 = .ok (.iaload, 1) := by decide +kernel
theorem dX2_winsFrom_63 : decode cX2_winsFrom 63 = .ok (.iand, 1) := by decide +kernel
theorem dX2_winsFrom_64 : decode cX2_winsFrom 64 = .ok (.ifCond .eq 7, 3) := by decide +kernel
theorem dX2_winsFrom_67 : decode cX2_winsFrom 67 = .ok (.iconst 1, 1) := by decide +kernel
theorem dX2_winsFrom_68 : decode cX2_winsFrom 68 = .ok (.goto 4, 3) := by decide +kernel
theorem dX2_winsFrom_71 : decode cX2_winsFrom 71 = .ok (.iconst 0, 1) := by decide +kernel
theorem dX2_winsFrom_72 : decode cX2_winsFrom 72 = .ok (.istore 8, 2) := by decide +kernel
theorem dX2_winsFrom_74 : decode cX2_winsFrom 74 = .ok (.iload 5, 2) := by decide +kernel
theorem dX2_winsFrom_76 : decode cX2_winsFrom 76 = .ok (.iload 7, 2) := by decide +kernel
theorem dX2_winsFrom_78 : decode cX2_winsFrom 78 = .ok (.ifCond .eq 12, 3) := by decide +kernel
theorem dX2_winsFrom_81 : decode cX2_winsFrom 81 = .ok (.iload 8, 2) := by decide +kernel
theorem dX2_winsFrom_83 : decode cX2_winsFrom 83 = .ok (.ifCond .eq 7, 3) := by decide +kernel
theorem dX2_winsFrom_86 : decode cX2_winsFrom 86 = .ok (.iconst 1, 1) := by decide +kernel
theorem dX2_winsFrom_87 : decode cX2_winsFrom 87 = .ok (.goto 4, 3) := by decide +kernel
theorem dX2_winsFrom_90 : decode cX2_winsFrom 90 = .ok (.iconst 0, 1) := by decide +kernel
theorem dX2_winsFrom_91 : decode cX2_winsFrom 91 = .ok (.iadd, 1) := by decide +kernel
theorem dX2_winsFrom_92 : decode cX2_winsFrom 92 = .ok (.istore 5, 2) := by decide +kernel
theorem dX2_winsFrom_94 : decode cX2_winsFrom 94 = .ok (.iload_n 3, 1) := by decide +kernel
theorem dX2_winsFrom_95 : decode cX2_winsFrom 95 = .ok (.iload 7, 2) := by decide +kernel
theorem dX2_winsFrom_97 : decode cX2_winsFrom 97 = .ok (.ifCond .eq 12, 3) := by decide +kernel
theorem dX2_winsFrom_100 : decode cX2_winsFrom 100 = .ok (.iload 8, 2) := by decide +kernel
theorem dX2_winsFrom_102 : decode cX2_winsFrom 102 = .ok (.ifCond .ne 7, 3) := by decide +kernel
theorem dX2_winsFrom_105 : decode cX2_winsFrom 105 = .ok (.iconst 1, 1) := by decide +kernel
theorem dX2_winsFrom_106 : decode cX2_winsFrom 106 = .ok (.goto 4, 3) := by decide +kernel
theorem dX2_winsFrom_109 : decode cX2_winsFrom 109 = .ok (.iconst 0, 1) := by decide +kernel
theorem dX2_winsFrom_110 : decode cX2_winsFrom 110 = .ok (.iadd, 1) := by decide +kernel
theorem dX2_winsFrom_111 : decode cX2_winsFrom 111 = .ok (.istore_n 3, 1) := by decide +kernel
theorem dX2_winsFrom_112 : decode cX2_winsFrom 112 = .ok (.iload 4, 2) := by decide +kernel
theorem dX2_winsFrom_114 : decode cX2_winsFrom 114 = .ok (.iload 8, 2) := by decide +kernel
theorem dX2_winsFrom_116 : decode cX2_winsFrom 116 = .ok (.ifCond .eq 12, 3) := by decide +kernel
theorem dX2_winsFrom_119 : decode cX2_winsFrom 119 = .ok (.iload 7, 2) := by decide +kernel
theorem dX2_winsFrom_121 : decode cX2_winsFrom 121 = .ok (.ifCond .ne 7, 3) := by decide +kernel
theorem dX2_winsFrom_124 : decode cX2_winsFrom 124 = .ok (.iconst 1, 1) := by decide +kernel
theorem dX2_winsFrom_125 : decode cX2_winsFrom 125 = .ok (.goto 4, 3) := by decide +kernel
theorem dX2_winsFrom_128 : decode cX2_winsFrom 128 = .ok (.iconst 0, 1) := by decide +kernel
theorem dX2_winsFrom_129 : decode cX2_winsFrom 129 = .ok (.iadd, 1) := by decide +kernel
theorem dX2_winsFrom_130 : decode cX2_winsFrom 130 = .ok (.istore 4, 2) := by decide +kernel
theorem dX2_winsFrom_132 : decode cX2_winsFrom 132 = .ok (.iinc 6 1, 3) := by decide +kernel
theorem dX2_winsFrom_135 : decode cX2_winsFrom 135 = .ok (.goto (-124), 3) := by decide +kernel
theorem dX2_winsFrom_138 : decode cX2_winsFrom 138 = .ok (.iload_n 3, 1) := by decide +kernel
theorem dX2_winsFrom_139 : decode cX2_winsFrom 139 = .ok (.iload 4, 2) := by decide +kernel
theorem dX2_winsFrom_141 : decode cX2_winsFrom 141 = .ok (.iload 5, 2) := by decide +kernel
theorem dX2_winsFrom_143 : decode cX2_winsFrom 143 = .ok (.iconst 0, 1) := by decide +kernel
theorem dX2_winsFrom_144 : decode cX2_winsFrom 144 = .ok (.invokestatic 93, 3) := by decide +kernel
theorem dX2_winsFrom_147 : decode cX2_winsFrom 147 = .ok (.ireturn, 1) := by decide +kernel
theorem dX2_moverWins_0 : decode cX2_moverWins 0 = .ok (.iload_n 3, 1) := by decide +kernel
theorem dX2_moverWins_1 : decode cX2_moverWins 1 = .ok (.bipush 12, 2) := by decide +kernel
theorem dX2_moverWins_3 : decode cX2_moverWins 3 = .ok (.if_icmp .le 5, 3) := by decide +kernel
theorem dX2_moverWins_6 : decode cX2_moverWins 6 = .ok (.iconst 0, 1) := by decide +kernel
theorem dX2_moverWins_7 : decode cX2_moverWins 7 = .ok (.ireturn, 1) := by decide +kernel
theorem dX2_moverWins_8 : decode cX2_moverWins 8 = .ok (.iload_n 2, 1) := by decide +kernel
theorem dX2_moverWins_9 : decode cX2_moverWins 9 = .ok (.ifCond .le 19, 3) := by decide +kernel
theorem dX2_moverWins_12 : decode cX2_moverWins 12 = .ok (.iload_n 1, 1) := by decide +kernel
theorem dX2_moverWins_13 : decode cX2_moverWins 13 = .ok (.iload_n 0, 1) := by decide +kernel
theorem dX2_moverWins_14 : decode cX2_moverWins 14 = .ok (.iload_n 2, 1) := by decide +kernel
theorem dX2_moverWins_15 : decode cX2_moverWins 15 = .ok (.iconst 1, 1) := by decide +kernel
theorem dX2_moverWins_16 : decode cX2_moverWins 16 = .ok (.isub, 1) := by decide +kernel
theorem dX2_moverWins_17 : decode cX2_moverWins 17 = .ok (.iload_n 3, 1) := by decide +kernel
theorem dX2_moverWins_18 : decode cX2_moverWins 18 = .ok (.iconst 1, 1) := by decide +kernel
theorem dX2_moverWins_19 : decode cX2_moverWins 19 = .ok (.iadd, 1) := by decide +kernel
theorem dX2_moverWins_20 : decode cX2_moverWins 20 = .ok (.invokestatic 93, 3) := by decide +kernel
theorem dX2_moverWins_23 : decode cX2_moverWins 23 = .ok (.ifCond .ne 5, 3) := by decide +kernel
theorem dX2_moverWins_26 : decode cX2_moverWins 26 = .ok (.iconst 1, 1) := by decide +kernel
theorem dX2_moverWins_27 : decode cX2_moverWins 27 = .ok (.ireturn, 1) := by decide +kernel
theorem dX2_moverWins_28 : decode cX2_moverWins 28 = .ok (.iload_n 0, 1) := by decide +kernel
theorem dX2_moverWins_29 : decode cX2_moverWins 29 = .ok (.ifCond .le 21, 3) := by decide +kernel
theorem dX2_moverWins_32 : decode cX2_moverWins 32 = .ok (.iload_n 1, 1) := by decide +kernel
theorem dX2_moverWins_33 : decode cX2_moverWins 33 = .ok (.iload_n 0, 1) := by decide +kernel
theorem dX2_moverWins_34 : decode cX2_moverWins 34 = .ok (.iconst 1, 1) := by decide +kernel
theorem dX2_moverWins_35 : decode cX2_moverWins 35 = .ok (.isub, 1) := by decide +kernel
theorem dX2_moverWins_36 : decode cX2_moverWins 36 = .ok (.iload_n 2, 1) := by decide +kernel
theorem dX2_moverWins_37 : decode cX2_moverWins 37 = .ok (.iload_n 3, 1) := by decide +kernel
theorem dX2_moverWins_38 : decode cX2_moverWins 38 = .ok (.iconst 1, 1) := by decide +kernel
theorem dX2_moverWins_39 : decode cX2_moverWins 39 = .ok (.iadd, 1) := by decide +kernel
theorem dX2_moverWins_40 : decode cX2_moverWins 40 = .ok (.invokestatic 93, 3) := by decide +kernel
theorem dX2_moverWins_43 : decode cX2_moverWins 43 = .ok (.ifCond .ne 7, 3) := by decide +kernel
theorem dX2_moverWins_46 : decode cX2_moverWins 46 = .ok (.iconst 1, 1) := by decide +kernel
theorem dX2_moverWins_47 : decode cX2_moverWins 47 = .ok (.goto 4, 3) := by decide +kernel
theorem dX2_moverWins_50 : decode cX2_moverWins 50 = .ok (.iconst 0, 1) := by decide +kernel
theorem dX2_moverWins_51 : decode cX2_moverWins 51 = .ok (.ireturn, 1) := by decide +kernel
theorem dX3_init_0 : decode cX3_init 0 = .ok (.aload_n 0, 1) := by decide +kernel
theorem dX3_init_1 : decode cX3_init 1 = .ok (.invokespecial 3, 3) := by decide +kernel
theorem dX3_init_4 : decode cX3_init 4 = .ok (.aload_n 0, 1) := by decide +kernel
theorem dX3_init_5 : decode cX3_init 5 = .ok (.bipush 12, 2) := by decide +kernel
theorem dX3_init_7 : decode cX3_init 7 = .ok (.anewarray 9, 3) := by decide +kernel
theorem dX3_init_10 : decode cX3_init 10 = .ok (.putfield 11, 3) := by decide +kernel
theorem dX3_init_13 : decode cX3_init 13 = .ok (.aload_n 0, 1) := by decide +kernel
theorem dX3_init_14 : decode cX3_init 14 = .ok (.bipush 12, 2) := by decide +kernel
theorem dX3_init_16 : decode cX3_init 16 = .ok (.newarray .int, 2) := by decide +kernel
theorem dX3_init_18 : decode cX3_init 18 = .ok (.putfield 17, 3) := by decide +kernel
theorem dX3_init_21 : decode cX3_init 21 = .ok (.aload_n 0, 1) := by decide +kernel
theorem dX3_init_22 : decode cX3_init 22 = .ok (.bipush 12, 2) := by decide +kernel
theorem dX3_init_24 : decode cX3_init 24 = .ok (.newarray .int, 2) := by decide +kernel
theorem dX3_init_26 : decode cX3_init 26 = .ok (.putfield 21, 3) := by decide +kernel
theorem dX3_init_29 : decode cX3_init 29 = .ok (.aload_n 0, 1) := by decide +kernel
theorem dX3_init_30 : decode cX3_init 30 = .ok (.bipush 12, 2) := by decide +kernel
theorem dX3_init_32 : decode cX3_init 32 = .ok (.newarray .int, 2) := by decide +kernel
theorem dX3_init_34 : decode cX3_init 34 = .ok (.putfield 24, 3) := by decide +kernel
theorem dX3_init_37 : decode cX3_init 37 = .ok (.aload_n 0, 1) := by decide +kernel
theorem dX3_init_38 : decode cX3_init 38 = .ok (.bipush 12, 2) := by decide +kernel
theorem dX3_init_40 : decode cX3_init 40 = .ok (.newarray .int, 2) := by decide +kernel
theorem dX3_init_42 : decode cX3_init 42 = .ok (.putfield 27, 3) := by decide +kernel
theorem dX3_init_45 : decode cX3_init 45 = .ok (.aload_n 0, 1) := by decide +kernel
theorem dX3_init_46 : decode cX3_init 46 = .ok (.bipush 12, 2) := by decide +kernel
theorem dX3_init_48 : decode cX3_init 48 = .ok (.newarray .int, 2) := by decide +kernel
theorem dX3_init_50 : decode cX3_init 50 = .ok (.putfield 30, 3) := by decide +kernel
theorem dX3_init_53 : decode cX3_init 53 = .ok (.aload_n 0, 1) := by decide +kernel
theorem dX3_init_54 : decode cX3_init 54 = .ok (.bipush 12, 2) := by decide +kernel
theorem dX3_init_56 : decode cX3_init 56 = .ok (.newarray .int, 2) := by decide +kernel
theorem dX3_init_58 : decode cX3_init 58 = .ok (.putfield 33, 3) := by decide +kernel
theorem dX3_init_61 : decode cX3_init 61 = .ok (.aload_n 0, 1) := by decide +kernel
theorem dX3_init_62 : decode cX3_init 62 = .ok (.bipush 12, 2) := by decide +kernel
theorem dX3_init_64 : decode cX3_init 64 = .ok (.newarray .int, 2) := by decide +kernel
theorem dX3_init_66 : decode cX3_init 66 = .ok (.putfield 36, 3) := by decide +kernel
theorem dX3_init_69 : decode cX3_init 69 = .ok (.aload_n 0, 1) := by decide +kernel
theorem dX3_init_70 : decode cX3_init 70 = .ok (.bipush 12, 2) := by decide +kernel
theorem dX3_init_72 : decode cX3_init 72 = .ok (.anewarray 9, 3) := by decide +kernel
theorem dX3_init_75 : decode cX3_init 75 = .ok (.putfield 39, 3) := by decide +kernel
theorem dX3_init_78 : decode cX3_init 78 = .ok (.aload_n 0, 1) := by decide +kernel
theorem dX3_init_79 : decode cX3_init 79 = .ok (.bipush 12, 2) := by decide +kernel
theorem dX3_init_81 : decode cX3_init 81 = .ok (.newarray .int, 2) := by decide +kernel
theorem dX3_init_83 : decode cX3_init 83 = .ok (.putfield 42, 3) := by decide +kernel
theorem dX3_init_86 : decode cX3_init 86 = .ok (.aload_n 0, 1) := by decide +kernel
theorem dX3_init_87 : decode cX3_init 87 = .ok (.bipush 12, 2) := by decide +kernel
theorem dX3_init_89 : decode cX3_init 89 = .ok (.newarray .int, 2) := by decide +kernel
theorem dX3_init_91 : decode cX3_init 91 = .ok (.putfield 45, 3) := by decide +kernel
theorem dX3_init_94 : decode cX3_init 94 = .ok (.aload_n 0, 1) := by decide +kernel
theorem dX3_init_95 : decode cX3_init 95 = .ok (.new 9, 3) := by decide +kernel
theorem dX3_init_98 : decode cX3_init 98 = .ok (.dup, 1) := by decide +kernel
theorem dX3_init_99 : decode cX3_init 99 = .ok (.invokespecial 48, 3) := by decide +kernel
theorem dX3_init_102 : decode cX3_init 102 = .ok (.putfield 49, 3) := by decide +kernel
theorem dX3_init_105 : decode cX3_init 105 = .ok (.aload_n 0, 1) := by decide +kernel
theorem dX3_init_106 : decode cX3_init 106 = .ok (.new 9, 3) := by decide +kernel
theorem dX3_init_109 : decode cX3_init 109 = .ok (.dup, 1) := by decide +kernel
theorem dX3_init_110 : decode cX3_init 110 = .ok (.invokespecial 48, 3) := by decide +kernel
theorem dX3_init_113 : decode cX3_init 113 = .ok (.putfield 53, 3) := by decide +kernel
theorem dX3_init_116 : decode cX3_init 116 = .ok (.iconst 0, 1) := by decide +kernel
theorem dX3_init_117 : decode cX3_init 117 = .ok (.istore_n 1, 1) := by decide +kernel
theorem dX3_init_118 : decode cX3_init 118 = .ok (.iload_n 1, 1) := by decide +kernel
theorem dX3_init_119 : decode cX3_init 119 = .ok (.bipush 12, 2) := by decide +kernel
theorem dX3_init_121 : decode cX3_init 121 = .ok (.if_icmp .ge 22, 3) := by decide +kernel
theorem dX3_init_124 : decode cX3_init 124 = .ok (.aload_n 0, 1) := by decide +kernel
theorem dX3_init_125 : decode cX3_init 125 = .ok (.getfield 39, 3) := by decide +kernel
theorem dX3_init_128 : decode cX3_init 128 = .ok (.iload_n 1, 1) := by decide +kernel
theorem dX3_init_129 : decode cX3_init 129 = .ok (.new 9, 3) := by decide +kernel
theorem dX3_init_132 : decode cX3_init 132 = .ok (.dup, 1) := by decide +kernel
theorem dX3_init_133 : decode cX3_init 133 = .ok (.invokespecial 48, 3) := by decide +kernel
theorem dX3_init_136 : decode cX3_init 136 = .ok (.aastore, 1) := by decide +kernel
theorem dX3_init_137 : decode cX3_init 137 = .ok (.iinc 1 1, 3) := by decide +kernel
theorem dX3_init_140 : decode cX3_init 140 = .ok (.goto (-22), 3) := by decide +kernel
theorem dX3_init_143 : decode cX3_init 143 = .ok (.return_, 1) := by decide +kernel
theorem dX3_add_0 : decode cX3_add 0 = .ok (.aload_n 0, 1) := by decide +kernel
theorem dX3_add_1 : decode cX3_add 1 = .ok (.getfield 56, 3) := by decide +kernel
theorem dX3_add_4 : decode cX3_add 4 = .ok (.bipush 12, 2) := by decide +kernel
theorem dX3_add_6 : decode cX3_add 6 = .ok (.if_icmp .lt 5, 3) := by decide +kernel
theorem dX3_add_9 : decode cX3_add 9 = .ok (.iconst 0, 1) := by decide +kernel
theorem dX3_add_10 : decode cX3_add 10 = .ok (.ireturn, 1) := by decide +kernel
theorem dX3_add_11 : decode cX3_add 11 = .ok (.aload_n 0, 1) := by decide +kernel
theorem dX3_add_12 : decode cX3_add 12 = .ok (.getfield 11, 3) := by decide +kernel
theorem dX3_add_15 : decode cX3_add 15 = .ok (.aload_n 0, 1) := by decide +kernel
theorem dX3_add_16 : decode cX3_add 16 = .ok (.getfield 56, 3) := by decide +kernel
theorem dX3_add_19 : decode cX3_add 19 = .ok (.aload_n 1, 1) := by decide +kernel
theorem dX3_add_20 : decode cX3_add 20 = .ok (.getfield 60, 3) := by decide +kernel
theorem dX3_add_23 : decode cX3_add 23 = .ok (.aastore, 1) := by decide +kernel
theorem dX3_add_24 : decode cX3_add 24 = .ok (.aload_n 0, 1) := by decide +kernel
theorem dX3_add_25 : decode cX3_add 25 = .ok (.getfield 17, 3) := by decide +kernel
theorem dX3_add_28 : decode cX3_add 28 = .ok (.aload_n 0, 1) := by decide +kernel
theorem dX3_add_29 : decode cX3_add 29 = .ok (.getfield 56, 3) := by decide +kernel
theorem dX3_add_32 : decode cX3_add 32 = .ok (.aload_n 1, 1) := by decide +kernel
theorem dX3_add_33 : decode cX3_add 33 = .ok (.iload_n 2, 1) := by decide +kernel
theorem dX3_add_34 : decode cX3_add 34 = .ok (.iconst 0, 1) := by decide +kernel
theorem dX3_add_35 : decode cX3_add 35 = .ok (.invokevirtual 65, 3) := by decide +kernel
theorem dX3_add_38 : decode cX3_add 38 = .ok (.iastore, 1) := by decide +kernel
theorem dX3_add_39 : decode cX3_add 39 = .ok (.aload_n 0, 1) := by decide +kernel
theorem dX3_add_40 : decode cX3_add 40 = .ok (.getfield 21, 3) := by decide +kernel
theorem dX3_add_43 : decode cX3_add 43 = .ok (.aload_n 0, 1) := by decide +kernel
theorem dX3_add_44 : decode cX3_add 44 = .ok (.getfield 56, 3) := by decide +kernel
theorem dX3_add_47 : decode cX3_add 47 = .ok (.aload_n 1, 1) := by decide +kernel
theorem dX3_add_48 : decode cX3_add 48 = .ok (.iload_n 2, 1) := by decide +kernel
theorem dX3_add_49 : decode cX3_add 49 = .ok (.iconst 1, 1) := by decide +kernel
theorem dX3_add_50 : decode cX3_add 50 = .ok (.invokevirtual 65, 3) := by decide +kernel
theorem dX3_add_53 : decode cX3_add 53 = .ok (.iastore, 1) := by decide +kernel
theorem dX3_add_54 : decode cX3_add 54 = .ok (.aload_n 0, 1) := by decide +kernel
theorem dX3_add_55 : decode cX3_add 55 = .ok (.getfield 24, 3) := by decide +kernel
theorem dX3_add_58 : decode cX3_add 58 = .ok (.aload_n 0, 1) := by decide +kernel
theorem dX3_add_59 : decode cX3_add 59 = .ok (.getfield 56, 3) := by decide +kernel
theorem dX3_add_62 : decode cX3_add 62 = .ok (.aload_n 1, 1) := by decide +kernel
theorem dX3_add_63 : decode cX3_add 63 = .ok (.iload_n 2, 1) := by decide +kernel
theorem dX3_add_64 : decode cX3_add 64 = .ok (.iconst 2, 1) := by decide +kernel
theorem dX3_add_65 : decode cX3_add 65 = .ok (.invokevirtual 65, 3) := by decide +kernel
theorem dX3_add_68 : decode cX3_add 68 = .ok (.iastore, 1) := by decide +kernel
theorem dX3_add_69 : decode cX3_add 69 = .ok (.aload_n 0, 1) := by decide +kernel
theorem dX3_add_70 : decode cX3_add 70 = .ok (.getfield 27, 3) := by decide +kernel
theorem dX3_add_73 : decode cX3_add 73 = .ok (.aload_n 0, 1) := by decide +kernel
theorem dX3_add_74 : decode cX3_add 74 = .ok (.getfield 56, 3) := by decide +kernel
theorem dX3_add_77 : decode cX3_add 77 = .ok (.aload_n 1, 1) := by decide +kernel
theorem dX3_add_78 : decode cX3_add 78 = .ok (.iload_n 2, 1) := by decide +kernel
theorem dX3_add_79 : decode cX3_add 79 = .ok (.iconst 3, 1) := by decide +kernel
theorem dX3_add_80 : decode cX3_add 80 = .ok (.invokevirtual 65, 3) := by decide +kernel
theorem dX3_add_83 : decode cX3_add 83 = .ok (.iastore, 1) := by decide +kernel
theorem dX3_add_84 : decode cX3_add 84 = .ok (.aload_n 0, 1) := by decide +kernel
theorem dX3_add_85 : decode cX3_add 85 = .ok (.getfield 30, 3) := by decide +kernel
theorem dX3_add_88 : decode cX3_add 88 = .ok (.aload_n 0, 1) := by decide +kernel
theorem dX3_add_89 : decode cX3_add 89 = .ok (.getfield 56, 3) := by decide +kernel
theorem dX3_add_92 : decode cX3_add 92 = .ok (.aload_n 1, 1) := by decide +kernel
theorem dX3_add_93 : decode cX3_add 93 = .ok (.iload_n 2, 1) := by decide +kernel
theorem dX3_add_94 : decode cX3_add 94 = .ok (.iconst 4, 1) := by decide +kernel
theorem dX3_add_95 : decode cX3_add 95 = .ok (.invokevirtual 65, 3) := by decide +kernel
theorem dX3_add_98 : decode cX3_add 98 = .ok (.iastore, 1) := by decide +kernel
theorem dX3_add_99 : decode cX3_add 99 = .ok (.aload_n 0, 1) := by decide +kernel
theorem dX3_add_100 : decode cX3_add 100 = .ok (.getfield 33, 3) := by decide +kernel
theorem dX3_add_103 : decode cX3_add 103 = .ok (.aload_n 0, 1) := by decide +kernel
theorem dX3_add_104 : decode cX3_add 104 = .ok (.getfield 56, 3) := by decide +kernel
theorem dX3_add_107 : decode cX3_add 107 = .ok (.aload_n 1, 1) := by decide +kernel
theorem dX3_add_108 : decode cX3_add 108 = .ok (.iload_n 2, 1) := by decide +kernel
theorem dX3_add_109 : decode cX3_add 109 = .ok (.iconst 5, 1) := by decide +kernel
theorem dX3_add_110 : decode cX3_add 110 = .ok (.invokevirtual 65, 3) := by decide +kernel
theorem dX3_add_113 : decode cX3_add 113 = .ok (.iastore, 1) := by decide +kernel
theorem dX3_add_114 : decode cX3_add 114 = .ok (.aload_n 0, 1) := by decide +kernel
theorem dX3_add_115 : decode cX3_add 115 = .ok (.dup, 1) := by decide +kernel
theorem dX3_add_116 : decode cX3_add 116 = .ok (.getfield 56, 3) := by decide +kernel
theorem dX3_add_119 : decode cX3_add 119 = .ok (.iconst 1, 1) := by decide +kernel
theorem dX3_add_120 : decode cX3_add 120 = .ok (.iadd, 1) := by decide +kernel
theorem dX3_add_121 : decode cX3_add 121 = .ok (.putfield 56, 3) := by decide +kernel
theorem dX3_add_124 : decode cX3_add 124 = .ok (.iconst 1, 1) := by decide +kernel
theorem dX3_add_125 : decode cX3_add 125 = .ok (.ireturn, 1) := by decide +kernel
theorem dX3_setEqualities_0 : decode cX3_setEqualities 0 = .ok (.aload_n 0, 1) := by decide +kernel
theorem dX3_setEqualities_1 : decode cX3_setEqualities 1 = .ok (.iload_n 1, 1) := by decide +kernel
theorem dX3_setEqualities_2 : decode cX3_setEqualities 2 = .ok (.putfield 69, 3) := by decide +kernel
theorem dX3_setEqualities_5 : decode cX3_setEqualities 5 = .ok (.aload_n 0, 1) := by decide +kernel
theorem dX3_setEqualities_6 : decode cX3_setEqualities 6 = .ok (.iconst 0, 1) := by decide +kernel
theorem dX3_setEqualities_7 : decode cX3_setEqualities 7 = .ok (.putfield 72, 3) := by decide +kernel
theorem dX3_setEqualities_10 : decode cX3_setEqualities 10 = .ok (.return_, 1) := by decide +kernel
theorem dX3_answerIn_0 : decode cX3_answerIn 0 = .ok (.aload_n 0, 1) := by decide +kernel
theorem dX3_answerIn_1 : decode cX3_answerIn 1 = .ok (.getfield 11, 3) := by decide +kernel
theorem dX3_answerIn_4 : decode cX3_answerIn 4 = .ok (.iload_n 1, 1) := by decide +kernel
theorem dX3_answerIn_5 : decode cX3_answerIn 5 = .ok (.aaload, 1) := by decide +kernel
theorem dX3_answerIn_6 : decode cX3_answerIn 6 = .ok (.astore 4, 2) := by decide +kernel
theorem dX3_answerIn_8 : decode cX3_answerIn 8 = .ok (.aload 4, 2) := by decide +kernel
theorem dX3_answerIn_10 : decode cX3_answerIn 10 = .ok (.ifnonnull 7, 3) := by decide +kernel
theorem dX3_answerIn_13 : decode cX3_answerIn 13 = .ok (.iconst 0, 1) := by decide +kernel
theorem dX3_answerIn_14 : decode cX3_answerIn 14 = .ok (.goto 22, 3) := by decide +kernel
theorem dX3_answerIn_17 : decode cX3_answerIn 17 = .ok (.aload_n 2, 1) := by decide +kernel
theorem dX3_answerIn_18 : decode cX3_answerIn 18 = .ok (.aload 4, 2) := by decide +kernel
theorem dX3_answerIn_20 : decode cX3_answerIn 20 = .ok (.aload_n 0, 1) := by decide +kernel
theorem dX3_answerIn_21 : decode cX3_answerIn 21 = .ok (.getfield 17, 3) := by decide +kernel
theorem dX3_answerIn_24 : decode cX3_answerIn 24 = .ok (.iload_n 1, 1) := by decide +kernel
theorem dX3_answerIn_25 : decode cX3_answerIn 25 = .ok (.iaload, 1) := by decide +kernel
theorem dX3_answerIn_26 : decode cX3_answerIn 26 = .ok (.aload_n 0, 1) := by decide +kernel
theorem dX3_answerIn_27 : decode cX3_answerIn 27 = .ok (.getfield 21, 3) := by decide +kernel
theorem dX3_answerIn_30 : decode cX3_answerIn 30 = .ok (.iload_n 1, 1) := by decide +kernel
theorem dX3_answerIn_31 : decode cX3_answerIn 31 = .ok (.iaload, 1) := by decide +kernel
theorem dX3_answerIn_32 : decode cX3_answerIn 32 = .ok (.aload_n 3, 1) := by decide +kernel
theorem dX3_answerIn_33 : decode cX3_answerIn 33 = .ok (.invokevirtual 75, 3) := by decide +kernel
theorem dX3_answerIn_36 : decode cX3_answerIn 36 = .ok (.ireturn, 1) := by decide +kernel
theorem dX3_workAll_0 : decode cX3_workAll 0 = .ok (.iconst 0, 1) := by decide +kernel
theorem dX3_workAll_1 : decode cX3_workAll 1 = .ok (.istore_n 2, 1) := by decide +kernel
theorem dX3_workAll_2 : decode cX3_workAll 2 = .ok (.iload_n 2, 1) := by decide +kernel
theorem dX3_workAll_3 : decode cX3_workAll 3 = .ok (.aload_n 0, 1) := by decide +kernel
theorem dX3_workAll_4 : decode cX3_workAll 4 = .ok (.getfield 56, 3) := by decide +kernel
theorem dX3_workAll_7 : decode cX3_workAll 7 = .ok (.if_icmp .ge 25, 3) := by decide +kernel
theorem dX3_workAll_10 : decode cX3_workAll 10 = .ok (.aload_n 0, 1) := by decide +kernel
theorem dX3_workAll_11 : decode cX3_workAll 11 = .ok (.getfield 36, 3) := by decide +kernel
theorem dX3_workAll_14 : decode cX3_workAll 14 = .ok (.iload_n 2, 1) := by decide +kernel
theorem dX3_workAll_15 : decode cX3_workAll 15 = .ok (.aload_n 0, 1) := by decide +kernel
theorem dX3_workAll_16 : decode cX3_workAll 16 = .ok (.iload_n 2, 1) := by decide +kernel
theorem dX3_workAll_17 : decode cX3_workAll 17 = .ok (.aload_n 1, 1) := by decide +kernel
theorem dX3_workAll_18 : decode cX3_workAll 18 = .ok (.aload_n 1, 1) := by decide +kernel
theorem dX3_workAll_19 : decode cX3_workAll 19 = .ok (.getfield 81, 3) := by decide +kernel
theorem dX3_workAll_22 : decode cX3_workAll 22 = .ok (.invokevirtual 84, 3) := by decide +kernel
theorem dX3_workAll_25 : decode cX3_workAll 25 = .ok (.iastore, 1) := by decide +kernel
theorem dX3_workAll_26 : decode cX3_workAll 26 = .ok (.iinc 2 1, 3) := by decide +kernel
theorem dX3_workAll_29 : decode cX3_workAll 29 = .ok (.goto (-27), 3) := by decide +kernel
theorem dX3_workAll_32 : decode cX3_workAll 32 = .ok (.return_, 1) := by decide +kernel
theorem dX3_areAlike_0 : decode cX3_areAlike 0 = .ok (.aload_n 0, 1) := by decide +kernel
theorem dX3_areAlike_1 : decode cX3_areAlike 1 = .ok (.getfield 45, 3) := by decide +kernel
theorem dX3_areAlike_4 : decode cX3_areAlike 4 = .ok (.iload_n 1, 1) := by decide +kernel
theorem dX3_areAlike_5 : decode cX3_areAlike 5 = .ok (.iaload, 1) := by decide +kernel
theorem dX3_areAlike_6 : decode cX3_areAlike 6 = .ok (.aload_n 0, 1) := by decide +kernel
theorem dX3_areAlike_7 : decode cX3_areAlike 7 = .ok (.getfield 45, 3) := by decide +kernel
theorem dX3_areAlike_10 : decode cX3_areAlike 10 = .ok (.iload_n 2, 1) := by decide +kernel
theorem dX3_areAlike_11 : decode cX3_areAlike 11 = .ok (.iaload, 1) := by decide +kernel
theorem dX3_areAlike_12 : decode cX3_areAlike 12 = .ok (.if_icmp .ne 7, 3) := by decide +kernel
theorem dX3_areAlike_15 : decode cX3_areAlike 15 = .ok (.iconst 1, 1) := by decide +kernel
theorem dX3_areAlike_16 : decode cX3_areAlike 16 = .ok (.goto 4, 3) := by decide +kernel
theorem dX3_areAlike_19 : decode cX3_areAlike 19 = .ok (.iconst 0, 1) := by decide +kernel
theorem dX3_areAlike_20 : decode cX3_areAlike 20 = .ok (.ireturn, 1) := by decide +kernel
theorem dX3_allAlike_0 : decode cX3_allAlike 0 = .ok (.iconst 0, 1) := by decide +kernel
theorem dX3_allAlike_1 : decode cX3_allAlike 1 = .ok (.istore_n 2, 1) := by decide +kernel
theorem dX3_allAlike_2 : decode cX3_allAlike 2 = .ok (.iconst 0, 1) := by decide +kernel
theorem dX3_allAlike_3 : decode cX3_allAlike 3 = .ok (.istore_n 3, 1) := by decide +kernel
theorem dX3_allAlike_4 : decode cX3_allAlike 4 = .ok (.iload_n 3, 1) := by decide +kernel
theorem dX3_allAlike_5 : decode cX3_allAlike 5 = .ok (.aload_n 0, 1) := by decide +kernel
theorem dX3_allAlike_6 : decode cX3_allAlike 6 = .ok (.getfield 56, 3) := by decide +kernel
theorem dX3_allAlike_9 : decode cX3_allAlike 9 = .ok (.if_icmp .ge 24, 3) := by decide +kernel
theorem dX3_allAlike_12 : decode cX3_allAlike 12 = .ok (.aload_n 0, 1) := by decide +kernel
theorem dX3_allAlike_13 : decode cX3_allAlike 13 = .ok (.iload_n 3, 1) := by decide +kernel
theorem dX3_allAlike_14 : decode cX3_allAlike 14 = .ok (.iload_n 1, 1) := by decide +kernel
theorem dX3_allAlike_15 : decode cX3_allAlike 15 = .ok (.invokevirtual 88, 3) := by decide +kernel
theorem dX3_allAlike_18 : decode cX3_allAlike 18 = .ok (.ifCond .eq 9, 3) := by decide +kernel
theorem dX3_allAlike_21 : decode cX3_allAlike 21 = .ok (.iload_n 2, 1) := by decide +kernel
theorem dX3_allAlike_22 : decode cX3_allAlike 22 = .ok (.iconst 1, 1) := by decide +kernel
theorem dX3_allAlike_23 : decode cX3_allAlike 23 = .ok (.iload_n 3, 1) := by decide +kernel
theorem dX3_allAlike_24 : decode cX3_allAlike 24 = .ok (.ishl, 1) := by decide +kernel
theorem dX3_allAlike_25 : decode cX3_allAlike 25 = .ok (.ior, 1) := by decide +kernel
theorem dX3_allAlike_26 : decode cX3_allAlike 26 = .ok (.istore_n 2, 1) := by decide +kernel
theorem dX3_allAlike_27 : decode cX3_allAlike 27 = .ok (.iinc 3 1, 3) := by decide +kernel
theorem dX3_allAlike_30 : decode cX3_allAlike 30 = .ok (.goto (-26), 3) := by decide +kernel
theorem dX3_allAlike_33 : decode cX3_allAlike 33 = .ok (.iload_n 2, 1) := by decide +kernel
theorem dX3_allAlike_34 : decode cX3_allAlike 34 = .ok (.ireturn, 1) := by decide +kernel
theorem dX3_sayAll_0 : decode cX3_sayAll 0 = .ok (.aload_n 0, 1) := by decide +kernel
theorem dX3_sayAll_1 : decode cX3_sayAll 1 = .ok (.getfield 72, 3) := by decide +kernel
theorem dX3_sayAll_4 : decode cX3_sayAll 4 = .ok (.istore_n 1, 1) := by decide +kernel
theorem dX3_sayAll_5 : decode cX3_sayAll 5 = .ok (.iload_n 1, 1) := by decide +kernel
theorem dX3_sayAll_6 : decode cX3_sayAll 6 = .ok (.aload_n 0, 1) := by decide +kernel
theorem dX3_sayAll_7 : decode cX3_sayAll 7 = .ok (.getfield 56, 3) := by decide +kernel
theorem dX3_sayAll_10 : decode cX3_sayAll 10 = .ok (.if_icmp .ge 132, 3) := by decide +kernel
theorem dX3_sayAll_13 : decode cX3_sayAll 13 = .ok (.aload_n 0, 1) := by decide +kernel
theorem dX3_sayAll_14 : decode cX3_sayAll 14 = .ok (.getfield 39, 3) := by decide +kernel
theorem dX3_sayAll_17 : decode cX3_sayAll 17 = .ok (.iload_n 1, 1) := by decide +kernel
theorem dX3_sayAll_18 : decode cX3_sayAll 18 = .ok (.aaload, 1) := by decide +kernel
theorem dX3_sayAll_19 : decode cX3_sayAll 19 = .ok (.iconst 0, 1) := by decide +kernel
theorem dX3_sayAll_20 : decode cX3_sayAll 20 = .ok (.putfield 92, 3) := by decide +kernel
theorem dX3_sayAll_23 : decode cX3_sayAll 23 = .ok (.aload_n 0, 1) := by decide +kernel
theorem dX3_sayAll_24 : decode cX3_sayAll 24 = .ok (.getfield 42, 3) := by decide +kernel
theorem dX3_sayAll_27 : decode cX3_sayAll 27 = .ok (.iload_n 1, 1) := by decide +kernel
theorem dX3_sayAll_28 : decode cX3_sayAll 28 = .ok (.aload_n 0, 1) := by decide +kernel
theorem dX3_sayAll_29 : decode cX3_sayAll 29 = .ok (.getfield 11, 3) := by decide +kernel
theorem dX3_sayAll_32 : decode cX3_sayAll 32 = .ok (.iload_n 1, 1) := by decide +kernel
theorem dX3_sayAll_33 : decode cX3_sayAll 33 = .ok (.aaload, 1) := by decide +kernel
theorem dX3_sayAll_34 : decode cX3_sayAll 34 = .ok (.ifnonnull 7, 3) := by decide +kernel
theorem dX3_sayAll_37 : decode cX3_sayAll 37 = .ok (.iconst (-1), 1) := by decide +kernel
theorem dX3_sayAll_38 : decode cX3_sayAll 38 = .ok (.goto 29, 3) := by decide +kernel
theorem dX3_sayAll_41 : decode cX3_sayAll 41 = .ok (.aload_n 0, 1) := by decide +kernel
theorem dX3_sayAll_42 : decode cX3_sayAll 42 = .ok (.getfield 39, 3) := by decide +kernel
theorem dX3_sayAll_45 : decode cX3_sayAll 45 = .ok (.iload_n 1, 1) := by decide +kernel
theorem dX3_sayAll_46 : decode cX3_sayAll 46 = .ok (.aaload, 1) := by decide +kernel
theorem dX3_sayAll_47 : decode cX3_sayAll 47 = .ok (.aload_n 0, 1) := by decide +kernel
theorem dX3_sayAll_48 : decode cX3_sayAll 48 = .ok (.getfield 11, 3) := by decide +kernel
theorem dX3_sayAll_51 : decode cX3_sayAll 51 = .ok (.iload_n 1, 1) := by decide +kernel
theorem dX3_sayAll_52 : decode cX3_sayAll 52 = .ok (.aaload, 1) := by decide +kernel
theorem dX3_sayAll_53 : decode cX3_sayAll 53 = .ok (.aload_n 0, 1) := by decide +kernel
theorem dX3_sayAll_54 : decode cX3_sayAll 54 = .ok (.getfield 21, 3) := by decide +kernel
theorem dX3_sayAll_57 : decode cX3_sayAll 57 = .ok (.iload_n 1, 1) := by decide +kernel
theorem dX3_sayAll_58 : decode cX3_sayAll 58 = .ok (.iaload, 1) := by decide +kernel
theorem dX3_sayAll_59 : decode cX3_sayAll 59 = .ok (.aload_n 0, 1) := by decide +kernel
theorem dX3_sayAll_60 : decode cX3_sayAll 60 = .ok (.getfield 69, 3) := by decide +kernel
theorem dX3_sayAll_63 : decode cX3_sayAll 63 = .ok (.iconst 0, 1) := by decide +kernel
theorem dX3_sayAll_64 : decode cX3_sayAll 64 = .ok (.invokevirtual 95, 3) := by decide +kernel
theorem dX3_sayAll_67 : decode cX3_sayAll 67 = .ok (.iastore, 1) := by decide +kernel
theorem dX3_sayAll_68 : decode cX3_sayAll 68 = .ok (.aload_n 0, 1) := by decide +kernel
theorem dX3_sayAll_69 : decode cX3_sayAll 69 = .ok (.getfield 45, 3) := by decide +kernel
theorem dX3_sayAll_72 : decode cX3_sayAll 72 = .ok (.iload_n 1, 1) := by decide +kernel
theorem dX3_sayAll_73 : decode cX3_sayAll 73 = .ok (.iload_n 1, 1) := by decide +kernel
theorem dX3_sayAll_74 : decode cX3_sayAll 74 = .ok (.iastore, 1) := by decide +kernel
theorem dX3_sayAll_75 : decode cX3_sayAll 75 = .ok (.iconst 0, 1) := by decide +kernel
theorem dX3_sayAll_76 : decode cX3_sayAll 76 = .ok (.istore_n 2, 1) := by decide +kernel
theorem dX3_sayAll_77 : decode cX3_sayAll 77 = .ok (.iload_n 2, 1) := by decide +kernel
theorem dX3_sayAll_78 : decode cX3_sayAll 78 = .ok (.iload_n 1, 1) := by decide +kernel
theorem dX3_sayAll_79 : decode cX3_sayAll 79 = .ok (.if_icmp .ge 57, 3) := by decide +kernel
theorem dX3_sayAll_82 : decode cX3_sayAll 82 = .ok (.aload_n 0, 1) := by decide +kernel
theorem dX3_sayAll_83 : decode cX3_sayAll 83 = .ok (.getfield 45, 3) := by decide +kernel
theorem dX3_sayAll_86 : decode cX3_sayAll 86 = .ok (.iload_n 1, 1) := by decide +kernel
theorem dX3_sayAll_87 : decode cX3_sayAll 87 = .ok (.iaload, 1) := by decide +kernel
theorem dX3_sayAll_88 : decode cX3_sayAll 88 = .ok (.iload_n 1, 1) := by decide +kernel
theorem dX3_sayAll_89 : decode cX3_sayAll 89 = .ok (.if_icmp .ne 47, 3) := by decide +kernel
theorem dX3_sayAll_92 : decode cX3_sayAll 92 = .ok (.aload_n 0, 1) := by decide +kernel
theorem dX3_sayAll_93 : decode cX3_sayAll 93 = .ok (.getfield 39, 3) := by decide +kernel
theorem dX3_sayAll_96 : decode cX3_sayAll 96 = .ok (.iload_n 2, 1) := by decide +kernel
theorem dX3_sayAll_97 : decode cX3_sayAll 97 = .ok (.aaload, 1) := by decide +kernel
theorem dX3_sayAll_98 : decode cX3_sayAll 98 = .ok (.aload_n 0, 1) := by decide +kernel
theorem dX3_sayAll_99 : decode cX3_sayAll 99 = .ok (.getfield 42, 3) := by decide +kernel
theorem dX3_sayAll_102 : decode cX3_sayAll 102 = .ok (.iload_n 2, 1) := by decide +kernel
theorem dX3_sayAll_103 : decode cX3_sayAll 103 = .ok (.iaload, 1) := by decide +kernel
theorem dX3_sayAll_104 : decode cX3_sayAll 104 = .ok (.aload_n 0, 1) := by decide +kernel
theorem dX3_sayAll_105 : decode cX3_sayAll 105 = .ok (.getfield 39, 3) := by decide +kernel
theorem dX3_sayAll_108 : decode cX3_sayAll 108 = .ok (.iload_n 1, 1) := by decide +kernel
theorem dX3_sayAll_109 : decode cX3_sayAll 109 = .ok (.aaload, 1) := by decide +kernel
theorem dX3_sayAll_110 : decode cX3_sayAll 110 = .ok (.aload_n 0, 1) := by decide +kernel
theorem dX3_sayAll_111 : decode cX3_sayAll 111 = .ok (.getfield 42, 3) := by decide +kernel
theorem dX3_sayAll_114 : decode cX3_sayAll 114 = .ok (.iload_n 1, 1) := by decide +kernel
theorem dX3_sayAll_115 : decode cX3_sayAll 115 = .ok (.iaload, 1) := by decide +kernel
theorem dX3_sayAll_116 : decode cX3_sayAll 116 = .ok (.iconst 0, 1) := by decide +kernel
theorem dX3_sayAll_117 : decode cX3_sayAll 117 = .ok (.invokestatic 99, 3) := by decide +kernel
theorem dX3_sayAll_120 : decode cX3_sayAll 120 = .ok (.ifCond .ne 10, 3) := by decide +kernel
theorem dX3_sayAll_123 : decode cX3_sayAll 123 = .ok (.aload_n 0, 1) := by decide +kernel
theorem dX3_sayAll_124 : decode cX3_sayAll 124 = .ok (.getfield 45, 3) := by decide +kernel
theorem dX3_sayAll_127 : decode cX3_sayAll 127 = .ok (.iload_n 1, 1) := by decide +kernel
theorem dX3_sayAll_128 : decode cX3_sayAll 128 = .ok (.iload_n 2, 1) := by decide +kernel
theorem dX3_sayAll_129 : decode cX3_sayAll 129 = .ok (.iastore, 1) := by decide +kernel
theorem dX3_sayAll_130 : decode cX3_sayAll 130 = .ok (.iinc 2 1, 3) := by decide +kernel
theorem dX3_sayAll_133 : decode cX3_sayAll 133 = .ok (.goto (-56), 3) := by decide +kernel
theorem dX3_sayAll_136 : decode cX3_sayAll 136 = .ok (.iinc 1 1, 3) := by decide +kernel
theorem dX3_sayAll_139 : decode cX3_sayAll 139 = .ok (.goto (-134), 3) := by decide +kernel
theorem dX3_sayAll_142 : decode cX3_sayAll 142 = .ok (.aload_n 0, 1) := by decide +kernel
theorem dX3_sayAll_143 : decode cX3_sayAll 143 = .ok (.aload_n 0, 1) := by decide +kernel
theorem dX3_sayAll_144 : decode cX3_sayAll 144 = .ok (.getfield 56, 3) := by decide +kernel
theorem dX3_sayAll_147 : decode cX3_sayAll 147 = .ok (.putfield 72, 3) := by decide +kernel
theorem dX3_sayAll_150 : decode cX3_sayAll 150 = .ok (.return_, 1) := by decide +kernel
theorem dX3_areAlikeByAll_0 : decode cX3_areAlikeByAll 0 = .ok (.aload_n 0, 1) := by decide +kernel
theorem dX3_areAlikeByAll_1 : decode cX3_areAlikeByAll 1 = .ok (.getfield 11, 3) := by decide +kernel
theorem dX3_areAlikeByAll_4 : decode cX3_areAlikeByAll 4 = .ok (.iload_n 1, 1) := by decide +kernel
theorem dX3_areAlikeByAll_5 : decode cX3_areAlikeByAll 5 = .ok (.aaload, 1) := by decide +kernel
theorem dX3_areAlikeByAll_6 : decode cX3_areAlikeByAll 6 = .ok (.ifnull 12, 3) := by decide +kernel
theorem dX3_areAlikeByAll_9 : decode cX3_areAlikeByAll 9 = .ok (.aload_n 0, 1) := by decide +kernel
theorem dX3_areAlikeByAll_10 : decode cX3_areAlikeByAll 10 = .ok (.getfield 11, 3) := by decide +kernel
theorem dX3_areAlikeByAll_13 : decode cX3_areAlikeByAll 13 = .ok (.iload_n 2, 1) := by decide +kernel
theorem dX3_areAlikeByAll_14 : decode cX3_areAlikeByAll 14 = .ok (.aaload, 1) := by decide +kernel
theorem dX3_areAlikeByAll_15 : decode cX3_areAlikeByAll 15 = .ok (.ifnonnull 5, 3) := by decide +kernel
theorem dX3_areAlikeByAll_18 : decode cX3_areAlikeByAll 18 = .ok (.iconst 0, 1) := by decide +kernel
theorem dX3_areAlikeByAll_19 : decode cX3_areAlikeByAll 19 = .ok (.ireturn, 1) := by decide +kernel
theorem dX3_areAlikeByAll_20 : decode cX3_areAlikeByAll 20 = .ok (.aload_n 0, 1) := by decide +kernel
theorem dX3_areAlikeByAll_21 : decode cX3_areAlikeByAll 21 = .ok (.getfield 49, 3) := by decide +kernel
theorem dX3_areAlikeByAll_24 : decode cX3_areAlikeByAll 24 = .ok (.iconst 0, 1) := by decide +kernel
theorem dX3_areAlikeByAll_25 : decode cX3_areAlikeByAll 25 = .ok (.putfield 92, 3) := by decide +kernel
theorem dX3_areAlikeByAll_28 : decode cX3_areAlikeByAll 28 = .ok (.aload_n 0, 1) := by decide +kernel
theorem dX3_areAlikeByAll_29 : decode cX3_areAlikeByAll 29 = .ok (.getfield 53, 3) := by decide +kernel
theorem dX3_areAlikeByAll_32 : decode cX3_areAlikeByAll 32 = .ok (.iconst 0, 1) := by decide +kernel
theorem dX3_areAlikeByAll_33 : decode cX3_areAlikeByAll 33 = .ok (.putfield 92, 3) := by decide +kernel
theorem dX3_areAlikeByAll_36 : decode cX3_areAlikeByAll 36 = .ok (.aload_n 0, 1) := by decide +kernel
theorem dX3_areAlikeByAll_37 : decode cX3_areAlikeByAll 37 = .ok (.getfield 49, 3) := by decide +kernel
theorem dX3_areAlikeByAll_40 : decode cX3_areAlikeByAll 40 = .ok (.aload_n 0, 1) := by decide +kernel
theorem dX3_areAlikeByAll_41 : decode cX3_areAlikeByAll 41 = .ok (.getfield 11, 3) := by decide +kernel
theorem dX3_areAlikeByAll_44 : decode cX3_areAlikeByAll 44 = .ok (.iload_n 1, 1) := by decide +kernel
theorem dX3_areAlikeByAll_45 : decode cX3_areAlikeByAll 45 = .ok (.aaload, 1) := by decide +kernel
theorem dX3_areAlikeByAll_46 : decode cX3_areAlikeByAll 46 = .ok (.aload_n 0, 1) := by decide +kernel
theorem dX3_areAlikeByAll_47 : decode cX3_areAlikeByAll 47 = .ok (.getfield 21, 3) := by decide +kernel
theorem dX3_areAlikeByAll_50 : decode cX3_areAlikeByAll 50 = .ok (.iload_n 1, 1) := by decide +kernel
theorem dX3_areAlikeByAll_51 : decode cX3_areAlikeByAll 51 = .ok (.iaload, 1) := by decide +kernel
theorem dX3_areAlikeByAll_52 : decode cX3_areAlikeByAll 52 = .ok (.sipush 255, 3) := by decide +kernel
theorem dX3_areAlikeByAll_55 : decode cX3_areAlikeByAll 55 = .ok (.iconst 0, 1) := by decide +kernel
theorem dX3_areAlikeByAll_56 : decode cX3_areAlikeByAll 56 = .ok (.invokevirtual 95, 3) := by decide +kernel
theorem dX3_areAlikeByAll_59 : decode cX3_areAlikeByAll 59 = .ok (.istore_n 3, 1) := by decide +kernel
theorem dX3_areAlikeByAll_60 : decode cX3_areAlikeByAll 60 = .ok (.aload_n 0, 1) := by decide +kernel
theorem dX3_areAlikeByAll_61 : decode cX3_areAlikeByAll 61 = .ok (.getfield 53, 3) := by decide +kernel
theorem dX3_areAlikeByAll_64 : decode cX3_areAlikeByAll 64 = .ok (.aload_n 0, 1) := by decide +kernel
theorem dX3_areAlikeByAll_65 : decode cX3_areAlikeByAll 65 = .ok (.getfield 11, 3) := by decide +kernel
theorem dX3_areAlikeByAll_68 : decode cX3_areAlikeByAll 68 = .ok (.iload_n 2, 1) := by decide +kernel
theorem dX3_areAlikeByAll_69 : decode cX3_areAlikeByAll 69 = .ok (.aaload, 1) := by decide +kernel
theorem dX3_areAlikeByAll_70 : decode cX3_areAlikeByAll 70 = .ok (.aload_n 0, 1) := by decide +kernel
theorem dX3_areAlikeByAll_71 : decode cX3_areAlikeByAll 71 = .ok (.getfield 21, 3) := by decide +kernel
theorem dX3_areAlikeByAll_74 : decode cX3_areAlikeByAll 74 = .ok (.iload_n 2, 1) := by decide +kernel
theorem dX3_areAlikeByAll_75 : decode cX3_areAlikeByAll 75 = .ok (.iaload, 1) := by decide +kernel
theorem dX3_areAlikeByAll_76 : decode cX3_areAlikeByAll 76 = .ok (.sipush 255, 3) := by decide +kernel
theorem dX3_areAlikeByAll_79 : decode cX3_areAlikeByAll 79 = .ok (.iconst 0, 1) := by decide +kernel
theorem dX3_areAlikeByAll_80 : decode cX3_areAlikeByAll 80 = .ok (.invokevirtual 95, 3) := by decide +kernel
theorem dX3_areAlikeByAll_83 : decode cX3_areAlikeByAll 83 = .ok (.istore 4, 2) := by decide +kernel
theorem dX3_areAlikeByAll_85 : decode cX3_areAlikeByAll 85 = .ok (.aload_n 0, 1) := by decide +kernel
theorem dX3_areAlikeByAll_86 : decode cX3_areAlikeByAll 86 = .ok (.getfield 49, 3) := by decide +kernel
theorem dX3_areAlikeByAll_89 : decode cX3_areAlikeByAll 89 = .ok (.iload_n 3, 1) := by decide +kernel
theorem dX3_areAlikeByAll_90 : decode cX3_areAlikeByAll 90 = .ok (.aload_n 0, 1) := by decide +kernel
theorem dX3_areAlikeByAll_91 : decode cX3_areAlikeByAll 91 = .ok (.getfield 53, 3) := by decide +kernel
theorem dX3_areAlikeByAll_94 : decode cX3_areAlikeByAll 94 = .ok (.iload 4, 2) := by decide +kernel
theorem dX3_areAlikeByAll_96 : decode cX3_areAlikeByAll 96 = .ok (.iconst 0, 1) := by decide +kernel
theorem dX3_areAlikeByAll_97 : decode cX3_areAlikeByAll 97 = .ok (.invokestatic 99, 3) := by decide +kernel
theorem dX3_areAlikeByAll_100 : decode cX3_areAlikeByAll 100 = .ok (.ifCond .ne 7, 3) := by decide +kernel
theorem dX3_areAlikeByAll_103 : decode cX3_areAlikeByAll 103 = .ok (.iconst 1, 1) := by decide +kernel
theorem dX3_areAlikeByAll_104 : decode cX3_areAlikeByAll 104 = .ok (.goto 4, 3) := by decide +kernel
theorem dX3_areAlikeByAll_107 : decode cX3_areAlikeByAll 107 = .ok (.iconst 0, 1) := by decide +kernel
theorem dX3_areAlikeByAll_108 : decode cX3_areAlikeByAll 108 = .ok (.ireturn, 1) := by decide +kernel
theorem dX3_save_0 : decode cX3_save 0 = .ok (.aload_n 1, 1) := by decide +kernel
theorem dX3_save_1 : decode cX3_save 1 = .ok (.aload_n 0, 1) := by decide +kernel
theorem dX3_save_2 : decode cX3_save 2 = .ok (.getfield 56, 3) := by decide +kernel
theorem dX3_save_5 : decode cX3_save 5 = .ok (.invokevirtual 103, 3) := by decide +kernel
theorem dX3_save_8 : decode cX3_save 8 = .ok (.aload_n 1, 1) := by decide +kernel
theorem dX3_save_9 : decode cX3_save 9 = .ok (.aload_n 0, 1) := by decide +kernel
theorem dX3_save_10 : decode cX3_save 10 = .ok (.getfield 69, 3) := by decide +kernel
theorem dX3_save_13 : decode cX3_save 13 = .ok (.invokevirtual 103, 3) := by decide +kernel
theorem dX3_save_16 : decode cX3_save 16 = .ok (.return_, 1) := by decide +kernel
theorem dX3_restore_0 : decode cX3_restore 0 = .ok (.aload_n 0, 1) := by decide +kernel
theorem dX3_restore_1 : decode cX3_restore 1 = .ok (.iconst 0, 1) := by decide +kernel
theorem dX3_restore_2 : decode cX3_restore 2 = .ok (.aload_n 1, 1) := by decide +kernel
theorem dX3_restore_3 : decode cX3_restore 3 = .ok (.invokevirtual 109, 3) := by decide +kernel
theorem dX3_restore_6 : decode cX3_restore 6 = .ok (.bipush 12, 2) := by decide +kernel
theorem dX3_restore_8 : decode cX3_restore 8 = .ok (.invokestatic 113, 3) := by decide +kernel
theorem dX3_restore_11 : decode cX3_restore 11 = .ok (.invokestatic 118, 3) := by decide +kernel
theorem dX3_restore_14 : decode cX3_restore 14 = .ok (.putfield 56, 3) := by decide +kernel
theorem dX3_restore_17 : decode cX3_restore 17 = .ok (.aload_n 0, 1) := by decide +kernel
theorem dX3_restore_18 : decode cX3_restore 18 = .ok (.aload_n 1, 1) := by decide +kernel
theorem dX3_restore_19 : decode cX3_restore 19 = .ok (.invokevirtual 109, 3) := by decide +kernel
theorem dX3_restore_22 : decode cX3_restore 22 = .ok (.invokevirtual 121, 3) := by decide +kernel
theorem dX3_restore_25 : decode cX3_restore 25 = .ok (.return_, 1) := by decide +kernel
theorem dX4_init_0 : decode cX4_init 0 = .ok (.aload_n 0, 1) := by decide +kernel
theorem dX4_init_1 : decode cX4_init 1 = .ok (.invokespecial 3, 3) := by decide +kernel
theorem dX4_init_4 : decode cX4_init 4 = .ok (.aload_n 0, 1) := by decide +kernel
theorem dX4_init_5 : decode cX4_init 5 = .ok (.new 9, 3) := by decide +kernel
theorem dX4_init_8 : decode cX4_init 8 = .ok (.dup, 1) := by decide +kernel
theorem dX4_init_9 : decode cX4_init 9 = .ok (.invokespecial 11, 3) := by decide +kernel
theorem dX4_init_12 : decode cX4_init 12 = .ok (.putfield 12, 3) := by decide +kernel
theorem dX4_init_15 : decode cX4_init 15 = .ok (.return_, 1) := by decide +kernel
theorem dX4_readScript_0 : decode cX4_readScript 0 = .ok (.aload_n 1, 1) := by decide +kernel
theorem dX4_readScript_1 : decode cX4_readScript 1 = .ok (.ifnonnull 5, 3) := by decide +kernel
theorem dX4_readScript_4 : decode cX4_readScript 4 = .ok (.iconst 0, 1) := by decide +kernel
theorem dX4_readScript_5 : decode cX4_readScript 5 = .ok (.ireturn, 1) := by decide +kernel
theorem dX4_readScript_6 : decode cX4_readScript 6 = .ok (.aload_n 0, 1) := by decide +kernel
theorem dX4_readScript_7 : decode cX4_readScript 7 = .ok (.iconst 1, 1) := by decide +kernel
theorem dX4_readScript_8 : decode cX4_readScript 8 = .ok (.putfield 18, 3) := by decide +kernel
theorem dX4_readScript_11 : decode cX4_readScript 11 = .ok (.aload_n 0, 1) := by decide +kernel
theorem dX4_readScript_12 : decode cX4_readScript 12 = .ok (.iconst 0, 1) := by decide +kernel
theorem dX4_readScript_13 : decode cX4_readScript 13 = .ok (.putfield 22, 3) := by decide +kernel
theorem dX4_readScript_16 : decode cX4_readScript 16 = .ok (.aload_n 0, 1) := by decide +kernel
theorem dX4_readScript_17 : decode cX4_readScript 17 = .ok (.iconst (-1), 1) := by decide +kernel
theorem dX4_readScript_18 : decode cX4_readScript 18 = .ok (.putfield 26, 3) := by decide +kernel
theorem dX4_readScript_21 : decode cX4_readScript 21 = .ok (.aload_n 1, 1) := by decide +kernel
theorem dX4_readScript_22 : decode cX4_readScript 22 = .ok (.invokevirtual 29, 3) := by decide +kernel
theorem dX4_readScript_25 : decode cX4_readScript 25 = .ok (.aload_n 0, 1) := by decide +kernel
theorem dX4_readScript_26 : decode cX4_readScript 26 = .ok (.getfield 12, 3) := by decide +kernel
theorem dX4_readScript_29 : decode cX4_readScript 29 = .ok (.invokevirtual 34, 3) := by decide +kernel
theorem dX4_readScript_32 : decode cX4_readScript 32 = .ok (.iconst 0, 1) := by decide +kernel
theorem dX4_readScript_33 : decode cX4_readScript 33 = .ok (.istore_n 2, 1) := by decide +kernel
theorem dX4_readScript_34 : decode cX4_readScript 34 = .ok (.iload_n 2, 1) := by decide +kernel
theorem dX4_readScript_35 : decode cX4_readScript 35 = .ok (.bipush 24, 2) := by decide +kernel
theorem dX4_readScript_37 : decode cX4_readScript 37 = .ok (.if_icmp .gt 65, 3) := by decide +kernel
theorem dX4_readScript_40 : decode cX4_readScript 40 = .ok (.aload_n 0, 1) := by decide +kernel
theorem dX4_readScript_41 : decode cX4_readScript 41 = .ok (.getfield 12, 3) := by decide +kernel
theorem dX4_readScript_44 : decode cX4_readScript 44 = .ok (.getfield 37, 3) := by decide +kernel
theorem dX4_readScript_47 : decode cX4_readScript 47 = .ok (.ifCond .eq 55, 3) := by decide +kernel
theorem dX4_readScript_50 : decode cX4_readScript 50 = .ok (.aload_n 0, 1) := by decide +kernel
theorem dX4_readScript_51 : decode cX4_readScript 51 = .ok (.getfield 12, 3) := by decide +kernel
theorem dX4_readScript_54 : decode cX4_readScript 54 = .ok (.getfield 37, 3) := by decide +kernel
theorem dX4_readScript_57 : decode cX4_readScript 57 = .ok (.istore_n 3, 1) := by decide +kernel
theorem dX4_readScript_58 : decode cX4_readScript 58 = .ok (.aload_n 0, 1) := by decide +kernel
theorem dX4_readScript_59 : decode cX4_readScript 59 = .ok (.aload_n 1, 1) := by decide +kernel
theorem dX4_readScript_60 : decode cX4_readScript 60 = .ok (.invokevirtual 40, 3) := by decide +kernel
theorem dX4_readScript_63 : decode cX4_readScript 63 = .ok (.ifCond .eq 21, 3) := by decide +kernel
theorem dX4_readScript_66 : decode cX4_readScript 66 = .ok (.aload_n 0, 1) := by decide +kernel
theorem dX4_readScript_67 : decode cX4_readScript 67 = .ok (.aload_n 1, 1) := by decide +kernel
theorem dX4_readScript_68 : decode cX4_readScript 68 = .ok (.iload_n 3, 1) := by decide +kernel
theorem dX4_readScript_69 : decode cX4_readScript 69 = .ok (.invokevirtual 44, 3) := by decide +kernel
theorem dX4_readScript_72 : decode cX4_readScript 72 = .ok (.ifCond .eq 12, 3) := by decide +kernel
theorem dX4_readScript_75 : decode cX4_readScript 75 = .ok (.aload_n 0, 1) := by decide +kernel
theorem dX4_readScript_76 : decode cX4_readScript 76 = .ok (.bipush 13, 2) := by decide +kernel
theorem dX4_readScript_78 : decode cX4_readScript 78 = .ok (.invokevirtual 48, 3) := by decide +kernel
theorem dX4_readScript_81 : decode cX4_readScript 81 = .ok (.ifCond .ne 5, 3) := by decide +kernel
theorem dX4_readScript_84 : decode cX4_readScript 84 = .ok (.iconst 0, 1) := by decide +kernel
theorem dX4_readScript_85 : decode cX4_readScript 85 = .ok (.ireturn, 1) := by decide +kernel
theorem dX4_readScript_86 : decode cX4_readScript 86 = .ok (.aload_n 1, 1) := by decide +kernel
theorem dX4_readScript_87 : decode cX4_readScript 87 = .ok (.dup, 1) := by decide +kernel
theorem dX4_readScript_88 : decode cX4_readScript 88 = .ok (.getfield 52, 3) := by decide +kernel
theorem dX4_readScript_91 : decode cX4_readScript 91 = .ok (.iconst 1, 1) := by decide +kernel
theorem dX4_readScript_92 : decode cX4_readScript 92 = .ok (.iadd, 1) := by decide +kernel
theorem dX4_readScript_93 : decode cX4_readScript 93 = .ok (.putfield 52, 3) := by decide +kernel
theorem dX4_readScript_96 : decode cX4_readScript 96 = .ok (.iinc 2 1, 3) := by decide +kernel
theorem dX4_readScript_99 : decode cX4_readScript 99 = .ok (.goto (-65), 3) := by decide +kernel
theorem dX4_readScript_102 : decode cX4_readScript 102 = .ok (.iconst 1, 1) := by decide +kernel
theorem dX4_readScript_103 : decode cX4_readScript 103 = .ok (.ireturn, 1) := by decide +kernel
theorem dX4_fail_0 : decode cX4_fail 0 = .ok (.aload_n 0, 1) := by decide +kernel
theorem dX4_fail_1 : decode cX4_fail 1 = .ok (.iload_n 1, 1) := by decide +kernel
theorem dX4_fail_2 : decode cX4_fail 2 = .ok (.putfield 22, 3) := by decide +kernel
theorem dX4_fail_5 : decode cX4_fail 5 = .ok (.aload_n 0, 1) := by decide +kernel
theorem dX4_fail_6 : decode cX4_fail 6 = .ok (.aload_n 0, 1) := by decide +kernel
theorem dX4_fail_7 : decode cX4_fail 7 = .ok (.getfield 12, 3) := by decide +kernel
theorem dX4_fail_10 : decode cX4_fail 10 = .ok (.getfield 55, 3) := by decide +kernel
theorem dX4_fail_13 : decode cX4_fail 13 = .ok (.putfield 26, 3) := by decide +kernel
theorem dX4_fail_16 : decode cX4_fail 16 = .ok (.iconst (-1), 1) := by decide +kernel
theorem dX4_fail_17 : decode cX4_fail 17 = .ok (.ireturn, 1) := by decide +kernel
theorem dX4_beginClause_0 : decode cX4_beginClause 0 = .ok (.aload_n 0, 1) := by decide +kernel
theorem dX4_beginClause_1 : decode cX4_beginClause 1 = .ok (.getfield 12, 3) := by decide +kernel
theorem dX4_beginClause_4 : decode cX4_beginClause 4 = .ok (.getfield 37, 3) := by decide +kernel
theorem dX4_beginClause_7 : decode cX4_beginClause 7 = .ok (.bipush 20, 2) := by decide +kernel
theorem dX4_beginClause_9 : decode cX4_beginClause 9 = .ok (.bipush 28, 2) := by decide +kernel
theorem dX4_beginClause_11 : decode cX4_beginClause 11 = .ok (.invokestatic 58, 3) := by decide +kernel
theorem dX4_beginClause_14 : decode cX4_beginClause 14 = .ok (.ifCond .ne 18, 3) := by decide +kernel
theorem dX4_beginClause_17 : decode cX4_beginClause 17 = .ok (.aload_n 0, 1) := by decide +kernel
theorem dX4_beginClause_18 : decode cX4_beginClause 18 = .ok (.iconst 1, 1) := by decide +kernel
theorem dX4_beginClause_19 : decode cX4_beginClause 19 = .ok (.invokevirtual 62, 3) := by decide +kernel
theorem dX4_beginClause_22 : decode cX4_beginClause 22 = .ok (.iconst (-1), 1) := by decide +kernel
theorem dX4_beginClause_23 : decode cX4_beginClause 23 = .ok (.if_icmp .eq 7, 3) := by decide +kernel
theorem dX4_beginClause_26 : decode cX4_beginClause 26 = .ok (.iconst 1, 1) := by decide +kernel
theorem dX4_beginClause_27 : decode cX4_beginClause 27 = .ok (.goto 4, 3) := by decide +kernel
theorem dX4_beginClause_30 : decode cX4_beginClause 30 = .ok (.iconst 0, 1) := by decide +kernel
theorem dX4_beginClause_31 : decode cX4_beginClause 31 = .ok (.ireturn, 1) := by decide +kernel
theorem dX4_beginClause_32 : decode cX4_beginClause 32 = .ok (.aload_n 1, 1) := by decide +kernel
theorem dX4_beginClause_33 : decode cX4_beginClause 33 = .ok (.getfield 52, 3) := by decide +kernel
theorem dX4_beginClause_36 : decode cX4_beginClause 36 = .ok (.bipush 24, 2) := by decide +kernel
theorem dX4_beginClause_38 : decode cX4_beginClause 38 = .ok (.if_icmp .lt 18, 3) := by decide +kernel
theorem dX4_beginClause_41 : decode cX4_beginClause 41 = .ok (.aload_n 0, 1) := by decide +kernel
theorem dX4_beginClause_42 : decode cX4_beginClause 42 = .ok (.iconst 5, 1) := by decide +kernel
theorem dX4_beginClause_43 : decode cX4_beginClause 43 = .ok (.invokevirtual 62, 3) := by decide +kernel
theorem dX4_beginClause_46 : decode cX4_beginClause 46 = .ok (.iconst (-1), 1) := by decide +kernel
theorem dX4_beginClause_47 : decode cX4_beginClause 47 = .ok (.if_icmp .eq 7, 3) := by decide +kernel
theorem dX4_beginClause_50 : decode cX4_beginClause 50 = .ok (.iconst 1, 1) := by decide +kernel
theorem dX4_beginClause_51 : decode cX4_beginClause 51 = .ok (.goto 4, 3) := by decide +kernel
theorem dX4_beginClause_54 : decode cX4_beginClause 54 = .ok (.iconst 0, 1) := by decide +kernel
theorem dX4_beginClause_55 : decode cX4_beginClause 55 = .ok (.ireturn, 1) := by decide +kernel
theorem dX4_beginClause_56 : decode cX4_beginClause 56 = .ok (.aload_n 1, 1) := by decide +kernel
theorem dX4_beginClause_57 : decode cX4_beginClause 57 = .ok (.aload_n 0, 1) := by decide +kernel
theorem dX4_beginClause_58 : decode cX4_beginClause 58 = .ok (.getfield 12, 3) := by decide +kernel
theorem dX4_beginClause_61 : decode cX4_beginClause 61 = .ok (.getfield 37, 3) := by decide +kernel
theorem dX4_beginClause_64 : decode cX4_beginClause 64 = .ok (.invokevirtual 66, 3) := by decide +kernel
theorem dX4_beginClause_67 : decode cX4_beginClause 67 = .ok (.aload_n 0, 1) := by decide +kernel
theorem dX4_beginClause_68 : decode cX4_beginClause 68 = .ok (.getfield 12, 3) := by decide +kernel
theorem dX4_beginClause_71 : decode cX4_beginClause 71 = .ok (.invokevirtual 69, 3) := by decide +kernel
theorem dX4_beginClause_74 : decode cX4_beginClause 74 = .ok (.iconst 1, 1) := by decide +kernel
theorem dX4_beginClause_75 : decode cX4_beginClause 75 = .ok (.ireturn, 1) := by decide +kernel
theorem dX4_readRest_0 : decode cX4_readRest 0 = .ok (.iload_n 2, 1) := by decide +kernel
theorem dX4_readRest_1 : decode cX4_readRest 1 = .ok (.tableswitch 163 20 27 #[47, 53, 78, 118, 127, 136, 145, 154], 47) := by decide +kernel
theorem dX4_readRest_48 : decode cX4_readRest 48 = .ok (.aload_n 0, 1) := by decide +kernel
theorem dX4_readRest_49 : decode cX4_readRest 49 = .ok (.aload_n 1, 1) := by decide +kernel
theorem dX4_readRest_50 : decode cX4_readRest 50 = .ok (.invokevirtual 72, 3) := by decide +kernel
theorem dX4_readRest_53 : decode cX4_readRest 53 = .ok (.ireturn, 1) := by decide +kernel
theorem dX4_readRest_54 : decode cX4_readRest 54 = .ok (.aload_n 0, 1) := by decide +kernel
theorem dX4_readRest_55 : decode cX4_readRest 55 = .ok (.aload_n 1, 1) := by decide +kernel
theorem dX4_readRest_56 : decode cX4_readRest 56 = .ok (.invokevirtual 75, 3) := by decide +kernel
theorem dX4_readRest_59 : decode cX4_readRest 59 = .ok (.ifCond .eq 18, 3) := by decide +kernel
theorem dX4_readRest_62 : decode cX4_readRest 62 = .ok (.aload_n 0, 1) := by decide +kernel
theorem dX4_readRest_63 : decode cX4_readRest 63 = .ok (.aload_n 1, 1) := by decide +kernel
theorem dX4_readRest_64 : decode cX4_readRest 64 = .ok (.getstatic 78, 3) := by decide +kernel
theorem dX4_readRest_67 : decode cX4_readRest 67 = .ok (.invokevirtual 82, 3) := by decide +kernel
theorem dX4_readRest_70 : decode cX4_readRest 70 = .ok (.ifCond .eq 7, 3) := by decide +kernel
theorem dX4_readRest_73 : decode cX4_readRest 73 = .ok (.iconst 1, 1) := by decide +kernel
theorem dX4_readRest_74 : decode cX4_readRest 74 = .ok (.goto 4, 3) := by decide +kernel
theorem dX4_readRest_77 : decode cX4_readRest 77 = .ok (.iconst 0, 1) := by decide +kernel
theorem dX4_readRest_78 : decode cX4_readRest 78 = .ok (.ireturn, 1) := by decide +kernel
theorem dX4_readRest_79 : decode cX4_readRest 79 = .ok (.aload_n 0, 1) := by decide +kernel
theorem dX4_readRest_80 : decode cX4_readRest 80 = .ok (.aload_n 1, 1) := by decide +kernel
theorem dX4_readRest_81 : decode cX4_readRest 81 = .ok (.getstatic 86, 3) := by decide +kernel
theorem dX4_readRest_84 : decode cX4_readRest 84 = .ok (.invokevirtual 82, 3) := by decide +kernel
theorem dX4_readRest_87 : decode cX4_readRest 87 = .ok (.ifCond .eq 30, 3) := by decide +kernel
theorem dX4_readRest_90 : decode cX4_readRest 90 = .ok (.aload_n 0, 1) := by decide +kernel
theorem dX4_readRest_91 : decode cX4_readRest 91 = .ok (.getfield 12, 3) := by decide +kernel
theorem dX4_readRest_94 : decode cX4_readRest 94 = .ok (.getfield 37, 3) := by decide +kernel
theorem dX4_readRest_97 : decode cX4_readRest 97 = .ok (.bipush 30, 2) := by decide +kernel
theorem dX4_readRest_99 : decode cX4_readRest 99 = .ok (.if_icmp .ne 14, 3) := by decide +kernel
theorem dX4_readRest_102 : decode cX4_readRest 102 = .ok (.aload_n 0, 1) := by decide +kernel
theorem dX4_readRest_103 : decode cX4_readRest 103 = .ok (.aload_n 1, 1) := by decide +kernel
theorem dX4_readRest_104 : decode cX4_readRest 104 = .ok (.getstatic 89, 3) := by decide +kernel
theorem dX4_readRest_107 : decode cX4_readRest 107 = .ok (.invokevirtual 82, 3) := by decide +kernel
theorem dX4_readRest_110 : decode cX4_readRest 110 = .ok (.ifCond .eq 7, 3) := by decide +kernel
theorem dX4_readRest_113 : decode cX4_readRest 113 = .ok (.iconst 1, 1) := by decide +kernel
theorem dX4_readRest_114 : decode cX4_readRest 114 = .ok (.goto 4, 3) := by decide +kernel
theorem dX4_readRest_117 : decode cX4_readRest 117 = .ok (.iconst 0, 1) := by decide +kernel
theorem dX4_readRest_118 : decode cX4_readRest 118 = .ok (.ireturn, 1) := by decide +kernel
theorem dX4_readRest_119 : decode cX4_readRest 119 = .ok (.aload_n 0, 1) := by decide +kernel
theorem dX4_readRest_120 : decode cX4_readRest 120 = .ok (.aload_n 1, 1) := by decide +kernel
theorem dX4_readRest_121 : decode cX4_readRest 121 = .ok (.getstatic 92, 3) := by decide +kernel
theorem dX4_readRest_124 : decode cX4_readRest 124 = .ok (.invokevirtual 82, 3) := by decide +kernel
theorem dX4_readRest_127 : decode cX4_readRest 127 = .ok (.ireturn, 1) := by decide +kernel
theorem dX4_readRest_128 : decode cX4_readRest 128 = .ok (.aload_n 0, 1) := by decide +kernel
theorem dX4_readRest_129 : decode cX4_readRest 129 = .ok (.aload_n 1, 1) := by decide +kernel
theorem dX4_readRest_130 : decode cX4_readRest 130 = .ok (.getstatic 95, 3) := by decide +kernel
theorem dX4_readRest_133 : decode cX4_readRest 133 = .ok (.invokevirtual 82, 3) := by decide +kernel
theorem dX4_readRest_136 : decode cX4_readRest 136 = .ok (.ireturn, 1) := by decide +kernel
theorem dX4_readRest_137 : decode cX4_readRest 137 = .ok (.aload_n 0, 1) := by decide +kernel
theorem dX4_readRest_138 : decode cX4_readRest 138 = .ok (.aload_n 1, 1) := by decide +kernel
theorem dX4_readRest_139 : decode cX4_readRest 139 = .ok (.getstatic 98, 3) := by decide +kernel
theorem dX4_readRest_142 : decode cX4_readRest 142 = .ok (.invokevirtual 82, 3) := by decide +kernel
theorem dX4_readRest_145 : decode cX4_readRest 145 = .ok (.ireturn, 1) := by decide +kernel
theorem dX4_readRest_146 : decode cX4_readRest 146 = .ok (.aload_n 0, 1) := by decide +kernel
theorem dX4_readRest_147 : decode cX4_readRest 147 = .ok (.aload_n 1, 1) := by decide +kernel
theorem dX4_readRest_148 : decode cX4_readRest 148 = .ok (.getstatic 101, 3) := by decide +kernel
theorem dX4_readRest_151 : decode cX4_readRest 151 = .ok (.invokevirtual 82, 3) := by decide +kernel
theorem dX4_readRest_154 : decode cX4_readRest 154 = .ok (.ireturn, 1) := by decide +kernel
theorem dX4_readRest_155 : decode cX4_readRest 155 = .ok (.aload_n 0, 1) := by decide +kernel
theorem dX4_readRest_156 : decode cX4_readRest 156 = .ok (.aload_n 1, 1) := by decide +kernel
theorem dX4_readRest_157 : decode cX4_readRest 157 = .ok (.getstatic 104, 3) := by decide +kernel
theorem dX4_readRest_160 : decode cX4_readRest 160 = .ok (.invokevirtual 82, 3) := by decide +kernel
theorem dX4_readRest_163 : decode cX4_readRest 163 = .ok (.ireturn, 1) := by decide +kernel
theorem dX4_readRest_164 : decode cX4_readRest 164 = .ok (.aload_n 0, 1) := by decide +kernel
theorem dX4_readRest_165 : decode cX4_readRest 165 = .ok (.aload_n 1, 1) := by decide +kernel
theorem dX4_readRest_166 : decode cX4_readRest 166 = .ok (.getstatic 107, 3) := by decide +kernel
theorem dX4_readRest_169 : decode cX4_readRest 169 = .ok (.invokevirtual 82, 3) := by decide +kernel
theorem dX4_readRest_172 : decode cX4_readRest 172 = .ok (.ireturn, 1) := by decide +kernel
theorem dX4_expect_0 : decode cX4_expect 0 = .ok (.aload_n 0, 1) := by decide +kernel
theorem dX4_expect_1 : decode cX4_expect 1 = .ok (.getfield 12, 3) := by decide +kernel
theorem dX4_expect_4 : decode cX4_expect 4 = .ok (.getfield 37, 3) := by decide +kernel
theorem dX4_expect_7 : decode cX4_expect 7 = .ok (.iload_n 1, 1) := by decide +kernel
theorem dX4_expect_8 : decode cX4_expect 8 = .ok (.if_icmp .eq 18, 3) := by decide +kernel
theorem dX4_expect_11 : decode cX4_expect 11 = .ok (.aload_n 0, 1) := by decide +kernel
theorem dX4_expect_12 : decode cX4_expect 12 = .ok (.iconst 1, 1) := by decide +kernel
theorem dX4_expect_13 : decode cX4_expect 13 = .ok (.invokevirtual 62, 3) := by decide +kernel
theorem dX4_expect_16 : decode cX4_expect 16 = .ok (.iconst (-1), 1) := by decide +kernel
theorem dX4_expect_17 : decode cX4_expect 17 = .ok (.if_icmp .eq 7, 3) := by decide +kernel
theorem dX4_expect_20 : decode cX4_expect 20 = .ok (.iconst 1, 1) := by decide +kernel
theorem dX4_expect_21 : decode cX4_expect 21 = .ok (.goto 4, 3) := by decide +kernel
theorem dX4_expect_24 : decode cX4_expect 24 = .ok (.iconst 0, 1) := by decide +kernel
theorem dX4_expect_25 : decode cX4_expect 25 = .ok (.ireturn, 1) := by decide +kernel
theorem dX4_expect_26 : decode cX4_expect 26 = .ok (.aload_n 0, 1) := by decide +kernel
theorem dX4_expect_27 : decode cX4_expect 27 = .ok (.getfield 12, 3) := by decide +kernel
theorem dX4_expect_30 : decode cX4_expect 30 = .ok (.invokevirtual 69, 3) := by decide +kernel
theorem dX4_expect_33 : decode cX4_expect 33 = .ok (.iconst 1, 1) := by decide +kernel
theorem dX4_expect_34 : decode cX4_expect 34 = .ok (.ireturn, 1) := by decide +kernel
theorem dX4_follow_0 : decode cX4_follow 0 = .ok (.iconst 0, 1) := by decide +kernel
theorem dX4_follow_1 : decode cX4_follow 1 = .ok (.istore_n 3, 1) := by decide +kernel
theorem dX4_follow_2 : decode cX4_follow 2 = .ok (.iload_n 3, 1) := by decide +kernel
theorem dX4_follow_3 : decode cX4_follow 3 = .ok (.aload_n 2, 1) := by decide +kernel
theorem dX4_follow_4 : decode cX4_follow 4 = .ok (.arraylength, 1) := by decide +kernel
theorem dX4_follow_5 : decode cX4_follow 5 = .ok (.if_icmp .ge 111, 3) := by decide +kernel
theorem dX4_follow_8 : decode cX4_follow 8 = .ok (.aload_n 0, 1) := by decide +kernel
theorem dX4_follow_9 : decode cX4_follow 9 = .ok (.getfield 12, 3) := by decide +kernel
theorem dX4_follow_12 : decode cX4_follow 12 = .ok (.getfield 37, 3) := by decide +kernel
theorem dX4_follow_15 : decode cX4_follow 15 = .ok (.aload_n 2, 1) := by decide +kernel
theorem dX4_follow_16 : decode cX4_follow 16 = .ok (.iload_n 3, 1) := by decide +kernel
theorem dX4_follow_17 : decode cX4_follow 17 = .ok (.iaload, 1) := by decide +kernel
theorem dX4_follow_18 : decode cX4_follow 18 = .ok (.if_icmp .eq 18, 3) := by decide +kernel
theorem dX4_follow_21 : decode cX4_follow 21 = .ok (.aload_n 0, 1) := by decide +kernel
theorem dX4_follow_22 : decode cX4_follow 22 = .ok (.iconst 1, 1) := by decide +kernel
theorem dX4_follow_23 : decode cX4_follow 23 = .ok (.invokevirtual 62, 3) := by decide +kernel
theorem dX4_follow_26 : decode cX4_follow 26 = .ok (.iconst (-1), 1) := by decide +kernel
theorem dX4_follow_27 : decode cX4_follow 27 = .ok (.if_icmp .eq 7, 3) := by decide +kernel
theorem dX4_follow_30 : decode cX4_follow 30 = .ok (.iconst 1, 1) := by decide +kernel
theorem dX4_follow_31 : decode cX4_follow 31 = .ok (.goto 4, 3) := by decide +kernel
theorem dX4_follow_34 : decode cX4_follow 34 = .ok (.iconst 0, 1) := by decide +kernel
theorem dX4_follow_35 : decode cX4_follow 35 = .ok (.ireturn, 1) := by decide +kernel
theorem dX4_follow_36 : decode cX4_follow 36 = .ok (.aload_n 2, 1) := by decide +kernel
theorem dX4_follow_37 : decode cX4_follow 37 = .ok (.iload_n 3, 1) := by decide +kernel
theorem dX4_follow_38 : decode cX4_follow 38 = .ok (.iaload, 1) := by decide +kernel
theorem dX4_follow_39 : decode cX4_follow 39 = .ok (.iconst 2, 1) := by decide +kernel
theorem dX4_follow_40 : decode cX4_follow 40 = .ok (.if_icmp .ne 63, 3) := by decide +kernel
theorem dX4_follow_43 : decode cX4_follow 43 = .ok (.iload_n 3, 1) := by decide +kernel
theorem dX4_follow_44 : decode cX4_follow 44 = .ok (.iconst 2, 1) := by decide +kernel
theorem dX4_follow_45 : decode cX4_follow 45 = .ok (.iadd, 1) := by decide +kernel
theorem dX4_follow_46 : decode cX4_follow 46 = .ok (.aload_n 2, 1) := by decide +kernel
theorem dX4_follow_47 : decode cX4_follow 47 = .ok (.arraylength, 1) := by decide +kernel
theorem dX4_follow_48 : decode cX4_follow 48 = .ok (.if_icmp .ge 55, 3) := by decide +kernel
theorem dX4_follow_51 : decode cX4_follow 51 = .ok (.aload_n 0, 1) := by decide +kernel
theorem dX4_follow_52 : decode cX4_follow 52 = .ok (.getfield 12, 3) := by decide +kernel
theorem dX4_follow_55 : decode cX4_follow 55 = .ok (.getfield 110, 3) := by decide +kernel
theorem dX4_follow_58 : decode cX4_follow 58 = .ok (.aload_n 2, 1) := by decide +kernel
theorem dX4_follow_59 : decode cX4_follow 59 = .ok (.iload_n 3, 1) := by decide +kernel
theorem dX4_follow_60 : decode cX4_follow 60 = .ok (.iconst 1, 1) := by decide +kernel
theorem dX4_follow_61 : decode cX4_follow 61 = .ok (.iadd, 1) := by decide +kernel
theorem dX4_follow_62 : decode cX4_follow 62 = .ok (.iaload, 1) := by decide +kernel
theorem dX4_follow_63 : decode cX4_follow 63 = .ok (.aload_n 2, 1) := by decide +kernel
theorem dX4_follow_64 : decode cX4_follow 64 = .ok (.iload_n 3, 1) := by decide +kernel
theorem dX4_follow_65 : decode cX4_follow 65 = .ok (.iconst 2, 1) := by decide +kernel
theorem dX4_follow_66 : decode cX4_follow 66 = .ok (.iadd, 1) := by decide +kernel
theorem dX4_follow_67 : decode cX4_follow 67 = .ok (.iaload, 1) := by decide +kernel
theorem dX4_follow_68 : decode cX4_follow 68 = .ok (.invokestatic 58, 3) := by decide +kernel
theorem dX4_follow_71 : decode cX4_follow 71 = .ok (.ifCond .ne 18, 3) := by decide +kernel
theorem dX4_follow_74 : decode cX4_follow 74 = .ok (.aload_n 0, 1) := by decide +kernel
theorem dX4_follow_75 : decode cX4_follow 75 = .ok (.iconst 2, 1) := by decide +kernel
theorem dX4_follow_76 : decode cX4_follow 76 = .ok (.invokevirtual 62, 3) := by decide +kernel
theorem dX4_follow_79 : decode cX4_follow 79 = .ok (.iconst (-1), 1) := by decide +kernel
theorem dX4_follow_80 : decode cX4_follow 80 = .ok (.if_icmp .eq 7, 3) := by decide +kernel
theorem dX4_follow_83 : decode cX4_follow 83 = .ok (.iconst 1, 1) := by decide +kernel
theorem dX4_follow_84 : decode cX4_follow 84 = .ok (.goto 4, 3) := by decide +kernel
theorem dX4_follow_87 : decode cX4_follow 87 = .ok (.iconst 0, 1) := by decide +kernel
theorem dX4_follow_88 : decode cX4_follow 88 = .ok (.ireturn, 1) := by decide +kernel
theorem dX4_follow_89 : decode cX4_follow 89 = .ok (.aload_n 1, 1) := by decide +kernel
theorem dX4_follow_90 : decode cX4_follow 90 = .ok (.aload_n 0, 1) := by decide +kernel
theorem dX4_follow_91 : decode cX4_follow 91 = .ok (.getfield 12, 3) := by decide +kernel
theorem dX4_follow_94 : decode cX4_follow 94 = .ok (.getfield 110, 3) := by decide +kernel
theorem dX4_follow_97 : decode cX4_follow 97 = .ok (.invokevirtual 113, 3) := by decide +kernel
theorem dX4_follow_100 : decode cX4_follow 100 = .ok (.iinc 3 2, 3) := by decide +kernel
theorem dX4_follow_103 : decode cX4_follow 103 = .ok (.aload_n 0, 1) := by decide +kernel
theorem dX4_follow_104 : decode cX4_follow 104 = .ok (.getfield 12, 3) := by decide +kernel
theorem dX4_follow_107 : decode cX4_follow 107 = .ok (.invokevirtual 69, 3) := by decide +kernel
theorem dX4_follow_110 : decode cX4_follow 110 = .ok (.iinc 3 1, 3) := by decide +kernel
theorem dX4_follow_113 : decode cX4_follow 113 = .ok (.goto (-111), 3) := by decide +kernel
theorem dX4_follow_116 : decode cX4_follow 116 = .ok (.iconst 1, 1) := by decide +kernel
theorem dX4_follow_117 : decode cX4_follow 117 = .ok (.ireturn, 1) := by decide +kernel
theorem dX4_readThing_0 : decode cX4_readThing 0 = .ok (.aload_n 0, 1) := by decide +kernel
theorem dX4_readThing_1 : decode cX4_readThing 1 = .ok (.getfield 12, 3) := by decide +kernel
theorem dX4_readThing_4 : decode cX4_readThing 4 = .ok (.getfield 37, 3) := by decide +kernel
theorem dX4_readThing_7 : decode cX4_readThing 7 = .ok (.bipush 44, 2) := by decide +kernel
theorem dX4_readThing_9 : decode cX4_readThing 9 = .ok (.bipush 47, 2) := by decide +kernel
theorem dX4_readThing_11 : decode cX4_readThing 11 = .ok (.invokestatic 58, 3) := by decide +kernel
theorem dX4_readThing_14 : decode cX4_readThing 14 = .ok (.ifCond .ne 18, 3) := by decide +kernel
theorem dX4_readThing_17 : decode cX4_readThing 17 = .ok (.aload_n 0, 1) := by decide +kernel
theorem dX4_readThing_18 : decode cX4_readThing 18 = .ok (.iconst 1, 1) := by decide +kernel
theorem dX4_readThing_19 : decode cX4_readThing 19 = .ok (.invokevirtual 62, 3) := by decide +kernel
theorem dX4_readThing_22 : decode cX4_readThing 22 = .ok (.iconst (-1), 1) := by decide +kernel
theorem dX4_readThing_23 : decode cX4_readThing 23 = .ok (.if_icmp .eq 7, 3) := by decide +kernel
theorem dX4_readThing_26 : decode cX4_readThing 26 = .ok (.iconst 1, 1) := by decide +kernel
theorem dX4_readThing_27 : decode cX4_readThing 27 = .ok (.goto 4, 3) := by decide +kernel
theorem dX4_readThing_30 : decode cX4_readThing 30 = .ok (.iconst 0, 1) := by decide +kernel
theorem dX4_readThing_31 : decode cX4_readThing 31 = .ok (.ireturn, 1) := by decide +kernel
theorem dX4_readThing_32 : decode cX4_readThing 32 = .ok (.aload_n 1, 1) := by decide +kernel
theorem dX4_readThing_33 : decode cX4_readThing 33 = .ok (.aload_n 0, 1) := by decide +kernel
theorem dX4_readThing_34 : decode cX4_readThing 34 = .ok (.getfield 12, 3) := by decide +kernel
theorem dX4_readThing_37 : decode cX4_readThing 37 = .ok (.getfield 37, 3) := by decide +kernel
theorem dX4_readThing_40 : decode cX4_readThing 40 = .ok (.bipush 44, 2) := by decide +kernel
theorem dX4_readThing_42 : decode cX4_readThing 42 = .ok (.isub, 1) := by decide +kernel
theorem dX4_readThing_43 : decode cX4_readThing 43 = .ok (.invokevirtual 113, 3) := by decide +kernel
theorem dX4_readThing_46 : decode cX4_readThing 46 = .ok (.aload_n 0, 1) := by decide +kernel
theorem dX4_readThing_47 : decode cX4_readThing 47 = .ok (.getfield 12, 3) := by decide +kernel
theorem dX4_readThing_50 : decode cX4_readThing 50 = .ok (.invokevirtual 69, 3) := by decide +kernel
theorem dX4_readThing_53 : decode cX4_readThing 53 = .ok (.iconst 1, 1) := by decide +kernel
theorem dX4_readThing_54 : decode cX4_readThing 54 = .ok (.ireturn, 1) := by decide +kernel
theorem dX4_readQuestion_0 : decode cX4_readQuestion 0 = .ok (.aload_n 0, 1) := by decide +kernel
theorem dX4_readQuestion_1 : decode cX4_readQuestion 1 = .ok (.iconst 0, 1) := by decide +kernel
theorem dX4_readQuestion_2 : decode cX4_readQuestion 2 = .ok (.putfield 116, 3) := by decide +kernel
theorem dX4_readQuestion_5 : decode cX4_readQuestion 5 = .ok (.aload_n 0, 1) := by decide +kernel
theorem dX4_readQuestion_6 : decode cX4_readQuestion 6 = .ok (.iconst 0, 1) := by decide +kernel
theorem dX4_readQuestion_7 : decode cX4_readQuestion 7 = .ok (.putfield 119, 3) := by decide +kernel
theorem dX4_readQuestion_10 : decode cX4_readQuestion 10 = .ok (.aload_n 0, 1) := by decide +kernel
theorem dX4_readQuestion_11 : decode cX4_readQuestion 11 = .ok (.iconst 0, 1) := by decide +kernel
theorem dX4_readQuestion_12 : decode cX4_readQuestion 12 = .ok (.putfield 122, 3) := by decide +kernel
theorem dX4_readQuestion_15 : decode cX4_readQuestion 15 = .ok (.aload_n 0, 1) := by decide +kernel
theorem dX4_readQuestion_16 : decode cX4_readQuestion 16 = .ok (.iconst (-1), 1) := by decide +kernel
theorem dX4_readQuestion_17 : decode cX4_readQuestion 17 = .ok (.putfield 125, 3) := by decide +kernel
theorem dX4_readQuestion_20 : decode cX4_readQuestion 20 = .ok (.aload_n 1, 1) := by decide +kernel
theorem dX4_readQuestion_21 : decode cX4_readQuestion 21 = .ok (.getfield 128, 3) := by decide +kernel
theorem dX4_readQuestion_24 : decode cX4_readQuestion 24 = .ok (.getfield 132, 3) := by decide +kernel
theorem dX4_readQuestion_27 : decode cX4_readQuestion 27 = .ok (.istore_n 2, 1) := by decide +kernel
theorem dX4_readQuestion_28 : decode cX4_readQuestion 28 = .ok (.aload_n 0, 1) := by decide +kernel
theorem dX4_readQuestion_29 : decode cX4_readQuestion 29 = .ok (.aload_n 1, 1) := by decide +kernel
theorem dX4_readQuestion_30 : decode cX4_readQuestion 30 = .ok (.getfield 128, 3) := by decide +kernel
theorem dX4_readQuestion_33 : decode cX4_readQuestion 33 = .ok (.iconst 0, 1) := by decide +kernel
theorem dX4_readQuestion_34 : decode cX4_readQuestion 34 = .ok (.invokevirtual 137, 3) := by decide +kernel
theorem dX4_readQuestion_37 : decode cX4_readQuestion 37 = .ok (.istore_n 3, 1) := by decide +kernel
theorem dX4_readQuestion_38 : decode cX4_readQuestion 38 = .ok (.iload_n 3, 1) := by decide +kernel
theorem dX4_readQuestion_39 : decode cX4_readQuestion 39 = .ok (.iconst (-1), 1) := by decide +kernel
theorem dX4_readQuestion_40 : decode cX4_readQuestion 40 = .ok (.if_icmp .ne 5, 3) := by decide +kernel
theorem dX4_readQuestion_43 : decode cX4_readQuestion 43 = .ok (.iconst 0, 1) := by decide +kernel
theorem dX4_readQuestion_44 : decode cX4_readQuestion 44 = .ok (.ireturn, 1) := by decide +kernel
theorem dX4_readQuestion_45 : decode cX4_readQuestion 45 = .ok (.aload_n 1, 1) := by decide +kernel
theorem dX4_readQuestion_46 : decode cX4_readQuestion 46 = .ok (.iload_n 2, 1) := by decide +kernel
theorem dX4_readQuestion_47 : decode cX4_readQuestion 47 = .ok (.invokevirtual 113, 3) := by decide +kernel
theorem dX4_readQuestion_50 : decode cX4_readQuestion 50 = .ok (.aload_n 1, 1) := by decide +kernel
theorem dX4_readQuestion_51 : decode cX4_readQuestion 51 = .ok (.iload_n 3, 1) := by decide +kernel
theorem dX4_readQuestion_52 : decode cX4_readQuestion 52 = .ok (.invokevirtual 113, 3) := by decide +kernel
theorem dX4_readQuestion_55 : decode cX4_readQuestion 55 = .ok (.aload_n 1, 1) := by decide +kernel
theorem dX4_readQuestion_56 : decode cX4_readQuestion 56 = .ok (.aload_n 0, 1) := by decide +kernel
theorem dX4_readQuestion_57 : decode cX4_readQuestion 57 = .ok (.getfield 116, 3) := by decide +kernel
theorem dX4_readQuestion_60 : decode cX4_readQuestion 60 = .ok (.invokevirtual 113, 3) := by decide +kernel
theorem dX4_readQuestion_63 : decode cX4_readQuestion 63 = .ok (.aload_n 1, 1) := by decide +kernel
theorem dX4_readQuestion_64 : decode cX4_readQuestion 64 = .ok (.aload_n 0, 1) := by decide +kernel
theorem dX4_readQuestion_65 : decode cX4_readQuestion 65 = .ok (.getfield 119, 3) := by decide +kernel
theorem dX4_readQuestion_68 : decode cX4_readQuestion 68 = .ok (.invokevirtual 113, 3) := by decide +kernel
theorem dX4_readQuestion_71 : decode cX4_readQuestion 71 = .ok (.aload_n 1, 1) := by decide +kernel
theorem dX4_readQuestion_72 : decode cX4_readQuestion 72 = .ok (.aload_n 0, 1) := by decide +kernel
theorem dX4_readQuestion_73 : decode cX4_readQuestion 73 = .ok (.getfield 122, 3) := by decide +kernel
theorem dX4_readQuestion_76 : decode cX4_readQuestion 76 = .ok (.invokevirtual 113, 3) := by decide +kernel
theorem dX4_readQuestion_79 : decode cX4_readQuestion 79 = .ok (.aload_n 1, 1) := by decide +kernel
theorem dX4_readQuestion_80 : decode cX4_readQuestion 80 = .ok (.aload_n 0, 1) := by decide +kernel
theorem dX4_readQuestion_81 : decode cX4_readQuestion 81 = .ok (.getfield 125, 3) := by decide +kernel
theorem dX4_readQuestion_84 : decode cX4_readQuestion 84 = .ok (.invokevirtual 113, 3) := by decide +kernel
theorem dX4_readQuestion_87 : decode cX4_readQuestion 87 = .ok (.iconst 1, 1) := by decide +kernel
theorem dX4_readQuestion_88 : decode cX4_readQuestion 88 = .ok (.ireturn, 1) := by decide +kernel
theorem dX4_readSum_0 : decode cX4_readSum 0 = .ok (.aload_n 0, 1) := by decide +kernel
theorem dX4_readSum_1 : decode cX4_readSum 1 = .ok (.aload_n 1, 1) := by decide +kernel
theorem dX4_readSum_2 : decode cX4_readSum 2 = .ok (.iload_n 2, 1) := by decide +kernel
theorem dX4_readSum_3 : decode cX4_readSum 3 = .ok (.invokevirtual 141, 3) := by decide +kernel
theorem dX4_readSum_6 : decode cX4_readSum 6 = .ok (.istore_n 3, 1) := by decide +kernel
theorem dX4_readSum_7 : decode cX4_readSum 7 = .ok (.iload_n 3, 1) := by decide +kernel
theorem dX4_readSum_8 : decode cX4_readSum 8 = .ok (.iconst (-1), 1) := by decide +kernel
theorem dX4_readSum_9 : decode cX4_readSum 9 = .ok (.if_icmp .eq 27, 3) := by decide +kernel
theorem dX4_readSum_12 : decode cX4_readSum 12 = .ok (.aload_n 0, 1) := by decide +kernel
theorem dX4_readSum_13 : decode cX4_readSum 13 = .ok (.getfield 12, 3) := by decide +kernel
theorem dX4_readSum_16 : decode cX4_readSum 16 = .ok (.getfield 37, 3) := by decide +kernel
theorem dX4_readSum_19 : decode cX4_readSum 19 = .ok (.bipush 7, 2) := by decide +kernel
theorem dX4_readSum_21 : decode cX4_readSum 21 = .ok (.if_icmp .eq 17, 3) := by decide +kernel
theorem dX4_readSum_24 : decode cX4_readSum 24 = .ok (.aload_n 0, 1) := by decide +kernel
theorem dX4_readSum_25 : decode cX4_readSum 25 = .ok (.getfield 12, 3) := by decide +kernel
theorem dX4_readSum_28 : decode cX4_readSum 28 = .ok (.getfield 37, 3) := by decide +kernel
theorem dX4_readSum_31 : decode cX4_readSum 31 = .ok (.bipush 8, 2) := by decide +kernel
theorem dX4_readSum_33 : decode cX4_readSum 33 = .ok (.if_icmp .eq 5, 3) := by decide +kernel
theorem dX4_readSum_36 : decode cX4_readSum 36 = .ok (.iload_n 3, 1) := by decide +kernel
theorem dX4_readSum_37 : decode cX4_readSum 37 = .ok (.ireturn, 1) := by decide +kernel
theorem dX4_readSum_38 : decode cX4_readSum 38 = .ok (.iload_n 3, 1) := by decide +kernel
theorem dX4_readSum_39 : decode cX4_readSum 39 = .ok (.istore 4, 2) := by decide +kernel
theorem dX4_readSum_41 : decode cX4_readSum 41 = .ok (.iconst 1, 1) := by decide +kernel
theorem dX4_readSum_42 : decode cX4_readSum 42 = .ok (.istore 5, 2) := by decide +kernel
theorem dX4_readSum_44 : decode cX4_readSum 44 = .ok (.iconst 0, 1) := by decide +kernel
theorem dX4_readSum_45 : decode cX4_readSum 45 = .ok (.istore 6, 2) := by decide +kernel
theorem dX4_readSum_47 : decode cX4_readSum 47 = .ok (.iload 6, 2) := by decide +kernel
theorem dX4_readSum_49 : decode cX4_readSum 49 = .ok (.sipush 300, 3) := by decide +kernel
theorem dX4_readSum_52 : decode cX4_readSum 52 = .ok (.if_icmp .ge 113, 3) := by decide +kernel
theorem dX4_readSum_55 : decode cX4_readSum 55 = .ok (.aload_n 0, 1) := by decide +kernel
theorem dX4_readSum_56 : decode cX4_readSum 56 = .ok (.getfield 12, 3) := by decide +kernel
theorem dX4_readSum_59 : decode cX4_readSum 59 = .ok (.getfield 37, 3) := by decide +kernel
theorem dX4_readSum_62 : decode cX4_readSum 62 = .ok (.bipush 7, 2) := by decide +kernel
theorem dX4_readSum_64 : decode cX4_readSum 64 = .ok (.if_icmp .eq 15, 3) := by decide +kernel
theorem dX4_readSum_67 : decode cX4_readSum 67 = .ok (.aload_n 0, 1) := by decide +kernel
theorem dX4_readSum_68 : decode cX4_readSum 68 = .ok (.getfield 12, 3) := by decide +kernel
theorem dX4_readSum_71 : decode cX4_readSum 71 = .ok (.getfield 37, 3) := by decide +kernel
theorem dX4_readSum_74 : decode cX4_readSum 74 = .ok (.bipush 8, 2) := by decide +kernel
theorem dX4_readSum_76 : decode cX4_readSum 76 = .ok (.if_icmp .ne 89, 3) := by decide +kernel
theorem dX4_readSum_79 : decode cX4_readSum 79 = .ok (.aload_n 0, 1) := by decide +kernel
theorem dX4_readSum_80 : decode cX4_readSum 80 = .ok (.getfield 12, 3) := by decide +kernel
theorem dX4_readSum_83 : decode cX4_readSum 83 = .ok (.getfield 37, 3) := by decide +kernel
theorem dX4_readSum_86 : decode cX4_readSum 86 = .ok (.bipush 7, 2) := by decide +kernel
theorem dX4_readSum_88 : decode cX4_readSum 88 = .ok (.if_icmp .ne 7, 3) := by decide +kernel
theorem dX4_readSum_91 : decode cX4_readSum 91 = .ok (.iconst 1, 1) := by decide +kernel
theorem dX4_readSum_92 : decode cX4_readSum 92 = .ok (.goto 4, 3) := by decide +kernel
theorem dX4_readSum_95 : decode cX4_readSum 95 = .ok (.iconst (-1), 1) := by decide +kernel
theorem dX4_readSum_96 : decode cX4_readSum 96 = .ok (.istore 7, 2) := by decide +kernel
theorem dX4_readSum_98 : decode cX4_readSum 98 = .ok (.aload_n 0, 1) := by decide +kernel
theorem dX4_readSum_99 : decode cX4_readSum 99 = .ok (.dup, 1) := by decide +kernel
theorem dX4_readSum_100 : decode cX4_readSum 100 = .ok (.getfield 122, 3) := by decide +kernel
theorem dX4_readSum_103 : decode cX4_readSum 103 = .ok (.iload 7, 2) := by decide +kernel
theorem dX4_readSum_105 : decode cX4_readSum 105 = .ok (.ifCond .le 8, 3) := by decide +kernel
theorem dX4_readSum_108 : decode cX4_readSum 108 = .ok (.bipush 16, 2) := by decide +kernel
theorem dX4_readSum_110 : decode cX4_readSum 110 = .ok (.goto 5, 3) := by decide +kernel
theorem dX4_readSum_113 : decode cX4_readSum 113 = .ok (.bipush 32, 2) := by decide +kernel
theorem dX4_readSum_115 : decode cX4_readSum 115 = .ok (.ior, 1) := by decide +kernel
theorem dX4_readSum_116 : decode cX4_readSum 116 = .ok (.putfield 122, 3) := by decide +kernel
theorem dX4_readSum_119 : decode cX4_readSum 119 = .ok (.aload_n 0, 1) := by decide +kernel
theorem dX4_readSum_120 : decode cX4_readSum 120 = .ok (.getfield 12, 3) := by decide +kernel
theorem dX4_readSum_123 : decode cX4_readSum 123 = .ok (.invokevirtual 69, 3) := by decide +kernel
theorem dX4_readSum_126 : decode cX4_readSum 126 = .ok (.aload_n 0, 1) := by decide +kernel
theorem dX4_readSum_127 : decode cX4_readSum 127 = .ok (.aload_n 1, 1) := by decide +kernel
theorem dX4_readSum_128 : decode cX4_readSum 128 = .ok (.iload_n 2, 1) := by decide +kernel
theorem dX4_readSum_129 : decode cX4_readSum 129 = .ok (.invokevirtual 141, 3) := by decide +kernel
theorem dX4_readSum_132 : decode cX4_readSum 132 = .ok (.istore 8, 2) := by decide +kernel
theorem dX4_readSum_134 : decode cX4_readSum 134 = .ok (.iload 8, 2) := by decide +kernel
theorem dX4_readSum_136 : decode cX4_readSum 136 = .ok (.iconst (-1), 1) := by decide +kernel
theorem dX4_readSum_137 : decode cX4_readSum 137 = .ok (.if_icmp .ne 5, 3) := by decide +kernel
theorem dX4_readSum_140 : decode cX4_readSum 140 = .ok (.iconst (-1), 1) := by decide +kernel
theorem dX4_readSum_141 : decode cX4_readSum 141 = .ok (.ireturn, 1) := by decide +kernel
theorem dX4_readSum_142 : decode cX4_readSum 142 = .ok (.aload_n 1, 1) := by decide +kernel
theorem dX4_readSum_143 : decode cX4_readSum 143 = .ok (.iload 4, 2) := by decide +kernel
theorem dX4_readSum_145 : decode cX4_readSum 145 = .ok (.iload 8, 2) := by decide +kernel
theorem dX4_readSum_147 : decode cX4_readSum 147 = .ok (.iload 7, 2) := by decide +kernel
theorem dX4_readSum_149 : decode cX4_readSum 149 = .ok (.invokevirtual 144, 3) := by decide +kernel
theorem dX4_readSum_152 : decode cX4_readSum 152 = .ok (.iload 8, 2) := by decide +kernel
theorem dX4_readSum_154 : decode cX4_readSum 154 = .ok (.istore 4, 2) := by decide +kernel
theorem dX4_readSum_156 : decode cX4_readSum 156 = .ok (.iinc 5 1, 3) := by decide +kernel
theorem dX4_readSum_159 : decode cX4_readSum 159 = .ok (.iinc 6 1, 3) := by decide +kernel
theorem dX4_readSum_162 : decode cX4_readSum 162 = .ok (.goto (-115), 3) := by decide +kernel
theorem dX4_readSum_165 : decode cX4_readSum 165 = .ok (.aload_n 1, 1) := by decide +kernel
theorem dX4_readSum_166 : decode cX4_readSum 166 = .ok (.iconst 2, 1) := by decide +kernel
theorem dX4_readSum_167 : decode cX4_readSum 167 = .ok (.iload_n 3, 1) := by decide +kernel
theorem dX4_readSum_168 : decode cX4_readSum 168 = .ok (.iload 4, 2) := by decide +kernel
theorem dX4_readSum_170 : decode cX4_readSum 170 = .ok (.iload 5, 2) := by decide +kernel
theorem dX4_readSum_172 : decode cX4_readSum 172 = .ok (.invokevirtual 148, 3) := by decide +kernel
theorem dX4_readSum_175 : decode cX4_readSum 175 = .ok (.ireturn, 1) := by decide +kernel
theorem dX4_readProduct_0 : decode cX4_readProduct 0 = .ok (.aload_n 0, 1) := by decide +kernel
theorem dX4_readProduct_1 : decode cX4_readProduct 1 = .ok (.aload_n 1, 1) := by decide +kernel
theorem dX4_readProduct_2 : decode cX4_readProduct 2 = .ok (.iload_n 2, 1) := by decide +kernel
theorem dX4_readProduct_3 : decode cX4_readProduct 3 = .ok (.invokevirtual 152, 3) := by decide +kernel
theorem dX4_readProduct_6 : decode cX4_readProduct 6 = .ok (.istore_n 3, 1) := by decide +kernel
theorem dX4_readProduct_7 : decode cX4_readProduct 7 = .ok (.iload_n 3, 1) := by decide +kernel
theorem dX4_readProduct_8 : decode cX4_readProduct 8 = .ok (.iconst (-1), 1) := by decide +kernel
theorem dX4_readProduct_9 : decode cX4_readProduct 9 = .ok (.if_icmp .eq 15, 3) := by decide +kernel
theorem dX4_readProduct_12 : decode cX4_readProduct 12 = .ok (.aload_n 0, 1) := by decide +kernel
theorem dX4_readProduct_13 : decode cX4_readProduct 13 = .ok (.getfield 12, 3) := by decide +kernel
theorem dX4_readProduct_16 : decode cX4_readProduct 16 = .ok (.getfield 37, 3) := by decide +kernel
theorem dX4_readProduct_19 : decode cX4_readProduct 19 = .ok (.bipush 9, 2) := by decide +kernel
theorem dX4_readProduct_21 : decode cX4_readProduct 21 = .ok (.if_icmp .eq 5, 3) := by decide +kernel
theorem dX4_readProduct_24 : decode cX4_readProduct 24 = .ok (.iload_n 3, 1) := by decide +kernel
theorem dX4_readProduct_25 : decode cX4_readProduct 25 = .ok (.ireturn, 1) := by decide +kernel
theorem dX4_readProduct_26 : decode cX4_readProduct 26 = .ok (.iload_n 3, 1) := by decide +kernel
theorem dX4_readProduct_27 : decode cX4_readProduct 27 = .ok (.istore 4, 2) := by decide +kernel
theorem dX4_readProduct_29 : decode cX4_readProduct 29 = .ok (.iconst 1, 1) := by decide +kernel
theorem dX4_readProduct_30 : decode cX4_readProduct 30 = .ok (.istore 5, 2) := by decide +kernel
theorem dX4_readProduct_32 : decode cX4_readProduct 32 = .ok (.aload_n 0, 1) := by decide +kernel
theorem dX4_readProduct_33 : decode cX4_readProduct 33 = .ok (.dup, 1) := by decide +kernel
theorem dX4_readProduct_34 : decode cX4_readProduct 34 = .ok (.getfield 122, 3) := by decide +kernel
theorem dX4_readProduct_37 : decode cX4_readProduct 37 = .ok (.bipush 64, 2) := by decide +kernel
theorem dX4_readProduct_39 : decode cX4_readProduct 39 = .ok (.ior, 1) := by decide +kernel
theorem dX4_readProduct_40 : decode cX4_readProduct 40 = .ok (.putfield 122, 3) := by decide +kernel
theorem dX4_readProduct_43 : decode cX4_readProduct 43 = .ok (.iconst 0, 1) := by decide +kernel
theorem dX4_readProduct_44 : decode cX4_readProduct 44 = .ok (.istore 6, 2) := by decide +kernel
theorem dX4_readProduct_46 : decode cX4_readProduct 46 = .ok (.iload 6, 2) := by decide +kernel
theorem dX4_readProduct_48 : decode cX4_readProduct 48 = .ok (.sipush 300, 3) := by decide +kernel
theorem dX4_readProduct_51 : decode cX4_readProduct 51 = .ok (.if_icmp .ge 60, 3) := by decide +kernel
theorem dX4_readProduct_54 : decode cX4_readProduct 54 = .ok (.aload_n 0, 1) := by decide +kernel
theorem dX4_readProduct_55 : decode cX4_readProduct 55 = .ok (.getfield 12, 3) := by decide +kernel
theorem dX4_readProduct_58 : decode cX4_readProduct 58 = .ok (.getfield 37, 3) := by decide +kernel
theorem dX4_readProduct_61 : decode cX4_readProduct 61 = .ok (.bipush 9, 2) := by decide +kernel
theorem dX4_readProduct_63 : decode cX4_readProduct 63 = .ok (.if_icmp .ne 48, 3) := by decide +kernel
theorem dX4_readProduct_66 : decode cX4_readProduct 66 = .ok (.aload_n 0, 1) := by decide +kernel
theorem dX4_readProduct_67 : decode cX4_readProduct 67 = .ok (.getfield 12, 3) := by decide +kernel
theorem dX4_readProduct_70 : decode cX4_readProduct 70 = .ok (.invokevirtual 69, 3) := by decide +kernel
theorem dX4_readProduct_73 : decode cX4_readProduct 73 = .ok (.aload_n 0, 1) := by decide +kernel
theorem dX4_readProduct_74 : decode cX4_readProduct 74 = .ok (.aload_n 1, 1) := by decide +kernel
theorem dX4_readProduct_75 : decode cX4_readProduct 75 = .ok (.iload_n 2, 1) := by decide +kernel
theorem dX4_readProduct_76 : decode cX4_readProduct 76 = .ok (.invokevirtual 152, 3) := by decide +kernel
theorem dX4_readProduct_79 : decode cX4_readProduct 79 = .ok (.istore 7, 2) := by decide +kernel
theorem dX4_readProduct_81 : decode cX4_readProduct 81 = .ok (.iload 7, 2) := by decide +kernel
theorem dX4_readProduct_83 : decode cX4_readProduct 83 = .ok (.iconst (-1), 1) := by decide +kernel
theorem dX4_readProduct_84 : decode cX4_readProduct 84 = .ok (.if_icmp .ne 5, 3) := by decide +kernel
theorem dX4_readProduct_87 : decode cX4_readProduct 87 = .ok (.iconst (-1), 1) := by decide +kernel
theorem dX4_readProduct_88 : decode cX4_readProduct 88 = .ok (.ireturn, 1) := by decide +kernel
theorem dX4_readProduct_89 : decode cX4_readProduct 89 = .ok (.aload_n 1, 1) := by decide +kernel
theorem dX4_readProduct_90 : decode cX4_readProduct 90 = .ok (.iload 4, 2) := by decide +kernel
theorem dX4_readProduct_92 : decode cX4_readProduct 92 = .ok (.iload 7, 2) := by decide +kernel
theorem dX4_readProduct_94 : decode cX4_readProduct 94 = .ok (.iconst 1, 1) := by decide +kernel
theorem dX4_readProduct_95 : decode cX4_readProduct 95 = .ok (.invokevirtual 144, 3) := by decide +kernel
theorem dX4_readProduct_98 : decode cX4_readProduct 98 = .ok (.iload 7, 2) := by decide +kernel
theorem dX4_readProduct_100 : decode cX4_readProduct 100 = .ok (.istore 4, 2) := by decide +kernel
theorem dX4_readProduct_102 : decode cX4_readProduct 102 = .ok (.iinc 5 1, 3) := by decide +kernel
theorem dX4_readProduct_105 : decode cX4_readProduct 105 = .ok (.iinc 6 1, 3) := by decide +kernel
theorem dX4_readProduct_108 : decode cX4_readProduct 108 = .ok (.goto (-62), 3) := by decide +kernel
theorem dX4_readProduct_111 : decode cX4_readProduct 111 = .ok (.aload_n 1, 1) := by decide +kernel
theorem dX4_readProduct_112 : decode cX4_readProduct 112 = .ok (.iconst 3, 1) := by decide +kernel
theorem dX4_readProduct_113 : decode cX4_readProduct 113 = .ok (.iload_n 3, 1) := by decide +kernel
theorem dX4_readProduct_114 : decode cX4_readProduct 114 = .ok (.iload 4, 2) := by decide +kernel
theorem dX4_readProduct_116 : decode cX4_readProduct 116 = .ok (.iload 5, 2) := by decide +kernel
theorem dX4_readProduct_118 : decode cX4_readProduct 118 = .ok (.invokevirtual 148, 3) := by decide +kernel
theorem dX4_readProduct_121 : decode cX4_readProduct 121 = .ok (.ireturn, 1) := by decide +kernel
theorem dX4_readOne_0 : decode cX4_readOne 0 = .ok (.aload_n 0, 1) := by decide +kernel
theorem dX4_readOne_1 : decode cX4_readOne 1 = .ok (.getfield 12, 3) := by decide +kernel
theorem dX4_readOne_4 : decode cX4_readOne 4 = .ok (.getfield 37, 3) := by decide +kernel
theorem dX4_readOne_7 : decode cX4_readOne 7 = .ok (.istore_n 3, 1) := by decide +kernel
theorem dX4_readOne_8 : decode cX4_readOne 8 = .ok (.iload_n 3, 1) := by decide +kernel
theorem dX4_readOne_9 : decode cX4_readOne 9 = .ok (.iconst 2, 1) := by decide +kernel
theorem dX4_readOne_10 : decode cX4_readOne 10 = .ok (.if_icmp .eq 14, 3) := by decide +kernel
theorem dX4_readOne_13 : decode cX4_readOne 13 = .ok (.iload_n 3, 1) := by decide +kernel
theorem dX4_readOne_14 : decode cX4_readOne 14 = .ok (.bipush 44, 2) := by decide +kernel
theorem dX4_readOne_16 : decode cX4_readOne 16 = .ok (.bipush 47, 2) := by decide +kernel
theorem dX4_readOne_18 : decode cX4_readOne 18 = .ok (.invokestatic 58, 3) := by decide +kernel
theorem dX4_readOne_21 : decode cX4_readOne 21 = .ok (.ifCond .eq 9, 3) := by decide +kernel
theorem dX4_readOne_24 : decode cX4_readOne 24 = .ok (.aload_n 0, 1) := by decide +kernel
theorem dX4_readOne_25 : decode cX4_readOne 25 = .ok (.aload_n 1, 1) := by decide +kernel
theorem dX4_readOne_26 : decode cX4_readOne 26 = .ok (.invokevirtual 155, 3) := by decide +kernel
theorem dX4_readOne_29 : decode cX4_readOne 29 = .ok (.ireturn, 1) := by decide +kernel
theorem dX4_readOne_30 : decode cX4_readOne 30 = .ok (.iload_n 3, 1) := by decide +kernel
theorem dX4_readOne_31 : decode cX4_readOne 31 = .ok (.bipush 10, 2) := by decide +kernel
theorem dX4_readOne_33 : decode cX4_readOne 33 = .ok (.if_icmp .ne 10, 3) := by decide +kernel
theorem dX4_readOne_36 : decode cX4_readOne 36 = .ok (.aload_n 0, 1) := by decide +kernel
theorem dX4_readOne_37 : decode cX4_readOne 37 = .ok (.aload_n 1, 1) := by decide +kernel
theorem dX4_readOne_38 : decode cX4_readOne 38 = .ok (.iload_n 2, 1) := by decide +kernel
theorem dX4_readOne_39 : decode cX4_readOne 39 = .ok (.invokevirtual 159, 3) := by decide +kernel
theorem dX4_readOne_42 : decode cX4_readOne 42 = .ok (.ireturn, 1) := by decide +kernel
theorem dX4_readOne_43 : decode cX4_readOne 43 = .ok (.iload_n 3, 1) := by decide +kernel
theorem dX4_readOne_44 : decode cX4_readOne 44 = .ok (.bipush 36, 2) := by decide +kernel
theorem dX4_readOne_46 : decode cX4_readOne 46 = .ok (.bipush 41, 2) := by decide +kernel
theorem dX4_readOne_48 : decode cX4_readOne 48 = .ok (.invokestatic 58, 3) := by decide +kernel
theorem dX4_readOne_51 : decode cX4_readOne 51 = .ok (.ifCond .eq 10, 3) := by decide +kernel
theorem dX4_readOne_54 : decode cX4_readOne 54 = .ok (.aload_n 0, 1) := by decide +kernel
theorem dX4_readOne_55 : decode cX4_readOne 55 = .ok (.aload_n 1, 1) := by decide +kernel
theorem dX4_readOne_56 : decode cX4_readOne 56 = .ok (.iload_n 2, 1) := by decide +kernel
theorem dX4_readOne_57 : decode cX4_readOne 57 = .ok (.invokevirtual 162, 3) := by decide +kernel
theorem dX4_readOne_60 : decode cX4_readOne 60 = .ok (.ireturn, 1) := by decide +kernel
theorem dX4_readOne_61 : decode cX4_readOne 61 = .ok (.iload_n 3, 1) := by decide +kernel
theorem dX4_readOne_62 : decode cX4_readOne 62 = .ok (.bipush 42, 2) := by decide +kernel
theorem dX4_readOne_64 : decode cX4_readOne 64 = .ok (.if_icmp .ne 12, 3) := by decide +kernel
theorem dX4_readOne_67 : decode cX4_readOne 67 = .ok (.aload_n 0, 1) := by decide +kernel
theorem dX4_readOne_68 : decode cX4_readOne 68 = .ok (.aload_n 1, 1) := by decide +kernel
theorem dX4_readOne_69 : decode cX4_readOne 69 = .ok (.iload_n 2, 1) := by decide +kernel
theorem dX4_readOne_70 : decode cX4_readOne 70 = .ok (.invokevirtual 165, 3) := by decide +kernel
theorem dX4_readOne_73 : decode cX4_readOne 73 = .ok (.goto 8, 3) := by decide +kernel
theorem dX4_readOne_76 : decode cX4_readOne 76 = .ok (.aload_n 0, 1) := by decide +kernel
theorem dX4_readOne_77 : decode cX4_readOne 77 = .ok (.iconst 1, 1) := by decide +kernel
theorem dX4_readOne_78 : decode cX4_readOne 78 = .ok (.invokevirtual 62, 3) := by decide +kernel
theorem dX4_readOne_81 : decode cX4_readOne 81 = .ok (.ireturn, 1) := by decide +kernel
theorem dX4_readLeaf_0 : decode cX4_readLeaf 0 = .ok (.aload_n 0, 1) := by decide +kernel
theorem dX4_readLeaf_1 : decode cX4_readLeaf 1 = .ok (.getfield 12, 3) := by decide +kernel
theorem dX4_readLeaf_4 : decode cX4_readLeaf 4 = .ok (.getfield 37, 3) := by decide +kernel
theorem dX4_readLeaf_7 : decode cX4_readLeaf 7 = .ok (.iconst 2, 1) := by decide +kernel
theorem dX4_readLeaf_8 : decode cX4_readLeaf 8 = .ok (.if_icmp .ne 7, 3) := by decide +kernel
theorem dX4_readLeaf_11 : decode cX4_readLeaf 11 = .ok (.iconst 1, 1) := by decide +kernel
theorem dX4_readLeaf_12 : decode cX4_readLeaf 12 = .ok (.goto 4, 3) := by decide +kernel
theorem dX4_readLeaf_15 : decode cX4_readLeaf 15 = .ok (.iconst 0, 1) := by decide +kernel
theorem dX4_readLeaf_16 : decode cX4_readLeaf 16 = .ok (.istore_n 2, 1) := by decide +kernel
theorem dX4_readLeaf_17 : decode cX4_readLeaf 17 = .ok (.iload_n 2, 1) := by decide +kernel
theorem dX4_readLeaf_18 : decode cX4_readLeaf 18 = .ok (.ifCond .eq 21, 3) := by decide +kernel
theorem dX4_readLeaf_21 : decode cX4_readLeaf 21 = .ok (.aload_n 0, 1) := by decide +kernel
theorem dX4_readLeaf_22 : decode cX4_readLeaf 22 = .ok (.getfield 12, 3) := by decide +kernel
theorem dX4_readLeaf_25 : decode cX4_readLeaf 25 = .ok (.getfield 110, 3) := by decide +kernel
theorem dX4_readLeaf_28 : decode cX4_readLeaf 28 = .ok (.bipush 99, 2) := by decide +kernel
theorem dX4_readLeaf_30 : decode cX4_readLeaf 30 = .ok (.if_icmp .le 9, 3) := by decide +kernel
theorem dX4_readLeaf_33 : decode cX4_readLeaf 33 = .ok (.aload_n 0, 1) := by decide +kernel
theorem dX4_readLeaf_34 : decode cX4_readLeaf 34 = .ok (.iconst 2, 1) := by decide +kernel
theorem dX4_readLeaf_35 : decode cX4_readLeaf 35 = .ok (.invokevirtual 62, 3) := by decide +kernel
theorem dX4_readLeaf_38 : decode cX4_readLeaf 38 = .ok (.ireturn, 1) := by decide +kernel
theorem dX4_readLeaf_39 : decode cX4_readLeaf 39 = .ok (.aload_n 0, 1) := by decide +kernel
theorem dX4_readLeaf_40 : decode cX4_readLeaf 40 = .ok (.getfield 116, 3) := by decide +kernel
theorem dX4_readLeaf_43 : decode cX4_readLeaf 43 = .ok (.bipush 16, 2) := by decide +kernel
theorem dX4_readLeaf_45 : decode cX4_readLeaf 45 = .ok (.if_icmp .lt 9, 3) := by decide +kernel
theorem dX4_readLeaf_48 : decode cX4_readLeaf 48 = .ok (.aload_n 0, 1) := by decide +kernel
theorem dX4_readLeaf_49 : decode cX4_readLeaf 49 = .ok (.iconst 4, 1) := by decide +kernel
theorem dX4_readLeaf_50 : decode cX4_readLeaf 50 = .ok (.invokevirtual 62, 3) := by decide +kernel
theorem dX4_readLeaf_53 : decode cX4_readLeaf 53 = .ok (.ireturn, 1) := by decide +kernel
theorem dX4_readLeaf_54 : decode cX4_readLeaf 54 = .ok (.aload_n 0, 1) := by decide +kernel
theorem dX4_readLeaf_55 : decode cX4_readLeaf 55 = .ok (.dup, 1) := by decide +kernel
theorem dX4_readLeaf_56 : decode cX4_readLeaf 56 = .ok (.getfield 116, 3) := by decide +kernel
theorem dX4_readLeaf_59 : decode cX4_readLeaf 59 = .ok (.iconst 1, 1) := by decide +kernel
theorem dX4_readLeaf_60 : decode cX4_readLeaf 60 = .ok (.iadd, 1) := by decide +kernel
theorem dX4_readLeaf_61 : decode cX4_readLeaf 61 = .ok (.putfield 116, 3) := by decide +kernel
theorem dX4_readLeaf_64 : decode cX4_readLeaf 64 = .ok (.iload_n 2, 1) := by decide +kernel
theorem dX4_readLeaf_65 : decode cX4_readLeaf 65 = .ok (.ifCond .eq 13, 3) := by decide +kernel
theorem dX4_readLeaf_68 : decode cX4_readLeaf 68 = .ok (.aload_n 0, 1) := by decide +kernel
theorem dX4_readLeaf_69 : decode cX4_readLeaf 69 = .ok (.getfield 12, 3) := by decide +kernel
theorem dX4_readLeaf_72 : decode cX4_readLeaf 72 = .ok (.getfield 110, 3) := by decide +kernel
theorem dX4_readLeaf_75 : decode cX4_readLeaf 75 = .ok (.goto 13, 3) := by decide +kernel
theorem dX4_readLeaf_78 : decode cX4_readLeaf 78 = .ok (.aload_n 0, 1) := by decide +kernel
theorem dX4_readLeaf_79 : decode cX4_readLeaf 79 = .ok (.getfield 12, 3) := by decide +kernel
theorem dX4_readLeaf_82 : decode cX4_readLeaf 82 = .ok (.getfield 37, 3) := by decide +kernel
theorem dX4_readLeaf_85 : decode cX4_readLeaf 85 = .ok (.bipush 44, 2) := by decide +kernel
theorem dX4_readLeaf_87 : decode cX4_readLeaf 87 = .ok (.isub, 1) := by decide +kernel
theorem dX4_readLeaf_88 : decode cX4_readLeaf 88 = .ok (.istore_n 3, 1) := by decide +kernel
theorem dX4_readLeaf_89 : decode cX4_readLeaf 89 = .ok (.iload_n 2, 1) := by decide +kernel
theorem dX4_readLeaf_90 : decode cX4_readLeaf 90 = .ok (.ifCond .eq 18, 3) := by decide +kernel
theorem dX4_readLeaf_93 : decode cX4_readLeaf 93 = .ok (.aload_n 0, 1) := by decide +kernel
theorem dX4_readLeaf_94 : decode cX4_readLeaf 94 = .ok (.aload_n 0, 1) := by decide +kernel
theorem dX4_readLeaf_95 : decode cX4_readLeaf 95 = .ok (.getfield 125, 3) := by decide +kernel
theorem dX4_readLeaf_98 : decode cX4_readLeaf 98 = .ok (.iload_n 3, 1) := by decide +kernel
theorem dX4_readLeaf_99 : decode cX4_readLeaf 99 = .ok (.invokestatic 168, 3) := by decide +kernel
theorem dX4_readLeaf_102 : decode cX4_readLeaf 102 = .ok (.putfield 125, 3) := by decide +kernel
theorem dX4_readLeaf_105 : decode cX4_readLeaf 105 = .ok (.goto 15, 3) := by decide +kernel
theorem dX4_readLeaf_108 : decode cX4_readLeaf 108 = .ok (.aload_n 0, 1) := by decide +kernel
theorem dX4_readLeaf_109 : decode cX4_readLeaf 109 = .ok (.dup, 1) := by decide +kernel
theorem dX4_readLeaf_110 : decode cX4_readLeaf 110 = .ok (.getfield 122, 3) := by decide +kernel
theorem dX4_readLeaf_113 : decode cX4_readLeaf 113 = .ok (.iconst 1, 1) := by decide +kernel
theorem dX4_readLeaf_114 : decode cX4_readLeaf 114 = .ok (.iload_n 3, 1) := by decide +kernel
theorem dX4_readLeaf_115 : decode cX4_readLeaf 115 = .ok (.ishl, 1) := by decide +kernel
theorem dX4_readLeaf_116 : decode cX4_readLeaf 116 = .ok (.ior, 1) := by decide +kernel
theorem dX4_readLeaf_117 : decode cX4_readLeaf 117 = .ok (.putfield 122, 3) := by decide +kernel
theorem dX4_readLeaf_120 : decode cX4_readLeaf 120 = .ok (.aload_n 0, 1) := by decide +kernel
theorem dX4_readLeaf_121 : decode cX4_readLeaf 121 = .ok (.getfield 12, 3) := by decide +kernel
theorem dX4_readLeaf_124 : decode cX4_readLeaf 124 = .ok (.invokevirtual 69, 3) := by decide +kernel
theorem dX4_readLeaf_127 : decode cX4_readLeaf 127 = .ok (.aload_n 1, 1) := by decide +kernel
theorem dX4_readLeaf_128 : decode cX4_readLeaf 128 = .ok (.iload_n 2, 1) := by decide +kernel
theorem dX4_readLeaf_129 : decode cX4_readLeaf 129 = .ok (.ifCond .eq 7, 3) := by decide +kernel
theorem dX4_readLeaf_132 : decode cX4_readLeaf 132 = .ok (.iconst 0, 1) := by decide +kernel
theorem dX4_readLeaf_133 : decode cX4_readLeaf 133 = .ok (.goto 4, 3) := by decide +kernel
theorem dX4_readLeaf_136 : decode cX4_readLeaf 136 = .ok (.iconst 1, 1) := by decide +kernel
theorem dX4_readLeaf_137 : decode cX4_readLeaf 137 = .ok (.iload_n 3, 1) := by decide +kernel
theorem dX4_readLeaf_138 : decode cX4_readLeaf 138 = .ok (.invokevirtual 174, 3) := by decide +kernel
theorem dX4_readLeaf_141 : decode cX4_readLeaf 141 = .ok (.ireturn, 1) := by decide +kernel
theorem dX4_enter_0 : decode cX4_enter 0 = .ok (.aload_n 0, 1) := by decide +kernel
theorem dX4_enter_1 : decode cX4_enter 1 = .ok (.getfield 12, 3) := by decide +kernel
theorem dX4_enter_4 : decode cX4_enter 4 = .ok (.getfield 37, 3) := by decide +kernel
theorem dX4_enter_7 : decode cX4_enter 7 = .ok (.iload_n 1, 1) := by decide +kernel
theorem dX4_enter_8 : decode cX4_enter 8 = .ok (.if_icmp .ne 24, 3) := by decide +kernel
theorem dX4_enter_11 : decode cX4_enter 11 = .ok (.iload_n 2, 1) := by decide +kernel
theorem dX4_enter_12 : decode cX4_enter 12 = .ok (.bipush 8, 2) := by decide +kernel
theorem dX4_enter_14 : decode cX4_enter 14 = .ok (.if_icmp .lt 18, 3) := by decide +kernel
theorem dX4_enter_17 : decode cX4_enter 17 = .ok (.aload_n 0, 1) := by decide +kernel
theorem dX4_enter_18 : decode cX4_enter 18 = .ok (.iconst 3, 1) := by decide +kernel
theorem dX4_enter_19 : decode cX4_enter 19 = .ok (.invokevirtual 62, 3) := by decide +kernel
theorem dX4_enter_22 : decode cX4_enter 22 = .ok (.iconst (-1), 1) := by decide +kernel
theorem dX4_enter_23 : decode cX4_enter 23 = .ok (.if_icmp .eq 7, 3) := by decide +kernel
theorem dX4_enter_26 : decode cX4_enter 26 = .ok (.iconst 1, 1) := by decide +kernel
theorem dX4_enter_27 : decode cX4_enter 27 = .ok (.goto 4, 3) := by decide +kernel
theorem dX4_enter_30 : decode cX4_enter 30 = .ok (.iconst 0, 1) := by decide +kernel
theorem dX4_enter_31 : decode cX4_enter 31 = .ok (.ireturn, 1) := by decide +kernel
theorem dX4_enter_32 : decode cX4_enter 32 = .ok (.aload_n 0, 1) := by decide +kernel
theorem dX4_enter_33 : decode cX4_enter 33 = .ok (.aload_n 0, 1) := by decide +kernel
theorem dX4_enter_34 : decode cX4_enter 34 = .ok (.getfield 119, 3) := by decide +kernel
theorem dX4_enter_37 : decode cX4_enter 37 = .ok (.iload_n 2, 1) := by decide +kernel
theorem dX4_enter_38 : decode cX4_enter 38 = .ok (.iconst 1, 1) := by decide +kernel
theorem dX4_enter_39 : decode cX4_enter 39 = .ok (.iadd, 1) := by decide +kernel
theorem dX4_enter_40 : decode cX4_enter 40 = .ok (.invokestatic 168, 3) := by decide +kernel
theorem dX4_enter_43 : decode cX4_enter 43 = .ok (.putfield 119, 3) := by decide +kernel
theorem dX4_enter_46 : decode cX4_enter 46 = .ok (.aload_n 0, 1) := by decide +kernel
theorem dX4_enter_47 : decode cX4_enter 47 = .ok (.iload_n 1, 1) := by decide +kernel
theorem dX4_enter_48 : decode cX4_enter 48 = .ok (.invokevirtual 48, 3) := by decide +kernel
theorem dX4_enter_51 : decode cX4_enter 51 = .ok (.ireturn, 1) := by decide +kernel
theorem dX4_readBracket_0 : decode cX4_readBracket 0 = .ok (.aload_n 0, 1) := by decide +kernel
theorem dX4_readBracket_1 : decode cX4_readBracket 1 = .ok (.bipush 10, 2) := by decide +kernel
theorem dX4_readBracket_3 : decode cX4_readBracket 3 = .ok (.iload_n 2, 1) := by decide +kernel
theorem dX4_readBracket_4 : decode cX4_readBracket 4 = .ok (.invokevirtual 177, 3) := by decide +kernel
theorem dX4_readBracket_7 : decode cX4_readBracket 7 = .ok (.ifCond .ne 5, 3) := by decide +kernel
theorem dX4_readBracket_10 : decode cX4_readBracket 10 = .ok (.iconst (-1), 1) := by decide +kernel
theorem dX4_readBracket_11 : decode cX4_readBracket 11 = .ok (.ireturn, 1) := by decide +kernel
theorem dX4_readBracket_12 : decode cX4_readBracket 12 = .ok (.aload_n 0, 1) := by decide +kernel
theorem dX4_readBracket_13 : decode cX4_readBracket 13 = .ok (.dup, 1) := by decide +kernel
theorem dX4_readBracket_14 : decode cX4_readBracket 14 = .ok (.getfield 122, 3) := by decide +kernel
theorem dX4_readBracket_17 : decode cX4_readBracket 17 = .ok (.sipush 128, 3) := by decide +kernel
theorem dX4_readBracket_20 : decode cX4_readBracket 20 = .ok (.ior, 1) := by decide +kernel
theorem dX4_readBracket_21 : decode cX4_readBracket 21 = .ok (.putfield 122, 3) := by decide +kernel
theorem dX4_readBracket_24 : decode cX4_readBracket 24 = .ok (.aload_n 0, 1) := by decide +kernel
theorem dX4_readBracket_25 : decode cX4_readBracket 25 = .ok (.aload_n 1, 1) := by decide +kernel
theorem dX4_readBracket_26 : decode cX4_readBracket 26 = .ok (.iload_n 2, 1) := by decide +kernel
theorem dX4_readBracket_27 : decode cX4_readBracket 27 = .ok (.iconst 1, 1) := by decide +kernel
theorem dX4_readBracket_28 : decode cX4_readBracket 28 = .ok (.iadd, 1) := by decide +kernel
theorem dX4_readBracket_29 : decode cX4_readBracket 29 = .ok (.invokevirtual 137, 3) := by decide +kernel
theorem dX4_readBracket_32 : decode cX4_readBracket 32 = .ok (.istore_n 3, 1) := by decide +kernel
theorem dX4_readBracket_33 : decode cX4_readBracket 33 = .ok (.iload_n 3, 1) := by decide +kernel
theorem dX4_readBracket_34 : decode cX4_readBracket 34 = .ok (.iconst (-1), 1) := by decide +kernel
theorem dX4_readBracket_35 : decode cX4_readBracket 35 = .ok (.if_icmp .eq 16, 3) := by decide +kernel
theorem dX4_readBracket_38 : decode cX4_readBracket 38 = .ok (.aload_n 0, 1) := by decide +kernel
theorem dX4_readBracket_39 : decode cX4_readBracket 39 = .ok (.bipush 11, 2) := by decide +kernel
theorem dX4_readBracket_41 : decode cX4_readBracket 41 = .ok (.invokevirtual 48, 3) := by decide +kernel
theorem dX4_readBracket_44 : decode cX4_readBracket 44 = .ok (.ifCond .eq 7, 3) := by decide +kernel
theorem dX4_readBracket_47 : decode cX4_readBracket 47 = .ok (.iload_n 3, 1) := by decide +kernel
theorem dX4_readBracket_48 : decode cX4_readBracket 48 = .ok (.goto 4, 3) := by decide +kernel
theorem dX4_readBracket_51 : decode cX4_readBracket 51 = .ok (.iconst (-1), 1) := by decide +kernel
theorem dX4_readBracket_52 : decode cX4_readBracket 52 = .ok (.ireturn, 1) := by decide +kernel
theorem dX4_readWordOf_0 : decode cX4_readWordOf 0 = .ok (.aload_n 0, 1) := by decide +kernel
theorem dX4_readWordOf_1 : decode cX4_readWordOf 1 = .ok (.getfield 12, 3) := by decide +kernel
theorem dX4_readWordOf_4 : decode cX4_readWordOf 4 = .ok (.getfield 37, 3) := by decide +kernel
theorem dX4_readWordOf_7 : decode cX4_readWordOf 7 = .ok (.bipush 36, 2) := by decide +kernel
theorem dX4_readWordOf_9 : decode cX4_readWordOf 9 = .ok (.isub, 1) := by decide +kernel
theorem dX4_readWordOf_10 : decode cX4_readWordOf 10 = .ok (.istore_n 3, 1) := by decide +kernel
theorem dX4_readWordOf_11 : decode cX4_readWordOf 11 = .ok (.aload_n 0, 1) := by decide +kernel
theorem dX4_readWordOf_12 : decode cX4_readWordOf 12 = .ok (.getfield 12, 3) := by decide +kernel
theorem dX4_readWordOf_15 : decode cX4_readWordOf 15 = .ok (.getfield 37, 3) := by decide +kernel
theorem dX4_readWordOf_18 : decode cX4_readWordOf 18 = .ok (.bipush 38, 2) := by decide +kernel
theorem dX4_readWordOf_20 : decode cX4_readWordOf 20 = .ok (.if_icmp .lt 7, 3) := by decide +kernel
theorem dX4_readWordOf_23 : decode cX4_readWordOf 23 = .ok (.iconst 1, 1) := by decide +kernel
theorem dX4_readWordOf_24 : decode cX4_readWordOf 24 = .ok (.goto 4, 3) := by decide +kernel
theorem dX4_readWordOf_27 : decode cX4_readWordOf 27 = .ok (.iconst 0, 1) := by decide +kernel
theorem dX4_readWordOf_28 : decode cX4_readWordOf 28 = .ok (.istore 4, 2) := by decide +kernel
theorem dX4_readWordOf_30 : decode cX4_readWordOf 30 = .ok (.aload_n 0, 1) := by decide +kernel
theorem dX4_readWordOf_31 : decode cX4_readWordOf 31 = .ok (.getfield 12, 3) := by decide +kernel
theorem dX4_readWordOf_34 : decode cX4_readWordOf 34 = .ok (.invokevirtual 69, 3) := by decide +kernel
theorem dX4_readWordOf_37 : decode cX4_readWordOf 37 = .ok (.aload_n 0, 1) := by decide +kernel
theorem dX4_readWordOf_38 : decode cX4_readWordOf 38 = .ok (.bipush 10, 2) := by decide +kernel
theorem dX4_readWordOf_40 : decode cX4_readWordOf 40 = .ok (.iload_n 2, 1) := by decide +kernel
theorem dX4_readWordOf_41 : decode cX4_readWordOf 41 = .ok (.invokevirtual 177, 3) := by decide +kernel
theorem dX4_readWordOf_44 : decode cX4_readWordOf 44 = .ok (.ifCond .ne 5, 3) := by decide +kernel
theorem dX4_readWordOf_47 : decode cX4_readWordOf 47 = .ok (.iconst (-1), 1) := by decide +kernel
theorem dX4_readWordOf_48 : decode cX4_readWordOf 48 = .ok (.ireturn, 1) := by decide +kernel
theorem dX4_readWordOf_49 : decode cX4_readWordOf 49 = .ok (.aload_n 0, 1) := by decide +kernel
theorem dX4_readWordOf_50 : decode cX4_readWordOf 50 = .ok (.dup, 1) := by decide +kernel
theorem dX4_readWordOf_51 : decode cX4_readWordOf 51 = .ok (.getfield 122, 3) := by decide +kernel
theorem dX4_readWordOf_54 : decode cX4_readWordOf 54 = .ok (.sipush 256, 3) := by decide +kernel
theorem dX4_readWordOf_57 : decode cX4_readWordOf 57 = .ok (.iload_n 3, 1) := by decide +kernel
theorem dX4_readWordOf_58 : decode cX4_readWordOf 58 = .ok (.ishl, 1) := by decide +kernel
theorem dX4_readWordOf_59 : decode cX4_readWordOf 59 = .ok (.ior, 1) := by decide +kernel
theorem dX4_readWordOf_60 : decode cX4_readWordOf 60 = .ok (.putfield 122, 3) := by decide +kernel
theorem dX4_readWordOf_63 : decode cX4_readWordOf 63 = .ok (.aload_n 0, 1) := by decide +kernel
theorem dX4_readWordOf_64 : decode cX4_readWordOf 64 = .ok (.aload_n 1, 1) := by decide +kernel
theorem dX4_readWordOf_65 : decode cX4_readWordOf 65 = .ok (.iload_n 2, 1) := by decide +kernel
theorem dX4_readWordOf_66 : decode cX4_readWordOf 66 = .ok (.iconst 1, 1) := by decide +kernel
theorem dX4_readWordOf_67 : decode cX4_readWordOf 67 = .ok (.iadd, 1) := by decide +kernel
theorem dX4_readWordOf_68 : decode cX4_readWordOf 68 = .ok (.invokevirtual 137, 3) := by decide +kernel
theorem dX4_readWordOf_71 : decode cX4_readWordOf 71 = .ok (.istore 5, 2) := by decide +kernel
theorem dX4_readWordOf_73 : decode cX4_readWordOf 73 = .ok (.iload 4, 2) := by decide +kernel
theorem dX4_readWordOf_75 : decode cX4_readWordOf 75 = .ok (.ifCond .eq 29, 3) := by decide +kernel
theorem dX4_readWordOf_78 : decode cX4_readWordOf 78 = .ok (.iload 5, 2) := by decide +kernel
theorem dX4_readWordOf_80 : decode cX4_readWordOf 80 = .ok (.iconst (-1), 1) := by decide +kernel
theorem dX4_readWordOf_81 : decode cX4_readWordOf 81 = .ok (.if_icmp .eq 23, 3) := by decide +kernel
theorem dX4_readWordOf_84 : decode cX4_readWordOf 84 = .ok (.aload_n 0, 1) := by decide +kernel
theorem dX4_readWordOf_85 : decode cX4_readWordOf 85 = .ok (.bipush 12, 2) := by decide +kernel
theorem dX4_readWordOf_87 : decode cX4_readWordOf 87 = .ok (.invokevirtual 48, 3) := by decide +kernel
theorem dX4_readWordOf_90 : decode cX4_readWordOf 90 = .ok (.ifCond .eq 14, 3) := by decide +kernel
theorem dX4_readWordOf_93 : decode cX4_readWordOf 93 = .ok (.aload_n 0, 1) := by decide +kernel
theorem dX4_readWordOf_94 : decode cX4_readWordOf 94 = .ok (.aload_n 1, 1) := by decide +kernel
theorem dX4_readWordOf_95 : decode cX4_readWordOf 95 = .ok (.iload_n 2, 1) := by decide +kernel
theorem dX4_readWordOf_96 : decode cX4_readWordOf 96 = .ok (.iconst 1, 1) := by decide +kernel
theorem dX4_readWordOf_97 : decode cX4_readWordOf 97 = .ok (.iadd, 1) := by decide +kernel
theorem dX4_readWordOf_98 : decode cX4_readWordOf 98 = .ok (.invokevirtual 137, 3) := by decide +kernel
theorem dX4_readWordOf_101 : decode cX4_readWordOf 101 = .ok (.goto 4, 3) := by decide +kernel
theorem dX4_readWordOf_104 : decode cX4_readWordOf 104 = .ok (.iconst (-1), 1) := by decide +kernel
theorem dX4_readWordOf_105 : decode cX4_readWordOf 105 = .ok (.istore 6, 2) := by decide +kernel
theorem dX4_readWordOf_107 : decode cX4_readWordOf 107 = .ok (.iload 4, 2) := by decide +kernel
theorem dX4_readWordOf_109 : decode cX4_readWordOf 109 = .ok (.ifCond .eq 8, 3) := by decide +kernel
theorem dX4_readWordOf_112 : decode cX4_readWordOf 112 = .ok (.iload 6, 2) := by decide +kernel
theorem dX4_readWordOf_114 : decode cX4_readWordOf 114 = .ok (.goto 5, 3) := by decide +kernel
theorem dX4_readWordOf_117 : decode cX4_readWordOf 117 = .ok (.iload 5, 2) := by decide +kernel
theorem dX4_readWordOf_119 : decode cX4_readWordOf 119 = .ok (.iconst (-1), 1) := by decide +kernel
theorem dX4_readWordOf_120 : decode cX4_readWordOf 120 = .ok (.if_icmp .eq 12, 3) := by decide +kernel
theorem dX4_readWordOf_123 : decode cX4_readWordOf 123 = .ok (.aload_n 0, 1) := by decide +kernel
theorem dX4_readWordOf_124 : decode cX4_readWordOf 124 = .ok (.bipush 11, 2) := by decide +kernel
theorem dX4_readWordOf_126 : decode cX4_readWordOf 126 = .ok (.invokevirtual 48, 3) := by decide +kernel
theorem dX4_readWordOf_129 : decode cX4_readWordOf 129 = .ok (.ifCond .ne 5, 3) := by decide +kernel
theorem dX4_readWordOf_132 : decode cX4_readWordOf 132 = .ok (.iconst (-1), 1) := by decide +kernel
theorem dX4_readWordOf_133 : decode cX4_readWordOf 133 = .ok (.ireturn, 1) := by decide +kernel
theorem dX4_readWordOf_134 : decode cX4_readWordOf 134 = .ok (.aload_n 1, 1) := by decide +kernel
theorem dX4_readWordOf_135 : decode cX4_readWordOf 135 = .ok (.iconst 4, 1) := by decide +kernel
theorem dX4_readWordOf_136 : decode cX4_readWordOf 136 = .ok (.iload_n 3, 1) := by decide +kernel
theorem dX4_readWordOf_137 : decode cX4_readWordOf 137 = .ok (.iadd, 1) := by decide +kernel
theorem dX4_readWordOf_138 : decode cX4_readWordOf 138 = .ok (.iconst 0, 1) := by decide +kernel
theorem dX4_readWordOf_139 : decode cX4_readWordOf 139 = .ok (.invokevirtual 174, 3) := by decide +kernel
theorem dX4_readWordOf_142 : decode cX4_readWordOf 142 = .ok (.istore 7, 2) := by decide +kernel
theorem dX4_readWordOf_144 : decode cX4_readWordOf 144 = .ok (.aload_n 1, 1) := by decide +kernel
theorem dX4_readWordOf_145 : decode cX4_readWordOf 145 = .ok (.iload 7, 2) := by decide +kernel
theorem dX4_readWordOf_147 : decode cX4_readWordOf 147 = .ok (.iload 5, 2) := by decide +kernel
theorem dX4_readWordOf_149 : decode cX4_readWordOf 149 = .ok (.iconst 1, 1) := by decide +kernel
theorem dX4_readWordOf_150 : decode cX4_readWordOf 150 = .ok (.invokevirtual 181, 3) := by decide +kernel
theorem dX4_readWordOf_153 : decode cX4_readWordOf 153 = .ok (.aload_n 1, 1) := by decide +kernel
theorem dX4_readWordOf_154 : decode cX4_readWordOf 154 = .ok (.iload 7, 2) := by decide +kernel
theorem dX4_readWordOf_156 : decode cX4_readWordOf 156 = .ok (.iload 6, 2) := by decide +kernel
theorem dX4_readWordOf_158 : decode cX4_readWordOf 158 = .ok (.iconst 1, 1) := by decide +kernel
theorem dX4_readWordOf_159 : decode cX4_readWordOf 159 = .ok (.invokevirtual 181, 3) := by decide +kernel
theorem dX4_readWordOf_162 : decode cX4_readWordOf 162 = .ok (.iload 7, 2) := by decide +kernel
theorem dX4_readWordOf_164 : decode cX4_readWordOf 164 = .ok (.ireturn, 1) := by decide +kernel
theorem dX4_readIf_0 : decode cX4_readIf 0 = .ok (.aload_n 0, 1) := by decide +kernel
theorem dX4_readIf_1 : decode cX4_readIf 1 = .ok (.bipush 42, 2) := by decide +kernel
theorem dX4_readIf_3 : decode cX4_readIf 3 = .ok (.iload_n 2, 1) := by decide +kernel
theorem dX4_readIf_4 : decode cX4_readIf 4 = .ok (.invokevirtual 177, 3) := by decide +kernel
theorem dX4_readIf_7 : decode cX4_readIf 7 = .ok (.ifCond .ne 5, 3) := by decide +kernel
theorem dX4_readIf_10 : decode cX4_readIf 10 = .ok (.iconst (-1), 1) := by decide +kernel
theorem dX4_readIf_11 : decode cX4_readIf 11 = .ok (.ireturn, 1) := by decide +kernel
theorem dX4_readIf_12 : decode cX4_readIf 12 = .ok (.aload_n 0, 1) := by decide +kernel
theorem dX4_readIf_13 : decode cX4_readIf 13 = .ok (.dup, 1) := by decide +kernel
theorem dX4_readIf_14 : decode cX4_readIf 14 = .ok (.getfield 122, 3) := by decide +kernel
theorem dX4_readIf_17 : decode cX4_readIf 17 = .ok (.sipush 16384, 3) := by decide +kernel
theorem dX4_readIf_20 : decode cX4_readIf 20 = .ok (.ior, 1) := by decide +kernel
theorem dX4_readIf_21 : decode cX4_readIf 21 = .ok (.putfield 122, 3) := by decide +kernel
theorem dX4_readIf_24 : decode cX4_readIf 24 = .ok (.aload_n 0, 1) := by decide +kernel
theorem dX4_readIf_25 : decode cX4_readIf 25 = .ok (.aload_n 1, 1) := by decide +kernel
theorem dX4_readIf_26 : decode cX4_readIf 26 = .ok (.iload_n 2, 1) := by decide +kernel
theorem dX4_readIf_27 : decode cX4_readIf 27 = .ok (.iconst 1, 1) := by decide +kernel
theorem dX4_readIf_28 : decode cX4_readIf 28 = .ok (.iadd, 1) := by decide +kernel
theorem dX4_readIf_29 : decode cX4_readIf 29 = .ok (.invokevirtual 137, 3) := by decide +kernel
theorem dX4_readIf_32 : decode cX4_readIf 32 = .ok (.istore_n 3, 1) := by decide +kernel
theorem dX4_readIf_33 : decode cX4_readIf 33 = .ok (.aload_n 0, 1) := by decide +kernel
theorem dX4_readIf_34 : decode cX4_readIf 34 = .ok (.getfield 12, 3) := by decide +kernel
theorem dX4_readIf_37 : decode cX4_readIf 37 = .ok (.getfield 37, 3) := by decide +kernel
theorem dX4_readIf_40 : decode cX4_readIf 40 = .ok (.invokestatic 184, 3) := by decide +kernel
theorem dX4_readIf_43 : decode cX4_readIf 43 = .ok (.istore 4, 2) := by decide +kernel
theorem dX4_readIf_45 : decode cX4_readIf 45 = .ok (.iload_n 3, 1) := by decide +kernel
theorem dX4_readIf_46 : decode cX4_readIf 46 = .ok (.iconst (-1), 1) := by decide +kernel
theorem dX4_readIf_47 : decode cX4_readIf 47 = .ok (.if_icmp .eq 9, 3) := by decide +kernel
theorem dX4_readIf_50 : decode cX4_readIf 50 = .ok (.iload 4, 2) := by decide +kernel
theorem dX4_readIf_52 : decode cX4_readIf 52 = .ok (.iconst (-1), 1) := by decide +kernel
theorem dX4_readIf_53 : decode cX4_readIf 53 = .ok (.if_icmp .ne 18, 3) := by decide +kernel
theorem dX4_readIf_56 : decode cX4_readIf 56 = .ok (.iload_n 3, 1) := by decide +kernel
theorem dX4_readIf_57 : decode cX4_readIf 57 = .ok (.iconst (-1), 1) := by decide +kernel
theorem dX4_readIf_58 : decode cX4_readIf 58 = .ok (.if_icmp .ne 7, 3) := by decide +kernel
theorem dX4_readIf_61 : decode cX4_readIf 61 = .ok (.iconst (-1), 1) := by decide +kernel
theorem dX4_readIf_62 : decode cX4_readIf 62 = .ok (.goto 8, 3) := by decide +kernel
theorem dX4_readIf_65 : decode cX4_readIf 65 = .ok (.aload_n 0, 1) := by decide +kernel
theorem dX4_readIf_66 : decode cX4_readIf 66 = .ok (.iconst 1, 1) := by decide +kernel
theorem dX4_readIf_67 : decode cX4_readIf 67 = .ok (.invokevirtual 62, 3) := by decide +kernel
theorem dX4_readIf_70 : decode cX4_readIf 70 = .ok (.ireturn, 1) := by decide +kernel
theorem dX4_readIf_71 : decode cX4_readIf 71 = .ok (.aload_n 0, 1) := by decide +kernel
theorem dX4_readIf_72 : decode cX4_readIf 72 = .ok (.getfield 12, 3) := by decide +kernel
theorem dX4_readIf_75 : decode cX4_readIf 75 = .ok (.invokevirtual 69, 3) := by decide +kernel
theorem dX4_readIf_78 : decode cX4_readIf 78 = .ok (.aload_n 0, 1) := by decide +kernel
theorem dX4_readIf_79 : decode cX4_readIf 79 = .ok (.aload_n 1, 1) := by decide +kernel
theorem dX4_readIf_80 : decode cX4_readIf 80 = .ok (.iload_n 2, 1) := by decide +kernel
theorem dX4_readIf_81 : decode cX4_readIf 81 = .ok (.iconst 1, 1) := by decide +kernel
theorem dX4_readIf_82 : decode cX4_readIf 82 = .ok (.iadd, 1) := by decide +kernel
theorem dX4_readIf_83 : decode cX4_readIf 83 = .ok (.invokevirtual 137, 3) := by decide +kernel
theorem dX4_readIf_86 : decode cX4_readIf 86 = .ok (.istore 5, 2) := by decide +kernel
theorem dX4_readIf_88 : decode cX4_readIf 88 = .ok (.iload 5, 2) := by decide +kernel
theorem dX4_readIf_90 : decode cX4_readIf 90 = .ok (.iconst (-1), 1) := by decide +kernel
theorem dX4_readIf_91 : decode cX4_readIf 91 = .ok (.if_icmp .eq 23, 3) := by decide +kernel
theorem dX4_readIf_94 : decode cX4_readIf 94 = .ok (.aload_n 0, 1) := by decide +kernel
theorem dX4_readIf_95 : decode cX4_readIf 95 = .ok (.bipush 14, 2) := by decide +kernel
theorem dX4_readIf_97 : decode cX4_readIf 97 = .ok (.invokevirtual 48, 3) := by decide +kernel
theorem dX4_readIf_100 : decode cX4_readIf 100 = .ok (.ifCond .eq 14, 3) := by decide +kernel
theorem dX4_readIf_103 : decode cX4_readIf 103 = .ok (.aload_n 0, 1) := by decide +kernel
theorem dX4_readIf_104 : decode cX4_readIf 104 = .ok (.aload_n 1, 1) := by decide +kernel
theorem dX4_readIf_105 : decode cX4_readIf 105 = .ok (.iload_n 2, 1) := by decide +kernel
theorem dX4_readIf_106 : decode cX4_readIf 106 = .ok (.iconst 1, 1) := by decide +kernel
theorem dX4_readIf_107 : decode cX4_readIf 107 = .ok (.iadd, 1) := by decide +kernel
theorem dX4_readIf_108 : decode cX4_readIf 108 = .ok (.invokevirtual 137, 3) := by decide +kernel
theorem dX4_readIf_111 : decode cX4_readIf 111 = .ok (.goto 4, 3) := by decide +kernel
theorem dX4_readIf_114 : decode cX4_readIf 114 = .ok (.iconst (-1), 1) := by decide +kernel
theorem dX4_readIf_115 : decode cX4_readIf 115 = .ok (.istore 6, 2) := by decide +kernel
theorem dX4_readIf_117 : decode cX4_readIf 117 = .ok (.iload 6, 2) := by decide +kernel
theorem dX4_readIf_119 : decode cX4_readIf 119 = .ok (.iconst (-1), 1) := by decide +kernel
theorem dX4_readIf_120 : decode cX4_readIf 120 = .ok (.if_icmp .eq 23, 3) := by decide +kernel
theorem dX4_readIf_123 : decode cX4_readIf 123 = .ok (.aload_n 0, 1) := by decide +kernel
theorem dX4_readIf_124 : decode cX4_readIf 124 = .ok (.bipush 15, 2) := by decide +kernel
theorem dX4_readIf_126 : decode cX4_readIf 126 = .ok (.invokevirtual 48, 3) := by decide +kernel
theorem dX4_readIf_129 : decode cX4_readIf 129 = .ok (.ifCond .eq 14, 3) := by decide +kernel
theorem dX4_readIf_132 : decode cX4_readIf 132 = .ok (.aload_n 0, 1) := by decide +kernel
theorem dX4_readIf_133 : decode cX4_readIf 133 = .ok (.aload_n 1, 1) := by decide +kernel
theorem dX4_readIf_134 : decode cX4_readIf 134 = .ok (.iload_n 2, 1) := by decide +kernel
theorem dX4_readIf_135 : decode cX4_readIf 135 = .ok (.iconst 1, 1) := by decide +kernel
theorem dX4_readIf_136 : decode cX4_readIf 136 = .ok (.iadd, 1) := by decide +kernel
theorem dX4_readIf_137 : decode cX4_readIf 137 = .ok (.invokevirtual 137, 3) := by decide +kernel
theorem dX4_readIf_140 : decode cX4_readIf 140 = .ok (.goto 4, 3) := by decide +kernel
theorem dX4_readIf_143 : decode cX4_readIf 143 = .ok (.iconst (-1), 1) := by decide +kernel
theorem dX4_readIf_144 : decode cX4_readIf 144 = .ok (.istore 7, 2) := by decide +kernel
theorem dX4_readIf_146 : decode cX4_readIf 146 = .ok (.iload 7, 2) := by decide +kernel
theorem dX4_readIf_148 : decode cX4_readIf 148 = .ok (.iconst (-1), 1) := by decide +kernel
theorem dX4_readIf_149 : decode cX4_readIf 149 = .ok (.if_icmp .eq 12, 3) := by decide +kernel
theorem dX4_readIf_152 : decode cX4_readIf 152 = .ok (.aload_n 0, 1) := by decide +kernel
theorem dX4_readIf_153 : decode cX4_readIf 153 = .ok (.bipush 43, 2) := by decide +kernel
theorem dX4_readIf_155 : decode cX4_readIf 155 = .ok (.invokevirtual 48, 3) := by decide +kernel
theorem dX4_readIf_158 : decode cX4_readIf 158 = .ok (.ifCond .ne 5, 3) := by decide +kernel
theorem dX4_readIf_161 : decode cX4_readIf 161 = .ok (.iconst (-1), 1) := by decide +kernel
theorem dX4_readIf_162 : decode cX4_readIf 162 = .ok (.ireturn, 1) := by decide +kernel
theorem dX4_readIf_163 : decode cX4_readIf 163 = .ok (.aload_n 1, 1) := by decide +kernel
theorem dX4_readIf_164 : decode cX4_readIf 164 = .ok (.bipush 10, 2) := by decide +kernel
theorem dX4_readIf_166 : decode cX4_readIf 166 = .ok (.iload 4, 2) := by decide +kernel
theorem dX4_readIf_168 : decode cX4_readIf 168 = .ok (.invokevirtual 174, 3) := by decide +kernel
theorem dX4_readIf_171 : decode cX4_readIf 171 = .ok (.istore 8, 2) := by decide +kernel
theorem dX4_readIf_173 : decode cX4_readIf 173 = .ok (.aload_n 1, 1) := by decide +kernel
theorem dX4_readIf_174 : decode cX4_readIf 174 = .ok (.iload 8, 2) := by decide +kernel
theorem dX4_readIf_176 : decode cX4_readIf 176 = .ok (.iload_n 3, 1) := by decide +kernel
theorem dX4_readIf_177 : decode cX4_readIf 177 = .ok (.iconst 1, 1) := by decide +kernel
theorem dX4_readIf_178 : decode cX4_readIf 178 = .ok (.invokevirtual 181, 3) := by decide +kernel
theorem dX4_readIf_181 : decode cX4_readIf 181 = .ok (.aload_n 1, 1) := by decide +kernel
theorem dX4_readIf_182 : decode cX4_readIf 182 = .ok (.iload 8, 2) := by decide +kernel
theorem dX4_readIf_184 : decode cX4_readIf 184 = .ok (.iload 5, 2) := by decide +kernel
theorem dX4_readIf_186 : decode cX4_readIf 186 = .ok (.iconst 1, 1) := by decide +kernel
theorem dX4_readIf_187 : decode cX4_readIf 187 = .ok (.invokevirtual 181, 3) := by decide +kernel
theorem dX4_readIf_190 : decode cX4_readIf 190 = .ok (.aload_n 1, 1) := by decide +kernel
theorem dX4_readIf_191 : decode cX4_readIf 191 = .ok (.iload 8, 2) := by decide +kernel
theorem dX4_readIf_193 : decode cX4_readIf 193 = .ok (.iload 6, 2) := by decide +kernel
theorem dX4_readIf_195 : decode cX4_readIf 195 = .ok (.iconst 1, 1) := by decide +kernel
theorem dX4_readIf_196 : decode cX4_readIf 196 = .ok (.invokevirtual 181, 3) := by decide +kernel
theorem dX4_readIf_199 : decode cX4_readIf 199 = .ok (.aload_n 1, 1) := by decide +kernel
theorem dX4_readIf_200 : decode cX4_readIf 200 = .ok (.iload 8, 2) := by decide +kernel
theorem dX4_readIf_202 : decode cX4_readIf 202 = .ok (.iload 7, 2) := by decide +kernel
theorem dX4_readIf_204 : decode cX4_readIf 204 = .ok (.iconst 1, 1) := by decide +kernel
theorem dX4_readIf_205 : decode cX4_readIf 205 = .ok (.invokevirtual 181, 3) := by decide +kernel
theorem dX4_readIf_208 : decode cX4_readIf 208 = .ok (.iload 8, 2) := by decide +kernel
theorem dX4_readIf_210 : decode cX4_readIf 210 = .ok (.ireturn, 1) := by decide +kernel
theorem dX4_comparisonOf_0 : decode cX4_comparisonOf 0 = .ok (.iload_n 0, 1) := by decide +kernel
theorem dX4_comparisonOf_1 : decode cX4_comparisonOf 1 = .ok (.tableswitch 87 3 17 #[75, 79, 83, 85, 87, 87, 87, 87, 87, 87, 87, 87, 87, 77, 81], 75) := by decide +kernel
theorem dX4_comparisonOf_76 : decode cX4_comparisonOf 76 = .ok (.iconst 0, 1) := by decide +kernel
theorem dX4_comparisonOf_77 : decode cX4_comparisonOf 77 = .ok (.ireturn, 1) := by decide +kernel
theorem dX4_comparisonOf_78 : decode cX4_comparisonOf 78 = .ok (.iconst 1, 1) := by decide +kernel
theorem dX4_comparisonOf_79 : decode cX4_comparisonOf 79 = .ok (.ireturn, 1) := by decide +kernel
theorem dX4_comparisonOf_80 : decode cX4_comparisonOf 80 = .ok (.iconst 2, 1) := by decide +kernel
theorem dX4_comparisonOf_81 : decode cX4_comparisonOf 81 = .ok (.ireturn, 1) := by decide +kernel
theorem dX4_comparisonOf_82 : decode cX4_comparisonOf 82 = .ok (.iconst 3, 1) := by decide +kernel
theorem dX4_comparisonOf_83 : decode cX4_comparisonOf 83 = .ok (.ireturn, 1) := by decide +kernel
theorem dX4_comparisonOf_84 : decode cX4_comparisonOf 84 = .ok (.iconst 4, 1) := by decide +kernel
theorem dX4_comparisonOf_85 : decode cX4_comparisonOf 85 = .ok (.ireturn, 1) := by decide +kernel
theorem dX4_comparisonOf_86 : decode cX4_comparisonOf 86 = .ok (.iconst 5, 1) := by decide +kernel
theorem dX4_comparisonOf_87 : decode cX4_comparisonOf 87 = .ok (.ireturn, 1) := by decide +kernel
theorem dX4_comparisonOf_88 : decode cX4_comparisonOf 88 = .ok (.iconst (-1), 1) := by decide +kernel
theorem dX4_comparisonOf_89 : decode cX4_comparisonOf 89 = .ok (.ireturn, 1) := by decide +kernel
theorem dX5_init_0 : decode cX5_init 0 = .ok (.aload_n 0, 1) := by decide +kernel
theorem dX5_init_1 : decode cX5_init 1 = .ok (.invokespecial 1, 3) := by decide +kernel
theorem dX5_init_4 : decode cX5_init 4 = .ok (.aload_n 0, 1) := by decide +kernel
theorem dX5_init_5 : decode cX5_init 5 = .ok (.sipush 128, 3) := by decide +kernel
theorem dX5_init_8 : decode cX5_init 8 = .ok (.newarray .int, 2) := by decide +kernel
theorem dX5_init_10 : decode cX5_init 10 = .ok (.putfield 7, 3) := by decide +kernel
theorem dX5_init_13 : decode cX5_init 13 = .ok (.return_, 1) := by decide +kernel
theorem dX5_rewind_0 : decode cX5_rewind 0 = .ok (.aload_n 0, 1) := by decide +kernel
theorem dX5_rewind_1 : decode cX5_rewind 1 = .ok (.iconst 0, 1) := by decide +kernel
theorem dX5_rewind_2 : decode cX5_rewind 2 = .ok (.putfield 13, 3) := by decide +kernel
theorem dX5_rewind_5 : decode cX5_rewind 5 = .ok (.return_, 1) := by decide +kernel
theorem dX5_put_0 : decode cX5_put 0 = .ok (.aload_n 0, 1) := by decide +kernel
theorem dX5_put_1 : decode cX5_put 1 = .ok (.getfield 13, 3) := by decide +kernel
theorem dX5_put_4 : decode cX5_put 4 = .ok (.aload_n 0, 1) := by decide +kernel
theorem dX5_put_5 : decode cX5_put 5 = .ok (.getfield 7, 3) := by decide +kernel
theorem dX5_put_8 : decode cX5_put 8 = .ok (.arraylength, 1) := by decide +kernel
theorem dX5_put_9 : decode cX5_put 9 = .ok (.if_icmp .ge 23, 3) := by decide +kernel
theorem dX5_put_12 : decode cX5_put 12 = .ok (.aload_n 0, 1) := by decide +kernel
theorem dX5_put_13 : decode cX5_put 13 = .ok (.getfield 7, 3) := by decide +kernel
theorem dX5_put_16 : decode cX5_put 16 = .ok (.aload_n 0, 1) := by decide +kernel
theorem dX5_put_17 : decode cX5_put 17 = .ok (.getfield 13, 3) := by decide +kernel
theorem dX5_put_20 : decode cX5_put 20 = .ok (.iload_n 1, 1) := by decide +kernel
theorem dX5_put_21 : decode cX5_put 21 = .ok (.iastore, 1) := by decide +kernel
theorem dX5_put_22 : decode cX5_put 22 = .ok (.aload_n 0, 1) := by decide +kernel
theorem dX5_put_23 : decode cX5_put 23 = .ok (.dup, 1) := by decide +kernel
theorem dX5_put_24 : decode cX5_put 24 = .ok (.getfield 13, 3) := by decide +kernel
theorem dX5_put_27 : decode cX5_put 27 = .ok (.iconst 1, 1) := by decide +kernel
theorem dX5_put_28 : decode cX5_put 28 = .ok (.iadd, 1) := by decide +kernel
theorem dX5_put_29 : decode cX5_put 29 = .ok (.putfield 13, 3) := by decide +kernel
theorem dX5_put_32 : decode cX5_put 32 = .ok (.return_, 1) := by decide +kernel
theorem dX5_take_0 : decode cX5_take 0 = .ok (.aload_n 0, 1) := by decide +kernel
theorem dX5_take_1 : decode cX5_take 1 = .ok (.getfield 13, 3) := by decide +kernel
theorem dX5_take_4 : decode cX5_take 4 = .ok (.aload_n 0, 1) := by decide +kernel
theorem dX5_take_5 : decode cX5_take 5 = .ok (.getfield 7, 3) := by decide +kernel
theorem dX5_take_8 : decode cX5_take 8 = .ok (.arraylength, 1) := by decide +kernel
theorem dX5_take_9 : decode cX5_take 9 = .ok (.if_icmp .lt 5, 3) := by decide +kernel
theorem dX5_take_12 : decode cX5_take 12 = .ok (.iconst 0, 1) := by decide +kernel
theorem dX5_take_13 : decode cX5_take 13 = .ok (.ireturn, 1) := by decide +kernel
theorem dX5_take_14 : decode cX5_take 14 = .ok (.aload_n 0, 1) := by decide +kernel
theorem dX5_take_15 : decode cX5_take 15 = .ok (.dup, 1) := by decide +kernel
theorem dX5_take_16 : decode cX5_take 16 = .ok (.getfield 13, 3) := by decide +kernel
theorem dX5_take_19 : decode cX5_take 19 = .ok (.iconst 1, 1) := by decide +kernel
theorem dX5_take_20 : decode cX5_take 20 = .ok (.iadd, 1) := by decide +kernel
theorem dX5_take_21 : decode cX5_take 21 = .ok (.putfield 13, 3) := by decide +kernel
theorem dX5_take_24 : decode cX5_take 24 = .ok (.aload_n 0, 1) := by decide +kernel
theorem dX5_take_25 : decode cX5_take 25 = .ok (.getfield 7, 3) := by decide +kernel
theorem dX5_take_28 : decode cX5_take 28 = .ok (.aload_n 0, 1) := by decide +kernel
theorem dX5_take_29 : decode cX5_take 29 = .ok (.getfield 13, 3) := by decide +kernel
theorem dX5_take_32 : decode cX5_take 32 = .ok (.iconst 1, 1) := by decide +kernel
theorem dX5_take_33 : decode cX5_take 33 = .ok (.isub, 1) := by decide +kernel
theorem dX5_take_34 : decode cX5_take 34 = .ok (.iaload, 1) := by decide +kernel
theorem dX5_take_35 : decode cX5_take 35 = .ok (.ireturn, 1) := by decide +kernel
theorem dX5_putAll_0 : decode cX5_putAll 0 = .ok (.iconst 0, 1) := by decide +kernel
theorem dX5_putAll_1 : decode cX5_putAll 1 = .ok (.istore_n 2, 1) := by decide +kernel
theorem dX5_putAll_2 : decode cX5_putAll 2 = .ok (.iload_n 2, 1) := by decide +kernel
theorem dX5_putAll_3 : decode cX5_putAll 3 = .ok (.aload_n 1, 1) := by decide +kernel
theorem dX5_putAll_4 : decode cX5_putAll 4 = .ok (.arraylength, 1) := by decide +kernel
theorem dX5_putAll_5 : decode cX5_putAll 5 = .ok (.if_icmp .ge 16, 3) := by decide +kernel
theorem dX5_putAll_8 : decode cX5_putAll 8 = .ok (.aload_n 0, 1) := by decide +kernel
theorem dX5_putAll_9 : decode cX5_putAll 9 = .ok (.aload_n 1, 1) := by decide +kernel
theorem dX5_putAll_10 : decode cX5_putAll 10 = .ok (.iload_n 2, 1) := by decide +kernel
theorem dX5_putAll_11 : decode cX5_putAll 11 = .ok (.iaload, 1) := by decide +kernel
theorem dX5_putAll_12 : decode cX5_putAll 12 = .ok (.invokevirtual 17, 3) := by decide +kernel
theorem dX5_putAll_15 : decode cX5_putAll 15 = .ok (.iinc 2 1, 3) := by decide +kernel
theorem dX5_putAll_18 : decode cX5_putAll 18 = .ok (.goto (-16), 3) := by decide +kernel
theorem dX5_putAll_21 : decode cX5_putAll 21 = .ok (.return_, 1) := by decide +kernel
theorem dX5_takeAll_0 : decode cX5_takeAll 0 = .ok (.iconst 0, 1) := by decide +kernel
theorem dX5_takeAll_1 : decode cX5_takeAll 1 = .ok (.istore_n 2, 1) := by decide +kernel
theorem dX5_takeAll_2 : decode cX5_takeAll 2 = .ok (.iload_n 2, 1) := by decide +kernel
theorem dX5_takeAll_3 : decode cX5_takeAll 3 = .ok (.aload_n 1, 1) := by decide +kernel
theorem dX5_takeAll_4 : decode cX5_takeAll 4 = .ok (.arraylength, 1) := by decide +kernel
theorem dX5_takeAll_5 : decode cX5_takeAll 5 = .ok (.if_icmp .ge 16, 3) := by decide +kernel
theorem dX5_takeAll_8 : decode cX5_takeAll 8 = .ok (.aload_n 1, 1) := by decide +kernel
theorem dX5_takeAll_9 : decode cX5_takeAll 9 = .ok (.iload_n 2, 1) := by decide +kernel
theorem dX5_takeAll_10 : decode cX5_takeAll 10 = .ok (.aload_n 0, 1) := by decide +kernel
theorem dX5_takeAll_11 : decode cX5_takeAll 11 = .ok (.invokevirtual 21, 3) := by decide +kernel
theorem dX5_takeAll_14 : decode cX5_takeAll 14 = .ok (.iastore, 1) := by decide +kernel
theorem dX5_takeAll_15 : decode cX5_takeAll 15 = .ok (.iinc 2 1, 3) := by decide +kernel
theorem dX5_takeAll_18 : decode cX5_takeAll 18 = .ok (.goto (-16), 3) := by decide +kernel
theorem dX5_takeAll_21 : decode cX5_takeAll 21 = .ok (.return_, 1) := by decide +kernel
