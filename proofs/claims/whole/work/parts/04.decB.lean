theorem dX6_init_0 : decode cX6_init 0 = .ok (.aload_n 0, 1) := by decide +kernel
theorem dX6_init_1 : decode cX6_init 1 = .ok (.invokespecial 3, 3) := by decide +kernel
theorem dX6_init_4 : decode cX6_init 4 = .ok (.aload_n 0, 1) := by decide +kernel
theorem dX6_init_5 : decode cX6_init 5 = .ok (.bipush 6, 2) := by decide +kernel
theorem dX6_init_7 : decode cX6_init 7 = .ok (.newarray .int, 2) := by decide +kernel
theorem dX6_init_9 : decode cX6_init 9 = .ok (.putfield 9, 3) := by decide +kernel
theorem dX6_init_12 : decode cX6_init 12 = .ok (.aload_n 0, 1) := by decide +kernel
theorem dX6_init_13 : decode cX6_init 13 = .ok (.bipush 6, 2) := by decide +kernel
theorem dX6_init_15 : decode cX6_init 15 = .ok (.newarray .int, 2) := by decide +kernel
theorem dX6_init_17 : decode cX6_init 17 = .ok (.putfield 15, 3) := by decide +kernel
theorem dX6_init_20 : decode cX6_init 20 = .ok (.aload_n 0, 1) := by decide +kernel
theorem dX6_init_21 : decode cX6_init 21 = .ok (.bipush 6, 2) := by decide +kernel
theorem dX6_init_23 : decode cX6_init 23 = .ok (.newarray .int, 2) := by decide +kernel
theorem dX6_init_25 : decode cX6_init 25 = .ok (.putfield 18, 3) := by decide +kernel
theorem dX6_init_28 : decode cX6_init 28 = .ok (.aload_n 0, 1) := by decide +kernel
theorem dX6_init_29 : decode cX6_init 29 = .ok (.bipush 6, 2) := by decide +kernel
theorem dX6_init_31 : decode cX6_init 31 = .ok (.newarray .int, 2) := by decide +kernel
theorem dX6_init_33 : decode cX6_init 33 = .ok (.putfield 21, 3) := by decide +kernel
theorem dX6_init_36 : decode cX6_init 36 = .ok (.aload_n 0, 1) := by decide +kernel
theorem dX6_init_37 : decode cX6_init 37 = .ok (.bipush 6, 2) := by decide +kernel
theorem dX6_init_39 : decode cX6_init 39 = .ok (.newarray .int, 2) := by decide +kernel
theorem dX6_init_41 : decode cX6_init 41 = .ok (.putfield 24, 3) := by decide +kernel
theorem dX6_init_44 : decode cX6_init 44 = .ok (.aload_n 0, 1) := by decide +kernel
theorem dX6_init_45 : decode cX6_init 45 = .ok (.bipush 6, 2) := by decide +kernel
theorem dX6_init_47 : decode cX6_init 47 = .ok (.newarray .int, 2) := by decide +kernel
theorem dX6_init_49 : decode cX6_init 49 = .ok (.putfield 27, 3) := by decide +kernel
theorem dX6_init_52 : decode cX6_init 52 = .ok (.aload_n 0, 1) := by decide +kernel
theorem dX6_init_53 : decode cX6_init 53 = .ok (.bipush 6, 2) := by decide +kernel
theorem dX6_init_55 : decode cX6_init 55 = .ok (.newarray .int, 2) := by decide +kernel
theorem dX6_init_57 : decode cX6_init 57 = .ok (.putfield 30, 3) := by decide +kernel
theorem dX6_init_60 : decode cX6_init 60 = .ok (.return_, 1) := by decide +kernel
theorem dX6_addPupil_0 : decode cX6_addPupil 0 = .ok (.aload_n 0, 1) := by decide +kernel
theorem dX6_addPupil_1 : decode cX6_addPupil 1 = .ok (.getfield 33, 3) := by decide +kernel
theorem dX6_addPupil_4 : decode cX6_addPupil 4 = .ok (.bipush 6, 2) := by decide +kernel
theorem dX6_addPupil_6 : decode cX6_addPupil 6 = .ok (.if_icmp .lt 5, 3) := by decide +kernel
theorem dX6_addPupil_9 : decode cX6_addPupil 9 = .ok (.iconst (-1), 1) := by decide +kernel
theorem dX6_addPupil_10 : decode cX6_addPupil 10 = .ok (.ireturn, 1) := by decide +kernel
theorem dX6_addPupil_11 : decode cX6_addPupil 11 = .ok (.aload_n 0, 1) := by decide +kernel
theorem dX6_addPupil_12 : decode cX6_addPupil 12 = .ok (.getfield 9, 3) := by decide +kernel
theorem dX6_addPupil_15 : decode cX6_addPupil 15 = .ok (.aload_n 0, 1) := by decide +kernel
theorem dX6_addPupil_16 : decode cX6_addPupil 16 = .ok (.getfield 33, 3) := by decide +kernel
theorem dX6_addPupil_19 : decode cX6_addPupil 19 = .ok (.iload_n 1, 1) := by decide +kernel
theorem dX6_addPupil_20 : decode cX6_addPupil 20 = .ok (.iastore, 1) := by decide +kernel
theorem dX6_addPupil_21 : decode cX6_addPupil 21 = .ok (.aload_n 0, 1) := by decide +kernel
theorem dX6_addPupil_22 : decode cX6_addPupil 22 = .ok (.getfield 15, 3) := by decide +kernel
theorem dX6_addPupil_25 : decode cX6_addPupil 25 = .ok (.aload_n 0, 1) := by decide +kernel
theorem dX6_addPupil_26 : decode cX6_addPupil 26 = .ok (.getfield 33, 3) := by decide +kernel
theorem dX6_addPupil_29 : decode cX6_addPupil 29 = .ok (.iload_n 2, 1) := by decide +kernel
theorem dX6_addPupil_30 : decode cX6_addPupil 30 = .ok (.iastore, 1) := by decide +kernel
theorem dX6_addPupil_31 : decode cX6_addPupil 31 = .ok (.aload_n 0, 1) := by decide +kernel
theorem dX6_addPupil_32 : decode cX6_addPupil 32 = .ok (.getfield 18, 3) := by decide +kernel
theorem dX6_addPupil_35 : decode cX6_addPupil 35 = .ok (.aload_n 0, 1) := by decide +kernel
theorem dX6_addPupil_36 : decode cX6_addPupil 36 = .ok (.getfield 33, 3) := by decide +kernel
theorem dX6_addPupil_39 : decode cX6_addPupil 39 = .ok (.iload_n 3, 1) := by decide +kernel
theorem dX6_addPupil_40 : decode cX6_addPupil 40 = .ok (.iastore, 1) := by decide +kernel
theorem dX6_addPupil_41 : decode cX6_addPupil 41 = .ok (.aload_n 0, 1) := by decide +kernel
theorem dX6_addPupil_42 : decode cX6_addPupil 42 = .ok (.getfield 21, 3) := by decide +kernel
theorem dX6_addPupil_45 : decode cX6_addPupil 45 = .ok (.aload_n 0, 1) := by decide +kernel
theorem dX6_addPupil_46 : decode cX6_addPupil 46 = .ok (.getfield 33, 3) := by decide +kernel
theorem dX6_addPupil_49 : decode cX6_addPupil 49 = .ok (.iload 4, 2) := by decide +kernel
theorem dX6_addPupil_51 : decode cX6_addPupil 51 = .ok (.iastore, 1) := by decide +kernel
theorem dX6_addPupil_52 : decode cX6_addPupil 52 = .ok (.aload_n 0, 1) := by decide +kernel
theorem dX6_addPupil_53 : decode cX6_addPupil 53 = .ok (.getfield 24, 3) := by decide +kernel
theorem dX6_addPupil_56 : decode cX6_addPupil 56 = .ok (.aload_n 0, 1) := by decide +kernel
theorem dX6_addPupil_57 : decode cX6_addPupil 57 = .ok (.getfield 33, 3) := by decide +kernel
theorem dX6_addPupil_60 : decode cX6_addPupil 60 = .ok (.iload 5, 2) := by decide +kernel
theorem dX6_addPupil_62 : decode cX6_addPupil 62 = .ok (.iastore, 1) := by decide +kernel
theorem dX6_addPupil_63 : decode cX6_addPupil 63 = .ok (.aload_n 0, 1) := by decide +kernel
theorem dX6_addPupil_64 : decode cX6_addPupil 64 = .ok (.dup, 1) := by decide +kernel
theorem dX6_addPupil_65 : decode cX6_addPupil 65 = .ok (.getfield 33, 3) := by decide +kernel
theorem dX6_addPupil_68 : decode cX6_addPupil 68 = .ok (.iconst 1, 1) := by decide +kernel
theorem dX6_addPupil_69 : decode cX6_addPupil 69 = .ok (.iadd, 1) := by decide +kernel
theorem dX6_addPupil_70 : decode cX6_addPupil 70 = .ok (.putfield 33, 3) := by decide +kernel
theorem dX6_addPupil_73 : decode cX6_addPupil 73 = .ok (.aload_n 0, 1) := by decide +kernel
theorem dX6_addPupil_74 : decode cX6_addPupil 74 = .ok (.getfield 33, 3) := by decide +kernel
theorem dX6_addPupil_77 : decode cX6_addPupil 77 = .ok (.iconst 1, 1) := by decide +kernel
theorem dX6_addPupil_78 : decode cX6_addPupil 78 = .ok (.isub, 1) := by decide +kernel
theorem dX6_addPupil_79 : decode cX6_addPupil 79 = .ok (.ireturn, 1) := by decide +kernel
theorem dX6_lacking_0 : decode cX6_lacking 0 = .ok (.aload_n 3, 1) := by decide +kernel
theorem dX6_lacking_1 : decode cX6_lacking 1 = .ok (.getfield 37, 3) := by decide +kernel
theorem dX6_lacking_4 : decode cX6_lacking 4 = .ok (.iload_n 2, 1) := by decide +kernel
theorem dX6_lacking_5 : decode cX6_lacking 5 = .ok (.iaload, 1) := by decide +kernel
theorem dX6_lacking_6 : decode cX6_lacking 6 = .ok (.aload_n 0, 1) := by decide +kernel
theorem dX6_lacking_7 : decode cX6_lacking 7 = .ok (.getfield 15, 3) := by decide +kernel
theorem dX6_lacking_10 : decode cX6_lacking 10 = .ok (.iload_n 1, 1) := by decide +kernel
theorem dX6_lacking_11 : decode cX6_lacking 11 = .ok (.iaload, 1) := by decide +kernel
theorem dX6_lacking_12 : decode cX6_lacking 12 = .ok (.iconst (-1), 1) := by decide +kernel
theorem dX6_lacking_13 : decode cX6_lacking 13 = .ok (.ixor, 1) := by decide +kernel
theorem dX6_lacking_14 : decode cX6_lacking 14 = .ok (.iand, 1) := by decide +kernel
theorem dX6_lacking_15 : decode cX6_lacking 15 = .ok (.istore 4, 2) := by decide +kernel
theorem dX6_lacking_17 : decode cX6_lacking 17 = .ok (.aload_n 3, 1) := by decide +kernel
theorem dX6_lacking_18 : decode cX6_lacking 18 = .ok (.getfield 40, 3) := by decide +kernel
theorem dX6_lacking_21 : decode cX6_lacking 21 = .ok (.iload_n 2, 1) := by decide +kernel
theorem dX6_lacking_22 : decode cX6_lacking 22 = .ok (.iaload, 1) := by decide +kernel
theorem dX6_lacking_23 : decode cX6_lacking 23 = .ok (.aload_n 0, 1) := by decide +kernel
theorem dX6_lacking_24 : decode cX6_lacking 24 = .ok (.getfield 18, 3) := by decide +kernel
theorem dX6_lacking_27 : decode cX6_lacking 27 = .ok (.iload_n 1, 1) := by decide +kernel
theorem dX6_lacking_28 : decode cX6_lacking 28 = .ok (.iaload, 1) := by decide +kernel
theorem dX6_lacking_29 : decode cX6_lacking 29 = .ok (.if_icmp .le 10, 3) := by decide +kernel
theorem dX6_lacking_32 : decode cX6_lacking 32 = .ok (.iload 4, 2) := by decide +kernel
theorem dX6_lacking_34 : decode cX6_lacking 34 = .ok (.ldc 43, 2) := by decide +kernel
theorem dX6_lacking_36 : decode cX6_lacking 36 = .ok (.ior, 1) := by decide +kernel
theorem dX6_lacking_37 : decode cX6_lacking 37 = .ok (.istore 4, 2) := by decide +kernel
theorem dX6_lacking_39 : decode cX6_lacking 39 = .ok (.aload_n 3, 1) := by decide +kernel
theorem dX6_lacking_40 : decode cX6_lacking 40 = .ok (.getfield 44, 3) := by decide +kernel
theorem dX6_lacking_43 : decode cX6_lacking 43 = .ok (.iload_n 2, 1) := by decide +kernel
theorem dX6_lacking_44 : decode cX6_lacking 44 = .ok (.iaload, 1) := by decide +kernel
theorem dX6_lacking_45 : decode cX6_lacking 45 = .ok (.aload_n 0, 1) := by decide +kernel
theorem dX6_lacking_46 : decode cX6_lacking 46 = .ok (.getfield 21, 3) := by decide +kernel
theorem dX6_lacking_49 : decode cX6_lacking 49 = .ok (.iload_n 1, 1) := by decide +kernel
theorem dX6_lacking_50 : decode cX6_lacking 50 = .ok (.iaload, 1) := by decide +kernel
theorem dX6_lacking_51 : decode cX6_lacking 51 = .ok (.if_icmp .le 10, 3) := by decide +kernel
theorem dX6_lacking_54 : decode cX6_lacking 54 = .ok (.iload 4, 2) := by decide +kernel
theorem dX6_lacking_56 : decode cX6_lacking 56 = .ok (.ldc 45, 2) := by decide +kernel
theorem dX6_lacking_58 : decode cX6_lacking 58 = .ok (.ior, 1) := by decide +kernel
theorem dX6_lacking_59 : decode cX6_lacking 59 = .ok (.istore 4, 2) := by decide +kernel
theorem dX6_lacking_61 : decode cX6_lacking 61 = .ok (.aload_n 3, 1) := by decide +kernel
theorem dX6_lacking_62 : decode cX6_lacking 62 = .ok (.getfield 46, 3) := by decide +kernel
theorem dX6_lacking_65 : decode cX6_lacking 65 = .ok (.iload_n 2, 1) := by decide +kernel
theorem dX6_lacking_66 : decode cX6_lacking 66 = .ok (.iaload, 1) := by decide +kernel
theorem dX6_lacking_67 : decode cX6_lacking 67 = .ok (.aload_n 0, 1) := by decide +kernel
theorem dX6_lacking_68 : decode cX6_lacking 68 = .ok (.getfield 24, 3) := by decide +kernel
theorem dX6_lacking_71 : decode cX6_lacking 71 = .ok (.iload_n 1, 1) := by decide +kernel
theorem dX6_lacking_72 : decode cX6_lacking 72 = .ok (.iaload, 1) := by decide +kernel
theorem dX6_lacking_73 : decode cX6_lacking 73 = .ok (.if_icmp .le 10, 3) := by decide +kernel
theorem dX6_lacking_76 : decode cX6_lacking 76 = .ok (.iload 4, 2) := by decide +kernel
theorem dX6_lacking_78 : decode cX6_lacking 78 = .ok (.ldc 47, 2) := by decide +kernel
theorem dX6_lacking_80 : decode cX6_lacking 80 = .ok (.ior, 1) := by decide +kernel
theorem dX6_lacking_81 : decode cX6_lacking 81 = .ok (.istore 4, 2) := by decide +kernel
theorem dX6_lacking_83 : decode cX6_lacking 83 = .ok (.iload 4, 2) := by decide +kernel
theorem dX6_lacking_85 : decode cX6_lacking 85 = .ok (.ireturn, 1) := by decide +kernel
theorem dX6_hasAsked_0 : decode cX6_hasAsked 0 = .ok (.iconst 0, 1) := by decide +kernel
theorem dX6_hasAsked_1 : decode cX6_hasAsked 1 = .ok (.istore_n 2, 1) := by decide +kernel
theorem dX6_hasAsked_2 : decode cX6_hasAsked 2 = .ok (.iload_n 2, 1) := by decide +kernel
theorem dX6_hasAsked_3 : decode cX6_hasAsked 3 = .ok (.aload_n 0, 1) := by decide +kernel
theorem dX6_hasAsked_4 : decode cX6_hasAsked 4 = .ok (.getfield 48, 3) := by decide +kernel
theorem dX6_hasAsked_7 : decode cX6_hasAsked 7 = .ok (.if_icmp .ge 21, 3) := by decide +kernel
theorem dX6_hasAsked_10 : decode cX6_hasAsked 10 = .ok (.aload_n 0, 1) := by decide +kernel
theorem dX6_hasAsked_11 : decode cX6_hasAsked 11 = .ok (.getfield 27, 3) := by decide +kernel
theorem dX6_hasAsked_14 : decode cX6_hasAsked 14 = .ok (.iload_n 2, 1) := by decide +kernel
theorem dX6_hasAsked_15 : decode cX6_hasAsked 15 = .ok (.iaload, 1) := by decide +kernel
theorem dX6_hasAsked_16 : decode cX6_hasAsked 16 = .ok (.iload_n 1, 1) := by decide +kernel
theorem dX6_hasAsked_17 : decode cX6_hasAsked 17 = .ok (.if_icmp .ne 5, 3) := by decide +kernel
theorem dX6_hasAsked_20 : decode cX6_hasAsked 20 = .ok (.iconst 1, 1) := by decide +kernel
theorem dX6_hasAsked_21 : decode cX6_hasAsked 21 = .ok (.ireturn, 1) := by decide +kernel
theorem dX6_hasAsked_22 : decode cX6_hasAsked 22 = .ok (.iinc 2 1, 3) := by decide +kernel
theorem dX6_hasAsked_25 : decode cX6_hasAsked 25 = .ok (.goto (-23), 3) := by decide +kernel
theorem dX6_hasAsked_28 : decode cX6_hasAsked 28 = .ok (.iconst 0, 1) := by decide +kernel
theorem dX6_hasAsked_29 : decode cX6_hasAsked 29 = .ok (.ireturn, 1) := by decide +kernel
theorem dX6_barring_0 : decode cX6_barring 0 = .ok (.iconst (-1), 1) := by decide +kernel
theorem dX6_barring_1 : decode cX6_barring 1 = .ok (.istore_n 3, 1) := by decide +kernel
theorem dX6_barring_2 : decode cX6_barring 2 = .ok (.iconst 0, 1) := by decide +kernel
theorem dX6_barring_3 : decode cX6_barring 3 = .ok (.istore 4, 2) := by decide +kernel
theorem dX6_barring_5 : decode cX6_barring 5 = .ok (.iload 4, 2) := by decide +kernel
theorem dX6_barring_7 : decode cX6_barring 7 = .ok (.aload_n 0, 1) := by decide +kernel
theorem dX6_barring_8 : decode cX6_barring 8 = .ok (.getfield 48, 3) := by decide +kernel
theorem dX6_barring_11 : decode cX6_barring 11 = .ok (.if_icmp .ge 42, 3) := by decide +kernel
theorem dX6_barring_14 : decode cX6_barring 14 = .ok (.aload_n 0, 1) := by decide +kernel
theorem dX6_barring_15 : decode cX6_barring 15 = .ok (.getfield 30, 3) := by decide +kernel
theorem dX6_barring_18 : decode cX6_barring 18 = .ok (.iload 4, 2) := by decide +kernel
theorem dX6_barring_20 : decode cX6_barring 20 = .ok (.iaload, 1) := by decide +kernel
theorem dX6_barring_21 : decode cX6_barring 21 = .ok (.istore 5, 2) := by decide +kernel
theorem dX6_barring_23 : decode cX6_barring 23 = .ok (.iload_n 3, 1) := by decide +kernel
theorem dX6_barring_24 : decode cX6_barring 24 = .ok (.iconst (-1), 1) := by decide +kernel
theorem dX6_barring_25 : decode cX6_barring 25 = .ok (.if_icmp .eq 9, 3) := by decide +kernel
theorem dX6_barring_28 : decode cX6_barring 28 = .ok (.iload 5, 2) := by decide +kernel
theorem dX6_barring_30 : decode cX6_barring 30 = .ok (.iload_n 3, 1) := by decide +kernel
theorem dX6_barring_31 : decode cX6_barring 31 = .ok (.if_icmp .ge 16, 3) := by decide +kernel
theorem dX6_barring_34 : decode cX6_barring 34 = .ok (.aload_n 2, 1) := by decide +kernel
theorem dX6_barring_35 : decode cX6_barring 35 = .ok (.iload 5, 2) := by decide +kernel
theorem dX6_barring_37 : decode cX6_barring 37 = .ok (.iload_n 1, 1) := by decide +kernel
theorem dX6_barring_38 : decode cX6_barring 38 = .ok (.invokevirtual 51, 3) := by decide +kernel
theorem dX6_barring_41 : decode cX6_barring 41 = .ok (.ifCond .eq 6, 3) := by decide +kernel
theorem dX6_barring_44 : decode cX6_barring 44 = .ok (.iload 5, 2) := by decide +kernel
theorem dX6_barring_46 : decode cX6_barring 46 = .ok (.istore_n 3, 1) := by decide +kernel
theorem dX6_barring_47 : decode cX6_barring 47 = .ok (.iinc 4 1, 3) := by decide +kernel
theorem dX6_barring_50 : decode cX6_barring 50 = .ok (.goto (-45), 3) := by decide +kernel
theorem dX6_barring_53 : decode cX6_barring 53 = .ok (.iload_n 3, 1) := by decide +kernel
theorem dX6_barring_54 : decode cX6_barring 54 = .ok (.ireturn, 1) := by decide +kernel
theorem dX6_hindrance_0 : decode cX6_hindrance 0 = .ok (.aload_n 0, 1) := by decide +kernel
theorem dX6_hindrance_1 : decode cX6_hindrance 1 = .ok (.iload_n 1, 1) := by decide +kernel
theorem dX6_hindrance_2 : decode cX6_hindrance 2 = .ok (.invokevirtual 55, 3) := by decide +kernel
theorem dX6_hindrance_5 : decode cX6_hindrance 5 = .ok (.ifCond .eq 5, 3) := by decide +kernel
theorem dX6_hindrance_8 : decode cX6_hindrance 8 = .ok (.iconst 1, 1) := by decide +kernel
theorem dX6_hindrance_9 : decode cX6_hindrance 9 = .ok (.ireturn, 1) := by decide +kernel
theorem dX6_hindrance_10 : decode cX6_hindrance 10 = .ok (.aload_n 0, 1) := by decide +kernel
theorem dX6_hindrance_11 : decode cX6_hindrance 11 = .ok (.iload_n 1, 1) := by decide +kernel
theorem dX6_hindrance_12 : decode cX6_hindrance 12 = .ok (.iload_n 2, 1) := by decide +kernel
theorem dX6_hindrance_13 : decode cX6_hindrance 13 = .ok (.aload_n 3, 1) := by decide +kernel
theorem dX6_hindrance_14 : decode cX6_hindrance 14 = .ok (.invokevirtual 59, 3) := by decide +kernel
theorem dX6_hindrance_17 : decode cX6_hindrance 17 = .ok (.ifCond .eq 5, 3) := by decide +kernel
theorem dX6_hindrance_20 : decode cX6_hindrance 20 = .ok (.iconst 2, 1) := by decide +kernel
theorem dX6_hindrance_21 : decode cX6_hindrance 21 = .ok (.ireturn, 1) := by decide +kernel
theorem dX6_hindrance_22 : decode cX6_hindrance 22 = .ok (.aload_n 3, 1) := by decide +kernel
theorem dX6_hindrance_23 : decode cX6_hindrance 23 = .ok (.getfield 63, 3) := by decide +kernel
theorem dX6_hindrance_26 : decode cX6_hindrance 26 = .ok (.iload_n 2, 1) := by decide +kernel
theorem dX6_hindrance_27 : decode cX6_hindrance 27 = .ok (.iaload, 1) := by decide +kernel
theorem dX6_hindrance_28 : decode cX6_hindrance 28 = .ok (.aload_n 0, 1) := by decide +kernel
theorem dX6_hindrance_29 : decode cX6_hindrance 29 = .ok (.getfield 66, 3) := by decide +kernel
theorem dX6_hindrance_32 : decode cX6_hindrance 32 = .ok (.if_icmp .eq 5, 3) := by decide +kernel
theorem dX6_hindrance_35 : decode cX6_hindrance 35 = .ok (.iconst 3, 1) := by decide +kernel
theorem dX6_hindrance_36 : decode cX6_hindrance 36 = .ok (.ireturn, 1) := by decide +kernel
theorem dX6_hindrance_37 : decode cX6_hindrance 37 = .ok (.aload_n 0, 1) := by decide +kernel
theorem dX6_hindrance_38 : decode cX6_hindrance 38 = .ok (.iload_n 2, 1) := by decide +kernel
theorem dX6_hindrance_39 : decode cX6_hindrance 39 = .ok (.aload_n 3, 1) := by decide +kernel
theorem dX6_hindrance_40 : decode cX6_hindrance 40 = .ok (.invokevirtual 69, 3) := by decide +kernel
theorem dX6_hindrance_43 : decode cX6_hindrance 43 = .ok (.iconst (-1), 1) := by decide +kernel
theorem dX6_hindrance_44 : decode cX6_hindrance 44 = .ok (.if_icmp .eq 7, 3) := by decide +kernel
theorem dX6_hindrance_47 : decode cX6_hindrance 47 = .ok (.iconst 4, 1) := by decide +kernel
theorem dX6_hindrance_48 : decode cX6_hindrance 48 = .ok (.goto 4, 3) := by decide +kernel
theorem dX6_hindrance_51 : decode cX6_hindrance 51 = .ok (.iconst 0, 1) := by decide +kernel
theorem dX6_hindrance_52 : decode cX6_hindrance 52 = .ok (.ireturn, 1) := by decide +kernel
theorem dX6_addStep_0 : decode cX6_addStep 0 = .ok (.aload_n 0, 1) := by decide +kernel
theorem dX6_addStep_1 : decode cX6_addStep 1 = .ok (.getfield 48, 3) := by decide +kernel
theorem dX6_addStep_4 : decode cX6_addStep 4 = .ok (.bipush 6, 2) := by decide +kernel
theorem dX6_addStep_6 : decode cX6_addStep 6 = .ok (.if_icmp .ge 33, 3) := by decide +kernel
theorem dX6_addStep_9 : decode cX6_addStep 9 = .ok (.aload_n 0, 1) := by decide +kernel
theorem dX6_addStep_10 : decode cX6_addStep 10 = .ok (.getfield 27, 3) := by decide +kernel
theorem dX6_addStep_13 : decode cX6_addStep 13 = .ok (.aload_n 0, 1) := by decide +kernel
theorem dX6_addStep_14 : decode cX6_addStep 14 = .ok (.getfield 48, 3) := by decide +kernel
theorem dX6_addStep_17 : decode cX6_addStep 17 = .ok (.iload_n 1, 1) := by decide +kernel
theorem dX6_addStep_18 : decode cX6_addStep 18 = .ok (.iastore, 1) := by decide +kernel
theorem dX6_addStep_19 : decode cX6_addStep 19 = .ok (.aload_n 0, 1) := by decide +kernel
theorem dX6_addStep_20 : decode cX6_addStep 20 = .ok (.getfield 30, 3) := by decide +kernel
theorem dX6_addStep_23 : decode cX6_addStep 23 = .ok (.aload_n 0, 1) := by decide +kernel
theorem dX6_addStep_24 : decode cX6_addStep 24 = .ok (.getfield 48, 3) := by decide +kernel
theorem dX6_addStep_27 : decode cX6_addStep 27 = .ok (.iload_n 2, 1) := by decide +kernel
theorem dX6_addStep_28 : decode cX6_addStep 28 = .ok (.iastore, 1) := by decide +kernel
theorem dX6_addStep_29 : decode cX6_addStep 29 = .ok (.aload_n 0, 1) := by decide +kernel
theorem dX6_addStep_30 : decode cX6_addStep 30 = .ok (.dup, 1) := by decide +kernel
theorem dX6_addStep_31 : decode cX6_addStep 31 = .ok (.getfield 48, 3) := by decide +kernel
theorem dX6_addStep_34 : decode cX6_addStep 34 = .ok (.iconst 1, 1) := by decide +kernel
theorem dX6_addStep_35 : decode cX6_addStep 35 = .ok (.iadd, 1) := by decide +kernel
theorem dX6_addStep_36 : decode cX6_addStep 36 = .ok (.putfield 48, 3) := by decide +kernel
theorem dX6_addStep_39 : decode cX6_addStep 39 = .ok (.return_, 1) := by decide +kernel
theorem dX6_lowestNow_0 : decode cX6_lowestNow 0 = .ok (.iconst 0, 1) := by decide +kernel
theorem dX6_lowestNow_1 : decode cX6_lowestNow 1 = .ok (.istore_n 3, 1) := by decide +kernel
theorem dX6_lowestNow_2 : decode cX6_lowestNow 2 = .ok (.iload_n 3, 1) := by decide +kernel
theorem dX6_lowestNow_3 : decode cX6_lowestNow 3 = .ok (.aload_n 2, 1) := by decide +kernel
theorem dX6_lowestNow_4 : decode cX6_lowestNow 4 = .ok (.getfield 73, 3) := by decide +kernel
theorem dX6_lowestNow_7 : decode cX6_lowestNow 7 = .ok (.if_icmp .ge 21, 3) := by decide +kernel
theorem dX6_lowestNow_10 : decode cX6_lowestNow 10 = .ok (.aload_n 0, 1) := by decide +kernel
theorem dX6_lowestNow_11 : decode cX6_lowestNow 11 = .ok (.iload_n 1, 1) := by decide +kernel
theorem dX6_lowestNow_12 : decode cX6_lowestNow 12 = .ok (.iload_n 3, 1) := by decide +kernel
theorem dX6_lowestNow_13 : decode cX6_lowestNow 13 = .ok (.aload_n 2, 1) := by decide +kernel
theorem dX6_lowestNow_14 : decode cX6_lowestNow 14 = .ok (.invokevirtual 76, 3) := by decide +kernel
theorem dX6_lowestNow_17 : decode cX6_lowestNow 17 = .ok (.ifCond .ne 5, 3) := by decide +kernel
theorem dX6_lowestNow_20 : decode cX6_lowestNow 20 = .ok (.iload_n 3, 1) := by decide +kernel
theorem dX6_lowestNow_21 : decode cX6_lowestNow 21 = .ok (.ireturn, 1) := by decide +kernel
theorem dX6_lowestNow_22 : decode cX6_lowestNow 22 = .ok (.iinc 3 1, 3) := by decide +kernel
theorem dX6_lowestNow_25 : decode cX6_lowestNow 25 = .ok (.goto (-23), 3) := by decide +kernel
theorem dX6_lowestNow_28 : decode cX6_lowestNow 28 = .ok (.iconst (-1), 1) := by decide +kernel
theorem dX6_lowestNow_29 : decode cX6_lowestNow 29 = .ok (.ireturn, 1) := by decide +kernel
theorem dX6_shortestNow_0 : decode cX6_shortestNow 0 = .ok (.iconst (-1), 1) := by decide +kernel
theorem dX6_shortestNow_1 : decode cX6_shortestNow 1 = .ok (.istore_n 3, 1) := by decide +kernel
theorem dX6_shortestNow_2 : decode cX6_shortestNow 2 = .ok (.iconst 0, 1) := by decide +kernel
theorem dX6_shortestNow_3 : decode cX6_shortestNow 3 = .ok (.istore 4, 2) := by decide +kernel
theorem dX6_shortestNow_5 : decode cX6_shortestNow 5 = .ok (.iload 4, 2) := by decide +kernel
theorem dX6_shortestNow_7 : decode cX6_shortestNow 7 = .ok (.aload_n 2, 1) := by decide +kernel
theorem dX6_shortestNow_8 : decode cX6_shortestNow 8 = .ok (.getfield 73, 3) := by decide +kernel
theorem dX6_shortestNow_11 : decode cX6_shortestNow 11 = .ok (.if_icmp .ge 56, 3) := by decide +kernel
theorem dX6_shortestNow_14 : decode cX6_shortestNow 14 = .ok (.iload_n 3, 1) := by decide +kernel
theorem dX6_shortestNow_15 : decode cX6_shortestNow 15 = .ok (.iconst (-1), 1) := by decide +kernel
theorem dX6_shortestNow_16 : decode cX6_shortestNow 16 = .ok (.if_icmp .eq 19, 3) := by decide +kernel
theorem dX6_shortestNow_19 : decode cX6_shortestNow 19 = .ok (.aload_n 2, 1) := by decide +kernel
theorem dX6_shortestNow_20 : decode cX6_shortestNow 20 = .ok (.getfield 46, 3) := by decide +kernel
theorem dX6_shortestNow_23 : decode cX6_shortestNow 23 = .ok (.iload 4, 2) := by decide +kernel
theorem dX6_shortestNow_25 : decode cX6_shortestNow 25 = .ok (.iaload, 1) := by decide +kernel
theorem dX6_shortestNow_26 : decode cX6_shortestNow 26 = .ok (.aload_n 2, 1) := by decide +kernel
theorem dX6_shortestNow_27 : decode cX6_shortestNow 27 = .ok (.getfield 46, 3) := by decide +kernel
theorem dX6_shortestNow_30 : decode cX6_shortestNow 30 = .ok (.iload_n 3, 1) := by decide +kernel
theorem dX6_shortestNow_31 : decode cX6_shortestNow 31 = .ok (.iaload, 1) := by decide +kernel
theorem dX6_shortestNow_32 : decode cX6_shortestNow 32 = .ok (.if_icmp .ge 7, 3) := by decide +kernel
theorem dX6_shortestNow_35 : decode cX6_shortestNow 35 = .ok (.iconst 1, 1) := by decide +kernel
theorem dX6_shortestNow_36 : decode cX6_shortestNow 36 = .ok (.goto 4, 3) := by decide +kernel
theorem dX6_shortestNow_39 : decode cX6_shortestNow 39 = .ok (.iconst 0, 1) := by decide +kernel
theorem dX6_shortestNow_40 : decode cX6_shortestNow 40 = .ok (.istore 5, 2) := by decide +kernel
theorem dX6_shortestNow_42 : decode cX6_shortestNow 42 = .ok (.iload 5, 2) := by decide +kernel
theorem dX6_shortestNow_44 : decode cX6_shortestNow 44 = .ok (.ifCond .eq 17, 3) := by decide +kernel
theorem dX6_shortestNow_47 : decode cX6_shortestNow 47 = .ok (.aload_n 0, 1) := by decide +kernel
theorem dX6_shortestNow_48 : decode cX6_shortestNow 48 = .ok (.iload_n 1, 1) := by decide +kernel
theorem dX6_shortestNow_49 : decode cX6_shortestNow 49 = .ok (.iload 4, 2) := by decide +kernel
theorem dX6_shortestNow_51 : decode cX6_shortestNow 51 = .ok (.aload_n 2, 1) := by decide +kernel
theorem dX6_shortestNow_52 : decode cX6_shortestNow 52 = .ok (.invokevirtual 76, 3) := by decide +kernel
theorem dX6_shortestNow_55 : decode cX6_shortestNow 55 = .ok (.ifCond .ne 6, 3) := by decide +kernel
theorem dX6_shortestNow_58 : decode cX6_shortestNow 58 = .ok (.iload 4, 2) := by decide +kernel
theorem dX6_shortestNow_60 : decode cX6_shortestNow 60 = .ok (.istore_n 3, 1) := by decide +kernel
theorem dX6_shortestNow_61 : decode cX6_shortestNow 61 = .ok (.iinc 4 1, 3) := by decide +kernel
theorem dX6_shortestNow_64 : decode cX6_shortestNow 64 = .ok (.goto (-59), 3) := by decide +kernel
theorem dX6_shortestNow_67 : decode cX6_shortestNow 67 = .ok (.iload_n 3, 1) := by decide +kernel
theorem dX6_shortestNow_68 : decode cX6_shortestNow 68 = .ok (.ireturn, 1) := by decide +kernel
theorem dX6_whoHasNotAsked_0 : decode cX6_whoHasNotAsked 0 = .ok (.iconst 0, 1) := by decide +kernel
theorem dX6_whoHasNotAsked_1 : decode cX6_whoHasNotAsked 1 = .ok (.istore_n 1, 1) := by decide +kernel
theorem dX6_whoHasNotAsked_2 : decode cX6_whoHasNotAsked 2 = .ok (.iconst 0, 1) := by decide +kernel
theorem dX6_whoHasNotAsked_3 : decode cX6_whoHasNotAsked 3 = .ok (.istore_n 2, 1) := by decide +kernel
theorem dX6_whoHasNotAsked_4 : decode cX6_whoHasNotAsked 4 = .ok (.iload_n 2, 1) := by decide +kernel
theorem dX6_whoHasNotAsked_5 : decode cX6_whoHasNotAsked 5 = .ok (.aload_n 0, 1) := by decide +kernel
theorem dX6_whoHasNotAsked_6 : decode cX6_whoHasNotAsked 6 = .ok (.getfield 33, 3) := by decide +kernel
theorem dX6_whoHasNotAsked_9 : decode cX6_whoHasNotAsked 9 = .ok (.if_icmp .ge 23, 3) := by decide +kernel
theorem dX6_whoHasNotAsked_12 : decode cX6_whoHasNotAsked 12 = .ok (.aload_n 0, 1) := by decide +kernel
theorem dX6_whoHasNotAsked_13 : decode cX6_whoHasNotAsked 13 = .ok (.iload_n 2, 1) := by decide +kernel
theorem dX6_whoHasNotAsked_14 : decode cX6_whoHasNotAsked 14 = .ok (.invokevirtual 55, 3) := by decide +kernel
theorem dX6_whoHasNotAsked_17 : decode cX6_whoHasNotAsked 17 = .ok (.ifCond .ne 9, 3) := by decide +kernel
theorem dX6_whoHasNotAsked_20 : decode cX6_whoHasNotAsked 20 = .ok (.iload_n 1, 1) := by decide +kernel
theorem dX6_whoHasNotAsked_21 : decode cX6_whoHasNotAsked 21 = .ok (.iconst 1, 1) := by decide +kernel
theorem dX6_whoHasNotAsked_22 : decode cX6_whoHasNotAsked 22 = .ok (.iload_n 2, 1) := by decide +kernel
theorem dX6_whoHasNotAsked_23 : decode cX6_whoHasNotAsked 23 = .ok (.ishl, 1) := by decide +kernel
theorem dX6_whoHasNotAsked_24 : decode cX6_whoHasNotAsked 24 = .ok (.ior, 1) := by decide +kernel
theorem dX6_whoHasNotAsked_25 : decode cX6_whoHasNotAsked 25 = .ok (.istore_n 1, 1) := by decide +kernel
theorem dX6_whoHasNotAsked_26 : decode cX6_whoHasNotAsked 26 = .ok (.iinc 2 1, 3) := by decide +kernel
theorem dX6_whoHasNotAsked_29 : decode cX6_whoHasNotAsked 29 = .ok (.goto (-25), 3) := by decide +kernel
theorem dX6_whoHasNotAsked_32 : decode cX6_whoHasNotAsked 32 = .ok (.iload_n 1, 1) := by decide +kernel
theorem dX6_whoHasNotAsked_33 : decode cX6_whoHasNotAsked 33 = .ok (.ireturn, 1) := by decide +kernel
theorem dX6_youngest_0 : decode cX6_youngest 0 = .ok (.iconst (-1), 1) := by decide +kernel
theorem dX6_youngest_1 : decode cX6_youngest 1 = .ok (.istore_n 2, 1) := by decide +kernel
theorem dX6_youngest_2 : decode cX6_youngest 2 = .ok (.iconst 0, 1) := by decide +kernel
theorem dX6_youngest_3 : decode cX6_youngest 3 = .ok (.istore_n 3, 1) := by decide +kernel
theorem dX6_youngest_4 : decode cX6_youngest 4 = .ok (.iload_n 3, 1) := by decide +kernel
theorem dX6_youngest_5 : decode cX6_youngest 5 = .ok (.aload_n 0, 1) := by decide +kernel
theorem dX6_youngest_6 : decode cX6_youngest 6 = .ok (.getfield 33, 3) := by decide +kernel
theorem dX6_youngest_9 : decode cX6_youngest 9 = .ok (.if_icmp .ge 39, 3) := by decide +kernel
theorem dX6_youngest_12 : decode cX6_youngest 12 = .ok (.iload_n 1, 1) := by decide +kernel
theorem dX6_youngest_13 : decode cX6_youngest 13 = .ok (.iload_n 3, 1) := by decide +kernel
theorem dX6_youngest_14 : decode cX6_youngest 14 = .ok (.ishr, 1) := by decide +kernel
theorem dX6_youngest_15 : decode cX6_youngest 15 = .ok (.iconst 1, 1) := by decide +kernel
theorem dX6_youngest_16 : decode cX6_youngest 16 = .ok (.iand, 1) := by decide +kernel
theorem dX6_youngest_17 : decode cX6_youngest 17 = .ok (.ifCond .eq 25, 3) := by decide +kernel
theorem dX6_youngest_20 : decode cX6_youngest 20 = .ok (.iload_n 2, 1) := by decide +kernel
theorem dX6_youngest_21 : decode cX6_youngest 21 = .ok (.iconst (-1), 1) := by decide +kernel
theorem dX6_youngest_22 : decode cX6_youngest 22 = .ok (.if_icmp .eq 18, 3) := by decide +kernel
theorem dX6_youngest_25 : decode cX6_youngest 25 = .ok (.aload_n 0, 1) := by decide +kernel
theorem dX6_youngest_26 : decode cX6_youngest 26 = .ok (.getfield 9, 3) := by decide +kernel
theorem dX6_youngest_29 : decode cX6_youngest 29 = .ok (.iload_n 3, 1) := by decide +kernel
theorem dX6_youngest_30 : decode cX6_youngest 30 = .ok (.iaload, 1) := by decide +kernel
theorem dX6_youngest_31 : decode cX6_youngest 31 = .ok (.aload_n 0, 1) := by decide +kernel
theorem dX6_youngest_32 : decode cX6_youngest 32 = .ok (.getfield 9, 3) := by decide +kernel
theorem dX6_youngest_35 : decode cX6_youngest 35 = .ok (.iload_n 2, 1) := by decide +kernel
theorem dX6_youngest_36 : decode cX6_youngest 36 = .ok (.iaload, 1) := by decide +kernel
theorem dX6_youngest_37 : decode cX6_youngest 37 = .ok (.if_icmp .ge 5, 3) := by decide +kernel
theorem dX6_youngest_40 : decode cX6_youngest 40 = .ok (.iload_n 3, 1) := by decide +kernel
theorem dX6_youngest_41 : decode cX6_youngest 41 = .ok (.istore_n 2, 1) := by decide +kernel
theorem dX6_youngest_42 : decode cX6_youngest 42 = .ok (.iinc 3 1, 3) := by decide +kernel
theorem dX6_youngest_45 : decode cX6_youngest 45 = .ok (.goto (-41), 3) := by decide +kernel
theorem dX6_youngest_48 : decode cX6_youngest 48 = .ok (.iload_n 2, 1) := by decide +kernel
theorem dX6_youngest_49 : decode cX6_youngest 49 = .ok (.ireturn, 1) := by decide +kernel
theorem dX6_drawn_0 : decode cX6_drawn 0 = .ok (.iload_n 2, 1) := by decide +kernel
theorem dX6_drawn_1 : decode cX6_drawn 1 = .ok (.iconst 1, 1) := by decide +kernel
theorem dX6_drawn_2 : decode cX6_drawn 2 = .ok (.iload_n 1, 1) := by decide +kernel
theorem dX6_drawn_3 : decode cX6_drawn 3 = .ok (.invokestatic 79, 3) := by decide +kernel
theorem dX6_drawn_6 : decode cX6_drawn 6 = .ok (.invokestatic 85, 3) := by decide +kernel
theorem dX6_drawn_9 : decode cX6_drawn 9 = .ok (.invokestatic 91, 3) := by decide +kernel
theorem dX6_drawn_12 : decode cX6_drawn 12 = .ok (.istore_n 3, 1) := by decide +kernel
theorem dX6_drawn_13 : decode cX6_drawn 13 = .ok (.iconst 0, 1) := by decide +kernel
theorem dX6_drawn_14 : decode cX6_drawn 14 = .ok (.istore 4, 2) := by decide +kernel
theorem dX6_drawn_16 : decode cX6_drawn 16 = .ok (.iload 4, 2) := by decide +kernel
theorem dX6_drawn_18 : decode cX6_drawn 18 = .ok (.aload_n 0, 1) := by decide +kernel
theorem dX6_drawn_19 : decode cX6_drawn 19 = .ok (.getfield 33, 3) := by decide +kernel
theorem dX6_drawn_22 : decode cX6_drawn 22 = .ok (.if_icmp .ge 28, 3) := by decide +kernel
theorem dX6_drawn_25 : decode cX6_drawn 25 = .ok (.iload_n 1, 1) := by decide +kernel
theorem dX6_drawn_26 : decode cX6_drawn 26 = .ok (.iload 4, 2) := by decide +kernel
theorem dX6_drawn_28 : decode cX6_drawn 28 = .ok (.ishr, 1) := by decide +kernel
theorem dX6_drawn_29 : decode cX6_drawn 29 = .ok (.iconst 1, 1) := by decide +kernel
theorem dX6_drawn_30 : decode cX6_drawn 30 = .ok (.iand, 1) := by decide +kernel
theorem dX6_drawn_31 : decode cX6_drawn 31 = .ok (.ifCond .eq 13, 3) := by decide +kernel
theorem dX6_drawn_34 : decode cX6_drawn 34 = .ok (.iload_n 3, 1) := by decide +kernel
theorem dX6_drawn_35 : decode cX6_drawn 35 = .ok (.ifCond .ne 6, 3) := by decide +kernel
theorem dX6_drawn_38 : decode cX6_drawn 38 = .ok (.iload 4, 2) := by decide +kernel
theorem dX6_drawn_40 : decode cX6_drawn 40 = .ok (.ireturn, 1) := by decide +kernel
theorem dX6_drawn_41 : decode cX6_drawn 41 = .ok (.iinc 3 (-1), 3) := by decide +kernel
theorem dX6_drawn_44 : decode cX6_drawn 44 = .ok (.iinc 4 1, 3) := by decide +kernel
theorem dX6_drawn_47 : decode cX6_drawn 47 = .ok (.goto (-31), 3) := by decide +kernel
theorem dX6_drawn_50 : decode cX6_drawn 50 = .ok (.iconst (-1), 1) := by decide +kernel
theorem dX6_drawn_51 : decode cX6_drawn 51 = .ok (.ireturn, 1) := by decide +kernel
theorem dX6_holdMorning_0 : decode cX6_holdMorning 0 = .ok (.aload_n 0, 1) := by decide +kernel
theorem dX6_holdMorning_1 : decode cX6_holdMorning 1 = .ok (.getfield 48, 3) := by decide +kernel
theorem dX6_holdMorning_4 : decode cX6_holdMorning 4 = .ok (.istore_n 3, 1) := by decide +kernel
theorem dX6_holdMorning_5 : decode cX6_holdMorning 5 = .ok (.aload_n 0, 1) := by decide +kernel
theorem dX6_holdMorning_6 : decode cX6_holdMorning 6 = .ok (.invokevirtual 94, 3) := by decide +kernel
theorem dX6_holdMorning_9 : decode cX6_holdMorning 9 = .ok (.istore 4, 2) := by decide +kernel
theorem dX6_holdMorning_11 : decode cX6_holdMorning 11 = .ok (.iload_n 1, 1) := by decide +kernel
theorem dX6_holdMorning_12 : decode cX6_holdMorning 12 = .ok (.iconst 3, 1) := by decide +kernel
theorem dX6_holdMorning_13 : decode cX6_holdMorning 13 = .ok (.imul, 1) := by decide +kernel
theorem dX6_holdMorning_14 : decode cX6_holdMorning 14 = .ok (.bipush 7, 2) := by decide +kernel
theorem dX6_holdMorning_16 : decode cX6_holdMorning 16 = .ok (.iadd, 1) := by decide +kernel
theorem dX6_holdMorning_17 : decode cX6_holdMorning 17 = .ok (.istore 5, 2) := by decide +kernel
theorem dX6_holdMorning_19 : decode cX6_holdMorning 19 = .ok (.iconst 0, 1) := by decide +kernel
theorem dX6_holdMorning_20 : decode cX6_holdMorning 20 = .ok (.istore 6, 2) := by decide +kernel
theorem dX6_holdMorning_22 : decode cX6_holdMorning 22 = .ok (.iload 6, 2) := by decide +kernel
theorem dX6_holdMorning_24 : decode cX6_holdMorning 24 = .ok (.aload_n 0, 1) := by decide +kernel
theorem dX6_holdMorning_25 : decode cX6_holdMorning 25 = .ok (.getfield 33, 3) := by decide +kernel
theorem dX6_holdMorning_28 : decode cX6_holdMorning 28 = .ok (.if_icmp .ge 96, 3) := by decide +kernel
theorem dX6_holdMorning_31 : decode cX6_holdMorning 31 = .ok (.iload 4, 2) := by decide +kernel
theorem dX6_holdMorning_33 : decode cX6_holdMorning 33 = .ok (.ifCond .eq 91, 3) := by decide +kernel
theorem dX6_holdMorning_36 : decode cX6_holdMorning 36 = .ok (.iload_n 1, 1) := by decide +kernel
theorem dX6_holdMorning_37 : decode cX6_holdMorning 37 = .ok (.iconst (-1), 1) := by decide +kernel
theorem dX6_holdMorning_38 : decode cX6_holdMorning 38 = .ok (.if_icmp .ne 12, 3) := by decide +kernel
theorem dX6_holdMorning_41 : decode cX6_holdMorning 41 = .ok (.aload_n 0, 1) := by decide +kernel
theorem dX6_holdMorning_42 : decode cX6_holdMorning 42 = .ok (.iload 4, 2) := by decide +kernel
theorem dX6_holdMorning_44 : decode cX6_holdMorning 44 = .ok (.invokevirtual 98, 3) := by decide +kernel
theorem dX6_holdMorning_47 : decode cX6_holdMorning 47 = .ok (.goto 11, 3) := by decide +kernel
theorem dX6_holdMorning_50 : decode cX6_holdMorning 50 = .ok (.aload_n 0, 1) := by decide +kernel
theorem dX6_holdMorning_51 : decode cX6_holdMorning 51 = .ok (.iload 4, 2) := by decide +kernel
theorem dX6_holdMorning_53 : decode cX6_holdMorning 53 = .ok (.iload 5, 2) := by decide +kernel
theorem dX6_holdMorning_55 : decode cX6_holdMorning 55 = .ok (.invokevirtual 101, 3) := by decide +kernel
theorem dX6_holdMorning_58 : decode cX6_holdMorning 58 = .ok (.istore 7, 2) := by decide +kernel
theorem dX6_holdMorning_60 : decode cX6_holdMorning 60 = .ok (.iload 7, 2) := by decide +kernel
theorem dX6_holdMorning_62 : decode cX6_holdMorning 62 = .ok (.iconst (-1), 1) := by decide +kernel
theorem dX6_holdMorning_63 : decode cX6_holdMorning 63 = .ok (.if_icmp .ne 6, 3) := by decide +kernel
theorem dX6_holdMorning_66 : decode cX6_holdMorning 66 = .ok (.goto 58, 3) := by decide +kernel
theorem dX6_holdMorning_69 : decode cX6_holdMorning 69 = .ok (.iload 5, 2) := by decide +kernel
theorem dX6_holdMorning_71 : decode cX6_holdMorning 71 = .ok (.sipush 131, 3) := by decide +kernel
theorem dX6_holdMorning_74 : decode cX6_holdMorning 74 = .ok (.imul, 1) := by decide +kernel
theorem dX6_holdMorning_75 : decode cX6_holdMorning 75 = .ok (.bipush 89, 2) := by decide +kernel
theorem dX6_holdMorning_77 : decode cX6_holdMorning 77 = .ok (.iadd, 1) := by decide +kernel
theorem dX6_holdMorning_78 : decode cX6_holdMorning 78 = .ok (.sipush 30011, 3) := by decide +kernel
theorem dX6_holdMorning_81 : decode cX6_holdMorning 81 = .ok (.irem, 1) := by decide +kernel
theorem dX6_holdMorning_82 : decode cX6_holdMorning 82 = .ok (.istore 5, 2) := by decide +kernel
theorem dX6_holdMorning_84 : decode cX6_holdMorning 84 = .ok (.iload 4, 2) := by decide +kernel
theorem dX6_holdMorning_86 : decode cX6_holdMorning 86 = .ok (.iconst 1, 1) := by decide +kernel
theorem dX6_holdMorning_87 : decode cX6_holdMorning 87 = .ok (.iload 7, 2) := by decide +kernel
theorem dX6_holdMorning_89 : decode cX6_holdMorning 89 = .ok (.ishl, 1) := by decide +kernel
theorem dX6_holdMorning_90 : decode cX6_holdMorning 90 = .ok (.iconst (-1), 1) := by decide +kernel
theorem dX6_holdMorning_91 : decode cX6_holdMorning 91 = .ok (.ixor, 1) := by decide +kernel
theorem dX6_holdMorning_92 : decode cX6_holdMorning 92 = .ok (.iand, 1) := by decide +kernel
theorem dX6_holdMorning_93 : decode cX6_holdMorning 93 = .ok (.istore 4, 2) := by decide +kernel
theorem dX6_holdMorning_95 : decode cX6_holdMorning 95 = .ok (.aload_n 0, 1) := by decide +kernel
theorem dX6_holdMorning_96 : decode cX6_holdMorning 96 = .ok (.iload 7, 2) := by decide +kernel
theorem dX6_holdMorning_98 : decode cX6_holdMorning 98 = .ok (.aload_n 2, 1) := by decide +kernel
theorem dX6_holdMorning_99 : decode cX6_holdMorning 99 = .ok (.invokevirtual 104, 3) := by decide +kernel
theorem dX6_holdMorning_102 : decode cX6_holdMorning 102 = .ok (.istore 8, 2) := by decide +kernel
theorem dX6_holdMorning_104 : decode cX6_holdMorning 104 = .ok (.iload 8, 2) := by decide +kernel
theorem dX6_holdMorning_106 : decode cX6_holdMorning 106 = .ok (.iconst (-1), 1) := by decide +kernel
theorem dX6_holdMorning_107 : decode cX6_holdMorning 107 = .ok (.if_icmp .eq 11, 3) := by decide +kernel
theorem dX6_holdMorning_110 : decode cX6_holdMorning 110 = .ok (.aload_n 0, 1) := by decide +kernel
theorem dX6_holdMorning_111 : decode cX6_holdMorning 111 = .ok (.iload 7, 2) := by decide +kernel
theorem dX6_holdMorning_113 : decode cX6_holdMorning 113 = .ok (.iload 8, 2) := by decide +kernel
theorem dX6_holdMorning_115 : decode cX6_holdMorning 115 = .ok (.invokevirtual 107, 3) := by decide +kernel
theorem dX6_holdMorning_118 : decode cX6_holdMorning 118 = .ok (.iinc 6 1, 3) := by decide +kernel
theorem dX6_holdMorning_121 : decode cX6_holdMorning 121 = .ok (.goto (-99), 3) := by decide +kernel
theorem dX6_holdMorning_124 : decode cX6_holdMorning 124 = .ok (.aload_n 0, 1) := by decide +kernel
theorem dX6_holdMorning_125 : decode cX6_holdMorning 125 = .ok (.getfield 48, 3) := by decide +kernel
theorem dX6_holdMorning_128 : decode cX6_holdMorning 128 = .ok (.iload_n 3, 1) := by decide +kernel
theorem dX6_holdMorning_129 : decode cX6_holdMorning 129 = .ok (.isub, 1) := by decide +kernel
theorem dX6_holdMorning_130 : decode cX6_holdMorning 130 = .ok (.ireturn, 1) := by decide +kernel
theorem dX6_firstPassedOver_0 : decode cX6_firstPassedOver 0 = .ok (.aload_n 0, 1) := by decide +kernel
theorem dX6_firstPassedOver_1 : decode cX6_firstPassedOver 1 = .ok (.getfield 48, 3) := by decide +kernel
theorem dX6_firstPassedOver_4 : decode cX6_firstPassedOver 4 = .ok (.istore_n 2, 1) := by decide +kernel
theorem dX6_firstPassedOver_5 : decode cX6_firstPassedOver 5 = .ok (.aload_n 0, 1) := by decide +kernel
theorem dX6_firstPassedOver_6 : decode cX6_firstPassedOver 6 = .ok (.invokevirtual 94, 3) := by decide +kernel
theorem dX6_firstPassedOver_9 : decode cX6_firstPassedOver 9 = .ok (.istore_n 3, 1) := by decide +kernel
theorem dX6_firstPassedOver_10 : decode cX6_firstPassedOver 10 = .ok (.iconst (-1), 1) := by decide +kernel
theorem dX6_firstPassedOver_11 : decode cX6_firstPassedOver 11 = .ok (.istore 4, 2) := by decide +kernel
theorem dX6_firstPassedOver_13 : decode cX6_firstPassedOver 13 = .ok (.iconst 0, 1) := by decide +kernel
theorem dX6_firstPassedOver_14 : decode cX6_firstPassedOver 14 = .ok (.istore 5, 2) := by decide +kernel
theorem dX6_firstPassedOver_16 : decode cX6_firstPassedOver 16 = .ok (.iload 5, 2) := by decide +kernel
theorem dX6_firstPassedOver_18 : decode cX6_firstPassedOver 18 = .ok (.aload_n 0, 1) := by decide +kernel
theorem dX6_firstPassedOver_19 : decode cX6_firstPassedOver 19 = .ok (.getfield 33, 3) := by decide +kernel
theorem dX6_firstPassedOver_22 : decode cX6_firstPassedOver 22 = .ok (.if_icmp .ge 74, 3) := by decide +kernel
theorem dX6_firstPassedOver_25 : decode cX6_firstPassedOver 25 = .ok (.iload_n 3, 1) := by decide +kernel
theorem dX6_firstPassedOver_26 : decode cX6_firstPassedOver 26 = .ok (.ifCond .eq 70, 3) := by decide +kernel
theorem dX6_firstPassedOver_29 : decode cX6_firstPassedOver 29 = .ok (.iload 4, 2) := by decide +kernel
theorem dX6_firstPassedOver_31 : decode cX6_firstPassedOver 31 = .ok (.iconst (-1), 1) := by decide +kernel
theorem dX6_firstPassedOver_32 : decode cX6_firstPassedOver 32 = .ok (.if_icmp .ne 64, 3) := by decide +kernel
theorem dX6_firstPassedOver_35 : decode cX6_firstPassedOver 35 = .ok (.aload_n 0, 1) := by decide +kernel
theorem dX6_firstPassedOver_36 : decode cX6_firstPassedOver 36 = .ok (.iload_n 3, 1) := by decide +kernel
theorem dX6_firstPassedOver_37 : decode cX6_firstPassedOver 37 = .ok (.invokevirtual 98, 3) := by decide +kernel
theorem dX6_firstPassedOver_40 : decode cX6_firstPassedOver 40 = .ok (.istore 6, 2) := by decide +kernel
theorem dX6_firstPassedOver_42 : decode cX6_firstPassedOver 42 = .ok (.iload 6, 2) := by decide +kernel
theorem dX6_firstPassedOver_44 : decode cX6_firstPassedOver 44 = .ok (.iconst (-1), 1) := by decide +kernel
theorem dX6_firstPassedOver_45 : decode cX6_firstPassedOver 45 = .ok (.if_icmp .ne 6, 3) := by decide +kernel
theorem dX6_firstPassedOver_48 : decode cX6_firstPassedOver 48 = .ok (.goto 48, 3) := by decide +kernel
theorem dX6_firstPassedOver_51 : decode cX6_firstPassedOver 51 = .ok (.iload_n 3, 1) := by decide +kernel
theorem dX6_firstPassedOver_52 : decode cX6_firstPassedOver 52 = .ok (.iconst 1, 1) := by decide +kernel
theorem dX6_firstPassedOver_53 : decode cX6_firstPassedOver 53 = .ok (.iload 6, 2) := by decide +kernel
theorem dX6_firstPassedOver_55 : decode cX6_firstPassedOver 55 = .ok (.ishl, 1) := by decide +kernel
theorem dX6_firstPassedOver_56 : decode cX6_firstPassedOver 56 = .ok (.iconst (-1), 1) := by decide +kernel
theorem dX6_firstPassedOver_57 : decode cX6_firstPassedOver 57 = .ok (.ixor, 1) := by decide +kernel
theorem dX6_firstPassedOver_58 : decode cX6_firstPassedOver 58 = .ok (.iand, 1) := by decide +kernel
theorem dX6_firstPassedOver_59 : decode cX6_firstPassedOver 59 = .ok (.istore_n 3, 1) := by decide +kernel
theorem dX6_firstPassedOver_60 : decode cX6_firstPassedOver 60 = .ok (.aload_n 0, 1) := by decide +kernel
theorem dX6_firstPassedOver_61 : decode cX6_firstPassedOver 61 = .ok (.iload 6, 2) := by decide +kernel
theorem dX6_firstPassedOver_63 : decode cX6_firstPassedOver 63 = .ok (.aload_n 1, 1) := by decide +kernel
theorem dX6_firstPassedOver_64 : decode cX6_firstPassedOver 64 = .ok (.invokevirtual 104, 3) := by decide +kernel
theorem dX6_firstPassedOver_67 : decode cX6_firstPassedOver 67 = .ok (.istore 7, 2) := by decide +kernel
theorem dX6_firstPassedOver_69 : decode cX6_firstPassedOver 69 = .ok (.iload 7, 2) := by decide +kernel
theorem dX6_firstPassedOver_71 : decode cX6_firstPassedOver 71 = .ok (.iconst (-1), 1) := by decide +kernel
theorem dX6_firstPassedOver_72 : decode cX6_firstPassedOver 72 = .ok (.if_icmp .ne 10, 3) := by decide +kernel
theorem dX6_firstPassedOver_75 : decode cX6_firstPassedOver 75 = .ok (.iload 6, 2) := by decide +kernel
theorem dX6_firstPassedOver_77 : decode cX6_firstPassedOver 77 = .ok (.istore 4, 2) := by decide +kernel
theorem dX6_firstPassedOver_79 : decode cX6_firstPassedOver 79 = .ok (.goto 11, 3) := by decide +kernel
theorem dX6_firstPassedOver_82 : decode cX6_firstPassedOver 82 = .ok (.aload_n 0, 1) := by decide +kernel
theorem dX6_firstPassedOver_83 : decode cX6_firstPassedOver 83 = .ok (.iload 6, 2) := by decide +kernel
theorem dX6_firstPassedOver_85 : decode cX6_firstPassedOver 85 = .ok (.iload 7, 2) := by decide +kernel
theorem dX6_firstPassedOver_87 : decode cX6_firstPassedOver 87 = .ok (.invokevirtual 107, 3) := by decide +kernel
theorem dX6_firstPassedOver_90 : decode cX6_firstPassedOver 90 = .ok (.iinc 5 1, 3) := by decide +kernel
theorem dX6_firstPassedOver_93 : decode cX6_firstPassedOver 93 = .ok (.goto (-77), 3) := by decide +kernel
theorem dX6_firstPassedOver_96 : decode cX6_firstPassedOver 96 = .ok (.aload_n 0, 1) := by decide +kernel
theorem dX6_firstPassedOver_97 : decode cX6_firstPassedOver 97 = .ok (.iload_n 2, 1) := by decide +kernel
theorem dX6_firstPassedOver_98 : decode cX6_firstPassedOver 98 = .ok (.putfield 48, 3) := by decide +kernel
theorem dX6_firstPassedOver_101 : decode cX6_firstPassedOver 101 = .ok (.iload 4, 2) := by decide +kernel
theorem dX6_firstPassedOver_103 : decode cX6_firstPassedOver 103 = .ok (.ireturn, 1) := by decide +kernel
theorem dX6_save_0 : decode cX6_save 0 = .ok (.aload_n 1, 1) := by decide +kernel
theorem dX6_save_1 : decode cX6_save 1 = .ok (.aload_n 0, 1) := by decide +kernel
theorem dX6_save_2 : decode cX6_save 2 = .ok (.getfield 33, 3) := by decide +kernel
theorem dX6_save_5 : decode cX6_save 5 = .ok (.invokevirtual 111, 3) := by decide +kernel
theorem dX6_save_8 : decode cX6_save 8 = .ok (.aload_n 1, 1) := by decide +kernel
theorem dX6_save_9 : decode cX6_save 9 = .ok (.aload_n 0, 1) := by decide +kernel
theorem dX6_save_10 : decode cX6_save 10 = .ok (.getfield 66, 3) := by decide +kernel
theorem dX6_save_13 : decode cX6_save 13 = .ok (.invokevirtual 111, 3) := by decide +kernel
theorem dX6_save_16 : decode cX6_save 16 = .ok (.aload_n 1, 1) := by decide +kernel
theorem dX6_save_17 : decode cX6_save 17 = .ok (.aload_n 0, 1) := by decide +kernel
theorem dX6_save_18 : decode cX6_save 18 = .ok (.getfield 48, 3) := by decide +kernel
theorem dX6_save_21 : decode cX6_save 21 = .ok (.invokevirtual 111, 3) := by decide +kernel
theorem dX6_save_24 : decode cX6_save 24 = .ok (.aload_n 1, 1) := by decide +kernel
theorem dX6_save_25 : decode cX6_save 25 = .ok (.aload_n 0, 1) := by decide +kernel
theorem dX6_save_26 : decode cX6_save 26 = .ok (.getfield 27, 3) := by decide +kernel
theorem dX6_save_29 : decode cX6_save 29 = .ok (.invokevirtual 117, 3) := by decide +kernel
theorem dX6_save_32 : decode cX6_save 32 = .ok (.aload_n 1, 1) := by decide +kernel
theorem dX6_save_33 : decode cX6_save 33 = .ok (.aload_n 0, 1) := by decide +kernel
theorem dX6_save_34 : decode cX6_save 34 = .ok (.getfield 30, 3) := by decide +kernel
theorem dX6_save_37 : decode cX6_save 37 = .ok (.invokevirtual 117, 3) := by decide +kernel
theorem dX6_save_40 : decode cX6_save 40 = .ok (.return_, 1) := by decide +kernel
theorem dX6_restore_0 : decode cX6_restore 0 = .ok (.aload_n 0, 1) := by decide +kernel
theorem dX6_restore_1 : decode cX6_restore 1 = .ok (.iconst 0, 1) := by decide +kernel
theorem dX6_restore_2 : decode cX6_restore 2 = .ok (.aload_n 1, 1) := by decide +kernel
theorem dX6_restore_3 : decode cX6_restore 3 = .ok (.invokevirtual 121, 3) := by decide +kernel
theorem dX6_restore_6 : decode cX6_restore 6 = .ok (.bipush 6, 2) := by decide +kernel
theorem dX6_restore_8 : decode cX6_restore 8 = .ok (.invokestatic 124, 3) := by decide +kernel
theorem dX6_restore_11 : decode cX6_restore 11 = .ok (.invokestatic 85, 3) := by decide +kernel
theorem dX6_restore_14 : decode cX6_restore 14 = .ok (.putfield 33, 3) := by decide +kernel
theorem dX6_restore_17 : decode cX6_restore 17 = .ok (.aload_n 0, 1) := by decide +kernel
theorem dX6_restore_18 : decode cX6_restore 18 = .ok (.aload_n 1, 1) := by decide +kernel
theorem dX6_restore_19 : decode cX6_restore 19 = .ok (.invokevirtual 121, 3) := by decide +kernel
theorem dX6_restore_22 : decode cX6_restore 22 = .ok (.putfield 66, 3) := by decide +kernel
theorem dX6_restore_25 : decode cX6_restore 25 = .ok (.aload_n 0, 1) := by decide +kernel
theorem dX6_restore_26 : decode cX6_restore 26 = .ok (.iconst 0, 1) := by decide +kernel
theorem dX6_restore_27 : decode cX6_restore 27 = .ok (.aload_n 1, 1) := by decide +kernel
theorem dX6_restore_28 : decode cX6_restore 28 = .ok (.invokevirtual 121, 3) := by decide +kernel
theorem dX6_restore_31 : decode cX6_restore 31 = .ok (.bipush 6, 2) := by decide +kernel
theorem dX6_restore_33 : decode cX6_restore 33 = .ok (.invokestatic 124, 3) := by decide +kernel
theorem dX6_restore_36 : decode cX6_restore 36 = .ok (.invokestatic 85, 3) := by decide +kernel
theorem dX6_restore_39 : decode cX6_restore 39 = .ok (.putfield 48, 3) := by decide +kernel
theorem dX6_restore_42 : decode cX6_restore 42 = .ok (.aload_n 1, 1) := by decide +kernel
theorem dX6_restore_43 : decode cX6_restore 43 = .ok (.aload_n 0, 1) := by decide +kernel
theorem dX6_restore_44 : decode cX6_restore 44 = .ok (.getfield 27, 3) := by decide +kernel
theorem dX6_restore_47 : decode cX6_restore 47 = .ok (.invokevirtual 127, 3) := by decide +kernel
theorem dX6_restore_50 : decode cX6_restore 50 = .ok (.aload_n 1, 1) := by decide +kernel
theorem dX6_restore_51 : decode cX6_restore 51 = .ok (.aload_n 0, 1) := by decide +kernel
theorem dX6_restore_52 : decode cX6_restore 52 = .ok (.getfield 30, 3) := by decide +kernel
theorem dX6_restore_55 : decode cX6_restore 55 = .ok (.invokevirtual 127, 3) := by decide +kernel
theorem dX6_restore_58 : decode cX6_restore 58 = .ok (.return_, 1) := by decide +kernel
theorem dX7_init_0 : decode cX7_init 0 = .ok (.aload_n 0, 1) := by decide +kernel
theorem dX7_init_1 : decode cX7_init 1 = .ok (.invokespecial 3, 3) := by decide +kernel
theorem dX7_init_4 : decode cX7_init 4 = .ok (.aload_n 0, 1) := by decide +kernel
theorem dX7_init_5 : decode cX7_init 5 = .ok (.bipush 24, 2) := by decide +kernel
theorem dX7_init_7 : decode cX7_init 7 = .ok (.newarray .int, 2) := by decide +kernel
theorem dX7_init_9 : decode cX7_init 9 = .ok (.putfield 9, 3) := by decide +kernel
theorem dX7_init_12 : decode cX7_init 12 = .ok (.aload_n 0, 1) := by decide +kernel
theorem dX7_init_13 : decode cX7_init 13 = .ok (.sipush 144, 3) := by decide +kernel
theorem dX7_init_16 : decode cX7_init 16 = .ok (.newarray .int, 2) := by decide +kernel
theorem dX7_init_18 : decode cX7_init 18 = .ok (.putfield 15, 3) := by decide +kernel
theorem dX7_init_21 : decode cX7_init 21 = .ok (.aload_n 0, 1) := by decide +kernel
theorem dX7_init_22 : decode cX7_init 22 = .ok (.new 18, 3) := by decide +kernel
theorem dX7_init_25 : decode cX7_init 25 = .ok (.dup, 1) := by decide +kernel
theorem dX7_init_26 : decode cX7_init 26 = .ok (.invokespecial 20, 3) := by decide +kernel
theorem dX7_init_29 : decode cX7_init 29 = .ok (.putfield 21, 3) := by decide +kernel
theorem dX7_init_32 : decode cX7_init 32 = .ok (.return_, 1) := by decide +kernel
theorem dX7_empty_0 : decode cX7_empty 0 = .ok (.aload_n 0, 1) := by decide +kernel
theorem dX7_empty_1 : decode cX7_empty 1 = .ok (.iconst 0, 1) := by decide +kernel
theorem dX7_empty_2 : decode cX7_empty 2 = .ok (.putfield 25, 3) := by decide +kernel
theorem dX7_empty_5 : decode cX7_empty 5 = .ok (.aload_n 0, 1) := by decide +kernel
theorem dX7_empty_6 : decode cX7_empty 6 = .ok (.iconst 0, 1) := by decide +kernel
theorem dX7_empty_7 : decode cX7_empty 7 = .ok (.putfield 29, 3) := by decide +kernel
theorem dX7_empty_10 : decode cX7_empty 10 = .ok (.aload_n 0, 1) := by decide +kernel
theorem dX7_empty_11 : decode cX7_empty 11 = .ok (.getfield 21, 3) := by decide +kernel
theorem dX7_empty_14 : decode cX7_empty 14 = .ok (.iconst 0, 1) := by decide +kernel
theorem dX7_empty_15 : decode cX7_empty 15 = .ok (.putfield 32, 3) := by decide +kernel
theorem dX7_empty_18 : decode cX7_empty 18 = .ok (.return_, 1) := by decide +kernel
theorem dX7_beginClause_0 : decode cX7_beginClause 0 = .ok (.aload_n 0, 1) := by decide +kernel
theorem dX7_beginClause_1 : decode cX7_beginClause 1 = .ok (.getfield 25, 3) := by decide +kernel
theorem dX7_beginClause_4 : decode cX7_beginClause 4 = .ok (.bipush 24, 2) := by decide +kernel
theorem dX7_beginClause_6 : decode cX7_beginClause 6 = .ok (.if_icmp .ge 47, 3) := by decide +kernel
theorem dX7_beginClause_9 : decode cX7_beginClause 9 = .ok (.aload_n 0, 1) := by decide +kernel
theorem dX7_beginClause_10 : decode cX7_beginClause 10 = .ok (.getfield 9, 3) := by decide +kernel
theorem dX7_beginClause_13 : decode cX7_beginClause 13 = .ok (.aload_n 0, 1) := by decide +kernel
theorem dX7_beginClause_14 : decode cX7_beginClause 14 = .ok (.getfield 25, 3) := by decide +kernel
theorem dX7_beginClause_17 : decode cX7_beginClause 17 = .ok (.iload_n 1, 1) := by decide +kernel
theorem dX7_beginClause_18 : decode cX7_beginClause 18 = .ok (.iastore, 1) := by decide +kernel
theorem dX7_beginClause_19 : decode cX7_beginClause 19 = .ok (.aload_n 0, 1) := by decide +kernel
theorem dX7_beginClause_20 : decode cX7_beginClause 20 = .ok (.iconst 0, 1) := by decide +kernel
theorem dX7_beginClause_21 : decode cX7_beginClause 21 = .ok (.putfield 29, 3) := by decide +kernel
theorem dX7_beginClause_24 : decode cX7_beginClause 24 = .ok (.iconst 0, 1) := by decide +kernel
theorem dX7_beginClause_25 : decode cX7_beginClause 25 = .ok (.istore_n 2, 1) := by decide +kernel
theorem dX7_beginClause_26 : decode cX7_beginClause 26 = .ok (.iload_n 2, 1) := by decide +kernel
theorem dX7_beginClause_27 : decode cX7_beginClause 27 = .ok (.bipush 6, 2) := by decide +kernel
theorem dX7_beginClause_29 : decode cX7_beginClause 29 = .ok (.if_icmp .ge 24, 3) := by decide +kernel
theorem dX7_beginClause_32 : decode cX7_beginClause 32 = .ok (.aload_n 0, 1) := by decide +kernel
theorem dX7_beginClause_33 : decode cX7_beginClause 33 = .ok (.getfield 15, 3) := by decide +kernel
theorem dX7_beginClause_36 : decode cX7_beginClause 36 = .ok (.aload_n 0, 1) := by decide +kernel
theorem dX7_beginClause_37 : decode cX7_beginClause 37 = .ok (.getfield 25, 3) := by decide +kernel
theorem dX7_beginClause_40 : decode cX7_beginClause 40 = .ok (.bipush 6, 2) := by decide +kernel
theorem dX7_beginClause_42 : decode cX7_beginClause 42 = .ok (.imul, 1) := by decide +kernel
theorem dX7_beginClause_43 : decode cX7_beginClause 43 = .ok (.iload_n 2, 1) := by decide +kernel
theorem dX7_beginClause_44 : decode cX7_beginClause 44 = .ok (.iadd, 1) := by decide +kernel
theorem dX7_beginClause_45 : decode cX7_beginClause 45 = .ok (.iconst (-1), 1) := by decide +kernel
theorem dX7_beginClause_46 : decode cX7_beginClause 46 = .ok (.iastore, 1) := by decide +kernel
theorem dX7_beginClause_47 : decode cX7_beginClause 47 = .ok (.iinc 2 1, 3) := by decide +kernel
theorem dX7_beginClause_50 : decode cX7_beginClause 50 = .ok (.goto (-24), 3) := by decide +kernel
theorem dX7_beginClause_53 : decode cX7_beginClause 53 = .ok (.return_, 1) := by decide +kernel
theorem dX7_give_0 : decode cX7_give 0 = .ok (.aload_n 0, 1) := by decide +kernel
theorem dX7_give_1 : decode cX7_give 1 = .ok (.getfield 25, 3) := by decide +kernel
theorem dX7_give_4 : decode cX7_give 4 = .ok (.bipush 24, 2) := by decide +kernel
theorem dX7_give_6 : decode cX7_give 6 = .ok (.if_icmp .ge 40, 3) := by decide +kernel
theorem dX7_give_9 : decode cX7_give 9 = .ok (.aload_n 0, 1) := by decide +kernel
theorem dX7_give_10 : decode cX7_give 10 = .ok (.getfield 29, 3) := by decide +kernel
theorem dX7_give_13 : decode cX7_give 13 = .ok (.bipush 6, 2) := by decide +kernel
theorem dX7_give_15 : decode cX7_give 15 = .ok (.if_icmp .ge 31, 3) := by decide +kernel
theorem dX7_give_18 : decode cX7_give 18 = .ok (.aload_n 0, 1) := by decide +kernel
theorem dX7_give_19 : decode cX7_give 19 = .ok (.getfield 15, 3) := by decide +kernel
theorem dX7_give_22 : decode cX7_give 22 = .ok (.aload_n 0, 1) := by decide +kernel
theorem dX7_give_23 : decode cX7_give 23 = .ok (.getfield 25, 3) := by decide +kernel
theorem dX7_give_26 : decode cX7_give 26 = .ok (.bipush 6, 2) := by decide +kernel
theorem dX7_give_28 : decode cX7_give 28 = .ok (.imul, 1) := by decide +kernel
theorem dX7_give_29 : decode cX7_give 29 = .ok (.aload_n 0, 1) := by decide +kernel
theorem dX7_give_30 : decode cX7_give 30 = .ok (.getfield 29, 3) := by decide +kernel
theorem dX7_give_33 : decode cX7_give 33 = .ok (.iadd, 1) := by decide +kernel
theorem dX7_give_34 : decode cX7_give 34 = .ok (.iload_n 1, 1) := by decide +kernel
theorem dX7_give_35 : decode cX7_give 35 = .ok (.iastore, 1) := by decide +kernel
theorem dX7_give_36 : decode cX7_give 36 = .ok (.aload_n 0, 1) := by decide +kernel
theorem dX7_give_37 : decode cX7_give 37 = .ok (.dup, 1) := by decide +kernel
theorem dX7_give_38 : decode cX7_give 38 = .ok (.getfield 29, 3) := by decide +kernel
theorem dX7_give_41 : decode cX7_give 41 = .ok (.iconst 1, 1) := by decide +kernel
theorem dX7_give_42 : decode cX7_give 42 = .ok (.iadd, 1) := by decide +kernel
theorem dX7_give_43 : decode cX7_give 43 = .ok (.putfield 29, 3) := by decide +kernel
theorem dX7_give_46 : decode cX7_give 46 = .ok (.return_, 1) := by decide +kernel
theorem dX7_sortOf_0 : decode cX7_sortOf 0 = .ok (.iload_n 1, 1) := by decide +kernel
theorem dX7_sortOf_1 : decode cX7_sortOf 1 = .ok (.iconst 0, 1) := by decide +kernel
theorem dX7_sortOf_2 : decode cX7_sortOf 2 = .ok (.aload_n 0, 1) := by decide +kernel
theorem dX7_sortOf_3 : decode cX7_sortOf 3 = .ok (.getfield 25, 3) := by decide +kernel
theorem dX7_sortOf_6 : decode cX7_sortOf 6 = .ok (.iconst 1, 1) := by decide +kernel
theorem dX7_sortOf_7 : decode cX7_sortOf 7 = .ok (.isub, 1) := by decide +kernel
theorem dX7_sortOf_8 : decode cX7_sortOf 8 = .ok (.invokestatic 35, 3) := by decide +kernel
theorem dX7_sortOf_11 : decode cX7_sortOf 11 = .ok (.ifCond .eq 12, 3) := by decide +kernel
theorem dX7_sortOf_14 : decode cX7_sortOf 14 = .ok (.aload_n 0, 1) := by decide +kernel
theorem dX7_sortOf_15 : decode cX7_sortOf 15 = .ok (.getfield 9, 3) := by decide +kernel
theorem dX7_sortOf_18 : decode cX7_sortOf 18 = .ok (.iload_n 1, 1) := by decide +kernel
theorem dX7_sortOf_19 : decode cX7_sortOf 19 = .ok (.iaload, 1) := by decide +kernel
theorem dX7_sortOf_20 : decode cX7_sortOf 20 = .ok (.goto 4, 3) := by decide +kernel
theorem dX7_sortOf_23 : decode cX7_sortOf 23 = .ok (.iconst 1, 1) := by decide +kernel
theorem dX7_sortOf_24 : decode cX7_sortOf 24 = .ok (.ireturn, 1) := by decide +kernel
theorem dX7_partOf_0 : decode cX7_partOf 0 = .ok (.iload_n 1, 1) := by decide +kernel
theorem dX7_partOf_1 : decode cX7_partOf 1 = .ok (.iconst 0, 1) := by decide +kernel
theorem dX7_partOf_2 : decode cX7_partOf 2 = .ok (.aload_n 0, 1) := by decide +kernel
theorem dX7_partOf_3 : decode cX7_partOf 3 = .ok (.getfield 25, 3) := by decide +kernel
theorem dX7_partOf_6 : decode cX7_partOf 6 = .ok (.iconst 1, 1) := by decide +kernel
theorem dX7_partOf_7 : decode cX7_partOf 7 = .ok (.isub, 1) := by decide +kernel
theorem dX7_partOf_8 : decode cX7_partOf 8 = .ok (.invokestatic 35, 3) := by decide +kernel
theorem dX7_partOf_11 : decode cX7_partOf 11 = .ok (.ifCond .eq 16, 3) := by decide +kernel
theorem dX7_partOf_14 : decode cX7_partOf 14 = .ok (.iload_n 2, 1) := by decide +kernel
theorem dX7_partOf_15 : decode cX7_partOf 15 = .ok (.iconst 0, 1) := by decide +kernel
theorem dX7_partOf_16 : decode cX7_partOf 16 = .ok (.iconst 5, 1) := by decide +kernel
theorem dX7_partOf_17 : decode cX7_partOf 17 = .ok (.invokestatic 35, 3) := by decide +kernel
theorem dX7_partOf_20 : decode cX7_partOf 20 = .ok (.ifCond .eq 7, 3) := by decide +kernel
theorem dX7_partOf_23 : decode cX7_partOf 23 = .ok (.iconst 1, 1) := by decide +kernel
theorem dX7_partOf_24 : decode cX7_partOf 24 = .ok (.goto 4, 3) := by decide +kernel
theorem dX7_partOf_27 : decode cX7_partOf 27 = .ok (.iconst 0, 1) := by decide +kernel
theorem dX7_partOf_28 : decode cX7_partOf 28 = .ok (.istore_n 3, 1) := by decide +kernel
theorem dX7_partOf_29 : decode cX7_partOf 29 = .ok (.iload_n 3, 1) := by decide +kernel
theorem dX7_partOf_30 : decode cX7_partOf 30 = .ok (.ifCond .eq 17, 3) := by decide +kernel
theorem dX7_partOf_33 : decode cX7_partOf 33 = .ok (.aload_n 0, 1) := by decide +kernel
theorem dX7_partOf_34 : decode cX7_partOf 34 = .ok (.getfield 15, 3) := by decide +kernel
theorem dX7_partOf_37 : decode cX7_partOf 37 = .ok (.iload_n 1, 1) := by decide +kernel
theorem dX7_partOf_38 : decode cX7_partOf 38 = .ok (.bipush 6, 2) := by decide +kernel
theorem dX7_partOf_40 : decode cX7_partOf 40 = .ok (.imul, 1) := by decide +kernel
theorem dX7_partOf_41 : decode cX7_partOf 41 = .ok (.iload_n 2, 1) := by decide +kernel
theorem dX7_partOf_42 : decode cX7_partOf 42 = .ok (.iadd, 1) := by decide +kernel
theorem dX7_partOf_43 : decode cX7_partOf 43 = .ok (.iaload, 1) := by decide +kernel
theorem dX7_partOf_44 : decode cX7_partOf 44 = .ok (.goto 4, 3) := by decide +kernel
theorem dX7_partOf_47 : decode cX7_partOf 47 = .ok (.iconst (-1), 1) := by decide +kernel
theorem dX7_partOf_48 : decode cX7_partOf 48 = .ok (.ireturn, 1) := by decide +kernel
theorem dX8_init_0 : decode cX8_init 0 = .ok (.aload_n 0, 1) := by decide +kernel
theorem dX8_init_1 : decode cX8_init 1 = .ok (.invokespecial 3, 3) := by decide +kernel
theorem dX8_init_4 : decode cX8_init 4 = .ok (.aload_n 0, 1) := by decide +kernel
theorem dX8_init_5 : decode cX8_init 5 = .ok (.sipush 300, 3) := by decide +kernel
theorem dX8_init_8 : decode cX8_init 8 = .ok (.newarray .int, 2) := by decide +kernel
theorem dX8_init_10 : decode cX8_init 10 = .ok (.putfield 9, 3) := by decide +kernel
theorem dX8_init_13 : decode cX8_init 13 = .ok (.aload_n 0, 1) := by decide +kernel
theorem dX8_init_14 : decode cX8_init 14 = .ok (.sipush 301, 3) := by decide +kernel
theorem dX8_init_17 : decode cX8_init 17 = .ok (.newarray .int, 2) := by decide +kernel
theorem dX8_init_19 : decode cX8_init 19 = .ok (.putfield 15, 3) := by decide +kernel
theorem dX8_init_22 : decode cX8_init 22 = .ok (.aload_n 0, 1) := by decide +kernel
theorem dX8_init_23 : decode cX8_init 23 = .ok (.sipush 301, 3) := by decide +kernel
theorem dX8_init_26 : decode cX8_init 26 = .ok (.newarray .int, 2) := by decide +kernel
theorem dX8_init_28 : decode cX8_init 28 = .ok (.putfield 18, 3) := by decide +kernel
theorem dX8_init_31 : decode cX8_init 31 = .ok (.aload_n 0, 1) := by decide +kernel
theorem dX8_init_32 : decode cX8_init 32 = .ok (.sipush 301, 3) := by decide +kernel
theorem dX8_init_35 : decode cX8_init 35 = .ok (.newarray .int, 2) := by decide +kernel
theorem dX8_init_37 : decode cX8_init 37 = .ok (.putfield 21, 3) := by decide +kernel
theorem dX8_init_40 : decode cX8_init 40 = .ok (.return_, 1) := by decide +kernel
theorem dX8_addWord_0 : decode cX8_addWord 0 = .ok (.bipush 24, 2) := by decide +kernel
theorem dX8_addWord_2 : decode cX8_addWord 2 = .ok (.istore_n 2, 1) := by decide +kernel
theorem dX8_addWord_3 : decode cX8_addWord 3 = .ok (.iload_n 2, 1) := by decide +kernel
theorem dX8_addWord_4 : decode cX8_addWord 4 = .ok (.ifCond .lt 45, 3) := by decide +kernel
theorem dX8_addWord_7 : decode cX8_addWord 7 = .ok (.aload_n 0, 1) := by decide +kernel
theorem dX8_addWord_8 : decode cX8_addWord 8 = .ok (.getfield 24, 3) := by decide +kernel
theorem dX8_addWord_11 : decode cX8_addWord 11 = .ok (.sipush 300, 3) := by decide +kernel
theorem dX8_addWord_14 : decode cX8_addWord 14 = .ok (.if_icmp .ge 29, 3) := by decide +kernel
theorem dX8_addWord_17 : decode cX8_addWord 17 = .ok (.aload_n 0, 1) := by decide +kernel
theorem dX8_addWord_18 : decode cX8_addWord 18 = .ok (.getfield 9, 3) := by decide +kernel
theorem dX8_addWord_21 : decode cX8_addWord 21 = .ok (.aload_n 0, 1) := by decide +kernel
theorem dX8_addWord_22 : decode cX8_addWord 22 = .ok (.getfield 24, 3) := by decide +kernel
theorem dX8_addWord_25 : decode cX8_addWord 25 = .ok (.iload_n 1, 1) := by decide +kernel
theorem dX8_addWord_26 : decode cX8_addWord 26 = .ok (.iload_n 2, 1) := by decide +kernel
theorem dX8_addWord_27 : decode cX8_addWord 27 = .ok (.iushr, 1) := by decide +kernel
theorem dX8_addWord_28 : decode cX8_addWord 28 = .ok (.sipush 255, 3) := by decide +kernel
theorem dX8_addWord_31 : decode cX8_addWord 31 = .ok (.iand, 1) := by decide +kernel
theorem dX8_addWord_32 : decode cX8_addWord 32 = .ok (.iastore, 1) := by decide +kernel
theorem dX8_addWord_33 : decode cX8_addWord 33 = .ok (.aload_n 0, 1) := by decide +kernel
theorem dX8_addWord_34 : decode cX8_addWord 34 = .ok (.dup, 1) := by decide +kernel
theorem dX8_addWord_35 : decode cX8_addWord 35 = .ok (.getfield 24, 3) := by decide +kernel
theorem dX8_addWord_38 : decode cX8_addWord 38 = .ok (.iconst 1, 1) := by decide +kernel
theorem dX8_addWord_39 : decode cX8_addWord 39 = .ok (.iadd, 1) := by decide +kernel
theorem dX8_addWord_40 : decode cX8_addWord 40 = .ok (.putfield 24, 3) := by decide +kernel
theorem dX8_addWord_43 : decode cX8_addWord 43 = .ok (.iinc 2 (-8), 3) := by decide +kernel
theorem dX8_addWord_46 : decode cX8_addWord 46 = .ok (.goto (-43), 3) := by decide +kernel
theorem dX8_addWord_49 : decode cX8_addWord 49 = .ok (.return_, 1) := by decide +kernel
theorem dX8_split_0 : decode cX8_split 0 = .ok (.aload_n 0, 1) := by decide +kernel
theorem dX8_split_1 : decode cX8_split 1 = .ok (.iconst 0, 1) := by decide +kernel
theorem dX8_split_2 : decode cX8_split 2 = .ok (.putfield 28, 3) := by decide +kernel
theorem dX8_split_5 : decode cX8_split 5 = .ok (.iconst 0, 1) := by decide +kernel
theorem dX8_split_6 : decode cX8_split 6 = .ok (.istore_n 1, 1) := by decide +kernel
theorem dX8_split_7 : decode cX8_split 7 = .ok (.iconst 0, 1) := by decide +kernel
theorem dX8_split_8 : decode cX8_split 8 = .ok (.istore_n 2, 1) := by decide +kernel
theorem dX8_split_9 : decode cX8_split 9 = .ok (.iload_n 2, 1) := by decide +kernel
theorem dX8_split_10 : decode cX8_split 10 = .ok (.sipush 300, 3) := by decide +kernel
theorem dX8_split_13 : decode cX8_split 13 = .ok (.if_icmp .ge 59, 3) := by decide +kernel
theorem dX8_split_16 : decode cX8_split 16 = .ok (.iload_n 1, 1) := by decide +kernel
theorem dX8_split_17 : decode cX8_split 17 = .ok (.aload_n 0, 1) := by decide +kernel
theorem dX8_split_18 : decode cX8_split 18 = .ok (.getfield 24, 3) := by decide +kernel
theorem dX8_split_21 : decode cX8_split 21 = .ok (.if_icmp .ge 51, 3) := by decide +kernel
theorem dX8_split_24 : decode cX8_split 24 = .ok (.aload_n 0, 1) := by decide +kernel
theorem dX8_split_25 : decode cX8_split 25 = .ok (.iload_n 1, 1) := by decide +kernel
theorem dX8_split_26 : decode cX8_split 26 = .ok (.invokevirtual 31, 3) := by decide +kernel
theorem dX8_split_29 : decode cX8_split 29 = .ok (.bipush 32, 2) := by decide +kernel
theorem dX8_split_31 : decode cX8_split 31 = .ok (.if_icmp .eq 13, 3) := by decide +kernel
theorem dX8_split_34 : decode cX8_split 34 = .ok (.aload_n 0, 1) := by decide +kernel
theorem dX8_split_35 : decode cX8_split 35 = .ok (.iload_n 1, 1) := by decide +kernel
theorem dX8_split_36 : decode cX8_split 36 = .ok (.invokevirtual 31, 3) := by decide +kernel
theorem dX8_split_39 : decode cX8_split 39 = .ok (.bipush 10, 2) := by decide +kernel
theorem dX8_split_41 : decode cX8_split 41 = .ok (.if_icmp .ne 7, 3) := by decide +kernel
theorem dX8_split_44 : decode cX8_split 44 = .ok (.iconst 1, 1) := by decide +kernel
theorem dX8_split_45 : decode cX8_split 45 = .ok (.goto 4, 3) := by decide +kernel
theorem dX8_split_48 : decode cX8_split 48 = .ok (.iconst 0, 1) := by decide +kernel
theorem dX8_split_49 : decode cX8_split 49 = .ok (.istore_n 3, 1) := by decide +kernel
theorem dX8_split_50 : decode cX8_split 50 = .ok (.iload_n 3, 1) := by decide +kernel
theorem dX8_split_51 : decode cX8_split 51 = .ok (.ifCond .eq 9, 3) := by decide +kernel
theorem dX8_split_54 : decode cX8_split 54 = .ok (.iload_n 1, 1) := by decide +kernel
theorem dX8_split_55 : decode cX8_split 55 = .ok (.iconst 1, 1) := by decide +kernel
theorem dX8_split_56 : decode cX8_split 56 = .ok (.iadd, 1) := by decide +kernel
theorem dX8_split_57 : decode cX8_split 57 = .ok (.goto 8, 3) := by decide +kernel
theorem dX8_split_60 : decode cX8_split 60 = .ok (.aload_n 0, 1) := by decide +kernel
theorem dX8_split_61 : decode cX8_split 61 = .ok (.iload_n 1, 1) := by decide +kernel
theorem dX8_split_62 : decode cX8_split 62 = .ok (.invokevirtual 35, 3) := by decide +kernel
theorem dX8_split_65 : decode cX8_split 65 = .ok (.istore_n 1, 1) := by decide +kernel
theorem dX8_split_66 : decode cX8_split 66 = .ok (.iinc 2 1, 3) := by decide +kernel
theorem dX8_split_69 : decode cX8_split 69 = .ok (.goto (-60), 3) := by decide +kernel
theorem dX8_split_72 : decode cX8_split 72 = .ok (.aload_n 0, 1) := by decide +kernel
theorem dX8_split_73 : decode cX8_split 73 = .ok (.iconst 0, 1) := by decide +kernel
theorem dX8_split_74 : decode cX8_split 74 = .ok (.aload_n 0, 1) := by decide +kernel
theorem dX8_split_75 : decode cX8_split 75 = .ok (.getfield 24, 3) := by decide +kernel
theorem dX8_split_78 : decode cX8_split 78 = .ok (.iconst 0, 1) := by decide +kernel
theorem dX8_split_79 : decode cX8_split 79 = .ok (.invokevirtual 38, 3) := by decide +kernel
theorem dX8_split_82 : decode cX8_split 82 = .ok (.aload_n 0, 1) := by decide +kernel
theorem dX8_split_83 : decode cX8_split 83 = .ok (.iconst (-1), 1) := by decide +kernel
theorem dX8_split_84 : decode cX8_split 84 = .ok (.putfield 42, 3) := by decide +kernel
theorem dX8_split_87 : decode cX8_split 87 = .ok (.aload_n 0, 1) := by decide +kernel
theorem dX8_split_88 : decode cX8_split 88 = .ok (.invokevirtual 45, 3) := by decide +kernel
theorem dX8_split_91 : decode cX8_split 91 = .ok (.return_, 1) := by decide +kernel
theorem dX8_advance_0 : decode cX8_advance 0 = .ok (.aload_n 0, 1) := by decide +kernel
theorem dX8_advance_1 : decode cX8_advance 1 = .ok (.getfield 42, 3) := by decide +kernel
theorem dX8_advance_4 : decode cX8_advance 4 = .ok (.iconst 1, 1) := by decide +kernel
theorem dX8_advance_5 : decode cX8_advance 5 = .ok (.iadd, 1) := by decide +kernel
theorem dX8_advance_6 : decode cX8_advance 6 = .ok (.aload_n 0, 1) := by decide +kernel
theorem dX8_advance_7 : decode cX8_advance 7 = .ok (.getfield 28, 3) := by decide +kernel
theorem dX8_advance_10 : decode cX8_advance 10 = .ok (.if_icmp .ge 52, 3) := by decide +kernel
theorem dX8_advance_13 : decode cX8_advance 13 = .ok (.aload_n 0, 1) := by decide +kernel
theorem dX8_advance_14 : decode cX8_advance 14 = .ok (.dup, 1) := by decide +kernel
theorem dX8_advance_15 : decode cX8_advance 15 = .ok (.getfield 42, 3) := by decide +kernel
theorem dX8_advance_18 : decode cX8_advance 18 = .ok (.iconst 1, 1) := by decide +kernel
theorem dX8_advance_19 : decode cX8_advance 19 = .ok (.iadd, 1) := by decide +kernel
theorem dX8_advance_20 : decode cX8_advance 20 = .ok (.putfield 42, 3) := by decide +kernel
theorem dX8_advance_23 : decode cX8_advance 23 = .ok (.aload_n 0, 1) := by decide +kernel
theorem dX8_advance_24 : decode cX8_advance 24 = .ok (.aload_n 0, 1) := by decide +kernel
theorem dX8_advance_25 : decode cX8_advance 25 = .ok (.getfield 15, 3) := by decide +kernel
theorem dX8_advance_28 : decode cX8_advance 28 = .ok (.aload_n 0, 1) := by decide +kernel
theorem dX8_advance_29 : decode cX8_advance 29 = .ok (.getfield 42, 3) := by decide +kernel
theorem dX8_advance_32 : decode cX8_advance 32 = .ok (.iaload, 1) := by decide +kernel
theorem dX8_advance_33 : decode cX8_advance 33 = .ok (.putfield 48, 3) := by decide +kernel
theorem dX8_advance_36 : decode cX8_advance 36 = .ok (.aload_n 0, 1) := by decide +kernel
theorem dX8_advance_37 : decode cX8_advance 37 = .ok (.aload_n 0, 1) := by decide +kernel
theorem dX8_advance_38 : decode cX8_advance 38 = .ok (.getfield 18, 3) := by decide +kernel
theorem dX8_advance_41 : decode cX8_advance 41 = .ok (.aload_n 0, 1) := by decide +kernel
theorem dX8_advance_42 : decode cX8_advance 42 = .ok (.getfield 42, 3) := by decide +kernel
theorem dX8_advance_45 : decode cX8_advance 45 = .ok (.iaload, 1) := by decide +kernel
theorem dX8_advance_46 : decode cX8_advance 46 = .ok (.putfield 51, 3) := by decide +kernel
theorem dX8_advance_49 : decode cX8_advance 49 = .ok (.aload_n 0, 1) := by decide +kernel
theorem dX8_advance_50 : decode cX8_advance 50 = .ok (.aload_n 0, 1) := by decide +kernel
theorem dX8_advance_51 : decode cX8_advance 51 = .ok (.getfield 21, 3) := by decide +kernel
theorem dX8_advance_54 : decode cX8_advance 54 = .ok (.aload_n 0, 1) := by decide +kernel
theorem dX8_advance_55 : decode cX8_advance 55 = .ok (.getfield 42, 3) := by decide +kernel
theorem dX8_advance_58 : decode cX8_advance 58 = .ok (.iaload, 1) := by decide +kernel
theorem dX8_advance_59 : decode cX8_advance 59 = .ok (.putfield 54, 3) := by decide +kernel
theorem dX8_advance_62 : decode cX8_advance 62 = .ok (.return_, 1) := by decide +kernel
theorem dX8_addToken_0 : decode cX8_addToken 0 = .ok (.aload_n 0, 1) := by decide +kernel
theorem dX8_addToken_1 : decode cX8_addToken 1 = .ok (.getfield 28, 3) := by decide +kernel
theorem dX8_addToken_4 : decode cX8_addToken 4 = .ok (.aload_n 0, 1) := by decide +kernel
theorem dX8_addToken_5 : decode cX8_addToken 5 = .ok (.getfield 15, 3) := by decide +kernel
theorem dX8_addToken_8 : decode cX8_addToken 8 = .ok (.arraylength, 1) := by decide +kernel
theorem dX8_addToken_9 : decode cX8_addToken 9 = .ok (.if_icmp .ge 43, 3) := by decide +kernel
theorem dX8_addToken_12 : decode cX8_addToken 12 = .ok (.aload_n 0, 1) := by decide +kernel
theorem dX8_addToken_13 : decode cX8_addToken 13 = .ok (.getfield 15, 3) := by decide +kernel
theorem dX8_addToken_16 : decode cX8_addToken 16 = .ok (.aload_n 0, 1) := by decide +kernel
theorem dX8_addToken_17 : decode cX8_addToken 17 = .ok (.getfield 28, 3) := by decide +kernel
theorem dX8_addToken_20 : decode cX8_addToken 20 = .ok (.iload_n 1, 1) := by decide +kernel
theorem dX8_addToken_21 : decode cX8_addToken 21 = .ok (.iastore, 1) := by decide +kernel
theorem dX8_addToken_22 : decode cX8_addToken 22 = .ok (.aload_n 0, 1) := by decide +kernel
theorem dX8_addToken_23 : decode cX8_addToken 23 = .ok (.getfield 18, 3) := by decide +kernel
theorem dX8_addToken_26 : decode cX8_addToken 26 = .ok (.aload_n 0, 1) := by decide +kernel
theorem dX8_addToken_27 : decode cX8_addToken 27 = .ok (.getfield 28, 3) := by decide +kernel
theorem dX8_addToken_30 : decode cX8_addToken 30 = .ok (.iload_n 2, 1) := by decide +kernel
theorem dX8_addToken_31 : decode cX8_addToken 31 = .ok (.iastore, 1) := by decide +kernel
theorem dX8_addToken_32 : decode cX8_addToken 32 = .ok (.aload_n 0, 1) := by decide +kernel
theorem dX8_addToken_33 : decode cX8_addToken 33 = .ok (.getfield 21, 3) := by decide +kernel
theorem dX8_addToken_36 : decode cX8_addToken 36 = .ok (.aload_n 0, 1) := by decide +kernel
theorem dX8_addToken_37 : decode cX8_addToken 37 = .ok (.getfield 28, 3) := by decide +kernel
theorem dX8_addToken_40 : decode cX8_addToken 40 = .ok (.iload_n 3, 1) := by decide +kernel
theorem dX8_addToken_41 : decode cX8_addToken 41 = .ok (.iastore, 1) := by decide +kernel
theorem dX8_addToken_42 : decode cX8_addToken 42 = .ok (.aload_n 0, 1) := by decide +kernel
theorem dX8_addToken_43 : decode cX8_addToken 43 = .ok (.dup, 1) := by decide +kernel
theorem dX8_addToken_44 : decode cX8_addToken 44 = .ok (.getfield 28, 3) := by decide +kernel
theorem dX8_addToken_47 : decode cX8_addToken 47 = .ok (.iconst 1, 1) := by decide +kernel
theorem dX8_addToken_48 : decode cX8_addToken 48 = .ok (.iadd, 1) := by decide +kernel
theorem dX8_addToken_49 : decode cX8_addToken 49 = .ok (.putfield 28, 3) := by decide +kernel
theorem dX8_addToken_52 : decode cX8_addToken 52 = .ok (.return_, 1) := by decide +kernel
theorem dX8_byteAt_0 : decode cX8_byteAt 0 = .ok (.iload_n 1, 1) := by decide +kernel
theorem dX8_byteAt_1 : decode cX8_byteAt 1 = .ok (.ifCond .lt 27, 3) := by decide +kernel
theorem dX8_byteAt_4 : decode cX8_byteAt 4 = .ok (.iload_n 1, 1) := by decide +kernel
theorem dX8_byteAt_5 : decode cX8_byteAt 5 = .ok (.aload_n 0, 1) := by decide +kernel
theorem dX8_byteAt_6 : decode cX8_byteAt 6 = .ok (.getfield 24, 3) := by decide +kernel
theorem dX8_byteAt_9 : decode cX8_byteAt 9 = .ok (.if_icmp .ge 19, 3) := by decide +kernel
theorem dX8_byteAt_12 : decode cX8_byteAt 12 = .ok (.iload_n 1, 1) := by decide +kernel
theorem dX8_byteAt_13 : decode cX8_byteAt 13 = .ok (.sipush 300, 3) := by decide +kernel
theorem dX8_byteAt_16 : decode cX8_byteAt 16 = .ok (.if_icmp .ge 12, 3) := by decide +kernel
theorem dX8_byteAt_19 : decode cX8_byteAt 19 = .ok (.aload_n 0, 1) := by decide +kernel
theorem dX8_byteAt_20 : decode cX8_byteAt 20 = .ok (.getfield 9, 3) := by decide +kernel
theorem dX8_byteAt_23 : decode cX8_byteAt 23 = .ok (.iload_n 1, 1) := by decide +kernel
theorem dX8_byteAt_24 : decode cX8_byteAt 24 = .ok (.iaload, 1) := by decide +kernel
theorem dX8_byteAt_25 : decode cX8_byteAt 25 = .ok (.goto 4, 3) := by decide +kernel
theorem dX8_byteAt_28 : decode cX8_byteAt 28 = .ok (.iconst (-1), 1) := by decide +kernel
theorem dX8_byteAt_29 : decode cX8_byteAt 29 = .ok (.ireturn, 1) := by decide +kernel
theorem dX8_isDigit_0 : decode cX8_isDigit 0 = .ok (.iload_n 0, 1) := by decide +kernel
theorem dX8_isDigit_1 : decode cX8_isDigit 1 = .ok (.bipush 48, 2) := by decide +kernel
theorem dX8_isDigit_3 : decode cX8_isDigit 3 = .ok (.if_icmp .lt 13, 3) := by decide +kernel
theorem dX8_isDigit_6 : decode cX8_isDigit 6 = .ok (.iload_n 0, 1) := by decide +kernel
theorem dX8_isDigit_7 : decode cX8_isDigit 7 = .ok (.bipush 57, 2) := by decide +kernel
theorem dX8_isDigit_9 : decode cX8_isDigit 9 = .ok (.if_icmp .gt 7, 3) := by decide +kernel
theorem dX8_isDigit_12 : decode cX8_isDigit 12 = .ok (.iconst 1, 1) := by decide +kernel
theorem dX8_isDigit_13 : decode cX8_isDigit 13 = .ok (.goto 4, 3) := by decide +kernel
theorem dX8_isDigit_16 : decode cX8_isDigit 16 = .ok (.iconst 0, 1) := by decide +kernel
theorem dX8_isDigit_17 : decode cX8_isDigit 17 = .ok (.ireturn, 1) := by decide +kernel
theorem dX8_isLetter_0 : decode cX8_isLetter 0 = .ok (.iload_n 0, 1) := by decide +kernel
theorem dX8_isLetter_1 : decode cX8_isLetter 1 = .ok (.bipush 97, 2) := by decide +kernel
theorem dX8_isLetter_3 : decode cX8_isLetter 3 = .ok (.if_icmp .lt 9, 3) := by decide +kernel
theorem dX8_isLetter_6 : decode cX8_isLetter 6 = .ok (.iload_n 0, 1) := by decide +kernel
theorem dX8_isLetter_7 : decode cX8_isLetter 7 = .ok (.bipush 122, 2) := by decide +kernel
theorem dX8_isLetter_9 : decode cX8_isLetter 9 = .ok (.if_icmp .le 15, 3) := by decide +kernel
theorem dX8_isLetter_12 : decode cX8_isLetter 12 = .ok (.iload_n 0, 1) := by decide +kernel
theorem dX8_isLetter_13 : decode cX8_isLetter 13 = .ok (.bipush 65, 2) := by decide +kernel
theorem dX8_isLetter_15 : decode cX8_isLetter 15 = .ok (.if_icmp .lt 13, 3) := by decide +kernel
theorem dX8_isLetter_18 : decode cX8_isLetter 18 = .ok (.iload_n 0, 1) := by decide +kernel
theorem dX8_isLetter_19 : decode cX8_isLetter 19 = .ok (.bipush 90, 2) := by decide +kernel
theorem dX8_isLetter_21 : decode cX8_isLetter 21 = .ok (.if_icmp .gt 7, 3) := by decide +kernel
theorem dX8_isLetter_24 : decode cX8_isLetter 24 = .ok (.iconst 1, 1) := by decide +kernel
theorem dX8_isLetter_25 : decode cX8_isLetter 25 = .ok (.goto 4, 3) := by decide +kernel
theorem dX8_isLetter_28 : decode cX8_isLetter 28 = .ok (.iconst 0, 1) := by decide +kernel
theorem dX8_isLetter_29 : decode cX8_isLetter 29 = .ok (.ireturn, 1) := by decide +kernel
theorem dX8_takeToken_0 : decode cX8_takeToken 0 = .ok (.aload_n 0, 1) := by decide +kernel
theorem dX8_takeToken_1 : decode cX8_takeToken 1 = .ok (.iload_n 1, 1) := by decide +kernel
theorem dX8_takeToken_2 : decode cX8_takeToken 2 = .ok (.invokevirtual 31, 3) := by decide +kernel
theorem dX8_takeToken_5 : decode cX8_takeToken 5 = .ok (.istore_n 2, 1) := by decide +kernel
theorem dX8_takeToken_6 : decode cX8_takeToken 6 = .ok (.iload_n 2, 1) := by decide +kernel
theorem dX8_takeToken_7 : decode cX8_takeToken 7 = .ok (.invokestatic 57, 3) := by decide +kernel
theorem dX8_takeToken_10 : decode cX8_takeToken 10 = .ok (.ifCond .eq 9, 3) := by decide +kernel
theorem dX8_takeToken_13 : decode cX8_takeToken 13 = .ok (.aload_n 0, 1) := by decide +kernel
theorem dX8_takeToken_14 : decode cX8_takeToken 14 = .ok (.iload_n 1, 1) := by decide +kernel
theorem dX8_takeToken_15 : decode cX8_takeToken 15 = .ok (.invokevirtual 61, 3) := by decide +kernel
theorem dX8_takeToken_18 : decode cX8_takeToken 18 = .ok (.ireturn, 1) := by decide +kernel
theorem dX8_takeToken_19 : decode cX8_takeToken 19 = .ok (.iload_n 2, 1) := by decide +kernel
theorem dX8_takeToken_20 : decode cX8_takeToken 20 = .ok (.invokestatic 64, 3) := by decide +kernel
theorem dX8_takeToken_23 : decode cX8_takeToken 23 = .ok (.ifCond .eq 11, 3) := by decide +kernel
theorem dX8_takeToken_26 : decode cX8_takeToken 26 = .ok (.aload_n 0, 1) := by decide +kernel
theorem dX8_takeToken_27 : decode cX8_takeToken 27 = .ok (.iload_n 1, 1) := by decide +kernel
theorem dX8_takeToken_28 : decode cX8_takeToken 28 = .ok (.invokevirtual 67, 3) := by decide +kernel
theorem dX8_takeToken_31 : decode cX8_takeToken 31 = .ok (.goto 8, 3) := by decide +kernel
theorem dX8_takeToken_34 : decode cX8_takeToken 34 = .ok (.aload_n 0, 1) := by decide +kernel
theorem dX8_takeToken_35 : decode cX8_takeToken 35 = .ok (.iload_n 1, 1) := by decide +kernel
theorem dX8_takeToken_36 : decode cX8_takeToken 36 = .ok (.invokevirtual 70, 3) := by decide +kernel
theorem dX8_takeToken_39 : decode cX8_takeToken 39 = .ok (.ireturn, 1) := by decide +kernel
theorem dX8_takeNumber_0 : decode cX8_takeNumber 0 = .ok (.iconst 0, 1) := by decide +kernel
theorem dX8_takeNumber_1 : decode cX8_takeNumber 1 = .ok (.istore_n 2, 1) := by decide +kernel
theorem dX8_takeNumber_2 : decode cX8_takeNumber 2 = .ok (.iload_n 1, 1) := by decide +kernel
theorem dX8_takeNumber_3 : decode cX8_takeNumber 3 = .ok (.istore_n 3, 1) := by decide +kernel
theorem dX8_takeNumber_4 : decode cX8_takeNumber 4 = .ok (.iload_n 3, 1) := by decide +kernel
theorem dX8_takeNumber_5 : decode cX8_takeNumber 5 = .ok (.aload_n 0, 1) := by decide +kernel
theorem dX8_takeNumber_6 : decode cX8_takeNumber 6 = .ok (.getfield 24, 3) := by decide +kernel
theorem dX8_takeNumber_9 : decode cX8_takeNumber 9 = .ok (.if_icmp .ge 39, 3) := by decide +kernel
theorem dX8_takeNumber_12 : decode cX8_takeNumber 12 = .ok (.aload_n 0, 1) := by decide +kernel
theorem dX8_takeNumber_13 : decode cX8_takeNumber 13 = .ok (.iload_n 3, 1) := by decide +kernel
theorem dX8_takeNumber_14 : decode cX8_takeNumber 14 = .ok (.invokevirtual 31, 3) := by decide +kernel
theorem dX8_takeNumber_17 : decode cX8_takeNumber 17 = .ok (.invokestatic 57, 3) := by decide +kernel
theorem dX8_takeNumber_20 : decode cX8_takeNumber 20 = .ok (.ifCond .eq 28, 3) := by decide +kernel
theorem dX8_takeNumber_23 : decode cX8_takeNumber 23 = .ok (.iload_n 2, 1) := by decide +kernel
theorem dX8_takeNumber_24 : decode cX8_takeNumber 24 = .ok (.bipush 10, 2) := by decide +kernel
theorem dX8_takeNumber_26 : decode cX8_takeNumber 26 = .ok (.imul, 1) := by decide +kernel
theorem dX8_takeNumber_27 : decode cX8_takeNumber 27 = .ok (.aload_n 0, 1) := by decide +kernel
theorem dX8_takeNumber_28 : decode cX8_takeNumber 28 = .ok (.iload_n 3, 1) := by decide +kernel
theorem dX8_takeNumber_29 : decode cX8_takeNumber 29 = .ok (.invokevirtual 31, 3) := by decide +kernel
theorem dX8_takeNumber_32 : decode cX8_takeNumber 32 = .ok (.iadd, 1) := by decide +kernel
theorem dX8_takeNumber_33 : decode cX8_takeNumber 33 = .ok (.bipush 48, 2) := by decide +kernel
theorem dX8_takeNumber_35 : decode cX8_takeNumber 35 = .ok (.isub, 1) := by decide +kernel
theorem dX8_takeNumber_36 : decode cX8_takeNumber 36 = .ok (.ldc 73, 2) := by decide +kernel
theorem dX8_takeNumber_38 : decode cX8_takeNumber 38 = .ok (.invokestatic 74, 3) := by decide +kernel
theorem dX8_takeNumber_41 : decode cX8_takeNumber 41 = .ok (.istore_n 2, 1) := by decide +kernel
theorem dX8_takeNumber_42 : decode cX8_takeNumber 42 = .ok (.iinc 3 1, 3) := by decide +kernel
theorem dX8_takeNumber_45 : decode cX8_takeNumber 45 = .ok (.goto (-41), 3) := by decide +kernel
theorem dX8_takeNumber_48 : decode cX8_takeNumber 48 = .ok (.aload_n 0, 1) := by decide +kernel
theorem dX8_takeNumber_49 : decode cX8_takeNumber 49 = .ok (.iconst 2, 1) := by decide +kernel
theorem dX8_takeNumber_50 : decode cX8_takeNumber 50 = .ok (.iload_n 1, 1) := by decide +kernel
theorem dX8_takeNumber_51 : decode cX8_takeNumber 51 = .ok (.iload_n 2, 1) := by decide +kernel
theorem dX8_takeNumber_52 : decode cX8_takeNumber 52 = .ok (.invokevirtual 38, 3) := by decide +kernel
theorem dX8_takeNumber_55 : decode cX8_takeNumber 55 = .ok (.iload_n 3, 1) := by decide +kernel
theorem dX8_takeNumber_56 : decode cX8_takeNumber 56 = .ok (.ireturn, 1) := by decide +kernel
theorem dX8_takeLetters_0 : decode cX8_takeLetters 0 = .ok (.iload_n 1, 1) := by decide +kernel
theorem dX8_takeLetters_1 : decode cX8_takeLetters 1 = .ok (.istore_n 2, 1) := by decide +kernel
theorem dX8_takeLetters_2 : decode cX8_takeLetters 2 = .ok (.iload_n 2, 1) := by decide +kernel
theorem dX8_takeLetters_3 : decode cX8_takeLetters 3 = .ok (.aload_n 0, 1) := by decide +kernel
theorem dX8_takeLetters_4 : decode cX8_takeLetters 4 = .ok (.getfield 24, 3) := by decide +kernel
theorem dX8_takeLetters_7 : decode cX8_takeLetters 7 = .ok (.if_icmp .ge 20, 3) := by decide +kernel
theorem dX8_takeLetters_10 : decode cX8_takeLetters 10 = .ok (.aload_n 0, 1) := by decide +kernel
theorem dX8_takeLetters_11 : decode cX8_takeLetters 11 = .ok (.iload_n 2, 1) := by decide +kernel
theorem dX8_takeLetters_12 : decode cX8_takeLetters 12 = .ok (.invokevirtual 31, 3) := by decide +kernel
theorem dX8_takeLetters_15 : decode cX8_takeLetters 15 = .ok (.invokestatic 64, 3) := by decide +kernel
theorem dX8_takeLetters_18 : decode cX8_takeLetters 18 = .ok (.ifCond .eq 9, 3) := by decide +kernel
theorem dX8_takeLetters_21 : decode cX8_takeLetters 21 = .ok (.iinc 2 1, 3) := by decide +kernel
theorem dX8_takeLetters_24 : decode cX8_takeLetters 24 = .ok (.goto (-22), 3) := by decide +kernel
theorem dX8_takeLetters_27 : decode cX8_takeLetters 27 = .ok (.aload_n 0, 1) := by decide +kernel
theorem dX8_takeLetters_28 : decode cX8_takeLetters 28 = .ok (.aload_n 0, 1) := by decide +kernel
theorem dX8_takeLetters_29 : decode cX8_takeLetters 29 = .ok (.iload_n 1, 1) := by decide +kernel
theorem dX8_takeLetters_30 : decode cX8_takeLetters 30 = .ok (.iload_n 2, 1) := by decide +kernel
theorem dX8_takeLetters_31 : decode cX8_takeLetters 31 = .ok (.invokevirtual 80, 3) := by decide +kernel
theorem dX8_takeLetters_34 : decode cX8_takeLetters 34 = .ok (.iload_n 1, 1) := by decide +kernel
theorem dX8_takeLetters_35 : decode cX8_takeLetters 35 = .ok (.iconst 0, 1) := by decide +kernel
theorem dX8_takeLetters_36 : decode cX8_takeLetters 36 = .ok (.invokevirtual 38, 3) := by decide +kernel
theorem dX8_takeLetters_39 : decode cX8_takeLetters 39 = .ok (.iload_n 2, 1) := by decide +kernel
theorem dX8_takeLetters_40 : decode cX8_takeLetters 40 = .ok (.ireturn, 1) := by decide +kernel
theorem dX8_sortOfLetters_0 : decode cX8_sortOfLetters 0 = .ok (.iconst 0, 1) := by decide +kernel
theorem dX8_sortOfLetters_1 : decode cX8_sortOfLetters 1 = .ok (.istore_n 3, 1) := by decide +kernel
theorem dX8_sortOfLetters_2 : decode cX8_sortOfLetters 2 = .ok (.iconst 0, 1) := by decide +kernel
theorem dX8_sortOfLetters_3 : decode cX8_sortOfLetters 3 = .ok (.istore 4, 2) := by decide +kernel
theorem dX8_sortOfLetters_5 : decode cX8_sortOfLetters 5 = .ok (.iconst 1, 1) := by decide +kernel
theorem dX8_sortOfLetters_6 : decode cX8_sortOfLetters 6 = .ok (.istore 5, 2) := by decide +kernel
theorem dX8_sortOfLetters_8 : decode cX8_sortOfLetters 8 = .ok (.iconst 0, 1) := by decide +kernel
theorem dX8_sortOfLetters_9 : decode cX8_sortOfLetters 9 = .ok (.istore 6, 2) := by decide +kernel
theorem dX8_sortOfLetters_11 : decode cX8_sortOfLetters 11 = .ok (.iload 6, 2) := by decide +kernel
theorem dX8_sortOfLetters_13 : decode cX8_sortOfLetters 13 = .ok (.ldc 83, 2) := by decide +kernel
theorem dX8_sortOfLetters_15 : decode cX8_sortOfLetters 15 = .ok (.invokevirtual 85, 3) := by decide +kernel
theorem dX8_sortOfLetters_18 : decode cX8_sortOfLetters 18 = .ok (.if_icmp .ge 84, 3) := by decide +kernel
theorem dX8_sortOfLetters_21 : decode cX8_sortOfLetters 21 = .ok (.ldc 83, 2) := by decide +kernel
theorem dX8_sortOfLetters_23 : decode cX8_sortOfLetters 23 = .ok (.iload 6, 2) := by decide +kernel
theorem dX8_sortOfLetters_25 : decode cX8_sortOfLetters 25 = .ok (.invokevirtual 90, 3) := by decide +kernel
theorem dX8_sortOfLetters_28 : decode cX8_sortOfLetters 28 = .ok (.bipush 32, 2) := by decide +kernel
theorem dX8_sortOfLetters_30 : decode cX8_sortOfLetters 30 = .ok (.if_icmp .eq 39, 3) := by decide +kernel
theorem dX8_sortOfLetters_33 : decode cX8_sortOfLetters 33 = .ok (.iload 5, 2) := by decide +kernel
theorem dX8_sortOfLetters_35 : decode cX8_sortOfLetters 35 = .ok (.ifCond .eq 25, 3) := by decide +kernel
theorem dX8_sortOfLetters_38 : decode cX8_sortOfLetters 38 = .ok (.ldc 83, 2) := by decide +kernel
theorem dX8_sortOfLetters_40 : decode cX8_sortOfLetters 40 = .ok (.iload 6, 2) := by decide +kernel
theorem dX8_sortOfLetters_42 : decode cX8_sortOfLetters 42 = .ok (.invokevirtual 90, 3) := by decide +kernel
theorem dX8_sortOfLetters_45 : decode cX8_sortOfLetters 45 = .ok (.aload_n 0, 1) := by decide +kernel
theorem dX8_sortOfLetters_46 : decode cX8_sortOfLetters 46 = .ok (.iload_n 1, 1) := by decide +kernel
theorem dX8_sortOfLetters_47 : decode cX8_sortOfLetters 47 = .ok (.iload 4, 2) := by decide +kernel
theorem dX8_sortOfLetters_49 : decode cX8_sortOfLetters 49 = .ok (.iadd, 1) := by decide +kernel
theorem dX8_sortOfLetters_50 : decode cX8_sortOfLetters 50 = .ok (.invokevirtual 31, 3) := by decide +kernel
theorem dX8_sortOfLetters_53 : decode cX8_sortOfLetters 53 = .ok (.if_icmp .ne 7, 3) := by decide +kernel
theorem dX8_sortOfLetters_56 : decode cX8_sortOfLetters 56 = .ok (.iconst 1, 1) := by decide +kernel
theorem dX8_sortOfLetters_57 : decode cX8_sortOfLetters 57 = .ok (.goto 4, 3) := by decide +kernel
theorem dX8_sortOfLetters_60 : decode cX8_sortOfLetters 60 = .ok (.iconst 0, 1) := by decide +kernel
theorem dX8_sortOfLetters_61 : decode cX8_sortOfLetters 61 = .ok (.istore 5, 2) := by decide +kernel
theorem dX8_sortOfLetters_63 : decode cX8_sortOfLetters 63 = .ok (.iinc 4 1, 3) := by decide +kernel
theorem dX8_sortOfLetters_66 : decode cX8_sortOfLetters 66 = .ok (.goto 30, 3) := by decide +kernel
theorem dX8_sortOfLetters_69 : decode cX8_sortOfLetters 69 = .ok (.iload 5, 2) := by decide +kernel
theorem dX8_sortOfLetters_71 : decode cX8_sortOfLetters 71 = .ok (.ifCond .eq 16, 3) := by decide +kernel
theorem dX8_sortOfLetters_74 : decode cX8_sortOfLetters 74 = .ok (.iload 4, 2) := by decide +kernel
theorem dX8_sortOfLetters_76 : decode cX8_sortOfLetters 76 = .ok (.iload_n 2, 1) := by decide +kernel
theorem dX8_sortOfLetters_77 : decode cX8_sortOfLetters 77 = .ok (.iload_n 1, 1) := by decide +kernel
theorem dX8_sortOfLetters_78 : decode cX8_sortOfLetters 78 = .ok (.isub, 1) := by decide +kernel
theorem dX8_sortOfLetters_79 : decode cX8_sortOfLetters 79 = .ok (.if_icmp .ne 8, 3) := by decide +kernel
theorem dX8_sortOfLetters_82 : decode cX8_sortOfLetters 82 = .ok (.bipush 20, 2) := by decide +kernel
theorem dX8_sortOfLetters_84 : decode cX8_sortOfLetters 84 = .ok (.iload_n 3, 1) := by decide +kernel
theorem dX8_sortOfLetters_85 : decode cX8_sortOfLetters 85 = .ok (.iadd, 1) := by decide +kernel
theorem dX8_sortOfLetters_86 : decode cX8_sortOfLetters 86 = .ok (.ireturn, 1) := by decide +kernel
theorem dX8_sortOfLetters_87 : decode cX8_sortOfLetters 87 = .ok (.iinc 3 1, 3) := by decide +kernel
theorem dX8_sortOfLetters_90 : decode cX8_sortOfLetters 90 = .ok (.iconst 0, 1) := by decide +kernel
theorem dX8_sortOfLetters_91 : decode cX8_sortOfLetters 91 = .ok (.istore 4, 2) := by decide +kernel
theorem dX8_sortOfLetters_93 : decode cX8_sortOfLetters 93 = .ok (.iconst 1, 1) := by decide +kernel
theorem dX8_sortOfLetters_94 : decode cX8_sortOfLetters 94 = .ok (.istore 5, 2) := by decide +kernel
theorem dX8_sortOfLetters_96 : decode cX8_sortOfLetters 96 = .ok (.iinc 6 1, 3) := by decide +kernel
theorem dX8_sortOfLetters_99 : decode cX8_sortOfLetters 99 = .ok (.goto (-88), 3) := by decide +kernel
theorem dX8_sortOfLetters_102 : decode cX8_sortOfLetters 102 = .ok (.iconst 1, 1) := by decide +kernel
theorem dX8_sortOfLetters_103 : decode cX8_sortOfLetters 103 = .ok (.ireturn, 1) := by decide +kernel
theorem dX8_takeSign_0 : decode cX8_takeSign 0 = .ok (.aload_n 0, 1) := by decide +kernel
theorem dX8_takeSign_1 : decode cX8_takeSign 1 = .ok (.iload_n 1, 1) := by decide +kernel
theorem dX8_takeSign_2 : decode cX8_takeSign 2 = .ok (.invokevirtual 31, 3) := by decide +kernel
theorem dX8_takeSign_5 : decode cX8_takeSign 5 = .ok (.istore_n 2, 1) := by decide +kernel
theorem dX8_takeSign_6 : decode cX8_takeSign 6 = .ok (.aload_n 0, 1) := by decide +kernel
theorem dX8_takeSign_7 : decode cX8_takeSign 7 = .ok (.iload_n 1, 1) := by decide +kernel
theorem dX8_takeSign_8 : decode cX8_takeSign 8 = .ok (.iconst 1, 1) := by decide +kernel
theorem dX8_takeSign_9 : decode cX8_takeSign 9 = .ok (.iadd, 1) := by decide +kernel
theorem dX8_takeSign_10 : decode cX8_takeSign 10 = .ok (.invokevirtual 31, 3) := by decide +kernel
theorem dX8_takeSign_13 : decode cX8_takeSign 13 = .ok (.bipush 61, 2) := by decide +kernel
theorem dX8_takeSign_15 : decode cX8_takeSign 15 = .ok (.if_icmp .ne 38, 3) := by decide +kernel
theorem dX8_takeSign_18 : decode cX8_takeSign 18 = .ok (.iload_n 2, 1) := by decide +kernel
theorem dX8_takeSign_19 : decode cX8_takeSign 19 = .ok (.bipush 60, 2) := by decide +kernel
theorem dX8_takeSign_21 : decode cX8_takeSign 21 = .ok (.if_icmp .eq 9, 3) := by decide +kernel
theorem dX8_takeSign_24 : decode cX8_takeSign 24 = .ok (.iload_n 2, 1) := by decide +kernel
theorem dX8_takeSign_25 : decode cX8_takeSign 25 = .ok (.bipush 62, 2) := by decide +kernel
theorem dX8_takeSign_27 : decode cX8_takeSign 27 = .ok (.if_icmp .ne 26, 3) := by decide +kernel
theorem dX8_takeSign_30 : decode cX8_takeSign 30 = .ok (.aload_n 0, 1) := by decide +kernel
theorem dX8_takeSign_31 : decode cX8_takeSign 31 = .ok (.iload_n 2, 1) := by decide +kernel
theorem dX8_takeSign_32 : decode cX8_takeSign 32 = .ok (.bipush 60, 2) := by decide +kernel
theorem dX8_takeSign_34 : decode cX8_takeSign 34 = .ok (.if_icmp .ne 8, 3) := by decide +kernel
theorem dX8_takeSign_37 : decode cX8_takeSign 37 = .ok (.bipush 16, 2) := by decide +kernel
theorem dX8_takeSign_39 : decode cX8_takeSign 39 = .ok (.goto 5, 3) := by decide +kernel
theorem dX8_takeSign_42 : decode cX8_takeSign 42 = .ok (.bipush 17, 2) := by decide +kernel
theorem dX8_takeSign_44 : decode cX8_takeSign 44 = .ok (.iload_n 1, 1) := by decide +kernel
theorem dX8_takeSign_45 : decode cX8_takeSign 45 = .ok (.iconst 0, 1) := by decide +kernel
theorem dX8_takeSign_46 : decode cX8_takeSign 46 = .ok (.invokevirtual 38, 3) := by decide +kernel
theorem dX8_takeSign_49 : decode cX8_takeSign 49 = .ok (.iload_n 1, 1) := by decide +kernel
theorem dX8_takeSign_50 : decode cX8_takeSign 50 = .ok (.iconst 2, 1) := by decide +kernel
theorem dX8_takeSign_51 : decode cX8_takeSign 51 = .ok (.iadd, 1) := by decide +kernel
theorem dX8_takeSign_52 : decode cX8_takeSign 52 = .ok (.ireturn, 1) := by decide +kernel
theorem dX8_takeSign_53 : decode cX8_takeSign 53 = .ok (.ldc 94, 2) := by decide +kernel
theorem dX8_takeSign_55 : decode cX8_takeSign 55 = .ok (.iload_n 2, 1) := by decide +kernel
theorem dX8_takeSign_56 : decode cX8_takeSign 56 = .ok (.i2c, 1) := by decide +kernel
theorem dX8_takeSign_57 : decode cX8_takeSign 57 = .ok (.invokevirtual 96, 3) := by decide +kernel
theorem dX8_takeSign_60 : decode cX8_takeSign 60 = .ok (.istore_n 3, 1) := by decide +kernel
theorem dX8_takeSign_61 : decode cX8_takeSign 61 = .ok (.aload_n 0, 1) := by decide +kernel
theorem dX8_takeSign_62 : decode cX8_takeSign 62 = .ok (.iload_n 3, 1) := by decide +kernel
theorem dX8_takeSign_63 : decode cX8_takeSign 63 = .ok (.ifCond .ge 7, 3) := by decide +kernel
theorem dX8_takeSign_66 : decode cX8_takeSign 66 = .ok (.iconst 1, 1) := by decide +kernel
theorem dX8_takeSign_67 : decode cX8_takeSign 67 = .ok (.goto 6, 3) := by decide +kernel
theorem dX8_takeSign_70 : decode cX8_takeSign 70 = .ok (.iconst 3, 1) := by decide +kernel
theorem dX8_takeSign_71 : decode cX8_takeSign 71 = .ok (.iload_n 3, 1) := by decide +kernel
theorem dX8_takeSign_72 : decode cX8_takeSign 72 = .ok (.iadd, 1) := by decide +kernel
theorem dX8_takeSign_73 : decode cX8_takeSign 73 = .ok (.iload_n 1, 1) := by decide +kernel
theorem dX8_takeSign_74 : decode cX8_takeSign 74 = .ok (.iconst 0, 1) := by decide +kernel
theorem dX8_takeSign_75 : decode cX8_takeSign 75 = .ok (.invokevirtual 38, 3) := by decide +kernel
theorem dX8_takeSign_78 : decode cX8_takeSign 78 = .ok (.iload_n 1, 1) := by decide +kernel
theorem dX8_takeSign_79 : decode cX8_takeSign 79 = .ok (.iconst 1, 1) := by decide +kernel
theorem dX8_takeSign_80 : decode cX8_takeSign 80 = .ok (.iadd, 1) := by decide +kernel
theorem dX8_takeSign_81 : decode cX8_takeSign 81 = .ok (.ireturn, 1) := by decide +kernel
theorem dX9_init_0 : decode cX9_init 0 = .ok (.aload_n 0, 1) := by decide +kernel
theorem dX9_init_1 : decode cX9_init 1 = .ok (.invokespecial 3, 3) := by decide +kernel
theorem dX9_init_4 : decode cX9_init 4 = .ok (.aload_n 0, 1) := by decide +kernel
theorem dX9_init_5 : decode cX9_init 5 = .ok (.ldc 9, 2) := by decide +kernel
theorem dX9_init_7 : decode cX9_init 7 = .ok (.newarray .int, 2) := by decide +kernel
theorem dX9_init_9 : decode cX9_init 9 = .ok (.putfield 10, 3) := by decide +kernel
theorem dX9_init_12 : decode cX9_init 12 = .ok (.aload_n 0, 1) := by decide +kernel
theorem dX9_init_13 : decode cX9_init 13 = .ok (.bipush 10, 2) := by decide +kernel
theorem dX9_init_15 : decode cX9_init 15 = .ok (.newarray .int, 2) := by decide +kernel
theorem dX9_init_17 : decode cX9_init 17 = .ok (.putfield 16, 3) := by decide +kernel
theorem dX9_init_20 : decode cX9_init 20 = .ok (.aload_n 0, 1) := by decide +kernel
theorem dX9_init_21 : decode cX9_init 21 = .ok (.iconst 4, 1) := by decide +kernel
theorem dX9_init_22 : decode cX9_init 22 = .ok (.newarray .int, 2) := by decide +kernel
theorem dX9_init_24 : decode cX9_init 24 = .ok (.putfield 19, 3) := by decide +kernel
theorem dX9_init_27 : decode cX9_init 27 = .ok (.aload_n 0, 1) := by decide +kernel
theorem dX9_init_28 : decode cX9_init 28 = .ok (.sipush 1001, 3) := by decide +kernel
theorem dX9_init_31 : decode cX9_init 31 = .ok (.newarray .int, 2) := by decide +kernel
theorem dX9_init_33 : decode cX9_init 33 = .ok (.putfield 22, 3) := by decide +kernel
theorem dX9_init_36 : decode cX9_init 36 = .ok (.aload_n 0, 1) := by decide +kernel
theorem dX9_init_37 : decode cX9_init 37 = .ok (.bipush 9, 2) := by decide +kernel
theorem dX9_init_39 : decode cX9_init 39 = .ok (.newarray .int, 2) := by decide +kernel
theorem dX9_init_41 : decode cX9_init 41 = .ok (.putfield 25, 3) := by decide +kernel
theorem dX9_init_44 : decode cX9_init 44 = .ok (.return_, 1) := by decide +kernel
theorem dX9_prepare_0 : decode cX9_prepare 0 = .ok (.iconst 0, 1) := by decide +kernel
theorem dX9_prepare_1 : decode cX9_prepare 1 = .ok (.istore 4, 2) := by decide +kernel
theorem dX9_prepare_3 : decode cX9_prepare 3 = .ok (.iload 4, 2) := by decide +kernel
theorem dX9_prepare_5 : decode cX9_prepare 5 = .ok (.iconst 4, 1) := by decide +kernel
theorem dX9_prepare_6 : decode cX9_prepare 6 = .ok (.if_icmp .ge 42, 3) := by decide +kernel
theorem dX9_prepare_9 : decode cX9_prepare 9 = .ok (.aload_n 0, 1) := by decide +kernel
theorem dX9_prepare_10 : decode cX9_prepare 10 = .ok (.getfield 19, 3) := by decide +kernel
theorem dX9_prepare_13 : decode cX9_prepare 13 = .ok (.iload 4, 2) := by decide +kernel
theorem dX9_prepare_15 : decode cX9_prepare 15 = .ok (.iaload, 1) := by decide +kernel
theorem dX9_prepare_16 : decode cX9_prepare 16 = .ok (.aload_n 3, 1) := by decide +kernel
theorem dX9_prepare_17 : decode cX9_prepare 17 = .ok (.iload 4, 2) := by decide +kernel
theorem dX9_prepare_19 : decode cX9_prepare 19 = .ok (.iaload, 1) := by decide +kernel
theorem dX9_prepare_20 : decode cX9_prepare 20 = .ok (.if_icmp .eq 22, 3) := by decide +kernel
theorem dX9_prepare_23 : decode cX9_prepare 23 = .ok (.aload_n 0, 1) := by decide +kernel
theorem dX9_prepare_24 : decode cX9_prepare 24 = .ok (.getfield 19, 3) := by decide +kernel
theorem dX9_prepare_27 : decode cX9_prepare 27 = .ok (.iload 4, 2) := by decide +kernel
theorem dX9_prepare_29 : decode cX9_prepare 29 = .ok (.aload_n 3, 1) := by decide +kernel
theorem dX9_prepare_30 : decode cX9_prepare 30 = .ok (.iload 4, 2) := by decide +kernel
theorem dX9_prepare_32 : decode cX9_prepare 32 = .ok (.iaload, 1) := by decide +kernel
theorem dX9_prepare_33 : decode cX9_prepare 33 = .ok (.iastore, 1) := by decide +kernel
theorem dX9_prepare_34 : decode cX9_prepare 34 = .ok (.aload_n 0, 1) := by decide +kernel
theorem dX9_prepare_35 : decode cX9_prepare 35 = .ok (.getfield 16, 3) := by decide +kernel
theorem dX9_prepare_38 : decode cX9_prepare 38 = .ok (.iconst 0, 1) := by decide +kernel
theorem dX9_prepare_39 : decode cX9_prepare 39 = .ok (.invokestatic 28, 3) := by decide +kernel
theorem dX9_prepare_42 : decode cX9_prepare 42 = .ok (.iinc 4 1, 3) := by decide +kernel
theorem dX9_prepare_45 : decode cX9_prepare 45 = .ok (.goto (-42), 3) := by decide +kernel
theorem dX9_prepare_48 : decode cX9_prepare 48 = .ok (.aload_n 0, 1) := by decide +kernel
theorem dX9_prepare_49 : decode cX9_prepare 49 = .ok (.getfield 16, 3) := by decide +kernel
theorem dX9_prepare_52 : decode cX9_prepare 52 = .ok (.iload_n 1, 1) := by decide +kernel
theorem dX9_prepare_53 : decode cX9_prepare 53 = .ok (.iaload, 1) := by decide +kernel
theorem dX9_prepare_54 : decode cX9_prepare 54 = .ok (.iconst 1, 1) := by decide +kernel
theorem dX9_prepare_55 : decode cX9_prepare 55 = .ok (.iadd, 1) := by decide +kernel
theorem dX9_prepare_56 : decode cX9_prepare 56 = .ok (.istore 4, 2) := by decide +kernel
theorem dX9_prepare_58 : decode cX9_prepare 58 = .ok (.iload 4, 2) := by decide +kernel
theorem dX9_prepare_60 : decode cX9_prepare 60 = .ok (.iload_n 2, 1) := by decide +kernel
theorem dX9_prepare_61 : decode cX9_prepare 61 = .ok (.if_icmp .gt 66, 3) := by decide +kernel
theorem dX9_prepare_64 : decode cX9_prepare 64 = .ok (.aload_n 0, 1) := by decide +kernel
theorem dX9_prepare_65 : decode cX9_prepare 65 = .ok (.iload_n 1, 1) := by decide +kernel
theorem dX9_prepare_66 : decode cX9_prepare 66 = .ok (.iload 4, 2) := by decide +kernel
theorem dX9_prepare_68 : decode cX9_prepare 68 = .ok (.invokevirtual 34, 3) := by decide +kernel
theorem dX9_prepare_71 : decode cX9_prepare 71 = .ok (.iload 4, 2) := by decide +kernel
theorem dX9_prepare_73 : decode cX9_prepare 73 = .ok (.iconst 1, 1) := by decide +kernel
theorem dX9_prepare_74 : decode cX9_prepare 74 = .ok (.if_icmp .ne 8, 3) := by decide +kernel
theorem dX9_prepare_77 : decode cX9_prepare 77 = .ok (.aload_n 0, 1) := by decide +kernel
theorem dX9_prepare_78 : decode cX9_prepare 78 = .ok (.iload_n 1, 1) := by decide +kernel
theorem dX9_prepare_79 : decode cX9_prepare 79 = .ok (.invokevirtual 38, 3) := by decide +kernel
theorem dX9_prepare_82 : decode cX9_prepare 82 = .ok (.iconst 1, 1) := by decide +kernel
theorem dX9_prepare_83 : decode cX9_prepare 83 = .ok (.istore 5, 2) := by decide +kernel
theorem dX9_prepare_85 : decode cX9_prepare 85 = .ok (.iload 5, 2) := by decide +kernel
theorem dX9_prepare_87 : decode cX9_prepare 87 = .ok (.iload 4, 2) := by decide +kernel
theorem dX9_prepare_89 : decode cX9_prepare 89 = .ok (.iload 5, 2) := by decide +kernel
theorem dX9_prepare_91 : decode cX9_prepare 91 = .ok (.isub, 1) := by decide +kernel
theorem dX9_prepare_92 : decode cX9_prepare 92 = .ok (.if_icmp .gt 21, 3) := by decide +kernel
theorem dX9_prepare_95 : decode cX9_prepare 95 = .ok (.aload_n 0, 1) := by decide +kernel
theorem dX9_prepare_96 : decode cX9_prepare 96 = .ok (.iload_n 1, 1) := by decide +kernel
theorem dX9_prepare_97 : decode cX9_prepare 97 = .ok (.iload 5, 2) := by decide +kernel
theorem dX9_prepare_99 : decode cX9_prepare 99 = .ok (.iload 4, 2) := by decide +kernel
theorem dX9_prepare_101 : decode cX9_prepare 101 = .ok (.iload 5, 2) := by decide +kernel
theorem dX9_prepare_103 : decode cX9_prepare 103 = .ok (.isub, 1) := by decide +kernel
theorem dX9_prepare_104 : decode cX9_prepare 104 = .ok (.invokevirtual 42, 3) := by decide +kernel
theorem dX9_prepare_107 : decode cX9_prepare 107 = .ok (.iinc 5 1, 3) := by decide +kernel
theorem dX9_prepare_110 : decode cX9_prepare 110 = .ok (.goto (-25), 3) := by decide +kernel
theorem dX9_prepare_113 : decode cX9_prepare 113 = .ok (.aload_n 0, 1) := by decide +kernel
theorem dX9_prepare_114 : decode cX9_prepare 114 = .ok (.getfield 16, 3) := by decide +kernel
theorem dX9_prepare_117 : decode cX9_prepare 117 = .ok (.iload_n 1, 1) := by decide +kernel
theorem dX9_prepare_118 : decode cX9_prepare 118 = .ok (.iload 4, 2) := by decide +kernel
theorem dX9_prepare_120 : decode cX9_prepare 120 = .ok (.iastore, 1) := by decide +kernel
theorem dX9_prepare_121 : decode cX9_prepare 121 = .ok (.iinc 4 1, 3) := by decide +kernel
theorem dX9_prepare_124 : decode cX9_prepare 124 = .ok (.goto (-66), 3) := by decide +kernel
theorem dX9_prepare_127 : decode cX9_prepare 127 = .ok (.return_, 1) := by decide +kernel
theorem dX9_placeOf_0 : decode cX9_placeOf 0 = .ok (.iload_n 0, 1) := by decide +kernel
theorem dX9_placeOf_1 : decode cX9_placeOf 1 = .ok (.iconst 5, 1) := by decide +kernel
theorem dX9_placeOf_2 : decode cX9_placeOf 2 = .ok (.imul, 1) := by decide +kernel
theorem dX9_placeOf_3 : decode cX9_placeOf 3 = .ok (.iload_n 1, 1) := by decide +kernel
theorem dX9_placeOf_4 : decode cX9_placeOf 4 = .ok (.iadd, 1) := by decide +kernel
theorem dX9_placeOf_5 : decode cX9_placeOf 5 = .ok (.iconst 1, 1) := by decide +kernel
theorem dX9_placeOf_6 : decode cX9_placeOf 6 = .ok (.isub, 1) := by decide +kernel
theorem dX9_placeOf_7 : decode cX9_placeOf 7 = .ok (.sipush 1001, 3) := by decide +kernel
theorem dX9_placeOf_10 : decode cX9_placeOf 10 = .ok (.imul, 1) := by decide +kernel
theorem dX9_placeOf_11 : decode cX9_placeOf 11 = .ok (.iload_n 2, 1) := by decide +kernel
theorem dX9_placeOf_12 : decode cX9_placeOf 12 = .ok (.iadd, 1) := by decide +kernel
theorem dX9_placeOf_13 : decode cX9_placeOf 13 = .ok (.sipush 500, 3) := by decide +kernel
theorem dX9_placeOf_16 : decode cX9_placeOf 16 = .ok (.iadd, 1) := by decide +kernel
theorem dX9_placeOf_17 : decode cX9_placeOf 17 = .ok (.ireturn, 1) := by decide +kernel
theorem dX9_clear_0 : decode cX9_clear 0 = .ok (.iload_n 1, 1) := by decide +kernel
theorem dX9_clear_1 : decode cX9_clear 1 = .ok (.iload_n 2, 1) := by decide +kernel
theorem dX9_clear_2 : decode cX9_clear 2 = .ok (.iconst 0, 1) := by decide +kernel
theorem dX9_clear_3 : decode cX9_clear 3 = .ok (.invokestatic 46, 3) := by decide +kernel
theorem dX9_clear_6 : decode cX9_clear 6 = .ok (.istore_n 3, 1) := by decide +kernel
theorem dX9_clear_7 : decode cX9_clear 7 = .ok (.sipush (-500), 3) := by decide +kernel
theorem dX9_clear_10 : decode cX9_clear 10 = .ok (.istore 4, 2) := by decide +kernel
theorem dX9_clear_12 : decode cX9_clear 12 = .ok (.iload 4, 2) := by decide +kernel
theorem dX9_clear_14 : decode cX9_clear 14 = .ok (.sipush 500, 3) := by decide +kernel
theorem dX9_clear_17 : decode cX9_clear 17 = .ok (.if_icmp .gt 19, 3) := by decide +kernel
theorem dX9_clear_20 : decode cX9_clear 20 = .ok (.aload_n 0, 1) := by decide +kernel
theorem dX9_clear_21 : decode cX9_clear 21 = .ok (.getfield 10, 3) := by decide +kernel
theorem dX9_clear_24 : decode cX9_clear 24 = .ok (.iload_n 3, 1) := by decide +kernel
theorem dX9_clear_25 : decode cX9_clear 25 = .ok (.iload 4, 2) := by decide +kernel
theorem dX9_clear_27 : decode cX9_clear 27 = .ok (.iadd, 1) := by decide +kernel
theorem dX9_clear_28 : decode cX9_clear 28 = .ok (.iconst 0, 1) := by decide +kernel
theorem dX9_clear_29 : decode cX9_clear 29 = .ok (.iastore, 1) := by decide +kernel
theorem dX9_clear_30 : decode cX9_clear 30 = .ok (.iinc 4 1, 3) := by decide +kernel
theorem dX9_clear_33 : decode cX9_clear 33 = .ok (.goto (-21), 3) := by decide +kernel
theorem dX9_clear_36 : decode cX9_clear 36 = .ok (.return_, 1) := by decide +kernel
theorem dX9_countLeaves_0 : decode cX9_countLeaves 0 = .ok (.iconst 1, 1) := by decide +kernel
theorem dX9_countLeaves_1 : decode cX9_countLeaves 1 = .ok (.istore_n 2, 1) := by decide +kernel
theorem dX9_countLeaves_2 : decode cX9_countLeaves 2 = .ok (.iload_n 2, 1) := by decide +kernel
theorem dX9_countLeaves_3 : decode cX9_countLeaves 3 = .ok (.iload_n 1, 1) := by decide +kernel
theorem dX9_countLeaves_4 : decode cX9_countLeaves 4 = .ok (.if_icmp .gt 24, 3) := by decide +kernel
theorem dX9_countLeaves_7 : decode cX9_countLeaves 7 = .ok (.aload_n 0, 1) := by decide +kernel
theorem dX9_countLeaves_8 : decode cX9_countLeaves 8 = .ok (.getfield 10, 3) := by decide +kernel
theorem dX9_countLeaves_11 : decode cX9_countLeaves 11 = .ok (.iload_n 1, 1) := by decide +kernel
theorem dX9_countLeaves_12 : decode cX9_countLeaves 12 = .ok (.iconst 1, 1) := by decide +kernel
theorem dX9_countLeaves_13 : decode cX9_countLeaves 13 = .ok (.iload_n 2, 1) := by decide +kernel
theorem dX9_countLeaves_14 : decode cX9_countLeaves 14 = .ok (.invokestatic 46, 3) := by decide +kernel
theorem dX9_countLeaves_17 : decode cX9_countLeaves 17 = .ok (.dup2, 1) := by decide +kernel
theorem dX9_countLeaves_18 : decode cX9_countLeaves 18 = .ok (.iaload, 1) := by decide +kernel
theorem dX9_countLeaves_19 : decode cX9_countLeaves 19 = .ok (.iconst 1, 1) := by decide +kernel
theorem dX9_countLeaves_20 : decode cX9_countLeaves 20 = .ok (.iadd, 1) := by decide +kernel
theorem dX9_countLeaves_21 : decode cX9_countLeaves 21 = .ok (.iastore, 1) := by decide +kernel
theorem dX9_countLeaves_22 : decode cX9_countLeaves 22 = .ok (.iinc 2 1, 3) := by decide +kernel
theorem dX9_countLeaves_25 : decode cX9_countLeaves 25 = .ok (.goto (-23), 3) := by decide +kernel
theorem dX9_countLeaves_28 : decode cX9_countLeaves 28 = .ok (.iconst 0, 1) := by decide +kernel
theorem dX9_countLeaves_29 : decode cX9_countLeaves 29 = .ok (.istore_n 2, 1) := by decide +kernel
theorem dX9_countLeaves_30 : decode cX9_countLeaves 30 = .ok (.iload_n 2, 1) := by decide +kernel
theorem dX9_countLeaves_31 : decode cX9_countLeaves 31 = .ok (.iconst 4, 1) := by decide +kernel
theorem dX9_countLeaves_32 : decode cX9_countLeaves 32 = .ok (.if_icmp .ge 29, 3) := by decide +kernel
theorem dX9_countLeaves_35 : decode cX9_countLeaves 35 = .ok (.aload_n 0, 1) := by decide +kernel
theorem dX9_countLeaves_36 : decode cX9_countLeaves 36 = .ok (.getfield 10, 3) := by decide +kernel
theorem dX9_countLeaves_39 : decode cX9_countLeaves 39 = .ok (.iload_n 1, 1) := by decide +kernel
theorem dX9_countLeaves_40 : decode cX9_countLeaves 40 = .ok (.iconst 1, 1) := by decide +kernel
theorem dX9_countLeaves_41 : decode cX9_countLeaves 41 = .ok (.aload_n 0, 1) := by decide +kernel
theorem dX9_countLeaves_42 : decode cX9_countLeaves 42 = .ok (.getfield 19, 3) := by decide +kernel
theorem dX9_countLeaves_45 : decode cX9_countLeaves 45 = .ok (.iload_n 2, 1) := by decide +kernel
theorem dX9_countLeaves_46 : decode cX9_countLeaves 46 = .ok (.iaload, 1) := by decide +kernel
theorem dX9_countLeaves_47 : decode cX9_countLeaves 47 = .ok (.invokestatic 46, 3) := by decide +kernel
theorem dX9_countLeaves_50 : decode cX9_countLeaves 50 = .ok (.dup2, 1) := by decide +kernel
theorem dX9_countLeaves_51 : decode cX9_countLeaves 51 = .ok (.iaload, 1) := by decide +kernel
theorem dX9_countLeaves_52 : decode cX9_countLeaves 52 = .ok (.iconst 1, 1) := by decide +kernel
theorem dX9_countLeaves_53 : decode cX9_countLeaves 53 = .ok (.iadd, 1) := by decide +kernel
theorem dX9_countLeaves_54 : decode cX9_countLeaves 54 = .ok (.iastore, 1) := by decide +kernel
theorem dX9_countLeaves_55 : decode cX9_countLeaves 55 = .ok (.iinc 2 1, 3) := by decide +kernel
theorem dX9_countLeaves_58 : decode cX9_countLeaves 58 = .ok (.goto (-28), 3) := by decide +kernel
theorem dX9_countLeaves_61 : decode cX9_countLeaves 61 = .ok (.return_, 1) := by decide +kernel
theorem dX9_join_0 : decode cX9_join 0 = .ok (.iload_n 1, 1) := by decide +kernel
theorem dX9_join_1 : decode cX9_join 1 = .ok (.iload_n 3, 1) := by decide +kernel
theorem dX9_join_2 : decode cX9_join 2 = .ok (.iconst 0, 1) := by decide +kernel
theorem dX9_join_3 : decode cX9_join 3 = .ok (.invokestatic 46, 3) := by decide +kernel
theorem dX9_join_6 : decode cX9_join 6 = .ok (.istore 4, 2) := by decide +kernel
theorem dX9_join_8 : decode cX9_join 8 = .ok (.iconst 0, 1) := by decide +kernel
theorem dX9_join_9 : decode cX9_join 9 = .ok (.istore 5, 2) := by decide +kernel
theorem dX9_join_11 : decode cX9_join 11 = .ok (.sipush (-500), 3) := by decide +kernel
theorem dX9_join_14 : decode cX9_join 14 = .ok (.istore 6, 2) := by decide +kernel
theorem dX9_join_16 : decode cX9_join 16 = .ok (.iload 6, 2) := by decide +kernel
theorem dX9_join_18 : decode cX9_join 18 = .ok (.sipush 500, 3) := by decide +kernel
theorem dX9_join_21 : decode cX9_join 21 = .ok (.if_icmp .gt 34, 3) := by decide +kernel
theorem dX9_join_24 : decode cX9_join 24 = .ok (.aload_n 0, 1) := by decide +kernel
theorem dX9_join_25 : decode cX9_join 25 = .ok (.getfield 10, 3) := by decide +kernel
theorem dX9_join_28 : decode cX9_join 28 = .ok (.iload 4, 2) := by decide +kernel
theorem dX9_join_30 : decode cX9_join 30 = .ok (.iload 6, 2) := by decide +kernel
theorem dX9_join_32 : decode cX9_join 32 = .ok (.iadd, 1) := by decide +kernel
theorem dX9_join_33 : decode cX9_join 33 = .ok (.iaload, 1) := by decide +kernel
theorem dX9_join_34 : decode cX9_join 34 = .ok (.ifCond .eq 15, 3) := by decide +kernel
theorem dX9_join_37 : decode cX9_join 37 = .ok (.aload_n 0, 1) := by decide +kernel
theorem dX9_join_38 : decode cX9_join 38 = .ok (.getfield 22, 3) := by decide +kernel
theorem dX9_join_41 : decode cX9_join 41 = .ok (.iload 5, 2) := by decide +kernel
theorem dX9_join_43 : decode cX9_join 43 = .ok (.iload 6, 2) := by decide +kernel
theorem dX9_join_45 : decode cX9_join 45 = .ok (.iastore, 1) := by decide +kernel
theorem dX9_join_46 : decode cX9_join 46 = .ok (.iinc 5 1, 3) := by decide +kernel
theorem dX9_join_49 : decode cX9_join 49 = .ok (.iinc 6 1, 3) := by decide +kernel
theorem dX9_join_52 : decode cX9_join 52 = .ok (.goto (-36), 3) := by decide +kernel
theorem dX9_join_55 : decode cX9_join 55 = .ok (.sipush (-500), 3) := by decide +kernel
theorem dX9_join_58 : decode cX9_join 58 = .ok (.istore 6, 2) := by decide +kernel
theorem dX9_join_60 : decode cX9_join 60 = .ok (.iload 6, 2) := by decide +kernel
theorem dX9_join_62 : decode cX9_join 62 = .ok (.sipush 500, 3) := by decide +kernel
theorem dX9_join_65 : decode cX9_join 65 = .ok (.if_icmp .gt 58, 3) := by decide +kernel
theorem dX9_join_68 : decode cX9_join 68 = .ok (.aload_n 0, 1) := by decide +kernel
theorem dX9_join_69 : decode cX9_join 69 = .ok (.getfield 10, 3) := by decide +kernel
theorem dX9_join_72 : decode cX9_join 72 = .ok (.iload_n 1, 1) := by decide +kernel
theorem dX9_join_73 : decode cX9_join 73 = .ok (.iload_n 2, 1) := by decide +kernel
theorem dX9_join_74 : decode cX9_join 74 = .ok (.iload 6, 2) := by decide +kernel
theorem dX9_join_76 : decode cX9_join 76 = .ok (.invokestatic 46, 3) := by decide +kernel
theorem dX9_join_79 : decode cX9_join 79 = .ok (.iaload, 1) := by decide +kernel
theorem dX9_join_80 : decode cX9_join 80 = .ok (.istore 7, 2) := by decide +kernel
theorem dX9_join_82 : decode cX9_join 82 = .ok (.iload 7, 2) := by decide +kernel
theorem dX9_join_84 : decode cX9_join 84 = .ok (.ifCond .eq 33, 3) := by decide +kernel
theorem dX9_join_87 : decode cX9_join 87 = .ok (.aload_n 0, 1) := by decide +kernel
theorem dX9_join_88 : decode cX9_join 88 = .ok (.iload 6, 2) := by decide +kernel
theorem dX9_join_90 : decode cX9_join 90 = .ok (.iload 7, 2) := by decide +kernel
theorem dX9_join_92 : decode cX9_join 92 = .ok (.iload 4, 2) := by decide +kernel
theorem dX9_join_94 : decode cX9_join 94 = .ok (.iload 5, 2) := by decide +kernel
theorem dX9_join_96 : decode cX9_join 96 = .ok (.iload_n 1, 1) := by decide +kernel
theorem dX9_join_97 : decode cX9_join 97 = .ok (.iload_n 2, 1) := by decide +kernel
theorem dX9_join_98 : decode cX9_join 98 = .ok (.iload_n 3, 1) := by decide +kernel
theorem dX9_join_99 : decode cX9_join 99 = .ok (.iadd, 1) := by decide +kernel
theorem dX9_join_100 : decode cX9_join 100 = .ok (.iconst 0, 1) := by decide +kernel
theorem dX9_join_101 : decode cX9_join 101 = .ok (.invokestatic 46, 3) := by decide +kernel
theorem dX9_join_104 : decode cX9_join 104 = .ok (.iload_n 2, 1) := by decide +kernel
theorem dX9_join_105 : decode cX9_join 105 = .ok (.iload_n 3, 1) := by decide +kernel
theorem dX9_join_106 : decode cX9_join 106 = .ok (.if_icmp .eq 7, 3) := by decide +kernel
theorem dX9_join_109 : decode cX9_join 109 = .ok (.iconst 1, 1) := by decide +kernel
theorem dX9_join_110 : decode cX9_join 110 = .ok (.goto 4, 3) := by decide +kernel
theorem dX9_join_113 : decode cX9_join 113 = .ok (.iconst 0, 1) := by decide +kernel
theorem dX9_join_114 : decode cX9_join 114 = .ok (.invokevirtual 50, 3) := by decide +kernel
theorem dX9_join_117 : decode cX9_join 117 = .ok (.iinc 6 1, 3) := by decide +kernel
theorem dX9_join_120 : decode cX9_join 120 = .ok (.goto (-60), 3) := by decide +kernel
theorem dX9_join_123 : decode cX9_join 123 = .ok (.return_, 1) := by decide +kernel
theorem dX9_joinValue_0 : decode cX9_joinValue 0 = .ok (.iconst 0, 1) := by decide +kernel
theorem dX9_joinValue_1 : decode cX9_joinValue 1 = .ok (.istore 7, 2) := by decide +kernel
theorem dX9_joinValue_3 : decode cX9_joinValue 3 = .ok (.iload 7, 2) := by decide +kernel
theorem dX9_joinValue_5 : decode cX9_joinValue 5 = .ok (.iload 4, 2) := by decide +kernel
theorem dX9_joinValue_7 : decode cX9_joinValue 7 = .ok (.if_icmp .ge 180, 3) := by decide +kernel
theorem dX9_joinValue_10 : decode cX9_joinValue 10 = .ok (.aload_n 0, 1) := by decide +kernel
theorem dX9_joinValue_11 : decode cX9_joinValue 11 = .ok (.getfield 22, 3) := by decide +kernel
theorem dX9_joinValue_14 : decode cX9_joinValue 14 = .ok (.iload 7, 2) := by decide +kernel
theorem dX9_joinValue_16 : decode cX9_joinValue 16 = .ok (.iaload, 1) := by decide +kernel
theorem dX9_joinValue_17 : decode cX9_joinValue 17 = .ok (.istore 8, 2) := by decide +kernel
theorem dX9_joinValue_19 : decode cX9_joinValue 19 = .ok (.iload_n 2, 1) := by decide +kernel
theorem dX9_joinValue_20 : decode cX9_joinValue 20 = .ok (.aload_n 0, 1) := by decide +kernel
theorem dX9_joinValue_21 : decode cX9_joinValue 21 = .ok (.getfield 10, 3) := by decide +kernel
theorem dX9_joinValue_24 : decode cX9_joinValue 24 = .ok (.iload_n 3, 1) := by decide +kernel
theorem dX9_joinValue_25 : decode cX9_joinValue 25 = .ok (.iload 8, 2) := by decide +kernel
theorem dX9_joinValue_27 : decode cX9_joinValue 27 = .ok (.iadd, 1) := by decide +kernel
theorem dX9_joinValue_28 : decode cX9_joinValue 28 = .ok (.iaload, 1) := by decide +kernel
theorem dX9_joinValue_29 : decode cX9_joinValue 29 = .ok (.imul, 1) := by decide +kernel
theorem dX9_joinValue_30 : decode cX9_joinValue 30 = .ok (.istore 9, 2) := by decide +kernel
theorem dX9_joinValue_32 : decode cX9_joinValue 32 = .ok (.iload 6, 2) := by decide +kernel
theorem dX9_joinValue_34 : decode cX9_joinValue 34 = .ok (.ifCond .eq 10, 3) := by decide +kernel
theorem dX9_joinValue_37 : decode cX9_joinValue 37 = .ok (.iconst 2, 1) := by decide +kernel
theorem dX9_joinValue_38 : decode cX9_joinValue 38 = .ok (.iload 9, 2) := by decide +kernel
theorem dX9_joinValue_40 : decode cX9_joinValue 40 = .ok (.imul, 1) := by decide +kernel
theorem dX9_joinValue_41 : decode cX9_joinValue 41 = .ok (.goto 5, 3) := by decide +kernel
theorem dX9_joinValue_44 : decode cX9_joinValue 44 = .ok (.iload 9, 2) := by decide +kernel
theorem dX9_joinValue_46 : decode cX9_joinValue 46 = .ok (.istore 10, 2) := by decide +kernel
theorem dX9_joinValue_48 : decode cX9_joinValue 48 = .ok (.iload_n 1, 1) := by decide +kernel
theorem dX9_joinValue_49 : decode cX9_joinValue 49 = .ok (.iload 8, 2) := by decide +kernel
theorem dX9_joinValue_51 : decode cX9_joinValue 51 = .ok (.iadd, 1) := by decide +kernel
theorem dX9_joinValue_52 : decode cX9_joinValue 52 = .ok (.sipush (-500), 3) := by decide +kernel
theorem dX9_joinValue_55 : decode cX9_joinValue 55 = .ok (.if_icmp .lt 30, 3) := by decide +kernel
theorem dX9_joinValue_58 : decode cX9_joinValue 58 = .ok (.iload_n 1, 1) := by decide +kernel
theorem dX9_joinValue_59 : decode cX9_joinValue 59 = .ok (.iload 8, 2) := by decide +kernel
theorem dX9_joinValue_61 : decode cX9_joinValue 61 = .ok (.iadd, 1) := by decide +kernel
theorem dX9_joinValue_62 : decode cX9_joinValue 62 = .ok (.sipush 500, 3) := by decide +kernel
theorem dX9_joinValue_65 : decode cX9_joinValue 65 = .ok (.if_icmp .gt 20, 3) := by decide +kernel
theorem dX9_joinValue_68 : decode cX9_joinValue 68 = .ok (.aload_n 0, 1) := by decide +kernel
theorem dX9_joinValue_69 : decode cX9_joinValue 69 = .ok (.getfield 10, 3) := by decide +kernel
theorem dX9_joinValue_72 : decode cX9_joinValue 72 = .ok (.iload 5, 2) := by decide +kernel
theorem dX9_joinValue_74 : decode cX9_joinValue 74 = .ok (.iload_n 1, 1) := by decide +kernel
theorem dX9_joinValue_75 : decode cX9_joinValue 75 = .ok (.iadd, 1) := by decide +kernel
theorem dX9_joinValue_76 : decode cX9_joinValue 76 = .ok (.iload 8, 2) := by decide +kernel
theorem dX9_joinValue_78 : decode cX9_joinValue 78 = .ok (.iadd, 1) := by decide +kernel
theorem dX9_joinValue_79 : decode cX9_joinValue 79 = .ok (.dup2, 1) := by decide +kernel
theorem dX9_joinValue_80 : decode cX9_joinValue 80 = .ok (.iaload, 1) := by decide +kernel
theorem dX9_joinValue_81 : decode cX9_joinValue 81 = .ok (.iload 10, 2) := by decide +kernel
theorem dX9_joinValue_83 : decode cX9_joinValue 83 = .ok (.iadd, 1) := by decide +kernel
theorem dX9_joinValue_84 : decode cX9_joinValue 84 = .ok (.iastore, 1) := by decide +kernel
theorem dX9_joinValue_85 : decode cX9_joinValue 85 = .ok (.iload_n 1, 1) := by decide +kernel
theorem dX9_joinValue_86 : decode cX9_joinValue 86 = .ok (.iload 8, 2) := by decide +kernel
theorem dX9_joinValue_88 : decode cX9_joinValue 88 = .ok (.imul, 1) := by decide +kernel
theorem dX9_joinValue_89 : decode cX9_joinValue 89 = .ok (.sipush (-500), 3) := by decide +kernel
theorem dX9_joinValue_92 : decode cX9_joinValue 92 = .ok (.if_icmp .lt 30, 3) := by decide +kernel
theorem dX9_joinValue_95 : decode cX9_joinValue 95 = .ok (.iload_n 1, 1) := by decide +kernel
theorem dX9_joinValue_96 : decode cX9_joinValue 96 = .ok (.iload 8, 2) := by decide +kernel
theorem dX9_joinValue_98 : decode cX9_joinValue 98 = .ok (.imul, 1) := by decide +kernel
theorem dX9_joinValue_99 : decode cX9_joinValue 99 = .ok (.sipush 500, 3) := by decide +kernel
theorem dX9_joinValue_102 : decode cX9_joinValue 102 = .ok (.if_icmp .gt 20, 3) := by decide +kernel
theorem dX9_joinValue_105 : decode cX9_joinValue 105 = .ok (.aload_n 0, 1) := by decide +kernel
theorem dX9_joinValue_106 : decode cX9_joinValue 106 = .ok (.getfield 10, 3) := by decide +kernel
theorem dX9_joinValue_109 : decode cX9_joinValue 109 = .ok (.iload 5, 2) := by decide +kernel
theorem dX9_joinValue_111 : decode cX9_joinValue 111 = .ok (.iload_n 1, 1) := by decide +kernel
theorem dX9_joinValue_112 : decode cX9_joinValue 112 = .ok (.iload 8, 2) := by decide +kernel
theorem dX9_joinValue_114 : decode cX9_joinValue 114 = .ok (.imul, 1) := by decide +kernel
theorem dX9_joinValue_115 : decode cX9_joinValue 115 = .ok (.iadd, 1) := by decide +kernel
theorem dX9_joinValue_116 : decode cX9_joinValue 116 = .ok (.dup2, 1) := by decide +kernel
theorem dX9_joinValue_117 : decode cX9_joinValue 117 = .ok (.iaload, 1) := by decide +kernel
theorem dX9_joinValue_118 : decode cX9_joinValue 118 = .ok (.iload 10, 2) := by decide +kernel
theorem dX9_joinValue_120 : decode cX9_joinValue 120 = .ok (.iadd, 1) := by decide +kernel
theorem dX9_joinValue_121 : decode cX9_joinValue 121 = .ok (.iastore, 1) := by decide +kernel
theorem dX9_joinValue_122 : decode cX9_joinValue 122 = .ok (.iload_n 1, 1) := by decide +kernel
theorem dX9_joinValue_123 : decode cX9_joinValue 123 = .ok (.iload 8, 2) := by decide +kernel
theorem dX9_joinValue_125 : decode cX9_joinValue 125 = .ok (.isub, 1) := by decide +kernel
theorem dX9_joinValue_126 : decode cX9_joinValue 126 = .ok (.sipush (-500), 3) := by decide +kernel
theorem dX9_joinValue_129 : decode cX9_joinValue 129 = .ok (.if_icmp .lt 52, 3) := by decide +kernel
theorem dX9_joinValue_132 : decode cX9_joinValue 132 = .ok (.iload_n 1, 1) := by decide +kernel
theorem dX9_joinValue_133 : decode cX9_joinValue 133 = .ok (.iload 8, 2) := by decide +kernel
theorem dX9_joinValue_135 : decode cX9_joinValue 135 = .ok (.isub, 1) := by decide +kernel
theorem dX9_joinValue_136 : decode cX9_joinValue 136 = .ok (.sipush 500, 3) := by decide +kernel
theorem dX9_joinValue_139 : decode cX9_joinValue 139 = .ok (.if_icmp .gt 42, 3) := by decide +kernel
theorem dX9_joinValue_142 : decode cX9_joinValue 142 = .ok (.aload_n 0, 1) := by decide +kernel
theorem dX9_joinValue_143 : decode cX9_joinValue 143 = .ok (.getfield 10, 3) := by decide +kernel
theorem dX9_joinValue_146 : decode cX9_joinValue 146 = .ok (.iload 5, 2) := by decide +kernel
theorem dX9_joinValue_148 : decode cX9_joinValue 148 = .ok (.iload_n 1, 1) := by decide +kernel
theorem dX9_joinValue_149 : decode cX9_joinValue 149 = .ok (.iadd, 1) := by decide +kernel
theorem dX9_joinValue_150 : decode cX9_joinValue 150 = .ok (.iload 8, 2) := by decide +kernel
theorem dX9_joinValue_152 : decode cX9_joinValue 152 = .ok (.isub, 1) := by decide +kernel
theorem dX9_joinValue_153 : decode cX9_joinValue 153 = .ok (.dup2, 1) := by decide +kernel
theorem dX9_joinValue_154 : decode cX9_joinValue 154 = .ok (.iaload, 1) := by decide +kernel
theorem dX9_joinValue_155 : decode cX9_joinValue 155 = .ok (.iload 9, 2) := by decide +kernel
theorem dX9_joinValue_157 : decode cX9_joinValue 157 = .ok (.iadd, 1) := by decide +kernel
theorem dX9_joinValue_158 : decode cX9_joinValue 158 = .ok (.iastore, 1) := by decide +kernel
theorem dX9_joinValue_159 : decode cX9_joinValue 159 = .ok (.iload 6, 2) := by decide +kernel
theorem dX9_joinValue_161 : decode cX9_joinValue 161 = .ok (.ifCond .eq 20, 3) := by decide +kernel
theorem dX9_joinValue_164 : decode cX9_joinValue 164 = .ok (.aload_n 0, 1) := by decide +kernel
theorem dX9_joinValue_165 : decode cX9_joinValue 165 = .ok (.getfield 10, 3) := by decide +kernel
theorem dX9_joinValue_168 : decode cX9_joinValue 168 = .ok (.iload 5, 2) := by decide +kernel
theorem dX9_joinValue_170 : decode cX9_joinValue 170 = .ok (.iload 8, 2) := by decide +kernel
theorem dX9_joinValue_172 : decode cX9_joinValue 172 = .ok (.iadd, 1) := by decide +kernel
theorem dX9_joinValue_173 : decode cX9_joinValue 173 = .ok (.iload_n 1, 1) := by decide +kernel
theorem dX9_joinValue_174 : decode cX9_joinValue 174 = .ok (.isub, 1) := by decide +kernel
theorem dX9_joinValue_175 : decode cX9_joinValue 175 = .ok (.dup2, 1) := by decide +kernel
theorem dX9_joinValue_176 : decode cX9_joinValue 176 = .ok (.iaload, 1) := by decide +kernel
theorem dX9_joinValue_177 : decode cX9_joinValue 177 = .ok (.iload 9, 2) := by decide +kernel
theorem dX9_joinValue_179 : decode cX9_joinValue 179 = .ok (.iadd, 1) := by decide +kernel
theorem dX9_joinValue_180 : decode cX9_joinValue 180 = .ok (.iastore, 1) := by decide +kernel
theorem dX9_joinValue_181 : decode cX9_joinValue 181 = .ok (.iinc 7 1, 3) := by decide +kernel
theorem dX9_joinValue_184 : decode cX9_joinValue 184 = .ok (.goto (-181), 3) := by decide +kernel
theorem dX9_joinValue_187 : decode cX9_joinValue 187 = .ok (.return_, 1) := by decide +kernel
theorem dX9_countOf_0 : decode cX9_countOf 0 = .ok (.iload_n 1, 1) := by decide +kernel
theorem dX9_countOf_1 : decode cX9_countOf 1 = .ok (.iconst 0, 1) := by decide +kernel
theorem dX9_countOf_2 : decode cX9_countOf 2 = .ok (.bipush 9, 2) := by decide +kernel
theorem dX9_countOf_4 : decode cX9_countOf 4 = .ok (.invokestatic 54, 3) := by decide +kernel
theorem dX9_countOf_7 : decode cX9_countOf 7 = .ok (.ifCond .eq 29, 3) := by decide +kernel
theorem dX9_countOf_10 : decode cX9_countOf 10 = .ok (.iload_n 2, 1) := by decide +kernel
theorem dX9_countOf_11 : decode cX9_countOf 11 = .ok (.iconst 1, 1) := by decide +kernel
theorem dX9_countOf_12 : decode cX9_countOf 12 = .ok (.iconst 5, 1) := by decide +kernel
theorem dX9_countOf_13 : decode cX9_countOf 13 = .ok (.invokestatic 54, 3) := by decide +kernel
theorem dX9_countOf_16 : decode cX9_countOf 16 = .ok (.ifCond .eq 20, 3) := by decide +kernel
theorem dX9_countOf_19 : decode cX9_countOf 19 = .ok (.iload_n 3, 1) := by decide +kernel
theorem dX9_countOf_20 : decode cX9_countOf 20 = .ok (.sipush (-500), 3) := by decide +kernel
theorem dX9_countOf_23 : decode cX9_countOf 23 = .ok (.sipush 500, 3) := by decide +kernel
theorem dX9_countOf_26 : decode cX9_countOf 26 = .ok (.invokestatic 54, 3) := by decide +kernel
theorem dX9_countOf_29 : decode cX9_countOf 29 = .ok (.ifCond .eq 7, 3) := by decide +kernel
theorem dX9_countOf_32 : decode cX9_countOf 32 = .ok (.iconst 1, 1) := by decide +kernel
theorem dX9_countOf_33 : decode cX9_countOf 33 = .ok (.goto 4, 3) := by decide +kernel
theorem dX9_countOf_36 : decode cX9_countOf 36 = .ok (.iconst 0, 1) := by decide +kernel
theorem dX9_countOf_37 : decode cX9_countOf 37 = .ok (.istore 4, 2) := by decide +kernel
theorem dX9_countOf_39 : decode cX9_countOf 39 = .ok (.iload 4, 2) := by decide +kernel
theorem dX9_countOf_41 : decode cX9_countOf 41 = .ok (.ifCond .eq 17, 3) := by decide +kernel
theorem dX9_countOf_44 : decode cX9_countOf 44 = .ok (.aload_n 0, 1) := by decide +kernel
theorem dX9_countOf_45 : decode cX9_countOf 45 = .ok (.getfield 10, 3) := by decide +kernel
theorem dX9_countOf_48 : decode cX9_countOf 48 = .ok (.iload_n 1, 1) := by decide +kernel
theorem dX9_countOf_49 : decode cX9_countOf 49 = .ok (.iload_n 2, 1) := by decide +kernel
theorem dX9_countOf_50 : decode cX9_countOf 50 = .ok (.iload_n 3, 1) := by decide +kernel
theorem dX9_countOf_51 : decode cX9_countOf 51 = .ok (.invokestatic 46, 3) := by decide +kernel
theorem dX9_countOf_54 : decode cX9_countOf 54 = .ok (.iaload, 1) := by decide +kernel
theorem dX9_countOf_55 : decode cX9_countOf 55 = .ok (.goto 4, 3) := by decide +kernel
theorem dX9_countOf_58 : decode cX9_countOf 58 = .ok (.iconst 0, 1) := by decide +kernel
theorem dX9_countOf_59 : decode cX9_countOf 59 = .ok (.ireturn, 1) := by decide +kernel
theorem dX9_fewestLeaves_0 : decode cX9_fewestLeaves 0 = .ok (.iconst 1, 1) := by decide +kernel
theorem dX9_fewestLeaves_1 : decode cX9_fewestLeaves 1 = .ok (.istore 5, 2) := by decide +kernel
theorem dX9_fewestLeaves_3 : decode cX9_fewestLeaves 3 = .ok (.iload 5, 2) := by decide +kernel
theorem dX9_fewestLeaves_5 : decode cX9_fewestLeaves 5 = .ok (.iload_n 3, 1) := by decide +kernel
theorem dX9_fewestLeaves_6 : decode cX9_fewestLeaves 6 = .ok (.if_icmp .gt 32, 3) := by decide +kernel
theorem dX9_fewestLeaves_9 : decode cX9_fewestLeaves 9 = .ok (.aload_n 0, 1) := by decide +kernel
theorem dX9_fewestLeaves_10 : decode cX9_fewestLeaves 10 = .ok (.iload_n 1, 1) := by decide +kernel
theorem dX9_fewestLeaves_11 : decode cX9_fewestLeaves 11 = .ok (.iload 5, 2) := by decide +kernel
theorem dX9_fewestLeaves_13 : decode cX9_fewestLeaves 13 = .ok (.aload 4, 2) := by decide +kernel
theorem dX9_fewestLeaves_15 : decode cX9_fewestLeaves 15 = .ok (.invokevirtual 58, 3) := by decide +kernel
theorem dX9_fewestLeaves_18 : decode cX9_fewestLeaves 18 = .ok (.aload_n 0, 1) := by decide +kernel
theorem dX9_fewestLeaves_19 : decode cX9_fewestLeaves 19 = .ok (.iload_n 1, 1) := by decide +kernel
theorem dX9_fewestLeaves_20 : decode cX9_fewestLeaves 20 = .ok (.iload 5, 2) := by decide +kernel
theorem dX9_fewestLeaves_22 : decode cX9_fewestLeaves 22 = .ok (.iload_n 2, 1) := by decide +kernel
theorem dX9_fewestLeaves_23 : decode cX9_fewestLeaves 23 = .ok (.invokevirtual 62, 3) := by decide +kernel
theorem dX9_fewestLeaves_26 : decode cX9_fewestLeaves 26 = .ok (.ifCond .eq 6, 3) := by decide +kernel
theorem dX9_fewestLeaves_29 : decode cX9_fewestLeaves 29 = .ok (.iload 5, 2) := by decide +kernel
theorem dX9_fewestLeaves_31 : decode cX9_fewestLeaves 31 = .ok (.ireturn, 1) := by decide +kernel
theorem dX9_fewestLeaves_32 : decode cX9_fewestLeaves 32 = .ok (.iinc 5 1, 3) := by decide +kernel
theorem dX9_fewestLeaves_35 : decode cX9_fewestLeaves 35 = .ok (.goto (-32), 3) := by decide +kernel
theorem dX9_fewestLeaves_38 : decode cX9_fewestLeaves 38 = .ok (.iconst (-1), 1) := by decide +kernel
theorem dX9_fewestLeaves_39 : decode cX9_fewestLeaves 39 = .ok (.ireturn, 1) := by decide +kernel
theorem dX9_rarestOf_0 : decode cX9_rarestOf 0 = .ok (.sipush (-1000), 3) := by decide +kernel
theorem dX9_rarestOf_3 : decode cX9_rarestOf 3 = .ok (.istore 5, 2) := by decide +kernel
theorem dX9_rarestOf_5 : decode cX9_rarestOf 5 = .ok (.iconst 0, 1) := by decide +kernel
theorem dX9_rarestOf_6 : decode cX9_rarestOf 6 = .ok (.istore 6, 2) := by decide +kernel
theorem dX9_rarestOf_8 : decode cX9_rarestOf 8 = .ok (.iload_n 3, 1) := by decide +kernel
theorem dX9_rarestOf_9 : decode cX9_rarestOf 9 = .ok (.istore 7, 2) := by decide +kernel
theorem dX9_rarestOf_11 : decode cX9_rarestOf 11 = .ok (.iload 7, 2) := by decide +kernel
theorem dX9_rarestOf_13 : decode cX9_rarestOf 13 = .ok (.iload 4, 2) := by decide +kernel
theorem dX9_rarestOf_15 : decode cX9_rarestOf 15 = .ok (.if_icmp .gt 47, 3) := by decide +kernel
theorem dX9_rarestOf_18 : decode cX9_rarestOf 18 = .ok (.aload_n 0, 1) := by decide +kernel
theorem dX9_rarestOf_19 : decode cX9_rarestOf 19 = .ok (.iload_n 1, 1) := by decide +kernel
theorem dX9_rarestOf_20 : decode cX9_rarestOf 20 = .ok (.iload_n 2, 1) := by decide +kernel
theorem dX9_rarestOf_21 : decode cX9_rarestOf 21 = .ok (.iload 7, 2) := by decide +kernel
theorem dX9_rarestOf_23 : decode cX9_rarestOf 23 = .ok (.invokevirtual 62, 3) := by decide +kernel
theorem dX9_rarestOf_26 : decode cX9_rarestOf 26 = .ok (.istore 8, 2) := by decide +kernel
theorem dX9_rarestOf_28 : decode cX9_rarestOf 28 = .ok (.iload 8, 2) := by decide +kernel
theorem dX9_rarestOf_30 : decode cX9_rarestOf 30 = .ok (.ifCond .eq 26, 3) := by decide +kernel
theorem dX9_rarestOf_33 : decode cX9_rarestOf 33 = .ok (.iload 5, 2) := by decide +kernel
theorem dX9_rarestOf_35 : decode cX9_rarestOf 35 = .ok (.sipush (-1000), 3) := by decide +kernel
theorem dX9_rarestOf_38 : decode cX9_rarestOf 38 = .ok (.if_icmp .eq 10, 3) := by decide +kernel
theorem dX9_rarestOf_41 : decode cX9_rarestOf 41 = .ok (.iload 8, 2) := by decide +kernel
theorem dX9_rarestOf_43 : decode cX9_rarestOf 43 = .ok (.iload 6, 2) := by decide +kernel
theorem dX9_rarestOf_45 : decode cX9_rarestOf 45 = .ok (.if_icmp .ge 11, 3) := by decide +kernel
theorem dX9_rarestOf_48 : decode cX9_rarestOf 48 = .ok (.iload 7, 2) := by decide +kernel
theorem dX9_rarestOf_50 : decode cX9_rarestOf 50 = .ok (.istore 5, 2) := by decide +kernel
theorem dX9_rarestOf_52 : decode cX9_rarestOf 52 = .ok (.iload 8, 2) := by decide +kernel
theorem dX9_rarestOf_54 : decode cX9_rarestOf 54 = .ok (.istore 6, 2) := by decide +kernel
theorem dX9_rarestOf_56 : decode cX9_rarestOf 56 = .ok (.iinc 7 1, 3) := by decide +kernel
theorem dX9_rarestOf_59 : decode cX9_rarestOf 59 = .ok (.goto (-48), 3) := by decide +kernel
theorem dX9_rarestOf_62 : decode cX9_rarestOf 62 = .ok (.iload 5, 2) := by decide +kernel
theorem dX9_rarestOf_64 : decode cX9_rarestOf 64 = .ok (.ireturn, 1) := by decide +kernel
theorem dX9_longestOf_0 : decode cX9_longestOf 0 = .ok (.sipush (-1000), 3) := by decide +kernel
theorem dX9_longestOf_3 : decode cX9_longestOf 3 = .ok (.istore 6, 2) := by decide +kernel
theorem dX9_longestOf_5 : decode cX9_longestOf 5 = .ok (.iconst 0, 1) := by decide +kernel
theorem dX9_longestOf_6 : decode cX9_longestOf 6 = .ok (.istore 7, 2) := by decide +kernel
theorem dX9_longestOf_8 : decode cX9_longestOf 8 = .ok (.iload_n 3, 1) := by decide +kernel
theorem dX9_longestOf_9 : decode cX9_longestOf 9 = .ok (.istore 8, 2) := by decide +kernel
theorem dX9_longestOf_11 : decode cX9_longestOf 11 = .ok (.iload 8, 2) := by decide +kernel
theorem dX9_longestOf_13 : decode cX9_longestOf 13 = .ok (.iload 4, 2) := by decide +kernel
theorem dX9_longestOf_15 : decode cX9_longestOf 15 = .ok (.if_icmp .gt 36, 3) := by decide +kernel
theorem dX9_longestOf_18 : decode cX9_longestOf 18 = .ok (.aload_n 0, 1) := by decide +kernel
theorem dX9_longestOf_19 : decode cX9_longestOf 19 = .ok (.iload_n 1, 1) := by decide +kernel
theorem dX9_longestOf_20 : decode cX9_longestOf 20 = .ok (.iload 8, 2) := by decide +kernel
theorem dX9_longestOf_22 : decode cX9_longestOf 22 = .ok (.iload_n 2, 1) := by decide +kernel
theorem dX9_longestOf_23 : decode cX9_longestOf 23 = .ok (.aload 5, 2) := by decide +kernel
theorem dX9_longestOf_25 : decode cX9_longestOf 25 = .ok (.invokevirtual 65, 3) := by decide +kernel
theorem dX9_longestOf_28 : decode cX9_longestOf 28 = .ok (.istore 9, 2) := by decide +kernel
theorem dX9_longestOf_30 : decode cX9_longestOf 30 = .ok (.iload 9, 2) := by decide +kernel
theorem dX9_longestOf_32 : decode cX9_longestOf 32 = .ok (.iload 7, 2) := by decide +kernel
theorem dX9_longestOf_34 : decode cX9_longestOf 34 = .ok (.if_icmp .le 11, 3) := by decide +kernel
theorem dX9_longestOf_37 : decode cX9_longestOf 37 = .ok (.iload 8, 2) := by decide +kernel
theorem dX9_longestOf_39 : decode cX9_longestOf 39 = .ok (.istore 6, 2) := by decide +kernel
theorem dX9_longestOf_41 : decode cX9_longestOf 41 = .ok (.iload 9, 2) := by decide +kernel
theorem dX9_longestOf_43 : decode cX9_longestOf 43 = .ok (.istore 7, 2) := by decide +kernel
theorem dX9_longestOf_45 : decode cX9_longestOf 45 = .ok (.iinc 8 1, 3) := by decide +kernel
theorem dX9_longestOf_48 : decode cX9_longestOf 48 = .ok (.goto (-37), 3) := by decide +kernel
theorem dX9_longestOf_51 : decode cX9_longestOf 51 = .ok (.iload 6, 2) := by decide +kernel
theorem dX9_longestOf_53 : decode cX9_longestOf 53 = .ok (.ireturn, 1) := by decide +kernel
theorem dX9_signAt_0 : decode cX9_signAt 0 = .ok (.aload_n 0, 1) := by decide +kernel
theorem dX9_signAt_1 : decode cX9_signAt 1 = .ok (.iload_n 1, 1) := by decide +kernel
theorem dX9_signAt_2 : decode cX9_signAt 2 = .ok (.iload_n 2, 1) := by decide +kernel
theorem dX9_signAt_3 : decode cX9_signAt 3 = .ok (.iload_n 3, 1) := by decide +kernel
theorem dX9_signAt_4 : decode cX9_signAt 4 = .ok (.iconst 0, 1) := by decide +kernel
theorem dX9_signAt_5 : decode cX9_signAt 5 = .ok (.invokevirtual 69, 3) := by decide +kernel
theorem dX9_signAt_8 : decode cX9_signAt 8 = .ok (.pop, 1) := by decide +kernel
theorem dX9_signAt_9 : decode cX9_signAt 9 = .ok (.iload 4, 2) := by decide +kernel
theorem dX9_signAt_11 : decode cX9_signAt 11 = .ok (.ifCond .lt 23, 3) := by decide +kernel
theorem dX9_signAt_14 : decode cX9_signAt 14 = .ok (.iload 4, 2) := by decide +kernel
theorem dX9_signAt_16 : decode cX9_signAt 16 = .ok (.aload_n 0, 1) := by decide +kernel
theorem dX9_signAt_17 : decode cX9_signAt 17 = .ok (.getfield 25, 3) := by decide +kernel
theorem dX9_signAt_20 : decode cX9_signAt 20 = .ok (.arraylength, 1) := by decide +kernel
theorem dX9_signAt_21 : decode cX9_signAt 21 = .ok (.if_icmp .ge 13, 3) := by decide +kernel
theorem dX9_signAt_24 : decode cX9_signAt 24 = .ok (.aload_n 0, 1) := by decide +kernel
theorem dX9_signAt_25 : decode cX9_signAt 25 = .ok (.getfield 25, 3) := by decide +kernel
theorem dX9_signAt_28 : decode cX9_signAt 28 = .ok (.iload 4, 2) := by decide +kernel
theorem dX9_signAt_30 : decode cX9_signAt 30 = .ok (.iaload, 1) := by decide +kernel
theorem dX9_signAt_31 : decode cX9_signAt 31 = .ok (.goto 4, 3) := by decide +kernel
theorem dX9_signAt_34 : decode cX9_signAt 34 = .ok (.iconst (-1), 1) := by decide +kernel
theorem dX9_signAt_35 : decode cX9_signAt 35 = .ok (.ireturn, 1) := by decide +kernel
theorem dX9_put_0 : decode cX9_put 0 = .ok (.iload_n 1, 1) := by decide +kernel
theorem dX9_put_1 : decode cX9_put 1 = .ok (.ifCond .lt 19, 3) := by decide +kernel
theorem dX9_put_4 : decode cX9_put 4 = .ok (.iload_n 1, 1) := by decide +kernel
theorem dX9_put_5 : decode cX9_put 5 = .ok (.aload_n 0, 1) := by decide +kernel
theorem dX9_put_6 : decode cX9_put 6 = .ok (.getfield 25, 3) := by decide +kernel
theorem dX9_put_9 : decode cX9_put 9 = .ok (.arraylength, 1) := by decide +kernel
theorem dX9_put_10 : decode cX9_put 10 = .ok (.if_icmp .ge 10, 3) := by decide +kernel
theorem dX9_put_13 : decode cX9_put 13 = .ok (.aload_n 0, 1) := by decide +kernel
theorem dX9_put_14 : decode cX9_put 14 = .ok (.getfield 25, 3) := by decide +kernel
theorem dX9_put_17 : decode cX9_put 17 = .ok (.iload_n 1, 1) := by decide +kernel
theorem dX9_put_18 : decode cX9_put 18 = .ok (.iload_n 2, 1) := by decide +kernel
theorem dX9_put_19 : decode cX9_put 19 = .ok (.iastore, 1) := by decide +kernel
theorem dX9_put_20 : decode cX9_put 20 = .ok (.return_, 1) := by decide +kernel
theorem dX9_write_0 : decode cX9_write 0 = .ok (.iload_n 2, 1) := by decide +kernel
theorem dX9_write_1 : decode cX9_write 1 = .ok (.iconst 5, 1) := by decide +kernel
theorem dX9_write_2 : decode cX9_write 2 = .ok (.if_icmp .le 6, 3) := by decide +kernel
theorem dX9_write_5 : decode cX9_write 5 = .ok (.iload 4, 2) := by decide +kernel
theorem dX9_write_7 : decode cX9_write 7 = .ok (.ireturn, 1) := by decide +kernel
theorem dX9_write_8 : decode cX9_write 8 = .ok (.iload_n 2, 1) := by decide +kernel
theorem dX9_write_9 : decode cX9_write 9 = .ok (.iconst 1, 1) := by decide +kernel
theorem dX9_write_10 : decode cX9_write 10 = .ok (.if_icmp .gt 20, 3) := by decide +kernel
theorem dX9_write_13 : decode cX9_write 13 = .ok (.aload_n 0, 1) := by decide +kernel
theorem dX9_write_14 : decode cX9_write 14 = .ok (.iload 4, 2) := by decide +kernel
theorem dX9_write_16 : decode cX9_write 16 = .ok (.aload_n 0, 1) := by decide +kernel
theorem dX9_write_17 : decode cX9_write 17 = .ok (.iload_n 1, 1) := by decide +kernel
theorem dX9_write_18 : decode cX9_write 18 = .ok (.iload_n 3, 1) := by decide +kernel
theorem dX9_write_19 : decode cX9_write 19 = .ok (.invokevirtual 73, 3) := by decide +kernel
theorem dX9_write_22 : decode cX9_write 22 = .ok (.invokevirtual 77, 3) := by decide +kernel
theorem dX9_write_25 : decode cX9_write 25 = .ok (.iload 4, 2) := by decide +kernel
theorem dX9_write_27 : decode cX9_write 27 = .ok (.iconst 1, 1) := by decide +kernel
theorem dX9_write_28 : decode cX9_write 28 = .ok (.iadd, 1) := by decide +kernel
theorem dX9_write_29 : decode cX9_write 29 = .ok (.ireturn, 1) := by decide +kernel
theorem dX9_write_30 : decode cX9_write 30 = .ok (.iconst 1, 1) := by decide +kernel
theorem dX9_write_31 : decode cX9_write 31 = .ok (.istore 5, 2) := by decide +kernel
theorem dX9_write_33 : decode cX9_write 33 = .ok (.iload 5, 2) := by decide +kernel
theorem dX9_write_35 : decode cX9_write 35 = .ok (.iload_n 2, 1) := by decide +kernel
theorem dX9_write_36 : decode cX9_write 36 = .ok (.if_icmp .ge 122, 3) := by decide +kernel
theorem dX9_write_39 : decode cX9_write 39 = .ok (.iconst 0, 1) := by decide +kernel
theorem dX9_write_40 : decode cX9_write 40 = .ok (.istore 6, 2) := by decide +kernel
theorem dX9_write_42 : decode cX9_write 42 = .ok (.iload 6, 2) := by decide +kernel
theorem dX9_write_44 : decode cX9_write 44 = .ok (.iconst 3, 1) := by decide +kernel
theorem dX9_write_45 : decode cX9_write 45 = .ok (.if_icmp .ge 107, 3) := by decide +kernel
theorem dX9_write_48 : decode cX9_write 48 = .ok (.sipush (-500), 3) := by decide +kernel
theorem dX9_write_51 : decode cX9_write 51 = .ok (.istore 7, 2) := by decide +kernel
theorem dX9_write_53 : decode cX9_write 53 = .ok (.iload 7, 2) := by decide +kernel
theorem dX9_write_55 : decode cX9_write 55 = .ok (.sipush 500, 3) := by decide +kernel
theorem dX9_write_58 : decode cX9_write 58 = .ok (.if_icmp .gt 88, 3) := by decide +kernel
theorem dX9_write_61 : decode cX9_write 61 = .ok (.aload_n 0, 1) := by decide +kernel
theorem dX9_write_62 : decode cX9_write 62 = .ok (.iload_n 1, 1) := by decide +kernel
theorem dX9_write_63 : decode cX9_write 63 = .ok (.iload 5, 2) := by decide +kernel
theorem dX9_write_65 : decode cX9_write 65 = .ok (.iload 7, 2) := by decide +kernel
theorem dX9_write_67 : decode cX9_write 67 = .ok (.invokevirtual 62, 3) := by decide +kernel
theorem dX9_write_70 : decode cX9_write 70 = .ok (.ifCond .ne 9, 3) := by decide +kernel
theorem dX9_write_73 : decode cX9_write 73 = .ok (.sipush (-1000), 3) := by decide +kernel
theorem dX9_write_76 : decode cX9_write 76 = .ok (.goto 17, 3) := by decide +kernel
theorem dX9_write_79 : decode cX9_write 79 = .ok (.aload_n 0, 1) := by decide +kernel
theorem dX9_write_80 : decode cX9_write 80 = .ok (.iload 7, 2) := by decide +kernel
theorem dX9_write_82 : decode cX9_write 82 = .ok (.iload 6, 2) := by decide +kernel
theorem dX9_write_84 : decode cX9_write 84 = .ok (.iload_n 3, 1) := by decide +kernel
theorem dX9_write_85 : decode cX9_write 85 = .ok (.iload_n 1, 1) := by decide +kernel
theorem dX9_write_86 : decode cX9_write 86 = .ok (.iload_n 2, 1) := by decide +kernel
theorem dX9_write_87 : decode cX9_write 87 = .ok (.iload 5, 2) := by decide +kernel
theorem dX9_write_89 : decode cX9_write 89 = .ok (.isub, 1) := by decide +kernel
theorem dX9_write_90 : decode cX9_write 90 = .ok (.invokevirtual 80, 3) := by decide +kernel
theorem dX9_write_93 : decode cX9_write 93 = .ok (.istore 8, 2) := by decide +kernel
theorem dX9_write_95 : decode cX9_write 95 = .ok (.iload 8, 2) := by decide +kernel
theorem dX9_write_97 : decode cX9_write 97 = .ok (.sipush (-1000), 3) := by decide +kernel
theorem dX9_write_100 : decode cX9_write 100 = .ok (.if_icmp .eq 40, 3) := by decide +kernel
theorem dX9_write_103 : decode cX9_write 103 = .ok (.aload_n 0, 1) := by decide +kernel
theorem dX9_write_104 : decode cX9_write 104 = .ok (.iload 4, 2) := by decide +kernel
theorem dX9_write_106 : decode cX9_write 106 = .ok (.sipush 1000, 3) := by decide +kernel
theorem dX9_write_109 : decode cX9_write 109 = .ok (.iload 6, 2) := by decide +kernel
theorem dX9_write_111 : decode cX9_write 111 = .ok (.iadd, 1) := by decide +kernel
theorem dX9_write_112 : decode cX9_write 112 = .ok (.invokevirtual 77, 3) := by decide +kernel
theorem dX9_write_115 : decode cX9_write 115 = .ok (.aload_n 0, 1) := by decide +kernel
theorem dX9_write_116 : decode cX9_write 116 = .ok (.iload_n 1, 1) := by decide +kernel
theorem dX9_write_117 : decode cX9_write 117 = .ok (.iload_n 2, 1) := by decide +kernel
theorem dX9_write_118 : decode cX9_write 118 = .ok (.iload 5, 2) := by decide +kernel
theorem dX9_write_120 : decode cX9_write 120 = .ok (.isub, 1) := by decide +kernel
theorem dX9_write_121 : decode cX9_write 121 = .ok (.iload 8, 2) := by decide +kernel
theorem dX9_write_123 : decode cX9_write 123 = .ok (.aload_n 0, 1) := by decide +kernel
theorem dX9_write_124 : decode cX9_write 124 = .ok (.iload_n 1, 1) := by decide +kernel
theorem dX9_write_125 : decode cX9_write 125 = .ok (.iload 5, 2) := by decide +kernel
theorem dX9_write_127 : decode cX9_write 127 = .ok (.iload 7, 2) := by decide +kernel
theorem dX9_write_129 : decode cX9_write 129 = .ok (.iload 4, 2) := by decide +kernel
theorem dX9_write_131 : decode cX9_write 131 = .ok (.iconst 1, 1) := by decide +kernel
theorem dX9_write_132 : decode cX9_write 132 = .ok (.iadd, 1) := by decide +kernel
theorem dX9_write_133 : decode cX9_write 133 = .ok (.invokevirtual 69, 3) := by decide +kernel
theorem dX9_write_136 : decode cX9_write 136 = .ok (.invokevirtual 69, 3) := by decide +kernel
theorem dX9_write_139 : decode cX9_write 139 = .ok (.ireturn, 1) := by decide +kernel
theorem dX9_write_140 : decode cX9_write 140 = .ok (.iinc 7 1, 3) := by decide +kernel
theorem dX9_write_143 : decode cX9_write 143 = .ok (.goto (-90), 3) := by decide +kernel
theorem dX9_write_146 : decode cX9_write 146 = .ok (.iinc 6 1, 3) := by decide +kernel
theorem dX9_write_149 : decode cX9_write 149 = .ok (.goto (-107), 3) := by decide +kernel
theorem dX9_write_152 : decode cX9_write 152 = .ok (.iinc 5 1, 3) := by decide +kernel
theorem dX9_write_155 : decode cX9_write 155 = .ok (.goto (-122), 3) := by decide +kernel
theorem dX9_write_158 : decode cX9_write 158 = .ok (.iload 4, 2) := by decide +kernel
theorem dX9_write_160 : decode cX9_write 160 = .ok (.ireturn, 1) := by decide +kernel
theorem dX9_leafOf_0 : decode cX9_leafOf 0 = .ok (.iload_n 2, 1) := by decide +kernel
theorem dX9_leafOf_1 : decode cX9_leafOf 1 = .ok (.iconst 1, 1) := by decide +kernel
theorem dX9_leafOf_2 : decode cX9_leafOf 2 = .ok (.if_icmp .lt 10, 3) := by decide +kernel
theorem dX9_leafOf_5 : decode cX9_leafOf 5 = .ok (.iload_n 2, 1) := by decide +kernel
theorem dX9_leafOf_6 : decode cX9_leafOf 6 = .ok (.iload_n 1, 1) := by decide +kernel
theorem dX9_leafOf_7 : decode cX9_leafOf 7 = .ok (.if_icmp .gt 5, 3) := by decide +kernel
theorem dX9_leafOf_10 : decode cX9_leafOf 10 = .ok (.iload_n 2, 1) := by decide +kernel
theorem dX9_leafOf_11 : decode cX9_leafOf 11 = .ok (.ireturn, 1) := by decide +kernel
theorem dX9_leafOf_12 : decode cX9_leafOf 12 = .ok (.iconst 0, 1) := by decide +kernel
theorem dX9_leafOf_13 : decode cX9_leafOf 13 = .ok (.istore_n 3, 1) := by decide +kernel
theorem dX9_leafOf_14 : decode cX9_leafOf 14 = .ok (.iload_n 3, 1) := by decide +kernel
theorem dX9_leafOf_15 : decode cX9_leafOf 15 = .ok (.iconst 4, 1) := by decide +kernel
theorem dX9_leafOf_16 : decode cX9_leafOf 16 = .ok (.if_icmp .ge 25, 3) := by decide +kernel
theorem dX9_leafOf_19 : decode cX9_leafOf 19 = .ok (.aload_n 0, 1) := by decide +kernel
theorem dX9_leafOf_20 : decode cX9_leafOf 20 = .ok (.getfield 19, 3) := by decide +kernel
theorem dX9_leafOf_23 : decode cX9_leafOf 23 = .ok (.iload_n 3, 1) := by decide +kernel
theorem dX9_leafOf_24 : decode cX9_leafOf 24 = .ok (.iaload, 1) := by decide +kernel
theorem dX9_leafOf_25 : decode cX9_leafOf 25 = .ok (.iload_n 2, 1) := by decide +kernel
theorem dX9_leafOf_26 : decode cX9_leafOf 26 = .ok (.if_icmp .ne 9, 3) := by decide +kernel
theorem dX9_leafOf_29 : decode cX9_leafOf 29 = .ok (.sipush 2000, 3) := by decide +kernel
theorem dX9_leafOf_32 : decode cX9_leafOf 32 = .ok (.iload_n 3, 1) := by decide +kernel
theorem dX9_leafOf_33 : decode cX9_leafOf 33 = .ok (.iadd, 1) := by decide +kernel
theorem dX9_leafOf_34 : decode cX9_leafOf 34 = .ok (.ireturn, 1) := by decide +kernel
theorem dX9_leafOf_35 : decode cX9_leafOf 35 = .ok (.iinc 3 1, 3) := by decide +kernel
theorem dX9_leafOf_38 : decode cX9_leafOf 38 = .ok (.goto (-24), 3) := by decide +kernel
theorem dX9_leafOf_41 : decode cX9_leafOf 41 = .ok (.iconst (-1), 1) := by decide +kernel
theorem dX9_leafOf_42 : decode cX9_leafOf 42 = .ok (.ireturn, 1) := by decide +kernel
theorem dX9_partnerOf_0 : decode cX9_partnerOf 0 = .ok (.sipush (-1000), 3) := by decide +kernel
theorem dX9_partnerOf_3 : decode cX9_partnerOf 3 = .ok (.istore 6, 2) := by decide +kernel
theorem dX9_partnerOf_5 : decode cX9_partnerOf 5 = .ok (.iload_n 2, 1) := by decide +kernel
theorem dX9_partnerOf_6 : decode cX9_partnerOf 6 = .ok (.ifCond .ne 11, 3) := by decide +kernel
theorem dX9_partnerOf_9 : decode cX9_partnerOf 9 = .ok (.iload_n 3, 1) := by decide +kernel
theorem dX9_partnerOf_10 : decode cX9_partnerOf 10 = .ok (.iload_n 1, 1) := by decide +kernel
theorem dX9_partnerOf_11 : decode cX9_partnerOf 11 = .ok (.isub, 1) := by decide +kernel
theorem dX9_partnerOf_12 : decode cX9_partnerOf 12 = .ok (.istore 6, 2) := by decide +kernel
theorem dX9_partnerOf_14 : decode cX9_partnerOf 14 = .ok (.goto 50, 3) := by decide +kernel
theorem dX9_partnerOf_17 : decode cX9_partnerOf 17 = .ok (.iload_n 2, 1) := by decide +kernel
theorem dX9_partnerOf_18 : decode cX9_partnerOf 18 = .ok (.iconst 1, 1) := by decide +kernel
theorem dX9_partnerOf_19 : decode cX9_partnerOf 19 = .ok (.if_icmp .ne 11, 3) := by decide +kernel
theorem dX9_partnerOf_22 : decode cX9_partnerOf 22 = .ok (.iload_n 1, 1) := by decide +kernel
theorem dX9_partnerOf_23 : decode cX9_partnerOf 23 = .ok (.iload_n 3, 1) := by decide +kernel
theorem dX9_partnerOf_24 : decode cX9_partnerOf 24 = .ok (.isub, 1) := by decide +kernel
theorem dX9_partnerOf_25 : decode cX9_partnerOf 25 = .ok (.istore 6, 2) := by decide +kernel
theorem dX9_partnerOf_27 : decode cX9_partnerOf 27 = .ok (.goto 37, 3) := by decide +kernel
theorem dX9_partnerOf_30 : decode cX9_partnerOf 30 = .ok (.iload_n 1, 1) := by decide +kernel
theorem dX9_partnerOf_31 : decode cX9_partnerOf 31 = .ok (.ifCond .ne 22, 3) := by decide +kernel
theorem dX9_partnerOf_34 : decode cX9_partnerOf 34 = .ok (.iload_n 3, 1) := by decide +kernel
theorem dX9_partnerOf_35 : decode cX9_partnerOf 35 = .ok (.ifCond .ne 14, 3) := by decide +kernel
theorem dX9_partnerOf_38 : decode cX9_partnerOf 38 = .ok (.aload_n 0, 1) := by decide +kernel
theorem dX9_partnerOf_39 : decode cX9_partnerOf 39 = .ok (.iload 4, 2) := by decide +kernel
theorem dX9_partnerOf_41 : decode cX9_partnerOf 41 = .ok (.iload 5, 2) := by decide +kernel
theorem dX9_partnerOf_43 : decode cX9_partnerOf 43 = .ok (.invokevirtual 84, 3) := by decide +kernel
theorem dX9_partnerOf_46 : decode cX9_partnerOf 46 = .ok (.goto 6, 3) := by decide +kernel
theorem dX9_partnerOf_49 : decode cX9_partnerOf 49 = .ok (.sipush (-1000), 3) := by decide +kernel
theorem dX9_partnerOf_52 : decode cX9_partnerOf 52 = .ok (.ireturn, 1) := by decide +kernel
theorem dX9_partnerOf_53 : decode cX9_partnerOf 53 = .ok (.iload_n 3, 1) := by decide +kernel
theorem dX9_partnerOf_54 : decode cX9_partnerOf 54 = .ok (.iload_n 1, 1) := by decide +kernel
theorem dX9_partnerOf_55 : decode cX9_partnerOf 55 = .ok (.irem, 1) := by decide +kernel
theorem dX9_partnerOf_56 : decode cX9_partnerOf 56 = .ok (.ifCond .ne 8, 3) := by decide +kernel
theorem dX9_partnerOf_59 : decode cX9_partnerOf 59 = .ok (.iload_n 3, 1) := by decide +kernel
theorem dX9_partnerOf_60 : decode cX9_partnerOf 60 = .ok (.iload_n 1, 1) := by decide +kernel
theorem dX9_partnerOf_61 : decode cX9_partnerOf 61 = .ok (.idiv, 1) := by decide +kernel
theorem dX9_partnerOf_62 : decode cX9_partnerOf 62 = .ok (.istore 6, 2) := by decide +kernel
theorem dX9_partnerOf_64 : decode cX9_partnerOf 64 = .ok (.aload_n 0, 1) := by decide +kernel
theorem dX9_partnerOf_65 : decode cX9_partnerOf 65 = .ok (.iload 4, 2) := by decide +kernel
theorem dX9_partnerOf_67 : decode cX9_partnerOf 67 = .ok (.iload 5, 2) := by decide +kernel
theorem dX9_partnerOf_69 : decode cX9_partnerOf 69 = .ok (.iload 6, 2) := by decide +kernel
theorem dX9_partnerOf_71 : decode cX9_partnerOf 71 = .ok (.invokevirtual 62, 3) := by decide +kernel
theorem dX9_partnerOf_74 : decode cX9_partnerOf 74 = .ok (.ifCond .eq 8, 3) := by decide +kernel
theorem dX9_partnerOf_77 : decode cX9_partnerOf 77 = .ok (.iload 6, 2) := by decide +kernel
theorem dX9_partnerOf_79 : decode cX9_partnerOf 79 = .ok (.goto 6, 3) := by decide +kernel
theorem dX9_partnerOf_82 : decode cX9_partnerOf 82 = .ok (.sipush (-1000), 3) := by decide +kernel
theorem dX9_partnerOf_85 : decode cX9_partnerOf 85 = .ok (.ireturn, 1) := by decide +kernel
theorem dX9_leastOf_0 : decode cX9_leastOf 0 = .ok (.sipush (-500), 3) := by decide +kernel
theorem dX9_leastOf_3 : decode cX9_leastOf 3 = .ok (.istore_n 3, 1) := by decide +kernel
theorem dX9_leastOf_4 : decode cX9_leastOf 4 = .ok (.iload_n 3, 1) := by decide +kernel
theorem dX9_leastOf_5 : decode cX9_leastOf 5 = .ok (.sipush 500, 3) := by decide +kernel
theorem dX9_leastOf_8 : decode cX9_leastOf 8 = .ok (.if_icmp .gt 21, 3) := by decide +kernel
theorem dX9_leastOf_11 : decode cX9_leastOf 11 = .ok (.aload_n 0, 1) := by decide +kernel
theorem dX9_leastOf_12 : decode cX9_leastOf 12 = .ok (.iload_n 1, 1) := by decide +kernel
theorem dX9_leastOf_13 : decode cX9_leastOf 13 = .ok (.iload_n 2, 1) := by decide +kernel
theorem dX9_leastOf_14 : decode cX9_leastOf 14 = .ok (.iload_n 3, 1) := by decide +kernel
theorem dX9_leastOf_15 : decode cX9_leastOf 15 = .ok (.invokevirtual 62, 3) := by decide +kernel
theorem dX9_leastOf_18 : decode cX9_leastOf 18 = .ok (.ifCond .eq 5, 3) := by decide +kernel
theorem dX9_leastOf_21 : decode cX9_leastOf 21 = .ok (.iload_n 3, 1) := by decide +kernel
theorem dX9_leastOf_22 : decode cX9_leastOf 22 = .ok (.ireturn, 1) := by decide +kernel
theorem dX9_leastOf_23 : decode cX9_leastOf 23 = .ok (.iinc 3 1, 3) := by decide +kernel
theorem dX9_leastOf_26 : decode cX9_leastOf 26 = .ok (.goto (-22), 3) := by decide +kernel
theorem dX9_leastOf_29 : decode cX9_leastOf 29 = .ok (.sipush (-1000), 3) := by decide +kernel
theorem dX9_leastOf_32 : decode cX9_leastOf 32 = .ok (.ireturn, 1) := by decide +kernel
theorem dX10_init_0 : decode cX10_init 0 = .ok (.aload_n 0, 1) := by decide +kernel
theorem dX10_init_1 : decode cX10_init 1 = .ok (.invokespecial 3, 3) := by decide +kernel
theorem dX10_init_4 : decode cX10_init 4 = .ok (.aload_n 0, 1) := by decide +kernel
theorem dX10_init_5 : decode cX10_init 5 = .ok (.iconst 4, 1) := by decide +kernel
theorem dX10_init_6 : decode cX10_init 6 = .ok (.newarray .int, 2) := by decide +kernel
theorem dX10_init_8 : decode cX10_init 8 = .ok (.putfield 9, 3) := by decide +kernel
theorem dX10_init_11 : decode cX10_init 11 = .ok (.aload_n 0, 1) := by decide +kernel
theorem dX10_init_12 : decode cX10_init 12 = .ok (.bipush 8, 2) := by decide +kernel
theorem dX10_init_14 : decode cX10_init 14 = .ok (.newarray .int, 2) := by decide +kernel
theorem dX10_init_16 : decode cX10_init 16 = .ok (.putfield 15, 3) := by decide +kernel
theorem dX10_init_19 : decode cX10_init 19 = .ok (.aload_n 0, 1) := by decide +kernel
theorem dX10_init_20 : decode cX10_init 20 = .ok (.bipush 8, 2) := by decide +kernel
theorem dX10_init_22 : decode cX10_init 22 = .ok (.newarray .int, 2) := by decide +kernel
theorem dX10_init_24 : decode cX10_init 24 = .ok (.putfield 18, 3) := by decide +kernel
theorem dX10_init_27 : decode cX10_init 27 = .ok (.aload_n 0, 1) := by decide +kernel
theorem dX10_init_28 : decode cX10_init 28 = .ok (.bipush 8, 2) := by decide +kernel
theorem dX10_init_30 : decode cX10_init 30 = .ok (.newarray .int, 2) := by decide +kernel
theorem dX10_init_32 : decode cX10_init 32 = .ok (.putfield 21, 3) := by decide +kernel
theorem dX10_init_35 : decode cX10_init 35 = .ok (.aload_n 0, 1) := by decide +kernel
theorem dX10_init_36 : decode cX10_init 36 = .ok (.bipush 36, 2) := by decide +kernel
theorem dX10_init_38 : decode cX10_init 38 = .ok (.newarray .int, 2) := by decide +kernel
theorem dX10_init_40 : decode cX10_init 40 = .ok (.putfield 24, 3) := by decide +kernel
theorem dX10_init_43 : decode cX10_init 43 = .ok (.aload_n 0, 1) := by decide +kernel
theorem dX10_init_44 : decode cX10_init 44 = .ok (.bipush 64, 2) := by decide +kernel
theorem dX10_init_46 : decode cX10_init 46 = .ok (.newarray .int, 2) := by decide +kernel
theorem dX10_init_48 : decode cX10_init 48 = .ok (.putfield 27, 3) := by decide +kernel
theorem dX10_init_51 : decode cX10_init 51 = .ok (.aload_n 0, 1) := by decide +kernel
theorem dX10_init_52 : decode cX10_init 52 = .ok (.bipush 36, 2) := by decide +kernel
theorem dX10_init_54 : decode cX10_init 54 = .ok (.newarray .int, 2) := by decide +kernel
theorem dX10_init_56 : decode cX10_init 56 = .ok (.putfield 30, 3) := by decide +kernel
theorem dX10_init_59 : decode cX10_init 59 = .ok (.aload_n 0, 1) := by decide +kernel
theorem dX10_init_60 : decode cX10_init 60 = .ok (.bipush 8, 2) := by decide +kernel
theorem dX10_init_62 : decode cX10_init 62 = .ok (.newarray .int, 2) := by decide +kernel
theorem dX10_init_64 : decode cX10_init 64 = .ok (.putfield 33, 3) := by decide +kernel
theorem dX10_init_67 : decode cX10_init 67 = .ok (.aload_n 0, 1) := by decide +kernel
theorem dX10_init_68 : decode cX10_init 68 = .ok (.sipush 300, 3) := by decide +kernel
theorem dX10_init_71 : decode cX10_init 71 = .ok (.newarray .int, 2) := by decide +kernel
theorem dX10_init_73 : decode cX10_init 73 = .ok (.putfield 36, 3) := by decide +kernel
theorem dX10_init_76 : decode cX10_init 76 = .ok (.aload_n 0, 1) := by decide +kernel
theorem dX10_init_77 : decode cX10_init 77 = .ok (.invokevirtual 39, 3) := by decide +kernel
theorem dX10_init_80 : decode cX10_init 80 = .ok (.aload_n 0, 1) := by decide +kernel
theorem dX10_init_81 : decode cX10_init 81 = .ok (.invokevirtual 42, 3) := by decide +kernel
theorem dX10_init_84 : decode cX10_init 84 = .ok (.return_, 1) := by decide +kernel
theorem dX10_addPerson_0 : decode cX10_addPerson 0 = .ok (.iload_n 1, 1) := by decide +kernel
theorem dX10_addPerson_1 : decode cX10_addPerson 1 = .ok (.iconst 0, 1) := by decide +kernel
theorem dX10_addPerson_2 : decode cX10_addPerson 2 = .ok (.bipush 99, 2) := by decide +kernel
theorem dX10_addPerson_4 : decode cX10_addPerson 4 = .ok (.invokestatic 45, 3) := by decide +kernel
theorem dX10_addPerson_7 : decode cX10_addPerson 7 = .ok (.ifCond .eq 35, 3) := by decide +kernel
theorem dX10_addPerson_10 : decode cX10_addPerson 10 = .ok (.iload_n 2, 1) := by decide +kernel
theorem dX10_addPerson_11 : decode cX10_addPerson 11 = .ok (.iconst (-1), 1) := by decide +kernel
theorem dX10_addPerson_12 : decode cX10_addPerson 12 = .ok (.aload_n 0, 1) := by decide +kernel
theorem dX10_addPerson_13 : decode cX10_addPerson 13 = .ok (.getfield 49, 3) := by decide +kernel
theorem dX10_addPerson_16 : decode cX10_addPerson 16 = .ok (.iconst 1, 1) := by decide +kernel
theorem dX10_addPerson_17 : decode cX10_addPerson 17 = .ok (.isub, 1) := by decide +kernel
theorem dX10_addPerson_18 : decode cX10_addPerson 18 = .ok (.invokestatic 45, 3) := by decide +kernel
theorem dX10_addPerson_21 : decode cX10_addPerson 21 = .ok (.ifCond .eq 21, 3) := by decide +kernel
theorem dX10_addPerson_24 : decode cX10_addPerson 24 = .ok (.iload_n 3, 1) := by decide +kernel
theorem dX10_addPerson_25 : decode cX10_addPerson 25 = .ok (.iconst (-1), 1) := by decide +kernel
theorem dX10_addPerson_26 : decode cX10_addPerson 26 = .ok (.aload_n 0, 1) := by decide +kernel
theorem dX10_addPerson_27 : decode cX10_addPerson 27 = .ok (.getfield 49, 3) := by decide +kernel
theorem dX10_addPerson_30 : decode cX10_addPerson 30 = .ok (.iconst 1, 1) := by decide +kernel
theorem dX10_addPerson_31 : decode cX10_addPerson 31 = .ok (.isub, 1) := by decide +kernel
theorem dX10_addPerson_32 : decode cX10_addPerson 32 = .ok (.invokestatic 45, 3) := by decide +kernel
theorem dX10_addPerson_35 : decode cX10_addPerson 35 = .ok (.ifCond .eq 7, 3) := by decide +kernel
theorem dX10_addPerson_38 : decode cX10_addPerson 38 = .ok (.iconst 1, 1) := by decide +kernel
theorem dX10_addPerson_39 : decode cX10_addPerson 39 = .ok (.goto 4, 3) := by decide +kernel
theorem dX10_addPerson_42 : decode cX10_addPerson 42 = .ok (.iconst 0, 1) := by decide +kernel
theorem dX10_addPerson_43 : decode cX10_addPerson 43 = .ok (.istore 4, 2) := by decide +kernel
theorem dX10_addPerson_45 : decode cX10_addPerson 45 = .ok (.iload 4, 2) := by decide +kernel
theorem dX10_addPerson_47 : decode cX10_addPerson 47 = .ok (.ifCond .eq 22, 3) := by decide +kernel
theorem dX10_addPerson_50 : decode cX10_addPerson 50 = .ok (.aload_n 0, 1) := by decide +kernel
theorem dX10_addPerson_51 : decode cX10_addPerson 51 = .ok (.getfield 49, 3) := by decide +kernel
theorem dX10_addPerson_54 : decode cX10_addPerson 54 = .ok (.bipush 8, 2) := by decide +kernel
theorem dX10_addPerson_56 : decode cX10_addPerson 56 = .ok (.if_icmp .ge 13, 3) := by decide +kernel
theorem dX10_addPerson_59 : decode cX10_addPerson 59 = .ok (.iload_n 2, 1) := by decide +kernel
theorem dX10_addPerson_60 : decode cX10_addPerson 60 = .ok (.iload_n 3, 1) := by decide +kernel
theorem dX10_addPerson_61 : decode cX10_addPerson 61 = .ok (.if_icmp .ne 10, 3) := by decide +kernel
theorem dX10_addPerson_64 : decode cX10_addPerson 64 = .ok (.iload_n 2, 1) := by decide +kernel
theorem dX10_addPerson_65 : decode cX10_addPerson 65 = .ok (.iconst (-1), 1) := by decide +kernel
theorem dX10_addPerson_66 : decode cX10_addPerson 66 = .ok (.if_icmp .eq 5, 3) := by decide +kernel
theorem dX10_addPerson_69 : decode cX10_addPerson 69 = .ok (.iconst (-1), 1) := by decide +kernel
theorem dX10_addPerson_70 : decode cX10_addPerson 70 = .ok (.ireturn, 1) := by decide +kernel
theorem dX10_addPerson_71 : decode cX10_addPerson 71 = .ok (.aload_n 0, 1) := by decide +kernel
theorem dX10_addPerson_72 : decode cX10_addPerson 72 = .ok (.getfield 15, 3) := by decide +kernel
theorem dX10_addPerson_75 : decode cX10_addPerson 75 = .ok (.aload_n 0, 1) := by decide +kernel
theorem dX10_addPerson_76 : decode cX10_addPerson 76 = .ok (.getfield 49, 3) := by decide +kernel
theorem dX10_addPerson_79 : decode cX10_addPerson 79 = .ok (.iload_n 1, 1) := by decide +kernel
theorem dX10_addPerson_80 : decode cX10_addPerson 80 = .ok (.iastore, 1) := by decide +kernel
theorem dX10_addPerson_81 : decode cX10_addPerson 81 = .ok (.aload_n 0, 1) := by decide +kernel
theorem dX10_addPerson_82 : decode cX10_addPerson 82 = .ok (.getfield 18, 3) := by decide +kernel
theorem dX10_addPerson_85 : decode cX10_addPerson 85 = .ok (.aload_n 0, 1) := by decide +kernel
theorem dX10_addPerson_86 : decode cX10_addPerson 86 = .ok (.getfield 49, 3) := by decide +kernel
theorem dX10_addPerson_89 : decode cX10_addPerson 89 = .ok (.iload_n 2, 1) := by decide +kernel
theorem dX10_addPerson_90 : decode cX10_addPerson 90 = .ok (.iastore, 1) := by decide +kernel
theorem dX10_addPerson_91 : decode cX10_addPerson 91 = .ok (.aload_n 0, 1) := by decide +kernel
theorem dX10_addPerson_92 : decode cX10_addPerson 92 = .ok (.getfield 21, 3) := by decide +kernel
theorem dX10_addPerson_95 : decode cX10_addPerson 95 = .ok (.aload_n 0, 1) := by decide +kernel
theorem dX10_addPerson_96 : decode cX10_addPerson 96 = .ok (.getfield 49, 3) := by decide +kernel
theorem dX10_addPerson_99 : decode cX10_addPerson 99 = .ok (.iload_n 3, 1) := by decide +kernel
theorem dX10_addPerson_100 : decode cX10_addPerson 100 = .ok (.iastore, 1) := by decide +kernel
theorem dX10_addPerson_101 : decode cX10_addPerson 101 = .ok (.aload_n 0, 1) := by decide +kernel
theorem dX10_addPerson_102 : decode cX10_addPerson 102 = .ok (.dup, 1) := by decide +kernel
theorem dX10_addPerson_103 : decode cX10_addPerson 103 = .ok (.getfield 49, 3) := by decide +kernel
theorem dX10_addPerson_106 : decode cX10_addPerson 106 = .ok (.iconst 1, 1) := by decide +kernel
theorem dX10_addPerson_107 : decode cX10_addPerson 107 = .ok (.iadd, 1) := by decide +kernel
theorem dX10_addPerson_108 : decode cX10_addPerson 108 = .ok (.putfield 49, 3) := by decide +kernel
theorem dX10_addPerson_111 : decode cX10_addPerson 111 = .ok (.aload_n 0, 1) := by decide +kernel
theorem dX10_addPerson_112 : decode cX10_addPerson 112 = .ok (.invokevirtual 39, 3) := by decide +kernel
theorem dX10_addPerson_115 : decode cX10_addPerson 115 = .ok (.aload_n 0, 1) := by decide +kernel
theorem dX10_addPerson_116 : decode cX10_addPerson 116 = .ok (.getfield 49, 3) := by decide +kernel
theorem dX10_addPerson_119 : decode cX10_addPerson 119 = .ok (.iconst 1, 1) := by decide +kernel
theorem dX10_addPerson_120 : decode cX10_addPerson 120 = .ok (.isub, 1) := by decide +kernel
theorem dX10_addPerson_121 : decode cX10_addPerson 121 = .ok (.ireturn, 1) := by decide +kernel
theorem dX10_layRoad_0 : decode cX10_layRoad 0 = .ok (.iload_n 1, 1) := by decide +kernel
theorem dX10_layRoad_1 : decode cX10_layRoad 1 = .ok (.iconst 0, 1) := by decide +kernel
theorem dX10_layRoad_2 : decode cX10_layRoad 2 = .ok (.iconst 5, 1) := by decide +kernel
theorem dX10_layRoad_3 : decode cX10_layRoad 3 = .ok (.invokestatic 45, 3) := by decide +kernel
theorem dX10_layRoad_6 : decode cX10_layRoad 6 = .ok (.ifCond .eq 26, 3) := by decide +kernel
theorem dX10_layRoad_9 : decode cX10_layRoad 9 = .ok (.iload_n 2, 1) := by decide +kernel
theorem dX10_layRoad_10 : decode cX10_layRoad 10 = .ok (.iconst 0, 1) := by decide +kernel
theorem dX10_layRoad_11 : decode cX10_layRoad 11 = .ok (.iconst 5, 1) := by decide +kernel
theorem dX10_layRoad_12 : decode cX10_layRoad 12 = .ok (.invokestatic 45, 3) := by decide +kernel
theorem dX10_layRoad_15 : decode cX10_layRoad 15 = .ok (.ifCond .eq 17, 3) := by decide +kernel
theorem dX10_layRoad_18 : decode cX10_layRoad 18 = .ok (.iload_n 3, 1) := by decide +kernel
theorem dX10_layRoad_19 : decode cX10_layRoad 19 = .ok (.iconst 1, 1) := by decide +kernel
theorem dX10_layRoad_20 : decode cX10_layRoad 20 = .ok (.bipush 99, 2) := by decide +kernel
theorem dX10_layRoad_22 : decode cX10_layRoad 22 = .ok (.invokestatic 45, 3) := by decide +kernel
theorem dX10_layRoad_25 : decode cX10_layRoad 25 = .ok (.ifCond .eq 7, 3) := by decide +kernel
theorem dX10_layRoad_28 : decode cX10_layRoad 28 = .ok (.iconst 1, 1) := by decide +kernel
theorem dX10_layRoad_29 : decode cX10_layRoad 29 = .ok (.goto 4, 3) := by decide +kernel
theorem dX10_layRoad_32 : decode cX10_layRoad 32 = .ok (.iconst 0, 1) := by decide +kernel
theorem dX10_layRoad_33 : decode cX10_layRoad 33 = .ok (.istore 4, 2) := by decide +kernel
theorem dX10_layRoad_35 : decode cX10_layRoad 35 = .ok (.iload 4, 2) := by decide +kernel
theorem dX10_layRoad_37 : decode cX10_layRoad 37 = .ok (.ifCond .eq 8, 3) := by decide +kernel
theorem dX10_layRoad_40 : decode cX10_layRoad 40 = .ok (.iload_n 1, 1) := by decide +kernel
theorem dX10_layRoad_41 : decode cX10_layRoad 41 = .ok (.iload_n 2, 1) := by decide +kernel
theorem dX10_layRoad_42 : decode cX10_layRoad 42 = .ok (.if_icmp .ne 5, 3) := by decide +kernel
theorem dX10_layRoad_45 : decode cX10_layRoad 45 = .ok (.iconst 0, 1) := by decide +kernel
theorem dX10_layRoad_46 : decode cX10_layRoad 46 = .ok (.ireturn, 1) := by decide +kernel
theorem dX10_layRoad_47 : decode cX10_layRoad 47 = .ok (.aload_n 0, 1) := by decide +kernel
theorem dX10_layRoad_48 : decode cX10_layRoad 48 = .ok (.getfield 24, 3) := by decide +kernel
theorem dX10_layRoad_51 : decode cX10_layRoad 51 = .ok (.iload_n 1, 1) := by decide +kernel
theorem dX10_layRoad_52 : decode cX10_layRoad 52 = .ok (.bipush 6, 2) := by decide +kernel
theorem dX10_layRoad_54 : decode cX10_layRoad 54 = .ok (.imul, 1) := by decide +kernel
theorem dX10_layRoad_55 : decode cX10_layRoad 55 = .ok (.iload_n 2, 1) := by decide +kernel
theorem dX10_layRoad_56 : decode cX10_layRoad 56 = .ok (.iadd, 1) := by decide +kernel
theorem dX10_layRoad_57 : decode cX10_layRoad 57 = .ok (.iload_n 3, 1) := by decide +kernel
theorem dX10_layRoad_58 : decode cX10_layRoad 58 = .ok (.iastore, 1) := by decide +kernel
theorem dX10_layRoad_59 : decode cX10_layRoad 59 = .ok (.aload_n 0, 1) := by decide +kernel
theorem dX10_layRoad_60 : decode cX10_layRoad 60 = .ok (.getfield 24, 3) := by decide +kernel
theorem dX10_layRoad_63 : decode cX10_layRoad 63 = .ok (.iload_n 2, 1) := by decide +kernel
theorem dX10_layRoad_64 : decode cX10_layRoad 64 = .ok (.bipush 6, 2) := by decide +kernel
theorem dX10_layRoad_66 : decode cX10_layRoad 66 = .ok (.imul, 1) := by decide +kernel
theorem dX10_layRoad_67 : decode cX10_layRoad 67 = .ok (.iload_n 1, 1) := by decide +kernel
theorem dX10_layRoad_68 : decode cX10_layRoad 68 = .ok (.iadd, 1) := by decide +kernel
theorem dX10_layRoad_69 : decode cX10_layRoad 69 = .ok (.iload_n 3, 1) := by decide +kernel
theorem dX10_layRoad_70 : decode cX10_layRoad 70 = .ok (.iastore, 1) := by decide +kernel
theorem dX10_layRoad_71 : decode cX10_layRoad 71 = .ok (.aload_n 0, 1) := by decide +kernel
theorem dX10_layRoad_72 : decode cX10_layRoad 72 = .ok (.invokevirtual 42, 3) := by decide +kernel
theorem dX10_layRoad_75 : decode cX10_layRoad 75 = .ok (.iconst 1, 1) := by decide +kernel
theorem dX10_layRoad_76 : decode cX10_layRoad 76 = .ok (.ireturn, 1) := by decide +kernel
theorem dX10_kinOf_0 : decode cX10_kinOf 0 = .ok (.iload_n 1, 1) := by decide +kernel
theorem dX10_kinOf_1 : decode cX10_kinOf 1 = .ok (.iconst 0, 1) := by decide +kernel
theorem dX10_kinOf_2 : decode cX10_kinOf 2 = .ok (.aload_n 0, 1) := by decide +kernel
theorem dX10_kinOf_3 : decode cX10_kinOf 3 = .ok (.getfield 49, 3) := by decide +kernel
theorem dX10_kinOf_6 : decode cX10_kinOf 6 = .ok (.iconst 1, 1) := by decide +kernel
theorem dX10_kinOf_7 : decode cX10_kinOf 7 = .ok (.isub, 1) := by decide +kernel
theorem dX10_kinOf_8 : decode cX10_kinOf 8 = .ok (.invokestatic 45, 3) := by decide +kernel
theorem dX10_kinOf_11 : decode cX10_kinOf 11 = .ok (.ifCond .eq 21, 3) := by decide +kernel
theorem dX10_kinOf_14 : decode cX10_kinOf 14 = .ok (.iload_n 2, 1) := by decide +kernel
theorem dX10_kinOf_15 : decode cX10_kinOf 15 = .ok (.iconst 0, 1) := by decide +kernel
theorem dX10_kinOf_16 : decode cX10_kinOf 16 = .ok (.aload_n 0, 1) := by decide +kernel
theorem dX10_kinOf_17 : decode cX10_kinOf 17 = .ok (.getfield 49, 3) := by decide +kernel
theorem dX10_kinOf_20 : decode cX10_kinOf 20 = .ok (.iconst 1, 1) := by decide +kernel
theorem dX10_kinOf_21 : decode cX10_kinOf 21 = .ok (.isub, 1) := by decide +kernel
theorem dX10_kinOf_22 : decode cX10_kinOf 22 = .ok (.invokestatic 45, 3) := by decide +kernel
theorem dX10_kinOf_25 : decode cX10_kinOf 25 = .ok (.ifCond .eq 7, 3) := by decide +kernel
theorem dX10_kinOf_28 : decode cX10_kinOf 28 = .ok (.iconst 1, 1) := by decide +kernel
theorem dX10_kinOf_29 : decode cX10_kinOf 29 = .ok (.goto 4, 3) := by decide +kernel
theorem dX10_kinOf_32 : decode cX10_kinOf 32 = .ok (.iconst 0, 1) := by decide +kernel
theorem dX10_kinOf_33 : decode cX10_kinOf 33 = .ok (.istore_n 3, 1) := by decide +kernel
theorem dX10_kinOf_34 : decode cX10_kinOf 34 = .ok (.iload_n 3, 1) := by decide +kernel
theorem dX10_kinOf_35 : decode cX10_kinOf 35 = .ok (.ifCond .eq 17, 3) := by decide +kernel
theorem dX10_kinOf_38 : decode cX10_kinOf 38 = .ok (.aload_n 0, 1) := by decide +kernel
theorem dX10_kinOf_39 : decode cX10_kinOf 39 = .ok (.getfield 27, 3) := by decide +kernel
theorem dX10_kinOf_42 : decode cX10_kinOf 42 = .ok (.iload_n 1, 1) := by decide +kernel
theorem dX10_kinOf_43 : decode cX10_kinOf 43 = .ok (.bipush 8, 2) := by decide +kernel
theorem dX10_kinOf_45 : decode cX10_kinOf 45 = .ok (.imul, 1) := by decide +kernel
theorem dX10_kinOf_46 : decode cX10_kinOf 46 = .ok (.iload_n 2, 1) := by decide +kernel
theorem dX10_kinOf_47 : decode cX10_kinOf 47 = .ok (.iadd, 1) := by decide +kernel
theorem dX10_kinOf_48 : decode cX10_kinOf 48 = .ok (.iaload, 1) := by decide +kernel
theorem dX10_kinOf_49 : decode cX10_kinOf 49 = .ok (.goto 4, 3) := by decide +kernel
theorem dX10_kinOf_52 : decode cX10_kinOf 52 = .ok (.iconst (-1), 1) := by decide +kernel
theorem dX10_kinOf_53 : decode cX10_kinOf 53 = .ok (.ireturn, 1) := by decide +kernel
theorem dX10_wayOf_0 : decode cX10_wayOf 0 = .ok (.iload_n 1, 1) := by decide +kernel
theorem dX10_wayOf_1 : decode cX10_wayOf 1 = .ok (.iconst 0, 1) := by decide +kernel
theorem dX10_wayOf_2 : decode cX10_wayOf 2 = .ok (.iconst 5, 1) := by decide +kernel
theorem dX10_wayOf_3 : decode cX10_wayOf 3 = .ok (.invokestatic 45, 3) := by decide +kernel
theorem dX10_wayOf_6 : decode cX10_wayOf 6 = .ok (.ifCond .eq 16, 3) := by decide +kernel
theorem dX10_wayOf_9 : decode cX10_wayOf 9 = .ok (.iload_n 2, 1) := by decide +kernel
theorem dX10_wayOf_10 : decode cX10_wayOf 10 = .ok (.iconst 0, 1) := by decide +kernel
theorem dX10_wayOf_11 : decode cX10_wayOf 11 = .ok (.iconst 5, 1) := by decide +kernel
theorem dX10_wayOf_12 : decode cX10_wayOf 12 = .ok (.invokestatic 45, 3) := by decide +kernel
theorem dX10_wayOf_15 : decode cX10_wayOf 15 = .ok (.ifCond .eq 7, 3) := by decide +kernel
theorem dX10_wayOf_18 : decode cX10_wayOf 18 = .ok (.iconst 1, 1) := by decide +kernel
theorem dX10_wayOf_19 : decode cX10_wayOf 19 = .ok (.goto 4, 3) := by decide +kernel
theorem dX10_wayOf_22 : decode cX10_wayOf 22 = .ok (.iconst 0, 1) := by decide +kernel
theorem dX10_wayOf_23 : decode cX10_wayOf 23 = .ok (.istore_n 3, 1) := by decide +kernel
theorem dX10_wayOf_24 : decode cX10_wayOf 24 = .ok (.iload_n 3, 1) := by decide +kernel
theorem dX10_wayOf_25 : decode cX10_wayOf 25 = .ok (.ifCond .eq 17, 3) := by decide +kernel
theorem dX10_wayOf_28 : decode cX10_wayOf 28 = .ok (.aload_n 0, 1) := by decide +kernel
theorem dX10_wayOf_29 : decode cX10_wayOf 29 = .ok (.getfield 30, 3) := by decide +kernel
theorem dX10_wayOf_32 : decode cX10_wayOf 32 = .ok (.iload_n 1, 1) := by decide +kernel
theorem dX10_wayOf_33 : decode cX10_wayOf 33 = .ok (.bipush 6, 2) := by decide +kernel
theorem dX10_wayOf_35 : decode cX10_wayOf 35 = .ok (.imul, 1) := by decide +kernel
theorem dX10_wayOf_36 : decode cX10_wayOf 36 = .ok (.iload_n 2, 1) := by decide +kernel
theorem dX10_wayOf_37 : decode cX10_wayOf 37 = .ok (.iadd, 1) := by decide +kernel
theorem dX10_wayOf_38 : decode cX10_wayOf 38 = .ok (.iaload, 1) := by decide +kernel
theorem dX10_wayOf_39 : decode cX10_wayOf 39 = .ok (.goto 4, 3) := by decide +kernel
theorem dX10_wayOf_42 : decode cX10_wayOf 42 = .ok (.iconst (-1), 1) := by decide +kernel
theorem dX10_wayOf_43 : decode cX10_wayOf 43 = .ok (.ireturn, 1) := by decide +kernel
theorem dX10_measureKin_0 : decode cX10_measureKin 0 = .ok (.aload_n 0, 1) := by decide +kernel
theorem dX10_measureKin_1 : decode cX10_measureKin 1 = .ok (.getfield 27, 3) := by decide +kernel
theorem dX10_measureKin_4 : decode cX10_measureKin 4 = .ok (.iconst (-1), 1) := by decide +kernel
theorem dX10_measureKin_5 : decode cX10_measureKin 5 = .ok (.invokestatic 53, 3) := by decide +kernel
theorem dX10_measureKin_8 : decode cX10_measureKin 8 = .ok (.aload_n 0, 1) := by decide +kernel
theorem dX10_measureKin_9 : decode cX10_measureKin 9 = .ok (.getfield 33, 3) := by decide +kernel
theorem dX10_measureKin_12 : decode cX10_measureKin 12 = .ok (.iconst 0, 1) := by decide +kernel
theorem dX10_measureKin_13 : decode cX10_measureKin 13 = .ok (.invokestatic 53, 3) := by decide +kernel
theorem dX10_measureKin_16 : decode cX10_measureKin 16 = .ok (.iconst 0, 1) := by decide +kernel
theorem dX10_measureKin_17 : decode cX10_measureKin 17 = .ok (.istore_n 1, 1) := by decide +kernel
theorem dX10_measureKin_18 : decode cX10_measureKin 18 = .ok (.iload_n 1, 1) := by decide +kernel
theorem dX10_measureKin_19 : decode cX10_measureKin 19 = .ok (.aload_n 0, 1) := by decide +kernel
theorem dX10_measureKin_20 : decode cX10_measureKin 20 = .ok (.getfield 49, 3) := by decide +kernel
theorem dX10_measureKin_23 : decode cX10_measureKin 23 = .ok (.if_icmp .ge 31, 3) := by decide +kernel
theorem dX10_measureKin_26 : decode cX10_measureKin 26 = .ok (.aload_n 0, 1) := by decide +kernel
theorem dX10_measureKin_27 : decode cX10_measureKin 27 = .ok (.iload_n 1, 1) := by decide +kernel
theorem dX10_measureKin_28 : decode cX10_measureKin 28 = .ok (.aload_n 0, 1) := by decide +kernel
theorem dX10_measureKin_29 : decode cX10_measureKin 29 = .ok (.getfield 18, 3) := by decide +kernel
theorem dX10_measureKin_32 : decode cX10_measureKin 32 = .ok (.iload_n 1, 1) := by decide +kernel
theorem dX10_measureKin_33 : decode cX10_measureKin 33 = .ok (.iaload, 1) := by decide +kernel
theorem dX10_measureKin_34 : decode cX10_measureKin 34 = .ok (.invokevirtual 59, 3) := by decide +kernel
theorem dX10_measureKin_37 : decode cX10_measureKin 37 = .ok (.aload_n 0, 1) := by decide +kernel
theorem dX10_measureKin_38 : decode cX10_measureKin 38 = .ok (.iload_n 1, 1) := by decide +kernel
theorem dX10_measureKin_39 : decode cX10_measureKin 39 = .ok (.aload_n 0, 1) := by decide +kernel
theorem dX10_measureKin_40 : decode cX10_measureKin 40 = .ok (.getfield 21, 3) := by decide +kernel
theorem dX10_measureKin_43 : decode cX10_measureKin 43 = .ok (.iload_n 1, 1) := by decide +kernel
theorem dX10_measureKin_44 : decode cX10_measureKin 44 = .ok (.iaload, 1) := by decide +kernel
theorem dX10_measureKin_45 : decode cX10_measureKin 45 = .ok (.invokevirtual 59, 3) := by decide +kernel
theorem dX10_measureKin_48 : decode cX10_measureKin 48 = .ok (.iinc 1 1, 3) := by decide +kernel
theorem dX10_measureKin_51 : decode cX10_measureKin 51 = .ok (.goto (-33), 3) := by decide +kernel
theorem dX10_measureKin_54 : decode cX10_measureKin 54 = .ok (.aload_n 0, 1) := by decide +kernel
theorem dX10_measureKin_55 : decode cX10_measureKin 55 = .ok (.getfield 27, 3) := by decide +kernel
theorem dX10_measureKin_58 : decode cX10_measureKin 58 = .ok (.bipush 8, 2) := by decide +kernel
theorem dX10_measureKin_60 : decode cX10_measureKin 60 = .ok (.invokestatic 63, 3) := by decide +kernel
theorem dX10_measureKin_63 : decode cX10_measureKin 63 = .ok (.aload_n 0, 1) := by decide +kernel
theorem dX10_measureKin_64 : decode cX10_measureKin 64 = .ok (.dup, 1) := by decide +kernel
theorem dX10_measureKin_65 : decode cX10_measureKin 65 = .ok (.getfield 66, 3) := by decide +kernel
theorem dX10_measureKin_68 : decode cX10_measureKin 68 = .ok (.iconst 1, 1) := by decide +kernel
theorem dX10_measureKin_69 : decode cX10_measureKin 69 = .ok (.iadd, 1) := by decide +kernel
theorem dX10_measureKin_70 : decode cX10_measureKin 70 = .ok (.putfield 66, 3) := by decide +kernel
theorem dX10_measureKin_73 : decode cX10_measureKin 73 = .ok (.return_, 1) := by decide +kernel
theorem dX10_joinParent_0 : decode cX10_joinParent 0 = .ok (.iload_n 2, 1) := by decide +kernel
theorem dX10_joinParent_1 : decode cX10_joinParent 1 = .ok (.iconst 0, 1) := by decide +kernel
theorem dX10_joinParent_2 : decode cX10_joinParent 2 = .ok (.aload_n 0, 1) := by decide +kernel
theorem dX10_joinParent_3 : decode cX10_joinParent 3 = .ok (.getfield 49, 3) := by decide +kernel
theorem dX10_joinParent_6 : decode cX10_joinParent 6 = .ok (.iconst 1, 1) := by decide +kernel
theorem dX10_joinParent_7 : decode cX10_joinParent 7 = .ok (.isub, 1) := by decide +kernel
theorem dX10_joinParent_8 : decode cX10_joinParent 8 = .ok (.invokestatic 45, 3) := by decide +kernel
theorem dX10_joinParent_11 : decode cX10_joinParent 11 = .ok (.ifCond .eq 37, 3) := by decide +kernel
theorem dX10_joinParent_14 : decode cX10_joinParent 14 = .ok (.aload_n 0, 1) := by decide +kernel
theorem dX10_joinParent_15 : decode cX10_joinParent 15 = .ok (.getfield 27, 3) := by decide +kernel
theorem dX10_joinParent_18 : decode cX10_joinParent 18 = .ok (.iload_n 1, 1) := by decide +kernel
theorem dX10_joinParent_19 : decode cX10_joinParent 19 = .ok (.bipush 8, 2) := by decide +kernel
theorem dX10_joinParent_21 : decode cX10_joinParent 21 = .ok (.imul, 1) := by decide +kernel
theorem dX10_joinParent_22 : decode cX10_joinParent 22 = .ok (.iload_n 2, 1) := by decide +kernel
theorem dX10_joinParent_23 : decode cX10_joinParent 23 = .ok (.iadd, 1) := by decide +kernel
theorem dX10_joinParent_24 : decode cX10_joinParent 24 = .ok (.iconst 1, 1) := by decide +kernel
theorem dX10_joinParent_25 : decode cX10_joinParent 25 = .ok (.iastore, 1) := by decide +kernel
theorem dX10_joinParent_26 : decode cX10_joinParent 26 = .ok (.aload_n 0, 1) := by decide +kernel
theorem dX10_joinParent_27 : decode cX10_joinParent 27 = .ok (.getfield 27, 3) := by decide +kernel
theorem dX10_joinParent_30 : decode cX10_joinParent 30 = .ok (.iload_n 2, 1) := by decide +kernel
theorem dX10_joinParent_31 : decode cX10_joinParent 31 = .ok (.bipush 8, 2) := by decide +kernel
theorem dX10_joinParent_33 : decode cX10_joinParent 33 = .ok (.imul, 1) := by decide +kernel
theorem dX10_joinParent_34 : decode cX10_joinParent 34 = .ok (.iload_n 1, 1) := by decide +kernel
theorem dX10_joinParent_35 : decode cX10_joinParent 35 = .ok (.iadd, 1) := by decide +kernel
theorem dX10_joinParent_36 : decode cX10_joinParent 36 = .ok (.iconst 1, 1) := by decide +kernel
theorem dX10_joinParent_37 : decode cX10_joinParent 37 = .ok (.iastore, 1) := by decide +kernel
theorem dX10_joinParent_38 : decode cX10_joinParent 38 = .ok (.aload_n 0, 1) := by decide +kernel
theorem dX10_joinParent_39 : decode cX10_joinParent 39 = .ok (.getfield 33, 3) := by decide +kernel
theorem dX10_joinParent_42 : decode cX10_joinParent 42 = .ok (.iload_n 2, 1) := by decide +kernel
theorem dX10_joinParent_43 : decode cX10_joinParent 43 = .ok (.dup2, 1) := by decide +kernel
theorem dX10_joinParent_44 : decode cX10_joinParent 44 = .ok (.iaload, 1) := by decide +kernel
theorem dX10_joinParent_45 : decode cX10_joinParent 45 = .ok (.iconst 1, 1) := by decide +kernel
theorem dX10_joinParent_46 : decode cX10_joinParent 46 = .ok (.iadd, 1) := by decide +kernel
theorem dX10_joinParent_47 : decode cX10_joinParent 47 = .ok (.iastore, 1) := by decide +kernel
theorem dX10_joinParent_48 : decode cX10_joinParent 48 = .ok (.return_, 1) := by decide +kernel
theorem dX10_measureWays_0 : decode cX10_measureWays 0 = .ok (.iconst 0, 1) := by decide +kernel
theorem dX10_measureWays_1 : decode cX10_measureWays 1 = .ok (.istore_n 1, 1) := by decide +kernel
theorem dX10_measureWays_2 : decode cX10_measureWays 2 = .ok (.iload_n 1, 1) := by decide +kernel
theorem dX10_measureWays_3 : decode cX10_measureWays 3 = .ok (.bipush 36, 2) := by decide +kernel
theorem dX10_measureWays_5 : decode cX10_measureWays 5 = .ok (.if_icmp .ge 34, 3) := by decide +kernel
theorem dX10_measureWays_8 : decode cX10_measureWays 8 = .ok (.aload_n 0, 1) := by decide +kernel
theorem dX10_measureWays_9 : decode cX10_measureWays 9 = .ok (.getfield 30, 3) := by decide +kernel
theorem dX10_measureWays_12 : decode cX10_measureWays 12 = .ok (.iload_n 1, 1) := by decide +kernel
theorem dX10_measureWays_13 : decode cX10_measureWays 13 = .ok (.aload_n 0, 1) := by decide +kernel
theorem dX10_measureWays_14 : decode cX10_measureWays 14 = .ok (.getfield 24, 3) := by decide +kernel
theorem dX10_measureWays_17 : decode cX10_measureWays 17 = .ok (.iload_n 1, 1) := by decide +kernel
theorem dX10_measureWays_18 : decode cX10_measureWays 18 = .ok (.iaload, 1) := by decide +kernel
theorem dX10_measureWays_19 : decode cX10_measureWays 19 = .ok (.ifCond .le 12, 3) := by decide +kernel
theorem dX10_measureWays_22 : decode cX10_measureWays 22 = .ok (.aload_n 0, 1) := by decide +kernel
theorem dX10_measureWays_23 : decode cX10_measureWays 23 = .ok (.getfield 24, 3) := by decide +kernel
theorem dX10_measureWays_26 : decode cX10_measureWays 26 = .ok (.iload_n 1, 1) := by decide +kernel
theorem dX10_measureWays_27 : decode cX10_measureWays 27 = .ok (.iaload, 1) := by decide +kernel
theorem dX10_measureWays_28 : decode cX10_measureWays 28 = .ok (.goto 4, 3) := by decide +kernel
theorem dX10_measureWays_31 : decode cX10_measureWays 31 = .ok (.iconst (-1), 1) := by decide +kernel
theorem dX10_measureWays_32 : decode cX10_measureWays 32 = .ok (.iastore, 1) := by decide +kernel
theorem dX10_measureWays_33 : decode cX10_measureWays 33 = .ok (.iinc 1 1, 3) := by decide +kernel
theorem dX10_measureWays_36 : decode cX10_measureWays 36 = .ok (.goto (-34), 3) := by decide +kernel
theorem dX10_measureWays_39 : decode cX10_measureWays 39 = .ok (.aload_n 0, 1) := by decide +kernel
theorem dX10_measureWays_40 : decode cX10_measureWays 40 = .ok (.getfield 30, 3) := by decide +kernel
theorem dX10_measureWays_43 : decode cX10_measureWays 43 = .ok (.bipush 6, 2) := by decide +kernel
theorem dX10_measureWays_45 : decode cX10_measureWays 45 = .ok (.invokestatic 63, 3) := by decide +kernel
theorem dX10_measureWays_48 : decode cX10_measureWays 48 = .ok (.aload_n 0, 1) := by decide +kernel
theorem dX10_measureWays_49 : decode cX10_measureWays 49 = .ok (.dup, 1) := by decide +kernel
theorem dX10_measureWays_50 : decode cX10_measureWays 50 = .ok (.getfield 66, 3) := by decide +kernel
theorem dX10_measureWays_53 : decode cX10_measureWays 53 = .ok (.iconst 1, 1) := by decide +kernel
theorem dX10_measureWays_54 : decode cX10_measureWays 54 = .ok (.iadd, 1) := by decide +kernel
theorem dX10_measureWays_55 : decode cX10_measureWays 55 = .ok (.putfield 66, 3) := by decide +kernel
theorem dX10_measureWays_58 : decode cX10_measureWays 58 = .ok (.return_, 1) := by decide +kernel
theorem dX10_closeTable_0 : decode cX10_closeTable 0 = .ok (.aload_n 0, 1) := by decide +kernel
theorem dX10_closeTable_1 : decode cX10_closeTable 1 = .ok (.arraylength, 1) := by decide +kernel
theorem dX10_closeTable_2 : decode cX10_closeTable 2 = .ok (.iload_n 1, 1) := by decide +kernel
theorem dX10_closeTable_3 : decode cX10_closeTable 3 = .ok (.iload_n 1, 1) := by decide +kernel
theorem dX10_closeTable_4 : decode cX10_closeTable 4 = .ok (.imul, 1) := by decide +kernel
theorem dX10_closeTable_5 : decode cX10_closeTable 5 = .ok (.if_icmp .ge 4, 3) := by decide +kernel
theorem dX10_closeTable_8 : decode cX10_closeTable 8 = .ok (.return_, 1) := by decide +kernel
theorem dX10_closeTable_9 : decode cX10_closeTable 9 = .ok (.iconst 0, 1) := by decide +kernel
theorem dX10_closeTable_10 : decode cX10_closeTable 10 = .ok (.istore_n 2, 1) := by decide +kernel
theorem dX10_closeTable_11 : decode cX10_closeTable 11 = .ok (.iload_n 2, 1) := by decide +kernel
theorem dX10_closeTable_12 : decode cX10_closeTable 12 = .ok (.iload_n 1, 1) := by decide +kernel
theorem dX10_closeTable_13 : decode cX10_closeTable 13 = .ok (.if_icmp .ge 17, 3) := by decide +kernel
theorem dX10_closeTable_16 : decode cX10_closeTable 16 = .ok (.aload_n 0, 1) := by decide +kernel
theorem dX10_closeTable_17 : decode cX10_closeTable 17 = .ok (.iload_n 2, 1) := by decide +kernel
theorem dX10_closeTable_18 : decode cX10_closeTable 18 = .ok (.iload_n 1, 1) := by decide +kernel
theorem dX10_closeTable_19 : decode cX10_closeTable 19 = .ok (.imul, 1) := by decide +kernel
theorem dX10_closeTable_20 : decode cX10_closeTable 20 = .ok (.iload_n 2, 1) := by decide +kernel
theorem dX10_closeTable_21 : decode cX10_closeTable 21 = .ok (.iadd, 1) := by decide +kernel
theorem dX10_closeTable_22 : decode cX10_closeTable 22 = .ok (.iconst 0, 1) := by decide +kernel
theorem dX10_closeTable_23 : decode cX10_closeTable 23 = .ok (.iastore, 1) := by decide +kernel
theorem dX10_closeTable_24 : decode cX10_closeTable 24 = .ok (.iinc 2 1, 3) := by decide +kernel
theorem dX10_closeTable_27 : decode cX10_closeTable 27 = .ok (.goto (-16), 3) := by decide +kernel
theorem dX10_closeTable_30 : decode cX10_closeTable 30 = .ok (.iconst 0, 1) := by decide +kernel
theorem dX10_closeTable_31 : decode cX10_closeTable 31 = .ok (.istore_n 2, 1) := by decide +kernel
theorem dX10_closeTable_32 : decode cX10_closeTable 32 = .ok (.iload_n 2, 1) := by decide +kernel
theorem dX10_closeTable_33 : decode cX10_closeTable 33 = .ok (.iload_n 1, 1) := by decide +kernel
theorem dX10_closeTable_34 : decode cX10_closeTable 34 = .ok (.if_icmp .ge 107, 3) := by decide +kernel
theorem dX10_closeTable_37 : decode cX10_closeTable 37 = .ok (.iconst 0, 1) := by decide +kernel
theorem dX10_closeTable_38 : decode cX10_closeTable 38 = .ok (.istore_n 3, 1) := by decide +kernel
theorem dX10_closeTable_39 : decode cX10_closeTable 39 = .ok (.iload_n 3, 1) := by decide +kernel
theorem dX10_closeTable_40 : decode cX10_closeTable 40 = .ok (.iload_n 1, 1) := by decide +kernel
theorem dX10_closeTable_41 : decode cX10_closeTable 41 = .ok (.if_icmp .ge 94, 3) := by decide +kernel
theorem dX10_closeTable_44 : decode cX10_closeTable 44 = .ok (.iconst 0, 1) := by decide +kernel
theorem dX10_closeTable_45 : decode cX10_closeTable 45 = .ok (.istore 4, 2) := by decide +kernel
theorem dX10_closeTable_47 : decode cX10_closeTable 47 = .ok (.iload 4, 2) := by decide +kernel
theorem dX10_closeTable_49 : decode cX10_closeTable 49 = .ok (.iload_n 1, 1) := by decide +kernel
theorem dX10_closeTable_50 : decode cX10_closeTable 50 = .ok (.if_icmp .ge 79, 3) := by decide +kernel
theorem dX10_closeTable_53 : decode cX10_closeTable 53 = .ok (.aload_n 0, 1) := by decide +kernel
theorem dX10_closeTable_54 : decode cX10_closeTable 54 = .ok (.iload_n 3, 1) := by decide +kernel
theorem dX10_closeTable_55 : decode cX10_closeTable 55 = .ok (.iload_n 1, 1) := by decide +kernel
theorem dX10_closeTable_56 : decode cX10_closeTable 56 = .ok (.imul, 1) := by decide +kernel
theorem dX10_closeTable_57 : decode cX10_closeTable 57 = .ok (.iload_n 2, 1) := by decide +kernel
theorem dX10_closeTable_58 : decode cX10_closeTable 58 = .ok (.iadd, 1) := by decide +kernel
theorem dX10_closeTable_59 : decode cX10_closeTable 59 = .ok (.iaload, 1) := by decide +kernel
theorem dX10_closeTable_60 : decode cX10_closeTable 60 = .ok (.istore 5, 2) := by decide +kernel
theorem dX10_closeTable_62 : decode cX10_closeTable 62 = .ok (.aload_n 0, 1) := by decide +kernel
theorem dX10_closeTable_63 : decode cX10_closeTable 63 = .ok (.iload_n 2, 1) := by decide +kernel
theorem dX10_closeTable_64 : decode cX10_closeTable 64 = .ok (.iload_n 1, 1) := by decide +kernel
theorem dX10_closeTable_65 : decode cX10_closeTable 65 = .ok (.imul, 1) := by decide +kernel
theorem dX10_closeTable_66 : decode cX10_closeTable 66 = .ok (.iload 4, 2) := by decide +kernel
theorem dX10_closeTable_68 : decode cX10_closeTable 68 = .ok (.iadd, 1) := by decide +kernel
theorem dX10_closeTable_69 : decode cX10_closeTable 69 = .ok (.iaload, 1) := by decide +kernel
theorem dX10_closeTable_70 : decode cX10_closeTable 70 = .ok (.istore 6, 2) := by decide +kernel
theorem dX10_closeTable_72 : decode cX10_closeTable 72 = .ok (.aload_n 0, 1) := by decide +kernel
theorem dX10_closeTable_73 : decode cX10_closeTable 73 = .ok (.iload_n 3, 1) := by decide +kernel
theorem dX10_closeTable_74 : decode cX10_closeTable 74 = .ok (.iload_n 1, 1) := by decide +kernel
theorem dX10_closeTable_75 : decode cX10_closeTable 75 = .ok (.imul, 1) := by decide +kernel
theorem dX10_closeTable_76 : decode cX10_closeTable 76 = .ok (.iload 4, 2) := by decide +kernel
theorem dX10_closeTable_78 : decode cX10_closeTable 78 = .ok (.iadd, 1) := by decide +kernel
theorem dX10_closeTable_79 : decode cX10_closeTable 79 = .ok (.iaload, 1) := by decide +kernel
theorem dX10_closeTable_80 : decode cX10_closeTable 80 = .ok (.istore 7, 2) := by decide +kernel
theorem dX10_closeTable_82 : decode cX10_closeTable 82 = .ok (.iload 5, 2) := by decide +kernel
theorem dX10_closeTable_84 : decode cX10_closeTable 84 = .ok (.iconst (-1), 1) := by decide +kernel
theorem dX10_closeTable_85 : decode cX10_closeTable 85 = .ok (.if_icmp .eq 38, 3) := by decide +kernel
theorem dX10_closeTable_88 : decode cX10_closeTable 88 = .ok (.iload 6, 2) := by decide +kernel
theorem dX10_closeTable_90 : decode cX10_closeTable 90 = .ok (.iconst (-1), 1) := by decide +kernel
theorem dX10_closeTable_91 : decode cX10_closeTable 91 = .ok (.if_icmp .eq 32, 3) := by decide +kernel
theorem dX10_closeTable_94 : decode cX10_closeTable 94 = .ok (.iload 7, 2) := by decide +kernel
theorem dX10_closeTable_96 : decode cX10_closeTable 96 = .ok (.iconst (-1), 1) := by decide +kernel
theorem dX10_closeTable_97 : decode cX10_closeTable 97 = .ok (.if_icmp .eq 13, 3) := by decide +kernel
theorem dX10_closeTable_100 : decode cX10_closeTable 100 = .ok (.iload 5, 2) := by decide +kernel
theorem dX10_closeTable_102 : decode cX10_closeTable 102 = .ok (.iload 6, 2) := by decide +kernel
theorem dX10_closeTable_104 : decode cX10_closeTable 104 = .ok (.iadd, 1) := by decide +kernel
theorem dX10_closeTable_105 : decode cX10_closeTable 105 = .ok (.iload 7, 2) := by decide +kernel
theorem dX10_closeTable_107 : decode cX10_closeTable 107 = .ok (.if_icmp .ge 16, 3) := by decide +kernel
theorem dX10_closeTable_110 : decode cX10_closeTable 110 = .ok (.aload_n 0, 1) := by decide +kernel
theorem dX10_closeTable_111 : decode cX10_closeTable 111 = .ok (.iload_n 3, 1) := by decide +kernel
theorem dX10_closeTable_112 : decode cX10_closeTable 112 = .ok (.iload_n 1, 1) := by decide +kernel
theorem dX10_closeTable_113 : decode cX10_closeTable 113 = .ok (.imul, 1) := by decide +kernel
theorem dX10_closeTable_114 : decode cX10_closeTable 114 = .ok (.iload 4, 2) := by decide +kernel
theorem dX10_closeTable_116 : decode cX10_closeTable 116 = .ok (.iadd, 1) := by decide +kernel
theorem dX10_closeTable_117 : decode cX10_closeTable 117 = .ok (.iload 5, 2) := by decide +kernel
theorem dX10_closeTable_119 : decode cX10_closeTable 119 = .ok (.iload 6, 2) := by decide +kernel
theorem dX10_closeTable_121 : decode cX10_closeTable 121 = .ok (.iadd, 1) := by decide +kernel
theorem dX10_closeTable_122 : decode cX10_closeTable 122 = .ok (.iastore, 1) := by decide +kernel
theorem dX10_closeTable_123 : decode cX10_closeTable 123 = .ok (.iinc 4 1, 3) := by decide +kernel
theorem dX10_closeTable_126 : decode cX10_closeTable 126 = .ok (.goto (-79), 3) := by decide +kernel
theorem dX10_closeTable_129 : decode cX10_closeTable 129 = .ok (.iinc 3 1, 3) := by decide +kernel
theorem dX10_closeTable_132 : decode cX10_closeTable 132 = .ok (.goto (-93), 3) := by decide +kernel
theorem dX10_closeTable_135 : decode cX10_closeTable 135 = .ok (.iinc 2 1, 3) := by decide +kernel
theorem dX10_closeTable_138 : decode cX10_closeTable 138 = .ok (.goto (-106), 3) := by decide +kernel
theorem dX10_closeTable_141 : decode cX10_closeTable 141 = .ok (.return_, 1) := by decide +kernel
theorem dX10_workOut_0 : decode cX10_workOut 0 = .ok (.iload_n 2, 1) := by decide +kernel
theorem dX10_workOut_1 : decode cX10_workOut 1 = .ok (.ifCond .lt 16, 3) := by decide +kernel
theorem dX10_workOut_4 : decode cX10_workOut 4 = .ok (.iload_n 2, 1) := by decide +kernel
theorem dX10_workOut_5 : decode cX10_workOut 5 = .ok (.iload_n 3, 1) := by decide +kernel
theorem dX10_workOut_6 : decode cX10_workOut 6 = .ok (.if_icmp .gt 11, 3) := by decide +kernel
theorem dX10_workOut_9 : decode cX10_workOut 9 = .ok (.iload_n 3, 1) := by decide +kernel
theorem dX10_workOut_10 : decode cX10_workOut 10 = .ok (.aload_n 1, 1) := by decide +kernel
theorem dX10_workOut_11 : decode cX10_workOut 11 = .ok (.getfield 69, 3) := by decide +kernel
theorem dX10_workOut_14 : decode cX10_workOut 14 = .ok (.if_icmp .lt 5, 3) := by decide +kernel
theorem dX10_workOut_17 : decode cX10_workOut 17 = .ok (.iconst 0, 1) := by decide +kernel
theorem dX10_workOut_18 : decode cX10_workOut 18 = .ok (.ireturn, 1) := by decide +kernel
theorem dX10_workOut_19 : decode cX10_workOut 19 = .ok (.iload_n 2, 1) := by decide +kernel
theorem dX10_workOut_20 : decode cX10_workOut 20 = .ok (.istore 5, 2) := by decide +kernel
theorem dX10_workOut_22 : decode cX10_workOut 22 = .ok (.iload 5, 2) := by decide +kernel
theorem dX10_workOut_24 : decode cX10_workOut 24 = .ok (.iload_n 3, 1) := by decide +kernel
theorem dX10_workOut_25 : decode cX10_workOut 25 = .ok (.if_icmp .gt 149, 3) := by decide +kernel
theorem dX10_workOut_28 : decode cX10_workOut 28 = .ok (.aload_n 1, 1) := by decide +kernel
theorem dX10_workOut_29 : decode cX10_workOut 29 = .ok (.getfield 74, 3) := by decide +kernel
theorem dX10_workOut_32 : decode cX10_workOut 32 = .ok (.iload 5, 2) := by decide +kernel
theorem dX10_workOut_34 : decode cX10_workOut 34 = .ok (.iaload, 1) := by decide +kernel
theorem dX10_workOut_35 : decode cX10_workOut 35 = .ok (.istore 6, 2) := by decide +kernel
theorem dX10_workOut_37 : decode cX10_workOut 37 = .ok (.aload_n 1, 1) := by decide +kernel
theorem dX10_workOut_38 : decode cX10_workOut 38 = .ok (.getfield 77, 3) := by decide +kernel
theorem dX10_workOut_41 : decode cX10_workOut 41 = .ok (.iload 5, 2) := by decide +kernel
theorem dX10_workOut_43 : decode cX10_workOut 43 = .ok (.iaload, 1) := by decide +kernel
theorem dX10_workOut_44 : decode cX10_workOut 44 = .ok (.tableswitch 110 0 3 #[32, 44, 76, 93], 32) := by decide +kernel
theorem dX10_workOut_76 : decode cX10_workOut 76 = .ok (.aload_n 0, 1) := by decide +kernel
theorem dX10_workOut_77 : decode cX10_workOut 77 = .ok (.getfield 36, 3) := by decide +kernel
theorem dX10_workOut_80 : decode cX10_workOut 80 = .ok (.iload 5, 2) := by decide +kernel
theorem dX10_workOut_82 : decode cX10_workOut 82 = .ok (.iload 6, 2) := by decide +kernel
theorem dX10_workOut_84 : decode cX10_workOut 84 = .ok (.iastore, 1) := by decide +kernel
theorem dX10_workOut_85 : decode cX10_workOut 85 = .ok (.goto 83, 3) := by decide +kernel
theorem dX10_workOut_88 : decode cX10_workOut 88 = .ok (.aload_n 0, 1) := by decide +kernel
theorem dX10_workOut_89 : decode cX10_workOut 89 = .ok (.getfield 36, 3) := by decide +kernel
theorem dX10_workOut_92 : decode cX10_workOut 92 = .ok (.iload 5, 2) := by decide +kernel
theorem dX10_workOut_94 : decode cX10_workOut 94 = .ok (.iload 6, 2) := by decide +kernel
theorem dX10_workOut_96 : decode cX10_workOut 96 = .ok (.ifCond .lt 19, 3) := by decide +kernel
theorem dX10_workOut_99 : decode cX10_workOut 99 = .ok (.iload 6, 2) := by decide +kernel
theorem dX10_workOut_101 : decode cX10_workOut 101 = .ok (.aload 4, 2) := by decide +kernel
theorem dX10_workOut_103 : decode cX10_workOut 103 = .ok (.arraylength, 1) := by decide +kernel
theorem dX10_workOut_104 : decode cX10_workOut 104 = .ok (.if_icmp .ge 11, 3) := by decide +kernel
theorem dX10_workOut_107 : decode cX10_workOut 107 = .ok (.aload 4, 2) := by decide +kernel
theorem dX10_workOut_109 : decode cX10_workOut 109 = .ok (.iload 6, 2) := by decide +kernel
theorem dX10_workOut_111 : decode cX10_workOut 111 = .ok (.iaload, 1) := by decide +kernel
theorem dX10_workOut_112 : decode cX10_workOut 112 = .ok (.goto 4, 3) := by decide +kernel
theorem dX10_workOut_115 : decode cX10_workOut 115 = .ok (.iconst 0, 1) := by decide +kernel
theorem dX10_workOut_116 : decode cX10_workOut 116 = .ok (.iastore, 1) := by decide +kernel
theorem dX10_workOut_117 : decode cX10_workOut 117 = .ok (.goto 51, 3) := by decide +kernel
theorem dX10_workOut_120 : decode cX10_workOut 120 = .ok (.aload_n 0, 1) := by decide +kernel
theorem dX10_workOut_121 : decode cX10_workOut 121 = .ok (.getfield 36, 3) := by decide +kernel
theorem dX10_workOut_124 : decode cX10_workOut 124 = .ok (.iload 5, 2) := by decide +kernel
theorem dX10_workOut_126 : decode cX10_workOut 126 = .ok (.aload_n 0, 1) := by decide +kernel
theorem dX10_workOut_127 : decode cX10_workOut 127 = .ok (.aload_n 1, 1) := by decide +kernel
theorem dX10_workOut_128 : decode cX10_workOut 128 = .ok (.iload 5, 2) := by decide +kernel
theorem dX10_workOut_130 : decode cX10_workOut 130 = .ok (.invokevirtual 80, 3) := by decide +kernel
theorem dX10_workOut_133 : decode cX10_workOut 133 = .ok (.iastore, 1) := by decide +kernel
theorem dX10_workOut_134 : decode cX10_workOut 134 = .ok (.goto 34, 3) := by decide +kernel
theorem dX10_workOut_137 : decode cX10_workOut 137 = .ok (.aload_n 0, 1) := by decide +kernel
theorem dX10_workOut_138 : decode cX10_workOut 138 = .ok (.getfield 36, 3) := by decide +kernel
theorem dX10_workOut_141 : decode cX10_workOut 141 = .ok (.iload 5, 2) := by decide +kernel
theorem dX10_workOut_143 : decode cX10_workOut 143 = .ok (.aload_n 0, 1) := by decide +kernel
theorem dX10_workOut_144 : decode cX10_workOut 144 = .ok (.aload_n 1, 1) := by decide +kernel
theorem dX10_workOut_145 : decode cX10_workOut 145 = .ok (.iload 5, 2) := by decide +kernel
theorem dX10_workOut_147 : decode cX10_workOut 147 = .ok (.invokevirtual 84, 3) := by decide +kernel
theorem dX10_workOut_150 : decode cX10_workOut 150 = .ok (.iastore, 1) := by decide +kernel
theorem dX10_workOut_151 : decode cX10_workOut 151 = .ok (.goto 17, 3) := by decide +kernel
theorem dX10_workOut_154 : decode cX10_workOut 154 = .ok (.aload_n 0, 1) := by decide +kernel
theorem dX10_workOut_155 : decode cX10_workOut 155 = .ok (.getfield 36, 3) := by decide +kernel
theorem dX10_workOut_158 : decode cX10_workOut 158 = .ok (.iload 5, 2) := by decide +kernel
theorem dX10_workOut_160 : decode cX10_workOut 160 = .ok (.aload_n 0, 1) := by decide +kernel
theorem dX10_workOut_161 : decode cX10_workOut 161 = .ok (.aload_n 1, 1) := by decide +kernel
theorem dX10_workOut_162 : decode cX10_workOut 162 = .ok (.iload 5, 2) := by decide +kernel
theorem dX10_workOut_164 : decode cX10_workOut 164 = .ok (.invokevirtual 87, 3) := by decide +kernel
theorem dX10_workOut_167 : decode cX10_workOut 167 = .ok (.iastore, 1) := by decide +kernel
theorem dX10_workOut_168 : decode cX10_workOut 168 = .ok (.iinc 5 1, 3) := by decide +kernel
theorem dX10_workOut_171 : decode cX10_workOut 171 = .ok (.goto (-149), 3) := by decide +kernel
theorem dX10_workOut_174 : decode cX10_workOut 174 = .ok (.aload_n 0, 1) := by decide +kernel
theorem dX10_workOut_175 : decode cX10_workOut 175 = .ok (.getfield 36, 3) := by decide +kernel
theorem dX10_workOut_178 : decode cX10_workOut 178 = .ok (.iload_n 3, 1) := by decide +kernel
theorem dX10_workOut_179 : decode cX10_workOut 179 = .ok (.iaload, 1) := by decide +kernel
theorem dX10_workOut_180 : decode cX10_workOut 180 = .ok (.ireturn, 1) := by decide +kernel
theorem dX10_sumOf_0 : decode cX10_sumOf 0 = .ok (.iconst 0, 1) := by decide +kernel
theorem dX10_sumOf_1 : decode cX10_sumOf 1 = .ok (.istore_n 3, 1) := by decide +kernel
theorem dX10_sumOf_2 : decode cX10_sumOf 2 = .ok (.aload_n 1, 1) := by decide +kernel
theorem dX10_sumOf_3 : decode cX10_sumOf 3 = .ok (.getfield 90, 3) := by decide +kernel
theorem dX10_sumOf_6 : decode cX10_sumOf 6 = .ok (.iload_n 2, 1) := by decide +kernel
theorem dX10_sumOf_7 : decode cX10_sumOf 7 = .ok (.iaload, 1) := by decide +kernel
theorem dX10_sumOf_8 : decode cX10_sumOf 8 = .ok (.istore 4, 2) := by decide +kernel
theorem dX10_sumOf_10 : decode cX10_sumOf 10 = .ok (.aload_n 1, 1) := by decide +kernel
theorem dX10_sumOf_11 : decode cX10_sumOf 11 = .ok (.getfield 93, 3) := by decide +kernel
theorem dX10_sumOf_14 : decode cX10_sumOf 14 = .ok (.iload_n 2, 1) := by decide +kernel
theorem dX10_sumOf_15 : decode cX10_sumOf 15 = .ok (.iaload, 1) := by decide +kernel
theorem dX10_sumOf_16 : decode cX10_sumOf 16 = .ok (.istore 5, 2) := by decide +kernel
theorem dX10_sumOf_18 : decode cX10_sumOf 18 = .ok (.iload 5, 2) := by decide +kernel
theorem dX10_sumOf_20 : decode cX10_sumOf 20 = .ok (.ifCond .le 78, 3) := by decide +kernel
theorem dX10_sumOf_23 : decode cX10_sumOf 23 = .ok (.iload 4, 2) := by decide +kernel
theorem dX10_sumOf_25 : decode cX10_sumOf 25 = .ok (.ifCond .lt 73, 3) := by decide +kernel
theorem dX10_sumOf_28 : decode cX10_sumOf 28 = .ok (.iload 4, 2) := by decide +kernel
theorem dX10_sumOf_30 : decode cX10_sumOf 30 = .ok (.iload_n 2, 1) := by decide +kernel
theorem dX10_sumOf_31 : decode cX10_sumOf 31 = .ok (.if_icmp .ge 67, 3) := by decide +kernel
theorem dX10_sumOf_34 : decode cX10_sumOf 34 = .ok (.iload_n 3, 1) := by decide +kernel
theorem dX10_sumOf_35 : decode cX10_sumOf 35 = .ok (.aload_n 1, 1) := by decide +kernel
theorem dX10_sumOf_36 : decode cX10_sumOf 36 = .ok (.getfield 96, 3) := by decide +kernel
theorem dX10_sumOf_39 : decode cX10_sumOf 39 = .ok (.iload 4, 2) := by decide +kernel
theorem dX10_sumOf_41 : decode cX10_sumOf 41 = .ok (.iaload, 1) := by decide +kernel
theorem dX10_sumOf_42 : decode cX10_sumOf 42 = .ok (.ifCond .ge 14, 3) := by decide +kernel
theorem dX10_sumOf_45 : decode cX10_sumOf 45 = .ok (.aload_n 0, 1) := by decide +kernel
theorem dX10_sumOf_46 : decode cX10_sumOf 46 = .ok (.getfield 36, 3) := by decide +kernel
theorem dX10_sumOf_49 : decode cX10_sumOf 49 = .ok (.iload 4, 2) := by decide +kernel
theorem dX10_sumOf_51 : decode cX10_sumOf 51 = .ok (.iaload, 1) := by decide +kernel
theorem dX10_sumOf_52 : decode cX10_sumOf 52 = .ok (.ineg, 1) := by decide +kernel
theorem dX10_sumOf_53 : decode cX10_sumOf 53 = .ok (.goto 10, 3) := by decide +kernel
theorem dX10_sumOf_56 : decode cX10_sumOf 56 = .ok (.aload_n 0, 1) := by decide +kernel
theorem dX10_sumOf_57 : decode cX10_sumOf 57 = .ok (.getfield 36, 3) := by decide +kernel
theorem dX10_sumOf_60 : decode cX10_sumOf 60 = .ok (.iload 4, 2) := by decide +kernel
theorem dX10_sumOf_62 : decode cX10_sumOf 62 = .ok (.iaload, 1) := by decide +kernel
theorem dX10_sumOf_63 : decode cX10_sumOf 63 = .ok (.iadd, 1) := by decide +kernel
theorem dX10_sumOf_64 : decode cX10_sumOf 64 = .ok (.istore_n 3, 1) := by decide +kernel
theorem dX10_sumOf_65 : decode cX10_sumOf 65 = .ok (.iload_n 3, 1) := by decide +kernel
theorem dX10_sumOf_66 : decode cX10_sumOf 66 = .ok (.ldc 99, 2) := by decide +kernel
theorem dX10_sumOf_68 : decode cX10_sumOf 68 = .ok (.if_icmp .gt 9, 3) := by decide +kernel
theorem dX10_sumOf_71 : decode cX10_sumOf 71 = .ok (.iload_n 3, 1) := by decide +kernel
theorem dX10_sumOf_72 : decode cX10_sumOf 72 = .ok (.ldc 100, 2) := by decide +kernel
theorem dX10_sumOf_74 : decode cX10_sumOf 74 = .ok (.if_icmp .ge 9, 3) := by decide +kernel
theorem dX10_sumOf_77 : decode cX10_sumOf 77 = .ok (.iload_n 3, 1) := by decide +kernel
theorem dX10_sumOf_78 : decode cX10_sumOf 78 = .ok (.i2l, 1) := by decide +kernel
theorem dX10_sumOf_79 : decode cX10_sumOf 79 = .ok (.invokestatic 101, 3) := by decide +kernel
theorem dX10_sumOf_82 : decode cX10_sumOf 82 = .ok (.istore_n 3, 1) := by decide +kernel
theorem dX10_sumOf_83 : decode cX10_sumOf 83 = .ok (.aload_n 1, 1) := by decide +kernel
theorem dX10_sumOf_84 : decode cX10_sumOf 84 = .ok (.getfield 105, 3) := by decide +kernel
theorem dX10_sumOf_87 : decode cX10_sumOf 87 = .ok (.iload 4, 2) := by decide +kernel
theorem dX10_sumOf_89 : decode cX10_sumOf 89 = .ok (.iaload, 1) := by decide +kernel
theorem dX10_sumOf_90 : decode cX10_sumOf 90 = .ok (.istore 4, 2) := by decide +kernel
theorem dX10_sumOf_92 : decode cX10_sumOf 92 = .ok (.iinc 5 (-1), 3) := by decide +kernel
theorem dX10_sumOf_95 : decode cX10_sumOf 95 = .ok (.goto (-77), 3) := by decide +kernel
theorem dX10_sumOf_98 : decode cX10_sumOf 98 = .ok (.iload_n 3, 1) := by decide +kernel
theorem dX10_sumOf_99 : decode cX10_sumOf 99 = .ok (.ireturn, 1) := by decide +kernel
theorem dX10_productOf_0 : decode cX10_productOf 0 = .ok (.lconst 1, 1) := by decide +kernel
theorem dX10_productOf_1 : decode cX10_productOf 1 = .ok (.lstore_n 3, 1) := by decide +kernel
theorem dX10_productOf_2 : decode cX10_productOf 2 = .ok (.aload_n 1, 1) := by decide +kernel
theorem dX10_productOf_3 : decode cX10_productOf 3 = .ok (.getfield 90, 3) := by decide +kernel
theorem dX10_productOf_6 : decode cX10_productOf 6 = .ok (.iload_n 2, 1) := by decide +kernel
theorem dX10_productOf_7 : decode cX10_productOf 7 = .ok (.iaload, 1) := by decide +kernel
theorem dX10_productOf_8 : decode cX10_productOf 8 = .ok (.istore 5, 2) := by decide +kernel
theorem dX10_productOf_10 : decode cX10_productOf 10 = .ok (.aload_n 1, 1) := by decide +kernel
theorem dX10_productOf_11 : decode cX10_productOf 11 = .ok (.getfield 93, 3) := by decide +kernel
theorem dX10_productOf_14 : decode cX10_productOf 14 = .ok (.iload_n 2, 1) := by decide +kernel
theorem dX10_productOf_15 : decode cX10_productOf 15 = .ok (.iaload, 1) := by decide +kernel
theorem dX10_productOf_16 : decode cX10_productOf 16 = .ok (.istore 6, 2) := by decide +kernel
theorem dX10_productOf_18 : decode cX10_productOf 18 = .ok (.iload 6, 2) := by decide +kernel
theorem dX10_productOf_20 : decode cX10_productOf 20 = .ok (.ifCond .le 62, 3) := by decide +kernel
theorem dX10_productOf_23 : decode cX10_productOf 23 = .ok (.iload 5, 2) := by decide +kernel
theorem dX10_productOf_25 : decode cX10_productOf 25 = .ok (.ifCond .lt 57, 3) := by decide +kernel
theorem dX10_productOf_28 : decode cX10_productOf 28 = .ok (.iload 5, 2) := by decide +kernel
theorem dX10_productOf_30 : decode cX10_productOf 30 = .ok (.iload_n 2, 1) := by decide +kernel
theorem dX10_productOf_31 : decode cX10_productOf 31 = .ok (.if_icmp .ge 51, 3) := by decide +kernel
theorem dX10_productOf_34 : decode cX10_productOf 34 = .ok (.lload_n 3, 1) := by decide +kernel
theorem dX10_productOf_35 : decode cX10_productOf 35 = .ok (.aload_n 0, 1) := by decide +kernel
theorem dX10_productOf_36 : decode cX10_productOf 36 = .ok (.getfield 36, 3) := by decide +kernel
theorem dX10_productOf_39 : decode cX10_productOf 39 = .ok (.iload 5, 2) := by decide +kernel
theorem dX10_productOf_41 : decode cX10_productOf 41 = .ok (.iaload, 1) := by decide +kernel
theorem dX10_productOf_42 : decode cX10_productOf 42 = .ok (.i2l, 1) := by decide +kernel
theorem dX10_productOf_43 : decode cX10_productOf 43 = .ok (.lmul, 1) := by decide +kernel
theorem dX10_productOf_44 : decode cX10_productOf 44 = .ok (.lstore_n 3, 1) := by decide +kernel
theorem dX10_productOf_45 : decode cX10_productOf 45 = .ok (.lload_n 3, 1) := by decide +kernel
theorem dX10_productOf_46 : decode cX10_productOf 46 = .ok (.ldc2_w 108, 3) := by decide +kernel
theorem dX10_productOf_49 : decode cX10_productOf 49 = .ok (.lcmp, 1) := by decide +kernel
theorem dX10_productOf_50 : decode cX10_productOf 50 = .ok (.ifCond .gt 11, 3) := by decide +kernel
theorem dX10_productOf_53 : decode cX10_productOf 53 = .ok (.lload_n 3, 1) := by decide +kernel
theorem dX10_productOf_54 : decode cX10_productOf 54 = .ok (.ldc2_w 110, 3) := by decide +kernel
theorem dX10_productOf_57 : decode cX10_productOf 57 = .ok (.lcmp, 1) := by decide +kernel
theorem dX10_productOf_58 : decode cX10_productOf 58 = .ok (.ifCond .ge 9, 3) := by decide +kernel
theorem dX10_productOf_61 : decode cX10_productOf 61 = .ok (.lload_n 3, 1) := by decide +kernel
theorem dX10_productOf_62 : decode cX10_productOf 62 = .ok (.invokestatic 101, 3) := by decide +kernel
theorem dX10_productOf_65 : decode cX10_productOf 65 = .ok (.i2l, 1) := by decide +kernel
theorem dX10_productOf_66 : decode cX10_productOf 66 = .ok (.lstore_n 3, 1) := by decide +kernel
theorem dX10_productOf_67 : decode cX10_productOf 67 = .ok (.aload_n 1, 1) := by decide +kernel
theorem dX10_productOf_68 : decode cX10_productOf 68 = .ok (.getfield 105, 3) := by decide +kernel
theorem dX10_productOf_71 : decode cX10_productOf 71 = .ok (.iload 5, 2) := by decide +kernel
theorem dX10_productOf_73 : decode cX10_productOf 73 = .ok (.iaload, 1) := by decide +kernel
theorem dX10_productOf_74 : decode cX10_productOf 74 = .ok (.istore 5, 2) := by decide +kernel
theorem dX10_productOf_76 : decode cX10_productOf 76 = .ok (.iinc 6 (-1), 3) := by decide +kernel
theorem dX10_productOf_79 : decode cX10_productOf 79 = .ok (.goto (-61), 3) := by decide +kernel
theorem dX10_productOf_82 : decode cX10_productOf 82 = .ok (.lload_n 3, 1) := by decide +kernel
theorem dX10_productOf_83 : decode cX10_productOf 83 = .ok (.l2i, 1) := by decide +kernel
theorem dX10_productOf_84 : decode cX10_productOf 84 = .ok (.ireturn, 1) := by decide +kernel
theorem dX10_workWord_0 : decode cX10_workWord 0 = .ok (.aload_n 1, 1) := by decide +kernel
theorem dX10_workWord_1 : decode cX10_workWord 1 = .ok (.getfield 90, 3) := by decide +kernel
theorem dX10_workWord_4 : decode cX10_workWord 4 = .ok (.iload_n 2, 1) := by decide +kernel
theorem dX10_workWord_5 : decode cX10_workWord 5 = .ok (.iaload, 1) := by decide +kernel
theorem dX10_workWord_6 : decode cX10_workWord 6 = .ok (.istore_n 3, 1) := by decide +kernel
theorem dX10_workWord_7 : decode cX10_workWord 7 = .ok (.aload_n 0, 1) := by decide +kernel
theorem dX10_workWord_8 : decode cX10_workWord 8 = .ok (.iload_n 3, 1) := by decide +kernel
theorem dX10_workWord_9 : decode cX10_workWord 9 = .ok (.iload_n 2, 1) := by decide +kernel
theorem dX10_workWord_10 : decode cX10_workWord 10 = .ok (.invokevirtual 112, 3) := by decide +kernel
theorem dX10_workWord_13 : decode cX10_workWord 13 = .ok (.istore 4, 2) := by decide +kernel
theorem dX10_workWord_15 : decode cX10_workWord 15 = .ok (.aload_n 1, 1) := by decide +kernel
theorem dX10_workWord_16 : decode cX10_workWord 16 = .ok (.iload_n 3, 1) := by decide +kernel
theorem dX10_workWord_17 : decode cX10_workWord 17 = .ok (.invokevirtual 116, 3) := by decide +kernel
theorem dX10_workWord_20 : decode cX10_workWord 20 = .ok (.istore 5, 2) := by decide +kernel
theorem dX10_workWord_22 : decode cX10_workWord 22 = .ok (.aload_n 0, 1) := by decide +kernel
theorem dX10_workWord_23 : decode cX10_workWord 23 = .ok (.iload 5, 2) := by decide +kernel
theorem dX10_workWord_25 : decode cX10_workWord 25 = .ok (.iload_n 2, 1) := by decide +kernel
theorem dX10_workWord_26 : decode cX10_workWord 26 = .ok (.invokevirtual 112, 3) := by decide +kernel
theorem dX10_workWord_29 : decode cX10_workWord 29 = .ok (.istore 6, 2) := by decide +kernel
theorem dX10_workWord_31 : decode cX10_workWord 31 = .ok (.aload_n 1, 1) := by decide +kernel
theorem dX10_workWord_32 : decode cX10_workWord 32 = .ok (.getfield 77, 3) := by decide +kernel
theorem dX10_workWord_35 : decode cX10_workWord 35 = .ok (.iload_n 2, 1) := by decide +kernel
theorem dX10_workWord_36 : decode cX10_workWord 36 = .ok (.iaload, 1) := by decide +kernel
theorem dX10_workWord_37 : decode cX10_workWord 37 = .ok (.tableswitch 127 4 9 #[39, 66, 93, 102, 111, 119], 39) := by decide +kernel
theorem dX10_workWord_76 : decode cX10_workWord 76 = .ok (.iload 4, 2) := by decide +kernel
theorem dX10_workWord_78 : decode cX10_workWord 78 = .ok (.iconst 0, 1) := by decide +kernel
theorem dX10_workWord_79 : decode cX10_workWord 79 = .ok (.aload_n 0, 1) := by decide +kernel
theorem dX10_workWord_80 : decode cX10_workWord 80 = .ok (.getfield 49, 3) := by decide +kernel
theorem dX10_workWord_83 : decode cX10_workWord 83 = .ok (.iconst 1, 1) := by decide +kernel
theorem dX10_workWord_84 : decode cX10_workWord 84 = .ok (.isub, 1) := by decide +kernel
theorem dX10_workWord_85 : decode cX10_workWord 85 = .ok (.invokestatic 45, 3) := by decide +kernel
theorem dX10_workWord_88 : decode cX10_workWord 88 = .ok (.ifCond .eq 13, 3) := by decide +kernel
theorem dX10_workWord_91 : decode cX10_workWord 91 = .ok (.aload_n 0, 1) := by decide +kernel
theorem dX10_workWord_92 : decode cX10_workWord 92 = .ok (.getfield 15, 3) := by decide +kernel
theorem dX10_workWord_95 : decode cX10_workWord 95 = .ok (.iload 4, 2) := by decide +kernel
theorem dX10_workWord_97 : decode cX10_workWord 97 = .ok (.iaload, 1) := by decide +kernel
theorem dX10_workWord_98 : decode cX10_workWord 98 = .ok (.goto 4, 3) := by decide +kernel
theorem dX10_workWord_101 : decode cX10_workWord 101 = .ok (.iconst (-1), 1) := by decide +kernel
theorem dX10_workWord_102 : decode cX10_workWord 102 = .ok (.ireturn, 1) := by decide +kernel
theorem dX10_workWord_103 : decode cX10_workWord 103 = .ok (.iload 4, 2) := by decide +kernel
theorem dX10_workWord_105 : decode cX10_workWord 105 = .ok (.iconst 0, 1) := by decide +kernel
theorem dX10_workWord_106 : decode cX10_workWord 106 = .ok (.aload_n 0, 1) := by decide +kernel
theorem dX10_workWord_107 : decode cX10_workWord 107 = .ok (.getfield 49, 3) := by decide +kernel
theorem dX10_workWord_110 : decode cX10_workWord 110 = .ok (.iconst 1, 1) := by decide +kernel
theorem dX10_workWord_111 : decode cX10_workWord 111 = .ok (.isub, 1) := by decide +kernel
theorem dX10_workWord_112 : decode cX10_workWord 112 = .ok (.invokestatic 45, 3) := by decide +kernel
theorem dX10_workWord_115 : decode cX10_workWord 115 = .ok (.ifCond .eq 13, 3) := by decide +kernel
theorem dX10_workWord_118 : decode cX10_workWord 118 = .ok (.aload_n 0, 1) := by decide +kernel
theorem dX10_workWord_119 : decode cX10_workWord 119 = .ok (.getfield 33, 3) := by decide +kernel
theorem dX10_workWord_122 : decode cX10_workWord 122 = .ok (.iload 4, 2) := by decide +kernel
theorem dX10_workWord_124 : decode cX10_workWord 124 = .ok (.iaload, 1) := by decide +kernel
theorem dX10_workWord_125 : decode cX10_workWord 125 = .ok (.goto 4, 3) := by decide +kernel
theorem dX10_workWord_128 : decode cX10_workWord 128 = .ok (.iconst (-1), 1) := by decide +kernel
theorem dX10_workWord_129 : decode cX10_workWord 129 = .ok (.ireturn, 1) := by decide +kernel
theorem dX10_workWord_130 : decode cX10_workWord 130 = .ok (.aload_n 0, 1) := by decide +kernel
theorem dX10_workWord_131 : decode cX10_workWord 131 = .ok (.iload 4, 2) := by decide +kernel
theorem dX10_workWord_133 : decode cX10_workWord 133 = .ok (.iload 6, 2) := by decide +kernel
theorem dX10_workWord_135 : decode cX10_workWord 135 = .ok (.invokevirtual 120, 3) := by decide +kernel
theorem dX10_workWord_138 : decode cX10_workWord 138 = .ok (.ireturn, 1) := by decide +kernel
theorem dX10_workWord_139 : decode cX10_workWord 139 = .ok (.aload_n 0, 1) := by decide +kernel
theorem dX10_workWord_140 : decode cX10_workWord 140 = .ok (.iload 4, 2) := by decide +kernel
theorem dX10_workWord_142 : decode cX10_workWord 142 = .ok (.iload 6, 2) := by decide +kernel
theorem dX10_workWord_144 : decode cX10_workWord 144 = .ok (.invokevirtual 123, 3) := by decide +kernel
theorem dX10_workWord_147 : decode cX10_workWord 147 = .ok (.ireturn, 1) := by decide +kernel
theorem dX10_workWord_148 : decode cX10_workWord 148 = .ok (.iload 4, 2) := by decide +kernel
theorem dX10_workWord_150 : decode cX10_workWord 150 = .ok (.iload 6, 2) := by decide +kernel
theorem dX10_workWord_152 : decode cX10_workWord 152 = .ok (.invokestatic 126, 3) := by decide +kernel
theorem dX10_workWord_155 : decode cX10_workWord 155 = .ok (.ireturn, 1) := by decide +kernel
theorem dX10_workWord_156 : decode cX10_workWord 156 = .ok (.iload 4, 2) := by decide +kernel
theorem dX10_workWord_158 : decode cX10_workWord 158 = .ok (.iload 6, 2) := by decide +kernel
theorem dX10_workWord_160 : decode cX10_workWord 160 = .ok (.invokestatic 131, 3) := by decide +kernel
theorem dX10_workWord_163 : decode cX10_workWord 163 = .ok (.ireturn, 1) := by decide +kernel
theorem dX10_workWord_164 : decode cX10_workWord 164 = .ok (.aload_n 1, 1) := by decide +kernel
theorem dX10_workWord_165 : decode cX10_workWord 165 = .ok (.iload 5, 2) := by decide +kernel
theorem dX10_workWord_167 : decode cX10_workWord 167 = .ok (.invokevirtual 116, 3) := by decide +kernel
theorem dX10_workWord_170 : decode cX10_workWord 170 = .ok (.istore 7, 2) := by decide +kernel
theorem dX10_workWord_172 : decode cX10_workWord 172 = .ok (.aload_n 1, 1) := by decide +kernel
theorem dX10_workWord_173 : decode cX10_workWord 173 = .ok (.getfield 74, 3) := by decide +kernel
theorem dX10_workWord_176 : decode cX10_workWord 176 = .ok (.iload_n 2, 1) := by decide +kernel
theorem dX10_workWord_177 : decode cX10_workWord 177 = .ok (.iaload, 1) := by decide +kernel
theorem dX10_workWord_178 : decode cX10_workWord 178 = .ok (.iload 4, 2) := by decide +kernel
theorem dX10_workWord_180 : decode cX10_workWord 180 = .ok (.iload 6, 2) := by decide +kernel
theorem dX10_workWord_182 : decode cX10_workWord 182 = .ok (.invokestatic 134, 3) := by decide +kernel
theorem dX10_workWord_185 : decode cX10_workWord 185 = .ok (.istore 8, 2) := by decide +kernel
theorem dX10_workWord_187 : decode cX10_workWord 187 = .ok (.aload_n 0, 1) := by decide +kernel
theorem dX10_workWord_188 : decode cX10_workWord 188 = .ok (.iload 8, 2) := by decide +kernel
theorem dX10_workWord_190 : decode cX10_workWord 190 = .ok (.ifCond .eq 8, 3) := by decide +kernel
theorem dX10_workWord_193 : decode cX10_workWord 193 = .ok (.iload 7, 2) := by decide +kernel
theorem dX10_workWord_195 : decode cX10_workWord 195 = .ok (.goto 9, 3) := by decide +kernel
theorem dX10_workWord_198 : decode cX10_workWord 198 = .ok (.aload_n 1, 1) := by decide +kernel
theorem dX10_workWord_199 : decode cX10_workWord 199 = .ok (.iload 7, 2) := by decide +kernel
theorem dX10_workWord_201 : decode cX10_workWord 201 = .ok (.invokevirtual 116, 3) := by decide +kernel
theorem dX10_workWord_204 : decode cX10_workWord 204 = .ok (.iload_n 2, 1) := by decide +kernel
theorem dX10_workWord_205 : decode cX10_workWord 205 = .ok (.invokevirtual 112, 3) := by decide +kernel
theorem dX10_workWord_208 : decode cX10_workWord 208 = .ok (.ireturn, 1) := by decide +kernel
theorem dX10_resultOf_0 : decode cX10_resultOf 0 = .ok (.iload_n 1, 1) := by decide +kernel
theorem dX10_resultOf_1 : decode cX10_resultOf 1 = .ok (.ifCond .lt 26, 3) := by decide +kernel
theorem dX10_resultOf_4 : decode cX10_resultOf 4 = .ok (.iload_n 1, 1) := by decide +kernel
theorem dX10_resultOf_5 : decode cX10_resultOf 5 = .ok (.iload_n 2, 1) := by decide +kernel
theorem dX10_resultOf_6 : decode cX10_resultOf 6 = .ok (.if_icmp .ge 21, 3) := by decide +kernel
theorem dX10_resultOf_9 : decode cX10_resultOf 9 = .ok (.iload_n 1, 1) := by decide +kernel
theorem dX10_resultOf_10 : decode cX10_resultOf 10 = .ok (.aload_n 0, 1) := by decide +kernel
theorem dX10_resultOf_11 : decode cX10_resultOf 11 = .ok (.getfield 36, 3) := by decide +kernel
theorem dX10_resultOf_14 : decode cX10_resultOf 14 = .ok (.arraylength, 1) := by decide +kernel
theorem dX10_resultOf_15 : decode cX10_resultOf 15 = .ok (.if_icmp .ge 12, 3) := by decide +kernel
theorem dX10_resultOf_18 : decode cX10_resultOf 18 = .ok (.aload_n 0, 1) := by decide +kernel
theorem dX10_resultOf_19 : decode cX10_resultOf 19 = .ok (.getfield 36, 3) := by decide +kernel
theorem dX10_resultOf_22 : decode cX10_resultOf 22 = .ok (.iload_n 1, 1) := by decide +kernel
theorem dX10_resultOf_23 : decode cX10_resultOf 23 = .ok (.iaload, 1) := by decide +kernel
theorem dX10_resultOf_24 : decode cX10_resultOf 24 = .ok (.goto 4, 3) := by decide +kernel
theorem dX10_resultOf_27 : decode cX10_resultOf 27 = .ok (.iconst 0, 1) := by decide +kernel
theorem dX10_resultOf_28 : decode cX10_resultOf 28 = .ok (.ireturn, 1) := by decide +kernel
theorem dX10_holds_0 : decode cX10_holds 0 = .ok (.iload_n 0, 1) := by decide +kernel
theorem dX10_holds_1 : decode cX10_holds 1 = .ok (.tableswitch 90 0 4 #[35, 46, 57, 68, 79], 35) := by decide +kernel
theorem dX10_holds_36 : decode cX10_holds 36 = .ok (.iload_n 1, 1) := by decide +kernel
theorem dX10_holds_37 : decode cX10_holds 37 = .ok (.iload_n 2, 1) := by decide +kernel
theorem dX10_holds_38 : decode cX10_holds 38 = .ok (.if_icmp .ge 7, 3) := by decide +kernel
theorem dX10_holds_41 : decode cX10_holds 41 = .ok (.iconst 1, 1) := by decide +kernel
theorem dX10_holds_42 : decode cX10_holds 42 = .ok (.goto 4, 3) := by decide +kernel
theorem dX10_holds_45 : decode cX10_holds 45 = .ok (.iconst 0, 1) := by decide +kernel
theorem dX10_holds_46 : decode cX10_holds 46 = .ok (.ireturn, 1) := by decide +kernel
theorem dX10_holds_47 : decode cX10_holds 47 = .ok (.iload_n 1, 1) := by decide +kernel
theorem dX10_holds_48 : decode cX10_holds 48 = .ok (.iload_n 2, 1) := by decide +kernel
theorem dX10_holds_49 : decode cX10_holds 49 = .ok (.if_icmp .gt 7, 3) := by decide +kernel
theorem dX10_holds_52 : decode cX10_holds 52 = .ok (.iconst 1, 1) := by decide +kernel
theorem dX10_holds_53 : decode cX10_holds 53 = .ok (.goto 4, 3) := by decide +kernel
theorem dX10_holds_56 : decode cX10_holds 56 = .ok (.iconst 0, 1) := by decide +kernel
theorem dX10_holds_57 : decode cX10_holds 57 = .ok (.ireturn, 1) := by decide +kernel
theorem dX10_holds_58 : decode cX10_holds 58 = .ok (.iload_n 1, 1) := by decide +kernel
theorem dX10_holds_59 : decode cX10_holds 59 = .ok (.iload_n 2, 1) := by decide +kernel
theorem dX10_holds_60 : decode cX10_holds 60 = .ok (.if_icmp .le 7, 3) := by decide +kernel
theorem dX10_holds_63 : decode cX10_holds 63 = .ok (.iconst 1, 1) := by decide +kernel
theorem dX10_holds_64 : decode cX10_holds 64 = .ok (.goto 4, 3) := by decide +kernel
theorem dX10_holds_67 : decode cX10_holds 67 = .ok (.iconst 0, 1) := by decide +kernel
theorem dX10_holds_68 : decode cX10_holds 68 = .ok (.ireturn, 1) := by decide +kernel
theorem dX10_holds_69 : decode cX10_holds 69 = .ok (.iload_n 1, 1) := by decide +kernel
theorem dX10_holds_70 : decode cX10_holds 70 = .ok (.iload_n 2, 1) := by decide +kernel
theorem dX10_holds_71 : decode cX10_holds 71 = .ok (.if_icmp .lt 7, 3) := by decide +kernel
theorem dX10_holds_74 : decode cX10_holds 74 = .ok (.iconst 1, 1) := by decide +kernel
theorem dX10_holds_75 : decode cX10_holds 75 = .ok (.goto 4, 3) := by decide +kernel
theorem dX10_holds_78 : decode cX10_holds 78 = .ok (.iconst 0, 1) := by decide +kernel
theorem dX10_holds_79 : decode cX10_holds 79 = .ok (.ireturn, 1) := by decide +kernel
theorem dX10_holds_80 : decode cX10_holds 80 = .ok (.iload_n 1, 1) := by decide +kernel
theorem dX10_holds_81 : decode cX10_holds 81 = .ok (.iload_n 2, 1) := by decide +kernel
theorem dX10_holds_82 : decode cX10_holds 82 = .ok (.if_icmp .ne 7, 3) := by decide +kernel
theorem dX10_holds_85 : decode cX10_holds 85 = .ok (.iconst 1, 1) := by decide +kernel
theorem dX10_holds_86 : decode cX10_holds 86 = .ok (.goto 4, 3) := by decide +kernel
theorem dX10_holds_89 : decode cX10_holds 89 = .ok (.iconst 0, 1) := by decide +kernel
theorem dX10_holds_90 : decode cX10_holds 90 = .ok (.ireturn, 1) := by decide +kernel
theorem dX10_holds_91 : decode cX10_holds 91 = .ok (.iload_n 1, 1) := by decide +kernel
theorem dX10_holds_92 : decode cX10_holds 92 = .ok (.iload_n 2, 1) := by decide +kernel
theorem dX10_holds_93 : decode cX10_holds 93 = .ok (.if_icmp .eq 7, 3) := by decide +kernel
theorem dX10_holds_96 : decode cX10_holds 96 = .ok (.iconst 1, 1) := by decide +kernel
theorem dX10_holds_97 : decode cX10_holds 97 = .ok (.goto 4, 3) := by decide +kernel
theorem dX10_holds_100 : decode cX10_holds 100 = .ok (.iconst 0, 1) := by decide +kernel
theorem dX10_holds_101 : decode cX10_holds 101 = .ok (.ireturn, 1) := by decide +kernel
theorem dX10_save_0 : decode cX10_save 0 = .ok (.aload_n 1, 1) := by decide +kernel
theorem dX10_save_1 : decode cX10_save 1 = .ok (.aload_n 0, 1) := by decide +kernel
theorem dX10_save_2 : decode cX10_save 2 = .ok (.getfield 9, 3) := by decide +kernel
theorem dX10_save_5 : decode cX10_save 5 = .ok (.invokevirtual 137, 3) := by decide +kernel
theorem dX10_save_8 : decode cX10_save 8 = .ok (.aload_n 1, 1) := by decide +kernel
theorem dX10_save_9 : decode cX10_save 9 = .ok (.aload_n 0, 1) := by decide +kernel
theorem dX10_save_10 : decode cX10_save 10 = .ok (.getfield 49, 3) := by decide +kernel
theorem dX10_save_13 : decode cX10_save 13 = .ok (.invokevirtual 143, 3) := by decide +kernel
theorem dX10_save_16 : decode cX10_save 16 = .ok (.aload_n 1, 1) := by decide +kernel
theorem dX10_save_17 : decode cX10_save 17 = .ok (.aload_n 0, 1) := by decide +kernel
theorem dX10_save_18 : decode cX10_save 18 = .ok (.getfield 24, 3) := by decide +kernel
theorem dX10_save_21 : decode cX10_save 21 = .ok (.invokevirtual 137, 3) := by decide +kernel
theorem dX10_save_24 : decode cX10_save 24 = .ok (.return_, 1) := by decide +kernel
theorem dX10_restore_0 : decode cX10_restore 0 = .ok (.aload_n 1, 1) := by decide +kernel
theorem dX10_restore_1 : decode cX10_restore 1 = .ok (.aload_n 0, 1) := by decide +kernel
theorem dX10_restore_2 : decode cX10_restore 2 = .ok (.getfield 9, 3) := by decide +kernel
theorem dX10_restore_5 : decode cX10_restore 5 = .ok (.invokevirtual 147, 3) := by decide +kernel
theorem dX10_restore_8 : decode cX10_restore 8 = .ok (.aload_n 0, 1) := by decide +kernel
theorem dX10_restore_9 : decode cX10_restore 9 = .ok (.iconst 0, 1) := by decide +kernel
theorem dX10_restore_10 : decode cX10_restore 10 = .ok (.aload_n 1, 1) := by decide +kernel
theorem dX10_restore_11 : decode cX10_restore 11 = .ok (.invokevirtual 150, 3) := by decide +kernel
theorem dX10_restore_14 : decode cX10_restore 14 = .ok (.bipush 8, 2) := by decide +kernel
theorem dX10_restore_16 : decode cX10_restore 16 = .ok (.invokestatic 131, 3) := by decide +kernel
theorem dX10_restore_19 : decode cX10_restore 19 = .ok (.invokestatic 126, 3) := by decide +kernel
theorem dX10_restore_22 : decode cX10_restore 22 = .ok (.putfield 49, 3) := by decide +kernel
theorem dX10_restore_25 : decode cX10_restore 25 = .ok (.aload_n 1, 1) := by decide +kernel
theorem dX10_restore_26 : decode cX10_restore 26 = .ok (.aload_n 0, 1) := by decide +kernel
theorem dX10_restore_27 : decode cX10_restore 27 = .ok (.getfield 24, 3) := by decide +kernel
theorem dX10_restore_30 : decode cX10_restore 30 = .ok (.invokevirtual 147, 3) := by decide +kernel
theorem dX10_restore_33 : decode cX10_restore 33 = .ok (.aload_n 0, 1) := by decide +kernel
theorem dX10_restore_34 : decode cX10_restore 34 = .ok (.invokevirtual 39, 3) := by decide +kernel
theorem dX10_restore_37 : decode cX10_restore 37 = .ok (.aload_n 0, 1) := by decide +kernel
theorem dX10_restore_38 : decode cX10_restore 38 = .ok (.invokevirtual 42, 3) := by decide +kernel
theorem dX10_restore_41 : decode cX10_restore 41 = .ok (.return_, 1) := by decide +kernel
