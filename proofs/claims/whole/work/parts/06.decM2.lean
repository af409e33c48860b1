theorem dX12_lacks_1 : decode cX12_lacks 1 = .ok (.iload_n 1, 1) := by decide +kernel
theorem dX12_lacks_2 : decode cX12_lacks 2 = .ok (.invokevirtual 480, 3) := by decide +kernel
theorem dX12_lacks_5 : decode cX12_lacks 5 = .ok (.ifCond .eq 11, 3) := by decide +kernel
theorem dX12_lacks_8 : decode cX12_lacks 8 = .ok (.aload_n 0, 1) := by decide +kernel
theorem dX12_lacks_9 : decode cX12_lacks 9 = .ok (.iload_n 2, 1) := by decide +kernel
theorem dX12_lacks_10 : decode cX12_lacks 10 = .ok (.invokevirtual 392, 3) := by decide +kernel
theorem dX12_lacks_13 : decode cX12_lacks 13 = .ok (.ifCond .ne 5, 3) := by decide +kernel
theorem dX12_lacks_16 : decode cX12_lacks 16 = .ok (.iconst (-1), 1) := by decide +kernel
theorem dX12_lacks_17 : decode cX12_lacks 17 = .ok (.ireturn, 1) := by decide +kernel
theorem dX12_lacks_18 : decode cX12_lacks 18 = .ok (.aload_n 0, 1) := by decide +kernel
theorem dX12_lacks_19 : decode cX12_lacks 19 = .ok (.getfield 56, 3) := by decide +kernel
theorem dX12_lacks_22 : decode cX12_lacks 22 = .ok (.iconst 4, 1) := by decide +kernel
theorem dX12_lacks_23 : decode cX12_lacks 23 = .ok (.iload_n 2, 1) := by decide +kernel
theorem dX12_lacks_24 : decode cX12_lacks 24 = .ok (.imul, 1) := by decide +kernel
theorem dX12_lacks_25 : decode cX12_lacks 25 = .ok (.iaload, 1) := by decide +kernel
theorem dX12_lacks_26 : decode cX12_lacks 26 = .ok (.aload_n 0, 1) := by decide +kernel
theorem dX12_lacks_27 : decode cX12_lacks 27 = .ok (.iload_n 1, 1) := by decide +kernel
theorem dX12_lacks_28 : decode cX12_lacks 28 = .ok (.iconst 1, 1) := by decide +kernel
theorem dX12_lacks_29 : decode cX12_lacks 29 = .ok (.invokevirtual 483, 3) := by decide +kernel
theorem dX12_lacks_32 : decode cX12_lacks 32 = .ok (.iconst (-1), 1) := by decide +kernel
theorem dX12_lacks_33 : decode cX12_lacks 33 = .ok (.ixor, 1) := by decide +kernel
theorem dX12_lacks_34 : decode cX12_lacks 34 = .ok (.iand, 1) := by decide +kernel
theorem dX12_lacks_35 : decode cX12_lacks 35 = .ok (.istore_n 3, 1) := by decide +kernel
theorem dX12_lacks_36 : decode cX12_lacks 36 = .ok (.aload_n 0, 1) := by decide +kernel
theorem dX12_lacks_37 : decode cX12_lacks 37 = .ok (.getfield 56, 3) := by decide +kernel
theorem dX12_lacks_40 : decode cX12_lacks 40 = .ok (.iconst 4, 1) := by decide +kernel
theorem dX12_lacks_41 : decode cX12_lacks 41 = .ok (.iload_n 2, 1) := by decide +kernel
theorem dX12_lacks_42 : decode cX12_lacks 42 = .ok (.imul, 1) := by decide +kernel
theorem dX12_lacks_43 : decode cX12_lacks 43 = .ok (.iconst 3, 1) := by decide +kernel
theorem dX12_lacks_44 : decode cX12_lacks 44 = .ok (.iadd, 1) := by decide +kernel
theorem dX12_lacks_45 : decode cX12_lacks 45 = .ok (.iaload, 1) := by decide +kernel
theorem dX12_lacks_46 : decode cX12_lacks 46 = .ok (.aload_n 0, 1) := by decide +kernel
theorem dX12_lacks_47 : decode cX12_lacks 47 = .ok (.iload_n 1, 1) := by decide +kernel
theorem dX12_lacks_48 : decode cX12_lacks 48 = .ok (.iconst 2, 1) := by decide +kernel
theorem dX12_lacks_49 : decode cX12_lacks 49 = .ok (.invokevirtual 483, 3) := by decide +kernel
theorem dX12_lacks_52 : decode cX12_lacks 52 = .ok (.if_icmp .le 9, 3) := by decide +kernel
theorem dX12_lacks_55 : decode cX12_lacks 55 = .ok (.iload_n 3, 1) := by decide +kernel
theorem dX12_lacks_56 : decode cX12_lacks 56 = .ok (.ldc_w 486, 3) := by decide +kernel
theorem dX12_lacks_59 : decode cX12_lacks 59 = .ok (.ior, 1) := by decide +kernel
theorem dX12_lacks_60 : decode cX12_lacks 60 = .ok (.istore_n 3, 1) := by decide +kernel
theorem dX12_lacks_61 : decode cX12_lacks 61 = .ok (.aload_n 0, 1) := by decide +kernel
theorem dX12_lacks_62 : decode cX12_lacks 62 = .ok (.getfield 56, 3) := by decide +kernel
theorem dX12_lacks_65 : decode cX12_lacks 65 = .ok (.iconst 4, 1) := by decide +kernel
theorem dX12_lacks_66 : decode cX12_lacks 66 = .ok (.iload_n 2, 1) := by decide +kernel
theorem dX12_lacks_67 : decode cX12_lacks 67 = .ok (.imul, 1) := by decide +kernel
theorem dX12_lacks_68 : decode cX12_lacks 68 = .ok (.iconst 1, 1) := by decide +kernel
theorem dX12_lacks_69 : decode cX12_lacks 69 = .ok (.iadd, 1) := by decide +kernel
theorem dX12_lacks_70 : decode cX12_lacks 70 = .ok (.iaload, 1) := by decide +kernel
theorem dX12_lacks_71 : decode cX12_lacks 71 = .ok (.aload_n 0, 1) := by decide +kernel
theorem dX12_lacks_72 : decode cX12_lacks 72 = .ok (.iload_n 1, 1) := by decide +kernel
theorem dX12_lacks_73 : decode cX12_lacks 73 = .ok (.iconst 3, 1) := by decide +kernel
theorem dX12_lacks_74 : decode cX12_lacks 74 = .ok (.invokevirtual 483, 3) := by decide +kernel
theorem dX12_lacks_77 : decode cX12_lacks 77 = .ok (.if_icmp .le 9, 3) := by decide +kernel
theorem dX12_lacks_80 : decode cX12_lacks 80 = .ok (.iload_n 3, 1) := by decide +kernel
theorem dX12_lacks_81 : decode cX12_lacks 81 = .ok (.ldc_w 487, 3) := by decide +kernel
theorem dX12_lacks_84 : decode cX12_lacks 84 = .ok (.ior, 1) := by decide +kernel
theorem dX12_lacks_85 : decode cX12_lacks 85 = .ok (.istore_n 3, 1) := by decide +kernel
theorem dX12_lacks_86 : decode cX12_lacks 86 = .ok (.aload_n 0, 1) := by decide +kernel
theorem dX12_lacks_87 : decode cX12_lacks 87 = .ok (.getfield 56, 3) := by decide +kernel
theorem dX12_lacks_90 : decode cX12_lacks 90 = .ok (.iconst 4, 1) := by decide +kernel
theorem dX12_lacks_91 : decode cX12_lacks 91 = .ok (.iload_n 2, 1) := by decide +kernel
theorem dX12_lacks_92 : decode cX12_lacks 92 = .ok (.imul, 1) := by decide +kernel
theorem dX12_lacks_93 : decode cX12_lacks 93 = .ok (.iconst 2, 1) := by decide +kernel
theorem dX12_lacks_94 : decode cX12_lacks 94 = .ok (.iadd, 1) := by decide +kernel
theorem dX12_lacks_95 : decode cX12_lacks 95 = .ok (.iaload, 1) := by decide +kernel
theorem dX12_lacks_96 : decode cX12_lacks 96 = .ok (.aload_n 0, 1) := by decide +kernel
theorem dX12_lacks_97 : decode cX12_lacks 97 = .ok (.iload_n 1, 1) := by decide +kernel
theorem dX12_lacks_98 : decode cX12_lacks 98 = .ok (.iconst 4, 1) := by decide +kernel
theorem dX12_lacks_99 : decode cX12_lacks 99 = .ok (.invokevirtual 483, 3) := by decide +kernel
theorem dX12_lacks_102 : decode cX12_lacks 102 = .ok (.if_icmp .le 9, 3) := by decide +kernel
theorem dX12_lacks_105 : decode cX12_lacks 105 = .ok (.iload_n 3, 1) := by decide +kernel
theorem dX12_lacks_106 : decode cX12_lacks 106 = .ok (.ldc_w 488, 3) := by decide +kernel
theorem dX12_lacks_109 : decode cX12_lacks 109 = .ok (.ior, 1) := by decide +kernel
theorem dX12_lacks_110 : decode cX12_lacks 110 = .ok (.istore_n 3, 1) := by decide +kernel
theorem dX12_lacks_111 : decode cX12_lacks 111 = .ok (.iload_n 3, 1) := by decide +kernel
theorem dX12_lacks_112 : decode cX12_lacks 112 = .ok (.ireturn, 1) := by decide +kernel
theorem dX12_can_0 : decode cX12_can 0 = .ok (.aload_n 0, 1) := by decide +kernel
theorem dX12_can_1 : decode cX12_can 1 = .ok (.iload_n 1, 1) := by decide +kernel
theorem dX12_can_2 : decode cX12_can 2 = .ok (.iload_n 2, 1) := by decide +kernel
theorem dX12_can_3 : decode cX12_can 3 = .ok (.invokevirtual 489, 3) := by decide +kernel
theorem dX12_can_6 : decode cX12_can 6 = .ok (.ifCond .ne 7, 3) := by decide +kernel
theorem dX12_can_9 : decode cX12_can 9 = .ok (.iconst 1, 1) := by decide +kernel
theorem dX12_can_10 : decode cX12_can 10 = .ok (.goto 4, 3) := by decide +kernel
theorem dX12_can_13 : decode cX12_can 13 = .ok (.iconst 0, 1) := by decide +kernel
theorem dX12_can_14 : decode cX12_can 14 = .ok (.ireturn, 1) := by decide +kernel
theorem dX12_hasAsked_0 : decode cX12_hasAsked 0 = .ok (.iconst 0, 1) := by decide +kernel
theorem dX12_hasAsked_1 : decode cX12_hasAsked 1 = .ok (.istore_n 2, 1) := by decide +kernel
theorem dX12_hasAsked_2 : decode cX12_hasAsked 2 = .ok (.iload_n 2, 1) := by decide +kernel
theorem dX12_hasAsked_3 : decode cX12_hasAsked 3 = .ok (.aload_n 0, 1) := by decide +kernel
theorem dX12_hasAsked_4 : decode cX12_hasAsked 4 = .ok (.getfield 7, 3) := by decide +kernel
theorem dX12_hasAsked_7 : decode cX12_hasAsked 7 = .ok (.iconst 5, 1) := by decide +kernel
theorem dX12_hasAsked_8 : decode cX12_hasAsked 8 = .ok (.iaload, 1) := by decide +kernel
theorem dX12_hasAsked_9 : decode cX12_hasAsked 9 = .ok (.if_icmp .ge 26, 3) := by decide +kernel
theorem dX12_hasAsked_12 : decode cX12_hasAsked 12 = .ok (.aload_n 0, 1) := by decide +kernel
theorem dX12_hasAsked_13 : decode cX12_hasAsked 13 = .ok (.getfield 7, 3) := by decide +kernel
theorem dX12_hasAsked_16 : decode cX12_hasAsked 16 = .ok (.bipush 104, 2) := by decide +kernel
theorem dX12_hasAsked_18 : decode cX12_hasAsked 18 = .ok (.iconst 2, 1) := by decide +kernel
theorem dX12_hasAsked_19 : decode cX12_hasAsked 19 = .ok (.iload_n 2, 1) := by decide +kernel
theorem dX12_hasAsked_20 : decode cX12_hasAsked 20 = .ok (.imul, 1) := by decide +kernel
theorem dX12_hasAsked_21 : decode cX12_hasAsked 21 = .ok (.iadd, 1) := by decide +kernel
theorem dX12_hasAsked_22 : decode cX12_hasAsked 22 = .ok (.iaload, 1) := by decide +kernel
theorem dX12_hasAsked_23 : decode cX12_hasAsked 23 = .ok (.iload_n 1, 1) := by decide +kernel
theorem dX12_hasAsked_24 : decode cX12_hasAsked 24 = .ok (.if_icmp .ne 5, 3) := by decide +kernel
theorem dX12_hasAsked_27 : decode cX12_hasAsked 27 = .ok (.iconst 1, 1) := by decide +kernel
theorem dX12_hasAsked_28 : decode cX12_hasAsked 28 = .ok (.ireturn, 1) := by decide +kernel
theorem dX12_hasAsked_29 : decode cX12_hasAsked 29 = .ok (.iinc 2 1, 3) := by decide +kernel
theorem dX12_hasAsked_32 : decode cX12_hasAsked 32 = .ok (.goto (-30), 3) := by decide +kernel
theorem dX12_hasAsked_35 : decode cX12_hasAsked 35 = .ok (.iconst 0, 1) := by decide +kernel
theorem dX12_hasAsked_36 : decode cX12_hasAsked 36 = .ok (.ireturn, 1) := by decide +kernel
theorem dX12_barring_0 : decode cX12_barring 0 = .ok (.iconst (-1), 1) := by decide +kernel
theorem dX12_barring_1 : decode cX12_barring 1 = .ok (.istore_n 2, 1) := by decide +kernel
theorem dX12_barring_2 : decode cX12_barring 2 = .ok (.iconst 0, 1) := by decide +kernel
theorem dX12_barring_3 : decode cX12_barring 3 = .ok (.istore_n 3, 1) := by decide +kernel
theorem dX12_barring_4 : decode cX12_barring 4 = .ok (.iload_n 3, 1) := by decide +kernel
theorem dX12_barring_5 : decode cX12_barring 5 = .ok (.aload_n 0, 1) := by decide +kernel
theorem dX12_barring_6 : decode cX12_barring 6 = .ok (.getfield 7, 3) := by decide +kernel
theorem dX12_barring_9 : decode cX12_barring 9 = .ok (.iconst 5, 1) := by decide +kernel
theorem dX12_barring_10 : decode cX12_barring 10 = .ok (.iaload, 1) := by decide +kernel
theorem dX12_barring_11 : decode cX12_barring 11 = .ok (.if_icmp .ge 53, 3) := by decide +kernel
theorem dX12_barring_14 : decode cX12_barring 14 = .ok (.aload_n 0, 1) := by decide +kernel
theorem dX12_barring_15 : decode cX12_barring 15 = .ok (.getfield 7, 3) := by decide +kernel
theorem dX12_barring_18 : decode cX12_barring 18 = .ok (.bipush 104, 2) := by decide +kernel
theorem dX12_barring_20 : decode cX12_barring 20 = .ok (.iconst 2, 1) := by decide +kernel
theorem dX12_barring_21 : decode cX12_barring 21 = .ok (.iload_n 3, 1) := by decide +kernel
theorem dX12_barring_22 : decode cX12_barring 22 = .ok (.imul, 1) := by decide +kernel
theorem dX12_barring_23 : decode cX12_barring 23 = .ok (.iadd, 1) := by decide +kernel
theorem dX12_barring_24 : decode cX12_barring 24 = .ok (.iconst 1, 1) := by decide +kernel
theorem dX12_barring_25 : decode cX12_barring 25 = .ok (.iadd, 1) := by decide +kernel
theorem dX12_barring_26 : decode cX12_barring 26 = .ok (.iaload, 1) := by decide +kernel
theorem dX12_barring_27 : decode cX12_barring 27 = .ok (.istore 4, 2) := by decide +kernel
theorem dX12_barring_29 : decode cX12_barring 29 = .ok (.iload_n 2, 1) := by decide +kernel
theorem dX12_barring_30 : decode cX12_barring 30 = .ok (.ifCond .lt 9, 3) := by decide +kernel
theorem dX12_barring_33 : decode cX12_barring 33 = .ok (.iload 4, 2) := by decide +kernel
theorem dX12_barring_35 : decode cX12_barring 35 = .ok (.iload_n 2, 1) := by decide +kernel
theorem dX12_barring_36 : decode cX12_barring 36 = .ok (.if_icmp .ge 22, 3) := by decide +kernel
theorem dX12_barring_39 : decode cX12_barring 39 = .ok (.aload_n 0, 1) := by decide +kernel
theorem dX12_barring_40 : decode cX12_barring 40 = .ok (.iload 4, 2) := by decide +kernel
theorem dX12_barring_42 : decode cX12_barring 42 = .ok (.iload_n 1, 1) := by decide +kernel
theorem dX12_barring_43 : decode cX12_barring 43 = .ok (.aload_n 0, 1) := by decide +kernel
theorem dX12_barring_44 : decode cX12_barring 44 = .ok (.getfield 7, 3) := by decide +kernel
theorem dX12_barring_47 : decode cX12_barring 47 = .ok (.iconst 4, 1) := by decide +kernel
theorem dX12_barring_48 : decode cX12_barring 48 = .ok (.iaload, 1) := by decide +kernel
theorem dX12_barring_49 : decode cX12_barring 49 = .ok (.invokevirtual 471, 3) := by decide +kernel
theorem dX12_barring_52 : decode cX12_barring 52 = .ok (.ifCond .eq 6, 3) := by decide +kernel
theorem dX12_barring_55 : decode cX12_barring 55 = .ok (.iload 4, 2) := by decide +kernel
theorem dX12_barring_57 : decode cX12_barring 57 = .ok (.istore_n 2, 1) := by decide +kernel
theorem dX12_barring_58 : decode cX12_barring 58 = .ok (.iinc 3 1, 3) := by decide +kernel
theorem dX12_barring_61 : decode cX12_barring 61 = .ok (.goto (-57), 3) := by decide +kernel
theorem dX12_barring_64 : decode cX12_barring 64 = .ok (.iload_n 2, 1) := by decide +kernel
theorem dX12_barring_65 : decode cX12_barring 65 = .ok (.ireturn, 1) := by decide +kernel
theorem dX12_barred_0 : decode cX12_barred 0 = .ok (.aload_n 0, 1) := by decide +kernel
theorem dX12_barred_1 : decode cX12_barred 1 = .ok (.iload_n 1, 1) := by decide +kernel
theorem dX12_barred_2 : decode cX12_barred 2 = .ok (.invokevirtual 392, 3) := by decide +kernel
theorem dX12_barred_5 : decode cX12_barred 5 = .ok (.ifCond .eq 11, 3) := by decide +kernel
theorem dX12_barred_8 : decode cX12_barred 8 = .ok (.aload_n 0, 1) := by decide +kernel
theorem dX12_barred_9 : decode cX12_barred 9 = .ok (.iload_n 1, 1) := by decide +kernel
theorem dX12_barred_10 : decode cX12_barred 10 = .ok (.invokevirtual 492, 3) := by decide +kernel
theorem dX12_barred_13 : decode cX12_barred 13 = .ok (.goto 4, 3) := by decide +kernel
theorem dX12_barred_16 : decode cX12_barred 16 = .ok (.iconst (-1), 1) := by decide +kernel
theorem dX12_barred_17 : decode cX12_barred 17 = .ok (.ireturn, 1) := by decide +kernel
theorem dX12_why_0 : decode cX12_why 0 = .ok (.aload_n 0, 1) := by decide +kernel
theorem dX12_why_1 : decode cX12_why 1 = .ok (.iload_n 1, 1) := by decide +kernel
theorem dX12_why_2 : decode cX12_why 2 = .ok (.invokevirtual 480, 3) := by decide +kernel
theorem dX12_why_5 : decode cX12_why 5 = .ok (.ifCond .eq 11, 3) := by decide +kernel
theorem dX12_why_8 : decode cX12_why 8 = .ok (.aload_n 0, 1) := by decide +kernel
theorem dX12_why_9 : decode cX12_why 9 = .ok (.iload_n 2, 1) := by decide +kernel
theorem dX12_why_10 : decode cX12_why 10 = .ok (.invokevirtual 392, 3) := by decide +kernel
theorem dX12_why_13 : decode cX12_why 13 = .ok (.ifCond .ne 5, 3) := by decide +kernel
theorem dX12_why_16 : decode cX12_why 16 = .ok (.iconst (-1), 1) := by decide +kernel
theorem dX12_why_17 : decode cX12_why 17 = .ok (.ireturn, 1) := by decide +kernel
theorem dX12_why_18 : decode cX12_why 18 = .ok (.aload_n 0, 1) := by decide +kernel
theorem dX12_why_19 : decode cX12_why 19 = .ok (.iload_n 1, 1) := by decide +kernel
theorem dX12_why_20 : decode cX12_why 20 = .ok (.invokevirtual 495, 3) := by decide +kernel
theorem dX12_why_23 : decode cX12_why 23 = .ok (.ifCond .eq 5, 3) := by decide +kernel
theorem dX12_why_26 : decode cX12_why 26 = .ok (.iconst 1, 1) := by decide +kernel
theorem dX12_why_27 : decode cX12_why 27 = .ok (.ireturn, 1) := by decide +kernel
theorem dX12_why_28 : decode cX12_why 28 = .ok (.aload_n 0, 1) := by decide +kernel
theorem dX12_why_29 : decode cX12_why 29 = .ok (.iload_n 1, 1) := by decide +kernel
theorem dX12_why_30 : decode cX12_why 30 = .ok (.iload_n 2, 1) := by decide +kernel
theorem dX12_why_31 : decode cX12_why 31 = .ok (.invokevirtual 498, 3) := by decide +kernel
theorem dX12_why_34 : decode cX12_why 34 = .ok (.ifCond .ne 5, 3) := by decide +kernel
theorem dX12_why_37 : decode cX12_why 37 = .ok (.iconst 2, 1) := by decide +kernel
theorem dX12_why_38 : decode cX12_why 38 = .ok (.ireturn, 1) := by decide +kernel
theorem dX12_why_39 : decode cX12_why 39 = .ok (.aload_n 0, 1) := by decide +kernel
theorem dX12_why_40 : decode cX12_why 40 = .ok (.invokevirtual 396, 3) := by decide +kernel
theorem dX12_why_43 : decode cX12_why 43 = .ok (.aload_n 0, 1) := by decide +kernel
theorem dX12_why_44 : decode cX12_why 44 = .ok (.iload_n 2, 1) := by decide +kernel
theorem dX12_why_45 : decode cX12_why 45 = .ok (.invokevirtual 399, 3) := by decide +kernel
theorem dX12_why_48 : decode cX12_why 48 = .ok (.aload_n 0, 1) := by decide +kernel
theorem dX12_why_49 : decode cX12_why 49 = .ok (.getfield 7, 3) := by decide +kernel
theorem dX12_why_52 : decode cX12_why 52 = .ok (.iconst 3, 1) := by decide +kernel
theorem dX12_why_53 : decode cX12_why 53 = .ok (.iaload, 1) := by decide +kernel
theorem dX12_why_54 : decode cX12_why 54 = .ok (.i2l, 1) := by decide +kernel
theorem dX12_why_55 : decode cX12_why 55 = .ok (.lcmp, 1) := by decide +kernel
theorem dX12_why_56 : decode cX12_why 56 = .ok (.ifCond .eq 5, 3) := by decide +kernel
theorem dX12_why_59 : decode cX12_why 59 = .ok (.iconst 3, 1) := by decide +kernel
theorem dX12_why_60 : decode cX12_why 60 = .ok (.ireturn, 1) := by decide +kernel
theorem dX12_why_61 : decode cX12_why 61 = .ok (.aload_n 0, 1) := by decide +kernel
theorem dX12_why_62 : decode cX12_why 62 = .ok (.iload_n 2, 1) := by decide +kernel
theorem dX12_why_63 : decode cX12_why 63 = .ok (.invokevirtual 492, 3) := by decide +kernel
theorem dX12_why_66 : decode cX12_why 66 = .ok (.ifCond .lt 7, 3) := by decide +kernel
theorem dX12_why_69 : decode cX12_why 69 = .ok (.iconst 4, 1) := by decide +kernel
theorem dX12_why_70 : decode cX12_why 70 = .ok (.goto 4, 3) := by decide +kernel
theorem dX12_why_73 : decode cX12_why 73 = .ok (.iconst 0, 1) := by decide +kernel
theorem dX12_why_74 : decode cX12_why 74 = .ok (.ireturn, 1) := by decide +kernel
theorem dX12_ask_0 : decode cX12_ask 0 = .ok (.aload_n 0, 1) := by decide +kernel
theorem dX12_ask_1 : decode cX12_ask 1 = .ok (.iload_n 1, 1) := by decide +kernel
theorem dX12_ask_2 : decode cX12_ask 2 = .ok (.iload_n 2, 1) := by decide +kernel
theorem dX12_ask_3 : decode cX12_ask 3 = .ok (.invokevirtual 501, 3) := by decide +kernel
theorem dX12_ask_6 : decode cX12_ask 6 = .ok (.ifCond .eq 5, 3) := by decide +kernel
theorem dX12_ask_9 : decode cX12_ask 9 = .ok (.iconst (-1), 1) := by decide +kernel
theorem dX12_ask_10 : decode cX12_ask 10 = .ok (.ireturn, 1) := by decide +kernel
theorem dX12_ask_11 : decode cX12_ask 11 = .ok (.aload_n 0, 1) := by decide +kernel
theorem dX12_ask_12 : decode cX12_ask 12 = .ok (.getfield 7, 3) := by decide +kernel
theorem dX12_ask_15 : decode cX12_ask 15 = .ok (.bipush 104, 2) := by decide +kernel
theorem dX12_ask_17 : decode cX12_ask 17 = .ok (.iconst 2, 1) := by decide +kernel
theorem dX12_ask_18 : decode cX12_ask 18 = .ok (.aload_n 0, 1) := by decide +kernel
theorem dX12_ask_19 : decode cX12_ask 19 = .ok (.getfield 7, 3) := by decide +kernel
theorem dX12_ask_22 : decode cX12_ask 22 = .ok (.iconst 5, 1) := by decide +kernel
theorem dX12_ask_23 : decode cX12_ask 23 = .ok (.iaload, 1) := by decide +kernel
theorem dX12_ask_24 : decode cX12_ask 24 = .ok (.imul, 1) := by decide +kernel
theorem dX12_ask_25 : decode cX12_ask 25 = .ok (.iadd, 1) := by decide +kernel
theorem dX12_ask_26 : decode cX12_ask 26 = .ok (.iload_n 1, 1) := by decide +kernel
theorem dX12_ask_27 : decode cX12_ask 27 = .ok (.iastore, 1) := by decide +kernel
theorem dX12_ask_28 : decode cX12_ask 28 = .ok (.aload_n 0, 1) := by decide +kernel
theorem dX12_ask_29 : decode cX12_ask 29 = .ok (.getfield 7, 3) := by decide +kernel
theorem dX12_ask_32 : decode cX12_ask 32 = .ok (.bipush 104, 2) := by decide +kernel
theorem dX12_ask_34 : decode cX12_ask 34 = .ok (.iconst 2, 1) := by decide +kernel
theorem dX12_ask_35 : decode cX12_ask 35 = .ok (.aload_n 0, 1) := by decide +kernel
theorem dX12_ask_36 : decode cX12_ask 36 = .ok (.getfield 7, 3) := by decide +kernel
theorem dX12_ask_39 : decode cX12_ask 39 = .ok (.iconst 5, 1) := by decide +kernel
theorem dX12_ask_40 : decode cX12_ask 40 = .ok (.iaload, 1) := by decide +kernel
theorem dX12_ask_41 : decode cX12_ask 41 = .ok (.imul, 1) := by decide +kernel
theorem dX12_ask_42 : decode cX12_ask 42 = .ok (.iadd, 1) := by decide +kernel
theorem dX12_ask_43 : decode cX12_ask 43 = .ok (.iconst 1, 1) := by decide +kernel
theorem dX12_ask_44 : decode cX12_ask 44 = .ok (.iadd, 1) := by decide +kernel
theorem dX12_ask_45 : decode cX12_ask 45 = .ok (.iload_n 2, 1) := by decide +kernel
theorem dX12_ask_46 : decode cX12_ask 46 = .ok (.iastore, 1) := by decide +kernel
theorem dX12_ask_47 : decode cX12_ask 47 = .ok (.aload_n 0, 1) := by decide +kernel
theorem dX12_ask_48 : decode cX12_ask 48 = .ok (.getfield 7, 3) := by decide +kernel
theorem dX12_ask_51 : decode cX12_ask 51 = .ok (.iconst 5, 1) := by decide +kernel
theorem dX12_ask_52 : decode cX12_ask 52 = .ok (.dup2, 1) := by decide +kernel
theorem dX12_ask_53 : decode cX12_ask 53 = .ok (.iaload, 1) := by decide +kernel
theorem dX12_ask_54 : decode cX12_ask 54 = .ok (.iconst 1, 1) := by decide +kernel
theorem dX12_ask_55 : decode cX12_ask 55 = .ok (.iadd, 1) := by decide +kernel
theorem dX12_ask_56 : decode cX12_ask 56 = .ok (.iastore, 1) := by decide +kernel
theorem dX12_ask_57 : decode cX12_ask 57 = .ok (.aload_n 0, 1) := by decide +kernel
theorem dX12_ask_58 : decode cX12_ask 58 = .ok (.getfield 7, 3) := by decide +kernel
theorem dX12_ask_61 : decode cX12_ask 61 = .ok (.iconst 5, 1) := by decide +kernel
theorem dX12_ask_62 : decode cX12_ask 62 = .ok (.iaload, 1) := by decide +kernel
theorem dX12_ask_63 : decode cX12_ask 63 = .ok (.ireturn, 1) := by decide +kernel
theorem dX12_undo_0 : decode cX12_undo 0 = .ok (.aload_n 0, 1) := by decide +kernel
theorem dX12_undo_1 : decode cX12_undo 1 = .ok (.getfield 7, 3) := by decide +kernel
theorem dX12_undo_4 : decode cX12_undo 4 = .ok (.iconst 5, 1) := by decide +kernel
theorem dX12_undo_5 : decode cX12_undo 5 = .ok (.iaload, 1) := by decide +kernel
theorem dX12_undo_6 : decode cX12_undo 6 = .ok (.ifCond .ne 5, 3) := by decide +kernel
theorem dX12_undo_9 : decode cX12_undo 9 = .ok (.iconst (-1), 1) := by decide +kernel
theorem dX12_undo_10 : decode cX12_undo 10 = .ok (.ireturn, 1) := by decide +kernel
theorem dX12_undo_11 : decode cX12_undo 11 = .ok (.aload_n 0, 1) := by decide +kernel
theorem dX12_undo_12 : decode cX12_undo 12 = .ok (.getfield 7, 3) := by decide +kernel
theorem dX12_undo_15 : decode cX12_undo 15 = .ok (.iconst 5, 1) := by decide +kernel
theorem dX12_undo_16 : decode cX12_undo 16 = .ok (.dup2, 1) := by decide +kernel
theorem dX12_undo_17 : decode cX12_undo 17 = .ok (.iaload, 1) := by decide +kernel
theorem dX12_undo_18 : decode cX12_undo 18 = .ok (.iconst 1, 1) := by decide +kernel
theorem dX12_undo_19 : decode cX12_undo 19 = .ok (.isub, 1) := by decide +kernel
theorem dX12_undo_20 : decode cX12_undo 20 = .ok (.iastore, 1) := by decide +kernel
theorem dX12_undo_21 : decode cX12_undo 21 = .ok (.aload_n 0, 1) := by decide +kernel
theorem dX12_undo_22 : decode cX12_undo 22 = .ok (.getfield 7, 3) := by decide +kernel
theorem dX12_undo_25 : decode cX12_undo 25 = .ok (.iconst 5, 1) := by decide +kernel
theorem dX12_undo_26 : decode cX12_undo 26 = .ok (.iaload, 1) := by decide +kernel
theorem dX12_undo_27 : decode cX12_undo 27 = .ok (.ireturn, 1) := by decide +kernel
theorem dX12_asked_0 : decode cX12_asked 0 = .ok (.iload_n 1, 1) := by decide +kernel
theorem dX12_asked_1 : decode cX12_asked 1 = .ok (.iconst (-1), 1) := by decide +kernel
theorem dX12_asked_2 : decode cX12_asked 2 = .ok (.if_icmp .ne 10, 3) := by decide +kernel
theorem dX12_asked_5 : decode cX12_asked 5 = .ok (.aload_n 0, 1) := by decide +kernel
theorem dX12_asked_6 : decode cX12_asked 6 = .ok (.getfield 7, 3) := by decide +kernel
theorem dX12_asked_9 : decode cX12_asked 9 = .ok (.iconst 5, 1) := by decide +kernel
theorem dX12_asked_10 : decode cX12_asked 10 = .ok (.iaload, 1) := by decide +kernel
theorem dX12_asked_11 : decode cX12_asked 11 = .ok (.ireturn, 1) := by decide +kernel
theorem dX12_asked_12 : decode cX12_asked 12 = .ok (.iload_n 1, 1) := by decide +kernel
theorem dX12_asked_13 : decode cX12_asked 13 = .ok (.iconst 0, 1) := by decide +kernel
theorem dX12_asked_14 : decode cX12_asked 14 = .ok (.aload_n 0, 1) := by decide +kernel
theorem dX12_asked_15 : decode cX12_asked 15 = .ok (.getfield 7, 3) := by decide +kernel
theorem dX12_asked_18 : decode cX12_asked 18 = .ok (.iconst 5, 1) := by decide +kernel
theorem dX12_asked_19 : decode cX12_asked 19 = .ok (.iaload, 1) := by decide +kernel
theorem dX12_asked_20 : decode cX12_asked 20 = .ok (.iconst 1, 1) := by decide +kernel
theorem dX12_asked_21 : decode cX12_asked 21 = .ok (.isub, 1) := by decide +kernel
theorem dX12_asked_22 : decode cX12_asked 22 = .ok (.invokestatic 126, 3) := by decide +kernel
theorem dX12_asked_25 : decode cX12_asked 25 = .ok (.ifCond .eq 27, 3) := by decide +kernel
theorem dX12_asked_28 : decode cX12_asked 28 = .ok (.aload_n 0, 1) := by decide +kernel
theorem dX12_asked_29 : decode cX12_asked 29 = .ok (.getfield 7, 3) := by decide +kernel
theorem dX12_asked_32 : decode cX12_asked 32 = .ok (.bipush 104, 2) := by decide +kernel
theorem dX12_asked_34 : decode cX12_asked 34 = .ok (.iconst 2, 1) := by decide +kernel
theorem dX12_asked_35 : decode cX12_asked 35 = .ok (.iload_n 1, 1) := by decide +kernel
theorem dX12_asked_36 : decode cX12_asked 36 = .ok (.imul, 1) := by decide +kernel
theorem dX12_asked_37 : decode cX12_asked 37 = .ok (.iadd, 1) := by decide +kernel
theorem dX12_asked_38 : decode cX12_asked 38 = .ok (.iload_n 2, 1) := by decide +kernel
theorem dX12_asked_39 : decode cX12_asked 39 = .ok (.ifCond .eq 7, 3) := by decide +kernel
theorem dX12_asked_42 : decode cX12_asked 42 = .ok (.iconst 1, 1) := by decide +kernel
theorem dX12_asked_43 : decode cX12_asked 43 = .ok (.goto 4, 3) := by decide +kernel
theorem dX12_asked_46 : decode cX12_asked 46 = .ok (.iconst 0, 1) := by decide +kernel
theorem dX12_asked_47 : decode cX12_asked 47 = .ok (.iadd, 1) := by decide +kernel
theorem dX12_asked_48 : decode cX12_asked 48 = .ok (.iaload, 1) := by decide +kernel
theorem dX12_asked_49 : decode cX12_asked 49 = .ok (.goto 4, 3) := by decide +kernel
theorem dX12_asked_52 : decode cX12_asked 52 = .ok (.iconst (-1), 1) := by decide +kernel
theorem dX12_asked_53 : decode cX12_asked 53 = .ok (.ireturn, 1) := by decide +kernel
theorem dX12_asksLowest_0 : decode cX12_asksLowest 0 = .ok (.iconst 0, 1) := by decide +kernel
theorem dX12_asksLowest_1 : decode cX12_asksLowest 1 = .ok (.istore_n 2, 1) := by decide +kernel
theorem dX12_asksLowest_2 : decode cX12_asksLowest 2 = .ok (.iload_n 2, 1) := by decide +kernel
theorem dX12_asksLowest_3 : decode cX12_asksLowest 3 = .ok (.aload_n 0, 1) := by decide +kernel
theorem dX12_asksLowest_4 : decode cX12_asksLowest 4 = .ok (.getfield 7, 3) := by decide +kernel
theorem dX12_asksLowest_7 : decode cX12_asksLowest 7 = .ok (.iconst 0, 1) := by decide +kernel
theorem dX12_asksLowest_8 : decode cX12_asksLowest 8 = .ok (.iaload, 1) := by decide +kernel
theorem dX12_asksLowest_9 : decode cX12_asksLowest 9 = .ok (.if_icmp .ge 20, 3) := by decide +kernel
theorem dX12_asksLowest_12 : decode cX12_asksLowest 12 = .ok (.aload_n 0, 1) := by decide +kernel
theorem dX12_asksLowest_13 : decode cX12_asksLowest 13 = .ok (.iload_n 1, 1) := by decide +kernel
theorem dX12_asksLowest_14 : decode cX12_asksLowest 14 = .ok (.iload_n 2, 1) := by decide +kernel
theorem dX12_asksLowest_15 : decode cX12_asksLowest 15 = .ok (.invokevirtual 358, 3) := by decide +kernel
theorem dX12_asksLowest_18 : decode cX12_asksLowest 18 = .ok (.ifCond .lt 5, 3) := by decide +kernel
theorem dX12_asksLowest_21 : decode cX12_asksLowest 21 = .ok (.iconst 1, 1) := by decide +kernel
theorem dX12_asksLowest_22 : decode cX12_asksLowest 22 = .ok (.ireturn, 1) := by decide +kernel
theorem dX12_asksLowest_23 : decode cX12_asksLowest 23 = .ok (.iinc 2 1, 3) := by decide +kernel
theorem dX12_asksLowest_26 : decode cX12_asksLowest 26 = .ok (.goto (-24), 3) := by decide +kernel
theorem dX12_asksLowest_29 : decode cX12_asksLowest 29 = .ok (.iconst 0, 1) := by decide +kernel
theorem dX12_asksLowest_30 : decode cX12_asksLowest 30 = .ok (.ireturn, 1) := by decide +kernel
theorem dX12_youngest_0 : decode cX12_youngest 0 = .ok (.iconst (-1), 1) := by decide +kernel
theorem dX12_youngest_1 : decode cX12_youngest 1 = .ok (.istore_n 2, 1) := by decide +kernel
theorem dX12_youngest_2 : decode cX12_youngest 2 = .ok (.iconst 0, 1) := by decide +kernel
theorem dX12_youngest_3 : decode cX12_youngest 3 = .ok (.istore_n 3, 1) := by decide +kernel
theorem dX12_youngest_4 : decode cX12_youngest 4 = .ok (.iload_n 3, 1) := by decide +kernel
theorem dX12_youngest_5 : decode cX12_youngest 5 = .ok (.aload_n 0, 1) := by decide +kernel
theorem dX12_youngest_6 : decode cX12_youngest 6 = .ok (.getfield 7, 3) := by decide +kernel
theorem dX12_youngest_9 : decode cX12_youngest 9 = .ok (.iconst 2, 1) := by decide +kernel
theorem dX12_youngest_10 : decode cX12_youngest 10 = .ok (.iaload, 1) := by decide +kernel
theorem dX12_youngest_11 : decode cX12_youngest 11 = .ok (.if_icmp .ge 38, 3) := by decide +kernel
theorem dX12_youngest_14 : decode cX12_youngest 14 = .ok (.iload_n 1, 1) := by decide +kernel
theorem dX12_youngest_15 : decode cX12_youngest 15 = .ok (.iload_n 3, 1) := by decide +kernel
theorem dX12_youngest_16 : decode cX12_youngest 16 = .ok (.invokestatic 373, 3) := by decide +kernel
theorem dX12_youngest_19 : decode cX12_youngest 19 = .ok (.ifCond .eq 24, 3) := by decide +kernel
theorem dX12_youngest_22 : decode cX12_youngest 22 = .ok (.iload_n 2, 1) := by decide +kernel
theorem dX12_youngest_23 : decode cX12_youngest 23 = .ok (.ifCond .lt 18, 3) := by decide +kernel
theorem dX12_youngest_26 : decode cX12_youngest 26 = .ok (.aload_n 0, 1) := by decide +kernel
theorem dX12_youngest_27 : decode cX12_youngest 27 = .ok (.iload_n 3, 1) := by decide +kernel
theorem dX12_youngest_28 : decode cX12_youngest 28 = .ok (.iconst 0, 1) := by decide +kernel
theorem dX12_youngest_29 : decode cX12_youngest 29 = .ok (.invokevirtual 483, 3) := by decide +kernel
theorem dX12_youngest_32 : decode cX12_youngest 32 = .ok (.aload_n 0, 1) := by decide +kernel
theorem dX12_youngest_33 : decode cX12_youngest 33 = .ok (.iload_n 2, 1) := by decide +kernel
theorem dX12_youngest_34 : decode cX12_youngest 34 = .ok (.iconst 0, 1) := by decide +kernel
theorem dX12_youngest_35 : decode cX12_youngest 35 = .ok (.invokevirtual 483, 3) := by decide +kernel
theorem dX12_youngest_38 : decode cX12_youngest 38 = .ok (.if_icmp .ge 5, 3) := by decide +kernel
theorem dX12_youngest_41 : decode cX12_youngest 41 = .ok (.iload_n 3, 1) := by decide +kernel
theorem dX12_youngest_42 : decode cX12_youngest 42 = .ok (.istore_n 2, 1) := by decide +kernel
theorem dX12_youngest_43 : decode cX12_youngest 43 = .ok (.iinc 3 1, 3) := by decide +kernel
theorem dX12_youngest_46 : decode cX12_youngest 46 = .ok (.goto (-42), 3) := by decide +kernel
theorem dX12_youngest_49 : decode cX12_youngest 49 = .ok (.iload_n 2, 1) := by decide +kernel
theorem dX12_youngest_50 : decode cX12_youngest 50 = .ok (.ireturn, 1) := by decide +kernel
theorem dX12_nth_0 : decode cX12_nth 0 = .ok (.iload_n 2, 1) := by decide +kernel
theorem dX12_nth_1 : decode cX12_nth 1 = .ok (.istore_n 3, 1) := by decide +kernel
theorem dX12_nth_2 : decode cX12_nth 2 = .ok (.iconst 0, 1) := by decide +kernel
theorem dX12_nth_3 : decode cX12_nth 3 = .ok (.istore 4, 2) := by decide +kernel
theorem dX12_nth_5 : decode cX12_nth 5 = .ok (.iload_n 1, 1) := by decide +kernel
theorem dX12_nth_6 : decode cX12_nth 6 = .ok (.iload 4, 2) := by decide +kernel
theorem dX12_nth_8 : decode cX12_nth 8 = .ok (.invokestatic 373, 3) := by decide +kernel
theorem dX12_nth_11 : decode cX12_nth 11 = .ok (.ifCond .eq 7, 3) := by decide +kernel
theorem dX12_nth_14 : decode cX12_nth 14 = .ok (.iload_n 3, 1) := by decide +kernel
theorem dX12_nth_15 : decode cX12_nth 15 = .ok (.ifCond .le 26, 3) := by decide +kernel
theorem dX12_nth_18 : decode cX12_nth 18 = .ok (.iload_n 3, 1) := by decide +kernel
theorem dX12_nth_19 : decode cX12_nth 19 = .ok (.iload_n 1, 1) := by decide +kernel
theorem dX12_nth_20 : decode cX12_nth 20 = .ok (.iload 4, 2) := by decide +kernel
theorem dX12_nth_22 : decode cX12_nth 22 = .ok (.invokestatic 373, 3) := by decide +kernel
theorem dX12_nth_25 : decode cX12_nth 25 = .ok (.ifCond .eq 7, 3) := by decide +kernel
theorem dX12_nth_28 : decode cX12_nth 28 = .ok (.iconst 1, 1) := by decide +kernel
theorem dX12_nth_29 : decode cX12_nth 29 = .ok (.goto 4, 3) := by decide +kernel
theorem dX12_nth_32 : decode cX12_nth 32 = .ok (.iconst 0, 1) := by decide +kernel
theorem dX12_nth_33 : decode cX12_nth 33 = .ok (.isub, 1) := by decide +kernel
theorem dX12_nth_34 : decode cX12_nth 34 = .ok (.istore_n 3, 1) := by decide +kernel
theorem dX12_nth_35 : decode cX12_nth 35 = .ok (.iinc 4 1, 3) := by decide +kernel
theorem dX12_nth_38 : decode cX12_nth 38 = .ok (.goto (-33), 3) := by decide +kernel
theorem dX12_nth_41 : decode cX12_nth 41 = .ok (.iload 4, 2) := by decide +kernel
theorem dX12_nth_43 : decode cX12_nth 43 = .ok (.ireturn, 1) := by decide +kernel
theorem dX12_waiting_0 : decode cX12_waiting 0 = .ok (.iconst 0, 1) := by decide +kernel
theorem dX12_waiting_1 : decode cX12_waiting 1 = .ok (.istore_n 1, 1) := by decide +kernel
theorem dX12_waiting_2 : decode cX12_waiting 2 = .ok (.iconst 0, 1) := by decide +kernel
theorem dX12_waiting_3 : decode cX12_waiting 3 = .ok (.istore_n 2, 1) := by decide +kernel
theorem dX12_waiting_4 : decode cX12_waiting 4 = .ok (.iload_n 2, 1) := by decide +kernel
theorem dX12_waiting_5 : decode cX12_waiting 5 = .ok (.aload_n 0, 1) := by decide +kernel
theorem dX12_waiting_6 : decode cX12_waiting 6 = .ok (.getfield 7, 3) := by decide +kernel
theorem dX12_waiting_9 : decode cX12_waiting 9 = .ok (.iconst 2, 1) := by decide +kernel
theorem dX12_waiting_10 : decode cX12_waiting 10 = .ok (.iaload, 1) := by decide +kernel
theorem dX12_waiting_11 : decode cX12_waiting 11 = .ok (.if_icmp .ge 27, 3) := by decide +kernel
theorem dX12_waiting_14 : decode cX12_waiting 14 = .ok (.iload_n 1, 1) := by decide +kernel
theorem dX12_waiting_15 : decode cX12_waiting 15 = .ok (.aload_n 0, 1) := by decide +kernel
theorem dX12_waiting_16 : decode cX12_waiting 16 = .ok (.iload_n 2, 1) := by decide +kernel
theorem dX12_waiting_17 : decode cX12_waiting 17 = .ok (.invokevirtual 495, 3) := by decide +kernel
theorem dX12_waiting_20 : decode cX12_waiting 20 = .ok (.ifCond .eq 7, 3) := by decide +kernel
theorem dX12_waiting_23 : decode cX12_waiting 23 = .ok (.iconst 0, 1) := by decide +kernel
theorem dX12_waiting_24 : decode cX12_waiting 24 = .ok (.goto 6, 3) := by decide +kernel
theorem dX12_waiting_27 : decode cX12_waiting 27 = .ok (.iconst 1, 1) := by decide +kernel
theorem dX12_waiting_28 : decode cX12_waiting 28 = .ok (.iload_n 2, 1) := by decide +kernel
theorem dX12_waiting_29 : decode cX12_waiting 29 = .ok (.ishl, 1) := by decide +kernel
theorem dX12_waiting_30 : decode cX12_waiting 30 = .ok (.ior, 1) := by decide +kernel
theorem dX12_waiting_31 : decode cX12_waiting 31 = .ok (.istore_n 1, 1) := by decide +kernel
theorem dX12_waiting_32 : decode cX12_waiting 32 = .ok (.iinc 2 1, 3) := by decide +kernel
theorem dX12_waiting_35 : decode cX12_waiting 35 = .ok (.goto (-31), 3) := by decide +kernel
theorem dX12_waiting_38 : decode cX12_waiting 38 = .ok (.iload_n 1, 1) := by decide +kernel
theorem dX12_waiting_39 : decode cX12_waiting 39 = .ok (.ireturn, 1) := by decide +kernel
theorem dX12_morning_0 : decode cX12_morning 0 = .ok (.iload_n 1, 1) := by decide +kernel
theorem dX12_morning_1 : decode cX12_morning 1 = .ok (.iconst (-1), 1) := by decide +kernel
theorem dX12_morning_2 : decode cX12_morning 2 = .ok (.sipush 9999, 3) := by decide +kernel
theorem dX12_morning_5 : decode cX12_morning 5 = .ok (.invokestatic 126, 3) := by decide +kernel
theorem dX12_morning_8 : decode cX12_morning 8 = .ok (.ifCond .ne 6, 3) := by decide +kernel
theorem dX12_morning_11 : decode cX12_morning 11 = .ok (.bipush (-2), 2) := by decide +kernel
theorem dX12_morning_13 : decode cX12_morning 13 = .ok (.ireturn, 1) := by decide +kernel
theorem dX12_morning_14 : decode cX12_morning 14 = .ok (.aload_n 0, 1) := by decide +kernel
theorem dX12_morning_15 : decode cX12_morning 15 = .ok (.invokevirtual 504, 3) := by decide +kernel
theorem dX12_morning_18 : decode cX12_morning 18 = .ok (.istore_n 2, 1) := by decide +kernel
theorem dX12_morning_19 : decode cX12_morning 19 = .ok (.iconst 3, 1) := by decide +kernel
theorem dX12_morning_20 : decode cX12_morning 20 = .ok (.iload_n 1, 1) := by decide +kernel
theorem dX12_morning_21 : decode cX12_morning 21 = .ok (.imul, 1) := by decide +kernel
theorem dX12_morning_22 : decode cX12_morning 22 = .ok (.bipush 7, 2) := by decide +kernel
theorem dX12_morning_24 : decode cX12_morning 24 = .ok (.iadd, 1) := by decide +kernel
theorem dX12_morning_25 : decode cX12_morning 25 = .ok (.istore_n 3, 1) := by decide +kernel
theorem dX12_morning_26 : decode cX12_morning 26 = .ok (.iconst 0, 1) := by decide +kernel
theorem dX12_morning_27 : decode cX12_morning 27 = .ok (.istore 4, 2) := by decide +kernel
theorem dX12_morning_29 : decode cX12_morning 29 = .ok (.iload_n 2, 1) := by decide +kernel
theorem dX12_morning_30 : decode cX12_morning 30 = .ok (.ifCond .eq 73, 3) := by decide +kernel
theorem dX12_morning_33 : decode cX12_morning 33 = .ok (.iload_n 1, 1) := by decide +kernel
theorem dX12_morning_34 : decode cX12_morning 34 = .ok (.iconst (-1), 1) := by decide +kernel
theorem dX12_morning_35 : decode cX12_morning 35 = .ok (.if_icmp .ne 11, 3) := by decide +kernel
theorem dX12_morning_38 : decode cX12_morning 38 = .ok (.aload_n 0, 1) := by decide +kernel
theorem dX12_morning_39 : decode cX12_morning 39 = .ok (.iload_n 2, 1) := by decide +kernel
theorem dX12_morning_40 : decode cX12_morning 40 = .ok (.invokevirtual 507, 3) := by decide +kernel
theorem dX12_morning_43 : decode cX12_morning 43 = .ok (.goto 14, 3) := by decide +kernel
theorem dX12_morning_46 : decode cX12_morning 46 = .ok (.aload_n 0, 1) := by decide +kernel
theorem dX12_morning_47 : decode cX12_morning 47 = .ok (.iload_n 2, 1) := by decide +kernel
theorem dX12_morning_48 : decode cX12_morning 48 = .ok (.iload_n 3, 1) := by decide +kernel
theorem dX12_morning_49 : decode cX12_morning 49 = .ok (.iload_n 2, 1) := by decide +kernel
theorem dX12_morning_50 : decode cX12_morning 50 = .ok (.invokestatic 510, 3) := by decide +kernel
theorem dX12_morning_53 : decode cX12_morning 53 = .ok (.irem, 1) := by decide +kernel
theorem dX12_morning_54 : decode cX12_morning 54 = .ok (.invokevirtual 513, 3) := by decide +kernel
theorem dX12_morning_57 : decode cX12_morning 57 = .ok (.istore 5, 2) := by decide +kernel
theorem dX12_morning_59 : decode cX12_morning 59 = .ok (.iload_n 3, 1) := by decide +kernel
theorem dX12_morning_60 : decode cX12_morning 60 = .ok (.sipush 131, 3) := by decide +kernel
theorem dX12_morning_63 : decode cX12_morning 63 = .ok (.imul, 1) := by decide +kernel
theorem dX12_morning_64 : decode cX12_morning 64 = .ok (.bipush 89, 2) := by decide +kernel
theorem dX12_morning_66 : decode cX12_morning 66 = .ok (.iadd, 1) := by decide +kernel
theorem dX12_morning_67 : decode cX12_morning 67 = .ok (.sipush 30011, 3) := by decide +kernel
theorem dX12_morning_70 : decode cX12_morning 70 = .ok (.irem, 1) := by decide +kernel
theorem dX12_morning_71 : decode cX12_morning 71 = .ok (.istore_n 3, 1) := by decide +kernel
theorem dX12_morning_72 : decode cX12_morning 72 = .ok (.iload_n 2, 1) := by decide +kernel
theorem dX12_morning_73 : decode cX12_morning 73 = .ok (.iconst 1, 1) := by decide +kernel
theorem dX12_morning_74 : decode cX12_morning 74 = .ok (.iload 5, 2) := by decide +kernel
theorem dX12_morning_76 : decode cX12_morning 76 = .ok (.ishl, 1) := by decide +kernel
theorem dX12_morning_77 : decode cX12_morning 77 = .ok (.iconst (-1), 1) := by decide +kernel
theorem dX12_morning_78 : decode cX12_morning 78 = .ok (.ixor, 1) := by decide +kernel
theorem dX12_morning_79 : decode cX12_morning 79 = .ok (.iand, 1) := by decide +kernel
theorem dX12_morning_80 : decode cX12_morning 80 = .ok (.istore_n 2, 1) := by decide +kernel
theorem dX12_morning_81 : decode cX12_morning 81 = .ok (.iload 4, 2) := by decide +kernel
theorem dX12_morning_83 : decode cX12_morning 83 = .ok (.aload_n 0, 1) := by decide +kernel
theorem dX12_morning_84 : decode cX12_morning 84 = .ok (.iload 5, 2) := by decide +kernel
theorem dX12_morning_86 : decode cX12_morning 86 = .ok (.invokevirtual 516, 3) := by decide +kernel
theorem dX12_morning_89 : decode cX12_morning 89 = .ok (.ifCond .eq 7, 3) := by decide +kernel
theorem dX12_morning_92 : decode cX12_morning 92 = .ok (.iconst 1, 1) := by decide +kernel
theorem dX12_morning_93 : decode cX12_morning 93 = .ok (.goto 4, 3) := by decide +kernel
theorem dX12_morning_96 : decode cX12_morning 96 = .ok (.iconst 0, 1) := by decide +kernel
theorem dX12_morning_97 : decode cX12_morning 97 = .ok (.iadd, 1) := by decide +kernel
theorem dX12_morning_98 : decode cX12_morning 98 = .ok (.istore 4, 2) := by decide +kernel
theorem dX12_morning_100 : decode cX12_morning 100 = .ok (.goto (-71), 3) := by decide +kernel
theorem dX12_morning_103 : decode cX12_morning 103 = .ok (.iload 4, 2) := by decide +kernel
theorem dX12_morning_105 : decode cX12_morning 105 = .ok (.ireturn, 1) := by decide +kernel
theorem dX12_stuck_0 : decode cX12_stuck 0 = .ok (.aload_n 0, 1) := by decide +kernel
theorem dX12_stuck_1 : decode cX12_stuck 1 = .ok (.invokevirtual 504, 3) := by decide +kernel
theorem dX12_stuck_4 : decode cX12_stuck 4 = .ok (.istore_n 1, 1) := by decide +kernel
theorem dX12_stuck_5 : decode cX12_stuck 5 = .ok (.aload_n 0, 1) := by decide +kernel
theorem dX12_stuck_6 : decode cX12_stuck 6 = .ok (.getfield 7, 3) := by decide +kernel
theorem dX12_stuck_9 : decode cX12_stuck 9 = .ok (.iconst 5, 1) := by decide +kernel
theorem dX12_stuck_10 : decode cX12_stuck 10 = .ok (.iaload, 1) := by decide +kernel
theorem dX12_stuck_11 : decode cX12_stuck 11 = .ok (.istore_n 2, 1) := by decide +kernel
theorem dX12_stuck_12 : decode cX12_stuck 12 = .ok (.iconst (-1), 1) := by decide +kernel
theorem dX12_stuck_13 : decode cX12_stuck 13 = .ok (.istore_n 3, 1) := by decide +kernel
theorem dX12_stuck_14 : decode cX12_stuck 14 = .ok (.iload_n 1, 1) := by decide +kernel
theorem dX12_stuck_15 : decode cX12_stuck 15 = .ok (.ifCond .eq 38, 3) := by decide +kernel
theorem dX12_stuck_18 : decode cX12_stuck 18 = .ok (.iload_n 3, 1) := by decide +kernel
theorem dX12_stuck_19 : decode cX12_stuck 19 = .ok (.ifCond .ge 34, 3) := by decide +kernel
theorem dX12_stuck_22 : decode cX12_stuck 22 = .ok (.aload_n 0, 1) := by decide +kernel
theorem dX12_stuck_23 : decode cX12_stuck 23 = .ok (.iload_n 1, 1) := by decide +kernel
theorem dX12_stuck_24 : decode cX12_stuck 24 = .ok (.invokevirtual 507, 3) := by decide +kernel
theorem dX12_stuck_27 : decode cX12_stuck 27 = .ok (.istore 4, 2) := by decide +kernel
theorem dX12_stuck_29 : decode cX12_stuck 29 = .ok (.iload_n 1, 1) := by decide +kernel
theorem dX12_stuck_30 : decode cX12_stuck 30 = .ok (.iconst 1, 1) := by decide +kernel
theorem dX12_stuck_31 : decode cX12_stuck 31 = .ok (.iload 4, 2) := by decide +kernel
theorem dX12_stuck_33 : decode cX12_stuck 33 = .ok (.ishl, 1) := by decide +kernel
theorem dX12_stuck_34 : decode cX12_stuck 34 = .ok (.iconst (-1), 1) := by decide +kernel
theorem dX12_stuck_35 : decode cX12_stuck 35 = .ok (.ixor, 1) := by decide +kernel
theorem dX12_stuck_36 : decode cX12_stuck 36 = .ok (.iand, 1) := by decide +kernel
theorem dX12_stuck_37 : decode cX12_stuck 37 = .ok (.istore_n 1, 1) := by decide +kernel
theorem dX12_stuck_38 : decode cX12_stuck 38 = .ok (.aload_n 0, 1) := by decide +kernel
theorem dX12_stuck_39 : decode cX12_stuck 39 = .ok (.iload 4, 2) := by decide +kernel
theorem dX12_stuck_41 : decode cX12_stuck 41 = .ok (.invokevirtual 516, 3) := by decide +kernel
theorem dX12_stuck_44 : decode cX12_stuck 44 = .ok (.ifCond .ne 6, 3) := by decide +kernel
theorem dX12_stuck_47 : decode cX12_stuck 47 = .ok (.iload 4, 2) := by decide +kernel
theorem dX12_stuck_49 : decode cX12_stuck 49 = .ok (.istore_n 3, 1) := by decide +kernel
theorem dX12_stuck_50 : decode cX12_stuck 50 = .ok (.goto (-36), 3) := by decide +kernel
theorem dX12_stuck_53 : decode cX12_stuck 53 = .ok (.aload_n 0, 1) := by decide +kernel
theorem dX12_stuck_54 : decode cX12_stuck 54 = .ok (.getfield 7, 3) := by decide +kernel
theorem dX12_stuck_57 : decode cX12_stuck 57 = .ok (.iconst 5, 1) := by decide +kernel
theorem dX12_stuck_58 : decode cX12_stuck 58 = .ok (.iload_n 2, 1) := by decide +kernel
theorem dX12_stuck_59 : decode cX12_stuck 59 = .ok (.iastore, 1) := by decide +kernel
theorem dX12_stuck_60 : decode cX12_stuck 60 = .ok (.iload_n 3, 1) := by decide +kernel
theorem dX12_stuck_61 : decode cX12_stuck 61 = .ok (.ireturn, 1) := by decide +kernel
theorem dX12_findLike_0 : decode cX12_findLike 0 = .ok (.aload_n 0, 1) := by decide +kernel
theorem dX12_findLike_1 : decode cX12_findLike 1 = .ok (.invokevirtual 396, 3) := by decide +kernel
theorem dX12_findLike_4 : decode cX12_findLike 4 = .ok (.iconst 0, 1) := by decide +kernel
theorem dX12_findLike_5 : decode cX12_findLike 5 = .ok (.istore_n 1, 1) := by decide +kernel
theorem dX12_findLike_6 : decode cX12_findLike 6 = .ok (.iload_n 1, 1) := by decide +kernel
theorem dX12_findLike_7 : decode cX12_findLike 7 = .ok (.aload_n 0, 1) := by decide +kernel
theorem dX12_findLike_8 : decode cX12_findLike 8 = .ok (.getfield 7, 3) := by decide +kernel
theorem dX12_findLike_11 : decode cX12_findLike 11 = .ok (.iconst 0, 1) := by decide +kernel
theorem dX12_findLike_12 : decode cX12_findLike 12 = .ok (.iaload, 1) := by decide +kernel
theorem dX12_findLike_13 : decode cX12_findLike 13 = .ok (.if_icmp .ge 79, 3) := by decide +kernel
theorem dX12_findLike_16 : decode cX12_findLike 16 = .ok (.aload_n 0, 1) := by decide +kernel
theorem dX12_findLike_17 : decode cX12_findLike 17 = .ok (.getfield 87, 3) := by decide +kernel
theorem dX12_findLike_20 : decode cX12_findLike 20 = .ok (.iload_n 1, 1) := by decide +kernel
theorem dX12_findLike_21 : decode cX12_findLike 21 = .ok (.aload_n 0, 1) := by decide +kernel
theorem dX12_findLike_22 : decode cX12_findLike 22 = .ok (.iload_n 1, 1) := by decide +kernel
theorem dX12_findLike_23 : decode cX12_findLike 23 = .ok (.invokevirtual 399, 3) := by decide +kernel
theorem dX12_findLike_26 : decode cX12_findLike 26 = .ok (.aload_n 0, 1) := by decide +kernel
theorem dX12_findLike_27 : decode cX12_findLike 27 = .ok (.getfield 7, 3) := by decide +kernel
theorem dX12_findLike_30 : decode cX12_findLike 30 = .ok (.iconst 3, 1) := by decide +kernel
theorem dX12_findLike_31 : decode cX12_findLike 31 = .ok (.iaload, 1) := by decide +kernel
theorem dX12_findLike_32 : decode cX12_findLike 32 = .ok (.i2l, 1) := by decide +kernel
theorem dX12_findLike_33 : decode cX12_findLike 33 = .ok (.lcmp, 1) := by decide +kernel
theorem dX12_findLike_34 : decode cX12_findLike 34 = .ok (.ifCond .ne 7, 3) := by decide +kernel
theorem dX12_findLike_37 : decode cX12_findLike 37 = .ok (.iconst 1, 1) := by decide +kernel
theorem dX12_findLike_38 : decode cX12_findLike 38 = .ok (.goto 4, 3) := by decide +kernel
theorem dX12_findLike_41 : decode cX12_findLike 41 = .ok (.iconst 0, 1) := by decide +kernel
theorem dX12_findLike_42 : decode cX12_findLike 42 = .ok (.bastore, 1) := by decide +kernel
theorem dX12_findLike_43 : decode cX12_findLike 43 = .ok (.aload_n 0, 1) := by decide +kernel
theorem dX12_findLike_44 : decode cX12_findLike 44 = .ok (.getfield 91, 3) := by decide +kernel
theorem dX12_findLike_47 : decode cX12_findLike 47 = .ok (.iload_n 1, 1) := by decide +kernel
theorem dX12_findLike_48 : decode cX12_findLike 48 = .ok (.iload_n 1, 1) := by decide +kernel
theorem dX12_findLike_49 : decode cX12_findLike 49 = .ok (.iastore, 1) := by decide +kernel
theorem dX12_findLike_50 : decode cX12_findLike 50 = .ok (.iload_n 1, 1) := by decide +kernel
theorem dX12_findLike_51 : decode cX12_findLike 51 = .ok (.iconst 1, 1) := by decide +kernel
theorem dX12_findLike_52 : decode cX12_findLike 52 = .ok (.isub, 1) := by decide +kernel
theorem dX12_findLike_53 : decode cX12_findLike 53 = .ok (.istore_n 2, 1) := by decide +kernel
theorem dX12_findLike_54 : decode cX12_findLike 54 = .ok (.iload_n 2, 1) := by decide +kernel
theorem dX12_findLike_55 : decode cX12_findLike 55 = .ok (.ifCond .lt 31, 3) := by decide +kernel
theorem dX12_findLike_58 : decode cX12_findLike 58 = .ok (.aload_n 0, 1) := by decide +kernel
theorem dX12_findLike_59 : decode cX12_findLike 59 = .ok (.iload_n 2, 1) := by decide +kernel
theorem dX12_findLike_60 : decode cX12_findLike 60 = .ok (.iload_n 1, 1) := by decide +kernel
theorem dX12_findLike_61 : decode cX12_findLike 61 = .ok (.aload_n 0, 1) := by decide +kernel
theorem dX12_findLike_62 : decode cX12_findLike 62 = .ok (.getfield 7, 3) := by decide +kernel
theorem dX12_findLike_65 : decode cX12_findLike 65 = .ok (.iconst 4, 1) := by decide +kernel
theorem dX12_findLike_66 : decode cX12_findLike 66 = .ok (.iaload, 1) := by decide +kernel
theorem dX12_findLike_67 : decode cX12_findLike 67 = .ok (.invokevirtual 471, 3) := by decide +kernel
theorem dX12_findLike_70 : decode cX12_findLike 70 = .ok (.ifCond .eq 10, 3) := by decide +kernel
theorem dX12_findLike_73 : decode cX12_findLike 73 = .ok (.aload_n 0, 1) := by decide +kernel
theorem dX12_findLike_74 : decode cX12_findLike 74 = .ok (.getfield 91, 3) := by decide +kernel
theorem dX12_findLike_77 : decode cX12_findLike 77 = .ok (.iload_n 1, 1) := by decide +kernel
theorem dX12_findLike_78 : decode cX12_findLike 78 = .ok (.iload_n 2, 1) := by decide +kernel
theorem dX12_findLike_79 : decode cX12_findLike 79 = .ok (.iastore, 1) := by decide +kernel
theorem dX12_findLike_80 : decode cX12_findLike 80 = .ok (.iinc 2 (-1), 3) := by decide +kernel
theorem dX12_findLike_83 : decode cX12_findLike 83 = .ok (.goto (-29), 3) := by decide +kernel
theorem dX12_findLike_86 : decode cX12_findLike 86 = .ok (.iinc 1 1, 3) := by decide +kernel
theorem dX12_findLike_89 : decode cX12_findLike 89 = .ok (.goto (-83), 3) := by decide +kernel
theorem dX12_findLike_92 : decode cX12_findLike 92 = .ok (.return_, 1) := by decide +kernel
theorem dX12_canAsk_0 : decode cX12_canAsk 0 = .ok (.iconst 0, 1) := by decide +kernel
theorem dX12_canAsk_1 : decode cX12_canAsk 1 = .ok (.istore_n 2, 1) := by decide +kernel
theorem dX12_canAsk_2 : decode cX12_canAsk 2 = .ok (.iconst 0, 1) := by decide +kernel
theorem dX12_canAsk_3 : decode cX12_canAsk 3 = .ok (.istore_n 3, 1) := by decide +kernel
theorem dX12_canAsk_4 : decode cX12_canAsk 4 = .ok (.iconst 0, 1) := by decide +kernel
theorem dX12_canAsk_5 : decode cX12_canAsk 5 = .ok (.istore 4, 2) := by decide +kernel
theorem dX12_canAsk_7 : decode cX12_canAsk 7 = .ok (.iload 4, 2) := by decide +kernel
theorem dX12_canAsk_9 : decode cX12_canAsk 9 = .ok (.aload_n 0, 1) := by decide +kernel
theorem dX12_canAsk_10 : decode cX12_canAsk 10 = .ok (.getfield 7, 3) := by decide +kernel
theorem dX12_canAsk_13 : decode cX12_canAsk 13 = .ok (.iconst 2, 1) := by decide +kernel
theorem dX12_canAsk_14 : decode cX12_canAsk 14 = .ok (.iaload, 1) := by decide +kernel
theorem dX12_canAsk_15 : decode cX12_canAsk 15 = .ok (.if_icmp .ge 114, 3) := by decide +kernel
theorem dX12_canAsk_18 : decode cX12_canAsk 18 = .ok (.aload_n 0, 1) := by decide +kernel
theorem dX12_canAsk_19 : decode cX12_canAsk 19 = .ok (.getfield 94, 3) := by decide +kernel
theorem dX12_canAsk_22 : decode cX12_canAsk 22 = .ok (.iload 4, 2) := by decide +kernel
theorem dX12_canAsk_24 : decode cX12_canAsk 24 = .ok (.iaload, 1) := by decide +kernel
theorem dX12_canAsk_25 : decode cX12_canAsk 25 = .ok (.istore 5, 2) := by decide +kernel
theorem dX12_canAsk_27 : decode cX12_canAsk 27 = .ok (.iload_n 1, 1) := by decide +kernel
theorem dX12_canAsk_28 : decode cX12_canAsk 28 = .ok (.iload 5, 2) := by decide +kernel
theorem dX12_canAsk_30 : decode cX12_canAsk 30 = .ok (.invokestatic 373, 3) := by decide +kernel
theorem dX12_canAsk_33 : decode cX12_canAsk 33 = .ok (.ifCond .ne 6, 3) := by decide +kernel
theorem dX12_canAsk_36 : decode cX12_canAsk 36 = .ok (.goto 87, 3) := by decide +kernel
theorem dX12_canAsk_39 : decode cX12_canAsk 39 = .ok (.iconst 0, 1) := by decide +kernel
theorem dX12_canAsk_40 : decode cX12_canAsk 40 = .ok (.istore 6, 2) := by decide +kernel
theorem dX12_canAsk_42 : decode cX12_canAsk 42 = .ok (.iload 6, 2) := by decide +kernel
theorem dX12_canAsk_44 : decode cX12_canAsk 44 = .ok (.aload_n 0, 1) := by decide +kernel
theorem dX12_canAsk_45 : decode cX12_canAsk 45 = .ok (.getfield 7, 3) := by decide +kernel
theorem dX12_canAsk_48 : decode cX12_canAsk 48 = .ok (.iconst 0, 1) := by decide +kernel
theorem dX12_canAsk_49 : decode cX12_canAsk 49 = .ok (.iaload, 1) := by decide +kernel
theorem dX12_canAsk_50 : decode cX12_canAsk 50 = .ok (.if_icmp .ge 44, 3) := by decide +kernel
theorem dX12_canAsk_53 : decode cX12_canAsk 53 = .ok (.aload_n 0, 1) := by decide +kernel
theorem dX12_canAsk_54 : decode cX12_canAsk 54 = .ok (.getfield 87, 3) := by decide +kernel
theorem dX12_canAsk_57 : decode cX12_canAsk 57 = .ok (.iload 6, 2) := by decide +kernel
theorem dX12_canAsk_59 : decode cX12_canAsk 59 = .ok (.baload, 1) := by decide +kernel
theorem dX12_canAsk_60 : decode cX12_canAsk 60 = .ok (.ifCond .eq 28, 3) := by decide +kernel
theorem dX12_canAsk_63 : decode cX12_canAsk 63 = .ok (.iload_n 2, 1) := by decide +kernel
theorem dX12_canAsk_64 : decode cX12_canAsk 64 = .ok (.aload_n 0, 1) := by decide +kernel
theorem dX12_canAsk_65 : decode cX12_canAsk 65 = .ok (.getfield 91, 3) := by decide +kernel
theorem dX12_canAsk_68 : decode cX12_canAsk 68 = .ok (.iload 6, 2) := by decide +kernel
theorem dX12_canAsk_70 : decode cX12_canAsk 70 = .ok (.iaload, 1) := by decide +kernel
theorem dX12_canAsk_71 : decode cX12_canAsk 71 = .ok (.invokestatic 373, 3) := by decide +kernel
theorem dX12_canAsk_74 : decode cX12_canAsk 74 = .ok (.ifCond .ne 14, 3) := by decide +kernel
theorem dX12_canAsk_77 : decode cX12_canAsk 77 = .ok (.aload_n 0, 1) := by decide +kernel
theorem dX12_canAsk_78 : decode cX12_canAsk 78 = .ok (.iload 5, 2) := by decide +kernel
theorem dX12_canAsk_80 : decode cX12_canAsk 80 = .ok (.iload 6, 2) := by decide +kernel
theorem dX12_canAsk_82 : decode cX12_canAsk 82 = .ok (.invokevirtual 498, 3) := by decide +kernel
theorem dX12_canAsk_85 : decode cX12_canAsk 85 = .ok (.ifCond .ne 9, 3) := by decide +kernel
theorem dX12_canAsk_88 : decode cX12_canAsk 88 = .ok (.iinc 6 1, 3) := by decide +kernel
theorem dX12_canAsk_91 : decode cX12_canAsk 91 = .ok (.goto (-49), 3) := by decide +kernel
theorem dX12_canAsk_94 : decode cX12_canAsk 94 = .ok (.iload 6, 2) := by decide +kernel
theorem dX12_canAsk_96 : decode cX12_canAsk 96 = .ok (.aload_n 0, 1) := by decide +kernel
theorem dX12_canAsk_97 : decode cX12_canAsk 97 = .ok (.getfield 7, 3) := by decide +kernel
theorem dX12_canAsk_100 : decode cX12_canAsk 100 = .ok (.iconst 0, 1) := by decide +kernel
theorem dX12_canAsk_101 : decode cX12_canAsk 101 = .ok (.iaload, 1) := by decide +kernel
theorem dX12_canAsk_102 : decode cX12_canAsk 102 = .ok (.if_icmp .ne 6, 3) := by decide +kernel
theorem dX12_canAsk_105 : decode cX12_canAsk 105 = .ok (.goto 18, 3) := by decide +kernel
theorem dX12_canAsk_108 : decode cX12_canAsk 108 = .ok (.iload_n 2, 1) := by decide +kernel
theorem dX12_canAsk_109 : decode cX12_canAsk 109 = .ok (.iconst 1, 1) := by decide +kernel
theorem dX12_canAsk_110 : decode cX12_canAsk 110 = .ok (.aload_n 0, 1) := by decide +kernel
theorem dX12_canAsk_111 : decode cX12_canAsk 111 = .ok (.getfield 91, 3) := by decide +kernel
theorem dX12_canAsk_114 : decode cX12_canAsk 114 = .ok (.iload 6, 2) := by decide +kernel
theorem dX12_canAsk_116 : decode cX12_canAsk 116 = .ok (.iaload, 1) := by decide +kernel
theorem dX12_canAsk_117 : decode cX12_canAsk 117 = .ok (.ishl, 1) := by decide +kernel
theorem dX12_canAsk_118 : decode cX12_canAsk 118 = .ok (.ior, 1) := by decide +kernel
theorem dX12_canAsk_119 : decode cX12_canAsk 119 = .ok (.istore_n 2, 1) := by decide +kernel
theorem dX12_canAsk_120 : decode cX12_canAsk 120 = .ok (.iinc 3 1, 3) := by decide +kernel
theorem dX12_canAsk_123 : decode cX12_canAsk 123 = .ok (.iinc 4 1, 3) := by decide +kernel
theorem dX12_canAsk_126 : decode cX12_canAsk 126 = .ok (.goto (-119), 3) := by decide +kernel
theorem dX12_canAsk_129 : decode cX12_canAsk 129 = .ok (.iload_n 3, 1) := by decide +kernel
theorem dX12_canAsk_130 : decode cX12_canAsk 130 = .ok (.ireturn, 1) := by decide +kernel
theorem dX12_firstOrder_0 : decode cX12_firstOrder 0 = .ok (.iconst 0, 1) := by decide +kernel
theorem dX12_firstOrder_1 : decode cX12_firstOrder 1 = .ok (.istore_n 1, 1) := by decide +kernel
theorem dX12_firstOrder_2 : decode cX12_firstOrder 2 = .ok (.iload_n 1, 1) := by decide +kernel
theorem dX12_firstOrder_3 : decode cX12_firstOrder 3 = .ok (.bipush 6, 2) := by decide +kernel
theorem dX12_firstOrder_5 : decode cX12_firstOrder 5 = .ok (.if_icmp .ge 16, 3) := by decide +kernel
theorem dX12_firstOrder_8 : decode cX12_firstOrder 8 = .ok (.aload_n 0, 1) := by decide +kernel
theorem dX12_firstOrder_9 : decode cX12_firstOrder 9 = .ok (.getfield 94, 3) := by decide +kernel
theorem dX12_firstOrder_12 : decode cX12_firstOrder 12 = .ok (.iload_n 1, 1) := by decide +kernel
theorem dX12_firstOrder_13 : decode cX12_firstOrder 13 = .ok (.iload_n 1, 1) := by decide +kernel
theorem dX12_firstOrder_14 : decode cX12_firstOrder 14 = .ok (.iastore, 1) := by decide +kernel
theorem dX12_firstOrder_15 : decode cX12_firstOrder 15 = .ok (.iinc 1 1, 3) := by decide +kernel
theorem dX12_firstOrder_18 : decode cX12_firstOrder 18 = .ok (.goto (-16), 3) := by decide +kernel
theorem dX12_firstOrder_21 : decode cX12_firstOrder 21 = .ok (.return_, 1) := by decide +kernel
theorem dX12_change_0 : decode cX12_change 0 = .ok (.aload_n 0, 1) := by decide +kernel
theorem dX12_change_1 : decode cX12_change 1 = .ok (.getfield 94, 3) := by decide +kernel
theorem dX12_change_4 : decode cX12_change 4 = .ok (.iload_n 1, 1) := by decide +kernel
theorem dX12_change_5 : decode cX12_change 5 = .ok (.iaload, 1) := by decide +kernel
theorem dX12_change_6 : decode cX12_change 6 = .ok (.istore_n 3, 1) := by decide +kernel
theorem dX12_change_7 : decode cX12_change 7 = .ok (.aload_n 0, 1) := by decide +kernel
theorem dX12_change_8 : decode cX12_change 8 = .ok (.getfield 94, 3) := by decide +kernel
theorem dX12_change_11 : decode cX12_change 11 = .ok (.iload_n 1, 1) := by decide +kernel
theorem dX12_change_12 : decode cX12_change 12 = .ok (.aload_n 0, 1) := by decide +kernel
theorem dX12_change_13 : decode cX12_change 13 = .ok (.getfield 94, 3) := by decide +kernel
theorem dX12_change_16 : decode cX12_change 16 = .ok (.iload_n 2, 1) := by decide +kernel
theorem dX12_change_17 : decode cX12_change 17 = .ok (.iaload, 1) := by decide +kernel
theorem dX12_change_18 : decode cX12_change 18 = .ok (.iastore, 1) := by decide +kernel
theorem dX12_change_19 : decode cX12_change 19 = .ok (.aload_n 0, 1) := by decide +kernel
theorem dX12_change_20 : decode cX12_change 20 = .ok (.getfield 94, 3) := by decide +kernel
theorem dX12_change_23 : decode cX12_change 23 = .ok (.iload_n 2, 1) := by decide +kernel
theorem dX12_change_24 : decode cX12_change 24 = .ok (.iload_n 3, 1) := by decide +kernel
theorem dX12_change_25 : decode cX12_change 25 = .ok (.iastore, 1) := by decide +kernel
theorem dX12_change_26 : decode cX12_change 26 = .ok (.return_, 1) := by decide +kernel
theorem dX12_nextOrder_0 : decode cX12_nextOrder 0 = .ok (.aload_n 0, 1) := by decide +kernel
theorem dX12_nextOrder_1 : decode cX12_nextOrder 1 = .ok (.getfield 7, 3) := by decide +kernel
theorem dX12_nextOrder_4 : decode cX12_nextOrder 4 = .ok (.iconst 2, 1) := by decide +kernel
theorem dX12_nextOrder_5 : decode cX12_nextOrder 5 = .ok (.iaload, 1) := by decide +kernel
theorem dX12_nextOrder_6 : decode cX12_nextOrder 6 = .ok (.istore_n 1, 1) := by decide +kernel
theorem dX12_nextOrder_7 : decode cX12_nextOrder 7 = .ok (.iload_n 1, 1) := by decide +kernel
theorem dX12_nextOrder_8 : decode cX12_nextOrder 8 = .ok (.iconst 2, 1) := by decide +kernel
theorem dX12_nextOrder_9 : decode cX12_nextOrder 9 = .ok (.isub, 1) := by decide +kernel
theorem dX12_nextOrder_10 : decode cX12_nextOrder 10 = .ok (.istore_n 2, 1) := by decide +kernel
theorem dX12_nextOrder_11 : decode cX12_nextOrder 11 = .ok (.iload_n 2, 1) := by decide +kernel
theorem dX12_nextOrder_12 : decode cX12_nextOrder 12 = .ok (.ifCond .lt 26, 3) := by decide +kernel
theorem dX12_nextOrder_15 : decode cX12_nextOrder 15 = .ok (.aload_n 0, 1) := by decide +kernel
theorem dX12_nextOrder_16 : decode cX12_nextOrder 16 = .ok (.getfield 94, 3) := by decide +kernel
theorem dX12_nextOrder_19 : decode cX12_nextOrder 19 = .ok (.iload_n 2, 1) := by decide +kernel
theorem dX12_nextOrder_20 : decode cX12_nextOrder 20 = .ok (.iaload, 1) := by decide +kernel
theorem dX12_nextOrder_21 : decode cX12_nextOrder 21 = .ok (.aload_n 0, 1) := by decide +kernel
theorem dX12_nextOrder_22 : decode cX12_nextOrder 22 = .ok (.getfield 94, 3) := by decide +kernel
theorem dX12_nextOrder_25 : decode cX12_nextOrder 25 = .ok (.iload_n 2, 1) := by decide +kernel
theorem dX12_nextOrder_26 : decode cX12_nextOrder 26 = .ok (.iconst 1, 1) := by decide +kernel
theorem dX12_nextOrder_27 : decode cX12_nextOrder 27 = .ok (.iadd, 1) := by decide +kernel
theorem dX12_nextOrder_28 : decode cX12_nextOrder 28 = .ok (.iaload, 1) := by decide +kernel
theorem dX12_nextOrder_29 : decode cX12_nextOrder 29 = .ok (.if_icmp .le 9, 3) := by decide +kernel
theorem dX12_nextOrder_32 : decode cX12_nextOrder 32 = .ok (.iinc 2 (-1), 3) := by decide +kernel
theorem dX12_nextOrder_35 : decode cX12_nextOrder 35 = .ok (.goto (-24), 3) := by decide +kernel
theorem dX12_nextOrder_38 : decode cX12_nextOrder 38 = .ok (.iload_n 2, 1) := by decide +kernel
theorem dX12_nextOrder_39 : decode cX12_nextOrder 39 = .ok (.ifCond .ge 5, 3) := by decide +kernel
theorem dX12_nextOrder_42 : decode cX12_nextOrder 42 = .ok (.iconst 0, 1) := by decide +kernel
theorem dX12_nextOrder_43 : decode cX12_nextOrder 43 = .ok (.ireturn, 1) := by decide +kernel
theorem dX12_nextOrder_44 : decode cX12_nextOrder 44 = .ok (.iload_n 1, 1) := by decide +kernel
theorem dX12_nextOrder_45 : decode cX12_nextOrder 45 = .ok (.iconst 1, 1) := by decide +kernel
theorem dX12_nextOrder_46 : decode cX12_nextOrder 46 = .ok (.isub, 1) := by decide +kernel
theorem dX12_nextOrder_47 : decode cX12_nextOrder 47 = .ok (.istore_n 3, 1) := by decide +kernel
theorem dX12_nextOrder_48 : decode cX12_nextOrder 48 = .ok (.aload_n 0, 1) := by decide +kernel
theorem dX12_nextOrder_49 : decode cX12_nextOrder 49 = .ok (.getfield 94, 3) := by decide +kernel
theorem dX12_nextOrder_52 : decode cX12_nextOrder 52 = .ok (.iload_n 3, 1) := by decide +kernel
theorem dX12_nextOrder_53 : decode cX12_nextOrder 53 = .ok (.iaload, 1) := by decide +kernel
theorem dX12_nextOrder_54 : decode cX12_nextOrder 54 = .ok (.aload_n 0, 1) := by decide +kernel
theorem dX12_nextOrder_55 : decode cX12_nextOrder 55 = .ok (.getfield 94, 3) := by decide +kernel
theorem dX12_nextOrder_58 : decode cX12_nextOrder 58 = .ok (.iload_n 2, 1) := by decide +kernel
theorem dX12_nextOrder_59 : decode cX12_nextOrder 59 = .ok (.iaload, 1) := by decide +kernel
theorem dX12_nextOrder_60 : decode cX12_nextOrder 60 = .ok (.if_icmp .ge 9, 3) := by decide +kernel
theorem dX12_nextOrder_63 : decode cX12_nextOrder 63 = .ok (.iinc 3 (-1), 3) := by decide +kernel
theorem dX12_nextOrder_66 : decode cX12_nextOrder 66 = .ok (.goto (-18), 3) := by decide +kernel
theorem dX12_nextOrder_69 : decode cX12_nextOrder 69 = .ok (.aload_n 0, 1) := by decide +kernel
theorem dX12_nextOrder_70 : decode cX12_nextOrder 70 = .ok (.iload_n 2, 1) := by decide +kernel
theorem dX12_nextOrder_71 : decode cX12_nextOrder 71 = .ok (.iload_n 3, 1) := by decide +kernel
theorem dX12_nextOrder_72 : decode cX12_nextOrder 72 = .ok (.invokevirtual 519, 3) := by decide +kernel
theorem dX12_nextOrder_75 : decode cX12_nextOrder 75 = .ok (.iload_n 2, 1) := by decide +kernel
theorem dX12_nextOrder_76 : decode cX12_nextOrder 76 = .ok (.iconst 1, 1) := by decide +kernel
theorem dX12_nextOrder_77 : decode cX12_nextOrder 77 = .ok (.iadd, 1) := by decide +kernel
theorem dX12_nextOrder_78 : decode cX12_nextOrder 78 = .ok (.istore 4, 2) := by decide +kernel
theorem dX12_nextOrder_80 : decode cX12_nextOrder 80 = .ok (.iload_n 1, 1) := by decide +kernel
theorem dX12_nextOrder_81 : decode cX12_nextOrder 81 = .ok (.iconst 1, 1) := by decide +kernel
theorem dX12_nextOrder_82 : decode cX12_nextOrder 82 = .ok (.isub, 1) := by decide +kernel
theorem dX12_nextOrder_83 : decode cX12_nextOrder 83 = .ok (.istore 5, 2) := by decide +kernel
theorem dX12_nextOrder_85 : decode cX12_nextOrder 85 = .ok (.iload 4, 2) := by decide +kernel
theorem dX12_nextOrder_87 : decode cX12_nextOrder 87 = .ok (.iload 5, 2) := by decide +kernel
theorem dX12_nextOrder_89 : decode cX12_nextOrder 89 = .ok (.if_icmp .ge 20, 3) := by decide +kernel
theorem dX12_nextOrder_92 : decode cX12_nextOrder 92 = .ok (.aload_n 0, 1) := by decide +kernel
theorem dX12_nextOrder_93 : decode cX12_nextOrder 93 = .ok (.iload 4, 2) := by decide +kernel
theorem dX12_nextOrder_95 : decode cX12_nextOrder 95 = .ok (.iload 5, 2) := by decide +kernel
theorem dX12_nextOrder_97 : decode cX12_nextOrder 97 = .ok (.invokevirtual 519, 3) := by decide +kernel
theorem dX12_nextOrder_100 : decode cX12_nextOrder 100 = .ok (.iinc 4 1, 3) := by decide +kernel
theorem dX12_nextOrder_103 : decode cX12_nextOrder 103 = .ok (.iinc 5 (-1), 3) := by decide +kernel
theorem dX12_nextOrder_106 : decode cX12_nextOrder 106 = .ok (.goto (-21), 3) := by decide +kernel
theorem dX12_nextOrder_109 : decode cX12_nextOrder 109 = .ok (.iconst 1, 1) := by decide +kernel
theorem dX12_nextOrder_110 : decode cX12_nextOrder 110 = .ok (.ireturn, 1) := by decide +kernel
theorem dX12_mostOf_0 : decode cX12_mostOf 0 = .ok (.iconst (-1), 1) := by decide +kernel
theorem dX12_mostOf_1 : decode cX12_mostOf 1 = .ok (.istore_n 2, 1) := by decide +kernel
theorem dX12_mostOf_2 : decode cX12_mostOf 2 = .ok (.aload_n 0, 1) := by decide +kernel
theorem dX12_mostOf_3 : decode cX12_mostOf 3 = .ok (.invokevirtual 522, 3) := by decide +kernel
theorem dX12_mostOf_6 : decode cX12_mostOf 6 = .ok (.iconst 1, 1) := by decide +kernel
theorem dX12_mostOf_7 : decode cX12_mostOf 7 = .ok (.istore_n 3, 1) := by decide +kernel
theorem dX12_mostOf_8 : decode cX12_mostOf 8 = .ok (.iload_n 3, 1) := by decide +kernel
theorem dX12_mostOf_9 : decode cX12_mostOf 9 = .ok (.ifCond .eq 73, 3) := by decide +kernel
theorem dX12_mostOf_12 : decode cX12_mostOf 12 = .ok (.aload_n 0, 1) := by decide +kernel
theorem dX12_mostOf_13 : decode cX12_mostOf 13 = .ok (.iload_n 1, 1) := by decide +kernel
theorem dX12_mostOf_14 : decode cX12_mostOf 14 = .ok (.invokevirtual 525, 3) := by decide +kernel
theorem dX12_mostOf_17 : decode cX12_mostOf 17 = .ok (.istore 4, 2) := by decide +kernel
theorem dX12_mostOf_19 : decode cX12_mostOf 19 = .ok (.iload 4, 2) := by decide +kernel
theorem dX12_mostOf_21 : decode cX12_mostOf 21 = .ok (.iload_n 2, 1) := by decide +kernel
theorem dX12_mostOf_22 : decode cX12_mostOf 22 = .ok (.if_icmp .le 36, 3) := by decide +kernel
theorem dX12_mostOf_25 : decode cX12_mostOf 25 = .ok (.iload 4, 2) := by decide +kernel
theorem dX12_mostOf_27 : decode cX12_mostOf 27 = .ok (.istore_n 2, 1) := by decide +kernel
theorem dX12_mostOf_28 : decode cX12_mostOf 28 = .ok (.iconst 0, 1) := by decide +kernel
theorem dX12_mostOf_29 : decode cX12_mostOf 29 = .ok (.istore 5, 2) := by decide +kernel
theorem dX12_mostOf_31 : decode cX12_mostOf 31 = .ok (.iload 5, 2) := by decide +kernel
theorem dX12_mostOf_33 : decode cX12_mostOf 33 = .ok (.bipush 6, 2) := by decide +kernel
theorem dX12_mostOf_35 : decode cX12_mostOf 35 = .ok (.if_icmp .ge 23, 3) := by decide +kernel
theorem dX12_mostOf_38 : decode cX12_mostOf 38 = .ok (.aload_n 0, 1) := by decide +kernel
theorem dX12_mostOf_39 : decode cX12_mostOf 39 = .ok (.getfield 97, 3) := by decide +kernel
theorem dX12_mostOf_42 : decode cX12_mostOf 42 = .ok (.iload 5, 2) := by decide +kernel
theorem dX12_mostOf_44 : decode cX12_mostOf 44 = .ok (.aload_n 0, 1) := by decide +kernel
theorem dX12_mostOf_45 : decode cX12_mostOf 45 = .ok (.getfield 94, 3) := by decide +kernel
theorem dX12_mostOf_48 : decode cX12_mostOf 48 = .ok (.iload 5, 2) := by decide +kernel
theorem dX12_mostOf_50 : decode cX12_mostOf 50 = .ok (.iaload, 1) := by decide +kernel
theorem dX12_mostOf_51 : decode cX12_mostOf 51 = .ok (.iastore, 1) := by decide +kernel
theorem dX12_mostOf_52 : decode cX12_mostOf 52 = .ok (.iinc 5 1, 3) := by decide +kernel
theorem dX12_mostOf_55 : decode cX12_mostOf 55 = .ok (.goto (-24), 3) := by decide +kernel
theorem dX12_mostOf_58 : decode cX12_mostOf 58 = .ok (.iload_n 2, 1) := by decide +kernel
theorem dX12_mostOf_59 : decode cX12_mostOf 59 = .ok (.iload_n 1, 1) := by decide +kernel
theorem dX12_mostOf_60 : decode cX12_mostOf 60 = .ok (.invokestatic 510, 3) := by decide +kernel
theorem dX12_mostOf_63 : decode cX12_mostOf 63 = .ok (.if_icmp .ge 14, 3) := by decide +kernel
theorem dX12_mostOf_66 : decode cX12_mostOf 66 = .ok (.aload_n 0, 1) := by decide +kernel
theorem dX12_mostOf_67 : decode cX12_mostOf 67 = .ok (.invokevirtual 528, 3) := by decide +kernel
theorem dX12_mostOf_70 : decode cX12_mostOf 70 = .ok (.ifCond .eq 7, 3) := by decide +kernel
theorem dX12_mostOf_73 : decode cX12_mostOf 73 = .ok (.iconst 1, 1) := by decide +kernel
theorem dX12_mostOf_74 : decode cX12_mostOf 74 = .ok (.goto 4, 3) := by decide +kernel
theorem dX12_mostOf_77 : decode cX12_mostOf 77 = .ok (.iconst 0, 1) := by decide +kernel
theorem dX12_mostOf_78 : decode cX12_mostOf 78 = .ok (.istore_n 3, 1) := by decide +kernel
theorem dX12_mostOf_79 : decode cX12_mostOf 79 = .ok (.goto (-71), 3) := by decide +kernel
theorem dX12_mostOf_82 : decode cX12_mostOf 82 = .ok (.iload_n 2, 1) := by decide +kernel
theorem dX12_mostOf_83 : decode cX12_mostOf 83 = .ok (.ireturn, 1) := by decide +kernel
theorem dX12_order_0 : decode cX12_order 0 = .ok (.iload_n 1, 1) := by decide +kernel
theorem dX12_order_1 : decode cX12_order 1 = .ok (.iconst (-1), 1) := by decide +kernel
theorem dX12_order_2 : decode cX12_order 2 = .ok (.aload_n 0, 1) := by decide +kernel
theorem dX12_order_3 : decode cX12_order 3 = .ok (.getfield 7, 3) := by decide +kernel
theorem dX12_order_6 : decode cX12_order 6 = .ok (.iconst 2, 1) := by decide +kernel
theorem dX12_order_7 : decode cX12_order 7 = .ok (.iaload, 1) := by decide +kernel
theorem dX12_order_8 : decode cX12_order 8 = .ok (.iconst 1, 1) := by decide +kernel
theorem dX12_order_9 : decode cX12_order 9 = .ok (.isub, 1) := by decide +kernel
theorem dX12_order_10 : decode cX12_order 10 = .ok (.invokestatic 126, 3) := by decide +kernel
theorem dX12_order_13 : decode cX12_order 13 = .ok (.ifCond .ne 6, 3) := by decide +kernel
theorem dX12_order_16 : decode cX12_order 16 = .ok (.bipush (-2), 2) := by decide +kernel
theorem dX12_order_18 : decode cX12_order 18 = .ok (.ireturn, 1) := by decide +kernel
theorem dX12_order_19 : decode cX12_order 19 = .ok (.aload_n 0, 1) := by decide +kernel
theorem dX12_order_20 : decode cX12_order 20 = .ok (.invokevirtual 531, 3) := by decide +kernel
theorem dX12_order_23 : decode cX12_order 23 = .ok (.aload_n 0, 1) := by decide +kernel
theorem dX12_order_24 : decode cX12_order 24 = .ok (.iconst 1, 1) := by decide +kernel
theorem dX12_order_25 : decode cX12_order 25 = .ok (.aload_n 0, 1) := by decide +kernel
theorem dX12_order_26 : decode cX12_order 26 = .ok (.getfield 7, 3) := by decide +kernel
theorem dX12_order_29 : decode cX12_order 29 = .ok (.iconst 2, 1) := by decide +kernel
theorem dX12_order_30 : decode cX12_order 30 = .ok (.iaload, 1) := by decide +kernel
theorem dX12_order_31 : decode cX12_order 31 = .ok (.ishl, 1) := by decide +kernel
theorem dX12_order_32 : decode cX12_order 32 = .ok (.iconst 1, 1) := by decide +kernel
theorem dX12_order_33 : decode cX12_order 33 = .ok (.isub, 1) := by decide +kernel
theorem dX12_order_34 : decode cX12_order 34 = .ok (.invokevirtual 534, 3) := by decide +kernel
theorem dX12_order_37 : decode cX12_order 37 = .ok (.istore_n 2, 1) := by decide +kernel
theorem dX12_order_38 : decode cX12_order 38 = .ok (.iload_n 1, 1) := by decide +kernel
theorem dX12_order_39 : decode cX12_order 39 = .ok (.iconst (-1), 1) := by decide +kernel
theorem dX12_order_40 : decode cX12_order 40 = .ok (.if_icmp .ne 5, 3) := by decide +kernel
theorem dX12_order_43 : decode cX12_order 43 = .ok (.iload_n 2, 1) := by decide +kernel
theorem dX12_order_44 : decode cX12_order 44 = .ok (.ireturn, 1) := by decide +kernel
theorem dX12_order_45 : decode cX12_order 45 = .ok (.iload_n 2, 1) := by decide +kernel
theorem dX12_order_46 : decode cX12_order 46 = .ok (.aload_n 0, 1) := by decide +kernel
theorem dX12_order_47 : decode cX12_order 47 = .ok (.getfield 7, 3) := by decide +kernel
theorem dX12_order_50 : decode cX12_order 50 = .ok (.iconst 2, 1) := by decide +kernel
theorem dX12_order_51 : decode cX12_order 51 = .ok (.iaload, 1) := by decide +kernel
theorem dX12_order_52 : decode cX12_order 52 = .ok (.if_icmp .ne 12, 3) := by decide +kernel
theorem dX12_order_55 : decode cX12_order 55 = .ok (.aload_n 0, 1) := by decide +kernel
theorem dX12_order_56 : decode cX12_order 56 = .ok (.getfield 97, 3) := by decide +kernel
theorem dX12_order_59 : decode cX12_order 59 = .ok (.iload_n 1, 1) := by decide +kernel
theorem dX12_order_60 : decode cX12_order 60 = .ok (.iaload, 1) := by decide +kernel
theorem dX12_order_61 : decode cX12_order 61 = .ok (.goto 5, 3) := by decide +kernel
theorem dX12_order_64 : decode cX12_order 64 = .ok (.bipush (-2), 2) := by decide +kernel
theorem dX12_order_66 : decode cX12_order 66 = .ok (.ireturn, 1) := by decide +kernel
theorem dX12_shut_0 : decode cX12_shut 0 = .ok (.aload_n 0, 1) := by decide +kernel
theorem dX12_shut_1 : decode cX12_shut 1 = .ok (.invokevirtual 531, 3) := by decide +kernel
theorem dX12_shut_4 : decode cX12_shut 4 = .ok (.iconst 1, 1) := by decide +kernel
theorem dX12_shut_5 : decode cX12_shut 5 = .ok (.aload_n 0, 1) := by decide +kernel
theorem dX12_shut_6 : decode cX12_shut 6 = .ok (.getfield 7, 3) := by decide +kernel
theorem dX12_shut_9 : decode cX12_shut 9 = .ok (.iconst 2, 1) := by decide +kernel
theorem dX12_shut_10 : decode cX12_shut 10 = .ok (.iaload, 1) := by decide +kernel
theorem dX12_shut_11 : decode cX12_shut 11 = .ok (.ishl, 1) := by decide +kernel
theorem dX12_shut_12 : decode cX12_shut 12 = .ok (.iconst 1, 1) := by decide +kernel
theorem dX12_shut_13 : decode cX12_shut 13 = .ok (.isub, 1) := by decide +kernel
theorem dX12_shut_14 : decode cX12_shut 14 = .ok (.istore_n 1, 1) := by decide +kernel
theorem dX12_shut_15 : decode cX12_shut 15 = .ok (.iload_n 1, 1) := by decide +kernel
theorem dX12_shut_16 : decode cX12_shut 16 = .ok (.istore_n 2, 1) := by decide +kernel
theorem dX12_shut_17 : decode cX12_shut 17 = .ok (.iconst 0, 1) := by decide +kernel
theorem dX12_shut_18 : decode cX12_shut 18 = .ok (.istore_n 3, 1) := by decide +kernel
theorem dX12_shut_19 : decode cX12_shut 19 = .ok (.iload_n 3, 1) := by decide +kernel
theorem dX12_shut_20 : decode cX12_shut 20 = .ok (.iload_n 1, 1) := by decide +kernel
theorem dX12_shut_21 : decode cX12_shut 21 = .ok (.if_icmp .ge 42, 3) := by decide +kernel
theorem dX12_shut_24 : decode cX12_shut 24 = .ok (.iload_n 3, 1) := by decide +kernel
theorem dX12_shut_25 : decode cX12_shut 25 = .ok (.invokestatic 510, 3) := by decide +kernel
theorem dX12_shut_28 : decode cX12_shut 28 = .ok (.iload_n 2, 1) := by decide +kernel
theorem dX12_shut_29 : decode cX12_shut 29 = .ok (.invokestatic 510, 3) := by decide +kernel
theorem dX12_shut_32 : decode cX12_shut 32 = .ok (.if_icmp .ge 25, 3) := by decide +kernel
theorem dX12_shut_35 : decode cX12_shut 35 = .ok (.aload_n 0, 1) := by decide +kernel
theorem dX12_shut_36 : decode cX12_shut 36 = .ok (.iload_n 1, 1) := by decide +kernel
theorem dX12_shut_37 : decode cX12_shut 37 = .ok (.iload_n 3, 1) := by decide +kernel
theorem dX12_shut_38 : decode cX12_shut 38 = .ok (.iconst (-1), 1) := by decide +kernel
theorem dX12_shut_39 : decode cX12_shut 39 = .ok (.ixor, 1) := by decide +kernel
theorem dX12_shut_40 : decode cX12_shut 40 = .ok (.iand, 1) := by decide +kernel
theorem dX12_shut_41 : decode cX12_shut 41 = .ok (.invokevirtual 534, 3) := by decide +kernel
theorem dX12_shut_44 : decode cX12_shut 44 = .ok (.iload_n 1, 1) := by decide +kernel
theorem dX12_shut_45 : decode cX12_shut 45 = .ok (.iload_n 3, 1) := by decide +kernel
theorem dX12_shut_46 : decode cX12_shut 46 = .ok (.iconst (-1), 1) := by decide +kernel
theorem dX12_shut_47 : decode cX12_shut 47 = .ok (.ixor, 1) := by decide +kernel
theorem dX12_shut_48 : decode cX12_shut 48 = .ok (.iand, 1) := by decide +kernel
theorem dX12_shut_49 : decode cX12_shut 49 = .ok (.invokestatic 510, 3) := by decide +kernel
theorem dX12_shut_52 : decode cX12_shut 52 = .ok (.if_icmp .ne 5, 3) := by decide +kernel
theorem dX12_shut_55 : decode cX12_shut 55 = .ok (.iload_n 3, 1) := by decide +kernel
theorem dX12_shut_56 : decode cX12_shut 56 = .ok (.istore_n 2, 1) := by decide +kernel
theorem dX12_shut_57 : decode cX12_shut 57 = .ok (.iinc 3 1, 3) := by decide +kernel
theorem dX12_shut_60 : decode cX12_shut 60 = .ok (.goto (-41), 3) := by decide +kernel
theorem dX12_shut_63 : decode cX12_shut 63 = .ok (.iload_n 2, 1) := by decide +kernel
theorem dX12_shut_64 : decode cX12_shut 64 = .ok (.ireturn, 1) := by decide +kernel
theorem dX12_isGood_0 : decode cX12_isGood 0 = .ok (.aload_n 0, 1) := by decide +kernel
theorem dX12_isGood_1 : decode cX12_isGood 1 = .ok (.getfield 87, 3) := by decide +kernel
theorem dX12_isGood_4 : decode cX12_isGood 4 = .ok (.iload_n 3, 1) := by decide +kernel
theorem dX12_isGood_5 : decode cX12_isGood 5 = .ok (.baload, 1) := by decide +kernel
theorem dX12_isGood_6 : decode cX12_isGood 6 = .ok (.ifCond .eq 25, 3) := by decide +kernel
theorem dX12_isGood_9 : decode cX12_isGood 9 = .ok (.iload_n 1, 1) := by decide +kernel
theorem dX12_isGood_10 : decode cX12_isGood 10 = .ok (.aload_n 0, 1) := by decide +kernel
theorem dX12_isGood_11 : decode cX12_isGood 11 = .ok (.getfield 91, 3) := by decide +kernel
theorem dX12_isGood_14 : decode cX12_isGood 14 = .ok (.iload_n 3, 1) := by decide +kernel
theorem dX12_isGood_15 : decode cX12_isGood 15 = .ok (.iaload, 1) := by decide +kernel
theorem dX12_isGood_16 : decode cX12_isGood 16 = .ok (.invokestatic 373, 3) := by decide +kernel
theorem dX12_isGood_19 : decode cX12_isGood 19 = .ok (.ifCond .ne 12, 3) := by decide +kernel
theorem dX12_isGood_22 : decode cX12_isGood 22 = .ok (.aload_n 0, 1) := by decide +kernel
theorem dX12_isGood_23 : decode cX12_isGood 23 = .ok (.iload_n 2, 1) := by decide +kernel
theorem dX12_isGood_24 : decode cX12_isGood 24 = .ok (.iload_n 3, 1) := by decide +kernel
theorem dX12_isGood_25 : decode cX12_isGood 25 = .ok (.invokevirtual 498, 3) := by decide +kernel
theorem dX12_isGood_28 : decode cX12_isGood 28 = .ok (.ifCond .ne 5, 3) := by decide +kernel
theorem dX12_isGood_31 : decode cX12_isGood 31 = .ok (.iconst 0, 1) := by decide +kernel
theorem dX12_isGood_32 : decode cX12_isGood 32 = .ok (.ireturn, 1) := by decide +kernel
theorem dX12_isGood_33 : decode cX12_isGood 33 = .ok (.iload_n 1, 1) := by decide +kernel
theorem dX12_isGood_34 : decode cX12_isGood 34 = .ok (.iconst 1, 1) := by decide +kernel
theorem dX12_isGood_35 : decode cX12_isGood 35 = .ok (.aload_n 0, 1) := by decide +kernel
theorem dX12_isGood_36 : decode cX12_isGood 36 = .ok (.getfield 91, 3) := by decide +kernel
theorem dX12_isGood_39 : decode cX12_isGood 39 = .ok (.iload_n 3, 1) := by decide +kernel
theorem dX12_isGood_40 : decode cX12_isGood 40 = .ok (.iaload, 1) := by decide +kernel
theorem dX12_isGood_41 : decode cX12_isGood 41 = .ok (.ishl, 1) := by decide +kernel
theorem dX12_isGood_42 : decode cX12_isGood 42 = .ok (.ior, 1) := by decide +kernel
theorem dX12_isGood_43 : decode cX12_isGood 43 = .ok (.istore 5, 2) := by decide +kernel
theorem dX12_isGood_45 : decode cX12_isGood 45 = .ok (.iload 4, 2) := by decide +kernel
theorem dX12_isGood_47 : decode cX12_isGood 47 = .ok (.ifCond .eq 21, 3) := by decide +kernel
theorem dX12_isGood_50 : decode cX12_isGood 50 = .ok (.aload_n 0, 1) := by decide +kernel
theorem dX12_isGood_51 : decode cX12_isGood 51 = .ok (.getfield 103, 3) := by decide +kernel
theorem dX12_isGood_54 : decode cX12_isGood 54 = .ok (.iload 5, 2) := by decide +kernel
theorem dX12_isGood_56 : decode cX12_isGood 56 = .ok (.baload, 1) := by decide +kernel
theorem dX12_isGood_57 : decode cX12_isGood 57 = .ok (.ifCond .ne 7, 3) := by decide +kernel
theorem dX12_isGood_60 : decode cX12_isGood 60 = .ok (.iconst 1, 1) := by decide +kernel
theorem dX12_isGood_61 : decode cX12_isGood 61 = .ok (.goto 22, 3) := by decide +kernel
theorem dX12_isGood_64 : decode cX12_isGood 64 = .ok (.iconst 0, 1) := by decide +kernel
theorem dX12_isGood_65 : decode cX12_isGood 65 = .ok (.goto 18, 3) := by decide +kernel
theorem dX12_isGood_68 : decode cX12_isGood 68 = .ok (.aload_n 0, 1) := by decide +kernel
theorem dX12_isGood_69 : decode cX12_isGood 69 = .ok (.getfield 100, 3) := by decide +kernel
theorem dX12_isGood_72 : decode cX12_isGood 72 = .ok (.iload 5, 2) := by decide +kernel
theorem dX12_isGood_74 : decode cX12_isGood 74 = .ok (.baload, 1) := by decide +kernel
theorem dX12_isGood_75 : decode cX12_isGood 75 = .ok (.ifCond .ne 7, 3) := by decide +kernel
theorem dX12_isGood_78 : decode cX12_isGood 78 = .ok (.iconst 1, 1) := by decide +kernel
theorem dX12_isGood_79 : decode cX12_isGood 79 = .ok (.goto 4, 3) := by decide +kernel
theorem dX12_isGood_82 : decode cX12_isGood 82 = .ok (.iconst 0, 1) := by decide +kernel
theorem dX12_isGood_83 : decode cX12_isGood 83 = .ok (.ireturn, 1) := by decide +kernel
theorem dX12_wins_0 : decode cX12_wins 0 = .ok (.iconst 0, 1) := by decide +kernel
theorem dX12_wins_1 : decode cX12_wins 1 = .ok (.istore 4, 2) := by decide +kernel
theorem dX12_wins_3 : decode cX12_wins 3 = .ok (.iload 4, 2) := by decide +kernel
theorem dX12_wins_5 : decode cX12_wins 5 = .ok (.aload_n 0, 1) := by decide +kernel
theorem dX12_wins_6 : decode cX12_wins 6 = .ok (.getfield 7, 3) := by decide +kernel
theorem dX12_wins_9 : decode cX12_wins 9 = .ok (.iconst 0, 1) := by decide +kernel
theorem dX12_wins_10 : decode cX12_wins 10 = .ok (.iaload, 1) := by decide +kernel
theorem dX12_wins_11 : decode cX12_wins 11 = .ok (.if_icmp .ge 23, 3) := by decide +kernel
theorem dX12_wins_14 : decode cX12_wins 14 = .ok (.aload_n 0, 1) := by decide +kernel
theorem dX12_wins_15 : decode cX12_wins 15 = .ok (.iload_n 1, 1) := by decide +kernel
theorem dX12_wins_16 : decode cX12_wins 16 = .ok (.iload_n 2, 1) := by decide +kernel
theorem dX12_wins_17 : decode cX12_wins 17 = .ok (.iload 4, 2) := by decide +kernel
theorem dX12_wins_19 : decode cX12_wins 19 = .ok (.iload_n 3, 1) := by decide +kernel
theorem dX12_wins_20 : decode cX12_wins 20 = .ok (.invokevirtual 537, 3) := by decide +kernel
theorem dX12_wins_23 : decode cX12_wins 23 = .ok (.ifCond .eq 5, 3) := by decide +kernel
theorem dX12_wins_26 : decode cX12_wins 26 = .ok (.iconst 1, 1) := by decide +kernel
theorem dX12_wins_27 : decode cX12_wins 27 = .ok (.ireturn, 1) := by decide +kernel
theorem dX12_wins_28 : decode cX12_wins 28 = .ok (.iinc 4 1, 3) := by decide +kernel
theorem dX12_wins_31 : decode cX12_wins 31 = .ok (.goto (-28), 3) := by decide +kernel
theorem dX12_wins_34 : decode cX12_wins 34 = .ok (.iconst 0, 1) := by decide +kernel
theorem dX12_wins_35 : decode cX12_wins 35 = .ok (.ireturn, 1) := by decide +kernel
theorem dX12_game_0 : decode cX12_game 0 = .ok (.aload_n 0, 1) := by decide +kernel
theorem dX12_game_1 : decode cX12_game 1 = .ok (.iload_n 1, 1) := by decide +kernel
theorem dX12_game_2 : decode cX12_game 2 = .ok (.invokevirtual 480, 3) := by decide +kernel
theorem dX12_game_5 : decode cX12_game 5 = .ok (.ifCond .eq 16, 3) := by decide +kernel
theorem dX12_game_8 : decode cX12_game 8 = .ok (.aload_n 0, 1) := by decide +kernel
theorem dX12_game_9 : decode cX12_game 9 = .ok (.iload_n 2, 1) := by decide +kernel
theorem dX12_game_10 : decode cX12_game 10 = .ok (.invokevirtual 480, 3) := by decide +kernel
theorem dX12_game_13 : decode cX12_game 13 = .ok (.ifCond .eq 8, 3) := by decide +kernel
theorem dX12_game_16 : decode cX12_game 16 = .ok (.iload_n 1, 1) := by decide +kernel
theorem dX12_game_17 : decode cX12_game 17 = .ok (.iload_n 2, 1) := by decide +kernel
theorem dX12_game_18 : decode cX12_game 18 = .ok (.if_icmp .ne 6, 3) := by decide +kernel
theorem dX12_game_21 : decode cX12_game 21 = .ok (.bipush (-2), 2) := by decide +kernel
theorem dX12_game_23 : decode cX12_game 23 = .ok (.ireturn, 1) := by decide +kernel
theorem dX12_game_24 : decode cX12_game 24 = .ok (.aload_n 0, 1) := by decide +kernel
theorem dX12_game_25 : decode cX12_game 25 = .ok (.invokevirtual 531, 3) := by decide +kernel
theorem dX12_game_28 : decode cX12_game 28 = .ok (.iconst 1, 1) := by decide +kernel
theorem dX12_game_29 : decode cX12_game 29 = .ok (.aload_n 0, 1) := by decide +kernel
theorem dX12_game_30 : decode cX12_game 30 = .ok (.getfield 7, 3) := by decide +kernel
theorem dX12_game_33 : decode cX12_game 33 = .ok (.iconst 0, 1) := by decide +kernel
theorem dX12_game_34 : decode cX12_game 34 = .ok (.iaload, 1) := by decide +kernel
theorem dX12_game_35 : decode cX12_game 35 = .ok (.ishl, 1) := by decide +kernel
theorem dX12_game_36 : decode cX12_game 36 = .ok (.iconst 1, 1) := by decide +kernel
theorem dX12_game_37 : decode cX12_game 37 = .ok (.isub, 1) := by decide +kernel
theorem dX12_game_38 : decode cX12_game 38 = .ok (.istore 4, 2) := by decide +kernel
theorem dX12_game_40 : decode cX12_game 40 = .ok (.iload 4, 2) := by decide +kernel
theorem dX12_game_42 : decode cX12_game 42 = .ok (.ifCond .lt 39, 3) := by decide +kernel
theorem dX12_game_45 : decode cX12_game 45 = .ok (.aload_n 0, 1) := by decide +kernel
theorem dX12_game_46 : decode cX12_game 46 = .ok (.getfield 100, 3) := by decide +kernel
theorem dX12_game_49 : decode cX12_game 49 = .ok (.iload 4, 2) := by decide +kernel
theorem dX12_game_51 : decode cX12_game 51 = .ok (.aload_n 0, 1) := by decide +kernel
theorem dX12_game_52 : decode cX12_game 52 = .ok (.iload 4, 2) := by decide +kernel
theorem dX12_game_54 : decode cX12_game 54 = .ok (.iload_n 1, 1) := by decide +kernel
theorem dX12_game_55 : decode cX12_game 55 = .ok (.iconst 1, 1) := by decide +kernel
theorem dX12_game_56 : decode cX12_game 56 = .ok (.invokevirtual 541, 3) := by decide +kernel
theorem dX12_game_59 : decode cX12_game 59 = .ok (.bastore, 1) := by decide +kernel
theorem dX12_game_60 : decode cX12_game 60 = .ok (.aload_n 0, 1) := by decide +kernel
theorem dX12_game_61 : decode cX12_game 61 = .ok (.getfield 103, 3) := by decide +kernel
theorem dX12_game_64 : decode cX12_game 64 = .ok (.iload 4, 2) := by decide +kernel
theorem dX12_game_66 : decode cX12_game 66 = .ok (.aload_n 0, 1) := by decide +kernel
theorem dX12_game_67 : decode cX12_game 67 = .ok (.iload 4, 2) := by decide +kernel
theorem dX12_game_69 : decode cX12_game 69 = .ok (.iload_n 2, 1) := by decide +kernel
theorem dX12_game_70 : decode cX12_game 70 = .ok (.iconst 0, 1) := by decide +kernel
theorem dX12_game_71 : decode cX12_game 71 = .ok (.invokevirtual 541, 3) := by decide +kernel
theorem dX12_game_74 : decode cX12_game 74 = .ok (.bastore, 1) := by decide +kernel
theorem dX12_game_75 : decode cX12_game 75 = .ok (.iinc 4 (-1), 3) := by decide +kernel
theorem dX12_game_78 : decode cX12_game 78 = .ok (.goto (-38), 3) := by decide +kernel
theorem dX12_game_81 : decode cX12_game 81 = .ok (.iload_n 3, 1) := by decide +kernel
theorem dX12_game_82 : decode cX12_game 82 = .ok (.ifCond .ne 18, 3) := by decide +kernel
theorem dX12_game_85 : decode cX12_game 85 = .ok (.aload_n 0, 1) := by decide +kernel
theorem dX12_game_86 : decode cX12_game 86 = .ok (.getfield 100, 3) := by decide +kernel
theorem dX12_game_89 : decode cX12_game 89 = .ok (.iconst 0, 1) := by decide +kernel
theorem dX12_game_90 : decode cX12_game 90 = .ok (.baload, 1) := by decide +kernel
theorem dX12_game_91 : decode cX12_game 91 = .ok (.ifCond .eq 7, 3) := by decide +kernel
theorem dX12_game_94 : decode cX12_game 94 = .ok (.iload_n 1, 1) := by decide +kernel
theorem dX12_game_95 : decode cX12_game 95 = .ok (.goto 4, 3) := by decide +kernel
theorem dX12_game_98 : decode cX12_game 98 = .ok (.iload_n 2, 1) := by decide +kernel
theorem dX12_game_99 : decode cX12_game 99 = .ok (.ireturn, 1) := by decide +kernel
theorem dX12_game_100 : decode cX12_game 100 = .ok (.iconst 0, 1) := by decide +kernel
theorem dX12_game_101 : decode cX12_game 101 = .ok (.istore 4, 2) := by decide +kernel
theorem dX12_game_103 : decode cX12_game 103 = .ok (.iload 4, 2) := by decide +kernel
theorem dX12_game_105 : decode cX12_game 105 = .ok (.aload_n 0, 1) := by decide +kernel
theorem dX12_game_106 : decode cX12_game 106 = .ok (.getfield 7, 3) := by decide +kernel
theorem dX12_game_109 : decode cX12_game 109 = .ok (.iconst 0, 1) := by decide +kernel
theorem dX12_game_110 : decode cX12_game 110 = .ok (.iaload, 1) := by decide +kernel
theorem dX12_game_111 : decode cX12_game 111 = .ok (.if_icmp .ge 24, 3) := by decide +kernel
theorem dX12_game_114 : decode cX12_game 114 = .ok (.aload_n 0, 1) := by decide +kernel
theorem dX12_game_115 : decode cX12_game 115 = .ok (.iconst 0, 1) := by decide +kernel
theorem dX12_game_116 : decode cX12_game 116 = .ok (.iload_n 1, 1) := by decide +kernel
theorem dX12_game_117 : decode cX12_game 117 = .ok (.iload 4, 2) := by decide +kernel
theorem dX12_game_119 : decode cX12_game 119 = .ok (.iconst 1, 1) := by decide +kernel
theorem dX12_game_120 : decode cX12_game 120 = .ok (.invokevirtual 537, 3) := by decide +kernel
theorem dX12_game_123 : decode cX12_game 123 = .ok (.ifCond .eq 6, 3) := by decide +kernel
theorem dX12_game_126 : decode cX12_game 126 = .ok (.iload 4, 2) := by decide +kernel
theorem dX12_game_128 : decode cX12_game 128 = .ok (.ireturn, 1) := by decide +kernel
theorem dX12_game_129 : decode cX12_game 129 = .ok (.iinc 4 1, 3) := by decide +kernel
theorem dX12_game_132 : decode cX12_game 132 = .ok (.goto (-29), 3) := by decide +kernel
theorem dX12_game_135 : decode cX12_game 135 = .ok (.iconst (-1), 1) := by decide +kernel
theorem dX12_game_136 : decode cX12_game 136 = .ok (.ireturn, 1) := by decide +kernel
theorem dX12_left_0 : decode cX12_left 0 = .ok (.aload_n 0, 1) := by decide +kernel
theorem dX12_left_1 : decode cX12_left 1 = .ok (.iload_n 1, 1) := by decide +kernel
theorem dX12_left_2 : decode cX12_left 2 = .ok (.invokevirtual 480, 3) := by decide +kernel
theorem dX12_left_5 : decode cX12_left 5 = .ok (.ifCond .ne 5, 3) := by decide +kernel
theorem dX12_left_8 : decode cX12_left 8 = .ok (.iconst (-1), 1) := by decide +kernel
theorem dX12_left_9 : decode cX12_left 9 = .ok (.ireturn, 1) := by decide +kernel
theorem dX12_left_10 : decode cX12_left 10 = .ok (.iconst (-1), 1) := by decide +kernel
theorem dX12_left_11 : decode cX12_left 11 = .ok (.istore_n 2, 1) := by decide +kernel
theorem dX12_left_12 : decode cX12_left 12 = .ok (.iconst 0, 1) := by decide +kernel
theorem dX12_left_13 : decode cX12_left 13 = .ok (.istore_n 3, 1) := by decide +kernel
theorem dX12_left_14 : decode cX12_left 14 = .ok (.iload_n 3, 1) := by decide +kernel
theorem dX12_left_15 : decode cX12_left 15 = .ok (.aload_n 0, 1) := by decide +kernel
theorem dX12_left_16 : decode cX12_left 16 = .ok (.getfield 7, 3) := by decide +kernel
theorem dX12_left_19 : decode cX12_left 19 = .ok (.iconst 0, 1) := by decide +kernel
theorem dX12_left_20 : decode cX12_left 20 = .ok (.iaload, 1) := by decide +kernel
theorem dX12_left_21 : decode cX12_left 21 = .ok (.if_icmp .ge 47, 3) := by decide +kernel
theorem dX12_left_24 : decode cX12_left 24 = .ok (.aload_n 0, 1) := by decide +kernel
theorem dX12_left_25 : decode cX12_left 25 = .ok (.iload_n 1, 1) := by decide +kernel
theorem dX12_left_26 : decode cX12_left 26 = .ok (.iload_n 3, 1) := by decide +kernel
theorem dX12_left_27 : decode cX12_left 27 = .ok (.invokevirtual 501, 3) := by decide +kernel
theorem dX12_left_30 : decode cX12_left 30 = .ok (.ifCond .ne 32, 3) := by decide +kernel
theorem dX12_left_33 : decode cX12_left 33 = .ok (.iload_n 2, 1) := by decide +kernel
theorem dX12_left_34 : decode cX12_left 34 = .ok (.ifCond .lt 26, 3) := by decide +kernel
theorem dX12_left_37 : decode cX12_left 37 = .ok (.aload_n 0, 1) := by decide +kernel
theorem dX12_left_38 : decode cX12_left 38 = .ok (.getfield 56, 3) := by decide +kernel
theorem dX12_left_41 : decode cX12_left 41 = .ok (.iconst 4, 1) := by decide +kernel
theorem dX12_left_42 : decode cX12_left 42 = .ok (.iload_n 3, 1) := by decide +kernel
theorem dX12_left_43 : decode cX12_left 43 = .ok (.imul, 1) := by decide +kernel
theorem dX12_left_44 : decode cX12_left 44 = .ok (.iconst 2, 1) := by decide +kernel
theorem dX12_left_45 : decode cX12_left 45 = .ok (.iadd, 1) := by decide +kernel
theorem dX12_left_46 : decode cX12_left 46 = .ok (.iaload, 1) := by decide +kernel
theorem dX12_left_47 : decode cX12_left 47 = .ok (.aload_n 0, 1) := by decide +kernel
theorem dX12_left_48 : decode cX12_left 48 = .ok (.getfield 56, 3) := by decide +kernel
theorem dX12_left_51 : decode cX12_left 51 = .ok (.iconst 4, 1) := by decide +kernel
theorem dX12_left_52 : decode cX12_left 52 = .ok (.iload_n 2, 1) := by decide +kernel
theorem dX12_left_53 : decode cX12_left 53 = .ok (.imul, 1) := by decide +kernel
theorem dX12_left_54 : decode cX12_left 54 = .ok (.iconst 2, 1) := by decide +kernel
theorem dX12_left_55 : decode cX12_left 55 = .ok (.iadd, 1) := by decide +kernel
theorem dX12_left_56 : decode cX12_left 56 = .ok (.iaload, 1) := by decide +kernel
theorem dX12_left_57 : decode cX12_left 57 = .ok (.if_icmp .ge 5, 3) := by decide +kernel
theorem dX12_left_60 : decode cX12_left 60 = .ok (.iload_n 3, 1) := by decide +kernel
theorem dX12_left_61 : decode cX12_left 61 = .ok (.istore_n 2, 1) := by decide +kernel
theorem dX12_left_62 : decode cX12_left 62 = .ok (.iinc 3 1, 3) := by decide +kernel
theorem dX12_left_65 : decode cX12_left 65 = .ok (.goto (-51), 3) := by decide +kernel
theorem dX12_left_68 : decode cX12_left 68 = .ok (.iload_n 2, 1) := by decide +kernel
theorem dX12_left_69 : decode cX12_left 69 = .ok (.ireturn, 1) := by decide +kernel
theorem dX12_cell_0 : decode cX12_cell 0 = .ok (.sipush 1001, 3) := by decide +kernel
theorem dX12_cell_3 : decode cX12_cell 3 = .ok (.iload_n 0, 1) := by decide +kernel
theorem dX12_cell_4 : decode cX12_cell 4 = .ok (.imul, 1) := by decide +kernel
theorem dX12_cell_5 : decode cX12_cell 5 = .ok (.iload_n 1, 1) := by decide +kernel
theorem dX12_cell_6 : decode cX12_cell 6 = .ok (.iadd, 1) := by decide +kernel
theorem dX12_cell_7 : decode cX12_cell 7 = .ok (.sipush 500, 3) := by decide +kernel
theorem dX12_cell_10 : decode cX12_cell 10 = .ok (.iadd, 1) := by decide +kernel
theorem dX12_cell_11 : decode cX12_cell 11 = .ok (.ireturn, 1) := by decide +kernel
theorem dX12_two_0 : decode cX12_two 0 = .ok (.iload_n 0, 1) := by decide +kernel
theorem dX12_two_1 : decode cX12_two 1 = .ok (.ifCond .ne 9, 3) := by decide +kernel
theorem dX12_two_4 : decode cX12_two 4 = .ok (.iload_n 1, 1) := by decide +kernel
theorem dX12_two_5 : decode cX12_two 5 = .ok (.iload_n 2, 1) := by decide +kernel
theorem dX12_two_6 : decode cX12_two 6 = .ok (.iadd, 1) := by decide +kernel
theorem dX12_two_7 : decode cX12_two 7 = .ok (.goto 17, 3) := by decide +kernel
theorem dX12_two_10 : decode cX12_two 10 = .ok (.iload_n 0, 1) := by decide +kernel
theorem dX12_two_11 : decode cX12_two 11 = .ok (.iconst 1, 1) := by decide +kernel
theorem dX12_two_12 : decode cX12_two 12 = .ok (.if_icmp .ne 9, 3) := by decide +kernel
theorem dX12_two_15 : decode cX12_two 15 = .ok (.iload_n 1, 1) := by decide +kernel
theorem dX12_two_16 : decode cX12_two 16 = .ok (.iload_n 2, 1) := by decide +kernel
theorem dX12_two_17 : decode cX12_two 17 = .ok (.isub, 1) := by decide +kernel
theorem dX12_two_18 : decode cX12_two 18 = .ok (.goto 6, 3) := by decide +kernel
theorem dX12_two_21 : decode cX12_two 21 = .ok (.iload_n 1, 1) := by decide +kernel
theorem dX12_two_22 : decode cX12_two 22 = .ok (.iload_n 2, 1) := by decide +kernel
theorem dX12_two_23 : decode cX12_two 23 = .ok (.imul, 1) := by decide +kernel
theorem dX12_two_24 : decode cX12_two 24 = .ok (.ireturn, 1) := by decide +kernel
theorem dX12_join_0 : decode cX12_join 0 = .ok (.sipush (-500), 3) := by decide +kernel
theorem dX12_join_3 : decode cX12_join 3 = .ok (.istore_n 3, 1) := by decide +kernel
theorem dX12_join_4 : decode cX12_join 4 = .ok (.iload_n 3, 1) := by decide +kernel
theorem dX12_join_5 : decode cX12_join 5 = .ok (.sipush 500, 3) := by decide +kernel
theorem dX12_join_8 : decode cX12_join 8 = .ok (.if_icmp .gt 133, 3) := by decide +kernel
theorem dX12_join_11 : decode cX12_join 11 = .ok (.aload_n 0, 1) := by decide +kernel
theorem dX12_join_12 : decode cX12_join 12 = .ok (.getfield 106, 3) := by decide +kernel
theorem dX12_join_15 : decode cX12_join 15 = .ok (.iload_n 1, 1) := by decide +kernel
theorem dX12_join_16 : decode cX12_join 16 = .ok (.iload_n 3, 1) := by decide +kernel
theorem dX12_join_17 : decode cX12_join 17 = .ok (.invokestatic 545, 3) := by decide +kernel
theorem dX12_join_20 : decode cX12_join 20 = .ok (.laload, 1) := by decide +kernel
theorem dX12_join_21 : decode cX12_join 21 = .ok (.lstore 4, 2) := by decide +kernel
theorem dX12_join_23 : decode cX12_join 23 = .ok (.lload 4, 2) := by decide +kernel
theorem dX12_join_25 : decode cX12_join 25 = .ok (.lconst 0, 1) := by decide +kernel
theorem dX12_join_26 : decode cX12_join 26 = .ok (.lcmp, 1) := by decide +kernel
theorem dX12_join_27 : decode cX12_join 27 = .ok (.ifCond .ne 6, 3) := by decide +kernel
theorem dX12_join_30 : decode cX12_join 30 = .ok (.goto 105, 3) := by decide +kernel
theorem dX12_join_33 : decode cX12_join 33 = .ok (.sipush (-500), 3) := by decide +kernel
theorem dX12_join_36 : decode cX12_join 36 = .ok (.istore 6, 2) := by decide +kernel
theorem dX12_join_38 : decode cX12_join 38 = .ok (.iload 6, 2) := by decide +kernel
theorem dX12_join_40 : decode cX12_join 40 = .ok (.sipush 500, 3) := by decide +kernel
theorem dX12_join_43 : decode cX12_join 43 = .ok (.if_icmp .gt 92, 3) := by decide +kernel
theorem dX12_join_46 : decode cX12_join 46 = .ok (.aload_n 0, 1) := by decide +kernel
theorem dX12_join_47 : decode cX12_join 47 = .ok (.getfield 106, 3) := by decide +kernel
theorem dX12_join_50 : decode cX12_join 50 = .ok (.iload_n 2, 1) := by decide +kernel
theorem dX12_join_51 : decode cX12_join 51 = .ok (.iload 6, 2) := by decide +kernel
theorem dX12_join_53 : decode cX12_join 53 = .ok (.invokestatic 545, 3) := by decide +kernel
theorem dX12_join_56 : decode cX12_join 56 = .ok (.laload, 1) := by decide +kernel
theorem dX12_join_57 : decode cX12_join 57 = .ok (.lstore 7, 2) := by decide +kernel
theorem dX12_join_59 : decode cX12_join 59 = .ok (.lload 7, 2) := by decide +kernel
theorem dX12_join_61 : decode cX12_join 61 = .ok (.lconst 0, 1) := by decide +kernel
theorem dX12_join_62 : decode cX12_join 62 = .ok (.lcmp, 1) := by decide +kernel
theorem dX12_join_63 : decode cX12_join 63 = .ok (.ifCond .ne 6, 3) := by decide +kernel
theorem dX12_join_66 : decode cX12_join 66 = .ok (.goto 63, 3) := by decide +kernel
theorem dX12_join_69 : decode cX12_join 69 = .ok (.iconst 0, 1) := by decide +kernel
theorem dX12_join_70 : decode cX12_join 70 = .ok (.istore 9, 2) := by decide +kernel
theorem dX12_join_72 : decode cX12_join 72 = .ok (.iload 9, 2) := by decide +kernel
theorem dX12_join_74 : decode cX12_join 74 = .ok (.iconst 3, 1) := by decide +kernel
theorem dX12_join_75 : decode cX12_join 75 = .ok (.if_icmp .ge 54, 3) := by decide +kernel
theorem dX12_join_78 : decode cX12_join 78 = .ok (.iload 9, 2) := by decide +kernel
theorem dX12_join_80 : decode cX12_join 80 = .ok (.iload_n 3, 1) := by decide +kernel
theorem dX12_join_81 : decode cX12_join 81 = .ok (.iload 6, 2) := by decide +kernel
theorem dX12_join_83 : decode cX12_join 83 = .ok (.invokestatic 548, 3) := by decide +kernel
theorem dX12_join_86 : decode cX12_join 86 = .ok (.istore 10, 2) := by decide +kernel
theorem dX12_join_88 : decode cX12_join 88 = .ok (.iload 10, 2) := by decide +kernel
theorem dX12_join_90 : decode cX12_join 90 = .ok (.sipush (-500), 3) := by decide +kernel
theorem dX12_join_93 : decode cX12_join 93 = .ok (.sipush 500, 3) := by decide +kernel
theorem dX12_join_96 : decode cX12_join 96 = .ok (.invokestatic 126, 3) := by decide +kernel
theorem dX12_join_99 : decode cX12_join 99 = .ok (.ifCond .eq 24, 3) := by decide +kernel
theorem dX12_join_102 : decode cX12_join 102 = .ok (.aload_n 0, 1) := by decide +kernel
theorem dX12_join_103 : decode cX12_join 103 = .ok (.getfield 106, 3) := by decide +kernel
theorem dX12_join_106 : decode cX12_join 106 = .ok (.iload_n 1, 1) := by decide +kernel
theorem dX12_join_107 : decode cX12_join 107 = .ok (.iload_n 2, 1) := by decide +kernel
theorem dX12_join_108 : decode cX12_join 108 = .ok (.iadd, 1) := by decide +kernel
theorem dX12_join_109 : decode cX12_join 109 = .ok (.iload 10, 2) := by decide +kernel
theorem dX12_join_111 : decode cX12_join 111 = .ok (.invokestatic 545, 3) := by decide +kernel
theorem dX12_join_114 : decode cX12_join 114 = .ok (.dup2, 1) := by decide +kernel
theorem dX12_join_115 : decode cX12_join 115 = .ok (.laload, 1) := by decide +kernel
theorem dX12_join_116 : decode cX12_join 116 = .ok (.lload 4, 2) := by decide +kernel
theorem dX12_join_118 : decode cX12_join 118 = .ok (.lload 7, 2) := by decide +kernel
theorem dX12_join_120 : decode cX12_join 120 = .ok (.lmul, 1) := by decide +kernel
theorem dX12_join_121 : decode cX12_join 121 = .ok (.ladd, 1) := by decide +kernel
theorem dX12_join_122 : decode cX12_join 122 = .ok (.lastore, 1) := by decide +kernel
theorem dX12_join_123 : decode cX12_join 123 = .ok (.iinc 9 1, 3) := by decide +kernel
theorem dX12_join_126 : decode cX12_join 126 = .ok (.goto (-54), 3) := by decide +kernel
theorem dX12_join_129 : decode cX12_join 129 = .ok (.iinc 6 1, 3) := by decide +kernel
theorem dX12_join_132 : decode cX12_join 132 = .ok (.goto (-94), 3) := by decide +kernel
theorem dX12_join_135 : decode cX12_join 135 = .ok (.iinc 3 1, 3) := by decide +kernel
theorem dX12_join_138 : decode cX12_join 138 = .ok (.goto (-134), 3) := by decide +kernel
theorem dX12_join_141 : decode cX12_join 141 = .ok (.return_, 1) := by decide +kernel
theorem dX12_findKinds_0 : decode cX12_findKinds 0 = .ok (.iconst 0, 1) := by decide +kernel
theorem dX12_findKinds_1 : decode cX12_findKinds 1 = .ok (.istore_n 3, 1) := by decide +kernel
theorem dX12_findKinds_2 : decode cX12_findKinds 2 = .ok (.iload_n 3, 1) := by decide +kernel
theorem dX12_findKinds_3 : decode cX12_findKinds 3 = .ok (.sipush 6006, 3) := by decide +kernel
theorem dX12_findKinds_6 : decode cX12_findKinds 6 = .ok (.if_icmp .ge 16, 3) := by decide +kernel
theorem dX12_findKinds_9 : decode cX12_findKinds 9 = .ok (.aload_n 0, 1) := by decide +kernel
theorem dX12_findKinds_10 : decode cX12_findKinds 10 = .ok (.getfield 106, 3) := by decide +kernel
theorem dX12_findKinds_13 : decode cX12_findKinds 13 = .ok (.iload_n 3, 1) := by decide +kernel
theorem dX12_findKinds_14 : decode cX12_findKinds 14 = .ok (.lconst 0, 1) := by decide +kernel
theorem dX12_findKinds_15 : decode cX12_findKinds 15 = .ok (.lastore, 1) := by decide +kernel
theorem dX12_findKinds_16 : decode cX12_findKinds 16 = .ok (.iinc 3 1, 3) := by decide +kernel
theorem dX12_findKinds_19 : decode cX12_findKinds 19 = .ok (.goto (-17), 3) := by decide +kernel
theorem dX12_findKinds_22 : decode cX12_findKinds 22 = .ok (.iconst 0, 1) := by decide +kernel
theorem dX12_findKinds_23 : decode cX12_findKinds 23 = .ok (.istore_n 3, 1) := by decide +kernel
theorem dX12_findKinds_24 : decode cX12_findKinds 24 = .ok (.iload_n 3, 1) := by decide +kernel
theorem dX12_findKinds_25 : decode cX12_findKinds 25 = .ok (.iconst 4, 1) := by decide +kernel
theorem dX12_findKinds_26 : decode cX12_findKinds 26 = .ok (.if_icmp .ge 31, 3) := by decide +kernel
theorem dX12_findKinds_29 : decode cX12_findKinds 29 = .ok (.aload_n 0, 1) := by decide +kernel
theorem dX12_findKinds_30 : decode cX12_findKinds 30 = .ok (.getfield 106, 3) := by decide +kernel
theorem dX12_findKinds_33 : decode cX12_findKinds 33 = .ok (.iconst 1, 1) := by decide +kernel
theorem dX12_findKinds_34 : decode cX12_findKinds 34 = .ok (.aload_n 0, 1) := by decide +kernel
theorem dX12_findKinds_35 : decode cX12_findKinds 35 = .ok (.getfield 7, 3) := by decide +kernel
theorem dX12_findKinds_38 : decode cX12_findKinds 38 = .ok (.bipush 10, 2) := by decide +kernel
theorem dX12_findKinds_40 : decode cX12_findKinds 40 = .ok (.iload_n 3, 1) := by decide +kernel
theorem dX12_findKinds_41 : decode cX12_findKinds 41 = .ok (.iadd, 1) := by decide +kernel
theorem dX12_findKinds_42 : decode cX12_findKinds 42 = .ok (.iaload, 1) := by decide +kernel
theorem dX12_findKinds_43 : decode cX12_findKinds 43 = .ok (.invokestatic 545, 3) := by decide +kernel
theorem dX12_findKinds_46 : decode cX12_findKinds 46 = .ok (.dup2, 1) := by decide +kernel
theorem dX12_findKinds_47 : decode cX12_findKinds 47 = .ok (.laload, 1) := by decide +kernel
theorem dX12_findKinds_48 : decode cX12_findKinds 48 = .ok (.lconst 1, 1) := by decide +kernel
theorem dX12_findKinds_49 : decode cX12_findKinds 49 = .ok (.ladd, 1) := by decide +kernel
theorem dX12_findKinds_50 : decode cX12_findKinds 50 = .ok (.lastore, 1) := by decide +kernel
theorem dX12_findKinds_51 : decode cX12_findKinds 51 = .ok (.iinc 3 1, 3) := by decide +kernel
theorem dX12_findKinds_54 : decode cX12_findKinds 54 = .ok (.goto (-30), 3) := by decide +kernel
theorem dX12_findKinds_57 : decode cX12_findKinds 57 = .ok (.iconst 1, 1) := by decide +kernel
theorem dX12_findKinds_58 : decode cX12_findKinds 58 = .ok (.istore_n 3, 1) := by decide +kernel
theorem dX12_findKinds_59 : decode cX12_findKinds 59 = .ok (.iload_n 3, 1) := by decide +kernel
theorem dX12_findKinds_60 : decode cX12_findKinds 60 = .ok (.iload_n 2, 1) := by decide +kernel
theorem dX12_findKinds_61 : decode cX12_findKinds 61 = .ok (.if_icmp .gt 23, 3) := by decide +kernel
theorem dX12_findKinds_64 : decode cX12_findKinds 64 = .ok (.aload_n 0, 1) := by decide +kernel
theorem dX12_findKinds_65 : decode cX12_findKinds 65 = .ok (.getfield 106, 3) := by decide +kernel
theorem dX12_findKinds_68 : decode cX12_findKinds 68 = .ok (.iconst 1, 1) := by decide +kernel
theorem dX12_findKinds_69 : decode cX12_findKinds 69 = .ok (.iload_n 3, 1) := by decide +kernel
theorem dX12_findKinds_70 : decode cX12_findKinds 70 = .ok (.invokestatic 545, 3) := by decide +kernel
theorem dX12_findKinds_73 : decode cX12_findKinds 73 = .ok (.dup2, 1) := by decide +kernel
theorem dX12_findKinds_74 : decode cX12_findKinds 74 = .ok (.laload, 1) := by decide +kernel
theorem dX12_findKinds_75 : decode cX12_findKinds 75 = .ok (.lconst 1, 1) := by decide +kernel
theorem dX12_findKinds_76 : decode cX12_findKinds 76 = .ok (.ladd, 1) := by decide +kernel
theorem dX12_findKinds_77 : decode cX12_findKinds 77 = .ok (.lastore, 1) := by decide +kernel
theorem dX12_findKinds_78 : decode cX12_findKinds 78 = .ok (.iinc 3 1, 3) := by decide +kernel
theorem dX12_findKinds_81 : decode cX12_findKinds 81 = .ok (.goto (-22), 3) := by decide +kernel
theorem dX12_findKinds_84 : decode cX12_findKinds 84 = .ok (.iconst 2, 1) := by decide +kernel
theorem dX12_findKinds_85 : decode cX12_findKinds 85 = .ok (.istore_n 3, 1) := by decide +kernel
theorem dX12_findKinds_86 : decode cX12_findKinds 86 = .ok (.iload_n 3, 1) := by decide +kernel
theorem dX12_findKinds_87 : decode cX12_findKinds 87 = .ok (.iload_n 1, 1) := by decide +kernel
theorem dX12_findKinds_88 : decode cX12_findKinds 88 = .ok (.if_icmp .gt 34, 3) := by decide +kernel
theorem dX12_findKinds_91 : decode cX12_findKinds 91 = .ok (.iconst 1, 1) := by decide +kernel
theorem dX12_findKinds_92 : decode cX12_findKinds 92 = .ok (.istore 4, 2) := by decide +kernel
theorem dX12_findKinds_94 : decode cX12_findKinds 94 = .ok (.iload 4, 2) := by decide +kernel
theorem dX12_findKinds_96 : decode cX12_findKinds 96 = .ok (.iload_n 3, 1) := by decide +kernel
theorem dX12_findKinds_97 : decode cX12_findKinds 97 = .ok (.if_icmp .ge 19, 3) := by decide +kernel
theorem dX12_findKinds_100 : decode cX12_findKinds 100 = .ok (.aload_n 0, 1) := by decide +kernel
theorem dX12_findKinds_101 : decode cX12_findKinds 101 = .ok (.iload 4, 2) := by decide +kernel
theorem dX12_findKinds_103 : decode cX12_findKinds 103 = .ok (.iload_n 3, 1) := by decide +kernel
theorem dX12_findKinds_104 : decode cX12_findKinds 104 = .ok (.iload 4, 2) := by decide +kernel
theorem dX12_findKinds_106 : decode cX12_findKinds 106 = .ok (.isub, 1) := by decide +kernel
theorem dX12_findKinds_107 : decode cX12_findKinds 107 = .ok (.invokevirtual 551, 3) := by decide +kernel
theorem dX12_findKinds_110 : decode cX12_findKinds 110 = .ok (.iinc 4 1, 3) := by decide +kernel
theorem dX12_findKinds_113 : decode cX12_findKinds 113 = .ok (.goto (-19), 3) := by decide +kernel
theorem dX12_findKinds_116 : decode cX12_findKinds 116 = .ok (.iinc 3 1, 3) := by decide +kernel
theorem dX12_findKinds_119 : decode cX12_findKinds 119 = .ok (.goto (-33), 3) := by decide +kernel
theorem dX12_findKinds_122 : decode cX12_findKinds 122 = .ok (.return_, 1) := by decide +kernel
theorem dX12_kinds_0 : decode cX12_kinds 0 = .ok (.iload_n 1, 1) := by decide +kernel
theorem dX12_kinds_1 : decode cX12_kinds 1 = .ok (.iconst 1, 1) := by decide +kernel
theorem dX12_kinds_2 : decode cX12_kinds 2 = .ok (.iconst 5, 1) := by decide +kernel
theorem dX12_kinds_3 : decode cX12_kinds 3 = .ok (.invokestatic 126, 3) := by decide +kernel
theorem dX12_kinds_6 : decode cX12_kinds 6 = .ok (.ifCond .eq 26, 3) := by decide +kernel
theorem dX12_kinds_9 : decode cX12_kinds 9 = .ok (.iload_n 2, 1) := by decide +kernel
theorem dX12_kinds_10 : decode cX12_kinds 10 = .ok (.iconst 0, 1) := by decide +kernel
theorem dX12_kinds_11 : decode cX12_kinds 11 = .ok (.bipush 9, 2) := by decide +kernel
theorem dX12_kinds_13 : decode cX12_kinds 13 = .ok (.invokestatic 126, 3) := by decide +kernel
theorem dX12_kinds_16 : decode cX12_kinds 16 = .ok (.ifCond .eq 16, 3) := by decide +kernel
theorem dX12_kinds_19 : decode cX12_kinds 19 = .ok (.iload_n 3, 1) := by decide +kernel
theorem dX12_kinds_20 : decode cX12_kinds 20 = .ok (.sipush (-500), 3) := by decide +kernel
theorem dX12_kinds_23 : decode cX12_kinds 23 = .ok (.sipush 500, 3) := by decide +kernel
theorem dX12_kinds_26 : decode cX12_kinds 26 = .ok (.invokestatic 126, 3) := by decide +kernel
theorem dX12_kinds_29 : decode cX12_kinds 29 = .ok (.ifCond .ne 7, 3) := by decide +kernel
theorem dX12_kinds_32 : decode cX12_kinds 32 = .ok (.ldc2_w 369, 3) := by decide +kernel
theorem dX12_kinds_35 : decode cX12_kinds 35 = .ok (.lreturn, 1) := by decide +kernel
theorem dX12_kinds_36 : decode cX12_kinds 36 = .ok (.aload_n 0, 1) := by decide +kernel
theorem dX12_kinds_37 : decode cX12_kinds 37 = .ok (.iload_n 1, 1) := by decide +kernel
theorem dX12_kinds_38 : decode cX12_kinds 38 = .ok (.iload_n 2, 1) := by decide +kernel
theorem dX12_kinds_39 : decode cX12_kinds 39 = .ok (.invokevirtual 554, 3) := by decide +kernel
theorem dX12_kinds_42 : decode cX12_kinds 42 = .ok (.aload_n 0, 1) := by decide +kernel
theorem dX12_kinds_43 : decode cX12_kinds 43 = .ok (.getfield 106, 3) := by decide +kernel
theorem dX12_kinds_46 : decode cX12_kinds 46 = .ok (.iload_n 1, 1) := by decide +kernel
theorem dX12_kinds_47 : decode cX12_kinds 47 = .ok (.iload_n 3, 1) := by decide +kernel
theorem dX12_kinds_48 : decode cX12_kinds 48 = .ok (.invokestatic 545, 3) := by decide +kernel
theorem dX12_kinds_51 : decode cX12_kinds 51 = .ok (.laload, 1) := by decide +kernel
theorem dX12_kinds_52 : decode cX12_kinds 52 = .ok (.lreturn, 1) := by decide +kernel
theorem dX12_fewestOf_0 : decode cX12_fewestOf 0 = .ok (.iconst 1, 1) := by decide +kernel
theorem dX12_fewestOf_1 : decode cX12_fewestOf 1 = .ok (.istore_n 3, 1) := by decide +kernel
theorem dX12_fewestOf_2 : decode cX12_fewestOf 2 = .ok (.iload_n 3, 1) := by decide +kernel
theorem dX12_fewestOf_3 : decode cX12_fewestOf 3 = .ok (.iload_n 2, 1) := by decide +kernel
theorem dX12_fewestOf_4 : decode cX12_fewestOf 4 = .ok (.if_icmp .gt 26, 3) := by decide +kernel
theorem dX12_fewestOf_7 : decode cX12_fewestOf 7 = .ok (.aload_n 0, 1) := by decide +kernel
theorem dX12_fewestOf_8 : decode cX12_fewestOf 8 = .ok (.getfield 106, 3) := by decide +kernel
theorem dX12_fewestOf_11 : decode cX12_fewestOf 11 = .ok (.iload_n 3, 1) := by decide +kernel
theorem dX12_fewestOf_12 : decode cX12_fewestOf 12 = .ok (.iload_n 1, 1) := by decide +kernel
theorem dX12_fewestOf_13 : decode cX12_fewestOf 13 = .ok (.invokestatic 545, 3) := by decide +kernel
theorem dX12_fewestOf_16 : decode cX12_fewestOf 16 = .ok (.laload, 1) := by decide +kernel
theorem dX12_fewestOf_17 : decode cX12_fewestOf 17 = .ok (.lconst 0, 1) := by decide +kernel
theorem dX12_fewestOf_18 : decode cX12_fewestOf 18 = .ok (.lcmp, 1) := by decide +kernel
theorem dX12_fewestOf_19 : decode cX12_fewestOf 19 = .ok (.ifCond .le 5, 3) := by decide +kernel
theorem dX12_fewestOf_22 : decode cX12_fewestOf 22 = .ok (.iload_n 3, 1) := by decide +kernel
theorem dX12_fewestOf_23 : decode cX12_fewestOf 23 = .ok (.ireturn, 1) := by decide +kernel
theorem dX12_fewestOf_24 : decode cX12_fewestOf 24 = .ok (.iinc 3 1, 3) := by decide +kernel
theorem dX12_fewestOf_27 : decode cX12_fewestOf 27 = .ok (.goto (-25), 3) := by decide +kernel
theorem dX12_fewestOf_30 : decode cX12_fewestOf 30 = .ok (.iconst (-1), 1) := by decide +kernel
theorem dX12_fewestOf_31 : decode cX12_fewestOf 31 = .ok (.ireturn, 1) := by decide +kernel
theorem dX12_fewest_0 : decode cX12_fewest 0 = .ok (.iload_n 1, 1) := by decide +kernel
theorem dX12_fewest_1 : decode cX12_fewest 1 = .ok (.iconst 0, 1) := by decide +kernel
theorem dX12_fewest_2 : decode cX12_fewest 2 = .ok (.bipush 9, 2) := by decide +kernel
theorem dX12_fewest_4 : decode cX12_fewest 4 = .ok (.invokestatic 126, 3) := by decide +kernel
theorem dX12_fewest_7 : decode cX12_fewest 7 = .ok (.ifCond .eq 16, 3) := by decide +kernel
theorem dX12_fewest_10 : decode cX12_fewest 10 = .ok (.iload_n 2, 1) := by decide +kernel
theorem dX12_fewest_11 : decode cX12_fewest 11 = .ok (.sipush (-500), 3) := by decide +kernel
theorem dX12_fewest_14 : decode cX12_fewest 14 = .ok (.sipush 500, 3) := by decide +kernel
theorem dX12_fewest_17 : decode cX12_fewest 17 = .ok (.invokestatic 126, 3) := by decide +kernel
theorem dX12_fewest_20 : decode cX12_fewest 20 = .ok (.ifCond .ne 5, 3) := by decide +kernel
theorem dX12_fewest_23 : decode cX12_fewest 23 = .ok (.iconst (-1), 1) := by decide +kernel
theorem dX12_fewest_24 : decode cX12_fewest 24 = .ok (.ireturn, 1) := by decide +kernel
theorem dX12_fewest_25 : decode cX12_fewest 25 = .ok (.aload_n 0, 1) := by decide +kernel
theorem dX12_fewest_26 : decode cX12_fewest 26 = .ok (.iconst 5, 1) := by decide +kernel
theorem dX12_fewest_27 : decode cX12_fewest 27 = .ok (.iload_n 1, 1) := by decide +kernel
theorem dX12_fewest_28 : decode cX12_fewest 28 = .ok (.invokevirtual 554, 3) := by decide +kernel
theorem dX12_fewest_31 : decode cX12_fewest 31 = .ok (.aload_n 0, 1) := by decide +kernel
theorem dX12_fewest_32 : decode cX12_fewest 32 = .ok (.iload_n 2, 1) := by decide +kernel
theorem dX12_fewest_33 : decode cX12_fewest 33 = .ok (.iconst 5, 1) := by decide +kernel
theorem dX12_fewest_34 : decode cX12_fewest 34 = .ok (.invokevirtual 557, 3) := by decide +kernel
theorem dX12_fewest_37 : decode cX12_fewest 37 = .ok (.ireturn, 1) := by decide +kernel
theorem dX12_await0_0 : decode cX12_await0 0 = .ok (.aload_n 0, 1) := by decide +kernel
theorem dX12_await0_1 : decode cX12_await0 1 = .ok (.getfield 109, 3) := by decide +kernel
theorem dX12_await0_4 : decode cX12_await0 4 = .ok (.aload_n 0, 1) := by decide +kernel
theorem dX12_await0_5 : decode cX12_await0 5 = .ok (.getfield 560, 3) := by decide +kernel
theorem dX12_await0_8 : decode cX12_await0 8 = .ok (.iload_n 1, 1) := by decide +kernel
theorem dX12_await0_9 : decode cX12_await0 9 = .ok (.iastore, 1) := by decide +kernel
theorem dX12_await0_10 : decode cX12_await0 10 = .ok (.aload_n 0, 1) := by decide +kernel
theorem dX12_await0_11 : decode cX12_await0 11 = .ok (.getfield 112, 3) := by decide +kernel
theorem dX12_await0_14 : decode cX12_await0 14 = .ok (.aload_n 0, 1) := by decide +kernel
theorem dX12_await0_15 : decode cX12_await0 15 = .ok (.getfield 560, 3) := by decide +kernel
theorem dX12_await0_18 : decode cX12_await0 18 = .ok (.iload_n 2, 1) := by decide +kernel
theorem dX12_await0_19 : decode cX12_await0 19 = .ok (.iastore, 1) := by decide +kernel
theorem dX12_await0_20 : decode cX12_await0 20 = .ok (.aload_n 0, 1) := by decide +kernel
theorem dX12_await0_21 : decode cX12_await0 21 = .ok (.dup, 1) := by decide +kernel
theorem dX12_await0_22 : decode cX12_await0 22 = .ok (.getfield 560, 3) := by decide +kernel
theorem dX12_await0_25 : decode cX12_await0 25 = .ok (.iconst 1, 1) := by decide +kernel
theorem dX12_await0_26 : decode cX12_await0 26 = .ok (.iadd, 1) := by decide +kernel
theorem dX12_await0_27 : decode cX12_await0 27 = .ok (.putfield 560, 3) := by decide +kernel
theorem dX12_await0_30 : decode cX12_await0 30 = .ok (.return_, 1) := by decide +kernel
theorem dX12_leafOf_0 : decode cX12_leafOf 0 = .ok (.iload_n 1, 1) := by decide +kernel
theorem dX12_leafOf_1 : decode cX12_leafOf 1 = .ok (.iconst 1, 1) := by decide +kernel
theorem dX12_leafOf_2 : decode cX12_leafOf 2 = .ok (.iload_n 2, 1) := by decide +kernel
theorem dX12_leafOf_3 : decode cX12_leafOf 3 = .ok (.invokestatic 126, 3) := by decide +kernel
theorem dX12_leafOf_6 : decode cX12_leafOf 6 = .ok (.ifCond .eq 5, 3) := by decide +kernel
theorem dX12_leafOf_9 : decode cX12_leafOf 9 = .ok (.iload_n 1, 1) := by decide +kernel
theorem dX12_leafOf_10 : decode cX12_leafOf 10 = .ok (.ireturn, 1) := by decide +kernel
theorem dX12_leafOf_11 : decode cX12_leafOf 11 = .ok (.iconst 0, 1) := by decide +kernel
theorem dX12_leafOf_12 : decode cX12_leafOf 12 = .ok (.istore_n 3, 1) := by decide +kernel
theorem dX12_leafOf_13 : decode cX12_leafOf 13 = .ok (.iload_n 3, 1) := by decide +kernel
theorem dX12_leafOf_14 : decode cX12_leafOf 14 = .ok (.iconst 4, 1) := by decide +kernel
theorem dX12_leafOf_15 : decode cX12_leafOf 15 = .ok (.if_icmp .ge 28, 3) := by decide +kernel
theorem dX12_leafOf_18 : decode cX12_leafOf 18 = .ok (.aload_n 0, 1) := by decide +kernel
theorem dX12_leafOf_19 : decode cX12_leafOf 19 = .ok (.getfield 7, 3) := by decide +kernel
theorem dX12_leafOf_22 : decode cX12_leafOf 22 = .ok (.bipush 10, 2) := by decide +kernel
theorem dX12_leafOf_24 : decode cX12_leafOf 24 = .ok (.iload_n 3, 1) := by decide +kernel
theorem dX12_leafOf_25 : decode cX12_leafOf 25 = .ok (.iadd, 1) := by decide +kernel
theorem dX12_leafOf_26 : decode cX12_leafOf 26 = .ok (.iaload, 1) := by decide +kernel
theorem dX12_leafOf_27 : decode cX12_leafOf 27 = .ok (.iload_n 1, 1) := by decide +kernel
theorem dX12_leafOf_28 : decode cX12_leafOf 28 = .ok (.if_icmp .ne 9, 3) := by decide +kernel
theorem dX12_leafOf_31 : decode cX12_leafOf 31 = .ok (.sipush 2000, 3) := by decide +kernel
theorem dX12_leafOf_34 : decode cX12_leafOf 34 = .ok (.iload_n 3, 1) := by decide +kernel
theorem dX12_leafOf_35 : decode cX12_leafOf 35 = .ok (.iadd, 1) := by decide +kernel
theorem dX12_leafOf_36 : decode cX12_leafOf 36 = .ok (.ireturn, 1) := by decide +kernel
theorem dX12_leafOf_37 : decode cX12_leafOf 37 = .ok (.iinc 3 1, 3) := by decide +kernel
theorem dX12_leafOf_40 : decode cX12_leafOf 40 = .ok (.goto (-27), 3) := by decide +kernel
theorem dX12_leafOf_43 : decode cX12_leafOf 43 = .ok (.iconst (-1), 1) := by decide +kernel
theorem dX12_leafOf_44 : decode cX12_leafOf 44 = .ok (.ireturn, 1) := by decide +kernel
theorem dX12_split_0 : decode cX12_split 0 = .ok (.iconst 1, 1) := by decide +kernel
theorem dX12_split_1 : decode cX12_split 1 = .ok (.istore_n 3, 1) := by decide +kernel
theorem dX12_split_2 : decode cX12_split 2 = .ok (.iload_n 3, 1) := by decide +kernel
theorem dX12_split_3 : decode cX12_split 3 = .ok (.iload_n 1, 1) := by decide +kernel
theorem dX12_split_4 : decode cX12_split 4 = .ok (.if_icmp .ge 134, 3) := by decide +kernel
theorem dX12_split_7 : decode cX12_split 7 = .ok (.iconst 0, 1) := by decide +kernel
theorem dX12_split_8 : decode cX12_split 8 = .ok (.istore 4, 2) := by decide +kernel
theorem dX12_split_10 : decode cX12_split 10 = .ok (.iload 4, 2) := by decide +kernel
theorem dX12_split_12 : decode cX12_split 12 = .ok (.iconst 3, 1) := by decide +kernel
theorem dX12_split_13 : decode cX12_split 13 = .ok (.if_icmp .ge 119, 3) := by decide +kernel
theorem dX12_split_16 : decode cX12_split 16 = .ok (.sipush (-500), 3) := by decide +kernel
theorem dX12_split_19 : decode cX12_split 19 = .ok (.istore 5, 2) := by decide +kernel
theorem dX12_split_21 : decode cX12_split 21 = .ok (.iload 5, 2) := by decide +kernel
theorem dX12_split_23 : decode cX12_split 23 = .ok (.sipush 500, 3) := by decide +kernel
theorem dX12_split_26 : decode cX12_split 26 = .ok (.if_icmp .gt 100, 3) := by decide +kernel
theorem dX12_split_29 : decode cX12_split 29 = .ok (.aload_n 0, 1) := by decide +kernel
theorem dX12_split_30 : decode cX12_split 30 = .ok (.getfield 106, 3) := by decide +kernel
theorem dX12_split_33 : decode cX12_split 33 = .ok (.iload_n 3, 1) := by decide +kernel
theorem dX12_split_34 : decode cX12_split 34 = .ok (.iload 5, 2) := by decide +kernel
theorem dX12_split_36 : decode cX12_split 36 = .ok (.invokestatic 545, 3) := by decide +kernel
theorem dX12_split_39 : decode cX12_split 39 = .ok (.laload, 1) := by decide +kernel
theorem dX12_split_40 : decode cX12_split 40 = .ok (.lconst 0, 1) := by decide +kernel
theorem dX12_split_41 : decode cX12_split 41 = .ok (.lcmp, 1) := by decide +kernel
theorem dX12_split_42 : decode cX12_split 42 = .ok (.ifCond .ne 6, 3) := by decide +kernel
theorem dX12_split_45 : decode cX12_split 45 = .ok (.goto 75, 3) := by decide +kernel
theorem dX12_split_48 : decode cX12_split 48 = .ok (.sipush (-500), 3) := by decide +kernel
theorem dX12_split_51 : decode cX12_split 51 = .ok (.istore 6, 2) := by decide +kernel
theorem dX12_split_53 : decode cX12_split 53 = .ok (.iload 6, 2) := by decide +kernel
theorem dX12_split_55 : decode cX12_split 55 = .ok (.sipush 500, 3) := by decide +kernel
theorem dX12_split_58 : decode cX12_split 58 = .ok (.if_icmp .gt 62, 3) := by decide +kernel
theorem dX12_split_61 : decode cX12_split 61 = .ok (.iload 4, 2) := by decide +kernel
theorem dX12_split_63 : decode cX12_split 63 = .ok (.iload 5, 2) := by decide +kernel
theorem dX12_split_65 : decode cX12_split 65 = .ok (.iload 6, 2) := by decide +kernel
theorem dX12_split_67 : decode cX12_split 67 = .ok (.invokestatic 548, 3) := by decide +kernel
theorem dX12_split_70 : decode cX12_split 70 = .ok (.iload_n 2, 1) := by decide +kernel
theorem dX12_split_71 : decode cX12_split 71 = .ok (.if_icmp .ne 43, 3) := by decide +kernel
theorem dX12_split_74 : decode cX12_split 74 = .ok (.aload_n 0, 1) := by decide +kernel
theorem dX12_split_75 : decode cX12_split 75 = .ok (.getfield 106, 3) := by decide +kernel
theorem dX12_split_78 : decode cX12_split 78 = .ok (.iload_n 1, 1) := by decide +kernel
theorem dX12_split_79 : decode cX12_split 79 = .ok (.iload_n 3, 1) := by decide +kernel
theorem dX12_split_80 : decode cX12_split 80 = .ok (.isub, 1) := by decide +kernel
theorem dX12_split_81 : decode cX12_split 81 = .ok (.iload 6, 2) := by decide +kernel
theorem dX12_split_83 : decode cX12_split 83 = .ok (.invokestatic 545, 3) := by decide +kernel
theorem dX12_split_86 : decode cX12_split 86 = .ok (.laload, 1) := by decide +kernel
theorem dX12_split_87 : decode cX12_split 87 = .ok (.lconst 0, 1) := by decide +kernel
theorem dX12_split_88 : decode cX12_split 88 = .ok (.lcmp, 1) := by decide +kernel
theorem dX12_split_89 : decode cX12_split 89 = .ok (.ifCond .ne 6, 3) := by decide +kernel
theorem dX12_split_92 : decode cX12_split 92 = .ok (.goto 22, 3) := by decide +kernel
theorem dX12_split_95 : decode cX12_split 95 = .ok (.aload_n 0, 1) := by decide +kernel
theorem dX12_split_96 : decode cX12_split 96 = .ok (.iload_n 1, 1) := by decide +kernel
theorem dX12_split_97 : decode cX12_split 97 = .ok (.iload_n 3, 1) := by decide +kernel
theorem dX12_split_98 : decode cX12_split 98 = .ok (.isub, 1) := by decide +kernel
theorem dX12_split_99 : decode cX12_split 99 = .ok (.iload 6, 2) := by decide +kernel
theorem dX12_split_101 : decode cX12_split 101 = .ok (.invokevirtual 563, 3) := by decide +kernel
theorem dX12_split_104 : decode cX12_split 104 = .ok (.aload_n 0, 1) := by decide +kernel
theorem dX12_split_105 : decode cX12_split 105 = .ok (.iload_n 3, 1) := by decide +kernel
theorem dX12_split_106 : decode cX12_split 106 = .ok (.iload 5, 2) := by decide +kernel
theorem dX12_split_108 : decode cX12_split 108 = .ok (.invokevirtual 563, 3) := by decide +kernel
theorem dX12_split_111 : decode cX12_split 111 = .ok (.iload 4, 2) := by decide +kernel
theorem dX12_split_113 : decode cX12_split 113 = .ok (.ireturn, 1) := by decide +kernel
theorem dX12_split_114 : decode cX12_split 114 = .ok (.iinc 6 1, 3) := by decide +kernel
theorem dX12_split_117 : decode cX12_split 117 = .ok (.goto (-64), 3) := by decide +kernel
theorem dX12_split_120 : decode cX12_split 120 = .ok (.iinc 5 1, 3) := by decide +kernel
theorem dX12_split_123 : decode cX12_split 123 = .ok (.goto (-102), 3) := by decide +kernel
theorem dX12_split_126 : decode cX12_split 126 = .ok (.iinc 4 1, 3) := by decide +kernel
theorem dX12_split_129 : decode cX12_split 129 = .ok (.goto (-119), 3) := by decide +kernel
theorem dX12_split_132 : decode cX12_split 132 = .ok (.iinc 3 1, 3) := by decide +kernel
theorem dX12_split_135 : decode cX12_split 135 = .ok (.goto (-133), 3) := by decide +kernel
theorem dX12_split_138 : decode cX12_split 138 = .ok (.iconst (-1), 1) := by decide +kernel
theorem dX12_split_139 : decode cX12_split 139 = .ok (.ireturn, 1) := by decide +kernel
theorem dX12_shortest_0 : decode cX12_shortest 0 = .ok (.iload_n 1, 1) := by decide +kernel
theorem dX12_shortest_1 : decode cX12_shortest 1 = .ok (.iconst 0, 1) := by decide +kernel
theorem dX12_shortest_2 : decode cX12_shortest 2 = .ok (.bipush 9, 2) := by decide +kernel
theorem dX12_shortest_4 : decode cX12_shortest 4 = .ok (.invokestatic 126, 3) := by decide +kernel
theorem dX12_shortest_7 : decode cX12_shortest 7 = .ok (.ifCond .eq 21, 3) := by decide +kernel
theorem dX12_shortest_10 : decode cX12_shortest 10 = .ok (.iload_n 2, 1) := by decide +kernel
theorem dX12_shortest_11 : decode cX12_shortest 11 = .ok (.sipush (-500), 3) := by decide +kernel
theorem dX12_shortest_14 : decode cX12_shortest 14 = .ok (.sipush 500, 3) := by decide +kernel
theorem dX12_shortest_17 : decode cX12_shortest 17 = .ok (.invokestatic 126, 3) := by decide +kernel
theorem dX12_shortest_20 : decode cX12_shortest 20 = .ok (.ifCond .eq 8, 3) := by decide +kernel
theorem dX12_shortest_23 : decode cX12_shortest 23 = .ok (.iload_n 3, 1) := by decide +kernel
theorem dX12_shortest_24 : decode cX12_shortest 24 = .ok (.iconst (-1), 1) := by decide +kernel
theorem dX12_shortest_25 : decode cX12_shortest 25 = .ok (.if_icmp .ge 5, 3) := by decide +kernel
theorem dX12_shortest_28 : decode cX12_shortest 28 = .ok (.iconst (-1), 1) := by decide +kernel
theorem dX12_shortest_29 : decode cX12_shortest 29 = .ok (.ireturn, 1) := by decide +kernel
theorem dX12_shortest_30 : decode cX12_shortest 30 = .ok (.aload_n 0, 1) := by decide +kernel
theorem dX12_shortest_31 : decode cX12_shortest 31 = .ok (.iconst 5, 1) := by decide +kernel
theorem dX12_shortest_32 : decode cX12_shortest 32 = .ok (.iload_n 1, 1) := by decide +kernel
theorem dX12_shortest_33 : decode cX12_shortest 33 = .ok (.invokevirtual 554, 3) := by decide +kernel
theorem dX12_shortest_36 : decode cX12_shortest 36 = .ok (.aload_n 0, 1) := by decide +kernel
theorem dX12_shortest_37 : decode cX12_shortest 37 = .ok (.iload_n 2, 1) := by decide +kernel
theorem dX12_shortest_38 : decode cX12_shortest 38 = .ok (.iconst 5, 1) := by decide +kernel
theorem dX12_shortest_39 : decode cX12_shortest 39 = .ok (.invokevirtual 557, 3) := by decide +kernel
theorem dX12_shortest_42 : decode cX12_shortest 42 = .ok (.istore 4, 2) := by decide +kernel
theorem dX12_shortest_44 : decode cX12_shortest 44 = .ok (.iload 4, 2) := by decide +kernel
theorem dX12_shortest_46 : decode cX12_shortest 46 = .ok (.ifCond .ge 5, 3) := by decide +kernel
theorem dX12_shortest_49 : decode cX12_shortest 49 = .ok (.iconst (-1), 1) := by decide +kernel
theorem dX12_shortest_50 : decode cX12_shortest 50 = .ok (.ireturn, 1) := by decide +kernel
theorem dX12_shortest_51 : decode cX12_shortest 51 = .ok (.iload_n 3, 1) := by decide +kernel
theorem dX12_shortest_52 : decode cX12_shortest 52 = .ok (.iconst (-1), 1) := by decide +kernel
theorem dX12_shortest_53 : decode cX12_shortest 53 = .ok (.if_icmp .ne 10, 3) := by decide +kernel
theorem dX12_shortest_56 : decode cX12_shortest 56 = .ok (.iconst 2, 1) := by decide +kernel
theorem dX12_shortest_57 : decode cX12_shortest 57 = .ok (.iload 4, 2) := by decide +kernel
theorem dX12_shortest_59 : decode cX12_shortest 59 = .ok (.imul, 1) := by decide +kernel
theorem dX12_shortest_60 : decode cX12_shortest 60 = .ok (.iconst 1, 1) := by decide +kernel
theorem dX12_shortest_61 : decode cX12_shortest 61 = .ok (.isub, 1) := by decide +kernel
theorem dX12_shortest_62 : decode cX12_shortest 62 = .ok (.ireturn, 1) := by decide +kernel
theorem dX12_shortest_63 : decode cX12_shortest 63 = .ok (.iload_n 3, 1) := by decide +kernel
theorem dX12_shortest_64 : decode cX12_shortest 64 = .ok (.iconst 2, 1) := by decide +kernel
theorem dX12_shortest_65 : decode cX12_shortest 65 = .ok (.iload 4, 2) := by decide +kernel
theorem dX12_shortest_67 : decode cX12_shortest 67 = .ok (.imul, 1) := by decide +kernel
theorem dX12_shortest_68 : decode cX12_shortest 68 = .ok (.iconst 2, 1) := by decide +kernel
theorem dX12_shortest_69 : decode cX12_shortest 69 = .ok (.isub, 1) := by decide +kernel
theorem dX12_shortest_70 : decode cX12_shortest 70 = .ok (.if_icmp .le 5, 3) := by decide +kernel
theorem dX12_shortest_73 : decode cX12_shortest 73 = .ok (.iconst (-1), 1) := by decide +kernel
theorem dX12_shortest_74 : decode cX12_shortest 74 = .ok (.ireturn, 1) := by decide +kernel
theorem dX12_shortest_75 : decode cX12_shortest 75 = .ok (.aload_n 0, 1) := by decide +kernel
theorem dX12_shortest_76 : decode cX12_shortest 76 = .ok (.iconst 0, 1) := by decide +kernel
theorem dX12_shortest_77 : decode cX12_shortest 77 = .ok (.putfield 560, 3) := by decide +kernel
theorem dX12_shortest_80 : decode cX12_shortest 80 = .ok (.aload_n 0, 1) := by decide +kernel
theorem dX12_shortest_81 : decode cX12_shortest 81 = .ok (.iload 4, 2) := by decide +kernel
theorem dX12_shortest_83 : decode cX12_shortest 83 = .ok (.iload_n 2, 1) := by decide +kernel
theorem dX12_shortest_84 : decode cX12_shortest 84 = .ok (.invokevirtual 563, 3) := by decide +kernel
theorem dX12_shortest_87 : decode cX12_shortest 87 = .ok (.iconst 0, 1) := by decide +kernel
theorem dX12_shortest_88 : decode cX12_shortest 88 = .ok (.istore 5, 2) := by decide +kernel
theorem dX12_shortest_90 : decode cX12_shortest 90 = .ok (.aload_n 0, 1) := by decide +kernel
theorem dX12_shortest_91 : decode cX12_shortest 91 = .ok (.getfield 560, 3) := by decide +kernel
theorem dX12_shortest_94 : decode cX12_shortest 94 = .ok (.ifCond .le 82, 3) := by decide +kernel
theorem dX12_shortest_97 : decode cX12_shortest 97 = .ok (.aload_n 0, 1) := by decide +kernel
theorem dX12_shortest_98 : decode cX12_shortest 98 = .ok (.dup, 1) := by decide +kernel
theorem dX12_shortest_99 : decode cX12_shortest 99 = .ok (.getfield 560, 3) := by decide +kernel
theorem dX12_shortest_102 : decode cX12_shortest 102 = .ok (.iconst 1, 1) := by decide +kernel
theorem dX12_shortest_103 : decode cX12_shortest 103 = .ok (.isub, 1) := by decide +kernel
theorem dX12_shortest_104 : decode cX12_shortest 104 = .ok (.putfield 560, 3) := by decide +kernel
theorem dX12_shortest_107 : decode cX12_shortest 107 = .ok (.aload_n 0, 1) := by decide +kernel
theorem dX12_shortest_108 : decode cX12_shortest 108 = .ok (.getfield 115, 3) := by decide +kernel
theorem dX12_shortest_111 : decode cX12_shortest 111 = .ok (.iload 5, 2) := by decide +kernel
theorem dX12_shortest_113 : decode cX12_shortest 113 = .ok (.aload_n 0, 1) := by decide +kernel
theorem dX12_shortest_114 : decode cX12_shortest 114 = .ok (.getfield 109, 3) := by decide +kernel
theorem dX12_shortest_117 : decode cX12_shortest 117 = .ok (.aload_n 0, 1) := by decide +kernel
theorem dX12_shortest_118 : decode cX12_shortest 118 = .ok (.getfield 560, 3) := by decide +kernel
theorem dX12_shortest_121 : decode cX12_shortest 121 = .ok (.iaload, 1) := by decide +kernel
theorem dX12_shortest_122 : decode cX12_shortest 122 = .ok (.iconst 1, 1) := by decide +kernel
theorem dX12_shortest_123 : decode cX12_shortest 123 = .ok (.if_icmp .ne 20, 3) := by decide +kernel
theorem dX12_shortest_126 : decode cX12_shortest 126 = .ok (.aload_n 0, 1) := by decide +kernel
theorem dX12_shortest_127 : decode cX12_shortest 127 = .ok (.aload_n 0, 1) := by decide +kernel
theorem dX12_shortest_128 : decode cX12_shortest 128 = .ok (.getfield 112, 3) := by decide +kernel
theorem dX12_shortest_131 : decode cX12_shortest 131 = .ok (.aload_n 0, 1) := by decide +kernel
theorem dX12_shortest_132 : decode cX12_shortest 132 = .ok (.getfield 560, 3) := by decide +kernel
theorem dX12_shortest_135 : decode cX12_shortest 135 = .ok (.iaload, 1) := by decide +kernel
theorem dX12_shortest_136 : decode cX12_shortest 136 = .ok (.iload_n 1, 1) := by decide +kernel
theorem dX12_shortest_137 : decode cX12_shortest 137 = .ok (.invokevirtual 566, 3) := by decide +kernel
theorem dX12_shortest_140 : decode cX12_shortest 140 = .ok (.goto 29, 3) := by decide +kernel
theorem dX12_shortest_143 : decode cX12_shortest 143 = .ok (.sipush 1000, 3) := by decide +kernel
theorem dX12_shortest_146 : decode cX12_shortest 146 = .ok (.aload_n 0, 1) := by decide +kernel
theorem dX12_shortest_147 : decode cX12_shortest 147 = .ok (.aload_n 0, 1) := by decide +kernel
theorem dX12_shortest_148 : decode cX12_shortest 148 = .ok (.getfield 109, 3) := by decide +kernel
theorem dX12_shortest_151 : decode cX12_shortest 151 = .ok (.aload_n 0, 1) := by decide +kernel
theorem dX12_shortest_152 : decode cX12_shortest 152 = .ok (.getfield 560, 3) := by decide +kernel
theorem dX12_shortest_155 : decode cX12_shortest 155 = .ok (.iaload, 1) := by decide +kernel
theorem dX12_shortest_156 : decode cX12_shortest 156 = .ok (.aload_n 0, 1) := by decide +kernel
theorem dX12_shortest_157 : decode cX12_shortest 157 = .ok (.getfield 112, 3) := by decide +kernel
theorem dX12_shortest_160 : decode cX12_shortest 160 = .ok (.aload_n 0, 1) := by decide +kernel
theorem dX12_shortest_161 : decode cX12_shortest 161 = .ok (.getfield 560, 3) := by decide +kernel
theorem dX12_shortest_164 : decode cX12_shortest 164 = .ok (.iaload, 1) := by decide +kernel
theorem dX12_shortest_165 : decode cX12_shortest 165 = .ok (.invokevirtual 569, 3) := by decide +kernel
theorem dX12_shortest_168 : decode cX12_shortest 168 = .ok (.iadd, 1) := by decide +kernel
theorem dX12_shortest_169 : decode cX12_shortest 169 = .ok (.iastore, 1) := by decide +kernel
theorem dX12_shortest_170 : decode cX12_shortest 170 = .ok (.iinc 5 1, 3) := by decide +kernel
theorem dX12_shortest_173 : decode cX12_shortest 173 = .ok (.goto (-83), 3) := by decide +kernel
theorem dX12_shortest_176 : decode cX12_shortest 176 = .ok (.aload_n 0, 1) := by decide +kernel
theorem dX12_shortest_177 : decode cX12_shortest 177 = .ok (.getfield 115, 3) := by decide +kernel
theorem dX12_shortest_180 : decode cX12_shortest 180 = .ok (.iload_n 3, 1) := by decide +kernel
theorem dX12_shortest_181 : decode cX12_shortest 181 = .ok (.iaload, 1) := by decide +kernel
theorem dX12_shortest_182 : decode cX12_shortest 182 = .ok (.ireturn, 1) := by decide +kernel
theorem dX12_areValues_0 : decode cX12_areValues 0 = .ok (.iload_n 0, 1) := by decide +kernel
theorem dX12_areValues_1 : decode cX12_areValues 1 = .ok (.sipush (-500), 3) := by decide +kernel
theorem dX12_areValues_4 : decode cX12_areValues 4 = .ok (.if_icmp .lt 19, 3) := by decide +kernel
theorem dX12_areValues_7 : decode cX12_areValues 7 = .ok (.iload_n 1, 1) := by decide +kernel
theorem dX12_areValues_8 : decode cX12_areValues 8 = .ok (.sipush 500, 3) := by decide +kernel
theorem dX12_areValues_11 : decode cX12_areValues 11 = .ok (.if_icmp .gt 12, 3) := by decide +kernel
theorem dX12_areValues_14 : decode cX12_areValues 14 = .ok (.iload_n 0, 1) := by decide +kernel
theorem dX12_areValues_15 : decode cX12_areValues 15 = .ok (.iload_n 1, 1) := by decide +kernel
theorem dX12_areValues_16 : decode cX12_areValues 16 = .ok (.if_icmp .gt 7, 3) := by decide +kernel
theorem dX12_areValues_19 : decode cX12_areValues 19 = .ok (.iconst 1, 1) := by decide +kernel
theorem dX12_areValues_20 : decode cX12_areValues 20 = .ok (.goto 4, 3) := by decide +kernel
theorem dX12_areValues_23 : decode cX12_areValues 23 = .ok (.iconst 0, 1) := by decide +kernel
theorem dX12_areValues_24 : decode cX12_areValues 24 = .ok (.ireturn, 1) := by decide +kernel
theorem dX12_rarest_0 : decode cX12_rarest 0 = .ok (.iload_n 1, 1) := by decide +kernel
theorem dX12_rarest_1 : decode cX12_rarest 1 = .ok (.iconst 1, 1) := by decide +kernel
theorem dX12_rarest_2 : decode cX12_rarest 2 = .ok (.iconst 5, 1) := by decide +kernel
theorem dX12_rarest_3 : decode cX12_rarest 3 = .ok (.invokestatic 126, 3) := by decide +kernel
theorem dX12_rarest_6 : decode cX12_rarest 6 = .ok (.ifCond .eq 22, 3) := by decide +kernel
theorem dX12_rarest_9 : decode cX12_rarest 9 = .ok (.iload_n 2, 1) := by decide +kernel
theorem dX12_rarest_10 : decode cX12_rarest 10 = .ok (.iconst 0, 1) := by decide +kernel
theorem dX12_rarest_11 : decode cX12_rarest 11 = .ok (.bipush 9, 2) := by decide +kernel
theorem dX12_rarest_13 : decode cX12_rarest 13 = .ok (.invokestatic 126, 3) := by decide +kernel
theorem dX12_rarest_16 : decode cX12_rarest 16 = .ok (.ifCond .eq 12, 3) := by decide +kernel
theorem dX12_rarest_19 : decode cX12_rarest 19 = .ok (.iload_n 3, 1) := by decide +kernel
theorem dX12_rarest_20 : decode cX12_rarest 20 = .ok (.iload 4, 2) := by decide +kernel
theorem dX12_rarest_22 : decode cX12_rarest 22 = .ok (.invokestatic 572, 3) := by decide +kernel
theorem dX12_rarest_25 : decode cX12_rarest 25 = .ok (.ifCond .ne 7, 3) := by decide +kernel
theorem dX12_rarest_28 : decode cX12_rarest 28 = .ok (.sipush (-1000), 3) := by decide +kernel
theorem dX12_rarest_31 : decode cX12_rarest 31 = .ok (.ireturn, 1) := by decide +kernel
theorem dX12_rarest_32 : decode cX12_rarest 32 = .ok (.aload_n 0, 1) := by decide +kernel
theorem dX12_rarest_33 : decode cX12_rarest 33 = .ok (.iload_n 1, 1) := by decide +kernel
theorem dX12_rarest_34 : decode cX12_rarest 34 = .ok (.iload_n 2, 1) := by decide +kernel
theorem dX12_rarest_35 : decode cX12_rarest 35 = .ok (.invokevirtual 554, 3) := by decide +kernel
theorem dX12_rarest_38 : decode cX12_rarest 38 = .ok (.sipush (-1000), 3) := by decide +kernel
theorem dX12_rarest_41 : decode cX12_rarest 41 = .ok (.istore 5, 2) := by decide +kernel
theorem dX12_rarest_43 : decode cX12_rarest 43 = .ok (.iload_n 3, 1) := by decide +kernel
theorem dX12_rarest_44 : decode cX12_rarest 44 = .ok (.istore 6, 2) := by decide +kernel
theorem dX12_rarest_46 : decode cX12_rarest 46 = .ok (.iload 6, 2) := by decide +kernel
theorem dX12_rarest_48 : decode cX12_rarest 48 = .ok (.iload 4, 2) := by decide +kernel
theorem dX12_rarest_50 : decode cX12_rarest 50 = .ok (.if_icmp .gt 58, 3) := by decide +kernel
theorem dX12_rarest_53 : decode cX12_rarest 53 = .ok (.aload_n 0, 1) := by decide +kernel
theorem dX12_rarest_54 : decode cX12_rarest 54 = .ok (.getfield 106, 3) := by decide +kernel
theorem dX12_rarest_57 : decode cX12_rarest 57 = .ok (.iload_n 1, 1) := by decide +kernel
theorem dX12_rarest_58 : decode cX12_rarest 58 = .ok (.iload 6, 2) := by decide +kernel
theorem dX12_rarest_60 : decode cX12_rarest 60 = .ok (.invokestatic 545, 3) := by decide +kernel
theorem dX12_rarest_63 : decode cX12_rarest 63 = .ok (.laload, 1) := by decide +kernel
theorem dX12_rarest_64 : decode cX12_rarest 64 = .ok (.lstore 7, 2) := by decide +kernel
theorem dX12_rarest_66 : decode cX12_rarest 66 = .ok (.lload 7, 2) := by decide +kernel
theorem dX12_rarest_68 : decode cX12_rarest 68 = .ok (.lconst 0, 1) := by decide +kernel
theorem dX12_rarest_69 : decode cX12_rarest 69 = .ok (.lcmp, 1) := by decide +kernel
theorem dX12_rarest_70 : decode cX12_rarest 70 = .ok (.ifCond .le 32, 3) := by decide +kernel
theorem dX12_rarest_73 : decode cX12_rarest 73 = .ok (.iload 5, 2) := by decide +kernel
theorem dX12_rarest_75 : decode cX12_rarest 75 = .ok (.sipush (-1000), 3) := by decide +kernel
theorem dX12_rarest_78 : decode cX12_rarest 78 = .ok (.if_icmp .eq 20, 3) := by decide +kernel
theorem dX12_rarest_81 : decode cX12_rarest 81 = .ok (.lload 7, 2) := by decide +kernel
theorem dX12_rarest_83 : decode cX12_rarest 83 = .ok (.aload_n 0, 1) := by decide +kernel
theorem dX12_rarest_84 : decode cX12_rarest 84 = .ok (.getfield 106, 3) := by decide +kernel
theorem dX12_rarest_87 : decode cX12_rarest 87 = .ok (.iload_n 1, 1) := by decide +kernel
theorem dX12_rarest_88 : decode cX12_rarest 88 = .ok (.iload 5, 2) := by decide +kernel
theorem dX12_rarest_90 : decode cX12_rarest 90 = .ok (.invokestatic 545, 3) := by decide +kernel
theorem dX12_rarest_93 : decode cX12_rarest 93 = .ok (.laload, 1) := by decide +kernel
theorem dX12_rarest_94 : decode cX12_rarest 94 = .ok (.lcmp, 1) := by decide +kernel
theorem dX12_rarest_95 : decode cX12_rarest 95 = .ok (.ifCond .ge 7, 3) := by decide +kernel
theorem dX12_rarest_98 : decode cX12_rarest 98 = .ok (.iload 6, 2) := by decide +kernel
theorem dX12_rarest_100 : decode cX12_rarest 100 = .ok (.istore 5, 2) := by decide +kernel
theorem dX12_rarest_102 : decode cX12_rarest 102 = .ok (.iinc 6 1, 3) := by decide +kernel
theorem dX12_rarest_105 : decode cX12_rarest 105 = .ok (.goto (-59), 3) := by decide +kernel
theorem dX12_rarest_108 : decode cX12_rarest 108 = .ok (.iload 5, 2) := by decide +kernel
theorem dX12_rarest_110 : decode cX12_rarest 110 = .ok (.ireturn, 1) := by decide +kernel
theorem dX12_fair_0 : decode cX12_fair 0 = .ok (.aload_n 0, 1) := by decide +kernel
theorem dX12_fair_1 : decode cX12_fair 1 = .ok (.iload_n 1, 1) := by decide +kernel
theorem dX12_fair_2 : decode cX12_fair 2 = .ok (.invokevirtual 480, 3) := by decide +kernel
theorem dX12_fair_5 : decode cX12_fair 5 = .ok (.ifCond .eq 11, 3) := by decide +kernel
theorem dX12_fair_8 : decode cX12_fair 8 = .ok (.iload_n 2, 1) := by decide +kernel
theorem dX12_fair_9 : decode cX12_fair 9 = .ok (.iload_n 3, 1) := by decide +kernel
theorem dX12_fair_10 : decode cX12_fair 10 = .ok (.invokestatic 572, 3) := by decide +kernel
theorem dX12_fair_13 : decode cX12_fair 13 = .ok (.ifCond .ne 7, 3) := by decide +kernel
theorem dX12_fair_16 : decode cX12_fair 16 = .ok (.sipush (-1000), 3) := by decide +kernel
theorem dX12_fair_19 : decode cX12_fair 19 = .ok (.ireturn, 1) := by decide +kernel
theorem dX12_fair_20 : decode cX12_fair 20 = .ok (.aload_n 0, 1) := by decide +kernel
theorem dX12_fair_21 : decode cX12_fair 21 = .ok (.iload_n 1, 1) := by decide +kernel
theorem dX12_fair_22 : decode cX12_fair 22 = .ok (.iconst 2, 1) := by decide +kernel
theorem dX12_fair_23 : decode cX12_fair 23 = .ok (.invokevirtual 483, 3) := by decide +kernel
theorem dX12_fair_26 : decode cX12_fair 26 = .ok (.istore 4, 2) := by decide +kernel
theorem dX12_fair_28 : decode cX12_fair 28 = .ok (.aload_n 0, 1) := by decide +kernel
theorem dX12_fair_29 : decode cX12_fair 29 = .ok (.iconst 5, 1) := by decide +kernel
theorem dX12_fair_30 : decode cX12_fair 30 = .ok (.iload 4, 2) := by decide +kernel
theorem dX12_fair_32 : decode cX12_fair 32 = .ok (.bipush 9, 2) := by decide +kernel
theorem dX12_fair_34 : decode cX12_fair 34 = .ok (.if_icmp .le 8, 3) := by decide +kernel
theorem dX12_fair_37 : decode cX12_fair 37 = .ok (.bipush 9, 2) := by decide +kernel
theorem dX12_fair_39 : decode cX12_fair 39 = .ok (.goto 5, 3) := by decide +kernel
theorem dX12_fair_42 : decode cX12_fair 42 = .ok (.iload 4, 2) := by decide +kernel
theorem dX12_fair_44 : decode cX12_fair 44 = .ok (.invokevirtual 554, 3) := by decide +kernel
theorem dX12_fair_47 : decode cX12_fair 47 = .ok (.sipush (-1000), 3) := by decide +kernel
theorem dX12_fair_50 : decode cX12_fair 50 = .ok (.istore 5, 2) := by decide +kernel
theorem dX12_fair_52 : decode cX12_fair 52 = .ok (.iconst 0, 1) := by decide +kernel
theorem dX12_fair_53 : decode cX12_fair 53 = .ok (.istore 6, 2) := by decide +kernel
theorem dX12_fair_55 : decode cX12_fair 55 = .ok (.iload_n 2, 1) := by decide +kernel
theorem dX12_fair_56 : decode cX12_fair 56 = .ok (.istore 7, 2) := by decide +kernel
theorem dX12_fair_58 : decode cX12_fair 58 = .ok (.iload 7, 2) := by decide +kernel
theorem dX12_fair_60 : decode cX12_fair 60 = .ok (.iload_n 3, 1) := by decide +kernel
theorem dX12_fair_61 : decode cX12_fair 61 = .ok (.if_icmp .gt 47, 3) := by decide +kernel
theorem dX12_fair_64 : decode cX12_fair 64 = .ok (.aload_n 0, 1) := by decide +kernel
theorem dX12_fair_65 : decode cX12_fair 65 = .ok (.iload 7, 2) := by decide +kernel
theorem dX12_fair_67 : decode cX12_fair 67 = .ok (.iconst 5, 1) := by decide +kernel
theorem dX12_fair_68 : decode cX12_fair 68 = .ok (.invokevirtual 557, 3) := by decide +kernel
theorem dX12_fair_71 : decode cX12_fair 71 = .ok (.istore 8, 2) := by decide +kernel
theorem dX12_fair_73 : decode cX12_fair 73 = .ok (.iload 8, 2) := by decide +kernel
theorem dX12_fair_75 : decode cX12_fair 75 = .ok (.iload 6, 2) := by decide +kernel
theorem dX12_fair_77 : decode cX12_fair 77 = .ok (.if_icmp .le 25, 3) := by decide +kernel
theorem dX12_fair_80 : decode cX12_fair 80 = .ok (.iload 8, 2) := by decide +kernel
theorem dX12_fair_82 : decode cX12_fair 82 = .ok (.aload_n 0, 1) := by decide +kernel
theorem dX12_fair_83 : decode cX12_fair 83 = .ok (.iload_n 1, 1) := by decide +kernel
theorem dX12_fair_84 : decode cX12_fair 84 = .ok (.iconst 4, 1) := by decide +kernel
theorem dX12_fair_85 : decode cX12_fair 85 = .ok (.invokevirtual 483, 3) := by decide +kernel
theorem dX12_fair_88 : decode cX12_fair 88 = .ok (.if_icmp .le 6, 3) := by decide +kernel
theorem dX12_fair_91 : decode cX12_fair 91 = .ok (.goto 11, 3) := by decide +kernel
theorem dX12_fair_94 : decode cX12_fair 94 = .ok (.iload 7, 2) := by decide +kernel
theorem dX12_fair_96 : decode cX12_fair 96 = .ok (.istore 5, 2) := by decide +kernel
theorem dX12_fair_98 : decode cX12_fair 98 = .ok (.iload 8, 2) := by decide +kernel
theorem dX12_fair_100 : decode cX12_fair 100 = .ok (.istore 6, 2) := by decide +kernel
theorem dX12_fair_102 : decode cX12_fair 102 = .ok (.iinc 7 1, 3) := by decide +kernel
theorem dX12_fair_105 : decode cX12_fair 105 = .ok (.goto (-47), 3) := by decide +kernel
theorem dX12_fair_108 : decode cX12_fair 108 = .ok (.iload 5, 2) := by decide +kernel
theorem dX12_fair_110 : decode cX12_fair 110 = .ok (.ireturn, 1) := by decide +kernel
theorem dX12_unasked_0 : decode cX12_unasked 0 = .ok (.iload_n 1, 1) := by decide +kernel
theorem dX12_unasked_1 : decode cX12_unasked 1 = .ok (.iconst 1, 1) := by decide +kernel
theorem dX12_unasked_2 : decode cX12_unasked 2 = .ok (.iconst 5, 1) := by decide +kernel
theorem dX12_unasked_3 : decode cX12_unasked 3 = .ok (.invokestatic 126, 3) := by decide +kernel
theorem dX12_unasked_6 : decode cX12_unasked 6 = .ok (.ifCond .eq 13, 3) := by decide +kernel
theorem dX12_unasked_9 : decode cX12_unasked 9 = .ok (.iload_n 2, 1) := by decide +kernel
theorem dX12_unasked_10 : decode cX12_unasked 10 = .ok (.iconst 0, 1) := by decide +kernel
theorem dX12_unasked_11 : decode cX12_unasked 11 = .ok (.bipush 9, 2) := by decide +kernel
theorem dX12_unasked_13 : decode cX12_unasked 13 = .ok (.invokestatic 126, 3) := by decide +kernel
theorem dX12_unasked_16 : decode cX12_unasked 16 = .ok (.ifCond .ne 5, 3) := by decide +kernel
theorem dX12_unasked_19 : decode cX12_unasked 19 = .ok (.iconst (-1), 1) := by decide +kernel
theorem dX12_unasked_20 : decode cX12_unasked 20 = .ok (.ireturn, 1) := by decide +kernel
theorem dX12_unasked_21 : decode cX12_unasked 21 = .ok (.aload_n 0, 1) := by decide +kernel
theorem dX12_unasked_22 : decode cX12_unasked 22 = .ok (.iload_n 1, 1) := by decide +kernel
theorem dX12_unasked_23 : decode cX12_unasked 23 = .ok (.iload_n 2, 1) := by decide +kernel
theorem dX12_unasked_24 : decode cX12_unasked 24 = .ok (.invokevirtual 554, 3) := by decide +kernel
theorem dX12_unasked_27 : decode cX12_unasked 27 = .ok (.iconst 0, 1) := by decide +kernel
theorem dX12_unasked_28 : decode cX12_unasked 28 = .ok (.istore_n 3, 1) := by decide +kernel
theorem dX12_unasked_29 : decode cX12_unasked 29 = .ok (.iload_n 3, 1) := by decide +kernel
theorem dX12_unasked_30 : decode cX12_unasked 30 = .ok (.sipush 500, 3) := by decide +kernel
theorem dX12_unasked_33 : decode cX12_unasked 33 = .ok (.if_icmp .gt 20, 3) := by decide +kernel
theorem dX12_unasked_36 : decode cX12_unasked 36 = .ok (.aload_n 0, 1) := by decide +kernel
theorem dX12_unasked_37 : decode cX12_unasked 37 = .ok (.iload_n 3, 1) := by decide +kernel
theorem dX12_unasked_38 : decode cX12_unasked 38 = .ok (.iload_n 1, 1) := by decide +kernel
theorem dX12_unasked_39 : decode cX12_unasked 39 = .ok (.invokevirtual 557, 3) := by decide +kernel
theorem dX12_unasked_42 : decode cX12_unasked 42 = .ok (.ifCond .ge 5, 3) := by decide +kernel
theorem dX12_unasked_45 : decode cX12_unasked 45 = .ok (.iload_n 3, 1) := by decide +kernel
theorem dX12_unasked_46 : decode cX12_unasked 46 = .ok (.ireturn, 1) := by decide +kernel
theorem dX12_unasked_47 : decode cX12_unasked 47 = .ok (.iinc 3 1, 3) := by decide +kernel
theorem dX12_unasked_50 : decode cX12_unasked 50 = .ok (.goto (-21), 3) := by decide +kernel
theorem dX12_unasked_53 : decode cX12_unasked 53 = .ok (.iconst (-1), 1) := by decide +kernel
theorem dX12_unasked_54 : decode cX12_unasked 54 = .ok (.ireturn, 1) := by decide +kernel
theorem dX12_hear_0 : decode cX12_hear 0 = .ok (.iload_n 1, 1) := by decide +kernel
theorem dX12_hear_1 : decode cX12_hear 1 = .ok (.iconst (-1), 1) := by decide +kernel
theorem dX12_hear_2 : decode cX12_hear 2 = .ok (.if_icmp .ne 13, 3) := by decide +kernel
theorem dX12_hear_5 : decode cX12_hear 5 = .ok (.aload_n 0, 1) := by decide +kernel
theorem dX12_hear_6 : decode cX12_hear 6 = .ok (.getfield 7, 3) := by decide +kernel
theorem dX12_hear_9 : decode cX12_hear 9 = .ok (.bipush 7, 2) := by decide +kernel
theorem dX12_hear_11 : decode cX12_hear 11 = .ok (.iconst 0, 1) := by decide +kernel
theorem dX12_hear_12 : decode cX12_hear 12 = .ok (.iastore, 1) := by decide +kernel
theorem dX12_hear_13 : decode cX12_hear 13 = .ok (.iconst 0, 1) := by decide +kernel
theorem dX12_hear_14 : decode cX12_hear 14 = .ok (.ireturn, 1) := by decide +kernel
theorem dX12_hear_15 : decode cX12_hear 15 = .ok (.aload_n 0, 1) := by decide +kernel
theorem dX12_hear_16 : decode cX12_hear 16 = .ok (.iload_n 1, 1) := by decide +kernel
theorem dX12_hear_17 : decode cX12_hear 17 = .ok (.invokevirtual 480, 3) := by decide +kernel
theorem dX12_hear_20 : decode cX12_hear 20 = .ok (.ifCond .eq 23, 3) := by decide +kernel
theorem dX12_hear_23 : decode cX12_hear 23 = .ok (.aload_n 0, 1) := by decide +kernel
theorem dX12_hear_24 : decode cX12_hear 24 = .ok (.iload_n 2, 1) := by decide +kernel
theorem dX12_hear_25 : decode cX12_hear 25 = .ok (.invokevirtual 392, 3) := by decide +kernel
theorem dX12_hear_28 : decode cX12_hear 28 = .ok (.ifCond .eq 15, 3) := by decide +kernel
theorem dX12_hear_31 : decode cX12_hear 31 = .ok (.aload_n 0, 1) := by decide +kernel
theorem dX12_hear_32 : decode cX12_hear 32 = .ok (.getfield 7, 3) := by decide +kernel
theorem dX12_hear_35 : decode cX12_hear 35 = .ok (.bipush 7, 2) := by decide +kernel
theorem dX12_hear_37 : decode cX12_hear 37 = .ok (.iaload, 1) := by decide +kernel
theorem dX12_hear_38 : decode cX12_hear 38 = .ok (.bipush 8, 2) := by decide +kernel
theorem dX12_hear_40 : decode cX12_hear 40 = .ok (.if_icmp .ne 6, 3) := by decide +kernel
theorem dX12_hear_43 : decode cX12_hear 43 = .ok (.bipush (-2), 2) := by decide +kernel
theorem dX12_hear_45 : decode cX12_hear 45 = .ok (.ireturn, 1) := by decide +kernel
theorem dX12_hear_46 : decode cX12_hear 46 = .ok (.aload_n 0, 1) := by decide +kernel
theorem dX12_hear_47 : decode cX12_hear 47 = .ok (.getfield 7, 3) := by decide +kernel
theorem dX12_hear_50 : decode cX12_hear 50 = .ok (.bipush 116, 2) := by decide +kernel
theorem dX12_hear_52 : decode cX12_hear 52 = .ok (.iconst 2, 1) := by decide +kernel
theorem dX12_hear_53 : decode cX12_hear 53 = .ok (.aload_n 0, 1) := by decide +kernel
theorem dX12_hear_54 : decode cX12_hear 54 = .ok (.getfield 7, 3) := by decide +kernel
theorem dX12_hear_57 : decode cX12_hear 57 = .ok (.bipush 7, 2) := by decide +kernel
theorem dX12_hear_59 : decode cX12_hear 59 = .ok (.iaload, 1) := by decide +kernel
theorem dX12_hear_60 : decode cX12_hear 60 = .ok (.imul, 1) := by decide +kernel
theorem dX12_hear_61 : decode cX12_hear 61 = .ok (.iadd, 1) := by decide +kernel
theorem dX12_hear_62 : decode cX12_hear 62 = .ok (.iload_n 1, 1) := by decide +kernel
theorem dX12_hear_63 : decode cX12_hear 63 = .ok (.iastore, 1) := by decide +kernel
theorem dX12_hear_64 : decode cX12_hear 64 = .ok (.aload_n 0, 1) := by decide +kernel
theorem dX12_hear_65 : decode cX12_hear 65 = .ok (.getfield 7, 3) := by decide +kernel
theorem dX12_hear_68 : decode cX12_hear 68 = .ok (.bipush 116, 2) := by decide +kernel
theorem dX12_hear_70 : decode cX12_hear 70 = .ok (.iconst 2, 1) := by decide +kernel
theorem dX12_hear_71 : decode cX12_hear 71 = .ok (.aload_n 0, 1) := by decide +kernel
theorem dX12_hear_72 : decode cX12_hear 72 = .ok (.getfield 7, 3) := by decide +kernel
theorem dX12_hear_75 : decode cX12_hear 75 = .ok (.bipush 7, 2) := by decide +kernel
theorem dX12_hear_77 : decode cX12_hear 77 = .ok (.iaload, 1) := by decide +kernel
theorem dX12_hear_78 : decode cX12_hear 78 = .ok (.imul, 1) := by decide +kernel
theorem dX12_hear_79 : decode cX12_hear 79 = .ok (.iadd, 1) := by decide +kernel
theorem dX12_hear_80 : decode cX12_hear 80 = .ok (.iconst 1, 1) := by decide +kernel
theorem dX12_hear_81 : decode cX12_hear 81 = .ok (.iadd, 1) := by decide +kernel
theorem dX12_hear_82 : decode cX12_hear 82 = .ok (.iload_n 2, 1) := by decide +kernel
theorem dX12_hear_83 : decode cX12_hear 83 = .ok (.iastore, 1) := by decide +kernel
theorem dX12_hear_84 : decode cX12_hear 84 = .ok (.aload_n 0, 1) := by decide +kernel
theorem dX12_hear_85 : decode cX12_hear 85 = .ok (.getfield 7, 3) := by decide +kernel
theorem dX12_hear_88 : decode cX12_hear 88 = .ok (.bipush 7, 2) := by decide +kernel
theorem dX12_hear_90 : decode cX12_hear 90 = .ok (.dup2, 1) := by decide +kernel
theorem dX12_hear_91 : decode cX12_hear 91 = .ok (.iaload, 1) := by decide +kernel
theorem dX12_hear_92 : decode cX12_hear 92 = .ok (.iconst 1, 1) := by decide +kernel
theorem dX12_hear_93 : decode cX12_hear 93 = .ok (.iadd, 1) := by decide +kernel
theorem dX12_hear_94 : decode cX12_hear 94 = .ok (.iastore, 1) := by decide +kernel
theorem dX12_hear_95 : decode cX12_hear 95 = .ok (.aload_n 0, 1) := by decide +kernel
theorem dX12_hear_96 : decode cX12_hear 96 = .ok (.getfield 7, 3) := by decide +kernel
theorem dX12_hear_99 : decode cX12_hear 99 = .ok (.bipush 7, 2) := by decide +kernel
theorem dX12_hear_101 : decode cX12_hear 101 = .ok (.iaload, 1) := by decide +kernel
theorem dX12_hear_102 : decode cX12_hear 102 = .ok (.ireturn, 1) := by decide +kernel
theorem dX12_isOneAnswer_0 : decode cX12_isOneAnswer 0 = .ok (.lconst 0, 1) := by decide +kernel
theorem dX12_isOneAnswer_1 : decode cX12_isOneAnswer 1 = .ok (.lstore_n 1, 1) := by decide +kernel
theorem dX12_isOneAnswer_2 : decode cX12_isOneAnswer 2 = .ok (.iconst 0, 1) := by decide +kernel
theorem dX12_isOneAnswer_3 : decode cX12_isOneAnswer 3 = .ok (.istore_n 3, 1) := by decide +kernel
theorem dX12_isOneAnswer_4 : decode cX12_isOneAnswer 4 = .ok (.iload_n 3, 1) := by decide +kernel
theorem dX12_isOneAnswer_5 : decode cX12_isOneAnswer 5 = .ok (.aload_n 0, 1) := by decide +kernel
theorem dX12_isOneAnswer_6 : decode cX12_isOneAnswer 6 = .ok (.getfield 7, 3) := by decide +kernel
theorem dX12_isOneAnswer_9 : decode cX12_isOneAnswer 9 = .ok (.bipush 7, 2) := by decide +kernel
theorem dX12_isOneAnswer_11 : decode cX12_isOneAnswer 11 = .ok (.iaload, 1) := by decide +kernel
theorem dX12_isOneAnswer_12 : decode cX12_isOneAnswer 12 = .ok (.if_icmp .ge 44, 3) := by decide +kernel
theorem dX12_isOneAnswer_15 : decode cX12_isOneAnswer 15 = .ok (.aload_n 0, 1) := by decide +kernel
theorem dX12_isOneAnswer_16 : decode cX12_isOneAnswer 16 = .ok (.aload_n 0, 1) := by decide +kernel
theorem dX12_isOneAnswer_17 : decode cX12_isOneAnswer 17 = .ok (.getfield 7, 3) := by decide +kernel
theorem dX12_isOneAnswer_20 : decode cX12_isOneAnswer 20 = .ok (.bipush 116, 2) := by decide +kernel
theorem dX12_isOneAnswer_22 : decode cX12_isOneAnswer 22 = .ok (.iconst 2, 1) := by decide +kernel
theorem dX12_isOneAnswer_23 : decode cX12_isOneAnswer 23 = .ok (.iload_n 3, 1) := by decide +kernel
theorem dX12_isOneAnswer_24 : decode cX12_isOneAnswer 24 = .ok (.imul, 1) := by decide +kernel
theorem dX12_isOneAnswer_25 : decode cX12_isOneAnswer 25 = .ok (.iadd, 1) := by decide +kernel
theorem dX12_isOneAnswer_26 : decode cX12_isOneAnswer 26 = .ok (.iconst 1, 1) := by decide +kernel
theorem dX12_isOneAnswer_27 : decode cX12_isOneAnswer 27 = .ok (.iadd, 1) := by decide +kernel
theorem dX12_isOneAnswer_28 : decode cX12_isOneAnswer 28 = .ok (.iaload, 1) := by decide +kernel
theorem dX12_isOneAnswer_29 : decode cX12_isOneAnswer 29 = .ok (.invokevirtual 399, 3) := by decide +kernel
theorem dX12_isOneAnswer_32 : decode cX12_isOneAnswer 32 = .ok (.lstore 4, 2) := by decide +kernel
theorem dX12_isOneAnswer_34 : decode cX12_isOneAnswer 34 = .ok (.iload_n 3, 1) := by decide +kernel
theorem dX12_isOneAnswer_35 : decode cX12_isOneAnswer 35 = .ok (.ifCond .le 12, 3) := by decide +kernel
theorem dX12_isOneAnswer_38 : decode cX12_isOneAnswer 38 = .ok (.lload 4, 2) := by decide +kernel
theorem dX12_isOneAnswer_40 : decode cX12_isOneAnswer 40 = .ok (.lload_n 1, 1) := by decide +kernel
theorem dX12_isOneAnswer_41 : decode cX12_isOneAnswer 41 = .ok (.lcmp, 1) := by decide +kernel
theorem dX12_isOneAnswer_42 : decode cX12_isOneAnswer 42 = .ok (.ifCond .eq 5, 3) := by decide +kernel
theorem dX12_isOneAnswer_45 : decode cX12_isOneAnswer 45 = .ok (.iconst 0, 1) := by decide +kernel
theorem dX12_isOneAnswer_46 : decode cX12_isOneAnswer 46 = .ok (.ireturn, 1) := by decide +kernel
theorem dX12_isOneAnswer_47 : decode cX12_isOneAnswer 47 = .ok (.lload 4, 2) := by decide +kernel
theorem dX12_isOneAnswer_49 : decode cX12_isOneAnswer 49 = .ok (.lstore_n 1, 1) := by decide +kernel
theorem dX12_isOneAnswer_50 : decode cX12_isOneAnswer 50 = .ok (.iinc 3 1, 3) := by decide +kernel
theorem dX12_isOneAnswer_53 : decode cX12_isOneAnswer 53 = .ok (.goto (-49), 3) := by decide +kernel
theorem dX12_isOneAnswer_56 : decode cX12_isOneAnswer 56 = .ok (.iconst 1, 1) := by decide +kernel
theorem dX12_isOneAnswer_57 : decode cX12_isOneAnswer 57 = .ok (.ireturn, 1) := by decide +kernel
theorem dX12_worlds_0 : decode cX12_worlds 0 = .ok (.iload_n 1, 1) := by decide +kernel
theorem dX12_worlds_1 : decode cX12_worlds 1 = .ok (.iconst (-1), 1) := by decide +kernel
theorem dX12_worlds_2 : decode cX12_worlds 2 = .ok (.if_icmp .ge 5, 3) := by decide +kernel
theorem dX12_worlds_5 : decode cX12_worlds 5 = .ok (.iconst (-1), 1) := by decide +kernel
theorem dX12_worlds_6 : decode cX12_worlds 6 = .ok (.ireturn, 1) := by decide +kernel
theorem dX12_worlds_7 : decode cX12_worlds 7 = .ok (.iconst 0, 1) := by decide +kernel
theorem dX12_worlds_8 : decode cX12_worlds 8 = .ok (.istore_n 2, 1) := by decide +kernel
theorem dX12_worlds_9 : decode cX12_worlds 9 = .ok (.iconst 0, 1) := by decide +kernel
theorem dX12_worlds_10 : decode cX12_worlds 10 = .ok (.istore_n 3, 1) := by decide +kernel
theorem dX12_worlds_11 : decode cX12_worlds 11 = .ok (.iload_n 3, 1) := by decide +kernel
theorem dX12_worlds_12 : decode cX12_worlds 12 = .ok (.aload_n 0, 1) := by decide +kernel
theorem dX12_worlds_13 : decode cX12_worlds 13 = .ok (.getfield 7, 3) := by decide +kernel
theorem dX12_worlds_16 : decode cX12_worlds 16 = .ok (.bipush 7, 2) := by decide +kernel
theorem dX12_worlds_18 : decode cX12_worlds 18 = .ok (.iaload, 1) := by decide +kernel
theorem dX12_worlds_19 : decode cX12_worlds 19 = .ok (.if_icmp .ge 35, 3) := by decide +kernel
theorem dX12_worlds_22 : decode cX12_worlds 22 = .ok (.iload_n 2, 1) := by decide +kernel
theorem dX12_worlds_23 : decode cX12_worlds 23 = .ok (.aload_n 0, 1) := by decide +kernel
theorem dX12_worlds_24 : decode cX12_worlds 24 = .ok (.getfield 56, 3) := by decide +kernel
theorem dX12_worlds_27 : decode cX12_worlds 27 = .ok (.iconst 4, 1) := by decide +kernel
theorem dX12_worlds_28 : decode cX12_worlds 28 = .ok (.aload_n 0, 1) := by decide +kernel
theorem dX12_worlds_29 : decode cX12_worlds 29 = .ok (.getfield 7, 3) := by decide +kernel
theorem dX12_worlds_32 : decode cX12_worlds 32 = .ok (.bipush 116, 2) := by decide +kernel
theorem dX12_worlds_34 : decode cX12_worlds 34 = .ok (.iconst 2, 1) := by decide +kernel
theorem dX12_worlds_35 : decode cX12_worlds 35 = .ok (.iload_n 3, 1) := by decide +kernel
theorem dX12_worlds_36 : decode cX12_worlds 36 = .ok (.imul, 1) := by decide +kernel
theorem dX12_worlds_37 : decode cX12_worlds 37 = .ok (.iadd, 1) := by decide +kernel
theorem dX12_worlds_38 : decode cX12_worlds 38 = .ok (.iconst 1, 1) := by decide +kernel
theorem dX12_worlds_39 : decode cX12_worlds 39 = .ok (.iadd, 1) := by decide +kernel
theorem dX12_worlds_40 : decode cX12_worlds 40 = .ok (.iaload, 1) := by decide +kernel
theorem dX12_worlds_41 : decode cX12_worlds 41 = .ok (.imul, 1) := by decide +kernel
theorem dX12_worlds_42 : decode cX12_worlds 42 = .ok (.iaload, 1) := by decide +kernel
theorem dX12_worlds_43 : decode cX12_worlds 43 = .ok (.bipush 15, 2) := by decide +kernel
theorem dX12_worlds_45 : decode cX12_worlds 45 = .ok (.iand, 1) := by decide +kernel
theorem dX12_worlds_46 : decode cX12_worlds 46 = .ok (.ior, 1) := by decide +kernel
theorem dX12_worlds_47 : decode cX12_worlds 47 = .ok (.istore_n 2, 1) := by decide +kernel
theorem dX12_worlds_48 : decode cX12_worlds 48 = .ok (.iinc 3 1, 3) := by decide +kernel
theorem dX12_worlds_51 : decode cX12_worlds 51 = .ok (.goto (-40), 3) := by decide +kernel
theorem dX12_worlds_54 : decode cX12_worlds 54 = .ok (.aload_n 0, 1) := by decide +kernel
theorem dX12_worlds_55 : decode cX12_worlds 55 = .ok (.invokevirtual 474, 3) := by decide +kernel
theorem dX12_worlds_58 : decode cX12_worlds 58 = .ok (.iconst 0, 1) := by decide +kernel
theorem dX12_worlds_59 : decode cX12_worlds 59 = .ok (.istore_n 3, 1) := by decide +kernel
theorem dX12_worlds_60 : decode cX12_worlds 60 = .ok (.iconst 1, 1) := by decide +kernel
theorem dX12_worlds_61 : decode cX12_worlds 61 = .ok (.istore 4, 2) := by decide +kernel
theorem dX12_worlds_63 : decode cX12_worlds 63 = .ok (.iload 4, 2) := by decide +kernel
theorem dX12_worlds_65 : decode cX12_worlds 65 = .ok (.ifCond .eq 66, 3) := by decide +kernel
theorem dX12_worlds_68 : decode cX12_worlds 68 = .ok (.aload_n 0, 1) := by decide +kernel
theorem dX12_worlds_69 : decode cX12_worlds 69 = .ok (.invokevirtual 575, 3) := by decide +kernel
theorem dX12_worlds_72 : decode cX12_worlds 72 = .ok (.ifCond .eq 49, 3) := by decide +kernel
theorem dX12_worlds_75 : decode cX12_worlds 75 = .ok (.iload_n 3, 1) := by decide +kernel
theorem dX12_worlds_76 : decode cX12_worlds 76 = .ok (.iload_n 1, 1) := by decide +kernel
theorem dX12_worlds_77 : decode cX12_worlds 77 = .ok (.if_icmp .ne 41, 3) := by decide +kernel
theorem dX12_worlds_80 : decode cX12_worlds 80 = .ok (.aload_n 0, 1) := by decide +kernel
theorem dX12_worlds_81 : decode cX12_worlds 81 = .ok (.getfield 59, 3) := by decide +kernel
theorem dX12_worlds_84 : decode cX12_worlds 84 = .ok (.iconst 0, 1) := by decide +kernel
theorem dX12_worlds_85 : decode cX12_worlds 85 = .ok (.iaload, 1) := by decide +kernel
theorem dX12_worlds_86 : decode cX12_worlds 86 = .ok (.sipush 1000, 3) := by decide +kernel
theorem dX12_worlds_89 : decode cX12_worlds 89 = .ok (.imul, 1) := by decide +kernel
theorem dX12_worlds_90 : decode cX12_worlds 90 = .ok (.aload_n 0, 1) := by decide +kernel
theorem dX12_worlds_91 : decode cX12_worlds 91 = .ok (.getfield 59, 3) := by decide +kernel
theorem dX12_worlds_94 : decode cX12_worlds 94 = .ok (.iconst 1, 1) := by decide +kernel
theorem dX12_worlds_95 : decode cX12_worlds 95 = .ok (.iaload, 1) := by decide +kernel
theorem dX12_worlds_96 : decode cX12_worlds 96 = .ok (.bipush 100, 2) := by decide +kernel
theorem dX12_worlds_98 : decode cX12_worlds 98 = .ok (.imul, 1) := by decide +kernel
theorem dX12_worlds_99 : decode cX12_worlds 99 = .ok (.iadd, 1) := by decide +kernel
theorem dX12_worlds_100 : decode cX12_worlds 100 = .ok (.aload_n 0, 1) := by decide +kernel
theorem dX12_worlds_101 : decode cX12_worlds 101 = .ok (.getfield 59, 3) := by decide +kernel
theorem dX12_worlds_104 : decode cX12_worlds 104 = .ok (.iconst 2, 1) := by decide +kernel
theorem dX12_worlds_105 : decode cX12_worlds 105 = .ok (.iaload, 1) := by decide +kernel
theorem dX12_worlds_106 : decode cX12_worlds 106 = .ok (.bipush 10, 2) := by decide +kernel
theorem dX12_worlds_108 : decode cX12_worlds 108 = .ok (.imul, 1) := by decide +kernel
theorem dX12_worlds_109 : decode cX12_worlds 109 = .ok (.iadd, 1) := by decide +kernel
theorem dX12_worlds_110 : decode cX12_worlds 110 = .ok (.aload_n 0, 1) := by decide +kernel
theorem dX12_worlds_111 : decode cX12_worlds 111 = .ok (.getfield 59, 3) := by decide +kernel
theorem dX12_worlds_114 : decode cX12_worlds 114 = .ok (.iconst 3, 1) := by decide +kernel
theorem dX12_worlds_115 : decode cX12_worlds 115 = .ok (.iaload, 1) := by decide +kernel
theorem dX12_worlds_116 : decode cX12_worlds 116 = .ok (.iadd, 1) := by decide +kernel
theorem dX12_worlds_117 : decode cX12_worlds 117 = .ok (.ireturn, 1) := by decide +kernel
theorem dX12_worlds_118 : decode cX12_worlds 118 = .ok (.iinc 3 1, 3) := by decide +kernel
theorem dX12_worlds_121 : decode cX12_worlds 121 = .ok (.aload_n 0, 1) := by decide +kernel
theorem dX12_worlds_122 : decode cX12_worlds 122 = .ok (.iload_n 2, 1) := by decide +kernel
theorem dX12_worlds_123 : decode cX12_worlds 123 = .ok (.invokevirtual 477, 3) := by decide +kernel
theorem dX12_worlds_126 : decode cX12_worlds 126 = .ok (.istore 4, 2) := by decide +kernel
theorem dX12_worlds_128 : decode cX12_worlds 128 = .ok (.goto (-65), 3) := by decide +kernel
theorem dX12_worlds_131 : decode cX12_worlds 131 = .ok (.iload_n 1, 1) := by decide +kernel
theorem dX12_worlds_132 : decode cX12_worlds 132 = .ok (.iconst (-1), 1) := by decide +kernel
theorem dX12_worlds_133 : decode cX12_worlds 133 = .ok (.if_icmp .ne 7, 3) := by decide +kernel
theorem dX12_worlds_136 : decode cX12_worlds 136 = .ok (.iload_n 3, 1) := by decide +kernel
theorem dX12_worlds_137 : decode cX12_worlds 137 = .ok (.goto 4, 3) := by decide +kernel
theorem dX12_worlds_140 : decode cX12_worlds 140 = .ok (.iconst (-1), 1) := by decide +kernel
theorem dX12_worlds_141 : decode cX12_worlds 141 = .ok (.ireturn, 1) := by decide +kernel
theorem dX12_knew_0 : decode cX12_knew 0 = .ok (.aload_n 0, 1) := by decide +kernel
theorem dX12_knew_1 : decode cX12_knew 1 = .ok (.iload_n 1, 1) := by decide +kernel
theorem dX12_knew_2 : decode cX12_knew 2 = .ok (.invokevirtual 480, 3) := by decide +kernel
theorem dX12_knew_5 : decode cX12_knew 5 = .ok (.ifCond .ne 5, 3) := by decide +kernel
theorem dX12_knew_8 : decode cX12_knew 8 = .ok (.iconst (-1), 1) := by decide +kernel
theorem dX12_knew_9 : decode cX12_knew 9 = .ok (.ireturn, 1) := by decide +kernel
theorem dX12_knew_10 : decode cX12_knew 10 = .ok (.iconst 0, 1) := by decide +kernel
theorem dX12_knew_11 : decode cX12_knew 11 = .ok (.istore_n 2, 1) := by decide +kernel
theorem dX12_knew_12 : decode cX12_knew 12 = .ok (.iconst 0, 1) := by decide +kernel
theorem dX12_knew_13 : decode cX12_knew 13 = .ok (.istore_n 3, 1) := by decide +kernel
theorem dX12_knew_14 : decode cX12_knew 14 = .ok (.iload_n 3, 1) := by decide +kernel
theorem dX12_knew_15 : decode cX12_knew 15 = .ok (.aload_n 0, 1) := by decide +kernel
theorem dX12_knew_16 : decode cX12_knew 16 = .ok (.getfield 7, 3) := by decide +kernel
theorem dX12_knew_19 : decode cX12_knew 19 = .ok (.bipush 7, 2) := by decide +kernel
theorem dX12_knew_21 : decode cX12_knew 21 = .ok (.iaload, 1) := by decide +kernel
theorem dX12_knew_22 : decode cX12_knew 22 = .ok (.if_icmp .ge 47, 3) := by decide +kernel
theorem dX12_knew_25 : decode cX12_knew 25 = .ok (.aload_n 0, 1) := by decide +kernel
theorem dX12_knew_26 : decode cX12_knew 26 = .ok (.getfield 7, 3) := by decide +kernel
theorem dX12_knew_29 : decode cX12_knew 29 = .ok (.bipush 116, 2) := by decide +kernel
theorem dX12_knew_31 : decode cX12_knew 31 = .ok (.iconst 2, 1) := by decide +kernel
theorem dX12_knew_32 : decode cX12_knew 32 = .ok (.iload_n 3, 1) := by decide +kernel
theorem dX12_knew_33 : decode cX12_knew 33 = .ok (.imul, 1) := by decide +kernel
theorem dX12_knew_34 : decode cX12_knew 34 = .ok (.iadd, 1) := by decide +kernel
theorem dX12_knew_35 : decode cX12_knew 35 = .ok (.iaload, 1) := by decide +kernel
theorem dX12_knew_36 : decode cX12_knew 36 = .ok (.iload_n 1, 1) := by decide +kernel
theorem dX12_knew_37 : decode cX12_knew 37 = .ok (.if_icmp .ne 26, 3) := by decide +kernel
theorem dX12_knew_40 : decode cX12_knew 40 = .ok (.iload_n 2, 1) := by decide +kernel
theorem dX12_knew_41 : decode cX12_knew 41 = .ok (.aload_n 0, 1) := by decide +kernel
theorem dX12_knew_42 : decode cX12_knew 42 = .ok (.getfield 56, 3) := by decide +kernel
theorem dX12_knew_45 : decode cX12_knew 45 = .ok (.iconst 4, 1) := by decide +kernel
theorem dX12_knew_46 : decode cX12_knew 46 = .ok (.aload_n 0, 1) := by decide +kernel
theorem dX12_knew_47 : decode cX12_knew 47 = .ok (.getfield 7, 3) := by decide +kernel
theorem dX12_knew_50 : decode cX12_knew 50 = .ok (.bipush 116, 2) := by decide +kernel
theorem dX12_knew_52 : decode cX12_knew 52 = .ok (.iconst 2, 1) := by decide +kernel
theorem dX12_knew_53 : decode cX12_knew 53 = .ok (.iload_n 3, 1) := by decide +kernel
theorem dX12_knew_54 : decode cX12_knew 54 = .ok (.imul, 1) := by decide +kernel
theorem dX12_knew_55 : decode cX12_knew 55 = .ok (.iadd, 1) := by decide +kernel
theorem dX12_knew_56 : decode cX12_knew 56 = .ok (.iconst 1, 1) := by decide +kernel
theorem dX12_knew_57 : decode cX12_knew 57 = .ok (.iadd, 1) := by decide +kernel
theorem dX12_knew_58 : decode cX12_knew 58 = .ok (.iaload, 1) := by decide +kernel
theorem dX12_knew_59 : decode cX12_knew 59 = .ok (.imul, 1) := by decide +kernel
theorem dX12_knew_60 : decode cX12_knew 60 = .ok (.iaload, 1) := by decide +kernel
theorem dX12_knew_61 : decode cX12_knew 61 = .ok (.ior, 1) := by decide +kernel
theorem dX12_knew_62 : decode cX12_knew 62 = .ok (.istore_n 2, 1) := by decide +kernel
theorem dX12_knew_63 : decode cX12_knew 63 = .ok (.iinc 3 1, 3) := by decide +kernel
theorem dX12_knew_66 : decode cX12_knew 66 = .ok (.goto (-52), 3) := by decide +kernel
theorem dX12_knew_69 : decode cX12_knew 69 = .ok (.iload_n 2, 1) := by decide +kernel
theorem dX12_knew_70 : decode cX12_knew 70 = .ok (.ireturn, 1) := by decide +kernel
theorem dX12_tell_0 : decode cX12_tell 0 = .ok (.iload_n 1, 1) := by decide +kernel
theorem dX12_tell_1 : decode cX12_tell 1 = .ok (.iconst (-1), 1) := by decide +kernel
theorem dX12_tell_2 : decode cX12_tell 2 = .ok (.if_icmp .ne 13, 3) := by decide +kernel
theorem dX12_tell_5 : decode cX12_tell 5 = .ok (.aload_n 0, 1) := by decide +kernel
theorem dX12_tell_6 : decode cX12_tell 6 = .ok (.getfield 7, 3) := by decide +kernel
theorem dX12_tell_9 : decode cX12_tell 9 = .ok (.bipush 8, 2) := by decide +kernel
theorem dX12_tell_11 : decode cX12_tell 11 = .ok (.iconst 0, 1) := by decide +kernel
theorem dX12_tell_12 : decode cX12_tell 12 = .ok (.iastore, 1) := by decide +kernel
theorem dX12_tell_13 : decode cX12_tell 13 = .ok (.iconst 0, 1) := by decide +kernel
theorem dX12_tell_14 : decode cX12_tell 14 = .ok (.ireturn, 1) := by decide +kernel
theorem dX12_tell_15 : decode cX12_tell 15 = .ok (.aload_n 0, 1) := by decide +kernel
theorem dX12_tell_16 : decode cX12_tell 16 = .ok (.iload_n 1, 1) := by decide +kernel
theorem dX12_tell_17 : decode cX12_tell 17 = .ok (.invokevirtual 392, 3) := by decide +kernel
theorem dX12_tell_20 : decode cX12_tell 20 = .ok (.ifCond .eq 28, 3) := by decide +kernel
theorem dX12_tell_23 : decode cX12_tell 23 = .ok (.iload_n 2, 1) := by decide +kernel
theorem dX12_tell_24 : decode cX12_tell 24 = .ok (.ldc_w 367, 3) := by decide +kernel
theorem dX12_tell_27 : decode cX12_tell 27 = .ok (.ldc_w 368, 3) := by decide +kernel
theorem dX12_tell_30 : decode cX12_tell 30 = .ok (.invokestatic 126, 3) := by decide +kernel
theorem dX12_tell_33 : decode cX12_tell 33 = .ok (.ifCond .eq 15, 3) := by decide +kernel
theorem dX12_tell_36 : decode cX12_tell 36 = .ok (.aload_n 0, 1) := by decide +kernel
theorem dX12_tell_37 : decode cX12_tell 37 = .ok (.getfield 7, 3) := by decide +kernel
theorem dX12_tell_40 : decode cX12_tell 40 = .ok (.bipush 8, 2) := by decide +kernel
theorem dX12_tell_42 : decode cX12_tell 42 = .ok (.iaload, 1) := by decide +kernel
theorem dX12_tell_43 : decode cX12_tell 43 = .ok (.bipush 12, 2) := by decide +kernel
theorem dX12_tell_45 : decode cX12_tell 45 = .ok (.if_icmp .ne 6, 3) := by decide +kernel
theorem dX12_tell_48 : decode cX12_tell 48 = .ok (.bipush (-2), 2) := by decide +kernel
theorem dX12_tell_50 : decode cX12_tell 50 = .ok (.ireturn, 1) := by decide +kernel
theorem dX12_tell_51 : decode cX12_tell 51 = .ok (.aload_n 0, 1) := by decide +kernel
theorem dX12_tell_52 : decode cX12_tell 52 = .ok (.getfield 7, 3) := by decide +kernel
theorem dX12_tell_55 : decode cX12_tell 55 = .ok (.sipush 132, 3) := by decide +kernel
theorem dX12_tell_58 : decode cX12_tell 58 = .ok (.iconst 2, 1) := by decide +kernel
theorem dX12_tell_59 : decode cX12_tell 59 = .ok (.aload_n 0, 1) := by decide +kernel
theorem dX12_tell_60 : decode cX12_tell 60 = .ok (.getfield 7, 3) := by decide +kernel
theorem dX12_tell_63 : decode cX12_tell 63 = .ok (.bipush 8, 2) := by decide +kernel
theorem dX12_tell_65 : decode cX12_tell 65 = .ok (.iaload, 1) := by decide +kernel
theorem dX12_tell_66 : decode cX12_tell 66 = .ok (.imul, 1) := by decide +kernel
theorem dX12_tell_67 : decode cX12_tell 67 = .ok (.iadd, 1) := by decide +kernel
theorem dX12_tell_68 : decode cX12_tell 68 = .ok (.iload_n 1, 1) := by decide +kernel
theorem dX12_tell_69 : decode cX12_tell 69 = .ok (.iastore, 1) := by decide +kernel
theorem dX12_tell_70 : decode cX12_tell 70 = .ok (.aload_n 0, 1) := by decide +kernel
theorem dX12_tell_71 : decode cX12_tell 71 = .ok (.getfield 7, 3) := by decide +kernel
theorem dX12_tell_74 : decode cX12_tell 74 = .ok (.sipush 132, 3) := by decide +kernel
theorem dX12_tell_77 : decode cX12_tell 77 = .ok (.iconst 2, 1) := by decide +kernel
theorem dX12_tell_78 : decode cX12_tell 78 = .ok (.aload_n 0, 1) := by decide +kernel
theorem dX12_tell_79 : decode cX12_tell 79 = .ok (.getfield 7, 3) := by decide +kernel
theorem dX12_tell_82 : decode cX12_tell 82 = .ok (.bipush 8, 2) := by decide +kernel
theorem dX12_tell_84 : decode cX12_tell 84 = .ok (.iaload, 1) := by decide +kernel
theorem dX12_tell_85 : decode cX12_tell 85 = .ok (.imul, 1) := by decide +kernel
theorem dX12_tell_86 : decode cX12_tell 86 = .ok (.iadd, 1) := by decide +kernel
theorem dX12_tell_87 : decode cX12_tell 87 = .ok (.iconst 1, 1) := by decide +kernel
theorem dX12_tell_88 : decode cX12_tell 88 = .ok (.iadd, 1) := by decide +kernel
theorem dX12_tell_89 : decode cX12_tell 89 = .ok (.iload_n 2, 1) := by decide +kernel
theorem dX12_tell_90 : decode cX12_tell 90 = .ok (.iastore, 1) := by decide +kernel
theorem dX12_tell_91 : decode cX12_tell 91 = .ok (.aload_n 0, 1) := by decide +kernel
theorem dX12_tell_92 : decode cX12_tell 92 = .ok (.getfield 7, 3) := by decide +kernel
theorem dX12_tell_95 : decode cX12_tell 95 = .ok (.bipush 8, 2) := by decide +kernel
theorem dX12_tell_97 : decode cX12_tell 97 = .ok (.dup2, 1) := by decide +kernel
theorem dX12_tell_98 : decode cX12_tell 98 = .ok (.iaload, 1) := by decide +kernel
theorem dX12_tell_99 : decode cX12_tell 99 = .ok (.iconst 1, 1) := by decide +kernel
theorem dX12_tell_100 : decode cX12_tell 100 = .ok (.iadd, 1) := by decide +kernel
theorem dX12_tell_101 : decode cX12_tell 101 = .ok (.iastore, 1) := by decide +kernel
theorem dX12_tell_102 : decode cX12_tell 102 = .ok (.aload_n 0, 1) := by decide +kernel
theorem dX12_tell_103 : decode cX12_tell 103 = .ok (.getfield 7, 3) := by decide +kernel
theorem dX12_tell_106 : decode cX12_tell 106 = .ok (.bipush 8, 2) := by decide +kernel
theorem dX12_tell_108 : decode cX12_tell 108 = .ok (.iaload, 1) := by decide +kernel
theorem dX12_tell_109 : decode cX12_tell 109 = .ok (.ireturn, 1) := by decide +kernel
theorem dX12_lies_0 : decode cX12_lies 0 = .ok (.aload_n 0, 1) := by decide +kernel
theorem dX12_lies_1 : decode cX12_lies 1 = .ok (.invokevirtual 396, 3) := by decide +kernel
theorem dX12_lies_4 : decode cX12_lies 4 = .ok (.iconst 0, 1) := by decide +kernel
theorem dX12_lies_5 : decode cX12_lies 5 = .ok (.istore_n 1, 1) := by decide +kernel
theorem dX12_lies_6 : decode cX12_lies 6 = .ok (.iconst 0, 1) := by decide +kernel
theorem dX12_lies_7 : decode cX12_lies 7 = .ok (.istore_n 2, 1) := by decide +kernel
theorem dX12_lies_8 : decode cX12_lies 8 = .ok (.iload_n 2, 1) := by decide +kernel
theorem dX12_lies_9 : decode cX12_lies 9 = .ok (.aload_n 0, 1) := by decide +kernel
theorem dX12_lies_10 : decode cX12_lies 10 = .ok (.getfield 7, 3) := by decide +kernel
theorem dX12_lies_13 : decode cX12_lies 13 = .ok (.bipush 8, 2) := by decide +kernel
theorem dX12_lies_15 : decode cX12_lies 15 = .ok (.iaload, 1) := by decide +kernel
theorem dX12_lies_16 : decode cX12_lies 16 = .ok (.if_icmp .ge 54, 3) := by decide +kernel
theorem dX12_lies_19 : decode cX12_lies 19 = .ok (.iload_n 1, 1) := by decide +kernel
theorem dX12_lies_20 : decode cX12_lies 20 = .ok (.aload_n 0, 1) := by decide +kernel
theorem dX12_lies_21 : decode cX12_lies 21 = .ok (.aload_n 0, 1) := by decide +kernel
theorem dX12_lies_22 : decode cX12_lies 22 = .ok (.getfield 7, 3) := by decide +kernel
theorem dX12_lies_25 : decode cX12_lies 25 = .ok (.sipush 132, 3) := by decide +kernel
theorem dX12_lies_28 : decode cX12_lies 28 = .ok (.iconst 2, 1) := by decide +kernel
theorem dX12_lies_29 : decode cX12_lies 29 = .ok (.iload_n 2, 1) := by decide +kernel
theorem dX12_lies_30 : decode cX12_lies 30 = .ok (.imul, 1) := by decide +kernel
theorem dX12_lies_31 : decode cX12_lies 31 = .ok (.iadd, 1) := by decide +kernel
theorem dX12_lies_32 : decode cX12_lies 32 = .ok (.iaload, 1) := by decide +kernel
theorem dX12_lies_33 : decode cX12_lies 33 = .ok (.invokevirtual 399, 3) := by decide +kernel
theorem dX12_lies_36 : decode cX12_lies 36 = .ok (.aload_n 0, 1) := by decide +kernel
theorem dX12_lies_37 : decode cX12_lies 37 = .ok (.getfield 7, 3) := by decide +kernel
theorem dX12_lies_40 : decode cX12_lies 40 = .ok (.sipush 132, 3) := by decide +kernel
theorem dX12_lies_43 : decode cX12_lies 43 = .ok (.iconst 2, 1) := by decide +kernel
theorem dX12_lies_44 : decode cX12_lies 44 = .ok (.iload_n 2, 1) := by decide +kernel
theorem dX12_lies_45 : decode cX12_lies 45 = .ok (.imul, 1) := by decide +kernel
theorem dX12_lies_46 : decode cX12_lies 46 = .ok (.iadd, 1) := by decide +kernel
theorem dX12_lies_47 : decode cX12_lies 47 = .ok (.iconst 1, 1) := by decide +kernel
theorem dX12_lies_48 : decode cX12_lies 48 = .ok (.iadd, 1) := by decide +kernel
theorem dX12_lies_49 : decode cX12_lies 49 = .ok (.iaload, 1) := by decide +kernel
theorem dX12_lies_50 : decode cX12_lies 50 = .ok (.i2l, 1) := by decide +kernel
theorem dX12_lies_51 : decode cX12_lies 51 = .ok (.lcmp, 1) := by decide +kernel
theorem dX12_lies_52 : decode cX12_lies 52 = .ok (.ifCond .eq 9, 3) := by decide +kernel
theorem dX12_lies_55 : decode cX12_lies 55 = .ok (.iconst 1, 1) := by decide +kernel
theorem dX12_lies_56 : decode cX12_lies 56 = .ok (.iload_n 2, 1) := by decide +kernel
theorem dX12_lies_57 : decode cX12_lies 57 = .ok (.ishl, 1) := by decide +kernel
theorem dX12_lies_58 : decode cX12_lies 58 = .ok (.goto 4, 3) := by decide +kernel
theorem dX12_lies_61 : decode cX12_lies 61 = .ok (.iconst 0, 1) := by decide +kernel
theorem dX12_lies_62 : decode cX12_lies 62 = .ok (.ior, 1) := by decide +kernel
theorem dX12_lies_63 : decode cX12_lies 63 = .ok (.istore_n 1, 1) := by decide +kernel
theorem dX12_lies_64 : decode cX12_lies 64 = .ok (.iinc 2 1, 3) := by decide +kernel
theorem dX12_lies_67 : decode cX12_lies 67 = .ok (.goto (-59), 3) := by decide +kernel
theorem dX12_lies_70 : decode cX12_lies 70 = .ok (.iload_n 1, 1) := by decide +kernel
theorem dX12_lies_71 : decode cX12_lies 71 = .ok (.ireturn, 1) := by decide +kernel
theorem dX12_clash_0 : decode cX12_clash 0 = .ok (.iconst 0, 1) := by decide +kernel
theorem dX12_clash_1 : decode cX12_clash 1 = .ok (.istore_n 1, 1) := by decide +kernel
theorem dX12_clash_2 : decode cX12_clash 2 = .ok (.iload_n 1, 1) := by decide +kernel
theorem dX12_clash_3 : decode cX12_clash 3 = .ok (.aload_n 0, 1) := by decide +kernel
theorem dX12_clash_4 : decode cX12_clash 4 = .ok (.getfield 7, 3) := by decide +kernel
theorem dX12_clash_7 : decode cX12_clash 7 = .ok (.bipush 8, 2) := by decide +kernel
theorem dX12_clash_9 : decode cX12_clash 9 = .ok (.iaload, 1) := by decide +kernel
theorem dX12_clash_10 : decode cX12_clash 10 = .ok (.if_icmp .ge 100, 3) := by decide +kernel
theorem dX12_clash_13 : decode cX12_clash 13 = .ok (.iconst 0, 1) := by decide +kernel
theorem dX12_clash_14 : decode cX12_clash 14 = .ok (.istore_n 2, 1) := by decide +kernel
theorem dX12_clash_15 : decode cX12_clash 15 = .ok (.iload_n 2, 1) := by decide +kernel
theorem dX12_clash_16 : decode cX12_clash 16 = .ok (.iload_n 1, 1) := by decide +kernel
theorem dX12_clash_17 : decode cX12_clash 17 = .ok (.if_icmp .ge 87, 3) := by decide +kernel
theorem dX12_clash_20 : decode cX12_clash 20 = .ok (.aload_n 0, 1) := by decide +kernel
theorem dX12_clash_21 : decode cX12_clash 21 = .ok (.getfield 7, 3) := by decide +kernel
theorem dX12_clash_24 : decode cX12_clash 24 = .ok (.sipush 132, 3) := by decide +kernel
theorem dX12_clash_27 : decode cX12_clash 27 = .ok (.iconst 2, 1) := by decide +kernel
theorem dX12_clash_28 : decode cX12_clash 28 = .ok (.iload_n 2, 1) := by decide +kernel
theorem dX12_clash_29 : decode cX12_clash 29 = .ok (.imul, 1) := by decide +kernel
theorem dX12_clash_30 : decode cX12_clash 30 = .ok (.iadd, 1) := by decide +kernel
theorem dX12_clash_31 : decode cX12_clash 31 = .ok (.iconst 1, 1) := by decide +kernel
theorem dX12_clash_32 : decode cX12_clash 32 = .ok (.iadd, 1) := by decide +kernel
theorem dX12_clash_33 : decode cX12_clash 33 = .ok (.iaload, 1) := by decide +kernel
theorem dX12_clash_34 : decode cX12_clash 34 = .ok (.aload_n 0, 1) := by decide +kernel
theorem dX12_clash_35 : decode cX12_clash 35 = .ok (.getfield 7, 3) := by decide +kernel
theorem dX12_clash_38 : decode cX12_clash 38 = .ok (.sipush 132, 3) := by decide +kernel
theorem dX12_clash_41 : decode cX12_clash 41 = .ok (.iconst 2, 1) := by decide +kernel
theorem dX12_clash_42 : decode cX12_clash 42 = .ok (.iload_n 1, 1) := by decide +kernel
theorem dX12_clash_43 : decode cX12_clash 43 = .ok (.imul, 1) := by decide +kernel
theorem dX12_clash_44 : decode cX12_clash 44 = .ok (.iadd, 1) := by decide +kernel
theorem dX12_clash_45 : decode cX12_clash 45 = .ok (.iconst 1, 1) := by decide +kernel
theorem dX12_clash_46 : decode cX12_clash 46 = .ok (.iadd, 1) := by decide +kernel
theorem dX12_clash_47 : decode cX12_clash 47 = .ok (.iaload, 1) := by decide +kernel
theorem dX12_clash_48 : decode cX12_clash 48 = .ok (.if_icmp .ne 6, 3) := by decide +kernel
theorem dX12_clash_51 : decode cX12_clash 51 = .ok (.goto 47, 3) := by decide +kernel
theorem dX12_clash_54 : decode cX12_clash 54 = .ok (.aload_n 0, 1) := by decide +kernel
theorem dX12_clash_55 : decode cX12_clash 55 = .ok (.aload_n 0, 1) := by decide +kernel
theorem dX12_clash_56 : decode cX12_clash 56 = .ok (.getfield 7, 3) := by decide +kernel
theorem dX12_clash_59 : decode cX12_clash 59 = .ok (.sipush 132, 3) := by decide +kernel
theorem dX12_clash_62 : decode cX12_clash 62 = .ok (.iconst 2, 1) := by decide +kernel
theorem dX12_clash_63 : decode cX12_clash 63 = .ok (.iload_n 2, 1) := by decide +kernel
theorem dX12_clash_64 : decode cX12_clash 64 = .ok (.imul, 1) := by decide +kernel
theorem dX12_clash_65 : decode cX12_clash 65 = .ok (.iadd, 1) := by decide +kernel
theorem dX12_clash_66 : decode cX12_clash 66 = .ok (.iaload, 1) := by decide +kernel
theorem dX12_clash_67 : decode cX12_clash 67 = .ok (.aload_n 0, 1) := by decide +kernel
theorem dX12_clash_68 : decode cX12_clash 68 = .ok (.getfield 7, 3) := by decide +kernel
theorem dX12_clash_71 : decode cX12_clash 71 = .ok (.sipush 132, 3) := by decide +kernel
theorem dX12_clash_74 : decode cX12_clash 74 = .ok (.iconst 2, 1) := by decide +kernel
theorem dX12_clash_75 : decode cX12_clash 75 = .ok (.iload_n 1, 1) := by decide +kernel
theorem dX12_clash_76 : decode cX12_clash 76 = .ok (.imul, 1) := by decide +kernel
theorem dX12_clash_77 : decode cX12_clash 77 = .ok (.iadd, 1) := by decide +kernel
theorem dX12_clash_78 : decode cX12_clash 78 = .ok (.iaload, 1) := by decide +kernel
theorem dX12_clash_79 : decode cX12_clash 79 = .ok (.aload_n 0, 1) := by decide +kernel
theorem dX12_clash_80 : decode cX12_clash 80 = .ok (.getfield 7, 3) := by decide +kernel
theorem dX12_clash_83 : decode cX12_clash 83 = .ok (.iconst 4, 1) := by decide +kernel
theorem dX12_clash_84 : decode cX12_clash 84 = .ok (.iaload, 1) := by decide +kernel
theorem dX12_clash_85 : decode cX12_clash 85 = .ok (.invokevirtual 471, 3) := by decide +kernel
theorem dX12_clash_88 : decode cX12_clash 88 = .ok (.ifCond .eq 10, 3) := by decide +kernel
theorem dX12_clash_91 : decode cX12_clash 91 = .ok (.bipush 12, 2) := by decide +kernel
theorem dX12_clash_93 : decode cX12_clash 93 = .ok (.iload_n 2, 1) := by decide +kernel
theorem dX12_clash_94 : decode cX12_clash 94 = .ok (.imul, 1) := by decide +kernel
theorem dX12_clash_95 : decode cX12_clash 95 = .ok (.iload_n 1, 1) := by decide +kernel
theorem dX12_clash_96 : decode cX12_clash 96 = .ok (.iadd, 1) := by decide +kernel
theorem dX12_clash_97 : decode cX12_clash 97 = .ok (.ireturn, 1) := by decide +kernel
theorem dX12_clash_98 : decode cX12_clash 98 = .ok (.iinc 2 1, 3) := by decide +kernel
theorem dX12_clash_101 : decode cX12_clash 101 = .ok (.goto (-86), 3) := by decide +kernel
theorem dX12_clash_104 : decode cX12_clash 104 = .ok (.iinc 1 1, 3) := by decide +kernel
theorem dX12_clash_107 : decode cX12_clash 107 = .ok (.goto (-105), 3) := by decide +kernel
theorem dX12_clash_110 : decode cX12_clash 110 = .ok (.iconst (-1), 1) := by decide +kernel
theorem dX12_clash_111 : decode cX12_clash 111 = .ok (.ireturn, 1) := by decide +kernel
theorem dX12_image_0 : decode cX12_image 0 = .ok (.aload_n 0, 1) := by decide +kernel
theorem dX12_image_1 : decode cX12_image 1 = .ok (.getfield 7, 3) := by decide +kernel
theorem dX12_image_4 : decode cX12_image 4 = .ok (.aload_n 0, 1) := by decide +kernel
theorem dX12_image_5 : decode cX12_image 5 = .ok (.getfield 13, 3) := by decide +kernel
theorem dX12_image_8 : decode cX12_image 8 = .ok (.invokestatic 118, 3) := by decide +kernel
theorem dX12_image_11 : decode cX12_image 11 = .ok (.aload_n 0, 1) := by decide +kernel
theorem dX12_image_12 : decode cX12_image 12 = .ok (.getfield 7, 3) := by decide +kernel
theorem dX12_image_15 : decode cX12_image 15 = .ok (.iconst 5, 1) := by decide +kernel
theorem dX12_image_16 : decode cX12_image 16 = .ok (.iaload, 1) := by decide +kernel
theorem dX12_image_17 : decode cX12_image 17 = .ok (.ireturn, 1) := by decide +kernel
theorem dX12_back_0 : decode cX12_back 0 = .ok (.aload_n 0, 1) := by decide +kernel
theorem dX12_back_1 : decode cX12_back 1 = .ok (.getfield 13, 3) := by decide +kernel
theorem dX12_back_4 : decode cX12_back 4 = .ok (.aload_n 0, 1) := by decide +kernel
theorem dX12_back_5 : decode cX12_back 5 = .ok (.getfield 7, 3) := by decide +kernel
theorem dX12_back_8 : decode cX12_back 8 = .ok (.invokestatic 118, 3) := by decide +kernel
theorem dX12_back_11 : decode cX12_back 11 = .ok (.aload_n 0, 1) := by decide +kernel
theorem dX12_back_12 : decode cX12_back 12 = .ok (.getfield 7, 3) := by decide +kernel
theorem dX12_back_15 : decode cX12_back 15 = .ok (.iconst 5, 1) := by decide +kernel
theorem dX12_back_16 : decode cX12_back 16 = .ok (.iaload, 1) := by decide +kernel
theorem dX12_back_17 : decode cX12_back 17 = .ok (.ireturn, 1) := by decide +kernel
theorem dX12_about_0 : decode cX12_about 0 = .ok (.iload_n 1, 1) := by decide +kernel
theorem dX12_about_1 : decode cX12_about 1 = .ok (.bipush 10, 2) := by decide +kernel
theorem dX12_about_3 : decode cX12_about 3 = .ok (.bipush 13, 2) := by decide +kernel
theorem dX12_about_5 : decode cX12_about 5 = .ok (.invokestatic 126, 3) := by decide +kernel
theorem dX12_about_8 : decode cX12_about 8 = .ok (.ifCond .eq 16, 3) := by decide +kernel
theorem dX12_about_11 : decode cX12_about 11 = .ok (.aload_n 0, 1) := by decide +kernel
theorem dX12_about_12 : decode cX12_about 12 = .ok (.getfield 7, 3) := by decide +kernel
theorem dX12_about_15 : decode cX12_about 15 = .ok (.bipush 10, 2) := by decide +kernel
theorem dX12_about_17 : decode cX12_about 17 = .ok (.iload_n 1, 1) := by decide +kernel
theorem dX12_about_18 : decode cX12_about 18 = .ok (.iadd, 1) := by decide +kernel
theorem dX12_about_19 : decode cX12_about 19 = .ok (.bipush 10, 2) := by decide +kernel
theorem dX12_about_21 : decode cX12_about 21 = .ok (.isub, 1) := by decide +kernel
theorem dX12_about_22 : decode cX12_about 22 = .ok (.iaload, 1) := by decide +kernel
theorem dX12_about_23 : decode cX12_about 23 = .ok (.ireturn, 1) := by decide +kernel
theorem dX12_about_24 : decode cX12_about 24 = .ok (.iload_n 1, 1) := by decide +kernel
theorem dX12_about_25 : decode cX12_about 25 = .ok (.bipush 20, 2) := by decide +kernel
theorem dX12_about_27 : decode cX12_about 27 = .ok (.bipush 19, 2) := by decide +kernel
theorem dX12_about_29 : decode cX12_about 29 = .ok (.aload_n 0, 1) := by decide +kernel
theorem dX12_about_30 : decode cX12_about 30 = .ok (.getfield 7, 3) := by decide +kernel
theorem dX12_about_33 : decode cX12_about 33 = .ok (.iconst 2, 1) := by decide +kernel
theorem dX12_about_34 : decode cX12_about 34 = .ok (.iaload, 1) := by decide +kernel
theorem dX12_about_35 : decode cX12_about 35 = .ok (.iadd, 1) := by decide +kernel
theorem dX12_about_36 : decode cX12_about 36 = .ok (.invokestatic 126, 3) := by decide +kernel
theorem dX12_about_39 : decode cX12_about 39 = .ok (.ifCond .eq 13, 3) := by decide +kernel
theorem dX12_about_42 : decode cX12_about 42 = .ok (.aload_n 0, 1) := by decide +kernel
theorem dX12_about_43 : decode cX12_about 43 = .ok (.iload_n 1, 1) := by decide +kernel
theorem dX12_about_44 : decode cX12_about 44 = .ok (.bipush 20, 2) := by decide +kernel
theorem dX12_about_46 : decode cX12_about 46 = .ok (.isub, 1) := by decide +kernel
theorem dX12_about_47 : decode cX12_about 47 = .ok (.iconst 0, 1) := by decide +kernel
theorem dX12_about_48 : decode cX12_about 48 = .ok (.invokevirtual 483, 3) := by decide +kernel
theorem dX12_about_51 : decode cX12_about 51 = .ok (.ireturn, 1) := by decide +kernel
theorem dX12_about_52 : decode cX12_about 52 = .ok (.iload_n 1, 1) := by decide +kernel
theorem dX12_about_53 : decode cX12_about 53 = .ok (.bipush 30, 2) := by decide +kernel
theorem dX12_about_55 : decode cX12_about 55 = .ok (.bipush 29, 2) := by decide +kernel
theorem dX12_about_57 : decode cX12_about 57 = .ok (.aload_n 0, 1) := by decide +kernel
theorem dX12_about_58 : decode cX12_about 58 = .ok (.getfield 7, 3) := by decide +kernel
theorem dX12_about_61 : decode cX12_about 61 = .ok (.iconst 1, 1) := by decide +kernel
theorem dX12_about_62 : decode cX12_about 62 = .ok (.iaload, 1) := by decide +kernel
theorem dX12_about_63 : decode cX12_about 63 = .ok (.iadd, 1) := by decide +kernel
theorem dX12_about_64 : decode cX12_about 64 = .ok (.invokestatic 126, 3) := by decide +kernel
theorem dX12_about_67 : decode cX12_about 67 = .ok (.ifCond .eq 18, 3) := by decide +kernel
theorem dX12_about_70 : decode cX12_about 70 = .ok (.aload_n 0, 1) := by decide +kernel
theorem dX12_about_71 : decode cX12_about 71 = .ok (.getfield 7, 3) := by decide +kernel
theorem dX12_about_74 : decode cX12_about 74 = .ok (.bipush 14, 2) := by decide +kernel
theorem dX12_about_76 : decode cX12_about 76 = .ok (.iconst 3, 1) := by decide +kernel
theorem dX12_about_77 : decode cX12_about 77 = .ok (.iload_n 1, 1) := by decide +kernel
theorem dX12_about_78 : decode cX12_about 78 = .ok (.bipush 30, 2) := by decide +kernel
theorem dX12_about_80 : decode cX12_about 80 = .ok (.isub, 1) := by decide +kernel
theorem dX12_about_81 : decode cX12_about 81 = .ok (.imul, 1) := by decide +kernel
theorem dX12_about_82 : decode cX12_about 82 = .ok (.iadd, 1) := by decide +kernel
theorem dX12_about_83 : decode cX12_about 83 = .ok (.iaload, 1) := by decide +kernel
theorem dX12_about_84 : decode cX12_about 84 = .ok (.ireturn, 1) := by decide +kernel
theorem dX12_about_85 : decode cX12_about 85 = .ok (.iload_n 1, 1) := by decide +kernel
theorem dX12_about_86 : decode cX12_about 86 = .ok (.bipush 40, 2) := by decide +kernel
theorem dX12_about_88 : decode cX12_about 88 = .ok (.bipush 39, 2) := by decide +kernel
theorem dX12_about_90 : decode cX12_about 90 = .ok (.aload_n 0, 1) := by decide +kernel
theorem dX12_about_91 : decode cX12_about 91 = .ok (.getfield 7, 3) := by decide +kernel
theorem dX12_about_94 : decode cX12_about 94 = .ok (.iconst 2, 1) := by decide +kernel
theorem dX12_about_95 : decode cX12_about 95 = .ok (.iaload, 1) := by decide +kernel
theorem dX12_about_96 : decode cX12_about 96 = .ok (.iadd, 1) := by decide +kernel
theorem dX12_about_97 : decode cX12_about 97 = .ok (.invokestatic 126, 3) := by decide +kernel
theorem dX12_about_100 : decode cX12_about 100 = .ok (.ifCond .eq 13, 3) := by decide +kernel
theorem dX12_about_103 : decode cX12_about 103 = .ok (.aload_n 0, 1) := by decide +kernel
theorem dX12_about_104 : decode cX12_about 104 = .ok (.iload_n 1, 1) := by decide +kernel
theorem dX12_about_105 : decode cX12_about 105 = .ok (.bipush 40, 2) := by decide +kernel
theorem dX12_about_107 : decode cX12_about 107 = .ok (.isub, 1) := by decide +kernel
theorem dX12_about_108 : decode cX12_about 108 = .ok (.iconst 1, 1) := by decide +kernel
theorem dX12_about_109 : decode cX12_about 109 = .ok (.invokevirtual 483, 3) := by decide +kernel
theorem dX12_about_112 : decode cX12_about 112 = .ok (.ireturn, 1) := by decide +kernel
theorem dX12_about_113 : decode cX12_about 113 = .ok (.iload_n 1, 1) := by decide +kernel
theorem dX12_about_114 : decode cX12_about 114 = .ok (.iconst 0, 1) := by decide +kernel
theorem dX12_about_115 : decode cX12_about 115 = .ok (.bipush 8, 2) := by decide +kernel
theorem dX12_about_117 : decode cX12_about 117 = .ok (.invokestatic 126, 3) := by decide +kernel
theorem dX12_about_120 : decode cX12_about 120 = .ok (.ifCond .eq 12, 3) := by decide +kernel
theorem dX12_about_123 : decode cX12_about 123 = .ok (.aload_n 0, 1) := by decide +kernel
theorem dX12_about_124 : decode cX12_about 124 = .ok (.getfield 7, 3) := by decide +kernel
theorem dX12_about_127 : decode cX12_about 127 = .ok (.iload_n 1, 1) := by decide +kernel
theorem dX12_about_128 : decode cX12_about 128 = .ok (.iaload, 1) := by decide +kernel
theorem dX12_about_129 : decode cX12_about 129 = .ok (.goto 19, 3) := by decide +kernel
theorem dX12_about_132 : decode cX12_about 132 = .ok (.iload_n 1, 1) := by decide +kernel
theorem dX12_about_133 : decode cX12_about 133 = .ok (.bipush 9, 2) := by decide +kernel
theorem dX12_about_135 : decode cX12_about 135 = .ok (.if_icmp .ne 10, 3) := by decide +kernel
theorem dX12_about_138 : decode cX12_about 138 = .ok (.aload_n 0, 1) := by decide +kernel
theorem dX12_about_139 : decode cX12_about 139 = .ok (.getfield 153, 3) := by decide +kernel
theorem dX12_about_142 : decode cX12_about 142 = .ok (.goto 6, 3) := by decide +kernel
theorem dX12_about_145 : decode cX12_about 145 = .ok (.ldc_w 395, 3) := by decide +kernel
theorem dX12_about_148 : decode cX12_about 148 = .ok (.ireturn, 1) := by decide +kernel
