theorem dX11_init_0 : decode cX11_init 0 = .ok (.aload_n 0, 1) := by decide +kernel
theorem dX11_init_1 : decode cX11_init 1 = .ok (.invokespecial 1, 3) := by decide +kernel
theorem dX11_init_4 : decode cX11_init 4 = .ok (.aload_n 0, 1) := by decide +kernel
theorem dX11_init_5 : decode cX11_init 5 = .ok (.new 7, 3) := by decide +kernel
theorem dX11_init_8 : decode cX11_init 8 = .ok (.dup, 1) := by decide +kernel
theorem dX11_init_9 : decode cX11_init 9 = .ok (.invokespecial 9, 3) := by decide +kernel
theorem dX11_init_12 : decode cX11_init 12 = .ok (.putfield 10, 3) := by decide +kernel
theorem dX11_init_15 : decode cX11_init 15 = .ok (.aload_n 0, 1) := by decide +kernel
theorem dX11_init_16 : decode cX11_init 16 = .ok (.new 16, 3) := by decide +kernel
theorem dX11_init_19 : decode cX11_init 19 = .ok (.dup, 1) := by decide +kernel
theorem dX11_init_20 : decode cX11_init 20 = .ok (.invokespecial 18, 3) := by decide +kernel
theorem dX11_init_23 : decode cX11_init 23 = .ok (.putfield 19, 3) := by decide +kernel
theorem dX11_init_26 : decode cX11_init 26 = .ok (.aload_n 0, 1) := by decide +kernel
theorem dX11_init_27 : decode cX11_init 27 = .ok (.iconst 4, 1) := by decide +kernel
theorem dX11_init_28 : decode cX11_init 28 = .ok (.anewarray 23, 3) := by decide +kernel
theorem dX11_init_31 : decode cX11_init 31 = .ok (.putfield 25, 3) := by decide +kernel
theorem dX11_init_34 : decode cX11_init 34 = .ok (.aload_n 0, 1) := by decide +kernel
theorem dX11_init_35 : decode cX11_init 35 = .ok (.new 29, 3) := by decide +kernel
theorem dX11_init_38 : decode cX11_init 38 = .ok (.dup, 1) := by decide +kernel
theorem dX11_init_39 : decode cX11_init 39 = .ok (.invokespecial 31, 3) := by decide +kernel
theorem dX11_init_42 : decode cX11_init 42 = .ok (.putfield 32, 3) := by decide +kernel
theorem dX11_init_45 : decode cX11_init 45 = .ok (.aload_n 0, 1) := by decide +kernel
theorem dX11_init_46 : decode cX11_init 46 = .ok (.new 36, 3) := by decide +kernel
theorem dX11_init_49 : decode cX11_init 49 = .ok (.dup, 1) := by decide +kernel
theorem dX11_init_50 : decode cX11_init 50 = .ok (.invokespecial 38, 3) := by decide +kernel
theorem dX11_init_53 : decode cX11_init 53 = .ok (.putfield 39, 3) := by decide +kernel
theorem dX11_init_56 : decode cX11_init 56 = .ok (.aload_n 0, 1) := by decide +kernel
theorem dX11_init_57 : decode cX11_init 57 = .ok (.new 43, 3) := by decide +kernel
theorem dX11_init_60 : decode cX11_init 60 = .ok (.dup, 1) := by decide +kernel
theorem dX11_init_61 : decode cX11_init 61 = .ok (.invokespecial 45, 3) := by decide +kernel
theorem dX11_init_64 : decode cX11_init 64 = .ok (.putfield 46, 3) := by decide +kernel
theorem dX11_init_67 : decode cX11_init 67 = .ok (.aload_n 0, 1) := by decide +kernel
theorem dX11_init_68 : decode cX11_init 68 = .ok (.new 50, 3) := by decide +kernel
theorem dX11_init_71 : decode cX11_init 71 = .ok (.dup, 1) := by decide +kernel
theorem dX11_init_72 : decode cX11_init 72 = .ok (.invokespecial 52, 3) := by decide +kernel
theorem dX11_init_75 : decode cX11_init 75 = .ok (.putfield 53, 3) := by decide +kernel
theorem dX11_init_78 : decode cX11_init 78 = .ok (.aload_n 0, 1) := by decide +kernel
theorem dX11_init_79 : decode cX11_init 79 = .ok (.new 57, 3) := by decide +kernel
theorem dX11_init_82 : decode cX11_init 82 = .ok (.dup, 1) := by decide +kernel
theorem dX11_init_83 : decode cX11_init 83 = .ok (.invokespecial 59, 3) := by decide +kernel
theorem dX11_init_86 : decode cX11_init 86 = .ok (.putfield 60, 3) := by decide +kernel
theorem dX11_init_89 : decode cX11_init 89 = .ok (.aload_n 0, 1) := by decide +kernel
theorem dX11_init_90 : decode cX11_init 90 = .ok (.new 64, 3) := by decide +kernel
theorem dX11_init_93 : decode cX11_init 93 = .ok (.dup, 1) := by decide +kernel
theorem dX11_init_94 : decode cX11_init 94 = .ok (.invokespecial 66, 3) := by decide +kernel
theorem dX11_init_97 : decode cX11_init 97 = .ok (.putfield 67, 3) := by decide +kernel
theorem dX11_init_100 : decode cX11_init 100 = .ok (.iconst 0, 1) := by decide +kernel
theorem dX11_init_101 : decode cX11_init 101 = .ok (.istore_n 1, 1) := by decide +kernel
theorem dX11_init_102 : decode cX11_init 102 = .ok (.iload_n 1, 1) := by decide +kernel
theorem dX11_init_103 : decode cX11_init 103 = .ok (.iconst 4, 1) := by decide +kernel
theorem dX11_init_104 : decode cX11_init 104 = .ok (.if_icmp .ge 22, 3) := by decide +kernel
theorem dX11_init_107 : decode cX11_init 107 = .ok (.aload_n 0, 1) := by decide +kernel
theorem dX11_init_108 : decode cX11_init 108 = .ok (.getfield 25, 3) := by decide +kernel
theorem dX11_init_111 : decode cX11_init 111 = .ok (.iload_n 1, 1) := by decide +kernel
theorem dX11_init_112 : decode cX11_init 112 = .ok (.new 23, 3) := by decide +kernel
theorem dX11_init_115 : decode cX11_init 115 = .ok (.dup, 1) := by decide +kernel
theorem dX11_init_116 : decode cX11_init 116 = .ok (.invokespecial 71, 3) := by decide +kernel
theorem dX11_init_119 : decode cX11_init 119 = .ok (.aastore, 1) := by decide +kernel
theorem dX11_init_120 : decode cX11_init 120 = .ok (.iinc 1 1, 3) := by decide +kernel
theorem dX11_init_123 : decode cX11_init 123 = .ok (.goto (-21), 3) := by decide +kernel
theorem dX11_init_126 : decode cX11_init 126 = .ok (.return_, 1) := by decide +kernel
theorem dX11_thing_0 : decode cX11_thing 0 = .ok (.iload_n 1, 1) := by decide +kernel
theorem dX11_thing_1 : decode cX11_thing 1 = .ok (.iconst 0, 1) := by decide +kernel
theorem dX11_thing_2 : decode cX11_thing 2 = .ok (.iconst 3, 1) := by decide +kernel
theorem dX11_thing_3 : decode cX11_thing 3 = .ok (.invokestatic 72, 3) := by decide +kernel
theorem dX11_thing_6 : decode cX11_thing 6 = .ok (.ifCond .eq 13, 3) := by decide +kernel
theorem dX11_thing_9 : decode cX11_thing 9 = .ok (.iload_n 2, 1) := by decide +kernel
theorem dX11_thing_10 : decode cX11_thing 10 = .ok (.iconst 0, 1) := by decide +kernel
theorem dX11_thing_11 : decode cX11_thing 11 = .ok (.bipush 99, 2) := by decide +kernel
theorem dX11_thing_13 : decode cX11_thing 13 = .ok (.invokestatic 72, 3) := by decide +kernel
theorem dX11_thing_16 : decode cX11_thing 16 = .ok (.ifCond .ne 5, 3) := by decide +kernel
theorem dX11_thing_19 : decode cX11_thing 19 = .ok (.iconst 0, 1) := by decide +kernel
theorem dX11_thing_20 : decode cX11_thing 20 = .ok (.ireturn, 1) := by decide +kernel
theorem dX11_thing_21 : decode cX11_thing 21 = .ok (.aload_n 0, 1) := by decide +kernel
theorem dX11_thing_22 : decode cX11_thing 22 = .ok (.getfield 10, 3) := by decide +kernel
theorem dX11_thing_25 : decode cX11_thing 25 = .ok (.getfield 76, 3) := by decide +kernel
theorem dX11_thing_28 : decode cX11_thing 28 = .ok (.iload_n 1, 1) := by decide +kernel
theorem dX11_thing_29 : decode cX11_thing 29 = .ok (.iload_n 2, 1) := by decide +kernel
theorem dX11_thing_30 : decode cX11_thing 30 = .ok (.iastore, 1) := by decide +kernel
theorem dX11_thing_31 : decode cX11_thing 31 = .ok (.iconst 1, 1) := by decide +kernel
theorem dX11_thing_32 : decode cX11_thing 32 = .ok (.ireturn, 1) := by decide +kernel
theorem dX11_person_0 : decode cX11_person 0 = .ok (.aload_n 0, 1) := by decide +kernel
theorem dX11_person_1 : decode cX11_person 1 = .ok (.getfield 10, 3) := by decide +kernel
theorem dX11_person_4 : decode cX11_person 4 = .ok (.iload_n 1, 1) := by decide +kernel
theorem dX11_person_5 : decode cX11_person 5 = .ok (.iload_n 2, 1) := by decide +kernel
theorem dX11_person_6 : decode cX11_person 6 = .ok (.iload_n 3, 1) := by decide +kernel
theorem dX11_person_7 : decode cX11_person 7 = .ok (.invokevirtual 80, 3) := by decide +kernel
theorem dX11_person_10 : decode cX11_person 10 = .ok (.ireturn, 1) := by decide +kernel
theorem dX11_road_0 : decode cX11_road 0 = .ok (.aload_n 0, 1) := by decide +kernel
theorem dX11_road_1 : decode cX11_road 1 = .ok (.getfield 10, 3) := by decide +kernel
theorem dX11_road_4 : decode cX11_road 4 = .ok (.iload_n 1, 1) := by decide +kernel
theorem dX11_road_5 : decode cX11_road 5 = .ok (.iload_n 2, 1) := by decide +kernel
theorem dX11_road_6 : decode cX11_road 6 = .ok (.iload_n 3, 1) := by decide +kernel
theorem dX11_road_7 : decode cX11_road 7 = .ok (.invokevirtual 84, 3) := by decide +kernel
theorem dX11_road_10 : decode cX11_road 10 = .ok (.ireturn, 1) := by decide +kernel
theorem dX11_kin_0 : decode cX11_kin 0 = .ok (.iload_n 1, 1) := by decide +kernel
theorem dX11_kin_1 : decode cX11_kin 1 = .ok (.iconst 0, 1) := by decide +kernel
theorem dX11_kin_2 : decode cX11_kin 2 = .ok (.aload_n 0, 1) := by decide +kernel
theorem dX11_kin_3 : decode cX11_kin 3 = .ok (.getfield 10, 3) := by decide +kernel
theorem dX11_kin_6 : decode cX11_kin 6 = .ok (.getfield 87, 3) := by decide +kernel
theorem dX11_kin_9 : decode cX11_kin 9 = .ok (.iconst 1, 1) := by decide +kernel
theorem dX11_kin_10 : decode cX11_kin 10 = .ok (.isub, 1) := by decide +kernel
theorem dX11_kin_11 : decode cX11_kin 11 = .ok (.invokestatic 72, 3) := by decide +kernel
theorem dX11_kin_14 : decode cX11_kin 14 = .ok (.ifCond .eq 20, 3) := by decide +kernel
theorem dX11_kin_17 : decode cX11_kin 17 = .ok (.iload_n 2, 1) := by decide +kernel
theorem dX11_kin_18 : decode cX11_kin 18 = .ok (.iconst 0, 1) := by decide +kernel
theorem dX11_kin_19 : decode cX11_kin 19 = .ok (.aload_n 0, 1) := by decide +kernel
theorem dX11_kin_20 : decode cX11_kin 20 = .ok (.getfield 10, 3) := by decide +kernel
theorem dX11_kin_23 : decode cX11_kin 23 = .ok (.getfield 87, 3) := by decide +kernel
theorem dX11_kin_26 : decode cX11_kin 26 = .ok (.iconst 1, 1) := by decide +kernel
theorem dX11_kin_27 : decode cX11_kin 27 = .ok (.isub, 1) := by decide +kernel
theorem dX11_kin_28 : decode cX11_kin 28 = .ok (.invokestatic 72, 3) := by decide +kernel
theorem dX11_kin_31 : decode cX11_kin 31 = .ok (.ifCond .ne 6, 3) := by decide +kernel
theorem dX11_kin_34 : decode cX11_kin 34 = .ok (.bipush (-2), 2) := by decide +kernel
theorem dX11_kin_36 : decode cX11_kin 36 = .ok (.ireturn, 1) := by decide +kernel
theorem dX11_kin_37 : decode cX11_kin 37 = .ok (.aload_n 0, 1) := by decide +kernel
theorem dX11_kin_38 : decode cX11_kin 38 = .ok (.getfield 10, 3) := by decide +kernel
theorem dX11_kin_41 : decode cX11_kin 41 = .ok (.iload_n 1, 1) := by decide +kernel
theorem dX11_kin_42 : decode cX11_kin 42 = .ok (.iload_n 2, 1) := by decide +kernel
theorem dX11_kin_43 : decode cX11_kin 43 = .ok (.invokevirtual 91, 3) := by decide +kernel
theorem dX11_kin_46 : decode cX11_kin 46 = .ok (.ireturn, 1) := by decide +kernel
theorem dX11_way_0 : decode cX11_way 0 = .ok (.iload_n 1, 1) := by decide +kernel
theorem dX11_way_1 : decode cX11_way 1 = .ok (.iconst 0, 1) := by decide +kernel
theorem dX11_way_2 : decode cX11_way 2 = .ok (.iconst 5, 1) := by decide +kernel
theorem dX11_way_3 : decode cX11_way 3 = .ok (.invokestatic 72, 3) := by decide +kernel
theorem dX11_way_6 : decode cX11_way 6 = .ok (.ifCond .eq 12, 3) := by decide +kernel
theorem dX11_way_9 : decode cX11_way 9 = .ok (.iload_n 2, 1) := by decide +kernel
theorem dX11_way_10 : decode cX11_way 10 = .ok (.iconst 0, 1) := by decide +kernel
theorem dX11_way_11 : decode cX11_way 11 = .ok (.iconst 5, 1) := by decide +kernel
theorem dX11_way_12 : decode cX11_way 12 = .ok (.invokestatic 72, 3) := by decide +kernel
theorem dX11_way_15 : decode cX11_way 15 = .ok (.ifCond .ne 6, 3) := by decide +kernel
theorem dX11_way_18 : decode cX11_way 18 = .ok (.bipush (-2), 2) := by decide +kernel
theorem dX11_way_20 : decode cX11_way 20 = .ok (.ireturn, 1) := by decide +kernel
theorem dX11_way_21 : decode cX11_way 21 = .ok (.aload_n 0, 1) := by decide +kernel
theorem dX11_way_22 : decode cX11_way 22 = .ok (.getfield 10, 3) := by decide +kernel
theorem dX11_way_25 : decode cX11_way 25 = .ok (.iload_n 1, 1) := by decide +kernel
theorem dX11_way_26 : decode cX11_way 26 = .ok (.iload_n 2, 1) := by decide +kernel
theorem dX11_way_27 : decode cX11_way 27 = .ok (.invokevirtual 95, 3) := by decide +kernel
theorem dX11_way_30 : decode cX11_way 30 = .ok (.ireturn, 1) := by decide +kernel
theorem dX11_feed_0 : decode cX11_feed 0 = .ok (.aload_n 0, 1) := by decide +kernel
theorem dX11_feed_1 : decode cX11_feed 1 = .ok (.getfield 19, 3) := by decide +kernel
theorem dX11_feed_4 : decode cX11_feed 4 = .ok (.getfield 98, 3) := by decide +kernel
theorem dX11_feed_7 : decode cX11_feed 7 = .ok (.getfield 102, 3) := by decide +kernel
theorem dX11_feed_10 : decode cX11_feed 10 = .ok (.bipush 20, 2) := by decide +kernel
theorem dX11_feed_12 : decode cX11_feed 12 = .ok (.iadd, 1) := by decide +kernel
theorem dX11_feed_13 : decode cX11_feed 13 = .ok (.sipush 300, 3) := by decide +kernel
theorem dX11_feed_16 : decode cX11_feed 16 = .ok (.if_icmp .le 5, 3) := by decide +kernel
theorem dX11_feed_19 : decode cX11_feed 19 = .ok (.iconst (-1), 1) := by decide +kernel
theorem dX11_feed_20 : decode cX11_feed 20 = .ok (.ireturn, 1) := by decide +kernel
theorem dX11_feed_21 : decode cX11_feed 21 = .ok (.aload_n 0, 1) := by decide +kernel
theorem dX11_feed_22 : decode cX11_feed 22 = .ok (.getfield 19, 3) := by decide +kernel
theorem dX11_feed_25 : decode cX11_feed 25 = .ok (.getfield 98, 3) := by decide +kernel
theorem dX11_feed_28 : decode cX11_feed 28 = .ok (.iload_n 1, 1) := by decide +kernel
theorem dX11_feed_29 : decode cX11_feed 29 = .ok (.invokevirtual 107, 3) := by decide +kernel
theorem dX11_feed_32 : decode cX11_feed 32 = .ok (.aload_n 0, 1) := by decide +kernel
theorem dX11_feed_33 : decode cX11_feed 33 = .ok (.getfield 19, 3) := by decide +kernel
theorem dX11_feed_36 : decode cX11_feed 36 = .ok (.getfield 98, 3) := by decide +kernel
theorem dX11_feed_39 : decode cX11_feed 39 = .ok (.iload_n 2, 1) := by decide +kernel
theorem dX11_feed_40 : decode cX11_feed 40 = .ok (.invokevirtual 107, 3) := by decide +kernel
theorem dX11_feed_43 : decode cX11_feed 43 = .ok (.aload_n 0, 1) := by decide +kernel
theorem dX11_feed_44 : decode cX11_feed 44 = .ok (.getfield 19, 3) := by decide +kernel
theorem dX11_feed_47 : decode cX11_feed 47 = .ok (.getfield 98, 3) := by decide +kernel
theorem dX11_feed_50 : decode cX11_feed 50 = .ok (.iload_n 3, 1) := by decide +kernel
theorem dX11_feed_51 : decode cX11_feed 51 = .ok (.invokevirtual 107, 3) := by decide +kernel
theorem dX11_feed_54 : decode cX11_feed 54 = .ok (.aload_n 0, 1) := by decide +kernel
theorem dX11_feed_55 : decode cX11_feed 55 = .ok (.getfield 19, 3) := by decide +kernel
theorem dX11_feed_58 : decode cX11_feed 58 = .ok (.getfield 98, 3) := by decide +kernel
theorem dX11_feed_61 : decode cX11_feed 61 = .ok (.iload 4, 2) := by decide +kernel
theorem dX11_feed_63 : decode cX11_feed 63 = .ok (.invokevirtual 107, 3) := by decide +kernel
theorem dX11_feed_66 : decode cX11_feed 66 = .ok (.aload_n 0, 1) := by decide +kernel
theorem dX11_feed_67 : decode cX11_feed 67 = .ok (.getfield 19, 3) := by decide +kernel
theorem dX11_feed_70 : decode cX11_feed 70 = .ok (.getfield 98, 3) := by decide +kernel
theorem dX11_feed_73 : decode cX11_feed 73 = .ok (.iload 5, 2) := by decide +kernel
theorem dX11_feed_75 : decode cX11_feed 75 = .ok (.invokevirtual 107, 3) := by decide +kernel
theorem dX11_feed_78 : decode cX11_feed 78 = .ok (.aload_n 0, 1) := by decide +kernel
theorem dX11_feed_79 : decode cX11_feed 79 = .ok (.getfield 19, 3) := by decide +kernel
theorem dX11_feed_82 : decode cX11_feed 82 = .ok (.getfield 98, 3) := by decide +kernel
theorem dX11_feed_85 : decode cX11_feed 85 = .ok (.getfield 102, 3) := by decide +kernel
theorem dX11_feed_88 : decode cX11_feed 88 = .ok (.ireturn, 1) := by decide +kernel
theorem dX11_end_0 : decode cX11_end 0 = .ok (.iload_n 1, 1) := by decide +kernel
theorem dX11_end_1 : decode cX11_end 1 = .ok (.iconst 0, 1) := by decide +kernel
theorem dX11_end_2 : decode cX11_end 2 = .ok (.aload_n 0, 1) := by decide +kernel
theorem dX11_end_3 : decode cX11_end 3 = .ok (.getfield 19, 3) := by decide +kernel
theorem dX11_end_6 : decode cX11_end 6 = .ok (.getfield 98, 3) := by decide +kernel
theorem dX11_end_9 : decode cX11_end 9 = .ok (.getfield 102, 3) := by decide +kernel
theorem dX11_end_12 : decode cX11_end 12 = .ok (.invokestatic 72, 3) := by decide +kernel
theorem dX11_end_15 : decode cX11_end 15 = .ok (.ifCond .ne 5, 3) := by decide +kernel
theorem dX11_end_18 : decode cX11_end 18 = .ok (.iconst (-1), 1) := by decide +kernel
theorem dX11_end_19 : decode cX11_end 19 = .ok (.ireturn, 1) := by decide +kernel
theorem dX11_end_20 : decode cX11_end 20 = .ok (.aload_n 0, 1) := by decide +kernel
theorem dX11_end_21 : decode cX11_end 21 = .ok (.getfield 19, 3) := by decide +kernel
theorem dX11_end_24 : decode cX11_end 24 = .ok (.getfield 98, 3) := by decide +kernel
theorem dX11_end_27 : decode cX11_end 27 = .ok (.iload_n 1, 1) := by decide +kernel
theorem dX11_end_28 : decode cX11_end 28 = .ok (.putfield 102, 3) := by decide +kernel
theorem dX11_end_31 : decode cX11_end 31 = .ok (.iload_n 1, 1) := by decide +kernel
theorem dX11_end_32 : decode cX11_end 32 = .ok (.ireturn, 1) := by decide +kernel
theorem dX11_text_0 : decode cX11_text 0 = .ok (.aload_n 0, 1) := by decide +kernel
theorem dX11_text_1 : decode cX11_text 1 = .ok (.getfield 111, 3) := by decide +kernel
theorem dX11_text_4 : decode cX11_text 4 = .ok (.iconst 4, 1) := by decide +kernel
theorem dX11_text_5 : decode cX11_text 5 = .ok (.if_icmp .lt 5, 3) := by decide +kernel
theorem dX11_text_8 : decode cX11_text 8 = .ok (.iconst (-1), 1) := by decide +kernel
theorem dX11_text_9 : decode cX11_text 9 = .ok (.ireturn, 1) := by decide +kernel
theorem dX11_text_10 : decode cX11_text 10 = .ok (.aload_n 0, 1) := by decide +kernel
theorem dX11_text_11 : decode cX11_text 11 = .ok (.getfield 19, 3) := by decide +kernel
theorem dX11_text_14 : decode cX11_text 14 = .ok (.aload_n 0, 1) := by decide +kernel
theorem dX11_text_15 : decode cX11_text 15 = .ok (.getfield 25, 3) := by decide +kernel
theorem dX11_text_18 : decode cX11_text 18 = .ok (.aload_n 0, 1) := by decide +kernel
theorem dX11_text_19 : decode cX11_text 19 = .ok (.getfield 111, 3) := by decide +kernel
theorem dX11_text_22 : decode cX11_text 22 = .ok (.aaload, 1) := by decide +kernel
theorem dX11_text_23 : decode cX11_text 23 = .ok (.invokevirtual 114, 3) := by decide +kernel
theorem dX11_text_26 : decode cX11_text 26 = .ok (.istore_n 1, 1) := by decide +kernel
theorem dX11_text_27 : decode cX11_text 27 = .ok (.aload_n 0, 1) := by decide +kernel
theorem dX11_text_28 : decode cX11_text 28 = .ok (.getfield 19, 3) := by decide +kernel
theorem dX11_text_31 : decode cX11_text 31 = .ok (.getfield 98, 3) := by decide +kernel
theorem dX11_text_34 : decode cX11_text 34 = .ok (.iconst 0, 1) := by decide +kernel
theorem dX11_text_35 : decode cX11_text 35 = .ok (.putfield 102, 3) := by decide +kernel
theorem dX11_text_38 : decode cX11_text 38 = .ok (.iload_n 1, 1) := by decide +kernel
theorem dX11_text_39 : decode cX11_text 39 = .ok (.ifCond .ne 5, 3) := by decide +kernel
theorem dX11_text_42 : decode cX11_text 42 = .ok (.iconst (-1), 1) := by decide +kernel
theorem dX11_text_43 : decode cX11_text 43 = .ok (.ireturn, 1) := by decide +kernel
theorem dX11_text_44 : decode cX11_text 44 = .ok (.aload_n 0, 1) := by decide +kernel
theorem dX11_text_45 : decode cX11_text 45 = .ok (.dup, 1) := by decide +kernel
theorem dX11_text_46 : decode cX11_text 46 = .ok (.getfield 111, 3) := by decide +kernel
theorem dX11_text_49 : decode cX11_text 49 = .ok (.iconst 1, 1) := by decide +kernel
theorem dX11_text_50 : decode cX11_text 50 = .ok (.iadd, 1) := by decide +kernel
theorem dX11_text_51 : decode cX11_text 51 = .ok (.putfield 111, 3) := by decide +kernel
theorem dX11_text_54 : decode cX11_text 54 = .ok (.aload_n 0, 1) := by decide +kernel
theorem dX11_text_55 : decode cX11_text 55 = .ok (.getfield 111, 3) := by decide +kernel
theorem dX11_text_58 : decode cX11_text 58 = .ok (.iconst 1, 1) := by decide +kernel
theorem dX11_text_59 : decode cX11_text 59 = .ok (.isub, 1) := by decide +kernel
theorem dX11_text_60 : decode cX11_text 60 = .ok (.ireturn, 1) := by decide +kernel
theorem dX11_fault_0 : decode cX11_fault 0 = .ok (.aload_n 0, 1) := by decide +kernel
theorem dX11_fault_1 : decode cX11_fault 1 = .ok (.getfield 19, 3) := by decide +kernel
theorem dX11_fault_4 : decode cX11_fault 4 = .ok (.getfield 118, 3) := by decide +kernel
theorem dX11_fault_7 : decode cX11_fault 7 = .ok (.ifCond .ne 5, 3) := by decide +kernel
theorem dX11_fault_10 : decode cX11_fault 10 = .ok (.iconst (-1), 1) := by decide +kernel
theorem dX11_fault_11 : decode cX11_fault 11 = .ok (.ireturn, 1) := by decide +kernel
theorem dX11_fault_12 : decode cX11_fault 12 = .ok (.iload_n 1, 1) := by decide +kernel
theorem dX11_fault_13 : decode cX11_fault 13 = .ok (.ifCond .ne 11, 3) := by decide +kernel
theorem dX11_fault_16 : decode cX11_fault 16 = .ok (.aload_n 0, 1) := by decide +kernel
theorem dX11_fault_17 : decode cX11_fault 17 = .ok (.getfield 19, 3) := by decide +kernel
theorem dX11_fault_20 : decode cX11_fault 20 = .ok (.getfield 122, 3) := by decide +kernel
theorem dX11_fault_23 : decode cX11_fault 23 = .ok (.ireturn, 1) := by decide +kernel
theorem dX11_fault_24 : decode cX11_fault 24 = .ok (.iload_n 1, 1) := by decide +kernel
theorem dX11_fault_25 : decode cX11_fault 25 = .ok (.iconst 1, 1) := by decide +kernel
theorem dX11_fault_26 : decode cX11_fault 26 = .ok (.if_icmp .ne 23, 3) := by decide +kernel
theorem dX11_fault_29 : decode cX11_fault 29 = .ok (.aload_n 0, 1) := by decide +kernel
theorem dX11_fault_30 : decode cX11_fault 30 = .ok (.getfield 19, 3) := by decide +kernel
theorem dX11_fault_33 : decode cX11_fault 33 = .ok (.getfield 122, 3) := by decide +kernel
theorem dX11_fault_36 : decode cX11_fault 36 = .ok (.ifCond .eq 13, 3) := by decide +kernel
theorem dX11_fault_39 : decode cX11_fault 39 = .ok (.aload_n 0, 1) := by decide +kernel
theorem dX11_fault_40 : decode cX11_fault 40 = .ok (.getfield 19, 3) := by decide +kernel
theorem dX11_fault_43 : decode cX11_fault 43 = .ok (.getfield 125, 3) := by decide +kernel
theorem dX11_fault_46 : decode cX11_fault 46 = .ok (.goto 4, 3) := by decide +kernel
theorem dX11_fault_49 : decode cX11_fault 49 = .ok (.iconst (-1), 1) := by decide +kernel
theorem dX11_fault_50 : decode cX11_fault 50 = .ok (.ireturn, 1) := by decide +kernel
theorem dX11_played_0 : decode cX11_played 0 = .ok (.iload_n 1, 1) := by decide +kernel
theorem dX11_played_1 : decode cX11_played 1 = .ok (.iconst 0, 1) := by decide +kernel
theorem dX11_played_2 : decode cX11_played 2 = .ok (.aload_n 0, 1) := by decide +kernel
theorem dX11_played_3 : decode cX11_played 3 = .ok (.getfield 111, 3) := by decide +kernel
theorem dX11_played_6 : decode cX11_played 6 = .ok (.iconst 1, 1) := by decide +kernel
theorem dX11_played_7 : decode cX11_played 7 = .ok (.isub, 1) := by decide +kernel
theorem dX11_played_8 : decode cX11_played 8 = .ok (.invokestatic 72, 3) := by decide +kernel
theorem dX11_played_11 : decode cX11_played 11 = .ok (.ifCond .ne 6, 3) := by decide +kernel
theorem dX11_played_14 : decode cX11_played 14 = .ok (.bipush (-2), 2) := by decide +kernel
theorem dX11_played_16 : decode cX11_played 16 = .ok (.ireturn, 1) := by decide +kernel
theorem dX11_played_17 : decode cX11_played 17 = .ok (.aload_n 0, 1) := by decide +kernel
theorem dX11_played_18 : decode cX11_played 18 = .ok (.getfield 25, 3) := by decide +kernel
theorem dX11_played_21 : decode cX11_played 21 = .ok (.iload_n 1, 1) := by decide +kernel
theorem dX11_played_22 : decode cX11_played 22 = .ok (.aaload, 1) := by decide +kernel
theorem dX11_played_23 : decode cX11_played 23 = .ok (.astore_n 2, 1) := by decide +kernel
theorem dX11_played_24 : decode cX11_played 24 = .ok (.aload_n 2, 1) := by decide +kernel
theorem dX11_played_25 : decode cX11_played 25 = .ok (.ifnonnull 6, 3) := by decide +kernel
theorem dX11_played_28 : decode cX11_played 28 = .ok (.bipush (-2), 2) := by decide +kernel
theorem dX11_played_30 : decode cX11_played 30 = .ok (.ireturn, 1) := by decide +kernel
theorem dX11_played_31 : decode cX11_played 31 = .ok (.iconst 0, 1) := by decide +kernel
theorem dX11_played_32 : decode cX11_played 32 = .ok (.istore_n 3, 1) := by decide +kernel
theorem dX11_played_33 : decode cX11_played 33 = .ok (.iload_n 3, 1) := by decide +kernel
theorem dX11_played_34 : decode cX11_played 34 = .ok (.aload_n 2, 1) := by decide +kernel
theorem dX11_played_35 : decode cX11_played 35 = .ok (.getfield 128, 3) := by decide +kernel
theorem dX11_played_38 : decode cX11_played 38 = .ok (.if_icmp .ge 44, 3) := by decide +kernel
theorem dX11_played_41 : decode cX11_played 41 = .ok (.aload_n 2, 1) := by decide +kernel
theorem dX11_played_42 : decode cX11_played 42 = .ok (.iload_n 3, 1) := by decide +kernel
theorem dX11_played_43 : decode cX11_played 43 = .ok (.invokevirtual 131, 3) := by decide +kernel
theorem dX11_played_46 : decode cX11_played 46 = .ok (.bipush 27, 2) := by decide +kernel
theorem dX11_played_48 : decode cX11_played 48 = .ok (.if_icmp .eq 13, 3) := by decide +kernel
theorem dX11_played_51 : decode cX11_played 51 = .ok (.aload_n 2, 1) := by decide +kernel
theorem dX11_played_52 : decode cX11_played 52 = .ok (.iload_n 3, 1) := by decide +kernel
theorem dX11_played_53 : decode cX11_played 53 = .ok (.invokevirtual 131, 3) := by decide +kernel
theorem dX11_played_56 : decode cX11_played 56 = .ok (.bipush 28, 2) := by decide +kernel
theorem dX11_played_58 : decode cX11_played 58 = .ok (.if_icmp .ne 7, 3) := by decide +kernel
theorem dX11_played_61 : decode cX11_played 61 = .ok (.aload_n 0, 1) := by decide +kernel
theorem dX11_played_62 : decode cX11_played 62 = .ok (.invokevirtual 135, 3) := by decide +kernel
theorem dX11_played_65 : decode cX11_played 65 = .ok (.aload_n 0, 1) := by decide +kernel
theorem dX11_played_66 : decode cX11_played 66 = .ok (.aload_n 2, 1) := by decide +kernel
theorem dX11_played_67 : decode cX11_played 67 = .ok (.iload_n 3, 1) := by decide +kernel
theorem dX11_played_68 : decode cX11_played 68 = .ok (.invokevirtual 138, 3) := by decide +kernel
theorem dX11_played_71 : decode cX11_played 71 = .ok (.ifCond .ne 5, 3) := by decide +kernel
theorem dX11_played_74 : decode cX11_played 74 = .ok (.iload_n 3, 1) := by decide +kernel
theorem dX11_played_75 : decode cX11_played 75 = .ok (.ireturn, 1) := by decide +kernel
theorem dX11_played_76 : decode cX11_played 76 = .ok (.iinc 3 1, 3) := by decide +kernel
theorem dX11_played_79 : decode cX11_played 79 = .ok (.goto (-46), 3) := by decide +kernel
theorem dX11_played_82 : decode cX11_played 82 = .ok (.iconst (-1), 1) := by decide +kernel
theorem dX11_played_83 : decode cX11_played 83 = .ok (.ireturn, 1) := by decide +kernel
theorem dX11_perform_0 : decode cX11_perform 0 = .ok (.aload_n 1, 1) := by decide +kernel
theorem dX11_perform_1 : decode cX11_perform 1 = .ok (.iload_n 2, 1) := by decide +kernel
theorem dX11_perform_2 : decode cX11_perform 2 = .ok (.iconst 0, 1) := by decide +kernel
theorem dX11_perform_3 : decode cX11_perform 3 = .ok (.invokevirtual 142, 3) := by decide +kernel
theorem dX11_perform_6 : decode cX11_perform 6 = .ok (.istore_n 3, 1) := by decide +kernel
theorem dX11_perform_7 : decode cX11_perform 7 = .ok (.aload_n 1, 1) := by decide +kernel
theorem dX11_perform_8 : decode cX11_perform 8 = .ok (.iload_n 2, 1) := by decide +kernel
theorem dX11_perform_9 : decode cX11_perform 9 = .ok (.iconst 1, 1) := by decide +kernel
theorem dX11_perform_10 : decode cX11_perform 10 = .ok (.invokevirtual 142, 3) := by decide +kernel
theorem dX11_perform_13 : decode cX11_perform 13 = .ok (.istore 4, 2) := by decide +kernel
theorem dX11_perform_15 : decode cX11_perform 15 = .ok (.aload_n 1, 1) := by decide +kernel
theorem dX11_perform_16 : decode cX11_perform 16 = .ok (.iload_n 2, 1) := by decide +kernel
theorem dX11_perform_17 : decode cX11_perform 17 = .ok (.iconst 2, 1) := by decide +kernel
theorem dX11_perform_18 : decode cX11_perform 18 = .ok (.invokevirtual 142, 3) := by decide +kernel
theorem dX11_perform_21 : decode cX11_perform 21 = .ok (.istore 5, 2) := by decide +kernel
theorem dX11_perform_23 : decode cX11_perform 23 = .ok (.aload_n 1, 1) := by decide +kernel
theorem dX11_perform_24 : decode cX11_perform 24 = .ok (.iload_n 2, 1) := by decide +kernel
theorem dX11_perform_25 : decode cX11_perform 25 = .ok (.invokevirtual 131, 3) := by decide +kernel
theorem dX11_perform_28 : decode cX11_perform 28 = .ok (.tableswitch 155 20 27 #[48, 58, 66, 85, 95, 101, 132, 138], 48) := by decide +kernel
theorem dX11_perform_76 : decode cX11_perform 76 = .ok (.aload_n 0, 1) := by decide +kernel
theorem dX11_perform_77 : decode cX11_perform 77 = .ok (.getfield 32, 3) := by decide +kernel
theorem dX11_perform_80 : decode cX11_perform 80 = .ok (.aload_n 1, 1) := by decide +kernel
theorem dX11_perform_81 : decode cX11_perform 81 = .ok (.iload_n 2, 1) := by decide +kernel
theorem dX11_perform_82 : decode cX11_perform 82 = .ok (.invokevirtual 145, 3) := by decide +kernel
theorem dX11_perform_85 : decode cX11_perform 85 = .ok (.ireturn, 1) := by decide +kernel
theorem dX11_perform_86 : decode cX11_perform 86 = .ok (.aload_n 0, 1) := by decide +kernel
theorem dX11_perform_87 : decode cX11_perform 87 = .ok (.iload_n 3, 1) := by decide +kernel
theorem dX11_perform_88 : decode cX11_perform 88 = .ok (.iload 4, 2) := by decide +kernel
theorem dX11_perform_90 : decode cX11_perform 90 = .ok (.invokevirtual 148, 3) := by decide +kernel
theorem dX11_perform_93 : decode cX11_perform 93 = .ok (.ireturn, 1) := by decide +kernel
theorem dX11_perform_94 : decode cX11_perform 94 = .ok (.aload_n 0, 1) := by decide +kernel
theorem dX11_perform_95 : decode cX11_perform 95 = .ok (.iload_n 3, 1) := by decide +kernel
theorem dX11_perform_96 : decode cX11_perform 96 = .ok (.iload 4, 2) := by decide +kernel
theorem dX11_perform_98 : decode cX11_perform 98 = .ok (.iload 5, 2) := by decide +kernel
theorem dX11_perform_100 : decode cX11_perform 100 = .ok (.invokevirtual 152, 3) := by decide +kernel
theorem dX11_perform_103 : decode cX11_perform 103 = .ok (.iconst (-1), 1) := by decide +kernel
theorem dX11_perform_104 : decode cX11_perform 104 = .ok (.if_icmp .eq 7, 3) := by decide +kernel
theorem dX11_perform_107 : decode cX11_perform 107 = .ok (.iconst 1, 1) := by decide +kernel
theorem dX11_perform_108 : decode cX11_perform 108 = .ok (.goto 4, 3) := by decide +kernel
theorem dX11_perform_111 : decode cX11_perform 111 = .ok (.iconst 0, 1) := by decide +kernel
theorem dX11_perform_112 : decode cX11_perform 112 = .ok (.ireturn, 1) := by decide +kernel
theorem dX11_perform_113 : decode cX11_perform 113 = .ok (.aload_n 0, 1) := by decide +kernel
theorem dX11_perform_114 : decode cX11_perform 114 = .ok (.iload_n 3, 1) := by decide +kernel
theorem dX11_perform_115 : decode cX11_perform 115 = .ok (.iload 4, 2) := by decide +kernel
theorem dX11_perform_117 : decode cX11_perform 117 = .ok (.iload 5, 2) := by decide +kernel
theorem dX11_perform_119 : decode cX11_perform 119 = .ok (.invokevirtual 155, 3) := by decide +kernel
theorem dX11_perform_122 : decode cX11_perform 122 = .ok (.ireturn, 1) := by decide +kernel
theorem dX11_perform_123 : decode cX11_perform 123 = .ok (.aload_n 0, 1) := by decide +kernel
theorem dX11_perform_124 : decode cX11_perform 124 = .ok (.iload_n 3, 1) := by decide +kernel
theorem dX11_perform_125 : decode cX11_perform 125 = .ok (.invokevirtual 158, 3) := by decide +kernel
theorem dX11_perform_128 : decode cX11_perform 128 = .ok (.ireturn, 1) := by decide +kernel
theorem dX11_perform_129 : decode cX11_perform 129 = .ok (.aload_n 0, 1) := by decide +kernel
theorem dX11_perform_130 : decode cX11_perform 130 = .ok (.iload_n 3, 1) := by decide +kernel
theorem dX11_perform_131 : decode cX11_perform 131 = .ok (.iload 4, 2) := by decide +kernel
theorem dX11_perform_133 : decode cX11_perform 133 = .ok (.iload 5, 2) := by decide +kernel
theorem dX11_perform_135 : decode cX11_perform 135 = .ok (.aload_n 1, 1) := by decide +kernel
theorem dX11_perform_136 : decode cX11_perform 136 = .ok (.iload_n 2, 1) := by decide +kernel
theorem dX11_perform_137 : decode cX11_perform 137 = .ok (.iconst 3, 1) := by decide +kernel
theorem dX11_perform_138 : decode cX11_perform 138 = .ok (.invokevirtual 142, 3) := by decide +kernel
theorem dX11_perform_141 : decode cX11_perform 141 = .ok (.aload_n 1, 1) := by decide +kernel
theorem dX11_perform_142 : decode cX11_perform 142 = .ok (.iload_n 2, 1) := by decide +kernel
theorem dX11_perform_143 : decode cX11_perform 143 = .ok (.iconst 4, 1) := by decide +kernel
theorem dX11_perform_144 : decode cX11_perform 144 = .ok (.invokevirtual 142, 3) := by decide +kernel
theorem dX11_perform_147 : decode cX11_perform 147 = .ok (.invokevirtual 162, 3) := by decide +kernel
theorem dX11_perform_150 : decode cX11_perform 150 = .ok (.iconst (-1), 1) := by decide +kernel
theorem dX11_perform_151 : decode cX11_perform 151 = .ok (.if_icmp .eq 7, 3) := by decide +kernel
theorem dX11_perform_154 : decode cX11_perform 154 = .ok (.iconst 1, 1) := by decide +kernel
theorem dX11_perform_155 : decode cX11_perform 155 = .ok (.goto 4, 3) := by decide +kernel
theorem dX11_perform_158 : decode cX11_perform 158 = .ok (.iconst 0, 1) := by decide +kernel
theorem dX11_perform_159 : decode cX11_perform 159 = .ok (.ireturn, 1) := by decide +kernel
theorem dX11_perform_160 : decode cX11_perform 160 = .ok (.aload_n 0, 1) := by decide +kernel
theorem dX11_perform_161 : decode cX11_perform 161 = .ok (.iload_n 3, 1) := by decide +kernel
theorem dX11_perform_162 : decode cX11_perform 162 = .ok (.invokevirtual 166, 3) := by decide +kernel
theorem dX11_perform_165 : decode cX11_perform 165 = .ok (.ireturn, 1) := by decide +kernel
theorem dX11_perform_166 : decode cX11_perform 166 = .ok (.aload_n 0, 1) := by decide +kernel
theorem dX11_perform_167 : decode cX11_perform 167 = .ok (.iload_n 3, 1) := by decide +kernel
theorem dX11_perform_168 : decode cX11_perform 168 = .ok (.iload 4, 2) := by decide +kernel
theorem dX11_perform_170 : decode cX11_perform 170 = .ok (.invokevirtual 169, 3) := by decide +kernel
theorem dX11_perform_173 : decode cX11_perform 173 = .ok (.iconst (-1), 1) := by decide +kernel
theorem dX11_perform_174 : decode cX11_perform 174 = .ok (.if_icmp .eq 7, 3) := by decide +kernel
theorem dX11_perform_177 : decode cX11_perform 177 = .ok (.iconst 1, 1) := by decide +kernel
theorem dX11_perform_178 : decode cX11_perform 178 = .ok (.goto 4, 3) := by decide +kernel
theorem dX11_perform_181 : decode cX11_perform 181 = .ok (.iconst 0, 1) := by decide +kernel
theorem dX11_perform_182 : decode cX11_perform 182 = .ok (.ireturn, 1) := by decide +kernel
theorem dX11_perform_183 : decode cX11_perform 183 = .ok (.aload_n 0, 1) := by decide +kernel
theorem dX11_perform_184 : decode cX11_perform 184 = .ok (.getfield 39, 3) := by decide +kernel
theorem dX11_perform_187 : decode cX11_perform 187 = .ok (.iconst (-1), 1) := by decide +kernel
theorem dX11_perform_188 : decode cX11_perform 188 = .ok (.aload_n 0, 1) := by decide +kernel
theorem dX11_perform_189 : decode cX11_perform 189 = .ok (.getfield 32, 3) := by decide +kernel
theorem dX11_perform_192 : decode cX11_perform 192 = .ok (.invokevirtual 172, 3) := by decide +kernel
theorem dX11_perform_195 : decode cX11_perform 195 = .ok (.ifCond .lt 7, 3) := by decide +kernel
theorem dX11_perform_198 : decode cX11_perform 198 = .ok (.iconst 1, 1) := by decide +kernel
theorem dX11_perform_199 : decode cX11_perform 199 = .ok (.goto 4, 3) := by decide +kernel
theorem dX11_perform_202 : decode cX11_perform 202 = .ok (.iconst 0, 1) := by decide +kernel
theorem dX11_perform_203 : decode cX11_perform 203 = .ok (.ireturn, 1) := by decide +kernel
theorem dX11_equalities_0 : decode cX11_equalities 0 = .ok (.iload_n 1, 1) := by decide +kernel
theorem dX11_equalities_1 : decode cX11_equalities 1 = .ok (.iconst 0, 1) := by decide +kernel
theorem dX11_equalities_2 : decode cX11_equalities 2 = .ok (.sipush 255, 3) := by decide +kernel
theorem dX11_equalities_5 : decode cX11_equalities 5 = .ok (.invokestatic 72, 3) := by decide +kernel
theorem dX11_equalities_8 : decode cX11_equalities 8 = .ok (.ifCond .ne 5, 3) := by decide +kernel
theorem dX11_equalities_11 : decode cX11_equalities 11 = .ok (.iconst 0, 1) := by decide +kernel
theorem dX11_equalities_12 : decode cX11_equalities 12 = .ok (.ireturn, 1) := by decide +kernel
theorem dX11_equalities_13 : decode cX11_equalities 13 = .ok (.aload_n 0, 1) := by decide +kernel
theorem dX11_equalities_14 : decode cX11_equalities 14 = .ok (.getfield 32, 3) := by decide +kernel
theorem dX11_equalities_17 : decode cX11_equalities 17 = .ok (.iload_n 1, 1) := by decide +kernel
theorem dX11_equalities_18 : decode cX11_equalities 18 = .ok (.invokevirtual 176, 3) := by decide +kernel
theorem dX11_equalities_21 : decode cX11_equalities 21 = .ok (.iconst 1, 1) := by decide +kernel
theorem dX11_equalities_22 : decode cX11_equalities 22 = .ok (.ireturn, 1) := by decide +kernel
theorem dX11_of_0 : decode cX11_of 0 = .ok (.aload_n 0, 1) := by decide +kernel
theorem dX11_of_1 : decode cX11_of 1 = .ok (.iload_n 1, 1) := by decide +kernel
theorem dX11_of_2 : decode cX11_of 2 = .ok (.invokevirtual 179, 3) := by decide +kernel
theorem dX11_of_5 : decode cX11_of 5 = .ok (.ifCond .ne 6, 3) := by decide +kernel
theorem dX11_of_8 : decode cX11_of 8 = .ok (.ldc 182, 2) := by decide +kernel
theorem dX11_of_10 : decode cX11_of 10 = .ok (.ireturn, 1) := by decide +kernel
theorem dX11_of_11 : decode cX11_of 11 = .ok (.iload_n 2, 1) := by decide +kernel
theorem dX11_of_12 : decode cX11_of 12 = .ok (.tableswitch 96 0 4 #[36, 56, 66, 76, 86], 36) := by decide +kernel
theorem dX11_of_48 : decode cX11_of 48 = .ok (.aload_n 0, 1) := by decide +kernel
theorem dX11_of_49 : decode cX11_of 49 = .ok (.getfield 32, 3) := by decide +kernel
theorem dX11_of_52 : decode cX11_of 52 = .ok (.iload_n 1, 1) := by decide +kernel
theorem dX11_of_53 : decode cX11_of 53 = .ok (.aload_n 0, 1) := by decide +kernel
theorem dX11_of_54 : decode cX11_of 54 = .ok (.getfield 10, 3) := by decide +kernel
theorem dX11_of_57 : decode cX11_of 57 = .ok (.aload_n 0, 1) := by decide +kernel
theorem dX11_of_58 : decode cX11_of 58 = .ok (.getfield 10, 3) := by decide +kernel
theorem dX11_of_61 : decode cX11_of 61 = .ok (.getfield 76, 3) := by decide +kernel
theorem dX11_of_64 : decode cX11_of 64 = .ok (.invokevirtual 183, 3) := by decide +kernel
theorem dX11_of_67 : decode cX11_of 67 = .ok (.ireturn, 1) := by decide +kernel
theorem dX11_of_68 : decode cX11_of 68 = .ok (.aload_n 0, 1) := by decide +kernel
theorem dX11_of_69 : decode cX11_of 69 = .ok (.getfield 32, 3) := by decide +kernel
theorem dX11_of_72 : decode cX11_of 72 = .ok (.getfield 187, 3) := by decide +kernel
theorem dX11_of_75 : decode cX11_of 75 = .ok (.iload_n 1, 1) := by decide +kernel
theorem dX11_of_76 : decode cX11_of 76 = .ok (.iaload, 1) := by decide +kernel
theorem dX11_of_77 : decode cX11_of 77 = .ok (.ireturn, 1) := by decide +kernel
theorem dX11_of_78 : decode cX11_of 78 = .ok (.aload_n 0, 1) := by decide +kernel
theorem dX11_of_79 : decode cX11_of 79 = .ok (.getfield 32, 3) := by decide +kernel
theorem dX11_of_82 : decode cX11_of 82 = .ok (.getfield 190, 3) := by decide +kernel
theorem dX11_of_85 : decode cX11_of 85 = .ok (.iload_n 1, 1) := by decide +kernel
theorem dX11_of_86 : decode cX11_of 86 = .ok (.iaload, 1) := by decide +kernel
theorem dX11_of_87 : decode cX11_of 87 = .ok (.ireturn, 1) := by decide +kernel
theorem dX11_of_88 : decode cX11_of 88 = .ok (.aload_n 0, 1) := by decide +kernel
theorem dX11_of_89 : decode cX11_of 89 = .ok (.getfield 32, 3) := by decide +kernel
theorem dX11_of_92 : decode cX11_of 92 = .ok (.getfield 193, 3) := by decide +kernel
theorem dX11_of_95 : decode cX11_of 95 = .ok (.iload_n 1, 1) := by decide +kernel
theorem dX11_of_96 : decode cX11_of 96 = .ok (.iaload, 1) := by decide +kernel
theorem dX11_of_97 : decode cX11_of 97 = .ok (.ireturn, 1) := by decide +kernel
theorem dX11_of_98 : decode cX11_of 98 = .ok (.aload_n 0, 1) := by decide +kernel
theorem dX11_of_99 : decode cX11_of 99 = .ok (.getfield 32, 3) := by decide +kernel
theorem dX11_of_102 : decode cX11_of 102 = .ok (.getfield 196, 3) := by decide +kernel
theorem dX11_of_105 : decode cX11_of 105 = .ok (.iload_n 1, 1) := by decide +kernel
theorem dX11_of_106 : decode cX11_of 106 = .ok (.iaload, 1) := by decide +kernel
theorem dX11_of_107 : decode cX11_of 107 = .ok (.ireturn, 1) := by decide +kernel
theorem dX11_of_108 : decode cX11_of 108 = .ok (.ldc 182, 2) := by decide +kernel
theorem dX11_of_110 : decode cX11_of 110 = .ok (.ireturn, 1) := by decide +kernel
theorem dX11_alike_0 : decode cX11_alike 0 = .ok (.aload_n 0, 1) := by decide +kernel
theorem dX11_alike_1 : decode cX11_alike 1 = .ok (.iload_n 1, 1) := by decide +kernel
theorem dX11_alike_2 : decode cX11_alike 2 = .ok (.invokevirtual 179, 3) := by decide +kernel
theorem dX11_alike_5 : decode cX11_alike 5 = .ok (.ifCond .eq 11, 3) := by decide +kernel
theorem dX11_alike_8 : decode cX11_alike 8 = .ok (.aload_n 0, 1) := by decide +kernel
theorem dX11_alike_9 : decode cX11_alike 9 = .ok (.iload_n 2, 1) := by decide +kernel
theorem dX11_alike_10 : decode cX11_alike 10 = .ok (.invokevirtual 179, 3) := by decide +kernel
theorem dX11_alike_13 : decode cX11_alike 13 = .ok (.ifCond .ne 5, 3) := by decide +kernel
theorem dX11_alike_16 : decode cX11_alike 16 = .ok (.iconst (-1), 1) := by decide +kernel
theorem dX11_alike_17 : decode cX11_alike 17 = .ok (.ireturn, 1) := by decide +kernel
theorem dX11_alike_18 : decode cX11_alike 18 = .ok (.aload_n 0, 1) := by decide +kernel
theorem dX11_alike_19 : decode cX11_alike 19 = .ok (.invokevirtual 135, 3) := by decide +kernel
theorem dX11_alike_22 : decode cX11_alike 22 = .ok (.aload_n 0, 1) := by decide +kernel
theorem dX11_alike_23 : decode cX11_alike 23 = .ok (.getfield 32, 3) := by decide +kernel
theorem dX11_alike_26 : decode cX11_alike 26 = .ok (.iload_n 1, 1) := by decide +kernel
theorem dX11_alike_27 : decode cX11_alike 27 = .ok (.iload_n 2, 1) := by decide +kernel
theorem dX11_alike_28 : decode cX11_alike 28 = .ok (.invokevirtual 199, 3) := by decide +kernel
theorem dX11_alike_31 : decode cX11_alike 31 = .ok (.ifCond .eq 7, 3) := by decide +kernel
theorem dX11_alike_34 : decode cX11_alike 34 = .ok (.iconst 1, 1) := by decide +kernel
theorem dX11_alike_35 : decode cX11_alike 35 = .ok (.goto 4, 3) := by decide +kernel
theorem dX11_alike_38 : decode cX11_alike 38 = .ok (.iconst 0, 1) := by decide +kernel
theorem dX11_alike_39 : decode cX11_alike 39 = .ok (.ireturn, 1) := by decide +kernel
theorem dX11_nearly_0 : decode cX11_nearly 0 = .ok (.aload_n 0, 1) := by decide +kernel
theorem dX11_nearly_1 : decode cX11_nearly 1 = .ok (.iload_n 1, 1) := by decide +kernel
theorem dX11_nearly_2 : decode cX11_nearly 2 = .ok (.invokevirtual 179, 3) := by decide +kernel
theorem dX11_nearly_5 : decode cX11_nearly 5 = .ok (.ifCond .eq 11, 3) := by decide +kernel
theorem dX11_nearly_8 : decode cX11_nearly 8 = .ok (.aload_n 0, 1) := by decide +kernel
theorem dX11_nearly_9 : decode cX11_nearly 9 = .ok (.iload_n 2, 1) := by decide +kernel
theorem dX11_nearly_10 : decode cX11_nearly 10 = .ok (.invokevirtual 179, 3) := by decide +kernel
theorem dX11_nearly_13 : decode cX11_nearly 13 = .ok (.ifCond .ne 5, 3) := by decide +kernel
theorem dX11_nearly_16 : decode cX11_nearly 16 = .ok (.iconst (-1), 1) := by decide +kernel
theorem dX11_nearly_17 : decode cX11_nearly 17 = .ok (.ireturn, 1) := by decide +kernel
theorem dX11_nearly_18 : decode cX11_nearly 18 = .ok (.aload_n 0, 1) := by decide +kernel
theorem dX11_nearly_19 : decode cX11_nearly 19 = .ok (.invokevirtual 135, 3) := by decide +kernel
theorem dX11_nearly_22 : decode cX11_nearly 22 = .ok (.aload_n 0, 1) := by decide +kernel
theorem dX11_nearly_23 : decode cX11_nearly 23 = .ok (.getfield 32, 3) := by decide +kernel
theorem dX11_nearly_26 : decode cX11_nearly 26 = .ok (.iload_n 1, 1) := by decide +kernel
theorem dX11_nearly_27 : decode cX11_nearly 27 = .ok (.iload_n 2, 1) := by decide +kernel
theorem dX11_nearly_28 : decode cX11_nearly 28 = .ok (.invokevirtual 199, 3) := by decide +kernel
theorem dX11_nearly_31 : decode cX11_nearly 31 = .ok (.ifCond .ne 19, 3) := by decide +kernel
theorem dX11_nearly_34 : decode cX11_nearly 34 = .ok (.aload_n 0, 1) := by decide +kernel
theorem dX11_nearly_35 : decode cX11_nearly 35 = .ok (.getfield 32, 3) := by decide +kernel
theorem dX11_nearly_38 : decode cX11_nearly 38 = .ok (.iload_n 1, 1) := by decide +kernel
theorem dX11_nearly_39 : decode cX11_nearly 39 = .ok (.iload_n 2, 1) := by decide +kernel
theorem dX11_nearly_40 : decode cX11_nearly 40 = .ok (.invokevirtual 202, 3) := by decide +kernel
theorem dX11_nearly_43 : decode cX11_nearly 43 = .ok (.ifCond .eq 7, 3) := by decide +kernel
theorem dX11_nearly_46 : decode cX11_nearly 46 = .ok (.iconst 1, 1) := by decide +kernel
theorem dX11_nearly_47 : decode cX11_nearly 47 = .ok (.goto 4, 3) := by decide +kernel
theorem dX11_nearly_50 : decode cX11_nearly 50 = .ok (.iconst 0, 1) := by decide +kernel
theorem dX11_nearly_51 : decode cX11_nearly 51 = .ok (.ireturn, 1) := by decide +kernel
theorem dX11_parted_0 : decode cX11_parted 0 = .ok (.aload_n 0, 1) := by decide +kernel
theorem dX11_parted_1 : decode cX11_parted 1 = .ok (.iload_n 1, 1) := by decide +kernel
theorem dX11_parted_2 : decode cX11_parted 2 = .ok (.invokevirtual 179, 3) := by decide +kernel
theorem dX11_parted_5 : decode cX11_parted 5 = .ok (.ifCond .eq 20, 3) := by decide +kernel
theorem dX11_parted_8 : decode cX11_parted 8 = .ok (.aload_n 0, 1) := by decide +kernel
theorem dX11_parted_9 : decode cX11_parted 9 = .ok (.iload_n 2, 1) := by decide +kernel
theorem dX11_parted_10 : decode cX11_parted 10 = .ok (.invokevirtual 179, 3) := by decide +kernel
theorem dX11_parted_13 : decode cX11_parted 13 = .ok (.ifCond .eq 12, 3) := by decide +kernel
theorem dX11_parted_16 : decode cX11_parted 16 = .ok (.iload_n 3, 1) := by decide +kernel
theorem dX11_parted_17 : decode cX11_parted 17 = .ok (.iconst 0, 1) := by decide +kernel
theorem dX11_parted_18 : decode cX11_parted 18 = .ok (.iconst 3, 1) := by decide +kernel
theorem dX11_parted_19 : decode cX11_parted 19 = .ok (.invokestatic 72, 3) := by decide +kernel
theorem dX11_parted_22 : decode cX11_parted 22 = .ok (.ifCond .ne 5, 3) := by decide +kernel
theorem dX11_parted_25 : decode cX11_parted 25 = .ok (.iconst (-1), 1) := by decide +kernel
theorem dX11_parted_26 : decode cX11_parted 26 = .ok (.ireturn, 1) := by decide +kernel
theorem dX11_parted_27 : decode cX11_parted 27 = .ok (.aload_n 0, 1) := by decide +kernel
theorem dX11_parted_28 : decode cX11_parted 28 = .ok (.getfield 60, 3) := by decide +kernel
theorem dX11_parted_31 : decode cX11_parted 31 = .ok (.iload_n 1, 1) := by decide +kernel
theorem dX11_parted_32 : decode cX11_parted 32 = .ok (.iload_n 2, 1) := by decide +kernel
theorem dX11_parted_33 : decode cX11_parted 33 = .ok (.aload_n 0, 1) := by decide +kernel
theorem dX11_parted_34 : decode cX11_parted 34 = .ok (.getfield 32, 3) := by decide +kernel
theorem dX11_parted_37 : decode cX11_parted 37 = .ok (.aload_n 0, 1) := by decide +kernel
theorem dX11_parted_38 : decode cX11_parted 38 = .ok (.getfield 10, 3) := by decide +kernel
theorem dX11_parted_41 : decode cX11_parted 41 = .ok (.invokevirtual 205, 3) := by decide +kernel
theorem dX11_parted_44 : decode cX11_parted 44 = .ok (.ifCond .eq 15, 3) := by decide +kernel
theorem dX11_parted_47 : decode cX11_parted 47 = .ok (.aload_n 0, 1) := by decide +kernel
theorem dX11_parted_48 : decode cX11_parted 48 = .ok (.getfield 60, 3) := by decide +kernel
theorem dX11_parted_51 : decode cX11_parted 51 = .ok (.getfield 209, 3) := by decide +kernel
theorem dX11_parted_54 : decode cX11_parted 54 = .ok (.iload_n 3, 1) := by decide +kernel
theorem dX11_parted_55 : decode cX11_parted 55 = .ok (.iaload, 1) := by decide +kernel
theorem dX11_parted_56 : decode cX11_parted 56 = .ok (.goto 4, 3) := by decide +kernel
theorem dX11_parted_59 : decode cX11_parted 59 = .ok (.iconst (-1), 1) := by decide +kernel
theorem dX11_parted_60 : decode cX11_parted 60 = .ok (.ireturn, 1) := by decide +kernel
theorem dX11_pupil_0 : decode cX11_pupil 0 = .ok (.iload_n 1, 1) := by decide +kernel
theorem dX11_pupil_1 : decode cX11_pupil 1 = .ok (.iconst 1, 1) := by decide +kernel
theorem dX11_pupil_2 : decode cX11_pupil 2 = .ok (.bipush 99, 2) := by decide +kernel
theorem dX11_pupil_4 : decode cX11_pupil 4 = .ok (.invokestatic 72, 3) := by decide +kernel
theorem dX11_pupil_7 : decode cX11_pupil 7 = .ok (.ifCond .eq 50, 3) := by decide +kernel
theorem dX11_pupil_10 : decode cX11_pupil 10 = .ok (.iload_n 2, 1) := by decide +kernel
theorem dX11_pupil_11 : decode cX11_pupil 11 = .ok (.iconst 0, 1) := by decide +kernel
theorem dX11_pupil_12 : decode cX11_pupil 12 = .ok (.sipush 32767, 3) := by decide +kernel
theorem dX11_pupil_15 : decode cX11_pupil 15 = .ok (.invokestatic 72, 3) := by decide +kernel
theorem dX11_pupil_18 : decode cX11_pupil 18 = .ok (.ifCond .eq 39, 3) := by decide +kernel
theorem dX11_pupil_21 : decode cX11_pupil 21 = .ok (.iload_n 3, 1) := by decide +kernel
theorem dX11_pupil_22 : decode cX11_pupil 22 = .ok (.iconst 0, 1) := by decide +kernel
theorem dX11_pupil_23 : decode cX11_pupil 23 = .ok (.bipush 99, 2) := by decide +kernel
theorem dX11_pupil_25 : decode cX11_pupil 25 = .ok (.invokestatic 72, 3) := by decide +kernel
theorem dX11_pupil_28 : decode cX11_pupil 28 = .ok (.ifCond .eq 29, 3) := by decide +kernel
theorem dX11_pupil_31 : decode cX11_pupil 31 = .ok (.iload 4, 2) := by decide +kernel
theorem dX11_pupil_33 : decode cX11_pupil 33 = .ok (.iconst 0, 1) := by decide +kernel
theorem dX11_pupil_34 : decode cX11_pupil 34 = .ok (.bipush 8, 2) := by decide +kernel
theorem dX11_pupil_36 : decode cX11_pupil 36 = .ok (.invokestatic 72, 3) := by decide +kernel
theorem dX11_pupil_39 : decode cX11_pupil 39 = .ok (.ifCond .eq 18, 3) := by decide +kernel
theorem dX11_pupil_42 : decode cX11_pupil 42 = .ok (.iload 5, 2) := by decide +kernel
theorem dX11_pupil_44 : decode cX11_pupil 44 = .ok (.iconst 1, 1) := by decide +kernel
theorem dX11_pupil_45 : decode cX11_pupil 45 = .ok (.bipush 16, 2) := by decide +kernel
theorem dX11_pupil_47 : decode cX11_pupil 47 = .ok (.invokestatic 72, 3) := by decide +kernel
theorem dX11_pupil_50 : decode cX11_pupil 50 = .ok (.ifCond .eq 7, 3) := by decide +kernel
theorem dX11_pupil_53 : decode cX11_pupil 53 = .ok (.iconst 1, 1) := by decide +kernel
theorem dX11_pupil_54 : decode cX11_pupil 54 = .ok (.goto 4, 3) := by decide +kernel
theorem dX11_pupil_57 : decode cX11_pupil 57 = .ok (.iconst 0, 1) := by decide +kernel
theorem dX11_pupil_58 : decode cX11_pupil 58 = .ok (.istore 6, 2) := by decide +kernel
theorem dX11_pupil_60 : decode cX11_pupil 60 = .ok (.iload 6, 2) := by decide +kernel
theorem dX11_pupil_62 : decode cX11_pupil 62 = .ok (.ifCond .eq 20, 3) := by decide +kernel
theorem dX11_pupil_65 : decode cX11_pupil 65 = .ok (.aload_n 0, 1) := by decide +kernel
theorem dX11_pupil_66 : decode cX11_pupil 66 = .ok (.getfield 39, 3) := by decide +kernel
theorem dX11_pupil_69 : decode cX11_pupil 69 = .ok (.iload_n 1, 1) := by decide +kernel
theorem dX11_pupil_70 : decode cX11_pupil 70 = .ok (.iload_n 2, 1) := by decide +kernel
theorem dX11_pupil_71 : decode cX11_pupil 71 = .ok (.iload_n 3, 1) := by decide +kernel
theorem dX11_pupil_72 : decode cX11_pupil 72 = .ok (.iload 4, 2) := by decide +kernel
theorem dX11_pupil_74 : decode cX11_pupil 74 = .ok (.iload 5, 2) := by decide +kernel
theorem dX11_pupil_76 : decode cX11_pupil 76 = .ok (.invokevirtual 210, 3) := by decide +kernel
theorem dX11_pupil_79 : decode cX11_pupil 79 = .ok (.goto 4, 3) := by decide +kernel
theorem dX11_pupil_82 : decode cX11_pupil 82 = .ok (.iconst (-1), 1) := by decide +kernel
theorem dX11_pupil_83 : decode cX11_pupil 83 = .ok (.ireturn, 1) := by decide +kernel
theorem dX11_answer_0 : decode cX11_answer 0 = .ok (.iload_n 1, 1) := by decide +kernel
theorem dX11_answer_1 : decode cX11_answer 1 = .ok (.ldc 213, 2) := by decide +kernel
theorem dX11_answer_3 : decode cX11_answer 3 = .ok (.ldc 214, 2) := by decide +kernel
theorem dX11_answer_5 : decode cX11_answer 5 = .ok (.invokestatic 72, 3) := by decide +kernel
theorem dX11_answer_8 : decode cX11_answer 8 = .ok (.ifCond .ne 5, 3) := by decide +kernel
theorem dX11_answer_11 : decode cX11_answer 11 = .ok (.iconst 0, 1) := by decide +kernel
theorem dX11_answer_12 : decode cX11_answer 12 = .ok (.ireturn, 1) := by decide +kernel
theorem dX11_answer_13 : decode cX11_answer 13 = .ok (.aload_n 0, 1) := by decide +kernel
theorem dX11_answer_14 : decode cX11_answer 14 = .ok (.getfield 39, 3) := by decide +kernel
theorem dX11_answer_17 : decode cX11_answer 17 = .ok (.iload_n 1, 1) := by decide +kernel
theorem dX11_answer_18 : decode cX11_answer 18 = .ok (.putfield 215, 3) := by decide +kernel
theorem dX11_answer_21 : decode cX11_answer 21 = .ok (.iconst 1, 1) := by decide +kernel
theorem dX11_answer_22 : decode cX11_answer 22 = .ok (.ireturn, 1) := by decide +kernel
theorem dX11_can_0 : decode cX11_can 0 = .ok (.aload_n 0, 1) := by decide +kernel
theorem dX11_can_1 : decode cX11_can 1 = .ok (.iload_n 1, 1) := by decide +kernel
theorem dX11_can_2 : decode cX11_can 2 = .ok (.iload_n 2, 1) := by decide +kernel
theorem dX11_can_3 : decode cX11_can 3 = .ok (.invokevirtual 218, 3) := by decide +kernel
theorem dX11_can_6 : decode cX11_can 6 = .ok (.ifCond .ne 7, 3) := by decide +kernel
theorem dX11_can_9 : decode cX11_can 9 = .ok (.iconst 1, 1) := by decide +kernel
theorem dX11_can_10 : decode cX11_can 10 = .ok (.goto 4, 3) := by decide +kernel
theorem dX11_can_13 : decode cX11_can 13 = .ok (.iconst 0, 1) := by decide +kernel
theorem dX11_can_14 : decode cX11_can 14 = .ok (.ireturn, 1) := by decide +kernel
theorem dX11_lacks_0 : decode cX11_lacks 0 = .ok (.aload_n 0, 1) := by decide +kernel
theorem dX11_lacks_1 : decode cX11_lacks 1 = .ok (.iload_n 1, 1) := by decide +kernel
theorem dX11_lacks_2 : decode cX11_lacks 2 = .ok (.invokevirtual 221, 3) := by decide +kernel
theorem dX11_lacks_5 : decode cX11_lacks 5 = .ok (.ifCond .eq 27, 3) := by decide +kernel
theorem dX11_lacks_8 : decode cX11_lacks 8 = .ok (.aload_n 0, 1) := by decide +kernel
theorem dX11_lacks_9 : decode cX11_lacks 9 = .ok (.iload_n 2, 1) := by decide +kernel
theorem dX11_lacks_10 : decode cX11_lacks 10 = .ok (.invokevirtual 179, 3) := by decide +kernel
theorem dX11_lacks_13 : decode cX11_lacks 13 = .ok (.ifCond .eq 19, 3) := by decide +kernel
theorem dX11_lacks_16 : decode cX11_lacks 16 = .ok (.aload_n 0, 1) := by decide +kernel
theorem dX11_lacks_17 : decode cX11_lacks 17 = .ok (.getfield 39, 3) := by decide +kernel
theorem dX11_lacks_20 : decode cX11_lacks 20 = .ok (.iload_n 1, 1) := by decide +kernel
theorem dX11_lacks_21 : decode cX11_lacks 21 = .ok (.iload_n 2, 1) := by decide +kernel
theorem dX11_lacks_22 : decode cX11_lacks 22 = .ok (.aload_n 0, 1) := by decide +kernel
theorem dX11_lacks_23 : decode cX11_lacks 23 = .ok (.getfield 32, 3) := by decide +kernel
theorem dX11_lacks_26 : decode cX11_lacks 26 = .ok (.invokevirtual 224, 3) := by decide +kernel
theorem dX11_lacks_29 : decode cX11_lacks 29 = .ok (.goto 4, 3) := by decide +kernel
theorem dX11_lacks_32 : decode cX11_lacks 32 = .ok (.iconst (-1), 1) := by decide +kernel
theorem dX11_lacks_33 : decode cX11_lacks 33 = .ok (.ireturn, 1) := by decide +kernel
theorem dX11_ask_0 : decode cX11_ask 0 = .ok (.aload_n 0, 1) := by decide +kernel
theorem dX11_ask_1 : decode cX11_ask 1 = .ok (.invokevirtual 135, 3) := by decide +kernel
theorem dX11_ask_4 : decode cX11_ask 4 = .ok (.aload_n 0, 1) := by decide +kernel
theorem dX11_ask_5 : decode cX11_ask 5 = .ok (.iload_n 1, 1) := by decide +kernel
theorem dX11_ask_6 : decode cX11_ask 6 = .ok (.iload_n 2, 1) := by decide +kernel
theorem dX11_ask_7 : decode cX11_ask 7 = .ok (.invokevirtual 169, 3) := by decide +kernel
theorem dX11_ask_10 : decode cX11_ask 10 = .ok (.ireturn, 1) := by decide +kernel
theorem dX11_askNow_0 : decode cX11_askNow 0 = .ok (.aload_n 0, 1) := by decide +kernel
theorem dX11_askNow_1 : decode cX11_askNow 1 = .ok (.iload_n 1, 1) := by decide +kernel
theorem dX11_askNow_2 : decode cX11_askNow 2 = .ok (.invokevirtual 221, 3) := by decide +kernel
theorem dX11_askNow_5 : decode cX11_askNow 5 = .ok (.ifCond .eq 27, 3) := by decide +kernel
theorem dX11_askNow_8 : decode cX11_askNow 8 = .ok (.aload_n 0, 1) := by decide +kernel
theorem dX11_askNow_9 : decode cX11_askNow 9 = .ok (.iload_n 2, 1) := by decide +kernel
theorem dX11_askNow_10 : decode cX11_askNow 10 = .ok (.invokevirtual 179, 3) := by decide +kernel
theorem dX11_askNow_13 : decode cX11_askNow 13 = .ok (.ifCond .eq 19, 3) := by decide +kernel
theorem dX11_askNow_16 : decode cX11_askNow 16 = .ok (.aload_n 0, 1) := by decide +kernel
theorem dX11_askNow_17 : decode cX11_askNow 17 = .ok (.getfield 39, 3) := by decide +kernel
theorem dX11_askNow_20 : decode cX11_askNow 20 = .ok (.iload_n 1, 1) := by decide +kernel
theorem dX11_askNow_21 : decode cX11_askNow 21 = .ok (.iload_n 2, 1) := by decide +kernel
theorem dX11_askNow_22 : decode cX11_askNow 22 = .ok (.aload_n 0, 1) := by decide +kernel
theorem dX11_askNow_23 : decode cX11_askNow 23 = .ok (.getfield 32, 3) := by decide +kernel
theorem dX11_askNow_26 : decode cX11_askNow 26 = .ok (.invokevirtual 228, 3) := by decide +kernel
theorem dX11_askNow_29 : decode cX11_askNow 29 = .ok (.ifCond .eq 5, 3) := by decide +kernel
theorem dX11_askNow_32 : decode cX11_askNow 32 = .ok (.iconst (-1), 1) := by decide +kernel
theorem dX11_askNow_33 : decode cX11_askNow 33 = .ok (.ireturn, 1) := by decide +kernel
theorem dX11_askNow_34 : decode cX11_askNow 34 = .ok (.aload_n 0, 1) := by decide +kernel
theorem dX11_askNow_35 : decode cX11_askNow 35 = .ok (.getfield 39, 3) := by decide +kernel
theorem dX11_askNow_38 : decode cX11_askNow 38 = .ok (.iload_n 1, 1) := by decide +kernel
theorem dX11_askNow_39 : decode cX11_askNow 39 = .ok (.iload_n 2, 1) := by decide +kernel
theorem dX11_askNow_40 : decode cX11_askNow 40 = .ok (.invokevirtual 231, 3) := by decide +kernel
theorem dX11_askNow_43 : decode cX11_askNow 43 = .ok (.aload_n 0, 1) := by decide +kernel
theorem dX11_askNow_44 : decode cX11_askNow 44 = .ok (.getfield 39, 3) := by decide +kernel
theorem dX11_askNow_47 : decode cX11_askNow 47 = .ok (.getfield 235, 3) := by decide +kernel
theorem dX11_askNow_50 : decode cX11_askNow 50 = .ok (.ireturn, 1) := by decide +kernel
theorem dX11_why_0 : decode cX11_why 0 = .ok (.aload_n 0, 1) := by decide +kernel
theorem dX11_why_1 : decode cX11_why 1 = .ok (.iload_n 1, 1) := by decide +kernel
theorem dX11_why_2 : decode cX11_why 2 = .ok (.invokevirtual 221, 3) := by decide +kernel
theorem dX11_why_5 : decode cX11_why 5 = .ok (.ifCond .eq 11, 3) := by decide +kernel
theorem dX11_why_8 : decode cX11_why 8 = .ok (.aload_n 0, 1) := by decide +kernel
theorem dX11_why_9 : decode cX11_why 9 = .ok (.iload_n 2, 1) := by decide +kernel
theorem dX11_why_10 : decode cX11_why 10 = .ok (.invokevirtual 179, 3) := by decide +kernel
theorem dX11_why_13 : decode cX11_why 13 = .ok (.ifCond .ne 5, 3) := by decide +kernel
theorem dX11_why_16 : decode cX11_why 16 = .ok (.iconst (-1), 1) := by decide +kernel
theorem dX11_why_17 : decode cX11_why 17 = .ok (.ireturn, 1) := by decide +kernel
theorem dX11_why_18 : decode cX11_why 18 = .ok (.aload_n 0, 1) := by decide +kernel
theorem dX11_why_19 : decode cX11_why 19 = .ok (.invokevirtual 135, 3) := by decide +kernel
theorem dX11_why_22 : decode cX11_why 22 = .ok (.aload_n 0, 1) := by decide +kernel
theorem dX11_why_23 : decode cX11_why 23 = .ok (.getfield 39, 3) := by decide +kernel
theorem dX11_why_26 : decode cX11_why 26 = .ok (.iload_n 1, 1) := by decide +kernel
theorem dX11_why_27 : decode cX11_why 27 = .ok (.iload_n 2, 1) := by decide +kernel
theorem dX11_why_28 : decode cX11_why 28 = .ok (.aload_n 0, 1) := by decide +kernel
theorem dX11_why_29 : decode cX11_why 29 = .ok (.getfield 32, 3) := by decide +kernel
theorem dX11_why_32 : decode cX11_why 32 = .ok (.invokevirtual 228, 3) := by decide +kernel
theorem dX11_why_35 : decode cX11_why 35 = .ok (.ireturn, 1) := by decide +kernel
theorem dX11_barred_0 : decode cX11_barred 0 = .ok (.aload_n 0, 1) := by decide +kernel
theorem dX11_barred_1 : decode cX11_barred 1 = .ok (.iload_n 1, 1) := by decide +kernel
theorem dX11_barred_2 : decode cX11_barred 2 = .ok (.invokevirtual 179, 3) := by decide +kernel
theorem dX11_barred_5 : decode cX11_barred 5 = .ok (.ifCond .ne 5, 3) := by decide +kernel
theorem dX11_barred_8 : decode cX11_barred 8 = .ok (.iconst (-1), 1) := by decide +kernel
theorem dX11_barred_9 : decode cX11_barred 9 = .ok (.ireturn, 1) := by decide +kernel
theorem dX11_barred_10 : decode cX11_barred 10 = .ok (.aload_n 0, 1) := by decide +kernel
theorem dX11_barred_11 : decode cX11_barred 11 = .ok (.invokevirtual 135, 3) := by decide +kernel
theorem dX11_barred_14 : decode cX11_barred 14 = .ok (.aload_n 0, 1) := by decide +kernel
theorem dX11_barred_15 : decode cX11_barred 15 = .ok (.getfield 39, 3) := by decide +kernel
theorem dX11_barred_18 : decode cX11_barred 18 = .ok (.iload_n 1, 1) := by decide +kernel
theorem dX11_barred_19 : decode cX11_barred 19 = .ok (.aload_n 0, 1) := by decide +kernel
theorem dX11_barred_20 : decode cX11_barred 20 = .ok (.getfield 32, 3) := by decide +kernel
theorem dX11_barred_23 : decode cX11_barred 23 = .ok (.invokevirtual 238, 3) := by decide +kernel
theorem dX11_barred_26 : decode cX11_barred 26 = .ok (.ireturn, 1) := by decide +kernel
theorem dX11_morning_0 : decode cX11_morning 0 = .ok (.iload_n 1, 1) := by decide +kernel
theorem dX11_morning_1 : decode cX11_morning 1 = .ok (.iconst (-1), 1) := by decide +kernel
theorem dX11_morning_2 : decode cX11_morning 2 = .ok (.sipush 9999, 3) := by decide +kernel
theorem dX11_morning_5 : decode cX11_morning 5 = .ok (.invokestatic 72, 3) := by decide +kernel
theorem dX11_morning_8 : decode cX11_morning 8 = .ok (.ifCond .ne 6, 3) := by decide +kernel
theorem dX11_morning_11 : decode cX11_morning 11 = .ok (.bipush (-2), 2) := by decide +kernel
theorem dX11_morning_13 : decode cX11_morning 13 = .ok (.ireturn, 1) := by decide +kernel
theorem dX11_morning_14 : decode cX11_morning 14 = .ok (.aload_n 0, 1) := by decide +kernel
theorem dX11_morning_15 : decode cX11_morning 15 = .ok (.invokevirtual 135, 3) := by decide +kernel
theorem dX11_morning_18 : decode cX11_morning 18 = .ok (.aload_n 0, 1) := by decide +kernel
theorem dX11_morning_19 : decode cX11_morning 19 = .ok (.getfield 39, 3) := by decide +kernel
theorem dX11_morning_22 : decode cX11_morning 22 = .ok (.iload_n 1, 1) := by decide +kernel
theorem dX11_morning_23 : decode cX11_morning 23 = .ok (.aload_n 0, 1) := by decide +kernel
theorem dX11_morning_24 : decode cX11_morning 24 = .ok (.getfield 32, 3) := by decide +kernel
theorem dX11_morning_27 : decode cX11_morning 27 = .ok (.invokevirtual 172, 3) := by decide +kernel
theorem dX11_morning_30 : decode cX11_morning 30 = .ok (.ireturn, 1) := by decide +kernel
theorem dX11_stuck_0 : decode cX11_stuck 0 = .ok (.aload_n 0, 1) := by decide +kernel
theorem dX11_stuck_1 : decode cX11_stuck 1 = .ok (.invokevirtual 135, 3) := by decide +kernel
theorem dX11_stuck_4 : decode cX11_stuck 4 = .ok (.aload_n 0, 1) := by decide +kernel
theorem dX11_stuck_5 : decode cX11_stuck 5 = .ok (.getfield 39, 3) := by decide +kernel
theorem dX11_stuck_8 : decode cX11_stuck 8 = .ok (.aload_n 0, 1) := by decide +kernel
theorem dX11_stuck_9 : decode cX11_stuck 9 = .ok (.getfield 32, 3) := by decide +kernel
theorem dX11_stuck_12 : decode cX11_stuck 12 = .ok (.invokevirtual 241, 3) := by decide +kernel
theorem dX11_stuck_15 : decode cX11_stuck 15 = .ok (.ireturn, 1) := by decide +kernel
theorem dX11_takeStock_0 : decode cX11_takeStock 0 = .ok (.aload_n 0, 1) := by decide +kernel
theorem dX11_takeStock_1 : decode cX11_takeStock 1 = .ok (.getfield 32, 3) := by decide +kernel
theorem dX11_takeStock_4 : decode cX11_takeStock 4 = .ok (.invokevirtual 245, 3) := by decide +kernel
theorem dX11_takeStock_7 : decode cX11_takeStock 7 = .ok (.aload_n 0, 1) := by decide +kernel
theorem dX11_takeStock_8 : decode cX11_takeStock 8 = .ok (.getfield 32, 3) := by decide +kernel
theorem dX11_takeStock_11 : decode cX11_takeStock 11 = .ok (.aload_n 0, 1) := by decide +kernel
theorem dX11_takeStock_12 : decode cX11_takeStock 12 = .ok (.getfield 10, 3) := by decide +kernel
theorem dX11_takeStock_15 : decode cX11_takeStock 15 = .ok (.invokevirtual 248, 3) := by decide +kernel
theorem dX11_takeStock_18 : decode cX11_takeStock 18 = .ok (.return_, 1) := by decide +kernel
theorem dX11_undo_0 : decode cX11_undo 0 = .ok (.aload_n 0, 1) := by decide +kernel
theorem dX11_undo_1 : decode cX11_undo 1 = .ok (.getfield 39, 3) := by decide +kernel
theorem dX11_undo_4 : decode cX11_undo 4 = .ok (.getfield 235, 3) := by decide +kernel
theorem dX11_undo_7 : decode cX11_undo 7 = .ok (.ifCond .gt 5, 3) := by decide +kernel
theorem dX11_undo_10 : decode cX11_undo 10 = .ok (.iconst (-1), 1) := by decide +kernel
theorem dX11_undo_11 : decode cX11_undo 11 = .ok (.ireturn, 1) := by decide +kernel
theorem dX11_undo_12 : decode cX11_undo 12 = .ok (.aload_n 0, 1) := by decide +kernel
theorem dX11_undo_13 : decode cX11_undo 13 = .ok (.getfield 39, 3) := by decide +kernel
theorem dX11_undo_16 : decode cX11_undo 16 = .ok (.dup, 1) := by decide +kernel
theorem dX11_undo_17 : decode cX11_undo 17 = .ok (.getfield 235, 3) := by decide +kernel
theorem dX11_undo_20 : decode cX11_undo 20 = .ok (.iconst 1, 1) := by decide +kernel
theorem dX11_undo_21 : decode cX11_undo 21 = .ok (.isub, 1) := by decide +kernel
theorem dX11_undo_22 : decode cX11_undo 22 = .ok (.putfield 235, 3) := by decide +kernel
theorem dX11_undo_25 : decode cX11_undo 25 = .ok (.aload_n 0, 1) := by decide +kernel
theorem dX11_undo_26 : decode cX11_undo 26 = .ok (.getfield 39, 3) := by decide +kernel
theorem dX11_undo_29 : decode cX11_undo 29 = .ok (.getfield 235, 3) := by decide +kernel
theorem dX11_undo_32 : decode cX11_undo 32 = .ok (.ireturn, 1) := by decide +kernel
theorem dX11_asked_0 : decode cX11_asked 0 = .ok (.iload_n 1, 1) := by decide +kernel
theorem dX11_asked_1 : decode cX11_asked 1 = .ok (.iconst (-1), 1) := by decide +kernel
theorem dX11_asked_2 : decode cX11_asked 2 = .ok (.if_icmp .ne 11, 3) := by decide +kernel
theorem dX11_asked_5 : decode cX11_asked 5 = .ok (.aload_n 0, 1) := by decide +kernel
theorem dX11_asked_6 : decode cX11_asked 6 = .ok (.getfield 39, 3) := by decide +kernel
theorem dX11_asked_9 : decode cX11_asked 9 = .ok (.getfield 235, 3) := by decide +kernel
theorem dX11_asked_12 : decode cX11_asked 12 = .ok (.ireturn, 1) := by decide +kernel
theorem dX11_asked_13 : decode cX11_asked 13 = .ok (.iload_n 1, 1) := by decide +kernel
theorem dX11_asked_14 : decode cX11_asked 14 = .ok (.iconst 0, 1) := by decide +kernel
theorem dX11_asked_15 : decode cX11_asked 15 = .ok (.aload_n 0, 1) := by decide +kernel
theorem dX11_asked_16 : decode cX11_asked 16 = .ok (.getfield 39, 3) := by decide +kernel
theorem dX11_asked_19 : decode cX11_asked 19 = .ok (.getfield 235, 3) := by decide +kernel
theorem dX11_asked_22 : decode cX11_asked 22 = .ok (.iconst 1, 1) := by decide +kernel
theorem dX11_asked_23 : decode cX11_asked 23 = .ok (.isub, 1) := by decide +kernel
theorem dX11_asked_24 : decode cX11_asked 24 = .ok (.invokestatic 72, 3) := by decide +kernel
theorem dX11_asked_27 : decode cX11_asked 27 = .ok (.ifCond .ne 5, 3) := by decide +kernel
theorem dX11_asked_30 : decode cX11_asked 30 = .ok (.iconst (-1), 1) := by decide +kernel
theorem dX11_asked_31 : decode cX11_asked 31 = .ok (.ireturn, 1) := by decide +kernel
theorem dX11_asked_32 : decode cX11_asked 32 = .ok (.iload_n 2, 1) := by decide +kernel
theorem dX11_asked_33 : decode cX11_asked 33 = .ok (.ifCond .eq 15, 3) := by decide +kernel
theorem dX11_asked_36 : decode cX11_asked 36 = .ok (.aload_n 0, 1) := by decide +kernel
theorem dX11_asked_37 : decode cX11_asked 37 = .ok (.getfield 39, 3) := by decide +kernel
theorem dX11_asked_40 : decode cX11_asked 40 = .ok (.getfield 252, 3) := by decide +kernel
theorem dX11_asked_43 : decode cX11_asked 43 = .ok (.iload_n 1, 1) := by decide +kernel
theorem dX11_asked_44 : decode cX11_asked 44 = .ok (.iaload, 1) := by decide +kernel
theorem dX11_asked_45 : decode cX11_asked 45 = .ok (.goto 12, 3) := by decide +kernel
theorem dX11_asked_48 : decode cX11_asked 48 = .ok (.aload_n 0, 1) := by decide +kernel
theorem dX11_asked_49 : decode cX11_asked 49 = .ok (.getfield 39, 3) := by decide +kernel
theorem dX11_asked_52 : decode cX11_asked 52 = .ok (.getfield 255, 3) := by decide +kernel
theorem dX11_asked_55 : decode cX11_asked 55 = .ok (.iload_n 1, 1) := by decide +kernel
theorem dX11_asked_56 : decode cX11_asked 56 = .ok (.iaload, 1) := by decide +kernel
theorem dX11_asked_57 : decode cX11_asked 57 = .ok (.ireturn, 1) := by decide +kernel
theorem dX11_left_0 : decode cX11_left 0 = .ok (.aload_n 0, 1) := by decide +kernel
theorem dX11_left_1 : decode cX11_left 1 = .ok (.iload_n 1, 1) := by decide +kernel
theorem dX11_left_2 : decode cX11_left 2 = .ok (.invokevirtual 221, 3) := by decide +kernel
theorem dX11_left_5 : decode cX11_left 5 = .ok (.ifCond .ne 5, 3) := by decide +kernel
theorem dX11_left_8 : decode cX11_left 8 = .ok (.iconst (-1), 1) := by decide +kernel
theorem dX11_left_9 : decode cX11_left 9 = .ok (.ireturn, 1) := by decide +kernel
theorem dX11_left_10 : decode cX11_left 10 = .ok (.aload_n 0, 1) := by decide +kernel
theorem dX11_left_11 : decode cX11_left 11 = .ok (.invokevirtual 135, 3) := by decide +kernel
theorem dX11_left_14 : decode cX11_left 14 = .ok (.aload_n 0, 1) := by decide +kernel
theorem dX11_left_15 : decode cX11_left 15 = .ok (.getfield 39, 3) := by decide +kernel
theorem dX11_left_18 : decode cX11_left 18 = .ok (.iload_n 1, 1) := by decide +kernel
theorem dX11_left_19 : decode cX11_left 19 = .ok (.aload_n 0, 1) := by decide +kernel
theorem dX11_left_20 : decode cX11_left 20 = .ok (.getfield 32, 3) := by decide +kernel
theorem dX11_left_23 : decode cX11_left 23 = .ok (.invokevirtual 258, 3) := by decide +kernel
theorem dX11_left_26 : decode cX11_left 26 = .ok (.ireturn, 1) := by decide +kernel
theorem dX11_order_0 : decode cX11_order 0 = .ok (.iload_n 1, 1) := by decide +kernel
theorem dX11_order_1 : decode cX11_order 1 = .ok (.iconst (-1), 1) := by decide +kernel
theorem dX11_order_2 : decode cX11_order 2 = .ok (.aload_n 0, 1) := by decide +kernel
theorem dX11_order_3 : decode cX11_order 3 = .ok (.getfield 39, 3) := by decide +kernel
theorem dX11_order_6 : decode cX11_order 6 = .ok (.getfield 261, 3) := by decide +kernel
theorem dX11_order_9 : decode cX11_order 9 = .ok (.iconst 1, 1) := by decide +kernel
theorem dX11_order_10 : decode cX11_order 10 = .ok (.isub, 1) := by decide +kernel
theorem dX11_order_11 : decode cX11_order 11 = .ok (.invokestatic 72, 3) := by decide +kernel
theorem dX11_order_14 : decode cX11_order 14 = .ok (.ifCond .ne 6, 3) := by decide +kernel
theorem dX11_order_17 : decode cX11_order 17 = .ok (.bipush (-2), 2) := by decide +kernel
theorem dX11_order_19 : decode cX11_order 19 = .ok (.ireturn, 1) := by decide +kernel
theorem dX11_order_20 : decode cX11_order 20 = .ok (.aload_n 0, 1) := by decide +kernel
theorem dX11_order_21 : decode cX11_order 21 = .ok (.invokevirtual 135, 3) := by decide +kernel
theorem dX11_order_24 : decode cX11_order 24 = .ok (.aload_n 0, 1) := by decide +kernel
theorem dX11_order_25 : decode cX11_order 25 = .ok (.getfield 46, 3) := by decide +kernel
theorem dX11_order_28 : decode cX11_order 28 = .ok (.aload_n 0, 1) := by decide +kernel
theorem dX11_order_29 : decode cX11_order 29 = .ok (.getfield 39, 3) := by decide +kernel
theorem dX11_order_32 : decode cX11_order 32 = .ok (.aload_n 0, 1) := by decide +kernel
theorem dX11_order_33 : decode cX11_order 33 = .ok (.getfield 32, 3) := by decide +kernel
theorem dX11_order_36 : decode cX11_order 36 = .ok (.invokevirtual 264, 3) := by decide +kernel
theorem dX11_order_39 : decode cX11_order 39 = .ok (.iload_n 1, 1) := by decide +kernel
theorem dX11_order_40 : decode cX11_order 40 = .ok (.iconst (-1), 1) := by decide +kernel
theorem dX11_order_41 : decode cX11_order 41 = .ok (.if_icmp .ne 11, 3) := by decide +kernel
theorem dX11_order_44 : decode cX11_order 44 = .ok (.aload_n 0, 1) := by decide +kernel
theorem dX11_order_45 : decode cX11_order 45 = .ok (.getfield 46, 3) := by decide +kernel
theorem dX11_order_48 : decode cX11_order 48 = .ok (.invokevirtual 268, 3) := by decide +kernel
theorem dX11_order_51 : decode cX11_order 51 = .ok (.ireturn, 1) := by decide +kernel
theorem dX11_order_52 : decode cX11_order 52 = .ok (.aload_n 0, 1) := by decide +kernel
theorem dX11_order_53 : decode cX11_order 53 = .ok (.getfield 46, 3) := by decide +kernel
theorem dX11_order_56 : decode cX11_order 56 = .ok (.invokevirtual 272, 3) := by decide +kernel
theorem dX11_order_59 : decode cX11_order 59 = .ok (.ifCond .eq 15, 3) := by decide +kernel
theorem dX11_order_62 : decode cX11_order 62 = .ok (.aload_n 0, 1) := by decide +kernel
theorem dX11_order_63 : decode cX11_order 63 = .ok (.getfield 46, 3) := by decide +kernel
theorem dX11_order_66 : decode cX11_order 66 = .ok (.getfield 276, 3) := by decide +kernel
theorem dX11_order_69 : decode cX11_order 69 = .ok (.iload_n 1, 1) := by decide +kernel
theorem dX11_order_70 : decode cX11_order 70 = .ok (.iaload, 1) := by decide +kernel
theorem dX11_order_71 : decode cX11_order 71 = .ok (.goto 5, 3) := by decide +kernel
theorem dX11_order_74 : decode cX11_order 74 = .ok (.bipush (-2), 2) := by decide +kernel
theorem dX11_order_76 : decode cX11_order 76 = .ok (.ireturn, 1) := by decide +kernel
theorem dX11_shut_0 : decode cX11_shut 0 = .ok (.aload_n 0, 1) := by decide +kernel
theorem dX11_shut_1 : decode cX11_shut 1 = .ok (.invokevirtual 135, 3) := by decide +kernel
theorem dX11_shut_4 : decode cX11_shut 4 = .ok (.aload_n 0, 1) := by decide +kernel
theorem dX11_shut_5 : decode cX11_shut 5 = .ok (.getfield 46, 3) := by decide +kernel
theorem dX11_shut_8 : decode cX11_shut 8 = .ok (.aload_n 0, 1) := by decide +kernel
theorem dX11_shut_9 : decode cX11_shut 9 = .ok (.getfield 39, 3) := by decide +kernel
theorem dX11_shut_12 : decode cX11_shut 12 = .ok (.aload_n 0, 1) := by decide +kernel
theorem dX11_shut_13 : decode cX11_shut 13 = .ok (.getfield 32, 3) := by decide +kernel
theorem dX11_shut_16 : decode cX11_shut 16 = .ok (.invokevirtual 264, 3) := by decide +kernel
theorem dX11_shut_19 : decode cX11_shut 19 = .ok (.aload_n 0, 1) := by decide +kernel
theorem dX11_shut_20 : decode cX11_shut 20 = .ok (.getfield 46, 3) := by decide +kernel
theorem dX11_shut_23 : decode cX11_shut 23 = .ok (.invokevirtual 279, 3) := by decide +kernel
theorem dX11_shut_26 : decode cX11_shut 26 = .ok (.ireturn, 1) := by decide +kernel
theorem dX11_game_0 : decode cX11_game 0 = .ok (.aload_n 0, 1) := by decide +kernel
theorem dX11_game_1 : decode cX11_game 1 = .ok (.iload_n 1, 1) := by decide +kernel
theorem dX11_game_2 : decode cX11_game 2 = .ok (.invokevirtual 221, 3) := by decide +kernel
theorem dX11_game_5 : decode cX11_game 5 = .ok (.ifCond .eq 16, 3) := by decide +kernel
theorem dX11_game_8 : decode cX11_game 8 = .ok (.aload_n 0, 1) := by decide +kernel
theorem dX11_game_9 : decode cX11_game 9 = .ok (.iload_n 2, 1) := by decide +kernel
theorem dX11_game_10 : decode cX11_game 10 = .ok (.invokevirtual 221, 3) := by decide +kernel
theorem dX11_game_13 : decode cX11_game 13 = .ok (.ifCond .eq 8, 3) := by decide +kernel
theorem dX11_game_16 : decode cX11_game 16 = .ok (.iload_n 1, 1) := by decide +kernel
theorem dX11_game_17 : decode cX11_game 17 = .ok (.iload_n 2, 1) := by decide +kernel
theorem dX11_game_18 : decode cX11_game 18 = .ok (.if_icmp .ne 6, 3) := by decide +kernel
theorem dX11_game_21 : decode cX11_game 21 = .ok (.bipush (-2), 2) := by decide +kernel
theorem dX11_game_23 : decode cX11_game 23 = .ok (.ireturn, 1) := by decide +kernel
theorem dX11_game_24 : decode cX11_game 24 = .ok (.aload_n 0, 1) := by decide +kernel
theorem dX11_game_25 : decode cX11_game 25 = .ok (.invokevirtual 135, 3) := by decide +kernel
theorem dX11_game_28 : decode cX11_game 28 = .ok (.aload_n 0, 1) := by decide +kernel
theorem dX11_game_29 : decode cX11_game 29 = .ok (.getfield 46, 3) := by decide +kernel
theorem dX11_game_32 : decode cX11_game 32 = .ok (.aload_n 0, 1) := by decide +kernel
theorem dX11_game_33 : decode cX11_game 33 = .ok (.getfield 39, 3) := by decide +kernel
theorem dX11_game_36 : decode cX11_game 36 = .ok (.aload_n 0, 1) := by decide +kernel
theorem dX11_game_37 : decode cX11_game 37 = .ok (.getfield 32, 3) := by decide +kernel
theorem dX11_game_40 : decode cX11_game 40 = .ok (.invokevirtual 264, 3) := by decide +kernel
theorem dX11_game_43 : decode cX11_game 43 = .ok (.aload_n 0, 1) := by decide +kernel
theorem dX11_game_44 : decode cX11_game 44 = .ok (.getfield 46, 3) := by decide +kernel
theorem dX11_game_47 : decode cX11_game 47 = .ok (.iload_n 1, 1) := by decide +kernel
theorem dX11_game_48 : decode cX11_game 48 = .ok (.iload_n 2, 1) := by decide +kernel
theorem dX11_game_49 : decode cX11_game 49 = .ok (.invokevirtual 282, 3) := by decide +kernel
theorem dX11_game_52 : decode cX11_game 52 = .ok (.istore 4, 2) := by decide +kernel
theorem dX11_game_54 : decode cX11_game 54 = .ok (.iload_n 3, 1) := by decide +kernel
theorem dX11_game_55 : decode cX11_game 55 = .ok (.ifCond .eq 6, 3) := by decide +kernel
theorem dX11_game_58 : decode cX11_game 58 = .ok (.iload 4, 2) := by decide +kernel
theorem dX11_game_60 : decode cX11_game 60 = .ok (.ireturn, 1) := by decide +kernel
theorem dX11_game_61 : decode cX11_game 61 = .ok (.iload 4, 2) := by decide +kernel
theorem dX11_game_63 : decode cX11_game 63 = .ok (.iconst (-1), 1) := by decide +kernel
theorem dX11_game_64 : decode cX11_game 64 = .ok (.if_icmp .ne 7, 3) := by decide +kernel
theorem dX11_game_67 : decode cX11_game 67 = .ok (.iload_n 2, 1) := by decide +kernel
theorem dX11_game_68 : decode cX11_game 68 = .ok (.goto 4, 3) := by decide +kernel
theorem dX11_game_71 : decode cX11_game 71 = .ok (.iload_n 1, 1) := by decide +kernel
theorem dX11_game_72 : decode cX11_game 72 = .ok (.ireturn, 1) := by decide +kernel
theorem dX11_kinds_0 : decode cX11_kinds 0 = .ok (.iload_n 1, 1) := by decide +kernel
theorem dX11_kinds_1 : decode cX11_kinds 1 = .ok (.iconst 1, 1) := by decide +kernel
theorem dX11_kinds_2 : decode cX11_kinds 2 = .ok (.iconst 5, 1) := by decide +kernel
theorem dX11_kinds_3 : decode cX11_kinds 3 = .ok (.invokestatic 72, 3) := by decide +kernel
theorem dX11_kinds_6 : decode cX11_kinds 6 = .ok (.ifCond .eq 26, 3) := by decide +kernel
theorem dX11_kinds_9 : decode cX11_kinds 9 = .ok (.iload_n 2, 1) := by decide +kernel
theorem dX11_kinds_10 : decode cX11_kinds 10 = .ok (.iconst 0, 1) := by decide +kernel
theorem dX11_kinds_11 : decode cX11_kinds 11 = .ok (.bipush 9, 2) := by decide +kernel
theorem dX11_kinds_13 : decode cX11_kinds 13 = .ok (.invokestatic 72, 3) := by decide +kernel
theorem dX11_kinds_16 : decode cX11_kinds 16 = .ok (.ifCond .eq 16, 3) := by decide +kernel
theorem dX11_kinds_19 : decode cX11_kinds 19 = .ok (.iload_n 3, 1) := by decide +kernel
theorem dX11_kinds_20 : decode cX11_kinds 20 = .ok (.sipush (-500), 3) := by decide +kernel
theorem dX11_kinds_23 : decode cX11_kinds 23 = .ok (.sipush 500, 3) := by decide +kernel
theorem dX11_kinds_26 : decode cX11_kinds 26 = .ok (.invokestatic 72, 3) := by decide +kernel
theorem dX11_kinds_29 : decode cX11_kinds 29 = .ok (.ifCond .ne 7, 3) := by decide +kernel
theorem dX11_kinds_32 : decode cX11_kinds 32 = .ok (.ldc2_w 285, 3) := by decide +kernel
theorem dX11_kinds_35 : decode cX11_kinds 35 = .ok (.lreturn, 1) := by decide +kernel
theorem dX11_kinds_36 : decode cX11_kinds 36 = .ok (.aload_n 0, 1) := by decide +kernel
theorem dX11_kinds_37 : decode cX11_kinds 37 = .ok (.getfield 53, 3) := by decide +kernel
theorem dX11_kinds_40 : decode cX11_kinds 40 = .ok (.iload_n 2, 1) := by decide +kernel
theorem dX11_kinds_41 : decode cX11_kinds 41 = .ok (.iload_n 1, 1) := by decide +kernel
theorem dX11_kinds_42 : decode cX11_kinds 42 = .ok (.aload_n 0, 1) := by decide +kernel
theorem dX11_kinds_43 : decode cX11_kinds 43 = .ok (.getfield 10, 3) := by decide +kernel
theorem dX11_kinds_46 : decode cX11_kinds 46 = .ok (.getfield 76, 3) := by decide +kernel
theorem dX11_kinds_49 : decode cX11_kinds 49 = .ok (.invokevirtual 287, 3) := by decide +kernel
theorem dX11_kinds_52 : decode cX11_kinds 52 = .ok (.aload_n 0, 1) := by decide +kernel
theorem dX11_kinds_53 : decode cX11_kinds 53 = .ok (.getfield 53, 3) := by decide +kernel
theorem dX11_kinds_56 : decode cX11_kinds 56 = .ok (.iload_n 2, 1) := by decide +kernel
theorem dX11_kinds_57 : decode cX11_kinds 57 = .ok (.iload_n 1, 1) := by decide +kernel
theorem dX11_kinds_58 : decode cX11_kinds 58 = .ok (.iload_n 3, 1) := by decide +kernel
theorem dX11_kinds_59 : decode cX11_kinds 59 = .ok (.invokevirtual 291, 3) := by decide +kernel
theorem dX11_kinds_62 : decode cX11_kinds 62 = .ok (.i2l, 1) := by decide +kernel
theorem dX11_kinds_63 : decode cX11_kinds 63 = .ok (.lreturn, 1) := by decide +kernel
theorem dX11_fewest_0 : decode cX11_fewest 0 = .ok (.iload_n 1, 1) := by decide +kernel
theorem dX11_fewest_1 : decode cX11_fewest 1 = .ok (.iconst 0, 1) := by decide +kernel
theorem dX11_fewest_2 : decode cX11_fewest 2 = .ok (.bipush 9, 2) := by decide +kernel
theorem dX11_fewest_4 : decode cX11_fewest 4 = .ok (.invokestatic 72, 3) := by decide +kernel
theorem dX11_fewest_7 : decode cX11_fewest 7 = .ok (.ifCond .eq 16, 3) := by decide +kernel
theorem dX11_fewest_10 : decode cX11_fewest 10 = .ok (.iload_n 2, 1) := by decide +kernel
theorem dX11_fewest_11 : decode cX11_fewest 11 = .ok (.sipush (-500), 3) := by decide +kernel
theorem dX11_fewest_14 : decode cX11_fewest 14 = .ok (.sipush 500, 3) := by decide +kernel
theorem dX11_fewest_17 : decode cX11_fewest 17 = .ok (.invokestatic 72, 3) := by decide +kernel
theorem dX11_fewest_20 : decode cX11_fewest 20 = .ok (.ifCond .ne 5, 3) := by decide +kernel
theorem dX11_fewest_23 : decode cX11_fewest 23 = .ok (.iconst (-1), 1) := by decide +kernel
theorem dX11_fewest_24 : decode cX11_fewest 24 = .ok (.ireturn, 1) := by decide +kernel
theorem dX11_fewest_25 : decode cX11_fewest 25 = .ok (.aload_n 0, 1) := by decide +kernel
theorem dX11_fewest_26 : decode cX11_fewest 26 = .ok (.getfield 53, 3) := by decide +kernel
theorem dX11_fewest_29 : decode cX11_fewest 29 = .ok (.iload_n 1, 1) := by decide +kernel
theorem dX11_fewest_30 : decode cX11_fewest 30 = .ok (.iload_n 2, 1) := by decide +kernel
theorem dX11_fewest_31 : decode cX11_fewest 31 = .ok (.iconst 5, 1) := by decide +kernel
theorem dX11_fewest_32 : decode cX11_fewest 32 = .ok (.aload_n 0, 1) := by decide +kernel
theorem dX11_fewest_33 : decode cX11_fewest 33 = .ok (.getfield 10, 3) := by decide +kernel
theorem dX11_fewest_36 : decode cX11_fewest 36 = .ok (.getfield 76, 3) := by decide +kernel
theorem dX11_fewest_39 : decode cX11_fewest 39 = .ok (.invokevirtual 294, 3) := by decide +kernel
theorem dX11_fewest_42 : decode cX11_fewest 42 = .ok (.ireturn, 1) := by decide +kernel
theorem dX11_shortest_0 : decode cX11_shortest 0 = .ok (.aload_n 0, 1) := by decide +kernel
theorem dX11_shortest_1 : decode cX11_shortest 1 = .ok (.iload_n 1, 1) := by decide +kernel
theorem dX11_shortest_2 : decode cX11_shortest 2 = .ok (.iload_n 2, 1) := by decide +kernel
theorem dX11_shortest_3 : decode cX11_shortest 3 = .ok (.invokevirtual 298, 3) := by decide +kernel
theorem dX11_shortest_6 : decode cX11_shortest 6 = .ok (.istore 4, 2) := by decide +kernel
theorem dX11_shortest_8 : decode cX11_shortest 8 = .ok (.iload 4, 2) := by decide +kernel
theorem dX11_shortest_10 : decode cX11_shortest 10 = .ok (.iconst (-1), 1) := by decide +kernel
theorem dX11_shortest_11 : decode cX11_shortest 11 = .ok (.if_icmp .eq 17, 3) := by decide +kernel
theorem dX11_shortest_14 : decode cX11_shortest 14 = .ok (.iload_n 3, 1) := by decide +kernel
theorem dX11_shortest_15 : decode cX11_shortest 15 = .ok (.iconst (-1), 1) := by decide +kernel
theorem dX11_shortest_16 : decode cX11_shortest 16 = .ok (.iconst 2, 1) := by decide +kernel
theorem dX11_shortest_17 : decode cX11_shortest 17 = .ok (.iload 4, 2) := by decide +kernel
theorem dX11_shortest_19 : decode cX11_shortest 19 = .ok (.imul, 1) := by decide +kernel
theorem dX11_shortest_20 : decode cX11_shortest 20 = .ok (.iconst 2, 1) := by decide +kernel
theorem dX11_shortest_21 : decode cX11_shortest 21 = .ok (.isub, 1) := by decide +kernel
theorem dX11_shortest_22 : decode cX11_shortest 22 = .ok (.invokestatic 72, 3) := by decide +kernel
theorem dX11_shortest_25 : decode cX11_shortest 25 = .ok (.ifCond .ne 5, 3) := by decide +kernel
theorem dX11_shortest_28 : decode cX11_shortest 28 = .ok (.iconst (-1), 1) := by decide +kernel
theorem dX11_shortest_29 : decode cX11_shortest 29 = .ok (.ireturn, 1) := by decide +kernel
theorem dX11_shortest_30 : decode cX11_shortest 30 = .ok (.iload_n 3, 1) := by decide +kernel
theorem dX11_shortest_31 : decode cX11_shortest 31 = .ok (.iconst (-1), 1) := by decide +kernel
theorem dX11_shortest_32 : decode cX11_shortest 32 = .ok (.if_icmp .ne 12, 3) := by decide +kernel
theorem dX11_shortest_35 : decode cX11_shortest 35 = .ok (.iconst 2, 1) := by decide +kernel
theorem dX11_shortest_36 : decode cX11_shortest 36 = .ok (.iload 4, 2) := by decide +kernel
theorem dX11_shortest_38 : decode cX11_shortest 38 = .ok (.imul, 1) := by decide +kernel
theorem dX11_shortest_39 : decode cX11_shortest 39 = .ok (.iconst 1, 1) := by decide +kernel
theorem dX11_shortest_40 : decode cX11_shortest 40 = .ok (.isub, 1) := by decide +kernel
theorem dX11_shortest_41 : decode cX11_shortest 41 = .ok (.goto 15, 3) := by decide +kernel
theorem dX11_shortest_44 : decode cX11_shortest 44 = .ok (.aload_n 0, 1) := by decide +kernel
theorem dX11_shortest_45 : decode cX11_shortest 45 = .ok (.getfield 53, 3) := by decide +kernel
theorem dX11_shortest_48 : decode cX11_shortest 48 = .ok (.iload_n 1, 1) := by decide +kernel
theorem dX11_shortest_49 : decode cX11_shortest 49 = .ok (.iload 4, 2) := by decide +kernel
theorem dX11_shortest_51 : decode cX11_shortest 51 = .ok (.iload_n 2, 1) := by decide +kernel
theorem dX11_shortest_52 : decode cX11_shortest 52 = .ok (.iload_n 3, 1) := by decide +kernel
theorem dX11_shortest_53 : decode cX11_shortest 53 = .ok (.invokevirtual 301, 3) := by decide +kernel
theorem dX11_shortest_56 : decode cX11_shortest 56 = .ok (.ireturn, 1) := by decide +kernel
theorem dX11_rarest_0 : decode cX11_rarest 0 = .ok (.iload_n 1, 1) := by decide +kernel
theorem dX11_rarest_1 : decode cX11_rarest 1 = .ok (.iconst 1, 1) := by decide +kernel
theorem dX11_rarest_2 : decode cX11_rarest 2 = .ok (.iconst 5, 1) := by decide +kernel
theorem dX11_rarest_3 : decode cX11_rarest 3 = .ok (.invokestatic 72, 3) := by decide +kernel
theorem dX11_rarest_6 : decode cX11_rarest 6 = .ok (.ifCond .eq 22, 3) := by decide +kernel
theorem dX11_rarest_9 : decode cX11_rarest 9 = .ok (.iload_n 2, 1) := by decide +kernel
theorem dX11_rarest_10 : decode cX11_rarest 10 = .ok (.iconst 0, 1) := by decide +kernel
theorem dX11_rarest_11 : decode cX11_rarest 11 = .ok (.bipush 9, 2) := by decide +kernel
theorem dX11_rarest_13 : decode cX11_rarest 13 = .ok (.invokestatic 72, 3) := by decide +kernel
theorem dX11_rarest_16 : decode cX11_rarest 16 = .ok (.ifCond .eq 12, 3) := by decide +kernel
theorem dX11_rarest_19 : decode cX11_rarest 19 = .ok (.iload_n 3, 1) := by decide +kernel
theorem dX11_rarest_20 : decode cX11_rarest 20 = .ok (.iload 4, 2) := by decide +kernel
theorem dX11_rarest_22 : decode cX11_rarest 22 = .ok (.invokestatic 305, 3) := by decide +kernel
theorem dX11_rarest_25 : decode cX11_rarest 25 = .ok (.ifCond .ne 7, 3) := by decide +kernel
theorem dX11_rarest_28 : decode cX11_rarest 28 = .ok (.sipush (-1000), 3) := by decide +kernel
theorem dX11_rarest_31 : decode cX11_rarest 31 = .ok (.ireturn, 1) := by decide +kernel
theorem dX11_rarest_32 : decode cX11_rarest 32 = .ok (.aload_n 0, 1) := by decide +kernel
theorem dX11_rarest_33 : decode cX11_rarest 33 = .ok (.getfield 53, 3) := by decide +kernel
theorem dX11_rarest_36 : decode cX11_rarest 36 = .ok (.iload_n 2, 1) := by decide +kernel
theorem dX11_rarest_37 : decode cX11_rarest 37 = .ok (.iload_n 1, 1) := by decide +kernel
theorem dX11_rarest_38 : decode cX11_rarest 38 = .ok (.aload_n 0, 1) := by decide +kernel
theorem dX11_rarest_39 : decode cX11_rarest 39 = .ok (.getfield 10, 3) := by decide +kernel
theorem dX11_rarest_42 : decode cX11_rarest 42 = .ok (.getfield 76, 3) := by decide +kernel
theorem dX11_rarest_45 : decode cX11_rarest 45 = .ok (.invokevirtual 287, 3) := by decide +kernel
theorem dX11_rarest_48 : decode cX11_rarest 48 = .ok (.aload_n 0, 1) := by decide +kernel
theorem dX11_rarest_49 : decode cX11_rarest 49 = .ok (.getfield 53, 3) := by decide +kernel
theorem dX11_rarest_52 : decode cX11_rarest 52 = .ok (.iload_n 2, 1) := by decide +kernel
theorem dX11_rarest_53 : decode cX11_rarest 53 = .ok (.iload_n 1, 1) := by decide +kernel
theorem dX11_rarest_54 : decode cX11_rarest 54 = .ok (.iload_n 3, 1) := by decide +kernel
theorem dX11_rarest_55 : decode cX11_rarest 55 = .ok (.iload 4, 2) := by decide +kernel
theorem dX11_rarest_57 : decode cX11_rarest 57 = .ok (.invokevirtual 308, 3) := by decide +kernel
theorem dX11_rarest_60 : decode cX11_rarest 60 = .ok (.ireturn, 1) := by decide +kernel
theorem dX11_fair_0 : decode cX11_fair 0 = .ok (.aload_n 0, 1) := by decide +kernel
theorem dX11_fair_1 : decode cX11_fair 1 = .ok (.iload_n 1, 1) := by decide +kernel
theorem dX11_fair_2 : decode cX11_fair 2 = .ok (.invokevirtual 221, 3) := by decide +kernel
theorem dX11_fair_5 : decode cX11_fair 5 = .ok (.ifCond .eq 11, 3) := by decide +kernel
theorem dX11_fair_8 : decode cX11_fair 8 = .ok (.iload_n 2, 1) := by decide +kernel
theorem dX11_fair_9 : decode cX11_fair 9 = .ok (.iload_n 3, 1) := by decide +kernel
theorem dX11_fair_10 : decode cX11_fair 10 = .ok (.invokestatic 305, 3) := by decide +kernel
theorem dX11_fair_13 : decode cX11_fair 13 = .ok (.ifCond .ne 7, 3) := by decide +kernel
theorem dX11_fair_16 : decode cX11_fair 16 = .ok (.sipush (-1000), 3) := by decide +kernel
theorem dX11_fair_19 : decode cX11_fair 19 = .ok (.ireturn, 1) := by decide +kernel
theorem dX11_fair_20 : decode cX11_fair 20 = .ok (.aload_n 0, 1) := by decide +kernel
theorem dX11_fair_21 : decode cX11_fair 21 = .ok (.getfield 39, 3) := by decide +kernel
theorem dX11_fair_24 : decode cX11_fair 24 = .ok (.getfield 311, 3) := by decide +kernel
theorem dX11_fair_27 : decode cX11_fair 27 = .ok (.iload_n 1, 1) := by decide +kernel
theorem dX11_fair_28 : decode cX11_fair 28 = .ok (.iaload, 1) := by decide +kernel
theorem dX11_fair_29 : decode cX11_fair 29 = .ok (.bipush 9, 2) := by decide +kernel
theorem dX11_fair_31 : decode cX11_fair 31 = .ok (.invokestatic 312, 3) := by decide +kernel
theorem dX11_fair_34 : decode cX11_fair 34 = .ok (.istore 4, 2) := by decide +kernel
theorem dX11_fair_36 : decode cX11_fair 36 = .ok (.aload_n 0, 1) := by decide +kernel
theorem dX11_fair_37 : decode cX11_fair 37 = .ok (.getfield 39, 3) := by decide +kernel
theorem dX11_fair_40 : decode cX11_fair 40 = .ok (.getfield 317, 3) := by decide +kernel
theorem dX11_fair_43 : decode cX11_fair 43 = .ok (.iload_n 1, 1) := by decide +kernel
theorem dX11_fair_44 : decode cX11_fair 44 = .ok (.iaload, 1) := by decide +kernel
theorem dX11_fair_45 : decode cX11_fair 45 = .ok (.iconst 5, 1) := by decide +kernel
theorem dX11_fair_46 : decode cX11_fair 46 = .ok (.invokestatic 312, 3) := by decide +kernel
theorem dX11_fair_49 : decode cX11_fair 49 = .ok (.istore 5, 2) := by decide +kernel
theorem dX11_fair_51 : decode cX11_fair 51 = .ok (.aload_n 0, 1) := by decide +kernel
theorem dX11_fair_52 : decode cX11_fair 52 = .ok (.getfield 53, 3) := by decide +kernel
theorem dX11_fair_55 : decode cX11_fair 55 = .ok (.iload 4, 2) := by decide +kernel
theorem dX11_fair_57 : decode cX11_fair 57 = .ok (.iload 5, 2) := by decide +kernel
theorem dX11_fair_59 : decode cX11_fair 59 = .ok (.iload_n 2, 1) := by decide +kernel
theorem dX11_fair_60 : decode cX11_fair 60 = .ok (.iload_n 3, 1) := by decide +kernel
theorem dX11_fair_61 : decode cX11_fair 61 = .ok (.aload_n 0, 1) := by decide +kernel
theorem dX11_fair_62 : decode cX11_fair 62 = .ok (.getfield 10, 3) := by decide +kernel
theorem dX11_fair_65 : decode cX11_fair 65 = .ok (.getfield 76, 3) := by decide +kernel
theorem dX11_fair_68 : decode cX11_fair 68 = .ok (.invokevirtual 318, 3) := by decide +kernel
theorem dX11_fair_71 : decode cX11_fair 71 = .ok (.ireturn, 1) := by decide +kernel
theorem dX11_unasked_0 : decode cX11_unasked 0 = .ok (.iload_n 1, 1) := by decide +kernel
theorem dX11_unasked_1 : decode cX11_unasked 1 = .ok (.iconst 1, 1) := by decide +kernel
theorem dX11_unasked_2 : decode cX11_unasked 2 = .ok (.iconst 5, 1) := by decide +kernel
theorem dX11_unasked_3 : decode cX11_unasked 3 = .ok (.invokestatic 72, 3) := by decide +kernel
theorem dX11_unasked_6 : decode cX11_unasked 6 = .ok (.ifCond .eq 13, 3) := by decide +kernel
theorem dX11_unasked_9 : decode cX11_unasked 9 = .ok (.iload_n 2, 1) := by decide +kernel
theorem dX11_unasked_10 : decode cX11_unasked 10 = .ok (.iconst 0, 1) := by decide +kernel
theorem dX11_unasked_11 : decode cX11_unasked 11 = .ok (.bipush 9, 2) := by decide +kernel
theorem dX11_unasked_13 : decode cX11_unasked 13 = .ok (.invokestatic 72, 3) := by decide +kernel
theorem dX11_unasked_16 : decode cX11_unasked 16 = .ok (.ifCond .ne 5, 3) := by decide +kernel
theorem dX11_unasked_19 : decode cX11_unasked 19 = .ok (.iconst (-1), 1) := by decide +kernel
theorem dX11_unasked_20 : decode cX11_unasked 20 = .ok (.ireturn, 1) := by decide +kernel
theorem dX11_unasked_21 : decode cX11_unasked 21 = .ok (.iconst 0, 1) := by decide +kernel
theorem dX11_unasked_22 : decode cX11_unasked 22 = .ok (.istore_n 3, 1) := by decide +kernel
theorem dX11_unasked_23 : decode cX11_unasked 23 = .ok (.iload_n 3, 1) := by decide +kernel
theorem dX11_unasked_24 : decode cX11_unasked 24 = .ok (.sipush 500, 3) := by decide +kernel
theorem dX11_unasked_27 : decode cX11_unasked 27 = .ok (.if_icmp .gt 32, 3) := by decide +kernel
theorem dX11_unasked_30 : decode cX11_unasked 30 = .ok (.aload_n 0, 1) := by decide +kernel
theorem dX11_unasked_31 : decode cX11_unasked 31 = .ok (.getfield 53, 3) := by decide +kernel
theorem dX11_unasked_34 : decode cX11_unasked 34 = .ok (.iload_n 2, 1) := by decide +kernel
theorem dX11_unasked_35 : decode cX11_unasked 35 = .ok (.iload_n 3, 1) := by decide +kernel
theorem dX11_unasked_36 : decode cX11_unasked 36 = .ok (.iload_n 1, 1) := by decide +kernel
theorem dX11_unasked_37 : decode cX11_unasked 37 = .ok (.aload_n 0, 1) := by decide +kernel
theorem dX11_unasked_38 : decode cX11_unasked 38 = .ok (.getfield 10, 3) := by decide +kernel
theorem dX11_unasked_41 : decode cX11_unasked 41 = .ok (.getfield 76, 3) := by decide +kernel
theorem dX11_unasked_44 : decode cX11_unasked 44 = .ok (.invokevirtual 294, 3) := by decide +kernel
theorem dX11_unasked_47 : decode cX11_unasked 47 = .ok (.iconst (-1), 1) := by decide +kernel
theorem dX11_unasked_48 : decode cX11_unasked 48 = .ok (.if_icmp .ne 5, 3) := by decide +kernel
theorem dX11_unasked_51 : decode cX11_unasked 51 = .ok (.iload_n 3, 1) := by decide +kernel
theorem dX11_unasked_52 : decode cX11_unasked 52 = .ok (.ireturn, 1) := by decide +kernel
theorem dX11_unasked_53 : decode cX11_unasked 53 = .ok (.iinc 3 1, 3) := by decide +kernel
theorem dX11_unasked_56 : decode cX11_unasked 56 = .ok (.goto (-33), 3) := by decide +kernel
theorem dX11_unasked_59 : decode cX11_unasked 59 = .ok (.iconst (-1), 1) := by decide +kernel
theorem dX11_unasked_60 : decode cX11_unasked 60 = .ok (.ireturn, 1) := by decide +kernel
theorem dX11_hear_0 : decode cX11_hear 0 = .ok (.iload_n 1, 1) := by decide +kernel
theorem dX11_hear_1 : decode cX11_hear 1 = .ok (.iconst (-1), 1) := by decide +kernel
theorem dX11_hear_2 : decode cX11_hear 2 = .ok (.if_icmp .ne 12, 3) := by decide +kernel
theorem dX11_hear_5 : decode cX11_hear 5 = .ok (.aload_n 0, 1) := by decide +kernel
theorem dX11_hear_6 : decode cX11_hear 6 = .ok (.getfield 60, 3) := by decide +kernel
theorem dX11_hear_9 : decode cX11_hear 9 = .ok (.invokevirtual 322, 3) := by decide +kernel
theorem dX11_hear_12 : decode cX11_hear 12 = .ok (.iconst 0, 1) := by decide +kernel
theorem dX11_hear_13 : decode cX11_hear 13 = .ok (.ireturn, 1) := by decide +kernel
theorem dX11_hear_14 : decode cX11_hear 14 = .ok (.aload_n 0, 1) := by decide +kernel
theorem dX11_hear_15 : decode cX11_hear 15 = .ok (.iload_n 1, 1) := by decide +kernel
theorem dX11_hear_16 : decode cX11_hear 16 = .ok (.invokevirtual 221, 3) := by decide +kernel
theorem dX11_hear_19 : decode cX11_hear 19 = .ok (.ifCond .eq 23, 3) := by decide +kernel
theorem dX11_hear_22 : decode cX11_hear 22 = .ok (.aload_n 0, 1) := by decide +kernel
theorem dX11_hear_23 : decode cX11_hear 23 = .ok (.iload_n 2, 1) := by decide +kernel
theorem dX11_hear_24 : decode cX11_hear 24 = .ok (.invokevirtual 179, 3) := by decide +kernel
theorem dX11_hear_27 : decode cX11_hear 27 = .ok (.ifCond .eq 15, 3) := by decide +kernel
theorem dX11_hear_30 : decode cX11_hear 30 = .ok (.aload_n 0, 1) := by decide +kernel
theorem dX11_hear_31 : decode cX11_hear 31 = .ok (.getfield 60, 3) := by decide +kernel
theorem dX11_hear_34 : decode cX11_hear 34 = .ok (.iload_n 1, 1) := by decide +kernel
theorem dX11_hear_35 : decode cX11_hear 35 = .ok (.iload_n 2, 1) := by decide +kernel
theorem dX11_hear_36 : decode cX11_hear 36 = .ok (.invokevirtual 325, 3) := by decide +kernel
theorem dX11_hear_39 : decode cX11_hear 39 = .ok (.goto 5, 3) := by decide +kernel
theorem dX11_hear_42 : decode cX11_hear 42 = .ok (.bipush (-2), 2) := by decide +kernel
theorem dX11_hear_44 : decode cX11_hear 44 = .ok (.ireturn, 1) := by decide +kernel
theorem dX11_worlds_0 : decode cX11_worlds 0 = .ok (.aload_n 0, 1) := by decide +kernel
theorem dX11_worlds_1 : decode cX11_worlds 1 = .ok (.getfield 60, 3) := by decide +kernel
theorem dX11_worlds_4 : decode cX11_worlds 4 = .ok (.aload_n 0, 1) := by decide +kernel
theorem dX11_worlds_5 : decode cX11_worlds 5 = .ok (.getfield 32, 3) := by decide +kernel
theorem dX11_worlds_8 : decode cX11_worlds 8 = .ok (.aload_n 0, 1) := by decide +kernel
theorem dX11_worlds_9 : decode cX11_worlds 9 = .ok (.getfield 10, 3) := by decide +kernel
theorem dX11_worlds_12 : decode cX11_worlds 12 = .ok (.invokevirtual 328, 3) := by decide +kernel
theorem dX11_worlds_15 : decode cX11_worlds 15 = .ok (.istore_n 2, 1) := by decide +kernel
theorem dX11_worlds_16 : decode cX11_worlds 16 = .ok (.iload_n 1, 1) := by decide +kernel
theorem dX11_worlds_17 : decode cX11_worlds 17 = .ok (.iconst (-1), 1) := by decide +kernel
theorem dX11_worlds_18 : decode cX11_worlds 18 = .ok (.if_icmp .ne 5, 3) := by decide +kernel
theorem dX11_worlds_21 : decode cX11_worlds 21 = .ok (.iload_n 2, 1) := by decide +kernel
theorem dX11_worlds_22 : decode cX11_worlds 22 = .ok (.ireturn, 1) := by decide +kernel
theorem dX11_worlds_23 : decode cX11_worlds 23 = .ok (.iload_n 1, 1) := by decide +kernel
theorem dX11_worlds_24 : decode cX11_worlds 24 = .ok (.iconst 0, 1) := by decide +kernel
theorem dX11_worlds_25 : decode cX11_worlds 25 = .ok (.iload_n 2, 1) := by decide +kernel
theorem dX11_worlds_26 : decode cX11_worlds 26 = .ok (.iconst 1, 1) := by decide +kernel
theorem dX11_worlds_27 : decode cX11_worlds 27 = .ok (.isub, 1) := by decide +kernel
theorem dX11_worlds_28 : decode cX11_worlds 28 = .ok (.invokestatic 72, 3) := by decide +kernel
theorem dX11_worlds_31 : decode cX11_worlds 31 = .ok (.ifCond .eq 15, 3) := by decide +kernel
theorem dX11_worlds_34 : decode cX11_worlds 34 = .ok (.aload_n 0, 1) := by decide +kernel
theorem dX11_worlds_35 : decode cX11_worlds 35 = .ok (.getfield 60, 3) := by decide +kernel
theorem dX11_worlds_38 : decode cX11_worlds 38 = .ok (.getfield 332, 3) := by decide +kernel
theorem dX11_worlds_41 : decode cX11_worlds 41 = .ok (.iload_n 1, 1) := by decide +kernel
theorem dX11_worlds_42 : decode cX11_worlds 42 = .ok (.iaload, 1) := by decide +kernel
theorem dX11_worlds_43 : decode cX11_worlds 43 = .ok (.goto 4, 3) := by decide +kernel
theorem dX11_worlds_46 : decode cX11_worlds 46 = .ok (.iconst (-1), 1) := by decide +kernel
theorem dX11_worlds_47 : decode cX11_worlds 47 = .ok (.ireturn, 1) := by decide +kernel
theorem dX11_knew_0 : decode cX11_knew 0 = .ok (.aload_n 0, 1) := by decide +kernel
theorem dX11_knew_1 : decode cX11_knew 1 = .ok (.iload_n 1, 1) := by decide +kernel
theorem dX11_knew_2 : decode cX11_knew 2 = .ok (.invokevirtual 221, 3) := by decide +kernel
theorem dX11_knew_5 : decode cX11_knew 5 = .ok (.ifCond .eq 18, 3) := by decide +kernel
theorem dX11_knew_8 : decode cX11_knew 8 = .ok (.aload_n 0, 1) := by decide +kernel
theorem dX11_knew_9 : decode cX11_knew 9 = .ok (.getfield 60, 3) := by decide +kernel
theorem dX11_knew_12 : decode cX11_knew 12 = .ok (.iload_n 1, 1) := by decide +kernel
theorem dX11_knew_13 : decode cX11_knew 13 = .ok (.aload_n 0, 1) := by decide +kernel
theorem dX11_knew_14 : decode cX11_knew 14 = .ok (.getfield 32, 3) := by decide +kernel
theorem dX11_knew_17 : decode cX11_knew 17 = .ok (.invokevirtual 335, 3) := by decide +kernel
theorem dX11_knew_20 : decode cX11_knew 20 = .ok (.goto 4, 3) := by decide +kernel
theorem dX11_knew_23 : decode cX11_knew 23 = .ok (.iconst (-1), 1) := by decide +kernel
theorem dX11_knew_24 : decode cX11_knew 24 = .ok (.ireturn, 1) := by decide +kernel
theorem dX11_tell_0 : decode cX11_tell 0 = .ok (.iload_n 1, 1) := by decide +kernel
theorem dX11_tell_1 : decode cX11_tell 1 = .ok (.iconst (-1), 1) := by decide +kernel
theorem dX11_tell_2 : decode cX11_tell 2 = .ok (.if_icmp .ne 13, 3) := by decide +kernel
theorem dX11_tell_5 : decode cX11_tell 5 = .ok (.aload_n 0, 1) := by decide +kernel
theorem dX11_tell_6 : decode cX11_tell 6 = .ok (.getfield 60, 3) := by decide +kernel
theorem dX11_tell_9 : decode cX11_tell 9 = .ok (.iconst 0, 1) := by decide +kernel
theorem dX11_tell_10 : decode cX11_tell 10 = .ok (.putfield 338, 3) := by decide +kernel
theorem dX11_tell_13 : decode cX11_tell 13 = .ok (.iconst 0, 1) := by decide +kernel
theorem dX11_tell_14 : decode cX11_tell 14 = .ok (.ireturn, 1) := by decide +kernel
theorem dX11_tell_15 : decode cX11_tell 15 = .ok (.aload_n 0, 1) := by decide +kernel
theorem dX11_tell_16 : decode cX11_tell 16 = .ok (.iload_n 1, 1) := by decide +kernel
theorem dX11_tell_17 : decode cX11_tell 17 = .ok (.invokevirtual 179, 3) := by decide +kernel
theorem dX11_tell_20 : decode cX11_tell 20 = .ok (.ifCond .eq 18, 3) := by decide +kernel
theorem dX11_tell_23 : decode cX11_tell 23 = .ok (.iload_n 2, 1) := by decide +kernel
theorem dX11_tell_24 : decode cX11_tell 24 = .ok (.ldc 213, 2) := by decide +kernel
theorem dX11_tell_26 : decode cX11_tell 26 = .ok (.ldc 214, 2) := by decide +kernel
theorem dX11_tell_28 : decode cX11_tell 28 = .ok (.invokestatic 72, 3) := by decide +kernel
theorem dX11_tell_31 : decode cX11_tell 31 = .ok (.ifCond .eq 7, 3) := by decide +kernel
theorem dX11_tell_34 : decode cX11_tell 34 = .ok (.iconst 1, 1) := by decide +kernel
theorem dX11_tell_35 : decode cX11_tell 35 = .ok (.goto 4, 3) := by decide +kernel
theorem dX11_tell_38 : decode cX11_tell 38 = .ok (.iconst 0, 1) := by decide +kernel
theorem dX11_tell_39 : decode cX11_tell 39 = .ok (.istore_n 3, 1) := by decide +kernel
theorem dX11_tell_40 : decode cX11_tell 40 = .ok (.iload_n 3, 1) := by decide +kernel
theorem dX11_tell_41 : decode cX11_tell 41 = .ok (.ifCond .eq 15, 3) := by decide +kernel
theorem dX11_tell_44 : decode cX11_tell 44 = .ok (.aload_n 0, 1) := by decide +kernel
theorem dX11_tell_45 : decode cX11_tell 45 = .ok (.getfield 60, 3) := by decide +kernel
theorem dX11_tell_48 : decode cX11_tell 48 = .ok (.iload_n 1, 1) := by decide +kernel
theorem dX11_tell_49 : decode cX11_tell 49 = .ok (.iload_n 2, 1) := by decide +kernel
theorem dX11_tell_50 : decode cX11_tell 50 = .ok (.invokevirtual 341, 3) := by decide +kernel
theorem dX11_tell_53 : decode cX11_tell 53 = .ok (.goto 5, 3) := by decide +kernel
theorem dX11_tell_56 : decode cX11_tell 56 = .ok (.bipush (-2), 2) := by decide +kernel
theorem dX11_tell_58 : decode cX11_tell 58 = .ok (.ireturn, 1) := by decide +kernel
theorem dX11_lies_0 : decode cX11_lies 0 = .ok (.aload_n 0, 1) := by decide +kernel
theorem dX11_lies_1 : decode cX11_lies 1 = .ok (.invokevirtual 135, 3) := by decide +kernel
theorem dX11_lies_4 : decode cX11_lies 4 = .ok (.aload_n 0, 1) := by decide +kernel
theorem dX11_lies_5 : decode cX11_lies 5 = .ok (.getfield 60, 3) := by decide +kernel
theorem dX11_lies_8 : decode cX11_lies 8 = .ok (.aload_n 0, 1) := by decide +kernel
theorem dX11_lies_9 : decode cX11_lies 9 = .ok (.getfield 32, 3) := by decide +kernel
theorem dX11_lies_12 : decode cX11_lies 12 = .ok (.invokevirtual 344, 3) := by decide +kernel
theorem dX11_lies_15 : decode cX11_lies 15 = .ok (.ireturn, 1) := by decide +kernel
theorem dX11_clash_0 : decode cX11_clash 0 = .ok (.aload_n 0, 1) := by decide +kernel
theorem dX11_clash_1 : decode cX11_clash 1 = .ok (.invokevirtual 135, 3) := by decide +kernel
theorem dX11_clash_4 : decode cX11_clash 4 = .ok (.aload_n 0, 1) := by decide +kernel
theorem dX11_clash_5 : decode cX11_clash 5 = .ok (.getfield 60, 3) := by decide +kernel
theorem dX11_clash_8 : decode cX11_clash 8 = .ok (.aload_n 0, 1) := by decide +kernel
theorem dX11_clash_9 : decode cX11_clash 9 = .ok (.getfield 32, 3) := by decide +kernel
theorem dX11_clash_12 : decode cX11_clash 12 = .ok (.invokevirtual 347, 3) := by decide +kernel
theorem dX11_clash_15 : decode cX11_clash 15 = .ok (.ireturn, 1) := by decide +kernel
theorem dX11_image_0 : decode cX11_image 0 = .ok (.aload_n 0, 1) := by decide +kernel
theorem dX11_image_1 : decode cX11_image 1 = .ok (.invokevirtual 350, 3) := by decide +kernel
theorem dX11_image_4 : decode cX11_image 4 = .ok (.aload_n 0, 1) := by decide +kernel
theorem dX11_image_5 : decode cX11_image 5 = .ok (.getfield 39, 3) := by decide +kernel
theorem dX11_image_8 : decode cX11_image 8 = .ok (.getfield 235, 3) := by decide +kernel
theorem dX11_image_11 : decode cX11_image 11 = .ok (.ireturn, 1) := by decide +kernel
theorem dX11_back_0 : decode cX11_back 0 = .ok (.aload_n 0, 1) := by decide +kernel
theorem dX11_back_1 : decode cX11_back 1 = .ok (.getfield 67, 3) := by decide +kernel
theorem dX11_back_4 : decode cX11_back 4 = .ok (.invokevirtual 353, 3) := by decide +kernel
theorem dX11_back_7 : decode cX11_back 7 = .ok (.aload_n 0, 1) := by decide +kernel
theorem dX11_back_8 : decode cX11_back 8 = .ok (.aload_n 0, 1) := by decide +kernel
theorem dX11_back_9 : decode cX11_back 9 = .ok (.getfield 67, 3) := by decide +kernel
theorem dX11_back_12 : decode cX11_back 12 = .ok (.invokevirtual 356, 3) := by decide +kernel
theorem dX11_back_15 : decode cX11_back 15 = .ok (.putfield 111, 3) := by decide +kernel
theorem dX11_back_18 : decode cX11_back 18 = .ok (.aload_n 0, 1) := by decide +kernel
theorem dX11_back_19 : decode cX11_back 19 = .ok (.getfield 10, 3) := by decide +kernel
theorem dX11_back_22 : decode cX11_back 22 = .ok (.aload_n 0, 1) := by decide +kernel
theorem dX11_back_23 : decode cX11_back 23 = .ok (.getfield 67, 3) := by decide +kernel
theorem dX11_back_26 : decode cX11_back 26 = .ok (.invokevirtual 359, 3) := by decide +kernel
theorem dX11_back_29 : decode cX11_back 29 = .ok (.aload_n 0, 1) := by decide +kernel
theorem dX11_back_30 : decode cX11_back 30 = .ok (.getfield 32, 3) := by decide +kernel
theorem dX11_back_33 : decode cX11_back 33 = .ok (.aload_n 0, 1) := by decide +kernel
theorem dX11_back_34 : decode cX11_back 34 = .ok (.getfield 67, 3) := by decide +kernel
theorem dX11_back_37 : decode cX11_back 37 = .ok (.invokevirtual 363, 3) := by decide +kernel
theorem dX11_back_40 : decode cX11_back 40 = .ok (.aload_n 0, 1) := by decide +kernel
theorem dX11_back_41 : decode cX11_back 41 = .ok (.getfield 39, 3) := by decide +kernel
theorem dX11_back_44 : decode cX11_back 44 = .ok (.aload_n 0, 1) := by decide +kernel
theorem dX11_back_45 : decode cX11_back 45 = .ok (.getfield 67, 3) := by decide +kernel
theorem dX11_back_48 : decode cX11_back 48 = .ok (.invokevirtual 364, 3) := by decide +kernel
theorem dX11_back_51 : decode cX11_back 51 = .ok (.aload_n 0, 1) := by decide +kernel
theorem dX11_back_52 : decode cX11_back 52 = .ok (.getfield 60, 3) := by decide +kernel
theorem dX11_back_55 : decode cX11_back 55 = .ok (.aload_n 0, 1) := by decide +kernel
theorem dX11_back_56 : decode cX11_back 56 = .ok (.getfield 67, 3) := by decide +kernel
theorem dX11_back_59 : decode cX11_back 59 = .ok (.invokevirtual 365, 3) := by decide +kernel
theorem dX11_back_62 : decode cX11_back 62 = .ok (.aload_n 0, 1) := by decide +kernel
theorem dX11_back_63 : decode cX11_back 63 = .ok (.getfield 39, 3) := by decide +kernel
theorem dX11_back_66 : decode cX11_back 66 = .ok (.getfield 235, 3) := by decide +kernel
theorem dX11_back_69 : decode cX11_back 69 = .ok (.ireturn, 1) := by decide +kernel
theorem dX11_saveAll_0 : decode cX11_saveAll 0 = .ok (.aload_n 0, 1) := by decide +kernel
theorem dX11_saveAll_1 : decode cX11_saveAll 1 = .ok (.getfield 67, 3) := by decide +kernel
theorem dX11_saveAll_4 : decode cX11_saveAll 4 = .ok (.invokevirtual 353, 3) := by decide +kernel
theorem dX11_saveAll_7 : decode cX11_saveAll 7 = .ok (.aload_n 0, 1) := by decide +kernel
theorem dX11_saveAll_8 : decode cX11_saveAll 8 = .ok (.getfield 67, 3) := by decide +kernel
theorem dX11_saveAll_11 : decode cX11_saveAll 11 = .ok (.aload_n 0, 1) := by decide +kernel
theorem dX11_saveAll_12 : decode cX11_saveAll 12 = .ok (.getfield 111, 3) := by decide +kernel
theorem dX11_saveAll_15 : decode cX11_saveAll 15 = .ok (.invokevirtual 366, 3) := by decide +kernel
theorem dX11_saveAll_18 : decode cX11_saveAll 18 = .ok (.aload_n 0, 1) := by decide +kernel
theorem dX11_saveAll_19 : decode cX11_saveAll 19 = .ok (.getfield 10, 3) := by decide +kernel
theorem dX11_saveAll_22 : decode cX11_saveAll 22 = .ok (.aload_n 0, 1) := by decide +kernel
theorem dX11_saveAll_23 : decode cX11_saveAll 23 = .ok (.getfield 67, 3) := by decide +kernel
theorem dX11_saveAll_26 : decode cX11_saveAll 26 = .ok (.invokevirtual 369, 3) := by decide +kernel
theorem dX11_saveAll_29 : decode cX11_saveAll 29 = .ok (.aload_n 0, 1) := by decide +kernel
theorem dX11_saveAll_30 : decode cX11_saveAll 30 = .ok (.getfield 32, 3) := by decide +kernel
theorem dX11_saveAll_33 : decode cX11_saveAll 33 = .ok (.aload_n 0, 1) := by decide +kernel
theorem dX11_saveAll_34 : decode cX11_saveAll 34 = .ok (.getfield 67, 3) := by decide +kernel
theorem dX11_saveAll_37 : decode cX11_saveAll 37 = .ok (.invokevirtual 372, 3) := by decide +kernel
theorem dX11_saveAll_40 : decode cX11_saveAll 40 = .ok (.aload_n 0, 1) := by decide +kernel
theorem dX11_saveAll_41 : decode cX11_saveAll 41 = .ok (.getfield 39, 3) := by decide +kernel
theorem dX11_saveAll_44 : decode cX11_saveAll 44 = .ok (.aload_n 0, 1) := by decide +kernel
theorem dX11_saveAll_45 : decode cX11_saveAll 45 = .ok (.getfield 67, 3) := by decide +kernel
theorem dX11_saveAll_48 : decode cX11_saveAll 48 = .ok (.invokevirtual 373, 3) := by decide +kernel
theorem dX11_saveAll_51 : decode cX11_saveAll 51 = .ok (.aload_n 0, 1) := by decide +kernel
theorem dX11_saveAll_52 : decode cX11_saveAll 52 = .ok (.getfield 60, 3) := by decide +kernel
theorem dX11_saveAll_55 : decode cX11_saveAll 55 = .ok (.aload_n 0, 1) := by decide +kernel
theorem dX11_saveAll_56 : decode cX11_saveAll 56 = .ok (.getfield 67, 3) := by decide +kernel
theorem dX11_saveAll_59 : decode cX11_saveAll 59 = .ok (.invokevirtual 374, 3) := by decide +kernel
theorem dX11_saveAll_62 : decode cX11_saveAll 62 = .ok (.return_, 1) := by decide +kernel
theorem dX11_about_0 : decode cX11_about 0 = .ok (.iload_n 1, 1) := by decide +kernel
theorem dX11_about_1 : decode cX11_about 1 = .ok (.bipush 10, 2) := by decide +kernel
theorem dX11_about_3 : decode cX11_about 3 = .ok (.if_icmp .ge 9, 3) := by decide +kernel
theorem dX11_about_6 : decode cX11_about 6 = .ok (.aload_n 0, 1) := by decide +kernel
theorem dX11_about_7 : decode cX11_about 7 = .ok (.iload_n 1, 1) := by decide +kernel
theorem dX11_about_8 : decode cX11_about 8 = .ok (.invokevirtual 375, 3) := by decide +kernel
theorem dX11_about_11 : decode cX11_about 11 = .ok (.ireturn, 1) := by decide +kernel
theorem dX11_about_12 : decode cX11_about 12 = .ok (.iload_n 1, 1) := by decide +kernel
theorem dX11_about_13 : decode cX11_about 13 = .ok (.bipush 10, 2) := by decide +kernel
theorem dX11_about_15 : decode cX11_about 15 = .ok (.bipush 13, 2) := by decide +kernel
theorem dX11_about_17 : decode cX11_about 17 = .ok (.invokestatic 72, 3) := by decide +kernel
theorem dX11_about_20 : decode cX11_about 20 = .ok (.ifCond .eq 16, 3) := by decide +kernel
theorem dX11_about_23 : decode cX11_about 23 = .ok (.aload_n 0, 1) := by decide +kernel
theorem dX11_about_24 : decode cX11_about 24 = .ok (.getfield 10, 3) := by decide +kernel
theorem dX11_about_27 : decode cX11_about 27 = .ok (.getfield 76, 3) := by decide +kernel
theorem dX11_about_30 : decode cX11_about 30 = .ok (.iload_n 1, 1) := by decide +kernel
theorem dX11_about_31 : decode cX11_about 31 = .ok (.bipush 10, 2) := by decide +kernel
theorem dX11_about_33 : decode cX11_about 33 = .ok (.isub, 1) := by decide +kernel
theorem dX11_about_34 : decode cX11_about 34 = .ok (.iaload, 1) := by decide +kernel
theorem dX11_about_35 : decode cX11_about 35 = .ok (.ireturn, 1) := by decide +kernel
theorem dX11_about_36 : decode cX11_about 36 = .ok (.iload_n 1, 1) := by decide +kernel
theorem dX11_about_37 : decode cX11_about 37 = .ok (.bipush 20, 2) := by decide +kernel
theorem dX11_about_39 : decode cX11_about 39 = .ok (.bipush 20, 2) := by decide +kernel
theorem dX11_about_41 : decode cX11_about 41 = .ok (.aload_n 0, 1) := by decide +kernel
theorem dX11_about_42 : decode cX11_about 42 = .ok (.getfield 39, 3) := by decide +kernel
theorem dX11_about_45 : decode cX11_about 45 = .ok (.getfield 261, 3) := by decide +kernel
theorem dX11_about_48 : decode cX11_about 48 = .ok (.iadd, 1) := by decide +kernel
theorem dX11_about_49 : decode cX11_about 49 = .ok (.iconst 1, 1) := by decide +kernel
theorem dX11_about_50 : decode cX11_about 50 = .ok (.isub, 1) := by decide +kernel
theorem dX11_about_51 : decode cX11_about 51 = .ok (.invokestatic 72, 3) := by decide +kernel
theorem dX11_about_54 : decode cX11_about 54 = .ok (.ifCond .eq 16, 3) := by decide +kernel
theorem dX11_about_57 : decode cX11_about 57 = .ok (.aload_n 0, 1) := by decide +kernel
theorem dX11_about_58 : decode cX11_about 58 = .ok (.getfield 39, 3) := by decide +kernel
theorem dX11_about_61 : decode cX11_about 61 = .ok (.getfield 378, 3) := by decide +kernel
theorem dX11_about_64 : decode cX11_about 64 = .ok (.iload_n 1, 1) := by decide +kernel
theorem dX11_about_65 : decode cX11_about 65 = .ok (.bipush 20, 2) := by decide +kernel
theorem dX11_about_67 : decode cX11_about 67 = .ok (.isub, 1) := by decide +kernel
theorem dX11_about_68 : decode cX11_about 68 = .ok (.iaload, 1) := by decide +kernel
theorem dX11_about_69 : decode cX11_about 69 = .ok (.ireturn, 1) := by decide +kernel
theorem dX11_about_70 : decode cX11_about 70 = .ok (.iload_n 1, 1) := by decide +kernel
theorem dX11_about_71 : decode cX11_about 71 = .ok (.bipush 30, 2) := by decide +kernel
theorem dX11_about_73 : decode cX11_about 73 = .ok (.bipush 30, 2) := by decide +kernel
theorem dX11_about_75 : decode cX11_about 75 = .ok (.aload_n 0, 1) := by decide +kernel
theorem dX11_about_76 : decode cX11_about 76 = .ok (.getfield 10, 3) := by decide +kernel
theorem dX11_about_79 : decode cX11_about 79 = .ok (.getfield 87, 3) := by decide +kernel
theorem dX11_about_82 : decode cX11_about 82 = .ok (.iadd, 1) := by decide +kernel
theorem dX11_about_83 : decode cX11_about 83 = .ok (.iconst 1, 1) := by decide +kernel
theorem dX11_about_84 : decode cX11_about 84 = .ok (.isub, 1) := by decide +kernel
theorem dX11_about_85 : decode cX11_about 85 = .ok (.invokestatic 72, 3) := by decide +kernel
theorem dX11_about_88 : decode cX11_about 88 = .ok (.ifCond .eq 16, 3) := by decide +kernel
theorem dX11_about_91 : decode cX11_about 91 = .ok (.aload_n 0, 1) := by decide +kernel
theorem dX11_about_92 : decode cX11_about 92 = .ok (.getfield 10, 3) := by decide +kernel
theorem dX11_about_95 : decode cX11_about 95 = .ok (.getfield 381, 3) := by decide +kernel
theorem dX11_about_98 : decode cX11_about 98 = .ok (.iload_n 1, 1) := by decide +kernel
theorem dX11_about_99 : decode cX11_about 99 = .ok (.bipush 30, 2) := by decide +kernel
theorem dX11_about_101 : decode cX11_about 101 = .ok (.isub, 1) := by decide +kernel
theorem dX11_about_102 : decode cX11_about 102 = .ok (.iaload, 1) := by decide +kernel
theorem dX11_about_103 : decode cX11_about 103 = .ok (.ireturn, 1) := by decide +kernel
theorem dX11_about_104 : decode cX11_about 104 = .ok (.iload_n 1, 1) := by decide +kernel
theorem dX11_about_105 : decode cX11_about 105 = .ok (.bipush 40, 2) := by decide +kernel
theorem dX11_about_107 : decode cX11_about 107 = .ok (.bipush 40, 2) := by decide +kernel
theorem dX11_about_109 : decode cX11_about 109 = .ok (.aload_n 0, 1) := by decide +kernel
theorem dX11_about_110 : decode cX11_about 110 = .ok (.getfield 39, 3) := by decide +kernel
theorem dX11_about_113 : decode cX11_about 113 = .ok (.getfield 261, 3) := by decide +kernel
theorem dX11_about_116 : decode cX11_about 116 = .ok (.iadd, 1) := by decide +kernel
theorem dX11_about_117 : decode cX11_about 117 = .ok (.iconst 1, 1) := by decide +kernel
theorem dX11_about_118 : decode cX11_about 118 = .ok (.isub, 1) := by decide +kernel
theorem dX11_about_119 : decode cX11_about 119 = .ok (.invokestatic 72, 3) := by decide +kernel
theorem dX11_about_122 : decode cX11_about 122 = .ok (.ifCond .eq 16, 3) := by decide +kernel
theorem dX11_about_125 : decode cX11_about 125 = .ok (.aload_n 0, 1) := by decide +kernel
theorem dX11_about_126 : decode cX11_about 126 = .ok (.getfield 39, 3) := by decide +kernel
theorem dX11_about_129 : decode cX11_about 129 = .ok (.getfield 382, 3) := by decide +kernel
theorem dX11_about_132 : decode cX11_about 132 = .ok (.iload_n 1, 1) := by decide +kernel
theorem dX11_about_133 : decode cX11_about 133 = .ok (.bipush 40, 2) := by decide +kernel
theorem dX11_about_135 : decode cX11_about 135 = .ok (.isub, 1) := by decide +kernel
theorem dX11_about_136 : decode cX11_about 136 = .ok (.iaload, 1) := by decide +kernel
theorem dX11_about_137 : decode cX11_about 137 = .ok (.ireturn, 1) := by decide +kernel
theorem dX11_about_138 : decode cX11_about 138 = .ok (.ldc 182, 2) := by decide +kernel
theorem dX11_about_140 : decode cX11_about 140 = .ok (.ireturn, 1) := by decide +kernel
theorem dX11_amountOf_0 : decode cX11_amountOf 0 = .ok (.iload_n 1, 1) := by decide +kernel
theorem dX11_amountOf_1 : decode cX11_amountOf 1 = .ok (.tableswitch 135 0 9 #[55, 63, 71, 79, 87, 95, 103, 108, 116, 124], 55) := by decide +kernel
theorem dX11_amountOf_56 : decode cX11_amountOf 56 = .ok (.aload_n 0, 1) := by decide +kernel
theorem dX11_amountOf_57 : decode cX11_amountOf 57 = .ok (.getfield 32, 3) := by decide +kernel
theorem dX11_amountOf_60 : decode cX11_amountOf 60 = .ok (.getfield 383, 3) := by decide +kernel
theorem dX11_amountOf_63 : decode cX11_amountOf 63 = .ok (.ireturn, 1) := by decide +kernel
theorem dX11_amountOf_64 : decode cX11_amountOf 64 = .ok (.aload_n 0, 1) := by decide +kernel
theorem dX11_amountOf_65 : decode cX11_amountOf 65 = .ok (.getfield 10, 3) := by decide +kernel
theorem dX11_amountOf_68 : decode cX11_amountOf 68 = .ok (.getfield 87, 3) := by decide +kernel
theorem dX11_amountOf_71 : decode cX11_amountOf 71 = .ok (.ireturn, 1) := by decide +kernel
theorem dX11_amountOf_72 : decode cX11_amountOf 72 = .ok (.aload_n 0, 1) := by decide +kernel
theorem dX11_amountOf_73 : decode cX11_amountOf 73 = .ok (.getfield 39, 3) := by decide +kernel
theorem dX11_amountOf_76 : decode cX11_amountOf 76 = .ok (.getfield 261, 3) := by decide +kernel
theorem dX11_amountOf_79 : decode cX11_amountOf 79 = .ok (.ireturn, 1) := by decide +kernel
theorem dX11_amountOf_80 : decode cX11_amountOf 80 = .ok (.aload_n 0, 1) := by decide +kernel
theorem dX11_amountOf_81 : decode cX11_amountOf 81 = .ok (.getfield 39, 3) := by decide +kernel
theorem dX11_amountOf_84 : decode cX11_amountOf 84 = .ok (.getfield 215, 3) := by decide +kernel
theorem dX11_amountOf_87 : decode cX11_amountOf 87 = .ok (.ireturn, 1) := by decide +kernel
theorem dX11_amountOf_88 : decode cX11_amountOf 88 = .ok (.aload_n 0, 1) := by decide +kernel
theorem dX11_amountOf_89 : decode cX11_amountOf 89 = .ok (.getfield 32, 3) := by decide +kernel
theorem dX11_amountOf_92 : decode cX11_amountOf 92 = .ok (.getfield 386, 3) := by decide +kernel
theorem dX11_amountOf_95 : decode cX11_amountOf 95 = .ok (.ireturn, 1) := by decide +kernel
theorem dX11_amountOf_96 : decode cX11_amountOf 96 = .ok (.aload_n 0, 1) := by decide +kernel
theorem dX11_amountOf_97 : decode cX11_amountOf 97 = .ok (.getfield 39, 3) := by decide +kernel
theorem dX11_amountOf_100 : decode cX11_amountOf 100 = .ok (.getfield 235, 3) := by decide +kernel
theorem dX11_amountOf_103 : decode cX11_amountOf 103 = .ok (.ireturn, 1) := by decide +kernel
theorem dX11_amountOf_104 : decode cX11_amountOf 104 = .ok (.aload_n 0, 1) := by decide +kernel
theorem dX11_amountOf_105 : decode cX11_amountOf 105 = .ok (.getfield 111, 3) := by decide +kernel
theorem dX11_amountOf_108 : decode cX11_amountOf 108 = .ok (.ireturn, 1) := by decide +kernel
theorem dX11_amountOf_109 : decode cX11_amountOf 109 = .ok (.aload_n 0, 1) := by decide +kernel
theorem dX11_amountOf_110 : decode cX11_amountOf 110 = .ok (.getfield 60, 3) := by decide +kernel
theorem dX11_amountOf_113 : decode cX11_amountOf 113 = .ok (.getfield 389, 3) := by decide +kernel
theorem dX11_amountOf_116 : decode cX11_amountOf 116 = .ok (.ireturn, 1) := by decide +kernel
theorem dX11_amountOf_117 : decode cX11_amountOf 117 = .ok (.aload_n 0, 1) := by decide +kernel
theorem dX11_amountOf_118 : decode cX11_amountOf 118 = .ok (.getfield 60, 3) := by decide +kernel
theorem dX11_amountOf_121 : decode cX11_amountOf 121 = .ok (.getfield 338, 3) := by decide +kernel
theorem dX11_amountOf_124 : decode cX11_amountOf 124 = .ok (.ireturn, 1) := by decide +kernel
theorem dX11_amountOf_125 : decode cX11_amountOf 125 = .ok (.aload_n 0, 1) := by decide +kernel
theorem dX11_amountOf_126 : decode cX11_amountOf 126 = .ok (.getfield 19, 3) := by decide +kernel
theorem dX11_amountOf_129 : decode cX11_amountOf 129 = .ok (.getfield 98, 3) := by decide +kernel
theorem dX11_amountOf_132 : decode cX11_amountOf 132 = .ok (.getfield 102, 3) := by decide +kernel
theorem dX11_amountOf_135 : decode cX11_amountOf 135 = .ok (.ireturn, 1) := by decide +kernel
theorem dX11_amountOf_136 : decode cX11_amountOf 136 = .ok (.ldc 182, 2) := by decide +kernel
theorem dX11_amountOf_138 : decode cX11_amountOf 138 = .ok (.ireturn, 1) := by decide +kernel
theorem dX11_isQuestion_0 : decode cX11_isQuestion 0 = .ok (.iload_n 1, 1) := by decide +kernel
theorem dX11_isQuestion_1 : decode cX11_isQuestion 1 = .ok (.iconst 0, 1) := by decide +kernel
theorem dX11_isQuestion_2 : decode cX11_isQuestion 2 = .ok (.aload_n 0, 1) := by decide +kernel
theorem dX11_isQuestion_3 : decode cX11_isQuestion 3 = .ok (.getfield 32, 3) := by decide +kernel
theorem dX11_isQuestion_6 : decode cX11_isQuestion 6 = .ok (.getfield 383, 3) := by decide +kernel
theorem dX11_isQuestion_9 : decode cX11_isQuestion 9 = .ok (.iconst 1, 1) := by decide +kernel
theorem dX11_isQuestion_10 : decode cX11_isQuestion 10 = .ok (.isub, 1) := by decide +kernel
theorem dX11_isQuestion_11 : decode cX11_isQuestion 11 = .ok (.invokestatic 72, 3) := by decide +kernel
theorem dX11_isQuestion_14 : decode cX11_isQuestion 14 = .ok (.ireturn, 1) := by decide +kernel
theorem dX11_isPupil_0 : decode cX11_isPupil 0 = .ok (.iload_n 1, 1) := by decide +kernel
theorem dX11_isPupil_1 : decode cX11_isPupil 1 = .ok (.iconst 0, 1) := by decide +kernel
theorem dX11_isPupil_2 : decode cX11_isPupil 2 = .ok (.aload_n 0, 1) := by decide +kernel
theorem dX11_isPupil_3 : decode cX11_isPupil 3 = .ok (.getfield 39, 3) := by decide +kernel
theorem dX11_isPupil_6 : decode cX11_isPupil 6 = .ok (.getfield 261, 3) := by decide +kernel
theorem dX11_isPupil_9 : decode cX11_isPupil 9 = .ok (.iconst 1, 1) := by decide +kernel
theorem dX11_isPupil_10 : decode cX11_isPupil 10 = .ok (.isub, 1) := by decide +kernel
theorem dX11_isPupil_11 : decode cX11_isPupil 11 = .ok (.invokestatic 72, 3) := by decide +kernel
theorem dX11_isPupil_14 : decode cX11_isPupil 14 = .ok (.ireturn, 1) := by decide +kernel
theorem dX11_areValues_0 : decode cX11_areValues 0 = .ok (.iload_n 0, 1) := by decide +kernel
theorem dX11_areValues_1 : decode cX11_areValues 1 = .ok (.sipush (-500), 3) := by decide +kernel
theorem dX11_areValues_4 : decode cX11_areValues 4 = .ok (.sipush 500, 3) := by decide +kernel
theorem dX11_areValues_7 : decode cX11_areValues 7 = .ok (.invokestatic 72, 3) := by decide +kernel
theorem dX11_areValues_10 : decode cX11_areValues 10 = .ok (.ifCond .eq 20, 3) := by decide +kernel
theorem dX11_areValues_13 : decode cX11_areValues 13 = .ok (.iload_n 1, 1) := by decide +kernel
theorem dX11_areValues_14 : decode cX11_areValues 14 = .ok (.sipush (-500), 3) := by decide +kernel
theorem dX11_areValues_17 : decode cX11_areValues 17 = .ok (.sipush 500, 3) := by decide +kernel
theorem dX11_areValues_20 : decode cX11_areValues 20 = .ok (.invokestatic 72, 3) := by decide +kernel
theorem dX11_areValues_23 : decode cX11_areValues 23 = .ok (.ifCond .eq 7, 3) := by decide +kernel
theorem dX11_areValues_26 : decode cX11_areValues 26 = .ok (.iconst 1, 1) := by decide +kernel
theorem dX11_areValues_27 : decode cX11_areValues 27 = .ok (.goto 4, 3) := by decide +kernel
theorem dX11_areValues_30 : decode cX11_areValues 30 = .ok (.iconst 0, 1) := by decide +kernel
theorem dX11_areValues_31 : decode cX11_areValues 31 = .ok (.ireturn, 1) := by decide +kernel
theorem dX11_within_0 : decode cX11_within 0 = .ok (.iload_n 0, 1) := by decide +kernel
theorem dX11_within_1 : decode cX11_within 1 = .ok (.iload_n 1, 1) := by decide +kernel
theorem dX11_within_2 : decode cX11_within 2 = .ok (.if_icmp .lt 12, 3) := by decide +kernel
theorem dX11_within_5 : decode cX11_within 5 = .ok (.iload_n 0, 1) := by decide +kernel
theorem dX11_within_6 : decode cX11_within 6 = .ok (.iload_n 2, 1) := by decide +kernel
theorem dX11_within_7 : decode cX11_within 7 = .ok (.if_icmp .gt 7, 3) := by decide +kernel
theorem dX11_within_10 : decode cX11_within 10 = .ok (.iconst 1, 1) := by decide +kernel
theorem dX11_within_11 : decode cX11_within 11 = .ok (.goto 4, 3) := by decide +kernel
theorem dX11_within_14 : decode cX11_within 14 = .ok (.iconst 0, 1) := by decide +kernel
theorem dX11_within_15 : decode cX11_within 15 = .ok (.ireturn, 1) := by decide +kernel
theorem dX11_clamped_0 : decode cX11_clamped 0 = .ok (.lload_n 0, 1) := by decide +kernel
theorem dX11_clamped_1 : decode cX11_clamped 1 = .ok (.ldc2_w 392, 3) := by decide +kernel
theorem dX11_clamped_4 : decode cX11_clamped 4 = .ok (.lcmp, 1) := by decide +kernel
theorem dX11_clamped_5 : decode cX11_clamped 5 = .ok (.ifCond .le 6, 3) := by decide +kernel
theorem dX11_clamped_8 : decode cX11_clamped 8 = .ok (.ldc 214, 2) := by decide +kernel
theorem dX11_clamped_10 : decode cX11_clamped 10 = .ok (.ireturn, 1) := by decide +kernel
theorem dX11_clamped_11 : decode cX11_clamped 11 = .ok (.lload_n 0, 1) := by decide +kernel
theorem dX11_clamped_12 : decode cX11_clamped 12 = .ok (.ldc2_w 394, 3) := by decide +kernel
theorem dX11_clamped_15 : decode cX11_clamped 15 = .ok (.lcmp, 1) := by decide +kernel
theorem dX11_clamped_16 : decode cX11_clamped 16 = .ok (.ifCond .ge 8, 3) := by decide +kernel
theorem dX11_clamped_19 : decode cX11_clamped 19 = .ok (.ldc 213, 2) := by decide +kernel
theorem dX11_clamped_21 : decode cX11_clamped 21 = .ok (.goto 5, 3) := by decide +kernel
theorem dX11_clamped_24 : decode cX11_clamped 24 = .ok (.lload_n 0, 1) := by decide +kernel
theorem dX11_clamped_25 : decode cX11_clamped 25 = .ok (.l2i, 1) := by decide +kernel
theorem dX11_clamped_26 : decode cX11_clamped 26 = .ok (.ireturn, 1) := by decide +kernel
