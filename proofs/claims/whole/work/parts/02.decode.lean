theorem dX3_init_0 : decode cX3_init 0 = .ok (.aload_n 0, 1) := by decide +kernel
theorem dX3_init_1 : decode cX3_init 1 = .ok (.invokespecial 1, 3) := by decide +kernel
theorem dX3_init_4 : decode cX3_init 4 = .ok (.aload_n 0, 1) := by decide +kernel
theorem dX3_init_5 : decode cX3_init 5 = .ok (.new 7, 3) := by decide +kernel
theorem dX3_init_8 : decode cX3_init 8 = .ok (.dup, 1) := by decide +kernel
theorem dX3_init_9 : decode cX3_init 9 = .ok (.sipush 400, 3) := by decide +kernel
theorem dX3_init_12 : decode cX3_init 12 = .ok (.invokespecial 11, 3) := by decide +kernel
theorem dX3_init_15 : decode cX3_init 15 = .ok (.putfield 14, 3) := by decide +kernel
theorem dX3_init_18 : decode cX3_init 18 = .ok (.aload_n 0, 1) := by decide +kernel
theorem dX3_init_19 : decode cX3_init 19 = .ok (.new 7, 3) := by decide +kernel
theorem dX3_init_22 : decode cX3_init 22 = .ok (.dup, 1) := by decide +kernel
theorem dX3_init_23 : decode cX3_init 23 = .ok (.sipush 400, 3) := by decide +kernel
theorem dX3_init_26 : decode cX3_init 26 = .ok (.invokespecial 11, 3) := by decide +kernel
theorem dX3_init_29 : decode cX3_init 29 = .ok (.putfield 18, 3) := by decide +kernel
theorem dX3_init_32 : decode cX3_init 32 = .ok (.aload_n 0, 1) := by decide +kernel
theorem dX3_init_33 : decode cX3_init 33 = .ok (.new 7, 3) := by decide +kernel
theorem dX3_init_36 : decode cX3_init 36 = .ok (.dup, 1) := by decide +kernel
theorem dX3_init_37 : decode cX3_init 37 = .ok (.sipush 1024, 3) := by decide +kernel
theorem dX3_init_40 : decode cX3_init 40 = .ok (.invokespecial 11, 3) := by decide +kernel
theorem dX3_init_43 : decode cX3_init 43 = .ok (.putfield 21, 3) := by decide +kernel
theorem dX3_init_46 : decode cX3_init 46 = .ok (.aload_n 0, 1) := by decide +kernel
theorem dX3_init_47 : decode cX3_init 47 = .ok (.bipush 20, 2) := by decide +kernel
theorem dX3_init_49 : decode cX3_init 49 = .ok (.anewarray 7, 3) := by decide +kernel
theorem dX3_init_52 : decode cX3_init 52 = .ok (.putfield 24, 3) := by decide +kernel
theorem dX3_init_55 : decode cX3_init 55 = .ok (.iconst 0, 1) := by decide +kernel
theorem dX3_init_56 : decode cX3_init 56 = .ok (.istore_n 1, 1) := by decide +kernel
theorem dX3_init_57 : decode cX3_init 57 = .ok (.iload_n 1, 1) := by decide +kernel
theorem dX3_init_58 : decode cX3_init 58 = .ok (.aload_n 0, 1) := by decide +kernel
theorem dX3_init_59 : decode cX3_init 59 = .ok (.getfield 24, 3) := by decide +kernel
theorem dX3_init_62 : decode cX3_init 62 = .ok (.arraylength, 1) := by decide +kernel
theorem dX3_init_63 : decode cX3_init 63 = .ok (.if_icmp .ge 24, 3) := by decide +kernel
theorem dX3_init_66 : decode cX3_init 66 = .ok (.aload_n 0, 1) := by decide +kernel
theorem dX3_init_67 : decode cX3_init 67 = .ok (.getfield 24, 3) := by decide +kernel
theorem dX3_init_70 : decode cX3_init 70 = .ok (.iload_n 1, 1) := by decide +kernel
theorem dX3_init_71 : decode cX3_init 71 = .ok (.new 7, 3) := by decide +kernel
theorem dX3_init_74 : decode cX3_init 74 = .ok (.dup, 1) := by decide +kernel
theorem dX3_init_75 : decode cX3_init 75 = .ok (.bipush 40, 2) := by decide +kernel
theorem dX3_init_77 : decode cX3_init 77 = .ok (.invokespecial 11, 3) := by decide +kernel
theorem dX3_init_80 : decode cX3_init 80 = .ok (.aastore, 1) := by decide +kernel
theorem dX3_init_81 : decode cX3_init 81 = .ok (.iinc 1 1, 3) := by decide +kernel
theorem dX3_init_84 : decode cX3_init 84 = .ok (.goto (-27), 3) := by decide +kernel
theorem dX3_init_87 : decode cX3_init 87 = .ok (.aload_n 0, 1) := by decide +kernel
theorem dX3_init_88 : decode cX3_init 88 = .ok (.iconst 0, 1) := by decide +kernel
theorem dX3_init_89 : decode cX3_init 89 = .ok (.putfield 28, 3) := by decide +kernel
theorem dX3_init_92 : decode cX3_init 92 = .ok (.aload_n 0, 1) := by decide +kernel
theorem dX3_init_93 : decode cX3_init 93 = .ok (.iconst 0, 1) := by decide +kernel
theorem dX3_init_94 : decode cX3_init 94 = .ok (.putfield 32, 3) := by decide +kernel
theorem dX3_init_97 : decode cX3_init 97 = .ok (.aload_n 0, 1) := by decide +kernel
theorem dX3_init_98 : decode cX3_init 98 = .ok (.new 35, 3) := by decide +kernel
theorem dX3_init_101 : decode cX3_init 101 = .ok (.dup, 1) := by decide +kernel
theorem dX3_init_102 : decode cX3_init 102 = .ok (.invokespecial 37, 3) := by decide +kernel
theorem dX3_init_105 : decode cX3_init 105 = .ok (.putfield 38, 3) := by decide +kernel
theorem dX3_init_108 : decode cX3_init 108 = .ok (.aload_n 0, 1) := by decide +kernel
theorem dX3_init_109 : decode cX3_init 109 = .ok (.new 42, 3) := by decide +kernel
theorem dX3_init_112 : decode cX3_init 112 = .ok (.dup, 1) := by decide +kernel
theorem dX3_init_113 : decode cX3_init 113 = .ok (.invokespecial 44, 3) := by decide +kernel
theorem dX3_init_116 : decode cX3_init 116 = .ok (.putfield 45, 3) := by decide +kernel
theorem dX3_init_119 : decode cX3_init 119 = .ok (.aload_n 0, 1) := by decide +kernel
theorem dX3_init_120 : decode cX3_init 120 = .ok (.new 7, 3) := by decide +kernel
theorem dX3_init_123 : decode cX3_init 123 = .ok (.dup, 1) := by decide +kernel
theorem dX3_init_124 : decode cX3_init 124 = .ok (.bipush 40, 2) := by decide +kernel
theorem dX3_init_126 : decode cX3_init 126 = .ok (.invokespecial 11, 3) := by decide +kernel
theorem dX3_init_129 : decode cX3_init 129 = .ok (.putfield 49, 3) := by decide +kernel
theorem dX3_init_132 : decode cX3_init 132 = .ok (.return_, 1) := by decide +kernel
theorem dX2_init_0 : decode cX2_init 0 = .ok (.aload_n 0, 1) := by decide +kernel
theorem dX2_init_1 : decode cX2_init 1 = .ok (.invokespecial 3, 3) := by decide +kernel
theorem dX2_init_4 : decode cX2_init 4 = .ok (.aload_n 0, 1) := by decide +kernel
theorem dX2_init_5 : decode cX2_init 5 = .ok (.iload_n 1, 1) := by decide +kernel
theorem dX2_init_6 : decode cX2_init 6 = .ok (.ifCond .ge 7, 3) := by decide +kernel
theorem dX2_init_9 : decode cX2_init 9 = .ok (.iconst 0, 1) := by decide +kernel
theorem dX2_init_10 : decode cX2_init 10 = .ok (.goto 4, 3) := by decide +kernel
theorem dX2_init_13 : decode cX2_init 13 = .ok (.iload_n 1, 1) := by decide +kernel
theorem dX2_init_14 : decode cX2_init 14 = .ok (.newarray .int, 2) := by decide +kernel
theorem dX2_init_16 : decode cX2_init 16 = .ok (.putfield 9, 3) := by decide +kernel
theorem dX2_init_19 : decode cX2_init 19 = .ok (.aload_n 0, 1) := by decide +kernel
theorem dX2_init_20 : decode cX2_init 20 = .ok (.iconst 0, 1) := by decide +kernel
theorem dX2_init_21 : decode cX2_init 21 = .ok (.putfield 15, 3) := by decide +kernel
theorem dX2_init_24 : decode cX2_init 24 = .ok (.return_, 1) := by decide +kernel
theorem dX1_init_0 : decode cX1_init 0 = .ok (.aload_n 0, 1) := by decide +kernel
theorem dX1_init_1 : decode cX1_init 1 = .ok (.invokespecial 3, 3) := by decide +kernel
theorem dX1_init_4 : decode cX1_init 4 = .ok (.aload_n 0, 1) := by decide +kernel
theorem dX1_init_5 : decode cX1_init 5 = .ok (.iconst (-1), 1) := by decide +kernel
theorem dX1_init_6 : decode cX1_init 6 = .ok (.putfield 9, 3) := by decide +kernel
theorem dX1_init_9 : decode cX1_init 9 = .ok (.return_, 1) := by decide +kernel
theorem dX0_init_0 : decode cX0_init 0 = .ok (.aload_n 0, 1) := by decide +kernel
theorem dX0_init_1 : decode cX0_init 1 = .ok (.invokespecial 3, 3) := by decide +kernel
theorem dX0_init_4 : decode cX0_init 4 = .ok (.aload_n 0, 1) := by decide +kernel
theorem dX0_init_5 : decode cX0_init 5 = .ok (.lconst 0, 1) := by decide +kernel
theorem dX0_init_6 : decode cX0_init 6 = .ok (.putfield 9, 3) := by decide +kernel
theorem dX0_init_9 : decode cX0_init 9 = .ok (.return_, 1) := by decide +kernel
theorem dX3_feed_0 : decode cX3_feed 0 = .ok (.aload_n 0, 1) := by decide +kernel
theorem dX3_feed_1 : decode cX3_feed 1 = .ok (.getfield 14, 3) := by decide +kernel
theorem dX3_feed_4 : decode cX3_feed 4 = .ok (.bipush 20, 2) := by decide +kernel
theorem dX3_feed_6 : decode cX3_feed 6 = .ok (.invokevirtual 52, 3) := by decide +kernel
theorem dX3_feed_9 : decode cX3_feed 9 = .ok (.ifCond .ne 5, 3) := by decide +kernel
theorem dX3_feed_12 : decode cX3_feed 12 = .ok (.iconst 0, 1) := by decide +kernel
theorem dX3_feed_13 : decode cX3_feed 13 = .ok (.ireturn, 1) := by decide +kernel
theorem dX3_feed_14 : decode cX3_feed 14 = .ok (.aload_n 0, 1) := by decide +kernel
theorem dX3_feed_15 : decode cX3_feed 15 = .ok (.getfield 14, 3) := by decide +kernel
theorem dX3_feed_18 : decode cX3_feed 18 = .ok (.iload_n 1, 1) := by decide +kernel
theorem dX3_feed_19 : decode cX3_feed 19 = .ok (.invokevirtual 56, 3) := by decide +kernel
theorem dX3_feed_22 : decode cX3_feed 22 = .ok (.aload_n 0, 1) := by decide +kernel
theorem dX3_feed_23 : decode cX3_feed 23 = .ok (.getfield 14, 3) := by decide +kernel
theorem dX3_feed_26 : decode cX3_feed 26 = .ok (.iload_n 2, 1) := by decide +kernel
theorem dX3_feed_27 : decode cX3_feed 27 = .ok (.invokevirtual 56, 3) := by decide +kernel
theorem dX3_feed_30 : decode cX3_feed 30 = .ok (.aload_n 0, 1) := by decide +kernel
theorem dX3_feed_31 : decode cX3_feed 31 = .ok (.getfield 14, 3) := by decide +kernel
theorem dX3_feed_34 : decode cX3_feed 34 = .ok (.iload_n 3, 1) := by decide +kernel
theorem dX3_feed_35 : decode cX3_feed 35 = .ok (.invokevirtual 56, 3) := by decide +kernel
theorem dX3_feed_38 : decode cX3_feed 38 = .ok (.aload_n 0, 1) := by decide +kernel
theorem dX3_feed_39 : decode cX3_feed 39 = .ok (.getfield 14, 3) := by decide +kernel
theorem dX3_feed_42 : decode cX3_feed 42 = .ok (.iload 4, 2) := by decide +kernel
theorem dX3_feed_44 : decode cX3_feed 44 = .ok (.invokevirtual 56, 3) := by decide +kernel
theorem dX3_feed_47 : decode cX3_feed 47 = .ok (.aload_n 0, 1) := by decide +kernel
theorem dX3_feed_48 : decode cX3_feed 48 = .ok (.getfield 14, 3) := by decide +kernel
theorem dX3_feed_51 : decode cX3_feed 51 = .ok (.iload 5, 2) := by decide +kernel
theorem dX3_feed_53 : decode cX3_feed 53 = .ok (.invokevirtual 56, 3) := by decide +kernel
theorem dX3_feed_56 : decode cX3_feed 56 = .ok (.iconst 1, 1) := by decide +kernel
theorem dX3_feed_57 : decode cX3_feed 57 = .ok (.ireturn, 1) := by decide +kernel
theorem dX2_hasRoomFor_0 : decode cX2_hasRoomFor 0 = .ok (.iload_n 1, 1) := by decide +kernel
theorem dX2_hasRoomFor_1 : decode cX2_hasRoomFor 1 = .ok (.aload_n 0, 1) := by decide +kernel
theorem dX2_hasRoomFor_2 : decode cX2_hasRoomFor 2 = .ok (.getfield 9, 3) := by decide +kernel
theorem dX2_hasRoomFor_5 : decode cX2_hasRoomFor 5 = .ok (.arraylength, 1) := by decide +kernel
theorem dX2_hasRoomFor_6 : decode cX2_hasRoomFor 6 = .ok (.aload_n 0, 1) := by decide +kernel
theorem dX2_hasRoomFor_7 : decode cX2_hasRoomFor 7 = .ok (.getfield 15, 3) := by decide +kernel
theorem dX2_hasRoomFor_10 : decode cX2_hasRoomFor 10 = .ok (.isub, 1) := by decide +kernel
theorem dX2_hasRoomFor_11 : decode cX2_hasRoomFor 11 = .ok (.if_icmp .gt 7, 3) := by decide +kernel
theorem dX2_hasRoomFor_14 : decode cX2_hasRoomFor 14 = .ok (.iconst 1, 1) := by decide +kernel
theorem dX2_hasRoomFor_15 : decode cX2_hasRoomFor 15 = .ok (.goto 4, 3) := by decide +kernel
theorem dX2_hasRoomFor_18 : decode cX2_hasRoomFor 18 = .ok (.iconst 0, 1) := by decide +kernel
theorem dX2_hasRoomFor_19 : decode cX2_hasRoomFor 19 = .ok (.ireturn, 1) := by decide +kernel
theorem dX2_addFourBytes_0 : decode cX2_addFourBytes 0 = .ok (.aload_n 0, 1) := by decide +kernel
theorem dX2_addFourBytes_1 : decode cX2_addFourBytes 1 = .ok (.iload_n 1, 1) := by decide +kernel
theorem dX2_addFourBytes_2 : decode cX2_addFourBytes 2 = .ok (.bipush 24, 2) := by decide +kernel
theorem dX2_addFourBytes_4 : decode cX2_addFourBytes 4 = .ok (.iushr, 1) := by decide +kernel
theorem dX2_addFourBytes_5 : decode cX2_addFourBytes 5 = .ok (.invokevirtual 19, 3) := by decide +kernel
theorem dX2_addFourBytes_8 : decode cX2_addFourBytes 8 = .ok (.pop, 1) := by decide +kernel
theorem dX2_addFourBytes_9 : decode cX2_addFourBytes 9 = .ok (.aload_n 0, 1) := by decide +kernel
theorem dX2_addFourBytes_10 : decode cX2_addFourBytes 10 = .ok (.iload_n 1, 1) := by decide +kernel
theorem dX2_addFourBytes_11 : decode cX2_addFourBytes 11 = .ok (.bipush 16, 2) := by decide +kernel
theorem dX2_addFourBytes_13 : decode cX2_addFourBytes 13 = .ok (.iushr, 1) := by decide +kernel
theorem dX2_addFourBytes_14 : decode cX2_addFourBytes 14 = .ok (.invokevirtual 19, 3) := by decide +kernel
theorem dX2_addFourBytes_17 : decode cX2_addFourBytes 17 = .ok (.pop, 1) := by decide +kernel
theorem dX2_addFourBytes_18 : decode cX2_addFourBytes 18 = .ok (.aload_n 0, 1) := by decide +kernel
theorem dX2_addFourBytes_19 : decode cX2_addFourBytes 19 = .ok (.iload_n 1, 1) := by decide +kernel
theorem dX2_addFourBytes_20 : decode cX2_addFourBytes 20 = .ok (.bipush 8, 2) := by decide +kernel
theorem dX2_addFourBytes_22 : decode cX2_addFourBytes 22 = .ok (.iushr, 1) := by decide +kernel
theorem dX2_addFourBytes_23 : decode cX2_addFourBytes 23 = .ok (.invokevirtual 19, 3) := by decide +kernel
theorem dX2_addFourBytes_26 : decode cX2_addFourBytes 26 = .ok (.pop, 1) := by decide +kernel
theorem dX2_addFourBytes_27 : decode cX2_addFourBytes 27 = .ok (.aload_n 0, 1) := by decide +kernel
theorem dX2_addFourBytes_28 : decode cX2_addFourBytes 28 = .ok (.iload_n 1, 1) := by decide +kernel
theorem dX2_addFourBytes_29 : decode cX2_addFourBytes 29 = .ok (.invokevirtual 19, 3) := by decide +kernel
theorem dX2_addFourBytes_32 : decode cX2_addFourBytes 32 = .ok (.pop, 1) := by decide +kernel
theorem dX2_addFourBytes_33 : decode cX2_addFourBytes 33 = .ok (.return_, 1) := by decide +kernel
theorem dX2_add_0 : decode cX2_add 0 = .ok (.aload_n 0, 1) := by decide +kernel
theorem dX2_add_1 : decode cX2_add 1 = .ok (.getfield 15, 3) := by decide +kernel
theorem dX2_add_4 : decode cX2_add 4 = .ok (.ifCond .lt 15, 3) := by decide +kernel
theorem dX2_add_7 : decode cX2_add 7 = .ok (.aload_n 0, 1) := by decide +kernel
theorem dX2_add_8 : decode cX2_add 8 = .ok (.getfield 15, 3) := by decide +kernel
theorem dX2_add_11 : decode cX2_add 11 = .ok (.aload_n 0, 1) := by decide +kernel
theorem dX2_add_12 : decode cX2_add 12 = .ok (.getfield 9, 3) := by decide +kernel
theorem dX2_add_15 : decode cX2_add 15 = .ok (.arraylength, 1) := by decide +kernel
theorem dX2_add_16 : decode cX2_add 16 = .ok (.if_icmp .lt 5, 3) := by decide +kernel
theorem dX2_add_19 : decode cX2_add 19 = .ok (.iconst 0, 1) := by decide +kernel
theorem dX2_add_20 : decode cX2_add 20 = .ok (.ireturn, 1) := by decide +kernel
theorem dX2_add_21 : decode cX2_add 21 = .ok (.aload_n 0, 1) := by decide +kernel
theorem dX2_add_22 : decode cX2_add 22 = .ok (.getfield 9, 3) := by decide +kernel
theorem dX2_add_25 : decode cX2_add 25 = .ok (.aload_n 0, 1) := by decide +kernel
theorem dX2_add_26 : decode cX2_add 26 = .ok (.getfield 15, 3) := by decide +kernel
theorem dX2_add_29 : decode cX2_add 29 = .ok (.iload_n 1, 1) := by decide +kernel
theorem dX2_add_30 : decode cX2_add 30 = .ok (.sipush 255, 3) := by decide +kernel
theorem dX2_add_33 : decode cX2_add 33 = .ok (.iand, 1) := by decide +kernel
theorem dX2_add_34 : decode cX2_add 34 = .ok (.iastore, 1) := by decide +kernel
theorem dX2_add_35 : decode cX2_add 35 = .ok (.aload_n 0, 1) := by decide +kernel
theorem dX2_add_36 : decode cX2_add 36 = .ok (.dup, 1) := by decide +kernel
theorem dX2_add_37 : decode cX2_add 37 = .ok (.getfield 15, 3) := by decide +kernel
theorem dX2_add_40 : decode cX2_add 40 = .ok (.iconst 1, 1) := by decide +kernel
theorem dX2_add_41 : decode cX2_add 41 = .ok (.iadd, 1) := by decide +kernel
theorem dX2_add_42 : decode cX2_add 42 = .ok (.putfield 15, 3) := by decide +kernel
theorem dX2_add_45 : decode cX2_add 45 = .ok (.iconst 1, 1) := by decide +kernel
theorem dX2_add_46 : decode cX2_add 46 = .ok (.ireturn, 1) := by decide +kernel
theorem dX3_end_0 : decode cX3_end 0 = .ok (.aload_n 0, 1) := by decide +kernel
theorem dX3_end_1 : decode cX3_end 1 = .ok (.getfield 14, 3) := by decide +kernel
theorem dX3_end_4 : decode cX3_end 4 = .ok (.iload_n 1, 1) := by decide +kernel
theorem dX3_end_5 : decode cX3_end 5 = .ok (.invokevirtual 59, 3) := by decide +kernel
theorem dX3_end_8 : decode cX3_end 8 = .ok (.ireturn, 1) := by decide +kernel
theorem dX2_shorten_0 : decode cX2_shorten 0 = .ok (.iload_n 1, 1) := by decide +kernel
theorem dX2_shorten_1 : decode cX2_shorten 1 = .ok (.ifCond .lt 11, 3) := by decide +kernel
theorem dX2_shorten_4 : decode cX2_shorten 4 = .ok (.iload_n 1, 1) := by decide +kernel
theorem dX2_shorten_5 : decode cX2_shorten 5 = .ok (.aload_n 0, 1) := by decide +kernel
theorem dX2_shorten_6 : decode cX2_shorten 6 = .ok (.getfield 15, 3) := by decide +kernel
theorem dX2_shorten_9 : decode cX2_shorten 9 = .ok (.if_icmp .le 5, 3) := by decide +kernel
theorem dX2_shorten_12 : decode cX2_shorten 12 = .ok (.iconst 0, 1) := by decide +kernel
theorem dX2_shorten_13 : decode cX2_shorten 13 = .ok (.ireturn, 1) := by decide +kernel
theorem dX2_shorten_14 : decode cX2_shorten 14 = .ok (.aload_n 0, 1) := by decide +kernel
theorem dX2_shorten_15 : decode cX2_shorten 15 = .ok (.iload_n 1, 1) := by decide +kernel
theorem dX2_shorten_16 : decode cX2_shorten 16 = .ok (.putfield 15, 3) := by decide +kernel
theorem dX2_shorten_19 : decode cX2_shorten 19 = .ok (.iconst 1, 1) := by decide +kernel
theorem dX2_shorten_20 : decode cX2_shorten 20 = .ok (.ireturn, 1) := by decide +kernel
theorem dX3_format_0 : decode cX3_format 0 = .ok (.aload_n 0, 1) := by decide +kernel
theorem dX3_format_1 : decode cX3_format 1 = .ok (.getfield 18, 3) := by decide +kernel
theorem dX3_format_4 : decode cX3_format 4 = .ok (.invokevirtual 62, 3) := by decide +kernel
theorem dX3_format_7 : decode cX3_format 7 = .ok (.aload_n 0, 1) := by decide +kernel
theorem dX3_format_8 : decode cX3_format 8 = .ok (.getfield 18, 3) := by decide +kernel
theorem dX3_format_11 : decode cX3_format 11 = .ok (.aload_n 0, 1) := by decide +kernel
theorem dX3_format_12 : decode cX3_format 12 = .ok (.getfield 14, 3) := by decide +kernel
theorem dX3_format_15 : decode cX3_format 15 = .ok (.invokevirtual 65, 3) := by decide +kernel
theorem dX3_format_18 : decode cX3_format 18 = .ok (.aload_n 0, 1) := by decide +kernel
theorem dX3_format_19 : decode cX3_format 19 = .ok (.getfield 14, 3) := by decide +kernel
theorem dX3_format_22 : decode cX3_format 22 = .ok (.invokevirtual 62, 3) := by decide +kernel
theorem dX3_format_25 : decode cX3_format 25 = .ok (.aload_n 0, 1) := by decide +kernel
theorem dX3_format_26 : decode cX3_format 26 = .ok (.getfield 18, 3) := by decide +kernel
theorem dX3_format_29 : decode cX3_format 29 = .ok (.getfield 69, 3) := by decide +kernel
theorem dX3_format_32 : decode cX3_format 32 = .ok (.ireturn, 1) := by decide +kernel
theorem dX2_empty_0 : decode cX2_empty 0 = .ok (.aload_n 0, 1) := by decide +kernel
theorem dX2_empty_1 : decode cX2_empty 1 = .ok (.iconst 0, 1) := by decide +kernel
theorem dX2_empty_2 : decode cX2_empty 2 = .ok (.putfield 15, 3) := by decide +kernel
theorem dX2_empty_5 : decode cX2_empty 5 = .ok (.return_, 1) := by decide +kernel
theorem dX2_addText_0 : decode cX2_addText 0 = .ok (.aload_n 1, 1) := by decide +kernel
theorem dX2_addText_1 : decode cX2_addText 1 = .ok (.getfield 15, 3) := by decide +kernel
theorem dX2_addText_4 : decode cX2_addText 4 = .ok (.istore_n 2, 1) := by decide +kernel
theorem dX2_addText_5 : decode cX2_addText 5 = .ok (.iconst 0, 1) := by decide +kernel
theorem dX2_addText_6 : decode cX2_addText 6 = .ok (.istore_n 3, 1) := by decide +kernel
theorem dX2_addText_7 : decode cX2_addText 7 = .ok (.iload_n 3, 1) := by decide +kernel
theorem dX2_addText_8 : decode cX2_addText 8 = .ok (.iload_n 2, 1) := by decide +kernel
theorem dX2_addText_9 : decode cX2_addText 9 = .ok (.if_icmp .ge 19, 3) := by decide +kernel
theorem dX2_addText_12 : decode cX2_addText 12 = .ok (.aload_n 0, 1) := by decide +kernel
theorem dX2_addText_13 : decode cX2_addText 13 = .ok (.aload_n 1, 1) := by decide +kernel
theorem dX2_addText_14 : decode cX2_addText 14 = .ok (.iload_n 3, 1) := by decide +kernel
theorem dX2_addText_15 : decode cX2_addText 15 = .ok (.invokevirtual 23, 3) := by decide +kernel
theorem dX2_addText_18 : decode cX2_addText 18 = .ok (.invokevirtual 19, 3) := by decide +kernel
theorem dX2_addText_21 : decode cX2_addText 21 = .ok (.pop, 1) := by decide +kernel
theorem dX2_addText_22 : decode cX2_addText 22 = .ok (.iinc 3 1, 3) := by decide +kernel
theorem dX2_addText_25 : decode cX2_addText 25 = .ok (.goto (-18), 3) := by decide +kernel
theorem dX2_addText_28 : decode cX2_addText 28 = .ok (.return_, 1) := by decide +kernel
theorem dX2_at_0 : decode cX2_at 0 = .ok (.iload_n 1, 1) := by decide +kernel
theorem dX2_at_1 : decode cX2_at 1 = .ok (.ifCond .lt 20, 3) := by decide +kernel
theorem dX2_at_4 : decode cX2_at 4 = .ok (.iload_n 1, 1) := by decide +kernel
theorem dX2_at_5 : decode cX2_at 5 = .ok (.aload_n 0, 1) := by decide +kernel
theorem dX2_at_6 : decode cX2_at 6 = .ok (.getfield 15, 3) := by decide +kernel
theorem dX2_at_9 : decode cX2_at 9 = .ok (.if_icmp .ge 12, 3) := by decide +kernel
theorem dX2_at_12 : decode cX2_at 12 = .ok (.iload_n 1, 1) := by decide +kernel
theorem dX2_at_13 : decode cX2_at 13 = .ok (.aload_n 0, 1) := by decide +kernel
theorem dX2_at_14 : decode cX2_at 14 = .ok (.getfield 9, 3) := by decide +kernel
theorem dX2_at_17 : decode cX2_at 17 = .ok (.arraylength, 1) := by decide +kernel
theorem dX2_at_18 : decode cX2_at 18 = .ok (.if_icmp .lt 7, 3) := by decide +kernel
theorem dX2_at_21 : decode cX2_at 21 = .ok (.iconst (-1), 1) := by decide +kernel
theorem dX2_at_22 : decode cX2_at 22 = .ok (.goto 9, 3) := by decide +kernel
theorem dX2_at_25 : decode cX2_at 25 = .ok (.aload_n 0, 1) := by decide +kernel
theorem dX2_at_26 : decode cX2_at 26 = .ok (.getfield 9, 3) := by decide +kernel
theorem dX2_at_29 : decode cX2_at 29 = .ok (.iload_n 1, 1) := by decide +kernel
theorem dX2_at_30 : decode cX2_at 30 = .ok (.iaload, 1) := by decide +kernel
theorem dX2_at_31 : decode cX2_at 31 = .ok (.ireturn, 1) := by decide +kernel
theorem dX3_argument_0 : decode cX3_argument 0 = .ok (.iconst (-1), 1) := by decide +kernel
theorem dX3_argument_1 : decode cX3_argument 1 = .ok (.istore_n 1, 1) := by decide +kernel
theorem dX3_argument_2 : decode cX3_argument 2 = .ok (.aload_n 0, 1) := by decide +kernel
theorem dX3_argument_3 : decode cX3_argument 3 = .ok (.getfield 14, 3) := by decide +kernel
theorem dX3_argument_6 : decode cX3_argument 6 = .ok (.getfield 69, 3) := by decide +kernel
theorem dX3_argument_9 : decode cX3_argument 9 = .ok (.bipush 40, 2) := by decide +kernel
theorem dX3_argument_11 : decode cX3_argument 11 = .ok (.if_icmp .gt 28, 3) := by decide +kernel
theorem dX3_argument_14 : decode cX3_argument 14 = .ok (.aload_n 0, 1) := by decide +kernel
theorem dX3_argument_15 : decode cX3_argument 15 = .ok (.invokevirtual 72, 3) := by decide +kernel
theorem dX3_argument_18 : decode cX3_argument 18 = .ok (.ifCond .eq 21, 3) := by decide +kernel
theorem dX3_argument_21 : decode cX3_argument 21 = .ok (.aload_n 0, 1) := by decide +kernel
theorem dX3_argument_22 : decode cX3_argument 22 = .ok (.invokevirtual 76, 3) := by decide +kernel
theorem dX3_argument_25 : decode cX3_argument 25 = .ok (.aload_n 0, 1) := by decide +kernel
theorem dX3_argument_26 : decode cX3_argument 26 = .ok (.getfield 14, 3) := by decide +kernel
theorem dX3_argument_29 : decode cX3_argument 29 = .ok (.invokevirtual 65, 3) := by decide +kernel
theorem dX3_argument_32 : decode cX3_argument 32 = .ok (.aload_n 0, 1) := by decide +kernel
theorem dX3_argument_33 : decode cX3_argument 33 = .ok (.getfield 28, 3) := by decide +kernel
theorem dX3_argument_36 : decode cX3_argument 36 = .ok (.iconst 1, 1) := by decide +kernel
theorem dX3_argument_37 : decode cX3_argument 37 = .ok (.isub, 1) := by decide +kernel
theorem dX3_argument_38 : decode cX3_argument 38 = .ok (.istore_n 1, 1) := by decide +kernel
theorem dX3_argument_39 : decode cX3_argument 39 = .ok (.aload_n 0, 1) := by decide +kernel
theorem dX3_argument_40 : decode cX3_argument 40 = .ok (.getfield 14, 3) := by decide +kernel
theorem dX3_argument_43 : decode cX3_argument 43 = .ok (.invokevirtual 62, 3) := by decide +kernel
theorem dX3_argument_46 : decode cX3_argument 46 = .ok (.iload_n 1, 1) := by decide +kernel
theorem dX3_argument_47 : decode cX3_argument 47 = .ok (.ireturn, 1) := by decide +kernel
theorem dX3_hasRoomForArgument_0 : decode cX3_hasRoomForArgument 0 = .ok (.aload_n 0, 1) := by decide +kernel
theorem dX3_hasRoomForArgument_1 : decode cX3_hasRoomForArgument 1 = .ok (.getfield 28, 3) := by decide +kernel
theorem dX3_hasRoomForArgument_4 : decode cX3_hasRoomForArgument 4 = .ok (.ifCond .lt 19, 3) := by decide +kernel
theorem dX3_hasRoomForArgument_7 : decode cX3_hasRoomForArgument 7 = .ok (.aload_n 0, 1) := by decide +kernel
theorem dX3_hasRoomForArgument_8 : decode cX3_hasRoomForArgument 8 = .ok (.getfield 28, 3) := by decide +kernel
theorem dX3_hasRoomForArgument_11 : decode cX3_hasRoomForArgument 11 = .ok (.aload_n 0, 1) := by decide +kernel
theorem dX3_hasRoomForArgument_12 : decode cX3_hasRoomForArgument 12 = .ok (.getfield 24, 3) := by decide +kernel
theorem dX3_hasRoomForArgument_15 : decode cX3_hasRoomForArgument 15 = .ok (.arraylength, 1) := by decide +kernel
theorem dX3_hasRoomForArgument_16 : decode cX3_hasRoomForArgument 16 = .ok (.if_icmp .ge 7, 3) := by decide +kernel
theorem dX3_hasRoomForArgument_19 : decode cX3_hasRoomForArgument 19 = .ok (.iconst 1, 1) := by decide +kernel
theorem dX3_hasRoomForArgument_20 : decode cX3_hasRoomForArgument 20 = .ok (.goto 4, 3) := by decide +kernel
theorem dX3_hasRoomForArgument_23 : decode cX3_hasRoomForArgument 23 = .ok (.iconst 0, 1) := by decide +kernel
theorem dX3_hasRoomForArgument_24 : decode cX3_hasRoomForArgument 24 = .ok (.ireturn, 1) := by decide +kernel
theorem dX3_nextArgument_0 : decode cX3_nextArgument 0 = .ok (.aload_n 0, 1) := by decide +kernel
theorem dX3_nextArgument_1 : decode cX3_nextArgument 1 = .ok (.getfield 24, 3) := by decide +kernel
theorem dX3_nextArgument_4 : decode cX3_nextArgument 4 = .ok (.aload_n 0, 1) := by decide +kernel
theorem dX3_nextArgument_5 : decode cX3_nextArgument 5 = .ok (.getfield 28, 3) := by decide +kernel
theorem dX3_nextArgument_8 : decode cX3_nextArgument 8 = .ok (.aaload, 1) := by decide +kernel
theorem dX3_nextArgument_9 : decode cX3_nextArgument 9 = .ok (.astore_n 1, 1) := by decide +kernel
theorem dX3_nextArgument_10 : decode cX3_nextArgument 10 = .ok (.aload_n 0, 1) := by decide +kernel
theorem dX3_nextArgument_11 : decode cX3_nextArgument 11 = .ok (.dup, 1) := by decide +kernel
theorem dX3_nextArgument_12 : decode cX3_nextArgument 12 = .ok (.getfield 28, 3) := by decide +kernel
theorem dX3_nextArgument_15 : decode cX3_nextArgument 15 = .ok (.iconst 1, 1) := by decide +kernel
theorem dX3_nextArgument_16 : decode cX3_nextArgument 16 = .ok (.iadd, 1) := by decide +kernel
theorem dX3_nextArgument_17 : decode cX3_nextArgument 17 = .ok (.putfield 28, 3) := by decide +kernel
theorem dX3_nextArgument_20 : decode cX3_nextArgument 20 = .ok (.aload_n 1, 1) := by decide +kernel
theorem dX3_nextArgument_21 : decode cX3_nextArgument 21 = .ok (.invokevirtual 62, 3) := by decide +kernel
theorem dX3_nextArgument_24 : decode cX3_nextArgument 24 = .ok (.aload_n 1, 1) := by decide +kernel
theorem dX3_nextArgument_25 : decode cX3_nextArgument 25 = .ok (.areturn, 1) := by decide +kernel
theorem dX3_number_0 : decode cX3_number 0 = .ok (.aload_n 0, 1) := by decide +kernel
theorem dX3_number_1 : decode cX3_number 1 = .ok (.invokevirtual 72, 3) := by decide +kernel
theorem dX3_number_4 : decode cX3_number 4 = .ok (.ifCond .ne 5, 3) := by decide +kernel
theorem dX3_number_7 : decode cX3_number 7 = .ok (.iconst (-1), 1) := by decide +kernel
theorem dX3_number_8 : decode cX3_number 8 = .ok (.ireturn, 1) := by decide +kernel
theorem dX3_number_9 : decode cX3_number 9 = .ok (.aload_n 0, 1) := by decide +kernel
theorem dX3_number_10 : decode cX3_number 10 = .ok (.invokevirtual 76, 3) := by decide +kernel
theorem dX3_number_13 : decode cX3_number 13 = .ok (.astore_n 3, 1) := by decide +kernel
theorem dX3_number_14 : decode cX3_number 14 = .ok (.lload_n 1, 1) := by decide +kernel
theorem dX3_number_15 : decode cX3_number 15 = .ok (.lconst 0, 1) := by decide +kernel
theorem dX3_number_16 : decode cX3_number 16 = .ok (.lcmp, 1) := by decide +kernel
theorem dX3_number_17 : decode cX3_number 17 = .ok (.ifCond .ge 10, 3) := by decide +kernel
theorem dX3_number_20 : decode cX3_number 20 = .ok (.aload_n 3, 1) := by decide +kernel
theorem dX3_number_21 : decode cX3_number 21 = .ok (.bipush 45, 2) := by decide +kernel
theorem dX3_number_23 : decode cX3_number 23 = .ok (.invokevirtual 80, 3) := by decide +kernel
theorem dX3_number_26 : decode cX3_number 26 = .ok (.pop, 1) := by decide +kernel
theorem dX3_number_27 : decode cX3_number 27 = .ok (.aload_n 3, 1) := by decide +kernel
theorem dX3_number_28 : decode cX3_number 28 = .ok (.lload_n 1, 1) := by decide +kernel
theorem dX3_number_29 : decode cX3_number 29 = .ok (.invokevirtual 83, 3) := by decide +kernel
theorem dX3_number_32 : decode cX3_number 32 = .ok (.aload_n 0, 1) := by decide +kernel
theorem dX3_number_33 : decode cX3_number 33 = .ok (.getfield 28, 3) := by decide +kernel
theorem dX3_number_36 : decode cX3_number 36 = .ok (.iconst 1, 1) := by decide +kernel
theorem dX3_number_37 : decode cX3_number 37 = .ok (.isub, 1) := by decide +kernel
theorem dX3_number_38 : decode cX3_number 38 = .ok (.ireturn, 1) := by decide +kernel
theorem dX2_addDecimalDigits_0 : decode cX2_addDecimalDigits 0 = .ok (.iconst 0, 1) := by decide +kernel
theorem dX2_addDecimalDigits_1 : decode cX2_addDecimalDigits 1 = .ok (.istore_n 3, 1) := by decide +kernel
theorem dX2_addDecimalDigits_2 : decode cX2_addDecimalDigits 2 = .ok (.ldc2_w 27, 3) := by decide +kernel
theorem dX2_addDecimalDigits_5 : decode cX2_addDecimalDigits 5 = .ok (.lstore 4, 2) := by decide +kernel
theorem dX2_addDecimalDigits_7 : decode cX2_addDecimalDigits 7 = .ok (.lload 4, 2) := by decide +kernel
theorem dX2_addDecimalDigits_9 : decode cX2_addDecimalDigits 9 = .ok (.lconst 0, 1) := by decide +kernel
theorem dX2_addDecimalDigits_10 : decode cX2_addDecimalDigits 10 = .ok (.lcmp, 1) := by decide +kernel
theorem dX2_addDecimalDigits_11 : decode cX2_addDecimalDigits 11 = .ok (.ifCond .le 64, 3) := by decide +kernel
theorem dX2_addDecimalDigits_14 : decode cX2_addDecimalDigits 14 = .ok (.lload_n 1, 1) := by decide +kernel
theorem dX2_addDecimalDigits_15 : decode cX2_addDecimalDigits 15 = .ok (.lload 4, 2) := by decide +kernel
theorem dX2_addDecimalDigits_17 : decode cX2_addDecimalDigits 17 = .ok (.ldiv, 1) := by decide +kernel
theorem dX2_addDecimalDigits_18 : decode cX2_addDecimalDigits 18 = .ok (.ldc2_w 29, 3) := by decide +kernel
theorem dX2_addDecimalDigits_21 : decode cX2_addDecimalDigits 21 = .ok (.lrem, 1) := by decide +kernel
theorem dX2_addDecimalDigits_22 : decode cX2_addDecimalDigits 22 = .ok (.l2i, 1) := by decide +kernel
theorem dX2_addDecimalDigits_23 : decode cX2_addDecimalDigits 23 = .ok (.invokestatic 31, 3) := by decide +kernel
theorem dX2_addDecimalDigits_26 : decode cX2_addDecimalDigits 26 = .ok (.istore 6, 2) := by decide +kernel
theorem dX2_addDecimalDigits_28 : decode cX2_addDecimalDigits 28 = .ok (.iload_n 3, 1) := by decide +kernel
theorem dX2_addDecimalDigits_29 : decode cX2_addDecimalDigits 29 = .ok (.ifCond .ne 15, 3) := by decide +kernel
theorem dX2_addDecimalDigits_32 : decode cX2_addDecimalDigits 32 = .ok (.iload 6, 2) := by decide +kernel
theorem dX2_addDecimalDigits_34 : decode cX2_addDecimalDigits 34 = .ok (.ifCond .ne 10, 3) := by decide +kernel
theorem dX2_addDecimalDigits_37 : decode cX2_addDecimalDigits 37 = .ok (.lload 4, 2) := by decide +kernel
theorem dX2_addDecimalDigits_39 : decode cX2_addDecimalDigits 39 = .ok (.lconst 1, 1) := by decide +kernel
theorem dX2_addDecimalDigits_40 : decode cX2_addDecimalDigits 40 = .ok (.lcmp, 1) := by decide +kernel
theorem dX2_addDecimalDigits_41 : decode cX2_addDecimalDigits 41 = .ok (.ifCond .ne 7, 3) := by decide +kernel
theorem dX2_addDecimalDigits_44 : decode cX2_addDecimalDigits 44 = .ok (.iconst 1, 1) := by decide +kernel
theorem dX2_addDecimalDigits_45 : decode cX2_addDecimalDigits 45 = .ok (.goto 4, 3) := by decide +kernel
theorem dX2_addDecimalDigits_48 : decode cX2_addDecimalDigits 48 = .ok (.iconst 0, 1) := by decide +kernel
theorem dX2_addDecimalDigits_49 : decode cX2_addDecimalDigits 49 = .ok (.istore_n 3, 1) := by decide +kernel
theorem dX2_addDecimalDigits_50 : decode cX2_addDecimalDigits 50 = .ok (.iload_n 3, 1) := by decide +kernel
theorem dX2_addDecimalDigits_51 : decode cX2_addDecimalDigits 51 = .ok (.ifCond .eq 13, 3) := by decide +kernel
theorem dX2_addDecimalDigits_54 : decode cX2_addDecimalDigits 54 = .ok (.aload_n 0, 1) := by decide +kernel
theorem dX2_addDecimalDigits_55 : decode cX2_addDecimalDigits 55 = .ok (.bipush 48, 2) := by decide +kernel
theorem dX2_addDecimalDigits_57 : decode cX2_addDecimalDigits 57 = .ok (.iload 6, 2) := by decide +kernel
theorem dX2_addDecimalDigits_59 : decode cX2_addDecimalDigits 59 = .ok (.iadd, 1) := by decide +kernel
theorem dX2_addDecimalDigits_60 : decode cX2_addDecimalDigits 60 = .ok (.invokevirtual 19, 3) := by decide +kernel
theorem dX2_addDecimalDigits_63 : decode cX2_addDecimalDigits 63 = .ok (.pop, 1) := by decide +kernel
theorem dX2_addDecimalDigits_64 : decode cX2_addDecimalDigits 64 = .ok (.lload 4, 2) := by decide +kernel
theorem dX2_addDecimalDigits_66 : decode cX2_addDecimalDigits 66 = .ok (.ldc2_w 29, 3) := by decide +kernel
theorem dX2_addDecimalDigits_69 : decode cX2_addDecimalDigits 69 = .ok (.ldiv, 1) := by decide +kernel
theorem dX2_addDecimalDigits_70 : decode cX2_addDecimalDigits 70 = .ok (.lstore 4, 2) := by decide +kernel
theorem dX2_addDecimalDigits_72 : decode cX2_addDecimalDigits 72 = .ok (.goto (-65), 3) := by decide +kernel
theorem dX2_addDecimalDigits_75 : decode cX2_addDecimalDigits 75 = .ok (.return_, 1) := by decide +kernel
theorem dX3_clear_0 : decode cX3_clear 0 = .ok (.aload_n 0, 1) := by decide +kernel
theorem dX3_clear_1 : decode cX3_clear 1 = .ok (.iconst 0, 1) := by decide +kernel
theorem dX3_clear_2 : decode cX3_clear 2 = .ok (.putfield 28, 3) := by decide +kernel
theorem dX3_clear_5 : decode cX3_clear 5 = .ok (.return_, 1) := by decide +kernel
theorem dX3_make_0 : decode cX3_make 0 = .ok (.aload_n 0, 1) := by decide +kernel
theorem dX3_make_1 : decode cX3_make 1 = .ok (.getfield 21, 3) := by decide +kernel
theorem dX3_make_4 : decode cX3_make 4 = .ok (.invokevirtual 62, 3) := by decide +kernel
theorem dX3_make_7 : decode cX3_make 7 = .ok (.aload_n 0, 1) := by decide +kernel
theorem dX3_make_8 : decode cX3_make 8 = .ok (.iconst 0, 1) := by decide +kernel
theorem dX3_make_9 : decode cX3_make 9 = .ok (.putfield 32, 3) := by decide +kernel
theorem dX3_make_12 : decode cX3_make 12 = .ok (.iconst 0, 1) := by decide +kernel
theorem dX3_make_13 : decode cX3_make 13 = .ok (.istore_n 1, 1) := by decide +kernel
theorem dX3_make_14 : decode cX3_make 14 = .ok (.iconst 0, 1) := by decide +kernel
theorem dX3_make_15 : decode cX3_make 15 = .ok (.istore_n 2, 1) := by decide +kernel
theorem dX3_make_16 : decode cX3_make 16 = .ok (.iload_n 2, 1) := by decide +kernel
theorem dX3_make_17 : decode cX3_make 17 = .ok (.sipush 400, 3) := by decide +kernel
theorem dX3_make_20 : decode cX3_make 20 = .ok (.if_icmp .ge 112, 3) := by decide +kernel
theorem dX3_make_23 : decode cX3_make 23 = .ok (.iload_n 1, 1) := by decide +kernel
theorem dX3_make_24 : decode cX3_make 24 = .ok (.aload_n 0, 1) := by decide +kernel
theorem dX3_make_25 : decode cX3_make 25 = .ok (.getfield 18, 3) := by decide +kernel
theorem dX3_make_28 : decode cX3_make 28 = .ok (.getfield 69, 3) := by decide +kernel
theorem dX3_make_31 : decode cX3_make 31 = .ok (.if_icmp .ge 101, 3) := by decide +kernel
theorem dX3_make_34 : decode cX3_make 34 = .ok (.aload_n 0, 1) := by decide +kernel
theorem dX3_make_35 : decode cX3_make 35 = .ok (.getfield 18, 3) := by decide +kernel
theorem dX3_make_38 : decode cX3_make 38 = .ok (.iload_n 1, 1) := by decide +kernel
theorem dX3_make_39 : decode cX3_make 39 = .ok (.invokevirtual 87, 3) := by decide +kernel
theorem dX3_make_42 : decode cX3_make 42 = .ok (.bipush 37, 2) := by decide +kernel
theorem dX3_make_44 : decode cX3_make 44 = .ok (.if_icmp .ne 41, 3) := by decide +kernel
theorem dX3_make_47 : decode cX3_make 47 = .ok (.aload_n 0, 1) := by decide +kernel
theorem dX3_make_48 : decode cX3_make 48 = .ok (.getfield 38, 3) := by decide +kernel
theorem dX3_make_51 : decode cX3_make 51 = .ok (.aload_n 0, 1) := by decide +kernel
theorem dX3_make_52 : decode cX3_make 52 = .ok (.getfield 18, 3) := by decide +kernel
theorem dX3_make_55 : decode cX3_make 55 = .ok (.iload_n 1, 1) := by decide +kernel
theorem dX3_make_56 : decode cX3_make 56 = .ok (.iconst 1, 1) := by decide +kernel
theorem dX3_make_57 : decode cX3_make 57 = .ok (.iadd, 1) := by decide +kernel
theorem dX3_make_58 : decode cX3_make 58 = .ok (.invokevirtual 91, 3) := by decide +kernel
theorem dX3_make_61 : decode cX3_make 61 = .ok (.ifCond .eq 10, 3) := by decide +kernel
theorem dX3_make_64 : decode cX3_make 64 = .ok (.aload_n 0, 1) := by decide +kernel
theorem dX3_make_65 : decode cX3_make 65 = .ok (.invokevirtual 95, 3) := by decide +kernel
theorem dX3_make_68 : decode cX3_make 68 = .ok (.goto 5, 3) := by decide +kernel
theorem dX3_make_71 : decode cX3_make 71 = .ok (.bipush (-2), 2) := by decide +kernel
theorem dX3_make_73 : decode cX3_make 73 = .ok (.istore_n 3, 1) := by decide +kernel
theorem dX3_make_74 : decode cX3_make 74 = .ok (.aload_n 0, 1) := by decide +kernel
theorem dX3_make_75 : decode cX3_make 75 = .ok (.getfield 38, 3) := by decide +kernel
theorem dX3_make_78 : decode cX3_make 78 = .ok (.getfield 99, 3) := by decide +kernel
theorem dX3_make_81 : decode cX3_make 81 = .ok (.istore_n 1, 1) := by decide +kernel
theorem dX3_make_82 : decode cX3_make 82 = .ok (.goto 31, 3) := by decide +kernel
theorem dX3_make_85 : decode cX3_make 85 = .ok (.aload_n 0, 1) := by decide +kernel
theorem dX3_make_86 : decode cX3_make 86 = .ok (.getfield 21, 3) := by decide +kernel
theorem dX3_make_89 : decode cX3_make 89 = .ok (.aload_n 0, 1) := by decide +kernel
theorem dX3_make_90 : decode cX3_make 90 = .ok (.getfield 18, 3) := by decide +kernel
theorem dX3_make_93 : decode cX3_make 93 = .ok (.iload_n 1, 1) := by decide +kernel
theorem dX3_make_94 : decode cX3_make 94 = .ok (.invokevirtual 87, 3) := by decide +kernel
theorem dX3_make_97 : decode cX3_make 97 = .ok (.invokevirtual 80, 3) := by decide +kernel
theorem dX3_make_100 : decode cX3_make 100 = .ok (.ifCond .eq 7, 3) := by decide +kernel
theorem dX3_make_103 : decode cX3_make 103 = .ok (.iconst 0, 1) := by decide +kernel
theorem dX3_make_104 : decode cX3_make 104 = .ok (.goto 5, 3) := by decide +kernel
theorem dX3_make_107 : decode cX3_make 107 = .ok (.bipush (-5), 2) := by decide +kernel
theorem dX3_make_109 : decode cX3_make 109 = .ok (.istore_n 3, 1) := by decide +kernel
theorem dX3_make_110 : decode cX3_make 110 = .ok (.iinc 1 1, 3) := by decide +kernel
theorem dX3_make_113 : decode cX3_make 113 = .ok (.iload_n 3, 1) := by decide +kernel
theorem dX3_make_114 : decode cX3_make 114 = .ok (.ifCond .eq 12, 3) := by decide +kernel
theorem dX3_make_117 : decode cX3_make 117 = .ok (.aload_n 0, 1) := by decide +kernel
theorem dX3_make_118 : decode cX3_make 118 = .ok (.getfield 21, 3) := by decide +kernel
theorem dX3_make_121 : decode cX3_make 121 = .ok (.invokevirtual 62, 3) := by decide +kernel
theorem dX3_make_124 : decode cX3_make 124 = .ok (.iload_n 3, 1) := by decide +kernel
theorem dX3_make_125 : decode cX3_make 125 = .ok (.ireturn, 1) := by decide +kernel
theorem dX3_make_126 : decode cX3_make 126 = .ok (.iinc 2 1, 3) := by decide +kernel
theorem dX3_make_129 : decode cX3_make 129 = .ok (.goto (-113), 3) := by decide +kernel
theorem dX3_make_132 : decode cX3_make 132 = .ok (.aload_n 0, 1) := by decide +kernel
theorem dX3_make_133 : decode cX3_make 133 = .ok (.getfield 21, 3) := by decide +kernel
theorem dX3_make_136 : decode cX3_make 136 = .ok (.getfield 69, 3) := by decide +kernel
theorem dX3_make_139 : decode cX3_make 139 = .ok (.ireturn, 1) := by decide +kernel
theorem dX1_read_0 : decode cX1_read 0 = .ok (.aload_n 0, 1) := by decide +kernel
theorem dX1_read_1 : decode cX1_read 1 = .ok (.aload_n 1, 1) := by decide +kernel
theorem dX1_read_2 : decode cX1_read 2 = .ok (.iload_n 2, 1) := by decide +kernel
theorem dX1_read_3 : decode cX1_read 3 = .ok (.invokevirtual 15, 3) := by decide +kernel
theorem dX1_read_6 : decode cX1_read 6 = .ok (.istore_n 3, 1) := by decide +kernel
theorem dX1_read_7 : decode cX1_read 7 = .ok (.aload_n 0, 1) := by decide +kernel
theorem dX1_read_8 : decode cX1_read 8 = .ok (.aload_n 1, 1) := by decide +kernel
theorem dX1_read_9 : decode cX1_read 9 = .ok (.iload_n 3, 1) := by decide +kernel
theorem dX1_read_10 : decode cX1_read 10 = .ok (.invokevirtual 19, 3) := by decide +kernel
theorem dX1_read_13 : decode cX1_read 13 = .ok (.istore 4, 2) := by decide +kernel
theorem dX1_read_15 : decode cX1_read 15 = .ok (.aload_n 0, 1) := by decide +kernel
theorem dX1_read_16 : decode cX1_read 16 = .ok (.aload_n 1, 1) := by decide +kernel
theorem dX1_read_17 : decode cX1_read 17 = .ok (.iload 4, 2) := by decide +kernel
theorem dX1_read_19 : decode cX1_read 19 = .ok (.invokevirtual 22, 3) := by decide +kernel
theorem dX1_read_22 : decode cX1_read 22 = .ok (.putfield 9, 3) := by decide +kernel
theorem dX1_read_25 : decode cX1_read 25 = .ok (.aload_n 0, 1) := by decide +kernel
theorem dX1_read_26 : decode cX1_read 26 = .ok (.iload 4, 2) := by decide +kernel
theorem dX1_read_28 : decode cX1_read 28 = .ok (.iconst 1, 1) := by decide +kernel
theorem dX1_read_29 : decode cX1_read 29 = .ok (.iadd, 1) := by decide +kernel
theorem dX1_read_30 : decode cX1_read 30 = .ok (.putfield 28, 3) := by decide +kernel
theorem dX1_read_33 : decode cX1_read 33 = .ok (.aload_n 0, 1) := by decide +kernel
theorem dX1_read_34 : decode cX1_read 34 = .ok (.getfield 9, 3) := by decide +kernel
theorem dX1_read_37 : decode cX1_read 37 = .ok (.invokestatic 31, 3) := by decide +kernel
theorem dX1_read_40 : decode cX1_read 40 = .ok (.ireturn, 1) := by decide +kernel
theorem dX1_readFlags_0 : decode cX1_readFlags 0 = .ok (.aload_n 0, 1) := by decide +kernel
theorem dX1_readFlags_1 : decode cX1_readFlags 1 = .ok (.iconst 0, 1) := by decide +kernel
theorem dX1_readFlags_2 : decode cX1_readFlags 2 = .ok (.putfield 42, 3) := by decide +kernel
theorem dX1_readFlags_5 : decode cX1_readFlags 5 = .ok (.aload_n 0, 1) := by decide +kernel
theorem dX1_readFlags_6 : decode cX1_readFlags 6 = .ok (.iconst 0, 1) := by decide +kernel
theorem dX1_readFlags_7 : decode cX1_readFlags 7 = .ok (.putfield 45, 3) := by decide +kernel
theorem dX1_readFlags_10 : decode cX1_readFlags 10 = .ok (.aload_n 0, 1) := by decide +kernel
theorem dX1_readFlags_11 : decode cX1_readFlags 11 = .ok (.iconst 0, 1) := by decide +kernel
theorem dX1_readFlags_12 : decode cX1_readFlags 12 = .ok (.putfield 35, 3) := by decide +kernel
theorem dX1_readFlags_15 : decode cX1_readFlags 15 = .ok (.aload_n 0, 1) := by decide +kernel
theorem dX1_readFlags_16 : decode cX1_readFlags 16 = .ok (.iconst 0, 1) := by decide +kernel
theorem dX1_readFlags_17 : decode cX1_readFlags 17 = .ok (.putfield 39, 3) := by decide +kernel
theorem dX1_readFlags_20 : decode cX1_readFlags 20 = .ok (.iload_n 2, 1) := by decide +kernel
theorem dX1_readFlags_21 : decode cX1_readFlags 21 = .ok (.istore_n 3, 1) := by decide +kernel
theorem dX1_readFlags_22 : decode cX1_readFlags 22 = .ok (.iload_n 3, 1) := by decide +kernel
theorem dX1_readFlags_23 : decode cX1_readFlags 23 = .ok (.aload_n 1, 1) := by decide +kernel
theorem dX1_readFlags_24 : decode cX1_readFlags 24 = .ok (.getfield 48, 3) := by decide +kernel
theorem dX1_readFlags_27 : decode cX1_readFlags 27 = .ok (.if_icmp .ge 21, 3) := by decide +kernel
theorem dX1_readFlags_30 : decode cX1_readFlags 30 = .ok (.aload_n 0, 1) := by decide +kernel
theorem dX1_readFlags_31 : decode cX1_readFlags 31 = .ok (.aload_n 1, 1) := by decide +kernel
theorem dX1_readFlags_32 : decode cX1_readFlags 32 = .ok (.iload_n 3, 1) := by decide +kernel
theorem dX1_readFlags_33 : decode cX1_readFlags 33 = .ok (.invokevirtual 22, 3) := by decide +kernel
theorem dX1_readFlags_36 : decode cX1_readFlags 36 = .ok (.invokevirtual 51, 3) := by decide +kernel
theorem dX1_readFlags_39 : decode cX1_readFlags 39 = .ok (.ifCond .eq 9, 3) := by decide +kernel
theorem dX1_readFlags_42 : decode cX1_readFlags 42 = .ok (.iinc 3 1, 3) := by decide +kernel
theorem dX1_readFlags_45 : decode cX1_readFlags 45 = .ok (.goto (-23), 3) := by decide +kernel
theorem dX1_readFlags_48 : decode cX1_readFlags 48 = .ok (.iload_n 3, 1) := by decide +kernel
theorem dX1_readFlags_49 : decode cX1_readFlags 49 = .ok (.ireturn, 1) := by decide +kernel
theorem dX1_setFlag_0 : decode cX1_setFlag 0 = .ok (.iload_n 1, 1) := by decide +kernel
theorem dX1_setFlag_1 : decode cX1_setFlag 1 = .ok (.lookupswitch 71 #[(32, 64), (43, 57), (45, 43), (48, 50)], 43) := by decide +kernel
theorem dX1_setFlag_44 : decode cX1_setFlag 44 = .ok (.aload_n 0, 1) := by decide +kernel
theorem dX1_setFlag_45 : decode cX1_setFlag 45 = .ok (.iconst 1, 1) := by decide +kernel
theorem dX1_setFlag_46 : decode cX1_setFlag 46 = .ok (.putfield 42, 3) := by decide +kernel
theorem dX1_setFlag_49 : decode cX1_setFlag 49 = .ok (.iconst 1, 1) := by decide +kernel
theorem dX1_setFlag_50 : decode cX1_setFlag 50 = .ok (.ireturn, 1) := by decide +kernel
theorem dX1_setFlag_51 : decode cX1_setFlag 51 = .ok (.aload_n 0, 1) := by decide +kernel
theorem dX1_setFlag_52 : decode cX1_setFlag 52 = .ok (.iconst 1, 1) := by decide +kernel
theorem dX1_setFlag_53 : decode cX1_setFlag 53 = .ok (.putfield 45, 3) := by decide +kernel
theorem dX1_setFlag_56 : decode cX1_setFlag 56 = .ok (.iconst 1, 1) := by decide +kernel
theorem dX1_setFlag_57 : decode cX1_setFlag 57 = .ok (.ireturn, 1) := by decide +kernel
theorem dX1_setFlag_58 : decode cX1_setFlag 58 = .ok (.aload_n 0, 1) := by decide +kernel
theorem dX1_setFlag_59 : decode cX1_setFlag 59 = .ok (.iconst 1, 1) := by decide +kernel
theorem dX1_setFlag_60 : decode cX1_setFlag 60 = .ok (.putfield 35, 3) := by decide +kernel
theorem dX1_setFlag_63 : decode cX1_setFlag 63 = .ok (.iconst 1, 1) := by decide +kernel
theorem dX1_setFlag_64 : decode cX1_setFlag 64 = .ok (.ireturn, 1) := by decide +kernel
theorem dX1_setFlag_65 : decode cX1_setFlag 65 = .ok (.aload_n 0, 1) := by decide +kernel
theorem dX1_setFlag_66 : decode cX1_setFlag 66 = .ok (.iconst 1, 1) := by decide +kernel
theorem dX1_setFlag_67 : decode cX1_setFlag 67 = .ok (.putfield 39, 3) := by decide +kernel
theorem dX1_setFlag_70 : decode cX1_setFlag 70 = .ok (.iconst 1, 1) := by decide +kernel
theorem dX1_setFlag_71 : decode cX1_setFlag 71 = .ok (.ireturn, 1) := by decide +kernel
theorem dX1_setFlag_72 : decode cX1_setFlag 72 = .ok (.iconst 0, 1) := by decide +kernel
theorem dX1_setFlag_73 : decode cX1_setFlag 73 = .ok (.ireturn, 1) := by decide +kernel
theorem dX1_readWidth_0 : decode cX1_readWidth 0 = .ok (.aload_n 0, 1) := by decide +kernel
theorem dX1_readWidth_1 : decode cX1_readWidth 1 = .ok (.iconst 0, 1) := by decide +kernel
theorem dX1_readWidth_2 : decode cX1_readWidth 2 = .ok (.putfield 54, 3) := by decide +kernel
theorem dX1_readWidth_5 : decode cX1_readWidth 5 = .ok (.iload_n 2, 1) := by decide +kernel
theorem dX1_readWidth_6 : decode cX1_readWidth 6 = .ok (.istore_n 3, 1) := by decide +kernel
theorem dX1_readWidth_7 : decode cX1_readWidth 7 = .ok (.iload_n 3, 1) := by decide +kernel
theorem dX1_readWidth_8 : decode cX1_readWidth 8 = .ok (.aload_n 1, 1) := by decide +kernel
theorem dX1_readWidth_9 : decode cX1_readWidth 9 = .ok (.getfield 48, 3) := by decide +kernel
theorem dX1_readWidth_12 : decode cX1_readWidth 12 = .ok (.if_icmp .ge 45, 3) := by decide +kernel
theorem dX1_readWidth_15 : decode cX1_readWidth 15 = .ok (.aload_n 1, 1) := by decide +kernel
theorem dX1_readWidth_16 : decode cX1_readWidth 16 = .ok (.iload_n 3, 1) := by decide +kernel
theorem dX1_readWidth_17 : decode cX1_readWidth 17 = .ok (.invokevirtual 22, 3) := by decide +kernel
theorem dX1_readWidth_20 : decode cX1_readWidth 20 = .ok (.invokestatic 57, 3) := by decide +kernel
theorem dX1_readWidth_23 : decode cX1_readWidth 23 = .ok (.ifCond .eq 34, 3) := by decide +kernel
theorem dX1_readWidth_26 : decode cX1_readWidth 26 = .ok (.aload_n 0, 1) := by decide +kernel
theorem dX1_readWidth_27 : decode cX1_readWidth 27 = .ok (.ldc 60, 2) := by decide +kernel
theorem dX1_readWidth_29 : decode cX1_readWidth 29 = .ok (.aload_n 0, 1) := by decide +kernel
theorem dX1_readWidth_30 : decode cX1_readWidth 30 = .ok (.getfield 54, 3) := by decide +kernel
theorem dX1_readWidth_33 : decode cX1_readWidth 33 = .ok (.bipush 10, 2) := by decide +kernel
theorem dX1_readWidth_35 : decode cX1_readWidth 35 = .ok (.imul, 1) := by decide +kernel
theorem dX1_readWidth_36 : decode cX1_readWidth 36 = .ok (.aload_n 1, 1) := by decide +kernel
theorem dX1_readWidth_37 : decode cX1_readWidth 37 = .ok (.iload_n 3, 1) := by decide +kernel
theorem dX1_readWidth_38 : decode cX1_readWidth 38 = .ok (.invokevirtual 22, 3) := by decide +kernel
theorem dX1_readWidth_41 : decode cX1_readWidth 41 = .ok (.iadd, 1) := by decide +kernel
theorem dX1_readWidth_42 : decode cX1_readWidth 42 = .ok (.bipush 48, 2) := by decide +kernel
theorem dX1_readWidth_44 : decode cX1_readWidth 44 = .ok (.isub, 1) := by decide +kernel
theorem dX1_readWidth_45 : decode cX1_readWidth 45 = .ok (.invokestatic 61, 3) := by decide +kernel
theorem dX1_readWidth_48 : decode cX1_readWidth 48 = .ok (.putfield 54, 3) := by decide +kernel
theorem dX1_readWidth_51 : decode cX1_readWidth 51 = .ok (.iinc 3 1, 3) := by decide +kernel
theorem dX1_readWidth_54 : decode cX1_readWidth 54 = .ok (.goto (-47), 3) := by decide +kernel
theorem dX1_readWidth_57 : decode cX1_readWidth 57 = .ok (.iload_n 3, 1) := by decide +kernel
theorem dX1_readWidth_58 : decode cX1_readWidth 58 = .ok (.ireturn, 1) := by decide +kernel
theorem dX3_isDecimalDigit_0 : decode cX3_isDecimalDigit 0 = .ok (.iload_n 0, 1) := by decide +kernel
theorem dX3_isDecimalDigit_1 : decode cX3_isDecimalDigit 1 = .ok (.bipush 48, 2) := by decide +kernel
theorem dX3_isDecimalDigit_3 : decode cX3_isDecimalDigit 3 = .ok (.if_icmp .lt 13, 3) := by decide +kernel
theorem dX3_isDecimalDigit_6 : decode cX3_isDecimalDigit 6 = .ok (.iload_n 0, 1) := by decide +kernel
theorem dX3_isDecimalDigit_7 : decode cX3_isDecimalDigit 7 = .ok (.bipush 57, 2) := by decide +kernel
theorem dX3_isDecimalDigit_9 : decode cX3_isDecimalDigit 9 = .ok (.if_icmp .gt 7, 3) := by decide +kernel
theorem dX3_isDecimalDigit_12 : decode cX3_isDecimalDigit 12 = .ok (.iconst 1, 1) := by decide +kernel
theorem dX3_isDecimalDigit_13 : decode cX3_isDecimalDigit 13 = .ok (.goto 4, 3) := by decide +kernel
theorem dX3_isDecimalDigit_16 : decode cX3_isDecimalDigit 16 = .ok (.iconst 0, 1) := by decide +kernel
theorem dX3_isDecimalDigit_17 : decode cX3_isDecimalDigit 17 = .ok (.ireturn, 1) := by decide +kernel
theorem dX1_isKind_0 : decode cX1_isKind 0 = .ok (.iload_n 0, 1) := by decide +kernel
theorem dX1_isKind_1 : decode cX1_isKind 1 = .ok (.lookupswitch 69 #[(37, 67), (88, 67), (99, 67), (100, 67), (111, 67), (115, 67), (120, 67)], 67) := by decide +kernel
theorem dX1_isKind_68 : decode cX1_isKind 68 = .ok (.iconst 1, 1) := by decide +kernel
theorem dX1_isKind_69 : decode cX1_isKind 69 = .ok (.ireturn, 1) := by decide +kernel
theorem dX1_isKind_70 : decode cX1_isKind 70 = .ok (.iconst 0, 1) := by decide +kernel
theorem dX1_isKind_71 : decode cX1_isKind 71 = .ok (.ireturn, 1) := by decide +kernel
theorem dX3_fillPlace_0 : decode cX3_fillPlace 0 = .ok (.aload_n 0, 1) := by decide +kernel
theorem dX3_fillPlace_1 : decode cX3_fillPlace 1 = .ok (.getfield 38, 3) := by decide +kernel
theorem dX3_fillPlace_4 : decode cX3_fillPlace 4 = .ok (.getfield 102, 3) := by decide +kernel
theorem dX3_fillPlace_7 : decode cX3_fillPlace 7 = .ok (.bipush 37, 2) := by decide +kernel
theorem dX3_fillPlace_9 : decode cX3_fillPlace 9 = .ok (.if_icmp .ne 22, 3) := by decide +kernel
theorem dX3_fillPlace_12 : decode cX3_fillPlace 12 = .ok (.aload_n 0, 1) := by decide +kernel
theorem dX3_fillPlace_13 : decode cX3_fillPlace 13 = .ok (.getfield 21, 3) := by decide +kernel
theorem dX3_fillPlace_16 : decode cX3_fillPlace 16 = .ok (.bipush 37, 2) := by decide +kernel
theorem dX3_fillPlace_18 : decode cX3_fillPlace 18 = .ok (.invokevirtual 80, 3) := by decide +kernel
theorem dX3_fillPlace_21 : decode cX3_fillPlace 21 = .ok (.ifCond .eq 7, 3) := by decide +kernel
theorem dX3_fillPlace_24 : decode cX3_fillPlace 24 = .ok (.iconst 0, 1) := by decide +kernel
theorem dX3_fillPlace_25 : decode cX3_fillPlace 25 = .ok (.goto 5, 3) := by decide +kernel
theorem dX3_fillPlace_28 : decode cX3_fillPlace 28 = .ok (.bipush (-5), 2) := by decide +kernel
theorem dX3_fillPlace_30 : decode cX3_fillPlace 30 = .ok (.ireturn, 1) := by decide +kernel
theorem dX3_fillPlace_31 : decode cX3_fillPlace 31 = .ok (.aload_n 0, 1) := by decide +kernel
theorem dX3_fillPlace_32 : decode cX3_fillPlace 32 = .ok (.getfield 32, 3) := by decide +kernel
theorem dX3_fillPlace_35 : decode cX3_fillPlace 35 = .ok (.ifCond .lt 26, 3) := by decide +kernel
theorem dX3_fillPlace_38 : decode cX3_fillPlace 38 = .ok (.aload_n 0, 1) := by decide +kernel
theorem dX3_fillPlace_39 : decode cX3_fillPlace 39 = .ok (.getfield 32, 3) := by decide +kernel
theorem dX3_fillPlace_42 : decode cX3_fillPlace 42 = .ok (.aload_n 0, 1) := by decide +kernel
theorem dX3_fillPlace_43 : decode cX3_fillPlace 43 = .ok (.getfield 28, 3) := by decide +kernel
theorem dX3_fillPlace_46 : decode cX3_fillPlace 46 = .ok (.if_icmp .ge 15, 3) := by decide +kernel
theorem dX3_fillPlace_49 : decode cX3_fillPlace 49 = .ok (.aload_n 0, 1) := by decide +kernel
theorem dX3_fillPlace_50 : decode cX3_fillPlace 50 = .ok (.getfield 32, 3) := by decide +kernel
theorem dX3_fillPlace_53 : decode cX3_fillPlace 53 = .ok (.aload_n 0, 1) := by decide +kernel
theorem dX3_fillPlace_54 : decode cX3_fillPlace 54 = .ok (.getfield 24, 3) := by decide +kernel
theorem dX3_fillPlace_57 : decode cX3_fillPlace 57 = .ok (.arraylength, 1) := by decide +kernel
theorem dX3_fillPlace_58 : decode cX3_fillPlace 58 = .ok (.if_icmp .lt 6, 3) := by decide +kernel
theorem dX3_fillPlace_61 : decode cX3_fillPlace 61 = .ok (.bipush (-3), 2) := by decide +kernel
theorem dX3_fillPlace_63 : decode cX3_fillPlace 63 = .ok (.ireturn, 1) := by decide +kernel
theorem dX3_fillPlace_64 : decode cX3_fillPlace 64 = .ok (.aload_n 0, 1) := by decide +kernel
theorem dX3_fillPlace_65 : decode cX3_fillPlace 65 = .ok (.getfield 24, 3) := by decide +kernel
theorem dX3_fillPlace_68 : decode cX3_fillPlace 68 = .ok (.aload_n 0, 1) := by decide +kernel
theorem dX3_fillPlace_69 : decode cX3_fillPlace 69 = .ok (.getfield 32, 3) := by decide +kernel
theorem dX3_fillPlace_72 : decode cX3_fillPlace 72 = .ok (.aaload, 1) := by decide +kernel
theorem dX3_fillPlace_73 : decode cX3_fillPlace 73 = .ok (.astore_n 1, 1) := by decide +kernel
theorem dX3_fillPlace_74 : decode cX3_fillPlace 74 = .ok (.aload_n 0, 1) := by decide +kernel
theorem dX3_fillPlace_75 : decode cX3_fillPlace 75 = .ok (.dup, 1) := by decide +kernel
theorem dX3_fillPlace_76 : decode cX3_fillPlace 76 = .ok (.getfield 32, 3) := by decide +kernel
theorem dX3_fillPlace_79 : decode cX3_fillPlace 79 = .ok (.iconst 1, 1) := by decide +kernel
theorem dX3_fillPlace_80 : decode cX3_fillPlace 80 = .ok (.iadd, 1) := by decide +kernel
theorem dX3_fillPlace_81 : decode cX3_fillPlace 81 = .ok (.putfield 32, 3) := by decide +kernel
theorem dX3_fillPlace_84 : decode cX3_fillPlace 84 = .ok (.aload_n 0, 1) := by decide +kernel
theorem dX3_fillPlace_85 : decode cX3_fillPlace 85 = .ok (.getfield 38, 3) := by decide +kernel
theorem dX3_fillPlace_88 : decode cX3_fillPlace 88 = .ok (.getfield 102, 3) := by decide +kernel
theorem dX3_fillPlace_91 : decode cX3_fillPlace 91 = .ok (.bipush 115, 2) := by decide +kernel
theorem dX3_fillPlace_93 : decode cX3_fillPlace 93 = .ok (.if_icmp .ne 11, 3) := by decide +kernel
theorem dX3_fillPlace_96 : decode cX3_fillPlace 96 = .ok (.aload_n 0, 1) := by decide +kernel
theorem dX3_fillPlace_97 : decode cX3_fillPlace 97 = .ok (.iconst 0, 1) := by decide +kernel
theorem dX3_fillPlace_98 : decode cX3_fillPlace 98 = .ok (.aload_n 1, 1) := by decide +kernel
theorem dX3_fillPlace_99 : decode cX3_fillPlace 99 = .ok (.iconst 0, 1) := by decide +kernel
theorem dX3_fillPlace_100 : decode cX3_fillPlace 100 = .ok (.invokevirtual 105, 3) := by decide +kernel
theorem dX3_fillPlace_103 : decode cX3_fillPlace 103 = .ok (.ireturn, 1) := by decide +kernel
theorem dX3_fillPlace_104 : decode cX3_fillPlace 104 = .ok (.aload_n 0, 1) := by decide +kernel
theorem dX3_fillPlace_105 : decode cX3_fillPlace 105 = .ok (.getfield 45, 3) := by decide +kernel
theorem dX3_fillPlace_108 : decode cX3_fillPlace 108 = .ok (.aload_n 1, 1) := by decide +kernel
theorem dX3_fillPlace_109 : decode cX3_fillPlace 109 = .ok (.invokevirtual 109, 3) := by decide +kernel
theorem dX3_fillPlace_112 : decode cX3_fillPlace 112 = .ok (.ifCond .ne 6, 3) := by decide +kernel
theorem dX3_fillPlace_115 : decode cX3_fillPlace 115 = .ok (.bipush (-4), 2) := by decide +kernel
theorem dX3_fillPlace_117 : decode cX3_fillPlace 117 = .ok (.ireturn, 1) := by decide +kernel
theorem dX3_fillPlace_118 : decode cX3_fillPlace 118 = .ok (.aload_n 0, 1) := by decide +kernel
theorem dX3_fillPlace_119 : decode cX3_fillPlace 119 = .ok (.aload_n 0, 1) := by decide +kernel
theorem dX3_fillPlace_120 : decode cX3_fillPlace 120 = .ok (.getfield 45, 3) := by decide +kernel
theorem dX3_fillPlace_123 : decode cX3_fillPlace 123 = .ok (.getfield 112, 3) := by decide +kernel
theorem dX3_fillPlace_126 : decode cX3_fillPlace 126 = .ok (.invokevirtual 116, 3) := by decide +kernel
theorem dX3_fillPlace_129 : decode cX3_fillPlace 129 = .ok (.ireturn, 1) := by decide +kernel
theorem dX3_addPadded_0 : decode cX3_addPadded 0 = .ok (.aload_n 2, 1) := by decide +kernel
theorem dX3_addPadded_1 : decode cX3_addPadded 1 = .ok (.getfield 69, 3) := by decide +kernel
theorem dX3_addPadded_4 : decode cX3_addPadded 4 = .ok (.iload_n 1, 1) := by decide +kernel
theorem dX3_addPadded_5 : decode cX3_addPadded 5 = .ok (.ifCond .ne 7, 3) := by decide +kernel
theorem dX3_addPadded_8 : decode cX3_addPadded 8 = .ok (.iconst 0, 1) := by decide +kernel
theorem dX3_addPadded_9 : decode cX3_addPadded 9 = .ok (.goto 4, 3) := by decide +kernel
theorem dX3_addPadded_12 : decode cX3_addPadded 12 = .ok (.iconst 1, 1) := by decide +kernel
theorem dX3_addPadded_13 : decode cX3_addPadded 13 = .ok (.iadd, 1) := by decide +kernel
theorem dX3_addPadded_14 : decode cX3_addPadded 14 = .ok (.istore 4, 2) := by decide +kernel
theorem dX3_addPadded_16 : decode cX3_addPadded 16 = .ok (.iload 4, 2) := by decide +kernel
theorem dX3_addPadded_18 : decode cX3_addPadded 18 = .ok (.aload_n 0, 1) := by decide +kernel
theorem dX3_addPadded_19 : decode cX3_addPadded 19 = .ok (.getfield 38, 3) := by decide +kernel
theorem dX3_addPadded_22 : decode cX3_addPadded 22 = .ok (.getfield 131, 3) := by decide +kernel
theorem dX3_addPadded_25 : decode cX3_addPadded 25 = .ok (.invokestatic 134, 3) := by decide +kernel
theorem dX3_addPadded_28 : decode cX3_addPadded 28 = .ok (.istore 5, 2) := by decide +kernel
theorem dX3_addPadded_30 : decode cX3_addPadded 30 = .ok (.aload_n 0, 1) := by decide +kernel
theorem dX3_addPadded_31 : decode cX3_addPadded 31 = .ok (.getfield 21, 3) := by decide +kernel
theorem dX3_addPadded_34 : decode cX3_addPadded 34 = .ok (.iload 5, 2) := by decide +kernel
theorem dX3_addPadded_36 : decode cX3_addPadded 36 = .ok (.invokevirtual 52, 3) := by decide +kernel
theorem dX3_addPadded_39 : decode cX3_addPadded 39 = .ok (.ifCond .ne 6, 3) := by decide +kernel
theorem dX3_addPadded_42 : decode cX3_addPadded 42 = .ok (.bipush (-5), 2) := by decide +kernel
theorem dX3_addPadded_44 : decode cX3_addPadded 44 = .ok (.ireturn, 1) := by decide +kernel
theorem dX3_addPadded_45 : decode cX3_addPadded 45 = .ok (.iload 5, 2) := by decide +kernel
theorem dX3_addPadded_47 : decode cX3_addPadded 47 = .ok (.iload 4, 2) := by decide +kernel
theorem dX3_addPadded_49 : decode cX3_addPadded 49 = .ok (.isub, 1) := by decide +kernel
theorem dX3_addPadded_50 : decode cX3_addPadded 50 = .ok (.istore 6, 2) := by decide +kernel
theorem dX3_addPadded_52 : decode cX3_addPadded 52 = .ok (.aload_n 0, 1) := by decide +kernel
theorem dX3_addPadded_53 : decode cX3_addPadded 53 = .ok (.getfield 38, 3) := by decide +kernel
theorem dX3_addPadded_56 : decode cX3_addPadded 56 = .ok (.getfield 140, 3) := by decide +kernel
theorem dX3_addPadded_59 : decode cX3_addPadded 59 = .ok (.ifCond .ne 18, 3) := by decide +kernel
theorem dX3_addPadded_62 : decode cX3_addPadded 62 = .ok (.iload_n 3, 1) := by decide +kernel
theorem dX3_addPadded_63 : decode cX3_addPadded 63 = .ok (.ifCond .ne 14, 3) := by decide +kernel
theorem dX3_addPadded_66 : decode cX3_addPadded 66 = .ok (.aload_n 0, 1) := by decide +kernel
theorem dX3_addPadded_67 : decode cX3_addPadded 67 = .ok (.getfield 21, 3) := by decide +kernel
theorem dX3_addPadded_70 : decode cX3_addPadded 70 = .ok (.bipush 32, 2) := by decide +kernel
theorem dX3_addPadded_72 : decode cX3_addPadded 72 = .ok (.iload 6, 2) := by decide +kernel
theorem dX3_addPadded_74 : decode cX3_addPadded 74 = .ok (.invokevirtual 143, 3) := by decide +kernel
theorem dX3_addPadded_77 : decode cX3_addPadded 77 = .ok (.iload_n 1, 1) := by decide +kernel
theorem dX3_addPadded_78 : decode cX3_addPadded 78 = .ok (.ifCond .eq 12, 3) := by decide +kernel
theorem dX3_addPadded_81 : decode cX3_addPadded 81 = .ok (.aload_n 0, 1) := by decide +kernel
theorem dX3_addPadded_82 : decode cX3_addPadded 82 = .ok (.getfield 21, 3) := by decide +kernel
theorem dX3_addPadded_85 : decode cX3_addPadded 85 = .ok (.iload_n 1, 1) := by decide +kernel
theorem dX3_addPadded_86 : decode cX3_addPadded 86 = .ok (.invokevirtual 80, 3) := by decide +kernel
theorem dX3_addPadded_89 : decode cX3_addPadded 89 = .ok (.pop, 1) := by decide +kernel
theorem dX3_addPadded_90 : decode cX3_addPadded 90 = .ok (.aload_n 0, 1) := by decide +kernel
theorem dX3_addPadded_91 : decode cX3_addPadded 91 = .ok (.getfield 38, 3) := by decide +kernel
theorem dX3_addPadded_94 : decode cX3_addPadded 94 = .ok (.getfield 140, 3) := by decide +kernel
theorem dX3_addPadded_97 : decode cX3_addPadded 97 = .ok (.ifCond .ne 18, 3) := by decide +kernel
theorem dX3_addPadded_100 : decode cX3_addPadded 100 = .ok (.iload_n 3, 1) := by decide +kernel
theorem dX3_addPadded_101 : decode cX3_addPadded 101 = .ok (.ifCond .eq 14, 3) := by decide +kernel
theorem dX3_addPadded_104 : decode cX3_addPadded 104 = .ok (.aload_n 0, 1) := by decide +kernel
theorem dX3_addPadded_105 : decode cX3_addPadded 105 = .ok (.getfield 21, 3) := by decide +kernel
theorem dX3_addPadded_108 : decode cX3_addPadded 108 = .ok (.bipush 48, 2) := by decide +kernel
theorem dX3_addPadded_110 : decode cX3_addPadded 110 = .ok (.iload 6, 2) := by decide +kernel
theorem dX3_addPadded_112 : decode cX3_addPadded 112 = .ok (.invokevirtual 143, 3) := by decide +kernel
theorem dX3_addPadded_115 : decode cX3_addPadded 115 = .ok (.aload_n 0, 1) := by decide +kernel
theorem dX3_addPadded_116 : decode cX3_addPadded 116 = .ok (.getfield 21, 3) := by decide +kernel
theorem dX3_addPadded_119 : decode cX3_addPadded 119 = .ok (.aload_n 2, 1) := by decide +kernel
theorem dX3_addPadded_120 : decode cX3_addPadded 120 = .ok (.invokevirtual 65, 3) := by decide +kernel
theorem dX3_addPadded_123 : decode cX3_addPadded 123 = .ok (.aload_n 0, 1) := by decide +kernel
theorem dX3_addPadded_124 : decode cX3_addPadded 124 = .ok (.getfield 38, 3) := by decide +kernel
theorem dX3_addPadded_127 : decode cX3_addPadded 127 = .ok (.getfield 140, 3) := by decide +kernel
theorem dX3_addPadded_130 : decode cX3_addPadded 130 = .ok (.ifCond .eq 14, 3) := by decide +kernel
theorem dX3_addPadded_133 : decode cX3_addPadded 133 = .ok (.aload_n 0, 1) := by decide +kernel
theorem dX3_addPadded_134 : decode cX3_addPadded 134 = .ok (.getfield 21, 3) := by decide +kernel
theorem dX3_addPadded_137 : decode cX3_addPadded 137 = .ok (.bipush 32, 2) := by decide +kernel
theorem dX3_addPadded_139 : decode cX3_addPadded 139 = .ok (.iload 6, 2) := by decide +kernel
theorem dX3_addPadded_141 : decode cX3_addPadded 141 = .ok (.invokevirtual 143, 3) := by decide +kernel
theorem dX3_addPadded_144 : decode cX3_addPadded 144 = .ok (.iconst 0, 1) := by decide +kernel
theorem dX3_addPadded_145 : decode cX3_addPadded 145 = .ok (.ireturn, 1) := by decide +kernel
theorem dX2_addMany_0 : decode cX2_addMany 0 = .ok (.iconst 0, 1) := by decide +kernel
theorem dX2_addMany_1 : decode cX2_addMany 1 = .ok (.istore_n 3, 1) := by decide +kernel
theorem dX2_addMany_2 : decode cX2_addMany 2 = .ok (.iload_n 3, 1) := by decide +kernel
theorem dX2_addMany_3 : decode cX2_addMany 3 = .ok (.iload_n 2, 1) := by decide +kernel
theorem dX2_addMany_4 : decode cX2_addMany 4 = .ok (.if_icmp .ge 15, 3) := by decide +kernel
theorem dX2_addMany_7 : decode cX2_addMany 7 = .ok (.aload_n 0, 1) := by decide +kernel
theorem dX2_addMany_8 : decode cX2_addMany 8 = .ok (.iload_n 1, 1) := by decide +kernel
theorem dX2_addMany_9 : decode cX2_addMany 9 = .ok (.invokevirtual 19, 3) := by decide +kernel
theorem dX2_addMany_12 : decode cX2_addMany 12 = .ok (.pop, 1) := by decide +kernel
theorem dX2_addMany_13 : decode cX2_addMany 13 = .ok (.iinc 3 1, 3) := by decide +kernel
theorem dX2_addMany_16 : decode cX2_addMany 16 = .ok (.goto (-14), 3) := by decide +kernel
theorem dX2_addMany_19 : decode cX2_addMany 19 = .ok (.return_, 1) := by decide +kernel
theorem dX0_read_0 : decode cX0_read 0 = .ok (.aload_n 1, 1) := by decide +kernel
theorem dX0_read_1 : decode cX0_read 1 = .ok (.iconst 0, 1) := by decide +kernel
theorem dX0_read_2 : decode cX0_read 2 = .ok (.invokevirtual 15, 3) := by decide +kernel
theorem dX0_read_5 : decode cX0_read 5 = .ok (.bipush 45, 2) := by decide +kernel
theorem dX0_read_7 : decode cX0_read 7 = .ok (.if_icmp .ne 7, 3) := by decide +kernel
theorem dX0_read_10 : decode cX0_read 10 = .ok (.iconst 1, 1) := by decide +kernel
theorem dX0_read_11 : decode cX0_read 11 = .ok (.goto 4, 3) := by decide +kernel
theorem dX0_read_14 : decode cX0_read 14 = .ok (.iconst 0, 1) := by decide +kernel
theorem dX0_read_15 : decode cX0_read 15 = .ok (.istore_n 2, 1) := by decide +kernel
theorem dX0_read_16 : decode cX0_read 16 = .ok (.iload_n 2, 1) := by decide +kernel
theorem dX0_read_17 : decode cX0_read 17 = .ok (.ifCond .ne 13, 3) := by decide +kernel
theorem dX0_read_20 : decode cX0_read 20 = .ok (.aload_n 1, 1) := by decide +kernel
theorem dX0_read_21 : decode cX0_read 21 = .ok (.iconst 0, 1) := by decide +kernel
theorem dX0_read_22 : decode cX0_read 22 = .ok (.invokevirtual 15, 3) := by decide +kernel
theorem dX0_read_25 : decode cX0_read 25 = .ok (.bipush 43, 2) := by decide +kernel
theorem dX0_read_27 : decode cX0_read 27 = .ok (.if_icmp .ne 7, 3) := by decide +kernel
theorem dX0_read_30 : decode cX0_read 30 = .ok (.iconst 1, 1) := by decide +kernel
theorem dX0_read_31 : decode cX0_read 31 = .ok (.goto 4, 3) := by decide +kernel
theorem dX0_read_34 : decode cX0_read 34 = .ok (.iconst 0, 1) := by decide +kernel
theorem dX0_read_35 : decode cX0_read 35 = .ok (.istore_n 3, 1) := by decide +kernel
theorem dX0_read_36 : decode cX0_read 36 = .ok (.aload_n 1, 1) := by decide +kernel
theorem dX0_read_37 : decode cX0_read 37 = .ok (.iload_n 3, 1) := by decide +kernel
theorem dX0_read_38 : decode cX0_read 38 = .ok (.invokevirtual 15, 3) := by decide +kernel
theorem dX0_read_41 : decode cX0_read 41 = .ok (.bipush 48, 2) := by decide +kernel
theorem dX0_read_43 : decode cX0_read 43 = .ok (.if_icmp .ne 25, 3) := by decide +kernel
theorem dX0_read_46 : decode cX0_read 46 = .ok (.aload_n 1, 1) := by decide +kernel
theorem dX0_read_47 : decode cX0_read 47 = .ok (.iload_n 3, 1) := by decide +kernel
theorem dX0_read_48 : decode cX0_read 48 = .ok (.iconst 1, 1) := by decide +kernel
theorem dX0_read_49 : decode cX0_read 49 = .ok (.iadd, 1) := by decide +kernel
theorem dX0_read_50 : decode cX0_read 50 = .ok (.invokevirtual 15, 3) := by decide +kernel
theorem dX0_read_53 : decode cX0_read 53 = .ok (.bipush 120, 2) := by decide +kernel
theorem dX0_read_55 : decode cX0_read 55 = .ok (.if_icmp .ne 13, 3) := by decide +kernel
theorem dX0_read_58 : decode cX0_read 58 = .ok (.aload_n 0, 1) := by decide +kernel
theorem dX0_read_59 : decode cX0_read 59 = .ok (.aload_n 1, 1) := by decide +kernel
theorem dX0_read_60 : decode cX0_read 60 = .ok (.iload_n 3, 1) := by decide +kernel
theorem dX0_read_61 : decode cX0_read 61 = .ok (.iconst 2, 1) := by decide +kernel
theorem dX0_read_62 : decode cX0_read 62 = .ok (.iadd, 1) := by decide +kernel
theorem dX0_read_63 : decode cX0_read 63 = .ok (.iload_n 2, 1) := by decide +kernel
theorem dX0_read_64 : decode cX0_read 64 = .ok (.invokevirtual 21, 3) := by decide +kernel
theorem dX0_read_67 : decode cX0_read 67 = .ok (.ireturn, 1) := by decide +kernel
theorem dX0_read_68 : decode cX0_read 68 = .ok (.aload_n 0, 1) := by decide +kernel
theorem dX0_read_69 : decode cX0_read 69 = .ok (.aload_n 1, 1) := by decide +kernel
theorem dX0_read_70 : decode cX0_read 70 = .ok (.iload_n 3, 1) := by decide +kernel
theorem dX0_read_71 : decode cX0_read 71 = .ok (.iload_n 2, 1) := by decide +kernel
theorem dX0_read_72 : decode cX0_read 72 = .ok (.invokevirtual 25, 3) := by decide +kernel
theorem dX0_read_75 : decode cX0_read 75 = .ok (.ireturn, 1) := by decide +kernel
theorem dX0_readHexadecimal_0 : decode cX0_readHexadecimal 0 = .ok (.aload_n 1, 1) := by decide +kernel
theorem dX0_readHexadecimal_1 : decode cX0_readHexadecimal 1 = .ok (.getfield 28, 3) := by decide +kernel
theorem dX0_readHexadecimal_4 : decode cX0_readHexadecimal 4 = .ok (.iload_n 2, 1) := by decide +kernel
theorem dX0_readHexadecimal_5 : decode cX0_readHexadecimal 5 = .ok (.isub, 1) := by decide +kernel
theorem dX0_readHexadecimal_6 : decode cX0_readHexadecimal 6 = .ok (.istore 4, 2) := by decide +kernel
theorem dX0_readHexadecimal_8 : decode cX0_readHexadecimal 8 = .ok (.iload 4, 2) := by decide +kernel
theorem dX0_readHexadecimal_10 : decode cX0_readHexadecimal 10 = .ok (.iconst 1, 1) := by decide +kernel
theorem dX0_readHexadecimal_11 : decode cX0_readHexadecimal 11 = .ok (.if_icmp .lt 10, 3) := by decide +kernel
theorem dX0_readHexadecimal_14 : decode cX0_readHexadecimal 14 = .ok (.iload 4, 2) := by decide +kernel
theorem dX0_readHexadecimal_16 : decode cX0_readHexadecimal 16 = .ok (.bipush 16, 2) := by decide +kernel
theorem dX0_readHexadecimal_18 : decode cX0_readHexadecimal 18 = .ok (.if_icmp .le 5, 3) := by decide +kernel
theorem dX0_readHexadecimal_21 : decode cX0_readHexadecimal 21 = .ok (.iconst 0, 1) := by decide +kernel
theorem dX0_readHexadecimal_22 : decode cX0_readHexadecimal 22 = .ok (.ireturn, 1) := by decide +kernel
theorem dX0_readHexadecimal_23 : decode cX0_readHexadecimal 23 = .ok (.aload_n 0, 1) := by decide +kernel
theorem dX0_readHexadecimal_24 : decode cX0_readHexadecimal 24 = .ok (.lconst 0, 1) := by decide +kernel
theorem dX0_readHexadecimal_25 : decode cX0_readHexadecimal 25 = .ok (.putfield 9, 3) := by decide +kernel
theorem dX0_readHexadecimal_28 : decode cX0_readHexadecimal 28 = .ok (.iload_n 2, 1) := by decide +kernel
theorem dX0_readHexadecimal_29 : decode cX0_readHexadecimal 29 = .ok (.istore 5, 2) := by decide +kernel
theorem dX0_readHexadecimal_31 : decode cX0_readHexadecimal 31 = .ok (.iload 5, 2) := by decide +kernel
theorem dX0_readHexadecimal_33 : decode cX0_readHexadecimal 33 = .ok (.aload_n 1, 1) := by decide +kernel
theorem dX0_readHexadecimal_34 : decode cX0_readHexadecimal 34 = .ok (.getfield 28, 3) := by decide +kernel
theorem dX0_readHexadecimal_37 : decode cX0_readHexadecimal 37 = .ok (.if_icmp .ge 42, 3) := by decide +kernel
theorem dX0_readHexadecimal_40 : decode cX0_readHexadecimal 40 = .ok (.aload_n 1, 1) := by decide +kernel
theorem dX0_readHexadecimal_41 : decode cX0_readHexadecimal 41 = .ok (.iload 5, 2) := by decide +kernel
theorem dX0_readHexadecimal_43 : decode cX0_readHexadecimal 43 = .ok (.invokevirtual 15, 3) := by decide +kernel
theorem dX0_readHexadecimal_46 : decode cX0_readHexadecimal 46 = .ok (.invokestatic 32, 3) := by decide +kernel
theorem dX0_readHexadecimal_49 : decode cX0_readHexadecimal 49 = .ok (.istore 6, 2) := by decide +kernel
theorem dX0_readHexadecimal_51 : decode cX0_readHexadecimal 51 = .ok (.iload 6, 2) := by decide +kernel
theorem dX0_readHexadecimal_53 : decode cX0_readHexadecimal 53 = .ok (.iconst (-1), 1) := by decide +kernel
theorem dX0_readHexadecimal_54 : decode cX0_readHexadecimal 54 = .ok (.if_icmp .ne 5, 3) := by decide +kernel
theorem dX0_readHexadecimal_57 : decode cX0_readHexadecimal 57 = .ok (.iconst 0, 1) := by decide +kernel
theorem dX0_readHexadecimal_58 : decode cX0_readHexadecimal 58 = .ok (.ireturn, 1) := by decide +kernel
theorem dX0_readHexadecimal_59 : decode cX0_readHexadecimal 59 = .ok (.aload_n 0, 1) := by decide +kernel
theorem dX0_readHexadecimal_60 : decode cX0_readHexadecimal 60 = .ok (.aload_n 0, 1) := by decide +kernel
theorem dX0_readHexadecimal_61 : decode cX0_readHexadecimal 61 = .ok (.getfield 9, 3) := by decide +kernel
theorem dX0_readHexadecimal_64 : decode cX0_readHexadecimal 64 = .ok (.iconst 4, 1) := by decide +kernel
theorem dX0_readHexadecimal_65 : decode cX0_readHexadecimal 65 = .ok (.lshl, 1) := by decide +kernel
theorem dX0_readHexadecimal_66 : decode cX0_readHexadecimal 66 = .ok (.iload 6, 2) := by decide +kernel
theorem dX0_readHexadecimal_68 : decode cX0_readHexadecimal 68 = .ok (.i2l, 1) := by decide +kernel
theorem dX0_readHexadecimal_69 : decode cX0_readHexadecimal 69 = .ok (.lor, 1) := by decide +kernel
theorem dX0_readHexadecimal_70 : decode cX0_readHexadecimal 70 = .ok (.putfield 9, 3) := by decide +kernel
theorem dX0_readHexadecimal_73 : decode cX0_readHexadecimal 73 = .ok (.iinc 5 1, 3) := by decide +kernel
theorem dX0_readHexadecimal_76 : decode cX0_readHexadecimal 76 = .ok (.goto (-45), 3) := by decide +kernel
theorem dX0_readHexadecimal_79 : decode cX0_readHexadecimal 79 = .ok (.iload_n 3, 1) := by decide +kernel
theorem dX0_readHexadecimal_80 : decode cX0_readHexadecimal 80 = .ok (.ifCond .eq 12, 3) := by decide +kernel
theorem dX0_readHexadecimal_83 : decode cX0_readHexadecimal 83 = .ok (.aload_n 0, 1) := by decide +kernel
theorem dX0_readHexadecimal_84 : decode cX0_readHexadecimal 84 = .ok (.aload_n 0, 1) := by decide +kernel
theorem dX0_readHexadecimal_85 : decode cX0_readHexadecimal 85 = .ok (.getfield 9, 3) := by decide +kernel
theorem dX0_readHexadecimal_88 : decode cX0_readHexadecimal 88 = .ok (.lneg, 1) := by decide +kernel
theorem dX0_readHexadecimal_89 : decode cX0_readHexadecimal 89 = .ok (.putfield 9, 3) := by decide +kernel
theorem dX0_readHexadecimal_92 : decode cX0_readHexadecimal 92 = .ok (.iconst 1, 1) := by decide +kernel
theorem dX0_readHexadecimal_93 : decode cX0_readHexadecimal 93 = .ok (.ireturn, 1) := by decide +kernel
theorem dX0_hexadecimalDigit_0 : decode cX0_hexadecimalDigit 0 = .ok (.iload_n 0, 1) := by decide +kernel
theorem dX0_hexadecimalDigit_1 : decode cX0_hexadecimalDigit 1 = .ok (.invokestatic 35, 3) := by decide +kernel
theorem dX0_hexadecimalDigit_4 : decode cX0_hexadecimalDigit 4 = .ok (.ifCond .eq 8, 3) := by decide +kernel
theorem dX0_hexadecimalDigit_7 : decode cX0_hexadecimalDigit 7 = .ok (.iload_n 0, 1) := by decide +kernel
theorem dX0_hexadecimalDigit_8 : decode cX0_hexadecimalDigit 8 = .ok (.bipush 48, 2) := by decide +kernel
theorem dX0_hexadecimalDigit_10 : decode cX0_hexadecimalDigit 10 = .ok (.isub, 1) := by decide +kernel
theorem dX0_hexadecimalDigit_11 : decode cX0_hexadecimalDigit 11 = .ok (.ireturn, 1) := by decide +kernel
theorem dX0_hexadecimalDigit_12 : decode cX0_hexadecimalDigit 12 = .ok (.iload_n 0, 1) := by decide +kernel
theorem dX0_hexadecimalDigit_13 : decode cX0_hexadecimalDigit 13 = .ok (.bipush 97, 2) := by decide +kernel
theorem dX0_hexadecimalDigit_15 : decode cX0_hexadecimalDigit 15 = .ok (.if_icmp .lt 17, 3) := by decide +kernel
theorem dX0_hexadecimalDigit_18 : decode cX0_hexadecimalDigit 18 = .ok (.iload_n 0, 1) := by decide +kernel
theorem dX0_hexadecimalDigit_19 : decode cX0_hexadecimalDigit 19 = .ok (.bipush 102, 2) := by decide +kernel
theorem dX0_hexadecimalDigit_21 : decode cX0_hexadecimalDigit 21 = .ok (.if_icmp .gt 11, 3) := by decide +kernel
theorem dX0_hexadecimalDigit_24 : decode cX0_hexadecimalDigit 24 = .ok (.iload_n 0, 1) := by decide +kernel
theorem dX0_hexadecimalDigit_25 : decode cX0_hexadecimalDigit 25 = .ok (.bipush 97, 2) := by decide +kernel
theorem dX0_hexadecimalDigit_27 : decode cX0_hexadecimalDigit 27 = .ok (.isub, 1) := by decide +kernel
theorem dX0_hexadecimalDigit_28 : decode cX0_hexadecimalDigit 28 = .ok (.bipush 10, 2) := by decide +kernel
theorem dX0_hexadecimalDigit_30 : decode cX0_hexadecimalDigit 30 = .ok (.iadd, 1) := by decide +kernel
theorem dX0_hexadecimalDigit_31 : decode cX0_hexadecimalDigit 31 = .ok (.ireturn, 1) := by decide +kernel
theorem dX0_hexadecimalDigit_32 : decode cX0_hexadecimalDigit 32 = .ok (.iload_n 0, 1) := by decide +kernel
theorem dX0_hexadecimalDigit_33 : decode cX0_hexadecimalDigit 33 = .ok (.bipush 65, 2) := by decide +kernel
theorem dX0_hexadecimalDigit_35 : decode cX0_hexadecimalDigit 35 = .ok (.if_icmp .lt 17, 3) := by decide +kernel
theorem dX0_hexadecimalDigit_38 : decode cX0_hexadecimalDigit 38 = .ok (.iload_n 0, 1) := by decide +kernel
theorem dX0_hexadecimalDigit_39 : decode cX0_hexadecimalDigit 39 = .ok (.bipush 70, 2) := by decide +kernel
theorem dX0_hexadecimalDigit_41 : decode cX0_hexadecimalDigit 41 = .ok (.if_icmp .gt 11, 3) := by decide +kernel
theorem dX0_hexadecimalDigit_44 : decode cX0_hexadecimalDigit 44 = .ok (.iload_n 0, 1) := by decide +kernel
theorem dX0_hexadecimalDigit_45 : decode cX0_hexadecimalDigit 45 = .ok (.bipush 65, 2) := by decide +kernel
theorem dX0_hexadecimalDigit_47 : decode cX0_hexadecimalDigit 47 = .ok (.isub, 1) := by decide +kernel
theorem dX0_hexadecimalDigit_48 : decode cX0_hexadecimalDigit 48 = .ok (.bipush 10, 2) := by decide +kernel
theorem dX0_hexadecimalDigit_50 : decode cX0_hexadecimalDigit 50 = .ok (.iadd, 1) := by decide +kernel
theorem dX0_hexadecimalDigit_51 : decode cX0_hexadecimalDigit 51 = .ok (.ireturn, 1) := by decide +kernel
theorem dX0_hexadecimalDigit_52 : decode cX0_hexadecimalDigit 52 = .ok (.iconst (-1), 1) := by decide +kernel
theorem dX0_hexadecimalDigit_53 : decode cX0_hexadecimalDigit 53 = .ok (.ireturn, 1) := by decide +kernel
theorem dX0_readDecimal_0 : decode cX0_readDecimal 0 = .ok (.iload_n 2, 1) := by decide +kernel
theorem dX0_readDecimal_1 : decode cX0_readDecimal 1 = .ok (.aload_n 1, 1) := by decide +kernel
theorem dX0_readDecimal_2 : decode cX0_readDecimal 2 = .ok (.getfield 28, 3) := by decide +kernel
theorem dX0_readDecimal_5 : decode cX0_readDecimal 5 = .ok (.if_icmp .lt 5, 3) := by decide +kernel
theorem dX0_readDecimal_8 : decode cX0_readDecimal 8 = .ok (.iconst 0, 1) := by decide +kernel
theorem dX0_readDecimal_9 : decode cX0_readDecimal 9 = .ok (.ireturn, 1) := by decide +kernel
theorem dX0_readDecimal_10 : decode cX0_readDecimal 10 = .ok (.aload_n 0, 1) := by decide +kernel
theorem dX0_readDecimal_11 : decode cX0_readDecimal 11 = .ok (.lconst 0, 1) := by decide +kernel
theorem dX0_readDecimal_12 : decode cX0_readDecimal 12 = .ok (.putfield 9, 3) := by decide +kernel
theorem dX0_readDecimal_15 : decode cX0_readDecimal 15 = .ok (.iload_n 2, 1) := by decide +kernel
theorem dX0_readDecimal_16 : decode cX0_readDecimal 16 = .ok (.istore 4, 2) := by decide +kernel
theorem dX0_readDecimal_18 : decode cX0_readDecimal 18 = .ok (.iload 4, 2) := by decide +kernel
theorem dX0_readDecimal_20 : decode cX0_readDecimal 20 = .ok (.aload_n 1, 1) := by decide +kernel
theorem dX0_readDecimal_21 : decode cX0_readDecimal 21 = .ok (.getfield 28, 3) := by decide +kernel
theorem dX0_readDecimal_24 : decode cX0_readDecimal 24 = .ok (.if_icmp .ge 39, 3) := by decide +kernel
theorem dX0_readDecimal_27 : decode cX0_readDecimal 27 = .ok (.aload_n 1, 1) := by decide +kernel
theorem dX0_readDecimal_28 : decode cX0_readDecimal 28 = .ok (.iload 4, 2) := by decide +kernel
theorem dX0_readDecimal_30 : decode cX0_readDecimal 30 = .ok (.invokevirtual 15, 3) := by decide +kernel
theorem dX0_readDecimal_33 : decode cX0_readDecimal 33 = .ok (.istore 5, 2) := by decide +kernel
theorem dX0_readDecimal_35 : decode cX0_readDecimal 35 = .ok (.iload 5, 2) := by decide +kernel
theorem dX0_readDecimal_37 : decode cX0_readDecimal 37 = .ok (.invokestatic 35, 3) := by decide +kernel
theorem dX0_readDecimal_40 : decode cX0_readDecimal 40 = .ok (.ifCond .eq 15, 3) := by decide +kernel
theorem dX0_readDecimal_43 : decode cX0_readDecimal 43 = .ok (.aload_n 0, 1) := by decide +kernel
theorem dX0_readDecimal_44 : decode cX0_readDecimal 44 = .ok (.iload 5, 2) := by decide +kernel
theorem dX0_readDecimal_46 : decode cX0_readDecimal 46 = .ok (.bipush 48, 2) := by decide +kernel
theorem dX0_readDecimal_48 : decode cX0_readDecimal 48 = .ok (.isub, 1) := by decide +kernel
theorem dX0_readDecimal_49 : decode cX0_readDecimal 49 = .ok (.invokevirtual 39, 3) := by decide +kernel
theorem dX0_readDecimal_52 : decode cX0_readDecimal 52 = .ok (.ifCond .ne 5, 3) := by decide +kernel
theorem dX0_readDecimal_55 : decode cX0_readDecimal 55 = .ok (.iconst 0, 1) := by decide +kernel
theorem dX0_readDecimal_56 : decode cX0_readDecimal 56 = .ok (.ireturn, 1) := by decide +kernel
theorem dX0_readDecimal_57 : decode cX0_readDecimal 57 = .ok (.iinc 4 1, 3) := by decide +kernel
theorem dX0_readDecimal_60 : decode cX0_readDecimal 60 = .ok (.goto (-42), 3) := by decide +kernel
theorem dX0_readDecimal_63 : decode cX0_readDecimal 63 = .ok (.iload_n 3, 1) := by decide +kernel
theorem dX0_readDecimal_64 : decode cX0_readDecimal 64 = .ok (.ifCond .eq 5, 3) := by decide +kernel
theorem dX0_readDecimal_67 : decode cX0_readDecimal 67 = .ok (.iconst 1, 1) := by decide +kernel
theorem dX0_readDecimal_68 : decode cX0_readDecimal 68 = .ok (.ireturn, 1) := by decide +kernel
theorem dX0_readDecimal_69 : decode cX0_readDecimal 69 = .ok (.aload_n 0, 1) := by decide +kernel
theorem dX0_readDecimal_70 : decode cX0_readDecimal 70 = .ok (.getfield 9, 3) := by decide +kernel
theorem dX0_readDecimal_73 : decode cX0_readDecimal 73 = .ok (.ldc2_w 42, 3) := by decide +kernel
theorem dX0_readDecimal_76 : decode cX0_readDecimal 76 = .ok (.lcmp, 1) := by decide +kernel
theorem dX0_readDecimal_77 : decode cX0_readDecimal 77 = .ok (.ifCond .ne 5, 3) := by decide +kernel
theorem dX0_readDecimal_80 : decode cX0_readDecimal 80 = .ok (.iconst 0, 1) := by decide +kernel
theorem dX0_readDecimal_81 : decode cX0_readDecimal 81 = .ok (.ireturn, 1) := by decide +kernel
theorem dX0_readDecimal_82 : decode cX0_readDecimal 82 = .ok (.aload_n 0, 1) := by decide +kernel
theorem dX0_readDecimal_83 : decode cX0_readDecimal 83 = .ok (.aload_n 0, 1) := by decide +kernel
theorem dX0_readDecimal_84 : decode cX0_readDecimal 84 = .ok (.getfield 9, 3) := by decide +kernel
theorem dX0_readDecimal_87 : decode cX0_readDecimal 87 = .ok (.lneg, 1) := by decide +kernel
theorem dX0_readDecimal_88 : decode cX0_readDecimal 88 = .ok (.putfield 9, 3) := by decide +kernel
theorem dX0_readDecimal_91 : decode cX0_readDecimal 91 = .ok (.iconst 1, 1) := by decide +kernel
theorem dX0_readDecimal_92 : decode cX0_readDecimal 92 = .ok (.ireturn, 1) := by decide +kernel
theorem dX0_takeDigitBelowZero_0 : decode cX0_takeDigitBelowZero 0 = .ok (.aload_n 0, 1) := by decide +kernel
theorem dX0_takeDigitBelowZero_1 : decode cX0_takeDigitBelowZero 1 = .ok (.getfield 9, 3) := by decide +kernel
theorem dX0_takeDigitBelowZero_4 : decode cX0_takeDigitBelowZero 4 = .ok (.ldc2_w 44, 3) := by decide +kernel
theorem dX0_takeDigitBelowZero_7 : decode cX0_takeDigitBelowZero 7 = .ok (.lcmp, 1) := by decide +kernel
theorem dX0_takeDigitBelowZero_8 : decode cX0_takeDigitBelowZero 8 = .ok (.ifCond .lt 21, 3) := by decide +kernel
theorem dX0_takeDigitBelowZero_11 : decode cX0_takeDigitBelowZero 11 = .ok (.aload_n 0, 1) := by decide +kernel
theorem dX0_takeDigitBelowZero_12 : decode cX0_takeDigitBelowZero 12 = .ok (.getfield 9, 3) := by decide +kernel
theorem dX0_takeDigitBelowZero_15 : decode cX0_takeDigitBelowZero 15 = .ok (.ldc2_w 46, 3) := by decide +kernel
theorem dX0_takeDigitBelowZero_18 : decode cX0_takeDigitBelowZero 18 = .ok (.lmul, 1) := by decide +kernel
theorem dX0_takeDigitBelowZero_19 : decode cX0_takeDigitBelowZero 19 = .ok (.ldc2_w 42, 3) := by decide +kernel
theorem dX0_takeDigitBelowZero_22 : decode cX0_takeDigitBelowZero 22 = .ok (.iload_n 1, 1) := by decide +kernel
theorem dX0_takeDigitBelowZero_23 : decode cX0_takeDigitBelowZero 23 = .ok (.i2l, 1) := by decide +kernel
theorem dX0_takeDigitBelowZero_24 : decode cX0_takeDigitBelowZero 24 = .ok (.ladd, 1) := by decide +kernel
theorem dX0_takeDigitBelowZero_25 : decode cX0_takeDigitBelowZero 25 = .ok (.lcmp, 1) := by decide +kernel
theorem dX0_takeDigitBelowZero_26 : decode cX0_takeDigitBelowZero 26 = .ok (.ifCond .ge 5, 3) := by decide +kernel
theorem dX0_takeDigitBelowZero_29 : decode cX0_takeDigitBelowZero 29 = .ok (.iconst 0, 1) := by decide +kernel
theorem dX0_takeDigitBelowZero_30 : decode cX0_takeDigitBelowZero 30 = .ok (.ireturn, 1) := by decide +kernel
theorem dX0_takeDigitBelowZero_31 : decode cX0_takeDigitBelowZero 31 = .ok (.aload_n 0, 1) := by decide +kernel
theorem dX0_takeDigitBelowZero_32 : decode cX0_takeDigitBelowZero 32 = .ok (.aload_n 0, 1) := by decide +kernel
theorem dX0_takeDigitBelowZero_33 : decode cX0_takeDigitBelowZero 33 = .ok (.getfield 9, 3) := by decide +kernel
theorem dX0_takeDigitBelowZero_36 : decode cX0_takeDigitBelowZero 36 = .ok (.ldc2_w 46, 3) := by decide +kernel
theorem dX0_takeDigitBelowZero_39 : decode cX0_takeDigitBelowZero 39 = .ok (.lmul, 1) := by decide +kernel
theorem dX0_takeDigitBelowZero_40 : decode cX0_takeDigitBelowZero 40 = .ok (.iload_n 1, 1) := by decide +kernel
theorem dX0_takeDigitBelowZero_41 : decode cX0_takeDigitBelowZero 41 = .ok (.i2l, 1) := by decide +kernel
theorem dX0_takeDigitBelowZero_42 : decode cX0_takeDigitBelowZero 42 = .ok (.lsub, 1) := by decide +kernel
theorem dX0_takeDigitBelowZero_43 : decode cX0_takeDigitBelowZero 43 = .ok (.putfield 9, 3) := by decide +kernel
theorem dX0_takeDigitBelowZero_46 : decode cX0_takeDigitBelowZero 46 = .ok (.iconst 1, 1) := by decide +kernel
theorem dX0_takeDigitBelowZero_47 : decode cX0_takeDigitBelowZero 47 = .ok (.ireturn, 1) := by decide +kernel
theorem dX3_fillWithInteger_0 : decode cX3_fillWithInteger 0 = .ok (.aload_n 0, 1) := by decide +kernel
theorem dX3_fillWithInteger_1 : decode cX3_fillWithInteger 1 = .ok (.getfield 49, 3) := by decide +kernel
theorem dX3_fillWithInteger_4 : decode cX3_fillWithInteger 4 = .ok (.invokevirtual 62, 3) := by decide +kernel
theorem dX3_fillWithInteger_7 : decode cX3_fillWithInteger 7 = .ok (.aload_n 0, 1) := by decide +kernel
theorem dX3_fillWithInteger_8 : decode cX3_fillWithInteger 8 = .ok (.getfield 38, 3) := by decide +kernel
theorem dX3_fillWithInteger_11 : decode cX3_fillWithInteger 11 = .ok (.getfield 102, 3) := by decide +kernel
theorem dX3_fillWithInteger_14 : decode cX3_fillWithInteger 14 = .ok (.lookupswitch 164 #[(88, 104), (100, 42), (111, 134), (120, 74)], 42) := by decide +kernel
theorem dX3_fillWithInteger_56 : decode cX3_fillWithInteger 56 = .ok (.aload_n 0, 1) := by decide +kernel
theorem dX3_fillWithInteger_57 : decode cX3_fillWithInteger 57 = .ok (.getfield 49, 3) := by decide +kernel
theorem dX3_fillWithInteger_60 : decode cX3_fillWithInteger 60 = .ok (.lload_n 1, 1) := by decide +kernel
theorem dX3_fillWithInteger_61 : decode cX3_fillWithInteger 61 = .ok (.invokevirtual 83, 3) := by decide +kernel
theorem dX3_fillWithInteger_64 : decode cX3_fillWithInteger 64 = .ok (.aload_n 0, 1) := by decide +kernel
theorem dX3_fillWithInteger_65 : decode cX3_fillWithInteger 65 = .ok (.aload_n 0, 1) := by decide +kernel
theorem dX3_fillWithInteger_66 : decode cX3_fillWithInteger 66 = .ok (.getfield 38, 3) := by decide +kernel
theorem dX3_fillWithInteger_69 : decode cX3_fillWithInteger 69 = .ok (.lload_n 1, 1) := by decide +kernel
theorem dX3_fillWithInteger_70 : decode cX3_fillWithInteger 70 = .ok (.invokevirtual 120, 3) := by decide +kernel
theorem dX3_fillWithInteger_73 : decode cX3_fillWithInteger 73 = .ok (.aload_n 0, 1) := by decide +kernel
theorem dX3_fillWithInteger_74 : decode cX3_fillWithInteger 74 = .ok (.getfield 49, 3) := by decide +kernel
theorem dX3_fillWithInteger_77 : decode cX3_fillWithInteger 77 = .ok (.aload_n 0, 1) := by decide +kernel
theorem dX3_fillWithInteger_78 : decode cX3_fillWithInteger 78 = .ok (.getfield 38, 3) := by decide +kernel
theorem dX3_fillWithInteger_81 : decode cX3_fillWithInteger 81 = .ok (.getfield 123, 3) := by decide +kernel
theorem dX3_fillWithInteger_84 : decode cX3_fillWithInteger 84 = .ok (.invokevirtual 105, 3) := by decide +kernel
theorem dX3_fillWithInteger_87 : decode cX3_fillWithInteger 87 = .ok (.ireturn, 1) := by decide +kernel
theorem dX3_fillWithInteger_88 : decode cX3_fillWithInteger 88 = .ok (.aload_n 0, 1) := by decide +kernel
theorem dX3_fillWithInteger_89 : decode cX3_fillWithInteger 89 = .ok (.getfield 49, 3) := by decide +kernel
theorem dX3_fillWithInteger_92 : decode cX3_fillWithInteger 92 = .ok (.lload_n 1, 1) := by decide +kernel
theorem dX3_fillWithInteger_93 : decode cX3_fillWithInteger 93 = .ok (.bipush 16, 2) := by decide +kernel
theorem dX3_fillWithInteger_95 : decode cX3_fillWithInteger 95 = .ok (.iconst 4, 1) := by decide +kernel
theorem dX3_fillWithInteger_96 : decode cX3_fillWithInteger 96 = .ok (.bipush 97, 2) := by decide +kernel
theorem dX3_fillWithInteger_98 : decode cX3_fillWithInteger 98 = .ok (.invokevirtual 127, 3) := by decide +kernel
theorem dX3_fillWithInteger_101 : decode cX3_fillWithInteger 101 = .ok (.aload_n 0, 1) := by decide +kernel
theorem dX3_fillWithInteger_102 : decode cX3_fillWithInteger 102 = .ok (.iconst 0, 1) := by decide +kernel
theorem dX3_fillWithInteger_103 : decode cX3_fillWithInteger 103 = .ok (.aload_n 0, 1) := by decide +kernel
theorem dX3_fillWithInteger_104 : decode cX3_fillWithInteger 104 = .ok (.getfield 49, 3) := by decide +kernel
theorem dX3_fillWithInteger_107 : decode cX3_fillWithInteger 107 = .ok (.aload_n 0, 1) := by decide +kernel
theorem dX3_fillWithInteger_108 : decode cX3_fillWithInteger 108 = .ok (.getfield 38, 3) := by decide +kernel
theorem dX3_fillWithInteger_111 : decode cX3_fillWithInteger 111 = .ok (.getfield 123, 3) := by decide +kernel
theorem dX3_fillWithInteger_114 : decode cX3_fillWithInteger 114 = .ok (.invokevirtual 105, 3) := by decide +kernel
theorem dX3_fillWithInteger_117 : decode cX3_fillWithInteger 117 = .ok (.ireturn, 1) := by decide +kernel
theorem dX3_fillWithInteger_118 : decode cX3_fillWithInteger 118 = .ok (.aload_n 0, 1) := by decide +kernel
theorem dX3_fillWithInteger_119 : decode cX3_fillWithInteger 119 = .ok (.getfield 49, 3) := by decide +kernel
theorem dX3_fillWithInteger_122 : decode cX3_fillWithInteger 122 = .ok (.lload_n 1, 1) := by decide +kernel
theorem dX3_fillWithInteger_123 : decode cX3_fillWithInteger 123 = .ok (.bipush 16, 2) := by decide +kernel
theorem dX3_fillWithInteger_125 : decode cX3_fillWithInteger 125 = .ok (.iconst 4, 1) := by decide +kernel
theorem dX3_fillWithInteger_126 : decode cX3_fillWithInteger 126 = .ok (.bipush 65, 2) := by decide +kernel
theorem dX3_fillWithInteger_128 : decode cX3_fillWithInteger 128 = .ok (.invokevirtual 127, 3) := by decide +kernel
theorem dX3_fillWithInteger_131 : decode cX3_fillWithInteger 131 = .ok (.aload_n 0, 1) := by decide +kernel
theorem dX3_fillWithInteger_132 : decode cX3_fillWithInteger 132 = .ok (.iconst 0, 1) := by decide +kernel
theorem dX3_fillWithInteger_133 : decode cX3_fillWithInteger 133 = .ok (.aload_n 0, 1) := by decide +kernel
theorem dX3_fillWithInteger_134 : decode cX3_fillWithInteger 134 = .ok (.getfield 49, 3) := by decide +kernel
theorem dX3_fillWithInteger_137 : decode cX3_fillWithInteger 137 = .ok (.aload_n 0, 1) := by decide +kernel
theorem dX3_fillWithInteger_138 : decode cX3_fillWithInteger 138 = .ok (.getfield 38, 3) := by decide +kernel
theorem dX3_fillWithInteger_141 : decode cX3_fillWithInteger 141 = .ok (.getfield 123, 3) := by decide +kernel
theorem dX3_fillWithInteger_144 : decode cX3_fillWithInteger 144 = .ok (.invokevirtual 105, 3) := by decide +kernel
theorem dX3_fillWithInteger_147 : decode cX3_fillWithInteger 147 = .ok (.ireturn, 1) := by decide +kernel
theorem dX3_fillWithInteger_148 : decode cX3_fillWithInteger 148 = .ok (.aload_n 0, 1) := by decide +kernel
theorem dX3_fillWithInteger_149 : decode cX3_fillWithInteger 149 = .ok (.getfield 49, 3) := by decide +kernel
theorem dX3_fillWithInteger_152 : decode cX3_fillWithInteger 152 = .ok (.lload_n 1, 1) := by decide +kernel
theorem dX3_fillWithInteger_153 : decode cX3_fillWithInteger 153 = .ok (.bipush 22, 2) := by decide +kernel
theorem dX3_fillWithInteger_155 : decode cX3_fillWithInteger 155 = .ok (.iconst 3, 1) := by decide +kernel
theorem dX3_fillWithInteger_156 : decode cX3_fillWithInteger 156 = .ok (.bipush 97, 2) := by decide +kernel
theorem dX3_fillWithInteger_158 : decode cX3_fillWithInteger 158 = .ok (.invokevirtual 127, 3) := by decide +kernel
theorem dX3_fillWithInteger_161 : decode cX3_fillWithInteger 161 = .ok (.aload_n 0, 1) := by decide +kernel
theorem dX3_fillWithInteger_162 : decode cX3_fillWithInteger 162 = .ok (.iconst 0, 1) := by decide +kernel
theorem dX3_fillWithInteger_163 : decode cX3_fillWithInteger 163 = .ok (.aload_n 0, 1) := by decide +kernel
theorem dX3_fillWithInteger_164 : decode cX3_fillWithInteger 164 = .ok (.getfield 49, 3) := by decide +kernel
theorem dX3_fillWithInteger_167 : decode cX3_fillWithInteger 167 = .ok (.aload_n 0, 1) := by decide +kernel
theorem dX3_fillWithInteger_168 : decode cX3_fillWithInteger 168 = .ok (.getfield 38, 3) := by decide +kernel
theorem dX3_fillWithInteger_171 : decode cX3_fillWithInteger 171 = .ok (.getfield 123, 3) := by decide +kernel
theorem dX3_fillWithInteger_174 : decode cX3_fillWithInteger 174 = .ok (.invokevirtual 105, 3) := by decide +kernel
theorem dX3_fillWithInteger_177 : decode cX3_fillWithInteger 177 = .ok (.ireturn, 1) := by decide +kernel
theorem dX3_fillWithInteger_178 : decode cX3_fillWithInteger 178 = .ok (.aload_n 0, 1) := by decide +kernel
theorem dX3_fillWithInteger_179 : decode cX3_fillWithInteger 179 = .ok (.getfield 49, 3) := by decide +kernel
theorem dX3_fillWithInteger_182 : decode cX3_fillWithInteger 182 = .ok (.lload_n 1, 1) := by decide +kernel
theorem dX3_fillWithInteger_183 : decode cX3_fillWithInteger 183 = .ok (.l2i, 1) := by decide +kernel
theorem dX3_fillWithInteger_184 : decode cX3_fillWithInteger 184 = .ok (.invokevirtual 80, 3) := by decide +kernel
theorem dX3_fillWithInteger_187 : decode cX3_fillWithInteger 187 = .ok (.pop, 1) := by decide +kernel
theorem dX3_fillWithInteger_188 : decode cX3_fillWithInteger 188 = .ok (.aload_n 0, 1) := by decide +kernel
theorem dX3_fillWithInteger_189 : decode cX3_fillWithInteger 189 = .ok (.iconst 0, 1) := by decide +kernel
theorem dX3_fillWithInteger_190 : decode cX3_fillWithInteger 190 = .ok (.aload_n 0, 1) := by decide +kernel
theorem dX3_fillWithInteger_191 : decode cX3_fillWithInteger 191 = .ok (.getfield 49, 3) := by decide +kernel
theorem dX3_fillWithInteger_194 : decode cX3_fillWithInteger 194 = .ok (.iconst 0, 1) := by decide +kernel
theorem dX3_fillWithInteger_195 : decode cX3_fillWithInteger 195 = .ok (.invokevirtual 105, 3) := by decide +kernel
theorem dX3_fillWithInteger_198 : decode cX3_fillWithInteger 198 = .ok (.ireturn, 1) := by decide +kernel
theorem dX1_signOf_0 : decode cX1_signOf 0 = .ok (.lload_n 1, 1) := by decide +kernel
theorem dX1_signOf_1 : decode cX1_signOf 1 = .ok (.lconst 0, 1) := by decide +kernel
theorem dX1_signOf_2 : decode cX1_signOf 2 = .ok (.lcmp, 1) := by decide +kernel
theorem dX1_signOf_3 : decode cX1_signOf 3 = .ok (.ifCond .ge 6, 3) := by decide +kernel
theorem dX1_signOf_6 : decode cX1_signOf 6 = .ok (.bipush 45, 2) := by decide +kernel
theorem dX1_signOf_8 : decode cX1_signOf 8 = .ok (.ireturn, 1) := by decide +kernel
theorem dX1_signOf_9 : decode cX1_signOf 9 = .ok (.aload_n 0, 1) := by decide +kernel
theorem dX1_signOf_10 : decode cX1_signOf 10 = .ok (.getfield 35, 3) := by decide +kernel
theorem dX1_signOf_13 : decode cX1_signOf 13 = .ok (.ifCond .eq 6, 3) := by decide +kernel
theorem dX1_signOf_16 : decode cX1_signOf 16 = .ok (.bipush 43, 2) := by decide +kernel
theorem dX1_signOf_18 : decode cX1_signOf 18 = .ok (.ireturn, 1) := by decide +kernel
theorem dX1_signOf_19 : decode cX1_signOf 19 = .ok (.aload_n 0, 1) := by decide +kernel
theorem dX1_signOf_20 : decode cX1_signOf 20 = .ok (.getfield 39, 3) := by decide +kernel
theorem dX1_signOf_23 : decode cX1_signOf 23 = .ok (.ifCond .eq 8, 3) := by decide +kernel
theorem dX1_signOf_26 : decode cX1_signOf 26 = .ok (.bipush 32, 2) := by decide +kernel
theorem dX1_signOf_28 : decode cX1_signOf 28 = .ok (.goto 4, 3) := by decide +kernel
theorem dX1_signOf_31 : decode cX1_signOf 31 = .ok (.iconst 0, 1) := by decide +kernel
theorem dX1_signOf_32 : decode cX1_signOf 32 = .ok (.ireturn, 1) := by decide +kernel
theorem dX2_addBits_0 : decode cX2_addBits 0 = .ok (.iconst 1, 1) := by decide +kernel
theorem dX2_addBits_1 : decode cX2_addBits 1 = .ok (.iload 4, 2) := by decide +kernel
theorem dX2_addBits_3 : decode cX2_addBits 3 = .ok (.ishl, 1) := by decide +kernel
theorem dX2_addBits_4 : decode cX2_addBits 4 = .ok (.iconst 1, 1) := by decide +kernel
theorem dX2_addBits_5 : decode cX2_addBits 5 = .ok (.isub, 1) := by decide +kernel
theorem dX2_addBits_6 : decode cX2_addBits 6 = .ok (.istore 6, 2) := by decide +kernel
theorem dX2_addBits_8 : decode cX2_addBits 8 = .ok (.iconst 0, 1) := by decide +kernel
theorem dX2_addBits_9 : decode cX2_addBits 9 = .ok (.istore 7, 2) := by decide +kernel
theorem dX2_addBits_11 : decode cX2_addBits 11 = .ok (.iload_n 3, 1) := by decide +kernel
theorem dX2_addBits_12 : decode cX2_addBits 12 = .ok (.iconst 1, 1) := by decide +kernel
theorem dX2_addBits_13 : decode cX2_addBits 13 = .ok (.isub, 1) := by decide +kernel
theorem dX2_addBits_14 : decode cX2_addBits 14 = .ok (.istore 8, 2) := by decide +kernel
theorem dX2_addBits_16 : decode cX2_addBits 16 = .ok (.iload 8, 2) := by decide +kernel
theorem dX2_addBits_18 : decode cX2_addBits 18 = .ok (.ifCond .lt 77, 3) := by decide +kernel
theorem dX2_addBits_21 : decode cX2_addBits 21 = .ok (.lload_n 1, 1) := by decide +kernel
theorem dX2_addBits_22 : decode cX2_addBits 22 = .ok (.iload 8, 2) := by decide +kernel
theorem dX2_addBits_24 : decode cX2_addBits 24 = .ok (.iload 4, 2) := by decide +kernel
theorem dX2_addBits_26 : decode cX2_addBits 26 = .ok (.imul, 1) := by decide +kernel
theorem dX2_addBits_27 : decode cX2_addBits 27 = .ok (.lushr, 1) := by decide +kernel
theorem dX2_addBits_28 : decode cX2_addBits 28 = .ok (.l2i, 1) := by decide +kernel
theorem dX2_addBits_29 : decode cX2_addBits 29 = .ok (.iload 6, 2) := by decide +kernel
theorem dX2_addBits_31 : decode cX2_addBits 31 = .ok (.iand, 1) := by decide +kernel
theorem dX2_addBits_32 : decode cX2_addBits 32 = .ok (.istore 9, 2) := by decide +kernel
theorem dX2_addBits_34 : decode cX2_addBits 34 = .ok (.iload 7, 2) := by decide +kernel
theorem dX2_addBits_36 : decode cX2_addBits 36 = .ok (.ifCond .ne 13, 3) := by decide +kernel
theorem dX2_addBits_39 : decode cX2_addBits 39 = .ok (.iload 9, 2) := by decide +kernel
theorem dX2_addBits_41 : decode cX2_addBits 41 = .ok (.ifCond .ne 8, 3) := by decide +kernel
theorem dX2_addBits_44 : decode cX2_addBits 44 = .ok (.iload 8, 2) := by decide +kernel
theorem dX2_addBits_46 : decode cX2_addBits 46 = .ok (.ifCond .ne 7, 3) := by decide +kernel
theorem dX2_addBits_49 : decode cX2_addBits 49 = .ok (.iconst 1, 1) := by decide +kernel
theorem dX2_addBits_50 : decode cX2_addBits 50 = .ok (.goto 4, 3) := by decide +kernel
theorem dX2_addBits_53 : decode cX2_addBits 53 = .ok (.iconst 0, 1) := by decide +kernel
theorem dX2_addBits_54 : decode cX2_addBits 54 = .ok (.istore 7, 2) := by decide +kernel
theorem dX2_addBits_56 : decode cX2_addBits 56 = .ok (.iload 7, 2) := by decide +kernel
theorem dX2_addBits_58 : decode cX2_addBits 58 = .ok (.ifCond .eq 31, 3) := by decide +kernel
theorem dX2_addBits_61 : decode cX2_addBits 61 = .ok (.aload_n 0, 1) := by decide +kernel
theorem dX2_addBits_62 : decode cX2_addBits 62 = .ok (.iload 9, 2) := by decide +kernel
theorem dX2_addBits_64 : decode cX2_addBits 64 = .ok (.bipush 10, 2) := by decide +kernel
theorem dX2_addBits_66 : decode cX2_addBits 66 = .ok (.if_icmp .ge 11, 3) := by decide +kernel
theorem dX2_addBits_69 : decode cX2_addBits 69 = .ok (.bipush 48, 2) := by decide +kernel
theorem dX2_addBits_71 : decode cX2_addBits 71 = .ok (.iload 9, 2) := by decide +kernel
theorem dX2_addBits_73 : decode cX2_addBits 73 = .ok (.iadd, 1) := by decide +kernel
theorem dX2_addBits_74 : decode cX2_addBits 74 = .ok (.goto 11, 3) := by decide +kernel
theorem dX2_addBits_77 : decode cX2_addBits 77 = .ok (.iload 5, 2) := by decide +kernel
theorem dX2_addBits_79 : decode cX2_addBits 79 = .ok (.iload 9, 2) := by decide +kernel
theorem dX2_addBits_81 : decode cX2_addBits 81 = .ok (.iadd, 1) := by decide +kernel
theorem dX2_addBits_82 : decode cX2_addBits 82 = .ok (.bipush 10, 2) := by decide +kernel
theorem dX2_addBits_84 : decode cX2_addBits 84 = .ok (.isub, 1) := by decide +kernel
theorem dX2_addBits_85 : decode cX2_addBits 85 = .ok (.invokevirtual 19, 3) := by decide +kernel
theorem dX2_addBits_88 : decode cX2_addBits 88 = .ok (.pop, 1) := by decide +kernel
theorem dX2_addBits_89 : decode cX2_addBits 89 = .ok (.iinc 8 (-1), 3) := by decide +kernel
theorem dX2_addBits_92 : decode cX2_addBits 92 = .ok (.goto (-76), 3) := by decide +kernel
theorem dX2_addBits_95 : decode cX2_addBits 95 = .ok (.return_, 1) := by decide +kernel
theorem dX3_madeAt_0 : decode cX3_madeAt 0 = .ok (.aload_n 0, 1) := by decide +kernel
theorem dX3_madeAt_1 : decode cX3_madeAt 1 = .ok (.getfield 21, 3) := by decide +kernel
theorem dX3_madeAt_4 : decode cX3_madeAt 4 = .ok (.iload_n 1, 1) := by decide +kernel
theorem dX3_madeAt_5 : decode cX3_madeAt 5 = .ok (.invokevirtual 87, 3) := by decide +kernel
theorem dX3_madeAt_8 : decode cX3_madeAt 8 = .ok (.ireturn, 1) := by decide +kernel
