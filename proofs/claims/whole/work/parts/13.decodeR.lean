theorem dX4_init_0 : decode cX4_init 0 = .ok (.aload_n 0, 1) := by decide +kernel
theorem dX4_init_1 : decode cX4_init 1 = .ok (.invokespecial 1, 3) := by decide +kernel
theorem dX4_init_4 : decode cX4_init 4 = .ok (.aload_n 0, 1) := by decide +kernel
theorem dX4_init_5 : decode cX4_init 5 = .ok (.sipush 400, 3) := by decide +kernel
theorem dX4_init_8 : decode cX4_init 8 = .ok (.newarray .byte, 2) := by decide +kernel
theorem dX4_init_10 : decode cX4_init 10 = .ok (.putfield 7, 3) := by decide +kernel
theorem dX4_init_13 : decode cX4_init 13 = .ok (.aload_n 0, 1) := by decide +kernel
theorem dX4_init_14 : decode cX4_init 14 = .ok (.sipush 400, 3) := by decide +kernel
theorem dX4_init_17 : decode cX4_init 17 = .ok (.newarray .byte, 2) := by decide +kernel
theorem dX4_init_19 : decode cX4_init 19 = .ok (.putfield 13, 3) := by decide +kernel
theorem dX4_init_22 : decode cX4_init 22 = .ok (.aload_n 0, 1) := by decide +kernel
theorem dX4_init_23 : decode cX4_init 23 = .ok (.sipush 800, 3) := by decide +kernel
theorem dX4_init_26 : decode cX4_init 26 = .ok (.newarray .byte, 2) := by decide +kernel
theorem dX4_init_28 : decode cX4_init 28 = .ok (.putfield 16, 3) := by decide +kernel
theorem dX4_init_31 : decode cX4_init 31 = .ok (.aload_n 0, 1) := by decide +kernel
theorem dX4_init_32 : decode cX4_init 32 = .ok (.sipush 1024, 3) := by decide +kernel
theorem dX4_init_35 : decode cX4_init 35 = .ok (.newarray .byte, 2) := by decide +kernel
theorem dX4_init_37 : decode cX4_init 37 = .ok (.putfield 19, 3) := by decide +kernel
theorem dX4_init_40 : decode cX4_init 40 = .ok (.aload_n 0, 1) := by decide +kernel
theorem dX4_init_41 : decode cX4_init 41 = .ok (.bipush 20, 2) := by decide +kernel
theorem dX4_init_43 : decode cX4_init 43 = .ok (.newarray .int, 2) := by decide +kernel
theorem dX4_init_45 : decode cX4_init 45 = .ok (.putfield 22, 3) := by decide +kernel
theorem dX4_init_48 : decode cX4_init 48 = .ok (.aload_n 0, 1) := by decide +kernel
theorem dX4_init_49 : decode cX4_init 49 = .ok (.bipush 72, 2) := by decide +kernel
theorem dX4_init_51 : decode cX4_init 51 = .ok (.newarray .byte, 2) := by decide +kernel
theorem dX4_init_53 : decode cX4_init 53 = .ok (.putfield 26, 3) := by decide +kernel
theorem dX4_init_56 : decode cX4_init 56 = .ok (.return_, 1) := by decide +kernel
theorem dX4_feed_0 : decode cX4_feed 0 = .ok (.aload_n 0, 1) := by decide +kernel
theorem dX4_feed_1 : decode cX4_feed 1 = .ok (.getfield 29, 3) := by decide +kernel
theorem dX4_feed_4 : decode cX4_feed 4 = .ok (.bipush 20, 2) := by decide +kernel
theorem dX4_feed_6 : decode cX4_feed 6 = .ok (.iadd, 1) := by decide +kernel
theorem dX4_feed_7 : decode cX4_feed 7 = .ok (.sipush 400, 3) := by decide +kernel
theorem dX4_feed_10 : decode cX4_feed 10 = .ok (.if_icmp .le 5, 3) := by decide +kernel
theorem dX4_feed_13 : decode cX4_feed 13 = .ok (.iconst 0, 1) := by decide +kernel
theorem dX4_feed_14 : decode cX4_feed 14 = .ok (.ireturn, 1) := by decide +kernel
theorem dX4_feed_15 : decode cX4_feed 15 = .ok (.aload_n 0, 1) := by decide +kernel
theorem dX4_feed_16 : decode cX4_feed 16 = .ok (.iload_n 1, 1) := by decide +kernel
theorem dX4_feed_17 : decode cX4_feed 17 = .ok (.invokevirtual 33, 3) := by decide +kernel
theorem dX4_feed_20 : decode cX4_feed 20 = .ok (.aload_n 0, 1) := by decide +kernel
theorem dX4_feed_21 : decode cX4_feed 21 = .ok (.iload_n 2, 1) := by decide +kernel
theorem dX4_feed_22 : decode cX4_feed 22 = .ok (.invokevirtual 33, 3) := by decide +kernel
theorem dX4_feed_25 : decode cX4_feed 25 = .ok (.aload_n 0, 1) := by decide +kernel
theorem dX4_feed_26 : decode cX4_feed 26 = .ok (.iload_n 3, 1) := by decide +kernel
theorem dX4_feed_27 : decode cX4_feed 27 = .ok (.invokevirtual 33, 3) := by decide +kernel
theorem dX4_feed_30 : decode cX4_feed 30 = .ok (.aload_n 0, 1) := by decide +kernel
theorem dX4_feed_31 : decode cX4_feed 31 = .ok (.iload 4, 2) := by decide +kernel
theorem dX4_feed_33 : decode cX4_feed 33 = .ok (.invokevirtual 33, 3) := by decide +kernel
theorem dX4_feed_36 : decode cX4_feed 36 = .ok (.aload_n 0, 1) := by decide +kernel
theorem dX4_feed_37 : decode cX4_feed 37 = .ok (.iload 5, 2) := by decide +kernel
theorem dX4_feed_39 : decode cX4_feed 39 = .ok (.invokevirtual 33, 3) := by decide +kernel
theorem dX4_feed_42 : decode cX4_feed 42 = .ok (.iconst 1, 1) := by decide +kernel
theorem dX4_feed_43 : decode cX4_feed 43 = .ok (.ireturn, 1) := by decide +kernel
theorem dX4_lay_0 : decode cX4_lay 0 = .ok (.bipush 24, 2) := by decide +kernel
theorem dX4_lay_2 : decode cX4_lay 2 = .ok (.istore_n 2, 1) := by decide +kernel
theorem dX4_lay_3 : decode cX4_lay 3 = .ok (.iload_n 2, 1) := by decide +kernel
theorem dX4_lay_4 : decode cX4_lay 4 = .ok (.ifCond .lt 32, 3) := by decide +kernel
theorem dX4_lay_7 : decode cX4_lay 7 = .ok (.aload_n 0, 1) := by decide +kernel
theorem dX4_lay_8 : decode cX4_lay 8 = .ok (.getfield 7, 3) := by decide +kernel
theorem dX4_lay_11 : decode cX4_lay 11 = .ok (.aload_n 0, 1) := by decide +kernel
theorem dX4_lay_12 : decode cX4_lay 12 = .ok (.getfield 29, 3) := by decide +kernel
theorem dX4_lay_15 : decode cX4_lay 15 = .ok (.iload_n 1, 1) := by decide +kernel
theorem dX4_lay_16 : decode cX4_lay 16 = .ok (.iload_n 2, 1) := by decide +kernel
theorem dX4_lay_17 : decode cX4_lay 17 = .ok (.ishr, 1) := by decide +kernel
theorem dX4_lay_18 : decode cX4_lay 18 = .ok (.i2b, 1) := by decide +kernel
theorem dX4_lay_19 : decode cX4_lay 19 = .ok (.bastore, 1) := by decide +kernel
theorem dX4_lay_20 : decode cX4_lay 20 = .ok (.aload_n 0, 1) := by decide +kernel
theorem dX4_lay_21 : decode cX4_lay 21 = .ok (.dup, 1) := by decide +kernel
theorem dX4_lay_22 : decode cX4_lay 22 = .ok (.getfield 29, 3) := by decide +kernel
theorem dX4_lay_25 : decode cX4_lay 25 = .ok (.iconst 1, 1) := by decide +kernel
theorem dX4_lay_26 : decode cX4_lay 26 = .ok (.iadd, 1) := by decide +kernel
theorem dX4_lay_27 : decode cX4_lay 27 = .ok (.putfield 29, 3) := by decide +kernel
theorem dX4_lay_30 : decode cX4_lay 30 = .ok (.iinc 2 (-8), 3) := by decide +kernel
theorem dX4_lay_33 : decode cX4_lay 33 = .ok (.goto (-30), 3) := by decide +kernel
theorem dX4_lay_36 : decode cX4_lay 36 = .ok (.return_, 1) := by decide +kernel
theorem dX4_end_0 : decode cX4_end 0 = .ok (.iload_n 1, 1) := by decide +kernel
theorem dX4_end_1 : decode cX4_end 1 = .ok (.ifCond .lt 11, 3) := by decide +kernel
theorem dX4_end_4 : decode cX4_end 4 = .ok (.iload_n 1, 1) := by decide +kernel
theorem dX4_end_5 : decode cX4_end 5 = .ok (.aload_n 0, 1) := by decide +kernel
theorem dX4_end_6 : decode cX4_end 6 = .ok (.getfield 29, 3) := by decide +kernel
theorem dX4_end_9 : decode cX4_end 9 = .ok (.if_icmp .le 5, 3) := by decide +kernel
theorem dX4_end_12 : decode cX4_end 12 = .ok (.iconst 0, 1) := by decide +kernel
theorem dX4_end_13 : decode cX4_end 13 = .ok (.ireturn, 1) := by decide +kernel
theorem dX4_end_14 : decode cX4_end 14 = .ok (.aload_n 0, 1) := by decide +kernel
theorem dX4_end_15 : decode cX4_end 15 = .ok (.iload_n 1, 1) := by decide +kernel
theorem dX4_end_16 : decode cX4_end 16 = .ok (.putfield 29, 3) := by decide +kernel
theorem dX4_end_19 : decode cX4_end 19 = .ok (.iconst 1, 1) := by decide +kernel
theorem dX4_end_20 : decode cX4_end 20 = .ok (.ireturn, 1) := by decide +kernel
theorem dX4_format_0 : decode cX4_format 0 = .ok (.aload_n 0, 1) := by decide +kernel
theorem dX4_format_1 : decode cX4_format 1 = .ok (.aload_n 0, 1) := by decide +kernel
theorem dX4_format_2 : decode cX4_format 2 = .ok (.getfield 29, 3) := by decide +kernel
theorem dX4_format_5 : decode cX4_format 5 = .ok (.putfield 37, 3) := by decide +kernel
theorem dX4_format_8 : decode cX4_format 8 = .ok (.iconst 0, 1) := by decide +kernel
theorem dX4_format_9 : decode cX4_format 9 = .ok (.istore_n 1, 1) := by decide +kernel
theorem dX4_format_10 : decode cX4_format 10 = .ok (.iload_n 1, 1) := by decide +kernel
theorem dX4_format_11 : decode cX4_format 11 = .ok (.aload_n 0, 1) := by decide +kernel
theorem dX4_format_12 : decode cX4_format 12 = .ok (.getfield 37, 3) := by decide +kernel
theorem dX4_format_15 : decode cX4_format 15 = .ok (.if_icmp .ge 21, 3) := by decide +kernel
theorem dX4_format_18 : decode cX4_format 18 = .ok (.aload_n 0, 1) := by decide +kernel
theorem dX4_format_19 : decode cX4_format 19 = .ok (.getfield 13, 3) := by decide +kernel
theorem dX4_format_22 : decode cX4_format 22 = .ok (.iload_n 1, 1) := by decide +kernel
theorem dX4_format_23 : decode cX4_format 23 = .ok (.aload_n 0, 1) := by decide +kernel
theorem dX4_format_24 : decode cX4_format 24 = .ok (.getfield 7, 3) := by decide +kernel
theorem dX4_format_27 : decode cX4_format 27 = .ok (.iload_n 1, 1) := by decide +kernel
theorem dX4_format_28 : decode cX4_format 28 = .ok (.baload, 1) := by decide +kernel
theorem dX4_format_29 : decode cX4_format 29 = .ok (.bastore, 1) := by decide +kernel
theorem dX4_format_30 : decode cX4_format 30 = .ok (.iinc 1 1, 3) := by decide +kernel
theorem dX4_format_33 : decode cX4_format 33 = .ok (.goto (-23), 3) := by decide +kernel
theorem dX4_format_36 : decode cX4_format 36 = .ok (.aload_n 0, 1) := by decide +kernel
theorem dX4_format_37 : decode cX4_format 37 = .ok (.iconst 0, 1) := by decide +kernel
theorem dX4_format_38 : decode cX4_format 38 = .ok (.putfield 29, 3) := by decide +kernel
theorem dX4_format_41 : decode cX4_format 41 = .ok (.aload_n 0, 1) := by decide +kernel
theorem dX4_format_42 : decode cX4_format 42 = .ok (.getfield 37, 3) := by decide +kernel
theorem dX4_format_45 : decode cX4_format 45 = .ok (.ireturn, 1) := by decide +kernel
theorem dX4_argument_0 : decode cX4_argument 0 = .ok (.aload_n 0, 1) := by decide +kernel
theorem dX4_argument_1 : decode cX4_argument 1 = .ok (.getfield 29, 3) := by decide +kernel
theorem dX4_argument_4 : decode cX4_argument 4 = .ok (.istore_n 1, 1) := by decide +kernel
theorem dX4_argument_5 : decode cX4_argument 5 = .ok (.aload_n 0, 1) := by decide +kernel
theorem dX4_argument_6 : decode cX4_argument 6 = .ok (.iconst 0, 1) := by decide +kernel
theorem dX4_argument_7 : decode cX4_argument 7 = .ok (.putfield 29, 3) := by decide +kernel
theorem dX4_argument_10 : decode cX4_argument 10 = .ok (.iload_n 1, 1) := by decide +kernel
theorem dX4_argument_11 : decode cX4_argument 11 = .ok (.bipush 40, 2) := by decide +kernel
theorem dX4_argument_13 : decode cX4_argument 13 = .ok (.if_icmp .gt 12, 3) := by decide +kernel
theorem dX4_argument_16 : decode cX4_argument 16 = .ok (.aload_n 0, 1) := by decide +kernel
theorem dX4_argument_17 : decode cX4_argument 17 = .ok (.getfield 40, 3) := by decide +kernel
theorem dX4_argument_20 : decode cX4_argument 20 = .ok (.bipush 20, 2) := by decide +kernel
theorem dX4_argument_22 : decode cX4_argument 22 = .ok (.if_icmp .ne 5, 3) := by decide +kernel
theorem dX4_argument_25 : decode cX4_argument 25 = .ok (.iconst (-1), 1) := by decide +kernel
theorem dX4_argument_26 : decode cX4_argument 26 = .ok (.ireturn, 1) := by decide +kernel
theorem dX4_argument_27 : decode cX4_argument 27 = .ok (.iconst 0, 1) := by decide +kernel
theorem dX4_argument_28 : decode cX4_argument 28 = .ok (.istore_n 2, 1) := by decide +kernel
theorem dX4_argument_29 : decode cX4_argument 29 = .ok (.iload_n 2, 1) := by decide +kernel
theorem dX4_argument_30 : decode cX4_argument 30 = .ok (.iload_n 1, 1) := by decide +kernel
theorem dX4_argument_31 : decode cX4_argument 31 = .ok (.if_icmp .ge 29, 3) := by decide +kernel
theorem dX4_argument_34 : decode cX4_argument 34 = .ok (.aload_n 0, 1) := by decide +kernel
theorem dX4_argument_35 : decode cX4_argument 35 = .ok (.getfield 16, 3) := by decide +kernel
theorem dX4_argument_38 : decode cX4_argument 38 = .ok (.bipush 40, 2) := by decide +kernel
theorem dX4_argument_40 : decode cX4_argument 40 = .ok (.aload_n 0, 1) := by decide +kernel
theorem dX4_argument_41 : decode cX4_argument 41 = .ok (.getfield 40, 3) := by decide +kernel
theorem dX4_argument_44 : decode cX4_argument 44 = .ok (.imul, 1) := by decide +kernel
theorem dX4_argument_45 : decode cX4_argument 45 = .ok (.iload_n 2, 1) := by decide +kernel
theorem dX4_argument_46 : decode cX4_argument 46 = .ok (.iadd, 1) := by decide +kernel
theorem dX4_argument_47 : decode cX4_argument 47 = .ok (.aload_n 0, 1) := by decide +kernel
theorem dX4_argument_48 : decode cX4_argument 48 = .ok (.getfield 7, 3) := by decide +kernel
theorem dX4_argument_51 : decode cX4_argument 51 = .ok (.iload_n 2, 1) := by decide +kernel
theorem dX4_argument_52 : decode cX4_argument 52 = .ok (.baload, 1) := by decide +kernel
theorem dX4_argument_53 : decode cX4_argument 53 = .ok (.bastore, 1) := by decide +kernel
theorem dX4_argument_54 : decode cX4_argument 54 = .ok (.iinc 2 1, 3) := by decide +kernel
theorem dX4_argument_57 : decode cX4_argument 57 = .ok (.goto (-28), 3) := by decide +kernel
theorem dX4_argument_60 : decode cX4_argument 60 = .ok (.aload_n 0, 1) := by decide +kernel
theorem dX4_argument_61 : decode cX4_argument 61 = .ok (.getfield 22, 3) := by decide +kernel
theorem dX4_argument_64 : decode cX4_argument 64 = .ok (.aload_n 0, 1) := by decide +kernel
theorem dX4_argument_65 : decode cX4_argument 65 = .ok (.getfield 40, 3) := by decide +kernel
theorem dX4_argument_68 : decode cX4_argument 68 = .ok (.iload_n 1, 1) := by decide +kernel
theorem dX4_argument_69 : decode cX4_argument 69 = .ok (.iastore, 1) := by decide +kernel
theorem dX4_argument_70 : decode cX4_argument 70 = .ok (.aload_n 0, 1) := by decide +kernel
theorem dX4_argument_71 : decode cX4_argument 71 = .ok (.dup, 1) := by decide +kernel
theorem dX4_argument_72 : decode cX4_argument 72 = .ok (.getfield 40, 3) := by decide +kernel
theorem dX4_argument_75 : decode cX4_argument 75 = .ok (.iconst 1, 1) := by decide +kernel
theorem dX4_argument_76 : decode cX4_argument 76 = .ok (.iadd, 1) := by decide +kernel
theorem dX4_argument_77 : decode cX4_argument 77 = .ok (.putfield 40, 3) := by decide +kernel
theorem dX4_argument_80 : decode cX4_argument 80 = .ok (.aload_n 0, 1) := by decide +kernel
theorem dX4_argument_81 : decode cX4_argument 81 = .ok (.getfield 40, 3) := by decide +kernel
theorem dX4_argument_84 : decode cX4_argument 84 = .ok (.iconst 1, 1) := by decide +kernel
theorem dX4_argument_85 : decode cX4_argument 85 = .ok (.isub, 1) := by decide +kernel
theorem dX4_argument_86 : decode cX4_argument 86 = .ok (.ireturn, 1) := by decide +kernel
theorem dX4_number_0 : decode cX4_number 0 = .ok (.aload_n 0, 1) := by decide +kernel
theorem dX4_number_1 : decode cX4_number 1 = .ok (.getfield 40, 3) := by decide +kernel
theorem dX4_number_4 : decode cX4_number 4 = .ok (.bipush 20, 2) := by decide +kernel
theorem dX4_number_6 : decode cX4_number 6 = .ok (.if_icmp .ne 5, 3) := by decide +kernel
theorem dX4_number_9 : decode cX4_number 9 = .ok (.iconst (-1), 1) := by decide +kernel
theorem dX4_number_10 : decode cX4_number 10 = .ok (.ireturn, 1) := by decide +kernel
theorem dX4_number_11 : decode cX4_number 11 = .ok (.aload_n 0, 1) := by decide +kernel
theorem dX4_number_12 : decode cX4_number 12 = .ok (.lload_n 1, 1) := by decide +kernel
theorem dX4_number_13 : decode cX4_number 13 = .ok (.invokevirtual 43, 3) := by decide +kernel
theorem dX4_number_16 : decode cX4_number 16 = .ok (.bipush 72, 2) := by decide +kernel
theorem dX4_number_18 : decode cX4_number 18 = .ok (.aload_n 0, 1) := by decide +kernel
theorem dX4_number_19 : decode cX4_number 19 = .ok (.getfield 47, 3) := by decide +kernel
theorem dX4_number_22 : decode cX4_number 22 = .ok (.isub, 1) := by decide +kernel
theorem dX4_number_23 : decode cX4_number 23 = .ok (.istore_n 3, 1) := by decide +kernel
theorem dX4_number_24 : decode cX4_number 24 = .ok (.iconst 0, 1) := by decide +kernel
theorem dX4_number_25 : decode cX4_number 25 = .ok (.istore 4, 2) := by decide +kernel
theorem dX4_number_27 : decode cX4_number 27 = .ok (.iload 4, 2) := by decide +kernel
theorem dX4_number_29 : decode cX4_number 29 = .ok (.iload_n 3, 1) := by decide +kernel
theorem dX4_number_30 : decode cX4_number 30 = .ok (.if_icmp .ge 36, 3) := by decide +kernel
theorem dX4_number_33 : decode cX4_number 33 = .ok (.aload_n 0, 1) := by decide +kernel
theorem dX4_number_34 : decode cX4_number 34 = .ok (.getfield 16, 3) := by decide +kernel
theorem dX4_number_37 : decode cX4_number 37 = .ok (.bipush 40, 2) := by decide +kernel
theorem dX4_number_39 : decode cX4_number 39 = .ok (.aload_n 0, 1) := by decide +kernel
theorem dX4_number_40 : decode cX4_number 40 = .ok (.getfield 40, 3) := by decide +kernel
theorem dX4_number_43 : decode cX4_number 43 = .ok (.imul, 1) := by decide +kernel
theorem dX4_number_44 : decode cX4_number 44 = .ok (.iload 4, 2) := by decide +kernel
theorem dX4_number_46 : decode cX4_number 46 = .ok (.iadd, 1) := by decide +kernel
theorem dX4_number_47 : decode cX4_number 47 = .ok (.aload_n 0, 1) := by decide +kernel
theorem dX4_number_48 : decode cX4_number 48 = .ok (.getfield 26, 3) := by decide +kernel
theorem dX4_number_51 : decode cX4_number 51 = .ok (.aload_n 0, 1) := by decide +kernel
theorem dX4_number_52 : decode cX4_number 52 = .ok (.getfield 47, 3) := by decide +kernel
theorem dX4_number_55 : decode cX4_number 55 = .ok (.iload 4, 2) := by decide +kernel
theorem dX4_number_57 : decode cX4_number 57 = .ok (.iadd, 1) := by decide +kernel
theorem dX4_number_58 : decode cX4_number 58 = .ok (.baload, 1) := by decide +kernel
theorem dX4_number_59 : decode cX4_number 59 = .ok (.bastore, 1) := by decide +kernel
theorem dX4_number_60 : decode cX4_number 60 = .ok (.iinc 4 1, 3) := by decide +kernel
theorem dX4_number_63 : decode cX4_number 63 = .ok (.goto (-36), 3) := by decide +kernel
theorem dX4_number_66 : decode cX4_number 66 = .ok (.aload_n 0, 1) := by decide +kernel
theorem dX4_number_67 : decode cX4_number 67 = .ok (.getfield 22, 3) := by decide +kernel
theorem dX4_number_70 : decode cX4_number 70 = .ok (.aload_n 0, 1) := by decide +kernel
theorem dX4_number_71 : decode cX4_number 71 = .ok (.getfield 40, 3) := by decide +kernel
theorem dX4_number_74 : decode cX4_number 74 = .ok (.iload_n 3, 1) := by decide +kernel
theorem dX4_number_75 : decode cX4_number 75 = .ok (.iastore, 1) := by decide +kernel
theorem dX4_number_76 : decode cX4_number 76 = .ok (.aload_n 0, 1) := by decide +kernel
theorem dX4_number_77 : decode cX4_number 77 = .ok (.dup, 1) := by decide +kernel
theorem dX4_number_78 : decode cX4_number 78 = .ok (.getfield 40, 3) := by decide +kernel
theorem dX4_number_81 : decode cX4_number 81 = .ok (.iconst 1, 1) := by decide +kernel
theorem dX4_number_82 : decode cX4_number 82 = .ok (.iadd, 1) := by decide +kernel
theorem dX4_number_83 : decode cX4_number 83 = .ok (.putfield 40, 3) := by decide +kernel
theorem dX4_number_86 : decode cX4_number 86 = .ok (.aload_n 0, 1) := by decide +kernel
theorem dX4_number_87 : decode cX4_number 87 = .ok (.getfield 40, 3) := by decide +kernel
theorem dX4_number_90 : decode cX4_number 90 = .ok (.iconst 1, 1) := by decide +kernel
theorem dX4_number_91 : decode cX4_number 91 = .ok (.isub, 1) := by decide +kernel
theorem dX4_number_92 : decode cX4_number 92 = .ok (.ireturn, 1) := by decide +kernel
theorem dX4_decimal_0 : decode cX4_decimal 0 = .ok (.aload_n 0, 1) := by decide +kernel
theorem dX4_decimal_1 : decode cX4_decimal 1 = .ok (.lload_n 1, 1) := by decide +kernel
theorem dX4_decimal_2 : decode cX4_decimal 2 = .ok (.invokevirtual 50, 3) := by decide +kernel
theorem dX4_decimal_5 : decode cX4_decimal 5 = .ok (.lload_n 1, 1) := by decide +kernel
theorem dX4_decimal_6 : decode cX4_decimal 6 = .ok (.lconst 0, 1) := by decide +kernel
theorem dX4_decimal_7 : decode cX4_decimal 7 = .ok (.lcmp, 1) := by decide +kernel
theorem dX4_decimal_8 : decode cX4_decimal 8 = .ok (.ifCond .ge 9, 3) := by decide +kernel
theorem dX4_decimal_11 : decode cX4_decimal 11 = .ok (.aload_n 0, 1) := by decide +kernel
theorem dX4_decimal_12 : decode cX4_decimal 12 = .ok (.bipush 45, 2) := by decide +kernel
theorem dX4_decimal_14 : decode cX4_decimal 14 = .ok (.invokevirtual 53, 3) := by decide +kernel
theorem dX4_decimal_17 : decode cX4_decimal 17 = .ok (.return_, 1) := by decide +kernel
theorem dX4_digits_0 : decode cX4_digits 0 = .ok (.aload_n 0, 1) := by decide +kernel
theorem dX4_digits_1 : decode cX4_digits 1 = .ok (.bipush 72, 2) := by decide +kernel
theorem dX4_digits_3 : decode cX4_digits 3 = .ok (.putfield 47, 3) := by decide +kernel
theorem dX4_digits_6 : decode cX4_digits 6 = .ok (.lload_n 1, 1) := by decide +kernel
theorem dX4_digits_7 : decode cX4_digits 7 = .ok (.lstore_n 3, 1) := by decide +kernel
theorem dX4_digits_8 : decode cX4_digits 8 = .ok (.lload_n 3, 1) := by decide +kernel
theorem dX4_digits_9 : decode cX4_digits 9 = .ok (.ldc2_w 56, 3) := by decide +kernel
theorem dX4_digits_12 : decode cX4_digits 12 = .ok (.lrem, 1) := by decide +kernel
theorem dX4_digits_13 : decode cX4_digits 13 = .ok (.lstore 5, 2) := by decide +kernel
theorem dX4_digits_15 : decode cX4_digits 15 = .ok (.aload_n 0, 1) := by decide +kernel
theorem dX4_digits_16 : decode cX4_digits 16 = .ok (.bipush 48, 2) := by decide +kernel
theorem dX4_digits_18 : decode cX4_digits 18 = .ok (.lload 5, 2) := by decide +kernel
theorem dX4_digits_20 : decode cX4_digits 20 = .ok (.lconst 0, 1) := by decide +kernel
theorem dX4_digits_21 : decode cX4_digits 21 = .ok (.lcmp, 1) := by decide +kernel
theorem dX4_digits_22 : decode cX4_digits 22 = .ok (.ifCond .ge 9, 3) := by decide +kernel
theorem dX4_digits_25 : decode cX4_digits 25 = .ok (.lload 5, 2) := by decide +kernel
theorem dX4_digits_27 : decode cX4_digits 27 = .ok (.lneg, 1) := by decide +kernel
theorem dX4_digits_28 : decode cX4_digits 28 = .ok (.goto 5, 3) := by decide +kernel
theorem dX4_digits_31 : decode cX4_digits 31 = .ok (.lload 5, 2) := by decide +kernel
theorem dX4_digits_33 : decode cX4_digits 33 = .ok (.l2i, 1) := by decide +kernel
theorem dX4_digits_34 : decode cX4_digits 34 = .ok (.iadd, 1) := by decide +kernel
theorem dX4_digits_35 : decode cX4_digits 35 = .ok (.invokevirtual 53, 3) := by decide +kernel
theorem dX4_digits_38 : decode cX4_digits 38 = .ok (.lload_n 3, 1) := by decide +kernel
theorem dX4_digits_39 : decode cX4_digits 39 = .ok (.ldc2_w 56, 3) := by decide +kernel
theorem dX4_digits_42 : decode cX4_digits 42 = .ok (.ldiv, 1) := by decide +kernel
theorem dX4_digits_43 : decode cX4_digits 43 = .ok (.lstore_n 3, 1) := by decide +kernel
theorem dX4_digits_44 : decode cX4_digits 44 = .ok (.lload_n 3, 1) := by decide +kernel
theorem dX4_digits_45 : decode cX4_digits 45 = .ok (.lconst 0, 1) := by decide +kernel
theorem dX4_digits_46 : decode cX4_digits 46 = .ok (.lcmp, 1) := by decide +kernel
theorem dX4_digits_47 : decode cX4_digits 47 = .ok (.ifCond .ne (-39), 3) := by decide +kernel
theorem dX4_digits_50 : decode cX4_digits 50 = .ok (.return_, 1) := by decide +kernel
theorem dX4_ahead_0 : decode cX4_ahead 0 = .ok (.aload_n 0, 1) := by decide +kernel
theorem dX4_ahead_1 : decode cX4_ahead 1 = .ok (.dup, 1) := by decide +kernel
theorem dX4_ahead_2 : decode cX4_ahead 2 = .ok (.getfield 47, 3) := by decide +kernel
theorem dX4_ahead_5 : decode cX4_ahead 5 = .ok (.iconst 1, 1) := by decide +kernel
theorem dX4_ahead_6 : decode cX4_ahead 6 = .ok (.isub, 1) := by decide +kernel
theorem dX4_ahead_7 : decode cX4_ahead 7 = .ok (.putfield 47, 3) := by decide +kernel
theorem dX4_ahead_10 : decode cX4_ahead 10 = .ok (.aload_n 0, 1) := by decide +kernel
theorem dX4_ahead_11 : decode cX4_ahead 11 = .ok (.getfield 26, 3) := by decide +kernel
theorem dX4_ahead_14 : decode cX4_ahead 14 = .ok (.aload_n 0, 1) := by decide +kernel
theorem dX4_ahead_15 : decode cX4_ahead 15 = .ok (.getfield 47, 3) := by decide +kernel
theorem dX4_ahead_18 : decode cX4_ahead 18 = .ok (.iload_n 1, 1) := by decide +kernel
theorem dX4_ahead_19 : decode cX4_ahead 19 = .ok (.i2b, 1) := by decide +kernel
theorem dX4_ahead_20 : decode cX4_ahead 20 = .ok (.bastore, 1) := by decide +kernel
theorem dX4_ahead_21 : decode cX4_ahead 21 = .ok (.return_, 1) := by decide +kernel
theorem dX4_clear_0 : decode cX4_clear 0 = .ok (.aload_n 0, 1) := by decide +kernel
theorem dX4_clear_1 : decode cX4_clear 1 = .ok (.iconst 0, 1) := by decide +kernel
theorem dX4_clear_2 : decode cX4_clear 2 = .ok (.putfield 40, 3) := by decide +kernel
theorem dX4_clear_5 : decode cX4_clear 5 = .ok (.return_, 1) := by decide +kernel
theorem dX4_make_0 : decode cX4_make 0 = .ok (.aload_n 0, 1) := by decide +kernel
theorem dX4_make_1 : decode cX4_make 1 = .ok (.iconst 0, 1) := by decide +kernel
theorem dX4_make_2 : decode cX4_make 2 = .ok (.putfield 126, 3) := by decide +kernel
theorem dX4_make_5 : decode cX4_make 5 = .ok (.aload_n 0, 1) := by decide +kernel
theorem dX4_make_6 : decode cX4_make 6 = .ok (.iconst 0, 1) := by decide +kernel
theorem dX4_make_7 : decode cX4_make 7 = .ok (.putfield 104, 3) := by decide +kernel
theorem dX4_make_10 : decode cX4_make 10 = .ok (.aload_n 0, 1) := by decide +kernel
theorem dX4_make_11 : decode cX4_make 11 = .ok (.iconst 0, 1) := by decide +kernel
theorem dX4_make_12 : decode cX4_make 12 = .ok (.putfield 77, 3) := by decide +kernel
theorem dX4_make_15 : decode cX4_make 15 = .ok (.iconst 0, 1) := by decide +kernel
theorem dX4_make_16 : decode cX4_make 16 = .ok (.istore_n 1, 1) := by decide +kernel
theorem dX4_make_17 : decode cX4_make 17 = .ok (.iconst 0, 1) := by decide +kernel
theorem dX4_make_18 : decode cX4_make 18 = .ok (.istore_n 2, 1) := by decide +kernel
theorem dX4_make_19 : decode cX4_make 19 = .ok (.aload_n 0, 1) := by decide +kernel
theorem dX4_make_20 : decode cX4_make 20 = .ok (.getfield 77, 3) := by decide +kernel
theorem dX4_make_23 : decode cX4_make 23 = .ok (.aload_n 0, 1) := by decide +kernel
theorem dX4_make_24 : decode cX4_make 24 = .ok (.getfield 37, 3) := by decide +kernel
theorem dX4_make_27 : decode cX4_make 27 = .ok (.if_icmp .ge 104, 3) := by decide +kernel
theorem dX4_make_30 : decode cX4_make 30 = .ok (.iload_n 2, 1) := by decide +kernel
theorem dX4_make_31 : decode cX4_make 31 = .ok (.ifCond .ne 100, 3) := by decide +kernel
theorem dX4_make_34 : decode cX4_make 34 = .ok (.aload_n 0, 1) := by decide +kernel
theorem dX4_make_35 : decode cX4_make 35 = .ok (.getfield 13, 3) := by decide +kernel
theorem dX4_make_38 : decode cX4_make 38 = .ok (.aload_n 0, 1) := by decide +kernel
theorem dX4_make_39 : decode cX4_make 39 = .ok (.getfield 77, 3) := by decide +kernel
theorem dX4_make_42 : decode cX4_make 42 = .ok (.baload, 1) := by decide +kernel
theorem dX4_make_43 : decode cX4_make 43 = .ok (.istore_n 3, 1) := by decide +kernel
theorem dX4_make_44 : decode cX4_make 44 = .ok (.aload_n 0, 1) := by decide +kernel
theorem dX4_make_45 : decode cX4_make 45 = .ok (.dup, 1) := by decide +kernel
theorem dX4_make_46 : decode cX4_make 46 = .ok (.getfield 77, 3) := by decide +kernel
theorem dX4_make_49 : decode cX4_make 49 = .ok (.iconst 1, 1) := by decide +kernel
theorem dX4_make_50 : decode cX4_make 50 = .ok (.iadd, 1) := by decide +kernel
theorem dX4_make_51 : decode cX4_make 51 = .ok (.putfield 77, 3) := by decide +kernel
theorem dX4_make_54 : decode cX4_make 54 = .ok (.iload_n 3, 1) := by decide +kernel
theorem dX4_make_55 : decode cX4_make 55 = .ok (.bipush 37, 2) := by decide +kernel
theorem dX4_make_57 : decode cX4_make 57 = .ok (.if_icmp .eq 21, 3) := by decide +kernel
theorem dX4_make_60 : decode cX4_make 60 = .ok (.aload_n 0, 1) := by decide +kernel
theorem dX4_make_61 : decode cX4_make 61 = .ok (.iload_n 3, 1) := by decide +kernel
theorem dX4_make_62 : decode cX4_make 62 = .ok (.invokevirtual 107, 3) := by decide +kernel
theorem dX4_make_65 : decode cX4_make 65 = .ok (.ifCond .eq 7, 3) := by decide +kernel
theorem dX4_make_68 : decode cX4_make 68 = .ok (.iconst 0, 1) := by decide +kernel
theorem dX4_make_69 : decode cX4_make 69 = .ok (.goto 5, 3) := by decide +kernel
theorem dX4_make_72 : decode cX4_make 72 = .ok (.bipush (-5), 2) := by decide +kernel
theorem dX4_make_74 : decode cX4_make 74 = .ok (.istore_n 2, 1) := by decide +kernel
theorem dX4_make_75 : decode cX4_make 75 = .ok (.goto 53, 3) := by decide +kernel
theorem dX4_make_78 : decode cX4_make 78 = .ok (.aload_n 0, 1) := by decide +kernel
theorem dX4_make_79 : decode cX4_make 79 = .ok (.invokevirtual 129, 3) := by decide +kernel
theorem dX4_make_82 : decode cX4_make 82 = .ok (.ifCond .ne 9, 3) := by decide +kernel
theorem dX4_make_85 : decode cX4_make 85 = .ok (.bipush (-2), 2) := by decide +kernel
theorem dX4_make_87 : decode cX4_make 87 = .ok (.istore_n 2, 1) := by decide +kernel
theorem dX4_make_88 : decode cX4_make 88 = .ok (.goto 40, 3) := by decide +kernel
theorem dX4_make_91 : decode cX4_make 91 = .ok (.aload_n 0, 1) := by decide +kernel
theorem dX4_make_92 : decode cX4_make 92 = .ok (.getfield 101, 3) := by decide +kernel
theorem dX4_make_95 : decode cX4_make 95 = .ok (.bipush 37, 2) := by decide +kernel
theorem dX4_make_97 : decode cX4_make 97 = .ok (.if_icmp .ne 22, 3) := by decide +kernel
theorem dX4_make_100 : decode cX4_make 100 = .ok (.aload_n 0, 1) := by decide +kernel
theorem dX4_make_101 : decode cX4_make 101 = .ok (.bipush 37, 2) := by decide +kernel
theorem dX4_make_103 : decode cX4_make 103 = .ok (.invokevirtual 107, 3) := by decide +kernel
theorem dX4_make_106 : decode cX4_make 106 = .ok (.ifCond .eq 7, 3) := by decide +kernel
theorem dX4_make_109 : decode cX4_make 109 = .ok (.iconst 0, 1) := by decide +kernel
theorem dX4_make_110 : decode cX4_make 110 = .ok (.goto 5, 3) := by decide +kernel
theorem dX4_make_113 : decode cX4_make 113 = .ok (.bipush (-5), 2) := by decide +kernel
theorem dX4_make_115 : decode cX4_make 115 = .ok (.istore_n 2, 1) := by decide +kernel
theorem dX4_make_116 : decode cX4_make 116 = .ok (.goto 12, 3) := by decide +kernel
theorem dX4_make_119 : decode cX4_make 119 = .ok (.aload_n 0, 1) := by decide +kernel
theorem dX4_make_120 : decode cX4_make 120 = .ok (.iload_n 1, 1) := by decide +kernel
theorem dX4_make_121 : decode cX4_make 121 = .ok (.invokevirtual 132, 3) := by decide +kernel
theorem dX4_make_124 : decode cX4_make 124 = .ok (.istore_n 2, 1) := by decide +kernel
theorem dX4_make_125 : decode cX4_make 125 = .ok (.iinc 1 1, 3) := by decide +kernel
theorem dX4_make_128 : decode cX4_make 128 = .ok (.goto (-109), 3) := by decide +kernel
theorem dX4_make_131 : decode cX4_make 131 = .ok (.aload_n 0, 1) := by decide +kernel
theorem dX4_make_132 : decode cX4_make 132 = .ok (.iload_n 2, 1) := by decide +kernel
theorem dX4_make_133 : decode cX4_make 133 = .ok (.ifCond .ne 10, 3) := by decide +kernel
theorem dX4_make_136 : decode cX4_make 136 = .ok (.aload_n 0, 1) := by decide +kernel
theorem dX4_make_137 : decode cX4_make 137 = .ok (.getfield 104, 3) := by decide +kernel
theorem dX4_make_140 : decode cX4_make 140 = .ok (.goto 4, 3) := by decide +kernel
theorem dX4_make_143 : decode cX4_make 143 = .ok (.iconst 0, 1) := by decide +kernel
theorem dX4_make_144 : decode cX4_make 144 = .ok (.putfield 126, 3) := by decide +kernel
theorem dX4_make_147 : decode cX4_make 147 = .ok (.iload_n 2, 1) := by decide +kernel
theorem dX4_make_148 : decode cX4_make 148 = .ok (.ifCond .ne 10, 3) := by decide +kernel
theorem dX4_make_151 : decode cX4_make 151 = .ok (.aload_n 0, 1) := by decide +kernel
theorem dX4_make_152 : decode cX4_make 152 = .ok (.getfield 104, 3) := by decide +kernel
theorem dX4_make_155 : decode cX4_make 155 = .ok (.goto 4, 3) := by decide +kernel
theorem dX4_make_158 : decode cX4_make 158 = .ok (.iload_n 2, 1) := by decide +kernel
theorem dX4_make_159 : decode cX4_make 159 = .ok (.ireturn, 1) := by decide +kernel
theorem dX4_put_0 : decode cX4_put 0 = .ok (.aload_n 0, 1) := by decide +kernel
theorem dX4_put_1 : decode cX4_put 1 = .ok (.getfield 104, 3) := by decide +kernel
theorem dX4_put_4 : decode cX4_put 4 = .ok (.sipush 1024, 3) := by decide +kernel
theorem dX4_put_7 : decode cX4_put 7 = .ok (.if_icmp .ne 5, 3) := by decide +kernel
theorem dX4_put_10 : decode cX4_put 10 = .ok (.iconst 0, 1) := by decide +kernel
theorem dX4_put_11 : decode cX4_put 11 = .ok (.ireturn, 1) := by decide +kernel
theorem dX4_put_12 : decode cX4_put 12 = .ok (.aload_n 0, 1) := by decide +kernel
theorem dX4_put_13 : decode cX4_put 13 = .ok (.getfield 19, 3) := by decide +kernel
theorem dX4_put_16 : decode cX4_put 16 = .ok (.aload_n 0, 1) := by decide +kernel
theorem dX4_put_17 : decode cX4_put 17 = .ok (.getfield 104, 3) := by decide +kernel
theorem dX4_put_20 : decode cX4_put 20 = .ok (.iload_n 1, 1) := by decide +kernel
theorem dX4_put_21 : decode cX4_put 21 = .ok (.i2b, 1) := by decide +kernel
theorem dX4_put_22 : decode cX4_put 22 = .ok (.bastore, 1) := by decide +kernel
theorem dX4_put_23 : decode cX4_put 23 = .ok (.aload_n 0, 1) := by decide +kernel
theorem dX4_put_24 : decode cX4_put 24 = .ok (.dup, 1) := by decide +kernel
theorem dX4_put_25 : decode cX4_put 25 = .ok (.getfield 104, 3) := by decide +kernel
theorem dX4_put_28 : decode cX4_put 28 = .ok (.iconst 1, 1) := by decide +kernel
theorem dX4_put_29 : decode cX4_put 29 = .ok (.iadd, 1) := by decide +kernel
theorem dX4_put_30 : decode cX4_put 30 = .ok (.putfield 104, 3) := by decide +kernel
theorem dX4_put_33 : decode cX4_put 33 = .ok (.iconst 1, 1) := by decide +kernel
theorem dX4_put_34 : decode cX4_put 34 = .ok (.ireturn, 1) := by decide +kernel
theorem dX4_readPlace_0 : decode cX4_readPlace 0 = .ok (.aload_n 0, 1) := by decide +kernel
theorem dX4_readPlace_1 : decode cX4_readPlace 1 = .ok (.iconst 0, 1) := by decide +kernel
theorem dX4_readPlace_2 : decode cX4_readPlace 2 = .ok (.putfield 80, 3) := by decide +kernel
theorem dX4_readPlace_5 : decode cX4_readPlace 5 = .ok (.aload_n 0, 1) := by decide +kernel
theorem dX4_readPlace_6 : decode cX4_readPlace 6 = .ok (.iconst 0, 1) := by decide +kernel
theorem dX4_readPlace_7 : decode cX4_readPlace 7 = .ok (.putfield 84, 3) := by decide +kernel
theorem dX4_readPlace_10 : decode cX4_readPlace 10 = .ok (.aload_n 0, 1) := by decide +kernel
theorem dX4_readPlace_11 : decode cX4_readPlace 11 = .ok (.iconst 0, 1) := by decide +kernel
theorem dX4_readPlace_12 : decode cX4_readPlace 12 = .ok (.putfield 87, 3) := by decide +kernel
theorem dX4_readPlace_15 : decode cX4_readPlace 15 = .ok (.aload_n 0, 1) := by decide +kernel
theorem dX4_readPlace_16 : decode cX4_readPlace 16 = .ok (.iconst 0, 1) := by decide +kernel
theorem dX4_readPlace_17 : decode cX4_readPlace 17 = .ok (.putfield 90, 3) := by decide +kernel
theorem dX4_readPlace_20 : decode cX4_readPlace 20 = .ok (.aload_n 0, 1) := by decide +kernel
theorem dX4_readPlace_21 : decode cX4_readPlace 21 = .ok (.iconst 0, 1) := by decide +kernel
theorem dX4_readPlace_22 : decode cX4_readPlace 22 = .ok (.putfield 93, 3) := by decide +kernel
theorem dX4_readPlace_25 : decode cX4_readPlace 25 = .ok (.aload_n 0, 1) := by decide +kernel
theorem dX4_readPlace_26 : decode cX4_readPlace 26 = .ok (.invokevirtual 96, 3) := by decide +kernel
theorem dX4_readPlace_29 : decode cX4_readPlace 29 = .ok (.ifCond .eq 16, 3) := by decide +kernel
theorem dX4_readPlace_32 : decode cX4_readPlace 32 = .ok (.aload_n 0, 1) := by decide +kernel
theorem dX4_readPlace_33 : decode cX4_readPlace 33 = .ok (.dup, 1) := by decide +kernel
theorem dX4_readPlace_34 : decode cX4_readPlace 34 = .ok (.getfield 77, 3) := by decide +kernel
theorem dX4_readPlace_37 : decode cX4_readPlace 37 = .ok (.iconst 1, 1) := by decide +kernel
theorem dX4_readPlace_38 : decode cX4_readPlace 38 = .ok (.iadd, 1) := by decide +kernel
theorem dX4_readPlace_39 : decode cX4_readPlace 39 = .ok (.putfield 77, 3) := by decide +kernel
theorem dX4_readPlace_42 : decode cX4_readPlace 42 = .ok (.goto (-17), 3) := by decide +kernel
theorem dX4_readPlace_45 : decode cX4_readPlace 45 = .ok (.aload_n 0, 1) := by decide +kernel
theorem dX4_readPlace_46 : decode cX4_readPlace 46 = .ok (.getfield 77, 3) := by decide +kernel
theorem dX4_readPlace_49 : decode cX4_readPlace 49 = .ok (.aload_n 0, 1) := by decide +kernel
theorem dX4_readPlace_50 : decode cX4_readPlace 50 = .ok (.getfield 37, 3) := by decide +kernel
theorem dX4_readPlace_53 : decode cX4_readPlace 53 = .ok (.if_icmp .ge 90, 3) := by decide +kernel
theorem dX4_readPlace_56 : decode cX4_readPlace 56 = .ok (.aload_n 0, 1) := by decide +kernel
theorem dX4_readPlace_57 : decode cX4_readPlace 57 = .ok (.getfield 13, 3) := by decide +kernel
theorem dX4_readPlace_60 : decode cX4_readPlace 60 = .ok (.aload_n 0, 1) := by decide +kernel
theorem dX4_readPlace_61 : decode cX4_readPlace 61 = .ok (.getfield 77, 3) := by decide +kernel
theorem dX4_readPlace_64 : decode cX4_readPlace 64 = .ok (.baload, 1) := by decide +kernel
theorem dX4_readPlace_65 : decode cX4_readPlace 65 = .ok (.bipush 48, 2) := by decide +kernel
theorem dX4_readPlace_67 : decode cX4_readPlace 67 = .ok (.if_icmp .lt 76, 3) := by decide +kernel
theorem dX4_readPlace_70 : decode cX4_readPlace 70 = .ok (.aload_n 0, 1) := by decide +kernel
theorem dX4_readPlace_71 : decode cX4_readPlace 71 = .ok (.getfield 13, 3) := by decide +kernel
theorem dX4_readPlace_74 : decode cX4_readPlace 74 = .ok (.aload_n 0, 1) := by decide +kernel
theorem dX4_readPlace_75 : decode cX4_readPlace 75 = .ok (.getfield 77, 3) := by decide +kernel
theorem dX4_readPlace_78 : decode cX4_readPlace 78 = .ok (.baload, 1) := by decide +kernel
theorem dX4_readPlace_79 : decode cX4_readPlace 79 = .ok (.bipush 57, 2) := by decide +kernel
theorem dX4_readPlace_81 : decode cX4_readPlace 81 = .ok (.if_icmp .gt 62, 3) := by decide +kernel
theorem dX4_readPlace_84 : decode cX4_readPlace 84 = .ok (.aload_n 0, 1) := by decide +kernel
theorem dX4_readPlace_85 : decode cX4_readPlace 85 = .ok (.bipush 10, 2) := by decide +kernel
theorem dX4_readPlace_87 : decode cX4_readPlace 87 = .ok (.aload_n 0, 1) := by decide +kernel
theorem dX4_readPlace_88 : decode cX4_readPlace 88 = .ok (.getfield 93, 3) := by decide +kernel
theorem dX4_readPlace_91 : decode cX4_readPlace 91 = .ok (.imul, 1) := by decide +kernel
theorem dX4_readPlace_92 : decode cX4_readPlace 92 = .ok (.aload_n 0, 1) := by decide +kernel
theorem dX4_readPlace_93 : decode cX4_readPlace 93 = .ok (.getfield 13, 3) := by decide +kernel
theorem dX4_readPlace_96 : decode cX4_readPlace 96 = .ok (.aload_n 0, 1) := by decide +kernel
theorem dX4_readPlace_97 : decode cX4_readPlace 97 = .ok (.getfield 77, 3) := by decide +kernel
theorem dX4_readPlace_100 : decode cX4_readPlace 100 = .ok (.baload, 1) := by decide +kernel
theorem dX4_readPlace_101 : decode cX4_readPlace 101 = .ok (.iadd, 1) := by decide +kernel
theorem dX4_readPlace_102 : decode cX4_readPlace 102 = .ok (.bipush 48, 2) := by decide +kernel
theorem dX4_readPlace_104 : decode cX4_readPlace 104 = .ok (.isub, 1) := by decide +kernel
theorem dX4_readPlace_105 : decode cX4_readPlace 105 = .ok (.putfield 93, 3) := by decide +kernel
theorem dX4_readPlace_108 : decode cX4_readPlace 108 = .ok (.aload_n 0, 1) := by decide +kernel
theorem dX4_readPlace_109 : decode cX4_readPlace 109 = .ok (.aload_n 0, 1) := by decide +kernel
theorem dX4_readPlace_110 : decode cX4_readPlace 110 = .ok (.getfield 93, 3) := by decide +kernel
theorem dX4_readPlace_113 : decode cX4_readPlace 113 = .ok (.ldc 100, 2) := by decide +kernel
theorem dX4_readPlace_115 : decode cX4_readPlace 115 = .ok (.if_icmp .le 8, 3) := by decide +kernel
theorem dX4_readPlace_118 : decode cX4_readPlace 118 = .ok (.ldc 100, 2) := by decide +kernel
theorem dX4_readPlace_120 : decode cX4_readPlace 120 = .ok (.goto 7, 3) := by decide +kernel
theorem dX4_readPlace_123 : decode cX4_readPlace 123 = .ok (.aload_n 0, 1) := by decide +kernel
theorem dX4_readPlace_124 : decode cX4_readPlace 124 = .ok (.getfield 93, 3) := by decide +kernel
theorem dX4_readPlace_127 : decode cX4_readPlace 127 = .ok (.putfield 93, 3) := by decide +kernel
theorem dX4_readPlace_130 : decode cX4_readPlace 130 = .ok (.aload_n 0, 1) := by decide +kernel
theorem dX4_readPlace_131 : decode cX4_readPlace 131 = .ok (.dup, 1) := by decide +kernel
theorem dX4_readPlace_132 : decode cX4_readPlace 132 = .ok (.getfield 77, 3) := by decide +kernel
theorem dX4_readPlace_135 : decode cX4_readPlace 135 = .ok (.iconst 1, 1) := by decide +kernel
theorem dX4_readPlace_136 : decode cX4_readPlace 136 = .ok (.iadd, 1) := by decide +kernel
theorem dX4_readPlace_137 : decode cX4_readPlace 137 = .ok (.putfield 77, 3) := by decide +kernel
theorem dX4_readPlace_140 : decode cX4_readPlace 140 = .ok (.goto (-95), 3) := by decide +kernel
theorem dX4_readPlace_143 : decode cX4_readPlace 143 = .ok (.aload_n 0, 1) := by decide +kernel
theorem dX4_readPlace_144 : decode cX4_readPlace 144 = .ok (.aload_n 0, 1) := by decide +kernel
theorem dX4_readPlace_145 : decode cX4_readPlace 145 = .ok (.getfield 77, 3) := by decide +kernel
theorem dX4_readPlace_148 : decode cX4_readPlace 148 = .ok (.aload_n 0, 1) := by decide +kernel
theorem dX4_readPlace_149 : decode cX4_readPlace 149 = .ok (.getfield 37, 3) := by decide +kernel
theorem dX4_readPlace_152 : decode cX4_readPlace 152 = .ok (.if_icmp .ge 15, 3) := by decide +kernel
theorem dX4_readPlace_155 : decode cX4_readPlace 155 = .ok (.aload_n 0, 1) := by decide +kernel
theorem dX4_readPlace_156 : decode cX4_readPlace 156 = .ok (.getfield 13, 3) := by decide +kernel
theorem dX4_readPlace_159 : decode cX4_readPlace 159 = .ok (.aload_n 0, 1) := by decide +kernel
theorem dX4_readPlace_160 : decode cX4_readPlace 160 = .ok (.getfield 77, 3) := by decide +kernel
theorem dX4_readPlace_163 : decode cX4_readPlace 163 = .ok (.baload, 1) := by decide +kernel
theorem dX4_readPlace_164 : decode cX4_readPlace 164 = .ok (.goto 4, 3) := by decide +kernel
theorem dX4_readPlace_167 : decode cX4_readPlace 167 = .ok (.iconst 0, 1) := by decide +kernel
theorem dX4_readPlace_168 : decode cX4_readPlace 168 = .ok (.putfield 101, 3) := by decide +kernel
theorem dX4_readPlace_171 : decode cX4_readPlace 171 = .ok (.aload_n 0, 1) := by decide +kernel
theorem dX4_readPlace_172 : decode cX4_readPlace 172 = .ok (.dup, 1) := by decide +kernel
theorem dX4_readPlace_173 : decode cX4_readPlace 173 = .ok (.getfield 77, 3) := by decide +kernel
theorem dX4_readPlace_176 : decode cX4_readPlace 176 = .ok (.iconst 1, 1) := by decide +kernel
theorem dX4_readPlace_177 : decode cX4_readPlace 177 = .ok (.iadd, 1) := by decide +kernel
theorem dX4_readPlace_178 : decode cX4_readPlace 178 = .ok (.putfield 77, 3) := by decide +kernel
theorem dX4_readPlace_181 : decode cX4_readPlace 181 = .ok (.aload_n 0, 1) := by decide +kernel
theorem dX4_readPlace_182 : decode cX4_readPlace 182 = .ok (.getfield 101, 3) := by decide +kernel
theorem dX4_readPlace_185 : decode cX4_readPlace 185 = .ok (.bipush 100, 2) := by decide +kernel
theorem dX4_readPlace_187 : decode cX4_readPlace 187 = .ok (.if_icmp .eq 57, 3) := by decide +kernel
theorem dX4_readPlace_190 : decode cX4_readPlace 190 = .ok (.aload_n 0, 1) := by decide +kernel
theorem dX4_readPlace_191 : decode cX4_readPlace 191 = .ok (.getfield 101, 3) := by decide +kernel
theorem dX4_readPlace_194 : decode cX4_readPlace 194 = .ok (.bipush 120, 2) := by decide +kernel
theorem dX4_readPlace_196 : decode cX4_readPlace 196 = .ok (.if_icmp .eq 48, 3) := by decide +kernel
theorem dX4_readPlace_199 : decode cX4_readPlace 199 = .ok (.aload_n 0, 1) := by decide +kernel
theorem dX4_readPlace_200 : decode cX4_readPlace 200 = .ok (.getfield 101, 3) := by decide +kernel
theorem dX4_readPlace_203 : decode cX4_readPlace 203 = .ok (.bipush 88, 2) := by decide +kernel
theorem dX4_readPlace_205 : decode cX4_readPlace 205 = .ok (.if_icmp .eq 39, 3) := by decide +kernel
theorem dX4_readPlace_208 : decode cX4_readPlace 208 = .ok (.aload_n 0, 1) := by decide +kernel
theorem dX4_readPlace_209 : decode cX4_readPlace 209 = .ok (.getfield 101, 3) := by decide +kernel
theorem dX4_readPlace_212 : decode cX4_readPlace 212 = .ok (.bipush 111, 2) := by decide +kernel
theorem dX4_readPlace_214 : decode cX4_readPlace 214 = .ok (.if_icmp .eq 30, 3) := by decide +kernel
theorem dX4_readPlace_217 : decode cX4_readPlace 217 = .ok (.aload_n 0, 1) := by decide +kernel
theorem dX4_readPlace_218 : decode cX4_readPlace 218 = .ok (.getfield 101, 3) := by decide +kernel
theorem dX4_readPlace_221 : decode cX4_readPlace 221 = .ok (.bipush 99, 2) := by decide +kernel
theorem dX4_readPlace_223 : decode cX4_readPlace 223 = .ok (.if_icmp .eq 21, 3) := by decide +kernel
theorem dX4_readPlace_226 : decode cX4_readPlace 226 = .ok (.aload_n 0, 1) := by decide +kernel
theorem dX4_readPlace_227 : decode cX4_readPlace 227 = .ok (.getfield 101, 3) := by decide +kernel
theorem dX4_readPlace_230 : decode cX4_readPlace 230 = .ok (.bipush 115, 2) := by decide +kernel
theorem dX4_readPlace_232 : decode cX4_readPlace 232 = .ok (.if_icmp .eq 12, 3) := by decide +kernel
theorem dX4_readPlace_235 : decode cX4_readPlace 235 = .ok (.aload_n 0, 1) := by decide +kernel
theorem dX4_readPlace_236 : decode cX4_readPlace 236 = .ok (.getfield 101, 3) := by decide +kernel
theorem dX4_readPlace_239 : decode cX4_readPlace 239 = .ok (.bipush 37, 2) := by decide +kernel
theorem dX4_readPlace_241 : decode cX4_readPlace 241 = .ok (.if_icmp .ne 7, 3) := by decide +kernel
theorem dX4_readPlace_244 : decode cX4_readPlace 244 = .ok (.iconst 1, 1) := by decide +kernel
theorem dX4_readPlace_245 : decode cX4_readPlace 245 = .ok (.goto 4, 3) := by decide +kernel
theorem dX4_readPlace_248 : decode cX4_readPlace 248 = .ok (.iconst 0, 1) := by decide +kernel
theorem dX4_readPlace_249 : decode cX4_readPlace 249 = .ok (.ireturn, 1) := by decide +kernel
theorem dX4_flag_0 : decode cX4_flag 0 = .ok (.aload_n 0, 1) := by decide +kernel
theorem dX4_flag_1 : decode cX4_flag 1 = .ok (.getfield 77, 3) := by decide +kernel
theorem dX4_flag_4 : decode cX4_flag 4 = .ok (.aload_n 0, 1) := by decide +kernel
theorem dX4_flag_5 : decode cX4_flag 5 = .ok (.getfield 37, 3) := by decide +kernel
theorem dX4_flag_8 : decode cX4_flag 8 = .ok (.if_icmp .ge 15, 3) := by decide +kernel
theorem dX4_flag_11 : decode cX4_flag 11 = .ok (.aload_n 0, 1) := by decide +kernel
theorem dX4_flag_12 : decode cX4_flag 12 = .ok (.getfield 13, 3) := by decide +kernel
theorem dX4_flag_15 : decode cX4_flag 15 = .ok (.aload_n 0, 1) := by decide +kernel
theorem dX4_flag_16 : decode cX4_flag 16 = .ok (.getfield 77, 3) := by decide +kernel
theorem dX4_flag_19 : decode cX4_flag 19 = .ok (.baload, 1) := by decide +kernel
theorem dX4_flag_20 : decode cX4_flag 20 = .ok (.goto 4, 3) := by decide +kernel
theorem dX4_flag_23 : decode cX4_flag 23 = .ok (.iconst (-1), 1) := by decide +kernel
theorem dX4_flag_24 : decode cX4_flag 24 = .ok (.istore_n 1, 1) := by decide +kernel
theorem dX4_flag_25 : decode cX4_flag 25 = .ok (.aload_n 0, 1) := by decide +kernel
theorem dX4_flag_26 : decode cX4_flag 26 = .ok (.aload_n 0, 1) := by decide +kernel
theorem dX4_flag_27 : decode cX4_flag 27 = .ok (.getfield 80, 3) := by decide +kernel
theorem dX4_flag_30 : decode cX4_flag 30 = .ok (.ifCond .ne 9, 3) := by decide +kernel
theorem dX4_flag_33 : decode cX4_flag 33 = .ok (.iload_n 1, 1) := by decide +kernel
theorem dX4_flag_34 : decode cX4_flag 34 = .ok (.bipush 45, 2) := by decide +kernel
theorem dX4_flag_36 : decode cX4_flag 36 = .ok (.if_icmp .ne 7, 3) := by decide +kernel
theorem dX4_flag_39 : decode cX4_flag 39 = .ok (.iconst 1, 1) := by decide +kernel
theorem dX4_flag_40 : decode cX4_flag 40 = .ok (.goto 4, 3) := by decide +kernel
theorem dX4_flag_43 : decode cX4_flag 43 = .ok (.iconst 0, 1) := by decide +kernel
theorem dX4_flag_44 : decode cX4_flag 44 = .ok (.putfield 80, 3) := by decide +kernel
theorem dX4_flag_47 : decode cX4_flag 47 = .ok (.aload_n 0, 1) := by decide +kernel
theorem dX4_flag_48 : decode cX4_flag 48 = .ok (.aload_n 0, 1) := by decide +kernel
theorem dX4_flag_49 : decode cX4_flag 49 = .ok (.getfield 84, 3) := by decide +kernel
theorem dX4_flag_52 : decode cX4_flag 52 = .ok (.ifCond .ne 9, 3) := by decide +kernel
theorem dX4_flag_55 : decode cX4_flag 55 = .ok (.iload_n 1, 1) := by decide +kernel
theorem dX4_flag_56 : decode cX4_flag 56 = .ok (.bipush 48, 2) := by decide +kernel
theorem dX4_flag_58 : decode cX4_flag 58 = .ok (.if_icmp .ne 7, 3) := by decide +kernel
theorem dX4_flag_61 : decode cX4_flag 61 = .ok (.iconst 1, 1) := by decide +kernel
theorem dX4_flag_62 : decode cX4_flag 62 = .ok (.goto 4, 3) := by decide +kernel
theorem dX4_flag_65 : decode cX4_flag 65 = .ok (.iconst 0, 1) := by decide +kernel
theorem dX4_flag_66 : decode cX4_flag 66 = .ok (.putfield 84, 3) := by decide +kernel
theorem dX4_flag_69 : decode cX4_flag 69 = .ok (.aload_n 0, 1) := by decide +kernel
theorem dX4_flag_70 : decode cX4_flag 70 = .ok (.aload_n 0, 1) := by decide +kernel
theorem dX4_flag_71 : decode cX4_flag 71 = .ok (.getfield 87, 3) := by decide +kernel
theorem dX4_flag_74 : decode cX4_flag 74 = .ok (.ifCond .ne 9, 3) := by decide +kernel
theorem dX4_flag_77 : decode cX4_flag 77 = .ok (.iload_n 1, 1) := by decide +kernel
theorem dX4_flag_78 : decode cX4_flag 78 = .ok (.bipush 43, 2) := by decide +kernel
theorem dX4_flag_80 : decode cX4_flag 80 = .ok (.if_icmp .ne 7, 3) := by decide +kernel
theorem dX4_flag_83 : decode cX4_flag 83 = .ok (.iconst 1, 1) := by decide +kernel
theorem dX4_flag_84 : decode cX4_flag 84 = .ok (.goto 4, 3) := by decide +kernel
theorem dX4_flag_87 : decode cX4_flag 87 = .ok (.iconst 0, 1) := by decide +kernel
theorem dX4_flag_88 : decode cX4_flag 88 = .ok (.putfield 87, 3) := by decide +kernel
theorem dX4_flag_91 : decode cX4_flag 91 = .ok (.aload_n 0, 1) := by decide +kernel
theorem dX4_flag_92 : decode cX4_flag 92 = .ok (.aload_n 0, 1) := by decide +kernel
theorem dX4_flag_93 : decode cX4_flag 93 = .ok (.getfield 90, 3) := by decide +kernel
theorem dX4_flag_96 : decode cX4_flag 96 = .ok (.ifCond .ne 9, 3) := by decide +kernel
theorem dX4_flag_99 : decode cX4_flag 99 = .ok (.iload_n 1, 1) := by decide +kernel
theorem dX4_flag_100 : decode cX4_flag 100 = .ok (.bipush 32, 2) := by decide +kernel
theorem dX4_flag_102 : decode cX4_flag 102 = .ok (.if_icmp .ne 7, 3) := by decide +kernel
theorem dX4_flag_105 : decode cX4_flag 105 = .ok (.iconst 1, 1) := by decide +kernel
theorem dX4_flag_106 : decode cX4_flag 106 = .ok (.goto 4, 3) := by decide +kernel
theorem dX4_flag_109 : decode cX4_flag 109 = .ok (.iconst 0, 1) := by decide +kernel
theorem dX4_flag_110 : decode cX4_flag 110 = .ok (.putfield 90, 3) := by decide +kernel
theorem dX4_flag_113 : decode cX4_flag 113 = .ok (.iload_n 1, 1) := by decide +kernel
theorem dX4_flag_114 : decode cX4_flag 114 = .ok (.bipush 45, 2) := by decide +kernel
theorem dX4_flag_116 : decode cX4_flag 116 = .ok (.if_icmp .eq 21, 3) := by decide +kernel
theorem dX4_flag_119 : decode cX4_flag 119 = .ok (.iload_n 1, 1) := by decide +kernel
theorem dX4_flag_120 : decode cX4_flag 120 = .ok (.bipush 48, 2) := by decide +kernel
theorem dX4_flag_122 : decode cX4_flag 122 = .ok (.if_icmp .eq 15, 3) := by decide +kernel
theorem dX4_flag_125 : decode cX4_flag 125 = .ok (.iload_n 1, 1) := by decide +kernel
theorem dX4_flag_126 : decode cX4_flag 126 = .ok (.bipush 43, 2) := by decide +kernel
theorem dX4_flag_128 : decode cX4_flag 128 = .ok (.if_icmp .eq 9, 3) := by decide +kernel
theorem dX4_flag_131 : decode cX4_flag 131 = .ok (.iload_n 1, 1) := by decide +kernel
theorem dX4_flag_132 : decode cX4_flag 132 = .ok (.bipush 32, 2) := by decide +kernel
theorem dX4_flag_134 : decode cX4_flag 134 = .ok (.if_icmp .ne 7, 3) := by decide +kernel
theorem dX4_flag_137 : decode cX4_flag 137 = .ok (.iconst 1, 1) := by decide +kernel
theorem dX4_flag_138 : decode cX4_flag 138 = .ok (.goto 4, 3) := by decide +kernel
theorem dX4_flag_141 : decode cX4_flag 141 = .ok (.iconst 0, 1) := by decide +kernel
theorem dX4_flag_142 : decode cX4_flag 142 = .ok (.ireturn, 1) := by decide +kernel
theorem dX4_filled_0 : decode cX4_filled 0 = .ok (.iload_n 1, 1) := by decide +kernel
theorem dX4_filled_1 : decode cX4_filled 1 = .ok (.aload_n 0, 1) := by decide +kernel
theorem dX4_filled_2 : decode cX4_filled 2 = .ok (.getfield 40, 3) := by decide +kernel
theorem dX4_filled_5 : decode cX4_filled 5 = .ok (.if_icmp .lt 6, 3) := by decide +kernel
theorem dX4_filled_8 : decode cX4_filled 8 = .ok (.bipush (-3), 2) := by decide +kernel
theorem dX4_filled_10 : decode cX4_filled 10 = .ok (.ireturn, 1) := by decide +kernel
theorem dX4_filled_11 : decode cX4_filled 11 = .ok (.aload_n 0, 1) := by decide +kernel
theorem dX4_filled_12 : decode cX4_filled 12 = .ok (.getfield 101, 3) := by decide +kernel
theorem dX4_filled_15 : decode cX4_filled 15 = .ok (.bipush 115, 2) := by decide +kernel
theorem dX4_filled_17 : decode cX4_filled 17 = .ok (.if_icmp .ne 32, 3) := by decide +kernel
theorem dX4_filled_20 : decode cX4_filled 20 = .ok (.aload_n 0, 1) := by decide +kernel
theorem dX4_filled_21 : decode cX4_filled 21 = .ok (.aload_n 0, 1) := by decide +kernel
theorem dX4_filled_22 : decode cX4_filled 22 = .ok (.getfield 16, 3) := by decide +kernel
theorem dX4_filled_25 : decode cX4_filled 25 = .ok (.bipush 40, 2) := by decide +kernel
theorem dX4_filled_27 : decode cX4_filled 27 = .ok (.iload_n 1, 1) := by decide +kernel
theorem dX4_filled_28 : decode cX4_filled 28 = .ok (.imul, 1) := by decide +kernel
theorem dX4_filled_29 : decode cX4_filled 29 = .ok (.aload_n 0, 1) := by decide +kernel
theorem dX4_filled_30 : decode cX4_filled 30 = .ok (.getfield 22, 3) := by decide +kernel
theorem dX4_filled_33 : decode cX4_filled 33 = .ok (.iload_n 1, 1) := by decide +kernel
theorem dX4_filled_34 : decode cX4_filled 34 = .ok (.iaload, 1) := by decide +kernel
theorem dX4_filled_35 : decode cX4_filled 35 = .ok (.iconst 0, 1) := by decide +kernel
theorem dX4_filled_36 : decode cX4_filled 36 = .ok (.invokevirtual 115, 3) := by decide +kernel
theorem dX4_filled_39 : decode cX4_filled 39 = .ok (.ifCond .eq 7, 3) := by decide +kernel
theorem dX4_filled_42 : decode cX4_filled 42 = .ok (.iconst 0, 1) := by decide +kernel
theorem dX4_filled_43 : decode cX4_filled 43 = .ok (.goto 5, 3) := by decide +kernel
theorem dX4_filled_46 : decode cX4_filled 46 = .ok (.bipush (-5), 2) := by decide +kernel
theorem dX4_filled_48 : decode cX4_filled 48 = .ok (.ireturn, 1) := by decide +kernel
theorem dX4_filled_49 : decode cX4_filled 49 = .ok (.aload_n 0, 1) := by decide +kernel
theorem dX4_filled_50 : decode cX4_filled 50 = .ok (.iload_n 1, 1) := by decide +kernel
theorem dX4_filled_51 : decode cX4_filled 51 = .ok (.invokevirtual 119, 3) := by decide +kernel
theorem dX4_filled_54 : decode cX4_filled 54 = .ok (.ifCond .ne 6, 3) := by decide +kernel
theorem dX4_filled_57 : decode cX4_filled 57 = .ok (.bipush (-4), 2) := by decide +kernel
theorem dX4_filled_59 : decode cX4_filled 59 = .ok (.ireturn, 1) := by decide +kernel
theorem dX4_filled_60 : decode cX4_filled 60 = .ok (.iconst 0, 1) := by decide +kernel
theorem dX4_filled_61 : decode cX4_filled 61 = .ok (.istore_n 2, 1) := by decide +kernel
theorem dX4_filled_62 : decode cX4_filled 62 = .ok (.aload_n 0, 1) := by decide +kernel
theorem dX4_filled_63 : decode cX4_filled 63 = .ok (.getfield 101, 3) := by decide +kernel
theorem dX4_filled_66 : decode cX4_filled 66 = .ok (.bipush 100, 2) := by decide +kernel
theorem dX4_filled_68 : decode cX4_filled 68 = .ok (.if_icmp .ne 54, 3) := by decide +kernel
theorem dX4_filled_71 : decode cX4_filled 71 = .ok (.aload_n 0, 1) := by decide +kernel
theorem dX4_filled_72 : decode cX4_filled 72 = .ok (.aload_n 0, 1) := by decide +kernel
theorem dX4_filled_73 : decode cX4_filled 73 = .ok (.getfield 62, 3) := by decide +kernel
theorem dX4_filled_76 : decode cX4_filled 76 = .ok (.invokevirtual 50, 3) := by decide +kernel
theorem dX4_filled_79 : decode cX4_filled 79 = .ok (.aload_n 0, 1) := by decide +kernel
theorem dX4_filled_80 : decode cX4_filled 80 = .ok (.getfield 62, 3) := by decide +kernel
theorem dX4_filled_83 : decode cX4_filled 83 = .ok (.lconst 0, 1) := by decide +kernel
theorem dX4_filled_84 : decode cX4_filled 84 = .ok (.lcmp, 1) := by decide +kernel
theorem dX4_filled_85 : decode cX4_filled 85 = .ok (.ifCond .ge 8, 3) := by decide +kernel
theorem dX4_filled_88 : decode cX4_filled 88 = .ok (.bipush 45, 2) := by decide +kernel
theorem dX4_filled_90 : decode cX4_filled 90 = .ok (.goto 28, 3) := by decide +kernel
theorem dX4_filled_93 : decode cX4_filled 93 = .ok (.aload_n 0, 1) := by decide +kernel
theorem dX4_filled_94 : decode cX4_filled 94 = .ok (.getfield 87, 3) := by decide +kernel
theorem dX4_filled_97 : decode cX4_filled 97 = .ok (.ifCond .eq 8, 3) := by decide +kernel
theorem dX4_filled_100 : decode cX4_filled 100 = .ok (.bipush 43, 2) := by decide +kernel
theorem dX4_filled_102 : decode cX4_filled 102 = .ok (.goto 16, 3) := by decide +kernel
theorem dX4_filled_105 : decode cX4_filled 105 = .ok (.aload_n 0, 1) := by decide +kernel
theorem dX4_filled_106 : decode cX4_filled 106 = .ok (.getfield 90, 3) := by decide +kernel
theorem dX4_filled_109 : decode cX4_filled 109 = .ok (.ifCond .eq 8, 3) := by decide +kernel
theorem dX4_filled_112 : decode cX4_filled 112 = .ok (.bipush 32, 2) := by decide +kernel
theorem dX4_filled_114 : decode cX4_filled 114 = .ok (.goto 4, 3) := by decide +kernel
theorem dX4_filled_117 : decode cX4_filled 117 = .ok (.iconst 0, 1) := by decide +kernel
theorem dX4_filled_118 : decode cX4_filled 118 = .ok (.istore_n 2, 1) := by decide +kernel
theorem dX4_filled_119 : decode cX4_filled 119 = .ok (.goto 68, 3) := by decide +kernel
theorem dX4_filled_122 : decode cX4_filled 122 = .ok (.aload_n 0, 1) := by decide +kernel
theorem dX4_filled_123 : decode cX4_filled 123 = .ok (.getfield 101, 3) := by decide +kernel
theorem dX4_filled_126 : decode cX4_filled 126 = .ok (.bipush 99, 2) := by decide +kernel
theorem dX4_filled_128 : decode cX4_filled 128 = .ok (.if_icmp .ne 21, 3) := by decide +kernel
theorem dX4_filled_131 : decode cX4_filled 131 = .ok (.aload_n 0, 1) := by decide +kernel
theorem dX4_filled_132 : decode cX4_filled 132 = .ok (.bipush 72, 2) := by decide +kernel
theorem dX4_filled_134 : decode cX4_filled 134 = .ok (.putfield 47, 3) := by decide +kernel
theorem dX4_filled_137 : decode cX4_filled 137 = .ok (.aload_n 0, 1) := by decide +kernel
theorem dX4_filled_138 : decode cX4_filled 138 = .ok (.aload_n 0, 1) := by decide +kernel
theorem dX4_filled_139 : decode cX4_filled 139 = .ok (.getfield 62, 3) := by decide +kernel
theorem dX4_filled_142 : decode cX4_filled 142 = .ok (.l2i, 1) := by decide +kernel
theorem dX4_filled_143 : decode cX4_filled 143 = .ok (.invokevirtual 53, 3) := by decide +kernel
theorem dX4_filled_146 : decode cX4_filled 146 = .ok (.goto 41, 3) := by decide +kernel
theorem dX4_filled_149 : decode cX4_filled 149 = .ok (.aload_n 0, 1) := by decide +kernel
theorem dX4_filled_150 : decode cX4_filled 150 = .ok (.aload_n 0, 1) := by decide +kernel
theorem dX4_filled_151 : decode cX4_filled 151 = .ok (.getfield 62, 3) := by decide +kernel
theorem dX4_filled_154 : decode cX4_filled 154 = .ok (.aload_n 0, 1) := by decide +kernel
theorem dX4_filled_155 : decode cX4_filled 155 = .ok (.getfield 101, 3) := by decide +kernel
theorem dX4_filled_158 : decode cX4_filled 158 = .ok (.bipush 111, 2) := by decide +kernel
theorem dX4_filled_160 : decode cX4_filled 160 = .ok (.if_icmp .ne 7, 3) := by decide +kernel
theorem dX4_filled_163 : decode cX4_filled 163 = .ok (.iconst 3, 1) := by decide +kernel
theorem dX4_filled_164 : decode cX4_filled 164 = .ok (.goto 4, 3) := by decide +kernel
theorem dX4_filled_167 : decode cX4_filled 167 = .ok (.iconst 4, 1) := by decide +kernel
theorem dX4_filled_168 : decode cX4_filled 168 = .ok (.aload_n 0, 1) := by decide +kernel
theorem dX4_filled_169 : decode cX4_filled 169 = .ok (.getfield 101, 3) := by decide +kernel
theorem dX4_filled_172 : decode cX4_filled 172 = .ok (.bipush 88, 2) := by decide +kernel
theorem dX4_filled_174 : decode cX4_filled 174 = .ok (.if_icmp .ne 8, 3) := by decide +kernel
theorem dX4_filled_177 : decode cX4_filled 177 = .ok (.bipush 65, 2) := by decide +kernel
theorem dX4_filled_179 : decode cX4_filled 179 = .ok (.goto 5, 3) := by decide +kernel
theorem dX4_filled_182 : decode cX4_filled 182 = .ok (.bipush 97, 2) := by decide +kernel
theorem dX4_filled_184 : decode cX4_filled 184 = .ok (.invokevirtual 122, 3) := by decide +kernel
theorem dX4_filled_187 : decode cX4_filled 187 = .ok (.aload_n 0, 1) := by decide +kernel
theorem dX4_filled_188 : decode cX4_filled 188 = .ok (.aload_n 0, 1) := by decide +kernel
theorem dX4_filled_189 : decode cX4_filled 189 = .ok (.getfield 26, 3) := by decide +kernel
theorem dX4_filled_192 : decode cX4_filled 192 = .ok (.aload_n 0, 1) := by decide +kernel
theorem dX4_filled_193 : decode cX4_filled 193 = .ok (.getfield 47, 3) := by decide +kernel
theorem dX4_filled_196 : decode cX4_filled 196 = .ok (.bipush 72, 2) := by decide +kernel
theorem dX4_filled_198 : decode cX4_filled 198 = .ok (.aload_n 0, 1) := by decide +kernel
theorem dX4_filled_199 : decode cX4_filled 199 = .ok (.getfield 47, 3) := by decide +kernel
theorem dX4_filled_202 : decode cX4_filled 202 = .ok (.isub, 1) := by decide +kernel
theorem dX4_filled_203 : decode cX4_filled 203 = .ok (.iload_n 2, 1) := by decide +kernel
theorem dX4_filled_204 : decode cX4_filled 204 = .ok (.invokevirtual 115, 3) := by decide +kernel
theorem dX4_filled_207 : decode cX4_filled 207 = .ok (.ifCond .eq 7, 3) := by decide +kernel
theorem dX4_filled_210 : decode cX4_filled 210 = .ok (.iconst 0, 1) := by decide +kernel
theorem dX4_filled_211 : decode cX4_filled 211 = .ok (.goto 5, 3) := by decide +kernel
theorem dX4_filled_214 : decode cX4_filled 214 = .ok (.bipush (-5), 2) := by decide +kernel
theorem dX4_filled_216 : decode cX4_filled 216 = .ok (.ireturn, 1) := by decide +kernel
theorem dX4_fill_0 : decode cX4_fill 0 = .ok (.iload 4, 2) := by decide +kernel
theorem dX4_fill_2 : decode cX4_fill 2 = .ok (.ifCond .ne 7, 3) := by decide +kernel
theorem dX4_fill_5 : decode cX4_fill 5 = .ok (.iload_n 3, 1) := by decide +kernel
theorem dX4_fill_6 : decode cX4_fill 6 = .ok (.goto 6, 3) := by decide +kernel
theorem dX4_fill_9 : decode cX4_fill 9 = .ok (.iload_n 3, 1) := by decide +kernel
theorem dX4_fill_10 : decode cX4_fill 10 = .ok (.iconst 1, 1) := by decide +kernel
theorem dX4_fill_11 : decode cX4_fill 11 = .ok (.iadd, 1) := by decide +kernel
theorem dX4_fill_12 : decode cX4_fill 12 = .ok (.istore 5, 2) := by decide +kernel
theorem dX4_fill_14 : decode cX4_fill 14 = .ok (.aload_n 0, 1) := by decide +kernel
theorem dX4_fill_15 : decode cX4_fill 15 = .ok (.getfield 93, 3) := by decide +kernel
theorem dX4_fill_18 : decode cX4_fill 18 = .ok (.iload 5, 2) := by decide +kernel
theorem dX4_fill_20 : decode cX4_fill 20 = .ok (.if_icmp .le 13, 3) := by decide +kernel
theorem dX4_fill_23 : decode cX4_fill 23 = .ok (.aload_n 0, 1) := by decide +kernel
theorem dX4_fill_24 : decode cX4_fill 24 = .ok (.getfield 93, 3) := by decide +kernel
theorem dX4_fill_27 : decode cX4_fill 27 = .ok (.iload 5, 2) := by decide +kernel
theorem dX4_fill_29 : decode cX4_fill 29 = .ok (.isub, 1) := by decide +kernel
theorem dX4_fill_30 : decode cX4_fill 30 = .ok (.goto 4, 3) := by decide +kernel
theorem dX4_fill_33 : decode cX4_fill 33 = .ok (.iconst 0, 1) := by decide +kernel
theorem dX4_fill_34 : decode cX4_fill 34 = .ok (.istore 6, 2) := by decide +kernel
theorem dX4_fill_36 : decode cX4_fill 36 = .ok (.aload_n 0, 1) := by decide +kernel
theorem dX4_fill_37 : decode cX4_fill 37 = .ok (.getfield 84, 3) := by decide +kernel
theorem dX4_fill_40 : decode cX4_fill 40 = .ok (.ifCond .eq 32, 3) := by decide +kernel
theorem dX4_fill_43 : decode cX4_fill 43 = .ok (.aload_n 0, 1) := by decide +kernel
theorem dX4_fill_44 : decode cX4_fill 44 = .ok (.getfield 80, 3) := by decide +kernel
theorem dX4_fill_47 : decode cX4_fill 47 = .ok (.ifCond .ne 25, 3) := by decide +kernel
theorem dX4_fill_50 : decode cX4_fill 50 = .ok (.aload_n 0, 1) := by decide +kernel
theorem dX4_fill_51 : decode cX4_fill 51 = .ok (.getfield 101, 3) := by decide +kernel
theorem dX4_fill_54 : decode cX4_fill 54 = .ok (.bipush 99, 2) := by decide +kernel
theorem dX4_fill_56 : decode cX4_fill 56 = .ok (.if_icmp .eq 16, 3) := by decide +kernel
theorem dX4_fill_59 : decode cX4_fill 59 = .ok (.aload_n 0, 1) := by decide +kernel
theorem dX4_fill_60 : decode cX4_fill 60 = .ok (.getfield 101, 3) := by decide +kernel
theorem dX4_fill_63 : decode cX4_fill 63 = .ok (.bipush 115, 2) := by decide +kernel
theorem dX4_fill_65 : decode cX4_fill 65 = .ok (.if_icmp .eq 7, 3) := by decide +kernel
theorem dX4_fill_68 : decode cX4_fill 68 = .ok (.iconst 1, 1) := by decide +kernel
theorem dX4_fill_69 : decode cX4_fill 69 = .ok (.goto 4, 3) := by decide +kernel
theorem dX4_fill_72 : decode cX4_fill 72 = .ok (.iconst 0, 1) := by decide +kernel
theorem dX4_fill_73 : decode cX4_fill 73 = .ok (.istore 7, 2) := by decide +kernel
theorem dX4_fill_75 : decode cX4_fill 75 = .ok (.aload_n 0, 1) := by decide +kernel
theorem dX4_fill_76 : decode cX4_fill 76 = .ok (.getfield 80, 3) := by decide +kernel
theorem dX4_fill_79 : decode cX4_fill 79 = .ok (.ifCond .ne 19, 3) := by decide +kernel
theorem dX4_fill_82 : decode cX4_fill 82 = .ok (.iload 7, 2) := by decide +kernel
theorem dX4_fill_84 : decode cX4_fill 84 = .ok (.ifCond .ne 14, 3) := by decide +kernel
theorem dX4_fill_87 : decode cX4_fill 87 = .ok (.aload_n 0, 1) := by decide +kernel
theorem dX4_fill_88 : decode cX4_fill 88 = .ok (.bipush 32, 2) := by decide +kernel
theorem dX4_fill_90 : decode cX4_fill 90 = .ok (.iload 6, 2) := by decide +kernel
theorem dX4_fill_92 : decode cX4_fill 92 = .ok (.invokevirtual 111, 3) := by decide +kernel
theorem dX4_fill_95 : decode cX4_fill 95 = .ok (.ifCond .eq 7, 3) := by decide +kernel
theorem dX4_fill_98 : decode cX4_fill 98 = .ok (.iconst 1, 1) := by decide +kernel
theorem dX4_fill_99 : decode cX4_fill 99 = .ok (.goto 4, 3) := by decide +kernel
theorem dX4_fill_102 : decode cX4_fill 102 = .ok (.iconst 0, 1) := by decide +kernel
theorem dX4_fill_103 : decode cX4_fill 103 = .ok (.istore 8, 2) := by decide +kernel
theorem dX4_fill_105 : decode cX4_fill 105 = .ok (.iload 8, 2) := by decide +kernel
theorem dX4_fill_107 : decode cX4_fill 107 = .ok (.ifCond .eq 37, 3) := by decide +kernel
theorem dX4_fill_110 : decode cX4_fill 110 = .ok (.iload 4, 2) := by decide +kernel
theorem dX4_fill_112 : decode cX4_fill 112 = .ok (.ifCond .eq 12, 3) := by decide +kernel
theorem dX4_fill_115 : decode cX4_fill 115 = .ok (.aload_n 0, 1) := by decide +kernel
theorem dX4_fill_116 : decode cX4_fill 116 = .ok (.iload 4, 2) := by decide +kernel
theorem dX4_fill_118 : decode cX4_fill 118 = .ok (.invokevirtual 107, 3) := by decide +kernel
theorem dX4_fill_121 : decode cX4_fill 121 = .ok (.ifCond .eq 23, 3) := by decide +kernel
theorem dX4_fill_124 : decode cX4_fill 124 = .ok (.iload 7, 2) := by decide +kernel
theorem dX4_fill_126 : decode cX4_fill 126 = .ok (.ifCond .eq 14, 3) := by decide +kernel
theorem dX4_fill_129 : decode cX4_fill 129 = .ok (.aload_n 0, 1) := by decide +kernel
theorem dX4_fill_130 : decode cX4_fill 130 = .ok (.bipush 48, 2) := by decide +kernel
theorem dX4_fill_132 : decode cX4_fill 132 = .ok (.iload 6, 2) := by decide +kernel
theorem dX4_fill_134 : decode cX4_fill 134 = .ok (.invokevirtual 111, 3) := by decide +kernel
theorem dX4_fill_137 : decode cX4_fill 137 = .ok (.ifCond .eq 7, 3) := by decide +kernel
theorem dX4_fill_140 : decode cX4_fill 140 = .ok (.iconst 1, 1) := by decide +kernel
theorem dX4_fill_141 : decode cX4_fill 141 = .ok (.goto 4, 3) := by decide +kernel
theorem dX4_fill_144 : decode cX4_fill 144 = .ok (.iconst 0, 1) := by decide +kernel
theorem dX4_fill_145 : decode cX4_fill 145 = .ok (.istore 8, 2) := by decide +kernel
theorem dX4_fill_147 : decode cX4_fill 147 = .ok (.iconst 0, 1) := by decide +kernel
theorem dX4_fill_148 : decode cX4_fill 148 = .ok (.istore 9, 2) := by decide +kernel
theorem dX4_fill_150 : decode cX4_fill 150 = .ok (.iload 9, 2) := by decide +kernel
theorem dX4_fill_152 : decode cX4_fill 152 = .ok (.iload_n 3, 1) := by decide +kernel
theorem dX4_fill_153 : decode cX4_fill 153 = .ok (.if_icmp .ge 26, 3) := by decide +kernel
theorem dX4_fill_156 : decode cX4_fill 156 = .ok (.iload 8, 2) := by decide +kernel
theorem dX4_fill_158 : decode cX4_fill 158 = .ok (.ifCond .eq 21, 3) := by decide +kernel
theorem dX4_fill_161 : decode cX4_fill 161 = .ok (.aload_n 0, 1) := by decide +kernel
theorem dX4_fill_162 : decode cX4_fill 162 = .ok (.aload_n 1, 1) := by decide +kernel
theorem dX4_fill_163 : decode cX4_fill 163 = .ok (.iload_n 2, 1) := by decide +kernel
theorem dX4_fill_164 : decode cX4_fill 164 = .ok (.iload 9, 2) := by decide +kernel
theorem dX4_fill_166 : decode cX4_fill 166 = .ok (.iadd, 1) := by decide +kernel
theorem dX4_fill_167 : decode cX4_fill 167 = .ok (.baload, 1) := by decide +kernel
theorem dX4_fill_168 : decode cX4_fill 168 = .ok (.invokevirtual 107, 3) := by decide +kernel
theorem dX4_fill_171 : decode cX4_fill 171 = .ok (.istore 8, 2) := by decide +kernel
theorem dX4_fill_173 : decode cX4_fill 173 = .ok (.iinc 9 1, 3) := by decide +kernel
theorem dX4_fill_176 : decode cX4_fill 176 = .ok (.goto (-26), 3) := by decide +kernel
theorem dX4_fill_179 : decode cX4_fill 179 = .ok (.iload 8, 2) := by decide +kernel
theorem dX4_fill_181 : decode cX4_fill 181 = .ok (.ifCond .eq 25, 3) := by decide +kernel
theorem dX4_fill_184 : decode cX4_fill 184 = .ok (.aload_n 0, 1) := by decide +kernel
theorem dX4_fill_185 : decode cX4_fill 185 = .ok (.getfield 80, 3) := by decide +kernel
theorem dX4_fill_188 : decode cX4_fill 188 = .ok (.ifCond .eq 14, 3) := by decide +kernel
theorem dX4_fill_191 : decode cX4_fill 191 = .ok (.aload_n 0, 1) := by decide +kernel
theorem dX4_fill_192 : decode cX4_fill 192 = .ok (.bipush 32, 2) := by decide +kernel
theorem dX4_fill_194 : decode cX4_fill 194 = .ok (.iload 6, 2) := by decide +kernel
theorem dX4_fill_196 : decode cX4_fill 196 = .ok (.invokevirtual 111, 3) := by decide +kernel
theorem dX4_fill_199 : decode cX4_fill 199 = .ok (.ifCond .eq 7, 3) := by decide +kernel
theorem dX4_fill_202 : decode cX4_fill 202 = .ok (.iconst 1, 1) := by decide +kernel
theorem dX4_fill_203 : decode cX4_fill 203 = .ok (.goto 4, 3) := by decide +kernel
theorem dX4_fill_206 : decode cX4_fill 206 = .ok (.iconst 0, 1) := by decide +kernel
theorem dX4_fill_207 : decode cX4_fill 207 = .ok (.ireturn, 1) := by decide +kernel
theorem dX4_puts_0 : decode cX4_puts 0 = .ok (.aload_n 0, 1) := by decide +kernel
theorem dX4_puts_1 : decode cX4_puts 1 = .ok (.getfield 104, 3) := by decide +kernel
theorem dX4_puts_4 : decode cX4_puts 4 = .ok (.iload_n 2, 1) := by decide +kernel
theorem dX4_puts_5 : decode cX4_puts 5 = .ok (.iadd, 1) := by decide +kernel
theorem dX4_puts_6 : decode cX4_puts 6 = .ok (.sipush 1024, 3) := by decide +kernel
theorem dX4_puts_9 : decode cX4_puts 9 = .ok (.if_icmp .gt 7, 3) := by decide +kernel
theorem dX4_puts_12 : decode cX4_puts 12 = .ok (.iconst 1, 1) := by decide +kernel
theorem dX4_puts_13 : decode cX4_puts 13 = .ok (.goto 4, 3) := by decide +kernel
theorem dX4_puts_16 : decode cX4_puts 16 = .ok (.iconst 0, 1) := by decide +kernel
theorem dX4_puts_17 : decode cX4_puts 17 = .ok (.istore_n 3, 1) := by decide +kernel
theorem dX4_puts_18 : decode cX4_puts 18 = .ok (.iconst 0, 1) := by decide +kernel
theorem dX4_puts_19 : decode cX4_puts 19 = .ok (.istore 4, 2) := by decide +kernel
theorem dX4_puts_21 : decode cX4_puts 21 = .ok (.iload 4, 2) := by decide +kernel
theorem dX4_puts_23 : decode cX4_puts 23 = .ok (.iload_n 2, 1) := by decide +kernel
theorem dX4_puts_24 : decode cX4_puts 24 = .ok (.if_icmp .ge 19, 3) := by decide +kernel
theorem dX4_puts_27 : decode cX4_puts 27 = .ok (.iload_n 3, 1) := by decide +kernel
theorem dX4_puts_28 : decode cX4_puts 28 = .ok (.ifCond .eq 15, 3) := by decide +kernel
theorem dX4_puts_31 : decode cX4_puts 31 = .ok (.aload_n 0, 1) := by decide +kernel
theorem dX4_puts_32 : decode cX4_puts 32 = .ok (.iload_n 1, 1) := by decide +kernel
theorem dX4_puts_33 : decode cX4_puts 33 = .ok (.invokevirtual 107, 3) := by decide +kernel
theorem dX4_puts_36 : decode cX4_puts 36 = .ok (.istore_n 3, 1) := by decide +kernel
theorem dX4_puts_37 : decode cX4_puts 37 = .ok (.iinc 4 1, 3) := by decide +kernel
theorem dX4_puts_40 : decode cX4_puts 40 = .ok (.goto (-19), 3) := by decide +kernel
theorem dX4_puts_43 : decode cX4_puts 43 = .ok (.iload_n 3, 1) := by decide +kernel
theorem dX4_puts_44 : decode cX4_puts 44 = .ok (.ireturn, 1) := by decide +kernel
theorem dX4_isInteger_0 : decode cX4_isInteger 0 = .ok (.bipush 40, 2) := by decide +kernel
theorem dX4_isInteger_2 : decode cX4_isInteger 2 = .ok (.iload_n 1, 1) := by decide +kernel
theorem dX4_isInteger_3 : decode cX4_isInteger 3 = .ok (.imul, 1) := by decide +kernel
theorem dX4_isInteger_4 : decode cX4_isInteger 4 = .ok (.istore_n 2, 1) := by decide +kernel
theorem dX4_isInteger_5 : decode cX4_isInteger 5 = .ok (.iload_n 2, 1) := by decide +kernel
theorem dX4_isInteger_6 : decode cX4_isInteger 6 = .ok (.aload_n 0, 1) := by decide +kernel
theorem dX4_isInteger_7 : decode cX4_isInteger 7 = .ok (.getfield 22, 3) := by decide +kernel
theorem dX4_isInteger_10 : decode cX4_isInteger 10 = .ok (.iload_n 1, 1) := by decide +kernel
theorem dX4_isInteger_11 : decode cX4_isInteger 11 = .ok (.iaload, 1) := by decide +kernel
theorem dX4_isInteger_12 : decode cX4_isInteger 12 = .ok (.iadd, 1) := by decide +kernel
theorem dX4_isInteger_13 : decode cX4_isInteger 13 = .ok (.istore_n 3, 1) := by decide +kernel
theorem dX4_isInteger_14 : decode cX4_isInteger 14 = .ok (.iload_n 2, 1) := by decide +kernel
theorem dX4_isInteger_15 : decode cX4_isInteger 15 = .ok (.iload_n 3, 1) := by decide +kernel
theorem dX4_isInteger_16 : decode cX4_isInteger 16 = .ok (.if_icmp .ge 18, 3) := by decide +kernel
theorem dX4_isInteger_19 : decode cX4_isInteger 19 = .ok (.aload_n 0, 1) := by decide +kernel
theorem dX4_isInteger_20 : decode cX4_isInteger 20 = .ok (.getfield 16, 3) := by decide +kernel
theorem dX4_isInteger_23 : decode cX4_isInteger 23 = .ok (.iload_n 2, 1) := by decide +kernel
theorem dX4_isInteger_24 : decode cX4_isInteger 24 = .ok (.baload, 1) := by decide +kernel
theorem dX4_isInteger_25 : decode cX4_isInteger 25 = .ok (.bipush 45, 2) := by decide +kernel
theorem dX4_isInteger_27 : decode cX4_isInteger 27 = .ok (.if_icmp .ne 7, 3) := by decide +kernel
theorem dX4_isInteger_30 : decode cX4_isInteger 30 = .ok (.iconst 1, 1) := by decide +kernel
theorem dX4_isInteger_31 : decode cX4_isInteger 31 = .ok (.goto 4, 3) := by decide +kernel
theorem dX4_isInteger_34 : decode cX4_isInteger 34 = .ok (.iconst 0, 1) := by decide +kernel
theorem dX4_isInteger_35 : decode cX4_isInteger 35 = .ok (.istore 4, 2) := by decide +kernel
theorem dX4_isInteger_37 : decode cX4_isInteger 37 = .ok (.iload_n 2, 1) := by decide +kernel
theorem dX4_isInteger_38 : decode cX4_isInteger 38 = .ok (.iload_n 3, 1) := by decide +kernel
theorem dX4_isInteger_39 : decode cX4_isInteger 39 = .ok (.if_icmp .ge 25, 3) := by decide +kernel
theorem dX4_isInteger_42 : decode cX4_isInteger 42 = .ok (.iload 4, 2) := by decide +kernel
theorem dX4_isInteger_44 : decode cX4_isInteger 44 = .ok (.ifCond .ne 14, 3) := by decide +kernel
theorem dX4_isInteger_47 : decode cX4_isInteger 47 = .ok (.aload_n 0, 1) := by decide +kernel
theorem dX4_isInteger_48 : decode cX4_isInteger 48 = .ok (.getfield 16, 3) := by decide +kernel
theorem dX4_isInteger_51 : decode cX4_isInteger 51 = .ok (.iload_n 2, 1) := by decide +kernel
theorem dX4_isInteger_52 : decode cX4_isInteger 52 = .ok (.baload, 1) := by decide +kernel
theorem dX4_isInteger_53 : decode cX4_isInteger 53 = .ok (.bipush 43, 2) := by decide +kernel
theorem dX4_isInteger_55 : decode cX4_isInteger 55 = .ok (.if_icmp .ne 9, 3) := by decide +kernel
theorem dX4_isInteger_58 : decode cX4_isInteger 58 = .ok (.iload_n 2, 1) := by decide +kernel
theorem dX4_isInteger_59 : decode cX4_isInteger 59 = .ok (.iconst 1, 1) := by decide +kernel
theorem dX4_isInteger_60 : decode cX4_isInteger 60 = .ok (.iadd, 1) := by decide +kernel
theorem dX4_isInteger_61 : decode cX4_isInteger 61 = .ok (.goto 4, 3) := by decide +kernel
theorem dX4_isInteger_64 : decode cX4_isInteger 64 = .ok (.iload_n 2, 1) := by decide +kernel
theorem dX4_isInteger_65 : decode cX4_isInteger 65 = .ok (.istore 5, 2) := by decide +kernel
theorem dX4_isInteger_67 : decode cX4_isInteger 67 = .ok (.iload 5, 2) := by decide +kernel
theorem dX4_isInteger_69 : decode cX4_isInteger 69 = .ok (.iconst 1, 1) := by decide +kernel
theorem dX4_isInteger_70 : decode cX4_isInteger 70 = .ok (.iadd, 1) := by decide +kernel
theorem dX4_isInteger_71 : decode cX4_isInteger 71 = .ok (.iload_n 3, 1) := by decide +kernel
theorem dX4_isInteger_72 : decode cX4_isInteger 72 = .ok (.if_icmp .ge 33, 3) := by decide +kernel
theorem dX4_isInteger_75 : decode cX4_isInteger 75 = .ok (.aload_n 0, 1) := by decide +kernel
theorem dX4_isInteger_76 : decode cX4_isInteger 76 = .ok (.getfield 16, 3) := by decide +kernel
theorem dX4_isInteger_79 : decode cX4_isInteger 79 = .ok (.iload 5, 2) := by decide +kernel
theorem dX4_isInteger_81 : decode cX4_isInteger 81 = .ok (.baload, 1) := by decide +kernel
theorem dX4_isInteger_82 : decode cX4_isInteger 82 = .ok (.bipush 48, 2) := by decide +kernel
theorem dX4_isInteger_84 : decode cX4_isInteger 84 = .ok (.if_icmp .ne 21, 3) := by decide +kernel
theorem dX4_isInteger_87 : decode cX4_isInteger 87 = .ok (.aload_n 0, 1) := by decide +kernel
theorem dX4_isInteger_88 : decode cX4_isInteger 88 = .ok (.getfield 16, 3) := by decide +kernel
theorem dX4_isInteger_91 : decode cX4_isInteger 91 = .ok (.iload 5, 2) := by decide +kernel
theorem dX4_isInteger_93 : decode cX4_isInteger 93 = .ok (.iconst 1, 1) := by decide +kernel
theorem dX4_isInteger_94 : decode cX4_isInteger 94 = .ok (.iadd, 1) := by decide +kernel
theorem dX4_isInteger_95 : decode cX4_isInteger 95 = .ok (.baload, 1) := by decide +kernel
theorem dX4_isInteger_96 : decode cX4_isInteger 96 = .ok (.bipush 120, 2) := by decide +kernel
theorem dX4_isInteger_98 : decode cX4_isInteger 98 = .ok (.if_icmp .ne 7, 3) := by decide +kernel
theorem dX4_isInteger_101 : decode cX4_isInteger 101 = .ok (.iconst 1, 1) := by decide +kernel
theorem dX4_isInteger_102 : decode cX4_isInteger 102 = .ok (.goto 4, 3) := by decide +kernel
theorem dX4_isInteger_105 : decode cX4_isInteger 105 = .ok (.iconst 0, 1) := by decide +kernel
theorem dX4_isInteger_106 : decode cX4_isInteger 106 = .ok (.istore 6, 2) := by decide +kernel
theorem dX4_isInteger_108 : decode cX4_isInteger 108 = .ok (.iload 6, 2) := by decide +kernel
theorem dX4_isInteger_110 : decode cX4_isInteger 110 = .ok (.ifCond .eq 17, 3) := by decide +kernel
theorem dX4_isInteger_113 : decode cX4_isInteger 113 = .ok (.aload_n 0, 1) := by decide +kernel
theorem dX4_isInteger_114 : decode cX4_isInteger 114 = .ok (.iload 5, 2) := by decide +kernel
theorem dX4_isInteger_116 : decode cX4_isInteger 116 = .ok (.iconst 2, 1) := by decide +kernel
theorem dX4_isInteger_117 : decode cX4_isInteger 117 = .ok (.iadd, 1) := by decide +kernel
theorem dX4_isInteger_118 : decode cX4_isInteger 118 = .ok (.iload_n 3, 1) := by decide +kernel
theorem dX4_isInteger_119 : decode cX4_isInteger 119 = .ok (.iload 4, 2) := by decide +kernel
theorem dX4_isInteger_121 : decode cX4_isInteger 121 = .ok (.invokevirtual 70, 3) := by decide +kernel
theorem dX4_isInteger_124 : decode cX4_isInteger 124 = .ok (.goto 12, 3) := by decide +kernel
theorem dX4_isInteger_127 : decode cX4_isInteger 127 = .ok (.aload_n 0, 1) := by decide +kernel
theorem dX4_isInteger_128 : decode cX4_isInteger 128 = .ok (.iload 5, 2) := by decide +kernel
theorem dX4_isInteger_130 : decode cX4_isInteger 130 = .ok (.iload_n 3, 1) := by decide +kernel
theorem dX4_isInteger_131 : decode cX4_isInteger 131 = .ok (.iload 4, 2) := by decide +kernel
theorem dX4_isInteger_133 : decode cX4_isInteger 133 = .ok (.invokevirtual 74, 3) := by decide +kernel
theorem dX4_isInteger_136 : decode cX4_isInteger 136 = .ok (.ireturn, 1) := by decide +kernel
theorem dX4_isHex_0 : decode cX4_isHex 0 = .ok (.lconst 0, 1) := by decide +kernel
theorem dX4_isHex_1 : decode cX4_isHex 1 = .ok (.lstore 4, 2) := by decide +kernel
theorem dX4_isHex_3 : decode cX4_isHex 3 = .ok (.iload_n 1, 1) := by decide +kernel
theorem dX4_isHex_4 : decode cX4_isHex 4 = .ok (.iload_n 2, 1) := by decide +kernel
theorem dX4_isHex_5 : decode cX4_isHex 5 = .ok (.if_icmp .ge 15, 3) := by decide +kernel
theorem dX4_isHex_8 : decode cX4_isHex 8 = .ok (.iload_n 2, 1) := by decide +kernel
theorem dX4_isHex_9 : decode cX4_isHex 9 = .ok (.iload_n 1, 1) := by decide +kernel
theorem dX4_isHex_10 : decode cX4_isHex 10 = .ok (.isub, 1) := by decide +kernel
theorem dX4_isHex_11 : decode cX4_isHex 11 = .ok (.bipush 16, 2) := by decide +kernel
theorem dX4_isHex_13 : decode cX4_isHex 13 = .ok (.if_icmp .gt 7, 3) := by decide +kernel
theorem dX4_isHex_16 : decode cX4_isHex 16 = .ok (.iconst 1, 1) := by decide +kernel
theorem dX4_isHex_17 : decode cX4_isHex 17 = .ok (.goto 4, 3) := by decide +kernel
theorem dX4_isHex_20 : decode cX4_isHex 20 = .ok (.iconst 0, 1) := by decide +kernel
theorem dX4_isHex_21 : decode cX4_isHex 21 = .ok (.istore 6, 2) := by decide +kernel
theorem dX4_isHex_23 : decode cX4_isHex 23 = .ok (.iload_n 1, 1) := by decide +kernel
theorem dX4_isHex_24 : decode cX4_isHex 24 = .ok (.istore 7, 2) := by decide +kernel
theorem dX4_isHex_26 : decode cX4_isHex 26 = .ok (.iload 7, 2) := by decide +kernel
theorem dX4_isHex_28 : decode cX4_isHex 28 = .ok (.iload_n 2, 1) := by decide +kernel
theorem dX4_isHex_29 : decode cX4_isHex 29 = .ok (.if_icmp .ge 49, 3) := by decide +kernel
theorem dX4_isHex_32 : decode cX4_isHex 32 = .ok (.iload 6, 2) := by decide +kernel
theorem dX4_isHex_34 : decode cX4_isHex 34 = .ok (.ifCond .eq 44, 3) := by decide +kernel
theorem dX4_isHex_37 : decode cX4_isHex 37 = .ok (.aload_n 0, 1) := by decide +kernel
theorem dX4_isHex_38 : decode cX4_isHex 38 = .ok (.getfield 16, 3) := by decide +kernel
theorem dX4_isHex_41 : decode cX4_isHex 41 = .ok (.iload 7, 2) := by decide +kernel
theorem dX4_isHex_43 : decode cX4_isHex 43 = .ok (.baload, 1) := by decide +kernel
theorem dX4_isHex_44 : decode cX4_isHex 44 = .ok (.invokestatic 58, 3) := by decide +kernel
theorem dX4_isHex_47 : decode cX4_isHex 47 = .ok (.istore 8, 2) := by decide +kernel
theorem dX4_isHex_49 : decode cX4_isHex 49 = .ok (.iload 8, 2) := by decide +kernel
theorem dX4_isHex_51 : decode cX4_isHex 51 = .ok (.iconst (-1), 1) := by decide +kernel
theorem dX4_isHex_52 : decode cX4_isHex 52 = .ok (.if_icmp .eq 7, 3) := by decide +kernel
theorem dX4_isHex_55 : decode cX4_isHex 55 = .ok (.iconst 1, 1) := by decide +kernel
theorem dX4_isHex_56 : decode cX4_isHex 56 = .ok (.goto 4, 3) := by decide +kernel
theorem dX4_isHex_59 : decode cX4_isHex 59 = .ok (.iconst 0, 1) := by decide +kernel
theorem dX4_isHex_60 : decode cX4_isHex 60 = .ok (.istore 6, 2) := by decide +kernel
theorem dX4_isHex_62 : decode cX4_isHex 62 = .ok (.lload 4, 2) := by decide +kernel
theorem dX4_isHex_64 : decode cX4_isHex 64 = .ok (.iconst 4, 1) := by decide +kernel
theorem dX4_isHex_65 : decode cX4_isHex 65 = .ok (.lshl, 1) := by decide +kernel
theorem dX4_isHex_66 : decode cX4_isHex 66 = .ok (.iload 8, 2) := by decide +kernel
theorem dX4_isHex_68 : decode cX4_isHex 68 = .ok (.i2l, 1) := by decide +kernel
theorem dX4_isHex_69 : decode cX4_isHex 69 = .ok (.lor, 1) := by decide +kernel
theorem dX4_isHex_70 : decode cX4_isHex 70 = .ok (.lstore 4, 2) := by decide +kernel
theorem dX4_isHex_72 : decode cX4_isHex 72 = .ok (.iinc 7 1, 3) := by decide +kernel
theorem dX4_isHex_75 : decode cX4_isHex 75 = .ok (.goto (-49), 3) := by decide +kernel
theorem dX4_isHex_78 : decode cX4_isHex 78 = .ok (.aload_n 0, 1) := by decide +kernel
theorem dX4_isHex_79 : decode cX4_isHex 79 = .ok (.iload_n 3, 1) := by decide +kernel
theorem dX4_isHex_80 : decode cX4_isHex 80 = .ok (.ifCond .eq 9, 3) := by decide +kernel
theorem dX4_isHex_83 : decode cX4_isHex 83 = .ok (.lload 4, 2) := by decide +kernel
theorem dX4_isHex_85 : decode cX4_isHex 85 = .ok (.lneg, 1) := by decide +kernel
theorem dX4_isHex_86 : decode cX4_isHex 86 = .ok (.goto 5, 3) := by decide +kernel
theorem dX4_isHex_89 : decode cX4_isHex 89 = .ok (.lload 4, 2) := by decide +kernel
theorem dX4_isHex_91 : decode cX4_isHex 91 = .ok (.putfield 62, 3) := by decide +kernel
theorem dX4_isHex_94 : decode cX4_isHex 94 = .ok (.iload 6, 2) := by decide +kernel
theorem dX4_isHex_96 : decode cX4_isHex 96 = .ok (.ireturn, 1) := by decide +kernel
theorem dX4_hex_0 : decode cX4_hex 0 = .ok (.iload_n 0, 1) := by decide +kernel
theorem dX4_hex_1 : decode cX4_hex 1 = .ok (.bipush 48, 2) := by decide +kernel
theorem dX4_hex_3 : decode cX4_hex 3 = .ok (.if_icmp .lt 14, 3) := by decide +kernel
theorem dX4_hex_6 : decode cX4_hex 6 = .ok (.iload_n 0, 1) := by decide +kernel
theorem dX4_hex_7 : decode cX4_hex 7 = .ok (.bipush 57, 2) := by decide +kernel
theorem dX4_hex_9 : decode cX4_hex 9 = .ok (.if_icmp .gt 8, 3) := by decide +kernel
theorem dX4_hex_12 : decode cX4_hex 12 = .ok (.iload_n 0, 1) := by decide +kernel
theorem dX4_hex_13 : decode cX4_hex 13 = .ok (.bipush 48, 2) := by decide +kernel
theorem dX4_hex_15 : decode cX4_hex 15 = .ok (.isub, 1) := by decide +kernel
theorem dX4_hex_16 : decode cX4_hex 16 = .ok (.ireturn, 1) := by decide +kernel
theorem dX4_hex_17 : decode cX4_hex 17 = .ok (.iload_n 0, 1) := by decide +kernel
theorem dX4_hex_18 : decode cX4_hex 18 = .ok (.bipush 97, 2) := by decide +kernel
theorem dX4_hex_20 : decode cX4_hex 20 = .ok (.if_icmp .lt 17, 3) := by decide +kernel
theorem dX4_hex_23 : decode cX4_hex 23 = .ok (.iload_n 0, 1) := by decide +kernel
theorem dX4_hex_24 : decode cX4_hex 24 = .ok (.bipush 102, 2) := by decide +kernel
theorem dX4_hex_26 : decode cX4_hex 26 = .ok (.if_icmp .gt 11, 3) := by decide +kernel
theorem dX4_hex_29 : decode cX4_hex 29 = .ok (.iload_n 0, 1) := by decide +kernel
theorem dX4_hex_30 : decode cX4_hex 30 = .ok (.bipush 97, 2) := by decide +kernel
theorem dX4_hex_32 : decode cX4_hex 32 = .ok (.isub, 1) := by decide +kernel
theorem dX4_hex_33 : decode cX4_hex 33 = .ok (.bipush 10, 2) := by decide +kernel
theorem dX4_hex_35 : decode cX4_hex 35 = .ok (.iadd, 1) := by decide +kernel
theorem dX4_hex_36 : decode cX4_hex 36 = .ok (.ireturn, 1) := by decide +kernel
theorem dX4_hex_37 : decode cX4_hex 37 = .ok (.iload_n 0, 1) := by decide +kernel
theorem dX4_hex_38 : decode cX4_hex 38 = .ok (.bipush 65, 2) := by decide +kernel
theorem dX4_hex_40 : decode cX4_hex 40 = .ok (.if_icmp .lt 19, 3) := by decide +kernel
theorem dX4_hex_43 : decode cX4_hex 43 = .ok (.iload_n 0, 1) := by decide +kernel
theorem dX4_hex_44 : decode cX4_hex 44 = .ok (.bipush 70, 2) := by decide +kernel
theorem dX4_hex_46 : decode cX4_hex 46 = .ok (.if_icmp .gt 13, 3) := by decide +kernel
theorem dX4_hex_49 : decode cX4_hex 49 = .ok (.iload_n 0, 1) := by decide +kernel
theorem dX4_hex_50 : decode cX4_hex 50 = .ok (.bipush 65, 2) := by decide +kernel
theorem dX4_hex_52 : decode cX4_hex 52 = .ok (.isub, 1) := by decide +kernel
theorem dX4_hex_53 : decode cX4_hex 53 = .ok (.bipush 10, 2) := by decide +kernel
theorem dX4_hex_55 : decode cX4_hex 55 = .ok (.iadd, 1) := by decide +kernel
theorem dX4_hex_56 : decode cX4_hex 56 = .ok (.goto 4, 3) := by decide +kernel
theorem dX4_hex_59 : decode cX4_hex 59 = .ok (.iconst (-1), 1) := by decide +kernel
theorem dX4_hex_60 : decode cX4_hex 60 = .ok (.ireturn, 1) := by decide +kernel
theorem dX4_isDecimal_0 : decode cX4_isDecimal 0 = .ok (.lconst 0, 1) := by decide +kernel
theorem dX4_isDecimal_1 : decode cX4_isDecimal 1 = .ok (.lstore 4, 2) := by decide +kernel
theorem dX4_isDecimal_3 : decode cX4_isDecimal 3 = .ok (.iload_n 1, 1) := by decide +kernel
theorem dX4_isDecimal_4 : decode cX4_isDecimal 4 = .ok (.iload_n 2, 1) := by decide +kernel
theorem dX4_isDecimal_5 : decode cX4_isDecimal 5 = .ok (.if_icmp .ge 7, 3) := by decide +kernel
theorem dX4_isDecimal_8 : decode cX4_isDecimal 8 = .ok (.iconst 1, 1) := by decide +kernel
theorem dX4_isDecimal_9 : decode cX4_isDecimal 9 = .ok (.goto 4, 3) := by decide +kernel
theorem dX4_isDecimal_12 : decode cX4_isDecimal 12 = .ok (.iconst 0, 1) := by decide +kernel
theorem dX4_isDecimal_13 : decode cX4_isDecimal 13 = .ok (.istore 6, 2) := by decide +kernel
theorem dX4_isDecimal_15 : decode cX4_isDecimal 15 = .ok (.iload_n 1, 1) := by decide +kernel
theorem dX4_isDecimal_16 : decode cX4_isDecimal 16 = .ok (.istore 7, 2) := by decide +kernel
theorem dX4_isDecimal_18 : decode cX4_isDecimal 18 = .ok (.iload 7, 2) := by decide +kernel
theorem dX4_isDecimal_20 : decode cX4_isDecimal 20 = .ok (.iload_n 2, 1) := by decide +kernel
theorem dX4_isDecimal_21 : decode cX4_isDecimal 21 = .ok (.if_icmp .ge 92, 3) := by decide +kernel
theorem dX4_isDecimal_24 : decode cX4_isDecimal 24 = .ok (.iload 6, 2) := by decide +kernel
theorem dX4_isDecimal_26 : decode cX4_isDecimal 26 = .ok (.ifCond .eq 87, 3) := by decide +kernel
theorem dX4_isDecimal_29 : decode cX4_isDecimal 29 = .ok (.aload_n 0, 1) := by decide +kernel
theorem dX4_isDecimal_30 : decode cX4_isDecimal 30 = .ok (.getfield 16, 3) := by decide +kernel
theorem dX4_isDecimal_33 : decode cX4_isDecimal 33 = .ok (.iload 7, 2) := by decide +kernel
theorem dX4_isDecimal_35 : decode cX4_isDecimal 35 = .ok (.baload, 1) := by decide +kernel
theorem dX4_isDecimal_36 : decode cX4_isDecimal 36 = .ok (.bipush 48, 2) := by decide +kernel
theorem dX4_isDecimal_38 : decode cX4_isDecimal 38 = .ok (.isub, 1) := by decide +kernel
theorem dX4_isDecimal_39 : decode cX4_isDecimal 39 = .ok (.istore 8, 2) := by decide +kernel
theorem dX4_isDecimal_41 : decode cX4_isDecimal 41 = .ok (.iload 8, 2) := by decide +kernel
theorem dX4_isDecimal_43 : decode cX4_isDecimal 43 = .ok (.ifCond .lt 40, 3) := by decide +kernel
theorem dX4_isDecimal_46 : decode cX4_isDecimal 46 = .ok (.iload 8, 2) := by decide +kernel
theorem dX4_isDecimal_48 : decode cX4_isDecimal 48 = .ok (.bipush 9, 2) := by decide +kernel
theorem dX4_isDecimal_50 : decode cX4_isDecimal 50 = .ok (.if_icmp .gt 33, 3) := by decide +kernel
theorem dX4_isDecimal_53 : decode cX4_isDecimal 53 = .ok (.lload 4, 2) := by decide +kernel
theorem dX4_isDecimal_55 : decode cX4_isDecimal 55 = .ok (.ldc2_w 66, 3) := by decide +kernel
theorem dX4_isDecimal_58 : decode cX4_isDecimal 58 = .ok (.lcmp, 1) := by decide +kernel
theorem dX4_isDecimal_59 : decode cX4_isDecimal 59 = .ok (.ifCond .lt 24, 3) := by decide +kernel
theorem dX4_isDecimal_62 : decode cX4_isDecimal 62 = .ok (.ldc2_w 56, 3) := by decide +kernel
theorem dX4_isDecimal_65 : decode cX4_isDecimal 65 = .ok (.lload 4, 2) := by decide +kernel
theorem dX4_isDecimal_67 : decode cX4_isDecimal 67 = .ok (.lmul, 1) := by decide +kernel
theorem dX4_isDecimal_68 : decode cX4_isDecimal 68 = .ok (.ldc2_w 68, 3) := by decide +kernel
theorem dX4_isDecimal_71 : decode cX4_isDecimal 71 = .ok (.iload 8, 2) := by decide +kernel
theorem dX4_isDecimal_73 : decode cX4_isDecimal 73 = .ok (.i2l, 1) := by decide +kernel
theorem dX4_isDecimal_74 : decode cX4_isDecimal 74 = .ok (.ladd, 1) := by decide +kernel
theorem dX4_isDecimal_75 : decode cX4_isDecimal 75 = .ok (.lcmp, 1) := by decide +kernel
theorem dX4_isDecimal_76 : decode cX4_isDecimal 76 = .ok (.ifCond .lt 7, 3) := by decide +kernel
theorem dX4_isDecimal_79 : decode cX4_isDecimal 79 = .ok (.iconst 1, 1) := by decide +kernel
theorem dX4_isDecimal_80 : decode cX4_isDecimal 80 = .ok (.goto 4, 3) := by decide +kernel
theorem dX4_isDecimal_83 : decode cX4_isDecimal 83 = .ok (.iconst 0, 1) := by decide +kernel
theorem dX4_isDecimal_84 : decode cX4_isDecimal 84 = .ok (.istore 6, 2) := by decide +kernel
theorem dX4_isDecimal_86 : decode cX4_isDecimal 86 = .ok (.iload 6, 2) := by decide +kernel
theorem dX4_isDecimal_88 : decode cX4_isDecimal 88 = .ok (.ifCond .eq 16, 3) := by decide +kernel
theorem dX4_isDecimal_91 : decode cX4_isDecimal 91 = .ok (.ldc2_w 56, 3) := by decide +kernel
theorem dX4_isDecimal_94 : decode cX4_isDecimal 94 = .ok (.lload 4, 2) := by decide +kernel
theorem dX4_isDecimal_96 : decode cX4_isDecimal 96 = .ok (.lmul, 1) := by decide +kernel
theorem dX4_isDecimal_97 : decode cX4_isDecimal 97 = .ok (.iload 8, 2) := by decide +kernel
theorem dX4_isDecimal_99 : decode cX4_isDecimal 99 = .ok (.i2l, 1) := by decide +kernel
theorem dX4_isDecimal_100 : decode cX4_isDecimal 100 = .ok (.lsub, 1) := by decide +kernel
theorem dX4_isDecimal_101 : decode cX4_isDecimal 101 = .ok (.goto 4, 3) := by decide +kernel
theorem dX4_isDecimal_104 : decode cX4_isDecimal 104 = .ok (.lconst 0, 1) := by decide +kernel
theorem dX4_isDecimal_105 : decode cX4_isDecimal 105 = .ok (.lstore 4, 2) := by decide +kernel
theorem dX4_isDecimal_107 : decode cX4_isDecimal 107 = .ok (.iinc 7 1, 3) := by decide +kernel
theorem dX4_isDecimal_110 : decode cX4_isDecimal 110 = .ok (.goto (-92), 3) := by decide +kernel
theorem dX4_isDecimal_113 : decode cX4_isDecimal 113 = .ok (.iload 6, 2) := by decide +kernel
theorem dX4_isDecimal_115 : decode cX4_isDecimal 115 = .ok (.ifCond .eq 20, 3) := by decide +kernel
theorem dX4_isDecimal_118 : decode cX4_isDecimal 118 = .ok (.iload_n 3, 1) := by decide +kernel
theorem dX4_isDecimal_119 : decode cX4_isDecimal 119 = .ok (.ifCond .ne 12, 3) := by decide +kernel
theorem dX4_isDecimal_122 : decode cX4_isDecimal 122 = .ok (.lload 4, 2) := by decide +kernel
theorem dX4_isDecimal_124 : decode cX4_isDecimal 124 = .ok (.ldc2_w 68, 3) := by decide +kernel
theorem dX4_isDecimal_127 : decode cX4_isDecimal 127 = .ok (.lcmp, 1) := by decide +kernel
theorem dX4_isDecimal_128 : decode cX4_isDecimal 128 = .ok (.ifCond .eq 7, 3) := by decide +kernel
theorem dX4_isDecimal_131 : decode cX4_isDecimal 131 = .ok (.iconst 1, 1) := by decide +kernel
theorem dX4_isDecimal_132 : decode cX4_isDecimal 132 = .ok (.goto 4, 3) := by decide +kernel
theorem dX4_isDecimal_135 : decode cX4_isDecimal 135 = .ok (.iconst 0, 1) := by decide +kernel
theorem dX4_isDecimal_136 : decode cX4_isDecimal 136 = .ok (.istore 6, 2) := by decide +kernel
theorem dX4_isDecimal_138 : decode cX4_isDecimal 138 = .ok (.aload_n 0, 1) := by decide +kernel
theorem dX4_isDecimal_139 : decode cX4_isDecimal 139 = .ok (.iload_n 3, 1) := by decide +kernel
theorem dX4_isDecimal_140 : decode cX4_isDecimal 140 = .ok (.ifCond .eq 8, 3) := by decide +kernel
theorem dX4_isDecimal_143 : decode cX4_isDecimal 143 = .ok (.lload 4, 2) := by decide +kernel
theorem dX4_isDecimal_145 : decode cX4_isDecimal 145 = .ok (.goto 6, 3) := by decide +kernel
theorem dX4_isDecimal_148 : decode cX4_isDecimal 148 = .ok (.lload 4, 2) := by decide +kernel
theorem dX4_isDecimal_150 : decode cX4_isDecimal 150 = .ok (.lneg, 1) := by decide +kernel
theorem dX4_isDecimal_151 : decode cX4_isDecimal 151 = .ok (.putfield 62, 3) := by decide +kernel
theorem dX4_isDecimal_154 : decode cX4_isDecimal 154 = .ok (.iload 6, 2) := by decide +kernel
theorem dX4_isDecimal_156 : decode cX4_isDecimal 156 = .ok (.ireturn, 1) := by decide +kernel
theorem dX4_bits_0 : decode cX4_bits 0 = .ok (.aload_n 0, 1) := by decide +kernel
theorem dX4_bits_1 : decode cX4_bits 1 = .ok (.bipush 72, 2) := by decide +kernel
theorem dX4_bits_3 : decode cX4_bits 3 = .ok (.putfield 47, 3) := by decide +kernel
theorem dX4_bits_6 : decode cX4_bits 6 = .ok (.lload_n 1, 1) := by decide +kernel
theorem dX4_bits_7 : decode cX4_bits 7 = .ok (.lstore 5, 2) := by decide +kernel
theorem dX4_bits_9 : decode cX4_bits 9 = .ok (.lload 5, 2) := by decide +kernel
theorem dX4_bits_11 : decode cX4_bits 11 = .ok (.lconst 1, 1) := by decide +kernel
theorem dX4_bits_12 : decode cX4_bits 12 = .ok (.iload_n 3, 1) := by decide +kernel
theorem dX4_bits_13 : decode cX4_bits 13 = .ok (.lshl, 1) := by decide +kernel
theorem dX4_bits_14 : decode cX4_bits 14 = .ok (.lconst 1, 1) := by decide +kernel
theorem dX4_bits_15 : decode cX4_bits 15 = .ok (.lsub, 1) := by decide +kernel
theorem dX4_bits_16 : decode cX4_bits 16 = .ok (.land, 1) := by decide +kernel
theorem dX4_bits_17 : decode cX4_bits 17 = .ok (.l2i, 1) := by decide +kernel
theorem dX4_bits_18 : decode cX4_bits 18 = .ok (.istore 7, 2) := by decide +kernel
theorem dX4_bits_20 : decode cX4_bits 20 = .ok (.aload_n 0, 1) := by decide +kernel
theorem dX4_bits_21 : decode cX4_bits 21 = .ok (.iload 7, 2) := by decide +kernel
theorem dX4_bits_23 : decode cX4_bits 23 = .ok (.bipush 10, 2) := by decide +kernel
theorem dX4_bits_25 : decode cX4_bits 25 = .ok (.if_icmp .ge 11, 3) := by decide +kernel
theorem dX4_bits_28 : decode cX4_bits 28 = .ok (.bipush 48, 2) := by decide +kernel
theorem dX4_bits_30 : decode cX4_bits 30 = .ok (.iload 7, 2) := by decide +kernel
theorem dX4_bits_32 : decode cX4_bits 32 = .ok (.iadd, 1) := by decide +kernel
theorem dX4_bits_33 : decode cX4_bits 33 = .ok (.goto 11, 3) := by decide +kernel
theorem dX4_bits_36 : decode cX4_bits 36 = .ok (.iload 4, 2) := by decide +kernel
theorem dX4_bits_38 : decode cX4_bits 38 = .ok (.iload 7, 2) := by decide +kernel
theorem dX4_bits_40 : decode cX4_bits 40 = .ok (.iadd, 1) := by decide +kernel
theorem dX4_bits_41 : decode cX4_bits 41 = .ok (.bipush 10, 2) := by decide +kernel
theorem dX4_bits_43 : decode cX4_bits 43 = .ok (.isub, 1) := by decide +kernel
theorem dX4_bits_44 : decode cX4_bits 44 = .ok (.invokevirtual 53, 3) := by decide +kernel
theorem dX4_bits_47 : decode cX4_bits 47 = .ok (.lload 5, 2) := by decide +kernel
theorem dX4_bits_49 : decode cX4_bits 49 = .ok (.iload_n 3, 1) := by decide +kernel
theorem dX4_bits_50 : decode cX4_bits 50 = .ok (.lushr, 1) := by decide +kernel
theorem dX4_bits_51 : decode cX4_bits 51 = .ok (.lstore 5, 2) := by decide +kernel
theorem dX4_bits_53 : decode cX4_bits 53 = .ok (.lload 5, 2) := by decide +kernel
theorem dX4_bits_55 : decode cX4_bits 55 = .ok (.lconst 0, 1) := by decide +kernel
theorem dX4_bits_56 : decode cX4_bits 56 = .ok (.lcmp, 1) := by decide +kernel
theorem dX4_bits_57 : decode cX4_bits 57 = .ok (.ifCond .ne (-48), 3) := by decide +kernel
theorem dX4_bits_60 : decode cX4_bits 60 = .ok (.return_, 1) := by decide +kernel
theorem dX4_madeAt_0 : decode cX4_madeAt 0 = .ok (.iload_n 1, 1) := by decide +kernel
theorem dX4_madeAt_1 : decode cX4_madeAt 1 = .ok (.ifCond .lt 24, 3) := by decide +kernel
theorem dX4_madeAt_4 : decode cX4_madeAt 4 = .ok (.iload_n 1, 1) := by decide +kernel
theorem dX4_madeAt_5 : decode cX4_madeAt 5 = .ok (.aload_n 0, 1) := by decide +kernel
theorem dX4_madeAt_6 : decode cX4_madeAt 6 = .ok (.getfield 126, 3) := by decide +kernel
theorem dX4_madeAt_9 : decode cX4_madeAt 9 = .ok (.if_icmp .ge 16, 3) := by decide +kernel
theorem dX4_madeAt_12 : decode cX4_madeAt 12 = .ok (.aload_n 0, 1) := by decide +kernel
theorem dX4_madeAt_13 : decode cX4_madeAt 13 = .ok (.getfield 19, 3) := by decide +kernel
theorem dX4_madeAt_16 : decode cX4_madeAt 16 = .ok (.iload_n 1, 1) := by decide +kernel
theorem dX4_madeAt_17 : decode cX4_madeAt 17 = .ok (.baload, 1) := by decide +kernel
theorem dX4_madeAt_18 : decode cX4_madeAt 18 = .ok (.sipush 255, 3) := by decide +kernel
theorem dX4_madeAt_21 : decode cX4_madeAt 21 = .ok (.iand, 1) := by decide +kernel
theorem dX4_madeAt_22 : decode cX4_madeAt 22 = .ok (.goto 4, 3) := by decide +kernel
theorem dX4_madeAt_25 : decode cX4_madeAt 25 = .ok (.iconst (-1), 1) := by decide +kernel
theorem dX4_madeAt_26 : decode cX4_madeAt 26 = .ok (.ireturn, 1) := by decide +kernel
