theorem dX0_init_0 : decode cX0_init 0 = .ok (.aload_n 0, 1) := by decide +kernel
theorem dX0_init_1 : decode cX0_init 1 = .ok (.invokespecial 1, 3) := by decide +kernel
theorem dX0_init_4 : decode cX0_init 4 = .ok (.aload_n 0, 1) := by decide +kernel
theorem dX0_init_5 : decode cX0_init 5 = .ok (.iload_n 1, 1) := by decide +kernel
theorem dX0_init_6 : decode cX0_init 6 = .ok (.putfield 7, 3) := by decide +kernel
theorem dX0_init_9 : decode cX0_init 9 = .ok (.aload_n 0, 1) := by decide +kernel
theorem dX0_init_10 : decode cX0_init 10 = .ok (.aload_n 2, 1) := by decide +kernel
theorem dX0_init_11 : decode cX0_init 11 = .ok (.putfield 13, 3) := by decide +kernel
theorem dX0_init_14 : decode cX0_init 14 = .ok (.return_, 1) := by decide +kernel
theorem dX0_setBefore_0 : decode cX0_setBefore 0 = .ok (.aload_n 0, 1) := by decide +kernel
theorem dX0_setBefore_1 : decode cX0_setBefore 1 = .ok (.iload_n 1, 1) := by decide +kernel
theorem dX0_setBefore_2 : decode cX0_setBefore 2 = .ok (.putfield 17, 3) := by decide +kernel
theorem dX0_setBefore_5 : decode cX0_setBefore 5 = .ok (.aload_n 0, 1) := by decide +kernel
theorem dX0_setBefore_6 : decode cX0_setBefore 6 = .ok (.iload_n 2, 1) := by decide +kernel
theorem dX0_setBefore_7 : decode cX0_setBefore 7 = .ok (.putfield 20, 3) := by decide +kernel
theorem dX0_setBefore_10 : decode cX0_setBefore 10 = .ok (.return_, 1) := by decide +kernel
theorem dX0_setBehind_0 : decode cX0_setBehind 0 = .ok (.aload_n 0, 1) := by decide +kernel
theorem dX0_setBehind_1 : decode cX0_setBehind 1 = .ok (.iload_n 1, 1) := by decide +kernel
theorem dX0_setBehind_2 : decode cX0_setBehind 2 = .ok (.putfield 23, 3) := by decide +kernel
theorem dX0_setBehind_5 : decode cX0_setBehind 5 = .ok (.aload_n 0, 1) := by decide +kernel
theorem dX0_setBehind_6 : decode cX0_setBehind 6 = .ok (.iload_n 2, 1) := by decide +kernel
theorem dX0_setBehind_7 : decode cX0_setBehind 7 = .ok (.putfield 26, 3) := by decide +kernel
theorem dX0_setBehind_10 : decode cX0_setBehind 10 = .ok (.return_, 1) := by decide +kernel
theorem dX0_moreBytesOf_0 : decode cX0_moreBytesOf 0 = .ok (.aload_n 0, 1) := by decide +kernel
theorem dX0_moreBytesOf_1 : decode cX0_moreBytesOf 1 = .ok (.getfield 23, 3) := by decide +kernel
theorem dX0_moreBytesOf_4 : decode cX0_moreBytesOf 4 = .ok (.iload_n 1, 1) := by decide +kernel
theorem dX0_moreBytesOf_5 : decode cX0_moreBytesOf 5 = .ok (.if_icmp .ne 10, 3) := by decide +kernel
theorem dX0_moreBytesOf_8 : decode cX0_moreBytesOf 8 = .ok (.aload_n 0, 1) := by decide +kernel
theorem dX0_moreBytesOf_9 : decode cX0_moreBytesOf 9 = .ok (.getfield 26, 3) := by decide +kernel
theorem dX0_moreBytesOf_12 : decode cX0_moreBytesOf 12 = .ok (.goto 4, 3) := by decide +kernel
theorem dX0_moreBytesOf_15 : decode cX0_moreBytesOf 15 = .ok (.iconst 0, 1) := by decide +kernel
theorem dX0_moreBytesOf_16 : decode cX0_moreBytesOf 16 = .ok (.istore_n 2, 1) := by decide +kernel
theorem dX0_moreBytesOf_17 : decode cX0_moreBytesOf 17 = .ok (.aload_n 0, 1) := by decide +kernel
theorem dX0_moreBytesOf_18 : decode cX0_moreBytesOf 18 = .ok (.getfield 17, 3) := by decide +kernel
theorem dX0_moreBytesOf_21 : decode cX0_moreBytesOf 21 = .ok (.iload_n 1, 1) := by decide +kernel
theorem dX0_moreBytesOf_22 : decode cX0_moreBytesOf 22 = .ok (.if_icmp .ne 10, 3) := by decide +kernel
theorem dX0_moreBytesOf_25 : decode cX0_moreBytesOf 25 = .ok (.aload_n 0, 1) := by decide +kernel
theorem dX0_moreBytesOf_26 : decode cX0_moreBytesOf 26 = .ok (.getfield 20, 3) := by decide +kernel
theorem dX0_moreBytesOf_29 : decode cX0_moreBytesOf 29 = .ok (.goto 4, 3) := by decide +kernel
theorem dX0_moreBytesOf_32 : decode cX0_moreBytesOf 32 = .ok (.iconst 0, 1) := by decide +kernel
theorem dX0_moreBytesOf_33 : decode cX0_moreBytesOf 33 = .ok (.istore_n 3, 1) := by decide +kernel
theorem dX0_moreBytesOf_34 : decode cX0_moreBytesOf 34 = .ok (.iload_n 2, 1) := by decide +kernel
theorem dX0_moreBytesOf_35 : decode cX0_moreBytesOf 35 = .ok (.iload_n 3, 1) := by decide +kernel
theorem dX0_moreBytesOf_36 : decode cX0_moreBytesOf 36 = .ok (.isub, 1) := by decide +kernel
theorem dX0_moreBytesOf_37 : decode cX0_moreBytesOf 37 = .ok (.ireturn, 1) := by decide +kernel
theorem dX1_init_0 : decode cX1_init 0 = .ok (.aload_n 0, 1) := by decide +kernel
theorem dX1_init_1 : decode cX1_init 1 = .ok (.invokespecial 1, 3) := by decide +kernel
theorem dX1_init_4 : decode cX1_init 4 = .ok (.aload_n 0, 1) := by decide +kernel
theorem dX1_init_5 : decode cX1_init 5 = .ok (.iload_n 1, 1) := by decide +kernel
theorem dX1_init_6 : decode cX1_init 6 = .ok (.putfield 7, 3) := by decide +kernel
theorem dX1_init_9 : decode cX1_init 9 = .ok (.aload_n 0, 1) := by decide +kernel
theorem dX1_init_10 : decode cX1_init 10 = .ok (.iload_n 2, 1) := by decide +kernel
theorem dX1_init_11 : decode cX1_init 11 = .ok (.putfield 13, 3) := by decide +kernel
theorem dX1_init_14 : decode cX1_init 14 = .ok (.aload_n 0, 1) := by decide +kernel
theorem dX1_init_15 : decode cX1_init 15 = .ok (.iload_n 3, 1) := by decide +kernel
theorem dX1_init_16 : decode cX1_init 16 = .ok (.putfield 16, 3) := by decide +kernel
theorem dX1_init_19 : decode cX1_init 19 = .ok (.aload_n 0, 1) := by decide +kernel
theorem dX1_init_20 : decode cX1_init 20 = .ok (.aload 4, 2) := by decide +kernel
theorem dX1_init_22 : decode cX1_init 22 = .ok (.putfield 19, 3) := by decide +kernel
theorem dX1_init_25 : decode cX1_init 25 = .ok (.return_, 1) := by decide +kernel
theorem dX2_init_0 : decode cX2_init 0 = .ok (.aload_n 0, 1) := by decide +kernel
theorem dX2_init_1 : decode cX2_init 1 = .ok (.invokespecial 1, 3) := by decide +kernel
theorem dX2_init_4 : decode cX2_init 4 = .ok (.aload_n 0, 1) := by decide +kernel
theorem dX2_init_5 : decode cX2_init 5 = .ok (.iload_n 1, 1) := by decide +kernel
theorem dX2_init_6 : decode cX2_init 6 = .ok (.putfield 7, 3) := by decide +kernel
theorem dX2_init_9 : decode cX2_init 9 = .ok (.return_, 1) := by decide +kernel
theorem dX2_hasRoomFor_0 : decode cX2_hasRoomFor 0 = .ok (.aload_n 0, 1) := by decide +kernel
theorem dX2_hasRoomFor_1 : decode cX2_hasRoomFor 1 = .ok (.getfield 13, 3) := by decide +kernel
theorem dX2_hasRoomFor_4 : decode cX2_hasRoomFor 4 = .ok (.iload_n 1, 1) := by decide +kernel
theorem dX2_hasRoomFor_5 : decode cX2_hasRoomFor 5 = .ok (.iadd, 1) := by decide +kernel
theorem dX2_hasRoomFor_6 : decode cX2_hasRoomFor 6 = .ok (.aload_n 0, 1) := by decide +kernel
theorem dX2_hasRoomFor_7 : decode cX2_hasRoomFor 7 = .ok (.getfield 16, 3) := by decide +kernel
theorem dX2_hasRoomFor_10 : decode cX2_hasRoomFor 10 = .ok (.if_icmp .gt 7, 3) := by decide +kernel
theorem dX2_hasRoomFor_13 : decode cX2_hasRoomFor 13 = .ok (.iconst 1, 1) := by decide +kernel
theorem dX2_hasRoomFor_14 : decode cX2_hasRoomFor 14 = .ok (.goto 4, 3) := by decide +kernel
theorem dX2_hasRoomFor_17 : decode cX2_hasRoomFor 17 = .ok (.iconst 0, 1) := by decide +kernel
theorem dX2_hasRoomFor_18 : decode cX2_hasRoomFor 18 = .ok (.ireturn, 1) := by decide +kernel
theorem dX3_init_0 : decode cX3_init 0 = .ok (.aload_n 0, 1) := by decide +kernel
theorem dX3_init_1 : decode cX3_init 1 = .ok (.invokespecial 3, 3) := by decide +kernel
theorem dX3_init_4 : decode cX3_init 4 = .ok (.aload_n 0, 1) := by decide +kernel
theorem dX3_init_5 : decode cX3_init 5 = .ok (.sipush 999, 3) := by decide +kernel
theorem dX3_init_8 : decode cX3_init 8 = .ok (.putfield 9, 3) := by decide +kernel
theorem dX3_init_11 : decode cX3_init 11 = .ok (.aload_n 0, 1) := by decide +kernel
theorem dX3_init_12 : decode cX3_init 12 = .ok (.aload_n 1, 1) := by decide +kernel
theorem dX3_init_13 : decode cX3_init 13 = .ok (.putfield 15, 3) := by decide +kernel
theorem dX3_init_16 : decode cX3_init 16 = .ok (.aload_n 0, 1) := by decide +kernel
theorem dX3_init_17 : decode cX3_init 17 = .ok (.aload_n 1, 1) := by decide +kernel
theorem dX3_init_18 : decode cX3_init 18 = .ok (.putfield 19, 3) := by decide +kernel
theorem dX3_init_21 : decode cX3_init 21 = .ok (.return_, 1) := by decide +kernel
theorem dX3_isMoving_0 : decode cX3_isMoving 0 = .ok (.aload_n 0, 1) := by decide +kernel
theorem dX3_isMoving_1 : decode cX3_isMoving 1 = .ok (.getfield 19, 3) := by decide +kernel
theorem dX3_isMoving_4 : decode cX3_isMoving 4 = .ok (.getfield 22, 3) := by decide +kernel
theorem dX3_isMoving_7 : decode cX3_isMoving 7 = .ok (.iconst (-1), 1) := by decide +kernel
theorem dX3_isMoving_8 : decode cX3_isMoving 8 = .ok (.if_icmp .eq 7, 3) := by decide +kernel
theorem dX3_isMoving_11 : decode cX3_isMoving 11 = .ok (.iconst 1, 1) := by decide +kernel
theorem dX3_isMoving_12 : decode cX3_isMoving 12 = .ok (.goto 4, 3) := by decide +kernel
theorem dX3_isMoving_15 : decode cX3_isMoving 15 = .ok (.iconst 0, 1) := by decide +kernel
theorem dX3_isMoving_16 : decode cX3_isMoving 16 = .ok (.ireturn, 1) := by decide +kernel
theorem dX3_hasCopied_0 : decode cX3_hasCopied 0 = .ok (.aload_n 0, 1) := by decide +kernel
theorem dX3_hasCopied_1 : decode cX3_hasCopied 1 = .ok (.invokevirtual 27, 3) := by decide +kernel
theorem dX3_hasCopied_4 : decode cX3_hasCopied 4 = .ok (.ifCond .eq 15, 3) := by decide +kernel
theorem dX3_hasCopied_7 : decode cX3_hasCopied 7 = .ok (.iload_n 1, 1) := by decide +kernel
theorem dX3_hasCopied_8 : decode cX3_hasCopied 8 = .ok (.aload_n 0, 1) := by decide +kernel
theorem dX3_hasCopied_9 : decode cX3_hasCopied 9 = .ok (.getfield 31, 3) := by decide +kernel
theorem dX3_hasCopied_12 : decode cX3_hasCopied 12 = .ok (.if_icmp .ge 7, 3) := by decide +kernel
theorem dX3_hasCopied_15 : decode cX3_hasCopied 15 = .ok (.iconst 1, 1) := by decide +kernel
theorem dX3_hasCopied_16 : decode cX3_hasCopied 16 = .ok (.goto 4, 3) := by decide +kernel
theorem dX3_hasCopied_19 : decode cX3_hasCopied 19 = .ok (.iconst 0, 1) := by decide +kernel
theorem dX3_hasCopied_20 : decode cX3_hasCopied 20 = .ok (.ireturn, 1) := by decide +kernel
theorem dX3_aimAt_0 : decode cX3_aimAt 0 = .ok (.aload_n 0, 1) := by decide +kernel
theorem dX3_aimAt_1 : decode cX3_aimAt 1 = .ok (.aload_n 1, 1) := by decide +kernel
theorem dX3_aimAt_2 : decode cX3_aimAt 2 = .ok (.putfield 19, 3) := by decide +kernel
theorem dX3_aimAt_5 : decode cX3_aimAt 5 = .ok (.aload_n 0, 1) := by decide +kernel
theorem dX3_aimAt_6 : decode cX3_aimAt 6 = .ok (.aload_n 0, 1) := by decide +kernel
theorem dX3_aimAt_7 : decode cX3_aimAt 7 = .ok (.getfield 34, 3) := by decide +kernel
theorem dX3_aimAt_10 : decode cX3_aimAt 10 = .ok (.putfield 31, 3) := by decide +kernel
theorem dX3_aimAt_13 : decode cX3_aimAt 13 = .ok (.aload_n 0, 1) := by decide +kernel
theorem dX3_aimAt_14 : decode cX3_aimAt 14 = .ok (.iconst 0, 1) := by decide +kernel
theorem dX3_aimAt_15 : decode cX3_aimAt 15 = .ok (.putfield 37, 3) := by decide +kernel
theorem dX3_aimAt_18 : decode cX3_aimAt 18 = .ok (.aload_n 0, 1) := by decide +kernel
theorem dX3_aimAt_19 : decode cX3_aimAt 19 = .ok (.iconst 0, 1) := by decide +kernel
theorem dX3_aimAt_20 : decode cX3_aimAt 20 = .ok (.putfield 40, 3) := by decide +kernel
theorem dX3_aimAt_23 : decode cX3_aimAt 23 = .ok (.return_, 1) := by decide +kernel
theorem dX3_takeCopy_0 : decode cX3_takeCopy 0 = .ok (.aload_n 0, 1) := by decide +kernel
theorem dX3_takeCopy_1 : decode cX3_takeCopy 1 = .ok (.dup, 1) := by decide +kernel
theorem dX3_takeCopy_2 : decode cX3_takeCopy 2 = .ok (.getfield 31, 3) := by decide +kernel
theorem dX3_takeCopy_5 : decode cX3_takeCopy 5 = .ok (.iconst 1, 1) := by decide +kernel
theorem dX3_takeCopy_6 : decode cX3_takeCopy 6 = .ok (.iadd, 1) := by decide +kernel
theorem dX3_takeCopy_7 : decode cX3_takeCopy 7 = .ok (.putfield 31, 3) := by decide +kernel
theorem dX3_takeCopy_10 : decode cX3_takeCopy 10 = .ok (.aload_n 0, 1) := by decide +kernel
theorem dX3_takeCopy_11 : decode cX3_takeCopy 11 = .ok (.dup, 1) := by decide +kernel
theorem dX3_takeCopy_12 : decode cX3_takeCopy 12 = .ok (.getfield 37, 3) := by decide +kernel
theorem dX3_takeCopy_15 : decode cX3_takeCopy 15 = .ok (.iload_n 1, 1) := by decide +kernel
theorem dX3_takeCopy_16 : decode cX3_takeCopy 16 = .ok (.isub, 1) := by decide +kernel
theorem dX3_takeCopy_17 : decode cX3_takeCopy 17 = .ok (.putfield 37, 3) := by decide +kernel
theorem dX3_takeCopy_20 : decode cX3_takeCopy 20 = .ok (.aload_n 0, 1) := by decide +kernel
theorem dX3_takeCopy_21 : decode cX3_takeCopy 21 = .ok (.dup, 1) := by decide +kernel
theorem dX3_takeCopy_22 : decode cX3_takeCopy 22 = .ok (.getfield 40, 3) := by decide +kernel
theorem dX3_takeCopy_25 : decode cX3_takeCopy 25 = .ok (.iload_n 1, 1) := by decide +kernel
theorem dX3_takeCopy_26 : decode cX3_takeCopy 26 = .ok (.iadd, 1) := by decide +kernel
theorem dX3_takeCopy_27 : decode cX3_takeCopy 27 = .ok (.putfield 40, 3) := by decide +kernel
theorem dX3_takeCopy_30 : decode cX3_takeCopy 30 = .ok (.aload_n 0, 1) := by decide +kernel
theorem dX3_takeCopy_31 : decode cX3_takeCopy 31 = .ok (.getfield 19, 3) := by decide +kernel
theorem dX3_takeCopy_34 : decode cX3_takeCopy 34 = .ok (.dup, 1) := by decide +kernel
theorem dX3_takeCopy_35 : decode cX3_takeCopy 35 = .ok (.getfield 43, 3) := by decide +kernel
theorem dX3_takeCopy_38 : decode cX3_takeCopy 38 = .ok (.iload_n 1, 1) := by decide +kernel
theorem dX3_takeCopy_39 : decode cX3_takeCopy 39 = .ok (.iadd, 1) := by decide +kernel
theorem dX3_takeCopy_40 : decode cX3_takeCopy 40 = .ok (.putfield 43, 3) := by decide +kernel
theorem dX3_takeCopy_43 : decode cX3_takeCopy 43 = .ok (.return_, 1) := by decide +kernel
theorem dX4_init_0 : decode cX4_init 0 = .ok (.aload_n 0, 1) := by decide +kernel
theorem dX4_init_1 : decode cX4_init 1 = .ok (.invokespecial 3, 3) := by decide +kernel
theorem dX4_init_4 : decode cX4_init 4 = .ok (.aload_n 0, 1) := by decide +kernel
theorem dX4_init_5 : decode cX4_init 5 = .ok (.sipush 1000, 3) := by decide +kernel
theorem dX4_init_8 : decode cX4_init 8 = .ok (.putfield 9, 3) := by decide +kernel
theorem dX4_init_11 : decode cX4_init 11 = .ok (.return_, 1) := by decide +kernel
theorem dX5_init_0 : decode cX5_init 0 = .ok (.aload_n 0, 1) := by decide +kernel
theorem dX5_init_1 : decode cX5_init 1 = .ok (.invokespecial 1, 3) := by decide +kernel
theorem dX5_init_4 : decode cX5_init 4 = .ok (.aload_n 0, 1) := by decide +kernel
theorem dX5_init_5 : decode cX5_init 5 = .ok (.new 7, 3) := by decide +kernel
theorem dX5_init_8 : decode cX5_init 8 = .ok (.dup, 1) := by decide +kernel
theorem dX5_init_9 : decode cX5_init 9 = .ok (.iconst (-1), 1) := by decide +kernel
theorem dX5_init_10 : decode cX5_init 10 = .ok (.invokespecial 11, 3) := by decide +kernel
theorem dX5_init_13 : decode cX5_init 13 = .ok (.putfield 14, 3) := by decide +kernel
theorem dX5_init_16 : decode cX5_init 16 = .ok (.aload_n 0, 1) := by decide +kernel
theorem dX5_init_17 : decode cX5_init 17 = .ok (.sipush 1000, 3) := by decide +kernel
theorem dX5_init_20 : decode cX5_init 20 = .ok (.newarray .int, 2) := by decide +kernel
theorem dX5_init_22 : decode cX5_init 22 = .ok (.putfield 18, 3) := by decide +kernel
theorem dX5_init_25 : decode cX5_init 25 = .ok (.aload_n 0, 1) := by decide +kernel
theorem dX5_init_26 : decode cX5_init 26 = .ok (.sipush 1000, 3) := by decide +kernel
theorem dX5_init_29 : decode cX5_init 29 = .ok (.newarray .int, 2) := by decide +kernel
theorem dX5_init_31 : decode cX5_init 31 = .ok (.putfield 22, 3) := by decide +kernel
theorem dX5_init_34 : decode cX5_init 34 = .ok (.iconst 0, 1) := by decide +kernel
theorem dX5_init_35 : decode cX5_init 35 = .ok (.istore_n 1, 1) := by decide +kernel
theorem dX5_init_36 : decode cX5_init 36 = .ok (.iload_n 1, 1) := by decide +kernel
theorem dX5_init_37 : decode cX5_init 37 = .ok (.sipush 1000, 3) := by decide +kernel
theorem dX5_init_40 : decode cX5_init 40 = .ok (.if_icmp .ge 16, 3) := by decide +kernel
theorem dX5_init_43 : decode cX5_init 43 = .ok (.aload_n 0, 1) := by decide +kernel
theorem dX5_init_44 : decode cX5_init 44 = .ok (.getfield 22, 3) := by decide +kernel
theorem dX5_init_47 : decode cX5_init 47 = .ok (.iload_n 1, 1) := by decide +kernel
theorem dX5_init_48 : decode cX5_init 48 = .ok (.iconst (-1), 1) := by decide +kernel
theorem dX5_init_49 : decode cX5_init 49 = .ok (.iastore, 1) := by decide +kernel
theorem dX5_init_50 : decode cX5_init 50 = .ok (.iinc 1 1, 3) := by decide +kernel
theorem dX5_init_53 : decode cX5_init 53 = .ok (.goto (-17), 3) := by decide +kernel
theorem dX5_init_56 : decode cX5_init 56 = .ok (.aload_n 0, 1) := by decide +kernel
theorem dX5_init_57 : decode cX5_init 57 = .ok (.iconst 4, 1) := by decide +kernel
theorem dX5_init_58 : decode cX5_init 58 = .ok (.anewarray 25, 3) := by decide +kernel
theorem dX5_init_61 : decode cX5_init 61 = .ok (.putfield 27, 3) := by decide +kernel
theorem dX5_init_64 : decode cX5_init 64 = .ok (.iconst 0, 1) := by decide +kernel
theorem dX5_init_65 : decode cX5_init 65 = .ok (.istore_n 1, 1) := by decide +kernel
theorem dX5_init_66 : decode cX5_init 66 = .ok (.iload_n 1, 1) := by decide +kernel
theorem dX5_init_67 : decode cX5_init 67 = .ok (.iconst 4, 1) := by decide +kernel
theorem dX5_init_68 : decode cX5_init 68 = .ok (.if_icmp .ge 22, 3) := by decide +kernel
theorem dX5_init_71 : decode cX5_init 71 = .ok (.aload_n 0, 1) := by decide +kernel
theorem dX5_init_72 : decode cX5_init 72 = .ok (.getfield 27, 3) := by decide +kernel
theorem dX5_init_75 : decode cX5_init 75 = .ok (.iload_n 1, 1) := by decide +kernel
theorem dX5_init_76 : decode cX5_init 76 = .ok (.new 25, 3) := by decide +kernel
theorem dX5_init_79 : decode cX5_init 79 = .ok (.dup, 1) := by decide +kernel
theorem dX5_init_80 : decode cX5_init 80 = .ok (.invokespecial 31, 3) := by decide +kernel
theorem dX5_init_83 : decode cX5_init 83 = .ok (.aastore, 1) := by decide +kernel
theorem dX5_init_84 : decode cX5_init 84 = .ok (.iinc 1 1, 3) := by decide +kernel
theorem dX5_init_87 : decode cX5_init 87 = .ok (.goto (-21), 3) := by decide +kernel
theorem dX5_init_90 : decode cX5_init 90 = .ok (.aload_n 0, 1) := by decide +kernel
theorem dX5_init_91 : decode cX5_init 91 = .ok (.bipush 6, 2) := by decide +kernel
theorem dX5_init_93 : decode cX5_init 93 = .ok (.anewarray 7, 3) := by decide +kernel
theorem dX5_init_96 : decode cX5_init 96 = .ok (.putfield 32, 3) := by decide +kernel
theorem dX5_init_99 : decode cX5_init 99 = .ok (.iconst 0, 1) := by decide +kernel
theorem dX5_init_100 : decode cX5_init 100 = .ok (.istore_n 1, 1) := by decide +kernel
theorem dX5_init_101 : decode cX5_init 101 = .ok (.iload_n 1, 1) := by decide +kernel
theorem dX5_init_102 : decode cX5_init 102 = .ok (.bipush 6, 2) := by decide +kernel
theorem dX5_init_104 : decode cX5_init 104 = .ok (.if_icmp .ge 23, 3) := by decide +kernel
theorem dX5_init_107 : decode cX5_init 107 = .ok (.aload_n 0, 1) := by decide +kernel
theorem dX5_init_108 : decode cX5_init 108 = .ok (.getfield 32, 3) := by decide +kernel
theorem dX5_init_111 : decode cX5_init 111 = .ok (.iload_n 1, 1) := by decide +kernel
theorem dX5_init_112 : decode cX5_init 112 = .ok (.new 7, 3) := by decide +kernel
theorem dX5_init_115 : decode cX5_init 115 = .ok (.dup, 1) := by decide +kernel
theorem dX5_init_116 : decode cX5_init 116 = .ok (.iload_n 1, 1) := by decide +kernel
theorem dX5_init_117 : decode cX5_init 117 = .ok (.invokespecial 11, 3) := by decide +kernel
theorem dX5_init_120 : decode cX5_init 120 = .ok (.aastore, 1) := by decide +kernel
theorem dX5_init_121 : decode cX5_init 121 = .ok (.iinc 1 1, 3) := by decide +kernel
theorem dX5_init_124 : decode cX5_init 124 = .ok (.goto (-23), 3) := by decide +kernel
theorem dX5_init_127 : decode cX5_init 127 = .ok (.aload_n 0, 1) := by decide +kernel
theorem dX5_init_128 : decode cX5_init 128 = .ok (.bipush 16, 2) := by decide +kernel
theorem dX5_init_130 : decode cX5_init 130 = .ok (.anewarray 36, 3) := by decide +kernel
theorem dX5_init_133 : decode cX5_init 133 = .ok (.putfield 38, 3) := by decide +kernel
theorem dX5_init_136 : decode cX5_init 136 = .ok (.iconst 0, 1) := by decide +kernel
theorem dX5_init_137 : decode cX5_init 137 = .ok (.istore_n 1, 1) := by decide +kernel
theorem dX5_init_138 : decode cX5_init 138 = .ok (.iload_n 1, 1) := by decide +kernel
theorem dX5_init_139 : decode cX5_init 139 = .ok (.bipush 16, 2) := by decide +kernel
theorem dX5_init_141 : decode cX5_init 141 = .ok (.if_icmp .ge 26, 3) := by decide +kernel
theorem dX5_init_144 : decode cX5_init 144 = .ok (.aload_n 0, 1) := by decide +kernel
theorem dX5_init_145 : decode cX5_init 145 = .ok (.getfield 38, 3) := by decide +kernel
theorem dX5_init_148 : decode cX5_init 148 = .ok (.iload_n 1, 1) := by decide +kernel
theorem dX5_init_149 : decode cX5_init 149 = .ok (.new 36, 3) := by decide +kernel
theorem dX5_init_152 : decode cX5_init 152 = .ok (.dup, 1) := by decide +kernel
theorem dX5_init_153 : decode cX5_init 153 = .ok (.aload_n 0, 1) := by decide +kernel
theorem dX5_init_154 : decode cX5_init 154 = .ok (.getfield 14, 3) := by decide +kernel
theorem dX5_init_157 : decode cX5_init 157 = .ok (.invokespecial 42, 3) := by decide +kernel
theorem dX5_init_160 : decode cX5_init 160 = .ok (.aastore, 1) := by decide +kernel
theorem dX5_init_161 : decode cX5_init 161 = .ok (.iinc 1 1, 3) := by decide +kernel
theorem dX5_init_164 : decode cX5_init 164 = .ok (.goto (-26), 3) := by decide +kernel
theorem dX5_init_167 : decode cX5_init 167 = .ok (.aload_n 0, 1) := by decide +kernel
theorem dX5_init_168 : decode cX5_init 168 = .ok (.iconst 1, 1) := by decide +kernel
theorem dX5_init_169 : decode cX5_init 169 = .ok (.putfield 45, 3) := by decide +kernel
theorem dX5_init_172 : decode cX5_init 172 = .ok (.return_, 1) := by decide +kernel
theorem dX5_machine_0 : decode cX5_machine 0 = .ok (.iload_n 1, 1) := by decide +kernel
theorem dX5_machine_1 : decode cX5_machine 1 = .ok (.bipush 100, 2) := by decide +kernel
theorem dX5_machine_3 : decode cX5_machine 3 = .ok (.if_icmp .lt 10, 3) := by decide +kernel
theorem dX5_machine_6 : decode cX5_machine 6 = .ok (.iload_n 1, 1) := by decide +kernel
theorem dX5_machine_7 : decode cX5_machine 7 = .ok (.sipush 10000, 3) := by decide +kernel
theorem dX5_machine_10 : decode cX5_machine 10 = .ok (.if_icmp .le 13, 3) := by decide +kernel
theorem dX5_machine_13 : decode cX5_machine 13 = .ok (.new 49, 3) := by decide +kernel
theorem dX5_machine_16 : decode cX5_machine 16 = .ok (.dup, 1) := by decide +kernel
theorem dX5_machine_17 : decode cX5_machine 17 = .ok (.ldc 51, 2) := by decide +kernel
theorem dX5_machine_19 : decode cX5_machine 19 = .ok (.invokespecial 53, 3) := by decide +kernel
theorem dX5_machine_22 : decode cX5_machine 22 = .ok (.athrow, 1) := by decide +kernel
theorem dX5_machine_23 : decode cX5_machine 23 = .ok (.aload_n 0, 1) := by decide +kernel
theorem dX5_machine_24 : decode cX5_machine 24 = .ok (.getfield 56, 3) := by decide +kernel
theorem dX5_machine_27 : decode cX5_machine 27 = .ok (.bipush 6, 2) := by decide +kernel
theorem dX5_machine_29 : decode cX5_machine 29 = .ok (.if_icmp .lt 13, 3) := by decide +kernel
theorem dX5_machine_32 : decode cX5_machine 32 = .ok (.new 59, 3) := by decide +kernel
theorem dX5_machine_35 : decode cX5_machine 35 = .ok (.dup, 1) := by decide +kernel
theorem dX5_machine_36 : decode cX5_machine 36 = .ok (.ldc 61, 2) := by decide +kernel
theorem dX5_machine_38 : decode cX5_machine 38 = .ok (.invokespecial 63, 3) := by decide +kernel
theorem dX5_machine_41 : decode cX5_machine 41 = .ok (.athrow, 1) := by decide +kernel
theorem dX5_machine_42 : decode cX5_machine 42 = .ok (.aload_n 0, 1) := by decide +kernel
theorem dX5_machine_43 : decode cX5_machine 43 = .ok (.getfield 32, 3) := by decide +kernel
theorem dX5_machine_46 : decode cX5_machine 46 = .ok (.aload_n 0, 1) := by decide +kernel
theorem dX5_machine_47 : decode cX5_machine 47 = .ok (.getfield 56, 3) := by decide +kernel
theorem dX5_machine_50 : decode cX5_machine 50 = .ok (.aaload, 1) := by decide +kernel
theorem dX5_machine_51 : decode cX5_machine 51 = .ok (.astore_n 2, 1) := by decide +kernel
theorem dX5_machine_52 : decode cX5_machine 52 = .ok (.aload_n 2, 1) := by decide +kernel
theorem dX5_machine_53 : decode cX5_machine 53 = .ok (.iload_n 1, 1) := by decide +kernel
theorem dX5_machine_54 : decode cX5_machine 54 = .ok (.putfield 64, 3) := by decide +kernel
theorem dX5_machine_57 : decode cX5_machine 57 = .ok (.aload_n 2, 1) := by decide +kernel
theorem dX5_machine_58 : decode cX5_machine 58 = .ok (.iconst 1, 1) := by decide +kernel
theorem dX5_machine_59 : decode cX5_machine 59 = .ok (.putfield 67, 3) := by decide +kernel
theorem dX5_machine_62 : decode cX5_machine 62 = .ok (.aload_n 0, 1) := by decide +kernel
theorem dX5_machine_63 : decode cX5_machine 63 = .ok (.dup, 1) := by decide +kernel
theorem dX5_machine_64 : decode cX5_machine 64 = .ok (.getfield 56, 3) := by decide +kernel
theorem dX5_machine_67 : decode cX5_machine 67 = .ok (.iconst 1, 1) := by decide +kernel
theorem dX5_machine_68 : decode cX5_machine 68 = .ok (.iadd, 1) := by decide +kernel
theorem dX5_machine_69 : decode cX5_machine 69 = .ok (.putfield 56, 3) := by decide +kernel
theorem dX5_machine_72 : decode cX5_machine 72 = .ok (.aload_n 2, 1) := by decide +kernel
theorem dX5_machine_73 : decode cX5_machine 73 = .ok (.getfield 71, 3) := by decide +kernel
theorem dX5_machine_76 : decode cX5_machine 76 = .ok (.ifCond .ne 8, 3) := by decide +kernel
theorem dX5_machine_79 : decode cX5_machine 79 = .ok (.aload_n 0, 1) := by decide +kernel
theorem dX5_machine_80 : decode cX5_machine 80 = .ok (.aload_n 2, 1) := by decide +kernel
theorem dX5_machine_81 : decode cX5_machine 81 = .ok (.invokevirtual 74, 3) := by decide +kernel
theorem dX5_machine_84 : decode cX5_machine 84 = .ok (.aload_n 2, 1) := by decide +kernel
theorem dX5_machine_85 : decode cX5_machine 85 = .ok (.getfield 71, 3) := by decide +kernel
theorem dX5_machine_88 : decode cX5_machine 88 = .ok (.ireturn, 1) := by decide +kernel
theorem dX5_down_0 : decode cX5_down 0 = .ok (.aload_n 0, 1) := by decide +kernel
theorem dX5_down_1 : decode cX5_down 1 = .ok (.iload_n 1, 1) := by decide +kernel
theorem dX5_down_2 : decode cX5_down 2 = .ok (.invokevirtual 77, 3) := by decide +kernel
theorem dX5_down_5 : decode cX5_down 5 = .ok (.ifCond .ne 13, 3) := by decide +kernel
theorem dX5_down_8 : decode cX5_down 8 = .ok (.new 81, 3) := by decide +kernel
theorem dX5_down_11 : decode cX5_down 11 = .ok (.dup, 1) := by decide +kernel
theorem dX5_down_12 : decode cX5_down 12 = .ok (.ldc 83, 2) := by decide +kernel
theorem dX5_down_14 : decode cX5_down 14 = .ok (.invokespecial 85, 3) := by decide +kernel
theorem dX5_down_17 : decode cX5_down 17 = .ok (.athrow, 1) := by decide +kernel
theorem dX5_down_18 : decode cX5_down 18 = .ok (.aload_n 0, 1) := by decide +kernel
theorem dX5_down_19 : decode cX5_down 19 = .ok (.getfield 32, 3) := by decide +kernel
theorem dX5_down_22 : decode cX5_down 22 = .ok (.iload_n 1, 1) := by decide +kernel
theorem dX5_down_23 : decode cX5_down 23 = .ok (.aaload, 1) := by decide +kernel
theorem dX5_down_24 : decode cX5_down 24 = .ok (.astore_n 3, 1) := by decide +kernel
theorem dX5_down_25 : decode cX5_down 25 = .ok (.aload_n 3, 1) := by decide +kernel
theorem dX5_down_26 : decode cX5_down 26 = .ok (.getfield 67, 3) := by decide +kernel
theorem dX5_down_29 : decode cX5_down 29 = .ok (.ifCond .ne 7, 3) := by decide +kernel
theorem dX5_down_32 : decode cX5_down 32 = .ok (.iconst 1, 1) := by decide +kernel
theorem dX5_down_33 : decode cX5_down 33 = .ok (.goto 4, 3) := by decide +kernel
theorem dX5_down_36 : decode cX5_down 36 = .ok (.iconst 0, 1) := by decide +kernel
theorem dX5_down_37 : decode cX5_down 37 = .ok (.istore 4, 2) := by decide +kernel
theorem dX5_down_39 : decode cX5_down 39 = .ok (.aload_n 3, 1) := by decide +kernel
theorem dX5_down_40 : decode cX5_down 40 = .ok (.iload_n 2, 1) := by decide +kernel
theorem dX5_down_41 : decode cX5_down 41 = .ok (.ifCond .ne 7, 3) := by decide +kernel
theorem dX5_down_44 : decode cX5_down 44 = .ok (.iconst 1, 1) := by decide +kernel
theorem dX5_down_45 : decode cX5_down 45 = .ok (.goto 4, 3) := by decide +kernel
theorem dX5_down_48 : decode cX5_down 48 = .ok (.iconst 0, 1) := by decide +kernel
theorem dX5_down_49 : decode cX5_down 49 = .ok (.putfield 67, 3) := by decide +kernel
theorem dX5_down_52 : decode cX5_down 52 = .ok (.iload_n 2, 1) := by decide +kernel
theorem dX5_down_53 : decode cX5_down 53 = .ok (.ifCond .eq 8, 3) := by decide +kernel
theorem dX5_down_56 : decode cX5_down 56 = .ok (.aload_n 0, 1) := by decide +kernel
theorem dX5_down_57 : decode cX5_down 57 = .ok (.aload_n 3, 1) := by decide +kernel
theorem dX5_down_58 : decode cX5_down 58 = .ok (.invokevirtual 86, 3) := by decide +kernel
theorem dX5_down_61 : decode cX5_down 61 = .ok (.iload 4, 2) := by decide +kernel
theorem dX5_down_63 : decode cX5_down 63 = .ok (.ireturn, 1) := by decide +kernel
theorem dX5_quota_0 : decode cX5_quota 0 = .ok (.aload_n 0, 1) := by decide +kernel
theorem dX5_quota_1 : decode cX5_quota 1 = .ok (.iload_n 1, 1) := by decide +kernel
theorem dX5_quota_2 : decode cX5_quota 2 = .ok (.invokevirtual 89, 3) := by decide +kernel
theorem dX5_quota_5 : decode cX5_quota 5 = .ok (.ifCond .ne 13, 3) := by decide +kernel
theorem dX5_quota_8 : decode cX5_quota 8 = .ok (.new 81, 3) := by decide +kernel
theorem dX5_quota_11 : decode cX5_quota 11 = .ok (.dup, 1) := by decide +kernel
theorem dX5_quota_12 : decode cX5_quota 12 = .ok (.ldc 92, 2) := by decide +kernel
theorem dX5_quota_14 : decode cX5_quota 14 = .ok (.invokespecial 85, 3) := by decide +kernel
theorem dX5_quota_17 : decode cX5_quota 17 = .ok (.athrow, 1) := by decide +kernel
theorem dX5_quota_18 : decode cX5_quota 18 = .ok (.iload_n 2, 1) := by decide +kernel
theorem dX5_quota_19 : decode cX5_quota 19 = .ok (.ifCond .lt 10, 3) := by decide +kernel
theorem dX5_quota_22 : decode cX5_quota 22 = .ok (.iload_n 2, 1) := by decide +kernel
theorem dX5_quota_23 : decode cX5_quota 23 = .ok (.sipush 20000, 3) := by decide +kernel
theorem dX5_quota_26 : decode cX5_quota 26 = .ok (.if_icmp .le 13, 3) := by decide +kernel
theorem dX5_quota_29 : decode cX5_quota 29 = .ok (.new 49, 3) := by decide +kernel
theorem dX5_quota_32 : decode cX5_quota 32 = .ok (.dup, 1) := by decide +kernel
theorem dX5_quota_33 : decode cX5_quota 33 = .ok (.ldc 94, 2) := by decide +kernel
theorem dX5_quota_35 : decode cX5_quota 35 = .ok (.invokespecial 53, 3) := by decide +kernel
theorem dX5_quota_38 : decode cX5_quota 38 = .ok (.athrow, 1) := by decide +kernel
theorem dX5_quota_39 : decode cX5_quota 39 = .ok (.aload_n 0, 1) := by decide +kernel
theorem dX5_quota_40 : decode cX5_quota 40 = .ok (.getfield 27, 3) := by decide +kernel
theorem dX5_quota_43 : decode cX5_quota 43 = .ok (.iload_n 1, 1) := by decide +kernel
theorem dX5_quota_44 : decode cX5_quota 44 = .ok (.aaload, 1) := by decide +kernel
theorem dX5_quota_45 : decode cX5_quota 45 = .ok (.getfield 96, 3) := by decide +kernel
theorem dX5_quota_48 : decode cX5_quota 48 = .ok (.istore_n 3, 1) := by decide +kernel
theorem dX5_quota_49 : decode cX5_quota 49 = .ok (.aload_n 0, 1) := by decide +kernel
theorem dX5_quota_50 : decode cX5_quota 50 = .ok (.getfield 27, 3) := by decide +kernel
theorem dX5_quota_53 : decode cX5_quota 53 = .ok (.iload_n 1, 1) := by decide +kernel
theorem dX5_quota_54 : decode cX5_quota 54 = .ok (.aaload, 1) := by decide +kernel
theorem dX5_quota_55 : decode cX5_quota 55 = .ok (.iload_n 2, 1) := by decide +kernel
theorem dX5_quota_56 : decode cX5_quota 56 = .ok (.putfield 96, 3) := by decide +kernel
theorem dX5_quota_59 : decode cX5_quota 59 = .ok (.iload_n 3, 1) := by decide +kernel
theorem dX5_quota_60 : decode cX5_quota 60 = .ok (.ireturn, 1) := by decide +kernel
theorem dX5_limit_0 : decode cX5_limit 0 = .ok (.iload_n 1, 1) := by decide +kernel
theorem dX5_limit_1 : decode cX5_limit 1 = .ok (.ifCond .lt 10, 3) := by decide +kernel
theorem dX5_limit_4 : decode cX5_limit 4 = .ok (.iload_n 1, 1) := by decide +kernel
theorem dX5_limit_5 : decode cX5_limit 5 = .ok (.sipush 1000, 3) := by decide +kernel
theorem dX5_limit_8 : decode cX5_limit 8 = .ok (.if_icmp .le 13, 3) := by decide +kernel
theorem dX5_limit_11 : decode cX5_limit 11 = .ok (.new 49, 3) := by decide +kernel
theorem dX5_limit_14 : decode cX5_limit 14 = .ok (.dup, 1) := by decide +kernel
theorem dX5_limit_15 : decode cX5_limit 15 = .ok (.ldc 99, 2) := by decide +kernel
theorem dX5_limit_17 : decode cX5_limit 17 = .ok (.invokespecial 53, 3) := by decide +kernel
theorem dX5_limit_20 : decode cX5_limit 20 = .ok (.athrow, 1) := by decide +kernel
theorem dX5_limit_21 : decode cX5_limit 21 = .ok (.aload_n 0, 1) := by decide +kernel
theorem dX5_limit_22 : decode cX5_limit 22 = .ok (.getfield 101, 3) := by decide +kernel
theorem dX5_limit_25 : decode cX5_limit 25 = .ok (.istore_n 2, 1) := by decide +kernel
theorem dX5_limit_26 : decode cX5_limit 26 = .ok (.aload_n 0, 1) := by decide +kernel
theorem dX5_limit_27 : decode cX5_limit 27 = .ok (.iload_n 1, 1) := by decide +kernel
theorem dX5_limit_28 : decode cX5_limit 28 = .ok (.putfield 101, 3) := by decide +kernel
theorem dX5_limit_31 : decode cX5_limit 31 = .ok (.iload_n 2, 1) := by decide +kernel
theorem dX5_limit_32 : decode cX5_limit 32 = .ok (.ireturn, 1) := by decide +kernel
theorem dX5_write_0 : decode cX5_write 0 = .ok (.aload_n 0, 1) := by decide +kernel
theorem dX5_write_1 : decode cX5_write 1 = .ok (.iload_n 1, 1) := by decide +kernel
theorem dX5_write_2 : decode cX5_write 2 = .ok (.invokevirtual 104, 3) := by decide +kernel
theorem dX5_write_5 : decode cX5_write 5 = .ok (.ifCond .eq 11, 3) := by decide +kernel
theorem dX5_write_8 : decode cX5_write 8 = .ok (.aload_n 0, 1) := by decide +kernel
theorem dX5_write_9 : decode cX5_write 9 = .ok (.iload_n 2, 1) := by decide +kernel
theorem dX5_write_10 : decode cX5_write 10 = .ok (.invokevirtual 89, 3) := by decide +kernel
theorem dX5_write_13 : decode cX5_write 13 = .ok (.ifCond .ne 13, 3) := by decide +kernel
theorem dX5_write_16 : decode cX5_write 16 = .ok (.new 81, 3) := by decide +kernel
theorem dX5_write_19 : decode cX5_write 19 = .ok (.dup, 1) := by decide +kernel
theorem dX5_write_20 : decode cX5_write 20 = .ok (.ldc 107, 2) := by decide +kernel
theorem dX5_write_22 : decode cX5_write 22 = .ok (.invokespecial 85, 3) := by decide +kernel
theorem dX5_write_25 : decode cX5_write 25 = .ok (.athrow, 1) := by decide +kernel
theorem dX5_write_26 : decode cX5_write 26 = .ok (.iload_n 3, 1) := by decide +kernel
theorem dX5_write_27 : decode cX5_write 27 = .ok (.iconst 1, 1) := by decide +kernel
theorem dX5_write_28 : decode cX5_write 28 = .ok (.if_icmp .lt 9, 3) := by decide +kernel
theorem dX5_write_31 : decode cX5_write 31 = .ok (.iload_n 3, 1) := by decide +kernel
theorem dX5_write_32 : decode cX5_write 32 = .ok (.bipush 100, 2) := by decide +kernel
theorem dX5_write_34 : decode cX5_write 34 = .ok (.if_icmp .le 13, 3) := by decide +kernel
theorem dX5_write_37 : decode cX5_write 37 = .ok (.new 49, 3) := by decide +kernel
theorem dX5_write_40 : decode cX5_write 40 = .ok (.dup, 1) := by decide +kernel
theorem dX5_write_41 : decode cX5_write 41 = .ok (.ldc 94, 2) := by decide +kernel
theorem dX5_write_43 : decode cX5_write 43 = .ok (.invokespecial 53, 3) := by decide +kernel
theorem dX5_write_46 : decode cX5_write 46 = .ok (.athrow, 1) := by decide +kernel
theorem dX5_write_47 : decode cX5_write 47 = .ok (.aload_n 0, 1) := by decide +kernel
theorem dX5_write_48 : decode cX5_write 48 = .ok (.getfield 38, 3) := by decide +kernel
theorem dX5_write_51 : decode cX5_write 51 = .ok (.aload_n 0, 1) := by decide +kernel
theorem dX5_write_52 : decode cX5_write 52 = .ok (.iload_n 1, 1) := by decide +kernel
theorem dX5_write_53 : decode cX5_write 53 = .ok (.invokevirtual 109, 3) := by decide +kernel
theorem dX5_write_56 : decode cX5_write 56 = .ok (.aaload, 1) := by decide +kernel
theorem dX5_write_57 : decode cX5_write 57 = .ok (.astore 4, 2) := by decide +kernel
theorem dX5_write_59 : decode cX5_write 59 = .ok (.aload_n 0, 1) := by decide +kernel
theorem dX5_write_60 : decode cX5_write 60 = .ok (.aload 4, 2) := by decide +kernel
theorem dX5_write_62 : decode cX5_write 62 = .ok (.invokevirtual 113, 3) := by decide +kernel
theorem dX5_write_65 : decode cX5_write 65 = .ok (.ifCond .eq 32, 3) := by decide +kernel
theorem dX5_write_68 : decode cX5_write 68 = .ok (.aload 4, 2) := by decide +kernel
theorem dX5_write_70 : decode cX5_write 70 = .ok (.getfield 117, 3) := by decide +kernel
theorem dX5_write_73 : decode cX5_write 73 = .ok (.iload_n 3, 1) := by decide +kernel
theorem dX5_write_74 : decode cX5_write 74 = .ok (.aload_n 0, 1) := by decide +kernel
theorem dX5_write_75 : decode cX5_write 75 = .ok (.getfield 18, 3) := by decide +kernel
theorem dX5_write_78 : decode cX5_write 78 = .ok (.iload_n 1, 1) := by decide +kernel
theorem dX5_write_79 : decode cX5_write 79 = .ok (.iaload, 1) := by decide +kernel
theorem dX5_write_80 : decode cX5_write 80 = .ok (.isub, 1) := by decide +kernel
theorem dX5_write_81 : decode cX5_write 81 = .ok (.invokevirtual 120, 3) := by decide +kernel
theorem dX5_write_84 : decode cX5_write 84 = .ok (.ifCond .eq 13, 3) := by decide +kernel
theorem dX5_write_87 : decode cX5_write 87 = .ok (.aload_n 0, 1) := by decide +kernel
theorem dX5_write_88 : decode cX5_write 88 = .ok (.iload_n 2, 1) := by decide +kernel
theorem dX5_write_89 : decode cX5_write 89 = .ok (.iload_n 1, 1) := by decide +kernel
theorem dX5_write_90 : decode cX5_write 90 = .ok (.iload_n 3, 1) := by decide +kernel
theorem dX5_write_91 : decode cX5_write 91 = .ok (.invokevirtual 123, 3) := by decide +kernel
theorem dX5_write_94 : decode cX5_write 94 = .ok (.ifCond .ne 13, 3) := by decide +kernel
theorem dX5_write_97 : decode cX5_write 97 = .ok (.new 59, 3) := by decide +kernel
theorem dX5_write_100 : decode cX5_write 100 = .ok (.dup, 1) := by decide +kernel
theorem dX5_write_101 : decode cX5_write 101 = .ok (.ldc 127, 2) := by decide +kernel
theorem dX5_write_103 : decode cX5_write 103 = .ok (.invokespecial 63, 3) := by decide +kernel
theorem dX5_write_106 : decode cX5_write 106 = .ok (.athrow, 1) := by decide +kernel
theorem dX5_write_107 : decode cX5_write 107 = .ok (.aload_n 0, 1) := by decide +kernel
theorem dX5_write_108 : decode cX5_write 108 = .ok (.aload 4, 2) := by decide +kernel
theorem dX5_write_110 : decode cX5_write 110 = .ok (.iload_n 1, 1) := by decide +kernel
theorem dX5_write_111 : decode cX5_write 111 = .ok (.iload_n 2, 1) := by decide +kernel
theorem dX5_write_112 : decode cX5_write 112 = .ok (.iload_n 3, 1) := by decide +kernel
theorem dX5_write_113 : decode cX5_write 113 = .ok (.invokevirtual 129, 3) := by decide +kernel
theorem dX5_write_116 : decode cX5_write 116 = .ok (.aload_n 0, 1) := by decide +kernel
theorem dX5_write_117 : decode cX5_write 117 = .ok (.getfield 27, 3) := by decide +kernel
theorem dX5_write_120 : decode cX5_write 120 = .ok (.iload_n 2, 1) := by decide +kernel
theorem dX5_write_121 : decode cX5_write 121 = .ok (.aaload, 1) := by decide +kernel
theorem dX5_write_122 : decode cX5_write 122 = .ok (.getfield 133, 3) := by decide +kernel
theorem dX5_write_125 : decode cX5_write 125 = .ok (.ireturn, 1) := by decide +kernel
theorem dX5_take_0 : decode cX5_take 0 = .ok (.aload_n 0, 1) := by decide +kernel
theorem dX5_take_1 : decode cX5_take 1 = .ok (.iload_n 1, 1) := by decide +kernel
theorem dX5_take_2 : decode cX5_take 2 = .ok (.invokevirtual 104, 3) := by decide +kernel
theorem dX5_take_5 : decode cX5_take 5 = .ok (.ifCond .ne 13, 3) := by decide +kernel
theorem dX5_take_8 : decode cX5_take 8 = .ok (.new 81, 3) := by decide +kernel
theorem dX5_take_11 : decode cX5_take 11 = .ok (.dup, 1) := by decide +kernel
theorem dX5_take_12 : decode cX5_take 12 = .ok (.ldc 136, 2) := by decide +kernel
theorem dX5_take_14 : decode cX5_take 14 = .ok (.invokespecial 85, 3) := by decide +kernel
theorem dX5_take_17 : decode cX5_take 17 = .ok (.athrow, 1) := by decide +kernel
theorem dX5_take_18 : decode cX5_take 18 = .ok (.aload_n 0, 1) := by decide +kernel
theorem dX5_take_19 : decode cX5_take 19 = .ok (.getfield 18, 3) := by decide +kernel
theorem dX5_take_22 : decode cX5_take 22 = .ok (.iload_n 1, 1) := by decide +kernel
theorem dX5_take_23 : decode cX5_take 23 = .ok (.iaload, 1) := by decide +kernel
theorem dX5_take_24 : decode cX5_take 24 = .ok (.istore_n 2, 1) := by decide +kernel
theorem dX5_take_25 : decode cX5_take 25 = .ok (.aload_n 0, 1) := by decide +kernel
theorem dX5_take_26 : decode cX5_take 26 = .ok (.getfield 38, 3) := by decide +kernel
theorem dX5_take_29 : decode cX5_take 29 = .ok (.aload_n 0, 1) := by decide +kernel
theorem dX5_take_30 : decode cX5_take 30 = .ok (.iload_n 1, 1) := by decide +kernel
theorem dX5_take_31 : decode cX5_take 31 = .ok (.invokevirtual 109, 3) := by decide +kernel
theorem dX5_take_34 : decode cX5_take 34 = .ok (.aaload, 1) := by decide +kernel
theorem dX5_take_35 : decode cX5_take 35 = .ok (.astore_n 3, 1) := by decide +kernel
theorem dX5_take_36 : decode cX5_take 36 = .ok (.iload_n 2, 1) := by decide +kernel
theorem dX5_take_37 : decode cX5_take 37 = .ok (.ifCond .eq 11, 3) := by decide +kernel
theorem dX5_take_40 : decode cX5_take 40 = .ok (.aload_n 0, 1) := by decide +kernel
theorem dX5_take_41 : decode cX5_take 41 = .ok (.aload_n 3, 1) := by decide +kernel
theorem dX5_take_42 : decode cX5_take 42 = .ok (.invokevirtual 113, 3) := by decide +kernel
theorem dX5_take_45 : decode cX5_take 45 = .ok (.ifCond .ne 13, 3) := by decide +kernel
theorem dX5_take_48 : decode cX5_take 48 = .ok (.new 59, 3) := by decide +kernel
theorem dX5_take_51 : decode cX5_take 51 = .ok (.dup, 1) := by decide +kernel
theorem dX5_take_52 : decode cX5_take 52 = .ok (.ldc 138, 2) := by decide +kernel
theorem dX5_take_54 : decode cX5_take 54 = .ok (.invokespecial 63, 3) := by decide +kernel
theorem dX5_take_57 : decode cX5_take 57 = .ok (.athrow, 1) := by decide +kernel
theorem dX5_take_58 : decode cX5_take 58 = .ok (.aload_n 0, 1) := by decide +kernel
theorem dX5_take_59 : decode cX5_take 59 = .ok (.aload_n 3, 1) := by decide +kernel
theorem dX5_take_60 : decode cX5_take 60 = .ok (.iload_n 1, 1) := by decide +kernel
theorem dX5_take_61 : decode cX5_take 61 = .ok (.iconst (-1), 1) := by decide +kernel
theorem dX5_take_62 : decode cX5_take 62 = .ok (.iconst 0, 1) := by decide +kernel
theorem dX5_take_63 : decode cX5_take 63 = .ok (.invokevirtual 129, 3) := by decide +kernel
theorem dX5_take_66 : decode cX5_take 66 = .ok (.iload_n 2, 1) := by decide +kernel
theorem dX5_take_67 : decode cX5_take 67 = .ok (.ireturn, 1) := by decide +kernel
theorem dX5_read_0 : decode cX5_read 0 = .ok (.aload_n 0, 1) := by decide +kernel
theorem dX5_read_1 : decode cX5_read 1 = .ok (.iload_n 1, 1) := by decide +kernel
theorem dX5_read_2 : decode cX5_read 2 = .ok (.invokevirtual 104, 3) := by decide +kernel
theorem dX5_read_5 : decode cX5_read 5 = .ok (.ifCond .ne 13, 3) := by decide +kernel
theorem dX5_read_8 : decode cX5_read 8 = .ok (.new 81, 3) := by decide +kernel
theorem dX5_read_11 : decode cX5_read 11 = .ok (.dup, 1) := by decide +kernel
theorem dX5_read_12 : decode cX5_read 12 = .ok (.ldc 136, 2) := by decide +kernel
theorem dX5_read_14 : decode cX5_read 14 = .ok (.invokespecial 85, 3) := by decide +kernel
theorem dX5_read_17 : decode cX5_read 17 = .ok (.athrow, 1) := by decide +kernel
theorem dX5_read_18 : decode cX5_read 18 = .ok (.aload_n 0, 1) := by decide +kernel
theorem dX5_read_19 : decode cX5_read 19 = .ok (.getfield 38, 3) := by decide +kernel
theorem dX5_read_22 : decode cX5_read 22 = .ok (.aload_n 0, 1) := by decide +kernel
theorem dX5_read_23 : decode cX5_read 23 = .ok (.iload_n 1, 1) := by decide +kernel
theorem dX5_read_24 : decode cX5_read 24 = .ok (.invokevirtual 109, 3) := by decide +kernel
theorem dX5_read_27 : decode cX5_read 27 = .ok (.aaload, 1) := by decide +kernel
theorem dX5_read_28 : decode cX5_read 28 = .ok (.astore_n 2, 1) := by decide +kernel
theorem dX5_read_29 : decode cX5_read 29 = .ok (.aload_n 2, 1) := by decide +kernel
theorem dX5_read_30 : decode cX5_read 30 = .ok (.getfield 117, 3) := by decide +kernel
theorem dX5_read_33 : decode cX5_read 33 = .ok (.getfield 67, 3) := by decide +kernel
theorem dX5_read_36 : decode cX5_read 36 = .ok (.ifCond .ne 13, 3) := by decide +kernel
theorem dX5_read_39 : decode cX5_read 39 = .ok (.new 59, 3) := by decide +kernel
theorem dX5_read_42 : decode cX5_read 42 = .ok (.dup, 1) := by decide +kernel
theorem dX5_read_43 : decode cX5_read 43 = .ok (.ldc 140, 2) := by decide +kernel
theorem dX5_read_45 : decode cX5_read 45 = .ok (.invokespecial 63, 3) := by decide +kernel
theorem dX5_read_48 : decode cX5_read 48 = .ok (.athrow, 1) := by decide +kernel
theorem dX5_read_49 : decode cX5_read 49 = .ok (.aload_n 2, 1) := by decide +kernel
theorem dX5_read_50 : decode cX5_read 50 = .ok (.dup, 1) := by decide +kernel
theorem dX5_read_51 : decode cX5_read 51 = .ok (.getfield 142, 3) := by decide +kernel
theorem dX5_read_54 : decode cX5_read 54 = .ok (.iconst 1, 1) := by decide +kernel
theorem dX5_read_55 : decode cX5_read 55 = .ok (.iadd, 1) := by decide +kernel
theorem dX5_read_56 : decode cX5_read 56 = .ok (.putfield 142, 3) := by decide +kernel
theorem dX5_read_59 : decode cX5_read 59 = .ok (.aload_n 0, 1) := by decide +kernel
theorem dX5_read_60 : decode cX5_read 60 = .ok (.getfield 18, 3) := by decide +kernel
theorem dX5_read_63 : decode cX5_read 63 = .ok (.iload_n 1, 1) := by decide +kernel
theorem dX5_read_64 : decode cX5_read 64 = .ok (.iaload, 1) := by decide +kernel
theorem dX5_read_65 : decode cX5_read 65 = .ok (.ireturn, 1) := by decide +kernel
theorem dX5_split_0 : decode cX5_split 0 = .ok (.aload_n 0, 1) := by decide +kernel
theorem dX5_split_1 : decode cX5_split 1 = .ok (.iload_n 1, 1) := by decide +kernel
theorem dX5_split_2 : decode cX5_split 2 = .ok (.invokevirtual 104, 3) := by decide +kernel
theorem dX5_split_5 : decode cX5_split 5 = .ok (.ifCond .eq 7, 3) := by decide +kernel
theorem dX5_split_8 : decode cX5_split 8 = .ok (.iload_n 1, 1) := by decide +kernel
theorem dX5_split_9 : decode cX5_split 9 = .ok (.ifCond .ne 13, 3) := by decide +kernel
theorem dX5_split_12 : decode cX5_split 12 = .ok (.new 81, 3) := by decide +kernel
theorem dX5_split_15 : decode cX5_split 15 = .ok (.dup, 1) := by decide +kernel
theorem dX5_split_16 : decode cX5_split 16 = .ok (.ldc 145, 2) := by decide +kernel
theorem dX5_split_18 : decode cX5_split 18 = .ok (.invokespecial 85, 3) := by decide +kernel
theorem dX5_split_21 : decode cX5_split 21 = .ok (.athrow, 1) := by decide +kernel
theorem dX5_split_22 : decode cX5_split 22 = .ok (.aload_n 0, 1) := by decide +kernel
theorem dX5_split_23 : decode cX5_split 23 = .ok (.iload_n 1, 1) := by decide +kernel
theorem dX5_split_24 : decode cX5_split 24 = .ok (.invokevirtual 109, 3) := by decide +kernel
theorem dX5_split_27 : decode cX5_split 27 = .ok (.istore_n 2, 1) := by decide +kernel
theorem dX5_split_28 : decode cX5_split 28 = .ok (.aload_n 0, 1) := by decide +kernel
theorem dX5_split_29 : decode cX5_split 29 = .ok (.getfield 38, 3) := by decide +kernel
theorem dX5_split_32 : decode cX5_split 32 = .ok (.iload_n 2, 1) := by decide +kernel
theorem dX5_split_33 : decode cX5_split 33 = .ok (.aaload, 1) := by decide +kernel
theorem dX5_split_34 : decode cX5_split 34 = .ok (.astore_n 3, 1) := by decide +kernel
theorem dX5_split_35 : decode cX5_split 35 = .ok (.aload_n 3, 1) := by decide +kernel
theorem dX5_split_36 : decode cX5_split 36 = .ok (.getfield 147, 3) := by decide +kernel
theorem dX5_split_39 : decode cX5_split 39 = .ok (.iload_n 1, 1) := by decide +kernel
theorem dX5_split_40 : decode cX5_split 40 = .ok (.if_icmp .eq 19, 3) := by decide +kernel
theorem dX5_split_43 : decode cX5_split 43 = .ok (.aload_n 3, 1) := by decide +kernel
theorem dX5_split_44 : decode cX5_split 44 = .ok (.invokevirtual 150, 3) := by decide +kernel
theorem dX5_split_47 : decode cX5_split 47 = .ok (.ifCond .ne 12, 3) := by decide +kernel
theorem dX5_split_50 : decode cX5_split 50 = .ok (.aload_n 0, 1) := by decide +kernel
theorem dX5_split_51 : decode cX5_split 51 = .ok (.getfield 45, 3) := by decide +kernel
theorem dX5_split_54 : decode cX5_split 54 = .ok (.bipush 16, 2) := by decide +kernel
theorem dX5_split_56 : decode cX5_split 56 = .ok (.if_icmp .lt 13, 3) := by decide +kernel
theorem dX5_split_59 : decode cX5_split 59 = .ok (.new 59, 3) := by decide +kernel
theorem dX5_split_62 : decode cX5_split 62 = .ok (.dup, 1) := by decide +kernel
theorem dX5_split_63 : decode cX5_split 63 = .ok (.ldc 154, 2) := by decide +kernel
theorem dX5_split_65 : decode cX5_split 65 = .ok (.invokespecial 63, 3) := by decide +kernel
theorem dX5_split_68 : decode cX5_split 68 = .ok (.athrow, 1) := by decide +kernel
theorem dX5_split_69 : decode cX5_split 69 = .ok (.aload_n 0, 1) := by decide +kernel
theorem dX5_split_70 : decode cX5_split 70 = .ok (.getfield 38, 3) := by decide +kernel
theorem dX5_split_73 : decode cX5_split 73 = .ok (.aload_n 0, 1) := by decide +kernel
theorem dX5_split_74 : decode cX5_split 74 = .ok (.getfield 45, 3) := by decide +kernel
theorem dX5_split_77 : decode cX5_split 77 = .ok (.aaload, 1) := by decide +kernel
theorem dX5_split_78 : decode cX5_split 78 = .ok (.astore 4, 2) := by decide +kernel
theorem dX5_split_80 : decode cX5_split 80 = .ok (.aload_n 0, 1) := by decide +kernel
theorem dX5_split_81 : decode cX5_split 81 = .ok (.getfield 45, 3) := by decide +kernel
theorem dX5_split_84 : decode cX5_split 84 = .ok (.istore 5, 2) := by decide +kernel
theorem dX5_split_86 : decode cX5_split 86 = .ok (.iload 5, 2) := by decide +kernel
theorem dX5_split_88 : decode cX5_split 88 = .ok (.iload_n 2, 1) := by decide +kernel
theorem dX5_split_89 : decode cX5_split 89 = .ok (.iconst 1, 1) := by decide +kernel
theorem dX5_split_90 : decode cX5_split 90 = .ok (.iadd, 1) := by decide +kernel
theorem dX5_split_91 : decode cX5_split 91 = .ok (.if_icmp .le 25, 3) := by decide +kernel
theorem dX5_split_94 : decode cX5_split 94 = .ok (.aload_n 0, 1) := by decide +kernel
theorem dX5_split_95 : decode cX5_split 95 = .ok (.getfield 38, 3) := by decide +kernel
theorem dX5_split_98 : decode cX5_split 98 = .ok (.iload 5, 2) := by decide +kernel
theorem dX5_split_100 : decode cX5_split 100 = .ok (.aload_n 0, 1) := by decide +kernel
theorem dX5_split_101 : decode cX5_split 101 = .ok (.getfield 38, 3) := by decide +kernel
theorem dX5_split_104 : decode cX5_split 104 = .ok (.iload 5, 2) := by decide +kernel
theorem dX5_split_106 : decode cX5_split 106 = .ok (.iconst 1, 1) := by decide +kernel
theorem dX5_split_107 : decode cX5_split 107 = .ok (.isub, 1) := by decide +kernel
theorem dX5_split_108 : decode cX5_split 108 = .ok (.aaload, 1) := by decide +kernel
theorem dX5_split_109 : decode cX5_split 109 = .ok (.aastore, 1) := by decide +kernel
theorem dX5_split_110 : decode cX5_split 110 = .ok (.iinc 5 (-1), 3) := by decide +kernel
theorem dX5_split_113 : decode cX5_split 113 = .ok (.goto (-27), 3) := by decide +kernel
theorem dX5_split_116 : decode cX5_split 116 = .ok (.aload_n 0, 1) := by decide +kernel
theorem dX5_split_117 : decode cX5_split 117 = .ok (.getfield 38, 3) := by decide +kernel
theorem dX5_split_120 : decode cX5_split 120 = .ok (.iload_n 2, 1) := by decide +kernel
theorem dX5_split_121 : decode cX5_split 121 = .ok (.iconst 1, 1) := by decide +kernel
theorem dX5_split_122 : decode cX5_split 122 = .ok (.iadd, 1) := by decide +kernel
theorem dX5_split_123 : decode cX5_split 123 = .ok (.aload 4, 2) := by decide +kernel
theorem dX5_split_125 : decode cX5_split 125 = .ok (.aastore, 1) := by decide +kernel
theorem dX5_split_126 : decode cX5_split 126 = .ok (.aload_n 0, 1) := by decide +kernel
theorem dX5_split_127 : decode cX5_split 127 = .ok (.dup, 1) := by decide +kernel
theorem dX5_split_128 : decode cX5_split 128 = .ok (.getfield 45, 3) := by decide +kernel
theorem dX5_split_131 : decode cX5_split 131 = .ok (.iconst 1, 1) := by decide +kernel
theorem dX5_split_132 : decode cX5_split 132 = .ok (.iadd, 1) := by decide +kernel
theorem dX5_split_133 : decode cX5_split 133 = .ok (.putfield 45, 3) := by decide +kernel
theorem dX5_split_136 : decode cX5_split 136 = .ok (.aload_n 0, 1) := by decide +kernel
theorem dX5_split_137 : decode cX5_split 137 = .ok (.aload_n 3, 1) := by decide +kernel
theorem dX5_split_138 : decode cX5_split 138 = .ok (.aload 4, 2) := by decide +kernel
theorem dX5_split_140 : decode cX5_split 140 = .ok (.iload_n 1, 1) := by decide +kernel
theorem dX5_split_141 : decode cX5_split 141 = .ok (.invokevirtual 156, 3) := by decide +kernel
theorem dX5_split_144 : decode cX5_split 144 = .ok (.iload_n 2, 1) := by decide +kernel
theorem dX5_split_145 : decode cX5_split 145 = .ok (.iconst 1, 1) := by decide +kernel
theorem dX5_split_146 : decode cX5_split 146 = .ok (.iadd, 1) := by decide +kernel
theorem dX5_split_147 : decode cX5_split 147 = .ok (.ireturn, 1) := by decide +kernel
theorem dX5_join_0 : decode cX5_join 0 = .ok (.aload_n 0, 1) := by decide +kernel
theorem dX5_join_1 : decode cX5_join 1 = .ok (.iload_n 1, 1) := by decide +kernel
theorem dX5_join_2 : decode cX5_join 2 = .ok (.invokevirtual 160, 3) := by decide +kernel
theorem dX5_join_5 : decode cX5_join 5 = .ok (.ifCond .ne 13, 3) := by decide +kernel
theorem dX5_join_8 : decode cX5_join 8 = .ok (.new 81, 3) := by decide +kernel
theorem dX5_join_11 : decode cX5_join 11 = .ok (.dup, 1) := by decide +kernel
theorem dX5_join_12 : decode cX5_join 12 = .ok (.ldc 163, 2) := by decide +kernel
theorem dX5_join_14 : decode cX5_join 14 = .ok (.invokespecial 85, 3) := by decide +kernel
theorem dX5_join_17 : decode cX5_join 17 = .ok (.athrow, 1) := by decide +kernel
theorem dX5_join_18 : decode cX5_join 18 = .ok (.aload_n 0, 1) := by decide +kernel
theorem dX5_join_19 : decode cX5_join 19 = .ok (.iload_n 1, 1) := by decide +kernel
theorem dX5_join_20 : decode cX5_join 20 = .ok (.iconst 1, 1) := by decide +kernel
theorem dX5_join_21 : decode cX5_join 21 = .ok (.iadd, 1) := by decide +kernel
theorem dX5_join_22 : decode cX5_join 22 = .ok (.invokevirtual 160, 3) := by decide +kernel
theorem dX5_join_25 : decode cX5_join 25 = .ok (.ifCond .eq 24, 3) := by decide +kernel
theorem dX5_join_28 : decode cX5_join 28 = .ok (.aload_n 0, 1) := by decide +kernel
theorem dX5_join_29 : decode cX5_join 29 = .ok (.aload_n 0, 1) := by decide +kernel
theorem dX5_join_30 : decode cX5_join 30 = .ok (.getfield 38, 3) := by decide +kernel
theorem dX5_join_33 : decode cX5_join 33 = .ok (.iload_n 1, 1) := by decide +kernel
theorem dX5_join_34 : decode cX5_join 34 = .ok (.aaload, 1) := by decide +kernel
theorem dX5_join_35 : decode cX5_join 35 = .ok (.aload_n 0, 1) := by decide +kernel
theorem dX5_join_36 : decode cX5_join 36 = .ok (.getfield 38, 3) := by decide +kernel
theorem dX5_join_39 : decode cX5_join 39 = .ok (.iload_n 1, 1) := by decide +kernel
theorem dX5_join_40 : decode cX5_join 40 = .ok (.iconst 1, 1) := by decide +kernel
theorem dX5_join_41 : decode cX5_join 41 = .ok (.iadd, 1) := by decide +kernel
theorem dX5_join_42 : decode cX5_join 42 = .ok (.aaload, 1) := by decide +kernel
theorem dX5_join_43 : decode cX5_join 43 = .ok (.invokevirtual 165, 3) := by decide +kernel
theorem dX5_join_46 : decode cX5_join 46 = .ok (.ifCond .ne 13, 3) := by decide +kernel
theorem dX5_join_49 : decode cX5_join 49 = .ok (.new 59, 3) := by decide +kernel
theorem dX5_join_52 : decode cX5_join 52 = .ok (.dup, 1) := by decide +kernel
theorem dX5_join_53 : decode cX5_join 53 = .ok (.ldc 169, 2) := by decide +kernel
theorem dX5_join_55 : decode cX5_join 55 = .ok (.invokespecial 63, 3) := by decide +kernel
theorem dX5_join_58 : decode cX5_join 58 = .ok (.athrow, 1) := by decide +kernel
theorem dX5_join_59 : decode cX5_join 59 = .ok (.aload_n 0, 1) := by decide +kernel
theorem dX5_join_60 : decode cX5_join 60 = .ok (.getfield 38, 3) := by decide +kernel
theorem dX5_join_63 : decode cX5_join 63 = .ok (.iload_n 1, 1) := by decide +kernel
theorem dX5_join_64 : decode cX5_join 64 = .ok (.aaload, 1) := by decide +kernel
theorem dX5_join_65 : decode cX5_join 65 = .ok (.astore_n 2, 1) := by decide +kernel
theorem dX5_join_66 : decode cX5_join 66 = .ok (.aload_n 0, 1) := by decide +kernel
theorem dX5_join_67 : decode cX5_join 67 = .ok (.getfield 38, 3) := by decide +kernel
theorem dX5_join_70 : decode cX5_join 70 = .ok (.iload_n 1, 1) := by decide +kernel
theorem dX5_join_71 : decode cX5_join 71 = .ok (.iconst 1, 1) := by decide +kernel
theorem dX5_join_72 : decode cX5_join 72 = .ok (.iadd, 1) := by decide +kernel
theorem dX5_join_73 : decode cX5_join 73 = .ok (.aaload, 1) := by decide +kernel
theorem dX5_join_74 : decode cX5_join 74 = .ok (.astore_n 3, 1) := by decide +kernel
theorem dX5_join_75 : decode cX5_join 75 = .ok (.aload_n 2, 1) := by decide +kernel
theorem dX5_join_76 : decode cX5_join 76 = .ok (.aload_n 3, 1) := by decide +kernel
theorem dX5_join_77 : decode cX5_join 77 = .ok (.getfield 171, 3) := by decide +kernel
theorem dX5_join_80 : decode cX5_join 80 = .ok (.putfield 171, 3) := by decide +kernel
theorem dX5_join_83 : decode cX5_join 83 = .ok (.aload_n 2, 1) := by decide +kernel
theorem dX5_join_84 : decode cX5_join 84 = .ok (.dup, 1) := by decide +kernel
theorem dX5_join_85 : decode cX5_join 85 = .ok (.getfield 174, 3) := by decide +kernel
theorem dX5_join_88 : decode cX5_join 88 = .ok (.aload_n 3, 1) := by decide +kernel
theorem dX5_join_89 : decode cX5_join 89 = .ok (.getfield 174, 3) := by decide +kernel
theorem dX5_join_92 : decode cX5_join 92 = .ok (.iadd, 1) := by decide +kernel
theorem dX5_join_93 : decode cX5_join 93 = .ok (.putfield 174, 3) := by decide +kernel
theorem dX5_join_96 : decode cX5_join 96 = .ok (.aload_n 2, 1) := by decide +kernel
theorem dX5_join_97 : decode cX5_join 97 = .ok (.dup, 1) := by decide +kernel
theorem dX5_join_98 : decode cX5_join 98 = .ok (.getfield 142, 3) := by decide +kernel
theorem dX5_join_101 : decode cX5_join 101 = .ok (.aload_n 3, 1) := by decide +kernel
theorem dX5_join_102 : decode cX5_join 102 = .ok (.getfield 142, 3) := by decide +kernel
theorem dX5_join_105 : decode cX5_join 105 = .ok (.iadd, 1) := by decide +kernel
theorem dX5_join_106 : decode cX5_join 106 = .ok (.putfield 142, 3) := by decide +kernel
theorem dX5_join_109 : decode cX5_join 109 = .ok (.aload_n 0, 1) := by decide +kernel
theorem dX5_join_110 : decode cX5_join 110 = .ok (.dup, 1) := by decide +kernel
theorem dX5_join_111 : decode cX5_join 111 = .ok (.getfield 45, 3) := by decide +kernel
theorem dX5_join_114 : decode cX5_join 114 = .ok (.iconst 1, 1) := by decide +kernel
theorem dX5_join_115 : decode cX5_join 115 = .ok (.isub, 1) := by decide +kernel
theorem dX5_join_116 : decode cX5_join 116 = .ok (.putfield 45, 3) := by decide +kernel
theorem dX5_join_119 : decode cX5_join 119 = .ok (.iload_n 1, 1) := by decide +kernel
theorem dX5_join_120 : decode cX5_join 120 = .ok (.iconst 1, 1) := by decide +kernel
theorem dX5_join_121 : decode cX5_join 121 = .ok (.iadd, 1) := by decide +kernel
theorem dX5_join_122 : decode cX5_join 122 = .ok (.istore 4, 2) := by decide +kernel
theorem dX5_join_124 : decode cX5_join 124 = .ok (.iload 4, 2) := by decide +kernel
theorem dX5_join_126 : decode cX5_join 126 = .ok (.aload_n 0, 1) := by decide +kernel
theorem dX5_join_127 : decode cX5_join 127 = .ok (.getfield 45, 3) := by decide +kernel
theorem dX5_join_130 : decode cX5_join 130 = .ok (.if_icmp .ge 25, 3) := by decide +kernel
theorem dX5_join_133 : decode cX5_join 133 = .ok (.aload_n 0, 1) := by decide +kernel
theorem dX5_join_134 : decode cX5_join 134 = .ok (.getfield 38, 3) := by decide +kernel
theorem dX5_join_137 : decode cX5_join 137 = .ok (.iload 4, 2) := by decide +kernel
theorem dX5_join_139 : decode cX5_join 139 = .ok (.aload_n 0, 1) := by decide +kernel
theorem dX5_join_140 : decode cX5_join 140 = .ok (.getfield 38, 3) := by decide +kernel
theorem dX5_join_143 : decode cX5_join 143 = .ok (.iload 4, 2) := by decide +kernel
theorem dX5_join_145 : decode cX5_join 145 = .ok (.iconst 1, 1) := by decide +kernel
theorem dX5_join_146 : decode cX5_join 146 = .ok (.iadd, 1) := by decide +kernel
theorem dX5_join_147 : decode cX5_join 147 = .ok (.aaload, 1) := by decide +kernel
theorem dX5_join_148 : decode cX5_join 148 = .ok (.aastore, 1) := by decide +kernel
theorem dX5_join_149 : decode cX5_join 149 = .ok (.iinc 4 1, 3) := by decide +kernel
theorem dX5_join_152 : decode cX5_join 152 = .ok (.goto (-28), 3) := by decide +kernel
theorem dX5_join_155 : decode cX5_join 155 = .ok (.aload_n 0, 1) := by decide +kernel
theorem dX5_join_156 : decode cX5_join 156 = .ok (.getfield 38, 3) := by decide +kernel
theorem dX5_join_159 : decode cX5_join 159 = .ok (.aload_n 0, 1) := by decide +kernel
theorem dX5_join_160 : decode cX5_join 160 = .ok (.getfield 45, 3) := by decide +kernel
theorem dX5_join_163 : decode cX5_join 163 = .ok (.aload_n 3, 1) := by decide +kernel
theorem dX5_join_164 : decode cX5_join 164 = .ok (.aastore, 1) := by decide +kernel
theorem dX5_join_165 : decode cX5_join 165 = .ok (.aload_n 0, 1) := by decide +kernel
theorem dX5_join_166 : decode cX5_join 166 = .ok (.getfield 45, 3) := by decide +kernel
theorem dX5_join_169 : decode cX5_join 169 = .ok (.ireturn, 1) := by decide +kernel
theorem dX5_move_0 : decode cX5_move 0 = .ok (.aload_n 0, 1) := by decide +kernel
theorem dX5_move_1 : decode cX5_move 1 = .ok (.iload_n 1, 1) := by decide +kernel
theorem dX5_move_2 : decode cX5_move 2 = .ok (.invokevirtual 160, 3) := by decide +kernel
theorem dX5_move_5 : decode cX5_move 5 = .ok (.ifCond .eq 11, 3) := by decide +kernel
theorem dX5_move_8 : decode cX5_move 8 = .ok (.aload_n 0, 1) := by decide +kernel
theorem dX5_move_9 : decode cX5_move 9 = .ok (.iload_n 2, 1) := by decide +kernel
theorem dX5_move_10 : decode cX5_move 10 = .ok (.invokevirtual 77, 3) := by decide +kernel
theorem dX5_move_13 : decode cX5_move 13 = .ok (.ifCond .ne 13, 3) := by decide +kernel
theorem dX5_move_16 : decode cX5_move 16 = .ok (.new 81, 3) := by decide +kernel
theorem dX5_move_19 : decode cX5_move 19 = .ok (.dup, 1) := by decide +kernel
theorem dX5_move_20 : decode cX5_move 20 = .ok (.ldc 175, 2) := by decide +kernel
theorem dX5_move_22 : decode cX5_move 22 = .ok (.invokespecial 85, 3) := by decide +kernel
theorem dX5_move_25 : decode cX5_move 25 = .ok (.athrow, 1) := by decide +kernel
theorem dX5_move_26 : decode cX5_move 26 = .ok (.aload_n 0, 1) := by decide +kernel
theorem dX5_move_27 : decode cX5_move 27 = .ok (.getfield 38, 3) := by decide +kernel
theorem dX5_move_30 : decode cX5_move 30 = .ok (.iload_n 1, 1) := by decide +kernel
theorem dX5_move_31 : decode cX5_move 31 = .ok (.aaload, 1) := by decide +kernel
theorem dX5_move_32 : decode cX5_move 32 = .ok (.astore_n 3, 1) := by decide +kernel
theorem dX5_move_33 : decode cX5_move 33 = .ok (.aload_n 0, 1) := by decide +kernel
theorem dX5_move_34 : decode cX5_move 34 = .ok (.getfield 32, 3) := by decide +kernel
theorem dX5_move_37 : decode cX5_move 37 = .ok (.iload_n 2, 1) := by decide +kernel
theorem dX5_move_38 : decode cX5_move 38 = .ok (.aaload, 1) := by decide +kernel
theorem dX5_move_39 : decode cX5_move 39 = .ok (.astore 4, 2) := by decide +kernel
theorem dX5_move_41 : decode cX5_move 41 = .ok (.aload_n 3, 1) := by decide +kernel
theorem dX5_move_42 : decode cX5_move 42 = .ok (.getfield 117, 3) := by decide +kernel
theorem dX5_move_45 : decode cX5_move 45 = .ok (.aload 4, 2) := by decide +kernel
theorem dX5_move_47 : decode cX5_move 47 = .ok (.if_acmp .eq 28, 3) := by decide +kernel
theorem dX5_move_50 : decode cX5_move 50 = .ok (.aload_n 3, 1) := by decide +kernel
theorem dX5_move_51 : decode cX5_move 51 = .ok (.invokevirtual 150, 3) := by decide +kernel
theorem dX5_move_54 : decode cX5_move 54 = .ok (.ifCond .ne 21, 3) := by decide +kernel
theorem dX5_move_57 : decode cX5_move 57 = .ok (.aload_n 3, 1) := by decide +kernel
theorem dX5_move_58 : decode cX5_move 58 = .ok (.getfield 117, 3) := by decide +kernel
theorem dX5_move_61 : decode cX5_move 61 = .ok (.getfield 67, 3) := by decide +kernel
theorem dX5_move_64 : decode cX5_move 64 = .ok (.ifCond .eq 11, 3) := by decide +kernel
theorem dX5_move_67 : decode cX5_move 67 = .ok (.aload 4, 2) := by decide +kernel
theorem dX5_move_69 : decode cX5_move 69 = .ok (.getfield 67, 3) := by decide +kernel
theorem dX5_move_72 : decode cX5_move 72 = .ok (.ifCond .ne 13, 3) := by decide +kernel
theorem dX5_move_75 : decode cX5_move 75 = .ok (.new 59, 3) := by decide +kernel
theorem dX5_move_78 : decode cX5_move 78 = .ok (.dup, 1) := by decide +kernel
theorem dX5_move_79 : decode cX5_move 79 = .ok (.ldc 177, 2) := by decide +kernel
theorem dX5_move_81 : decode cX5_move 81 = .ok (.invokespecial 63, 3) := by decide +kernel
theorem dX5_move_84 : decode cX5_move 84 = .ok (.athrow, 1) := by decide +kernel
theorem dX5_move_85 : decode cX5_move 85 = .ok (.aload_n 3, 1) := by decide +kernel
theorem dX5_move_86 : decode cX5_move 86 = .ok (.aload 4, 2) := by decide +kernel
theorem dX5_move_88 : decode cX5_move 88 = .ok (.invokevirtual 179, 3) := by decide +kernel
theorem dX5_move_91 : decode cX5_move 91 = .ok (.aload_n 3, 1) := by decide +kernel
theorem dX5_move_92 : decode cX5_move 92 = .ok (.getfield 174, 3) := by decide +kernel
theorem dX5_move_95 : decode cX5_move 95 = .ok (.ireturn, 1) := by decide +kernel
theorem dX5_callOff_0 : decode cX5_callOff 0 = .ok (.aload_n 0, 1) := by decide +kernel
theorem dX5_callOff_1 : decode cX5_callOff 1 = .ok (.iload_n 1, 1) := by decide +kernel
theorem dX5_callOff_2 : decode cX5_callOff 2 = .ok (.invokevirtual 160, 3) := by decide +kernel
theorem dX5_callOff_5 : decode cX5_callOff 5 = .ok (.ifCond .ne 13, 3) := by decide +kernel
theorem dX5_callOff_8 : decode cX5_callOff 8 = .ok (.new 81, 3) := by decide +kernel
theorem dX5_callOff_11 : decode cX5_callOff 11 = .ok (.dup, 1) := by decide +kernel
theorem dX5_callOff_12 : decode cX5_callOff 12 = .ok (.ldc 163, 2) := by decide +kernel
theorem dX5_callOff_14 : decode cX5_callOff 14 = .ok (.invokespecial 85, 3) := by decide +kernel
theorem dX5_callOff_17 : decode cX5_callOff 17 = .ok (.athrow, 1) := by decide +kernel
theorem dX5_callOff_18 : decode cX5_callOff 18 = .ok (.aload_n 0, 1) := by decide +kernel
theorem dX5_callOff_19 : decode cX5_callOff 19 = .ok (.getfield 38, 3) := by decide +kernel
theorem dX5_callOff_22 : decode cX5_callOff 22 = .ok (.iload_n 1, 1) := by decide +kernel
theorem dX5_callOff_23 : decode cX5_callOff 23 = .ok (.aaload, 1) := by decide +kernel
theorem dX5_callOff_24 : decode cX5_callOff 24 = .ok (.invokevirtual 150, 3) := by decide +kernel
theorem dX5_callOff_27 : decode cX5_callOff 27 = .ok (.ifCond .ne 13, 3) := by decide +kernel
theorem dX5_callOff_30 : decode cX5_callOff 30 = .ok (.new 59, 3) := by decide +kernel
theorem dX5_callOff_33 : decode cX5_callOff 33 = .ok (.dup, 1) := by decide +kernel
theorem dX5_callOff_34 : decode cX5_callOff 34 = .ok (.ldc 182, 2) := by decide +kernel
theorem dX5_callOff_36 : decode cX5_callOff 36 = .ok (.invokespecial 63, 3) := by decide +kernel
theorem dX5_callOff_39 : decode cX5_callOff 39 = .ok (.athrow, 1) := by decide +kernel
theorem dX5_callOff_40 : decode cX5_callOff 40 = .ok (.aload_n 0, 1) := by decide +kernel
theorem dX5_callOff_41 : decode cX5_callOff 41 = .ok (.getfield 38, 3) := by decide +kernel
theorem dX5_callOff_44 : decode cX5_callOff 44 = .ok (.iload_n 1, 1) := by decide +kernel
theorem dX5_callOff_45 : decode cX5_callOff 45 = .ok (.aaload, 1) := by decide +kernel
theorem dX5_callOff_46 : decode cX5_callOff 46 = .ok (.getfield 184, 3) := by decide +kernel
theorem dX5_callOff_49 : decode cX5_callOff 49 = .ok (.istore_n 2, 1) := by decide +kernel
theorem dX5_callOff_50 : decode cX5_callOff 50 = .ok (.aload_n 0, 1) := by decide +kernel
theorem dX5_callOff_51 : decode cX5_callOff 51 = .ok (.aload_n 0, 1) := by decide +kernel
theorem dX5_callOff_52 : decode cX5_callOff 52 = .ok (.getfield 38, 3) := by decide +kernel
theorem dX5_callOff_55 : decode cX5_callOff 55 = .ok (.iload_n 1, 1) := by decide +kernel
theorem dX5_callOff_56 : decode cX5_callOff 56 = .ok (.aaload, 1) := by decide +kernel
theorem dX5_callOff_57 : decode cX5_callOff 57 = .ok (.invokevirtual 187, 3) := by decide +kernel
theorem dX5_callOff_60 : decode cX5_callOff 60 = .ok (.iload_n 2, 1) := by decide +kernel
theorem dX5_callOff_61 : decode cX5_callOff 61 = .ok (.ireturn, 1) := by decide +kernel
theorem dX5_pass_0 : decode cX5_pass 0 = .ok (.iload_n 1, 1) := by decide +kernel
theorem dX5_pass_1 : decode cX5_pass 1 = .ok (.iconst 1, 1) := by decide +kernel
theorem dX5_pass_2 : decode cX5_pass 2 = .ok (.if_icmp .lt 10, 3) := by decide +kernel
theorem dX5_pass_5 : decode cX5_pass 5 = .ok (.iload_n 1, 1) := by decide +kernel
theorem dX5_pass_6 : decode cX5_pass 6 = .ok (.sipush 200, 3) := by decide +kernel
theorem dX5_pass_9 : decode cX5_pass 9 = .ok (.if_icmp .le 13, 3) := by decide +kernel
theorem dX5_pass_12 : decode cX5_pass 12 = .ok (.new 49, 3) := by decide +kernel
theorem dX5_pass_15 : decode cX5_pass 15 = .ok (.dup, 1) := by decide +kernel
theorem dX5_pass_16 : decode cX5_pass 16 = .ok (.ldc 191, 2) := by decide +kernel
theorem dX5_pass_18 : decode cX5_pass 18 = .ok (.invokespecial 53, 3) := by decide +kernel
theorem dX5_pass_21 : decode cX5_pass 21 = .ok (.athrow, 1) := by decide +kernel
theorem dX5_pass_22 : decode cX5_pass 22 = .ok (.aload_n 0, 1) := by decide +kernel
theorem dX5_pass_23 : decode cX5_pass 23 = .ok (.getfield 193, 3) := by decide +kernel
theorem dX5_pass_26 : decode cX5_pass 26 = .ok (.iload_n 1, 1) := by decide +kernel
theorem dX5_pass_27 : decode cX5_pass 27 = .ok (.iadd, 1) := by decide +kernel
theorem dX5_pass_28 : decode cX5_pass 28 = .ok (.sipush 2000, 3) := by decide +kernel
theorem dX5_pass_31 : decode cX5_pass 31 = .ok (.if_icmp .le 13, 3) := by decide +kernel
theorem dX5_pass_34 : decode cX5_pass 34 = .ok (.new 59, 3) := by decide +kernel
theorem dX5_pass_37 : decode cX5_pass 37 = .ok (.dup, 1) := by decide +kernel
theorem dX5_pass_38 : decode cX5_pass 38 = .ok (.ldc 196, 2) := by decide +kernel
theorem dX5_pass_40 : decode cX5_pass 40 = .ok (.invokespecial 63, 3) := by decide +kernel
theorem dX5_pass_43 : decode cX5_pass 43 = .ok (.athrow, 1) := by decide +kernel
theorem dX5_pass_44 : decode cX5_pass 44 = .ok (.iconst 0, 1) := by decide +kernel
theorem dX5_pass_45 : decode cX5_pass 45 = .ok (.istore_n 2, 1) := by decide +kernel
theorem dX5_pass_46 : decode cX5_pass 46 = .ok (.iload_n 2, 1) := by decide +kernel
theorem dX5_pass_47 : decode cX5_pass 47 = .ok (.iload_n 1, 1) := by decide +kernel
theorem dX5_pass_48 : decode cX5_pass 48 = .ok (.if_icmp .ge 13, 3) := by decide +kernel
theorem dX5_pass_51 : decode cX5_pass 51 = .ok (.aload_n 0, 1) := by decide +kernel
theorem dX5_pass_52 : decode cX5_pass 52 = .ok (.invokevirtual 198, 3) := by decide +kernel
theorem dX5_pass_55 : decode cX5_pass 55 = .ok (.iinc 2 1, 3) := by decide +kernel
theorem dX5_pass_58 : decode cX5_pass 58 = .ok (.goto (-12), 3) := by decide +kernel
theorem dX5_pass_61 : decode cX5_pass 61 = .ok (.aload_n 0, 1) := by decide +kernel
theorem dX5_pass_62 : decode cX5_pass 62 = .ok (.getfield 193, 3) := by decide +kernel
theorem dX5_pass_65 : decode cX5_pass 65 = .ok (.ireturn, 1) := by decide +kernel
theorem dX5_hour_0 : decode cX5_hour 0 = .ok (.aload_n 0, 1) := by decide +kernel
theorem dX5_hour_1 : decode cX5_hour 1 = .ok (.getfield 193, 3) := by decide +kernel
theorem dX5_hour_4 : decode cX5_hour 4 = .ok (.ireturn, 1) := by decide +kernel
theorem dX5_shards_0 : decode cX5_shards 0 = .ok (.aload_n 0, 1) := by decide +kernel
theorem dX5_shards_1 : decode cX5_shards 1 = .ok (.getfield 45, 3) := by decide +kernel
theorem dX5_shards_4 : decode cX5_shards 4 = .ok (.ireturn, 1) := by decide +kernel
theorem dX5_shardOf_0 : decode cX5_shardOf 0 = .ok (.aload_n 0, 1) := by decide +kernel
theorem dX5_shardOf_1 : decode cX5_shardOf 1 = .ok (.iload_n 1, 1) := by decide +kernel
theorem dX5_shardOf_2 : decode cX5_shardOf 2 = .ok (.invokevirtual 104, 3) := by decide +kernel
theorem dX5_shardOf_5 : decode cX5_shardOf 5 = .ok (.ifCond .ne 13, 3) := by decide +kernel
theorem dX5_shardOf_8 : decode cX5_shardOf 8 = .ok (.new 81, 3) := by decide +kernel
theorem dX5_shardOf_11 : decode cX5_shardOf 11 = .ok (.dup, 1) := by decide +kernel
theorem dX5_shardOf_12 : decode cX5_shardOf 12 = .ok (.ldc 136, 2) := by decide +kernel
theorem dX5_shardOf_14 : decode cX5_shardOf 14 = .ok (.invokespecial 85, 3) := by decide +kernel
theorem dX5_shardOf_17 : decode cX5_shardOf 17 = .ok (.athrow, 1) := by decide +kernel
theorem dX5_shardOf_18 : decode cX5_shardOf 18 = .ok (.aload_n 0, 1) := by decide +kernel
theorem dX5_shardOf_19 : decode cX5_shardOf 19 = .ok (.iload_n 1, 1) := by decide +kernel
theorem dX5_shardOf_20 : decode cX5_shardOf 20 = .ok (.invokevirtual 109, 3) := by decide +kernel
theorem dX5_shardOf_23 : decode cX5_shardOf 23 = .ok (.ireturn, 1) := by decide +kernel
theorem dX5_shard_0 : decode cX5_shard 0 = .ok (.aload_n 0, 1) := by decide +kernel
theorem dX5_shard_1 : decode cX5_shard 1 = .ok (.iload_n 1, 1) := by decide +kernel
theorem dX5_shard_2 : decode cX5_shard 2 = .ok (.invokevirtual 160, 3) := by decide +kernel
theorem dX5_shard_5 : decode cX5_shard 5 = .ok (.ifCond .ne 13, 3) := by decide +kernel
theorem dX5_shard_8 : decode cX5_shard 8 = .ok (.new 81, 3) := by decide +kernel
theorem dX5_shard_11 : decode cX5_shard 11 = .ok (.dup, 1) := by decide +kernel
theorem dX5_shard_12 : decode cX5_shard 12 = .ok (.ldc 163, 2) := by decide +kernel
theorem dX5_shard_14 : decode cX5_shard 14 = .ok (.invokespecial 85, 3) := by decide +kernel
theorem dX5_shard_17 : decode cX5_shard 17 = .ok (.athrow, 1) := by decide +kernel
theorem dX5_shard_18 : decode cX5_shard 18 = .ok (.aload_n 0, 1) := by decide +kernel
theorem dX5_shard_19 : decode cX5_shard 19 = .ok (.getfield 38, 3) := by decide +kernel
theorem dX5_shard_22 : decode cX5_shard 22 = .ok (.iload_n 1, 1) := by decide +kernel
theorem dX5_shard_23 : decode cX5_shard 23 = .ok (.aaload, 1) := by decide +kernel
theorem dX5_shard_24 : decode cX5_shard 24 = .ok (.astore_n 3, 1) := by decide +kernel
theorem dX5_shard_25 : decode cX5_shard 25 = .ok (.iload_n 2, 1) := by decide +kernel
theorem dX5_shard_26 : decode cX5_shard 26 = .ok (.tableswitch 83 0 6 #[42, 47, 52, 60, 68, 73, 78], 42) := by decide +kernel
theorem dX5_shard_68 : decode cX5_shard 68 = .ok (.aload_n 3, 1) := by decide +kernel
theorem dX5_shard_69 : decode cX5_shard 69 = .ok (.getfield 147, 3) := by decide +kernel
theorem dX5_shard_72 : decode cX5_shard 72 = .ok (.ireturn, 1) := by decide +kernel
theorem dX5_shard_73 : decode cX5_shard 73 = .ok (.aload_n 3, 1) := by decide +kernel
theorem dX5_shard_74 : decode cX5_shard 74 = .ok (.getfield 171, 3) := by decide +kernel
theorem dX5_shard_77 : decode cX5_shard 77 = .ok (.ireturn, 1) := by decide +kernel
theorem dX5_shard_78 : decode cX5_shard 78 = .ok (.aload_n 3, 1) := by decide +kernel
theorem dX5_shard_79 : decode cX5_shard 79 = .ok (.getfield 117, 3) := by decide +kernel
theorem dX5_shard_82 : decode cX5_shard 82 = .ok (.getfield 71, 3) := by decide +kernel
theorem dX5_shard_85 : decode cX5_shard 85 = .ok (.ireturn, 1) := by decide +kernel
theorem dX5_shard_86 : decode cX5_shard 86 = .ok (.aload_n 3, 1) := by decide +kernel
theorem dX5_shard_87 : decode cX5_shard 87 = .ok (.getfield 201, 3) := by decide +kernel
theorem dX5_shard_90 : decode cX5_shard 90 = .ok (.getfield 71, 3) := by decide +kernel
theorem dX5_shard_93 : decode cX5_shard 93 = .ok (.ireturn, 1) := by decide +kernel
theorem dX5_shard_94 : decode cX5_shard 94 = .ok (.aload_n 3, 1) := by decide +kernel
theorem dX5_shard_95 : decode cX5_shard 95 = .ok (.getfield 174, 3) := by decide +kernel
theorem dX5_shard_98 : decode cX5_shard 98 = .ok (.ireturn, 1) := by decide +kernel
theorem dX5_shard_99 : decode cX5_shard 99 = .ok (.aload_n 3, 1) := by decide +kernel
theorem dX5_shard_100 : decode cX5_shard 100 = .ok (.getfield 184, 3) := by decide +kernel
theorem dX5_shard_103 : decode cX5_shard 103 = .ok (.ireturn, 1) := by decide +kernel
theorem dX5_shard_104 : decode cX5_shard 104 = .ok (.aload_n 3, 1) := by decide +kernel
theorem dX5_shard_105 : decode cX5_shard 105 = .ok (.getfield 142, 3) := by decide +kernel
theorem dX5_shard_108 : decode cX5_shard 108 = .ok (.ireturn, 1) := by decide +kernel
theorem dX5_shard_109 : decode cX5_shard 109 = .ok (.new 49, 3) := by decide +kernel
theorem dX5_shard_112 : decode cX5_shard 112 = .ok (.dup, 1) := by decide +kernel
theorem dX5_shard_113 : decode cX5_shard 113 = .ok (.ldc 204, 2) := by decide +kernel
theorem dX5_shard_115 : decode cX5_shard 115 = .ok (.invokespecial 53, 3) := by decide +kernel
theorem dX5_shard_118 : decode cX5_shard 118 = .ok (.athrow, 1) := by decide +kernel
theorem dX5_machineOf_0 : decode cX5_machineOf 0 = .ok (.aload_n 0, 1) := by decide +kernel
theorem dX5_machineOf_1 : decode cX5_machineOf 1 = .ok (.iload_n 1, 1) := by decide +kernel
theorem dX5_machineOf_2 : decode cX5_machineOf 2 = .ok (.invokevirtual 77, 3) := by decide +kernel
theorem dX5_machineOf_5 : decode cX5_machineOf 5 = .ok (.ifCond .ne 13, 3) := by decide +kernel
theorem dX5_machineOf_8 : decode cX5_machineOf 8 = .ok (.new 81, 3) := by decide +kernel
theorem dX5_machineOf_11 : decode cX5_machineOf 11 = .ok (.dup, 1) := by decide +kernel
theorem dX5_machineOf_12 : decode cX5_machineOf 12 = .ok (.ldc 83, 2) := by decide +kernel
theorem dX5_machineOf_14 : decode cX5_machineOf 14 = .ok (.invokespecial 85, 3) := by decide +kernel
theorem dX5_machineOf_17 : decode cX5_machineOf 17 = .ok (.athrow, 1) := by decide +kernel
theorem dX5_machineOf_18 : decode cX5_machineOf 18 = .ok (.aload_n 0, 1) := by decide +kernel
theorem dX5_machineOf_19 : decode cX5_machineOf 19 = .ok (.getfield 32, 3) := by decide +kernel
theorem dX5_machineOf_22 : decode cX5_machineOf 22 = .ok (.iload_n 1, 1) := by decide +kernel
theorem dX5_machineOf_23 : decode cX5_machineOf 23 = .ok (.aaload, 1) := by decide +kernel
theorem dX5_machineOf_24 : decode cX5_machineOf 24 = .ok (.astore_n 3, 1) := by decide +kernel
theorem dX5_machineOf_25 : decode cX5_machineOf 25 = .ok (.iload_n 2, 1) := by decide +kernel
theorem dX5_machineOf_26 : decode cX5_machineOf 26 = .ok (.tableswitch 60 0 3 #[30, 35, 48, 54], 30) := by decide +kernel
theorem dX5_machineOf_56 : decode cX5_machineOf 56 = .ok (.aload_n 3, 1) := by decide +kernel
theorem dX5_machineOf_57 : decode cX5_machineOf 57 = .ok (.getfield 206, 3) := by decide +kernel
theorem dX5_machineOf_60 : decode cX5_machineOf 60 = .ok (.ireturn, 1) := by decide +kernel
theorem dX5_machineOf_61 : decode cX5_machineOf 61 = .ok (.aload_n 3, 1) := by decide +kernel
theorem dX5_machineOf_62 : decode cX5_machineOf 62 = .ok (.getfield 67, 3) := by decide +kernel
theorem dX5_machineOf_65 : decode cX5_machineOf 65 = .ok (.ifCond .eq 7, 3) := by decide +kernel
theorem dX5_machineOf_68 : decode cX5_machineOf 68 = .ok (.iconst 1, 1) := by decide +kernel
theorem dX5_machineOf_69 : decode cX5_machineOf 69 = .ok (.goto 4, 3) := by decide +kernel
theorem dX5_machineOf_72 : decode cX5_machineOf 72 = .ok (.iconst 0, 1) := by decide +kernel
theorem dX5_machineOf_73 : decode cX5_machineOf 73 = .ok (.ireturn, 1) := by decide +kernel
theorem dX5_machineOf_74 : decode cX5_machineOf 74 = .ok (.aload_n 0, 1) := by decide +kernel
theorem dX5_machineOf_75 : decode cX5_machineOf 75 = .ok (.aload_n 3, 1) := by decide +kernel
theorem dX5_machineOf_76 : decode cX5_machineOf 76 = .ok (.invokevirtual 209, 3) := by decide +kernel
theorem dX5_machineOf_79 : decode cX5_machineOf 79 = .ok (.ireturn, 1) := by decide +kernel
theorem dX5_machineOf_80 : decode cX5_machineOf 80 = .ok (.aload_n 0, 1) := by decide +kernel
theorem dX5_machineOf_81 : decode cX5_machineOf 81 = .ok (.aload_n 3, 1) := by decide +kernel
theorem dX5_machineOf_82 : decode cX5_machineOf 82 = .ok (.invokevirtual 213, 3) := by decide +kernel
theorem dX5_machineOf_85 : decode cX5_machineOf 85 = .ok (.ireturn, 1) := by decide +kernel
theorem dX5_machineOf_86 : decode cX5_machineOf 86 = .ok (.new 49, 3) := by decide +kernel
theorem dX5_machineOf_89 : decode cX5_machineOf 89 = .ok (.dup, 1) := by decide +kernel
theorem dX5_machineOf_90 : decode cX5_machineOf 90 = .ok (.ldc 204, 2) := by decide +kernel
theorem dX5_machineOf_92 : decode cX5_machineOf 92 = .ok (.invokespecial 53, 3) := by decide +kernel
theorem dX5_machineOf_95 : decode cX5_machineOf 95 = .ok (.athrow, 1) := by decide +kernel
theorem dX5_tenant_0 : decode cX5_tenant 0 = .ok (.aload_n 0, 1) := by decide +kernel
theorem dX5_tenant_1 : decode cX5_tenant 1 = .ok (.iload_n 1, 1) := by decide +kernel
theorem dX5_tenant_2 : decode cX5_tenant 2 = .ok (.invokevirtual 89, 3) := by decide +kernel
theorem dX5_tenant_5 : decode cX5_tenant 5 = .ok (.ifCond .ne 13, 3) := by decide +kernel
theorem dX5_tenant_8 : decode cX5_tenant 8 = .ok (.new 81, 3) := by decide +kernel
theorem dX5_tenant_11 : decode cX5_tenant 11 = .ok (.dup, 1) := by decide +kernel
theorem dX5_tenant_12 : decode cX5_tenant 12 = .ok (.ldc 92, 2) := by decide +kernel
theorem dX5_tenant_14 : decode cX5_tenant 14 = .ok (.invokespecial 85, 3) := by decide +kernel
theorem dX5_tenant_17 : decode cX5_tenant 17 = .ok (.athrow, 1) := by decide +kernel
theorem dX5_tenant_18 : decode cX5_tenant 18 = .ok (.aload_n 0, 1) := by decide +kernel
theorem dX5_tenant_19 : decode cX5_tenant 19 = .ok (.getfield 27, 3) := by decide +kernel
theorem dX5_tenant_22 : decode cX5_tenant 22 = .ok (.iload_n 1, 1) := by decide +kernel
theorem dX5_tenant_23 : decode cX5_tenant 23 = .ok (.aaload, 1) := by decide +kernel
theorem dX5_tenant_24 : decode cX5_tenant 24 = .ok (.astore_n 3, 1) := by decide +kernel
theorem dX5_tenant_25 : decode cX5_tenant 25 = .ok (.iload_n 2, 1) := by decide +kernel
theorem dX5_tenant_26 : decode cX5_tenant 26 = .ok (.tableswitch 41 0 2 #[26, 31, 36], 26) := by decide +kernel
theorem dX5_tenant_52 : decode cX5_tenant 52 = .ok (.aload_n 3, 1) := by decide +kernel
theorem dX5_tenant_53 : decode cX5_tenant 53 = .ok (.getfield 133, 3) := by decide +kernel
theorem dX5_tenant_56 : decode cX5_tenant 56 = .ok (.ireturn, 1) := by decide +kernel
theorem dX5_tenant_57 : decode cX5_tenant 57 = .ok (.aload_n 3, 1) := by decide +kernel
theorem dX5_tenant_58 : decode cX5_tenant 58 = .ok (.getfield 96, 3) := by decide +kernel
theorem dX5_tenant_61 : decode cX5_tenant 61 = .ok (.ireturn, 1) := by decide +kernel
theorem dX5_tenant_62 : decode cX5_tenant 62 = .ok (.aload_n 3, 1) := by decide +kernel
theorem dX5_tenant_63 : decode cX5_tenant 63 = .ok (.getfield 216, 3) := by decide +kernel
theorem dX5_tenant_66 : decode cX5_tenant 66 = .ok (.ireturn, 1) := by decide +kernel
theorem dX5_tenant_67 : decode cX5_tenant 67 = .ok (.new 49, 3) := by decide +kernel
theorem dX5_tenant_70 : decode cX5_tenant 70 = .ok (.dup, 1) := by decide +kernel
theorem dX5_tenant_71 : decode cX5_tenant 71 = .ok (.ldc 204, 2) := by decide +kernel
theorem dX5_tenant_73 : decode cX5_tenant 73 = .ok (.invokespecial 53, 3) := by decide +kernel
theorem dX5_tenant_76 : decode cX5_tenant 76 = .ok (.athrow, 1) := by decide +kernel
theorem dX5_billAnew_0 : decode cX5_billAnew 0 = .ok (.aload_n 0, 1) := by decide +kernel
theorem dX5_billAnew_1 : decode cX5_billAnew 1 = .ok (.iload_n 1, 1) := by decide +kernel
theorem dX5_billAnew_2 : decode cX5_billAnew 2 = .ok (.invokevirtual 89, 3) := by decide +kernel
theorem dX5_billAnew_5 : decode cX5_billAnew 5 = .ok (.ifCond .ne 13, 3) := by decide +kernel
theorem dX5_billAnew_8 : decode cX5_billAnew 8 = .ok (.new 81, 3) := by decide +kernel
theorem dX5_billAnew_11 : decode cX5_billAnew 11 = .ok (.dup, 1) := by decide +kernel
theorem dX5_billAnew_12 : decode cX5_billAnew 12 = .ok (.ldc 92, 2) := by decide +kernel
theorem dX5_billAnew_14 : decode cX5_billAnew 14 = .ok (.invokespecial 85, 3) := by decide +kernel
theorem dX5_billAnew_17 : decode cX5_billAnew 17 = .ok (.athrow, 1) := by decide +kernel
theorem dX5_billAnew_18 : decode cX5_billAnew 18 = .ok (.iconst 0, 1) := by decide +kernel
theorem dX5_billAnew_19 : decode cX5_billAnew 19 = .ok (.istore_n 2, 1) := by decide +kernel
theorem dX5_billAnew_20 : decode cX5_billAnew 20 = .ok (.aload_n 0, 1) := by decide +kernel
theorem dX5_billAnew_21 : decode cX5_billAnew 21 = .ok (.getfield 219, 3) := by decide +kernel
theorem dX5_billAnew_24 : decode cX5_billAnew 24 = .ok (.astore_n 3, 1) := by decide +kernel
theorem dX5_billAnew_25 : decode cX5_billAnew 25 = .ok (.aload_n 3, 1) := by decide +kernel
theorem dX5_billAnew_26 : decode cX5_billAnew 26 = .ok (.ifnull 29, 3) := by decide +kernel
theorem dX5_billAnew_29 : decode cX5_billAnew 29 = .ok (.iload_n 2, 1) := by decide +kernel
theorem dX5_billAnew_30 : decode cX5_billAnew 30 = .ok (.aload_n 3, 1) := by decide +kernel
theorem dX5_billAnew_31 : decode cX5_billAnew 31 = .ok (.iload_n 1, 1) := by decide +kernel
theorem dX5_billAnew_32 : decode cX5_billAnew 32 = .ok (.invokevirtual 223, 3) := by decide +kernel
theorem dX5_billAnew_35 : decode cX5_billAnew 35 = .ok (.aload_n 0, 1) := by decide +kernel
theorem dX5_billAnew_36 : decode cX5_billAnew 36 = .ok (.getfield 193, 3) := by decide +kernel
theorem dX5_billAnew_39 : decode cX5_billAnew 39 = .ok (.aload_n 3, 1) := by decide +kernel
theorem dX5_billAnew_40 : decode cX5_billAnew 40 = .ok (.getfield 228, 3) := by decide +kernel
theorem dX5_billAnew_43 : decode cX5_billAnew 43 = .ok (.isub, 1) := by decide +kernel
theorem dX5_billAnew_44 : decode cX5_billAnew 44 = .ok (.imul, 1) := by decide +kernel
theorem dX5_billAnew_45 : decode cX5_billAnew 45 = .ok (.iadd, 1) := by decide +kernel
theorem dX5_billAnew_46 : decode cX5_billAnew 46 = .ok (.istore_n 2, 1) := by decide +kernel
theorem dX5_billAnew_47 : decode cX5_billAnew 47 = .ok (.aload_n 3, 1) := by decide +kernel
theorem dX5_billAnew_48 : decode cX5_billAnew 48 = .ok (.getfield 229, 3) := by decide +kernel
theorem dX5_billAnew_51 : decode cX5_billAnew 51 = .ok (.astore_n 3, 1) := by decide +kernel
theorem dX5_billAnew_52 : decode cX5_billAnew 52 = .ok (.goto (-27), 3) := by decide +kernel
theorem dX5_billAnew_55 : decode cX5_billAnew 55 = .ok (.iload_n 2, 1) := by decide +kernel
theorem dX5_billAnew_56 : decode cX5_billAnew 56 = .ok (.ireturn, 1) := by decide +kernel
theorem dX5_whereAnew_0 : decode cX5_whereAnew 0 = .ok (.aload_n 0, 1) := by decide +kernel
theorem dX5_whereAnew_1 : decode cX5_whereAnew 1 = .ok (.iload_n 1, 1) := by decide +kernel
theorem dX5_whereAnew_2 : decode cX5_whereAnew 2 = .ok (.invokevirtual 104, 3) := by decide +kernel
theorem dX5_whereAnew_5 : decode cX5_whereAnew 5 = .ok (.ifCond .ne 13, 3) := by decide +kernel
theorem dX5_whereAnew_8 : decode cX5_whereAnew 8 = .ok (.new 81, 3) := by decide +kernel
theorem dX5_whereAnew_11 : decode cX5_whereAnew 11 = .ok (.dup, 1) := by decide +kernel
theorem dX5_whereAnew_12 : decode cX5_whereAnew 12 = .ok (.ldc 136, 2) := by decide +kernel
theorem dX5_whereAnew_14 : decode cX5_whereAnew 14 = .ok (.invokespecial 85, 3) := by decide +kernel
theorem dX5_whereAnew_17 : decode cX5_whereAnew 17 = .ok (.athrow, 1) := by decide +kernel
theorem dX5_whereAnew_18 : decode cX5_whereAnew 18 = .ok (.aload_n 0, 1) := by decide +kernel
theorem dX5_whereAnew_19 : decode cX5_whereAnew 19 = .ok (.getfield 232, 3) := by decide +kernel
theorem dX5_whereAnew_22 : decode cX5_whereAnew 22 = .ok (.astore_n 2, 1) := by decide +kernel
theorem dX5_whereAnew_23 : decode cX5_whereAnew 23 = .ok (.aload_n 2, 1) := by decide +kernel
theorem dX5_whereAnew_24 : decode cX5_whereAnew 24 = .ok (.ifnull 32, 3) := by decide +kernel
theorem dX5_whereAnew_27 : decode cX5_whereAnew 27 = .ok (.aload_n 2, 1) := by decide +kernel
theorem dX5_whereAnew_28 : decode cX5_whereAnew 28 = .ok (.getfield 236, 3) := by decide +kernel
theorem dX5_whereAnew_31 : decode cX5_whereAnew 31 = .ok (.iload_n 1, 1) := by decide +kernel
theorem dX5_whereAnew_32 : decode cX5_whereAnew 32 = .ok (.if_icmp .gt 16, 3) := by decide +kernel
theorem dX5_whereAnew_35 : decode cX5_whereAnew 35 = .ok (.iload_n 1, 1) := by decide +kernel
theorem dX5_whereAnew_36 : decode cX5_whereAnew 36 = .ok (.aload_n 2, 1) := by decide +kernel
theorem dX5_whereAnew_37 : decode cX5_whereAnew 37 = .ok (.getfield 239, 3) := by decide +kernel
theorem dX5_whereAnew_40 : decode cX5_whereAnew 40 = .ok (.if_icmp .gt 8, 3) := by decide +kernel
theorem dX5_whereAnew_43 : decode cX5_whereAnew 43 = .ok (.aload_n 2, 1) := by decide +kernel
theorem dX5_whereAnew_44 : decode cX5_whereAnew 44 = .ok (.getfield 240, 3) := by decide +kernel
theorem dX5_whereAnew_47 : decode cX5_whereAnew 47 = .ok (.ireturn, 1) := by decide +kernel
theorem dX5_whereAnew_48 : decode cX5_whereAnew 48 = .ok (.aload_n 2, 1) := by decide +kernel
theorem dX5_whereAnew_49 : decode cX5_whereAnew 49 = .ok (.getfield 243, 3) := by decide +kernel
theorem dX5_whereAnew_52 : decode cX5_whereAnew 52 = .ok (.astore_n 2, 1) := by decide +kernel
theorem dX5_whereAnew_53 : decode cX5_whereAnew 53 = .ok (.goto (-30), 3) := by decide +kernel
theorem dX5_whereAnew_56 : decode cX5_whereAnew 56 = .ok (.aload_n 0, 1) := by decide +kernel
theorem dX5_whereAnew_57 : decode cX5_whereAnew 57 = .ok (.getfield 56, 3) := by decide +kernel
theorem dX5_whereAnew_60 : decode cX5_whereAnew 60 = .ok (.ifCond .ne 7, 3) := by decide +kernel
theorem dX5_whereAnew_63 : decode cX5_whereAnew 63 = .ok (.iconst (-1), 1) := by decide +kernel
theorem dX5_whereAnew_64 : decode cX5_whereAnew 64 = .ok (.goto 4, 3) := by decide +kernel
theorem dX5_whereAnew_67 : decode cX5_whereAnew 67 = .ok (.iconst 0, 1) := by decide +kernel
theorem dX5_whereAnew_68 : decode cX5_whereAnew 68 = .ok (.ireturn, 1) := by decide +kernel
theorem dX5_moves_0 : decode cX5_moves 0 = .ok (.iload_n 1, 1) := by decide +kernel
theorem dX5_moves_1 : decode cX5_moves 1 = .ok (.ifCond .eq 10, 3) := by decide +kernel
theorem dX5_moves_4 : decode cX5_moves 4 = .ok (.aload_n 0, 1) := by decide +kernel
theorem dX5_moves_5 : decode cX5_moves 5 = .ok (.getfield 245, 3) := by decide +kernel
theorem dX5_moves_8 : decode cX5_moves 8 = .ok (.goto 7, 3) := by decide +kernel
theorem dX5_moves_11 : decode cX5_moves 11 = .ok (.aload_n 0, 1) := by decide +kernel
theorem dX5_moves_12 : decode cX5_moves 12 = .ok (.getfield 248, 3) := by decide +kernel
theorem dX5_moves_15 : decode cX5_moves 15 = .ok (.ireturn, 1) := by decide +kernel
theorem dX5_isKey_0 : decode cX5_isKey 0 = .ok (.iload_n 1, 1) := by decide +kernel
theorem dX5_isKey_1 : decode cX5_isKey 1 = .ok (.ifCond .lt 14, 3) := by decide +kernel
theorem dX5_isKey_4 : decode cX5_isKey 4 = .ok (.iload_n 1, 1) := by decide +kernel
theorem dX5_isKey_5 : decode cX5_isKey 5 = .ok (.sipush 1000, 3) := by decide +kernel
theorem dX5_isKey_8 : decode cX5_isKey 8 = .ok (.if_icmp .ge 7, 3) := by decide +kernel
theorem dX5_isKey_11 : decode cX5_isKey 11 = .ok (.iconst 1, 1) := by decide +kernel
theorem dX5_isKey_12 : decode cX5_isKey 12 = .ok (.goto 4, 3) := by decide +kernel
theorem dX5_isKey_15 : decode cX5_isKey 15 = .ok (.iconst 0, 1) := by decide +kernel
theorem dX5_isKey_16 : decode cX5_isKey 16 = .ok (.ireturn, 1) := by decide +kernel
theorem dX5_isTenant_0 : decode cX5_isTenant 0 = .ok (.iload_n 1, 1) := by decide +kernel
theorem dX5_isTenant_1 : decode cX5_isTenant 1 = .ok (.ifCond .lt 12, 3) := by decide +kernel
theorem dX5_isTenant_4 : decode cX5_isTenant 4 = .ok (.iload_n 1, 1) := by decide +kernel
theorem dX5_isTenant_5 : decode cX5_isTenant 5 = .ok (.iconst 4, 1) := by decide +kernel
theorem dX5_isTenant_6 : decode cX5_isTenant 6 = .ok (.if_icmp .ge 7, 3) := by decide +kernel
theorem dX5_isTenant_9 : decode cX5_isTenant 9 = .ok (.iconst 1, 1) := by decide +kernel
theorem dX5_isTenant_10 : decode cX5_isTenant 10 = .ok (.goto 4, 3) := by decide +kernel
theorem dX5_isTenant_13 : decode cX5_isTenant 13 = .ok (.iconst 0, 1) := by decide +kernel
theorem dX5_isTenant_14 : decode cX5_isTenant 14 = .ok (.ireturn, 1) := by decide +kernel
theorem dX5_isMachine_0 : decode cX5_isMachine 0 = .ok (.iload_n 1, 1) := by decide +kernel
theorem dX5_isMachine_1 : decode cX5_isMachine 1 = .ok (.ifCond .lt 15, 3) := by decide +kernel
theorem dX5_isMachine_4 : decode cX5_isMachine 4 = .ok (.iload_n 1, 1) := by decide +kernel
theorem dX5_isMachine_5 : decode cX5_isMachine 5 = .ok (.aload_n 0, 1) := by decide +kernel
theorem dX5_isMachine_6 : decode cX5_isMachine 6 = .ok (.getfield 56, 3) := by decide +kernel
theorem dX5_isMachine_9 : decode cX5_isMachine 9 = .ok (.if_icmp .ge 7, 3) := by decide +kernel
theorem dX5_isMachine_12 : decode cX5_isMachine 12 = .ok (.iconst 1, 1) := by decide +kernel
theorem dX5_isMachine_13 : decode cX5_isMachine 13 = .ok (.goto 4, 3) := by decide +kernel
theorem dX5_isMachine_16 : decode cX5_isMachine 16 = .ok (.iconst 0, 1) := by decide +kernel
theorem dX5_isMachine_17 : decode cX5_isMachine 17 = .ok (.ireturn, 1) := by decide +kernel
theorem dX5_isShard_0 : decode cX5_isShard 0 = .ok (.iload_n 1, 1) := by decide +kernel
theorem dX5_isShard_1 : decode cX5_isShard 1 = .ok (.ifCond .lt 15, 3) := by decide +kernel
theorem dX5_isShard_4 : decode cX5_isShard 4 = .ok (.iload_n 1, 1) := by decide +kernel
theorem dX5_isShard_5 : decode cX5_isShard 5 = .ok (.aload_n 0, 1) := by decide +kernel
theorem dX5_isShard_6 : decode cX5_isShard 6 = .ok (.getfield 45, 3) := by decide +kernel
theorem dX5_isShard_9 : decode cX5_isShard 9 = .ok (.if_icmp .ge 7, 3) := by decide +kernel
theorem dX5_isShard_12 : decode cX5_isShard 12 = .ok (.iconst 1, 1) := by decide +kernel
theorem dX5_isShard_13 : decode cX5_isShard 13 = .ok (.goto 4, 3) := by decide +kernel
theorem dX5_isShard_16 : decode cX5_isShard 16 = .ok (.iconst 0, 1) := by decide +kernel
theorem dX5_isShard_17 : decode cX5_isShard 17 = .ok (.ireturn, 1) := by decide +kernel
theorem dX5_numberOfShardWith_0 : decode cX5_numberOfShardWith 0 = .ok (.aload_n 0, 1) := by decide +kernel
theorem dX5_numberOfShardWith_1 : decode cX5_numberOfShardWith 1 = .ok (.getfield 45, 3) := by decide +kernel
theorem dX5_numberOfShardWith_4 : decode cX5_numberOfShardWith 4 = .ok (.iconst 1, 1) := by decide +kernel
theorem dX5_numberOfShardWith_5 : decode cX5_numberOfShardWith 5 = .ok (.isub, 1) := by decide +kernel
theorem dX5_numberOfShardWith_6 : decode cX5_numberOfShardWith 6 = .ok (.istore_n 2, 1) := by decide +kernel
theorem dX5_numberOfShardWith_7 : decode cX5_numberOfShardWith 7 = .ok (.iload_n 2, 1) := by decide +kernel
theorem dX5_numberOfShardWith_8 : decode cX5_numberOfShardWith 8 = .ok (.ifCond .le 22, 3) := by decide +kernel
theorem dX5_numberOfShardWith_11 : decode cX5_numberOfShardWith 11 = .ok (.aload_n 0, 1) := by decide +kernel
theorem dX5_numberOfShardWith_12 : decode cX5_numberOfShardWith 12 = .ok (.getfield 38, 3) := by decide +kernel
theorem dX5_numberOfShardWith_15 : decode cX5_numberOfShardWith 15 = .ok (.iload_n 2, 1) := by decide +kernel
theorem dX5_numberOfShardWith_16 : decode cX5_numberOfShardWith 16 = .ok (.aaload, 1) := by decide +kernel
theorem dX5_numberOfShardWith_17 : decode cX5_numberOfShardWith 17 = .ok (.getfield 147, 3) := by decide +kernel
theorem dX5_numberOfShardWith_20 : decode cX5_numberOfShardWith 20 = .ok (.iload_n 1, 1) := by decide +kernel
theorem dX5_numberOfShardWith_21 : decode cX5_numberOfShardWith 21 = .ok (.if_icmp .le 9, 3) := by decide +kernel
theorem dX5_numberOfShardWith_24 : decode cX5_numberOfShardWith 24 = .ok (.iinc 2 (-1), 3) := by decide +kernel
theorem dX5_numberOfShardWith_27 : decode cX5_numberOfShardWith 27 = .ok (.goto (-20), 3) := by decide +kernel
theorem dX5_numberOfShardWith_30 : decode cX5_numberOfShardWith 30 = .ok (.iload_n 2, 1) := by decide +kernel
theorem dX5_numberOfShardWith_31 : decode cX5_numberOfShardWith 31 = .ok (.ireturn, 1) := by decide +kernel
theorem dX5_bytesBetween_0 : decode cX5_bytesBetween 0 = .ok (.iconst 0, 1) := by decide +kernel
theorem dX5_bytesBetween_1 : decode cX5_bytesBetween 1 = .ok (.istore_n 3, 1) := by decide +kernel
theorem dX5_bytesBetween_2 : decode cX5_bytesBetween 2 = .ok (.iload_n 1, 1) := by decide +kernel
theorem dX5_bytesBetween_3 : decode cX5_bytesBetween 3 = .ok (.istore 4, 2) := by decide +kernel
theorem dX5_bytesBetween_5 : decode cX5_bytesBetween 5 = .ok (.iload 4, 2) := by decide +kernel
theorem dX5_bytesBetween_7 : decode cX5_bytesBetween 7 = .ok (.iload_n 2, 1) := by decide +kernel
theorem dX5_bytesBetween_8 : decode cX5_bytesBetween 8 = .ok (.if_icmp .gt 27, 3) := by decide +kernel
theorem dX5_bytesBetween_11 : decode cX5_bytesBetween 11 = .ok (.iload 4, 2) := by decide +kernel
theorem dX5_bytesBetween_13 : decode cX5_bytesBetween 13 = .ok (.sipush 1000, 3) := by decide +kernel
theorem dX5_bytesBetween_16 : decode cX5_bytesBetween 16 = .ok (.if_icmp .ge 19, 3) := by decide +kernel
theorem dX5_bytesBetween_19 : decode cX5_bytesBetween 19 = .ok (.iload_n 3, 1) := by decide +kernel
theorem dX5_bytesBetween_20 : decode cX5_bytesBetween 20 = .ok (.aload_n 0, 1) := by decide +kernel
theorem dX5_bytesBetween_21 : decode cX5_bytesBetween 21 = .ok (.getfield 18, 3) := by decide +kernel
theorem dX5_bytesBetween_24 : decode cX5_bytesBetween 24 = .ok (.iload 4, 2) := by decide +kernel
theorem dX5_bytesBetween_26 : decode cX5_bytesBetween 26 = .ok (.iaload, 1) := by decide +kernel
theorem dX5_bytesBetween_27 : decode cX5_bytesBetween 27 = .ok (.iadd, 1) := by decide +kernel
theorem dX5_bytesBetween_28 : decode cX5_bytesBetween 28 = .ok (.istore_n 3, 1) := by decide +kernel
theorem dX5_bytesBetween_29 : decode cX5_bytesBetween 29 = .ok (.iinc 4 1, 3) := by decide +kernel
theorem dX5_bytesBetween_32 : decode cX5_bytesBetween 32 = .ok (.goto (-27), 3) := by decide +kernel
theorem dX5_bytesBetween_35 : decode cX5_bytesBetween 35 = .ok (.iload_n 3, 1) := by decide +kernel
theorem dX5_bytesBetween_36 : decode cX5_bytesBetween 36 = .ok (.ireturn, 1) := by decide +kernel
theorem dX5_heatOf_0 : decode cX5_heatOf 0 = .ok (.iconst 0, 1) := by decide +kernel
theorem dX5_heatOf_1 : decode cX5_heatOf 1 = .ok (.istore_n 2, 1) := by decide +kernel
theorem dX5_heatOf_2 : decode cX5_heatOf 2 = .ok (.iconst 0, 1) := by decide +kernel
theorem dX5_heatOf_3 : decode cX5_heatOf 3 = .ok (.istore_n 3, 1) := by decide +kernel
theorem dX5_heatOf_4 : decode cX5_heatOf 4 = .ok (.iload_n 3, 1) := by decide +kernel
theorem dX5_heatOf_5 : decode cX5_heatOf 5 = .ok (.aload_n 0, 1) := by decide +kernel
theorem dX5_heatOf_6 : decode cX5_heatOf 6 = .ok (.getfield 45, 3) := by decide +kernel
theorem dX5_heatOf_9 : decode cX5_heatOf 9 = .ok (.if_icmp .ge 34, 3) := by decide +kernel
theorem dX5_heatOf_12 : decode cX5_heatOf 12 = .ok (.aload_n 0, 1) := by decide +kernel
theorem dX5_heatOf_13 : decode cX5_heatOf 13 = .ok (.getfield 38, 3) := by decide +kernel
theorem dX5_heatOf_16 : decode cX5_heatOf 16 = .ok (.iload_n 3, 1) := by decide +kernel
theorem dX5_heatOf_17 : decode cX5_heatOf 17 = .ok (.aaload, 1) := by decide +kernel
theorem dX5_heatOf_18 : decode cX5_heatOf 18 = .ok (.getfield 117, 3) := by decide +kernel
theorem dX5_heatOf_21 : decode cX5_heatOf 21 = .ok (.aload_n 1, 1) := by decide +kernel
theorem dX5_heatOf_22 : decode cX5_heatOf 22 = .ok (.if_acmp .ne 15, 3) := by decide +kernel
theorem dX5_heatOf_25 : decode cX5_heatOf 25 = .ok (.iload_n 2, 1) := by decide +kernel
theorem dX5_heatOf_26 : decode cX5_heatOf 26 = .ok (.aload_n 0, 1) := by decide +kernel
theorem dX5_heatOf_27 : decode cX5_heatOf 27 = .ok (.getfield 38, 3) := by decide +kernel
theorem dX5_heatOf_30 : decode cX5_heatOf 30 = .ok (.iload_n 3, 1) := by decide +kernel
theorem dX5_heatOf_31 : decode cX5_heatOf 31 = .ok (.aaload, 1) := by decide +kernel
theorem dX5_heatOf_32 : decode cX5_heatOf 32 = .ok (.getfield 142, 3) := by decide +kernel
theorem dX5_heatOf_35 : decode cX5_heatOf 35 = .ok (.iadd, 1) := by decide +kernel
theorem dX5_heatOf_36 : decode cX5_heatOf 36 = .ok (.istore_n 2, 1) := by decide +kernel
theorem dX5_heatOf_37 : decode cX5_heatOf 37 = .ok (.iinc 3 1, 3) := by decide +kernel
theorem dX5_heatOf_40 : decode cX5_heatOf 40 = .ok (.goto (-36), 3) := by decide +kernel
theorem dX5_heatOf_43 : decode cX5_heatOf 43 = .ok (.iload_n 2, 1) := by decide +kernel
theorem dX5_heatOf_44 : decode cX5_heatOf 44 = .ok (.ireturn, 1) := by decide +kernel
theorem dX5_shardCountOn_0 : decode cX5_shardCountOn 0 = .ok (.iconst 0, 1) := by decide +kernel
theorem dX5_shardCountOn_1 : decode cX5_shardCountOn 1 = .ok (.istore_n 2, 1) := by decide +kernel
theorem dX5_shardCountOn_2 : decode cX5_shardCountOn 2 = .ok (.iconst 0, 1) := by decide +kernel
theorem dX5_shardCountOn_3 : decode cX5_shardCountOn 3 = .ok (.istore_n 3, 1) := by decide +kernel
theorem dX5_shardCountOn_4 : decode cX5_shardCountOn 4 = .ok (.iload_n 3, 1) := by decide +kernel
theorem dX5_shardCountOn_5 : decode cX5_shardCountOn 5 = .ok (.aload_n 0, 1) := by decide +kernel
theorem dX5_shardCountOn_6 : decode cX5_shardCountOn 6 = .ok (.getfield 45, 3) := by decide +kernel
theorem dX5_shardCountOn_9 : decode cX5_shardCountOn 9 = .ok (.if_icmp .ge 25, 3) := by decide +kernel
theorem dX5_shardCountOn_12 : decode cX5_shardCountOn 12 = .ok (.aload_n 0, 1) := by decide +kernel
theorem dX5_shardCountOn_13 : decode cX5_shardCountOn 13 = .ok (.getfield 38, 3) := by decide +kernel
theorem dX5_shardCountOn_16 : decode cX5_shardCountOn 16 = .ok (.iload_n 3, 1) := by decide +kernel
theorem dX5_shardCountOn_17 : decode cX5_shardCountOn 17 = .ok (.aaload, 1) := by decide +kernel
theorem dX5_shardCountOn_18 : decode cX5_shardCountOn 18 = .ok (.getfield 117, 3) := by decide +kernel
theorem dX5_shardCountOn_21 : decode cX5_shardCountOn 21 = .ok (.aload_n 1, 1) := by decide +kernel
theorem dX5_shardCountOn_22 : decode cX5_shardCountOn 22 = .ok (.if_acmp .ne 6, 3) := by decide +kernel
theorem dX5_shardCountOn_25 : decode cX5_shardCountOn 25 = .ok (.iinc 2 1, 3) := by decide +kernel
theorem dX5_shardCountOn_28 : decode cX5_shardCountOn 28 = .ok (.iinc 3 1, 3) := by decide +kernel
theorem dX5_shardCountOn_31 : decode cX5_shardCountOn 31 = .ok (.goto (-27), 3) := by decide +kernel
theorem dX5_shardCountOn_34 : decode cX5_shardCountOn 34 = .ok (.iload_n 2, 1) := by decide +kernel
theorem dX5_shardCountOn_35 : decode cX5_shardCountOn 35 = .ok (.ireturn, 1) := by decide +kernel
theorem dX5_mayChange_0 : decode cX5_mayChange 0 = .ok (.aload_n 1, 1) := by decide +kernel
theorem dX5_mayChange_1 : decode cX5_mayChange 1 = .ok (.getfield 117, 3) := by decide +kernel
theorem dX5_mayChange_4 : decode cX5_mayChange 4 = .ok (.getfield 67, 3) := by decide +kernel
theorem dX5_mayChange_7 : decode cX5_mayChange 7 = .ok (.ifCond .eq 17, 3) := by decide +kernel
theorem dX5_mayChange_10 : decode cX5_mayChange 10 = .ok (.aload_n 0, 1) := by decide +kernel
theorem dX5_mayChange_11 : decode cX5_mayChange 11 = .ok (.getfield 251, 3) := by decide +kernel
theorem dX5_mayChange_14 : decode cX5_mayChange 14 = .ok (.sipush 600, 3) := by decide +kernel
theorem dX5_mayChange_17 : decode cX5_mayChange 17 = .ok (.if_icmp .ge 7, 3) := by decide +kernel
theorem dX5_mayChange_20 : decode cX5_mayChange 20 = .ok (.iconst 1, 1) := by decide +kernel
theorem dX5_mayChange_21 : decode cX5_mayChange 21 = .ok (.goto 4, 3) := by decide +kernel
theorem dX5_mayChange_24 : decode cX5_mayChange 24 = .ok (.iconst 0, 1) := by decide +kernel
theorem dX5_mayChange_25 : decode cX5_mayChange 25 = .ok (.ireturn, 1) := by decide +kernel
theorem dX5_hasQuotaFor_0 : decode cX5_hasQuotaFor 0 = .ok (.aload_n 0, 1) := by decide +kernel
theorem dX5_hasQuotaFor_1 : decode cX5_hasQuotaFor 1 = .ok (.getfield 22, 3) := by decide +kernel
theorem dX5_hasQuotaFor_4 : decode cX5_hasQuotaFor 4 = .ok (.iload_n 2, 1) := by decide +kernel
theorem dX5_hasQuotaFor_5 : decode cX5_hasQuotaFor 5 = .ok (.iaload, 1) := by decide +kernel
theorem dX5_hasQuotaFor_6 : decode cX5_hasQuotaFor 6 = .ok (.iload_n 1, 1) := by decide +kernel
theorem dX5_hasQuotaFor_7 : decode cX5_hasQuotaFor 7 = .ok (.if_icmp .ne 12, 3) := by decide +kernel
theorem dX5_hasQuotaFor_10 : decode cX5_hasQuotaFor 10 = .ok (.aload_n 0, 1) := by decide +kernel
theorem dX5_hasQuotaFor_11 : decode cX5_hasQuotaFor 11 = .ok (.getfield 18, 3) := by decide +kernel
theorem dX5_hasQuotaFor_14 : decode cX5_hasQuotaFor 14 = .ok (.iload_n 2, 1) := by decide +kernel
theorem dX5_hasQuotaFor_15 : decode cX5_hasQuotaFor 15 = .ok (.iaload, 1) := by decide +kernel
theorem dX5_hasQuotaFor_16 : decode cX5_hasQuotaFor 16 = .ok (.goto 4, 3) := by decide +kernel
theorem dX5_hasQuotaFor_19 : decode cX5_hasQuotaFor 19 = .ok (.iconst 0, 1) := by decide +kernel
theorem dX5_hasQuotaFor_20 : decode cX5_hasQuotaFor 20 = .ok (.istore 4, 2) := by decide +kernel
theorem dX5_hasQuotaFor_22 : decode cX5_hasQuotaFor 22 = .ok (.aload_n 0, 1) := by decide +kernel
theorem dX5_hasQuotaFor_23 : decode cX5_hasQuotaFor 23 = .ok (.getfield 27, 3) := by decide +kernel
theorem dX5_hasQuotaFor_26 : decode cX5_hasQuotaFor 26 = .ok (.iload_n 1, 1) := by decide +kernel
theorem dX5_hasQuotaFor_27 : decode cX5_hasQuotaFor 27 = .ok (.aaload, 1) := by decide +kernel
theorem dX5_hasQuotaFor_28 : decode cX5_hasQuotaFor 28 = .ok (.getfield 133, 3) := by decide +kernel
theorem dX5_hasQuotaFor_31 : decode cX5_hasQuotaFor 31 = .ok (.iload 4, 2) := by decide +kernel
theorem dX5_hasQuotaFor_33 : decode cX5_hasQuotaFor 33 = .ok (.isub, 1) := by decide +kernel
theorem dX5_hasQuotaFor_34 : decode cX5_hasQuotaFor 34 = .ok (.iload_n 3, 1) := by decide +kernel
theorem dX5_hasQuotaFor_35 : decode cX5_hasQuotaFor 35 = .ok (.iadd, 1) := by decide +kernel
theorem dX5_hasQuotaFor_36 : decode cX5_hasQuotaFor 36 = .ok (.aload_n 0, 1) := by decide +kernel
theorem dX5_hasQuotaFor_37 : decode cX5_hasQuotaFor 37 = .ok (.getfield 27, 3) := by decide +kernel
theorem dX5_hasQuotaFor_40 : decode cX5_hasQuotaFor 40 = .ok (.iload_n 1, 1) := by decide +kernel
theorem dX5_hasQuotaFor_41 : decode cX5_hasQuotaFor 41 = .ok (.aaload, 1) := by decide +kernel
theorem dX5_hasQuotaFor_42 : decode cX5_hasQuotaFor 42 = .ok (.getfield 96, 3) := by decide +kernel
theorem dX5_hasQuotaFor_45 : decode cX5_hasQuotaFor 45 = .ok (.if_icmp .gt 7, 3) := by decide +kernel
theorem dX5_hasQuotaFor_48 : decode cX5_hasQuotaFor 48 = .ok (.iconst 1, 1) := by decide +kernel
theorem dX5_hasQuotaFor_49 : decode cX5_hasQuotaFor 49 = .ok (.goto 4, 3) := by decide +kernel
theorem dX5_hasQuotaFor_52 : decode cX5_hasQuotaFor 52 = .ok (.iconst 0, 1) := by decide +kernel
theorem dX5_hasQuotaFor_53 : decode cX5_hasQuotaFor 53 = .ok (.ireturn, 1) := by decide +kernel
theorem dX5_change_0 : decode cX5_change 0 = .ok (.new 224, 3) := by decide +kernel
theorem dX5_change_3 : decode cX5_change 3 = .ok (.dup, 1) := by decide +kernel
theorem dX5_change_4 : decode cX5_change 4 = .ok (.aload_n 0, 1) := by decide +kernel
theorem dX5_change_5 : decode cX5_change 5 = .ok (.getfield 193, 3) := by decide +kernel
theorem dX5_change_8 : decode cX5_change 8 = .ok (.aload_n 0, 1) := by decide +kernel
theorem dX5_change_9 : decode cX5_change 9 = .ok (.getfield 219, 3) := by decide +kernel
theorem dX5_change_12 : decode cX5_change 12 = .ok (.invokespecial 254, 3) := by decide +kernel
theorem dX5_change_15 : decode cX5_change 15 = .ok (.astore 5, 2) := by decide +kernel
theorem dX5_change_17 : decode cX5_change 17 = .ok (.aload 5, 2) := by decide +kernel
theorem dX5_change_19 : decode cX5_change 19 = .ok (.aload_n 0, 1) := by decide +kernel
theorem dX5_change_20 : decode cX5_change 20 = .ok (.getfield 22, 3) := by decide +kernel
theorem dX5_change_23 : decode cX5_change 23 = .ok (.iload_n 2, 1) := by decide +kernel
theorem dX5_change_24 : decode cX5_change 24 = .ok (.iaload, 1) := by decide +kernel
theorem dX5_change_25 : decode cX5_change 25 = .ok (.aload_n 0, 1) := by decide +kernel
theorem dX5_change_26 : decode cX5_change 26 = .ok (.getfield 18, 3) := by decide +kernel
theorem dX5_change_29 : decode cX5_change 29 = .ok (.iload_n 2, 1) := by decide +kernel
theorem dX5_change_30 : decode cX5_change 30 = .ok (.iaload, 1) := by decide +kernel
theorem dX5_change_31 : decode cX5_change 31 = .ok (.invokevirtual 257, 3) := by decide +kernel
theorem dX5_change_34 : decode cX5_change 34 = .ok (.aload 5, 2) := by decide +kernel
theorem dX5_change_36 : decode cX5_change 36 = .ok (.iload_n 3, 1) := by decide +kernel
theorem dX5_change_37 : decode cX5_change 37 = .ok (.iload 4, 2) := by decide +kernel
theorem dX5_change_39 : decode cX5_change 39 = .ok (.invokevirtual 261, 3) := by decide +kernel
theorem dX5_change_42 : decode cX5_change 42 = .ok (.aload_n 0, 1) := by decide +kernel
theorem dX5_change_43 : decode cX5_change 43 = .ok (.aload 5, 2) := by decide +kernel
theorem dX5_change_45 : decode cX5_change 45 = .ok (.putfield 219, 3) := by decide +kernel
theorem dX5_change_48 : decode cX5_change 48 = .ok (.aload_n 0, 1) := by decide +kernel
theorem dX5_change_49 : decode cX5_change 49 = .ok (.dup, 1) := by decide +kernel
theorem dX5_change_50 : decode cX5_change 50 = .ok (.getfield 251, 3) := by decide +kernel
theorem dX5_change_53 : decode cX5_change 53 = .ok (.iconst 1, 1) := by decide +kernel
theorem dX5_change_54 : decode cX5_change 54 = .ok (.iadd, 1) := by decide +kernel
theorem dX5_change_55 : decode cX5_change 55 = .ok (.putfield 251, 3) := by decide +kernel
theorem dX5_change_58 : decode cX5_change 58 = .ok (.iload 4, 2) := by decide +kernel
theorem dX5_change_60 : decode cX5_change 60 = .ok (.aload_n 0, 1) := by decide +kernel
theorem dX5_change_61 : decode cX5_change 61 = .ok (.getfield 18, 3) := by decide +kernel
theorem dX5_change_64 : decode cX5_change 64 = .ok (.iload_n 2, 1) := by decide +kernel
theorem dX5_change_65 : decode cX5_change 65 = .ok (.iaload, 1) := by decide +kernel
theorem dX5_change_66 : decode cX5_change 66 = .ok (.isub, 1) := by decide +kernel
theorem dX5_change_67 : decode cX5_change 67 = .ok (.istore 6, 2) := by decide +kernel
theorem dX5_change_69 : decode cX5_change 69 = .ok (.aload_n 0, 1) := by decide +kernel
theorem dX5_change_70 : decode cX5_change 70 = .ok (.aload_n 0, 1) := by decide +kernel
theorem dX5_change_71 : decode cX5_change 71 = .ok (.getfield 22, 3) := by decide +kernel
theorem dX5_change_74 : decode cX5_change 74 = .ok (.iload_n 2, 1) := by decide +kernel
theorem dX5_change_75 : decode cX5_change 75 = .ok (.iaload, 1) := by decide +kernel
theorem dX5_change_76 : decode cX5_change 76 = .ok (.aload_n 0, 1) := by decide +kernel
theorem dX5_change_77 : decode cX5_change 77 = .ok (.getfield 18, 3) := by decide +kernel
theorem dX5_change_80 : decode cX5_change 80 = .ok (.iload_n 2, 1) := by decide +kernel
theorem dX5_change_81 : decode cX5_change 81 = .ok (.iaload, 1) := by decide +kernel
theorem dX5_change_82 : decode cX5_change 82 = .ok (.ineg, 1) := by decide +kernel
theorem dX5_change_83 : decode cX5_change 83 = .ok (.invokevirtual 264, 3) := by decide +kernel
theorem dX5_change_86 : decode cX5_change 86 = .ok (.aload_n 0, 1) := by decide +kernel
theorem dX5_change_87 : decode cX5_change 87 = .ok (.iload_n 3, 1) := by decide +kernel
theorem dX5_change_88 : decode cX5_change 88 = .ok (.iload 4, 2) := by decide +kernel
theorem dX5_change_90 : decode cX5_change 90 = .ok (.invokevirtual 264, 3) := by decide +kernel
theorem dX5_change_93 : decode cX5_change 93 = .ok (.aload_n 0, 1) := by decide +kernel
theorem dX5_change_94 : decode cX5_change 94 = .ok (.getfield 22, 3) := by decide +kernel
theorem dX5_change_97 : decode cX5_change 97 = .ok (.iload_n 2, 1) := by decide +kernel
theorem dX5_change_98 : decode cX5_change 98 = .ok (.iload_n 3, 1) := by decide +kernel
theorem dX5_change_99 : decode cX5_change 99 = .ok (.iastore, 1) := by decide +kernel
theorem dX5_change_100 : decode cX5_change 100 = .ok (.aload_n 0, 1) := by decide +kernel
theorem dX5_change_101 : decode cX5_change 101 = .ok (.getfield 18, 3) := by decide +kernel
theorem dX5_change_104 : decode cX5_change 104 = .ok (.iload_n 2, 1) := by decide +kernel
theorem dX5_change_105 : decode cX5_change 105 = .ok (.iload 4, 2) := by decide +kernel
theorem dX5_change_107 : decode cX5_change 107 = .ok (.iastore, 1) := by decide +kernel
theorem dX5_change_108 : decode cX5_change 108 = .ok (.aload_n 1, 1) := by decide +kernel
theorem dX5_change_109 : decode cX5_change 109 = .ok (.dup, 1) := by decide +kernel
theorem dX5_change_110 : decode cX5_change 110 = .ok (.getfield 174, 3) := by decide +kernel
theorem dX5_change_113 : decode cX5_change 113 = .ok (.iload 6, 2) := by decide +kernel
theorem dX5_change_115 : decode cX5_change 115 = .ok (.iadd, 1) := by decide +kernel
theorem dX5_change_116 : decode cX5_change 116 = .ok (.putfield 174, 3) := by decide +kernel
theorem dX5_change_119 : decode cX5_change 119 = .ok (.aload_n 1, 1) := by decide +kernel
theorem dX5_change_120 : decode cX5_change 120 = .ok (.getfield 117, 3) := by decide +kernel
theorem dX5_change_123 : decode cX5_change 123 = .ok (.dup, 1) := by decide +kernel
theorem dX5_change_124 : decode cX5_change 124 = .ok (.getfield 206, 3) := by decide +kernel
theorem dX5_change_127 : decode cX5_change 127 = .ok (.iload 6, 2) := by decide +kernel
theorem dX5_change_129 : decode cX5_change 129 = .ok (.iadd, 1) := by decide +kernel
theorem dX5_change_130 : decode cX5_change 130 = .ok (.putfield 206, 3) := by decide +kernel
theorem dX5_change_133 : decode cX5_change 133 = .ok (.aload_n 1, 1) := by decide +kernel
theorem dX5_change_134 : decode cX5_change 134 = .ok (.dup, 1) := by decide +kernel
theorem dX5_change_135 : decode cX5_change 135 = .ok (.getfield 142, 3) := by decide +kernel
theorem dX5_change_138 : decode cX5_change 138 = .ok (.iconst 1, 1) := by decide +kernel
theorem dX5_change_139 : decode cX5_change 139 = .ok (.iadd, 1) := by decide +kernel
theorem dX5_change_140 : decode cX5_change 140 = .ok (.putfield 142, 3) := by decide +kernel
theorem dX5_change_143 : decode cX5_change 143 = .ok (.aload_n 1, 1) := by decide +kernel
theorem dX5_change_144 : decode cX5_change 144 = .ok (.iload_n 2, 1) := by decide +kernel
theorem dX5_change_145 : decode cX5_change 145 = .ok (.invokevirtual 267, 3) := by decide +kernel
theorem dX5_change_148 : decode cX5_change 148 = .ok (.ifCond .eq 10, 3) := by decide +kernel
theorem dX5_change_151 : decode cX5_change 151 = .ok (.aload_n 0, 1) := by decide +kernel
theorem dX5_change_152 : decode cX5_change 152 = .ok (.aload_n 1, 1) := by decide +kernel
theorem dX5_change_153 : decode cX5_change 153 = .ok (.iload 6, 2) := by decide +kernel
theorem dX5_change_155 : decode cX5_change 155 = .ok (.invokevirtual 270, 3) := by decide +kernel
theorem dX5_change_158 : decode cX5_change 158 = .ok (.return_, 1) := by decide +kernel
theorem dX5_addToTenant_0 : decode cX5_addToTenant 0 = .ok (.aload_n 0, 1) := by decide +kernel
theorem dX5_addToTenant_1 : decode cX5_addToTenant 1 = .ok (.iload_n 1, 1) := by decide +kernel
theorem dX5_addToTenant_2 : decode cX5_addToTenant 2 = .ok (.invokevirtual 89, 3) := by decide +kernel
theorem dX5_addToTenant_5 : decode cX5_addToTenant 5 = .ok (.ifCond .eq 18, 3) := by decide +kernel
theorem dX5_addToTenant_8 : decode cX5_addToTenant 8 = .ok (.aload_n 0, 1) := by decide +kernel
theorem dX5_addToTenant_9 : decode cX5_addToTenant 9 = .ok (.getfield 27, 3) := by decide +kernel
theorem dX5_addToTenant_12 : decode cX5_addToTenant 12 = .ok (.iload_n 1, 1) := by decide +kernel
theorem dX5_addToTenant_13 : decode cX5_addToTenant 13 = .ok (.aaload, 1) := by decide +kernel
theorem dX5_addToTenant_14 : decode cX5_addToTenant 14 = .ok (.dup, 1) := by decide +kernel
theorem dX5_addToTenant_15 : decode cX5_addToTenant 15 = .ok (.getfield 133, 3) := by decide +kernel
theorem dX5_addToTenant_18 : decode cX5_addToTenant 18 = .ok (.iload_n 2, 1) := by decide +kernel
theorem dX5_addToTenant_19 : decode cX5_addToTenant 19 = .ok (.iadd, 1) := by decide +kernel
theorem dX5_addToTenant_20 : decode cX5_addToTenant 20 = .ok (.putfield 133, 3) := by decide +kernel
theorem dX5_addToTenant_23 : decode cX5_addToTenant 23 = .ok (.return_, 1) := by decide +kernel
theorem dX5_changeCopy_0 : decode cX5_changeCopy 0 = .ok (.aload_n 1, 1) := by decide +kernel
theorem dX5_changeCopy_1 : decode cX5_changeCopy 1 = .ok (.getfield 201, 3) := by decide +kernel
theorem dX5_changeCopy_4 : decode cX5_changeCopy 4 = .ok (.iload_n 2, 1) := by decide +kernel
theorem dX5_changeCopy_5 : decode cX5_changeCopy 5 = .ok (.invokevirtual 120, 3) := by decide +kernel
theorem dX5_changeCopy_8 : decode cX5_changeCopy 8 = .ok (.ifCond .eq 29, 3) := by decide +kernel
theorem dX5_changeCopy_11 : decode cX5_changeCopy 11 = .ok (.aload_n 1, 1) := by decide +kernel
theorem dX5_changeCopy_12 : decode cX5_changeCopy 12 = .ok (.getfield 201, 3) := by decide +kernel
theorem dX5_changeCopy_15 : decode cX5_changeCopy 15 = .ok (.dup, 1) := by decide +kernel
theorem dX5_changeCopy_16 : decode cX5_changeCopy 16 = .ok (.getfield 206, 3) := by decide +kernel
theorem dX5_changeCopy_19 : decode cX5_changeCopy 19 = .ok (.iload_n 2, 1) := by decide +kernel
theorem dX5_changeCopy_20 : decode cX5_changeCopy 20 = .ok (.iadd, 1) := by decide +kernel
theorem dX5_changeCopy_21 : decode cX5_changeCopy 21 = .ok (.putfield 206, 3) := by decide +kernel
theorem dX5_changeCopy_24 : decode cX5_changeCopy 24 = .ok (.aload_n 1, 1) := by decide +kernel
theorem dX5_changeCopy_25 : decode cX5_changeCopy 25 = .ok (.dup, 1) := by decide +kernel
theorem dX5_changeCopy_26 : decode cX5_changeCopy 26 = .ok (.getfield 184, 3) := by decide +kernel
theorem dX5_changeCopy_29 : decode cX5_changeCopy 29 = .ok (.iload_n 2, 1) := by decide +kernel
theorem dX5_changeCopy_30 : decode cX5_changeCopy 30 = .ok (.iadd, 1) := by decide +kernel
theorem dX5_changeCopy_31 : decode cX5_changeCopy 31 = .ok (.putfield 184, 3) := by decide +kernel
theorem dX5_changeCopy_34 : decode cX5_changeCopy 34 = .ok (.goto 8, 3) := by decide +kernel
theorem dX5_changeCopy_37 : decode cX5_changeCopy 37 = .ok (.aload_n 0, 1) := by decide +kernel
theorem dX5_changeCopy_38 : decode cX5_changeCopy 38 = .ok (.aload_n 1, 1) := by decide +kernel
theorem dX5_changeCopy_39 : decode cX5_changeCopy 39 = .ok (.invokevirtual 187, 3) := by decide +kernel
theorem dX5_changeCopy_42 : decode cX5_changeCopy 42 = .ok (.return_, 1) := by decide +kernel
theorem dX5_settleAllShardsOn_0 : decode cX5_settleAllShardsOn 0 = .ok (.iconst 0, 1) := by decide +kernel
theorem dX5_settleAllShardsOn_1 : decode cX5_settleAllShardsOn 1 = .ok (.istore_n 2, 1) := by decide +kernel
theorem dX5_settleAllShardsOn_2 : decode cX5_settleAllShardsOn 2 = .ok (.iload_n 2, 1) := by decide +kernel
theorem dX5_settleAllShardsOn_3 : decode cX5_settleAllShardsOn 3 = .ok (.aload_n 0, 1) := by decide +kernel
theorem dX5_settleAllShardsOn_4 : decode cX5_settleAllShardsOn 4 = .ok (.getfield 45, 3) := by decide +kernel
theorem dX5_settleAllShardsOn_7 : decode cX5_settleAllShardsOn 7 = .ok (.if_icmp .ge 19, 3) := by decide +kernel
theorem dX5_settleAllShardsOn_10 : decode cX5_settleAllShardsOn 10 = .ok (.aload_n 0, 1) := by decide +kernel
theorem dX5_settleAllShardsOn_11 : decode cX5_settleAllShardsOn 11 = .ok (.getfield 38, 3) := by decide +kernel
theorem dX5_settleAllShardsOn_14 : decode cX5_settleAllShardsOn 14 = .ok (.iload_n 2, 1) := by decide +kernel
theorem dX5_settleAllShardsOn_15 : decode cX5_settleAllShardsOn 15 = .ok (.aaload, 1) := by decide +kernel
theorem dX5_settleAllShardsOn_16 : decode cX5_settleAllShardsOn 16 = .ok (.aload_n 1, 1) := by decide +kernel
theorem dX5_settleAllShardsOn_17 : decode cX5_settleAllShardsOn 17 = .ok (.putfield 117, 3) := by decide +kernel
theorem dX5_settleAllShardsOn_20 : decode cX5_settleAllShardsOn 20 = .ok (.iinc 2 1, 3) := by decide +kernel
theorem dX5_settleAllShardsOn_23 : decode cX5_settleAllShardsOn 23 = .ok (.goto (-21), 3) := by decide +kernel
theorem dX5_settleAllShardsOn_26 : decode cX5_settleAllShardsOn 26 = .ok (.return_, 1) := by decide +kernel
theorem dX5_cutInTwo_0 : decode cX5_cutInTwo 0 = .ok (.aload_n 2, 1) := by decide +kernel
theorem dX5_cutInTwo_1 : decode cX5_cutInTwo 1 = .ok (.iload_n 3, 1) := by decide +kernel
theorem dX5_cutInTwo_2 : decode cX5_cutInTwo 2 = .ok (.putfield 147, 3) := by decide +kernel
theorem dX5_cutInTwo_5 : decode cX5_cutInTwo 5 = .ok (.aload_n 2, 1) := by decide +kernel
theorem dX5_cutInTwo_6 : decode cX5_cutInTwo 6 = .ok (.aload_n 1, 1) := by decide +kernel
theorem dX5_cutInTwo_7 : decode cX5_cutInTwo 7 = .ok (.getfield 171, 3) := by decide +kernel
theorem dX5_cutInTwo_10 : decode cX5_cutInTwo 10 = .ok (.putfield 171, 3) := by decide +kernel
theorem dX5_cutInTwo_13 : decode cX5_cutInTwo 13 = .ok (.aload_n 2, 1) := by decide +kernel
theorem dX5_cutInTwo_14 : decode cX5_cutInTwo 14 = .ok (.aload_n 1, 1) := by decide +kernel
theorem dX5_cutInTwo_15 : decode cX5_cutInTwo 15 = .ok (.getfield 117, 3) := by decide +kernel
theorem dX5_cutInTwo_18 : decode cX5_cutInTwo 18 = .ok (.putfield 117, 3) := by decide +kernel
theorem dX5_cutInTwo_21 : decode cX5_cutInTwo 21 = .ok (.aload_n 2, 1) := by decide +kernel
theorem dX5_cutInTwo_22 : decode cX5_cutInTwo 22 = .ok (.aload_n 0, 1) := by decide +kernel
theorem dX5_cutInTwo_23 : decode cX5_cutInTwo 23 = .ok (.aload_n 2, 1) := by decide +kernel
theorem dX5_cutInTwo_24 : decode cX5_cutInTwo 24 = .ok (.getfield 147, 3) := by decide +kernel
theorem dX5_cutInTwo_27 : decode cX5_cutInTwo 27 = .ok (.aload_n 2, 1) := by decide +kernel
theorem dX5_cutInTwo_28 : decode cX5_cutInTwo 28 = .ok (.getfield 171, 3) := by decide +kernel
theorem dX5_cutInTwo_31 : decode cX5_cutInTwo 31 = .ok (.invokevirtual 274, 3) := by decide +kernel
theorem dX5_cutInTwo_34 : decode cX5_cutInTwo 34 = .ok (.putfield 174, 3) := by decide +kernel
theorem dX5_cutInTwo_37 : decode cX5_cutInTwo 37 = .ok (.aload_n 2, 1) := by decide +kernel
theorem dX5_cutInTwo_38 : decode cX5_cutInTwo 38 = .ok (.aload_n 1, 1) := by decide +kernel
theorem dX5_cutInTwo_39 : decode cX5_cutInTwo 39 = .ok (.getfield 142, 3) := by decide +kernel
theorem dX5_cutInTwo_42 : decode cX5_cutInTwo 42 = .ok (.aload_n 1, 1) := by decide +kernel
theorem dX5_cutInTwo_43 : decode cX5_cutInTwo 43 = .ok (.getfield 142, 3) := by decide +kernel
theorem dX5_cutInTwo_46 : decode cX5_cutInTwo 46 = .ok (.iconst 2, 1) := by decide +kernel
theorem dX5_cutInTwo_47 : decode cX5_cutInTwo 47 = .ok (.idiv, 1) := by decide +kernel
theorem dX5_cutInTwo_48 : decode cX5_cutInTwo 48 = .ok (.isub, 1) := by decide +kernel
theorem dX5_cutInTwo_49 : decode cX5_cutInTwo 49 = .ok (.putfield 142, 3) := by decide +kernel
theorem dX5_cutInTwo_52 : decode cX5_cutInTwo 52 = .ok (.aload_n 1, 1) := by decide +kernel
theorem dX5_cutInTwo_53 : decode cX5_cutInTwo 53 = .ok (.iload_n 3, 1) := by decide +kernel
theorem dX5_cutInTwo_54 : decode cX5_cutInTwo 54 = .ok (.iconst 1, 1) := by decide +kernel
theorem dX5_cutInTwo_55 : decode cX5_cutInTwo 55 = .ok (.isub, 1) := by decide +kernel
theorem dX5_cutInTwo_56 : decode cX5_cutInTwo 56 = .ok (.putfield 171, 3) := by decide +kernel
theorem dX5_cutInTwo_59 : decode cX5_cutInTwo 59 = .ok (.aload_n 1, 1) := by decide +kernel
theorem dX5_cutInTwo_60 : decode cX5_cutInTwo 60 = .ok (.dup, 1) := by decide +kernel
theorem dX5_cutInTwo_61 : decode cX5_cutInTwo 61 = .ok (.getfield 174, 3) := by decide +kernel
theorem dX5_cutInTwo_64 : decode cX5_cutInTwo 64 = .ok (.aload_n 2, 1) := by decide +kernel
theorem dX5_cutInTwo_65 : decode cX5_cutInTwo 65 = .ok (.getfield 174, 3) := by decide +kernel
theorem dX5_cutInTwo_68 : decode cX5_cutInTwo 68 = .ok (.isub, 1) := by decide +kernel
theorem dX5_cutInTwo_69 : decode cX5_cutInTwo 69 = .ok (.putfield 174, 3) := by decide +kernel
theorem dX5_cutInTwo_72 : decode cX5_cutInTwo 72 = .ok (.aload_n 1, 1) := by decide +kernel
theorem dX5_cutInTwo_73 : decode cX5_cutInTwo 73 = .ok (.dup, 1) := by decide +kernel
theorem dX5_cutInTwo_74 : decode cX5_cutInTwo 74 = .ok (.getfield 142, 3) := by decide +kernel
theorem dX5_cutInTwo_77 : decode cX5_cutInTwo 77 = .ok (.iconst 2, 1) := by decide +kernel
theorem dX5_cutInTwo_78 : decode cX5_cutInTwo 78 = .ok (.idiv, 1) := by decide +kernel
theorem dX5_cutInTwo_79 : decode cX5_cutInTwo 79 = .ok (.putfield 142, 3) := by decide +kernel
theorem dX5_cutInTwo_82 : decode cX5_cutInTwo 82 = .ok (.return_, 1) := by decide +kernel
theorem dX5_canBeJoined_0 : decode cX5_canBeJoined 0 = .ok (.aload_n 1, 1) := by decide +kernel
theorem dX5_canBeJoined_1 : decode cX5_canBeJoined 1 = .ok (.getfield 117, 3) := by decide +kernel
theorem dX5_canBeJoined_4 : decode cX5_canBeJoined 4 = .ok (.aload_n 2, 1) := by decide +kernel
theorem dX5_canBeJoined_5 : decode cX5_canBeJoined 5 = .ok (.getfield 117, 3) := by decide +kernel
theorem dX5_canBeJoined_8 : decode cX5_canBeJoined 8 = .ok (.if_acmp .ne 21, 3) := by decide +kernel
theorem dX5_canBeJoined_11 : decode cX5_canBeJoined 11 = .ok (.aload_n 1, 1) := by decide +kernel
theorem dX5_canBeJoined_12 : decode cX5_canBeJoined 12 = .ok (.invokevirtual 150, 3) := by decide +kernel
theorem dX5_canBeJoined_15 : decode cX5_canBeJoined 15 = .ok (.ifCond .ne 14, 3) := by decide +kernel
theorem dX5_canBeJoined_18 : decode cX5_canBeJoined 18 = .ok (.aload_n 2, 1) := by decide +kernel
theorem dX5_canBeJoined_19 : decode cX5_canBeJoined 19 = .ok (.invokevirtual 150, 3) := by decide +kernel
theorem dX5_canBeJoined_22 : decode cX5_canBeJoined 22 = .ok (.ifCond .ne 7, 3) := by decide +kernel
theorem dX5_canBeJoined_25 : decode cX5_canBeJoined 25 = .ok (.iconst 1, 1) := by decide +kernel
theorem dX5_canBeJoined_26 : decode cX5_canBeJoined 26 = .ok (.goto 4, 3) := by decide +kernel
theorem dX5_canBeJoined_29 : decode cX5_canBeJoined 29 = .ok (.iconst 0, 1) := by decide +kernel
theorem dX5_canBeJoined_30 : decode cX5_canBeJoined 30 = .ok (.ireturn, 1) := by decide +kernel
theorem dX5_failMovesOf_0 : decode cX5_failMovesOf 0 = .ok (.iconst 0, 1) := by decide +kernel
theorem dX5_failMovesOf_1 : decode cX5_failMovesOf 1 = .ok (.istore_n 2, 1) := by decide +kernel
theorem dX5_failMovesOf_2 : decode cX5_failMovesOf 2 = .ok (.iload_n 2, 1) := by decide +kernel
theorem dX5_failMovesOf_3 : decode cX5_failMovesOf 3 = .ok (.aload_n 0, 1) := by decide +kernel
theorem dX5_failMovesOf_4 : decode cX5_failMovesOf 4 = .ok (.getfield 45, 3) := by decide +kernel
theorem dX5_failMovesOf_7 : decode cX5_failMovesOf 7 = .ok (.if_icmp .ge 44, 3) := by decide +kernel
theorem dX5_failMovesOf_10 : decode cX5_failMovesOf 10 = .ok (.aload_n 0, 1) := by decide +kernel
theorem dX5_failMovesOf_11 : decode cX5_failMovesOf 11 = .ok (.getfield 38, 3) := by decide +kernel
theorem dX5_failMovesOf_14 : decode cX5_failMovesOf 14 = .ok (.iload_n 2, 1) := by decide +kernel
theorem dX5_failMovesOf_15 : decode cX5_failMovesOf 15 = .ok (.aaload, 1) := by decide +kernel
theorem dX5_failMovesOf_16 : decode cX5_failMovesOf 16 = .ok (.astore_n 3, 1) := by decide +kernel
theorem dX5_failMovesOf_17 : decode cX5_failMovesOf 17 = .ok (.aload_n 3, 1) := by decide +kernel
theorem dX5_failMovesOf_18 : decode cX5_failMovesOf 18 = .ok (.invokevirtual 150, 3) := by decide +kernel
theorem dX5_failMovesOf_21 : decode cX5_failMovesOf 21 = .ok (.ifCond .eq 24, 3) := by decide +kernel
theorem dX5_failMovesOf_24 : decode cX5_failMovesOf 24 = .ok (.aload_n 3, 1) := by decide +kernel
theorem dX5_failMovesOf_25 : decode cX5_failMovesOf 25 = .ok (.getfield 117, 3) := by decide +kernel
theorem dX5_failMovesOf_28 : decode cX5_failMovesOf 28 = .ok (.aload_n 1, 1) := by decide +kernel
theorem dX5_failMovesOf_29 : decode cX5_failMovesOf 29 = .ok (.if_acmp .eq 11, 3) := by decide +kernel
theorem dX5_failMovesOf_32 : decode cX5_failMovesOf 32 = .ok (.aload_n 3, 1) := by decide +kernel
theorem dX5_failMovesOf_33 : decode cX5_failMovesOf 33 = .ok (.getfield 201, 3) := by decide +kernel
theorem dX5_failMovesOf_36 : decode cX5_failMovesOf 36 = .ok (.aload_n 1, 1) := by decide +kernel
theorem dX5_failMovesOf_37 : decode cX5_failMovesOf 37 = .ok (.if_acmp .ne 8, 3) := by decide +kernel
theorem dX5_failMovesOf_40 : decode cX5_failMovesOf 40 = .ok (.aload_n 0, 1) := by decide +kernel
theorem dX5_failMovesOf_41 : decode cX5_failMovesOf 41 = .ok (.aload_n 3, 1) := by decide +kernel
theorem dX5_failMovesOf_42 : decode cX5_failMovesOf 42 = .ok (.invokevirtual 187, 3) := by decide +kernel
theorem dX5_failMovesOf_45 : decode cX5_failMovesOf 45 = .ok (.iinc 2 1, 3) := by decide +kernel
theorem dX5_failMovesOf_48 : decode cX5_failMovesOf 48 = .ok (.goto (-46), 3) := by decide +kernel
theorem dX5_failMovesOf_51 : decode cX5_failMovesOf 51 = .ok (.return_, 1) := by decide +kernel
theorem dX5_failMove_0 : decode cX5_failMove 0 = .ok (.aload_n 1, 1) := by decide +kernel
theorem dX5_failMove_1 : decode cX5_failMove 1 = .ok (.getfield 201, 3) := by decide +kernel
theorem dX5_failMove_4 : decode cX5_failMove 4 = .ok (.dup, 1) := by decide +kernel
theorem dX5_failMove_5 : decode cX5_failMove 5 = .ok (.getfield 206, 3) := by decide +kernel
theorem dX5_failMove_8 : decode cX5_failMove 8 = .ok (.aload_n 1, 1) := by decide +kernel
theorem dX5_failMove_9 : decode cX5_failMove 9 = .ok (.getfield 184, 3) := by decide +kernel
theorem dX5_failMove_12 : decode cX5_failMove 12 = .ok (.isub, 1) := by decide +kernel
theorem dX5_failMove_13 : decode cX5_failMove 13 = .ok (.putfield 206, 3) := by decide +kernel
theorem dX5_failMove_16 : decode cX5_failMove 16 = .ok (.aload_n 1, 1) := by decide +kernel
theorem dX5_failMove_17 : decode cX5_failMove 17 = .ok (.aload_n 0, 1) := by decide +kernel
theorem dX5_failMove_18 : decode cX5_failMove 18 = .ok (.getfield 14, 3) := by decide +kernel
theorem dX5_failMove_21 : decode cX5_failMove 21 = .ok (.invokevirtual 179, 3) := by decide +kernel
theorem dX5_failMove_24 : decode cX5_failMove 24 = .ok (.aload_n 0, 1) := by decide +kernel
theorem dX5_failMove_25 : decode cX5_failMove 25 = .ok (.dup, 1) := by decide +kernel
theorem dX5_failMove_26 : decode cX5_failMove 26 = .ok (.getfield 248, 3) := by decide +kernel
theorem dX5_failMove_29 : decode cX5_failMove 29 = .ok (.iconst 1, 1) := by decide +kernel
theorem dX5_failMove_30 : decode cX5_failMove 30 = .ok (.iadd, 1) := by decide +kernel
theorem dX5_failMove_31 : decode cX5_failMove 31 = .ok (.putfield 248, 3) := by decide +kernel
theorem dX5_failMove_34 : decode cX5_failMove 34 = .ok (.return_, 1) := by decide +kernel
theorem dX5_cutOver_0 : decode cX5_cutOver 0 = .ok (.aload_n 1, 1) := by decide +kernel
theorem dX5_cutOver_1 : decode cX5_cutOver 1 = .ok (.getfield 117, 3) := by decide +kernel
theorem dX5_cutOver_4 : decode cX5_cutOver 4 = .ok (.dup, 1) := by decide +kernel
theorem dX5_cutOver_5 : decode cX5_cutOver 5 = .ok (.getfield 206, 3) := by decide +kernel
theorem dX5_cutOver_8 : decode cX5_cutOver 8 = .ok (.aload_n 1, 1) := by decide +kernel
theorem dX5_cutOver_9 : decode cX5_cutOver 9 = .ok (.getfield 174, 3) := by decide +kernel
theorem dX5_cutOver_12 : decode cX5_cutOver 12 = .ok (.isub, 1) := by decide +kernel
theorem dX5_cutOver_13 : decode cX5_cutOver 13 = .ok (.putfield 206, 3) := by decide +kernel
theorem dX5_cutOver_16 : decode cX5_cutOver 16 = .ok (.aload_n 1, 1) := by decide +kernel
theorem dX5_cutOver_17 : decode cX5_cutOver 17 = .ok (.aload_n 1, 1) := by decide +kernel
theorem dX5_cutOver_18 : decode cX5_cutOver 18 = .ok (.getfield 201, 3) := by decide +kernel
theorem dX5_cutOver_21 : decode cX5_cutOver 21 = .ok (.putfield 117, 3) := by decide +kernel
theorem dX5_cutOver_24 : decode cX5_cutOver 24 = .ok (.aload_n 1, 1) := by decide +kernel
theorem dX5_cutOver_25 : decode cX5_cutOver 25 = .ok (.aload_n 0, 1) := by decide +kernel
theorem dX5_cutOver_26 : decode cX5_cutOver 26 = .ok (.getfield 14, 3) := by decide +kernel
theorem dX5_cutOver_29 : decode cX5_cutOver 29 = .ok (.invokevirtual 179, 3) := by decide +kernel
theorem dX5_cutOver_32 : decode cX5_cutOver 32 = .ok (.aload_n 0, 1) := by decide +kernel
theorem dX5_cutOver_33 : decode cX5_cutOver 33 = .ok (.dup, 1) := by decide +kernel
theorem dX5_cutOver_34 : decode cX5_cutOver 34 = .ok (.getfield 245, 3) := by decide +kernel
theorem dX5_cutOver_37 : decode cX5_cutOver 37 = .ok (.iconst 1, 1) := by decide +kernel
theorem dX5_cutOver_38 : decode cX5_cutOver 38 = .ok (.iadd, 1) := by decide +kernel
theorem dX5_cutOver_39 : decode cX5_cutOver 39 = .ok (.putfield 245, 3) := by decide +kernel
theorem dX5_cutOver_42 : decode cX5_cutOver 42 = .ok (.aload_n 0, 1) := by decide +kernel
theorem dX5_cutOver_43 : decode cX5_cutOver 43 = .ok (.new 237, 3) := by decide +kernel
theorem dX5_cutOver_46 : decode cX5_cutOver 46 = .ok (.dup, 1) := by decide +kernel
theorem dX5_cutOver_47 : decode cX5_cutOver 47 = .ok (.aload_n 1, 1) := by decide +kernel
theorem dX5_cutOver_48 : decode cX5_cutOver 48 = .ok (.getfield 147, 3) := by decide +kernel
theorem dX5_cutOver_51 : decode cX5_cutOver 51 = .ok (.aload_n 1, 1) := by decide +kernel
theorem dX5_cutOver_52 : decode cX5_cutOver 52 = .ok (.getfield 171, 3) := by decide +kernel
theorem dX5_cutOver_55 : decode cX5_cutOver 55 = .ok (.aload_n 1, 1) := by decide +kernel
theorem dX5_cutOver_56 : decode cX5_cutOver 56 = .ok (.getfield 117, 3) := by decide +kernel
theorem dX5_cutOver_59 : decode cX5_cutOver 59 = .ok (.getfield 71, 3) := by decide +kernel
theorem dX5_cutOver_62 : decode cX5_cutOver 62 = .ok (.aload_n 0, 1) := by decide +kernel
theorem dX5_cutOver_63 : decode cX5_cutOver 63 = .ok (.getfield 232, 3) := by decide +kernel
theorem dX5_cutOver_66 : decode cX5_cutOver 66 = .ok (.invokespecial 278, 3) := by decide +kernel
theorem dX5_cutOver_69 : decode cX5_cutOver 69 = .ok (.putfield 232, 3) := by decide +kernel
theorem dX5_cutOver_72 : decode cX5_cutOver 72 = .ok (.return_, 1) := by decide +kernel
theorem dX5_copyForOneHour_0 : decode cX5_copyForOneHour 0 = .ok (.aload_n 1, 1) := by decide +kernel
theorem dX5_copyForOneHour_1 : decode cX5_copyForOneHour 1 = .ok (.dup, 1) := by decide +kernel
theorem dX5_copyForOneHour_2 : decode cX5_copyForOneHour 2 = .ok (.getfield 281, 3) := by decide +kernel
theorem dX5_copyForOneHour_5 : decode cX5_copyForOneHour 5 = .ok (.bipush 50, 2) := by decide +kernel
theorem dX5_copyForOneHour_7 : decode cX5_copyForOneHour 7 = .ok (.iadd, 1) := by decide +kernel
theorem dX5_copyForOneHour_8 : decode cX5_copyForOneHour 8 = .ok (.putfield 281, 3) := by decide +kernel
theorem dX5_copyForOneHour_11 : decode cX5_copyForOneHour 11 = .ok (.aload_n 1, 1) := by decide +kernel
theorem dX5_copyForOneHour_12 : decode cX5_copyForOneHour 12 = .ok (.getfield 284, 3) := by decide +kernel
theorem dX5_copyForOneHour_15 : decode cX5_copyForOneHour 15 = .ok (.istore_n 2, 1) := by decide +kernel
theorem dX5_copyForOneHour_16 : decode cX5_copyForOneHour 16 = .ok (.iload_n 2, 1) := by decide +kernel
theorem dX5_copyForOneHour_17 : decode cX5_copyForOneHour 17 = .ok (.aload_n 1, 1) := by decide +kernel
theorem dX5_copyForOneHour_18 : decode cX5_copyForOneHour 18 = .ok (.getfield 171, 3) := by decide +kernel
theorem dX5_copyForOneHour_21 : decode cX5_copyForOneHour 21 = .ok (.if_icmp .gt 54, 3) := by decide +kernel
theorem dX5_copyForOneHour_24 : decode cX5_copyForOneHour 24 = .ok (.iload_n 2, 1) := by decide +kernel
theorem dX5_copyForOneHour_25 : decode cX5_copyForOneHour 25 = .ok (.sipush 1000, 3) := by decide +kernel
theorem dX5_copyForOneHour_28 : decode cX5_copyForOneHour 28 = .ok (.if_icmp .ge 47, 3) := by decide +kernel
theorem dX5_copyForOneHour_31 : decode cX5_copyForOneHour 31 = .ok (.aload_n 0, 1) := by decide +kernel
theorem dX5_copyForOneHour_32 : decode cX5_copyForOneHour 32 = .ok (.getfield 18, 3) := by decide +kernel
theorem dX5_copyForOneHour_35 : decode cX5_copyForOneHour 35 = .ok (.iload_n 2, 1) := by decide +kernel
theorem dX5_copyForOneHour_36 : decode cX5_copyForOneHour 36 = .ok (.iaload, 1) := by decide +kernel
theorem dX5_copyForOneHour_37 : decode cX5_copyForOneHour 37 = .ok (.istore_n 3, 1) := by decide +kernel
theorem dX5_copyForOneHour_38 : decode cX5_copyForOneHour 38 = .ok (.iload_n 3, 1) := by decide +kernel
theorem dX5_copyForOneHour_39 : decode cX5_copyForOneHour 39 = .ok (.aload_n 1, 1) := by decide +kernel
theorem dX5_copyForOneHour_40 : decode cX5_copyForOneHour 40 = .ok (.getfield 281, 3) := by decide +kernel
theorem dX5_copyForOneHour_43 : decode cX5_copyForOneHour 43 = .ok (.if_icmp .le 4, 3) := by decide +kernel
theorem dX5_copyForOneHour_46 : decode cX5_copyForOneHour 46 = .ok (.return_, 1) := by decide +kernel
theorem dX5_copyForOneHour_47 : decode cX5_copyForOneHour 47 = .ok (.aload_n 1, 1) := by decide +kernel
theorem dX5_copyForOneHour_48 : decode cX5_copyForOneHour 48 = .ok (.getfield 201, 3) := by decide +kernel
theorem dX5_copyForOneHour_51 : decode cX5_copyForOneHour 51 = .ok (.iload_n 3, 1) := by decide +kernel
theorem dX5_copyForOneHour_52 : decode cX5_copyForOneHour 52 = .ok (.invokevirtual 120, 3) := by decide +kernel
theorem dX5_copyForOneHour_55 : decode cX5_copyForOneHour 55 = .ok (.ifCond .ne 9, 3) := by decide +kernel
theorem dX5_copyForOneHour_58 : decode cX5_copyForOneHour 58 = .ok (.aload_n 0, 1) := by decide +kernel
theorem dX5_copyForOneHour_59 : decode cX5_copyForOneHour 59 = .ok (.aload_n 1, 1) := by decide +kernel
theorem dX5_copyForOneHour_60 : decode cX5_copyForOneHour 60 = .ok (.invokevirtual 187, 3) := by decide +kernel
theorem dX5_copyForOneHour_63 : decode cX5_copyForOneHour 63 = .ok (.return_, 1) := by decide +kernel
theorem dX5_copyForOneHour_64 : decode cX5_copyForOneHour 64 = .ok (.aload_n 1, 1) := by decide +kernel
theorem dX5_copyForOneHour_65 : decode cX5_copyForOneHour 65 = .ok (.iload_n 3, 1) := by decide +kernel
theorem dX5_copyForOneHour_66 : decode cX5_copyForOneHour 66 = .ok (.invokevirtual 287, 3) := by decide +kernel
theorem dX5_copyForOneHour_69 : decode cX5_copyForOneHour 69 = .ok (.iinc 2 1, 3) := by decide +kernel
theorem dX5_copyForOneHour_72 : decode cX5_copyForOneHour 72 = .ok (.goto (-56), 3) := by decide +kernel
theorem dX5_copyForOneHour_75 : decode cX5_copyForOneHour 75 = .ok (.aload_n 0, 1) := by decide +kernel
theorem dX5_copyForOneHour_76 : decode cX5_copyForOneHour 76 = .ok (.aload_n 1, 1) := by decide +kernel
theorem dX5_copyForOneHour_77 : decode cX5_copyForOneHour 77 = .ok (.invokevirtual 290, 3) := by decide +kernel
theorem dX5_copyForOneHour_80 : decode cX5_copyForOneHour 80 = .ok (.return_, 1) := by decide +kernel
theorem dX5_passOneHour_0 : decode cX5_passOneHour 0 = .ok (.aload_n 0, 1) := by decide +kernel
theorem dX5_passOneHour_1 : decode cX5_passOneHour 1 = .ok (.dup, 1) := by decide +kernel
theorem dX5_passOneHour_2 : decode cX5_passOneHour 2 = .ok (.getfield 193, 3) := by decide +kernel
theorem dX5_passOneHour_5 : decode cX5_passOneHour 5 = .ok (.iconst 1, 1) := by decide +kernel
theorem dX5_passOneHour_6 : decode cX5_passOneHour 6 = .ok (.iadd, 1) := by decide +kernel
theorem dX5_passOneHour_7 : decode cX5_passOneHour 7 = .ok (.putfield 193, 3) := by decide +kernel
theorem dX5_passOneHour_10 : decode cX5_passOneHour 10 = .ok (.iconst 0, 1) := by decide +kernel
theorem dX5_passOneHour_11 : decode cX5_passOneHour 11 = .ok (.istore_n 1, 1) := by decide +kernel
theorem dX5_passOneHour_12 : decode cX5_passOneHour 12 = .ok (.iload_n 1, 1) := by decide +kernel
theorem dX5_passOneHour_13 : decode cX5_passOneHour 13 = .ok (.aload_n 0, 1) := by decide +kernel
theorem dX5_passOneHour_14 : decode cX5_passOneHour 14 = .ok (.getfield 45, 3) := by decide +kernel
theorem dX5_passOneHour_17 : decode cX5_passOneHour 17 = .ok (.if_icmp .ge 31, 3) := by decide +kernel
theorem dX5_passOneHour_20 : decode cX5_passOneHour 20 = .ok (.aload_n 0, 1) := by decide +kernel
theorem dX5_passOneHour_21 : decode cX5_passOneHour 21 = .ok (.getfield 38, 3) := by decide +kernel
theorem dX5_passOneHour_24 : decode cX5_passOneHour 24 = .ok (.iload_n 1, 1) := by decide +kernel
theorem dX5_passOneHour_25 : decode cX5_passOneHour 25 = .ok (.aaload, 1) := by decide +kernel
theorem dX5_passOneHour_26 : decode cX5_passOneHour 26 = .ok (.invokevirtual 150, 3) := by decide +kernel
theorem dX5_passOneHour_29 : decode cX5_passOneHour 29 = .ok (.ifCond .eq 13, 3) := by decide +kernel
theorem dX5_passOneHour_32 : decode cX5_passOneHour 32 = .ok (.aload_n 0, 1) := by decide +kernel
theorem dX5_passOneHour_33 : decode cX5_passOneHour 33 = .ok (.aload_n 0, 1) := by decide +kernel
theorem dX5_passOneHour_34 : decode cX5_passOneHour 34 = .ok (.getfield 38, 3) := by decide +kernel
theorem dX5_passOneHour_37 : decode cX5_passOneHour 37 = .ok (.iload_n 1, 1) := by decide +kernel
theorem dX5_passOneHour_38 : decode cX5_passOneHour 38 = .ok (.aaload, 1) := by decide +kernel
theorem dX5_passOneHour_39 : decode cX5_passOneHour 39 = .ok (.invokevirtual 293, 3) := by decide +kernel
theorem dX5_passOneHour_42 : decode cX5_passOneHour 42 = .ok (.iinc 1 1, 3) := by decide +kernel
theorem dX5_passOneHour_45 : decode cX5_passOneHour 45 = .ok (.goto (-33), 3) := by decide +kernel
theorem dX5_passOneHour_48 : decode cX5_passOneHour 48 = .ok (.iconst 0, 1) := by decide +kernel
theorem dX5_passOneHour_49 : decode cX5_passOneHour 49 = .ok (.istore_n 1, 1) := by decide +kernel
theorem dX5_passOneHour_50 : decode cX5_passOneHour 50 = .ok (.iload_n 1, 1) := by decide +kernel
theorem dX5_passOneHour_51 : decode cX5_passOneHour 51 = .ok (.iconst 4, 1) := by decide +kernel
theorem dX5_passOneHour_52 : decode cX5_passOneHour 52 = .ok (.if_icmp .ge 32, 3) := by decide +kernel
theorem dX5_passOneHour_55 : decode cX5_passOneHour 55 = .ok (.aload_n 0, 1) := by decide +kernel
theorem dX5_passOneHour_56 : decode cX5_passOneHour 56 = .ok (.getfield 27, 3) := by decide +kernel
theorem dX5_passOneHour_59 : decode cX5_passOneHour 59 = .ok (.iload_n 1, 1) := by decide +kernel
theorem dX5_passOneHour_60 : decode cX5_passOneHour 60 = .ok (.aaload, 1) := by decide +kernel
theorem dX5_passOneHour_61 : decode cX5_passOneHour 61 = .ok (.dup, 1) := by decide +kernel
theorem dX5_passOneHour_62 : decode cX5_passOneHour 62 = .ok (.getfield 216, 3) := by decide +kernel
theorem dX5_passOneHour_65 : decode cX5_passOneHour 65 = .ok (.aload_n 0, 1) := by decide +kernel
theorem dX5_passOneHour_66 : decode cX5_passOneHour 66 = .ok (.getfield 27, 3) := by decide +kernel
theorem dX5_passOneHour_69 : decode cX5_passOneHour 69 = .ok (.iload_n 1, 1) := by decide +kernel
theorem dX5_passOneHour_70 : decode cX5_passOneHour 70 = .ok (.aaload, 1) := by decide +kernel
theorem dX5_passOneHour_71 : decode cX5_passOneHour 71 = .ok (.getfield 133, 3) := by decide +kernel
theorem dX5_passOneHour_74 : decode cX5_passOneHour 74 = .ok (.iadd, 1) := by decide +kernel
theorem dX5_passOneHour_75 : decode cX5_passOneHour 75 = .ok (.putfield 216, 3) := by decide +kernel
theorem dX5_passOneHour_78 : decode cX5_passOneHour 78 = .ok (.iinc 1 1, 3) := by decide +kernel
theorem dX5_passOneHour_81 : decode cX5_passOneHour 81 = .ok (.goto (-31), 3) := by decide +kernel
theorem dX5_passOneHour_84 : decode cX5_passOneHour 84 = .ok (.aload_n 0, 1) := by decide +kernel
theorem dX5_passOneHour_85 : decode cX5_passOneHour 85 = .ok (.getfield 101, 3) := by decide +kernel
theorem dX5_passOneHour_88 : decode cX5_passOneHour 88 = .ok (.ifCond .eq 7, 3) := by decide +kernel
theorem dX5_passOneHour_91 : decode cX5_passOneHour 91 = .ok (.aload_n 0, 1) := by decide +kernel
theorem dX5_passOneHour_92 : decode cX5_passOneHour 92 = .ok (.invokevirtual 296, 3) := by decide +kernel
theorem dX5_passOneHour_95 : decode cX5_passOneHour 95 = .ok (.iconst 0, 1) := by decide +kernel
theorem dX5_passOneHour_96 : decode cX5_passOneHour 96 = .ok (.istore_n 1, 1) := by decide +kernel
theorem dX5_passOneHour_97 : decode cX5_passOneHour 97 = .ok (.iload_n 1, 1) := by decide +kernel
theorem dX5_passOneHour_98 : decode cX5_passOneHour 98 = .ok (.aload_n 0, 1) := by decide +kernel
theorem dX5_passOneHour_99 : decode cX5_passOneHour 99 = .ok (.getfield 45, 3) := by decide +kernel
theorem dX5_passOneHour_102 : decode cX5_passOneHour 102 = .ok (.if_icmp .ge 24, 3) := by decide +kernel
theorem dX5_passOneHour_105 : decode cX5_passOneHour 105 = .ok (.aload_n 0, 1) := by decide +kernel
theorem dX5_passOneHour_106 : decode cX5_passOneHour 106 = .ok (.getfield 38, 3) := by decide +kernel
theorem dX5_passOneHour_109 : decode cX5_passOneHour 109 = .ok (.iload_n 1, 1) := by decide +kernel
theorem dX5_passOneHour_110 : decode cX5_passOneHour 110 = .ok (.aaload, 1) := by decide +kernel
theorem dX5_passOneHour_111 : decode cX5_passOneHour 111 = .ok (.dup, 1) := by decide +kernel
theorem dX5_passOneHour_112 : decode cX5_passOneHour 112 = .ok (.getfield 142, 3) := by decide +kernel
theorem dX5_passOneHour_115 : decode cX5_passOneHour 115 = .ok (.iconst 2, 1) := by decide +kernel
theorem dX5_passOneHour_116 : decode cX5_passOneHour 116 = .ok (.idiv, 1) := by decide +kernel
theorem dX5_passOneHour_117 : decode cX5_passOneHour 117 = .ok (.putfield 142, 3) := by decide +kernel
theorem dX5_passOneHour_120 : decode cX5_passOneHour 120 = .ok (.iinc 1 1, 3) := by decide +kernel
theorem dX5_passOneHour_123 : decode cX5_passOneHour 123 = .ok (.goto (-26), 3) := by decide +kernel
theorem dX5_passOneHour_126 : decode cX5_passOneHour 126 = .ok (.return_, 1) := by decide +kernel
theorem dX5_drawMoveByHeat_0 : decode cX5_drawMoveByHeat 0 = .ok (.aload_n 0, 1) := by decide +kernel
theorem dX5_drawMoveByHeat_1 : decode cX5_drawMoveByHeat 1 = .ok (.invokevirtual 299, 3) := by decide +kernel
theorem dX5_drawMoveByHeat_4 : decode cX5_drawMoveByHeat 4 = .ok (.astore_n 1, 1) := by decide +kernel
theorem dX5_drawMoveByHeat_5 : decode cX5_drawMoveByHeat 5 = .ok (.aload_n 0, 1) := by decide +kernel
theorem dX5_drawMoveByHeat_6 : decode cX5_drawMoveByHeat 6 = .ok (.invokevirtual 303, 3) := by decide +kernel
theorem dX5_drawMoveByHeat_9 : decode cX5_drawMoveByHeat 9 = .ok (.astore_n 2, 1) := by decide +kernel
theorem dX5_drawMoveByHeat_10 : decode cX5_drawMoveByHeat 10 = .ok (.aload_n 0, 1) := by decide +kernel
theorem dX5_drawMoveByHeat_11 : decode cX5_drawMoveByHeat 11 = .ok (.aload_n 1, 1) := by decide +kernel
theorem dX5_drawMoveByHeat_12 : decode cX5_drawMoveByHeat 12 = .ok (.invokevirtual 209, 3) := by decide +kernel
theorem dX5_drawMoveByHeat_15 : decode cX5_drawMoveByHeat 15 = .ok (.aload_n 0, 1) := by decide +kernel
theorem dX5_drawMoveByHeat_16 : decode cX5_drawMoveByHeat 16 = .ok (.aload_n 2, 1) := by decide +kernel
theorem dX5_drawMoveByHeat_17 : decode cX5_drawMoveByHeat 17 = .ok (.invokevirtual 209, 3) := by decide +kernel
theorem dX5_drawMoveByHeat_20 : decode cX5_drawMoveByHeat 20 = .ok (.isub, 1) := by decide +kernel
theorem dX5_drawMoveByHeat_21 : decode cX5_drawMoveByHeat 21 = .ok (.aload_n 0, 1) := by decide +kernel
theorem dX5_drawMoveByHeat_22 : decode cX5_drawMoveByHeat 22 = .ok (.getfield 101, 3) := by decide +kernel
theorem dX5_drawMoveByHeat_25 : decode cX5_drawMoveByHeat 25 = .ok (.if_icmp .lt 11, 3) := by decide +kernel
theorem dX5_drawMoveByHeat_28 : decode cX5_drawMoveByHeat 28 = .ok (.aload_n 0, 1) := by decide +kernel
theorem dX5_drawMoveByHeat_29 : decode cX5_drawMoveByHeat 29 = .ok (.aload_n 1, 1) := by decide +kernel
theorem dX5_drawMoveByHeat_30 : decode cX5_drawMoveByHeat 30 = .ok (.invokevirtual 306, 3) := by decide +kernel
theorem dX5_drawMoveByHeat_33 : decode cX5_drawMoveByHeat 33 = .ok (.ifCond .eq 4, 3) := by decide +kernel
theorem dX5_drawMoveByHeat_36 : decode cX5_drawMoveByHeat 36 = .ok (.return_, 1) := by decide +kernel
theorem dX5_drawMoveByHeat_37 : decode cX5_drawMoveByHeat 37 = .ok (.aload_n 0, 1) := by decide +kernel
theorem dX5_drawMoveByHeat_38 : decode cX5_drawMoveByHeat 38 = .ok (.aload_n 1, 1) := by decide +kernel
theorem dX5_drawMoveByHeat_39 : decode cX5_drawMoveByHeat 39 = .ok (.invokevirtual 310, 3) := by decide +kernel
theorem dX5_drawMoveByHeat_42 : decode cX5_drawMoveByHeat 42 = .ok (.istore_n 3, 1) := by decide +kernel
theorem dX5_drawMoveByHeat_43 : decode cX5_drawMoveByHeat 43 = .ok (.aload_n 0, 1) := by decide +kernel
theorem dX5_drawMoveByHeat_44 : decode cX5_drawMoveByHeat 44 = .ok (.iload_n 3, 1) := by decide +kernel
theorem dX5_drawMoveByHeat_45 : decode cX5_drawMoveByHeat 45 = .ok (.invokevirtual 160, 3) := by decide +kernel
theorem dX5_drawMoveByHeat_48 : decode cX5_drawMoveByHeat 48 = .ok (.ifCond .eq 25, 3) := by decide +kernel
theorem dX5_drawMoveByHeat_51 : decode cX5_drawMoveByHeat 51 = .ok (.aload_n 0, 1) := by decide +kernel
theorem dX5_drawMoveByHeat_52 : decode cX5_drawMoveByHeat 52 = .ok (.getfield 38, 3) := by decide +kernel
theorem dX5_drawMoveByHeat_55 : decode cX5_drawMoveByHeat 55 = .ok (.iload_n 3, 1) := by decide +kernel
theorem dX5_drawMoveByHeat_56 : decode cX5_drawMoveByHeat 56 = .ok (.aaload, 1) := by decide +kernel
theorem dX5_drawMoveByHeat_57 : decode cX5_drawMoveByHeat 57 = .ok (.getfield 142, 3) := by decide +kernel
theorem dX5_drawMoveByHeat_60 : decode cX5_drawMoveByHeat 60 = .ok (.ifCond .le 13, 3) := by decide +kernel
theorem dX5_drawMoveByHeat_63 : decode cX5_drawMoveByHeat 63 = .ok (.aload_n 0, 1) := by decide +kernel
theorem dX5_drawMoveByHeat_64 : decode cX5_drawMoveByHeat 64 = .ok (.getfield 38, 3) := by decide +kernel
theorem dX5_drawMoveByHeat_67 : decode cX5_drawMoveByHeat 67 = .ok (.iload_n 3, 1) := by decide +kernel
theorem dX5_drawMoveByHeat_68 : decode cX5_drawMoveByHeat 68 = .ok (.aaload, 1) := by decide +kernel
theorem dX5_drawMoveByHeat_69 : decode cX5_drawMoveByHeat 69 = .ok (.aload_n 2, 1) := by decide +kernel
theorem dX5_drawMoveByHeat_70 : decode cX5_drawMoveByHeat 70 = .ok (.invokevirtual 179, 3) := by decide +kernel
theorem dX5_drawMoveByHeat_73 : decode cX5_drawMoveByHeat 73 = .ok (.return_, 1) := by decide +kernel
theorem dX5_hottestMachineUp_0 : decode cX5_hottestMachineUp 0 = .ok (.aload_n 0, 1) := by decide +kernel
theorem dX5_hottestMachineUp_1 : decode cX5_hottestMachineUp 1 = .ok (.getfield 14, 3) := by decide +kernel
theorem dX5_hottestMachineUp_4 : decode cX5_hottestMachineUp 4 = .ok (.astore_n 1, 1) := by decide +kernel
theorem dX5_hottestMachineUp_5 : decode cX5_hottestMachineUp 5 = .ok (.iconst 0, 1) := by decide +kernel
theorem dX5_hottestMachineUp_6 : decode cX5_hottestMachineUp 6 = .ok (.istore_n 2, 1) := by decide +kernel
theorem dX5_hottestMachineUp_7 : decode cX5_hottestMachineUp 7 = .ok (.iload_n 2, 1) := by decide +kernel
theorem dX5_hottestMachineUp_8 : decode cX5_hottestMachineUp 8 = .ok (.aload_n 0, 1) := by decide +kernel
theorem dX5_hottestMachineUp_9 : decode cX5_hottestMachineUp 9 = .ok (.getfield 56, 3) := by decide +kernel
theorem dX5_hottestMachineUp_12 : decode cX5_hottestMachineUp 12 = .ok (.if_icmp .ge 46, 3) := by decide +kernel
theorem dX5_hottestMachineUp_15 : decode cX5_hottestMachineUp 15 = .ok (.aload_n 0, 1) := by decide +kernel
theorem dX5_hottestMachineUp_16 : decode cX5_hottestMachineUp 16 = .ok (.getfield 32, 3) := by decide +kernel
theorem dX5_hottestMachineUp_19 : decode cX5_hottestMachineUp 19 = .ok (.iload_n 2, 1) := by decide +kernel
theorem dX5_hottestMachineUp_20 : decode cX5_hottestMachineUp 20 = .ok (.aaload, 1) := by decide +kernel
theorem dX5_hottestMachineUp_21 : decode cX5_hottestMachineUp 21 = .ok (.astore_n 3, 1) := by decide +kernel
theorem dX5_hottestMachineUp_22 : decode cX5_hottestMachineUp 22 = .ok (.aload_n 3, 1) := by decide +kernel
theorem dX5_hottestMachineUp_23 : decode cX5_hottestMachineUp 23 = .ok (.getfield 67, 3) := by decide +kernel
theorem dX5_hottestMachineUp_26 : decode cX5_hottestMachineUp 26 = .ok (.ifCond .eq 26, 3) := by decide +kernel
theorem dX5_hottestMachineUp_29 : decode cX5_hottestMachineUp 29 = .ok (.aload_n 1, 1) := by decide +kernel
theorem dX5_hottestMachineUp_30 : decode cX5_hottestMachineUp 30 = .ok (.aload_n 0, 1) := by decide +kernel
theorem dX5_hottestMachineUp_31 : decode cX5_hottestMachineUp 31 = .ok (.getfield 14, 3) := by decide +kernel
theorem dX5_hottestMachineUp_34 : decode cX5_hottestMachineUp 34 = .ok (.if_acmp .eq 16, 3) := by decide +kernel
theorem dX5_hottestMachineUp_37 : decode cX5_hottestMachineUp 37 = .ok (.aload_n 0, 1) := by decide +kernel
theorem dX5_hottestMachineUp_38 : decode cX5_hottestMachineUp 38 = .ok (.aload_n 3, 1) := by decide +kernel
theorem dX5_hottestMachineUp_39 : decode cX5_hottestMachineUp 39 = .ok (.invokevirtual 209, 3) := by decide +kernel
theorem dX5_hottestMachineUp_42 : decode cX5_hottestMachineUp 42 = .ok (.aload_n 0, 1) := by decide +kernel
theorem dX5_hottestMachineUp_43 : decode cX5_hottestMachineUp 43 = .ok (.aload_n 1, 1) := by decide +kernel
theorem dX5_hottestMachineUp_44 : decode cX5_hottestMachineUp 44 = .ok (.invokevirtual 209, 3) := by decide +kernel
theorem dX5_hottestMachineUp_47 : decode cX5_hottestMachineUp 47 = .ok (.if_icmp .le 5, 3) := by decide +kernel
theorem dX5_hottestMachineUp_50 : decode cX5_hottestMachineUp 50 = .ok (.aload_n 3, 1) := by decide +kernel
theorem dX5_hottestMachineUp_51 : decode cX5_hottestMachineUp 51 = .ok (.astore_n 1, 1) := by decide +kernel
theorem dX5_hottestMachineUp_52 : decode cX5_hottestMachineUp 52 = .ok (.iinc 2 1, 3) := by decide +kernel
theorem dX5_hottestMachineUp_55 : decode cX5_hottestMachineUp 55 = .ok (.goto (-48), 3) := by decide +kernel
theorem dX5_hottestMachineUp_58 : decode cX5_hottestMachineUp 58 = .ok (.aload_n 1, 1) := by decide +kernel
theorem dX5_hottestMachineUp_59 : decode cX5_hottestMachineUp 59 = .ok (.areturn, 1) := by decide +kernel
theorem dX5_coldestMachineUp_0 : decode cX5_coldestMachineUp 0 = .ok (.aload_n 0, 1) := by decide +kernel
theorem dX5_coldestMachineUp_1 : decode cX5_coldestMachineUp 1 = .ok (.getfield 14, 3) := by decide +kernel
theorem dX5_coldestMachineUp_4 : decode cX5_coldestMachineUp 4 = .ok (.astore_n 1, 1) := by decide +kernel
theorem dX5_coldestMachineUp_5 : decode cX5_coldestMachineUp 5 = .ok (.iconst 0, 1) := by decide +kernel
theorem dX5_coldestMachineUp_6 : decode cX5_coldestMachineUp 6 = .ok (.istore_n 2, 1) := by decide +kernel
theorem dX5_coldestMachineUp_7 : decode cX5_coldestMachineUp 7 = .ok (.iload_n 2, 1) := by decide +kernel
theorem dX5_coldestMachineUp_8 : decode cX5_coldestMachineUp 8 = .ok (.aload_n 0, 1) := by decide +kernel
theorem dX5_coldestMachineUp_9 : decode cX5_coldestMachineUp 9 = .ok (.getfield 56, 3) := by decide +kernel
theorem dX5_coldestMachineUp_12 : decode cX5_coldestMachineUp 12 = .ok (.if_icmp .ge 46, 3) := by decide +kernel
theorem dX5_coldestMachineUp_15 : decode cX5_coldestMachineUp 15 = .ok (.aload_n 0, 1) := by decide +kernel
theorem dX5_coldestMachineUp_16 : decode cX5_coldestMachineUp 16 = .ok (.getfield 32, 3) := by decide +kernel
theorem dX5_coldestMachineUp_19 : decode cX5_coldestMachineUp 19 = .ok (.iload_n 2, 1) := by decide +kernel
theorem dX5_coldestMachineUp_20 : decode cX5_coldestMachineUp 20 = .ok (.aaload, 1) := by decide +kernel
theorem dX5_coldestMachineUp_21 : decode cX5_coldestMachineUp 21 = .ok (.astore_n 3, 1) := by decide +kernel
theorem dX5_coldestMachineUp_22 : decode cX5_coldestMachineUp 22 = .ok (.aload_n 3, 1) := by decide +kernel
theorem dX5_coldestMachineUp_23 : decode cX5_coldestMachineUp 23 = .ok (.getfield 67, 3) := by decide +kernel
theorem dX5_coldestMachineUp_26 : decode cX5_coldestMachineUp 26 = .ok (.ifCond .eq 26, 3) := by decide +kernel
theorem dX5_coldestMachineUp_29 : decode cX5_coldestMachineUp 29 = .ok (.aload_n 1, 1) := by decide +kernel
theorem dX5_coldestMachineUp_30 : decode cX5_coldestMachineUp 30 = .ok (.aload_n 0, 1) := by decide +kernel
theorem dX5_coldestMachineUp_31 : decode cX5_coldestMachineUp 31 = .ok (.getfield 14, 3) := by decide +kernel
theorem dX5_coldestMachineUp_34 : decode cX5_coldestMachineUp 34 = .ok (.if_acmp .eq 16, 3) := by decide +kernel
theorem dX5_coldestMachineUp_37 : decode cX5_coldestMachineUp 37 = .ok (.aload_n 0, 1) := by decide +kernel
theorem dX5_coldestMachineUp_38 : decode cX5_coldestMachineUp 38 = .ok (.aload_n 3, 1) := by decide +kernel
theorem dX5_coldestMachineUp_39 : decode cX5_coldestMachineUp 39 = .ok (.invokevirtual 209, 3) := by decide +kernel
theorem dX5_coldestMachineUp_42 : decode cX5_coldestMachineUp 42 = .ok (.aload_n 0, 1) := by decide +kernel
theorem dX5_coldestMachineUp_43 : decode cX5_coldestMachineUp 43 = .ok (.aload_n 1, 1) := by decide +kernel
theorem dX5_coldestMachineUp_44 : decode cX5_coldestMachineUp 44 = .ok (.invokevirtual 209, 3) := by decide +kernel
theorem dX5_coldestMachineUp_47 : decode cX5_coldestMachineUp 47 = .ok (.if_icmp .ge 5, 3) := by decide +kernel
theorem dX5_coldestMachineUp_50 : decode cX5_coldestMachineUp 50 = .ok (.aload_n 3, 1) := by decide +kernel
theorem dX5_coldestMachineUp_51 : decode cX5_coldestMachineUp 51 = .ok (.astore_n 1, 1) := by decide +kernel
theorem dX5_coldestMachineUp_52 : decode cX5_coldestMachineUp 52 = .ok (.iinc 2 1, 3) := by decide +kernel
theorem dX5_coldestMachineUp_55 : decode cX5_coldestMachineUp 55 = .ok (.goto (-48), 3) := by decide +kernel
theorem dX5_coldestMachineUp_58 : decode cX5_coldestMachineUp 58 = .ok (.aload_n 1, 1) := by decide +kernel
theorem dX5_coldestMachineUp_59 : decode cX5_coldestMachineUp 59 = .ok (.areturn, 1) := by decide +kernel
theorem dX5_movesAwayFrom_0 : decode cX5_movesAwayFrom 0 = .ok (.iconst 0, 1) := by decide +kernel
theorem dX5_movesAwayFrom_1 : decode cX5_movesAwayFrom 1 = .ok (.istore_n 2, 1) := by decide +kernel
theorem dX5_movesAwayFrom_2 : decode cX5_movesAwayFrom 2 = .ok (.iload_n 2, 1) := by decide +kernel
theorem dX5_movesAwayFrom_3 : decode cX5_movesAwayFrom 3 = .ok (.aload_n 0, 1) := by decide +kernel
theorem dX5_movesAwayFrom_4 : decode cX5_movesAwayFrom 4 = .ok (.getfield 45, 3) := by decide +kernel
theorem dX5_movesAwayFrom_7 : decode cX5_movesAwayFrom 7 = .ok (.if_icmp .ge 36, 3) := by decide +kernel
theorem dX5_movesAwayFrom_10 : decode cX5_movesAwayFrom 10 = .ok (.aload_n 0, 1) := by decide +kernel
theorem dX5_movesAwayFrom_11 : decode cX5_movesAwayFrom 11 = .ok (.getfield 38, 3) := by decide +kernel
theorem dX5_movesAwayFrom_14 : decode cX5_movesAwayFrom 14 = .ok (.iload_n 2, 1) := by decide +kernel
theorem dX5_movesAwayFrom_15 : decode cX5_movesAwayFrom 15 = .ok (.aaload, 1) := by decide +kernel
theorem dX5_movesAwayFrom_16 : decode cX5_movesAwayFrom 16 = .ok (.getfield 117, 3) := by decide +kernel
theorem dX5_movesAwayFrom_19 : decode cX5_movesAwayFrom 19 = .ok (.aload_n 1, 1) := by decide +kernel
theorem dX5_movesAwayFrom_20 : decode cX5_movesAwayFrom 20 = .ok (.if_acmp .ne 17, 3) := by decide +kernel
theorem dX5_movesAwayFrom_23 : decode cX5_movesAwayFrom 23 = .ok (.aload_n 0, 1) := by decide +kernel
theorem dX5_movesAwayFrom_24 : decode cX5_movesAwayFrom 24 = .ok (.getfield 38, 3) := by decide +kernel
theorem dX5_movesAwayFrom_27 : decode cX5_movesAwayFrom 27 = .ok (.iload_n 2, 1) := by decide +kernel
theorem dX5_movesAwayFrom_28 : decode cX5_movesAwayFrom 28 = .ok (.aaload, 1) := by decide +kernel
theorem dX5_movesAwayFrom_29 : decode cX5_movesAwayFrom 29 = .ok (.invokevirtual 150, 3) := by decide +kernel
theorem dX5_movesAwayFrom_32 : decode cX5_movesAwayFrom 32 = .ok (.ifCond .eq 5, 3) := by decide +kernel
theorem dX5_movesAwayFrom_35 : decode cX5_movesAwayFrom 35 = .ok (.iconst 1, 1) := by decide +kernel
theorem dX5_movesAwayFrom_36 : decode cX5_movesAwayFrom 36 = .ok (.ireturn, 1) := by decide +kernel
theorem dX5_movesAwayFrom_37 : decode cX5_movesAwayFrom 37 = .ok (.iinc 2 1, 3) := by decide +kernel
theorem dX5_movesAwayFrom_40 : decode cX5_movesAwayFrom 40 = .ok (.goto (-38), 3) := by decide +kernel
theorem dX5_movesAwayFrom_43 : decode cX5_movesAwayFrom 43 = .ok (.iconst 0, 1) := by decide +kernel
theorem dX5_movesAwayFrom_44 : decode cX5_movesAwayFrom 44 = .ok (.ireturn, 1) := by decide +kernel
theorem dX5_hottestShardOn_0 : decode cX5_hottestShardOn 0 = .ok (.iconst (-1), 1) := by decide +kernel
theorem dX5_hottestShardOn_1 : decode cX5_hottestShardOn 1 = .ok (.istore_n 2, 1) := by decide +kernel
theorem dX5_hottestShardOn_2 : decode cX5_hottestShardOn 2 = .ok (.iconst 0, 1) := by decide +kernel
theorem dX5_hottestShardOn_3 : decode cX5_hottestShardOn 3 = .ok (.istore_n 3, 1) := by decide +kernel
theorem dX5_hottestShardOn_4 : decode cX5_hottestShardOn 4 = .ok (.iload_n 3, 1) := by decide +kernel
theorem dX5_hottestShardOn_5 : decode cX5_hottestShardOn 5 = .ok (.aload_n 0, 1) := by decide +kernel
theorem dX5_hottestShardOn_6 : decode cX5_hottestShardOn 6 = .ok (.getfield 45, 3) := by decide +kernel
theorem dX5_hottestShardOn_9 : decode cX5_hottestShardOn 9 = .ok (.if_icmp .ge 50, 3) := by decide +kernel
theorem dX5_hottestShardOn_12 : decode cX5_hottestShardOn 12 = .ok (.aload_n 0, 1) := by decide +kernel
theorem dX5_hottestShardOn_13 : decode cX5_hottestShardOn 13 = .ok (.getfield 38, 3) := by decide +kernel
theorem dX5_hottestShardOn_16 : decode cX5_hottestShardOn 16 = .ok (.iload_n 3, 1) := by decide +kernel
theorem dX5_hottestShardOn_17 : decode cX5_hottestShardOn 17 = .ok (.aaload, 1) := by decide +kernel
theorem dX5_hottestShardOn_18 : decode cX5_hottestShardOn 18 = .ok (.getfield 117, 3) := by decide +kernel
theorem dX5_hottestShardOn_21 : decode cX5_hottestShardOn 21 = .ok (.aload_n 1, 1) := by decide +kernel
theorem dX5_hottestShardOn_22 : decode cX5_hottestShardOn 22 = .ok (.if_acmp .ne 31, 3) := by decide +kernel
theorem dX5_hottestShardOn_25 : decode cX5_hottestShardOn 25 = .ok (.iload_n 2, 1) := by decide +kernel
theorem dX5_hottestShardOn_26 : decode cX5_hottestShardOn 26 = .ok (.iconst (-1), 1) := by decide +kernel
theorem dX5_hottestShardOn_27 : decode cX5_hottestShardOn 27 = .ok (.if_icmp .eq 24, 3) := by decide +kernel
theorem dX5_hottestShardOn_30 : decode cX5_hottestShardOn 30 = .ok (.aload_n 0, 1) := by decide +kernel
theorem dX5_hottestShardOn_31 : decode cX5_hottestShardOn 31 = .ok (.getfield 38, 3) := by decide +kernel
theorem dX5_hottestShardOn_34 : decode cX5_hottestShardOn 34 = .ok (.iload_n 3, 1) := by decide +kernel
theorem dX5_hottestShardOn_35 : decode cX5_hottestShardOn 35 = .ok (.aaload, 1) := by decide +kernel
theorem dX5_hottestShardOn_36 : decode cX5_hottestShardOn 36 = .ok (.getfield 142, 3) := by decide +kernel
theorem dX5_hottestShardOn_39 : decode cX5_hottestShardOn 39 = .ok (.aload_n 0, 1) := by decide +kernel
theorem dX5_hottestShardOn_40 : decode cX5_hottestShardOn 40 = .ok (.getfield 38, 3) := by decide +kernel
theorem dX5_hottestShardOn_43 : decode cX5_hottestShardOn 43 = .ok (.iload_n 2, 1) := by decide +kernel
theorem dX5_hottestShardOn_44 : decode cX5_hottestShardOn 44 = .ok (.aaload, 1) := by decide +kernel
theorem dX5_hottestShardOn_45 : decode cX5_hottestShardOn 45 = .ok (.getfield 142, 3) := by decide +kernel
theorem dX5_hottestShardOn_48 : decode cX5_hottestShardOn 48 = .ok (.if_icmp .le 5, 3) := by decide +kernel
theorem dX5_hottestShardOn_51 : decode cX5_hottestShardOn 51 = .ok (.iload_n 3, 1) := by decide +kernel
theorem dX5_hottestShardOn_52 : decode cX5_hottestShardOn 52 = .ok (.istore_n 2, 1) := by decide +kernel
theorem dX5_hottestShardOn_53 : decode cX5_hottestShardOn 53 = .ok (.iinc 3 1, 3) := by decide +kernel
theorem dX5_hottestShardOn_56 : decode cX5_hottestShardOn 56 = .ok (.goto (-52), 3) := by decide +kernel
theorem dX5_hottestShardOn_59 : decode cX5_hottestShardOn 59 = .ok (.iload_n 2, 1) := by decide +kernel
theorem dX5_hottestShardOn_60 : decode cX5_hottestShardOn 60 = .ok (.ireturn, 1) := by decide +kernel
theorem dX6_init_0 : decode cX6_init 0 = .ok (.aload_n 0, 1) := by decide +kernel
theorem dX6_init_1 : decode cX6_init 1 = .ok (.invokespecial 1, 3) := by decide +kernel
theorem dX6_init_4 : decode cX6_init 4 = .ok (.aload_n 0, 1) := by decide +kernel
theorem dX6_init_5 : decode cX6_init 5 = .ok (.bipush 6, 2) := by decide +kernel
theorem dX6_init_7 : decode cX6_init 7 = .ok (.newarray .int, 2) := by decide +kernel
theorem dX6_init_9 : decode cX6_init 9 = .ok (.putfield 7, 3) := by decide +kernel
theorem dX6_init_12 : decode cX6_init 12 = .ok (.aload_n 0, 1) := by decide +kernel
theorem dX6_init_13 : decode cX6_init 13 = .ok (.bipush 6, 2) := by decide +kernel
theorem dX6_init_15 : decode cX6_init 15 = .ok (.newarray .boolean, 2) := by decide +kernel
theorem dX6_init_17 : decode cX6_init 17 = .ok (.putfield 13, 3) := by decide +kernel
theorem dX6_init_20 : decode cX6_init 20 = .ok (.aload_n 0, 1) := by decide +kernel
theorem dX6_init_21 : decode cX6_init 21 = .ok (.iconst 4, 1) := by decide +kernel
theorem dX6_init_22 : decode cX6_init 22 = .ok (.newarray .int, 2) := by decide +kernel
theorem dX6_init_24 : decode cX6_init 24 = .ok (.putfield 17, 3) := by decide +kernel
theorem dX6_init_27 : decode cX6_init 27 = .ok (.aload_n 0, 1) := by decide +kernel
theorem dX6_init_28 : decode cX6_init 28 = .ok (.iconst 4, 1) := by decide +kernel
theorem dX6_init_29 : decode cX6_init 29 = .ok (.newarray .int, 2) := by decide +kernel
theorem dX6_init_31 : decode cX6_init 31 = .ok (.putfield 20, 3) := by decide +kernel
theorem dX6_init_34 : decode cX6_init 34 = .ok (.aload_n 0, 1) := by decide +kernel
theorem dX6_init_35 : decode cX6_init 35 = .ok (.sipush 1000, 3) := by decide +kernel
theorem dX6_init_38 : decode cX6_init 38 = .ok (.newarray .int, 2) := by decide +kernel
theorem dX6_init_40 : decode cX6_init 40 = .ok (.putfield 23, 3) := by decide +kernel
theorem dX6_init_43 : decode cX6_init 43 = .ok (.aload_n 0, 1) := by decide +kernel
theorem dX6_init_44 : decode cX6_init 44 = .ok (.sipush 1000, 3) := by decide +kernel
theorem dX6_init_47 : decode cX6_init 47 = .ok (.newarray .int, 2) := by decide +kernel
theorem dX6_init_49 : decode cX6_init 49 = .ok (.putfield 26, 3) := by decide +kernel
theorem dX6_init_52 : decode cX6_init 52 = .ok (.aload_n 0, 1) := by decide +kernel
theorem dX6_init_53 : decode cX6_init 53 = .ok (.iconst 1, 1) := by decide +kernel
theorem dX6_init_54 : decode cX6_init 54 = .ok (.putfield 29, 3) := by decide +kernel
theorem dX6_init_57 : decode cX6_init 57 = .ok (.aload_n 0, 1) := by decide +kernel
theorem dX6_init_58 : decode cX6_init 58 = .ok (.bipush 18, 2) := by decide +kernel
theorem dX6_init_60 : decode cX6_init 60 = .ok (.newarray .int, 2) := by decide +kernel
theorem dX6_init_62 : decode cX6_init 62 = .ok (.putfield 33, 3) := by decide +kernel
theorem dX6_init_65 : decode cX6_init 65 = .ok (.aload_n 0, 1) := by decide +kernel
theorem dX6_init_66 : decode cX6_init 66 = .ok (.bipush 18, 2) := by decide +kernel
theorem dX6_init_68 : decode cX6_init 68 = .ok (.newarray .int, 2) := by decide +kernel
theorem dX6_init_70 : decode cX6_init 70 = .ok (.putfield 36, 3) := by decide +kernel
theorem dX6_init_73 : decode cX6_init 73 = .ok (.aload_n 0, 1) := by decide +kernel
theorem dX6_init_74 : decode cX6_init 74 = .ok (.bipush 18, 2) := by decide +kernel
theorem dX6_init_76 : decode cX6_init 76 = .ok (.newarray .int, 2) := by decide +kernel
theorem dX6_init_78 : decode cX6_init 78 = .ok (.putfield 39, 3) := by decide +kernel
theorem dX6_init_81 : decode cX6_init 81 = .ok (.aload_n 0, 1) := by decide +kernel
theorem dX6_init_82 : decode cX6_init 82 = .ok (.bipush 18, 2) := by decide +kernel
theorem dX6_init_84 : decode cX6_init 84 = .ok (.newarray .int, 2) := by decide +kernel
theorem dX6_init_86 : decode cX6_init 86 = .ok (.putfield 42, 3) := by decide +kernel
theorem dX6_init_89 : decode cX6_init 89 = .ok (.aload_n 0, 1) := by decide +kernel
theorem dX6_init_90 : decode cX6_init 90 = .ok (.bipush 18, 2) := by decide +kernel
theorem dX6_init_92 : decode cX6_init 92 = .ok (.newarray .int, 2) := by decide +kernel
theorem dX6_init_94 : decode cX6_init 94 = .ok (.putfield 45, 3) := by decide +kernel
theorem dX6_init_97 : decode cX6_init 97 = .ok (.aload_n 0, 1) := by decide +kernel
theorem dX6_init_98 : decode cX6_init 98 = .ok (.bipush 18, 2) := by decide +kernel
theorem dX6_init_100 : decode cX6_init 100 = .ok (.newarray .int, 2) := by decide +kernel
theorem dX6_init_102 : decode cX6_init 102 = .ok (.putfield 48, 3) := by decide +kernel
theorem dX6_init_105 : decode cX6_init 105 = .ok (.iconst 0, 1) := by decide +kernel
theorem dX6_init_106 : decode cX6_init 106 = .ok (.istore_n 1, 1) := by decide +kernel
theorem dX6_init_107 : decode cX6_init 107 = .ok (.iload_n 1, 1) := by decide +kernel
theorem dX6_init_108 : decode cX6_init 108 = .ok (.iconst 4, 1) := by decide +kernel
theorem dX6_init_109 : decode cX6_init 109 = .ok (.if_icmp .ge 18, 3) := by decide +kernel
theorem dX6_init_112 : decode cX6_init 112 = .ok (.aload_n 0, 1) := by decide +kernel
theorem dX6_init_113 : decode cX6_init 113 = .ok (.getfield 17, 3) := by decide +kernel
theorem dX6_init_116 : decode cX6_init 116 = .ok (.iload_n 1, 1) := by decide +kernel
theorem dX6_init_117 : decode cX6_init 117 = .ok (.sipush 1000, 3) := by decide +kernel
theorem dX6_init_120 : decode cX6_init 120 = .ok (.iastore, 1) := by decide +kernel
theorem dX6_init_121 : decode cX6_init 121 = .ok (.iinc 1 1, 3) := by decide +kernel
theorem dX6_init_124 : decode cX6_init 124 = .ok (.goto (-17), 3) := by decide +kernel
theorem dX6_init_127 : decode cX6_init 127 = .ok (.aload_n 0, 1) := by decide +kernel
theorem dX6_init_128 : decode cX6_init 128 = .ok (.getfield 36, 3) := by decide +kernel
theorem dX6_init_131 : decode cX6_init 131 = .ok (.iconst 0, 1) := by decide +kernel
theorem dX6_init_132 : decode cX6_init 132 = .ok (.iconst (-1), 1) := by decide +kernel
theorem dX6_init_133 : decode cX6_init 133 = .ok (.iastore, 1) := by decide +kernel
theorem dX6_init_134 : decode cX6_init 134 = .ok (.aload_n 0, 1) := by decide +kernel
theorem dX6_init_135 : decode cX6_init 135 = .ok (.getfield 39, 3) := by decide +kernel
theorem dX6_init_138 : decode cX6_init 138 = .ok (.iconst 0, 1) := by decide +kernel
theorem dX6_init_139 : decode cX6_init 139 = .ok (.iconst (-1), 1) := by decide +kernel
theorem dX6_init_140 : decode cX6_init 140 = .ok (.iastore, 1) := by decide +kernel
theorem dX6_init_141 : decode cX6_init 141 = .ok (.aload_n 0, 1) := by decide +kernel
theorem dX6_init_142 : decode cX6_init 142 = .ok (.getfield 33, 3) := by decide +kernel
theorem dX6_init_145 : decode cX6_init 145 = .ok (.iconst 1, 1) := by decide +kernel
theorem dX6_init_146 : decode cX6_init 146 = .ok (.sipush 1000, 3) := by decide +kernel
theorem dX6_init_149 : decode cX6_init 149 = .ok (.iastore, 1) := by decide +kernel
theorem dX6_init_150 : decode cX6_init 150 = .ok (.return_, 1) := by decide +kernel
theorem dX6_thrown_0 : decode cX6_thrown 0 = .ok (.aload_n 0, 1) := by decide +kernel
theorem dX6_thrown_1 : decode cX6_thrown 1 = .ok (.getfield 51, 3) := by decide +kernel
theorem dX6_thrown_4 : decode cX6_thrown 4 = .ok (.ireturn, 1) := by decide +kernel
theorem dX6_in_0 : decode cX6_in 0 = .ok (.iload_n 0, 1) := by decide +kernel
theorem dX6_in_1 : decode cX6_in 1 = .ok (.iload_n 1, 1) := by decide +kernel
theorem dX6_in_2 : decode cX6_in 2 = .ok (.if_icmp .lt 12, 3) := by decide +kernel
theorem dX6_in_5 : decode cX6_in 5 = .ok (.iload_n 0, 1) := by decide +kernel
theorem dX6_in_6 : decode cX6_in 6 = .ok (.iload_n 2, 1) := by decide +kernel
theorem dX6_in_7 : decode cX6_in 7 = .ok (.if_icmp .gt 7, 3) := by decide +kernel
theorem dX6_in_10 : decode cX6_in 10 = .ok (.iconst 1, 1) := by decide +kernel
theorem dX6_in_11 : decode cX6_in 11 = .ok (.goto 4, 3) := by decide +kernel
theorem dX6_in_14 : decode cX6_in 14 = .ok (.iconst 0, 1) := by decide +kernel
theorem dX6_in_15 : decode cX6_in 15 = .ok (.ireturn, 1) := by decide +kernel
theorem dX6_refused_0 : decode cX6_refused 0 = .ok (.aload_n 0, 1) := by decide +kernel
theorem dX6_refused_1 : decode cX6_refused 1 = .ok (.iload_n 1, 1) := by decide +kernel
theorem dX6_refused_2 : decode cX6_refused 2 = .ok (.putfield 51, 3) := by decide +kernel
theorem dX6_refused_5 : decode cX6_refused 5 = .ok (.iload_n 1, 1) := by decide +kernel
theorem dX6_refused_6 : decode cX6_refused 6 = .ok (.ifCond .eq 7, 3) := by decide +kernel
theorem dX6_refused_9 : decode cX6_refused 9 = .ok (.iconst 1, 1) := by decide +kernel
theorem dX6_refused_10 : decode cX6_refused 10 = .ok (.goto 4, 3) := by decide +kernel
theorem dX6_refused_13 : decode cX6_refused 13 = .ok (.iconst 0, 1) := by decide +kernel
theorem dX6_refused_14 : decode cX6_refused 14 = .ok (.ireturn, 1) := by decide +kernel
theorem dX6_isKey_0 : decode cX6_isKey 0 = .ok (.iload_n 0, 1) := by decide +kernel
theorem dX6_isKey_1 : decode cX6_isKey 1 = .ok (.iconst 0, 1) := by decide +kernel
theorem dX6_isKey_2 : decode cX6_isKey 2 = .ok (.sipush 999, 3) := by decide +kernel
theorem dX6_isKey_5 : decode cX6_isKey 5 = .ok (.invokestatic 54, 3) := by decide +kernel
theorem dX6_isKey_8 : decode cX6_isKey 8 = .ok (.ireturn, 1) := by decide +kernel
theorem dX6_isTenant_0 : decode cX6_isTenant 0 = .ok (.iload_n 0, 1) := by decide +kernel
theorem dX6_isTenant_1 : decode cX6_isTenant 1 = .ok (.iconst 0, 1) := by decide +kernel
theorem dX6_isTenant_2 : decode cX6_isTenant 2 = .ok (.iconst 3, 1) := by decide +kernel
theorem dX6_isTenant_3 : decode cX6_isTenant 3 = .ok (.invokestatic 54, 3) := by decide +kernel
theorem dX6_isTenant_6 : decode cX6_isTenant 6 = .ok (.ireturn, 1) := by decide +kernel
theorem dX6_isMachine_0 : decode cX6_isMachine 0 = .ok (.iload_n 1, 1) := by decide +kernel
theorem dX6_isMachine_1 : decode cX6_isMachine 1 = .ok (.iconst 0, 1) := by decide +kernel
theorem dX6_isMachine_2 : decode cX6_isMachine 2 = .ok (.aload_n 0, 1) := by decide +kernel
theorem dX6_isMachine_3 : decode cX6_isMachine 3 = .ok (.getfield 58, 3) := by decide +kernel
theorem dX6_isMachine_6 : decode cX6_isMachine 6 = .ok (.iconst 1, 1) := by decide +kernel
theorem dX6_isMachine_7 : decode cX6_isMachine 7 = .ok (.isub, 1) := by decide +kernel
theorem dX6_isMachine_8 : decode cX6_isMachine 8 = .ok (.invokestatic 54, 3) := by decide +kernel
theorem dX6_isMachine_11 : decode cX6_isMachine 11 = .ok (.ireturn, 1) := by decide +kernel
theorem dX6_isShard_0 : decode cX6_isShard 0 = .ok (.iload_n 1, 1) := by decide +kernel
theorem dX6_isShard_1 : decode cX6_isShard 1 = .ok (.iconst 0, 1) := by decide +kernel
theorem dX6_isShard_2 : decode cX6_isShard 2 = .ok (.aload_n 0, 1) := by decide +kernel
theorem dX6_isShard_3 : decode cX6_isShard 3 = .ok (.getfield 29, 3) := by decide +kernel
theorem dX6_isShard_6 : decode cX6_isShard 6 = .ok (.iconst 1, 1) := by decide +kernel
theorem dX6_isShard_7 : decode cX6_isShard 7 = .ok (.isub, 1) := by decide +kernel
theorem dX6_isShard_8 : decode cX6_isShard 8 = .ok (.invokestatic 54, 3) := by decide +kernel
theorem dX6_isShard_11 : decode cX6_isShard 11 = .ok (.ireturn, 1) := by decide +kernel
theorem dX6_shardAt_0 : decode cX6_shardAt 0 = .ok (.iconst 0, 1) := by decide +kernel
theorem dX6_shardAt_1 : decode cX6_shardAt 1 = .ok (.istore_n 2, 1) := by decide +kernel
theorem dX6_shardAt_2 : decode cX6_shardAt 2 = .ok (.aload_n 0, 1) := by decide +kernel
theorem dX6_shardAt_3 : decode cX6_shardAt 3 = .ok (.getfield 33, 3) := by decide +kernel
theorem dX6_shardAt_6 : decode cX6_shardAt 6 = .ok (.iload_n 2, 1) := by decide +kernel
theorem dX6_shardAt_7 : decode cX6_shardAt 7 = .ok (.iconst 1, 1) := by decide +kernel
theorem dX6_shardAt_8 : decode cX6_shardAt 8 = .ok (.iadd, 1) := by decide +kernel
theorem dX6_shardAt_9 : decode cX6_shardAt 9 = .ok (.iaload, 1) := by decide +kernel
theorem dX6_shardAt_10 : decode cX6_shardAt 10 = .ok (.iload_n 1, 1) := by decide +kernel
theorem dX6_shardAt_11 : decode cX6_shardAt 11 = .ok (.if_icmp .gt 9, 3) := by decide +kernel
theorem dX6_shardAt_14 : decode cX6_shardAt 14 = .ok (.iinc 2 1, 3) := by decide +kernel
theorem dX6_shardAt_17 : decode cX6_shardAt 17 = .ok (.goto (-15), 3) := by decide +kernel
theorem dX6_shardAt_20 : decode cX6_shardAt 20 = .ok (.iload_n 2, 1) := by decide +kernel
theorem dX6_shardAt_21 : decode cX6_shardAt 21 = .ok (.ireturn, 1) := by decide +kernel
theorem dX6_sum_0 : decode cX6_sum 0 = .ok (.iconst 0, 1) := by decide +kernel
theorem dX6_sum_1 : decode cX6_sum 1 = .ok (.istore_n 3, 1) := by decide +kernel
theorem dX6_sum_2 : decode cX6_sum 2 = .ok (.iload_n 1, 1) := by decide +kernel
theorem dX6_sum_3 : decode cX6_sum 3 = .ok (.istore 4, 2) := by decide +kernel
theorem dX6_sum_5 : decode cX6_sum 5 = .ok (.iload 4, 2) := by decide +kernel
theorem dX6_sum_7 : decode cX6_sum 7 = .ok (.iload_n 2, 1) := by decide +kernel
theorem dX6_sum_8 : decode cX6_sum 8 = .ok (.if_icmp .ge 19, 3) := by decide +kernel
theorem dX6_sum_11 : decode cX6_sum 11 = .ok (.iload_n 3, 1) := by decide +kernel
theorem dX6_sum_12 : decode cX6_sum 12 = .ok (.aload_n 0, 1) := by decide +kernel
theorem dX6_sum_13 : decode cX6_sum 13 = .ok (.getfield 26, 3) := by decide +kernel
theorem dX6_sum_16 : decode cX6_sum 16 = .ok (.iload 4, 2) := by decide +kernel
theorem dX6_sum_18 : decode cX6_sum 18 = .ok (.iaload, 1) := by decide +kernel
theorem dX6_sum_19 : decode cX6_sum 19 = .ok (.iadd, 1) := by decide +kernel
theorem dX6_sum_20 : decode cX6_sum 20 = .ok (.istore_n 3, 1) := by decide +kernel
theorem dX6_sum_21 : decode cX6_sum 21 = .ok (.iinc 4 1, 3) := by decide +kernel
theorem dX6_sum_24 : decode cX6_sum 24 = .ok (.goto (-19), 3) := by decide +kernel
theorem dX6_sum_27 : decode cX6_sum 27 = .ok (.iload_n 3, 1) := by decide +kernel
theorem dX6_sum_28 : decode cX6_sum 28 = .ok (.ireturn, 1) := by decide +kernel
theorem dX6_sizeOf_0 : decode cX6_sizeOf 0 = .ok (.aload_n 0, 1) := by decide +kernel
theorem dX6_sizeOf_1 : decode cX6_sizeOf 1 = .ok (.aload_n 0, 1) := by decide +kernel
theorem dX6_sizeOf_2 : decode cX6_sizeOf 2 = .ok (.getfield 33, 3) := by decide +kernel
theorem dX6_sizeOf_5 : decode cX6_sizeOf 5 = .ok (.iload_n 1, 1) := by decide +kernel
theorem dX6_sizeOf_6 : decode cX6_sizeOf 6 = .ok (.iaload, 1) := by decide +kernel
theorem dX6_sizeOf_7 : decode cX6_sizeOf 7 = .ok (.aload_n 0, 1) := by decide +kernel
theorem dX6_sizeOf_8 : decode cX6_sizeOf 8 = .ok (.getfield 33, 3) := by decide +kernel
theorem dX6_sizeOf_11 : decode cX6_sizeOf 11 = .ok (.iload_n 1, 1) := by decide +kernel
theorem dX6_sizeOf_12 : decode cX6_sizeOf 12 = .ok (.iconst 1, 1) := by decide +kernel
theorem dX6_sizeOf_13 : decode cX6_sizeOf 13 = .ok (.iadd, 1) := by decide +kernel
theorem dX6_sizeOf_14 : decode cX6_sizeOf 14 = .ok (.iaload, 1) := by decide +kernel
theorem dX6_sizeOf_15 : decode cX6_sizeOf 15 = .ok (.invokevirtual 61, 3) := by decide +kernel
theorem dX6_sizeOf_18 : decode cX6_sizeOf 18 = .ok (.ireturn, 1) := by decide +kernel
theorem dX6_copied_0 : decode cX6_copied 0 = .ok (.aload_n 0, 1) := by decide +kernel
theorem dX6_copied_1 : decode cX6_copied 1 = .ok (.getfield 39, 3) := by decide +kernel
theorem dX6_copied_4 : decode cX6_copied 4 = .ok (.iload_n 1, 1) := by decide +kernel
theorem dX6_copied_5 : decode cX6_copied 5 = .ok (.iaload, 1) := by decide +kernel
theorem dX6_copied_6 : decode cX6_copied 6 = .ok (.iconst (-1), 1) := by decide +kernel
theorem dX6_copied_7 : decode cX6_copied 7 = .ok (.if_icmp .ne 7, 3) := by decide +kernel
theorem dX6_copied_10 : decode cX6_copied 10 = .ok (.iconst 0, 1) := by decide +kernel
theorem dX6_copied_11 : decode cX6_copied 11 = .ok (.goto 19, 3) := by decide +kernel
theorem dX6_copied_14 : decode cX6_copied 14 = .ok (.aload_n 0, 1) := by decide +kernel
theorem dX6_copied_15 : decode cX6_copied 15 = .ok (.aload_n 0, 1) := by decide +kernel
theorem dX6_copied_16 : decode cX6_copied 16 = .ok (.getfield 33, 3) := by decide +kernel
theorem dX6_copied_19 : decode cX6_copied 19 = .ok (.iload_n 1, 1) := by decide +kernel
theorem dX6_copied_20 : decode cX6_copied 20 = .ok (.iaload, 1) := by decide +kernel
theorem dX6_copied_21 : decode cX6_copied 21 = .ok (.aload_n 0, 1) := by decide +kernel
theorem dX6_copied_22 : decode cX6_copied 22 = .ok (.getfield 42, 3) := by decide +kernel
theorem dX6_copied_25 : decode cX6_copied 25 = .ok (.iload_n 1, 1) := by decide +kernel
theorem dX6_copied_26 : decode cX6_copied 26 = .ok (.iaload, 1) := by decide +kernel
theorem dX6_copied_27 : decode cX6_copied 27 = .ok (.invokevirtual 61, 3) := by decide +kernel
theorem dX6_copied_30 : decode cX6_copied 30 = .ok (.ireturn, 1) := by decide +kernel
theorem dX6_held_0 : decode cX6_held 0 = .ok (.iconst 0, 1) := by decide +kernel
theorem dX6_held_1 : decode cX6_held 1 = .ok (.istore_n 2, 1) := by decide +kernel
theorem dX6_held_2 : decode cX6_held 2 = .ok (.iconst 0, 1) := by decide +kernel
theorem dX6_held_3 : decode cX6_held 3 = .ok (.istore_n 3, 1) := by decide +kernel
theorem dX6_held_4 : decode cX6_held 4 = .ok (.iload_n 3, 1) := by decide +kernel
theorem dX6_held_5 : decode cX6_held 5 = .ok (.aload_n 0, 1) := by decide +kernel
theorem dX6_held_6 : decode cX6_held 6 = .ok (.getfield 29, 3) := by decide +kernel
theorem dX6_held_9 : decode cX6_held 9 = .ok (.if_icmp .ge 51, 3) := by decide +kernel
theorem dX6_held_12 : decode cX6_held 12 = .ok (.iload_n 2, 1) := by decide +kernel
theorem dX6_held_13 : decode cX6_held 13 = .ok (.aload_n 0, 1) := by decide +kernel
theorem dX6_held_14 : decode cX6_held 14 = .ok (.getfield 36, 3) := by decide +kernel
theorem dX6_held_17 : decode cX6_held 17 = .ok (.iload_n 3, 1) := by decide +kernel
theorem dX6_held_18 : decode cX6_held 18 = .ok (.iaload, 1) := by decide +kernel
theorem dX6_held_19 : decode cX6_held 19 = .ok (.iload_n 1, 1) := by decide +kernel
theorem dX6_held_20 : decode cX6_held 20 = .ok (.if_icmp .ne 11, 3) := by decide +kernel
theorem dX6_held_23 : decode cX6_held 23 = .ok (.aload_n 0, 1) := by decide +kernel
theorem dX6_held_24 : decode cX6_held 24 = .ok (.iload_n 3, 1) := by decide +kernel
theorem dX6_held_25 : decode cX6_held 25 = .ok (.invokevirtual 65, 3) := by decide +kernel
theorem dX6_held_28 : decode cX6_held 28 = .ok (.goto 4, 3) := by decide +kernel
theorem dX6_held_31 : decode cX6_held 31 = .ok (.iconst 0, 1) := by decide +kernel
theorem dX6_held_32 : decode cX6_held 32 = .ok (.aload_n 0, 1) := by decide +kernel
theorem dX6_held_33 : decode cX6_held 33 = .ok (.getfield 39, 3) := by decide +kernel
theorem dX6_held_36 : decode cX6_held 36 = .ok (.iload_n 3, 1) := by decide +kernel
theorem dX6_held_37 : decode cX6_held 37 = .ok (.iaload, 1) := by decide +kernel
theorem dX6_held_38 : decode cX6_held 38 = .ok (.iload_n 1, 1) := by decide +kernel
theorem dX6_held_39 : decode cX6_held 39 = .ok (.if_icmp .ne 11, 3) := by decide +kernel
theorem dX6_held_42 : decode cX6_held 42 = .ok (.aload_n 0, 1) := by decide +kernel
theorem dX6_held_43 : decode cX6_held 43 = .ok (.iload_n 3, 1) := by decide +kernel
theorem dX6_held_44 : decode cX6_held 44 = .ok (.invokevirtual 69, 3) := by decide +kernel
theorem dX6_held_47 : decode cX6_held 47 = .ok (.goto 4, 3) := by decide +kernel
theorem dX6_held_50 : decode cX6_held 50 = .ok (.iconst 0, 1) := by decide +kernel
theorem dX6_held_51 : decode cX6_held 51 = .ok (.iadd, 1) := by decide +kernel
theorem dX6_held_52 : decode cX6_held 52 = .ok (.iadd, 1) := by decide +kernel
theorem dX6_held_53 : decode cX6_held 53 = .ok (.istore_n 2, 1) := by decide +kernel
theorem dX6_held_54 : decode cX6_held 54 = .ok (.iinc 3 1, 3) := by decide +kernel
theorem dX6_held_57 : decode cX6_held 57 = .ok (.goto (-53), 3) := by decide +kernel
theorem dX6_held_60 : decode cX6_held 60 = .ok (.iload_n 2, 1) := by decide +kernel
theorem dX6_held_61 : decode cX6_held 61 = .ok (.ireturn, 1) := by decide +kernel
theorem dX6_bytesOf_0 : decode cX6_bytesOf 0 = .ok (.iconst 0, 1) := by decide +kernel
theorem dX6_bytesOf_1 : decode cX6_bytesOf 1 = .ok (.istore_n 2, 1) := by decide +kernel
theorem dX6_bytesOf_2 : decode cX6_bytesOf 2 = .ok (.iconst 0, 1) := by decide +kernel
theorem dX6_bytesOf_3 : decode cX6_bytesOf 3 = .ok (.istore_n 3, 1) := by decide +kernel
theorem dX6_bytesOf_4 : decode cX6_bytesOf 4 = .ok (.iload_n 3, 1) := by decide +kernel
theorem dX6_bytesOf_5 : decode cX6_bytesOf 5 = .ok (.sipush 1000, 3) := by decide +kernel
theorem dX6_bytesOf_8 : decode cX6_bytesOf 8 = .ok (.if_icmp .ge 32, 3) := by decide +kernel
theorem dX6_bytesOf_11 : decode cX6_bytesOf 11 = .ok (.iload_n 2, 1) := by decide +kernel
theorem dX6_bytesOf_12 : decode cX6_bytesOf 12 = .ok (.aload_n 0, 1) := by decide +kernel
theorem dX6_bytesOf_13 : decode cX6_bytesOf 13 = .ok (.getfield 23, 3) := by decide +kernel
theorem dX6_bytesOf_16 : decode cX6_bytesOf 16 = .ok (.iload_n 3, 1) := by decide +kernel
theorem dX6_bytesOf_17 : decode cX6_bytesOf 17 = .ok (.iaload, 1) := by decide +kernel
theorem dX6_bytesOf_18 : decode cX6_bytesOf 18 = .ok (.iload_n 1, 1) := by decide +kernel
theorem dX6_bytesOf_19 : decode cX6_bytesOf 19 = .ok (.if_icmp .ne 12, 3) := by decide +kernel
theorem dX6_bytesOf_22 : decode cX6_bytesOf 22 = .ok (.aload_n 0, 1) := by decide +kernel
theorem dX6_bytesOf_23 : decode cX6_bytesOf 23 = .ok (.getfield 26, 3) := by decide +kernel
theorem dX6_bytesOf_26 : decode cX6_bytesOf 26 = .ok (.iload_n 3, 1) := by decide +kernel
theorem dX6_bytesOf_27 : decode cX6_bytesOf 27 = .ok (.iaload, 1) := by decide +kernel
theorem dX6_bytesOf_28 : decode cX6_bytesOf 28 = .ok (.goto 4, 3) := by decide +kernel
theorem dX6_bytesOf_31 : decode cX6_bytesOf 31 = .ok (.iconst 0, 1) := by decide +kernel
theorem dX6_bytesOf_32 : decode cX6_bytesOf 32 = .ok (.iadd, 1) := by decide +kernel
theorem dX6_bytesOf_33 : decode cX6_bytesOf 33 = .ok (.istore_n 2, 1) := by decide +kernel
theorem dX6_bytesOf_34 : decode cX6_bytesOf 34 = .ok (.iinc 3 1, 3) := by decide +kernel
theorem dX6_bytesOf_37 : decode cX6_bytesOf 37 = .ok (.goto (-33), 3) := by decide +kernel
theorem dX6_bytesOf_40 : decode cX6_bytesOf 40 = .ok (.iload_n 2, 1) := by decide +kernel
theorem dX6_bytesOf_41 : decode cX6_bytesOf 41 = .ok (.ireturn, 1) := by decide +kernel
theorem dX6_rollBack_0 : decode cX6_rollBack 0 = .ok (.aload_n 0, 1) := by decide +kernel
theorem dX6_rollBack_1 : decode cX6_rollBack 1 = .ok (.getfield 39, 3) := by decide +kernel
theorem dX6_rollBack_4 : decode cX6_rollBack 4 = .ok (.iload_n 1, 1) := by decide +kernel
theorem dX6_rollBack_5 : decode cX6_rollBack 5 = .ok (.iconst (-1), 1) := by decide +kernel
theorem dX6_rollBack_6 : decode cX6_rollBack 6 = .ok (.iastore, 1) := by decide +kernel
theorem dX6_rollBack_7 : decode cX6_rollBack 7 = .ok (.aload_n 0, 1) := by decide +kernel
theorem dX6_rollBack_8 : decode cX6_rollBack 8 = .ok (.dup, 1) := by decide +kernel
theorem dX6_rollBack_9 : decode cX6_rollBack 9 = .ok (.getfield 72, 3) := by decide +kernel
theorem dX6_rollBack_12 : decode cX6_rollBack 12 = .ok (.iconst 1, 1) := by decide +kernel
theorem dX6_rollBack_13 : decode cX6_rollBack 13 = .ok (.iadd, 1) := by decide +kernel
theorem dX6_rollBack_14 : decode cX6_rollBack 14 = .ok (.putfield 72, 3) := by decide +kernel
theorem dX6_rollBack_17 : decode cX6_rollBack 17 = .ok (.return_, 1) := by decide +kernel
theorem dX6_machine_0 : decode cX6_machine 0 = .ok (.aload_n 0, 1) := by decide +kernel
theorem dX6_machine_1 : decode cX6_machine 1 = .ok (.iload_n 1, 1) := by decide +kernel
theorem dX6_machine_2 : decode cX6_machine 2 = .ok (.bipush 100, 2) := by decide +kernel
theorem dX6_machine_4 : decode cX6_machine 4 = .ok (.sipush 10000, 3) := by decide +kernel
theorem dX6_machine_7 : decode cX6_machine 7 = .ok (.invokestatic 54, 3) := by decide +kernel
theorem dX6_machine_10 : decode cX6_machine 10 = .ok (.ifCond .ne 7, 3) := by decide +kernel
theorem dX6_machine_13 : decode cX6_machine 13 = .ok (.iconst 1, 1) := by decide +kernel
theorem dX6_machine_14 : decode cX6_machine 14 = .ok (.goto 17, 3) := by decide +kernel
theorem dX6_machine_17 : decode cX6_machine 17 = .ok (.aload_n 0, 1) := by decide +kernel
theorem dX6_machine_18 : decode cX6_machine 18 = .ok (.getfield 58, 3) := by decide +kernel
theorem dX6_machine_21 : decode cX6_machine 21 = .ok (.bipush 6, 2) := by decide +kernel
theorem dX6_machine_23 : decode cX6_machine 23 = .ok (.if_icmp .ne 7, 3) := by decide +kernel
theorem dX6_machine_26 : decode cX6_machine 26 = .ok (.iconst 2, 1) := by decide +kernel
theorem dX6_machine_27 : decode cX6_machine 27 = .ok (.goto 4, 3) := by decide +kernel
theorem dX6_machine_30 : decode cX6_machine 30 = .ok (.iconst 0, 1) := by decide +kernel
theorem dX6_machine_31 : decode cX6_machine 31 = .ok (.invokevirtual 75, 3) := by decide +kernel
theorem dX6_machine_34 : decode cX6_machine 34 = .ok (.ifCond .eq 5, 3) := by decide +kernel
theorem dX6_machine_37 : decode cX6_machine 37 = .ok (.iconst 0, 1) := by decide +kernel
theorem dX6_machine_38 : decode cX6_machine 38 = .ok (.ireturn, 1) := by decide +kernel
theorem dX6_machine_39 : decode cX6_machine 39 = .ok (.aload_n 0, 1) := by decide +kernel
theorem dX6_machine_40 : decode cX6_machine 40 = .ok (.getfield 7, 3) := by decide +kernel
theorem dX6_machine_43 : decode cX6_machine 43 = .ok (.aload_n 0, 1) := by decide +kernel
theorem dX6_machine_44 : decode cX6_machine 44 = .ok (.getfield 58, 3) := by decide +kernel
theorem dX6_machine_47 : decode cX6_machine 47 = .ok (.iload_n 1, 1) := by decide +kernel
theorem dX6_machine_48 : decode cX6_machine 48 = .ok (.iastore, 1) := by decide +kernel
theorem dX6_machine_49 : decode cX6_machine 49 = .ok (.iconst 0, 1) := by decide +kernel
theorem dX6_machine_50 : decode cX6_machine 50 = .ok (.istore_n 2, 1) := by decide +kernel
theorem dX6_machine_51 : decode cX6_machine 51 = .ok (.iload_n 2, 1) := by decide +kernel
theorem dX6_machine_52 : decode cX6_machine 52 = .ok (.aload_n 0, 1) := by decide +kernel
theorem dX6_machine_53 : decode cX6_machine 53 = .ok (.getfield 29, 3) := by decide +kernel
theorem dX6_machine_56 : decode cX6_machine 56 = .ok (.if_icmp .ge 23, 3) := by decide +kernel
theorem dX6_machine_59 : decode cX6_machine 59 = .ok (.aload_n 0, 1) := by decide +kernel
theorem dX6_machine_60 : decode cX6_machine 60 = .ok (.getfield 58, 3) := by decide +kernel
theorem dX6_machine_63 : decode cX6_machine 63 = .ok (.ifCond .ne 16, 3) := by decide +kernel
theorem dX6_machine_66 : decode cX6_machine 66 = .ok (.aload_n 0, 1) := by decide +kernel
theorem dX6_machine_67 : decode cX6_machine 67 = .ok (.getfield 36, 3) := by decide +kernel
theorem dX6_machine_70 : decode cX6_machine 70 = .ok (.iload_n 2, 1) := by decide +kernel
theorem dX6_machine_71 : decode cX6_machine 71 = .ok (.iconst 0, 1) := by decide +kernel
theorem dX6_machine_72 : decode cX6_machine 72 = .ok (.iastore, 1) := by decide +kernel
theorem dX6_machine_73 : decode cX6_machine 73 = .ok (.iinc 2 1, 3) := by decide +kernel
theorem dX6_machine_76 : decode cX6_machine 76 = .ok (.goto (-25), 3) := by decide +kernel
theorem dX6_machine_79 : decode cX6_machine 79 = .ok (.aload_n 0, 1) := by decide +kernel
theorem dX6_machine_80 : decode cX6_machine 80 = .ok (.dup, 1) := by decide +kernel
theorem dX6_machine_81 : decode cX6_machine 81 = .ok (.getfield 58, 3) := by decide +kernel
theorem dX6_machine_84 : decode cX6_machine 84 = .ok (.iconst 1, 1) := by decide +kernel
theorem dX6_machine_85 : decode cX6_machine 85 = .ok (.iadd, 1) := by decide +kernel
theorem dX6_machine_86 : decode cX6_machine 86 = .ok (.putfield 58, 3) := by decide +kernel
theorem dX6_machine_89 : decode cX6_machine 89 = .ok (.aload_n 0, 1) := by decide +kernel
theorem dX6_machine_90 : decode cX6_machine 90 = .ok (.getfield 58, 3) := by decide +kernel
theorem dX6_machine_93 : decode cX6_machine 93 = .ok (.iconst 1, 1) := by decide +kernel
theorem dX6_machine_94 : decode cX6_machine 94 = .ok (.isub, 1) := by decide +kernel
theorem dX6_machine_95 : decode cX6_machine 95 = .ok (.ireturn, 1) := by decide +kernel
theorem dX6_down_0 : decode cX6_down 0 = .ok (.aload_n 0, 1) := by decide +kernel
theorem dX6_down_1 : decode cX6_down 1 = .ok (.aload_n 0, 1) := by decide +kernel
theorem dX6_down_2 : decode cX6_down 2 = .ok (.iload_n 1, 1) := by decide +kernel
theorem dX6_down_3 : decode cX6_down 3 = .ok (.invokevirtual 79, 3) := by decide +kernel
theorem dX6_down_6 : decode cX6_down 6 = .ok (.ifCond .eq 7, 3) := by decide +kernel
theorem dX6_down_9 : decode cX6_down 9 = .ok (.iconst 0, 1) := by decide +kernel
theorem dX6_down_10 : decode cX6_down 10 = .ok (.goto 4, 3) := by decide +kernel
theorem dX6_down_13 : decode cX6_down 13 = .ok (.iconst 1, 1) := by decide +kernel
theorem dX6_down_14 : decode cX6_down 14 = .ok (.invokevirtual 75, 3) := by decide +kernel
theorem dX6_down_17 : decode cX6_down 17 = .ok (.ifCond .eq 5, 3) := by decide +kernel
theorem dX6_down_20 : decode cX6_down 20 = .ok (.iconst 0, 1) := by decide +kernel
theorem dX6_down_21 : decode cX6_down 21 = .ok (.ireturn, 1) := by decide +kernel
theorem dX6_down_22 : decode cX6_down 22 = .ok (.aload_n 0, 1) := by decide +kernel
theorem dX6_down_23 : decode cX6_down 23 = .ok (.getfield 13, 3) := by decide +kernel
theorem dX6_down_26 : decode cX6_down 26 = .ok (.iload_n 1, 1) := by decide +kernel
theorem dX6_down_27 : decode cX6_down 27 = .ok (.baload, 1) := by decide +kernel
theorem dX6_down_28 : decode cX6_down 28 = .ok (.istore_n 3, 1) := by decide +kernel
theorem dX6_down_29 : decode cX6_down 29 = .ok (.aload_n 0, 1) := by decide +kernel
theorem dX6_down_30 : decode cX6_down 30 = .ok (.getfield 13, 3) := by decide +kernel
theorem dX6_down_33 : decode cX6_down 33 = .ok (.iload_n 1, 1) := by decide +kernel
theorem dX6_down_34 : decode cX6_down 34 = .ok (.iload_n 2, 1) := by decide +kernel
theorem dX6_down_35 : decode cX6_down 35 = .ok (.bastore, 1) := by decide +kernel
theorem dX6_down_36 : decode cX6_down 36 = .ok (.iconst 0, 1) := by decide +kernel
theorem dX6_down_37 : decode cX6_down 37 = .ok (.istore 4, 2) := by decide +kernel
theorem dX6_down_39 : decode cX6_down 39 = .ok (.iload 4, 2) := by decide +kernel
theorem dX6_down_41 : decode cX6_down 41 = .ok (.aload_n 0, 1) := by decide +kernel
theorem dX6_down_42 : decode cX6_down 42 = .ok (.getfield 29, 3) := by decide +kernel
theorem dX6_down_45 : decode cX6_down 45 = .ok (.if_icmp .ge 52, 3) := by decide +kernel
theorem dX6_down_48 : decode cX6_down 48 = .ok (.iload_n 2, 1) := by decide +kernel
theorem dX6_down_49 : decode cX6_down 49 = .ok (.ifCond .eq 48, 3) := by decide +kernel
theorem dX6_down_52 : decode cX6_down 52 = .ok (.aload_n 0, 1) := by decide +kernel
theorem dX6_down_53 : decode cX6_down 53 = .ok (.getfield 39, 3) := by decide +kernel
theorem dX6_down_56 : decode cX6_down 56 = .ok (.iload 4, 2) := by decide +kernel
theorem dX6_down_58 : decode cX6_down 58 = .ok (.iaload, 1) := by decide +kernel
theorem dX6_down_59 : decode cX6_down 59 = .ok (.iconst (-1), 1) := by decide +kernel
theorem dX6_down_60 : decode cX6_down 60 = .ok (.if_icmp .eq 31, 3) := by decide +kernel
theorem dX6_down_63 : decode cX6_down 63 = .ok (.aload_n 0, 1) := by decide +kernel
theorem dX6_down_64 : decode cX6_down 64 = .ok (.getfield 36, 3) := by decide +kernel
theorem dX6_down_67 : decode cX6_down 67 = .ok (.iload 4, 2) := by decide +kernel
theorem dX6_down_69 : decode cX6_down 69 = .ok (.iaload, 1) := by decide +kernel
theorem dX6_down_70 : decode cX6_down 70 = .ok (.iload_n 1, 1) := by decide +kernel
theorem dX6_down_71 : decode cX6_down 71 = .ok (.if_icmp .eq 14, 3) := by decide +kernel
theorem dX6_down_74 : decode cX6_down 74 = .ok (.aload_n 0, 1) := by decide +kernel
theorem dX6_down_75 : decode cX6_down 75 = .ok (.getfield 39, 3) := by decide +kernel
theorem dX6_down_78 : decode cX6_down 78 = .ok (.iload 4, 2) := by decide +kernel
theorem dX6_down_80 : decode cX6_down 80 = .ok (.iaload, 1) := by decide +kernel
theorem dX6_down_81 : decode cX6_down 81 = .ok (.iload_n 1, 1) := by decide +kernel
theorem dX6_down_82 : decode cX6_down 82 = .ok (.if_icmp .ne 9, 3) := by decide +kernel
theorem dX6_down_85 : decode cX6_down 85 = .ok (.aload_n 0, 1) := by decide +kernel
theorem dX6_down_86 : decode cX6_down 86 = .ok (.iload 4, 2) := by decide +kernel
theorem dX6_down_88 : decode cX6_down 88 = .ok (.invokevirtual 82, 3) := by decide +kernel
theorem dX6_down_91 : decode cX6_down 91 = .ok (.iinc 4 1, 3) := by decide +kernel
theorem dX6_down_94 : decode cX6_down 94 = .ok (.goto (-55), 3) := by decide +kernel
theorem dX6_down_97 : decode cX6_down 97 = .ok (.iload_n 3, 1) := by decide +kernel
theorem dX6_down_98 : decode cX6_down 98 = .ok (.ireturn, 1) := by decide +kernel
theorem dX6_quota_0 : decode cX6_quota 0 = .ok (.aload_n 0, 1) := by decide +kernel
theorem dX6_quota_1 : decode cX6_quota 1 = .ok (.iload_n 1, 1) := by decide +kernel
theorem dX6_quota_2 : decode cX6_quota 2 = .ok (.invokestatic 86, 3) := by decide +kernel
theorem dX6_quota_5 : decode cX6_quota 5 = .ok (.ifCond .ne 7, 3) := by decide +kernel
theorem dX6_quota_8 : decode cX6_quota 8 = .ok (.iconst 1, 1) := by decide +kernel
theorem dX6_quota_9 : decode cX6_quota 9 = .ok (.goto 19, 3) := by decide +kernel
theorem dX6_quota_12 : decode cX6_quota 12 = .ok (.iload_n 2, 1) := by decide +kernel
theorem dX6_quota_13 : decode cX6_quota 13 = .ok (.iconst 0, 1) := by decide +kernel
theorem dX6_quota_14 : decode cX6_quota 14 = .ok (.sipush 20000, 3) := by decide +kernel
theorem dX6_quota_17 : decode cX6_quota 17 = .ok (.invokestatic 54, 3) := by decide +kernel
theorem dX6_quota_20 : decode cX6_quota 20 = .ok (.ifCond .ne 7, 3) := by decide +kernel
theorem dX6_quota_23 : decode cX6_quota 23 = .ok (.iconst 2, 1) := by decide +kernel
theorem dX6_quota_24 : decode cX6_quota 24 = .ok (.goto 4, 3) := by decide +kernel
theorem dX6_quota_27 : decode cX6_quota 27 = .ok (.iconst 0, 1) := by decide +kernel
theorem dX6_quota_28 : decode cX6_quota 28 = .ok (.invokevirtual 75, 3) := by decide +kernel
theorem dX6_quota_31 : decode cX6_quota 31 = .ok (.ifCond .eq 5, 3) := by decide +kernel
theorem dX6_quota_34 : decode cX6_quota 34 = .ok (.iconst 0, 1) := by decide +kernel
theorem dX6_quota_35 : decode cX6_quota 35 = .ok (.ireturn, 1) := by decide +kernel
theorem dX6_quota_36 : decode cX6_quota 36 = .ok (.aload_n 0, 1) := by decide +kernel
theorem dX6_quota_37 : decode cX6_quota 37 = .ok (.getfield 17, 3) := by decide +kernel
theorem dX6_quota_40 : decode cX6_quota 40 = .ok (.iload_n 1, 1) := by decide +kernel
theorem dX6_quota_41 : decode cX6_quota 41 = .ok (.iaload, 1) := by decide +kernel
theorem dX6_quota_42 : decode cX6_quota 42 = .ok (.istore_n 3, 1) := by decide +kernel
theorem dX6_quota_43 : decode cX6_quota 43 = .ok (.aload_n 0, 1) := by decide +kernel
theorem dX6_quota_44 : decode cX6_quota 44 = .ok (.getfield 17, 3) := by decide +kernel
theorem dX6_quota_47 : decode cX6_quota 47 = .ok (.iload_n 1, 1) := by decide +kernel
theorem dX6_quota_48 : decode cX6_quota 48 = .ok (.iload_n 2, 1) := by decide +kernel
theorem dX6_quota_49 : decode cX6_quota 49 = .ok (.iastore, 1) := by decide +kernel
theorem dX6_quota_50 : decode cX6_quota 50 = .ok (.iload_n 3, 1) := by decide +kernel
theorem dX6_quota_51 : decode cX6_quota 51 = .ok (.ireturn, 1) := by decide +kernel
theorem dX6_limit_0 : decode cX6_limit 0 = .ok (.aload_n 0, 1) := by decide +kernel
theorem dX6_limit_1 : decode cX6_limit 1 = .ok (.iload_n 1, 1) := by decide +kernel
theorem dX6_limit_2 : decode cX6_limit 2 = .ok (.iconst 0, 1) := by decide +kernel
theorem dX6_limit_3 : decode cX6_limit 3 = .ok (.sipush 1000, 3) := by decide +kernel
theorem dX6_limit_6 : decode cX6_limit 6 = .ok (.invokestatic 54, 3) := by decide +kernel
theorem dX6_limit_9 : decode cX6_limit 9 = .ok (.ifCond .eq 7, 3) := by decide +kernel
theorem dX6_limit_12 : decode cX6_limit 12 = .ok (.iconst 0, 1) := by decide +kernel
theorem dX6_limit_13 : decode cX6_limit 13 = .ok (.goto 4, 3) := by decide +kernel
theorem dX6_limit_16 : decode cX6_limit 16 = .ok (.iconst 1, 1) := by decide +kernel
theorem dX6_limit_17 : decode cX6_limit 17 = .ok (.invokevirtual 75, 3) := by decide +kernel
theorem dX6_limit_20 : decode cX6_limit 20 = .ok (.ifCond .eq 5, 3) := by decide +kernel
theorem dX6_limit_23 : decode cX6_limit 23 = .ok (.iconst 0, 1) := by decide +kernel
theorem dX6_limit_24 : decode cX6_limit 24 = .ok (.ireturn, 1) := by decide +kernel
theorem dX6_limit_25 : decode cX6_limit 25 = .ok (.aload_n 0, 1) := by decide +kernel
theorem dX6_limit_26 : decode cX6_limit 26 = .ok (.getfield 89, 3) := by decide +kernel
theorem dX6_limit_29 : decode cX6_limit 29 = .ok (.istore_n 2, 1) := by decide +kernel
theorem dX6_limit_30 : decode cX6_limit 30 = .ok (.aload_n 0, 1) := by decide +kernel
theorem dX6_limit_31 : decode cX6_limit 31 = .ok (.iload_n 1, 1) := by decide +kernel
theorem dX6_limit_32 : decode cX6_limit 32 = .ok (.putfield 89, 3) := by decide +kernel
theorem dX6_limit_35 : decode cX6_limit 35 = .ok (.iload_n 2, 1) := by decide +kernel
theorem dX6_limit_36 : decode cX6_limit 36 = .ok (.ireturn, 1) := by decide +kernel
theorem dX6_isCopied_0 : decode cX6_isCopied 0 = .ok (.aload_n 0, 1) := by decide +kernel
theorem dX6_isCopied_1 : decode cX6_isCopied 1 = .ok (.getfield 39, 3) := by decide +kernel
theorem dX6_isCopied_4 : decode cX6_isCopied 4 = .ok (.iload_n 1, 1) := by decide +kernel
theorem dX6_isCopied_5 : decode cX6_isCopied 5 = .ok (.iaload, 1) := by decide +kernel
theorem dX6_isCopied_6 : decode cX6_isCopied 6 = .ok (.iconst (-1), 1) := by decide +kernel
theorem dX6_isCopied_7 : decode cX6_isCopied 7 = .ok (.if_icmp .eq 17, 3) := by decide +kernel
theorem dX6_isCopied_10 : decode cX6_isCopied 10 = .ok (.iload_n 2, 1) := by decide +kernel
theorem dX6_isCopied_11 : decode cX6_isCopied 11 = .ok (.aload_n 0, 1) := by decide +kernel
theorem dX6_isCopied_12 : decode cX6_isCopied 12 = .ok (.getfield 42, 3) := by decide +kernel
theorem dX6_isCopied_15 : decode cX6_isCopied 15 = .ok (.iload_n 1, 1) := by decide +kernel
theorem dX6_isCopied_16 : decode cX6_isCopied 16 = .ok (.iaload, 1) := by decide +kernel
theorem dX6_isCopied_17 : decode cX6_isCopied 17 = .ok (.if_icmp .ge 7, 3) := by decide +kernel
theorem dX6_isCopied_20 : decode cX6_isCopied 20 = .ok (.iconst 1, 1) := by decide +kernel
theorem dX6_isCopied_21 : decode cX6_isCopied 21 = .ok (.goto 4, 3) := by decide +kernel
theorem dX6_isCopied_24 : decode cX6_isCopied 24 = .ok (.iconst 0, 1) := by decide +kernel
theorem dX6_isCopied_25 : decode cX6_isCopied 25 = .ok (.ireturn, 1) := by decide +kernel
theorem dX6_write_0 : decode cX6_write 0 = .ok (.iload_n 1, 1) := by decide +kernel
theorem dX6_write_1 : decode cX6_write 1 = .ok (.invokestatic 92, 3) := by decide +kernel
theorem dX6_write_4 : decode cX6_write 4 = .ok (.ifCond .eq 14, 3) := by decide +kernel
theorem dX6_write_7 : decode cX6_write 7 = .ok (.iload_n 2, 1) := by decide +kernel
theorem dX6_write_8 : decode cX6_write 8 = .ok (.invokestatic 86, 3) := by decide +kernel
theorem dX6_write_11 : decode cX6_write 11 = .ok (.ifCond .eq 7, 3) := by decide +kernel
theorem dX6_write_14 : decode cX6_write 14 = .ok (.iconst 1, 1) := by decide +kernel
theorem dX6_write_15 : decode cX6_write 15 = .ok (.goto 4, 3) := by decide +kernel
theorem dX6_write_18 : decode cX6_write 18 = .ok (.iconst 0, 1) := by decide +kernel
theorem dX6_write_19 : decode cX6_write 19 = .ok (.istore 4, 2) := by decide +kernel
theorem dX6_write_21 : decode cX6_write 21 = .ok (.iload_n 3, 1) := by decide +kernel
theorem dX6_write_22 : decode cX6_write 22 = .ok (.iconst 1, 1) := by decide +kernel
theorem dX6_write_23 : decode cX6_write 23 = .ok (.bipush 100, 2) := by decide +kernel
theorem dX6_write_25 : decode cX6_write 25 = .ok (.invokestatic 54, 3) := by decide +kernel
theorem dX6_write_28 : decode cX6_write 28 = .ok (.istore 5, 2) := by decide +kernel
theorem dX6_write_30 : decode cX6_write 30 = .ok (.iload 4, 2) := by decide +kernel
theorem dX6_write_32 : decode cX6_write 32 = .ok (.ifCond .eq 11, 3) := by decide +kernel
theorem dX6_write_35 : decode cX6_write 35 = .ok (.aload_n 0, 1) := by decide +kernel
theorem dX6_write_36 : decode cX6_write 36 = .ok (.iload_n 1, 1) := by decide +kernel
theorem dX6_write_37 : decode cX6_write 37 = .ok (.invokevirtual 95, 3) := by decide +kernel
theorem dX6_write_40 : decode cX6_write 40 = .ok (.goto 4, 3) := by decide +kernel
theorem dX6_write_43 : decode cX6_write 43 = .ok (.iconst 0, 1) := by decide +kernel
theorem dX6_write_44 : decode cX6_write 44 = .ok (.istore 6, 2) := by decide +kernel
theorem dX6_write_46 : decode cX6_write 46 = .ok (.iload 4, 2) := by decide +kernel
theorem dX6_write_48 : decode cX6_write 48 = .ok (.ifCond .eq 34, 3) := by decide +kernel
theorem dX6_write_51 : decode cX6_write 51 = .ok (.iload 5, 2) := by decide +kernel
theorem dX6_write_53 : decode cX6_write 53 = .ok (.ifCond .eq 29, 3) := by decide +kernel
theorem dX6_write_56 : decode cX6_write 56 = .ok (.aload_n 0, 1) := by decide +kernel
theorem dX6_write_57 : decode cX6_write 57 = .ok (.getfield 58, 3) := by decide +kernel
theorem dX6_write_60 : decode cX6_write 60 = .ok (.ifCond .le 22, 3) := by decide +kernel
theorem dX6_write_63 : decode cX6_write 63 = .ok (.aload_n 0, 1) := by decide +kernel
theorem dX6_write_64 : decode cX6_write 64 = .ok (.getfield 13, 3) := by decide +kernel
theorem dX6_write_67 : decode cX6_write 67 = .ok (.aload_n 0, 1) := by decide +kernel
theorem dX6_write_68 : decode cX6_write 68 = .ok (.getfield 36, 3) := by decide +kernel
theorem dX6_write_71 : decode cX6_write 71 = .ok (.iload 6, 2) := by decide +kernel
theorem dX6_write_73 : decode cX6_write 73 = .ok (.iaload, 1) := by decide +kernel
theorem dX6_write_74 : decode cX6_write 74 = .ok (.baload, 1) := by decide +kernel
theorem dX6_write_75 : decode cX6_write 75 = .ok (.ifCond .ne 7, 3) := by decide +kernel
theorem dX6_write_78 : decode cX6_write 78 = .ok (.iconst 1, 1) := by decide +kernel
theorem dX6_write_79 : decode cX6_write 79 = .ok (.goto 4, 3) := by decide +kernel
theorem dX6_write_82 : decode cX6_write 82 = .ok (.iconst 0, 1) := by decide +kernel
theorem dX6_write_83 : decode cX6_write 83 = .ok (.istore 7, 2) := by decide +kernel
theorem dX6_write_85 : decode cX6_write 85 = .ok (.iload 7, 2) := by decide +kernel
theorem dX6_write_87 : decode cX6_write 87 = .ok (.ifCond .eq 42, 3) := by decide +kernel
theorem dX6_write_90 : decode cX6_write 90 = .ok (.aload_n 0, 1) := by decide +kernel
theorem dX6_write_91 : decode cX6_write 91 = .ok (.aload_n 0, 1) := by decide +kernel
theorem dX6_write_92 : decode cX6_write 92 = .ok (.getfield 36, 3) := by decide +kernel
theorem dX6_write_95 : decode cX6_write 95 = .ok (.iload 6, 2) := by decide +kernel
theorem dX6_write_97 : decode cX6_write 97 = .ok (.iaload, 1) := by decide +kernel
theorem dX6_write_98 : decode cX6_write 98 = .ok (.invokevirtual 98, 3) := by decide +kernel
theorem dX6_write_101 : decode cX6_write 101 = .ok (.aload_n 0, 1) := by decide +kernel
theorem dX6_write_102 : decode cX6_write 102 = .ok (.getfield 26, 3) := by decide +kernel
theorem dX6_write_105 : decode cX6_write 105 = .ok (.iload_n 1, 1) := by decide +kernel
theorem dX6_write_106 : decode cX6_write 106 = .ok (.iaload, 1) := by decide +kernel
theorem dX6_write_107 : decode cX6_write 107 = .ok (.isub, 1) := by decide +kernel
theorem dX6_write_108 : decode cX6_write 108 = .ok (.iload_n 3, 1) := by decide +kernel
theorem dX6_write_109 : decode cX6_write 109 = .ok (.iadd, 1) := by decide +kernel
theorem dX6_write_110 : decode cX6_write 110 = .ok (.aload_n 0, 1) := by decide +kernel
theorem dX6_write_111 : decode cX6_write 111 = .ok (.getfield 7, 3) := by decide +kernel
theorem dX6_write_114 : decode cX6_write 114 = .ok (.aload_n 0, 1) := by decide +kernel
theorem dX6_write_115 : decode cX6_write 115 = .ok (.getfield 36, 3) := by decide +kernel
theorem dX6_write_118 : decode cX6_write 118 = .ok (.iload 6, 2) := by decide +kernel
theorem dX6_write_120 : decode cX6_write 120 = .ok (.iaload, 1) := by decide +kernel
theorem dX6_write_121 : decode cX6_write 121 = .ok (.iaload, 1) := by decide +kernel
theorem dX6_write_122 : decode cX6_write 122 = .ok (.if_icmp .gt 7, 3) := by decide +kernel
theorem dX6_write_125 : decode cX6_write 125 = .ok (.iconst 1, 1) := by decide +kernel
theorem dX6_write_126 : decode cX6_write 126 = .ok (.goto 4, 3) := by decide +kernel
theorem dX6_write_129 : decode cX6_write 129 = .ok (.iconst 0, 1) := by decide +kernel
theorem dX6_write_130 : decode cX6_write 130 = .ok (.istore 7, 2) := by decide +kernel
theorem dX6_write_132 : decode cX6_write 132 = .ok (.iload 7, 2) := by decide +kernel
theorem dX6_write_134 : decode cX6_write 134 = .ok (.ifCond .eq 54, 3) := by decide +kernel
theorem dX6_write_137 : decode cX6_write 137 = .ok (.aload_n 0, 1) := by decide +kernel
theorem dX6_write_138 : decode cX6_write 138 = .ok (.iload_n 2, 1) := by decide +kernel
theorem dX6_write_139 : decode cX6_write 139 = .ok (.invokevirtual 101, 3) := by decide +kernel
theorem dX6_write_142 : decode cX6_write 142 = .ok (.aload_n 0, 1) := by decide +kernel
theorem dX6_write_143 : decode cX6_write 143 = .ok (.getfield 23, 3) := by decide +kernel
theorem dX6_write_146 : decode cX6_write 146 = .ok (.iload_n 1, 1) := by decide +kernel
theorem dX6_write_147 : decode cX6_write 147 = .ok (.iaload, 1) := by decide +kernel
theorem dX6_write_148 : decode cX6_write 148 = .ok (.iload_n 2, 1) := by decide +kernel
theorem dX6_write_149 : decode cX6_write 149 = .ok (.if_icmp .ne 12, 3) := by decide +kernel
theorem dX6_write_152 : decode cX6_write 152 = .ok (.aload_n 0, 1) := by decide +kernel
theorem dX6_write_153 : decode cX6_write 153 = .ok (.getfield 26, 3) := by decide +kernel
theorem dX6_write_156 : decode cX6_write 156 = .ok (.iload_n 1, 1) := by decide +kernel
theorem dX6_write_157 : decode cX6_write 157 = .ok (.iaload, 1) := by decide +kernel
theorem dX6_write_158 : decode cX6_write 158 = .ok (.goto 4, 3) := by decide +kernel
theorem dX6_write_161 : decode cX6_write 161 = .ok (.iconst 0, 1) := by decide +kernel
theorem dX6_write_162 : decode cX6_write 162 = .ok (.isub, 1) := by decide +kernel
theorem dX6_write_163 : decode cX6_write 163 = .ok (.iload_n 3, 1) := by decide +kernel
theorem dX6_write_164 : decode cX6_write 164 = .ok (.iadd, 1) := by decide +kernel
theorem dX6_write_165 : decode cX6_write 165 = .ok (.aload_n 0, 1) := by decide +kernel
theorem dX6_write_166 : decode cX6_write 166 = .ok (.getfield 17, 3) := by decide +kernel
theorem dX6_write_169 : decode cX6_write 169 = .ok (.iload_n 2, 1) := by decide +kernel
theorem dX6_write_170 : decode cX6_write 170 = .ok (.iaload, 1) := by decide +kernel
theorem dX6_write_171 : decode cX6_write 171 = .ok (.if_icmp .gt 17, 3) := by decide +kernel
theorem dX6_write_174 : decode cX6_write 174 = .ok (.aload_n 0, 1) := by decide +kernel
theorem dX6_write_175 : decode cX6_write 175 = .ok (.getfield 104, 3) := by decide +kernel
theorem dX6_write_178 : decode cX6_write 178 = .ok (.sipush 600, 3) := by decide +kernel
theorem dX6_write_181 : decode cX6_write 181 = .ok (.if_icmp .ge 7, 3) := by decide +kernel
theorem dX6_write_184 : decode cX6_write 184 = .ok (.iconst 1, 1) := by decide +kernel
theorem dX6_write_185 : decode cX6_write 185 = .ok (.goto 4, 3) := by decide +kernel
theorem dX6_write_188 : decode cX6_write 188 = .ok (.iconst 0, 1) := by decide +kernel
theorem dX6_write_189 : decode cX6_write 189 = .ok (.istore 7, 2) := by decide +kernel
theorem dX6_write_191 : decode cX6_write 191 = .ok (.aload_n 0, 1) := by decide +kernel
theorem dX6_write_192 : decode cX6_write 192 = .ok (.iload 4, 2) := by decide +kernel
theorem dX6_write_194 : decode cX6_write 194 = .ok (.ifCond .ne 7, 3) := by decide +kernel
theorem dX6_write_197 : decode cX6_write 197 = .ok (.iconst 1, 1) := by decide +kernel
theorem dX6_write_198 : decode cX6_write 198 = .ok (.goto 22, 3) := by decide +kernel
theorem dX6_write_201 : decode cX6_write 201 = .ok (.iload 5, 2) := by decide +kernel
theorem dX6_write_203 : decode cX6_write 203 = .ok (.ifCond .ne 7, 3) := by decide +kernel
theorem dX6_write_206 : decode cX6_write 206 = .ok (.iconst 2, 1) := by decide +kernel
theorem dX6_write_207 : decode cX6_write 207 = .ok (.goto 13, 3) := by decide +kernel
theorem dX6_write_210 : decode cX6_write 210 = .ok (.iload 7, 2) := by decide +kernel
theorem dX6_write_212 : decode cX6_write 212 = .ok (.ifCond .eq 7, 3) := by decide +kernel
theorem dX6_write_215 : decode cX6_write 215 = .ok (.iconst 0, 1) := by decide +kernel
theorem dX6_write_216 : decode cX6_write 216 = .ok (.goto 4, 3) := by decide +kernel
theorem dX6_write_219 : decode cX6_write 219 = .ok (.iconst 3, 1) := by decide +kernel
theorem dX6_write_220 : decode cX6_write 220 = .ok (.invokevirtual 75, 3) := by decide +kernel
theorem dX6_write_223 : decode cX6_write 223 = .ok (.ifCond .eq 5, 3) := by decide +kernel
theorem dX6_write_226 : decode cX6_write 226 = .ok (.iconst 0, 1) := by decide +kernel
theorem dX6_write_227 : decode cX6_write 227 = .ok (.ireturn, 1) := by decide +kernel
theorem dX6_write_228 : decode cX6_write 228 = .ok (.aload_n 0, 1) := by decide +kernel
theorem dX6_write_229 : decode cX6_write 229 = .ok (.getfield 23, 3) := by decide +kernel
theorem dX6_write_232 : decode cX6_write 232 = .ok (.iload_n 1, 1) := by decide +kernel
theorem dX6_write_233 : decode cX6_write 233 = .ok (.iload_n 2, 1) := by decide +kernel
theorem dX6_write_234 : decode cX6_write 234 = .ok (.iastore, 1) := by decide +kernel
theorem dX6_write_235 : decode cX6_write 235 = .ok (.aload_n 0, 1) := by decide +kernel
theorem dX6_write_236 : decode cX6_write 236 = .ok (.getfield 26, 3) := by decide +kernel
theorem dX6_write_239 : decode cX6_write 239 = .ok (.iload_n 1, 1) := by decide +kernel
theorem dX6_write_240 : decode cX6_write 240 = .ok (.iload_n 3, 1) := by decide +kernel
theorem dX6_write_241 : decode cX6_write 241 = .ok (.iastore, 1) := by decide +kernel
theorem dX6_write_242 : decode cX6_write 242 = .ok (.aload_n 0, 1) := by decide +kernel
theorem dX6_write_243 : decode cX6_write 243 = .ok (.dup, 1) := by decide +kernel
theorem dX6_write_244 : decode cX6_write 244 = .ok (.getfield 104, 3) := by decide +kernel
theorem dX6_write_247 : decode cX6_write 247 = .ok (.iconst 1, 1) := by decide +kernel
theorem dX6_write_248 : decode cX6_write 248 = .ok (.iadd, 1) := by decide +kernel
theorem dX6_write_249 : decode cX6_write 249 = .ok (.putfield 104, 3) := by decide +kernel
theorem dX6_write_252 : decode cX6_write 252 = .ok (.aload_n 0, 1) := by decide +kernel
theorem dX6_write_253 : decode cX6_write 253 = .ok (.getfield 48, 3) := by decide +kernel
theorem dX6_write_256 : decode cX6_write 256 = .ok (.iload 6, 2) := by decide +kernel
theorem dX6_write_258 : decode cX6_write 258 = .ok (.dup2, 1) := by decide +kernel
theorem dX6_write_259 : decode cX6_write 259 = .ok (.iaload, 1) := by decide +kernel
theorem dX6_write_260 : decode cX6_write 260 = .ok (.iconst 1, 1) := by decide +kernel
theorem dX6_write_261 : decode cX6_write 261 = .ok (.iadd, 1) := by decide +kernel
theorem dX6_write_262 : decode cX6_write 262 = .ok (.iastore, 1) := by decide +kernel
theorem dX6_write_263 : decode cX6_write 263 = .ok (.aload_n 0, 1) := by decide +kernel
theorem dX6_write_264 : decode cX6_write 264 = .ok (.iload 6, 2) := by decide +kernel
theorem dX6_write_266 : decode cX6_write 266 = .ok (.iload_n 1, 1) := by decide +kernel
theorem dX6_write_267 : decode cX6_write 267 = .ok (.invokevirtual 107, 3) := by decide +kernel
theorem dX6_write_270 : decode cX6_write 270 = .ok (.ifCond .eq 35, 3) := by decide +kernel
theorem dX6_write_273 : decode cX6_write 273 = .ok (.aload_n 0, 1) := by decide +kernel
theorem dX6_write_274 : decode cX6_write 274 = .ok (.aload_n 0, 1) := by decide +kernel
theorem dX6_write_275 : decode cX6_write 275 = .ok (.getfield 39, 3) := by decide +kernel
theorem dX6_write_278 : decode cX6_write 278 = .ok (.iload 6, 2) := by decide +kernel
theorem dX6_write_280 : decode cX6_write 280 = .ok (.iaload, 1) := by decide +kernel
theorem dX6_write_281 : decode cX6_write 281 = .ok (.invokevirtual 98, 3) := by decide +kernel
theorem dX6_write_284 : decode cX6_write 284 = .ok (.aload_n 0, 1) := by decide +kernel
theorem dX6_write_285 : decode cX6_write 285 = .ok (.getfield 7, 3) := by decide +kernel
theorem dX6_write_288 : decode cX6_write 288 = .ok (.aload_n 0, 1) := by decide +kernel
theorem dX6_write_289 : decode cX6_write 289 = .ok (.getfield 39, 3) := by decide +kernel
theorem dX6_write_292 : decode cX6_write 292 = .ok (.iload 6, 2) := by decide +kernel
theorem dX6_write_294 : decode cX6_write 294 = .ok (.iaload, 1) := by decide +kernel
theorem dX6_write_295 : decode cX6_write 295 = .ok (.iaload, 1) := by decide +kernel
theorem dX6_write_296 : decode cX6_write 296 = .ok (.if_icmp .le 9, 3) := by decide +kernel
theorem dX6_write_299 : decode cX6_write 299 = .ok (.aload_n 0, 1) := by decide +kernel
theorem dX6_write_300 : decode cX6_write 300 = .ok (.iload 6, 2) := by decide +kernel
theorem dX6_write_302 : decode cX6_write 302 = .ok (.invokevirtual 82, 3) := by decide +kernel
theorem dX6_write_305 : decode cX6_write 305 = .ok (.aload_n 0, 1) := by decide +kernel
theorem dX6_write_306 : decode cX6_write 306 = .ok (.iload_n 2, 1) := by decide +kernel
theorem dX6_write_307 : decode cX6_write 307 = .ok (.invokevirtual 101, 3) := by decide +kernel
theorem dX6_write_310 : decode cX6_write 310 = .ok (.ireturn, 1) := by decide +kernel
theorem dX6_take_0 : decode cX6_take 0 = .ok (.iload_n 1, 1) := by decide +kernel
theorem dX6_take_1 : decode cX6_take 1 = .ok (.invokestatic 92, 3) := by decide +kernel
theorem dX6_take_4 : decode cX6_take 4 = .ok (.istore_n 2, 1) := by decide +kernel
theorem dX6_take_5 : decode cX6_take 5 = .ok (.iload_n 2, 1) := by decide +kernel
theorem dX6_take_6 : decode cX6_take 6 = .ok (.ifCond .eq 11, 3) := by decide +kernel
theorem dX6_take_9 : decode cX6_take 9 = .ok (.aload_n 0, 1) := by decide +kernel
theorem dX6_take_10 : decode cX6_take 10 = .ok (.iload_n 1, 1) := by decide +kernel
theorem dX6_take_11 : decode cX6_take 11 = .ok (.invokevirtual 95, 3) := by decide +kernel
theorem dX6_take_14 : decode cX6_take 14 = .ok (.goto 4, 3) := by decide +kernel
theorem dX6_take_17 : decode cX6_take 17 = .ok (.iconst 0, 1) := by decide +kernel
theorem dX6_take_18 : decode cX6_take 18 = .ok (.istore_n 3, 1) := by decide +kernel
theorem dX6_take_19 : decode cX6_take 19 = .ok (.iload_n 2, 1) := by decide +kernel
theorem dX6_take_20 : decode cX6_take 20 = .ok (.ifCond .eq 40, 3) := by decide +kernel
theorem dX6_take_23 : decode cX6_take 23 = .ok (.aload_n 0, 1) := by decide +kernel
theorem dX6_take_24 : decode cX6_take 24 = .ok (.getfield 26, 3) := by decide +kernel
theorem dX6_take_27 : decode cX6_take 27 = .ok (.iload_n 1, 1) := by decide +kernel
theorem dX6_take_28 : decode cX6_take 28 = .ok (.iaload, 1) := by decide +kernel
theorem dX6_take_29 : decode cX6_take 29 = .ok (.ifCond .le 31, 3) := by decide +kernel
theorem dX6_take_32 : decode cX6_take 32 = .ok (.aload_n 0, 1) := by decide +kernel
theorem dX6_take_33 : decode cX6_take 33 = .ok (.getfield 13, 3) := by decide +kernel
theorem dX6_take_36 : decode cX6_take 36 = .ok (.aload_n 0, 1) := by decide +kernel
theorem dX6_take_37 : decode cX6_take 37 = .ok (.getfield 36, 3) := by decide +kernel
theorem dX6_take_40 : decode cX6_take 40 = .ok (.iload_n 3, 1) := by decide +kernel
theorem dX6_take_41 : decode cX6_take 41 = .ok (.iaload, 1) := by decide +kernel
theorem dX6_take_42 : decode cX6_take 42 = .ok (.baload, 1) := by decide +kernel
theorem dX6_take_43 : decode cX6_take 43 = .ok (.ifCond .ne 17, 3) := by decide +kernel
theorem dX6_take_46 : decode cX6_take 46 = .ok (.aload_n 0, 1) := by decide +kernel
theorem dX6_take_47 : decode cX6_take 47 = .ok (.getfield 104, 3) := by decide +kernel
theorem dX6_take_50 : decode cX6_take 50 = .ok (.sipush 600, 3) := by decide +kernel
theorem dX6_take_53 : decode cX6_take 53 = .ok (.if_icmp .ge 7, 3) := by decide +kernel
theorem dX6_take_56 : decode cX6_take 56 = .ok (.iconst 1, 1) := by decide +kernel
theorem dX6_take_57 : decode cX6_take 57 = .ok (.goto 4, 3) := by decide +kernel
theorem dX6_take_60 : decode cX6_take 60 = .ok (.iconst 0, 1) := by decide +kernel
theorem dX6_take_61 : decode cX6_take 61 = .ok (.istore 4, 2) := by decide +kernel
theorem dX6_take_63 : decode cX6_take 63 = .ok (.aload_n 0, 1) := by decide +kernel
theorem dX6_take_64 : decode cX6_take 64 = .ok (.iload_n 2, 1) := by decide +kernel
theorem dX6_take_65 : decode cX6_take 65 = .ok (.ifCond .ne 7, 3) := by decide +kernel
theorem dX6_take_68 : decode cX6_take 68 = .ok (.iconst 1, 1) := by decide +kernel
theorem dX6_take_69 : decode cX6_take 69 = .ok (.goto 13, 3) := by decide +kernel
theorem dX6_take_72 : decode cX6_take 72 = .ok (.iload 4, 2) := by decide +kernel
theorem dX6_take_74 : decode cX6_take 74 = .ok (.ifCond .eq 7, 3) := by decide +kernel
theorem dX6_take_77 : decode cX6_take 77 = .ok (.iconst 0, 1) := by decide +kernel
theorem dX6_take_78 : decode cX6_take 78 = .ok (.goto 4, 3) := by decide +kernel
theorem dX6_take_81 : decode cX6_take 81 = .ok (.iconst 2, 1) := by decide +kernel
theorem dX6_take_82 : decode cX6_take 82 = .ok (.invokevirtual 75, 3) := by decide +kernel
theorem dX6_take_85 : decode cX6_take 85 = .ok (.ifCond .eq 5, 3) := by decide +kernel
theorem dX6_take_88 : decode cX6_take 88 = .ok (.iconst 0, 1) := by decide +kernel
theorem dX6_take_89 : decode cX6_take 89 = .ok (.ireturn, 1) := by decide +kernel
theorem dX6_take_90 : decode cX6_take 90 = .ok (.aload_n 0, 1) := by decide +kernel
theorem dX6_take_91 : decode cX6_take 91 = .ok (.getfield 26, 3) := by decide +kernel
theorem dX6_take_94 : decode cX6_take 94 = .ok (.iload_n 1, 1) := by decide +kernel
theorem dX6_take_95 : decode cX6_take 95 = .ok (.iaload, 1) := by decide +kernel
theorem dX6_take_96 : decode cX6_take 96 = .ok (.istore 5, 2) := by decide +kernel
theorem dX6_take_98 : decode cX6_take 98 = .ok (.aload_n 0, 1) := by decide +kernel
theorem dX6_take_99 : decode cX6_take 99 = .ok (.getfield 26, 3) := by decide +kernel
theorem dX6_take_102 : decode cX6_take 102 = .ok (.iload_n 1, 1) := by decide +kernel
theorem dX6_take_103 : decode cX6_take 103 = .ok (.iconst 0, 1) := by decide +kernel
theorem dX6_take_104 : decode cX6_take 104 = .ok (.iastore, 1) := by decide +kernel
theorem dX6_take_105 : decode cX6_take 105 = .ok (.aload_n 0, 1) := by decide +kernel
theorem dX6_take_106 : decode cX6_take 106 = .ok (.dup, 1) := by decide +kernel
theorem dX6_take_107 : decode cX6_take 107 = .ok (.getfield 104, 3) := by decide +kernel
theorem dX6_take_110 : decode cX6_take 110 = .ok (.iconst 1, 1) := by decide +kernel
theorem dX6_take_111 : decode cX6_take 111 = .ok (.iadd, 1) := by decide +kernel
theorem dX6_take_112 : decode cX6_take 112 = .ok (.putfield 104, 3) := by decide +kernel
theorem dX6_take_115 : decode cX6_take 115 = .ok (.aload_n 0, 1) := by decide +kernel
theorem dX6_take_116 : decode cX6_take 116 = .ok (.getfield 48, 3) := by decide +kernel
theorem dX6_take_119 : decode cX6_take 119 = .ok (.iload_n 3, 1) := by decide +kernel
theorem dX6_take_120 : decode cX6_take 120 = .ok (.dup2, 1) := by decide +kernel
theorem dX6_take_121 : decode cX6_take 121 = .ok (.iaload, 1) := by decide +kernel
theorem dX6_take_122 : decode cX6_take 122 = .ok (.iconst 1, 1) := by decide +kernel
theorem dX6_take_123 : decode cX6_take 123 = .ok (.iadd, 1) := by decide +kernel
theorem dX6_take_124 : decode cX6_take 124 = .ok (.iastore, 1) := by decide +kernel
theorem dX6_take_125 : decode cX6_take 125 = .ok (.iload 5, 2) := by decide +kernel
theorem dX6_take_127 : decode cX6_take 127 = .ok (.ireturn, 1) := by decide +kernel
theorem dX6_read_0 : decode cX6_read 0 = .ok (.iload_n 1, 1) := by decide +kernel
theorem dX6_read_1 : decode cX6_read 1 = .ok (.invokestatic 92, 3) := by decide +kernel
theorem dX6_read_4 : decode cX6_read 4 = .ok (.istore_n 2, 1) := by decide +kernel
theorem dX6_read_5 : decode cX6_read 5 = .ok (.iload_n 2, 1) := by decide +kernel
theorem dX6_read_6 : decode cX6_read 6 = .ok (.ifCond .eq 11, 3) := by decide +kernel
theorem dX6_read_9 : decode cX6_read 9 = .ok (.aload_n 0, 1) := by decide +kernel
theorem dX6_read_10 : decode cX6_read 10 = .ok (.iload_n 1, 1) := by decide +kernel
theorem dX6_read_11 : decode cX6_read 11 = .ok (.invokevirtual 95, 3) := by decide +kernel
theorem dX6_read_14 : decode cX6_read 14 = .ok (.goto 4, 3) := by decide +kernel
theorem dX6_read_17 : decode cX6_read 17 = .ok (.iconst 0, 1) := by decide +kernel
theorem dX6_read_18 : decode cX6_read 18 = .ok (.istore_n 3, 1) := by decide +kernel
theorem dX6_read_19 : decode cX6_read 19 = .ok (.aload_n 0, 1) := by decide +kernel
theorem dX6_read_20 : decode cX6_read 20 = .ok (.iload_n 2, 1) := by decide +kernel
theorem dX6_read_21 : decode cX6_read 21 = .ok (.ifCond .ne 7, 3) := by decide +kernel
theorem dX6_read_24 : decode cX6_read 24 = .ok (.iconst 1, 1) := by decide +kernel
theorem dX6_read_25 : decode cX6_read 25 = .ok (.goto 29, 3) := by decide +kernel
theorem dX6_read_28 : decode cX6_read 28 = .ok (.aload_n 0, 1) := by decide +kernel
theorem dX6_read_29 : decode cX6_read 29 = .ok (.getfield 58, 3) := by decide +kernel
theorem dX6_read_32 : decode cX6_read 32 = .ok (.ifCond .eq 17, 3) := by decide +kernel
theorem dX6_read_35 : decode cX6_read 35 = .ok (.aload_n 0, 1) := by decide +kernel
theorem dX6_read_36 : decode cX6_read 36 = .ok (.getfield 13, 3) := by decide +kernel
theorem dX6_read_39 : decode cX6_read 39 = .ok (.aload_n 0, 1) := by decide +kernel
theorem dX6_read_40 : decode cX6_read 40 = .ok (.getfield 36, 3) := by decide +kernel
theorem dX6_read_43 : decode cX6_read 43 = .ok (.iload_n 3, 1) := by decide +kernel
theorem dX6_read_44 : decode cX6_read 44 = .ok (.iaload, 1) := by decide +kernel
theorem dX6_read_45 : decode cX6_read 45 = .ok (.baload, 1) := by decide +kernel
theorem dX6_read_46 : decode cX6_read 46 = .ok (.ifCond .eq 7, 3) := by decide +kernel
theorem dX6_read_49 : decode cX6_read 49 = .ok (.iconst 2, 1) := by decide +kernel
theorem dX6_read_50 : decode cX6_read 50 = .ok (.goto 4, 3) := by decide +kernel
theorem dX6_read_53 : decode cX6_read 53 = .ok (.iconst 0, 1) := by decide +kernel
theorem dX6_read_54 : decode cX6_read 54 = .ok (.invokevirtual 75, 3) := by decide +kernel
theorem dX6_read_57 : decode cX6_read 57 = .ok (.ifCond .eq 5, 3) := by decide +kernel
theorem dX6_read_60 : decode cX6_read 60 = .ok (.iconst 0, 1) := by decide +kernel
theorem dX6_read_61 : decode cX6_read 61 = .ok (.ireturn, 1) := by decide +kernel
theorem dX6_read_62 : decode cX6_read 62 = .ok (.aload_n 0, 1) := by decide +kernel
theorem dX6_read_63 : decode cX6_read 63 = .ok (.getfield 48, 3) := by decide +kernel
theorem dX6_read_66 : decode cX6_read 66 = .ok (.iload_n 3, 1) := by decide +kernel
theorem dX6_read_67 : decode cX6_read 67 = .ok (.dup2, 1) := by decide +kernel
theorem dX6_read_68 : decode cX6_read 68 = .ok (.iaload, 1) := by decide +kernel
theorem dX6_read_69 : decode cX6_read 69 = .ok (.iconst 1, 1) := by decide +kernel
theorem dX6_read_70 : decode cX6_read 70 = .ok (.iadd, 1) := by decide +kernel
theorem dX6_read_71 : decode cX6_read 71 = .ok (.iastore, 1) := by decide +kernel
theorem dX6_read_72 : decode cX6_read 72 = .ok (.aload_n 0, 1) := by decide +kernel
theorem dX6_read_73 : decode cX6_read 73 = .ok (.getfield 26, 3) := by decide +kernel
theorem dX6_read_76 : decode cX6_read 76 = .ok (.iload_n 1, 1) := by decide +kernel
theorem dX6_read_77 : decode cX6_read 77 = .ok (.iaload, 1) := by decide +kernel
theorem dX6_read_78 : decode cX6_read 78 = .ok (.ireturn, 1) := by decide +kernel
theorem dX6_lay_0 : decode cX6_lay 0 = .ok (.aload_n 0, 1) := by decide +kernel
theorem dX6_lay_1 : decode cX6_lay 1 = .ok (.getfield 33, 3) := by decide +kernel
theorem dX6_lay_4 : decode cX6_lay 4 = .ok (.iload_n 1, 1) := by decide +kernel
theorem dX6_lay_5 : decode cX6_lay 5 = .ok (.aload_n 0, 1) := by decide +kernel
theorem dX6_lay_6 : decode cX6_lay 6 = .ok (.getfield 33, 3) := by decide +kernel
theorem dX6_lay_9 : decode cX6_lay 9 = .ok (.iload_n 2, 1) := by decide +kernel
theorem dX6_lay_10 : decode cX6_lay 10 = .ok (.iaload, 1) := by decide +kernel
theorem dX6_lay_11 : decode cX6_lay 11 = .ok (.iastore, 1) := by decide +kernel
theorem dX6_lay_12 : decode cX6_lay 12 = .ok (.aload_n 0, 1) := by decide +kernel
theorem dX6_lay_13 : decode cX6_lay 13 = .ok (.getfield 36, 3) := by decide +kernel
theorem dX6_lay_16 : decode cX6_lay 16 = .ok (.iload_n 1, 1) := by decide +kernel
theorem dX6_lay_17 : decode cX6_lay 17 = .ok (.aload_n 0, 1) := by decide +kernel
theorem dX6_lay_18 : decode cX6_lay 18 = .ok (.getfield 36, 3) := by decide +kernel
theorem dX6_lay_21 : decode cX6_lay 21 = .ok (.iload_n 2, 1) := by decide +kernel
theorem dX6_lay_22 : decode cX6_lay 22 = .ok (.iaload, 1) := by decide +kernel
theorem dX6_lay_23 : decode cX6_lay 23 = .ok (.iastore, 1) := by decide +kernel
theorem dX6_lay_24 : decode cX6_lay 24 = .ok (.aload_n 0, 1) := by decide +kernel
theorem dX6_lay_25 : decode cX6_lay 25 = .ok (.getfield 39, 3) := by decide +kernel
theorem dX6_lay_28 : decode cX6_lay 28 = .ok (.iload_n 1, 1) := by decide +kernel
theorem dX6_lay_29 : decode cX6_lay 29 = .ok (.aload_n 0, 1) := by decide +kernel
theorem dX6_lay_30 : decode cX6_lay 30 = .ok (.getfield 39, 3) := by decide +kernel
theorem dX6_lay_33 : decode cX6_lay 33 = .ok (.iload_n 2, 1) := by decide +kernel
theorem dX6_lay_34 : decode cX6_lay 34 = .ok (.iaload, 1) := by decide +kernel
theorem dX6_lay_35 : decode cX6_lay 35 = .ok (.iastore, 1) := by decide +kernel
theorem dX6_lay_36 : decode cX6_lay 36 = .ok (.aload_n 0, 1) := by decide +kernel
theorem dX6_lay_37 : decode cX6_lay 37 = .ok (.getfield 42, 3) := by decide +kernel
theorem dX6_lay_40 : decode cX6_lay 40 = .ok (.iload_n 1, 1) := by decide +kernel
theorem dX6_lay_41 : decode cX6_lay 41 = .ok (.aload_n 0, 1) := by decide +kernel
theorem dX6_lay_42 : decode cX6_lay 42 = .ok (.getfield 42, 3) := by decide +kernel
theorem dX6_lay_45 : decode cX6_lay 45 = .ok (.iload_n 2, 1) := by decide +kernel
theorem dX6_lay_46 : decode cX6_lay 46 = .ok (.iaload, 1) := by decide +kernel
theorem dX6_lay_47 : decode cX6_lay 47 = .ok (.iastore, 1) := by decide +kernel
theorem dX6_lay_48 : decode cX6_lay 48 = .ok (.aload_n 0, 1) := by decide +kernel
theorem dX6_lay_49 : decode cX6_lay 49 = .ok (.getfield 45, 3) := by decide +kernel
theorem dX6_lay_52 : decode cX6_lay 52 = .ok (.iload_n 1, 1) := by decide +kernel
theorem dX6_lay_53 : decode cX6_lay 53 = .ok (.aload_n 0, 1) := by decide +kernel
theorem dX6_lay_54 : decode cX6_lay 54 = .ok (.getfield 45, 3) := by decide +kernel
theorem dX6_lay_57 : decode cX6_lay 57 = .ok (.iload_n 2, 1) := by decide +kernel
theorem dX6_lay_58 : decode cX6_lay 58 = .ok (.iaload, 1) := by decide +kernel
theorem dX6_lay_59 : decode cX6_lay 59 = .ok (.iastore, 1) := by decide +kernel
theorem dX6_lay_60 : decode cX6_lay 60 = .ok (.aload_n 0, 1) := by decide +kernel
theorem dX6_lay_61 : decode cX6_lay 61 = .ok (.getfield 48, 3) := by decide +kernel
theorem dX6_lay_64 : decode cX6_lay 64 = .ok (.iload_n 1, 1) := by decide +kernel
theorem dX6_lay_65 : decode cX6_lay 65 = .ok (.aload_n 0, 1) := by decide +kernel
theorem dX6_lay_66 : decode cX6_lay 66 = .ok (.getfield 48, 3) := by decide +kernel
theorem dX6_lay_69 : decode cX6_lay 69 = .ok (.iload_n 2, 1) := by decide +kernel
theorem dX6_lay_70 : decode cX6_lay 70 = .ok (.iaload, 1) := by decide +kernel
theorem dX6_lay_71 : decode cX6_lay 71 = .ok (.iastore, 1) := by decide +kernel
theorem dX6_lay_72 : decode cX6_lay 72 = .ok (.return_, 1) := by decide +kernel
theorem dX6_split_0 : decode cX6_split 0 = .ok (.iload_n 1, 1) := by decide +kernel
theorem dX6_split_1 : decode cX6_split 1 = .ok (.iconst 1, 1) := by decide +kernel
theorem dX6_split_2 : decode cX6_split 2 = .ok (.sipush 999, 3) := by decide +kernel
theorem dX6_split_5 : decode cX6_split 5 = .ok (.invokestatic 54, 3) := by decide +kernel
theorem dX6_split_8 : decode cX6_split 8 = .ok (.istore_n 2, 1) := by decide +kernel
theorem dX6_split_9 : decode cX6_split 9 = .ok (.iload_n 2, 1) := by decide +kernel
theorem dX6_split_10 : decode cX6_split 10 = .ok (.ifCond .eq 11, 3) := by decide +kernel
theorem dX6_split_13 : decode cX6_split 13 = .ok (.aload_n 0, 1) := by decide +kernel
theorem dX6_split_14 : decode cX6_split 14 = .ok (.iload_n 1, 1) := by decide +kernel
theorem dX6_split_15 : decode cX6_split 15 = .ok (.invokevirtual 95, 3) := by decide +kernel
theorem dX6_split_18 : decode cX6_split 18 = .ok (.goto 4, 3) := by decide +kernel
theorem dX6_split_21 : decode cX6_split 21 = .ok (.iconst 0, 1) := by decide +kernel
theorem dX6_split_22 : decode cX6_split 22 = .ok (.istore_n 3, 1) := by decide +kernel
theorem dX6_split_23 : decode cX6_split 23 = .ok (.aload_n 0, 1) := by decide +kernel
theorem dX6_split_24 : decode cX6_split 24 = .ok (.iload_n 2, 1) := by decide +kernel
theorem dX6_split_25 : decode cX6_split 25 = .ok (.ifCond .ne 7, 3) := by decide +kernel
theorem dX6_split_28 : decode cX6_split 28 = .ok (.iconst 1, 1) := by decide +kernel
theorem dX6_split_29 : decode cX6_split 29 = .ok (.goto 37, 3) := by decide +kernel
theorem dX6_split_32 : decode cX6_split 32 = .ok (.aload_n 0, 1) := by decide +kernel
theorem dX6_split_33 : decode cX6_split 33 = .ok (.getfield 33, 3) := by decide +kernel
theorem dX6_split_36 : decode cX6_split 36 = .ok (.iload_n 3, 1) := by decide +kernel
theorem dX6_split_37 : decode cX6_split 37 = .ok (.iaload, 1) := by decide +kernel
theorem dX6_split_38 : decode cX6_split 38 = .ok (.iload_n 1, 1) := by decide +kernel
theorem dX6_split_39 : decode cX6_split 39 = .ok (.if_icmp .eq 22, 3) := by decide +kernel
theorem dX6_split_42 : decode cX6_split 42 = .ok (.aload_n 0, 1) := by decide +kernel
theorem dX6_split_43 : decode cX6_split 43 = .ok (.getfield 39, 3) := by decide +kernel
theorem dX6_split_46 : decode cX6_split 46 = .ok (.iload_n 3, 1) := by decide +kernel
theorem dX6_split_47 : decode cX6_split 47 = .ok (.iaload, 1) := by decide +kernel
theorem dX6_split_48 : decode cX6_split 48 = .ok (.iconst (-1), 1) := by decide +kernel
theorem dX6_split_49 : decode cX6_split 49 = .ok (.if_icmp .ne 12, 3) := by decide +kernel
theorem dX6_split_52 : decode cX6_split 52 = .ok (.aload_n 0, 1) := by decide +kernel
theorem dX6_split_53 : decode cX6_split 53 = .ok (.getfield 29, 3) := by decide +kernel
theorem dX6_split_56 : decode cX6_split 56 = .ok (.bipush 16, 2) := by decide +kernel
theorem dX6_split_58 : decode cX6_split 58 = .ok (.if_icmp .ne 7, 3) := by decide +kernel
theorem dX6_split_61 : decode cX6_split 61 = .ok (.iconst 2, 1) := by decide +kernel
theorem dX6_split_62 : decode cX6_split 62 = .ok (.goto 4, 3) := by decide +kernel
theorem dX6_split_65 : decode cX6_split 65 = .ok (.iconst 0, 1) := by decide +kernel
theorem dX6_split_66 : decode cX6_split 66 = .ok (.invokevirtual 75, 3) := by decide +kernel
theorem dX6_split_69 : decode cX6_split 69 = .ok (.ifCond .eq 5, 3) := by decide +kernel
theorem dX6_split_72 : decode cX6_split 72 = .ok (.iconst 0, 1) := by decide +kernel
theorem dX6_split_73 : decode cX6_split 73 = .ok (.ireturn, 1) := by decide +kernel
theorem dX6_split_74 : decode cX6_split 74 = .ok (.aload_n 0, 1) := by decide +kernel
theorem dX6_split_75 : decode cX6_split 75 = .ok (.getfield 29, 3) := by decide +kernel
theorem dX6_split_78 : decode cX6_split 78 = .ok (.istore 4, 2) := by decide +kernel
theorem dX6_split_80 : decode cX6_split 80 = .ok (.iload 4, 2) := by decide +kernel
theorem dX6_split_82 : decode cX6_split 82 = .ok (.iload_n 3, 1) := by decide +kernel
theorem dX6_split_83 : decode cX6_split 83 = .ok (.if_icmp .le 19, 3) := by decide +kernel
theorem dX6_split_86 : decode cX6_split 86 = .ok (.aload_n 0, 1) := by decide +kernel
theorem dX6_split_87 : decode cX6_split 87 = .ok (.iload 4, 2) := by decide +kernel
theorem dX6_split_89 : decode cX6_split 89 = .ok (.iconst 1, 1) := by decide +kernel
theorem dX6_split_90 : decode cX6_split 90 = .ok (.iadd, 1) := by decide +kernel
theorem dX6_split_91 : decode cX6_split 91 = .ok (.iload 4, 2) := by decide +kernel
theorem dX6_split_93 : decode cX6_split 93 = .ok (.invokevirtual 111, 3) := by decide +kernel
theorem dX6_split_96 : decode cX6_split 96 = .ok (.iinc 4 (-1), 3) := by decide +kernel
theorem dX6_split_99 : decode cX6_split 99 = .ok (.goto (-19), 3) := by decide +kernel
theorem dX6_split_102 : decode cX6_split 102 = .ok (.aload_n 0, 1) := by decide +kernel
theorem dX6_split_103 : decode cX6_split 103 = .ok (.iload_n 3, 1) := by decide +kernel
theorem dX6_split_104 : decode cX6_split 104 = .ok (.iconst 1, 1) := by decide +kernel
theorem dX6_split_105 : decode cX6_split 105 = .ok (.iadd, 1) := by decide +kernel
theorem dX6_split_106 : decode cX6_split 106 = .ok (.iload_n 3, 1) := by decide +kernel
theorem dX6_split_107 : decode cX6_split 107 = .ok (.invokevirtual 111, 3) := by decide +kernel
theorem dX6_split_110 : decode cX6_split 110 = .ok (.aload_n 0, 1) := by decide +kernel
theorem dX6_split_111 : decode cX6_split 111 = .ok (.getfield 33, 3) := by decide +kernel
theorem dX6_split_114 : decode cX6_split 114 = .ok (.iload_n 3, 1) := by decide +kernel
theorem dX6_split_115 : decode cX6_split 115 = .ok (.iconst 1, 1) := by decide +kernel
theorem dX6_split_116 : decode cX6_split 116 = .ok (.iadd, 1) := by decide +kernel
theorem dX6_split_117 : decode cX6_split 117 = .ok (.iload_n 1, 1) := by decide +kernel
theorem dX6_split_118 : decode cX6_split 118 = .ok (.iastore, 1) := by decide +kernel
theorem dX6_split_119 : decode cX6_split 119 = .ok (.aload_n 0, 1) := by decide +kernel
theorem dX6_split_120 : decode cX6_split 120 = .ok (.getfield 48, 3) := by decide +kernel
theorem dX6_split_123 : decode cX6_split 123 = .ok (.iload_n 3, 1) := by decide +kernel
theorem dX6_split_124 : decode cX6_split 124 = .ok (.iaload, 1) := by decide +kernel
theorem dX6_split_125 : decode cX6_split 125 = .ok (.iconst 2, 1) := by decide +kernel
theorem dX6_split_126 : decode cX6_split 126 = .ok (.idiv, 1) := by decide +kernel
theorem dX6_split_127 : decode cX6_split 127 = .ok (.istore 4, 2) := by decide +kernel
theorem dX6_split_129 : decode cX6_split 129 = .ok (.aload_n 0, 1) := by decide +kernel
theorem dX6_split_130 : decode cX6_split 130 = .ok (.getfield 48, 3) := by decide +kernel
theorem dX6_split_133 : decode cX6_split 133 = .ok (.iload_n 3, 1) := by decide +kernel
theorem dX6_split_134 : decode cX6_split 134 = .ok (.iconst 1, 1) := by decide +kernel
theorem dX6_split_135 : decode cX6_split 135 = .ok (.iadd, 1) := by decide +kernel
theorem dX6_split_136 : decode cX6_split 136 = .ok (.aload_n 0, 1) := by decide +kernel
theorem dX6_split_137 : decode cX6_split 137 = .ok (.getfield 48, 3) := by decide +kernel
theorem dX6_split_140 : decode cX6_split 140 = .ok (.iload_n 3, 1) := by decide +kernel
theorem dX6_split_141 : decode cX6_split 141 = .ok (.iaload, 1) := by decide +kernel
theorem dX6_split_142 : decode cX6_split 142 = .ok (.iload 4, 2) := by decide +kernel
theorem dX6_split_144 : decode cX6_split 144 = .ok (.isub, 1) := by decide +kernel
theorem dX6_split_145 : decode cX6_split 145 = .ok (.iastore, 1) := by decide +kernel
theorem dX6_split_146 : decode cX6_split 146 = .ok (.aload_n 0, 1) := by decide +kernel
theorem dX6_split_147 : decode cX6_split 147 = .ok (.getfield 48, 3) := by decide +kernel
theorem dX6_split_150 : decode cX6_split 150 = .ok (.iload_n 3, 1) := by decide +kernel
theorem dX6_split_151 : decode cX6_split 151 = .ok (.iload 4, 2) := by decide +kernel
theorem dX6_split_153 : decode cX6_split 153 = .ok (.iastore, 1) := by decide +kernel
theorem dX6_split_154 : decode cX6_split 154 = .ok (.aload_n 0, 1) := by decide +kernel
theorem dX6_split_155 : decode cX6_split 155 = .ok (.dup, 1) := by decide +kernel
theorem dX6_split_156 : decode cX6_split 156 = .ok (.getfield 29, 3) := by decide +kernel
theorem dX6_split_159 : decode cX6_split 159 = .ok (.iconst 1, 1) := by decide +kernel
theorem dX6_split_160 : decode cX6_split 160 = .ok (.iadd, 1) := by decide +kernel
theorem dX6_split_161 : decode cX6_split 161 = .ok (.putfield 29, 3) := by decide +kernel
theorem dX6_split_164 : decode cX6_split 164 = .ok (.iload_n 3, 1) := by decide +kernel
theorem dX6_split_165 : decode cX6_split 165 = .ok (.iconst 1, 1) := by decide +kernel
theorem dX6_split_166 : decode cX6_split 166 = .ok (.iadd, 1) := by decide +kernel
theorem dX6_split_167 : decode cX6_split 167 = .ok (.ireturn, 1) := by decide +kernel
theorem dX6_join_0 : decode cX6_join 0 = .ok (.aload_n 0, 1) := by decide +kernel
theorem dX6_join_1 : decode cX6_join 1 = .ok (.iload_n 1, 1) := by decide +kernel
theorem dX6_join_2 : decode cX6_join 2 = .ok (.invokevirtual 115, 3) := by decide +kernel
theorem dX6_join_5 : decode cX6_join 5 = .ok (.istore_n 2, 1) := by decide +kernel
theorem dX6_join_6 : decode cX6_join 6 = .ok (.iload_n 2, 1) := by decide +kernel
theorem dX6_join_7 : decode cX6_join 7 = .ok (.ifCond .eq 56, 3) := by decide +kernel
theorem dX6_join_10 : decode cX6_join 10 = .ok (.iload_n 1, 1) := by decide +kernel
theorem dX6_join_11 : decode cX6_join 11 = .ok (.iconst 1, 1) := by decide +kernel
theorem dX6_join_12 : decode cX6_join 12 = .ok (.iadd, 1) := by decide +kernel
theorem dX6_join_13 : decode cX6_join 13 = .ok (.aload_n 0, 1) := by decide +kernel
theorem dX6_join_14 : decode cX6_join 14 = .ok (.getfield 29, 3) := by decide +kernel
theorem dX6_join_17 : decode cX6_join 17 = .ok (.if_icmp .ge 46, 3) := by decide +kernel
theorem dX6_join_20 : decode cX6_join 20 = .ok (.aload_n 0, 1) := by decide +kernel
theorem dX6_join_21 : decode cX6_join 21 = .ok (.getfield 36, 3) := by decide +kernel
theorem dX6_join_24 : decode cX6_join 24 = .ok (.iload_n 1, 1) := by decide +kernel
theorem dX6_join_25 : decode cX6_join 25 = .ok (.iaload, 1) := by decide +kernel
theorem dX6_join_26 : decode cX6_join 26 = .ok (.aload_n 0, 1) := by decide +kernel
theorem dX6_join_27 : decode cX6_join 27 = .ok (.getfield 36, 3) := by decide +kernel
theorem dX6_join_30 : decode cX6_join 30 = .ok (.iload_n 1, 1) := by decide +kernel
theorem dX6_join_31 : decode cX6_join 31 = .ok (.iconst 1, 1) := by decide +kernel
theorem dX6_join_32 : decode cX6_join 32 = .ok (.iadd, 1) := by decide +kernel
theorem dX6_join_33 : decode cX6_join 33 = .ok (.iaload, 1) := by decide +kernel
theorem dX6_join_34 : decode cX6_join 34 = .ok (.if_icmp .ne 29, 3) := by decide +kernel
theorem dX6_join_37 : decode cX6_join 37 = .ok (.aload_n 0, 1) := by decide +kernel
theorem dX6_join_38 : decode cX6_join 38 = .ok (.getfield 39, 3) := by decide +kernel
theorem dX6_join_41 : decode cX6_join 41 = .ok (.iload_n 1, 1) := by decide +kernel
theorem dX6_join_42 : decode cX6_join 42 = .ok (.iaload, 1) := by decide +kernel
theorem dX6_join_43 : decode cX6_join 43 = .ok (.iconst (-1), 1) := by decide +kernel
theorem dX6_join_44 : decode cX6_join 44 = .ok (.if_icmp .ne 19, 3) := by decide +kernel
theorem dX6_join_47 : decode cX6_join 47 = .ok (.aload_n 0, 1) := by decide +kernel
theorem dX6_join_48 : decode cX6_join 48 = .ok (.getfield 39, 3) := by decide +kernel
theorem dX6_join_51 : decode cX6_join 51 = .ok (.iload_n 1, 1) := by decide +kernel
theorem dX6_join_52 : decode cX6_join 52 = .ok (.iconst 1, 1) := by decide +kernel
theorem dX6_join_53 : decode cX6_join 53 = .ok (.iadd, 1) := by decide +kernel
theorem dX6_join_54 : decode cX6_join 54 = .ok (.iaload, 1) := by decide +kernel
theorem dX6_join_55 : decode cX6_join 55 = .ok (.iconst (-1), 1) := by decide +kernel
theorem dX6_join_56 : decode cX6_join 56 = .ok (.if_icmp .ne 7, 3) := by decide +kernel
theorem dX6_join_59 : decode cX6_join 59 = .ok (.iconst 1, 1) := by decide +kernel
theorem dX6_join_60 : decode cX6_join 60 = .ok (.goto 4, 3) := by decide +kernel
theorem dX6_join_63 : decode cX6_join 63 = .ok (.iconst 0, 1) := by decide +kernel
theorem dX6_join_64 : decode cX6_join 64 = .ok (.istore_n 3, 1) := by decide +kernel
theorem dX6_join_65 : decode cX6_join 65 = .ok (.aload_n 0, 1) := by decide +kernel
theorem dX6_join_66 : decode cX6_join 66 = .ok (.iload_n 2, 1) := by decide +kernel
theorem dX6_join_67 : decode cX6_join 67 = .ok (.ifCond .ne 7, 3) := by decide +kernel
theorem dX6_join_70 : decode cX6_join 70 = .ok (.iconst 1, 1) := by decide +kernel
theorem dX6_join_71 : decode cX6_join 71 = .ok (.goto 12, 3) := by decide +kernel
theorem dX6_join_74 : decode cX6_join 74 = .ok (.iload_n 3, 1) := by decide +kernel
theorem dX6_join_75 : decode cX6_join 75 = .ok (.ifCond .eq 7, 3) := by decide +kernel
theorem dX6_join_78 : decode cX6_join 78 = .ok (.iconst 0, 1) := by decide +kernel
theorem dX6_join_79 : decode cX6_join 79 = .ok (.goto 4, 3) := by decide +kernel
theorem dX6_join_82 : decode cX6_join 82 = .ok (.iconst 2, 1) := by decide +kernel
theorem dX6_join_83 : decode cX6_join 83 = .ok (.invokevirtual 75, 3) := by decide +kernel
theorem dX6_join_86 : decode cX6_join 86 = .ok (.ifCond .eq 5, 3) := by decide +kernel
theorem dX6_join_89 : decode cX6_join 89 = .ok (.iconst 0, 1) := by decide +kernel
theorem dX6_join_90 : decode cX6_join 90 = .ok (.ireturn, 1) := by decide +kernel
theorem dX6_join_91 : decode cX6_join 91 = .ok (.aload_n 0, 1) := by decide +kernel
theorem dX6_join_92 : decode cX6_join 92 = .ok (.getfield 48, 3) := by decide +kernel
theorem dX6_join_95 : decode cX6_join 95 = .ok (.iload_n 1, 1) := by decide +kernel
theorem dX6_join_96 : decode cX6_join 96 = .ok (.dup2, 1) := by decide +kernel
theorem dX6_join_97 : decode cX6_join 97 = .ok (.iaload, 1) := by decide +kernel
theorem dX6_join_98 : decode cX6_join 98 = .ok (.aload_n 0, 1) := by decide +kernel
theorem dX6_join_99 : decode cX6_join 99 = .ok (.getfield 48, 3) := by decide +kernel
theorem dX6_join_102 : decode cX6_join 102 = .ok (.iload_n 1, 1) := by decide +kernel
theorem dX6_join_103 : decode cX6_join 103 = .ok (.iconst 1, 1) := by decide +kernel
theorem dX6_join_104 : decode cX6_join 104 = .ok (.iadd, 1) := by decide +kernel
theorem dX6_join_105 : decode cX6_join 105 = .ok (.iaload, 1) := by decide +kernel
theorem dX6_join_106 : decode cX6_join 106 = .ok (.iadd, 1) := by decide +kernel
theorem dX6_join_107 : decode cX6_join 107 = .ok (.iastore, 1) := by decide +kernel
theorem dX6_join_108 : decode cX6_join 108 = .ok (.iload_n 1, 1) := by decide +kernel
theorem dX6_join_109 : decode cX6_join 109 = .ok (.iconst 1, 1) := by decide +kernel
theorem dX6_join_110 : decode cX6_join 110 = .ok (.iadd, 1) := by decide +kernel
theorem dX6_join_111 : decode cX6_join 111 = .ok (.istore 4, 2) := by decide +kernel
theorem dX6_join_113 : decode cX6_join 113 = .ok (.iload 4, 2) := by decide +kernel
theorem dX6_join_115 : decode cX6_join 115 = .ok (.aload_n 0, 1) := by decide +kernel
theorem dX6_join_116 : decode cX6_join 116 = .ok (.getfield 29, 3) := by decide +kernel
theorem dX6_join_119 : decode cX6_join 119 = .ok (.if_icmp .ge 19, 3) := by decide +kernel
theorem dX6_join_122 : decode cX6_join 122 = .ok (.aload_n 0, 1) := by decide +kernel
theorem dX6_join_123 : decode cX6_join 123 = .ok (.iload 4, 2) := by decide +kernel
theorem dX6_join_125 : decode cX6_join 125 = .ok (.iload 4, 2) := by decide +kernel
theorem dX6_join_127 : decode cX6_join 127 = .ok (.iconst 1, 1) := by decide +kernel
theorem dX6_join_128 : decode cX6_join 128 = .ok (.iadd, 1) := by decide +kernel
theorem dX6_join_129 : decode cX6_join 129 = .ok (.invokevirtual 111, 3) := by decide +kernel
theorem dX6_join_132 : decode cX6_join 132 = .ok (.iinc 4 1, 3) := by decide +kernel
theorem dX6_join_135 : decode cX6_join 135 = .ok (.goto (-22), 3) := by decide +kernel
theorem dX6_join_138 : decode cX6_join 138 = .ok (.aload_n 0, 1) := by decide +kernel
theorem dX6_join_139 : decode cX6_join 139 = .ok (.dup, 1) := by decide +kernel
theorem dX6_join_140 : decode cX6_join 140 = .ok (.getfield 29, 3) := by decide +kernel
theorem dX6_join_143 : decode cX6_join 143 = .ok (.iconst 1, 1) := by decide +kernel
theorem dX6_join_144 : decode cX6_join 144 = .ok (.isub, 1) := by decide +kernel
theorem dX6_join_145 : decode cX6_join 145 = .ok (.putfield 29, 3) := by decide +kernel
theorem dX6_join_148 : decode cX6_join 148 = .ok (.aload_n 0, 1) := by decide +kernel
theorem dX6_join_149 : decode cX6_join 149 = .ok (.getfield 29, 3) := by decide +kernel
theorem dX6_join_152 : decode cX6_join 152 = .ok (.ireturn, 1) := by decide +kernel
theorem dX6_begins_0 : decode cX6_begins 0 = .ok (.aload_n 0, 1) := by decide +kernel
theorem dX6_begins_1 : decode cX6_begins 1 = .ok (.getfield 39, 3) := by decide +kernel
theorem dX6_begins_4 : decode cX6_begins 4 = .ok (.iload_n 1, 1) := by decide +kernel
theorem dX6_begins_5 : decode cX6_begins 5 = .ok (.iload_n 2, 1) := by decide +kernel
theorem dX6_begins_6 : decode cX6_begins 6 = .ok (.iastore, 1) := by decide +kernel
theorem dX6_begins_7 : decode cX6_begins 7 = .ok (.aload_n 0, 1) := by decide +kernel
theorem dX6_begins_8 : decode cX6_begins 8 = .ok (.getfield 42, 3) := by decide +kernel
theorem dX6_begins_11 : decode cX6_begins 11 = .ok (.iload_n 1, 1) := by decide +kernel
theorem dX6_begins_12 : decode cX6_begins 12 = .ok (.aload_n 0, 1) := by decide +kernel
theorem dX6_begins_13 : decode cX6_begins 13 = .ok (.getfield 33, 3) := by decide +kernel
theorem dX6_begins_16 : decode cX6_begins 16 = .ok (.iload_n 1, 1) := by decide +kernel
theorem dX6_begins_17 : decode cX6_begins 17 = .ok (.iaload, 1) := by decide +kernel
theorem dX6_begins_18 : decode cX6_begins 18 = .ok (.iastore, 1) := by decide +kernel
theorem dX6_begins_19 : decode cX6_begins 19 = .ok (.aload_n 0, 1) := by decide +kernel
theorem dX6_begins_20 : decode cX6_begins 20 = .ok (.getfield 45, 3) := by decide +kernel
theorem dX6_begins_23 : decode cX6_begins 23 = .ok (.iload_n 1, 1) := by decide +kernel
theorem dX6_begins_24 : decode cX6_begins 24 = .ok (.iconst 0, 1) := by decide +kernel
theorem dX6_begins_25 : decode cX6_begins 25 = .ok (.iastore, 1) := by decide +kernel
theorem dX6_begins_26 : decode cX6_begins 26 = .ok (.return_, 1) := by decide +kernel
theorem dX6_move_0 : decode cX6_move 0 = .ok (.aload_n 0, 1) := by decide +kernel
theorem dX6_move_1 : decode cX6_move 1 = .ok (.iload_n 1, 1) := by decide +kernel
theorem dX6_move_2 : decode cX6_move 2 = .ok (.invokevirtual 115, 3) := by decide +kernel
theorem dX6_move_5 : decode cX6_move 5 = .ok (.ifCond .eq 15, 3) := by decide +kernel
theorem dX6_move_8 : decode cX6_move 8 = .ok (.aload_n 0, 1) := by decide +kernel
theorem dX6_move_9 : decode cX6_move 9 = .ok (.iload_n 2, 1) := by decide +kernel
theorem dX6_move_10 : decode cX6_move 10 = .ok (.invokevirtual 79, 3) := by decide +kernel
theorem dX6_move_13 : decode cX6_move 13 = .ok (.ifCond .eq 7, 3) := by decide +kernel
theorem dX6_move_16 : decode cX6_move 16 = .ok (.iconst 1, 1) := by decide +kernel
theorem dX6_move_17 : decode cX6_move 17 = .ok (.goto 4, 3) := by decide +kernel
theorem dX6_move_20 : decode cX6_move 20 = .ok (.iconst 0, 1) := by decide +kernel
theorem dX6_move_21 : decode cX6_move 21 = .ok (.istore_n 3, 1) := by decide +kernel
theorem dX6_move_22 : decode cX6_move 22 = .ok (.aload_n 0, 1) := by decide +kernel
theorem dX6_move_23 : decode cX6_move 23 = .ok (.iload_n 3, 1) := by decide +kernel
theorem dX6_move_24 : decode cX6_move 24 = .ok (.ifCond .ne 7, 3) := by decide +kernel
theorem dX6_move_27 : decode cX6_move 27 = .ok (.iconst 1, 1) := by decide +kernel
theorem dX6_move_28 : decode cX6_move 28 = .ok (.goto 51, 3) := by decide +kernel
theorem dX6_move_31 : decode cX6_move 31 = .ok (.aload_n 0, 1) := by decide +kernel
theorem dX6_move_32 : decode cX6_move 32 = .ok (.getfield 36, 3) := by decide +kernel
theorem dX6_move_35 : decode cX6_move 35 = .ok (.iload_n 1, 1) := by decide +kernel
theorem dX6_move_36 : decode cX6_move 36 = .ok (.iaload, 1) := by decide +kernel
theorem dX6_move_37 : decode cX6_move 37 = .ok (.iload_n 2, 1) := by decide +kernel
theorem dX6_move_38 : decode cX6_move 38 = .ok (.if_icmp .eq 36, 3) := by decide +kernel
theorem dX6_move_41 : decode cX6_move 41 = .ok (.aload_n 0, 1) := by decide +kernel
theorem dX6_move_42 : decode cX6_move 42 = .ok (.getfield 39, 3) := by decide +kernel
theorem dX6_move_45 : decode cX6_move 45 = .ok (.iload_n 1, 1) := by decide +kernel
theorem dX6_move_46 : decode cX6_move 46 = .ok (.iaload, 1) := by decide +kernel
theorem dX6_move_47 : decode cX6_move 47 = .ok (.iconst (-1), 1) := by decide +kernel
theorem dX6_move_48 : decode cX6_move 48 = .ok (.if_icmp .ne 26, 3) := by decide +kernel
theorem dX6_move_51 : decode cX6_move 51 = .ok (.aload_n 0, 1) := by decide +kernel
theorem dX6_move_52 : decode cX6_move 52 = .ok (.getfield 13, 3) := by decide +kernel
theorem dX6_move_55 : decode cX6_move 55 = .ok (.iload_n 2, 1) := by decide +kernel
theorem dX6_move_56 : decode cX6_move 56 = .ok (.baload, 1) := by decide +kernel
theorem dX6_move_57 : decode cX6_move 57 = .ok (.ifCond .ne 17, 3) := by decide +kernel
theorem dX6_move_60 : decode cX6_move 60 = .ok (.aload_n 0, 1) := by decide +kernel
theorem dX6_move_61 : decode cX6_move 61 = .ok (.getfield 13, 3) := by decide +kernel
theorem dX6_move_64 : decode cX6_move 64 = .ok (.aload_n 0, 1) := by decide +kernel
theorem dX6_move_65 : decode cX6_move 65 = .ok (.getfield 36, 3) := by decide +kernel
theorem dX6_move_68 : decode cX6_move 68 = .ok (.iload_n 1, 1) := by decide +kernel
theorem dX6_move_69 : decode cX6_move 69 = .ok (.iaload, 1) := by decide +kernel
theorem dX6_move_70 : decode cX6_move 70 = .ok (.baload, 1) := by decide +kernel
theorem dX6_move_71 : decode cX6_move 71 = .ok (.ifCond .eq 7, 3) := by decide +kernel
theorem dX6_move_74 : decode cX6_move 74 = .ok (.iconst 2, 1) := by decide +kernel
theorem dX6_move_75 : decode cX6_move 75 = .ok (.goto 4, 3) := by decide +kernel
theorem dX6_move_78 : decode cX6_move 78 = .ok (.iconst 0, 1) := by decide +kernel
theorem dX6_move_79 : decode cX6_move 79 = .ok (.invokevirtual 75, 3) := by decide +kernel
theorem dX6_move_82 : decode cX6_move 82 = .ok (.ifCond .eq 5, 3) := by decide +kernel
theorem dX6_move_85 : decode cX6_move 85 = .ok (.iconst 0, 1) := by decide +kernel
theorem dX6_move_86 : decode cX6_move 86 = .ok (.ireturn, 1) := by decide +kernel
theorem dX6_move_87 : decode cX6_move 87 = .ok (.aload_n 0, 1) := by decide +kernel
theorem dX6_move_88 : decode cX6_move 88 = .ok (.iload_n 1, 1) := by decide +kernel
theorem dX6_move_89 : decode cX6_move 89 = .ok (.iload_n 2, 1) := by decide +kernel
theorem dX6_move_90 : decode cX6_move 90 = .ok (.invokevirtual 118, 3) := by decide +kernel
theorem dX6_move_93 : decode cX6_move 93 = .ok (.aload_n 0, 1) := by decide +kernel
theorem dX6_move_94 : decode cX6_move 94 = .ok (.iload_n 1, 1) := by decide +kernel
theorem dX6_move_95 : decode cX6_move 95 = .ok (.invokevirtual 65, 3) := by decide +kernel
theorem dX6_move_98 : decode cX6_move 98 = .ok (.ireturn, 1) := by decide +kernel
theorem dX6_callOff_0 : decode cX6_callOff 0 = .ok (.aload_n 0, 1) := by decide +kernel
theorem dX6_callOff_1 : decode cX6_callOff 1 = .ok (.iload_n 1, 1) := by decide +kernel
theorem dX6_callOff_2 : decode cX6_callOff 2 = .ok (.invokevirtual 115, 3) := by decide +kernel
theorem dX6_callOff_5 : decode cX6_callOff 5 = .ok (.istore_n 2, 1) := by decide +kernel
theorem dX6_callOff_6 : decode cX6_callOff 6 = .ok (.aload_n 0, 1) := by decide +kernel
theorem dX6_callOff_7 : decode cX6_callOff 7 = .ok (.iload_n 2, 1) := by decide +kernel
theorem dX6_callOff_8 : decode cX6_callOff 8 = .ok (.ifCond .ne 7, 3) := by decide +kernel
theorem dX6_callOff_11 : decode cX6_callOff 11 = .ok (.iconst 1, 1) := by decide +kernel
theorem dX6_callOff_12 : decode cX6_callOff 12 = .ok (.goto 18, 3) := by decide +kernel
theorem dX6_callOff_15 : decode cX6_callOff 15 = .ok (.aload_n 0, 1) := by decide +kernel
theorem dX6_callOff_16 : decode cX6_callOff 16 = .ok (.getfield 39, 3) := by decide +kernel
theorem dX6_callOff_19 : decode cX6_callOff 19 = .ok (.iload_n 1, 1) := by decide +kernel
theorem dX6_callOff_20 : decode cX6_callOff 20 = .ok (.iaload, 1) := by decide +kernel
theorem dX6_callOff_21 : decode cX6_callOff 21 = .ok (.iconst (-1), 1) := by decide +kernel
theorem dX6_callOff_22 : decode cX6_callOff 22 = .ok (.if_icmp .ne 7, 3) := by decide +kernel
theorem dX6_callOff_25 : decode cX6_callOff 25 = .ok (.iconst 2, 1) := by decide +kernel
theorem dX6_callOff_26 : decode cX6_callOff 26 = .ok (.goto 4, 3) := by decide +kernel
theorem dX6_callOff_29 : decode cX6_callOff 29 = .ok (.iconst 0, 1) := by decide +kernel
theorem dX6_callOff_30 : decode cX6_callOff 30 = .ok (.invokevirtual 75, 3) := by decide +kernel
theorem dX6_callOff_33 : decode cX6_callOff 33 = .ok (.ifCond .eq 5, 3) := by decide +kernel
theorem dX6_callOff_36 : decode cX6_callOff 36 = .ok (.iconst 0, 1) := by decide +kernel
theorem dX6_callOff_37 : decode cX6_callOff 37 = .ok (.ireturn, 1) := by decide +kernel
theorem dX6_callOff_38 : decode cX6_callOff 38 = .ok (.aload_n 0, 1) := by decide +kernel
theorem dX6_callOff_39 : decode cX6_callOff 39 = .ok (.iload_n 1, 1) := by decide +kernel
theorem dX6_callOff_40 : decode cX6_callOff 40 = .ok (.invokevirtual 69, 3) := by decide +kernel
theorem dX6_callOff_43 : decode cX6_callOff 43 = .ok (.istore_n 3, 1) := by decide +kernel
theorem dX6_callOff_44 : decode cX6_callOff 44 = .ok (.aload_n 0, 1) := by decide +kernel
theorem dX6_callOff_45 : decode cX6_callOff 45 = .ok (.iload_n 1, 1) := by decide +kernel
theorem dX6_callOff_46 : decode cX6_callOff 46 = .ok (.invokevirtual 82, 3) := by decide +kernel
theorem dX6_callOff_49 : decode cX6_callOff 49 = .ok (.iload_n 3, 1) := by decide +kernel
theorem dX6_callOff_50 : decode cX6_callOff 50 = .ok (.ireturn, 1) := by decide +kernel
theorem dX6_copies_0 : decode cX6_copies 0 = .ok (.aload_n 0, 1) := by decide +kernel
theorem dX6_copies_1 : decode cX6_copies 1 = .ok (.getfield 45, 3) := by decide +kernel
theorem dX6_copies_4 : decode cX6_copies 4 = .ok (.iload_n 1, 1) := by decide +kernel
theorem dX6_copies_5 : decode cX6_copies 5 = .ok (.dup2, 1) := by decide +kernel
theorem dX6_copies_6 : decode cX6_copies 6 = .ok (.iaload, 1) := by decide +kernel
theorem dX6_copies_7 : decode cX6_copies 7 = .ok (.bipush 50, 2) := by decide +kernel
theorem dX6_copies_9 : decode cX6_copies 9 = .ok (.iadd, 1) := by decide +kernel
theorem dX6_copies_10 : decode cX6_copies 10 = .ok (.iastore, 1) := by decide +kernel
theorem dX6_copies_11 : decode cX6_copies 11 = .ok (.aload_n 0, 1) := by decide +kernel
theorem dX6_copies_12 : decode cX6_copies 12 = .ok (.getfield 7, 3) := by decide +kernel
theorem dX6_copies_15 : decode cX6_copies 15 = .ok (.aload_n 0, 1) := by decide +kernel
theorem dX6_copies_16 : decode cX6_copies 16 = .ok (.getfield 39, 3) := by decide +kernel
theorem dX6_copies_19 : decode cX6_copies 19 = .ok (.iload_n 1, 1) := by decide +kernel
theorem dX6_copies_20 : decode cX6_copies 20 = .ok (.iaload, 1) := by decide +kernel
theorem dX6_copies_21 : decode cX6_copies 21 = .ok (.iaload, 1) := by decide +kernel
theorem dX6_copies_22 : decode cX6_copies 22 = .ok (.aload_n 0, 1) := by decide +kernel
theorem dX6_copies_23 : decode cX6_copies 23 = .ok (.aload_n 0, 1) := by decide +kernel
theorem dX6_copies_24 : decode cX6_copies 24 = .ok (.getfield 39, 3) := by decide +kernel
theorem dX6_copies_27 : decode cX6_copies 27 = .ok (.iload_n 1, 1) := by decide +kernel
theorem dX6_copies_28 : decode cX6_copies 28 = .ok (.iaload, 1) := by decide +kernel
theorem dX6_copies_29 : decode cX6_copies 29 = .ok (.invokevirtual 98, 3) := by decide +kernel
theorem dX6_copies_32 : decode cX6_copies 32 = .ok (.isub, 1) := by decide +kernel
theorem dX6_copies_33 : decode cX6_copies 33 = .ok (.istore_n 2, 1) := by decide +kernel
theorem dX6_copies_34 : decode cX6_copies 34 = .ok (.aload_n 0, 1) := by decide +kernel
theorem dX6_copies_35 : decode cX6_copies 35 = .ok (.getfield 39, 3) := by decide +kernel
theorem dX6_copies_38 : decode cX6_copies 38 = .ok (.iload_n 1, 1) := by decide +kernel
theorem dX6_copies_39 : decode cX6_copies 39 = .ok (.iaload, 1) := by decide +kernel
theorem dX6_copies_40 : decode cX6_copies 40 = .ok (.iconst (-1), 1) := by decide +kernel
theorem dX6_copies_41 : decode cX6_copies 41 = .ok (.if_icmp .eq 92, 3) := by decide +kernel
theorem dX6_copies_44 : decode cX6_copies 44 = .ok (.aload_n 0, 1) := by decide +kernel
theorem dX6_copies_45 : decode cX6_copies 45 = .ok (.getfield 42, 3) := by decide +kernel
theorem dX6_copies_48 : decode cX6_copies 48 = .ok (.iload_n 1, 1) := by decide +kernel
theorem dX6_copies_49 : decode cX6_copies 49 = .ok (.iaload, 1) := by decide +kernel
theorem dX6_copies_50 : decode cX6_copies 50 = .ok (.aload_n 0, 1) := by decide +kernel
theorem dX6_copies_51 : decode cX6_copies 51 = .ok (.getfield 33, 3) := by decide +kernel
theorem dX6_copies_54 : decode cX6_copies 54 = .ok (.iload_n 1, 1) := by decide +kernel
theorem dX6_copies_55 : decode cX6_copies 55 = .ok (.iconst 1, 1) := by decide +kernel
theorem dX6_copies_56 : decode cX6_copies 56 = .ok (.iadd, 1) := by decide +kernel
theorem dX6_copies_57 : decode cX6_copies 57 = .ok (.iaload, 1) := by decide +kernel
theorem dX6_copies_58 : decode cX6_copies 58 = .ok (.if_icmp .ge 75, 3) := by decide +kernel
theorem dX6_copies_61 : decode cX6_copies 61 = .ok (.aload_n 0, 1) := by decide +kernel
theorem dX6_copies_62 : decode cX6_copies 62 = .ok (.getfield 26, 3) := by decide +kernel
theorem dX6_copies_65 : decode cX6_copies 65 = .ok (.aload_n 0, 1) := by decide +kernel
theorem dX6_copies_66 : decode cX6_copies 66 = .ok (.getfield 42, 3) := by decide +kernel
theorem dX6_copies_69 : decode cX6_copies 69 = .ok (.iload_n 1, 1) := by decide +kernel
theorem dX6_copies_70 : decode cX6_copies 70 = .ok (.iaload, 1) := by decide +kernel
theorem dX6_copies_71 : decode cX6_copies 71 = .ok (.iaload, 1) := by decide +kernel
theorem dX6_copies_72 : decode cX6_copies 72 = .ok (.aload_n 0, 1) := by decide +kernel
theorem dX6_copies_73 : decode cX6_copies 73 = .ok (.getfield 45, 3) := by decide +kernel
theorem dX6_copies_76 : decode cX6_copies 76 = .ok (.iload_n 1, 1) := by decide +kernel
theorem dX6_copies_77 : decode cX6_copies 77 = .ok (.iaload, 1) := by decide +kernel
theorem dX6_copies_78 : decode cX6_copies 78 = .ok (.if_icmp .gt 55, 3) := by decide +kernel
theorem dX6_copies_81 : decode cX6_copies 81 = .ok (.aload_n 0, 1) := by decide +kernel
theorem dX6_copies_82 : decode cX6_copies 82 = .ok (.getfield 26, 3) := by decide +kernel
theorem dX6_copies_85 : decode cX6_copies 85 = .ok (.aload_n 0, 1) := by decide +kernel
theorem dX6_copies_86 : decode cX6_copies 86 = .ok (.getfield 42, 3) := by decide +kernel
theorem dX6_copies_89 : decode cX6_copies 89 = .ok (.iload_n 1, 1) := by decide +kernel
theorem dX6_copies_90 : decode cX6_copies 90 = .ok (.iaload, 1) := by decide +kernel
theorem dX6_copies_91 : decode cX6_copies 91 = .ok (.iaload, 1) := by decide +kernel
theorem dX6_copies_92 : decode cX6_copies 92 = .ok (.istore_n 3, 1) := by decide +kernel
theorem dX6_copies_93 : decode cX6_copies 93 = .ok (.iload_n 3, 1) := by decide +kernel
theorem dX6_copies_94 : decode cX6_copies 94 = .ok (.iload_n 2, 1) := by decide +kernel
theorem dX6_copies_95 : decode cX6_copies 95 = .ok (.if_icmp .le 11, 3) := by decide +kernel
theorem dX6_copies_98 : decode cX6_copies 98 = .ok (.aload_n 0, 1) := by decide +kernel
theorem dX6_copies_99 : decode cX6_copies 99 = .ok (.iload_n 1, 1) := by decide +kernel
theorem dX6_copies_100 : decode cX6_copies 100 = .ok (.invokevirtual 82, 3) := by decide +kernel
theorem dX6_copies_103 : decode cX6_copies 103 = .ok (.goto 27, 3) := by decide +kernel
theorem dX6_copies_106 : decode cX6_copies 106 = .ok (.iload_n 2, 1) := by decide +kernel
theorem dX6_copies_107 : decode cX6_copies 107 = .ok (.iload_n 3, 1) := by decide +kernel
theorem dX6_copies_108 : decode cX6_copies 108 = .ok (.isub, 1) := by decide +kernel
theorem dX6_copies_109 : decode cX6_copies 109 = .ok (.istore_n 2, 1) := by decide +kernel
theorem dX6_copies_110 : decode cX6_copies 110 = .ok (.aload_n 0, 1) := by decide +kernel
theorem dX6_copies_111 : decode cX6_copies 111 = .ok (.getfield 45, 3) := by decide +kernel
theorem dX6_copies_114 : decode cX6_copies 114 = .ok (.iload_n 1, 1) := by decide +kernel
theorem dX6_copies_115 : decode cX6_copies 115 = .ok (.dup2, 1) := by decide +kernel
theorem dX6_copies_116 : decode cX6_copies 116 = .ok (.iaload, 1) := by decide +kernel
theorem dX6_copies_117 : decode cX6_copies 117 = .ok (.iload_n 3, 1) := by decide +kernel
theorem dX6_copies_118 : decode cX6_copies 118 = .ok (.isub, 1) := by decide +kernel
theorem dX6_copies_119 : decode cX6_copies 119 = .ok (.iastore, 1) := by decide +kernel
theorem dX6_copies_120 : decode cX6_copies 120 = .ok (.aload_n 0, 1) := by decide +kernel
theorem dX6_copies_121 : decode cX6_copies 121 = .ok (.getfield 42, 3) := by decide +kernel
theorem dX6_copies_124 : decode cX6_copies 124 = .ok (.iload_n 1, 1) := by decide +kernel
theorem dX6_copies_125 : decode cX6_copies 125 = .ok (.dup2, 1) := by decide +kernel
theorem dX6_copies_126 : decode cX6_copies 126 = .ok (.iaload, 1) := by decide +kernel
theorem dX6_copies_127 : decode cX6_copies 127 = .ok (.iconst 1, 1) := by decide +kernel
theorem dX6_copies_128 : decode cX6_copies 128 = .ok (.iadd, 1) := by decide +kernel
theorem dX6_copies_129 : decode cX6_copies 129 = .ok (.iastore, 1) := by decide +kernel
theorem dX6_copies_130 : decode cX6_copies 130 = .ok (.goto (-96), 3) := by decide +kernel
theorem dX6_copies_133 : decode cX6_copies 133 = .ok (.aload_n 0, 1) := by decide +kernel
theorem dX6_copies_134 : decode cX6_copies 134 = .ok (.getfield 39, 3) := by decide +kernel
theorem dX6_copies_137 : decode cX6_copies 137 = .ok (.iload_n 1, 1) := by decide +kernel
theorem dX6_copies_138 : decode cX6_copies 138 = .ok (.iaload, 1) := by decide +kernel
theorem dX6_copies_139 : decode cX6_copies 139 = .ok (.iconst (-1), 1) := by decide +kernel
theorem dX6_copies_140 : decode cX6_copies 140 = .ok (.if_icmp .eq 49, 3) := by decide +kernel
theorem dX6_copies_143 : decode cX6_copies 143 = .ok (.aload_n 0, 1) := by decide +kernel
theorem dX6_copies_144 : decode cX6_copies 144 = .ok (.getfield 42, 3) := by decide +kernel
theorem dX6_copies_147 : decode cX6_copies 147 = .ok (.iload_n 1, 1) := by decide +kernel
theorem dX6_copies_148 : decode cX6_copies 148 = .ok (.iaload, 1) := by decide +kernel
theorem dX6_copies_149 : decode cX6_copies 149 = .ok (.aload_n 0, 1) := by decide +kernel
theorem dX6_copies_150 : decode cX6_copies 150 = .ok (.getfield 33, 3) := by decide +kernel
theorem dX6_copies_153 : decode cX6_copies 153 = .ok (.iload_n 1, 1) := by decide +kernel
theorem dX6_copies_154 : decode cX6_copies 154 = .ok (.iconst 1, 1) := by decide +kernel
theorem dX6_copies_155 : decode cX6_copies 155 = .ok (.iadd, 1) := by decide +kernel
theorem dX6_copies_156 : decode cX6_copies 156 = .ok (.iaload, 1) := by decide +kernel
theorem dX6_copies_157 : decode cX6_copies 157 = .ok (.if_icmp .ne 32, 3) := by decide +kernel
theorem dX6_copies_160 : decode cX6_copies 160 = .ok (.aload_n 0, 1) := by decide +kernel
theorem dX6_copies_161 : decode cX6_copies 161 = .ok (.getfield 36, 3) := by decide +kernel
theorem dX6_copies_164 : decode cX6_copies 164 = .ok (.iload_n 1, 1) := by decide +kernel
theorem dX6_copies_165 : decode cX6_copies 165 = .ok (.aload_n 0, 1) := by decide +kernel
theorem dX6_copies_166 : decode cX6_copies 166 = .ok (.getfield 39, 3) := by decide +kernel
theorem dX6_copies_169 : decode cX6_copies 169 = .ok (.iload_n 1, 1) := by decide +kernel
theorem dX6_copies_170 : decode cX6_copies 170 = .ok (.iaload, 1) := by decide +kernel
theorem dX6_copies_171 : decode cX6_copies 171 = .ok (.iastore, 1) := by decide +kernel
theorem dX6_copies_172 : decode cX6_copies 172 = .ok (.aload_n 0, 1) := by decide +kernel
theorem dX6_copies_173 : decode cX6_copies 173 = .ok (.getfield 39, 3) := by decide +kernel
theorem dX6_copies_176 : decode cX6_copies 176 = .ok (.iload_n 1, 1) := by decide +kernel
theorem dX6_copies_177 : decode cX6_copies 177 = .ok (.iconst (-1), 1) := by decide +kernel
theorem dX6_copies_178 : decode cX6_copies 178 = .ok (.iastore, 1) := by decide +kernel
theorem dX6_copies_179 : decode cX6_copies 179 = .ok (.aload_n 0, 1) := by decide +kernel
theorem dX6_copies_180 : decode cX6_copies 180 = .ok (.dup, 1) := by decide +kernel
theorem dX6_copies_181 : decode cX6_copies 181 = .ok (.getfield 121, 3) := by decide +kernel
theorem dX6_copies_184 : decode cX6_copies 184 = .ok (.iconst 1, 1) := by decide +kernel
theorem dX6_copies_185 : decode cX6_copies 185 = .ok (.iadd, 1) := by decide +kernel
theorem dX6_copies_186 : decode cX6_copies 186 = .ok (.putfield 121, 3) := by decide +kernel
theorem dX6_copies_189 : decode cX6_copies 189 = .ok (.return_, 1) := by decide +kernel
theorem dX6_heatOf_0 : decode cX6_heatOf 0 = .ok (.iconst 0, 1) := by decide +kernel
theorem dX6_heatOf_1 : decode cX6_heatOf 1 = .ok (.istore_n 2, 1) := by decide +kernel
theorem dX6_heatOf_2 : decode cX6_heatOf 2 = .ok (.iconst 0, 1) := by decide +kernel
theorem dX6_heatOf_3 : decode cX6_heatOf 3 = .ok (.istore_n 3, 1) := by decide +kernel
theorem dX6_heatOf_4 : decode cX6_heatOf 4 = .ok (.iload_n 3, 1) := by decide +kernel
theorem dX6_heatOf_5 : decode cX6_heatOf 5 = .ok (.aload_n 0, 1) := by decide +kernel
theorem dX6_heatOf_6 : decode cX6_heatOf 6 = .ok (.getfield 29, 3) := by decide +kernel
theorem dX6_heatOf_9 : decode cX6_heatOf 9 = .ok (.if_icmp .ge 32, 3) := by decide +kernel
theorem dX6_heatOf_12 : decode cX6_heatOf 12 = .ok (.iload_n 2, 1) := by decide +kernel
theorem dX6_heatOf_13 : decode cX6_heatOf 13 = .ok (.aload_n 0, 1) := by decide +kernel
theorem dX6_heatOf_14 : decode cX6_heatOf 14 = .ok (.getfield 36, 3) := by decide +kernel
theorem dX6_heatOf_17 : decode cX6_heatOf 17 = .ok (.iload_n 3, 1) := by decide +kernel
theorem dX6_heatOf_18 : decode cX6_heatOf 18 = .ok (.iaload, 1) := by decide +kernel
theorem dX6_heatOf_19 : decode cX6_heatOf 19 = .ok (.iload_n 1, 1) := by decide +kernel
theorem dX6_heatOf_20 : decode cX6_heatOf 20 = .ok (.if_icmp .ne 12, 3) := by decide +kernel
theorem dX6_heatOf_23 : decode cX6_heatOf 23 = .ok (.aload_n 0, 1) := by decide +kernel
theorem dX6_heatOf_24 : decode cX6_heatOf 24 = .ok (.getfield 48, 3) := by decide +kernel
theorem dX6_heatOf_27 : decode cX6_heatOf 27 = .ok (.iload_n 3, 1) := by decide +kernel
theorem dX6_heatOf_28 : decode cX6_heatOf 28 = .ok (.iaload, 1) := by decide +kernel
theorem dX6_heatOf_29 : decode cX6_heatOf 29 = .ok (.goto 4, 3) := by decide +kernel
theorem dX6_heatOf_32 : decode cX6_heatOf 32 = .ok (.iconst 0, 1) := by decide +kernel
theorem dX6_heatOf_33 : decode cX6_heatOf 33 = .ok (.iadd, 1) := by decide +kernel
theorem dX6_heatOf_34 : decode cX6_heatOf 34 = .ok (.istore_n 2, 1) := by decide +kernel
theorem dX6_heatOf_35 : decode cX6_heatOf 35 = .ok (.iinc 3 1, 3) := by decide +kernel
theorem dX6_heatOf_38 : decode cX6_heatOf 38 = .ok (.goto (-34), 3) := by decide +kernel
theorem dX6_heatOf_41 : decode cX6_heatOf 41 = .ok (.iload_n 2, 1) := by decide +kernel
theorem dX6_heatOf_42 : decode cX6_heatOf 42 = .ok (.ireturn, 1) := by decide +kernel
theorem dX6_draw_0 : decode cX6_draw 0 = .ok (.iconst (-1), 1) := by decide +kernel
theorem dX6_draw_1 : decode cX6_draw 1 = .ok (.istore_n 1, 1) := by decide +kernel
theorem dX6_draw_2 : decode cX6_draw 2 = .ok (.iconst (-1), 1) := by decide +kernel
theorem dX6_draw_3 : decode cX6_draw 3 = .ok (.istore_n 2, 1) := by decide +kernel
theorem dX6_draw_4 : decode cX6_draw 4 = .ok (.iconst 0, 1) := by decide +kernel
theorem dX6_draw_5 : decode cX6_draw 5 = .ok (.istore_n 3, 1) := by decide +kernel
theorem dX6_draw_6 : decode cX6_draw 6 = .ok (.iload_n 3, 1) := by decide +kernel
theorem dX6_draw_7 : decode cX6_draw 7 = .ok (.aload_n 0, 1) := by decide +kernel
theorem dX6_draw_8 : decode cX6_draw 8 = .ok (.getfield 58, 3) := by decide +kernel
theorem dX6_draw_11 : decode cX6_draw 11 = .ok (.if_icmp .ge 66, 3) := by decide +kernel
theorem dX6_draw_14 : decode cX6_draw 14 = .ok (.aload_n 0, 1) := by decide +kernel
theorem dX6_draw_15 : decode cX6_draw 15 = .ok (.getfield 13, 3) := by decide +kernel
theorem dX6_draw_18 : decode cX6_draw 18 = .ok (.iload_n 3, 1) := by decide +kernel
theorem dX6_draw_19 : decode cX6_draw 19 = .ok (.baload, 1) := by decide +kernel
theorem dX6_draw_20 : decode cX6_draw 20 = .ok (.ifCond .ne 51, 3) := by decide +kernel
theorem dX6_draw_23 : decode cX6_draw 23 = .ok (.iload_n 1, 1) := by decide +kernel
theorem dX6_draw_24 : decode cX6_draw 24 = .ok (.iconst (-1), 1) := by decide +kernel
theorem dX6_draw_25 : decode cX6_draw 25 = .ok (.if_icmp .eq 16, 3) := by decide +kernel
theorem dX6_draw_28 : decode cX6_draw 28 = .ok (.aload_n 0, 1) := by decide +kernel
theorem dX6_draw_29 : decode cX6_draw 29 = .ok (.iload_n 3, 1) := by decide +kernel
theorem dX6_draw_30 : decode cX6_draw 30 = .ok (.invokevirtual 124, 3) := by decide +kernel
theorem dX6_draw_33 : decode cX6_draw 33 = .ok (.aload_n 0, 1) := by decide +kernel
theorem dX6_draw_34 : decode cX6_draw 34 = .ok (.iload_n 1, 1) := by decide +kernel
theorem dX6_draw_35 : decode cX6_draw 35 = .ok (.invokevirtual 124, 3) := by decide +kernel
theorem dX6_draw_38 : decode cX6_draw 38 = .ok (.if_icmp .le 7, 3) := by decide +kernel
theorem dX6_draw_41 : decode cX6_draw 41 = .ok (.iload_n 3, 1) := by decide +kernel
theorem dX6_draw_42 : decode cX6_draw 42 = .ok (.goto 4, 3) := by decide +kernel
theorem dX6_draw_45 : decode cX6_draw 45 = .ok (.iload_n 1, 1) := by decide +kernel
theorem dX6_draw_46 : decode cX6_draw 46 = .ok (.istore_n 1, 1) := by decide +kernel
theorem dX6_draw_47 : decode cX6_draw 47 = .ok (.iload_n 2, 1) := by decide +kernel
theorem dX6_draw_48 : decode cX6_draw 48 = .ok (.iconst (-1), 1) := by decide +kernel
theorem dX6_draw_49 : decode cX6_draw 49 = .ok (.if_icmp .eq 16, 3) := by decide +kernel
theorem dX6_draw_52 : decode cX6_draw 52 = .ok (.aload_n 0, 1) := by decide +kernel
theorem dX6_draw_53 : decode cX6_draw 53 = .ok (.iload_n 3, 1) := by decide +kernel
theorem dX6_draw_54 : decode cX6_draw 54 = .ok (.invokevirtual 124, 3) := by decide +kernel
theorem dX6_draw_57 : decode cX6_draw 57 = .ok (.aload_n 0, 1) := by decide +kernel
theorem dX6_draw_58 : decode cX6_draw 58 = .ok (.iload_n 2, 1) := by decide +kernel
theorem dX6_draw_59 : decode cX6_draw 59 = .ok (.invokevirtual 124, 3) := by decide +kernel
theorem dX6_draw_62 : decode cX6_draw 62 = .ok (.if_icmp .ge 7, 3) := by decide +kernel
theorem dX6_draw_65 : decode cX6_draw 65 = .ok (.iload_n 3, 1) := by decide +kernel
theorem dX6_draw_66 : decode cX6_draw 66 = .ok (.goto 4, 3) := by decide +kernel
theorem dX6_draw_69 : decode cX6_draw 69 = .ok (.iload_n 2, 1) := by decide +kernel
theorem dX6_draw_70 : decode cX6_draw 70 = .ok (.istore_n 2, 1) := by decide +kernel
theorem dX6_draw_71 : decode cX6_draw 71 = .ok (.iinc 3 1, 3) := by decide +kernel
theorem dX6_draw_74 : decode cX6_draw 74 = .ok (.goto (-68), 3) := by decide +kernel
theorem dX6_draw_77 : decode cX6_draw 77 = .ok (.iload_n 1, 1) := by decide +kernel
theorem dX6_draw_78 : decode cX6_draw 78 = .ok (.iconst (-1), 1) := by decide +kernel
theorem dX6_draw_79 : decode cX6_draw 79 = .ok (.if_icmp .eq 21, 3) := by decide +kernel
theorem dX6_draw_82 : decode cX6_draw 82 = .ok (.aload_n 0, 1) := by decide +kernel
theorem dX6_draw_83 : decode cX6_draw 83 = .ok (.iload_n 1, 1) := by decide +kernel
theorem dX6_draw_84 : decode cX6_draw 84 = .ok (.invokevirtual 124, 3) := by decide +kernel
theorem dX6_draw_87 : decode cX6_draw 87 = .ok (.aload_n 0, 1) := by decide +kernel
theorem dX6_draw_88 : decode cX6_draw 88 = .ok (.iload_n 2, 1) := by decide +kernel
theorem dX6_draw_89 : decode cX6_draw 89 = .ok (.invokevirtual 124, 3) := by decide +kernel
theorem dX6_draw_92 : decode cX6_draw 92 = .ok (.isub, 1) := by decide +kernel
theorem dX6_draw_93 : decode cX6_draw 93 = .ok (.aload_n 0, 1) := by decide +kernel
theorem dX6_draw_94 : decode cX6_draw 94 = .ok (.getfield 89, 3) := by decide +kernel
theorem dX6_draw_97 : decode cX6_draw 97 = .ok (.if_icmp .ge 4, 3) := by decide +kernel
theorem dX6_draw_100 : decode cX6_draw 100 = .ok (.return_, 1) := by decide +kernel
theorem dX6_draw_101 : decode cX6_draw 101 = .ok (.iconst (-1), 1) := by decide +kernel
theorem dX6_draw_102 : decode cX6_draw 102 = .ok (.istore_n 3, 1) := by decide +kernel
theorem dX6_draw_103 : decode cX6_draw 103 = .ok (.iconst 0, 1) := by decide +kernel
theorem dX6_draw_104 : decode cX6_draw 104 = .ok (.istore 4, 2) := by decide +kernel
theorem dX6_draw_106 : decode cX6_draw 106 = .ok (.iconst 0, 1) := by decide +kernel
theorem dX6_draw_107 : decode cX6_draw 107 = .ok (.istore 5, 2) := by decide +kernel
theorem dX6_draw_109 : decode cX6_draw 109 = .ok (.iload 5, 2) := by decide +kernel
theorem dX6_draw_111 : decode cX6_draw 111 = .ok (.aload_n 0, 1) := by decide +kernel
theorem dX6_draw_112 : decode cX6_draw 112 = .ok (.getfield 29, 3) := by decide +kernel
theorem dX6_draw_115 : decode cX6_draw 115 = .ok (.if_icmp .ge 82, 3) := by decide +kernel
theorem dX6_draw_118 : decode cX6_draw 118 = .ok (.iload 4, 2) := by decide +kernel
theorem dX6_draw_120 : decode cX6_draw 120 = .ok (.ifCond .ne 25, 3) := by decide +kernel
theorem dX6_draw_123 : decode cX6_draw 123 = .ok (.aload_n 0, 1) := by decide +kernel
theorem dX6_draw_124 : decode cX6_draw 124 = .ok (.getfield 36, 3) := by decide +kernel
theorem dX6_draw_127 : decode cX6_draw 127 = .ok (.iload 5, 2) := by decide +kernel
theorem dX6_draw_129 : decode cX6_draw 129 = .ok (.iaload, 1) := by decide +kernel
theorem dX6_draw_130 : decode cX6_draw 130 = .ok (.iload_n 1, 1) := by decide +kernel
theorem dX6_draw_131 : decode cX6_draw 131 = .ok (.if_icmp .ne 18, 3) := by decide +kernel
theorem dX6_draw_134 : decode cX6_draw 134 = .ok (.aload_n 0, 1) := by decide +kernel
theorem dX6_draw_135 : decode cX6_draw 135 = .ok (.getfield 39, 3) := by decide +kernel
theorem dX6_draw_138 : decode cX6_draw 138 = .ok (.iload 5, 2) := by decide +kernel
theorem dX6_draw_140 : decode cX6_draw 140 = .ok (.iaload, 1) := by decide +kernel
theorem dX6_draw_141 : decode cX6_draw 141 = .ok (.iconst (-1), 1) := by decide +kernel
theorem dX6_draw_142 : decode cX6_draw 142 = .ok (.if_icmp .eq 7, 3) := by decide +kernel
theorem dX6_draw_145 : decode cX6_draw 145 = .ok (.iconst 1, 1) := by decide +kernel
theorem dX6_draw_146 : decode cX6_draw 146 = .ok (.goto 4, 3) := by decide +kernel
theorem dX6_draw_149 : decode cX6_draw 149 = .ok (.iconst 0, 1) := by decide +kernel
theorem dX6_draw_150 : decode cX6_draw 150 = .ok (.istore 4, 2) := by decide +kernel
theorem dX6_draw_152 : decode cX6_draw 152 = .ok (.aload_n 0, 1) := by decide +kernel
theorem dX6_draw_153 : decode cX6_draw 153 = .ok (.getfield 36, 3) := by decide +kernel
theorem dX6_draw_156 : decode cX6_draw 156 = .ok (.iload 5, 2) := by decide +kernel
theorem dX6_draw_158 : decode cX6_draw 158 = .ok (.iaload, 1) := by decide +kernel
theorem dX6_draw_159 : decode cX6_draw 159 = .ok (.iload_n 1, 1) := by decide +kernel
theorem dX6_draw_160 : decode cX6_draw 160 = .ok (.if_icmp .ne 29, 3) := by decide +kernel
theorem dX6_draw_163 : decode cX6_draw 163 = .ok (.iload_n 3, 1) := by decide +kernel
theorem dX6_draw_164 : decode cX6_draw 164 = .ok (.iconst (-1), 1) := by decide +kernel
theorem dX6_draw_165 : decode cX6_draw 165 = .ok (.if_icmp .eq 19, 3) := by decide +kernel
theorem dX6_draw_168 : decode cX6_draw 168 = .ok (.aload_n 0, 1) := by decide +kernel
theorem dX6_draw_169 : decode cX6_draw 169 = .ok (.getfield 48, 3) := by decide +kernel
theorem dX6_draw_172 : decode cX6_draw 172 = .ok (.iload 5, 2) := by decide +kernel
theorem dX6_draw_174 : decode cX6_draw 174 = .ok (.iaload, 1) := by decide +kernel
theorem dX6_draw_175 : decode cX6_draw 175 = .ok (.aload_n 0, 1) := by decide +kernel
theorem dX6_draw_176 : decode cX6_draw 176 = .ok (.getfield 48, 3) := by decide +kernel
theorem dX6_draw_179 : decode cX6_draw 179 = .ok (.iload_n 3, 1) := by decide +kernel
theorem dX6_draw_180 : decode cX6_draw 180 = .ok (.iaload, 1) := by decide +kernel
theorem dX6_draw_181 : decode cX6_draw 181 = .ok (.if_icmp .le 8, 3) := by decide +kernel
theorem dX6_draw_184 : decode cX6_draw 184 = .ok (.iload 5, 2) := by decide +kernel
theorem dX6_draw_186 : decode cX6_draw 186 = .ok (.goto 4, 3) := by decide +kernel
theorem dX6_draw_189 : decode cX6_draw 189 = .ok (.iload_n 3, 1) := by decide +kernel
theorem dX6_draw_190 : decode cX6_draw 190 = .ok (.istore_n 3, 1) := by decide +kernel
theorem dX6_draw_191 : decode cX6_draw 191 = .ok (.iinc 5 1, 3) := by decide +kernel
theorem dX6_draw_194 : decode cX6_draw 194 = .ok (.goto (-85), 3) := by decide +kernel
theorem dX6_draw_197 : decode cX6_draw 197 = .ok (.iload 4, 2) := by decide +kernel
theorem dX6_draw_199 : decode cX6_draw 199 = .ok (.ifCond .ne 23, 3) := by decide +kernel
theorem dX6_draw_202 : decode cX6_draw 202 = .ok (.iload_n 3, 1) := by decide +kernel
theorem dX6_draw_203 : decode cX6_draw 203 = .ok (.iconst (-1), 1) := by decide +kernel
theorem dX6_draw_204 : decode cX6_draw 204 = .ok (.if_icmp .eq 18, 3) := by decide +kernel
theorem dX6_draw_207 : decode cX6_draw 207 = .ok (.aload_n 0, 1) := by decide +kernel
theorem dX6_draw_208 : decode cX6_draw 208 = .ok (.getfield 48, 3) := by decide +kernel
theorem dX6_draw_211 : decode cX6_draw 211 = .ok (.iload_n 3, 1) := by decide +kernel
theorem dX6_draw_212 : decode cX6_draw 212 = .ok (.iaload, 1) := by decide +kernel
theorem dX6_draw_213 : decode cX6_draw 213 = .ok (.ifCond .le 9, 3) := by decide +kernel
theorem dX6_draw_216 : decode cX6_draw 216 = .ok (.aload_n 0, 1) := by decide +kernel
theorem dX6_draw_217 : decode cX6_draw 217 = .ok (.iload_n 3, 1) := by decide +kernel
theorem dX6_draw_218 : decode cX6_draw 218 = .ok (.iload_n 2, 1) := by decide +kernel
theorem dX6_draw_219 : decode cX6_draw 219 = .ok (.invokevirtual 118, 3) := by decide +kernel
theorem dX6_draw_222 : decode cX6_draw 222 = .ok (.return_, 1) := by decide +kernel
theorem dX6_pass_0 : decode cX6_pass 0 = .ok (.aload_n 0, 1) := by decide +kernel
theorem dX6_pass_1 : decode cX6_pass 1 = .ok (.iload_n 1, 1) := by decide +kernel
theorem dX6_pass_2 : decode cX6_pass 2 = .ok (.iconst 1, 1) := by decide +kernel
theorem dX6_pass_3 : decode cX6_pass 3 = .ok (.sipush 200, 3) := by decide +kernel
theorem dX6_pass_6 : decode cX6_pass 6 = .ok (.invokestatic 54, 3) := by decide +kernel
theorem dX6_pass_9 : decode cX6_pass 9 = .ok (.ifCond .ne 7, 3) := by decide +kernel
theorem dX6_pass_12 : decode cX6_pass 12 = .ok (.iconst 1, 1) := by decide +kernel
theorem dX6_pass_13 : decode cX6_pass 13 = .ok (.goto 20, 3) := by decide +kernel
theorem dX6_pass_16 : decode cX6_pass 16 = .ok (.aload_n 0, 1) := by decide +kernel
theorem dX6_pass_17 : decode cX6_pass 17 = .ok (.getfield 127, 3) := by decide +kernel
theorem dX6_pass_20 : decode cX6_pass 20 = .ok (.iload_n 1, 1) := by decide +kernel
theorem dX6_pass_21 : decode cX6_pass 21 = .ok (.iadd, 1) := by decide +kernel
theorem dX6_pass_22 : decode cX6_pass 22 = .ok (.sipush 2000, 3) := by decide +kernel
theorem dX6_pass_25 : decode cX6_pass 25 = .ok (.if_icmp .le 7, 3) := by decide +kernel
theorem dX6_pass_28 : decode cX6_pass 28 = .ok (.iconst 2, 1) := by decide +kernel
theorem dX6_pass_29 : decode cX6_pass 29 = .ok (.goto 4, 3) := by decide +kernel
theorem dX6_pass_32 : decode cX6_pass 32 = .ok (.iconst 0, 1) := by decide +kernel
theorem dX6_pass_33 : decode cX6_pass 33 = .ok (.invokevirtual 75, 3) := by decide +kernel
theorem dX6_pass_36 : decode cX6_pass 36 = .ok (.ifCond .eq 5, 3) := by decide +kernel
theorem dX6_pass_39 : decode cX6_pass 39 = .ok (.iconst 0, 1) := by decide +kernel
theorem dX6_pass_40 : decode cX6_pass 40 = .ok (.ireturn, 1) := by decide +kernel
theorem dX6_pass_41 : decode cX6_pass 41 = .ok (.iconst 0, 1) := by decide +kernel
theorem dX6_pass_42 : decode cX6_pass 42 = .ok (.istore_n 2, 1) := by decide +kernel
theorem dX6_pass_43 : decode cX6_pass 43 = .ok (.iload_n 2, 1) := by decide +kernel
theorem dX6_pass_44 : decode cX6_pass 44 = .ok (.iload_n 1, 1) := by decide +kernel
theorem dX6_pass_45 : decode cX6_pass 45 = .ok (.if_icmp .ge 114, 3) := by decide +kernel
theorem dX6_pass_48 : decode cX6_pass 48 = .ok (.aload_n 0, 1) := by decide +kernel
theorem dX6_pass_49 : decode cX6_pass 49 = .ok (.dup, 1) := by decide +kernel
theorem dX6_pass_50 : decode cX6_pass 50 = .ok (.getfield 127, 3) := by decide +kernel
theorem dX6_pass_53 : decode cX6_pass 53 = .ok (.iconst 1, 1) := by decide +kernel
theorem dX6_pass_54 : decode cX6_pass 54 = .ok (.iadd, 1) := by decide +kernel
theorem dX6_pass_55 : decode cX6_pass 55 = .ok (.putfield 127, 3) := by decide +kernel
theorem dX6_pass_58 : decode cX6_pass 58 = .ok (.iconst 0, 1) := by decide +kernel
theorem dX6_pass_59 : decode cX6_pass 59 = .ok (.istore_n 3, 1) := by decide +kernel
theorem dX6_pass_60 : decode cX6_pass 60 = .ok (.iload_n 3, 1) := by decide +kernel
theorem dX6_pass_61 : decode cX6_pass 61 = .ok (.aload_n 0, 1) := by decide +kernel
theorem dX6_pass_62 : decode cX6_pass 62 = .ok (.getfield 29, 3) := by decide +kernel
theorem dX6_pass_65 : decode cX6_pass 65 = .ok (.if_icmp .ge 24, 3) := by decide +kernel
theorem dX6_pass_68 : decode cX6_pass 68 = .ok (.aload_n 0, 1) := by decide +kernel
theorem dX6_pass_69 : decode cX6_pass 69 = .ok (.getfield 39, 3) := by decide +kernel
theorem dX6_pass_72 : decode cX6_pass 72 = .ok (.iload_n 3, 1) := by decide +kernel
theorem dX6_pass_73 : decode cX6_pass 73 = .ok (.iaload, 1) := by decide +kernel
theorem dX6_pass_74 : decode cX6_pass 74 = .ok (.iconst (-1), 1) := by decide +kernel
theorem dX6_pass_75 : decode cX6_pass 75 = .ok (.if_icmp .eq 8, 3) := by decide +kernel
theorem dX6_pass_78 : decode cX6_pass 78 = .ok (.aload_n 0, 1) := by decide +kernel
theorem dX6_pass_79 : decode cX6_pass 79 = .ok (.iload_n 3, 1) := by decide +kernel
theorem dX6_pass_80 : decode cX6_pass 80 = .ok (.invokevirtual 130, 3) := by decide +kernel
theorem dX6_pass_83 : decode cX6_pass 83 = .ok (.iinc 3 1, 3) := by decide +kernel
theorem dX6_pass_86 : decode cX6_pass 86 = .ok (.goto (-26), 3) := by decide +kernel
theorem dX6_pass_89 : decode cX6_pass 89 = .ok (.iconst 0, 1) := by decide +kernel
theorem dX6_pass_90 : decode cX6_pass 90 = .ok (.istore_n 3, 1) := by decide +kernel
theorem dX6_pass_91 : decode cX6_pass 91 = .ok (.iload_n 3, 1) := by decide +kernel
theorem dX6_pass_92 : decode cX6_pass 92 = .ok (.iconst 4, 1) := by decide +kernel
theorem dX6_pass_93 : decode cX6_pass 93 = .ok (.if_icmp .ge 23, 3) := by decide +kernel
theorem dX6_pass_96 : decode cX6_pass 96 = .ok (.aload_n 0, 1) := by decide +kernel
theorem dX6_pass_97 : decode cX6_pass 97 = .ok (.getfield 20, 3) := by decide +kernel
theorem dX6_pass_100 : decode cX6_pass 100 = .ok (.iload_n 3, 1) := by decide +kernel
theorem dX6_pass_101 : decode cX6_pass 101 = .ok (.dup2, 1) := by decide +kernel
theorem dX6_pass_102 : decode cX6_pass 102 = .ok (.iaload, 1) := by decide +kernel
theorem dX6_pass_103 : decode cX6_pass 103 = .ok (.aload_n 0, 1) := by decide +kernel
theorem dX6_pass_104 : decode cX6_pass 104 = .ok (.iload_n 3, 1) := by decide +kernel
theorem dX6_pass_105 : decode cX6_pass 105 = .ok (.invokevirtual 101, 3) := by decide +kernel
theorem dX6_pass_108 : decode cX6_pass 108 = .ok (.iadd, 1) := by decide +kernel
theorem dX6_pass_109 : decode cX6_pass 109 = .ok (.iastore, 1) := by decide +kernel
theorem dX6_pass_110 : decode cX6_pass 110 = .ok (.iinc 3 1, 3) := by decide +kernel
theorem dX6_pass_113 : decode cX6_pass 113 = .ok (.goto (-22), 3) := by decide +kernel
theorem dX6_pass_116 : decode cX6_pass 116 = .ok (.aload_n 0, 1) := by decide +kernel
theorem dX6_pass_117 : decode cX6_pass 117 = .ok (.getfield 89, 3) := by decide +kernel
theorem dX6_pass_120 : decode cX6_pass 120 = .ok (.ifCond .le 7, 3) := by decide +kernel
theorem dX6_pass_123 : decode cX6_pass 123 = .ok (.aload_n 0, 1) := by decide +kernel
theorem dX6_pass_124 : decode cX6_pass 124 = .ok (.invokevirtual 133, 3) := by decide +kernel
theorem dX6_pass_127 : decode cX6_pass 127 = .ok (.iconst 0, 1) := by decide +kernel
theorem dX6_pass_128 : decode cX6_pass 128 = .ok (.istore_n 3, 1) := by decide +kernel
theorem dX6_pass_129 : decode cX6_pass 129 = .ok (.iload_n 3, 1) := by decide +kernel
theorem dX6_pass_130 : decode cX6_pass 130 = .ok (.aload_n 0, 1) := by decide +kernel
theorem dX6_pass_131 : decode cX6_pass 131 = .ok (.getfield 29, 3) := by decide +kernel
theorem dX6_pass_134 : decode cX6_pass 134 = .ok (.if_icmp .ge 19, 3) := by decide +kernel
theorem dX6_pass_137 : decode cX6_pass 137 = .ok (.aload_n 0, 1) := by decide +kernel
theorem dX6_pass_138 : decode cX6_pass 138 = .ok (.getfield 48, 3) := by decide +kernel
theorem dX6_pass_141 : decode cX6_pass 141 = .ok (.iload_n 3, 1) := by decide +kernel
theorem dX6_pass_142 : decode cX6_pass 142 = .ok (.dup2, 1) := by decide +kernel
theorem dX6_pass_143 : decode cX6_pass 143 = .ok (.iaload, 1) := by decide +kernel
theorem dX6_pass_144 : decode cX6_pass 144 = .ok (.iconst 2, 1) := by decide +kernel
theorem dX6_pass_145 : decode cX6_pass 145 = .ok (.idiv, 1) := by decide +kernel
theorem dX6_pass_146 : decode cX6_pass 146 = .ok (.iastore, 1) := by decide +kernel
theorem dX6_pass_147 : decode cX6_pass 147 = .ok (.iinc 3 1, 3) := by decide +kernel
theorem dX6_pass_150 : decode cX6_pass 150 = .ok (.goto (-21), 3) := by decide +kernel
theorem dX6_pass_153 : decode cX6_pass 153 = .ok (.iinc 2 1, 3) := by decide +kernel
theorem dX6_pass_156 : decode cX6_pass 156 = .ok (.goto (-113), 3) := by decide +kernel
theorem dX6_pass_159 : decode cX6_pass 159 = .ok (.aload_n 0, 1) := by decide +kernel
theorem dX6_pass_160 : decode cX6_pass 160 = .ok (.getfield 127, 3) := by decide +kernel
theorem dX6_pass_163 : decode cX6_pass 163 = .ok (.ireturn, 1) := by decide +kernel
theorem dX6_hour_0 : decode cX6_hour 0 = .ok (.aload_n 0, 1) := by decide +kernel
theorem dX6_hour_1 : decode cX6_hour 1 = .ok (.iconst 0, 1) := by decide +kernel
theorem dX6_hour_2 : decode cX6_hour 2 = .ok (.putfield 51, 3) := by decide +kernel
theorem dX6_hour_5 : decode cX6_hour 5 = .ok (.aload_n 0, 1) := by decide +kernel
theorem dX6_hour_6 : decode cX6_hour 6 = .ok (.getfield 127, 3) := by decide +kernel
theorem dX6_hour_9 : decode cX6_hour 9 = .ok (.ireturn, 1) := by decide +kernel
theorem dX6_shards_0 : decode cX6_shards 0 = .ok (.aload_n 0, 1) := by decide +kernel
theorem dX6_shards_1 : decode cX6_shards 1 = .ok (.iconst 0, 1) := by decide +kernel
theorem dX6_shards_2 : decode cX6_shards 2 = .ok (.putfield 51, 3) := by decide +kernel
theorem dX6_shards_5 : decode cX6_shards 5 = .ok (.aload_n 0, 1) := by decide +kernel
theorem dX6_shards_6 : decode cX6_shards 6 = .ok (.getfield 29, 3) := by decide +kernel
theorem dX6_shards_9 : decode cX6_shards 9 = .ok (.ireturn, 1) := by decide +kernel
theorem dX6_shardOf_0 : decode cX6_shardOf 0 = .ok (.aload_n 0, 1) := by decide +kernel
theorem dX6_shardOf_1 : decode cX6_shardOf 1 = .ok (.iload_n 1, 1) := by decide +kernel
theorem dX6_shardOf_2 : decode cX6_shardOf 2 = .ok (.invokestatic 92, 3) := by decide +kernel
theorem dX6_shardOf_5 : decode cX6_shardOf 5 = .ok (.ifCond .eq 7, 3) := by decide +kernel
theorem dX6_shardOf_8 : decode cX6_shardOf 8 = .ok (.iconst 0, 1) := by decide +kernel
theorem dX6_shardOf_9 : decode cX6_shardOf 9 = .ok (.goto 4, 3) := by decide +kernel
theorem dX6_shardOf_12 : decode cX6_shardOf 12 = .ok (.iconst 1, 1) := by decide +kernel
theorem dX6_shardOf_13 : decode cX6_shardOf 13 = .ok (.invokevirtual 75, 3) := by decide +kernel
theorem dX6_shardOf_16 : decode cX6_shardOf 16 = .ok (.ifCond .eq 7, 3) := by decide +kernel
theorem dX6_shardOf_19 : decode cX6_shardOf 19 = .ok (.iconst 0, 1) := by decide +kernel
theorem dX6_shardOf_20 : decode cX6_shardOf 20 = .ok (.goto 8, 3) := by decide +kernel
theorem dX6_shardOf_23 : decode cX6_shardOf 23 = .ok (.aload_n 0, 1) := by decide +kernel
theorem dX6_shardOf_24 : decode cX6_shardOf 24 = .ok (.iload_n 1, 1) := by decide +kernel
theorem dX6_shardOf_25 : decode cX6_shardOf 25 = .ok (.invokevirtual 95, 3) := by decide +kernel
theorem dX6_shardOf_28 : decode cX6_shardOf 28 = .ok (.ireturn, 1) := by decide +kernel
theorem dX6_shard_0 : decode cX6_shard 0 = .ok (.aload_n 0, 1) := by decide +kernel
theorem dX6_shard_1 : decode cX6_shard 1 = .ok (.aload_n 0, 1) := by decide +kernel
theorem dX6_shard_2 : decode cX6_shard 2 = .ok (.iload_n 1, 1) := by decide +kernel
theorem dX6_shard_3 : decode cX6_shard 3 = .ok (.invokevirtual 115, 3) := by decide +kernel
theorem dX6_shard_6 : decode cX6_shard 6 = .ok (.ifCond .ne 7, 3) := by decide +kernel
theorem dX6_shard_9 : decode cX6_shard 9 = .ok (.iconst 1, 1) := by decide +kernel
theorem dX6_shard_10 : decode cX6_shard 10 = .ok (.goto 18, 3) := by decide +kernel
theorem dX6_shard_13 : decode cX6_shard 13 = .ok (.iload_n 2, 1) := by decide +kernel
theorem dX6_shard_14 : decode cX6_shard 14 = .ok (.iconst 0, 1) := by decide +kernel
theorem dX6_shard_15 : decode cX6_shard 15 = .ok (.bipush 6, 2) := by decide +kernel
theorem dX6_shard_17 : decode cX6_shard 17 = .ok (.invokestatic 54, 3) := by decide +kernel
theorem dX6_shard_20 : decode cX6_shard 20 = .ok (.ifCond .ne 7, 3) := by decide +kernel
theorem dX6_shard_23 : decode cX6_shard 23 = .ok (.iconst 2, 1) := by decide +kernel
theorem dX6_shard_24 : decode cX6_shard 24 = .ok (.goto 4, 3) := by decide +kernel
theorem dX6_shard_27 : decode cX6_shard 27 = .ok (.iconst 0, 1) := by decide +kernel
theorem dX6_shard_28 : decode cX6_shard 28 = .ok (.invokevirtual 75, 3) := by decide +kernel
theorem dX6_shard_31 : decode cX6_shard 31 = .ok (.ifCond .eq 5, 3) := by decide +kernel
theorem dX6_shard_34 : decode cX6_shard 34 = .ok (.iconst 0, 1) := by decide +kernel
theorem dX6_shard_35 : decode cX6_shard 35 = .ok (.ireturn, 1) := by decide +kernel
theorem dX6_shard_36 : decode cX6_shard 36 = .ok (.iload_n 2, 1) := by decide +kernel
theorem dX6_shard_37 : decode cX6_shard 37 = .ok (.tableswitch 83 0 5 #[39, 46, 57, 64, 71, 77], 39) := by decide +kernel
theorem dX6_shard_76 : decode cX6_shard 76 = .ok (.aload_n 0, 1) := by decide +kernel
theorem dX6_shard_77 : decode cX6_shard 77 = .ok (.getfield 33, 3) := by decide +kernel
theorem dX6_shard_80 : decode cX6_shard 80 = .ok (.iload_n 1, 1) := by decide +kernel
theorem dX6_shard_81 : decode cX6_shard 81 = .ok (.iaload, 1) := by decide +kernel
theorem dX6_shard_82 : decode cX6_shard 82 = .ok (.ireturn, 1) := by decide +kernel
theorem dX6_shard_83 : decode cX6_shard 83 = .ok (.aload_n 0, 1) := by decide +kernel
theorem dX6_shard_84 : decode cX6_shard 84 = .ok (.getfield 33, 3) := by decide +kernel
theorem dX6_shard_87 : decode cX6_shard 87 = .ok (.iload_n 1, 1) := by decide +kernel
theorem dX6_shard_88 : decode cX6_shard 88 = .ok (.iconst 1, 1) := by decide +kernel
theorem dX6_shard_89 : decode cX6_shard 89 = .ok (.iadd, 1) := by decide +kernel
theorem dX6_shard_90 : decode cX6_shard 90 = .ok (.iaload, 1) := by decide +kernel
theorem dX6_shard_91 : decode cX6_shard 91 = .ok (.iconst 1, 1) := by decide +kernel
theorem dX6_shard_92 : decode cX6_shard 92 = .ok (.isub, 1) := by decide +kernel
theorem dX6_shard_93 : decode cX6_shard 93 = .ok (.ireturn, 1) := by decide +kernel
theorem dX6_shard_94 : decode cX6_shard 94 = .ok (.aload_n 0, 1) := by decide +kernel
theorem dX6_shard_95 : decode cX6_shard 95 = .ok (.getfield 36, 3) := by decide +kernel
theorem dX6_shard_98 : decode cX6_shard 98 = .ok (.iload_n 1, 1) := by decide +kernel
theorem dX6_shard_99 : decode cX6_shard 99 = .ok (.iaload, 1) := by decide +kernel
theorem dX6_shard_100 : decode cX6_shard 100 = .ok (.ireturn, 1) := by decide +kernel
theorem dX6_shard_101 : decode cX6_shard 101 = .ok (.aload_n 0, 1) := by decide +kernel
theorem dX6_shard_102 : decode cX6_shard 102 = .ok (.getfield 39, 3) := by decide +kernel
theorem dX6_shard_105 : decode cX6_shard 105 = .ok (.iload_n 1, 1) := by decide +kernel
theorem dX6_shard_106 : decode cX6_shard 106 = .ok (.iaload, 1) := by decide +kernel
theorem dX6_shard_107 : decode cX6_shard 107 = .ok (.ireturn, 1) := by decide +kernel
theorem dX6_shard_108 : decode cX6_shard 108 = .ok (.aload_n 0, 1) := by decide +kernel
theorem dX6_shard_109 : decode cX6_shard 109 = .ok (.iload_n 1, 1) := by decide +kernel
theorem dX6_shard_110 : decode cX6_shard 110 = .ok (.invokevirtual 65, 3) := by decide +kernel
theorem dX6_shard_113 : decode cX6_shard 113 = .ok (.ireturn, 1) := by decide +kernel
theorem dX6_shard_114 : decode cX6_shard 114 = .ok (.aload_n 0, 1) := by decide +kernel
theorem dX6_shard_115 : decode cX6_shard 115 = .ok (.iload_n 1, 1) := by decide +kernel
theorem dX6_shard_116 : decode cX6_shard 116 = .ok (.invokevirtual 69, 3) := by decide +kernel
theorem dX6_shard_119 : decode cX6_shard 119 = .ok (.ireturn, 1) := by decide +kernel
theorem dX6_shard_120 : decode cX6_shard 120 = .ok (.aload_n 0, 1) := by decide +kernel
theorem dX6_shard_121 : decode cX6_shard 121 = .ok (.getfield 48, 3) := by decide +kernel
theorem dX6_shard_124 : decode cX6_shard 124 = .ok (.iload_n 1, 1) := by decide +kernel
theorem dX6_shard_125 : decode cX6_shard 125 = .ok (.iaload, 1) := by decide +kernel
theorem dX6_shard_126 : decode cX6_shard 126 = .ok (.ireturn, 1) := by decide +kernel
theorem dX6_machineOf_0 : decode cX6_machineOf 0 = .ok (.aload_n 0, 1) := by decide +kernel
theorem dX6_machineOf_1 : decode cX6_machineOf 1 = .ok (.aload_n 0, 1) := by decide +kernel
theorem dX6_machineOf_2 : decode cX6_machineOf 2 = .ok (.iload_n 1, 1) := by decide +kernel
theorem dX6_machineOf_3 : decode cX6_machineOf 3 = .ok (.invokevirtual 79, 3) := by decide +kernel
theorem dX6_machineOf_6 : decode cX6_machineOf 6 = .ok (.ifCond .ne 7, 3) := by decide +kernel
theorem dX6_machineOf_9 : decode cX6_machineOf 9 = .ok (.iconst 1, 1) := by decide +kernel
theorem dX6_machineOf_10 : decode cX6_machineOf 10 = .ok (.goto 17, 3) := by decide +kernel
theorem dX6_machineOf_13 : decode cX6_machineOf 13 = .ok (.iload_n 2, 1) := by decide +kernel
theorem dX6_machineOf_14 : decode cX6_machineOf 14 = .ok (.iconst 0, 1) := by decide +kernel
theorem dX6_machineOf_15 : decode cX6_machineOf 15 = .ok (.iconst 3, 1) := by decide +kernel
theorem dX6_machineOf_16 : decode cX6_machineOf 16 = .ok (.invokestatic 54, 3) := by decide +kernel
theorem dX6_machineOf_19 : decode cX6_machineOf 19 = .ok (.ifCond .ne 7, 3) := by decide +kernel
theorem dX6_machineOf_22 : decode cX6_machineOf 22 = .ok (.iconst 2, 1) := by decide +kernel
theorem dX6_machineOf_23 : decode cX6_machineOf 23 = .ok (.goto 4, 3) := by decide +kernel
theorem dX6_machineOf_26 : decode cX6_machineOf 26 = .ok (.iconst 0, 1) := by decide +kernel
theorem dX6_machineOf_27 : decode cX6_machineOf 27 = .ok (.invokevirtual 75, 3) := by decide +kernel
theorem dX6_machineOf_30 : decode cX6_machineOf 30 = .ok (.ifCond .eq 5, 3) := by decide +kernel
theorem dX6_machineOf_33 : decode cX6_machineOf 33 = .ok (.iconst 0, 1) := by decide +kernel
theorem dX6_machineOf_34 : decode cX6_machineOf 34 = .ok (.ireturn, 1) := by decide +kernel
theorem dX6_machineOf_35 : decode cX6_machineOf 35 = .ok (.iload_n 2, 1) := by decide +kernel
theorem dX6_machineOf_36 : decode cX6_machineOf 36 = .ok (.iconst 2, 1) := by decide +kernel
theorem dX6_machineOf_37 : decode cX6_machineOf 37 = .ok (.if_icmp .ge 30, 3) := by decide +kernel
theorem dX6_machineOf_40 : decode cX6_machineOf 40 = .ok (.iload_n 2, 1) := by decide +kernel
theorem dX6_machineOf_41 : decode cX6_machineOf 41 = .ok (.ifCond .ne 11, 3) := by decide +kernel
theorem dX6_machineOf_44 : decode cX6_machineOf 44 = .ok (.aload_n 0, 1) := by decide +kernel
theorem dX6_machineOf_45 : decode cX6_machineOf 45 = .ok (.iload_n 1, 1) := by decide +kernel
theorem dX6_machineOf_46 : decode cX6_machineOf 46 = .ok (.invokevirtual 98, 3) := by decide +kernel
theorem dX6_machineOf_49 : decode cX6_machineOf 49 = .ok (.goto 17, 3) := by decide +kernel
theorem dX6_machineOf_52 : decode cX6_machineOf 52 = .ok (.aload_n 0, 1) := by decide +kernel
theorem dX6_machineOf_53 : decode cX6_machineOf 53 = .ok (.getfield 13, 3) := by decide +kernel
theorem dX6_machineOf_56 : decode cX6_machineOf 56 = .ok (.iload_n 1, 1) := by decide +kernel
theorem dX6_machineOf_57 : decode cX6_machineOf 57 = .ok (.baload, 1) := by decide +kernel
theorem dX6_machineOf_58 : decode cX6_machineOf 58 = .ok (.ifCond .eq 7, 3) := by decide +kernel
theorem dX6_machineOf_61 : decode cX6_machineOf 61 = .ok (.iconst 0, 1) := by decide +kernel
theorem dX6_machineOf_62 : decode cX6_machineOf 62 = .ok (.goto 4, 3) := by decide +kernel
theorem dX6_machineOf_65 : decode cX6_machineOf 65 = .ok (.iconst 1, 1) := by decide +kernel
theorem dX6_machineOf_66 : decode cX6_machineOf 66 = .ok (.ireturn, 1) := by decide +kernel
theorem dX6_machineOf_67 : decode cX6_machineOf 67 = .ok (.iconst 0, 1) := by decide +kernel
theorem dX6_machineOf_68 : decode cX6_machineOf 68 = .ok (.istore_n 3, 1) := by decide +kernel
theorem dX6_machineOf_69 : decode cX6_machineOf 69 = .ok (.iconst 0, 1) := by decide +kernel
theorem dX6_machineOf_70 : decode cX6_machineOf 70 = .ok (.istore 4, 2) := by decide +kernel
theorem dX6_machineOf_72 : decode cX6_machineOf 72 = .ok (.iload 4, 2) := by decide +kernel
theorem dX6_machineOf_74 : decode cX6_machineOf 74 = .ok (.aload_n 0, 1) := by decide +kernel
theorem dX6_machineOf_75 : decode cX6_machineOf 75 = .ok (.getfield 29, 3) := by decide +kernel
theorem dX6_machineOf_78 : decode cX6_machineOf 78 = .ok (.if_icmp .ge 28, 3) := by decide +kernel
theorem dX6_machineOf_81 : decode cX6_machineOf 81 = .ok (.iload_n 3, 1) := by decide +kernel
theorem dX6_machineOf_82 : decode cX6_machineOf 82 = .ok (.aload_n 0, 1) := by decide +kernel
theorem dX6_machineOf_83 : decode cX6_machineOf 83 = .ok (.getfield 36, 3) := by decide +kernel
theorem dX6_machineOf_86 : decode cX6_machineOf 86 = .ok (.iload 4, 2) := by decide +kernel
theorem dX6_machineOf_88 : decode cX6_machineOf 88 = .ok (.iaload, 1) := by decide +kernel
theorem dX6_machineOf_89 : decode cX6_machineOf 89 = .ok (.iload_n 1, 1) := by decide +kernel
theorem dX6_machineOf_90 : decode cX6_machineOf 90 = .ok (.if_icmp .ne 7, 3) := by decide +kernel
theorem dX6_machineOf_93 : decode cX6_machineOf 93 = .ok (.iconst 1, 1) := by decide +kernel
theorem dX6_machineOf_94 : decode cX6_machineOf 94 = .ok (.goto 4, 3) := by decide +kernel
theorem dX6_machineOf_97 : decode cX6_machineOf 97 = .ok (.iconst 0, 1) := by decide +kernel
theorem dX6_machineOf_98 : decode cX6_machineOf 98 = .ok (.iadd, 1) := by decide +kernel
theorem dX6_machineOf_99 : decode cX6_machineOf 99 = .ok (.istore_n 3, 1) := by decide +kernel
theorem dX6_machineOf_100 : decode cX6_machineOf 100 = .ok (.iinc 4 1, 3) := by decide +kernel
theorem dX6_machineOf_103 : decode cX6_machineOf 103 = .ok (.goto (-31), 3) := by decide +kernel
theorem dX6_machineOf_106 : decode cX6_machineOf 106 = .ok (.iload_n 2, 1) := by decide +kernel
theorem dX6_machineOf_107 : decode cX6_machineOf 107 = .ok (.iconst 2, 1) := by decide +kernel
theorem dX6_machineOf_108 : decode cX6_machineOf 108 = .ok (.if_icmp .ne 11, 3) := by decide +kernel
theorem dX6_machineOf_111 : decode cX6_machineOf 111 = .ok (.aload_n 0, 1) := by decide +kernel
theorem dX6_machineOf_112 : decode cX6_machineOf 112 = .ok (.iload_n 1, 1) := by decide +kernel
theorem dX6_machineOf_113 : decode cX6_machineOf 113 = .ok (.invokevirtual 124, 3) := by decide +kernel
theorem dX6_machineOf_116 : decode cX6_machineOf 116 = .ok (.goto 4, 3) := by decide +kernel
theorem dX6_machineOf_119 : decode cX6_machineOf 119 = .ok (.iload_n 3, 1) := by decide +kernel
theorem dX6_machineOf_120 : decode cX6_machineOf 120 = .ok (.ireturn, 1) := by decide +kernel
theorem dX6_tenant_0 : decode cX6_tenant 0 = .ok (.aload_n 0, 1) := by decide +kernel
theorem dX6_tenant_1 : decode cX6_tenant 1 = .ok (.iload_n 1, 1) := by decide +kernel
theorem dX6_tenant_2 : decode cX6_tenant 2 = .ok (.invokestatic 86, 3) := by decide +kernel
theorem dX6_tenant_5 : decode cX6_tenant 5 = .ok (.ifCond .ne 7, 3) := by decide +kernel
theorem dX6_tenant_8 : decode cX6_tenant 8 = .ok (.iconst 1, 1) := by decide +kernel
theorem dX6_tenant_9 : decode cX6_tenant 9 = .ok (.goto 17, 3) := by decide +kernel
theorem dX6_tenant_12 : decode cX6_tenant 12 = .ok (.iload_n 2, 1) := by decide +kernel
theorem dX6_tenant_13 : decode cX6_tenant 13 = .ok (.iconst 0, 1) := by decide +kernel
theorem dX6_tenant_14 : decode cX6_tenant 14 = .ok (.iconst 2, 1) := by decide +kernel
theorem dX6_tenant_15 : decode cX6_tenant 15 = .ok (.invokestatic 54, 3) := by decide +kernel
theorem dX6_tenant_18 : decode cX6_tenant 18 = .ok (.ifCond .ne 7, 3) := by decide +kernel
theorem dX6_tenant_21 : decode cX6_tenant 21 = .ok (.iconst 2, 1) := by decide +kernel
theorem dX6_tenant_22 : decode cX6_tenant 22 = .ok (.goto 4, 3) := by decide +kernel
theorem dX6_tenant_25 : decode cX6_tenant 25 = .ok (.iconst 0, 1) := by decide +kernel
theorem dX6_tenant_26 : decode cX6_tenant 26 = .ok (.invokevirtual 75, 3) := by decide +kernel
theorem dX6_tenant_29 : decode cX6_tenant 29 = .ok (.ifCond .eq 5, 3) := by decide +kernel
theorem dX6_tenant_32 : decode cX6_tenant 32 = .ok (.iconst 0, 1) := by decide +kernel
theorem dX6_tenant_33 : decode cX6_tenant 33 = .ok (.ireturn, 1) := by decide +kernel
theorem dX6_tenant_34 : decode cX6_tenant 34 = .ok (.iload_n 2, 1) := by decide +kernel
theorem dX6_tenant_35 : decode cX6_tenant 35 = .ok (.ifCond .ne 11, 3) := by decide +kernel
theorem dX6_tenant_38 : decode cX6_tenant 38 = .ok (.aload_n 0, 1) := by decide +kernel
theorem dX6_tenant_39 : decode cX6_tenant 39 = .ok (.iload_n 1, 1) := by decide +kernel
theorem dX6_tenant_40 : decode cX6_tenant 40 = .ok (.invokevirtual 101, 3) := by decide +kernel
theorem dX6_tenant_43 : decode cX6_tenant 43 = .ok (.goto 23, 3) := by decide +kernel
theorem dX6_tenant_46 : decode cX6_tenant 46 = .ok (.iload_n 2, 1) := by decide +kernel
theorem dX6_tenant_47 : decode cX6_tenant 47 = .ok (.iconst 1, 1) := by decide +kernel
theorem dX6_tenant_48 : decode cX6_tenant 48 = .ok (.if_icmp .ne 12, 3) := by decide +kernel
theorem dX6_tenant_51 : decode cX6_tenant 51 = .ok (.aload_n 0, 1) := by decide +kernel
theorem dX6_tenant_52 : decode cX6_tenant 52 = .ok (.getfield 17, 3) := by decide +kernel
theorem dX6_tenant_55 : decode cX6_tenant 55 = .ok (.iload_n 1, 1) := by decide +kernel
theorem dX6_tenant_56 : decode cX6_tenant 56 = .ok (.iaload, 1) := by decide +kernel
theorem dX6_tenant_57 : decode cX6_tenant 57 = .ok (.goto 9, 3) := by decide +kernel
theorem dX6_tenant_60 : decode cX6_tenant 60 = .ok (.aload_n 0, 1) := by decide +kernel
theorem dX6_tenant_61 : decode cX6_tenant 61 = .ok (.getfield 20, 3) := by decide +kernel
theorem dX6_tenant_64 : decode cX6_tenant 64 = .ok (.iload_n 1, 1) := by decide +kernel
theorem dX6_tenant_65 : decode cX6_tenant 65 = .ok (.iaload, 1) := by decide +kernel
theorem dX6_tenant_66 : decode cX6_tenant 66 = .ok (.ireturn, 1) := by decide +kernel
theorem dX6_billAnew_0 : decode cX6_billAnew 0 = .ok (.aload_n 0, 1) := by decide +kernel
theorem dX6_billAnew_1 : decode cX6_billAnew 1 = .ok (.iload_n 1, 1) := by decide +kernel
theorem dX6_billAnew_2 : decode cX6_billAnew 2 = .ok (.invokestatic 86, 3) := by decide +kernel
theorem dX6_billAnew_5 : decode cX6_billAnew 5 = .ok (.ifCond .eq 7, 3) := by decide +kernel
theorem dX6_billAnew_8 : decode cX6_billAnew 8 = .ok (.iconst 0, 1) := by decide +kernel
theorem dX6_billAnew_9 : decode cX6_billAnew 9 = .ok (.goto 4, 3) := by decide +kernel
theorem dX6_billAnew_12 : decode cX6_billAnew 12 = .ok (.iconst 1, 1) := by decide +kernel
theorem dX6_billAnew_13 : decode cX6_billAnew 13 = .ok (.invokevirtual 75, 3) := by decide +kernel
theorem dX6_billAnew_16 : decode cX6_billAnew 16 = .ok (.ifCond .eq 7, 3) := by decide +kernel
theorem dX6_billAnew_19 : decode cX6_billAnew 19 = .ok (.iconst 0, 1) := by decide +kernel
theorem dX6_billAnew_20 : decode cX6_billAnew 20 = .ok (.goto 9, 3) := by decide +kernel
theorem dX6_billAnew_23 : decode cX6_billAnew 23 = .ok (.aload_n 0, 1) := by decide +kernel
theorem dX6_billAnew_24 : decode cX6_billAnew 24 = .ok (.getfield 20, 3) := by decide +kernel
theorem dX6_billAnew_27 : decode cX6_billAnew 27 = .ok (.iload_n 1, 1) := by decide +kernel
theorem dX6_billAnew_28 : decode cX6_billAnew 28 = .ok (.iaload, 1) := by decide +kernel
theorem dX6_billAnew_29 : decode cX6_billAnew 29 = .ok (.ireturn, 1) := by decide +kernel
theorem dX6_whereAnew_0 : decode cX6_whereAnew 0 = .ok (.aload_n 0, 1) := by decide +kernel
theorem dX6_whereAnew_1 : decode cX6_whereAnew 1 = .ok (.iload_n 1, 1) := by decide +kernel
theorem dX6_whereAnew_2 : decode cX6_whereAnew 2 = .ok (.invokestatic 92, 3) := by decide +kernel
theorem dX6_whereAnew_5 : decode cX6_whereAnew 5 = .ok (.ifCond .eq 7, 3) := by decide +kernel
theorem dX6_whereAnew_8 : decode cX6_whereAnew 8 = .ok (.iconst 0, 1) := by decide +kernel
theorem dX6_whereAnew_9 : decode cX6_whereAnew 9 = .ok (.goto 4, 3) := by decide +kernel
theorem dX6_whereAnew_12 : decode cX6_whereAnew 12 = .ok (.iconst 1, 1) := by decide +kernel
theorem dX6_whereAnew_13 : decode cX6_whereAnew 13 = .ok (.invokevirtual 75, 3) := by decide +kernel
theorem dX6_whereAnew_16 : decode cX6_whereAnew 16 = .ok (.ifCond .eq 7, 3) := by decide +kernel
theorem dX6_whereAnew_19 : decode cX6_whereAnew 19 = .ok (.iconst 0, 1) := by decide +kernel
theorem dX6_whereAnew_20 : decode cX6_whereAnew 20 = .ok (.goto 13, 3) := by decide +kernel
theorem dX6_whereAnew_23 : decode cX6_whereAnew 23 = .ok (.aload_n 0, 1) := by decide +kernel
theorem dX6_whereAnew_24 : decode cX6_whereAnew 24 = .ok (.getfield 36, 3) := by decide +kernel
theorem dX6_whereAnew_27 : decode cX6_whereAnew 27 = .ok (.aload_n 0, 1) := by decide +kernel
theorem dX6_whereAnew_28 : decode cX6_whereAnew 28 = .ok (.iload_n 1, 1) := by decide +kernel
theorem dX6_whereAnew_29 : decode cX6_whereAnew 29 = .ok (.invokevirtual 95, 3) := by decide +kernel
theorem dX6_whereAnew_32 : decode cX6_whereAnew 32 = .ok (.iaload, 1) := by decide +kernel
theorem dX6_whereAnew_33 : decode cX6_whereAnew 33 = .ok (.ireturn, 1) := by decide +kernel
theorem dX6_moves_0 : decode cX6_moves 0 = .ok (.aload_n 0, 1) := by decide +kernel
theorem dX6_moves_1 : decode cX6_moves 1 = .ok (.iconst 0, 1) := by decide +kernel
theorem dX6_moves_2 : decode cX6_moves 2 = .ok (.putfield 51, 3) := by decide +kernel
theorem dX6_moves_5 : decode cX6_moves 5 = .ok (.iload_n 1, 1) := by decide +kernel
theorem dX6_moves_6 : decode cX6_moves 6 = .ok (.ifCond .eq 10, 3) := by decide +kernel
theorem dX6_moves_9 : decode cX6_moves 9 = .ok (.aload_n 0, 1) := by decide +kernel
theorem dX6_moves_10 : decode cX6_moves 10 = .ok (.getfield 121, 3) := by decide +kernel
theorem dX6_moves_13 : decode cX6_moves 13 = .ok (.goto 7, 3) := by decide +kernel
theorem dX6_moves_16 : decode cX6_moves 16 = .ok (.aload_n 0, 1) := by decide +kernel
theorem dX6_moves_17 : decode cX6_moves 17 = .ok (.getfield 72, 3) := by decide +kernel
theorem dX6_moves_20 : decode cX6_moves 20 = .ok (.ireturn, 1) := by decide +kernel
theorem dL_machine_0 : decode cL_machine 0 = .ok (.aload_n 2, 1) := by decide +kernel
theorem dL_machine_1 : decode cL_machine 1 = .ok (.iconst 0, 1) := by decide +kernel
theorem dL_machine_2 : decode cL_machine 2 = .ok (.aload_n 0, 1) := by decide +kernel
theorem dL_machine_3 : decode cL_machine 3 = .ok (.iload_n 1, 1) := by decide +kernel
theorem dL_machine_4 : decode cL_machine 4 = .ok (.invokevirtual 7, 3) := by decide +kernel
theorem dL_machine_7 : decode cL_machine 7 = .ok (.i2l, 1) := by decide +kernel
theorem dL_machine_8 : decode cL_machine 8 = .ok (.lastore, 1) := by decide +kernel
theorem dL_machine_9 : decode cL_machine 9 = .ok (.goto 9, 3) := by decide +kernel
theorem dL_machine_12 : decode cL_machine 12 = .ok (.astore_n 3, 1) := by decide +kernel
theorem dL_machine_13 : decode cL_machine 13 = .ok (.iconst 1, 1) := by decide +kernel
theorem dL_machine_14 : decode cL_machine 14 = .ok (.ireturn, 1) := by decide +kernel
theorem dL_machine_15 : decode cL_machine 15 = .ok (.astore_n 3, 1) := by decide +kernel
theorem dL_machine_16 : decode cL_machine 16 = .ok (.iconst 2, 1) := by decide +kernel
theorem dL_machine_17 : decode cL_machine 17 = .ok (.ireturn, 1) := by decide +kernel
theorem dL_machine_18 : decode cL_machine 18 = .ok (.iconst 0, 1) := by decide +kernel
theorem dL_machine_19 : decode cL_machine 19 = .ok (.ireturn, 1) := by decide +kernel
theorem dL_down_0 : decode cL_down 0 = .ok (.aload_n 3, 1) := by decide +kernel
theorem dL_down_1 : decode cL_down 1 = .ok (.iconst 0, 1) := by decide +kernel
theorem dL_down_2 : decode cL_down 2 = .ok (.aload_n 0, 1) := by decide +kernel
theorem dL_down_3 : decode cL_down 3 = .ok (.iload_n 1, 1) := by decide +kernel
theorem dL_down_4 : decode cL_down 4 = .ok (.iload_n 2, 1) := by decide +kernel
theorem dL_down_5 : decode cL_down 5 = .ok (.invokevirtual 17, 3) := by decide +kernel
theorem dL_down_8 : decode cL_down 8 = .ok (.ifCond .eq 7, 3) := by decide +kernel
theorem dL_down_11 : decode cL_down 11 = .ok (.lconst 1, 1) := by decide +kernel
theorem dL_down_12 : decode cL_down 12 = .ok (.goto 4, 3) := by decide +kernel
theorem dL_down_15 : decode cL_down 15 = .ok (.lconst 0, 1) := by decide +kernel
theorem dL_down_16 : decode cL_down 16 = .ok (.lastore, 1) := by decide +kernel
theorem dL_down_17 : decode cL_down 17 = .ok (.goto 7, 3) := by decide +kernel
theorem dL_down_20 : decode cL_down 20 = .ok (.astore 4, 2) := by decide +kernel
theorem dL_down_22 : decode cL_down 22 = .ok (.iconst 1, 1) := by decide +kernel
theorem dL_down_23 : decode cL_down 23 = .ok (.ireturn, 1) := by decide +kernel
theorem dL_down_24 : decode cL_down 24 = .ok (.iconst 0, 1) := by decide +kernel
theorem dL_down_25 : decode cL_down 25 = .ok (.ireturn, 1) := by decide +kernel
theorem dL_quota_0 : decode cL_quota 0 = .ok (.aload_n 3, 1) := by decide +kernel
theorem dL_quota_1 : decode cL_quota 1 = .ok (.iconst 0, 1) := by decide +kernel
theorem dL_quota_2 : decode cL_quota 2 = .ok (.aload_n 0, 1) := by decide +kernel
theorem dL_quota_3 : decode cL_quota 3 = .ok (.iload_n 1, 1) := by decide +kernel
theorem dL_quota_4 : decode cL_quota 4 = .ok (.iload_n 2, 1) := by decide +kernel
theorem dL_quota_5 : decode cL_quota 5 = .ok (.invokevirtual 23, 3) := by decide +kernel
theorem dL_quota_8 : decode cL_quota 8 = .ok (.i2l, 1) := by decide +kernel
theorem dL_quota_9 : decode cL_quota 9 = .ok (.lastore, 1) := by decide +kernel
theorem dL_quota_10 : decode cL_quota 10 = .ok (.goto 11, 3) := by decide +kernel
theorem dL_quota_13 : decode cL_quota 13 = .ok (.astore 4, 2) := by decide +kernel
theorem dL_quota_15 : decode cL_quota 15 = .ok (.iconst 1, 1) := by decide +kernel
theorem dL_quota_16 : decode cL_quota 16 = .ok (.ireturn, 1) := by decide +kernel
theorem dL_quota_17 : decode cL_quota 17 = .ok (.astore 4, 2) := by decide +kernel
theorem dL_quota_19 : decode cL_quota 19 = .ok (.iconst 2, 1) := by decide +kernel
theorem dL_quota_20 : decode cL_quota 20 = .ok (.ireturn, 1) := by decide +kernel
theorem dL_quota_21 : decode cL_quota 21 = .ok (.iconst 0, 1) := by decide +kernel
theorem dL_quota_22 : decode cL_quota 22 = .ok (.ireturn, 1) := by decide +kernel
theorem dL_limit_0 : decode cL_limit 0 = .ok (.aload_n 2, 1) := by decide +kernel
theorem dL_limit_1 : decode cL_limit 1 = .ok (.iconst 0, 1) := by decide +kernel
theorem dL_limit_2 : decode cL_limit 2 = .ok (.aload_n 0, 1) := by decide +kernel
theorem dL_limit_3 : decode cL_limit 3 = .ok (.iload_n 1, 1) := by decide +kernel
theorem dL_limit_4 : decode cL_limit 4 = .ok (.invokevirtual 27, 3) := by decide +kernel
theorem dL_limit_7 : decode cL_limit 7 = .ok (.i2l, 1) := by decide +kernel
theorem dL_limit_8 : decode cL_limit 8 = .ok (.lastore, 1) := by decide +kernel
theorem dL_limit_9 : decode cL_limit 9 = .ok (.goto 6, 3) := by decide +kernel
theorem dL_limit_12 : decode cL_limit 12 = .ok (.astore_n 3, 1) := by decide +kernel
theorem dL_limit_13 : decode cL_limit 13 = .ok (.iconst 1, 1) := by decide +kernel
theorem dL_limit_14 : decode cL_limit 14 = .ok (.ireturn, 1) := by decide +kernel
theorem dL_limit_15 : decode cL_limit 15 = .ok (.iconst 0, 1) := by decide +kernel
theorem dL_limit_16 : decode cL_limit 16 = .ok (.ireturn, 1) := by decide +kernel
theorem dL_write_0 : decode cL_write 0 = .ok (.aload 4, 2) := by decide +kernel
theorem dL_write_2 : decode cL_write 2 = .ok (.iconst 0, 1) := by decide +kernel
theorem dL_write_3 : decode cL_write 3 = .ok (.aload_n 0, 1) := by decide +kernel
theorem dL_write_4 : decode cL_write 4 = .ok (.iload_n 1, 1) := by decide +kernel
theorem dL_write_5 : decode cL_write 5 = .ok (.iload_n 2, 1) := by decide +kernel
theorem dL_write_6 : decode cL_write 6 = .ok (.iload_n 3, 1) := by decide +kernel
theorem dL_write_7 : decode cL_write 7 = .ok (.invokevirtual 30, 3) := by decide +kernel
theorem dL_write_10 : decode cL_write 10 = .ok (.i2l, 1) := by decide +kernel
theorem dL_write_11 : decode cL_write 11 = .ok (.lastore, 1) := by decide +kernel
theorem dL_write_12 : decode cL_write 12 = .ok (.goto 15, 3) := by decide +kernel
theorem dL_write_15 : decode cL_write 15 = .ok (.astore 5, 2) := by decide +kernel
theorem dL_write_17 : decode cL_write 17 = .ok (.iconst 1, 1) := by decide +kernel
theorem dL_write_18 : decode cL_write 18 = .ok (.ireturn, 1) := by decide +kernel
theorem dL_write_19 : decode cL_write 19 = .ok (.astore 5, 2) := by decide +kernel
theorem dL_write_21 : decode cL_write 21 = .ok (.iconst 2, 1) := by decide +kernel
theorem dL_write_22 : decode cL_write 22 = .ok (.ireturn, 1) := by decide +kernel
theorem dL_write_23 : decode cL_write 23 = .ok (.astore 5, 2) := by decide +kernel
theorem dL_write_25 : decode cL_write 25 = .ok (.iconst 3, 1) := by decide +kernel
theorem dL_write_26 : decode cL_write 26 = .ok (.ireturn, 1) := by decide +kernel
theorem dL_write_27 : decode cL_write 27 = .ok (.iconst 0, 1) := by decide +kernel
theorem dL_write_28 : decode cL_write 28 = .ok (.ireturn, 1) := by decide +kernel
theorem dL_take_0 : decode cL_take 0 = .ok (.aload_n 2, 1) := by decide +kernel
theorem dL_take_1 : decode cL_take 1 = .ok (.iconst 0, 1) := by decide +kernel
theorem dL_take_2 : decode cL_take 2 = .ok (.aload_n 0, 1) := by decide +kernel
theorem dL_take_3 : decode cL_take 3 = .ok (.iload_n 1, 1) := by decide +kernel
theorem dL_take_4 : decode cL_take 4 = .ok (.invokevirtual 34, 3) := by decide +kernel
theorem dL_take_7 : decode cL_take 7 = .ok (.i2l, 1) := by decide +kernel
theorem dL_take_8 : decode cL_take 8 = .ok (.lastore, 1) := by decide +kernel
theorem dL_take_9 : decode cL_take 9 = .ok (.goto 9, 3) := by decide +kernel
theorem dL_take_12 : decode cL_take 12 = .ok (.astore_n 3, 1) := by decide +kernel
theorem dL_take_13 : decode cL_take 13 = .ok (.iconst 1, 1) := by decide +kernel
theorem dL_take_14 : decode cL_take 14 = .ok (.ireturn, 1) := by decide +kernel
theorem dL_take_15 : decode cL_take 15 = .ok (.astore_n 3, 1) := by decide +kernel
theorem dL_take_16 : decode cL_take 16 = .ok (.iconst 2, 1) := by decide +kernel
theorem dL_take_17 : decode cL_take 17 = .ok (.ireturn, 1) := by decide +kernel
theorem dL_take_18 : decode cL_take 18 = .ok (.iconst 0, 1) := by decide +kernel
theorem dL_take_19 : decode cL_take 19 = .ok (.ireturn, 1) := by decide +kernel
theorem dL_read_0 : decode cL_read 0 = .ok (.aload_n 2, 1) := by decide +kernel
theorem dL_read_1 : decode cL_read 1 = .ok (.iconst 0, 1) := by decide +kernel
theorem dL_read_2 : decode cL_read 2 = .ok (.aload_n 0, 1) := by decide +kernel
theorem dL_read_3 : decode cL_read 3 = .ok (.iload_n 1, 1) := by decide +kernel
theorem dL_read_4 : decode cL_read 4 = .ok (.invokevirtual 37, 3) := by decide +kernel
theorem dL_read_7 : decode cL_read 7 = .ok (.i2l, 1) := by decide +kernel
theorem dL_read_8 : decode cL_read 8 = .ok (.lastore, 1) := by decide +kernel
theorem dL_read_9 : decode cL_read 9 = .ok (.goto 9, 3) := by decide +kernel
theorem dL_read_12 : decode cL_read 12 = .ok (.astore_n 3, 1) := by decide +kernel
theorem dL_read_13 : decode cL_read 13 = .ok (.iconst 1, 1) := by decide +kernel
theorem dL_read_14 : decode cL_read 14 = .ok (.ireturn, 1) := by decide +kernel
theorem dL_read_15 : decode cL_read 15 = .ok (.astore_n 3, 1) := by decide +kernel
theorem dL_read_16 : decode cL_read 16 = .ok (.iconst 2, 1) := by decide +kernel
theorem dL_read_17 : decode cL_read 17 = .ok (.ireturn, 1) := by decide +kernel
theorem dL_read_18 : decode cL_read 18 = .ok (.iconst 0, 1) := by decide +kernel
theorem dL_read_19 : decode cL_read 19 = .ok (.ireturn, 1) := by decide +kernel
theorem dL_split_0 : decode cL_split 0 = .ok (.aload_n 2, 1) := by decide +kernel
theorem dL_split_1 : decode cL_split 1 = .ok (.iconst 0, 1) := by decide +kernel
theorem dL_split_2 : decode cL_split 2 = .ok (.aload_n 0, 1) := by decide +kernel
theorem dL_split_3 : decode cL_split 3 = .ok (.iload_n 1, 1) := by decide +kernel
theorem dL_split_4 : decode cL_split 4 = .ok (.invokevirtual 40, 3) := by decide +kernel
theorem dL_split_7 : decode cL_split 7 = .ok (.i2l, 1) := by decide +kernel
theorem dL_split_8 : decode cL_split 8 = .ok (.lastore, 1) := by decide +kernel
theorem dL_split_9 : decode cL_split 9 = .ok (.goto 9, 3) := by decide +kernel
theorem dL_split_12 : decode cL_split 12 = .ok (.astore_n 3, 1) := by decide +kernel
theorem dL_split_13 : decode cL_split 13 = .ok (.iconst 1, 1) := by decide +kernel
theorem dL_split_14 : decode cL_split 14 = .ok (.ireturn, 1) := by decide +kernel
theorem dL_split_15 : decode cL_split 15 = .ok (.astore_n 3, 1) := by decide +kernel
theorem dL_split_16 : decode cL_split 16 = .ok (.iconst 2, 1) := by decide +kernel
theorem dL_split_17 : decode cL_split 17 = .ok (.ireturn, 1) := by decide +kernel
theorem dL_split_18 : decode cL_split 18 = .ok (.iconst 0, 1) := by decide +kernel
theorem dL_split_19 : decode cL_split 19 = .ok (.ireturn, 1) := by decide +kernel
theorem dL_join_0 : decode cL_join 0 = .ok (.aload_n 2, 1) := by decide +kernel
theorem dL_join_1 : decode cL_join 1 = .ok (.iconst 0, 1) := by decide +kernel
theorem dL_join_2 : decode cL_join 2 = .ok (.aload_n 0, 1) := by decide +kernel
theorem dL_join_3 : decode cL_join 3 = .ok (.iload_n 1, 1) := by decide +kernel
theorem dL_join_4 : decode cL_join 4 = .ok (.invokevirtual 43, 3) := by decide +kernel
theorem dL_join_7 : decode cL_join 7 = .ok (.i2l, 1) := by decide +kernel
theorem dL_join_8 : decode cL_join 8 = .ok (.lastore, 1) := by decide +kernel
theorem dL_join_9 : decode cL_join 9 = .ok (.goto 9, 3) := by decide +kernel
theorem dL_join_12 : decode cL_join 12 = .ok (.astore_n 3, 1) := by decide +kernel
theorem dL_join_13 : decode cL_join 13 = .ok (.iconst 1, 1) := by decide +kernel
theorem dL_join_14 : decode cL_join 14 = .ok (.ireturn, 1) := by decide +kernel
theorem dL_join_15 : decode cL_join 15 = .ok (.astore_n 3, 1) := by decide +kernel
theorem dL_join_16 : decode cL_join 16 = .ok (.iconst 2, 1) := by decide +kernel
theorem dL_join_17 : decode cL_join 17 = .ok (.ireturn, 1) := by decide +kernel
theorem dL_join_18 : decode cL_join 18 = .ok (.iconst 0, 1) := by decide +kernel
theorem dL_join_19 : decode cL_join 19 = .ok (.ireturn, 1) := by decide +kernel
theorem dL_move_0 : decode cL_move 0 = .ok (.aload_n 3, 1) := by decide +kernel
theorem dL_move_1 : decode cL_move 1 = .ok (.iconst 0, 1) := by decide +kernel
theorem dL_move_2 : decode cL_move 2 = .ok (.aload_n 0, 1) := by decide +kernel
theorem dL_move_3 : decode cL_move 3 = .ok (.iload_n 1, 1) := by decide +kernel
theorem dL_move_4 : decode cL_move 4 = .ok (.iload_n 2, 1) := by decide +kernel
theorem dL_move_5 : decode cL_move 5 = .ok (.invokevirtual 46, 3) := by decide +kernel
theorem dL_move_8 : decode cL_move 8 = .ok (.i2l, 1) := by decide +kernel
theorem dL_move_9 : decode cL_move 9 = .ok (.lastore, 1) := by decide +kernel
theorem dL_move_10 : decode cL_move 10 = .ok (.goto 11, 3) := by decide +kernel
theorem dL_move_13 : decode cL_move 13 = .ok (.astore 4, 2) := by decide +kernel
theorem dL_move_15 : decode cL_move 15 = .ok (.iconst 1, 1) := by decide +kernel
theorem dL_move_16 : decode cL_move 16 = .ok (.ireturn, 1) := by decide +kernel
theorem dL_move_17 : decode cL_move 17 = .ok (.astore 4, 2) := by decide +kernel
theorem dL_move_19 : decode cL_move 19 = .ok (.iconst 2, 1) := by decide +kernel
theorem dL_move_20 : decode cL_move 20 = .ok (.ireturn, 1) := by decide +kernel
theorem dL_move_21 : decode cL_move 21 = .ok (.iconst 0, 1) := by decide +kernel
theorem dL_move_22 : decode cL_move 22 = .ok (.ireturn, 1) := by decide +kernel
theorem dL_callOff_0 : decode cL_callOff 0 = .ok (.aload_n 2, 1) := by decide +kernel
theorem dL_callOff_1 : decode cL_callOff 1 = .ok (.iconst 0, 1) := by decide +kernel
theorem dL_callOff_2 : decode cL_callOff 2 = .ok (.aload_n 0, 1) := by decide +kernel
theorem dL_callOff_3 : decode cL_callOff 3 = .ok (.iload_n 1, 1) := by decide +kernel
theorem dL_callOff_4 : decode cL_callOff 4 = .ok (.invokevirtual 49, 3) := by decide +kernel
theorem dL_callOff_7 : decode cL_callOff 7 = .ok (.i2l, 1) := by decide +kernel
theorem dL_callOff_8 : decode cL_callOff 8 = .ok (.lastore, 1) := by decide +kernel
theorem dL_callOff_9 : decode cL_callOff 9 = .ok (.goto 9, 3) := by decide +kernel
theorem dL_callOff_12 : decode cL_callOff 12 = .ok (.astore_n 3, 1) := by decide +kernel
theorem dL_callOff_13 : decode cL_callOff 13 = .ok (.iconst 1, 1) := by decide +kernel
theorem dL_callOff_14 : decode cL_callOff 14 = .ok (.ireturn, 1) := by decide +kernel
theorem dL_callOff_15 : decode cL_callOff 15 = .ok (.astore_n 3, 1) := by decide +kernel
theorem dL_callOff_16 : decode cL_callOff 16 = .ok (.iconst 2, 1) := by decide +kernel
theorem dL_callOff_17 : decode cL_callOff 17 = .ok (.ireturn, 1) := by decide +kernel
theorem dL_callOff_18 : decode cL_callOff 18 = .ok (.iconst 0, 1) := by decide +kernel
theorem dL_callOff_19 : decode cL_callOff 19 = .ok (.ireturn, 1) := by decide +kernel
theorem dL_pass_0 : decode cL_pass 0 = .ok (.aload_n 2, 1) := by decide +kernel
theorem dL_pass_1 : decode cL_pass 1 = .ok (.iconst 0, 1) := by decide +kernel
theorem dL_pass_2 : decode cL_pass 2 = .ok (.aload_n 0, 1) := by decide +kernel
theorem dL_pass_3 : decode cL_pass 3 = .ok (.iload_n 1, 1) := by decide +kernel
theorem dL_pass_4 : decode cL_pass 4 = .ok (.invokevirtual 52, 3) := by decide +kernel
theorem dL_pass_7 : decode cL_pass 7 = .ok (.i2l, 1) := by decide +kernel
theorem dL_pass_8 : decode cL_pass 8 = .ok (.lastore, 1) := by decide +kernel
theorem dL_pass_9 : decode cL_pass 9 = .ok (.goto 9, 3) := by decide +kernel
theorem dL_pass_12 : decode cL_pass 12 = .ok (.astore_n 3, 1) := by decide +kernel
theorem dL_pass_13 : decode cL_pass 13 = .ok (.iconst 1, 1) := by decide +kernel
theorem dL_pass_14 : decode cL_pass 14 = .ok (.ireturn, 1) := by decide +kernel
theorem dL_pass_15 : decode cL_pass 15 = .ok (.astore_n 3, 1) := by decide +kernel
theorem dL_pass_16 : decode cL_pass 16 = .ok (.iconst 2, 1) := by decide +kernel
theorem dL_pass_17 : decode cL_pass 17 = .ok (.ireturn, 1) := by decide +kernel
theorem dL_pass_18 : decode cL_pass 18 = .ok (.iconst 0, 1) := by decide +kernel
theorem dL_pass_19 : decode cL_pass 19 = .ok (.ireturn, 1) := by decide +kernel
theorem dL_shardOf_0 : decode cL_shardOf 0 = .ok (.aload_n 2, 1) := by decide +kernel
theorem dL_shardOf_1 : decode cL_shardOf 1 = .ok (.iconst 0, 1) := by decide +kernel
theorem dL_shardOf_2 : decode cL_shardOf 2 = .ok (.aload_n 0, 1) := by decide +kernel
theorem dL_shardOf_3 : decode cL_shardOf 3 = .ok (.iload_n 1, 1) := by decide +kernel
theorem dL_shardOf_4 : decode cL_shardOf 4 = .ok (.invokevirtual 55, 3) := by decide +kernel
theorem dL_shardOf_7 : decode cL_shardOf 7 = .ok (.i2l, 1) := by decide +kernel
theorem dL_shardOf_8 : decode cL_shardOf 8 = .ok (.lastore, 1) := by decide +kernel
theorem dL_shardOf_9 : decode cL_shardOf 9 = .ok (.goto 6, 3) := by decide +kernel
theorem dL_shardOf_12 : decode cL_shardOf 12 = .ok (.astore_n 3, 1) := by decide +kernel
theorem dL_shardOf_13 : decode cL_shardOf 13 = .ok (.iconst 1, 1) := by decide +kernel
theorem dL_shardOf_14 : decode cL_shardOf 14 = .ok (.ireturn, 1) := by decide +kernel
theorem dL_shardOf_15 : decode cL_shardOf 15 = .ok (.iconst 0, 1) := by decide +kernel
theorem dL_shardOf_16 : decode cL_shardOf 16 = .ok (.ireturn, 1) := by decide +kernel
theorem dL_shard_0 : decode cL_shard 0 = .ok (.aload_n 3, 1) := by decide +kernel
theorem dL_shard_1 : decode cL_shard 1 = .ok (.iconst 0, 1) := by decide +kernel
theorem dL_shard_2 : decode cL_shard 2 = .ok (.aload_n 0, 1) := by decide +kernel
theorem dL_shard_3 : decode cL_shard 3 = .ok (.iload_n 1, 1) := by decide +kernel
theorem dL_shard_4 : decode cL_shard 4 = .ok (.iload_n 2, 1) := by decide +kernel
theorem dL_shard_5 : decode cL_shard 5 = .ok (.invokevirtual 58, 3) := by decide +kernel
theorem dL_shard_8 : decode cL_shard 8 = .ok (.i2l, 1) := by decide +kernel
theorem dL_shard_9 : decode cL_shard 9 = .ok (.lastore, 1) := by decide +kernel
theorem dL_shard_10 : decode cL_shard 10 = .ok (.goto 11, 3) := by decide +kernel
theorem dL_shard_13 : decode cL_shard 13 = .ok (.astore 4, 2) := by decide +kernel
theorem dL_shard_15 : decode cL_shard 15 = .ok (.iconst 1, 1) := by decide +kernel
theorem dL_shard_16 : decode cL_shard 16 = .ok (.ireturn, 1) := by decide +kernel
theorem dL_shard_17 : decode cL_shard 17 = .ok (.astore 4, 2) := by decide +kernel
theorem dL_shard_19 : decode cL_shard 19 = .ok (.iconst 2, 1) := by decide +kernel
theorem dL_shard_20 : decode cL_shard 20 = .ok (.ireturn, 1) := by decide +kernel
theorem dL_shard_21 : decode cL_shard 21 = .ok (.iconst 0, 1) := by decide +kernel
theorem dL_shard_22 : decode cL_shard 22 = .ok (.ireturn, 1) := by decide +kernel
theorem dL_machineOf_0 : decode cL_machineOf 0 = .ok (.aload_n 3, 1) := by decide +kernel
theorem dL_machineOf_1 : decode cL_machineOf 1 = .ok (.iconst 0, 1) := by decide +kernel
theorem dL_machineOf_2 : decode cL_machineOf 2 = .ok (.aload_n 0, 1) := by decide +kernel
theorem dL_machineOf_3 : decode cL_machineOf 3 = .ok (.iload_n 1, 1) := by decide +kernel
theorem dL_machineOf_4 : decode cL_machineOf 4 = .ok (.iload_n 2, 1) := by decide +kernel
theorem dL_machineOf_5 : decode cL_machineOf 5 = .ok (.invokevirtual 61, 3) := by decide +kernel
theorem dL_machineOf_8 : decode cL_machineOf 8 = .ok (.i2l, 1) := by decide +kernel
theorem dL_machineOf_9 : decode cL_machineOf 9 = .ok (.lastore, 1) := by decide +kernel
theorem dL_machineOf_10 : decode cL_machineOf 10 = .ok (.goto 11, 3) := by decide +kernel
theorem dL_machineOf_13 : decode cL_machineOf 13 = .ok (.astore 4, 2) := by decide +kernel
theorem dL_machineOf_15 : decode cL_machineOf 15 = .ok (.iconst 1, 1) := by decide +kernel
theorem dL_machineOf_16 : decode cL_machineOf 16 = .ok (.ireturn, 1) := by decide +kernel
theorem dL_machineOf_17 : decode cL_machineOf 17 = .ok (.astore 4, 2) := by decide +kernel
theorem dL_machineOf_19 : decode cL_machineOf 19 = .ok (.iconst 2, 1) := by decide +kernel
theorem dL_machineOf_20 : decode cL_machineOf 20 = .ok (.ireturn, 1) := by decide +kernel
theorem dL_machineOf_21 : decode cL_machineOf 21 = .ok (.iconst 0, 1) := by decide +kernel
theorem dL_machineOf_22 : decode cL_machineOf 22 = .ok (.ireturn, 1) := by decide +kernel
theorem dL_tenant_0 : decode cL_tenant 0 = .ok (.aload_n 3, 1) := by decide +kernel
theorem dL_tenant_1 : decode cL_tenant 1 = .ok (.iconst 0, 1) := by decide +kernel
theorem dL_tenant_2 : decode cL_tenant 2 = .ok (.aload_n 0, 1) := by decide +kernel
theorem dL_tenant_3 : decode cL_tenant 3 = .ok (.iload_n 1, 1) := by decide +kernel
theorem dL_tenant_4 : decode cL_tenant 4 = .ok (.iload_n 2, 1) := by decide +kernel
theorem dL_tenant_5 : decode cL_tenant 5 = .ok (.invokevirtual 64, 3) := by decide +kernel
theorem dL_tenant_8 : decode cL_tenant 8 = .ok (.i2l, 1) := by decide +kernel
theorem dL_tenant_9 : decode cL_tenant 9 = .ok (.lastore, 1) := by decide +kernel
theorem dL_tenant_10 : decode cL_tenant 10 = .ok (.goto 11, 3) := by decide +kernel
theorem dL_tenant_13 : decode cL_tenant 13 = .ok (.astore 4, 2) := by decide +kernel
theorem dL_tenant_15 : decode cL_tenant 15 = .ok (.iconst 1, 1) := by decide +kernel
theorem dL_tenant_16 : decode cL_tenant 16 = .ok (.ireturn, 1) := by decide +kernel
theorem dL_tenant_17 : decode cL_tenant 17 = .ok (.astore 4, 2) := by decide +kernel
theorem dL_tenant_19 : decode cL_tenant 19 = .ok (.iconst 2, 1) := by decide +kernel
theorem dL_tenant_20 : decode cL_tenant 20 = .ok (.ireturn, 1) := by decide +kernel
theorem dL_tenant_21 : decode cL_tenant 21 = .ok (.iconst 0, 1) := by decide +kernel
theorem dL_tenant_22 : decode cL_tenant 22 = .ok (.ireturn, 1) := by decide +kernel
theorem dL_billAnew_0 : decode cL_billAnew 0 = .ok (.aload_n 2, 1) := by decide +kernel
theorem dL_billAnew_1 : decode cL_billAnew 1 = .ok (.iconst 0, 1) := by decide +kernel
theorem dL_billAnew_2 : decode cL_billAnew 2 = .ok (.aload_n 0, 1) := by decide +kernel
theorem dL_billAnew_3 : decode cL_billAnew 3 = .ok (.iload_n 1, 1) := by decide +kernel
theorem dL_billAnew_4 : decode cL_billAnew 4 = .ok (.invokevirtual 67, 3) := by decide +kernel
theorem dL_billAnew_7 : decode cL_billAnew 7 = .ok (.i2l, 1) := by decide +kernel
theorem dL_billAnew_8 : decode cL_billAnew 8 = .ok (.lastore, 1) := by decide +kernel
theorem dL_billAnew_9 : decode cL_billAnew 9 = .ok (.goto 6, 3) := by decide +kernel
theorem dL_billAnew_12 : decode cL_billAnew 12 = .ok (.astore_n 3, 1) := by decide +kernel
theorem dL_billAnew_13 : decode cL_billAnew 13 = .ok (.iconst 1, 1) := by decide +kernel
theorem dL_billAnew_14 : decode cL_billAnew 14 = .ok (.ireturn, 1) := by decide +kernel
theorem dL_billAnew_15 : decode cL_billAnew 15 = .ok (.iconst 0, 1) := by decide +kernel
theorem dL_billAnew_16 : decode cL_billAnew 16 = .ok (.ireturn, 1) := by decide +kernel
theorem dL_whereAnew_0 : decode cL_whereAnew 0 = .ok (.aload_n 2, 1) := by decide +kernel
theorem dL_whereAnew_1 : decode cL_whereAnew 1 = .ok (.iconst 0, 1) := by decide +kernel
theorem dL_whereAnew_2 : decode cL_whereAnew 2 = .ok (.aload_n 0, 1) := by decide +kernel
theorem dL_whereAnew_3 : decode cL_whereAnew 3 = .ok (.iload_n 1, 1) := by decide +kernel
theorem dL_whereAnew_4 : decode cL_whereAnew 4 = .ok (.invokevirtual 70, 3) := by decide +kernel
theorem dL_whereAnew_7 : decode cL_whereAnew 7 = .ok (.i2l, 1) := by decide +kernel
theorem dL_whereAnew_8 : decode cL_whereAnew 8 = .ok (.lastore, 1) := by decide +kernel
theorem dL_whereAnew_9 : decode cL_whereAnew 9 = .ok (.goto 6, 3) := by decide +kernel
theorem dL_whereAnew_12 : decode cL_whereAnew 12 = .ok (.astore_n 3, 1) := by decide +kernel
theorem dL_whereAnew_13 : decode cL_whereAnew 13 = .ok (.iconst 1, 1) := by decide +kernel
theorem dL_whereAnew_14 : decode cL_whereAnew 14 = .ok (.ireturn, 1) := by decide +kernel
theorem dL_whereAnew_15 : decode cL_whereAnew 15 = .ok (.iconst 0, 1) := by decide +kernel
theorem dL_whereAnew_16 : decode cL_whereAnew 16 = .ok (.ireturn, 1) := by decide +kernel
theorem dL_law_0 : decode cL_law 0 = .ok (.new 8, 3) := by decide +kernel
theorem dL_law_3 : decode cL_law 3 = .ok (.dup, 1) := by decide +kernel
theorem dL_law_4 : decode cL_law 4 = .ok (.invokespecial 73, 3) := by decide +kernel
theorem dL_law_7 : decode cL_law 7 = .ok (.astore_n 1, 1) := by decide +kernel
theorem dL_law_8 : decode cL_law 8 = .ok (.new 74, 3) := by decide +kernel
theorem dL_law_11 : decode cL_law 11 = .ok (.dup, 1) := by decide +kernel
theorem dL_law_12 : decode cL_law 12 = .ok (.invokespecial 76, 3) := by decide +kernel
theorem dL_law_15 : decode cL_law 15 = .ok (.astore_n 2, 1) := by decide +kernel
theorem dL_law_16 : decode cL_law 16 = .ok (.iconst 1, 1) := by decide +kernel
theorem dL_law_17 : decode cL_law 17 = .ok (.newarray .long, 2) := by decide +kernel
theorem dL_law_19 : decode cL_law 19 = .ok (.astore_n 3, 1) := by decide +kernel
theorem dL_law_20 : decode cL_law 20 = .ok (.iconst 0, 1) := by decide +kernel
theorem dL_law_21 : decode cL_law 21 = .ok (.istore 4, 2) := by decide +kernel
theorem dL_law_23 : decode cL_law 23 = .ok (.iload 4, 2) := by decide +kernel
theorem dL_law_25 : decode cL_law 25 = .ok (.aload_n 0, 1) := by decide +kernel
theorem dL_law_26 : decode cL_law 26 = .ok (.arraylength, 1) := by decide +kernel
theorem dL_law_27 : decode cL_law 27 = .ok (.iconst 4, 1) := by decide +kernel
theorem dL_law_28 : decode cL_law 28 = .ok (.isub, 1) := by decide +kernel
theorem dL_law_29 : decode cL_law 29 = .ok (.if_icmp .gt 1307, 3) := by decide +kernel
theorem dL_law_32 : decode cL_law 32 = .ok (.aload_n 0, 1) := by decide +kernel
theorem dL_law_33 : decode cL_law 33 = .ok (.iload 4, 2) := by decide +kernel
theorem dL_law_35 : decode cL_law 35 = .ok (.iaload, 1) := by decide +kernel
theorem dL_law_36 : decode cL_law 36 = .ok (.bipush 31, 2) := by decide +kernel
theorem dL_law_38 : decode cL_law 38 = .ok (.iand, 1) := by decide +kernel
theorem dL_law_39 : decode cL_law 39 = .ok (.tableswitch 1291 0 20 #[97, 153, 244, 312, 368, 448, 504, 560, 616, 672, 740, 796, 852, 865, 878, 934, 1002, 1070, 1138, 1194, 1250], 97) := by decide +kernel
theorem dL_law_136 : decode cL_law 136 = .ok (.aload_n 1, 1) := by decide +kernel
theorem dL_law_137 : decode cL_law 137 = .ok (.aload_n 0, 1) := by decide +kernel
theorem dL_law_138 : decode cL_law 138 = .ok (.iload 4, 2) := by decide +kernel
theorem dL_law_140 : decode cL_law 140 = .ok (.iconst 1, 1) := by decide +kernel
theorem dL_law_141 : decode cL_law 141 = .ok (.iadd, 1) := by decide +kernel
theorem dL_law_142 : decode cL_law 142 = .ok (.iaload, 1) := by decide +kernel
theorem dL_law_143 : decode cL_law 143 = .ok (.aload_n 3, 1) := by decide +kernel
theorem dL_law_144 : decode cL_law 144 = .ok (.invokestatic 77, 3) := by decide +kernel
theorem dL_law_147 : decode cL_law 147 = .ok (.istore 5, 2) := by decide +kernel
theorem dL_law_149 : decode cL_law 149 = .ok (.aload_n 2, 1) := by decide +kernel
theorem dL_law_150 : decode cL_law 150 = .ok (.aload_n 0, 1) := by decide +kernel
theorem dL_law_151 : decode cL_law 151 = .ok (.iload 4, 2) := by decide +kernel
theorem dL_law_153 : decode cL_law 153 = .ok (.iconst 1, 1) := by decide +kernel
theorem dL_law_154 : decode cL_law 154 = .ok (.iadd, 1) := by decide +kernel
theorem dL_law_155 : decode cL_law 155 = .ok (.iaload, 1) := by decide +kernel
theorem dL_law_156 : decode cL_law 156 = .ok (.invokevirtual 82, 3) := by decide +kernel
theorem dL_law_159 : decode cL_law 159 = .ok (.istore 6, 2) := by decide +kernel
theorem dL_law_161 : decode cL_law 161 = .ok (.aload_n 2, 1) := by decide +kernel
theorem dL_law_162 : decode cL_law 162 = .ok (.invokevirtual 83, 3) := by decide +kernel
theorem dL_law_165 : decode cL_law 165 = .ok (.iload 5, 2) := by decide +kernel
theorem dL_law_167 : decode cL_law 167 = .ok (.if_icmp .eq 5, 3) := by decide +kernel
theorem dL_law_170 : decode cL_law 170 = .ok (.iconst 0, 1) := by decide +kernel
theorem dL_law_171 : decode cL_law 171 = .ok (.ireturn, 1) := by decide +kernel
theorem dL_law_172 : decode cL_law 172 = .ok (.iload 5, 2) := by decide +kernel
theorem dL_law_174 : decode cL_law 174 = .ok (.ifCond .ne 15, 3) := by decide +kernel
theorem dL_law_177 : decode cL_law 177 = .ok (.aload_n 3, 1) := by decide +kernel
theorem dL_law_178 : decode cL_law 178 = .ok (.iconst 0, 1) := by decide +kernel
theorem dL_law_179 : decode cL_law 179 = .ok (.laload, 1) := by decide +kernel
theorem dL_law_180 : decode cL_law 180 = .ok (.iload 6, 2) := by decide +kernel
theorem dL_law_182 : decode cL_law 182 = .ok (.i2l, 1) := by decide +kernel
theorem dL_law_183 : decode cL_law 183 = .ok (.lcmp, 1) := by decide +kernel
theorem dL_law_184 : decode cL_law 184 = .ok (.ifCond .eq 5, 3) := by decide +kernel
theorem dL_law_187 : decode cL_law 187 = .ok (.iconst 0, 1) := by decide +kernel
theorem dL_law_188 : decode cL_law 188 = .ok (.ireturn, 1) := by decide +kernel
theorem dL_law_189 : decode cL_law 189 = .ok (.goto 1141, 3) := by decide +kernel
theorem dL_law_192 : decode cL_law 192 = .ok (.aload_n 1, 1) := by decide +kernel
theorem dL_law_193 : decode cL_law 193 = .ok (.aload_n 0, 1) := by decide +kernel
theorem dL_law_194 : decode cL_law 194 = .ok (.iload 4, 2) := by decide +kernel
theorem dL_law_196 : decode cL_law 196 = .ok (.iconst 1, 1) := by decide +kernel
theorem dL_law_197 : decode cL_law 197 = .ok (.iadd, 1) := by decide +kernel
theorem dL_law_198 : decode cL_law 198 = .ok (.iaload, 1) := by decide +kernel
theorem dL_law_199 : decode cL_law 199 = .ok (.aload_n 0, 1) := by decide +kernel
theorem dL_law_200 : decode cL_law 200 = .ok (.iload 4, 2) := by decide +kernel
theorem dL_law_202 : decode cL_law 202 = .ok (.iconst 2, 1) := by decide +kernel
theorem dL_law_203 : decode cL_law 203 = .ok (.iadd, 1) := by decide +kernel
theorem dL_law_204 : decode cL_law 204 = .ok (.iaload, 1) := by decide +kernel
theorem dL_law_205 : decode cL_law 205 = .ok (.ifCond .eq 7, 3) := by decide +kernel
theorem dL_law_208 : decode cL_law 208 = .ok (.iconst 1, 1) := by decide +kernel
theorem dL_law_209 : decode cL_law 209 = .ok (.goto 4, 3) := by decide +kernel
theorem dL_law_212 : decode cL_law 212 = .ok (.iconst 0, 1) := by decide +kernel
theorem dL_law_213 : decode cL_law 213 = .ok (.aload_n 3, 1) := by decide +kernel
theorem dL_law_214 : decode cL_law 214 = .ok (.invokestatic 87, 3) := by decide +kernel
theorem dL_law_217 : decode cL_law 217 = .ok (.istore 5, 2) := by decide +kernel
theorem dL_law_219 : decode cL_law 219 = .ok (.aload_n 2, 1) := by decide +kernel
theorem dL_law_220 : decode cL_law 220 = .ok (.aload_n 0, 1) := by decide +kernel
theorem dL_law_221 : decode cL_law 221 = .ok (.iload 4, 2) := by decide +kernel
theorem dL_law_223 : decode cL_law 223 = .ok (.iconst 1, 1) := by decide +kernel
theorem dL_law_224 : decode cL_law 224 = .ok (.iadd, 1) := by decide +kernel
theorem dL_law_225 : decode cL_law 225 = .ok (.iaload, 1) := by decide +kernel
theorem dL_law_226 : decode cL_law 226 = .ok (.aload_n 0, 1) := by decide +kernel
theorem dL_law_227 : decode cL_law 227 = .ok (.iload 4, 2) := by decide +kernel
theorem dL_law_229 : decode cL_law 229 = .ok (.iconst 2, 1) := by decide +kernel
theorem dL_law_230 : decode cL_law 230 = .ok (.iadd, 1) := by decide +kernel
theorem dL_law_231 : decode cL_law 231 = .ok (.iaload, 1) := by decide +kernel
theorem dL_law_232 : decode cL_law 232 = .ok (.ifCond .eq 7, 3) := by decide +kernel
theorem dL_law_235 : decode cL_law 235 = .ok (.iconst 1, 1) := by decide +kernel
theorem dL_law_236 : decode cL_law 236 = .ok (.goto 4, 3) := by decide +kernel
theorem dL_law_239 : decode cL_law 239 = .ok (.iconst 0, 1) := by decide +kernel
theorem dL_law_240 : decode cL_law 240 = .ok (.invokevirtual 90, 3) := by decide +kernel
theorem dL_law_243 : decode cL_law 243 = .ok (.istore 6, 2) := by decide +kernel
theorem dL_law_245 : decode cL_law 245 = .ok (.aload_n 2, 1) := by decide +kernel
theorem dL_law_246 : decode cL_law 246 = .ok (.invokevirtual 83, 3) := by decide +kernel
theorem dL_law_249 : decode cL_law 249 = .ok (.iload 5, 2) := by decide +kernel
theorem dL_law_251 : decode cL_law 251 = .ok (.if_icmp .eq 5, 3) := by decide +kernel
theorem dL_law_254 : decode cL_law 254 = .ok (.iconst 0, 1) := by decide +kernel
theorem dL_law_255 : decode cL_law 255 = .ok (.ireturn, 1) := by decide +kernel
theorem dL_law_256 : decode cL_law 256 = .ok (.iload 5, 2) := by decide +kernel
theorem dL_law_258 : decode cL_law 258 = .ok (.ifCond .ne 22, 3) := by decide +kernel
theorem dL_law_261 : decode cL_law 261 = .ok (.aload_n 3, 1) := by decide +kernel
theorem dL_law_262 : decode cL_law 262 = .ok (.iconst 0, 1) := by decide +kernel
theorem dL_law_263 : decode cL_law 263 = .ok (.laload, 1) := by decide +kernel
theorem dL_law_264 : decode cL_law 264 = .ok (.iload 6, 2) := by decide +kernel
theorem dL_law_266 : decode cL_law 266 = .ok (.ifCond .eq 7, 3) := by decide +kernel
theorem dL_law_269 : decode cL_law 269 = .ok (.lconst 1, 1) := by decide +kernel
theorem dL_law_270 : decode cL_law 270 = .ok (.goto 4, 3) := by decide +kernel
theorem dL_law_273 : decode cL_law 273 = .ok (.lconst 0, 1) := by decide +kernel
theorem dL_law_274 : decode cL_law 274 = .ok (.lcmp, 1) := by decide +kernel
theorem dL_law_275 : decode cL_law 275 = .ok (.ifCond .eq 5, 3) := by decide +kernel
theorem dL_law_278 : decode cL_law 278 = .ok (.iconst 0, 1) := by decide +kernel
theorem dL_law_279 : decode cL_law 279 = .ok (.ireturn, 1) := by decide +kernel
theorem dL_law_280 : decode cL_law 280 = .ok (.goto 1050, 3) := by decide +kernel
theorem dL_law_283 : decode cL_law 283 = .ok (.aload_n 1, 1) := by decide +kernel
theorem dL_law_284 : decode cL_law 284 = .ok (.aload_n 0, 1) := by decide +kernel
theorem dL_law_285 : decode cL_law 285 = .ok (.iload 4, 2) := by decide +kernel
theorem dL_law_287 : decode cL_law 287 = .ok (.iconst 1, 1) := by decide +kernel
theorem dL_law_288 : decode cL_law 288 = .ok (.iadd, 1) := by decide +kernel
theorem dL_law_289 : decode cL_law 289 = .ok (.iaload, 1) := by decide +kernel
theorem dL_law_290 : decode cL_law 290 = .ok (.aload_n 0, 1) := by decide +kernel
theorem dL_law_291 : decode cL_law 291 = .ok (.iload 4, 2) := by decide +kernel
theorem dL_law_293 : decode cL_law 293 = .ok (.iconst 2, 1) := by decide +kernel
theorem dL_law_294 : decode cL_law 294 = .ok (.iadd, 1) := by decide +kernel
theorem dL_law_295 : decode cL_law 295 = .ok (.iaload, 1) := by decide +kernel
theorem dL_law_296 : decode cL_law 296 = .ok (.aload_n 3, 1) := by decide +kernel
theorem dL_law_297 : decode cL_law 297 = .ok (.invokestatic 91, 3) := by decide +kernel
theorem dL_law_300 : decode cL_law 300 = .ok (.istore 5, 2) := by decide +kernel
theorem dL_law_302 : decode cL_law 302 = .ok (.aload_n 2, 1) := by decide +kernel
theorem dL_law_303 : decode cL_law 303 = .ok (.aload_n 0, 1) := by decide +kernel
theorem dL_law_304 : decode cL_law 304 = .ok (.iload 4, 2) := by decide +kernel
theorem dL_law_306 : decode cL_law 306 = .ok (.iconst 1, 1) := by decide +kernel
theorem dL_law_307 : decode cL_law 307 = .ok (.iadd, 1) := by decide +kernel
theorem dL_law_308 : decode cL_law 308 = .ok (.iaload, 1) := by decide +kernel
theorem dL_law_309 : decode cL_law 309 = .ok (.aload_n 0, 1) := by decide +kernel
theorem dL_law_310 : decode cL_law 310 = .ok (.iload 4, 2) := by decide +kernel
theorem dL_law_312 : decode cL_law 312 = .ok (.iconst 2, 1) := by decide +kernel
theorem dL_law_313 : decode cL_law 313 = .ok (.iadd, 1) := by decide +kernel
theorem dL_law_314 : decode cL_law 314 = .ok (.iaload, 1) := by decide +kernel
theorem dL_law_315 : decode cL_law 315 = .ok (.invokevirtual 94, 3) := by decide +kernel
theorem dL_law_318 : decode cL_law 318 = .ok (.istore 6, 2) := by decide +kernel
theorem dL_law_320 : decode cL_law 320 = .ok (.aload_n 2, 1) := by decide +kernel
theorem dL_law_321 : decode cL_law 321 = .ok (.invokevirtual 83, 3) := by decide +kernel
theorem dL_law_324 : decode cL_law 324 = .ok (.iload 5, 2) := by decide +kernel
theorem dL_law_326 : decode cL_law 326 = .ok (.if_icmp .eq 5, 3) := by decide +kernel
theorem dL_law_329 : decode cL_law 329 = .ok (.iconst 0, 1) := by decide +kernel
theorem dL_law_330 : decode cL_law 330 = .ok (.ireturn, 1) := by decide +kernel
theorem dL_law_331 : decode cL_law 331 = .ok (.iload 5, 2) := by decide +kernel
theorem dL_law_333 : decode cL_law 333 = .ok (.ifCond .ne 15, 3) := by decide +kernel
theorem dL_law_336 : decode cL_law 336 = .ok (.aload_n 3, 1) := by decide +kernel
theorem dL_law_337 : decode cL_law 337 = .ok (.iconst 0, 1) := by decide +kernel
theorem dL_law_338 : decode cL_law 338 = .ok (.laload, 1) := by decide +kernel
theorem dL_law_339 : decode cL_law 339 = .ok (.iload 6, 2) := by decide +kernel
theorem dL_law_341 : decode cL_law 341 = .ok (.i2l, 1) := by decide +kernel
theorem dL_law_342 : decode cL_law 342 = .ok (.lcmp, 1) := by decide +kernel
theorem dL_law_343 : decode cL_law 343 = .ok (.ifCond .eq 5, 3) := by decide +kernel
theorem dL_law_346 : decode cL_law 346 = .ok (.iconst 0, 1) := by decide +kernel
theorem dL_law_347 : decode cL_law 347 = .ok (.ireturn, 1) := by decide +kernel
theorem dL_law_348 : decode cL_law 348 = .ok (.goto 982, 3) := by decide +kernel
theorem dL_law_351 : decode cL_law 351 = .ok (.aload_n 1, 1) := by decide +kernel
theorem dL_law_352 : decode cL_law 352 = .ok (.aload_n 0, 1) := by decide +kernel
theorem dL_law_353 : decode cL_law 353 = .ok (.iload 4, 2) := by decide +kernel
theorem dL_law_355 : decode cL_law 355 = .ok (.iconst 1, 1) := by decide +kernel
theorem dL_law_356 : decode cL_law 356 = .ok (.iadd, 1) := by decide +kernel
theorem dL_law_357 : decode cL_law 357 = .ok (.iaload, 1) := by decide +kernel
theorem dL_law_358 : decode cL_law 358 = .ok (.aload_n 3, 1) := by decide +kernel
theorem dL_law_359 : decode cL_law 359 = .ok (.invokestatic 95, 3) := by decide +kernel
theorem dL_law_362 : decode cL_law 362 = .ok (.istore 5, 2) := by decide +kernel
theorem dL_law_364 : decode cL_law 364 = .ok (.aload_n 2, 1) := by decide +kernel
theorem dL_law_365 : decode cL_law 365 = .ok (.aload_n 0, 1) := by decide +kernel
theorem dL_law_366 : decode cL_law 366 = .ok (.iload 4, 2) := by decide +kernel
theorem dL_law_368 : decode cL_law 368 = .ok (.iconst 1, 1) := by decide +kernel
theorem dL_law_369 : decode cL_law 369 = .ok (.iadd, 1) := by decide +kernel
theorem dL_law_370 : decode cL_law 370 = .ok (.iaload, 1) := by decide +kernel
theorem dL_law_371 : decode cL_law 371 = .ok (.invokevirtual 97, 3) := by decide +kernel
theorem dL_law_374 : decode cL_law 374 = .ok (.istore 6, 2) := by decide +kernel
theorem dL_law_376 : decode cL_law 376 = .ok (.aload_n 2, 1) := by decide +kernel
theorem dL_law_377 : decode cL_law 377 = .ok (.invokevirtual 83, 3) := by decide +kernel
theorem dL_law_380 : decode cL_law 380 = .ok (.iload 5, 2) := by decide +kernel
theorem dL_law_382 : decode cL_law 382 = .ok (.if_icmp .eq 5, 3) := by decide +kernel
theorem dL_law_385 : decode cL_law 385 = .ok (.iconst 0, 1) := by decide +kernel
theorem dL_law_386 : decode cL_law 386 = .ok (.ireturn, 1) := by decide +kernel
theorem dL_law_387 : decode cL_law 387 = .ok (.iload 5, 2) := by decide +kernel
theorem dL_law_389 : decode cL_law 389 = .ok (.ifCond .ne 15, 3) := by decide +kernel
theorem dL_law_392 : decode cL_law 392 = .ok (.aload_n 3, 1) := by decide +kernel
theorem dL_law_393 : decode cL_law 393 = .ok (.iconst 0, 1) := by decide +kernel
theorem dL_law_394 : decode cL_law 394 = .ok (.laload, 1) := by decide +kernel
theorem dL_law_395 : decode cL_law 395 = .ok (.iload 6, 2) := by decide +kernel
theorem dL_law_397 : decode cL_law 397 = .ok (.i2l, 1) := by decide +kernel
theorem dL_law_398 : decode cL_law 398 = .ok (.lcmp, 1) := by decide +kernel
theorem dL_law_399 : decode cL_law 399 = .ok (.ifCond .eq 5, 3) := by decide +kernel
theorem dL_law_402 : decode cL_law 402 = .ok (.iconst 0, 1) := by decide +kernel
theorem dL_law_403 : decode cL_law 403 = .ok (.ireturn, 1) := by decide +kernel
theorem dL_law_404 : decode cL_law 404 = .ok (.goto 926, 3) := by decide +kernel
theorem dL_law_407 : decode cL_law 407 = .ok (.aload_n 1, 1) := by decide +kernel
theorem dL_law_408 : decode cL_law 408 = .ok (.aload_n 0, 1) := by decide +kernel
theorem dL_law_409 : decode cL_law 409 = .ok (.iload 4, 2) := by decide +kernel
theorem dL_law_411 : decode cL_law 411 = .ok (.iconst 1, 1) := by decide +kernel
theorem dL_law_412 : decode cL_law 412 = .ok (.iadd, 1) := by decide +kernel
theorem dL_law_413 : decode cL_law 413 = .ok (.iaload, 1) := by decide +kernel
theorem dL_law_414 : decode cL_law 414 = .ok (.aload_n 0, 1) := by decide +kernel
theorem dL_law_415 : decode cL_law 415 = .ok (.iload 4, 2) := by decide +kernel
theorem dL_law_417 : decode cL_law 417 = .ok (.iconst 2, 1) := by decide +kernel
theorem dL_law_418 : decode cL_law 418 = .ok (.iadd, 1) := by decide +kernel
theorem dL_law_419 : decode cL_law 419 = .ok (.iaload, 1) := by decide +kernel
theorem dL_law_420 : decode cL_law 420 = .ok (.aload_n 0, 1) := by decide +kernel
theorem dL_law_421 : decode cL_law 421 = .ok (.iload 4, 2) := by decide +kernel
theorem dL_law_423 : decode cL_law 423 = .ok (.iconst 3, 1) := by decide +kernel
theorem dL_law_424 : decode cL_law 424 = .ok (.iadd, 1) := by decide +kernel
theorem dL_law_425 : decode cL_law 425 = .ok (.iaload, 1) := by decide +kernel
theorem dL_law_426 : decode cL_law 426 = .ok (.aload_n 3, 1) := by decide +kernel
theorem dL_law_427 : decode cL_law 427 = .ok (.invokestatic 98, 3) := by decide +kernel
theorem dL_law_430 : decode cL_law 430 = .ok (.istore 5, 2) := by decide +kernel
theorem dL_law_432 : decode cL_law 432 = .ok (.aload_n 2, 1) := by decide +kernel
theorem dL_law_433 : decode cL_law 433 = .ok (.aload_n 0, 1) := by decide +kernel
theorem dL_law_434 : decode cL_law 434 = .ok (.iload 4, 2) := by decide +kernel
theorem dL_law_436 : decode cL_law 436 = .ok (.iconst 1, 1) := by decide +kernel
theorem dL_law_437 : decode cL_law 437 = .ok (.iadd, 1) := by decide +kernel
theorem dL_law_438 : decode cL_law 438 = .ok (.iaload, 1) := by decide +kernel
theorem dL_law_439 : decode cL_law 439 = .ok (.aload_n 0, 1) := by decide +kernel
theorem dL_law_440 : decode cL_law 440 = .ok (.iload 4, 2) := by decide +kernel
theorem dL_law_442 : decode cL_law 442 = .ok (.iconst 2, 1) := by decide +kernel
theorem dL_law_443 : decode cL_law 443 = .ok (.iadd, 1) := by decide +kernel
theorem dL_law_444 : decode cL_law 444 = .ok (.iaload, 1) := by decide +kernel
theorem dL_law_445 : decode cL_law 445 = .ok (.aload_n 0, 1) := by decide +kernel
theorem dL_law_446 : decode cL_law 446 = .ok (.iload 4, 2) := by decide +kernel
theorem dL_law_448 : decode cL_law 448 = .ok (.iconst 3, 1) := by decide +kernel
theorem dL_law_449 : decode cL_law 449 = .ok (.iadd, 1) := by decide +kernel
theorem dL_law_450 : decode cL_law 450 = .ok (.iaload, 1) := by decide +kernel
theorem dL_law_451 : decode cL_law 451 = .ok (.invokevirtual 101, 3) := by decide +kernel
theorem dL_law_454 : decode cL_law 454 = .ok (.istore 6, 2) := by decide +kernel
theorem dL_law_456 : decode cL_law 456 = .ok (.aload_n 2, 1) := by decide +kernel
theorem dL_law_457 : decode cL_law 457 = .ok (.invokevirtual 83, 3) := by decide +kernel
theorem dL_law_460 : decode cL_law 460 = .ok (.iload 5, 2) := by decide +kernel
theorem dL_law_462 : decode cL_law 462 = .ok (.if_icmp .eq 5, 3) := by decide +kernel
theorem dL_law_465 : decode cL_law 465 = .ok (.iconst 0, 1) := by decide +kernel
theorem dL_law_466 : decode cL_law 466 = .ok (.ireturn, 1) := by decide +kernel
theorem dL_law_467 : decode cL_law 467 = .ok (.iload 5, 2) := by decide +kernel
theorem dL_law_469 : decode cL_law 469 = .ok (.ifCond .ne 15, 3) := by decide +kernel
theorem dL_law_472 : decode cL_law 472 = .ok (.aload_n 3, 1) := by decide +kernel
theorem dL_law_473 : decode cL_law 473 = .ok (.iconst 0, 1) := by decide +kernel
theorem dL_law_474 : decode cL_law 474 = .ok (.laload, 1) := by decide +kernel
theorem dL_law_475 : decode cL_law 475 = .ok (.iload 6, 2) := by decide +kernel
theorem dL_law_477 : decode cL_law 477 = .ok (.i2l, 1) := by decide +kernel
theorem dL_law_478 : decode cL_law 478 = .ok (.lcmp, 1) := by decide +kernel
theorem dL_law_479 : decode cL_law 479 = .ok (.ifCond .eq 5, 3) := by decide +kernel
theorem dL_law_482 : decode cL_law 482 = .ok (.iconst 0, 1) := by decide +kernel
theorem dL_law_483 : decode cL_law 483 = .ok (.ireturn, 1) := by decide +kernel
theorem dL_law_484 : decode cL_law 484 = .ok (.goto 846, 3) := by decide +kernel
theorem dL_law_487 : decode cL_law 487 = .ok (.aload_n 1, 1) := by decide +kernel
theorem dL_law_488 : decode cL_law 488 = .ok (.aload_n 0, 1) := by decide +kernel
theorem dL_law_489 : decode cL_law 489 = .ok (.iload 4, 2) := by decide +kernel
theorem dL_law_491 : decode cL_law 491 = .ok (.iconst 1, 1) := by decide +kernel
theorem dL_law_492 : decode cL_law 492 = .ok (.iadd, 1) := by decide +kernel
theorem dL_law_493 : decode cL_law 493 = .ok (.iaload, 1) := by decide +kernel
theorem dL_law_494 : decode cL_law 494 = .ok (.aload_n 3, 1) := by decide +kernel
theorem dL_law_495 : decode cL_law 495 = .ok (.invokestatic 102, 3) := by decide +kernel
theorem dL_law_498 : decode cL_law 498 = .ok (.istore 5, 2) := by decide +kernel
theorem dL_law_500 : decode cL_law 500 = .ok (.aload_n 2, 1) := by decide +kernel
theorem dL_law_501 : decode cL_law 501 = .ok (.aload_n 0, 1) := by decide +kernel
theorem dL_law_502 : decode cL_law 502 = .ok (.iload 4, 2) := by decide +kernel
theorem dL_law_504 : decode cL_law 504 = .ok (.iconst 1, 1) := by decide +kernel
theorem dL_law_505 : decode cL_law 505 = .ok (.iadd, 1) := by decide +kernel
theorem dL_law_506 : decode cL_law 506 = .ok (.iaload, 1) := by decide +kernel
theorem dL_law_507 : decode cL_law 507 = .ok (.invokevirtual 104, 3) := by decide +kernel
theorem dL_law_510 : decode cL_law 510 = .ok (.istore 6, 2) := by decide +kernel
theorem dL_law_512 : decode cL_law 512 = .ok (.aload_n 2, 1) := by decide +kernel
theorem dL_law_513 : decode cL_law 513 = .ok (.invokevirtual 83, 3) := by decide +kernel
theorem dL_law_516 : decode cL_law 516 = .ok (.iload 5, 2) := by decide +kernel
theorem dL_law_518 : decode cL_law 518 = .ok (.if_icmp .eq 5, 3) := by decide +kernel
theorem dL_law_521 : decode cL_law 521 = .ok (.iconst 0, 1) := by decide +kernel
theorem dL_law_522 : decode cL_law 522 = .ok (.ireturn, 1) := by decide +kernel
theorem dL_law_523 : decode cL_law 523 = .ok (.iload 5, 2) := by decide +kernel
theorem dL_law_525 : decode cL_law 525 = .ok (.ifCond .ne 15, 3) := by decide +kernel
theorem dL_law_528 : decode cL_law 528 = .ok (.aload_n 3, 1) := by decide +kernel
theorem dL_law_529 : decode cL_law 529 = .ok (.iconst 0, 1) := by decide +kernel
theorem dL_law_530 : decode cL_law 530 = .ok (.laload, 1) := by decide +kernel
theorem dL_law_531 : decode cL_law 531 = .ok (.iload 6, 2) := by decide +kernel
theorem dL_law_533 : decode cL_law 533 = .ok (.i2l, 1) := by decide +kernel
theorem dL_law_534 : decode cL_law 534 = .ok (.lcmp, 1) := by decide +kernel
theorem dL_law_535 : decode cL_law 535 = .ok (.ifCond .eq 5, 3) := by decide +kernel
theorem dL_law_538 : decode cL_law 538 = .ok (.iconst 0, 1) := by decide +kernel
theorem dL_law_539 : decode cL_law 539 = .ok (.ireturn, 1) := by decide +kernel
theorem dL_law_540 : decode cL_law 540 = .ok (.goto 790, 3) := by decide +kernel
theorem dL_law_543 : decode cL_law 543 = .ok (.aload_n 1, 1) := by decide +kernel
theorem dL_law_544 : decode cL_law 544 = .ok (.aload_n 0, 1) := by decide +kernel
theorem dL_law_545 : decode cL_law 545 = .ok (.iload 4, 2) := by decide +kernel
theorem dL_law_547 : decode cL_law 547 = .ok (.iconst 1, 1) := by decide +kernel
theorem dL_law_548 : decode cL_law 548 = .ok (.iadd, 1) := by decide +kernel
theorem dL_law_549 : decode cL_law 549 = .ok (.iaload, 1) := by decide +kernel
theorem dL_law_550 : decode cL_law 550 = .ok (.aload_n 3, 1) := by decide +kernel
theorem dL_law_551 : decode cL_law 551 = .ok (.invokestatic 105, 3) := by decide +kernel
theorem dL_law_554 : decode cL_law 554 = .ok (.istore 5, 2) := by decide +kernel
theorem dL_law_556 : decode cL_law 556 = .ok (.aload_n 2, 1) := by decide +kernel
theorem dL_law_557 : decode cL_law 557 = .ok (.aload_n 0, 1) := by decide +kernel
theorem dL_law_558 : decode cL_law 558 = .ok (.iload 4, 2) := by decide +kernel
theorem dL_law_560 : decode cL_law 560 = .ok (.iconst 1, 1) := by decide +kernel
theorem dL_law_561 : decode cL_law 561 = .ok (.iadd, 1) := by decide +kernel
theorem dL_law_562 : decode cL_law 562 = .ok (.iaload, 1) := by decide +kernel
theorem dL_law_563 : decode cL_law 563 = .ok (.invokevirtual 107, 3) := by decide +kernel
theorem dL_law_566 : decode cL_law 566 = .ok (.istore 6, 2) := by decide +kernel
theorem dL_law_568 : decode cL_law 568 = .ok (.aload_n 2, 1) := by decide +kernel
theorem dL_law_569 : decode cL_law 569 = .ok (.invokevirtual 83, 3) := by decide +kernel
theorem dL_law_572 : decode cL_law 572 = .ok (.iload 5, 2) := by decide +kernel
theorem dL_law_574 : decode cL_law 574 = .ok (.if_icmp .eq 5, 3) := by decide +kernel
theorem dL_law_577 : decode cL_law 577 = .ok (.iconst 0, 1) := by decide +kernel
theorem dL_law_578 : decode cL_law 578 = .ok (.ireturn, 1) := by decide +kernel
theorem dL_law_579 : decode cL_law 579 = .ok (.iload 5, 2) := by decide +kernel
theorem dL_law_581 : decode cL_law 581 = .ok (.ifCond .ne 15, 3) := by decide +kernel
theorem dL_law_584 : decode cL_law 584 = .ok (.aload_n 3, 1) := by decide +kernel
theorem dL_law_585 : decode cL_law 585 = .ok (.iconst 0, 1) := by decide +kernel
theorem dL_law_586 : decode cL_law 586 = .ok (.laload, 1) := by decide +kernel
theorem dL_law_587 : decode cL_law 587 = .ok (.iload 6, 2) := by decide +kernel
theorem dL_law_589 : decode cL_law 589 = .ok (.i2l, 1) := by decide +kernel
theorem dL_law_590 : decode cL_law 590 = .ok (.lcmp, 1) := by decide +kernel
theorem dL_law_591 : decode cL_law 591 = .ok (.ifCond .eq 5, 3) := by decide +kernel
theorem dL_law_594 : decode cL_law 594 = .ok (.iconst 0, 1) := by decide +kernel
theorem dL_law_595 : decode cL_law 595 = .ok (.ireturn, 1) := by decide +kernel
theorem dL_law_596 : decode cL_law 596 = .ok (.goto 734, 3) := by decide +kernel
theorem dL_law_599 : decode cL_law 599 = .ok (.aload_n 1, 1) := by decide +kernel
theorem dL_law_600 : decode cL_law 600 = .ok (.aload_n 0, 1) := by decide +kernel
theorem dL_law_601 : decode cL_law 601 = .ok (.iload 4, 2) := by decide +kernel
theorem dL_law_603 : decode cL_law 603 = .ok (.iconst 1, 1) := by decide +kernel
theorem dL_law_604 : decode cL_law 604 = .ok (.iadd, 1) := by decide +kernel
theorem dL_law_605 : decode cL_law 605 = .ok (.iaload, 1) := by decide +kernel
theorem dL_law_606 : decode cL_law 606 = .ok (.aload_n 3, 1) := by decide +kernel
theorem dL_law_607 : decode cL_law 607 = .ok (.invokestatic 108, 3) := by decide +kernel
theorem dL_law_610 : decode cL_law 610 = .ok (.istore 5, 2) := by decide +kernel
theorem dL_law_612 : decode cL_law 612 = .ok (.aload_n 2, 1) := by decide +kernel
theorem dL_law_613 : decode cL_law 613 = .ok (.aload_n 0, 1) := by decide +kernel
theorem dL_law_614 : decode cL_law 614 = .ok (.iload 4, 2) := by decide +kernel
theorem dL_law_616 : decode cL_law 616 = .ok (.iconst 1, 1) := by decide +kernel
theorem dL_law_617 : decode cL_law 617 = .ok (.iadd, 1) := by decide +kernel
theorem dL_law_618 : decode cL_law 618 = .ok (.iaload, 1) := by decide +kernel
theorem dL_law_619 : decode cL_law 619 = .ok (.invokevirtual 110, 3) := by decide +kernel
theorem dL_law_622 : decode cL_law 622 = .ok (.istore 6, 2) := by decide +kernel
theorem dL_law_624 : decode cL_law 624 = .ok (.aload_n 2, 1) := by decide +kernel
theorem dL_law_625 : decode cL_law 625 = .ok (.invokevirtual 83, 3) := by decide +kernel
theorem dL_law_628 : decode cL_law 628 = .ok (.iload 5, 2) := by decide +kernel
theorem dL_law_630 : decode cL_law 630 = .ok (.if_icmp .eq 5, 3) := by decide +kernel
theorem dL_law_633 : decode cL_law 633 = .ok (.iconst 0, 1) := by decide +kernel
theorem dL_law_634 : decode cL_law 634 = .ok (.ireturn, 1) := by decide +kernel
theorem dL_law_635 : decode cL_law 635 = .ok (.iload 5, 2) := by decide +kernel
theorem dL_law_637 : decode cL_law 637 = .ok (.ifCond .ne 15, 3) := by decide +kernel
theorem dL_law_640 : decode cL_law 640 = .ok (.aload_n 3, 1) := by decide +kernel
theorem dL_law_641 : decode cL_law 641 = .ok (.iconst 0, 1) := by decide +kernel
theorem dL_law_642 : decode cL_law 642 = .ok (.laload, 1) := by decide +kernel
theorem dL_law_643 : decode cL_law 643 = .ok (.iload 6, 2) := by decide +kernel
theorem dL_law_645 : decode cL_law 645 = .ok (.i2l, 1) := by decide +kernel
theorem dL_law_646 : decode cL_law 646 = .ok (.lcmp, 1) := by decide +kernel
theorem dL_law_647 : decode cL_law 647 = .ok (.ifCond .eq 5, 3) := by decide +kernel
theorem dL_law_650 : decode cL_law 650 = .ok (.iconst 0, 1) := by decide +kernel
theorem dL_law_651 : decode cL_law 651 = .ok (.ireturn, 1) := by decide +kernel
theorem dL_law_652 : decode cL_law 652 = .ok (.goto 678, 3) := by decide +kernel
theorem dL_law_655 : decode cL_law 655 = .ok (.aload_n 1, 1) := by decide +kernel
theorem dL_law_656 : decode cL_law 656 = .ok (.aload_n 0, 1) := by decide +kernel
theorem dL_law_657 : decode cL_law 657 = .ok (.iload 4, 2) := by decide +kernel
theorem dL_law_659 : decode cL_law 659 = .ok (.iconst 1, 1) := by decide +kernel
theorem dL_law_660 : decode cL_law 660 = .ok (.iadd, 1) := by decide +kernel
theorem dL_law_661 : decode cL_law 661 = .ok (.iaload, 1) := by decide +kernel
theorem dL_law_662 : decode cL_law 662 = .ok (.aload_n 3, 1) := by decide +kernel
theorem dL_law_663 : decode cL_law 663 = .ok (.invokestatic 111, 3) := by decide +kernel
theorem dL_law_666 : decode cL_law 666 = .ok (.istore 5, 2) := by decide +kernel
theorem dL_law_668 : decode cL_law 668 = .ok (.aload_n 2, 1) := by decide +kernel
theorem dL_law_669 : decode cL_law 669 = .ok (.aload_n 0, 1) := by decide +kernel
theorem dL_law_670 : decode cL_law 670 = .ok (.iload 4, 2) := by decide +kernel
theorem dL_law_672 : decode cL_law 672 = .ok (.iconst 1, 1) := by decide +kernel
theorem dL_law_673 : decode cL_law 673 = .ok (.iadd, 1) := by decide +kernel
theorem dL_law_674 : decode cL_law 674 = .ok (.iaload, 1) := by decide +kernel
theorem dL_law_675 : decode cL_law 675 = .ok (.invokevirtual 113, 3) := by decide +kernel
theorem dL_law_678 : decode cL_law 678 = .ok (.istore 6, 2) := by decide +kernel
theorem dL_law_680 : decode cL_law 680 = .ok (.aload_n 2, 1) := by decide +kernel
theorem dL_law_681 : decode cL_law 681 = .ok (.invokevirtual 83, 3) := by decide +kernel
theorem dL_law_684 : decode cL_law 684 = .ok (.iload 5, 2) := by decide +kernel
theorem dL_law_686 : decode cL_law 686 = .ok (.if_icmp .eq 5, 3) := by decide +kernel
theorem dL_law_689 : decode cL_law 689 = .ok (.iconst 0, 1) := by decide +kernel
theorem dL_law_690 : decode cL_law 690 = .ok (.ireturn, 1) := by decide +kernel
theorem dL_law_691 : decode cL_law 691 = .ok (.iload 5, 2) := by decide +kernel
theorem dL_law_693 : decode cL_law 693 = .ok (.ifCond .ne 15, 3) := by decide +kernel
theorem dL_law_696 : decode cL_law 696 = .ok (.aload_n 3, 1) := by decide +kernel
theorem dL_law_697 : decode cL_law 697 = .ok (.iconst 0, 1) := by decide +kernel
theorem dL_law_698 : decode cL_law 698 = .ok (.laload, 1) := by decide +kernel
theorem dL_law_699 : decode cL_law 699 = .ok (.iload 6, 2) := by decide +kernel
theorem dL_law_701 : decode cL_law 701 = .ok (.i2l, 1) := by decide +kernel
theorem dL_law_702 : decode cL_law 702 = .ok (.lcmp, 1) := by decide +kernel
theorem dL_law_703 : decode cL_law 703 = .ok (.ifCond .eq 5, 3) := by decide +kernel
theorem dL_law_706 : decode cL_law 706 = .ok (.iconst 0, 1) := by decide +kernel
theorem dL_law_707 : decode cL_law 707 = .ok (.ireturn, 1) := by decide +kernel
theorem dL_law_708 : decode cL_law 708 = .ok (.goto 622, 3) := by decide +kernel
theorem dL_law_711 : decode cL_law 711 = .ok (.aload_n 1, 1) := by decide +kernel
theorem dL_law_712 : decode cL_law 712 = .ok (.aload_n 0, 1) := by decide +kernel
theorem dL_law_713 : decode cL_law 713 = .ok (.iload 4, 2) := by decide +kernel
theorem dL_law_715 : decode cL_law 715 = .ok (.iconst 1, 1) := by decide +kernel
theorem dL_law_716 : decode cL_law 716 = .ok (.iadd, 1) := by decide +kernel
theorem dL_law_717 : decode cL_law 717 = .ok (.iaload, 1) := by decide +kernel
theorem dL_law_718 : decode cL_law 718 = .ok (.aload_n 0, 1) := by decide +kernel
theorem dL_law_719 : decode cL_law 719 = .ok (.iload 4, 2) := by decide +kernel
theorem dL_law_721 : decode cL_law 721 = .ok (.iconst 2, 1) := by decide +kernel
theorem dL_law_722 : decode cL_law 722 = .ok (.iadd, 1) := by decide +kernel
theorem dL_law_723 : decode cL_law 723 = .ok (.iaload, 1) := by decide +kernel
theorem dL_law_724 : decode cL_law 724 = .ok (.aload_n 3, 1) := by decide +kernel
theorem dL_law_725 : decode cL_law 725 = .ok (.invokestatic 114, 3) := by decide +kernel
theorem dL_law_728 : decode cL_law 728 = .ok (.istore 5, 2) := by decide +kernel
theorem dL_law_730 : decode cL_law 730 = .ok (.aload_n 2, 1) := by decide +kernel
theorem dL_law_731 : decode cL_law 731 = .ok (.aload_n 0, 1) := by decide +kernel
theorem dL_law_732 : decode cL_law 732 = .ok (.iload 4, 2) := by decide +kernel
theorem dL_law_734 : decode cL_law 734 = .ok (.iconst 1, 1) := by decide +kernel
theorem dL_law_735 : decode cL_law 735 = .ok (.iadd, 1) := by decide +kernel
theorem dL_law_736 : decode cL_law 736 = .ok (.iaload, 1) := by decide +kernel
theorem dL_law_737 : decode cL_law 737 = .ok (.aload_n 0, 1) := by decide +kernel
theorem dL_law_738 : decode cL_law 738 = .ok (.iload 4, 2) := by decide +kernel
theorem dL_law_740 : decode cL_law 740 = .ok (.iconst 2, 1) := by decide +kernel
theorem dL_law_741 : decode cL_law 741 = .ok (.iadd, 1) := by decide +kernel
theorem dL_law_742 : decode cL_law 742 = .ok (.iaload, 1) := by decide +kernel
theorem dL_law_743 : decode cL_law 743 = .ok (.invokevirtual 116, 3) := by decide +kernel
theorem dL_law_746 : decode cL_law 746 = .ok (.istore 6, 2) := by decide +kernel
theorem dL_law_748 : decode cL_law 748 = .ok (.aload_n 2, 1) := by decide +kernel
theorem dL_law_749 : decode cL_law 749 = .ok (.invokevirtual 83, 3) := by decide +kernel
theorem dL_law_752 : decode cL_law 752 = .ok (.iload 5, 2) := by decide +kernel
theorem dL_law_754 : decode cL_law 754 = .ok (.if_icmp .eq 5, 3) := by decide +kernel
theorem dL_law_757 : decode cL_law 757 = .ok (.iconst 0, 1) := by decide +kernel
theorem dL_law_758 : decode cL_law 758 = .ok (.ireturn, 1) := by decide +kernel
theorem dL_law_759 : decode cL_law 759 = .ok (.iload 5, 2) := by decide +kernel
theorem dL_law_761 : decode cL_law 761 = .ok (.ifCond .ne 15, 3) := by decide +kernel
theorem dL_law_764 : decode cL_law 764 = .ok (.aload_n 3, 1) := by decide +kernel
theorem dL_law_765 : decode cL_law 765 = .ok (.iconst 0, 1) := by decide +kernel
theorem dL_law_766 : decode cL_law 766 = .ok (.laload, 1) := by decide +kernel
theorem dL_law_767 : decode cL_law 767 = .ok (.iload 6, 2) := by decide +kernel
theorem dL_law_769 : decode cL_law 769 = .ok (.i2l, 1) := by decide +kernel
theorem dL_law_770 : decode cL_law 770 = .ok (.lcmp, 1) := by decide +kernel
theorem dL_law_771 : decode cL_law 771 = .ok (.ifCond .eq 5, 3) := by decide +kernel
theorem dL_law_774 : decode cL_law 774 = .ok (.iconst 0, 1) := by decide +kernel
theorem dL_law_775 : decode cL_law 775 = .ok (.ireturn, 1) := by decide +kernel
theorem dL_law_776 : decode cL_law 776 = .ok (.goto 554, 3) := by decide +kernel
theorem dL_law_779 : decode cL_law 779 = .ok (.aload_n 1, 1) := by decide +kernel
theorem dL_law_780 : decode cL_law 780 = .ok (.aload_n 0, 1) := by decide +kernel
theorem dL_law_781 : decode cL_law 781 = .ok (.iload 4, 2) := by decide +kernel
theorem dL_law_783 : decode cL_law 783 = .ok (.iconst 1, 1) := by decide +kernel
theorem dL_law_784 : decode cL_law 784 = .ok (.iadd, 1) := by decide +kernel
theorem dL_law_785 : decode cL_law 785 = .ok (.iaload, 1) := by decide +kernel
theorem dL_law_786 : decode cL_law 786 = .ok (.aload_n 3, 1) := by decide +kernel
theorem dL_law_787 : decode cL_law 787 = .ok (.invokestatic 117, 3) := by decide +kernel
theorem dL_law_790 : decode cL_law 790 = .ok (.istore 5, 2) := by decide +kernel
theorem dL_law_792 : decode cL_law 792 = .ok (.aload_n 2, 1) := by decide +kernel
theorem dL_law_793 : decode cL_law 793 = .ok (.aload_n 0, 1) := by decide +kernel
theorem dL_law_794 : decode cL_law 794 = .ok (.iload 4, 2) := by decide +kernel
theorem dL_law_796 : decode cL_law 796 = .ok (.iconst 1, 1) := by decide +kernel
theorem dL_law_797 : decode cL_law 797 = .ok (.iadd, 1) := by decide +kernel
theorem dL_law_798 : decode cL_law 798 = .ok (.iaload, 1) := by decide +kernel
theorem dL_law_799 : decode cL_law 799 = .ok (.invokevirtual 119, 3) := by decide +kernel
theorem dL_law_802 : decode cL_law 802 = .ok (.istore 6, 2) := by decide +kernel
theorem dL_law_804 : decode cL_law 804 = .ok (.aload_n 2, 1) := by decide +kernel
theorem dL_law_805 : decode cL_law 805 = .ok (.invokevirtual 83, 3) := by decide +kernel
theorem dL_law_808 : decode cL_law 808 = .ok (.iload 5, 2) := by decide +kernel
theorem dL_law_810 : decode cL_law 810 = .ok (.if_icmp .eq 5, 3) := by decide +kernel
theorem dL_law_813 : decode cL_law 813 = .ok (.iconst 0, 1) := by decide +kernel
theorem dL_law_814 : decode cL_law 814 = .ok (.ireturn, 1) := by decide +kernel
theorem dL_law_815 : decode cL_law 815 = .ok (.iload 5, 2) := by decide +kernel
theorem dL_law_817 : decode cL_law 817 = .ok (.ifCond .ne 15, 3) := by decide +kernel
theorem dL_law_820 : decode cL_law 820 = .ok (.aload_n 3, 1) := by decide +kernel
theorem dL_law_821 : decode cL_law 821 = .ok (.iconst 0, 1) := by decide +kernel
theorem dL_law_822 : decode cL_law 822 = .ok (.laload, 1) := by decide +kernel
theorem dL_law_823 : decode cL_law 823 = .ok (.iload 6, 2) := by decide +kernel
theorem dL_law_825 : decode cL_law 825 = .ok (.i2l, 1) := by decide +kernel
theorem dL_law_826 : decode cL_law 826 = .ok (.lcmp, 1) := by decide +kernel
theorem dL_law_827 : decode cL_law 827 = .ok (.ifCond .eq 5, 3) := by decide +kernel
theorem dL_law_830 : decode cL_law 830 = .ok (.iconst 0, 1) := by decide +kernel
theorem dL_law_831 : decode cL_law 831 = .ok (.ireturn, 1) := by decide +kernel
theorem dL_law_832 : decode cL_law 832 = .ok (.goto 498, 3) := by decide +kernel
theorem dL_law_835 : decode cL_law 835 = .ok (.aload_n 1, 1) := by decide +kernel
theorem dL_law_836 : decode cL_law 836 = .ok (.aload_n 0, 1) := by decide +kernel
theorem dL_law_837 : decode cL_law 837 = .ok (.iload 4, 2) := by decide +kernel
theorem dL_law_839 : decode cL_law 839 = .ok (.iconst 1, 1) := by decide +kernel
theorem dL_law_840 : decode cL_law 840 = .ok (.iadd, 1) := by decide +kernel
theorem dL_law_841 : decode cL_law 841 = .ok (.iaload, 1) := by decide +kernel
theorem dL_law_842 : decode cL_law 842 = .ok (.aload_n 3, 1) := by decide +kernel
theorem dL_law_843 : decode cL_law 843 = .ok (.invokestatic 120, 3) := by decide +kernel
theorem dL_law_846 : decode cL_law 846 = .ok (.istore 5, 2) := by decide +kernel
theorem dL_law_848 : decode cL_law 848 = .ok (.aload_n 2, 1) := by decide +kernel
theorem dL_law_849 : decode cL_law 849 = .ok (.aload_n 0, 1) := by decide +kernel
theorem dL_law_850 : decode cL_law 850 = .ok (.iload 4, 2) := by decide +kernel
theorem dL_law_852 : decode cL_law 852 = .ok (.iconst 1, 1) := by decide +kernel
theorem dL_law_853 : decode cL_law 853 = .ok (.iadd, 1) := by decide +kernel
theorem dL_law_854 : decode cL_law 854 = .ok (.iaload, 1) := by decide +kernel
theorem dL_law_855 : decode cL_law 855 = .ok (.invokevirtual 122, 3) := by decide +kernel
theorem dL_law_858 : decode cL_law 858 = .ok (.istore 6, 2) := by decide +kernel
theorem dL_law_860 : decode cL_law 860 = .ok (.aload_n 2, 1) := by decide +kernel
theorem dL_law_861 : decode cL_law 861 = .ok (.invokevirtual 83, 3) := by decide +kernel
theorem dL_law_864 : decode cL_law 864 = .ok (.iload 5, 2) := by decide +kernel
theorem dL_law_866 : decode cL_law 866 = .ok (.if_icmp .eq 5, 3) := by decide +kernel
theorem dL_law_869 : decode cL_law 869 = .ok (.iconst 0, 1) := by decide +kernel
theorem dL_law_870 : decode cL_law 870 = .ok (.ireturn, 1) := by decide +kernel
theorem dL_law_871 : decode cL_law 871 = .ok (.iload 5, 2) := by decide +kernel
theorem dL_law_873 : decode cL_law 873 = .ok (.ifCond .ne 15, 3) := by decide +kernel
theorem dL_law_876 : decode cL_law 876 = .ok (.aload_n 3, 1) := by decide +kernel
theorem dL_law_877 : decode cL_law 877 = .ok (.iconst 0, 1) := by decide +kernel
theorem dL_law_878 : decode cL_law 878 = .ok (.laload, 1) := by decide +kernel
theorem dL_law_879 : decode cL_law 879 = .ok (.iload 6, 2) := by decide +kernel
theorem dL_law_881 : decode cL_law 881 = .ok (.i2l, 1) := by decide +kernel
theorem dL_law_882 : decode cL_law 882 = .ok (.lcmp, 1) := by decide +kernel
theorem dL_law_883 : decode cL_law 883 = .ok (.ifCond .eq 5, 3) := by decide +kernel
theorem dL_law_886 : decode cL_law 886 = .ok (.iconst 0, 1) := by decide +kernel
theorem dL_law_887 : decode cL_law 887 = .ok (.ireturn, 1) := by decide +kernel
theorem dL_law_888 : decode cL_law 888 = .ok (.goto 442, 3) := by decide +kernel
theorem dL_law_891 : decode cL_law 891 = .ok (.aload_n 1, 1) := by decide +kernel
theorem dL_law_892 : decode cL_law 892 = .ok (.invokevirtual 123, 3) := by decide +kernel
theorem dL_law_895 : decode cL_law 895 = .ok (.aload_n 2, 1) := by decide +kernel
theorem dL_law_896 : decode cL_law 896 = .ok (.invokevirtual 126, 3) := by decide +kernel
theorem dL_law_899 : decode cL_law 899 = .ok (.if_icmp .eq 431, 3) := by decide +kernel
theorem dL_law_902 : decode cL_law 902 = .ok (.iconst 0, 1) := by decide +kernel
theorem dL_law_903 : decode cL_law 903 = .ok (.ireturn, 1) := by decide +kernel
theorem dL_law_904 : decode cL_law 904 = .ok (.aload_n 1, 1) := by decide +kernel
theorem dL_law_905 : decode cL_law 905 = .ok (.invokevirtual 127, 3) := by decide +kernel
theorem dL_law_908 : decode cL_law 908 = .ok (.aload_n 2, 1) := by decide +kernel
theorem dL_law_909 : decode cL_law 909 = .ok (.invokevirtual 130, 3) := by decide +kernel
theorem dL_law_912 : decode cL_law 912 = .ok (.if_icmp .eq 418, 3) := by decide +kernel
theorem dL_law_915 : decode cL_law 915 = .ok (.iconst 0, 1) := by decide +kernel
theorem dL_law_916 : decode cL_law 916 = .ok (.ireturn, 1) := by decide +kernel
theorem dL_law_917 : decode cL_law 917 = .ok (.aload_n 1, 1) := by decide +kernel
theorem dL_law_918 : decode cL_law 918 = .ok (.aload_n 0, 1) := by decide +kernel
theorem dL_law_919 : decode cL_law 919 = .ok (.iload 4, 2) := by decide +kernel
theorem dL_law_921 : decode cL_law 921 = .ok (.iconst 1, 1) := by decide +kernel
theorem dL_law_922 : decode cL_law 922 = .ok (.iadd, 1) := by decide +kernel
theorem dL_law_923 : decode cL_law 923 = .ok (.iaload, 1) := by decide +kernel
theorem dL_law_924 : decode cL_law 924 = .ok (.aload_n 3, 1) := by decide +kernel
theorem dL_law_925 : decode cL_law 925 = .ok (.invokestatic 131, 3) := by decide +kernel
theorem dL_law_928 : decode cL_law 928 = .ok (.istore 5, 2) := by decide +kernel
theorem dL_law_930 : decode cL_law 930 = .ok (.aload_n 2, 1) := by decide +kernel
theorem dL_law_931 : decode cL_law 931 = .ok (.aload_n 0, 1) := by decide +kernel
theorem dL_law_932 : decode cL_law 932 = .ok (.iload 4, 2) := by decide +kernel
theorem dL_law_934 : decode cL_law 934 = .ok (.iconst 1, 1) := by decide +kernel
theorem dL_law_935 : decode cL_law 935 = .ok (.iadd, 1) := by decide +kernel
theorem dL_law_936 : decode cL_law 936 = .ok (.iaload, 1) := by decide +kernel
theorem dL_law_937 : decode cL_law 937 = .ok (.invokevirtual 133, 3) := by decide +kernel
theorem dL_law_940 : decode cL_law 940 = .ok (.istore 6, 2) := by decide +kernel
theorem dL_law_942 : decode cL_law 942 = .ok (.aload_n 2, 1) := by decide +kernel
theorem dL_law_943 : decode cL_law 943 = .ok (.invokevirtual 83, 3) := by decide +kernel
theorem dL_law_946 : decode cL_law 946 = .ok (.iload 5, 2) := by decide +kernel
theorem dL_law_948 : decode cL_law 948 = .ok (.if_icmp .eq 5, 3) := by decide +kernel
theorem dL_law_951 : decode cL_law 951 = .ok (.iconst 0, 1) := by decide +kernel
theorem dL_law_952 : decode cL_law 952 = .ok (.ireturn, 1) := by decide +kernel
theorem dL_law_953 : decode cL_law 953 = .ok (.iload 5, 2) := by decide +kernel
theorem dL_law_955 : decode cL_law 955 = .ok (.ifCond .ne 15, 3) := by decide +kernel
theorem dL_law_958 : decode cL_law 958 = .ok (.aload_n 3, 1) := by decide +kernel
theorem dL_law_959 : decode cL_law 959 = .ok (.iconst 0, 1) := by decide +kernel
theorem dL_law_960 : decode cL_law 960 = .ok (.laload, 1) := by decide +kernel
theorem dL_law_961 : decode cL_law 961 = .ok (.iload 6, 2) := by decide +kernel
theorem dL_law_963 : decode cL_law 963 = .ok (.i2l, 1) := by decide +kernel
theorem dL_law_964 : decode cL_law 964 = .ok (.lcmp, 1) := by decide +kernel
theorem dL_law_965 : decode cL_law 965 = .ok (.ifCond .eq 5, 3) := by decide +kernel
theorem dL_law_968 : decode cL_law 968 = .ok (.iconst 0, 1) := by decide +kernel
theorem dL_law_969 : decode cL_law 969 = .ok (.ireturn, 1) := by decide +kernel
theorem dL_law_970 : decode cL_law 970 = .ok (.goto 360, 3) := by decide +kernel
theorem dL_law_973 : decode cL_law 973 = .ok (.aload_n 1, 1) := by decide +kernel
theorem dL_law_974 : decode cL_law 974 = .ok (.aload_n 0, 1) := by decide +kernel
theorem dL_law_975 : decode cL_law 975 = .ok (.iload 4, 2) := by decide +kernel
theorem dL_law_977 : decode cL_law 977 = .ok (.iconst 1, 1) := by decide +kernel
theorem dL_law_978 : decode cL_law 978 = .ok (.iadd, 1) := by decide +kernel
theorem dL_law_979 : decode cL_law 979 = .ok (.iaload, 1) := by decide +kernel
theorem dL_law_980 : decode cL_law 980 = .ok (.aload_n 0, 1) := by decide +kernel
theorem dL_law_981 : decode cL_law 981 = .ok (.iload 4, 2) := by decide +kernel
theorem dL_law_983 : decode cL_law 983 = .ok (.iconst 2, 1) := by decide +kernel
theorem dL_law_984 : decode cL_law 984 = .ok (.iadd, 1) := by decide +kernel
theorem dL_law_985 : decode cL_law 985 = .ok (.iaload, 1) := by decide +kernel
theorem dL_law_986 : decode cL_law 986 = .ok (.aload_n 3, 1) := by decide +kernel
theorem dL_law_987 : decode cL_law 987 = .ok (.invokestatic 134, 3) := by decide +kernel
theorem dL_law_990 : decode cL_law 990 = .ok (.istore 5, 2) := by decide +kernel
theorem dL_law_992 : decode cL_law 992 = .ok (.aload_n 2, 1) := by decide +kernel
theorem dL_law_993 : decode cL_law 993 = .ok (.aload_n 0, 1) := by decide +kernel
theorem dL_law_994 : decode cL_law 994 = .ok (.iload 4, 2) := by decide +kernel
theorem dL_law_996 : decode cL_law 996 = .ok (.iconst 1, 1) := by decide +kernel
theorem dL_law_997 : decode cL_law 997 = .ok (.iadd, 1) := by decide +kernel
theorem dL_law_998 : decode cL_law 998 = .ok (.iaload, 1) := by decide +kernel
theorem dL_law_999 : decode cL_law 999 = .ok (.aload_n 0, 1) := by decide +kernel
theorem dL_law_1000 : decode cL_law 1000 = .ok (.iload 4, 2) := by decide +kernel
theorem dL_law_1002 : decode cL_law 1002 = .ok (.iconst 2, 1) := by decide +kernel
theorem dL_law_1003 : decode cL_law 1003 = .ok (.iadd, 1) := by decide +kernel
theorem dL_law_1004 : decode cL_law 1004 = .ok (.iaload, 1) := by decide +kernel
theorem dL_law_1005 : decode cL_law 1005 = .ok (.invokevirtual 136, 3) := by decide +kernel
theorem dL_law_1008 : decode cL_law 1008 = .ok (.istore 6, 2) := by decide +kernel
theorem dL_law_1010 : decode cL_law 1010 = .ok (.aload_n 2, 1) := by decide +kernel
theorem dL_law_1011 : decode cL_law 1011 = .ok (.invokevirtual 83, 3) := by decide +kernel
theorem dL_law_1014 : decode cL_law 1014 = .ok (.iload 5, 2) := by decide +kernel
theorem dL_law_1016 : decode cL_law 1016 = .ok (.if_icmp .eq 5, 3) := by decide +kernel
theorem dL_law_1019 : decode cL_law 1019 = .ok (.iconst 0, 1) := by decide +kernel
theorem dL_law_1020 : decode cL_law 1020 = .ok (.ireturn, 1) := by decide +kernel
theorem dL_law_1021 : decode cL_law 1021 = .ok (.iload 5, 2) := by decide +kernel
theorem dL_law_1023 : decode cL_law 1023 = .ok (.ifCond .ne 15, 3) := by decide +kernel
theorem dL_law_1026 : decode cL_law 1026 = .ok (.aload_n 3, 1) := by decide +kernel
theorem dL_law_1027 : decode cL_law 1027 = .ok (.iconst 0, 1) := by decide +kernel
theorem dL_law_1028 : decode cL_law 1028 = .ok (.laload, 1) := by decide +kernel
theorem dL_law_1029 : decode cL_law 1029 = .ok (.iload 6, 2) := by decide +kernel
theorem dL_law_1031 : decode cL_law 1031 = .ok (.i2l, 1) := by decide +kernel
theorem dL_law_1032 : decode cL_law 1032 = .ok (.lcmp, 1) := by decide +kernel
theorem dL_law_1033 : decode cL_law 1033 = .ok (.ifCond .eq 5, 3) := by decide +kernel
theorem dL_law_1036 : decode cL_law 1036 = .ok (.iconst 0, 1) := by decide +kernel
theorem dL_law_1037 : decode cL_law 1037 = .ok (.ireturn, 1) := by decide +kernel
theorem dL_law_1038 : decode cL_law 1038 = .ok (.goto 292, 3) := by decide +kernel
theorem dL_law_1041 : decode cL_law 1041 = .ok (.aload_n 1, 1) := by decide +kernel
theorem dL_law_1042 : decode cL_law 1042 = .ok (.aload_n 0, 1) := by decide +kernel
theorem dL_law_1043 : decode cL_law 1043 = .ok (.iload 4, 2) := by decide +kernel
theorem dL_law_1045 : decode cL_law 1045 = .ok (.iconst 1, 1) := by decide +kernel
theorem dL_law_1046 : decode cL_law 1046 = .ok (.iadd, 1) := by decide +kernel
theorem dL_law_1047 : decode cL_law 1047 = .ok (.iaload, 1) := by decide +kernel
theorem dL_law_1048 : decode cL_law 1048 = .ok (.aload_n 0, 1) := by decide +kernel
theorem dL_law_1049 : decode cL_law 1049 = .ok (.iload 4, 2) := by decide +kernel
theorem dL_law_1051 : decode cL_law 1051 = .ok (.iconst 2, 1) := by decide +kernel
theorem dL_law_1052 : decode cL_law 1052 = .ok (.iadd, 1) := by decide +kernel
theorem dL_law_1053 : decode cL_law 1053 = .ok (.iaload, 1) := by decide +kernel
theorem dL_law_1054 : decode cL_law 1054 = .ok (.aload_n 3, 1) := by decide +kernel
theorem dL_law_1055 : decode cL_law 1055 = .ok (.invokestatic 137, 3) := by decide +kernel
theorem dL_law_1058 : decode cL_law 1058 = .ok (.istore 5, 2) := by decide +kernel
theorem dL_law_1060 : decode cL_law 1060 = .ok (.aload_n 2, 1) := by decide +kernel
theorem dL_law_1061 : decode cL_law 1061 = .ok (.aload_n 0, 1) := by decide +kernel
theorem dL_law_1062 : decode cL_law 1062 = .ok (.iload 4, 2) := by decide +kernel
theorem dL_law_1064 : decode cL_law 1064 = .ok (.iconst 1, 1) := by decide +kernel
theorem dL_law_1065 : decode cL_law 1065 = .ok (.iadd, 1) := by decide +kernel
theorem dL_law_1066 : decode cL_law 1066 = .ok (.iaload, 1) := by decide +kernel
theorem dL_law_1067 : decode cL_law 1067 = .ok (.aload_n 0, 1) := by decide +kernel
theorem dL_law_1068 : decode cL_law 1068 = .ok (.iload 4, 2) := by decide +kernel
theorem dL_law_1070 : decode cL_law 1070 = .ok (.iconst 2, 1) := by decide +kernel
theorem dL_law_1071 : decode cL_law 1071 = .ok (.iadd, 1) := by decide +kernel
theorem dL_law_1072 : decode cL_law 1072 = .ok (.iaload, 1) := by decide +kernel
theorem dL_law_1073 : decode cL_law 1073 = .ok (.invokevirtual 139, 3) := by decide +kernel
theorem dL_law_1076 : decode cL_law 1076 = .ok (.istore 6, 2) := by decide +kernel
theorem dL_law_1078 : decode cL_law 1078 = .ok (.aload_n 2, 1) := by decide +kernel
theorem dL_law_1079 : decode cL_law 1079 = .ok (.invokevirtual 83, 3) := by decide +kernel
theorem dL_law_1082 : decode cL_law 1082 = .ok (.iload 5, 2) := by decide +kernel
theorem dL_law_1084 : decode cL_law 1084 = .ok (.if_icmp .eq 5, 3) := by decide +kernel
theorem dL_law_1087 : decode cL_law 1087 = .ok (.iconst 0, 1) := by decide +kernel
theorem dL_law_1088 : decode cL_law 1088 = .ok (.ireturn, 1) := by decide +kernel
theorem dL_law_1089 : decode cL_law 1089 = .ok (.iload 5, 2) := by decide +kernel
theorem dL_law_1091 : decode cL_law 1091 = .ok (.ifCond .ne 15, 3) := by decide +kernel
theorem dL_law_1094 : decode cL_law 1094 = .ok (.aload_n 3, 1) := by decide +kernel
theorem dL_law_1095 : decode cL_law 1095 = .ok (.iconst 0, 1) := by decide +kernel
theorem dL_law_1096 : decode cL_law 1096 = .ok (.laload, 1) := by decide +kernel
theorem dL_law_1097 : decode cL_law 1097 = .ok (.iload 6, 2) := by decide +kernel
theorem dL_law_1099 : decode cL_law 1099 = .ok (.i2l, 1) := by decide +kernel
theorem dL_law_1100 : decode cL_law 1100 = .ok (.lcmp, 1) := by decide +kernel
theorem dL_law_1101 : decode cL_law 1101 = .ok (.ifCond .eq 5, 3) := by decide +kernel
theorem dL_law_1104 : decode cL_law 1104 = .ok (.iconst 0, 1) := by decide +kernel
theorem dL_law_1105 : decode cL_law 1105 = .ok (.ireturn, 1) := by decide +kernel
theorem dL_law_1106 : decode cL_law 1106 = .ok (.goto 224, 3) := by decide +kernel
theorem dL_law_1109 : decode cL_law 1109 = .ok (.aload_n 1, 1) := by decide +kernel
theorem dL_law_1110 : decode cL_law 1110 = .ok (.aload_n 0, 1) := by decide +kernel
theorem dL_law_1111 : decode cL_law 1111 = .ok (.iload 4, 2) := by decide +kernel
theorem dL_law_1113 : decode cL_law 1113 = .ok (.iconst 1, 1) := by decide +kernel
theorem dL_law_1114 : decode cL_law 1114 = .ok (.iadd, 1) := by decide +kernel
theorem dL_law_1115 : decode cL_law 1115 = .ok (.iaload, 1) := by decide +kernel
theorem dL_law_1116 : decode cL_law 1116 = .ok (.aload_n 0, 1) := by decide +kernel
theorem dL_law_1117 : decode cL_law 1117 = .ok (.iload 4, 2) := by decide +kernel
theorem dL_law_1119 : decode cL_law 1119 = .ok (.iconst 2, 1) := by decide +kernel
theorem dL_law_1120 : decode cL_law 1120 = .ok (.iadd, 1) := by decide +kernel
theorem dL_law_1121 : decode cL_law 1121 = .ok (.iaload, 1) := by decide +kernel
theorem dL_law_1122 : decode cL_law 1122 = .ok (.aload_n 3, 1) := by decide +kernel
theorem dL_law_1123 : decode cL_law 1123 = .ok (.invokestatic 140, 3) := by decide +kernel
theorem dL_law_1126 : decode cL_law 1126 = .ok (.istore 5, 2) := by decide +kernel
theorem dL_law_1128 : decode cL_law 1128 = .ok (.aload_n 2, 1) := by decide +kernel
theorem dL_law_1129 : decode cL_law 1129 = .ok (.aload_n 0, 1) := by decide +kernel
theorem dL_law_1130 : decode cL_law 1130 = .ok (.iload 4, 2) := by decide +kernel
theorem dL_law_1132 : decode cL_law 1132 = .ok (.iconst 1, 1) := by decide +kernel
theorem dL_law_1133 : decode cL_law 1133 = .ok (.iadd, 1) := by decide +kernel
theorem dL_law_1134 : decode cL_law 1134 = .ok (.iaload, 1) := by decide +kernel
theorem dL_law_1135 : decode cL_law 1135 = .ok (.aload_n 0, 1) := by decide +kernel
theorem dL_law_1136 : decode cL_law 1136 = .ok (.iload 4, 2) := by decide +kernel
theorem dL_law_1138 : decode cL_law 1138 = .ok (.iconst 2, 1) := by decide +kernel
theorem dL_law_1139 : decode cL_law 1139 = .ok (.iadd, 1) := by decide +kernel
theorem dL_law_1140 : decode cL_law 1140 = .ok (.iaload, 1) := by decide +kernel
theorem dL_law_1141 : decode cL_law 1141 = .ok (.invokevirtual 142, 3) := by decide +kernel
theorem dL_law_1144 : decode cL_law 1144 = .ok (.istore 6, 2) := by decide +kernel
theorem dL_law_1146 : decode cL_law 1146 = .ok (.aload_n 2, 1) := by decide +kernel
theorem dL_law_1147 : decode cL_law 1147 = .ok (.invokevirtual 83, 3) := by decide +kernel
theorem dL_law_1150 : decode cL_law 1150 = .ok (.iload 5, 2) := by decide +kernel
theorem dL_law_1152 : decode cL_law 1152 = .ok (.if_icmp .eq 5, 3) := by decide +kernel
theorem dL_law_1155 : decode cL_law 1155 = .ok (.iconst 0, 1) := by decide +kernel
theorem dL_law_1156 : decode cL_law 1156 = .ok (.ireturn, 1) := by decide +kernel
theorem dL_law_1157 : decode cL_law 1157 = .ok (.iload 5, 2) := by decide +kernel
theorem dL_law_1159 : decode cL_law 1159 = .ok (.ifCond .ne 15, 3) := by decide +kernel
theorem dL_law_1162 : decode cL_law 1162 = .ok (.aload_n 3, 1) := by decide +kernel
theorem dL_law_1163 : decode cL_law 1163 = .ok (.iconst 0, 1) := by decide +kernel
theorem dL_law_1164 : decode cL_law 1164 = .ok (.laload, 1) := by decide +kernel
theorem dL_law_1165 : decode cL_law 1165 = .ok (.iload 6, 2) := by decide +kernel
theorem dL_law_1167 : decode cL_law 1167 = .ok (.i2l, 1) := by decide +kernel
theorem dL_law_1168 : decode cL_law 1168 = .ok (.lcmp, 1) := by decide +kernel
theorem dL_law_1169 : decode cL_law 1169 = .ok (.ifCond .eq 5, 3) := by decide +kernel
theorem dL_law_1172 : decode cL_law 1172 = .ok (.iconst 0, 1) := by decide +kernel
theorem dL_law_1173 : decode cL_law 1173 = .ok (.ireturn, 1) := by decide +kernel
theorem dL_law_1174 : decode cL_law 1174 = .ok (.goto 156, 3) := by decide +kernel
theorem dL_law_1177 : decode cL_law 1177 = .ok (.aload_n 1, 1) := by decide +kernel
theorem dL_law_1178 : decode cL_law 1178 = .ok (.aload_n 0, 1) := by decide +kernel
theorem dL_law_1179 : decode cL_law 1179 = .ok (.iload 4, 2) := by decide +kernel
theorem dL_law_1181 : decode cL_law 1181 = .ok (.iconst 1, 1) := by decide +kernel
theorem dL_law_1182 : decode cL_law 1182 = .ok (.iadd, 1) := by decide +kernel
theorem dL_law_1183 : decode cL_law 1183 = .ok (.iaload, 1) := by decide +kernel
theorem dL_law_1184 : decode cL_law 1184 = .ok (.aload_n 3, 1) := by decide +kernel
theorem dL_law_1185 : decode cL_law 1185 = .ok (.invokestatic 143, 3) := by decide +kernel
theorem dL_law_1188 : decode cL_law 1188 = .ok (.istore 5, 2) := by decide +kernel
theorem dL_law_1190 : decode cL_law 1190 = .ok (.aload_n 2, 1) := by decide +kernel
theorem dL_law_1191 : decode cL_law 1191 = .ok (.aload_n 0, 1) := by decide +kernel
theorem dL_law_1192 : decode cL_law 1192 = .ok (.iload 4, 2) := by decide +kernel
theorem dL_law_1194 : decode cL_law 1194 = .ok (.iconst 1, 1) := by decide +kernel
theorem dL_law_1195 : decode cL_law 1195 = .ok (.iadd, 1) := by decide +kernel
theorem dL_law_1196 : decode cL_law 1196 = .ok (.iaload, 1) := by decide +kernel
theorem dL_law_1197 : decode cL_law 1197 = .ok (.invokevirtual 145, 3) := by decide +kernel
theorem dL_law_1200 : decode cL_law 1200 = .ok (.istore 6, 2) := by decide +kernel
theorem dL_law_1202 : decode cL_law 1202 = .ok (.aload_n 2, 1) := by decide +kernel
theorem dL_law_1203 : decode cL_law 1203 = .ok (.invokevirtual 83, 3) := by decide +kernel
theorem dL_law_1206 : decode cL_law 1206 = .ok (.iload 5, 2) := by decide +kernel
theorem dL_law_1208 : decode cL_law 1208 = .ok (.if_icmp .eq 5, 3) := by decide +kernel
theorem dL_law_1211 : decode cL_law 1211 = .ok (.iconst 0, 1) := by decide +kernel
theorem dL_law_1212 : decode cL_law 1212 = .ok (.ireturn, 1) := by decide +kernel
theorem dL_law_1213 : decode cL_law 1213 = .ok (.iload 5, 2) := by decide +kernel
theorem dL_law_1215 : decode cL_law 1215 = .ok (.ifCond .ne 15, 3) := by decide +kernel
theorem dL_law_1218 : decode cL_law 1218 = .ok (.aload_n 3, 1) := by decide +kernel
theorem dL_law_1219 : decode cL_law 1219 = .ok (.iconst 0, 1) := by decide +kernel
theorem dL_law_1220 : decode cL_law 1220 = .ok (.laload, 1) := by decide +kernel
theorem dL_law_1221 : decode cL_law 1221 = .ok (.iload 6, 2) := by decide +kernel
theorem dL_law_1223 : decode cL_law 1223 = .ok (.i2l, 1) := by decide +kernel
theorem dL_law_1224 : decode cL_law 1224 = .ok (.lcmp, 1) := by decide +kernel
theorem dL_law_1225 : decode cL_law 1225 = .ok (.ifCond .eq 5, 3) := by decide +kernel
theorem dL_law_1228 : decode cL_law 1228 = .ok (.iconst 0, 1) := by decide +kernel
theorem dL_law_1229 : decode cL_law 1229 = .ok (.ireturn, 1) := by decide +kernel
theorem dL_law_1230 : decode cL_law 1230 = .ok (.goto 100, 3) := by decide +kernel
theorem dL_law_1233 : decode cL_law 1233 = .ok (.aload_n 1, 1) := by decide +kernel
theorem dL_law_1234 : decode cL_law 1234 = .ok (.aload_n 0, 1) := by decide +kernel
theorem dL_law_1235 : decode cL_law 1235 = .ok (.iload 4, 2) := by decide +kernel
theorem dL_law_1237 : decode cL_law 1237 = .ok (.iconst 1, 1) := by decide +kernel
theorem dL_law_1238 : decode cL_law 1238 = .ok (.iadd, 1) := by decide +kernel
theorem dL_law_1239 : decode cL_law 1239 = .ok (.iaload, 1) := by decide +kernel
theorem dL_law_1240 : decode cL_law 1240 = .ok (.aload_n 3, 1) := by decide +kernel
theorem dL_law_1241 : decode cL_law 1241 = .ok (.invokestatic 146, 3) := by decide +kernel
theorem dL_law_1244 : decode cL_law 1244 = .ok (.istore 5, 2) := by decide +kernel
theorem dL_law_1246 : decode cL_law 1246 = .ok (.aload_n 2, 1) := by decide +kernel
theorem dL_law_1247 : decode cL_law 1247 = .ok (.aload_n 0, 1) := by decide +kernel
theorem dL_law_1248 : decode cL_law 1248 = .ok (.iload 4, 2) := by decide +kernel
theorem dL_law_1250 : decode cL_law 1250 = .ok (.iconst 1, 1) := by decide +kernel
theorem dL_law_1251 : decode cL_law 1251 = .ok (.iadd, 1) := by decide +kernel
theorem dL_law_1252 : decode cL_law 1252 = .ok (.iaload, 1) := by decide +kernel
theorem dL_law_1253 : decode cL_law 1253 = .ok (.invokevirtual 148, 3) := by decide +kernel
theorem dL_law_1256 : decode cL_law 1256 = .ok (.istore 6, 2) := by decide +kernel
theorem dL_law_1258 : decode cL_law 1258 = .ok (.aload_n 2, 1) := by decide +kernel
theorem dL_law_1259 : decode cL_law 1259 = .ok (.invokevirtual 83, 3) := by decide +kernel
theorem dL_law_1262 : decode cL_law 1262 = .ok (.iload 5, 2) := by decide +kernel
theorem dL_law_1264 : decode cL_law 1264 = .ok (.if_icmp .eq 5, 3) := by decide +kernel
theorem dL_law_1267 : decode cL_law 1267 = .ok (.iconst 0, 1) := by decide +kernel
theorem dL_law_1268 : decode cL_law 1268 = .ok (.ireturn, 1) := by decide +kernel
theorem dL_law_1269 : decode cL_law 1269 = .ok (.iload 5, 2) := by decide +kernel
theorem dL_law_1271 : decode cL_law 1271 = .ok (.ifCond .ne 15, 3) := by decide +kernel
theorem dL_law_1274 : decode cL_law 1274 = .ok (.aload_n 3, 1) := by decide +kernel
theorem dL_law_1275 : decode cL_law 1275 = .ok (.iconst 0, 1) := by decide +kernel
theorem dL_law_1276 : decode cL_law 1276 = .ok (.laload, 1) := by decide +kernel
theorem dL_law_1277 : decode cL_law 1277 = .ok (.iload 6, 2) := by decide +kernel
theorem dL_law_1279 : decode cL_law 1279 = .ok (.i2l, 1) := by decide +kernel
theorem dL_law_1280 : decode cL_law 1280 = .ok (.lcmp, 1) := by decide +kernel
theorem dL_law_1281 : decode cL_law 1281 = .ok (.ifCond .eq 5, 3) := by decide +kernel
theorem dL_law_1284 : decode cL_law 1284 = .ok (.iconst 0, 1) := by decide +kernel
theorem dL_law_1285 : decode cL_law 1285 = .ok (.ireturn, 1) := by decide +kernel
theorem dL_law_1286 : decode cL_law 1286 = .ok (.goto 44, 3) := by decide +kernel
theorem dL_law_1289 : decode cL_law 1289 = .ok (.aload_n 1, 1) := by decide +kernel
theorem dL_law_1290 : decode cL_law 1290 = .ok (.aload_n 0, 1) := by decide +kernel
theorem dL_law_1291 : decode cL_law 1291 = .ok (.iload 4, 2) := by decide +kernel
theorem dL_law_1293 : decode cL_law 1293 = .ok (.iconst 1, 1) := by decide +kernel
theorem dL_law_1294 : decode cL_law 1294 = .ok (.iadd, 1) := by decide +kernel
theorem dL_law_1295 : decode cL_law 1295 = .ok (.iaload, 1) := by decide +kernel
theorem dL_law_1296 : decode cL_law 1296 = .ok (.ifCond .eq 7, 3) := by decide +kernel
theorem dL_law_1299 : decode cL_law 1299 = .ok (.iconst 1, 1) := by decide +kernel
theorem dL_law_1300 : decode cL_law 1300 = .ok (.goto 4, 3) := by decide +kernel
theorem dL_law_1303 : decode cL_law 1303 = .ok (.iconst 0, 1) := by decide +kernel
theorem dL_law_1304 : decode cL_law 1304 = .ok (.invokevirtual 149, 3) := by decide +kernel
theorem dL_law_1307 : decode cL_law 1307 = .ok (.aload_n 2, 1) := by decide +kernel
theorem dL_law_1308 : decode cL_law 1308 = .ok (.aload_n 0, 1) := by decide +kernel
theorem dL_law_1309 : decode cL_law 1309 = .ok (.iload 4, 2) := by decide +kernel
theorem dL_law_1311 : decode cL_law 1311 = .ok (.iconst 1, 1) := by decide +kernel
theorem dL_law_1312 : decode cL_law 1312 = .ok (.iadd, 1) := by decide +kernel
theorem dL_law_1313 : decode cL_law 1313 = .ok (.iaload, 1) := by decide +kernel
theorem dL_law_1314 : decode cL_law 1314 = .ok (.ifCond .eq 7, 3) := by decide +kernel
theorem dL_law_1317 : decode cL_law 1317 = .ok (.iconst 1, 1) := by decide +kernel
theorem dL_law_1318 : decode cL_law 1318 = .ok (.goto 4, 3) := by decide +kernel
theorem dL_law_1321 : decode cL_law 1321 = .ok (.iconst 0, 1) := by decide +kernel
theorem dL_law_1322 : decode cL_law 1322 = .ok (.invokevirtual 153, 3) := by decide +kernel
theorem dL_law_1325 : decode cL_law 1325 = .ok (.if_icmp .eq 5, 3) := by decide +kernel
theorem dL_law_1328 : decode cL_law 1328 = .ok (.iconst 0, 1) := by decide +kernel
theorem dL_law_1329 : decode cL_law 1329 = .ok (.ireturn, 1) := by decide +kernel
theorem dL_law_1330 : decode cL_law 1330 = .ok (.iinc 4 4, 3) := by decide +kernel
theorem dL_law_1333 : decode cL_law 1333 = .ok (.goto (-1310), 3) := by decide +kernel
theorem dL_law_1336 : decode cL_law 1336 = .ok (.iconst 1, 1) := by decide +kernel
theorem dL_law_1337 : decode cL_law 1337 = .ok (.ireturn, 1) := by decide +kernel
abbrev vwCl : List vw_C := [(RX0, TX0, 6), (RX1, TX1, 4), (RX2, TX2, 4), (RX3, TX3, 9), (RX4, TX4, 3), (RX5, TX5, 15), (RX6, TX6, 20)]
