theorem dX2_goBackTo_0 : decode cX2_goBackTo 0 = .ok (.aload_n 0, 1) := by decide +kernel
theorem dX2_goBackTo_1 : decode cX2_goBackTo 1 = .ok (.getfield 12, 3) := by decide +kernel
theorem dX2_goBackTo_4 : decode cX2_goBackTo 4 = .ok (.iload_n 1, 1) := by decide +kernel
theorem dX2_goBackTo_5 : decode cX2_goBackTo 5 = .ok (.invokevirtual 21, 3) := by decide +kernel
theorem dX2_goBackTo_8 : decode cX2_goBackTo 8 = .ok (.return_, 1) := by decide +kernel
theorem dX2_hasRoom_0 : decode cX2_hasRoom 0 = .ok (.iload_n 1, 1) := by decide +kernel
theorem dX2_hasRoom_1 : decode cX2_hasRoom 1 = .ok (.ifCond .eq 21, 3) := by decide +kernel
theorem dX2_hasRoom_4 : decode cX2_hasRoom 4 = .ok (.aload_n 0, 1) := by decide +kernel
theorem dX2_hasRoom_5 : decode cX2_hasRoom 5 = .ok (.getfield 12, 3) := by decide +kernel
theorem dX2_hasRoom_8 : decode cX2_hasRoom 8 = .ok (.invokevirtual 32, 3) := by decide +kernel
theorem dX2_hasRoom_11 : decode cX2_hasRoom 11 = .ok (.iconst 1, 1) := by decide +kernel
theorem dX2_hasRoom_12 : decode cX2_hasRoom 12 = .ok (.iadd, 1) := by decide +kernel
theorem dX2_hasRoom_13 : decode cX2_hasRoom 13 = .ok (.iload_n 1, 1) := by decide +kernel
theorem dX2_hasRoom_14 : decode cX2_hasRoom 14 = .ok (.iadd, 1) := by decide +kernel
theorem dX2_hasRoom_15 : decode cX2_hasRoom 15 = .ok (.aload_n 0, 1) := by decide +kernel
theorem dX2_hasRoom_16 : decode cX2_hasRoom 16 = .ok (.getfield 25, 3) := by decide +kernel
theorem dX2_hasRoom_19 : decode cX2_hasRoom 19 = .ok (.if_icmp .gt 7, 3) := by decide +kernel
theorem dX2_hasRoom_22 : decode cX2_hasRoom 22 = .ok (.iconst 1, 1) := by decide +kernel
theorem dX2_hasRoom_23 : decode cX2_hasRoom 23 = .ok (.goto 4, 3) := by decide +kernel
theorem dX2_hasRoom_26 : decode cX2_hasRoom 26 = .ok (.iconst 0, 1) := by decide +kernel
theorem dX2_hasRoom_27 : decode cX2_hasRoom 27 = .ok (.ireturn, 1) := by decide +kernel
theorem dX2_open_0 : decode cX2_open 0 = .ok (.iload_n 2, 1) := by decide +kernel
theorem dX2_open_1 : decode cX2_open 1 = .ok (.ifCond .ne 10, 3) := by decide +kernel
theorem dX2_open_4 : decode cX2_open 4 = .ok (.iload_n 1, 1) := by decide +kernel
theorem dX2_open_5 : decode cX2_open 5 = .ok (.iconst 0, 1) := by decide +kernel
theorem dX2_open_6 : decode cX2_open 6 = .ok (.iconst 0, 1) := by decide +kernel
theorem dX2_open_7 : decode cX2_open 7 = .ok (.invokestatic 36, 3) := by decide +kernel
theorem dX2_open_10 : decode cX2_open 10 = .ok (.lreturn, 1) := by decide +kernel
theorem dX2_open_11 : decode cX2_open 11 = .ok (.iload_n 1, 1) := by decide +kernel
theorem dX2_open_12 : decode cX2_open 12 = .ok (.iload_n 2, 1) := by decide +kernel
theorem dX2_open_13 : decode cX2_open 13 = .ok (.aload_n 0, 1) := by decide +kernel
theorem dX2_open_14 : decode cX2_open 14 = .ok (.getfield 12, 3) := by decide +kernel
theorem dX2_open_17 : decode cX2_open 17 = .ok (.invokevirtual 32, 3) := by decide +kernel
theorem dX2_open_20 : decode cX2_open 20 = .ok (.invokestatic 36, 3) := by decide +kernel
theorem dX2_open_23 : decode cX2_open 23 = .ok (.lstore_n 3, 1) := by decide +kernel
theorem dX2_open_24 : decode cX2_open 24 = .ok (.aload_n 0, 1) := by decide +kernel
theorem dX2_open_25 : decode cX2_open 25 = .ok (.getfield 12, 3) := by decide +kernel
theorem dX2_open_28 : decode cX2_open 28 = .ok (.iload_n 1, 1) := by decide +kernel
theorem dX2_open_29 : decode cX2_open 29 = .ok (.i2l, 1) := by decide +kernel
theorem dX2_open_30 : decode cX2_open 30 = .ok (.invokevirtual 42, 3) := by decide +kernel
theorem dX2_open_33 : decode cX2_open 33 = .ok (.lload_n 3, 1) := by decide +kernel
theorem dX2_open_34 : decode cX2_open 34 = .ok (.lreturn, 1) := by decide +kernel
theorem dX2_fill_0 : decode cX2_fill 0 = .ok (.aload_n 0, 1) := by decide +kernel
theorem dX2_fill_1 : decode cX2_fill 1 = .ok (.getfield 12, 3) := by decide +kernel
theorem dX2_fill_4 : decode cX2_fill 4 = .ok (.lload_n 1, 1) := by decide +kernel
theorem dX2_fill_5 : decode cX2_fill 5 = .ok (.invokevirtual 42, 3) := by decide +kernel
theorem dX2_fill_8 : decode cX2_fill 8 = .ok (.aload_n 0, 1) := by decide +kernel
theorem dX2_fill_9 : decode cX2_fill 9 = .ok (.aload_n 0, 1) := by decide +kernel
theorem dX2_fill_10 : decode cX2_fill 10 = .ok (.getfield 29, 3) := by decide +kernel
theorem dX2_fill_13 : decode cX2_fill 13 = .ok (.aload_n 0, 1) := by decide +kernel
theorem dX2_fill_14 : decode cX2_fill 14 = .ok (.getfield 12, 3) := by decide +kernel
theorem dX2_fill_17 : decode cX2_fill 17 = .ok (.invokevirtual 32, 3) := by decide +kernel
theorem dX2_fill_20 : decode cX2_fill 20 = .ok (.invokestatic 46, 3) := by decide +kernel
theorem dX2_fill_23 : decode cX2_fill 23 = .ok (.putfield 29, 3) := by decide +kernel
theorem dX2_fill_26 : decode cX2_fill 26 = .ok (.return_, 1) := by decide +kernel
theorem dX2_field_0 : decode cX2_field 0 = .ok (.aload_n 0, 1) := by decide +kernel
theorem dX2_field_1 : decode cX2_field 1 = .ok (.getfield 12, 3) := by decide +kernel
theorem dX2_field_4 : decode cX2_field 4 = .ok (.lload_n 1, 1) := by decide +kernel
theorem dX2_field_5 : decode cX2_field 5 = .ok (.invokestatic 52, 3) := by decide +kernel
theorem dX2_field_8 : decode cX2_field 8 = .ok (.iconst 1, 1) := by decide +kernel
theorem dX2_field_9 : decode cX2_field 9 = .ok (.iadd, 1) := by decide +kernel
theorem dX2_field_10 : decode cX2_field 10 = .ok (.iload_n 3, 1) := by decide +kernel
theorem dX2_field_11 : decode cX2_field 11 = .ok (.iadd, 1) := by decide +kernel
theorem dX2_field_12 : decode cX2_field 12 = .ok (.invokevirtual 56, 3) := by decide +kernel
theorem dX2_field_15 : decode cX2_field 15 = .ok (.lreturn, 1) := by decide +kernel
theorem dX2_compare_0 : decode cX2_compare 0 = .ok (.aload_n 0, 1) := by decide +kernel
theorem dX2_compare_1 : decode cX2_compare 1 = .ok (.getfield 18, 3) := by decide +kernel
theorem dX2_compare_4 : decode cX2_compare 4 = .ok (.iconst 0, 1) := by decide +kernel
theorem dX2_compare_5 : decode cX2_compare 5 = .ok (.invokevirtual 21, 3) := by decide +kernel
theorem dX2_compare_8 : decode cX2_compare 8 = .ok (.aload_n 0, 1) := by decide +kernel
theorem dX2_compare_9 : decode cX2_compare 9 = .ok (.getfield 18, 3) := by decide +kernel
theorem dX2_compare_12 : decode cX2_compare 12 = .ok (.lload_n 1, 1) := by decide +kernel
theorem dX2_compare_13 : decode cX2_compare 13 = .ok (.invokevirtual 42, 3) := by decide +kernel
theorem dX2_compare_16 : decode cX2_compare 16 = .ok (.aload_n 0, 1) := by decide +kernel
theorem dX2_compare_17 : decode cX2_compare 17 = .ok (.getfield 18, 3) := by decide +kernel
theorem dX2_compare_20 : decode cX2_compare 20 = .ok (.lload_n 3, 1) := by decide +kernel
theorem dX2_compare_21 : decode cX2_compare 21 = .ok (.invokevirtual 42, 3) := by decide +kernel
theorem dX2_compare_24 : decode cX2_compare 24 = .ok (.iconst 0, 1) := by decide +kernel
theorem dX2_compare_25 : decode cX2_compare 25 = .ok (.istore 5, 2) := by decide +kernel
theorem dX2_compare_27 : decode cX2_compare 27 = .ok (.iload 5, 2) := by decide +kernel
theorem dX2_compare_29 : decode cX2_compare 29 = .ok (.sipush 5000, 3) := by decide +kernel
theorem dX2_compare_32 : decode cX2_compare 32 = .ok (.if_icmp .ge 58, 3) := by decide +kernel
theorem dX2_compare_35 : decode cX2_compare 35 = .ok (.aload_n 0, 1) := by decide +kernel
theorem dX2_compare_36 : decode cX2_compare 36 = .ok (.getfield 18, 3) := by decide +kernel
theorem dX2_compare_39 : decode cX2_compare 39 = .ok (.invokevirtual 32, 3) := by decide +kernel
theorem dX2_compare_42 : decode cX2_compare 42 = .ok (.ifCond .le 48, 3) := by decide +kernel
theorem dX2_compare_45 : decode cX2_compare 45 = .ok (.aload_n 0, 1) := by decide +kernel
theorem dX2_compare_46 : decode cX2_compare 46 = .ok (.getfield 18, 3) := by decide +kernel
theorem dX2_compare_49 : decode cX2_compare 49 = .ok (.invokevirtual 60, 3) := by decide +kernel
theorem dX2_compare_52 : decode cX2_compare 52 = .ok (.lstore 6, 2) := by decide +kernel
theorem dX2_compare_54 : decode cX2_compare 54 = .ok (.aload_n 0, 1) := by decide +kernel
theorem dX2_compare_55 : decode cX2_compare 55 = .ok (.getfield 18, 3) := by decide +kernel
theorem dX2_compare_58 : decode cX2_compare 58 = .ok (.invokevirtual 60, 3) := by decide +kernel
theorem dX2_compare_61 : decode cX2_compare 61 = .ok (.lstore 8, 2) := by decide +kernel
theorem dX2_compare_63 : decode cX2_compare 63 = .ok (.lload 8, 2) := by decide +kernel
theorem dX2_compare_65 : decode cX2_compare 65 = .ok (.lload 6, 2) := by decide +kernel
theorem dX2_compare_67 : decode cX2_compare 67 = .ok (.invokestatic 64, 3) := by decide +kernel
theorem dX2_compare_70 : decode cX2_compare 70 = .ok (.ifCond .eq 6, 3) := by decide +kernel
theorem dX2_compare_73 : decode cX2_compare 73 = .ok (.bipush 7, 2) := by decide +kernel
theorem dX2_compare_75 : decode cX2_compare 75 = .ok (.ireturn, 1) := by decide +kernel
theorem dX2_compare_76 : decode cX2_compare 76 = .ok (.aload_n 0, 1) := by decide +kernel
theorem dX2_compare_77 : decode cX2_compare 77 = .ok (.lload 8, 2) := by decide +kernel
theorem dX2_compare_79 : decode cX2_compare 79 = .ok (.lload 6, 2) := by decide +kernel
theorem dX2_compare_81 : decode cX2_compare 81 = .ok (.invokevirtual 68, 3) := by decide +kernel
theorem dX2_compare_84 : decode cX2_compare 84 = .ok (.iinc 5 1, 3) := by decide +kernel
theorem dX2_compare_87 : decode cX2_compare 87 = .ok (.goto (-60), 3) := by decide +kernel
theorem dX2_compare_90 : decode cX2_compare 90 = .ok (.aload_n 0, 1) := by decide +kernel
theorem dX2_compare_91 : decode cX2_compare 91 = .ok (.getfield 18, 3) := by decide +kernel
theorem dX2_compare_94 : decode cX2_compare 94 = .ok (.invokevirtual 32, 3) := by decide +kernel
theorem dX2_compare_97 : decode cX2_compare 97 = .ok (.ifCond .le 8, 3) := by decide +kernel
theorem dX2_compare_100 : decode cX2_compare 100 = .ok (.bipush 6, 2) := by decide +kernel
theorem dX2_compare_102 : decode cX2_compare 102 = .ok (.goto 4, 3) := by decide +kernel
theorem dX2_compare_105 : decode cX2_compare 105 = .ok (.iconst 0, 1) := by decide +kernel
theorem dX2_compare_106 : decode cX2_compare 106 = .ok (.ireturn, 1) := by decide +kernel
theorem dX2_awaitFields_0 : decode cX2_awaitFields 0 = .ok (.lload_n 1, 1) := by decide +kernel
theorem dX2_awaitFields_1 : decode cX2_awaitFields 1 = .ok (.invokestatic 72, 3) := by decide +kernel
theorem dX2_awaitFields_4 : decode cX2_awaitFields 4 = .ok (.ifCond .ne 4, 3) := by decide +kernel
theorem dX2_awaitFields_7 : decode cX2_awaitFields 7 = .ok (.return_, 1) := by decide +kernel
theorem dX2_awaitFields_8 : decode cX2_awaitFields 8 = .ok (.lload_n 1, 1) := by decide +kernel
theorem dX2_awaitFields_9 : decode cX2_awaitFields 9 = .ok (.invokestatic 76, 3) := by decide +kernel
theorem dX2_awaitFields_12 : decode cX2_awaitFields 12 = .ok (.iconst 1, 1) := by decide +kernel
theorem dX2_awaitFields_13 : decode cX2_awaitFields 13 = .ok (.isub, 1) := by decide +kernel
theorem dX2_awaitFields_14 : decode cX2_awaitFields 14 = .ok (.istore 5, 2) := by decide +kernel
theorem dX2_awaitFields_16 : decode cX2_awaitFields 16 = .ok (.iload 5, 2) := by decide +kernel
theorem dX2_awaitFields_18 : decode cX2_awaitFields 18 = .ok (.ifCond .lt 37, 3) := by decide +kernel
theorem dX2_awaitFields_21 : decode cX2_awaitFields 21 = .ok (.aload_n 0, 1) := by decide +kernel
theorem dX2_awaitFields_22 : decode cX2_awaitFields 22 = .ok (.getfield 18, 3) := by decide +kernel
theorem dX2_awaitFields_25 : decode cX2_awaitFields 25 = .ok (.aload_n 0, 1) := by decide +kernel
theorem dX2_awaitFields_26 : decode cX2_awaitFields 26 = .ok (.lload_n 1, 1) := by decide +kernel
theorem dX2_awaitFields_27 : decode cX2_awaitFields 27 = .ok (.iload 5, 2) := by decide +kernel
theorem dX2_awaitFields_29 : decode cX2_awaitFields 29 = .ok (.invokevirtual 79, 3) := by decide +kernel
theorem dX2_awaitFields_32 : decode cX2_awaitFields 32 = .ok (.invokevirtual 42, 3) := by decide +kernel
theorem dX2_awaitFields_35 : decode cX2_awaitFields 35 = .ok (.aload_n 0, 1) := by decide +kernel
theorem dX2_awaitFields_36 : decode cX2_awaitFields 36 = .ok (.getfield 18, 3) := by decide +kernel
theorem dX2_awaitFields_39 : decode cX2_awaitFields 39 = .ok (.aload_n 0, 1) := by decide +kernel
theorem dX2_awaitFields_40 : decode cX2_awaitFields 40 = .ok (.lload_n 3, 1) := by decide +kernel
theorem dX2_awaitFields_41 : decode cX2_awaitFields 41 = .ok (.iload 5, 2) := by decide +kernel
theorem dX2_awaitFields_43 : decode cX2_awaitFields 43 = .ok (.invokevirtual 79, 3) := by decide +kernel
theorem dX2_awaitFields_46 : decode cX2_awaitFields 46 = .ok (.invokevirtual 42, 3) := by decide +kernel
theorem dX2_awaitFields_49 : decode cX2_awaitFields 49 = .ok (.iinc 5 (-1), 3) := by decide +kernel
theorem dX2_awaitFields_52 : decode cX2_awaitFields 52 = .ok (.goto (-36), 3) := by decide +kernel
theorem dX2_awaitFields_55 : decode cX2_awaitFields 55 = .ok (.return_, 1) := by decide +kernel
theorem dX3_init_0 : decode cX3_init 0 = .ok (.aload_n 0, 1) := by decide +kernel
theorem dX3_init_1 : decode cX3_init 1 = .ok (.invokespecial 1, 3) := by decide +kernel
theorem dX3_init_4 : decode cX3_init 4 = .ok (.aload_n 0, 1) := by decide +kernel
theorem dX3_init_5 : decode cX3_init 5 = .ok (.iload_n 1, 1) := by decide +kernel
theorem dX3_init_6 : decode cX3_init 6 = .ok (.putfield 7, 3) := by decide +kernel
theorem dX3_init_9 : decode cX3_init 9 = .ok (.aload_n 0, 1) := by decide +kernel
theorem dX3_init_10 : decode cX3_init 10 = .ok (.iload_n 2, 1) := by decide +kernel
theorem dX3_init_11 : decode cX3_init 11 = .ok (.putfield 13, 3) := by decide +kernel
theorem dX3_init_14 : decode cX3_init 14 = .ok (.aload_n 0, 1) := by decide +kernel
theorem dX3_init_15 : decode cX3_init 15 = .ok (.iload_n 3, 1) := by decide +kernel
theorem dX3_init_16 : decode cX3_init 16 = .ok (.putfield 16, 3) := by decide +kernel
theorem dX3_init_19 : decode cX3_init 19 = .ok (.aload_n 0, 1) := by decide +kernel
theorem dX3_init_20 : decode cX3_init 20 = .ok (.iload 4, 2) := by decide +kernel
theorem dX3_init_22 : decode cX3_init 22 = .ok (.putfield 19, 3) := by decide +kernel
theorem dX3_init_25 : decode cX3_init 25 = .ok (.aload_n 0, 1) := by decide +kernel
theorem dX3_init_26 : decode cX3_init 26 = .ok (.iload 5, 2) := by decide +kernel
theorem dX3_init_28 : decode cX3_init 28 = .ok (.putfield 22, 3) := by decide +kernel
theorem dX3_init_31 : decode cX3_init 31 = .ok (.aload_n 0, 1) := by decide +kernel
theorem dX3_init_32 : decode cX3_init 32 = .ok (.aload 6, 2) := by decide +kernel
theorem dX3_init_34 : decode cX3_init 34 = .ok (.putfield 25, 3) := by decide +kernel
theorem dX3_init_37 : decode cX3_init 37 = .ok (.return_, 1) := by decide +kernel
theorem dX4_init_0 : decode cX4_init 0 = .ok (.aload_n 0, 1) := by decide +kernel
theorem dX4_init_1 : decode cX4_init 1 = .ok (.invokespecial 1, 3) := by decide +kernel
theorem dX4_init_4 : decode cX4_init 4 = .ok (.aload_n 0, 1) := by decide +kernel
theorem dX4_init_5 : decode cX4_init 5 = .ok (.bipush 32, 2) := by decide +kernel
theorem dX4_init_7 : decode cX4_init 7 = .ok (.newarray .long, 2) := by decide +kernel
theorem dX4_init_9 : decode cX4_init 9 = .ok (.putfield 9, 3) := by decide +kernel
theorem dX4_init_12 : decode cX4_init 12 = .ok (.return_, 1) := by decide +kernel
theorem dX4_size_0 : decode cX4_size 0 = .ok (.aload_n 0, 1) := by decide +kernel
theorem dX4_size_1 : decode cX4_size 1 = .ok (.getfield 13, 3) := by decide +kernel
theorem dX4_size_4 : decode cX4_size 4 = .ok (.ireturn, 1) := by decide +kernel
theorem dX4_at_0 : decode cX4_at 0 = .ok (.iload_n 1, 1) := by decide +kernel
theorem dX4_at_1 : decode cX4_at 1 = .ok (.aload_n 0, 1) := by decide +kernel
theorem dX4_at_2 : decode cX4_at 2 = .ok (.getfield 13, 3) := by decide +kernel
theorem dX4_at_5 : decode cX4_at 5 = .ok (.invokestatic 17, 3) := by decide +kernel
theorem dX4_at_8 : decode cX4_at 8 = .ok (.ifCond .eq 21, 3) := by decide +kernel
theorem dX4_at_11 : decode cX4_at 11 = .ok (.iload_n 1, 1) := by decide +kernel
theorem dX4_at_12 : decode cX4_at 12 = .ok (.aload_n 0, 1) := by decide +kernel
theorem dX4_at_13 : decode cX4_at 13 = .ok (.getfield 9, 3) := by decide +kernel
theorem dX4_at_16 : decode cX4_at 16 = .ok (.arraylength, 1) := by decide +kernel
theorem dX4_at_17 : decode cX4_at 17 = .ok (.if_icmp .ge 12, 3) := by decide +kernel
theorem dX4_at_20 : decode cX4_at 20 = .ok (.aload_n 0, 1) := by decide +kernel
theorem dX4_at_21 : decode cX4_at 21 = .ok (.getfield 9, 3) := by decide +kernel
theorem dX4_at_24 : decode cX4_at 24 = .ok (.iload_n 1, 1) := by decide +kernel
theorem dX4_at_25 : decode cX4_at 25 = .ok (.laload, 1) := by decide +kernel
theorem dX4_at_26 : decode cX4_at 26 = .ok (.goto 4, 3) := by decide +kernel
theorem dX4_at_29 : decode cX4_at 29 = .ok (.lconst 0, 1) := by decide +kernel
theorem dX4_at_30 : decode cX4_at 30 = .ok (.lreturn, 1) := by decide +kernel
theorem dX4_set_0 : decode cX4_set 0 = .ok (.iload_n 1, 1) := by decide +kernel
theorem dX4_set_1 : decode cX4_set 1 = .ok (.aload_n 0, 1) := by decide +kernel
theorem dX4_set_2 : decode cX4_set 2 = .ok (.getfield 13, 3) := by decide +kernel
theorem dX4_set_5 : decode cX4_set 5 = .ok (.invokestatic 17, 3) := by decide +kernel
theorem dX4_set_8 : decode cX4_set 8 = .ok (.ifCond .eq 19, 3) := by decide +kernel
theorem dX4_set_11 : decode cX4_set 11 = .ok (.iload_n 1, 1) := by decide +kernel
theorem dX4_set_12 : decode cX4_set 12 = .ok (.aload_n 0, 1) := by decide +kernel
theorem dX4_set_13 : decode cX4_set 13 = .ok (.getfield 9, 3) := by decide +kernel
theorem dX4_set_16 : decode cX4_set 16 = .ok (.arraylength, 1) := by decide +kernel
theorem dX4_set_17 : decode cX4_set 17 = .ok (.if_icmp .ge 10, 3) := by decide +kernel
theorem dX4_set_20 : decode cX4_set 20 = .ok (.aload_n 0, 1) := by decide +kernel
theorem dX4_set_21 : decode cX4_set 21 = .ok (.getfield 9, 3) := by decide +kernel
theorem dX4_set_24 : decode cX4_set 24 = .ok (.iload_n 1, 1) := by decide +kernel
theorem dX4_set_25 : decode cX4_set 25 = .ok (.lload_n 2, 1) := by decide +kernel
theorem dX4_set_26 : decode cX4_set 26 = .ok (.lastore, 1) := by decide +kernel
theorem dX4_set_27 : decode cX4_set 27 = .ok (.return_, 1) := by decide +kernel
theorem dX4_push_0 : decode cX4_push 0 = .ok (.aload_n 0, 1) := by decide +kernel
theorem dX4_push_1 : decode cX4_push 1 = .ok (.getfield 13, 3) := by decide +kernel
theorem dX4_push_4 : decode cX4_push 4 = .ok (.aload_n 0, 1) := by decide +kernel
theorem dX4_push_5 : decode cX4_push 5 = .ok (.getfield 9, 3) := by decide +kernel
theorem dX4_push_8 : decode cX4_push 8 = .ok (.arraylength, 1) := by decide +kernel
theorem dX4_push_9 : decode cX4_push 9 = .ok (.if_icmp .lt 31, 3) := by decide +kernel
theorem dX4_push_12 : decode cX4_push 12 = .ok (.aload_n 0, 1) := by decide +kernel
theorem dX4_push_13 : decode cX4_push 13 = .ok (.getfield 9, 3) := by decide +kernel
theorem dX4_push_16 : decode cX4_push 16 = .ok (.arraylength, 1) := by decide +kernel
theorem dX4_push_17 : decode cX4_push 17 = .ok (.ldc 23, 2) := by decide +kernel
theorem dX4_push_19 : decode cX4_push 19 = .ok (.if_icmp .ge 21, 3) := by decide +kernel
theorem dX4_push_22 : decode cX4_push 22 = .ok (.aload_n 0, 1) := by decide +kernel
theorem dX4_push_23 : decode cX4_push 23 = .ok (.aload_n 0, 1) := by decide +kernel
theorem dX4_push_24 : decode cX4_push 24 = .ok (.getfield 9, 3) := by decide +kernel
theorem dX4_push_27 : decode cX4_push 27 = .ok (.aload_n 0, 1) := by decide +kernel
theorem dX4_push_28 : decode cX4_push 28 = .ok (.getfield 9, 3) := by decide +kernel
theorem dX4_push_31 : decode cX4_push 31 = .ok (.arraylength, 1) := by decide +kernel
theorem dX4_push_32 : decode cX4_push 32 = .ok (.iconst 2, 1) := by decide +kernel
theorem dX4_push_33 : decode cX4_push 33 = .ok (.imul, 1) := by decide +kernel
theorem dX4_push_34 : decode cX4_push 34 = .ok (.invokestatic 24, 3) := by decide +kernel
theorem dX4_push_37 : decode cX4_push 37 = .ok (.putfield 9, 3) := by decide +kernel
theorem dX4_push_40 : decode cX4_push 40 = .ok (.aload_n 0, 1) := by decide +kernel
theorem dX4_push_41 : decode cX4_push 41 = .ok (.getfield 13, 3) := by decide +kernel
theorem dX4_push_44 : decode cX4_push 44 = .ok (.aload_n 0, 1) := by decide +kernel
theorem dX4_push_45 : decode cX4_push 45 = .ok (.getfield 9, 3) := by decide +kernel
theorem dX4_push_48 : decode cX4_push 48 = .ok (.arraylength, 1) := by decide +kernel
theorem dX4_push_49 : decode cX4_push 49 = .ok (.invokestatic 17, 3) := by decide +kernel
theorem dX4_push_52 : decode cX4_push 52 = .ok (.ifCond .eq 23, 3) := by decide +kernel
theorem dX4_push_55 : decode cX4_push 55 = .ok (.aload_n 0, 1) := by decide +kernel
theorem dX4_push_56 : decode cX4_push 56 = .ok (.getfield 9, 3) := by decide +kernel
theorem dX4_push_59 : decode cX4_push 59 = .ok (.aload_n 0, 1) := by decide +kernel
theorem dX4_push_60 : decode cX4_push 60 = .ok (.getfield 13, 3) := by decide +kernel
theorem dX4_push_63 : decode cX4_push 63 = .ok (.lload_n 1, 1) := by decide +kernel
theorem dX4_push_64 : decode cX4_push 64 = .ok (.lastore, 1) := by decide +kernel
theorem dX4_push_65 : decode cX4_push 65 = .ok (.aload_n 0, 1) := by decide +kernel
theorem dX4_push_66 : decode cX4_push 66 = .ok (.dup, 1) := by decide +kernel
theorem dX4_push_67 : decode cX4_push 67 = .ok (.getfield 13, 3) := by decide +kernel
theorem dX4_push_70 : decode cX4_push 70 = .ok (.iconst 1, 1) := by decide +kernel
theorem dX4_push_71 : decode cX4_push 71 = .ok (.iadd, 1) := by decide +kernel
theorem dX4_push_72 : decode cX4_push 72 = .ok (.putfield 13, 3) := by decide +kernel
theorem dX4_push_75 : decode cX4_push 75 = .ok (.return_, 1) := by decide +kernel
theorem dX4_pop_0 : decode cX4_pop 0 = .ok (.aload_n 0, 1) := by decide +kernel
theorem dX4_pop_1 : decode cX4_pop 1 = .ok (.aload_n 0, 1) := by decide +kernel
theorem dX4_pop_2 : decode cX4_pop 2 = .ok (.getfield 13, 3) := by decide +kernel
theorem dX4_pop_5 : decode cX4_pop 5 = .ok (.iconst 1, 1) := by decide +kernel
theorem dX4_pop_6 : decode cX4_pop 6 = .ok (.isub, 1) := by decide +kernel
theorem dX4_pop_7 : decode cX4_pop 7 = .ok (.invokevirtual 30, 3) := by decide +kernel
theorem dX4_pop_10 : decode cX4_pop 10 = .ok (.lstore_n 1, 1) := by decide +kernel
theorem dX4_pop_11 : decode cX4_pop 11 = .ok (.aload_n 0, 1) := by decide +kernel
theorem dX4_pop_12 : decode cX4_pop 12 = .ok (.aload_n 0, 1) := by decide +kernel
theorem dX4_pop_13 : decode cX4_pop 13 = .ok (.getfield 13, 3) := by decide +kernel
theorem dX4_pop_16 : decode cX4_pop 16 = .ok (.iconst 1, 1) := by decide +kernel
theorem dX4_pop_17 : decode cX4_pop 17 = .ok (.isub, 1) := by decide +kernel
theorem dX4_pop_18 : decode cX4_pop 18 = .ok (.invokevirtual 34, 3) := by decide +kernel
theorem dX4_pop_21 : decode cX4_pop 21 = .ok (.lload_n 1, 1) := by decide +kernel
theorem dX4_pop_22 : decode cX4_pop 22 = .ok (.lreturn, 1) := by decide +kernel
theorem dX4_shrink_0 : decode cX4_shrink 0 = .ok (.iload_n 1, 1) := by decide +kernel
theorem dX4_shrink_1 : decode cX4_shrink 1 = .ok (.aload_n 0, 1) := by decide +kernel
theorem dX4_shrink_2 : decode cX4_shrink 2 = .ok (.getfield 13, 3) := by decide +kernel
theorem dX4_shrink_5 : decode cX4_shrink 5 = .ok (.invokestatic 17, 3) := by decide +kernel
theorem dX4_shrink_8 : decode cX4_shrink 8 = .ok (.ifCond .eq 8, 3) := by decide +kernel
theorem dX4_shrink_11 : decode cX4_shrink 11 = .ok (.aload_n 0, 1) := by decide +kernel
theorem dX4_shrink_12 : decode cX4_shrink 12 = .ok (.iload_n 1, 1) := by decide +kernel
theorem dX4_shrink_13 : decode cX4_shrink 13 = .ok (.putfield 13, 3) := by decide +kernel
theorem dX4_shrink_16 : decode cX4_shrink 16 = .ok (.return_, 1) := by decide +kernel
theorem dX5_init_0 : decode cX5_init 0 = .ok (.aload_n 0, 1) := by decide +kernel
theorem dX5_init_1 : decode cX5_init 1 = .ok (.invokespecial 3, 3) := by decide +kernel
theorem dX5_init_4 : decode cX5_init 4 = .ok (.aload_n 0, 1) := by decide +kernel
theorem dX5_init_5 : decode cX5_init 5 = .ok (.new 9, 3) := by decide +kernel
theorem dX5_init_8 : decode cX5_init 8 = .ok (.dup, 1) := by decide +kernel
theorem dX5_init_9 : decode cX5_init 9 = .ok (.invokespecial 11, 3) := by decide +kernel
theorem dX5_init_12 : decode cX5_init 12 = .ok (.putfield 12, 3) := by decide +kernel
theorem dX5_init_15 : decode cX5_init 15 = .ok (.aload_n 0, 1) := by decide +kernel
theorem dX5_init_16 : decode cX5_init 16 = .ok (.iload_n 1, 1) := by decide +kernel
theorem dX5_init_17 : decode cX5_init 17 = .ok (.putfield 18, 3) := by decide +kernel
theorem dX5_init_20 : decode cX5_init 20 = .ok (.aload_n 0, 1) := by decide +kernel
theorem dX5_init_21 : decode cX5_init 21 = .ok (.iload_n 2, 1) := by decide +kernel
theorem dX5_init_22 : decode cX5_init 22 = .ok (.putfield 22, 3) := by decide +kernel
theorem dX5_init_25 : decode cX5_init 25 = .ok (.aload_n 0, 1) := by decide +kernel
theorem dX5_init_26 : decode cX5_init 26 = .ok (.iload_n 3, 1) := by decide +kernel
theorem dX5_init_27 : decode cX5_init 27 = .ok (.putfield 26, 3) := by decide +kernel
theorem dX5_init_30 : decode cX5_init 30 = .ok (.aload_n 0, 1) := by decide +kernel
theorem dX5_init_31 : decode cX5_init 31 = .ok (.aload 4, 2) := by decide +kernel
theorem dX5_init_33 : decode cX5_init 33 = .ok (.putfield 29, 3) := by decide +kernel
theorem dX5_init_36 : decode cX5_init 36 = .ok (.return_, 1) := by decide +kernel
theorem dX5_fits_0 : decode cX5_fits 0 = .ok (.iload_n 0, 1) := by decide +kernel
theorem dX5_fits_1 : decode cX5_fits 1 = .ok (.iconst 1, 1) := by decide +kernel
theorem dX5_fits_2 : decode cX5_fits 2 = .ok (.if_icmp .lt 46, 3) := by decide +kernel
theorem dX5_fits_5 : decode cX5_fits 5 = .ok (.iload_n 0, 1) := by decide +kernel
theorem dX5_fits_6 : decode cX5_fits 6 = .ok (.bipush 40, 2) := by decide +kernel
theorem dX5_fits_8 : decode cX5_fits 8 = .ok (.if_icmp .gt 40, 3) := by decide +kernel
theorem dX5_fits_11 : decode cX5_fits 11 = .ok (.iload_n 1, 1) := by decide +kernel
theorem dX5_fits_12 : decode cX5_fits 12 = .ok (.ifCond .lt 36, 3) := by decide +kernel
theorem dX5_fits_15 : decode cX5_fits 15 = .ok (.iload_n 1, 1) := by decide +kernel
theorem dX5_fits_16 : decode cX5_fits 16 = .ok (.iload_n 0, 1) := by decide +kernel
theorem dX5_fits_17 : decode cX5_fits 17 = .ok (.if_icmp .gt 31, 3) := by decide +kernel
theorem dX5_fits_20 : decode cX5_fits 20 = .ok (.aload_n 2, 1) := by decide +kernel
theorem dX5_fits_21 : decode cX5_fits 21 = .ok (.arraylength, 1) := by decide +kernel
theorem dX5_fits_22 : decode cX5_fits 22 = .ok (.bipush 8, 2) := by decide +kernel
theorem dX5_fits_24 : decode cX5_fits 24 = .ok (.if_icmp .gt 24, 3) := by decide +kernel
theorem dX5_fits_27 : decode cX5_fits 27 = .ok (.iload_n 1, 1) := by decide +kernel
theorem dX5_fits_28 : decode cX5_fits 28 = .ok (.aload_n 2, 1) := by decide +kernel
theorem dX5_fits_29 : decode cX5_fits 29 = .ok (.arraylength, 1) := by decide +kernel
theorem dX5_fits_30 : decode cX5_fits 30 = .ok (.iadd, 1) := by decide +kernel
theorem dX5_fits_31 : decode cX5_fits 31 = .ok (.bipush 10, 2) := by decide +kernel
theorem dX5_fits_33 : decode cX5_fits 33 = .ok (.if_icmp .gt 15, 3) := by decide +kernel
theorem dX5_fits_36 : decode cX5_fits 36 = .ok (.aload_n 2, 1) := by decide +kernel
theorem dX5_fits_37 : decode cX5_fits 37 = .ok (.iload_n 0, 1) := by decide +kernel
theorem dX5_fits_38 : decode cX5_fits 38 = .ok (.invokestatic 33, 3) := by decide +kernel
theorem dX5_fits_41 : decode cX5_fits 41 = .ok (.ifCond .eq 7, 3) := by decide +kernel
theorem dX5_fits_44 : decode cX5_fits 44 = .ok (.iconst 1, 1) := by decide +kernel
theorem dX5_fits_45 : decode cX5_fits 45 = .ok (.goto 4, 3) := by decide +kernel
theorem dX5_fits_48 : decode cX5_fits 48 = .ok (.iconst 0, 1) := by decide +kernel
theorem dX5_fits_49 : decode cX5_fits 49 = .ok (.ireturn, 1) := by decide +kernel
theorem dX5_allWithin_0 : decode cX5_allWithin 0 = .ok (.aload_n 0, 1) := by decide +kernel
theorem dX5_allWithin_1 : decode cX5_allWithin 1 = .ok (.astore_n 2, 1) := by decide +kernel
theorem dX5_allWithin_2 : decode cX5_allWithin 2 = .ok (.aload_n 2, 1) := by decide +kernel
theorem dX5_allWithin_3 : decode cX5_allWithin 3 = .ok (.arraylength, 1) := by decide +kernel
theorem dX5_allWithin_4 : decode cX5_allWithin 4 = .ok (.istore_n 3, 1) := by decide +kernel
theorem dX5_allWithin_5 : decode cX5_allWithin 5 = .ok (.iconst 0, 1) := by decide +kernel
theorem dX5_allWithin_6 : decode cX5_allWithin 6 = .ok (.istore 4, 2) := by decide +kernel
theorem dX5_allWithin_8 : decode cX5_allWithin 8 = .ok (.iload 4, 2) := by decide +kernel
theorem dX5_allWithin_10 : decode cX5_allWithin 10 = .ok (.iload_n 3, 1) := by decide +kernel
theorem dX5_allWithin_11 : decode cX5_allWithin 11 = .ok (.if_icmp .ge 26, 3) := by decide +kernel
theorem dX5_allWithin_14 : decode cX5_allWithin 14 = .ok (.aload_n 2, 1) := by decide +kernel
theorem dX5_allWithin_15 : decode cX5_allWithin 15 = .ok (.iload 4, 2) := by decide +kernel
theorem dX5_allWithin_17 : decode cX5_allWithin 17 = .ok (.iaload, 1) := by decide +kernel
theorem dX5_allWithin_18 : decode cX5_allWithin 18 = .ok (.istore 5, 2) := by decide +kernel
theorem dX5_allWithin_20 : decode cX5_allWithin 20 = .ok (.iload 5, 2) := by decide +kernel
theorem dX5_allWithin_22 : decode cX5_allWithin 22 = .ok (.iload_n 1, 1) := by decide +kernel
theorem dX5_allWithin_23 : decode cX5_allWithin 23 = .ok (.invokestatic 37, 3) := by decide +kernel
theorem dX5_allWithin_26 : decode cX5_allWithin 26 = .ok (.ifCond .ne 5, 3) := by decide +kernel
theorem dX5_allWithin_29 : decode cX5_allWithin 29 = .ok (.iconst 0, 1) := by decide +kernel
theorem dX5_allWithin_30 : decode cX5_allWithin 30 = .ok (.ireturn, 1) := by decide +kernel
theorem dX5_allWithin_31 : decode cX5_allWithin 31 = .ok (.iinc 4 1, 3) := by decide +kernel
theorem dX5_allWithin_34 : decode cX5_allWithin 34 = .ok (.goto (-26), 3) := by decide +kernel
theorem dX5_allWithin_37 : decode cX5_allWithin 37 = .ok (.iconst 1, 1) := by decide +kernel
theorem dX5_allWithin_38 : decode cX5_allWithin 38 = .ok (.ireturn, 1) := by decide +kernel
theorem dX5_frameSize_0 : decode cX5_frameSize 0 = .ok (.iconst 2, 1) := by decide +kernel
theorem dX5_frameSize_1 : decode cX5_frameSize 1 = .ok (.aload_n 0, 1) := by decide +kernel
theorem dX5_frameSize_2 : decode cX5_frameSize 2 = .ok (.getfield 22, 3) := by decide +kernel
theorem dX5_frameSize_5 : decode cX5_frameSize 5 = .ok (.iadd, 1) := by decide +kernel
theorem dX5_frameSize_6 : decode cX5_frameSize 6 = .ok (.ireturn, 1) := by decide +kernel
theorem dX5_append_0 : decode cX5_append 0 = .ok (.aload_n 0, 1) := by decide +kernel
theorem dX5_append_1 : decode cX5_append 1 = .ok (.getfield 12, 3) := by decide +kernel
theorem dX5_append_4 : decode cX5_append 4 = .ok (.aload_n 1, 1) := by decide +kernel
theorem dX5_append_5 : decode cX5_append 5 = .ok (.invokevirtual 41, 3) := by decide +kernel
theorem dX5_append_8 : decode cX5_append 8 = .ok (.pop, 1) := by decide +kernel
theorem dX5_append_9 : decode cX5_append 9 = .ok (.aload_n 0, 1) := by decide +kernel
theorem dX5_append_10 : decode cX5_append 10 = .ok (.getfield 12, 3) := by decide +kernel
theorem dX5_append_13 : decode cX5_append 13 = .ok (.invokevirtual 45, 3) := by decide +kernel
theorem dX5_append_16 : decode cX5_append 16 = .ok (.iconst 1, 1) := by decide +kernel
theorem dX5_append_17 : decode cX5_append 17 = .ok (.isub, 1) := by decide +kernel
theorem dX5_append_18 : decode cX5_append 18 = .ok (.ireturn, 1) := by decide +kernel
theorem dX5_instructionAt_0 : decode cX5_instructionAt 0 = .ok (.iload_n 1, 1) := by decide +kernel
theorem dX5_instructionAt_1 : decode cX5_instructionAt 1 = .ok (.aload_n 0, 1) := by decide +kernel
theorem dX5_instructionAt_2 : decode cX5_instructionAt 2 = .ok (.getfield 12, 3) := by decide +kernel
theorem dX5_instructionAt_5 : decode cX5_instructionAt 5 = .ok (.invokevirtual 45, 3) := by decide +kernel
theorem dX5_instructionAt_8 : decode cX5_instructionAt 8 = .ok (.invokestatic 37, 3) := by decide +kernel
theorem dX5_instructionAt_11 : decode cX5_instructionAt 11 = .ok (.ifCond .eq 17, 3) := by decide +kernel
theorem dX5_instructionAt_14 : decode cX5_instructionAt 14 = .ok (.aload_n 0, 1) := by decide +kernel
theorem dX5_instructionAt_15 : decode cX5_instructionAt 15 = .ok (.getfield 12, 3) := by decide +kernel
theorem dX5_instructionAt_18 : decode cX5_instructionAt 18 = .ok (.iload_n 1, 1) := by decide +kernel
theorem dX5_instructionAt_19 : decode cX5_instructionAt 19 = .ok (.invokevirtual 49, 3) := by decide +kernel
theorem dX5_instructionAt_22 : decode cX5_instructionAt 22 = .ok (.checkcast 53, 3) := by decide +kernel
theorem dX5_instructionAt_25 : decode cX5_instructionAt 25 = .ok (.goto 4, 3) := by decide +kernel
theorem dX5_instructionAt_28 : decode cX5_instructionAt 28 = .ok (.aconst_null, 1) := by decide +kernel
theorem dX5_instructionAt_29 : decode cX5_instructionAt 29 = .ok (.areturn, 1) := by decide +kernel
theorem dX5_admits_0 : decode cX5_admits 0 = .ok (.aload_n 1, 1) := by decide +kernel
theorem dX5_admits_1 : decode cX5_admits 1 = .ok (.getfield 55, 3) := by decide +kernel
theorem dX5_admits_4 : decode cX5_admits 4 = .ok (.tableswitch 320 0 15 #[80, 89, 117, 117, 89, 169, 219, 259, 270, 259, 312, 80, 80, 80, 318, 318], 80) := by decide +kernel
theorem dX5_admits_84 : decode cX5_admits 84 = .ok (.aload_n 0, 1) := by decide +kernel
theorem dX5_admits_85 : decode cX5_admits 85 = .ok (.aload_n 1, 1) := by decide +kernel
theorem dX5_admits_86 : decode cX5_admits 86 = .ok (.getfield 58, 3) := by decide +kernel
theorem dX5_admits_89 : decode cX5_admits 89 = .ok (.invokevirtual 61, 3) := by decide +kernel
theorem dX5_admits_92 : decode cX5_admits 92 = .ok (.ireturn, 1) := by decide +kernel
theorem dX5_admits_93 : decode cX5_admits 93 = .ok (.aload_n 0, 1) := by decide +kernel
theorem dX5_admits_94 : decode cX5_admits 94 = .ok (.aload_n 1, 1) := by decide +kernel
theorem dX5_admits_95 : decode cX5_admits 95 = .ok (.getfield 58, 3) := by decide +kernel
theorem dX5_admits_98 : decode cX5_admits 98 = .ok (.invokevirtual 61, 3) := by decide +kernel
theorem dX5_admits_101 : decode cX5_admits 101 = .ok (.ifCond .eq 18, 3) := by decide +kernel
theorem dX5_admits_104 : decode cX5_admits 104 = .ok (.aload_n 0, 1) := by decide +kernel
theorem dX5_admits_105 : decode cX5_admits 105 = .ok (.aload_n 1, 1) := by decide +kernel
theorem dX5_admits_106 : decode cX5_admits 106 = .ok (.getfield 65, 3) := by decide +kernel
theorem dX5_admits_109 : decode cX5_admits 109 = .ok (.invokevirtual 61, 3) := by decide +kernel
theorem dX5_admits_112 : decode cX5_admits 112 = .ok (.ifCond .eq 7, 3) := by decide +kernel
theorem dX5_admits_115 : decode cX5_admits 115 = .ok (.iconst 1, 1) := by decide +kernel
theorem dX5_admits_116 : decode cX5_admits 116 = .ok (.goto 4, 3) := by decide +kernel
theorem dX5_admits_119 : decode cX5_admits 119 = .ok (.iconst 0, 1) := by decide +kernel
theorem dX5_admits_120 : decode cX5_admits 120 = .ok (.ireturn, 1) := by decide +kernel
theorem dX5_admits_121 : decode cX5_admits 121 = .ok (.aload_n 0, 1) := by decide +kernel
theorem dX5_admits_122 : decode cX5_admits 122 = .ok (.aload_n 1, 1) := by decide +kernel
theorem dX5_admits_123 : decode cX5_admits 123 = .ok (.getfield 58, 3) := by decide +kernel
theorem dX5_admits_126 : decode cX5_admits 126 = .ok (.invokevirtual 61, 3) := by decide +kernel
theorem dX5_admits_129 : decode cX5_admits 129 = .ok (.ifCond .eq 42, 3) := by decide +kernel
theorem dX5_admits_132 : decode cX5_admits 132 = .ok (.aload_n 1, 1) := by decide +kernel
theorem dX5_admits_133 : decode cX5_admits 133 = .ok (.getfield 65, 3) := by decide +kernel
theorem dX5_admits_136 : decode cX5_admits 136 = .ok (.bipush 32, 2) := by decide +kernel
theorem dX5_admits_138 : decode cX5_admits 138 = .ok (.invokestatic 37, 3) := by decide +kernel
theorem dX5_admits_141 : decode cX5_admits 141 = .ok (.ifCond .eq 30, 3) := by decide +kernel
theorem dX5_admits_144 : decode cX5_admits 144 = .ok (.aload_n 1, 1) := by decide +kernel
theorem dX5_admits_145 : decode cX5_admits 145 = .ok (.getfield 68, 3) := by decide +kernel
theorem dX5_admits_148 : decode cX5_admits 148 = .ok (.arraylength, 1) := by decide +kernel
theorem dX5_admits_149 : decode cX5_admits 149 = .ok (.iconst 4, 1) := by decide +kernel
theorem dX5_admits_150 : decode cX5_admits 150 = .ok (.if_icmp .gt 21, 3) := by decide +kernel
theorem dX5_admits_153 : decode cX5_admits 153 = .ok (.aload_n 1, 1) := by decide +kernel
theorem dX5_admits_154 : decode cX5_admits 154 = .ok (.getfield 68, 3) := by decide +kernel
theorem dX5_admits_157 : decode cX5_admits 157 = .ok (.aload_n 0, 1) := by decide +kernel
theorem dX5_admits_158 : decode cX5_admits 158 = .ok (.getfield 22, 3) := by decide +kernel
theorem dX5_admits_161 : decode cX5_admits 161 = .ok (.invokestatic 33, 3) := by decide +kernel
theorem dX5_admits_164 : decode cX5_admits 164 = .ok (.ifCond .eq 7, 3) := by decide +kernel
theorem dX5_admits_167 : decode cX5_admits 167 = .ok (.iconst 1, 1) := by decide +kernel
theorem dX5_admits_168 : decode cX5_admits 168 = .ok (.goto 4, 3) := by decide +kernel
theorem dX5_admits_171 : decode cX5_admits 171 = .ok (.iconst 0, 1) := by decide +kernel
theorem dX5_admits_172 : decode cX5_admits 172 = .ok (.ireturn, 1) := by decide +kernel
theorem dX5_admits_173 : decode cX5_admits 173 = .ok (.aload_n 0, 1) := by decide +kernel
theorem dX5_admits_174 : decode cX5_admits 174 = .ok (.aload_n 1, 1) := by decide +kernel
theorem dX5_admits_175 : decode cX5_admits 175 = .ok (.getfield 58, 3) := by decide +kernel
theorem dX5_admits_178 : decode cX5_admits 178 = .ok (.invokevirtual 61, 3) := by decide +kernel
theorem dX5_admits_181 : decode cX5_admits 181 = .ok (.ifCond .eq 40, 3) := by decide +kernel
theorem dX5_admits_184 : decode cX5_admits 184 = .ok (.aload_n 0, 1) := by decide +kernel
theorem dX5_admits_185 : decode cX5_admits 185 = .ok (.aload_n 1, 1) := by decide +kernel
theorem dX5_admits_186 : decode cX5_admits 186 = .ok (.getfield 65, 3) := by decide +kernel
theorem dX5_admits_189 : decode cX5_admits 189 = .ok (.invokevirtual 61, 3) := by decide +kernel
theorem dX5_admits_192 : decode cX5_admits 192 = .ok (.ifCond .eq 29, 3) := by decide +kernel
theorem dX5_admits_195 : decode cX5_admits 195 = .ok (.aload_n 0, 1) := by decide +kernel
theorem dX5_admits_196 : decode cX5_admits 196 = .ok (.aload_n 1, 1) := by decide +kernel
theorem dX5_admits_197 : decode cX5_admits 197 = .ok (.getfield 71, 3) := by decide +kernel
theorem dX5_admits_200 : decode cX5_admits 200 = .ok (.invokevirtual 61, 3) := by decide +kernel
theorem dX5_admits_203 : decode cX5_admits 203 = .ok (.ifCond .eq 18, 3) := by decide +kernel
theorem dX5_admits_206 : decode cX5_admits 206 = .ok (.aload_n 1, 1) := by decide +kernel
theorem dX5_admits_207 : decode cX5_admits 207 = .ok (.getfield 74, 3) := by decide +kernel
theorem dX5_admits_210 : decode cX5_admits 210 = .ok (.iconst 5, 1) := by decide +kernel
theorem dX5_admits_211 : decode cX5_admits 211 = .ok (.invokestatic 37, 3) := by decide +kernel
theorem dX5_admits_214 : decode cX5_admits 214 = .ok (.ifCond .eq 7, 3) := by decide +kernel
theorem dX5_admits_217 : decode cX5_admits 217 = .ok (.iconst 1, 1) := by decide +kernel
theorem dX5_admits_218 : decode cX5_admits 218 = .ok (.goto 4, 3) := by decide +kernel
theorem dX5_admits_221 : decode cX5_admits 221 = .ok (.iconst 0, 1) := by decide +kernel
theorem dX5_admits_222 : decode cX5_admits 222 = .ok (.ireturn, 1) := by decide +kernel
theorem dX5_admits_223 : decode cX5_admits 223 = .ok (.aload_n 0, 1) := by decide +kernel
theorem dX5_admits_224 : decode cX5_admits 224 = .ok (.aload_n 1, 1) := by decide +kernel
theorem dX5_admits_225 : decode cX5_admits 225 = .ok (.getfield 58, 3) := by decide +kernel
theorem dX5_admits_228 : decode cX5_admits 228 = .ok (.invokevirtual 61, 3) := by decide +kernel
theorem dX5_admits_231 : decode cX5_admits 231 = .ok (.ifCond .eq 30, 3) := by decide +kernel
theorem dX5_admits_234 : decode cX5_admits 234 = .ok (.aload_n 0, 1) := by decide +kernel
theorem dX5_admits_235 : decode cX5_admits 235 = .ok (.aload_n 1, 1) := by decide +kernel
theorem dX5_admits_236 : decode cX5_admits 236 = .ok (.getfield 65, 3) := by decide +kernel
theorem dX5_admits_239 : decode cX5_admits 239 = .ok (.invokevirtual 61, 3) := by decide +kernel
theorem dX5_admits_242 : decode cX5_admits 242 = .ok (.ifCond .eq 19, 3) := by decide +kernel
theorem dX5_admits_245 : decode cX5_admits 245 = .ok (.aload_n 1, 1) := by decide +kernel
theorem dX5_admits_246 : decode cX5_admits 246 = .ok (.getfield 71, 3) := by decide +kernel
theorem dX5_admits_249 : decode cX5_admits 249 = .ok (.bipush 6, 2) := by decide +kernel
theorem dX5_admits_251 : decode cX5_admits 251 = .ok (.invokestatic 37, 3) := by decide +kernel
theorem dX5_admits_254 : decode cX5_admits 254 = .ok (.ifCond .eq 7, 3) := by decide +kernel
theorem dX5_admits_257 : decode cX5_admits 257 = .ok (.iconst 1, 1) := by decide +kernel
theorem dX5_admits_258 : decode cX5_admits 258 = .ok (.goto 4, 3) := by decide +kernel
theorem dX5_admits_261 : decode cX5_admits 261 = .ok (.iconst 0, 1) := by decide +kernel
theorem dX5_admits_262 : decode cX5_admits 262 = .ok (.ireturn, 1) := by decide +kernel
theorem dX5_admits_263 : decode cX5_admits 263 = .ok (.aload_n 1, 1) := by decide +kernel
theorem dX5_admits_264 : decode cX5_admits 264 = .ok (.getfield 58, 3) := by decide +kernel
theorem dX5_admits_267 : decode cX5_admits 267 = .ok (.sipush 2000, 3) := by decide +kernel
theorem dX5_admits_270 : decode cX5_admits 270 = .ok (.invokestatic 37, 3) := by decide +kernel
theorem dX5_admits_273 : decode cX5_admits 273 = .ok (.ireturn, 1) := by decide +kernel
theorem dX5_admits_274 : decode cX5_admits 274 = .ok (.aload_n 0, 1) := by decide +kernel
theorem dX5_admits_275 : decode cX5_admits 275 = .ok (.aload_n 1, 1) := by decide +kernel
theorem dX5_admits_276 : decode cX5_admits 276 = .ok (.getfield 58, 3) := by decide +kernel
theorem dX5_admits_279 : decode cX5_admits 279 = .ok (.invokevirtual 61, 3) := by decide +kernel
theorem dX5_admits_282 : decode cX5_admits 282 = .ok (.ifCond .eq 32, 3) := by decide +kernel
theorem dX5_admits_285 : decode cX5_admits 285 = .ok (.aload_n 1, 1) := by decide +kernel
theorem dX5_admits_286 : decode cX5_admits 286 = .ok (.getfield 65, 3) := by decide +kernel
theorem dX5_admits_289 : decode cX5_admits 289 = .ok (.bipush 32, 2) := by decide +kernel
theorem dX5_admits_291 : decode cX5_admits 291 = .ok (.invokestatic 37, 3) := by decide +kernel
theorem dX5_admits_294 : decode cX5_admits 294 = .ok (.ifCond .eq 20, 3) := by decide +kernel
theorem dX5_admits_297 : decode cX5_admits 297 = .ok (.aload_n 1, 1) := by decide +kernel
theorem dX5_admits_298 : decode cX5_admits 298 = .ok (.getfield 71, 3) := by decide +kernel
theorem dX5_admits_301 : decode cX5_admits 301 = .ok (.sipush 2000, 3) := by decide +kernel
theorem dX5_admits_304 : decode cX5_admits 304 = .ok (.invokestatic 37, 3) := by decide +kernel
theorem dX5_admits_307 : decode cX5_admits 307 = .ok (.ifCond .eq 7, 3) := by decide +kernel
theorem dX5_admits_310 : decode cX5_admits 310 = .ok (.iconst 1, 1) := by decide +kernel
theorem dX5_admits_311 : decode cX5_admits 311 = .ok (.goto 4, 3) := by decide +kernel
theorem dX5_admits_314 : decode cX5_admits 314 = .ok (.iconst 0, 1) := by decide +kernel
theorem dX5_admits_315 : decode cX5_admits 315 = .ok (.ireturn, 1) := by decide +kernel
theorem dX5_admits_316 : decode cX5_admits 316 = .ok (.aload_n 0, 1) := by decide +kernel
theorem dX5_admits_317 : decode cX5_admits 317 = .ok (.aload_n 1, 1) := by decide +kernel
theorem dX5_admits_318 : decode cX5_admits 318 = .ok (.invokevirtual 77, 3) := by decide +kernel
theorem dX5_admits_321 : decode cX5_admits 321 = .ok (.ireturn, 1) := by decide +kernel
theorem dX5_admits_322 : decode cX5_admits 322 = .ok (.iconst 1, 1) := by decide +kernel
theorem dX5_admits_323 : decode cX5_admits 323 = .ok (.ireturn, 1) := by decide +kernel
theorem dX5_admits_324 : decode cX5_admits 324 = .ok (.iconst 0, 1) := by decide +kernel
theorem dX5_admits_325 : decode cX5_admits 325 = .ok (.ireturn, 1) := by decide +kernel
theorem dX5_admitsCall_0 : decode cX5_admitsCall 0 = .ok (.aload_n 1, 1) := by decide +kernel
theorem dX5_admitsCall_1 : decode cX5_admitsCall 1 = .ok (.getfield 81, 3) := by decide +kernel
theorem dX5_admitsCall_4 : decode cX5_admitsCall 4 = .ok (.astore_n 2, 1) := by decide +kernel
theorem dX5_admitsCall_5 : decode cX5_admitsCall 5 = .ok (.aload_n 2, 1) := by decide +kernel
theorem dX5_admitsCall_6 : decode cX5_admitsCall 6 = .ok (.ifnull 39, 3) := by decide +kernel
theorem dX5_admitsCall_9 : decode cX5_admitsCall 9 = .ok (.aload_n 1, 1) := by decide +kernel
theorem dX5_admitsCall_10 : decode cX5_admitsCall 10 = .ok (.getfield 68, 3) := by decide +kernel
theorem dX5_admitsCall_13 : decode cX5_admitsCall 13 = .ok (.arraylength, 1) := by decide +kernel
theorem dX5_admitsCall_14 : decode cX5_admitsCall 14 = .ok (.aload_n 2, 1) := by decide +kernel
theorem dX5_admitsCall_15 : decode cX5_admitsCall 15 = .ok (.getfield 26, 3) := by decide +kernel
theorem dX5_admitsCall_18 : decode cX5_admitsCall 18 = .ok (.aload_n 2, 1) := by decide +kernel
theorem dX5_admitsCall_19 : decode cX5_admitsCall 19 = .ok (.getfield 29, 3) := by decide +kernel
theorem dX5_admitsCall_22 : decode cX5_admitsCall 22 = .ok (.arraylength, 1) := by decide +kernel
theorem dX5_admitsCall_23 : decode cX5_admitsCall 23 = .ok (.iadd, 1) := by decide +kernel
theorem dX5_admitsCall_24 : decode cX5_admitsCall 24 = .ok (.if_icmp .ne 21, 3) := by decide +kernel
theorem dX5_admitsCall_27 : decode cX5_admitsCall 27 = .ok (.aload_n 1, 1) := by decide +kernel
theorem dX5_admitsCall_28 : decode cX5_admitsCall 28 = .ok (.getfield 68, 3) := by decide +kernel
theorem dX5_admitsCall_31 : decode cX5_admitsCall 31 = .ok (.aload_n 0, 1) := by decide +kernel
theorem dX5_admitsCall_32 : decode cX5_admitsCall 32 = .ok (.getfield 22, 3) := by decide +kernel
theorem dX5_admitsCall_35 : decode cX5_admitsCall 35 = .ok (.invokestatic 33, 3) := by decide +kernel
theorem dX5_admitsCall_38 : decode cX5_admitsCall 38 = .ok (.ifCond .eq 7, 3) := by decide +kernel
theorem dX5_admitsCall_41 : decode cX5_admitsCall 41 = .ok (.iconst 1, 1) := by decide +kernel
theorem dX5_admitsCall_42 : decode cX5_admitsCall 42 = .ok (.goto 4, 3) := by decide +kernel
theorem dX5_admitsCall_45 : decode cX5_admitsCall 45 = .ok (.iconst 0, 1) := by decide +kernel
theorem dX5_admitsCall_46 : decode cX5_admitsCall 46 = .ok (.ireturn, 1) := by decide +kernel
theorem dX5_hasSlot_0 : decode cX5_hasSlot 0 = .ok (.iload_n 1, 1) := by decide +kernel
theorem dX5_hasSlot_1 : decode cX5_hasSlot 1 = .ok (.aload_n 0, 1) := by decide +kernel
theorem dX5_hasSlot_2 : decode cX5_hasSlot 2 = .ok (.getfield 22, 3) := by decide +kernel
theorem dX5_hasSlot_5 : decode cX5_hasSlot 5 = .ok (.invokestatic 37, 3) := by decide +kernel
theorem dX5_hasSlot_8 : decode cX5_hasSlot 8 = .ok (.ireturn, 1) := by decide +kernel
theorem dX6_init_0 : decode cX6_init 0 = .ok (.aload_n 0, 1) := by decide +kernel
theorem dX6_init_1 : decode cX6_init 1 = .ok (.invokespecial 1, 3) := by decide +kernel
theorem dX6_init_4 : decode cX6_init 4 = .ok (.aload_n 0, 1) := by decide +kernel
theorem dX6_init_5 : decode cX6_init 5 = .ok (.aload_n 1, 1) := by decide +kernel
theorem dX6_init_6 : decode cX6_init 6 = .ok (.putfield 7, 3) := by decide +kernel
theorem dX6_init_9 : decode cX6_init 9 = .ok (.return_, 1) := by decide +kernel
theorem dX7_init_0 : decode cX7_init 0 = .ok (.aload_n 0, 1) := by decide +kernel
theorem dX7_init_1 : decode cX7_init 1 = .ok (.invokespecial 3, 3) := by decide +kernel
theorem dX7_init_4 : decode cX7_init 4 = .ok (.aload_n 0, 1) := by decide +kernel
theorem dX7_init_5 : decode cX7_init 5 = .ok (.new 9, 3) := by decide +kernel
theorem dX7_init_8 : decode cX7_init 8 = .ok (.dup, 1) := by decide +kernel
theorem dX7_init_9 : decode cX7_init 9 = .ok (.invokespecial 11, 3) := by decide +kernel
theorem dX7_init_12 : decode cX7_init 12 = .ok (.putfield 12, 3) := by decide +kernel
theorem dX7_init_15 : decode cX7_init 15 = .ok (.aload_n 0, 1) := by decide +kernel
theorem dX7_init_16 : decode cX7_init 16 = .ok (.new 9, 3) := by decide +kernel
theorem dX7_init_19 : decode cX7_init 19 = .ok (.dup, 1) := by decide +kernel
theorem dX7_init_20 : decode cX7_init 20 = .ok (.invokespecial 11, 3) := by decide +kernel
theorem dX7_init_23 : decode cX7_init 23 = .ok (.putfield 18, 3) := by decide +kernel
theorem dX7_init_26 : decode cX7_init 26 = .ok (.aload_n 0, 1) := by decide +kernel
theorem dX7_init_27 : decode cX7_init 27 = .ok (.new 21, 3) := by decide +kernel
theorem dX7_init_30 : decode cX7_init 30 = .ok (.dup, 1) := by decide +kernel
theorem dX7_init_31 : decode cX7_init 31 = .ok (.invokespecial 23, 3) := by decide +kernel
theorem dX7_init_34 : decode cX7_init 34 = .ok (.putfield 24, 3) := by decide +kernel
theorem dX7_init_37 : decode cX7_init 37 = .ok (.aload_n 0, 1) := by decide +kernel
theorem dX7_init_38 : decode cX7_init 38 = .ok (.new 21, 3) := by decide +kernel
theorem dX7_init_41 : decode cX7_init 41 = .ok (.dup, 1) := by decide +kernel
theorem dX7_init_42 : decode cX7_init 42 = .ok (.invokespecial 23, 3) := by decide +kernel
theorem dX7_init_45 : decode cX7_init 45 = .ok (.putfield 28, 3) := by decide +kernel
theorem dX7_init_48 : decode cX7_init 48 = .ok (.return_, 1) := by decide +kernel
theorem dX7_clear_0 : decode cX7_clear 0 = .ok (.aload_n 0, 1) := by decide +kernel
theorem dX7_clear_1 : decode cX7_clear 1 = .ok (.iconst 0, 1) := by decide +kernel
theorem dX7_clear_2 : decode cX7_clear 2 = .ok (.putfield 31, 3) := by decide +kernel
theorem dX7_clear_5 : decode cX7_clear 5 = .ok (.aload_n 0, 1) := by decide +kernel
theorem dX7_clear_6 : decode cX7_clear 6 = .ok (.iconst 0, 1) := by decide +kernel
theorem dX7_clear_7 : decode cX7_clear 7 = .ok (.putfield 35, 3) := by decide +kernel
theorem dX7_clear_10 : decode cX7_clear 10 = .ok (.aload_n 0, 1) := by decide +kernel
theorem dX7_clear_11 : decode cX7_clear 11 = .ok (.getfield 24, 3) := by decide +kernel
theorem dX7_clear_14 : decode cX7_clear 14 = .ok (.iconst 0, 1) := by decide +kernel
theorem dX7_clear_15 : decode cX7_clear 15 = .ok (.invokevirtual 38, 3) := by decide +kernel
theorem dX7_clear_18 : decode cX7_clear 18 = .ok (.aload_n 0, 1) := by decide +kernel
theorem dX7_clear_19 : decode cX7_clear 19 = .ok (.getfield 28, 3) := by decide +kernel
theorem dX7_clear_22 : decode cX7_clear 22 = .ok (.iconst 0, 1) := by decide +kernel
theorem dX7_clear_23 : decode cX7_clear 23 = .ok (.invokevirtual 38, 3) := by decide +kernel
theorem dX7_clear_26 : decode cX7_clear 26 = .ok (.aload_n 0, 1) := by decide +kernel
theorem dX7_clear_27 : decode cX7_clear 27 = .ok (.iload_n 1, 1) := by decide +kernel
theorem dX7_clear_28 : decode cX7_clear 28 = .ok (.putfield 42, 3) := by decide +kernel
theorem dX7_clear_31 : decode cX7_clear 31 = .ok (.aload_n 0, 1) := by decide +kernel
theorem dX7_clear_32 : decode cX7_clear 32 = .ok (.iconst 0, 1) := by decide +kernel
theorem dX7_clear_33 : decode cX7_clear 33 = .ok (.putfield 45, 3) := by decide +kernel
theorem dX7_clear_36 : decode cX7_clear 36 = .ok (.return_, 1) := by decide +kernel
theorem dX7_size_0 : decode cX7_size 0 = .ok (.aload_n 0, 1) := by decide +kernel
theorem dX7_size_1 : decode cX7_size 1 = .ok (.getfield 24, 3) := by decide +kernel
theorem dX7_size_4 : decode cX7_size 4 = .ok (.invokevirtual 48, 3) := by decide +kernel
theorem dX7_size_7 : decode cX7_size 7 = .ok (.iconst 2, 1) := by decide +kernel
theorem dX7_size_8 : decode cX7_size 8 = .ok (.aload_n 0, 1) := by decide +kernel
theorem dX7_size_9 : decode cX7_size 9 = .ok (.getfield 31, 3) := by decide +kernel
theorem dX7_size_12 : decode cX7_size 12 = .ok (.imul, 1) := by decide +kernel
theorem dX7_size_13 : decode cX7_size 13 = .ok (.iadd, 1) := by decide +kernel
theorem dX7_size_14 : decode cX7_size 14 = .ok (.iconst 3, 1) := by decide +kernel
theorem dX7_size_15 : decode cX7_size 15 = .ok (.aload_n 0, 1) := by decide +kernel
theorem dX7_size_16 : decode cX7_size 16 = .ok (.getfield 35, 3) := by decide +kernel
theorem dX7_size_19 : decode cX7_size 19 = .ok (.imul, 1) := by decide +kernel
theorem dX7_size_20 : decode cX7_size 20 = .ok (.iadd, 1) := by decide +kernel
theorem dX7_size_21 : decode cX7_size 21 = .ok (.ireturn, 1) := by decide +kernel
theorem dX7_hasRoom_0 : decode cX7_hasRoom 0 = .ok (.aload_n 0, 1) := by decide +kernel
theorem dX7_hasRoom_1 : decode cX7_hasRoom 1 = .ok (.invokevirtual 52, 3) := by decide +kernel
theorem dX7_hasRoom_4 : decode cX7_hasRoom 4 = .ok (.iload_n 1, 1) := by decide +kernel
theorem dX7_hasRoom_5 : decode cX7_hasRoom 5 = .ok (.iadd, 1) := by decide +kernel
theorem dX7_hasRoom_6 : decode cX7_hasRoom 6 = .ok (.aload_n 0, 1) := by decide +kernel
theorem dX7_hasRoom_7 : decode cX7_hasRoom 7 = .ok (.getfield 42, 3) := by decide +kernel
theorem dX7_hasRoom_10 : decode cX7_hasRoom 10 = .ok (.if_icmp .gt 7, 3) := by decide +kernel
theorem dX7_hasRoom_13 : decode cX7_hasRoom 13 = .ok (.iconst 1, 1) := by decide +kernel
theorem dX7_hasRoom_14 : decode cX7_hasRoom 14 = .ok (.goto 4, 3) := by decide +kernel
theorem dX7_hasRoom_17 : decode cX7_hasRoom 17 = .ok (.iconst 0, 1) := by decide +kernel
theorem dX7_hasRoom_18 : decode cX7_hasRoom 18 = .ok (.ireturn, 1) := by decide +kernel
theorem dX7_noteSize_0 : decode cX7_noteSize 0 = .ok (.aload_n 0, 1) := by decide +kernel
theorem dX7_noteSize_1 : decode cX7_noteSize 1 = .ok (.aload_n 0, 1) := by decide +kernel
theorem dX7_noteSize_2 : decode cX7_noteSize 2 = .ok (.getfield 45, 3) := by decide +kernel
theorem dX7_noteSize_5 : decode cX7_noteSize 5 = .ok (.aload_n 0, 1) := by decide +kernel
theorem dX7_noteSize_6 : decode cX7_noteSize 6 = .ok (.invokevirtual 52, 3) := by decide +kernel
theorem dX7_noteSize_9 : decode cX7_noteSize 9 = .ok (.invokestatic 53, 3) := by decide +kernel
theorem dX7_noteSize_12 : decode cX7_noteSize 12 = .ok (.putfield 45, 3) := by decide +kernel
theorem dX7_noteSize_15 : decode cX7_noteSize 15 = .ok (.return_, 1) := by decide +kernel
theorem dX7_pushFrame_0 : decode cX7_pushFrame 0 = .ok (.aload_n 0, 1) := by decide +kernel
theorem dX7_pushFrame_1 : decode cX7_pushFrame 1 = .ok (.getfield 31, 3) := by decide +kernel
theorem dX7_pushFrame_4 : decode cX7_pushFrame 4 = .ok (.aload_n 0, 1) := by decide +kernel
theorem dX7_pushFrame_5 : decode cX7_pushFrame 5 = .ok (.getfield 12, 3) := by decide +kernel
theorem dX7_pushFrame_8 : decode cX7_pushFrame 8 = .ok (.invokevirtual 59, 3) := by decide +kernel
theorem dX7_pushFrame_11 : decode cX7_pushFrame 11 = .ok (.invokestatic 60, 3) := by decide +kernel
theorem dX7_pushFrame_14 : decode cX7_pushFrame 14 = .ok (.ifCond .eq 21, 3) := by decide +kernel
theorem dX7_pushFrame_17 : decode cX7_pushFrame 17 = .ok (.aload_n 0, 1) := by decide +kernel
theorem dX7_pushFrame_18 : decode cX7_pushFrame 18 = .ok (.getfield 12, 3) := by decide +kernel
theorem dX7_pushFrame_21 : decode cX7_pushFrame 21 = .ok (.aload_n 0, 1) := by decide +kernel
theorem dX7_pushFrame_22 : decode cX7_pushFrame 22 = .ok (.getfield 31, 3) := by decide +kernel
theorem dX7_pushFrame_25 : decode cX7_pushFrame 25 = .ok (.invokevirtual 64, 3) := by decide +kernel
theorem dX7_pushFrame_28 : decode cX7_pushFrame 28 = .ok (.checkcast 68, 3) := by decide +kernel
theorem dX7_pushFrame_31 : decode cX7_pushFrame 31 = .ok (.astore_n 2, 1) := by decide +kernel
theorem dX7_pushFrame_32 : decode cX7_pushFrame 32 = .ok (.goto 25, 3) := by decide +kernel
theorem dX7_pushFrame_35 : decode cX7_pushFrame 35 = .ok (.new 68, 3) := by decide +kernel
theorem dX7_pushFrame_38 : decode cX7_pushFrame 38 = .ok (.dup, 1) := by decide +kernel
theorem dX7_pushFrame_39 : decode cX7_pushFrame 39 = .ok (.aload_n 0, 1) := by decide +kernel
theorem dX7_pushFrame_40 : decode cX7_pushFrame 40 = .ok (.getfield 31, 3) := by decide +kernel
theorem dX7_pushFrame_43 : decode cX7_pushFrame 43 = .ok (.aload_n 1, 1) := by decide +kernel
theorem dX7_pushFrame_44 : decode cX7_pushFrame 44 = .ok (.invokespecial 70, 3) := by decide +kernel
theorem dX7_pushFrame_47 : decode cX7_pushFrame 47 = .ok (.astore_n 2, 1) := by decide +kernel
theorem dX7_pushFrame_48 : decode cX7_pushFrame 48 = .ok (.aload_n 0, 1) := by decide +kernel
theorem dX7_pushFrame_49 : decode cX7_pushFrame 49 = .ok (.getfield 12, 3) := by decide +kernel
theorem dX7_pushFrame_52 : decode cX7_pushFrame 52 = .ok (.aload_n 2, 1) := by decide +kernel
theorem dX7_pushFrame_53 : decode cX7_pushFrame 53 = .ok (.invokevirtual 73, 3) := by decide +kernel
theorem dX7_pushFrame_56 : decode cX7_pushFrame 56 = .ok (.pop, 1) := by decide +kernel
theorem dX7_pushFrame_57 : decode cX7_pushFrame 57 = .ok (.aload_n 0, 1) := by decide +kernel
theorem dX7_pushFrame_58 : decode cX7_pushFrame 58 = .ok (.dup, 1) := by decide +kernel
theorem dX7_pushFrame_59 : decode cX7_pushFrame 59 = .ok (.getfield 31, 3) := by decide +kernel
theorem dX7_pushFrame_62 : decode cX7_pushFrame 62 = .ok (.iconst 1, 1) := by decide +kernel
theorem dX7_pushFrame_63 : decode cX7_pushFrame 63 = .ok (.iadd, 1) := by decide +kernel
theorem dX7_pushFrame_64 : decode cX7_pushFrame 64 = .ok (.putfield 31, 3) := by decide +kernel
theorem dX7_pushFrame_67 : decode cX7_pushFrame 67 = .ok (.aload_n 2, 1) := by decide +kernel
theorem dX7_pushFrame_68 : decode cX7_pushFrame 68 = .ok (.aload_n 1, 1) := by decide +kernel
theorem dX7_pushFrame_69 : decode cX7_pushFrame 69 = .ok (.putfield 77, 3) := by decide +kernel
theorem dX7_pushFrame_72 : decode cX7_pushFrame 72 = .ok (.aload_n 2, 1) := by decide +kernel
theorem dX7_pushFrame_73 : decode cX7_pushFrame 73 = .ok (.aload_n 0, 1) := by decide +kernel
theorem dX7_pushFrame_74 : decode cX7_pushFrame 74 = .ok (.getfield 24, 3) := by decide +kernel
theorem dX7_pushFrame_77 : decode cX7_pushFrame 77 = .ok (.invokevirtual 48, 3) := by decide +kernel
theorem dX7_pushFrame_80 : decode cX7_pushFrame 80 = .ok (.putfield 81, 3) := by decide +kernel
theorem dX7_pushFrame_83 : decode cX7_pushFrame 83 = .ok (.aload_n 2, 1) := by decide +kernel
theorem dX7_pushFrame_84 : decode cX7_pushFrame 84 = .ok (.aconst_null, 1) := by decide +kernel
theorem dX7_pushFrame_85 : decode cX7_pushFrame 85 = .ok (.putfield 84, 3) := by decide +kernel
theorem dX7_pushFrame_88 : decode cX7_pushFrame 88 = .ok (.aload_n 2, 1) := by decide +kernel
theorem dX7_pushFrame_89 : decode cX7_pushFrame 89 = .ok (.aconst_null, 1) := by decide +kernel
theorem dX7_pushFrame_90 : decode cX7_pushFrame 90 = .ok (.putfield 88, 3) := by decide +kernel
theorem dX7_pushFrame_93 : decode cX7_pushFrame 93 = .ok (.aload_n 2, 1) := by decide +kernel
theorem dX7_pushFrame_94 : decode cX7_pushFrame 94 = .ok (.aload_n 0, 1) := by decide +kernel
theorem dX7_pushFrame_95 : decode cX7_pushFrame 95 = .ok (.getfield 35, 3) := by decide +kernel
theorem dX7_pushFrame_98 : decode cX7_pushFrame 98 = .ok (.putfield 92, 3) := by decide +kernel
theorem dX7_pushFrame_101 : decode cX7_pushFrame 101 = .ok (.iconst 0, 1) := by decide +kernel
theorem dX7_pushFrame_102 : decode cX7_pushFrame 102 = .ok (.istore_n 3, 1) := by decide +kernel
theorem dX7_pushFrame_103 : decode cX7_pushFrame 103 = .ok (.iload_n 3, 1) := by decide +kernel
theorem dX7_pushFrame_104 : decode cX7_pushFrame 104 = .ok (.aload_n 1, 1) := by decide +kernel
theorem dX7_pushFrame_105 : decode cX7_pushFrame 105 = .ok (.getfield 95, 3) := by decide +kernel
theorem dX7_pushFrame_108 : decode cX7_pushFrame 108 = .ok (.if_icmp .ge 17, 3) := by decide +kernel
theorem dX7_pushFrame_111 : decode cX7_pushFrame 111 = .ok (.aload_n 0, 1) := by decide +kernel
theorem dX7_pushFrame_112 : decode cX7_pushFrame 112 = .ok (.getfield 24, 3) := by decide +kernel
theorem dX7_pushFrame_115 : decode cX7_pushFrame 115 = .ok (.lconst 0, 1) := by decide +kernel
theorem dX7_pushFrame_116 : decode cX7_pushFrame 116 = .ok (.invokevirtual 100, 3) := by decide +kernel
theorem dX7_pushFrame_119 : decode cX7_pushFrame 119 = .ok (.iinc 3 1, 3) := by decide +kernel
theorem dX7_pushFrame_122 : decode cX7_pushFrame 122 = .ok (.goto (-19), 3) := by decide +kernel
theorem dX7_pushFrame_125 : decode cX7_pushFrame 125 = .ok (.aload_n 0, 1) := by decide +kernel
theorem dX7_pushFrame_126 : decode cX7_pushFrame 126 = .ok (.invokevirtual 104, 3) := by decide +kernel
theorem dX7_pushFrame_129 : decode cX7_pushFrame 129 = .ok (.aload_n 2, 1) := by decide +kernel
theorem dX7_pushFrame_130 : decode cX7_pushFrame 130 = .ok (.areturn, 1) := by decide +kernel
theorem dX7_pushRedo_0 : decode cX7_pushRedo 0 = .ok (.aload_n 0, 1) := by decide +kernel
theorem dX7_pushRedo_1 : decode cX7_pushRedo 1 = .ok (.getfield 35, 3) := by decide +kernel
theorem dX7_pushRedo_4 : decode cX7_pushRedo 4 = .ok (.aload_n 0, 1) := by decide +kernel
theorem dX7_pushRedo_5 : decode cX7_pushRedo 5 = .ok (.getfield 18, 3) := by decide +kernel
theorem dX7_pushRedo_8 : decode cX7_pushRedo 8 = .ok (.invokevirtual 59, 3) := by decide +kernel
theorem dX7_pushRedo_11 : decode cX7_pushRedo 11 = .ok (.invokestatic 60, 3) := by decide +kernel
theorem dX7_pushRedo_14 : decode cX7_pushRedo 14 = .ok (.ifCond .eq 22, 3) := by decide +kernel
theorem dX7_pushRedo_17 : decode cX7_pushRedo 17 = .ok (.aload_n 0, 1) := by decide +kernel
theorem dX7_pushRedo_18 : decode cX7_pushRedo 18 = .ok (.getfield 18, 3) := by decide +kernel
theorem dX7_pushRedo_21 : decode cX7_pushRedo 21 = .ok (.aload_n 0, 1) := by decide +kernel
theorem dX7_pushRedo_22 : decode cX7_pushRedo 22 = .ok (.getfield 35, 3) := by decide +kernel
theorem dX7_pushRedo_25 : decode cX7_pushRedo 25 = .ok (.invokevirtual 64, 3) := by decide +kernel
theorem dX7_pushRedo_28 : decode cX7_pushRedo 28 = .ok (.checkcast 107, 3) := by decide +kernel
theorem dX7_pushRedo_31 : decode cX7_pushRedo 31 = .ok (.astore 4, 2) := by decide +kernel
theorem dX7_pushRedo_33 : decode cX7_pushRedo 33 = .ok (.goto 23, 3) := by decide +kernel
theorem dX7_pushRedo_36 : decode cX7_pushRedo 36 = .ok (.new 107, 3) := by decide +kernel
theorem dX7_pushRedo_39 : decode cX7_pushRedo 39 = .ok (.dup, 1) := by decide +kernel
theorem dX7_pushRedo_40 : decode cX7_pushRedo 40 = .ok (.aload_n 1, 1) := by decide +kernel
theorem dX7_pushRedo_41 : decode cX7_pushRedo 41 = .ok (.invokespecial 109, 3) := by decide +kernel
theorem dX7_pushRedo_44 : decode cX7_pushRedo 44 = .ok (.astore 4, 2) := by decide +kernel
theorem dX7_pushRedo_46 : decode cX7_pushRedo 46 = .ok (.aload_n 0, 1) := by decide +kernel
theorem dX7_pushRedo_47 : decode cX7_pushRedo 47 = .ok (.getfield 18, 3) := by decide +kernel
theorem dX7_pushRedo_50 : decode cX7_pushRedo 50 = .ok (.aload 4, 2) := by decide +kernel
theorem dX7_pushRedo_52 : decode cX7_pushRedo 52 = .ok (.invokevirtual 73, 3) := by decide +kernel
theorem dX7_pushRedo_55 : decode cX7_pushRedo 55 = .ok (.pop, 1) := by decide +kernel
theorem dX7_pushRedo_56 : decode cX7_pushRedo 56 = .ok (.aload_n 0, 1) := by decide +kernel
theorem dX7_pushRedo_57 : decode cX7_pushRedo 57 = .ok (.dup, 1) := by decide +kernel
theorem dX7_pushRedo_58 : decode cX7_pushRedo 58 = .ok (.getfield 35, 3) := by decide +kernel
theorem dX7_pushRedo_61 : decode cX7_pushRedo 61 = .ok (.iconst 1, 1) := by decide +kernel
theorem dX7_pushRedo_62 : decode cX7_pushRedo 62 = .ok (.iadd, 1) := by decide +kernel
theorem dX7_pushRedo_63 : decode cX7_pushRedo 63 = .ok (.putfield 35, 3) := by decide +kernel
theorem dX7_pushRedo_66 : decode cX7_pushRedo 66 = .ok (.aload 4, 2) := by decide +kernel
theorem dX7_pushRedo_68 : decode cX7_pushRedo 68 = .ok (.aload_n 1, 1) := by decide +kernel
theorem dX7_pushRedo_69 : decode cX7_pushRedo 69 = .ok (.putfield 112, 3) := by decide +kernel
theorem dX7_pushRedo_72 : decode cX7_pushRedo 72 = .ok (.aload 4, 2) := by decide +kernel
theorem dX7_pushRedo_74 : decode cX7_pushRedo 74 = .ok (.iload_n 2, 1) := by decide +kernel
theorem dX7_pushRedo_75 : decode cX7_pushRedo 75 = .ok (.putfield 115, 3) := by decide +kernel
theorem dX7_pushRedo_78 : decode cX7_pushRedo 78 = .ok (.aload 4, 2) := by decide +kernel
theorem dX7_pushRedo_80 : decode cX7_pushRedo 80 = .ok (.iconst 0, 1) := by decide +kernel
theorem dX7_pushRedo_81 : decode cX7_pushRedo 81 = .ok (.putfield 118, 3) := by decide +kernel
theorem dX7_pushRedo_84 : decode cX7_pushRedo 84 = .ok (.aload 4, 2) := by decide +kernel
theorem dX7_pushRedo_86 : decode cX7_pushRedo 86 = .ok (.aload_n 0, 1) := by decide +kernel
theorem dX7_pushRedo_87 : decode cX7_pushRedo 87 = .ok (.getfield 31, 3) := by decide +kernel
theorem dX7_pushRedo_90 : decode cX7_pushRedo 90 = .ok (.putfield 122, 3) := by decide +kernel
theorem dX7_pushRedo_93 : decode cX7_pushRedo 93 = .ok (.aload 4, 2) := by decide +kernel
theorem dX7_pushRedo_95 : decode cX7_pushRedo 95 = .ok (.aload_n 0, 1) := by decide +kernel
theorem dX7_pushRedo_96 : decode cX7_pushRedo 96 = .ok (.getfield 24, 3) := by decide +kernel
theorem dX7_pushRedo_99 : decode cX7_pushRedo 99 = .ok (.invokevirtual 48, 3) := by decide +kernel
theorem dX7_pushRedo_102 : decode cX7_pushRedo 102 = .ok (.putfield 125, 3) := by decide +kernel
theorem dX7_pushRedo_105 : decode cX7_pushRedo 105 = .ok (.aload 4, 2) := by decide +kernel
theorem dX7_pushRedo_107 : decode cX7_pushRedo 107 = .ok (.aload_n 0, 1) := by decide +kernel
theorem dX7_pushRedo_108 : decode cX7_pushRedo 108 = .ok (.getfield 28, 3) := by decide +kernel
theorem dX7_pushRedo_111 : decode cX7_pushRedo 111 = .ok (.invokevirtual 48, 3) := by decide +kernel
theorem dX7_pushRedo_114 : decode cX7_pushRedo 114 = .ok (.putfield 128, 3) := by decide +kernel
theorem dX7_pushRedo_117 : decode cX7_pushRedo 117 = .ok (.aload 4, 2) := by decide +kernel
theorem dX7_pushRedo_119 : decode cX7_pushRedo 119 = .ok (.iload_n 3, 1) := by decide +kernel
theorem dX7_pushRedo_120 : decode cX7_pushRedo 120 = .ok (.putfield 131, 3) := by decide +kernel
theorem dX7_pushRedo_123 : decode cX7_pushRedo 123 = .ok (.aload_n 0, 1) := by decide +kernel
theorem dX7_pushRedo_124 : decode cX7_pushRedo 124 = .ok (.invokevirtual 104, 3) := by decide +kernel
theorem dX7_pushRedo_127 : decode cX7_pushRedo 127 = .ok (.return_, 1) := by decide +kernel
theorem dX7_redoAt_0 : decode cX7_redoAt 0 = .ok (.iload_n 1, 1) := by decide +kernel
theorem dX7_redoAt_1 : decode cX7_redoAt 1 = .ok (.aload_n 0, 1) := by decide +kernel
theorem dX7_redoAt_2 : decode cX7_redoAt 2 = .ok (.getfield 35, 3) := by decide +kernel
theorem dX7_redoAt_5 : decode cX7_redoAt 5 = .ok (.invokestatic 60, 3) := by decide +kernel
theorem dX7_redoAt_8 : decode cX7_redoAt 8 = .ok (.ifCond .eq 28, 3) := by decide +kernel
theorem dX7_redoAt_11 : decode cX7_redoAt 11 = .ok (.iload_n 1, 1) := by decide +kernel
theorem dX7_redoAt_12 : decode cX7_redoAt 12 = .ok (.aload_n 0, 1) := by decide +kernel
theorem dX7_redoAt_13 : decode cX7_redoAt 13 = .ok (.getfield 18, 3) := by decide +kernel
theorem dX7_redoAt_16 : decode cX7_redoAt 16 = .ok (.invokevirtual 59, 3) := by decide +kernel
theorem dX7_redoAt_19 : decode cX7_redoAt 19 = .ok (.if_icmp .ge 17, 3) := by decide +kernel
theorem dX7_redoAt_22 : decode cX7_redoAt 22 = .ok (.aload_n 0, 1) := by decide +kernel
theorem dX7_redoAt_23 : decode cX7_redoAt 23 = .ok (.getfield 18, 3) := by decide +kernel
theorem dX7_redoAt_26 : decode cX7_redoAt 26 = .ok (.iload_n 1, 1) := by decide +kernel
theorem dX7_redoAt_27 : decode cX7_redoAt 27 = .ok (.invokevirtual 64, 3) := by decide +kernel
theorem dX7_redoAt_30 : decode cX7_redoAt 30 = .ok (.checkcast 107, 3) := by decide +kernel
theorem dX7_redoAt_33 : decode cX7_redoAt 33 = .ok (.goto 4, 3) := by decide +kernel
theorem dX7_redoAt_36 : decode cX7_redoAt 36 = .ok (.aconst_null, 1) := by decide +kernel
theorem dX7_redoAt_37 : decode cX7_redoAt 37 = .ok (.areturn, 1) := by decide +kernel
theorem dX7_read_0 : decode cX7_read 0 = .ok (.aload_n 0, 1) := by decide +kernel
theorem dX7_read_1 : decode cX7_read 1 = .ok (.getfield 24, 3) := by decide +kernel
theorem dX7_read_4 : decode cX7_read 4 = .ok (.aload_n 1, 1) := by decide +kernel
theorem dX7_read_5 : decode cX7_read 5 = .ok (.getfield 81, 3) := by decide +kernel
theorem dX7_read_8 : decode cX7_read 8 = .ok (.iload_n 2, 1) := by decide +kernel
theorem dX7_read_9 : decode cX7_read 9 = .ok (.iadd, 1) := by decide +kernel
theorem dX7_read_10 : decode cX7_read 10 = .ok (.invokevirtual 134, 3) := by decide +kernel
theorem dX7_read_13 : decode cX7_read 13 = .ok (.lreturn, 1) := by decide +kernel
theorem dX7_write_0 : decode cX7_write 0 = .ok (.aload_n 1, 1) := by decide +kernel
theorem dX7_write_1 : decode cX7_write 1 = .ok (.getfield 81, 3) := by decide +kernel
theorem dX7_write_4 : decode cX7_write 4 = .ok (.iload_n 2, 1) := by decide +kernel
theorem dX7_write_5 : decode cX7_write 5 = .ok (.iadd, 1) := by decide +kernel
theorem dX7_write_6 : decode cX7_write 6 = .ok (.istore 5, 2) := by decide +kernel
theorem dX7_write_8 : decode cX7_write 8 = .ok (.aload_n 0, 1) := by decide +kernel
theorem dX7_write_9 : decode cX7_write 9 = .ok (.aload_n 0, 1) := by decide +kernel
theorem dX7_write_10 : decode cX7_write 10 = .ok (.getfield 35, 3) := by decide +kernel
theorem dX7_write_13 : decode cX7_write 13 = .ok (.iconst 1, 1) := by decide +kernel
theorem dX7_write_14 : decode cX7_write 14 = .ok (.isub, 1) := by decide +kernel
theorem dX7_write_15 : decode cX7_write 15 = .ok (.invokevirtual 138, 3) := by decide +kernel
theorem dX7_write_18 : decode cX7_write 18 = .ok (.astore 6, 2) := by decide +kernel
theorem dX7_write_20 : decode cX7_write 20 = .ok (.aload 6, 2) := by decide +kernel
theorem dX7_write_22 : decode cX7_write 22 = .ok (.ifnull 36, 3) := by decide +kernel
theorem dX7_write_25 : decode cX7_write 25 = .ok (.iload 5, 2) := by decide +kernel
theorem dX7_write_27 : decode cX7_write 27 = .ok (.aload 6, 2) := by decide +kernel
theorem dX7_write_29 : decode cX7_write 29 = .ok (.getfield 125, 3) := by decide +kernel
theorem dX7_write_32 : decode cX7_write 32 = .ok (.if_icmp .ge 26, 3) := by decide +kernel
theorem dX7_write_35 : decode cX7_write 35 = .ok (.aload_n 0, 1) := by decide +kernel
theorem dX7_write_36 : decode cX7_write 36 = .ok (.getfield 28, 3) := by decide +kernel
theorem dX7_write_39 : decode cX7_write 39 = .ok (.aload_n 0, 1) := by decide +kernel
theorem dX7_write_40 : decode cX7_write 40 = .ok (.getfield 24, 3) := by decide +kernel
theorem dX7_write_43 : decode cX7_write 43 = .ok (.iload 5, 2) := by decide +kernel
theorem dX7_write_45 : decode cX7_write 45 = .ok (.invokevirtual 134, 3) := by decide +kernel
theorem dX7_write_48 : decode cX7_write 48 = .ok (.bipush 16, 2) := by decide +kernel
theorem dX7_write_50 : decode cX7_write 50 = .ok (.lshl, 1) := by decide +kernel
theorem dX7_write_51 : decode cX7_write 51 = .ok (.iload 5, 2) := by decide +kernel
theorem dX7_write_53 : decode cX7_write 53 = .ok (.i2l, 1) := by decide +kernel
theorem dX7_write_54 : decode cX7_write 54 = .ok (.lor, 1) := by decide +kernel
theorem dX7_write_55 : decode cX7_write 55 = .ok (.invokevirtual 100, 3) := by decide +kernel
theorem dX7_write_58 : decode cX7_write 58 = .ok (.aload_n 0, 1) := by decide +kernel
theorem dX7_write_59 : decode cX7_write 59 = .ok (.getfield 24, 3) := by decide +kernel
theorem dX7_write_62 : decode cX7_write 62 = .ok (.iload 5, 2) := by decide +kernel
theorem dX7_write_64 : decode cX7_write 64 = .ok (.lload_n 3, 1) := by decide +kernel
theorem dX7_write_65 : decode cX7_write 65 = .ok (.invokevirtual 142, 3) := by decide +kernel
theorem dX7_write_68 : decode cX7_write 68 = .ok (.return_, 1) := by decide +kernel
theorem dX7_cutTo_0 : decode cX7_cutTo 0 = .ok (.aload_n 0, 1) := by decide +kernel
theorem dX7_cutTo_1 : decode cX7_cutTo 1 = .ok (.aload_n 0, 1) := by decide +kernel
theorem dX7_cutTo_2 : decode cX7_cutTo 2 = .ok (.getfield 35, 3) := by decide +kernel
theorem dX7_cutTo_5 : decode cX7_cutTo 5 = .ok (.iload_n 1, 1) := by decide +kernel
theorem dX7_cutTo_6 : decode cX7_cutTo 6 = .ok (.iconst 0, 1) := by decide +kernel
theorem dX7_cutTo_7 : decode cX7_cutTo 7 = .ok (.invokestatic 53, 3) := by decide +kernel
theorem dX7_cutTo_10 : decode cX7_cutTo 10 = .ok (.invokestatic 146, 3) := by decide +kernel
theorem dX7_cutTo_13 : decode cX7_cutTo 13 = .ok (.putfield 35, 3) := by decide +kernel
theorem dX7_cutTo_16 : decode cX7_cutTo 16 = .ok (.aload_n 0, 1) := by decide +kernel
theorem dX7_cutTo_17 : decode cX7_cutTo 17 = .ok (.aload_n 0, 1) := by decide +kernel
theorem dX7_cutTo_18 : decode cX7_cutTo 18 = .ok (.getfield 35, 3) := by decide +kernel
theorem dX7_cutTo_21 : decode cX7_cutTo 21 = .ok (.iconst 1, 1) := by decide +kernel
theorem dX7_cutTo_22 : decode cX7_cutTo 22 = .ok (.isub, 1) := by decide +kernel
theorem dX7_cutTo_23 : decode cX7_cutTo 23 = .ok (.invokevirtual 138, 3) := by decide +kernel
theorem dX7_cutTo_26 : decode cX7_cutTo 26 = .ok (.astore_n 3, 1) := by decide +kernel
theorem dX7_cutTo_27 : decode cX7_cutTo 27 = .ok (.aload_n 3, 1) := by decide +kernel
theorem dX7_cutTo_28 : decode cX7_cutTo 28 = .ok (.ifnonnull 24, 3) := by decide +kernel
theorem dX7_cutTo_31 : decode cX7_cutTo 31 = .ok (.aload_n 0, 1) := by decide +kernel
theorem dX7_cutTo_32 : decode cX7_cutTo 32 = .ok (.getfield 28, 3) := by decide +kernel
theorem dX7_cutTo_35 : decode cX7_cutTo 35 = .ok (.iconst 0, 1) := by decide +kernel
theorem dX7_cutTo_36 : decode cX7_cutTo 36 = .ok (.invokevirtual 38, 3) := by decide +kernel
theorem dX7_cutTo_39 : decode cX7_cutTo 39 = .ok (.aload_n 0, 1) := by decide +kernel
theorem dX7_cutTo_40 : decode cX7_cutTo 40 = .ok (.aload_n 2, 1) := by decide +kernel
theorem dX7_cutTo_41 : decode cX7_cutTo 41 = .ok (.getfield 149, 3) := by decide +kernel
theorem dX7_cutTo_44 : decode cX7_cutTo 44 = .ok (.iconst 1, 1) := by decide +kernel
theorem dX7_cutTo_45 : decode cX7_cutTo 45 = .ok (.iadd, 1) := by decide +kernel
theorem dX7_cutTo_46 : decode cX7_cutTo 46 = .ok (.invokevirtual 152, 3) := by decide +kernel
theorem dX7_cutTo_49 : decode cX7_cutTo 49 = .ok (.goto 20, 3) := by decide +kernel
theorem dX7_cutTo_52 : decode cX7_cutTo 52 = .ok (.aload_n 0, 1) := by decide +kernel
theorem dX7_cutTo_53 : decode cX7_cutTo 53 = .ok (.aload_n 2, 1) := by decide +kernel
theorem dX7_cutTo_54 : decode cX7_cutTo 54 = .ok (.getfield 149, 3) := by decide +kernel
theorem dX7_cutTo_57 : decode cX7_cutTo 57 = .ok (.iconst 1, 1) := by decide +kernel
theorem dX7_cutTo_58 : decode cX7_cutTo 58 = .ok (.iadd, 1) := by decide +kernel
theorem dX7_cutTo_59 : decode cX7_cutTo 59 = .ok (.aload_n 3, 1) := by decide +kernel
theorem dX7_cutTo_60 : decode cX7_cutTo 60 = .ok (.getfield 122, 3) := by decide +kernel
theorem dX7_cutTo_63 : decode cX7_cutTo 63 = .ok (.invokestatic 53, 3) := by decide +kernel
theorem dX7_cutTo_66 : decode cX7_cutTo 66 = .ok (.invokevirtual 152, 3) := by decide +kernel
theorem dX7_cutTo_69 : decode cX7_cutTo 69 = .ok (.return_, 1) := by decide +kernel
theorem dX7_keepFrames_0 : decode cX7_keepFrames 0 = .ok (.iload_n 1, 1) := by decide +kernel
theorem dX7_keepFrames_1 : decode cX7_keepFrames 1 = .ok (.aload_n 0, 1) := by decide +kernel
theorem dX7_keepFrames_2 : decode cX7_keepFrames 2 = .ok (.getfield 31, 3) := by decide +kernel
theorem dX7_keepFrames_5 : decode cX7_keepFrames 5 = .ok (.invokestatic 60, 3) := by decide +kernel
theorem dX7_keepFrames_8 : decode cX7_keepFrames 8 = .ok (.ifCond .eq 40, 3) := by decide +kernel
theorem dX7_keepFrames_11 : decode cX7_keepFrames 11 = .ok (.iload_n 1, 1) := by decide +kernel
theorem dX7_keepFrames_12 : decode cX7_keepFrames 12 = .ok (.aload_n 0, 1) := by decide +kernel
theorem dX7_keepFrames_13 : decode cX7_keepFrames 13 = .ok (.getfield 12, 3) := by decide +kernel
theorem dX7_keepFrames_16 : decode cX7_keepFrames 16 = .ok (.invokevirtual 59, 3) := by decide +kernel
theorem dX7_keepFrames_19 : decode cX7_keepFrames 19 = .ok (.if_icmp .ge 29, 3) := by decide +kernel
theorem dX7_keepFrames_22 : decode cX7_keepFrames 22 = .ok (.aload_n 0, 1) := by decide +kernel
theorem dX7_keepFrames_23 : decode cX7_keepFrames 23 = .ok (.getfield 24, 3) := by decide +kernel
theorem dX7_keepFrames_26 : decode cX7_keepFrames 26 = .ok (.aload_n 0, 1) := by decide +kernel
theorem dX7_keepFrames_27 : decode cX7_keepFrames 27 = .ok (.getfield 12, 3) := by decide +kernel
theorem dX7_keepFrames_30 : decode cX7_keepFrames 30 = .ok (.iload_n 1, 1) := by decide +kernel
theorem dX7_keepFrames_31 : decode cX7_keepFrames 31 = .ok (.invokevirtual 64, 3) := by decide +kernel
theorem dX7_keepFrames_34 : decode cX7_keepFrames 34 = .ok (.checkcast 68, 3) := by decide +kernel
theorem dX7_keepFrames_37 : decode cX7_keepFrames 37 = .ok (.getfield 81, 3) := by decide +kernel
theorem dX7_keepFrames_40 : decode cX7_keepFrames 40 = .ok (.invokevirtual 38, 3) := by decide +kernel
theorem dX7_keepFrames_43 : decode cX7_keepFrames 43 = .ok (.aload_n 0, 1) := by decide +kernel
theorem dX7_keepFrames_44 : decode cX7_keepFrames 44 = .ok (.iload_n 1, 1) := by decide +kernel
theorem dX7_keepFrames_45 : decode cX7_keepFrames 45 = .ok (.putfield 31, 3) := by decide +kernel
theorem dX7_keepFrames_48 : decode cX7_keepFrames 48 = .ok (.return_, 1) := by decide +kernel
theorem dX7_dropRedo_0 : decode cX7_dropRedo 0 = .ok (.aload_n 0, 1) := by decide +kernel
theorem dX7_dropRedo_1 : decode cX7_dropRedo 1 = .ok (.iload_n 1, 1) := by decide +kernel
theorem dX7_dropRedo_2 : decode cX7_dropRedo 2 = .ok (.invokevirtual 138, 3) := by decide +kernel
theorem dX7_dropRedo_5 : decode cX7_dropRedo 5 = .ok (.astore_n 2, 1) := by decide +kernel
theorem dX7_dropRedo_6 : decode cX7_dropRedo 6 = .ok (.aload_n 2, 1) := by decide +kernel
theorem dX7_dropRedo_7 : decode cX7_dropRedo 7 = .ok (.ifnull 8, 3) := by decide +kernel
theorem dX7_dropRedo_10 : decode cX7_dropRedo 10 = .ok (.aload_n 2, 1) := by decide +kernel
theorem dX7_dropRedo_11 : decode cX7_dropRedo 11 = .ok (.iconst 1, 1) := by decide +kernel
theorem dX7_dropRedo_12 : decode cX7_dropRedo 12 = .ok (.putfield 118, 3) := by decide +kernel
theorem dX7_dropRedo_15 : decode cX7_dropRedo 15 = .ok (.return_, 1) := by decide +kernel
theorem dX7_leave_0 : decode cX7_leave 0 = .ok (.aload_n 0, 1) := by decide +kernel
theorem dX7_leave_1 : decode cX7_leave 1 = .ok (.aload_n 0, 1) := by decide +kernel
theorem dX7_leave_2 : decode cX7_leave 2 = .ok (.getfield 35, 3) := by decide +kernel
theorem dX7_leave_5 : decode cX7_leave 5 = .ok (.iconst 1, 1) := by decide +kernel
theorem dX7_leave_6 : decode cX7_leave 6 = .ok (.isub, 1) := by decide +kernel
theorem dX7_leave_7 : decode cX7_leave 7 = .ok (.invokevirtual 138, 3) := by decide +kernel
theorem dX7_leave_10 : decode cX7_leave 10 = .ok (.astore_n 2, 1) := by decide +kernel
theorem dX7_leave_11 : decode cX7_leave 11 = .ok (.aload_n 2, 1) := by decide +kernel
theorem dX7_leave_12 : decode cX7_leave 12 = .ok (.ifnull 18, 3) := by decide +kernel
theorem dX7_leave_15 : decode cX7_leave 15 = .ok (.aload_n 2, 1) := by decide +kernel
theorem dX7_leave_16 : decode cX7_leave 16 = .ok (.getfield 122, 3) := by decide +kernel
theorem dX7_leave_19 : decode cX7_leave 19 = .ok (.aload_n 1, 1) := by decide +kernel
theorem dX7_leave_20 : decode cX7_leave 20 = .ok (.getfield 149, 3) := by decide +kernel
theorem dX7_leave_23 : decode cX7_leave 23 = .ok (.if_icmp .le 7, 3) := by decide +kernel
theorem dX7_leave_26 : decode cX7_leave 26 = .ok (.iconst 1, 1) := by decide +kernel
theorem dX7_leave_27 : decode cX7_leave 27 = .ok (.goto 4, 3) := by decide +kernel
theorem dX7_leave_30 : decode cX7_leave 30 = .ok (.iconst 0, 1) := by decide +kernel
theorem dX7_leave_31 : decode cX7_leave 31 = .ok (.istore_n 3, 1) := by decide +kernel
theorem dX7_leave_32 : decode cX7_leave 32 = .ok (.aload_n 1, 1) := by decide +kernel
theorem dX7_leave_33 : decode cX7_leave 33 = .ok (.getfield 149, 3) := by decide +kernel
theorem dX7_leave_36 : decode cX7_leave 36 = .ok (.aload_n 0, 1) := by decide +kernel
theorem dX7_leave_37 : decode cX7_leave 37 = .ok (.getfield 31, 3) := by decide +kernel
theorem dX7_leave_40 : decode cX7_leave 40 = .ok (.iconst 1, 1) := by decide +kernel
theorem dX7_leave_41 : decode cX7_leave 41 = .ok (.isub, 1) := by decide +kernel
theorem dX7_leave_42 : decode cX7_leave 42 = .ok (.if_icmp .ne 15, 3) := by decide +kernel
theorem dX7_leave_45 : decode cX7_leave 45 = .ok (.iload_n 3, 1) := by decide +kernel
theorem dX7_leave_46 : decode cX7_leave 46 = .ok (.ifCond .ne 11, 3) := by decide +kernel
theorem dX7_leave_49 : decode cX7_leave 49 = .ok (.aload_n 0, 1) := by decide +kernel
theorem dX7_leave_50 : decode cX7_leave 50 = .ok (.aload_n 1, 1) := by decide +kernel
theorem dX7_leave_51 : decode cX7_leave 51 = .ok (.getfield 149, 3) := by decide +kernel
theorem dX7_leave_54 : decode cX7_leave 54 = .ok (.invokevirtual 152, 3) := by decide +kernel
