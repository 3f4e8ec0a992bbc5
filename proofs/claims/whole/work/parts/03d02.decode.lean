theorem dX7_leave_57 : decode cX7_leave 57 = .ok (.return_, 1) := by decide +kernel
theorem dX7_popRedo_0 : decode cX7_popRedo 0 = .ok (.aload_n 0, 1) := by decide +kernel
theorem dX7_popRedo_1 : decode cX7_popRedo 1 = .ok (.aload_n 0, 1) := by decide +kernel
theorem dX7_popRedo_2 : decode cX7_popRedo 2 = .ok (.getfield 35, 3) := by decide +kernel
theorem dX7_popRedo_5 : decode cX7_popRedo 5 = .ok (.iconst 1, 1) := by decide +kernel
theorem dX7_popRedo_6 : decode cX7_popRedo 6 = .ok (.isub, 1) := by decide +kernel
theorem dX7_popRedo_7 : decode cX7_popRedo 7 = .ok (.invokevirtual 138, 3) := by decide +kernel
theorem dX7_popRedo_10 : decode cX7_popRedo 10 = .ok (.astore_n 1, 1) := by decide +kernel
theorem dX7_popRedo_11 : decode cX7_popRedo 11 = .ok (.aload_n 1, 1) := by decide +kernel
theorem dX7_popRedo_12 : decode cX7_popRedo 12 = .ok (.ifnull 21, 3) := by decide +kernel
theorem dX7_popRedo_15 : decode cX7_popRedo 15 = .ok (.aload_n 0, 1) := by decide +kernel
theorem dX7_popRedo_16 : decode cX7_popRedo 16 = .ok (.dup, 1) := by decide +kernel
theorem dX7_popRedo_17 : decode cX7_popRedo 17 = .ok (.getfield 35, 3) := by decide +kernel
theorem dX7_popRedo_20 : decode cX7_popRedo 20 = .ok (.iconst 1, 1) := by decide +kernel
theorem dX7_popRedo_21 : decode cX7_popRedo 21 = .ok (.isub, 1) := by decide +kernel
theorem dX7_popRedo_22 : decode cX7_popRedo 22 = .ok (.putfield 35, 3) := by decide +kernel
theorem dX7_popRedo_25 : decode cX7_popRedo 25 = .ok (.aload_n 0, 1) := by decide +kernel
theorem dX7_popRedo_26 : decode cX7_popRedo 26 = .ok (.aload_n 1, 1) := by decide +kernel
theorem dX7_popRedo_27 : decode cX7_popRedo 27 = .ok (.getfield 122, 3) := by decide +kernel
theorem dX7_popRedo_30 : decode cX7_popRedo 30 = .ok (.invokevirtual 152, 3) := by decide +kernel
theorem dX7_popRedo_33 : decode cX7_popRedo 33 = .ok (.aload_n 1, 1) := by decide +kernel
theorem dX7_popRedo_34 : decode cX7_popRedo 34 = .ok (.areturn, 1) := by decide +kernel
theorem dX7_goBackTo_0 : decode cX7_goBackTo 0 = .ok (.aload_n 0, 1) := by decide +kernel
theorem dX7_goBackTo_1 : decode cX7_goBackTo 1 = .ok (.getfield 28, 3) := by decide +kernel
theorem dX7_goBackTo_4 : decode cX7_goBackTo 4 = .ok (.invokevirtual 48, 3) := by decide +kernel
theorem dX7_goBackTo_7 : decode cX7_goBackTo 7 = .ok (.istore_n 2, 1) := by decide +kernel
theorem dX7_goBackTo_8 : decode cX7_goBackTo 8 = .ok (.iload_n 2, 1) := by decide +kernel
theorem dX7_goBackTo_9 : decode cX7_goBackTo 9 = .ok (.aload_n 1, 1) := by decide +kernel
theorem dX7_goBackTo_10 : decode cX7_goBackTo 10 = .ok (.getfield 128, 3) := by decide +kernel
theorem dX7_goBackTo_13 : decode cX7_goBackTo 13 = .ok (.if_icmp .le 34, 3) := by decide +kernel
theorem dX7_goBackTo_16 : decode cX7_goBackTo 16 = .ok (.aload_n 0, 1) := by decide +kernel
theorem dX7_goBackTo_17 : decode cX7_goBackTo 17 = .ok (.getfield 28, 3) := by decide +kernel
theorem dX7_goBackTo_20 : decode cX7_goBackTo 20 = .ok (.invokevirtual 155, 3) := by decide +kernel
theorem dX7_goBackTo_23 : decode cX7_goBackTo 23 = .ok (.lstore_n 3, 1) := by decide +kernel
theorem dX7_goBackTo_24 : decode cX7_goBackTo 24 = .ok (.aload_n 0, 1) := by decide +kernel
theorem dX7_goBackTo_25 : decode cX7_goBackTo 25 = .ok (.getfield 24, 3) := by decide +kernel
theorem dX7_goBackTo_28 : decode cX7_goBackTo 28 = .ok (.lload_n 3, 1) := by decide +kernel
theorem dX7_goBackTo_29 : decode cX7_goBackTo 29 = .ok (.ldc2_w 159, 3) := by decide +kernel
theorem dX7_goBackTo_32 : decode cX7_goBackTo 32 = .ok (.land, 1) := by decide +kernel
theorem dX7_goBackTo_33 : decode cX7_goBackTo 33 = .ok (.l2i, 1) := by decide +kernel
theorem dX7_goBackTo_34 : decode cX7_goBackTo 34 = .ok (.lload_n 3, 1) := by decide +kernel
theorem dX7_goBackTo_35 : decode cX7_goBackTo 35 = .ok (.bipush 16, 2) := by decide +kernel
theorem dX7_goBackTo_37 : decode cX7_goBackTo 37 = .ok (.lshr, 1) := by decide +kernel
theorem dX7_goBackTo_38 : decode cX7_goBackTo 38 = .ok (.invokevirtual 142, 3) := by decide +kernel
theorem dX7_goBackTo_41 : decode cX7_goBackTo 41 = .ok (.iinc 2 (-1), 3) := by decide +kernel
theorem dX7_goBackTo_44 : decode cX7_goBackTo 44 = .ok (.goto (-36), 3) := by decide +kernel
theorem dX7_goBackTo_47 : decode cX7_goBackTo 47 = .ok (.return_, 1) := by decide +kernel
theorem dX8_init_0 : decode cX8_init 0 = .ok (.aload_n 0, 1) := by decide +kernel
theorem dX8_init_1 : decode cX8_init 1 = .ok (.invokespecial 3, 3) := by decide +kernel
theorem dX8_init_4 : decode cX8_init 4 = .ok (.aload_n 0, 1) := by decide +kernel
theorem dX8_init_5 : decode cX8_init 5 = .ok (.sipush 1000, 3) := by decide +kernel
theorem dX8_init_8 : decode cX8_init 8 = .ok (.newarray .char, 2) := by decide +kernel
theorem dX8_init_10 : decode cX8_init 10 = .ok (.putfield 9, 3) := by decide +kernel
theorem dX8_init_13 : decode cX8_init 13 = .ok (.aload_n 0, 1) := by decide +kernel
theorem dX8_init_14 : decode cX8_init 14 = .ok (.bipush 10, 2) := by decide +kernel
theorem dX8_init_16 : decode cX8_init 16 = .ok (.newarray .char, 2) := by decide +kernel
theorem dX8_init_18 : decode cX8_init 18 = .ok (.putfield 15, 3) := by decide +kernel
theorem dX8_init_21 : decode cX8_init 21 = .ok (.aload_n 0, 1) := by decide +kernel
theorem dX8_init_22 : decode cX8_init 22 = .ok (.new 18, 3) := by decide +kernel
theorem dX8_init_25 : decode cX8_init 25 = .ok (.dup, 1) := by decide +kernel
theorem dX8_init_26 : decode cX8_init 26 = .ok (.invokespecial 20, 3) := by decide +kernel
theorem dX8_init_29 : decode cX8_init 29 = .ok (.putfield 21, 3) := by decide +kernel
theorem dX8_init_32 : decode cX8_init 32 = .ok (.return_, 1) := by decide +kernel
theorem dX8_write_0 : decode cX8_write 0 = .ok (.aload_n 0, 1) := by decide +kernel
theorem dX8_write_1 : decode cX8_write 1 = .ok (.iconst 0, 1) := by decide +kernel
theorem dX8_write_2 : decode cX8_write 2 = .ok (.putfield 25, 3) := by decide +kernel
theorem dX8_write_5 : decode cX8_write 5 = .ok (.aload_n 0, 1) := by decide +kernel
theorem dX8_write_6 : decode cX8_write 6 = .ok (.getfield 21, 3) := by decide +kernel
theorem dX8_write_9 : decode cX8_write 9 = .ok (.iconst 0, 1) := by decide +kernel
theorem dX8_write_10 : decode cX8_write 10 = .ok (.invokevirtual 29, 3) := by decide +kernel
theorem dX8_write_13 : decode cX8_write 13 = .ok (.aload_n 0, 1) := by decide +kernel
theorem dX8_write_14 : decode cX8_write 14 = .ok (.lload_n 1, 1) := by decide +kernel
theorem dX8_write_15 : decode cX8_write 15 = .ok (.invokevirtual 33, 3) := by decide +kernel
theorem dX8_write_18 : decode cX8_write 18 = .ok (.iconst 0, 1) := by decide +kernel
theorem dX8_write_19 : decode cX8_write 19 = .ok (.istore 4, 2) := by decide +kernel
theorem dX8_write_21 : decode cX8_write 21 = .ok (.iload 4, 2) := by decide +kernel
theorem dX8_write_23 : decode cX8_write 23 = .ok (.sipush 1000, 3) := by decide +kernel
theorem dX8_write_26 : decode cX8_write 26 = .ok (.if_icmp .ge 34, 3) := by decide +kernel
theorem dX8_write_29 : decode cX8_write 29 = .ok (.aload_n 0, 1) := by decide +kernel
theorem dX8_write_30 : decode cX8_write 30 = .ok (.getfield 25, 3) := by decide +kernel
theorem dX8_write_33 : decode cX8_write 33 = .ok (.sipush 1000, 3) := by decide +kernel
theorem dX8_write_36 : decode cX8_write 36 = .ok (.if_icmp .ge 24, 3) := by decide +kernel
theorem dX8_write_39 : decode cX8_write 39 = .ok (.aload_n 0, 1) := by decide +kernel
theorem dX8_write_40 : decode cX8_write 40 = .ok (.getfield 21, 3) := by decide +kernel
theorem dX8_write_43 : decode cX8_write 43 = .ok (.invokevirtual 37, 3) := by decide +kernel
theorem dX8_write_46 : decode cX8_write 46 = .ok (.ifCond .le 14, 3) := by decide +kernel
theorem dX8_write_49 : decode cX8_write 49 = .ok (.aload_n 0, 1) := by decide +kernel
theorem dX8_write_50 : decode cX8_write 50 = .ok (.aload_n 3, 1) := by decide +kernel
theorem dX8_write_51 : decode cX8_write 51 = .ok (.invokevirtual 41, 3) := by decide +kernel
theorem dX8_write_54 : decode cX8_write 54 = .ok (.iinc 4 1, 3) := by decide +kernel
theorem dX8_write_57 : decode cX8_write 57 = .ok (.goto (-36), 3) := by decide +kernel
theorem dX8_write_60 : decode cX8_write 60 = .ok (.aload_n 0, 1) := by decide +kernel
theorem dX8_write_61 : decode cX8_write 61 = .ok (.getfield 25, 3) := by decide +kernel
theorem dX8_write_64 : decode cX8_write 64 = .ok (.ireturn, 1) := by decide +kernel
theorem dX8_writeCharacter_0 : decode cX8_writeCharacter 0 = .ok (.aload_n 0, 1) := by decide +kernel
theorem dX8_writeCharacter_1 : decode cX8_writeCharacter 1 = .ok (.getfield 25, 3) := by decide +kernel
theorem dX8_writeCharacter_4 : decode cX8_writeCharacter 4 = .ok (.aload_n 0, 1) := by decide +kernel
theorem dX8_writeCharacter_5 : decode cX8_writeCharacter 5 = .ok (.getfield 9, 3) := by decide +kernel
theorem dX8_writeCharacter_8 : decode cX8_writeCharacter 8 = .ok (.arraylength, 1) := by decide +kernel
theorem dX8_writeCharacter_9 : decode cX8_writeCharacter 9 = .ok (.invokestatic 45, 3) := by decide +kernel
theorem dX8_writeCharacter_12 : decode cX8_writeCharacter 12 = .ok (.ifCond .eq 23, 3) := by decide +kernel
theorem dX8_writeCharacter_15 : decode cX8_writeCharacter 15 = .ok (.aload_n 0, 1) := by decide +kernel
theorem dX8_writeCharacter_16 : decode cX8_writeCharacter 16 = .ok (.getfield 9, 3) := by decide +kernel
theorem dX8_writeCharacter_19 : decode cX8_writeCharacter 19 = .ok (.aload_n 0, 1) := by decide +kernel
theorem dX8_writeCharacter_20 : decode cX8_writeCharacter 20 = .ok (.getfield 25, 3) := by decide +kernel
theorem dX8_writeCharacter_23 : decode cX8_writeCharacter 23 = .ok (.iload_n 1, 1) := by decide +kernel
theorem dX8_writeCharacter_24 : decode cX8_writeCharacter 24 = .ok (.castore, 1) := by decide +kernel
theorem dX8_writeCharacter_25 : decode cX8_writeCharacter 25 = .ok (.aload_n 0, 1) := by decide +kernel
theorem dX8_writeCharacter_26 : decode cX8_writeCharacter 26 = .ok (.dup, 1) := by decide +kernel
theorem dX8_writeCharacter_27 : decode cX8_writeCharacter 27 = .ok (.getfield 25, 3) := by decide +kernel
theorem dX8_writeCharacter_30 : decode cX8_writeCharacter 30 = .ok (.iconst 1, 1) := by decide +kernel
theorem dX8_writeCharacter_31 : decode cX8_writeCharacter 31 = .ok (.iadd, 1) := by decide +kernel
theorem dX8_writeCharacter_32 : decode cX8_writeCharacter 32 = .ok (.putfield 25, 3) := by decide +kernel
theorem dX8_writeCharacter_35 : decode cX8_writeCharacter 35 = .ok (.return_, 1) := by decide +kernel
theorem dX8_writeHead_0 : decode cX8_writeHead 0 = .ok (.lload_n 1, 1) := by decide +kernel
theorem dX8_writeHead_1 : decode cX8_writeHead 1 = .ok (.invokestatic 49, 3) := by decide +kernel
theorem dX8_writeHead_4 : decode cX8_writeHead 4 = .ok (.ifCond .ne 9, 3) := by decide +kernel
theorem dX8_writeHead_7 : decode cX8_writeHead 7 = .ok (.aload_n 0, 1) := by decide +kernel
theorem dX8_writeHead_8 : decode cX8_writeHead 8 = .ok (.lload_n 1, 1) := by decide +kernel
theorem dX8_writeHead_9 : decode cX8_writeHead 9 = .ok (.invokevirtual 55, 3) := by decide +kernel
theorem dX8_writeHead_12 : decode cX8_writeHead 12 = .ok (.return_, 1) := by decide +kernel
theorem dX8_writeHead_13 : decode cX8_writeHead 13 = .ok (.aload_n 0, 1) := by decide +kernel
theorem dX8_writeHead_14 : decode cX8_writeHead 14 = .ok (.bipush 99, 2) := by decide +kernel
theorem dX8_writeHead_16 : decode cX8_writeHead 16 = .ok (.invokevirtual 58, 3) := by decide +kernel
theorem dX8_writeHead_19 : decode cX8_writeHead 19 = .ok (.aload_n 0, 1) := by decide +kernel
theorem dX8_writeHead_20 : decode cX8_writeHead 20 = .ok (.lload_n 1, 1) := by decide +kernel
theorem dX8_writeHead_21 : decode cX8_writeHead 21 = .ok (.invokestatic 62, 3) := by decide +kernel
theorem dX8_writeHead_24 : decode cX8_writeHead 24 = .ok (.i2l, 1) := by decide +kernel
theorem dX8_writeHead_25 : decode cX8_writeHead 25 = .ok (.invokevirtual 55, 3) := by decide +kernel
theorem dX8_writeHead_28 : decode cX8_writeHead 28 = .ok (.lload_n 1, 1) := by decide +kernel
theorem dX8_writeHead_29 : decode cX8_writeHead 29 = .ok (.invokestatic 66, 3) := by decide +kernel
theorem dX8_writeHead_32 : decode cX8_writeHead 32 = .ok (.ifCond .le 25, 3) := by decide +kernel
theorem dX8_writeHead_35 : decode cX8_writeHead 35 = .ok (.aload_n 0, 1) := by decide +kernel
theorem dX8_writeHead_36 : decode cX8_writeHead 36 = .ok (.bipush 40, 2) := by decide +kernel
theorem dX8_writeHead_38 : decode cX8_writeHead 38 = .ok (.invokevirtual 58, 3) := by decide +kernel
theorem dX8_writeHead_41 : decode cX8_writeHead 41 = .ok (.aload_n 0, 1) := by decide +kernel
theorem dX8_writeHead_42 : decode cX8_writeHead 42 = .ok (.getfield 21, 3) := by decide +kernel
theorem dX8_writeHead_45 : decode cX8_writeHead 45 = .ok (.lload_n 1, 1) := by decide +kernel
theorem dX8_writeHead_46 : decode cX8_writeHead 46 = .ok (.invokevirtual 69, 3) := by decide +kernel
theorem dX8_writeHead_49 : decode cX8_writeHead 49 = .ok (.aload_n 0, 1) := by decide +kernel
theorem dX8_writeHead_50 : decode cX8_writeHead 50 = .ok (.getfield 21, 3) := by decide +kernel
theorem dX8_writeHead_53 : decode cX8_writeHead 53 = .ok (.lconst 0, 1) := by decide +kernel
theorem dX8_writeHead_54 : decode cX8_writeHead 54 = .ok (.invokevirtual 69, 3) := by decide +kernel
theorem dX8_writeHead_57 : decode cX8_writeHead 57 = .ok (.return_, 1) := by decide +kernel
theorem dX8_writeNumber_0 : decode cX8_writeNumber 0 = .ok (.lload_n 1, 1) := by decide +kernel
theorem dX8_writeNumber_1 : decode cX8_writeNumber 1 = .ok (.lconst 0, 1) := by decide +kernel
theorem dX8_writeNumber_2 : decode cX8_writeNumber 2 = .ok (.lcmp, 1) := by decide +kernel
theorem dX8_writeNumber_3 : decode cX8_writeNumber 3 = .ok (.ifCond .ge 9, 3) := by decide +kernel
theorem dX8_writeNumber_6 : decode cX8_writeNumber 6 = .ok (.aload_n 0, 1) := by decide +kernel
theorem dX8_writeNumber_7 : decode cX8_writeNumber 7 = .ok (.bipush 45, 2) := by decide +kernel
theorem dX8_writeNumber_9 : decode cX8_writeNumber 9 = .ok (.invokevirtual 58, 3) := by decide +kernel
theorem dX8_writeNumber_12 : decode cX8_writeNumber 12 = .ok (.lload_n 1, 1) := by decide +kernel
theorem dX8_writeNumber_13 : decode cX8_writeNumber 13 = .ok (.invokestatic 72, 3) := by decide +kernel
theorem dX8_writeNumber_16 : decode cX8_writeNumber 16 = .ok (.lstore_n 3, 1) := by decide +kernel
theorem dX8_writeNumber_17 : decode cX8_writeNumber 17 = .ok (.iconst 0, 1) := by decide +kernel
theorem dX8_writeNumber_18 : decode cX8_writeNumber 18 = .ok (.istore 5, 2) := by decide +kernel
theorem dX8_writeNumber_20 : decode cX8_writeNumber 20 = .ok (.iload 5, 2) := by decide +kernel
theorem dX8_writeNumber_22 : decode cX8_writeNumber 22 = .ok (.aload_n 0, 1) := by decide +kernel
theorem dX8_writeNumber_23 : decode cX8_writeNumber 23 = .ok (.getfield 15, 3) := by decide +kernel
theorem dX8_writeNumber_26 : decode cX8_writeNumber 26 = .ok (.arraylength, 1) := by decide +kernel
theorem dX8_writeNumber_27 : decode cX8_writeNumber 27 = .ok (.if_icmp .ge 44, 3) := by decide +kernel
theorem dX8_writeNumber_30 : decode cX8_writeNumber 30 = .ok (.iload 5, 2) := by decide +kernel
theorem dX8_writeNumber_32 : decode cX8_writeNumber 32 = .ok (.ifCond .eq 9, 3) := by decide +kernel
theorem dX8_writeNumber_35 : decode cX8_writeNumber 35 = .ok (.lload_n 3, 1) := by decide +kernel
theorem dX8_writeNumber_36 : decode cX8_writeNumber 36 = .ok (.lconst 0, 1) := by decide +kernel
theorem dX8_writeNumber_37 : decode cX8_writeNumber 37 = .ok (.lcmp, 1) := by decide +kernel
theorem dX8_writeNumber_38 : decode cX8_writeNumber 38 = .ok (.ifCond .le 33, 3) := by decide +kernel
theorem dX8_writeNumber_41 : decode cX8_writeNumber 41 = .ok (.aload_n 0, 1) := by decide +kernel
theorem dX8_writeNumber_42 : decode cX8_writeNumber 42 = .ok (.getfield 15, 3) := by decide +kernel
theorem dX8_writeNumber_45 : decode cX8_writeNumber 45 = .ok (.iload 5, 2) := by decide +kernel
theorem dX8_writeNumber_47 : decode cX8_writeNumber 47 = .ok (.ldc2_w 78, 3) := by decide +kernel
theorem dX8_writeNumber_50 : decode cX8_writeNumber 50 = .ok (.lload_n 3, 1) := by decide +kernel
theorem dX8_writeNumber_51 : decode cX8_writeNumber 51 = .ok (.ldc2_w 80, 3) := by decide +kernel
theorem dX8_writeNumber_54 : decode cX8_writeNumber 54 = .ok (.lrem, 1) := by decide +kernel
theorem dX8_writeNumber_55 : decode cX8_writeNumber 55 = .ok (.ladd, 1) := by decide +kernel
theorem dX8_writeNumber_56 : decode cX8_writeNumber 56 = .ok (.l2i, 1) := by decide +kernel
theorem dX8_writeNumber_57 : decode cX8_writeNumber 57 = .ok (.i2c, 1) := by decide +kernel
theorem dX8_writeNumber_58 : decode cX8_writeNumber 58 = .ok (.castore, 1) := by decide +kernel
theorem dX8_writeNumber_59 : decode cX8_writeNumber 59 = .ok (.lload_n 3, 1) := by decide +kernel
theorem dX8_writeNumber_60 : decode cX8_writeNumber 60 = .ok (.ldc2_w 80, 3) := by decide +kernel
theorem dX8_writeNumber_63 : decode cX8_writeNumber 63 = .ok (.ldiv, 1) := by decide +kernel
theorem dX8_writeNumber_64 : decode cX8_writeNumber 64 = .ok (.lstore_n 3, 1) := by decide +kernel
theorem dX8_writeNumber_65 : decode cX8_writeNumber 65 = .ok (.iinc 5 1, 3) := by decide +kernel
theorem dX8_writeNumber_68 : decode cX8_writeNumber 68 = .ok (.goto (-48), 3) := by decide +kernel
theorem dX8_writeNumber_71 : decode cX8_writeNumber 71 = .ok (.iload 5, 2) := by decide +kernel
theorem dX8_writeNumber_73 : decode cX8_writeNumber 73 = .ok (.iconst 1, 1) := by decide +kernel
theorem dX8_writeNumber_74 : decode cX8_writeNumber 74 = .ok (.isub, 1) := by decide +kernel
theorem dX8_writeNumber_75 : decode cX8_writeNumber 75 = .ok (.istore 6, 2) := by decide +kernel
theorem dX8_writeNumber_77 : decode cX8_writeNumber 77 = .ok (.iload 6, 2) := by decide +kernel
theorem dX8_writeNumber_79 : decode cX8_writeNumber 79 = .ok (.ifCond .lt 20, 3) := by decide +kernel
theorem dX8_writeNumber_82 : decode cX8_writeNumber 82 = .ok (.aload_n 0, 1) := by decide +kernel
theorem dX8_writeNumber_83 : decode cX8_writeNumber 83 = .ok (.aload_n 0, 1) := by decide +kernel
theorem dX8_writeNumber_84 : decode cX8_writeNumber 84 = .ok (.getfield 15, 3) := by decide +kernel
theorem dX8_writeNumber_87 : decode cX8_writeNumber 87 = .ok (.iload 6, 2) := by decide +kernel
theorem dX8_writeNumber_89 : decode cX8_writeNumber 89 = .ok (.caload, 1) := by decide +kernel
theorem dX8_writeNumber_90 : decode cX8_writeNumber 90 = .ok (.invokevirtual 58, 3) := by decide +kernel
theorem dX8_writeNumber_93 : decode cX8_writeNumber 93 = .ok (.iinc 6 (-1), 3) := by decide +kernel
theorem dX8_writeNumber_96 : decode cX8_writeNumber 96 = .ok (.goto (-19), 3) := by decide +kernel
theorem dX8_writeNumber_99 : decode cX8_writeNumber 99 = .ok (.return_, 1) := by decide +kernel
theorem dX8_writeMore_0 : decode cX8_writeMore 0 = .ok (.aload_n 0, 1) := by decide +kernel
theorem dX8_writeMore_1 : decode cX8_writeMore 1 = .ok (.getfield 21, 3) := by decide +kernel
theorem dX8_writeMore_4 : decode cX8_writeMore 4 = .ok (.invokevirtual 82, 3) := by decide +kernel
theorem dX8_writeMore_7 : decode cX8_writeMore 7 = .ok (.l2i, 1) := by decide +kernel
theorem dX8_writeMore_8 : decode cX8_writeMore 8 = .ok (.istore_n 2, 1) := by decide +kernel
theorem dX8_writeMore_9 : decode cX8_writeMore 9 = .ok (.aload_n 0, 1) := by decide +kernel
theorem dX8_writeMore_10 : decode cX8_writeMore 10 = .ok (.getfield 21, 3) := by decide +kernel
theorem dX8_writeMore_13 : decode cX8_writeMore 13 = .ok (.invokevirtual 82, 3) := by decide +kernel
theorem dX8_writeMore_16 : decode cX8_writeMore 16 = .ok (.lstore_n 3, 1) := by decide +kernel
theorem dX8_writeMore_17 : decode cX8_writeMore 17 = .ok (.iload_n 2, 1) := by decide +kernel
theorem dX8_writeMore_18 : decode cX8_writeMore 18 = .ok (.lload_n 3, 1) := by decide +kernel
theorem dX8_writeMore_19 : decode cX8_writeMore 19 = .ok (.invokestatic 66, 3) := by decide +kernel
theorem dX8_writeMore_22 : decode cX8_writeMore 22 = .ok (.if_icmp .lt 10, 3) := by decide +kernel
theorem dX8_writeMore_25 : decode cX8_writeMore 25 = .ok (.aload_n 0, 1) := by decide +kernel
theorem dX8_writeMore_26 : decode cX8_writeMore 26 = .ok (.bipush 41, 2) := by decide +kernel
theorem dX8_writeMore_28 : decode cX8_writeMore 28 = .ok (.invokevirtual 58, 3) := by decide +kernel
theorem dX8_writeMore_31 : decode cX8_writeMore 31 = .ok (.return_, 1) := by decide +kernel
theorem dX8_writeMore_32 : decode cX8_writeMore 32 = .ok (.iload_n 2, 1) := by decide +kernel
theorem dX8_writeMore_33 : decode cX8_writeMore 33 = .ok (.ifCond .le 9, 3) := by decide +kernel
theorem dX8_writeMore_36 : decode cX8_writeMore 36 = .ok (.aload_n 0, 1) := by decide +kernel
theorem dX8_writeMore_37 : decode cX8_writeMore 37 = .ok (.bipush 44, 2) := by decide +kernel
theorem dX8_writeMore_39 : decode cX8_writeMore 39 = .ok (.invokevirtual 58, 3) := by decide +kernel
theorem dX8_writeMore_42 : decode cX8_writeMore 42 = .ok (.aload_n 0, 1) := by decide +kernel
theorem dX8_writeMore_43 : decode cX8_writeMore 43 = .ok (.getfield 21, 3) := by decide +kernel
theorem dX8_writeMore_46 : decode cX8_writeMore 46 = .ok (.lload_n 3, 1) := by decide +kernel
theorem dX8_writeMore_47 : decode cX8_writeMore 47 = .ok (.invokevirtual 69, 3) := by decide +kernel
theorem dX8_writeMore_50 : decode cX8_writeMore 50 = .ok (.aload_n 0, 1) := by decide +kernel
theorem dX8_writeMore_51 : decode cX8_writeMore 51 = .ok (.getfield 21, 3) := by decide +kernel
theorem dX8_writeMore_54 : decode cX8_writeMore 54 = .ok (.iload_n 2, 1) := by decide +kernel
theorem dX8_writeMore_55 : decode cX8_writeMore 55 = .ok (.iconst 1, 1) := by decide +kernel
theorem dX8_writeMore_56 : decode cX8_writeMore 56 = .ok (.iadd, 1) := by decide +kernel
theorem dX8_writeMore_57 : decode cX8_writeMore 57 = .ok (.i2l, 1) := by decide +kernel
theorem dX8_writeMore_58 : decode cX8_writeMore 58 = .ok (.invokevirtual 69, 3) := by decide +kernel
theorem dX8_writeMore_61 : decode cX8_writeMore 61 = .ok (.aload_n 0, 1) := by decide +kernel
theorem dX8_writeMore_62 : decode cX8_writeMore 62 = .ok (.aload_n 1, 1) := by decide +kernel
theorem dX8_writeMore_63 : decode cX8_writeMore 63 = .ok (.lload_n 3, 1) := by decide +kernel
theorem dX8_writeMore_64 : decode cX8_writeMore 64 = .ok (.iload_n 2, 1) := by decide +kernel
theorem dX8_writeMore_65 : decode cX8_writeMore 65 = .ok (.invokevirtual 86, 3) := by decide +kernel
theorem dX8_writeMore_68 : decode cX8_writeMore 68 = .ok (.invokevirtual 33, 3) := by decide +kernel
theorem dX8_writeMore_71 : decode cX8_writeMore 71 = .ok (.return_, 1) := by decide +kernel
theorem dX8_characterAt_0 : decode cX8_characterAt 0 = .ok (.iload_n 1, 1) := by decide +kernel
theorem dX8_characterAt_1 : decode cX8_characterAt 1 = .ok (.aload_n 0, 1) := by decide +kernel
theorem dX8_characterAt_2 : decode cX8_characterAt 2 = .ok (.getfield 25, 3) := by decide +kernel
theorem dX8_characterAt_5 : decode cX8_characterAt 5 = .ok (.invokestatic 45, 3) := by decide +kernel
theorem dX8_characterAt_8 : decode cX8_characterAt 8 = .ok (.ifCond .eq 21, 3) := by decide +kernel
theorem dX8_characterAt_11 : decode cX8_characterAt 11 = .ok (.iload_n 1, 1) := by decide +kernel
theorem dX8_characterAt_12 : decode cX8_characterAt 12 = .ok (.aload_n 0, 1) := by decide +kernel
theorem dX8_characterAt_13 : decode cX8_characterAt 13 = .ok (.getfield 9, 3) := by decide +kernel
theorem dX8_characterAt_16 : decode cX8_characterAt 16 = .ok (.arraylength, 1) := by decide +kernel
theorem dX8_characterAt_17 : decode cX8_characterAt 17 = .ok (.if_icmp .ge 12, 3) := by decide +kernel
theorem dX8_characterAt_20 : decode cX8_characterAt 20 = .ok (.aload_n 0, 1) := by decide +kernel
theorem dX8_characterAt_21 : decode cX8_characterAt 21 = .ok (.getfield 9, 3) := by decide +kernel
theorem dX8_characterAt_24 : decode cX8_characterAt 24 = .ok (.iload_n 1, 1) := by decide +kernel
theorem dX8_characterAt_25 : decode cX8_characterAt 25 = .ok (.caload, 1) := by decide +kernel
theorem dX8_characterAt_26 : decode cX8_characterAt 26 = .ok (.goto 4, 3) := by decide +kernel
theorem dX8_characterAt_29 : decode cX8_characterAt 29 = .ok (.iconst (-1), 1) := by decide +kernel
theorem dX8_characterAt_30 : decode cX8_characterAt 30 = .ok (.ireturn, 1) := by decide +kernel
theorem dX9_cell_0 : decode cX9_cell 0 = .ok (.ldc2_w 9, 3) := by decide +kernel
theorem dX9_cell_3 : decode cX9_cell 3 = .ok (.iload_n 2, 1) := by decide +kernel
theorem dX9_cell_4 : decode cX9_cell 4 = .ok (.i2l, 1) := by decide +kernel
theorem dX9_cell_5 : decode cX9_cell 5 = .ok (.bipush 8, 2) := by decide +kernel
theorem dX9_cell_7 : decode cX9_cell 7 = .ok (.lshl, 1) := by decide +kernel
theorem dX9_cell_8 : decode cX9_cell 8 = .ok (.lor, 1) := by decide +kernel
theorem dX9_cell_9 : decode cX9_cell 9 = .ok (.iload_n 1, 1) := by decide +kernel
theorem dX9_cell_10 : decode cX9_cell 10 = .ok (.iconst 5, 1) := by decide +kernel
theorem dX9_cell_11 : decode cX9_cell 11 = .ok (.ishl, 1) := by decide +kernel
theorem dX9_cell_12 : decode cX9_cell 12 = .ok (.i2l, 1) := by decide +kernel
theorem dX9_cell_13 : decode cX9_cell 13 = .ok (.lor, 1) := by decide +kernel
theorem dX9_cell_14 : decode cX9_cell 14 = .ok (.iload_n 0, 1) := by decide +kernel
theorem dX9_cell_15 : decode cX9_cell 15 = .ok (.i2l, 1) := by decide +kernel
theorem dX9_cell_16 : decode cX9_cell 16 = .ok (.lor, 1) := by decide +kernel
theorem dX9_cell_17 : decode cX9_cell 17 = .ok (.lreturn, 1) := by decide +kernel
theorem dX9_isCell_0 : decode cX9_isCell 0 = .ok (.lload_n 0, 1) := by decide +kernel
theorem dX9_isCell_1 : decode cX9_isCell 1 = .ok (.ldc2_w 9, 3) := by decide +kernel
theorem dX9_isCell_4 : decode cX9_isCell 4 = .ok (.lcmp, 1) := by decide +kernel
theorem dX9_isCell_5 : decode cX9_isCell 5 = .ok (.ifCond .lt 7, 3) := by decide +kernel
theorem dX9_isCell_8 : decode cX9_isCell 8 = .ok (.iconst 1, 1) := by decide +kernel
theorem dX9_isCell_9 : decode cX9_isCell 9 = .ok (.goto 4, 3) := by decide +kernel
theorem dX9_isCell_12 : decode cX9_isCell 12 = .ok (.iconst 0, 1) := by decide +kernel
theorem dX9_isCell_13 : decode cX9_isCell 13 = .ok (.ireturn, 1) := by decide +kernel
theorem dX9_tag_0 : decode cX9_tag 0 = .ok (.lload_n 0, 1) := by decide +kernel
theorem dX9_tag_1 : decode cX9_tag 1 = .ok (.ldc2_w 11, 3) := by decide +kernel
theorem dX9_tag_4 : decode cX9_tag 4 = .ok (.land, 1) := by decide +kernel
theorem dX9_tag_5 : decode cX9_tag 5 = .ok (.l2i, 1) := by decide +kernel
theorem dX9_tag_6 : decode cX9_tag 6 = .ok (.ireturn, 1) := by decide +kernel
theorem dX9_fields_0 : decode cX9_fields 0 = .ok (.lload_n 0, 1) := by decide +kernel
theorem dX9_fields_1 : decode cX9_fields 1 = .ok (.iconst 5, 1) := by decide +kernel
theorem dX9_fields_2 : decode cX9_fields 2 = .ok (.lshr, 1) := by decide +kernel
theorem dX9_fields_3 : decode cX9_fields 3 = .ok (.ldc2_w 13, 3) := by decide +kernel
theorem dX9_fields_6 : decode cX9_fields 6 = .ok (.land, 1) := by decide +kernel
theorem dX9_fields_7 : decode cX9_fields 7 = .ok (.l2i, 1) := by decide +kernel
theorem dX9_fields_8 : decode cX9_fields 8 = .ok (.ireturn, 1) := by decide +kernel
theorem dX9_place_0 : decode cX9_place 0 = .ok (.lload_n 0, 1) := by decide +kernel
theorem dX9_place_1 : decode cX9_place 1 = .ok (.bipush 8, 2) := by decide +kernel
theorem dX9_place_3 : decode cX9_place 3 = .ok (.lshr, 1) := by decide +kernel
theorem dX9_place_4 : decode cX9_place 4 = .ok (.ldc2_w 15, 3) := by decide +kernel
theorem dX9_place_7 : decode cX9_place 7 = .ok (.land, 1) := by decide +kernel
theorem dX9_place_8 : decode cX9_place 8 = .ok (.l2i, 1) := by decide +kernel
theorem dX9_place_9 : decode cX9_place 9 = .ok (.ireturn, 1) := by decide +kernel
theorem dX9_hasTag_0 : decode cX9_hasTag 0 = .ok (.lload_n 0, 1) := by decide +kernel
theorem dX9_hasTag_1 : decode cX9_hasTag 1 = .ok (.invokestatic 17, 3) := by decide +kernel
theorem dX9_hasTag_4 : decode cX9_hasTag 4 = .ok (.ifCond .eq 15, 3) := by decide +kernel
theorem dX9_hasTag_7 : decode cX9_hasTag 7 = .ok (.lload_n 0, 1) := by decide +kernel
theorem dX9_hasTag_8 : decode cX9_hasTag 8 = .ok (.invokestatic 21, 3) := by decide +kernel
theorem dX9_hasTag_11 : decode cX9_hasTag 11 = .ok (.iload_n 2, 1) := by decide +kernel
theorem dX9_hasTag_12 : decode cX9_hasTag 12 = .ok (.if_icmp .ne 7, 3) := by decide +kernel
theorem dX9_hasTag_15 : decode cX9_hasTag 15 = .ok (.iconst 1, 1) := by decide +kernel
theorem dX9_hasTag_16 : decode cX9_hasTag 16 = .ok (.goto 4, 3) := by decide +kernel
theorem dX9_hasTag_19 : decode cX9_hasTag 19 = .ok (.iconst 0, 1) := by decide +kernel
theorem dX9_hasTag_20 : decode cX9_hasTag 20 = .ok (.ireturn, 1) := by decide +kernel
theorem dX9_differ_0 : decode cX9_differ 0 = .ok (.lload_n 0, 1) := by decide +kernel
theorem dX9_differ_1 : decode cX9_differ 1 = .ok (.invokestatic 17, 3) := by decide +kernel
theorem dX9_differ_4 : decode cX9_differ 4 = .ok (.ifCond .eq 30, 3) := by decide +kernel
theorem dX9_differ_7 : decode cX9_differ 7 = .ok (.lload_n 2, 1) := by decide +kernel
theorem dX9_differ_8 : decode cX9_differ 8 = .ok (.invokestatic 17, 3) := by decide +kernel
theorem dX9_differ_11 : decode cX9_differ 11 = .ok (.ifCond .eq 23, 3) := by decide +kernel
theorem dX9_differ_14 : decode cX9_differ 14 = .ok (.lload_n 0, 1) := by decide +kernel
theorem dX9_differ_15 : decode cX9_differ 15 = .ok (.ldc2_w 25, 3) := by decide +kernel
theorem dX9_differ_18 : decode cX9_differ 18 = .ok (.land, 1) := by decide +kernel
theorem dX9_differ_19 : decode cX9_differ 19 = .ok (.lload_n 2, 1) := by decide +kernel
theorem dX9_differ_20 : decode cX9_differ 20 = .ok (.ldc2_w 25, 3) := by decide +kernel
theorem dX9_differ_23 : decode cX9_differ 23 = .ok (.land, 1) := by decide +kernel
theorem dX9_differ_24 : decode cX9_differ 24 = .ok (.lcmp, 1) := by decide +kernel
theorem dX9_differ_25 : decode cX9_differ 25 = .ok (.ifCond .eq 7, 3) := by decide +kernel
theorem dX9_differ_28 : decode cX9_differ 28 = .ok (.iconst 1, 1) := by decide +kernel
theorem dX9_differ_29 : decode cX9_differ 29 = .ok (.goto 4, 3) := by decide +kernel
theorem dX9_differ_32 : decode cX9_differ 32 = .ok (.iconst 0, 1) := by decide +kernel
theorem dX9_differ_33 : decode cX9_differ 33 = .ok (.ireturn, 1) := by decide +kernel
theorem dX9_differ_34 : decode cX9_differ 34 = .ok (.lload_n 0, 1) := by decide +kernel
theorem dX9_differ_35 : decode cX9_differ 35 = .ok (.lload_n 2, 1) := by decide +kernel
theorem dX9_differ_36 : decode cX9_differ 36 = .ok (.lcmp, 1) := by decide +kernel
theorem dX9_differ_37 : decode cX9_differ 37 = .ok (.ifCond .eq 7, 3) := by decide +kernel
theorem dX9_differ_40 : decode cX9_differ 40 = .ok (.iconst 1, 1) := by decide +kernel
theorem dX9_differ_41 : decode cX9_differ 41 = .ok (.goto 4, 3) := by decide +kernel
theorem dX9_differ_44 : decode cX9_differ 44 = .ok (.iconst 0, 1) := by decide +kernel
theorem dX9_differ_45 : decode cX9_differ 45 = .ok (.ireturn, 1) := by decide +kernel
theorem dX9_shown_0 : decode cX9_shown 0 = .ok (.lload_n 0, 1) := by decide +kernel
theorem dX9_shown_1 : decode cX9_shown 1 = .ok (.invokestatic 17, 3) := by decide +kernel
theorem dX9_shown_4 : decode cX9_shown 4 = .ok (.ifCond .eq 15, 3) := by decide +kernel
theorem dX9_shown_7 : decode cX9_shown 7 = .ok (.ldc2_w 9, 3) := by decide +kernel
theorem dX9_shown_10 : decode cX9_shown 10 = .ok (.lload_n 0, 1) := by decide +kernel
theorem dX9_shown_11 : decode cX9_shown 11 = .ok (.invokestatic 21, 3) := by decide +kernel
theorem dX9_shown_14 : decode cX9_shown 14 = .ok (.i2l, 1) := by decide +kernel
theorem dX9_shown_15 : decode cX9_shown 15 = .ok (.ladd, 1) := by decide +kernel
theorem dX9_shown_16 : decode cX9_shown 16 = .ok (.goto 4, 3) := by decide +kernel
theorem dX9_shown_19 : decode cX9_shown 19 = .ok (.lload_n 0, 1) := by decide +kernel
theorem dX9_shown_20 : decode cX9_shown 20 = .ok (.lreturn, 1) := by decide +kernel
theorem dX10_init_0 : decode cX10_init 0 = .ok (.aload_n 0, 1) := by decide +kernel
theorem dX10_init_1 : decode cX10_init 1 = .ok (.invokespecial 1, 3) := by decide +kernel
theorem dX10_init_4 : decode cX10_init 4 = .ok (.aload_n 0, 1) := by decide +kernel
theorem dX10_init_5 : decode cX10_init 5 = .ok (.bipush 10, 2) := by decide +kernel
theorem dX10_init_7 : decode cX10_init 7 = .ok (.newarray .int, 2) := by decide +kernel
theorem dX10_init_9 : decode cX10_init 9 = .ok (.putfield 9, 3) := by decide +kernel
theorem dX10_init_12 : decode cX10_init 12 = .ok (.aload_n 0, 1) := by decide +kernel
theorem dX10_init_13 : decode cX10_init 13 = .ok (.new 13, 3) := by decide +kernel
theorem dX10_init_16 : decode cX10_init 16 = .ok (.dup, 1) := by decide +kernel
theorem dX10_init_17 : decode cX10_init 17 = .ok (.invokespecial 15, 3) := by decide +kernel
theorem dX10_init_20 : decode cX10_init 20 = .ok (.putfield 16, 3) := by decide +kernel
theorem dX10_init_23 : decode cX10_init 23 = .ok (.aload_n 0, 1) := by decide +kernel
theorem dX10_init_24 : decode cX10_init 24 = .ok (.new 20, 3) := by decide +kernel
theorem dX10_init_27 : decode cX10_init 27 = .ok (.dup, 1) := by decide +kernel
theorem dX10_init_28 : decode cX10_init 28 = .ok (.invokespecial 22, 3) := by decide +kernel
theorem dX10_init_31 : decode cX10_init 31 = .ok (.putfield 23, 3) := by decide +kernel
theorem dX10_init_34 : decode cX10_init 34 = .ok (.aload_n 0, 1) := by decide +kernel
theorem dX10_init_35 : decode cX10_init 35 = .ok (.new 27, 3) := by decide +kernel
theorem dX10_init_38 : decode cX10_init 38 = .ok (.dup, 1) := by decide +kernel
theorem dX10_init_39 : decode cX10_init 39 = .ok (.invokespecial 29, 3) := by decide +kernel
theorem dX10_init_42 : decode cX10_init 42 = .ok (.putfield 30, 3) := by decide +kernel
theorem dX10_init_45 : decode cX10_init 45 = .ok (.return_, 1) := by decide +kernel
theorem dX10_put_0 : decode cX10_put 0 = .ok (.aload_n 0, 1) := by decide +kernel
theorem dX10_put_1 : decode cX10_put 1 = .ok (.getfield 34, 3) := by decide +kernel
theorem dX10_put_4 : decode cX10_put 4 = .ok (.ifCond .lt 15, 3) := by decide +kernel
theorem dX10_put_7 : decode cX10_put 7 = .ok (.aload_n 0, 1) := by decide +kernel
theorem dX10_put_8 : decode cX10_put 8 = .ok (.getfield 34, 3) := by decide +kernel
theorem dX10_put_11 : decode cX10_put 11 = .ok (.aload_n 0, 1) := by decide +kernel
theorem dX10_put_12 : decode cX10_put 12 = .ok (.getfield 9, 3) := by decide +kernel
theorem dX10_put_15 : decode cX10_put 15 = .ok (.arraylength, 1) := by decide +kernel
theorem dX10_put_16 : decode cX10_put 16 = .ok (.if_icmp .lt 5, 3) := by decide +kernel
theorem dX10_put_19 : decode cX10_put 19 = .ok (.iconst 0, 1) := by decide +kernel
theorem dX10_put_20 : decode cX10_put 20 = .ok (.ireturn, 1) := by decide +kernel
theorem dX10_put_21 : decode cX10_put 21 = .ok (.aload_n 0, 1) := by decide +kernel
theorem dX10_put_22 : decode cX10_put 22 = .ok (.getfield 9, 3) := by decide +kernel
theorem dX10_put_25 : decode cX10_put 25 = .ok (.aload_n 0, 1) := by decide +kernel
theorem dX10_put_26 : decode cX10_put 26 = .ok (.getfield 34, 3) := by decide +kernel
theorem dX10_put_29 : decode cX10_put 29 = .ok (.iload_n 1, 1) := by decide +kernel
theorem dX10_put_30 : decode cX10_put 30 = .ok (.iastore, 1) := by decide +kernel
theorem dX10_put_31 : decode cX10_put 31 = .ok (.aload_n 0, 1) := by decide +kernel
theorem dX10_put_32 : decode cX10_put 32 = .ok (.dup, 1) := by decide +kernel
theorem dX10_put_33 : decode cX10_put 33 = .ok (.getfield 34, 3) := by decide +kernel
theorem dX10_put_36 : decode cX10_put 36 = .ok (.iconst 1, 1) := by decide +kernel
theorem dX10_put_37 : decode cX10_put 37 = .ok (.iadd, 1) := by decide +kernel
theorem dX10_put_38 : decode cX10_put 38 = .ok (.putfield 34, 3) := by decide +kernel
theorem dX10_put_41 : decode cX10_put 41 = .ok (.iconst 1, 1) := by decide +kernel
theorem dX10_put_42 : decode cX10_put 42 = .ok (.ireturn, 1) := by decide +kernel
theorem dX10_procedure_0 : decode cX10_procedure 0 = .ok (.aload_n 0, 1) := by decide +kernel
theorem dX10_procedure_1 : decode cX10_procedure 1 = .ok (.invokevirtual 38, 3) := by decide +kernel
theorem dX10_procedure_4 : decode cX10_procedure 4 = .ok (.astore 4, 2) := by decide +kernel
theorem dX10_procedure_6 : decode cX10_procedure 6 = .ok (.aload_n 0, 1) := by decide +kernel
theorem dX10_procedure_7 : decode cX10_procedure 7 = .ok (.getfield 16, 3) := by decide +kernel
theorem dX10_procedure_10 : decode cX10_procedure 10 = .ok (.invokevirtual 42, 3) := by decide +kernel
theorem dX10_procedure_13 : decode cX10_procedure 13 = .ok (.bipush 60, 2) := by decide +kernel
theorem dX10_procedure_15 : decode cX10_procedure 15 = .ok (.if_icmp .ge 13, 3) := by decide +kernel
theorem dX10_procedure_18 : decode cX10_procedure 18 = .ok (.iload_n 2, 1) := by decide +kernel
theorem dX10_procedure_19 : decode cX10_procedure 19 = .ok (.iload_n 3, 1) := by decide +kernel
theorem dX10_procedure_20 : decode cX10_procedure 20 = .ok (.aload 4, 2) := by decide +kernel
theorem dX10_procedure_22 : decode cX10_procedure 22 = .ok (.invokestatic 46, 3) := by decide +kernel
theorem dX10_procedure_25 : decode cX10_procedure 25 = .ok (.ifCond .ne 5, 3) := by decide +kernel
theorem dX10_procedure_28 : decode cX10_procedure 28 = .ok (.iconst (-1), 1) := by decide +kernel
theorem dX10_procedure_29 : decode cX10_procedure 29 = .ok (.ireturn, 1) := by decide +kernel
theorem dX10_procedure_30 : decode cX10_procedure 30 = .ok (.aload_n 0, 1) := by decide +kernel
theorem dX10_procedure_31 : decode cX10_procedure 31 = .ok (.getfield 16, 3) := by decide +kernel
theorem dX10_procedure_34 : decode cX10_procedure 34 = .ok (.new 47, 3) := by decide +kernel
theorem dX10_procedure_37 : decode cX10_procedure 37 = .ok (.dup, 1) := by decide +kernel
theorem dX10_procedure_38 : decode cX10_procedure 38 = .ok (.iload_n 1, 1) := by decide +kernel
theorem dX10_procedure_39 : decode cX10_procedure 39 = .ok (.iload_n 2, 1) := by decide +kernel
theorem dX10_procedure_40 : decode cX10_procedure 40 = .ok (.iload_n 3, 1) := by decide +kernel
theorem dX10_procedure_41 : decode cX10_procedure 41 = .ok (.aload 4, 2) := by decide +kernel
theorem dX10_procedure_43 : decode cX10_procedure 43 = .ok (.invokespecial 52, 3) := by decide +kernel
theorem dX10_procedure_46 : decode cX10_procedure 46 = .ok (.invokevirtual 55, 3) := by decide +kernel
theorem dX10_procedure_49 : decode cX10_procedure 49 = .ok (.pop, 1) := by decide +kernel
theorem dX10_procedure_50 : decode cX10_procedure 50 = .ok (.aload_n 0, 1) := by decide +kernel
theorem dX10_procedure_51 : decode cX10_procedure 51 = .ok (.getfield 16, 3) := by decide +kernel
theorem dX10_procedure_54 : decode cX10_procedure 54 = .ok (.invokevirtual 42, 3) := by decide +kernel
theorem dX10_procedure_57 : decode cX10_procedure 57 = .ok (.iconst 1, 1) := by decide +kernel
theorem dX10_procedure_58 : decode cX10_procedure 58 = .ok (.isub, 1) := by decide +kernel
theorem dX10_procedure_59 : decode cX10_procedure 59 = .ok (.ireturn, 1) := by decide +kernel
theorem dX10_add_0 : decode cX10_add 0 = .ok (.new 59, 3) := by decide +kernel
theorem dX10_add_3 : decode cX10_add 3 = .ok (.dup, 1) := by decide +kernel
theorem dX10_add_4 : decode cX10_add 4 = .ok (.iload_n 2, 1) := by decide +kernel
theorem dX10_add_5 : decode cX10_add 5 = .ok (.iload_n 3, 1) := by decide +kernel
theorem dX10_add_6 : decode cX10_add 6 = .ok (.iload 4, 2) := by decide +kernel
theorem dX10_add_8 : decode cX10_add 8 = .ok (.iload 5, 2) := by decide +kernel
theorem dX10_add_10 : decode cX10_add 10 = .ok (.iload 6, 2) := by decide +kernel
theorem dX10_add_12 : decode cX10_add 12 = .ok (.aload_n 0, 1) := by decide +kernel
theorem dX10_add_13 : decode cX10_add 13 = .ok (.invokevirtual 38, 3) := by decide +kernel
theorem dX10_add_16 : decode cX10_add 16 = .ok (.invokespecial 61, 3) := by decide +kernel
theorem dX10_add_19 : decode cX10_add 19 = .ok (.astore 7, 2) := by decide +kernel
theorem dX10_add_21 : decode cX10_add 21 = .ok (.iload_n 2, 1) := by decide +kernel
theorem dX10_add_22 : decode cX10_add 22 = .ok (.bipush 10, 2) := by decide +kernel
theorem dX10_add_24 : decode cX10_add 24 = .ok (.if_icmp .ne 13, 3) := by decide +kernel
theorem dX10_add_27 : decode cX10_add 27 = .ok (.aload 7, 2) := by decide +kernel
theorem dX10_add_29 : decode cX10_add 29 = .ok (.aload_n 0, 1) := by decide +kernel
theorem dX10_add_30 : decode cX10_add 30 = .ok (.iload_n 3, 1) := by decide +kernel
theorem dX10_add_31 : decode cX10_add 31 = .ok (.invokevirtual 64, 3) := by decide +kernel
theorem dX10_add_34 : decode cX10_add 34 = .ok (.putfield 68, 3) := by decide +kernel
theorem dX10_add_37 : decode cX10_add 37 = .ok (.aload_n 0, 1) := by decide +kernel
theorem dX10_add_38 : decode cX10_add 38 = .ok (.iload_n 1, 1) := by decide +kernel
theorem dX10_add_39 : decode cX10_add 39 = .ok (.invokevirtual 64, 3) := by decide +kernel
theorem dX10_add_42 : decode cX10_add 42 = .ok (.astore 8, 2) := by decide +kernel
theorem dX10_add_44 : decode cX10_add 44 = .ok (.aload 8, 2) := by decide +kernel
theorem dX10_add_46 : decode cX10_add 46 = .ok (.ifnull 23, 3) := by decide +kernel
theorem dX10_add_49 : decode cX10_add 49 = .ok (.aload_n 0, 1) := by decide +kernel
theorem dX10_add_50 : decode cX10_add 50 = .ok (.getfield 72, 3) := by decide +kernel
theorem dX10_add_53 : decode cX10_add 53 = .ok (.sipush 2000, 3) := by decide +kernel
theorem dX10_add_56 : decode cX10_add 56 = .ok (.if_icmp .ge 13, 3) := by decide +kernel
theorem dX10_add_59 : decode cX10_add 59 = .ok (.aload 8, 2) := by decide +kernel
theorem dX10_add_61 : decode cX10_add 61 = .ok (.aload 7, 2) := by decide +kernel
theorem dX10_add_63 : decode cX10_add 63 = .ok (.invokevirtual 75, 3) := by decide +kernel
theorem dX10_add_66 : decode cX10_add 66 = .ok (.ifCond .ne 5, 3) := by decide +kernel
theorem dX10_add_69 : decode cX10_add 69 = .ok (.iconst (-1), 1) := by decide +kernel
theorem dX10_add_70 : decode cX10_add 70 = .ok (.ireturn, 1) := by decide +kernel
theorem dX10_add_71 : decode cX10_add 71 = .ok (.aload_n 0, 1) := by decide +kernel
theorem dX10_add_72 : decode cX10_add 72 = .ok (.dup, 1) := by decide +kernel
theorem dX10_add_73 : decode cX10_add 73 = .ok (.getfield 72, 3) := by decide +kernel
theorem dX10_add_76 : decode cX10_add 76 = .ok (.iconst 1, 1) := by decide +kernel
theorem dX10_add_77 : decode cX10_add 77 = .ok (.iadd, 1) := by decide +kernel
theorem dX10_add_78 : decode cX10_add 78 = .ok (.putfield 72, 3) := by decide +kernel
theorem dX10_add_81 : decode cX10_add 81 = .ok (.aload 8, 2) := by decide +kernel
theorem dX10_add_83 : decode cX10_add 83 = .ok (.aload 7, 2) := by decide +kernel
theorem dX10_add_85 : decode cX10_add 85 = .ok (.invokevirtual 79, 3) := by decide +kernel
theorem dX10_add_88 : decode cX10_add 88 = .ok (.ireturn, 1) := by decide +kernel
theorem dX10_begin_0 : decode cX10_begin 0 = .ok (.aload_n 0, 1) := by decide +kernel
theorem dX10_begin_1 : decode cX10_begin 1 = .ok (.invokevirtual 38, 3) := by decide +kernel
theorem dX10_begin_4 : decode cX10_begin 4 = .ok (.astore 4, 2) := by decide +kernel
theorem dX10_begin_6 : decode cX10_begin 6 = .ok (.aload_n 0, 1) := by decide +kernel
theorem dX10_begin_7 : decode cX10_begin 7 = .ok (.iload_n 1, 1) := by decide +kernel
theorem dX10_begin_8 : decode cX10_begin 8 = .ok (.invokevirtual 64, 3) := by decide +kernel
theorem dX10_begin_11 : decode cX10_begin 11 = .ok (.astore 5, 2) := by decide +kernel
theorem dX10_begin_13 : decode cX10_begin 13 = .ok (.aload 5, 2) := by decide +kernel
theorem dX10_begin_15 : decode cX10_begin 15 = .ok (.ifnull 37, 3) := by decide +kernel
theorem dX10_begin_18 : decode cX10_begin 18 = .ok (.aload 4, 2) := by decide +kernel
theorem dX10_begin_20 : decode cX10_begin 20 = .ok (.arraylength, 1) := by decide +kernel
theorem dX10_begin_21 : decode cX10_begin 21 = .ok (.aload 5, 2) := by decide +kernel
theorem dX10_begin_23 : decode cX10_begin 23 = .ok (.getfield 83, 3) := by decide +kernel
theorem dX10_begin_26 : decode cX10_begin 26 = .ok (.if_icmp .ne 26, 3) := by decide +kernel
theorem dX10_begin_29 : decode cX10_begin 29 = .ok (.iload_n 2, 1) := by decide +kernel
theorem dX10_begin_30 : decode cX10_begin 30 = .ok (.invokestatic 86, 3) := by decide +kernel
theorem dX10_begin_33 : decode cX10_begin 33 = .ok (.ifCond .eq 19, 3) := by decide +kernel
theorem dX10_begin_36 : decode cX10_begin 36 = .ok (.iload_n 3, 1) := by decide +kernel
theorem dX10_begin_37 : decode cX10_begin 37 = .ok (.invokestatic 86, 3) := by decide +kernel
theorem dX10_begin_40 : decode cX10_begin 40 = .ok (.ifCond .eq 12, 3) := by decide +kernel
theorem dX10_begin_43 : decode cX10_begin 43 = .ok (.aload 5, 2) := by decide +kernel
theorem dX10_begin_45 : decode cX10_begin 45 = .ok (.invokevirtual 90, 3) := by decide +kernel
theorem dX10_begin_48 : decode cX10_begin 48 = .ok (.iload_n 2, 1) := by decide +kernel
theorem dX10_begin_49 : decode cX10_begin 49 = .ok (.if_icmp .le 5, 3) := by decide +kernel
theorem dX10_begin_52 : decode cX10_begin 52 = .ok (.iconst 0, 1) := by decide +kernel
theorem dX10_begin_53 : decode cX10_begin 53 = .ok (.ireturn, 1) := by decide +kernel
theorem dX10_begin_54 : decode cX10_begin 54 = .ok (.aload_n 0, 1) := by decide +kernel
theorem dX10_begin_55 : decode cX10_begin 55 = .ok (.getfield 23, 3) := by decide +kernel
theorem dX10_begin_58 : decode cX10_begin 58 = .ok (.aload 5, 2) := by decide +kernel
theorem dX10_begin_60 : decode cX10_begin 60 = .ok (.aload 4, 2) := by decide +kernel
theorem dX10_begin_62 : decode cX10_begin 62 = .ok (.iload_n 2, 1) := by decide +kernel
theorem dX10_begin_63 : decode cX10_begin 63 = .ok (.iload_n 3, 1) := by decide +kernel
theorem dX10_begin_64 : decode cX10_begin 64 = .ok (.invokevirtual 93, 3) := by decide +kernel
theorem dX10_begin_67 : decode cX10_begin 67 = .ok (.iconst 1, 1) := by decide +kernel
theorem dX10_begin_68 : decode cX10_begin 68 = .ok (.ireturn, 1) := by decide +kernel
theorem dX10_run_0 : decode cX10_run 0 = .ok (.aload_n 0, 1) := by decide +kernel
theorem dX10_run_1 : decode cX10_run 1 = .ok (.getfield 23, 3) := by decide +kernel
theorem dX10_run_4 : decode cX10_run 4 = .ok (.iload_n 1, 1) := by decide +kernel
theorem dX10_run_5 : decode cX10_run 5 = .ok (.invokevirtual 97, 3) := by decide +kernel
theorem dX10_run_8 : decode cX10_run 8 = .ok (.ireturn, 1) := by decide +kernel
theorem dX10_told_0 : decode cX10_told 0 = .ok (.aload_n 0, 1) := by decide +kernel
theorem dX10_told_1 : decode cX10_told 1 = .ok (.getfield 23, 3) := by decide +kernel
theorem dX10_told_4 : decode cX10_told 4 = .ok (.iload_n 1, 1) := by decide +kernel
theorem dX10_told_5 : decode cX10_told 5 = .ok (.invokevirtual 101, 3) := by decide +kernel
theorem dX10_told_8 : decode cX10_told 8 = .ok (.ireturn, 1) := by decide +kernel
theorem dX10_tell_0 : decode cX10_tell 0 = .ok (.aload_n 0, 1) := by decide +kernel
theorem dX10_tell_1 : decode cX10_tell 1 = .ok (.getfield 23, 3) := by decide +kernel
theorem dX10_tell_4 : decode cX10_tell 4 = .ok (.iload_n 1, 1) := by decide +kernel
theorem dX10_tell_5 : decode cX10_tell 5 = .ok (.invokevirtual 104, 3) := by decide +kernel
theorem dX10_tell_8 : decode cX10_tell 8 = .ok (.ifCond .ne 13, 3) := by decide +kernel
theorem dX10_tell_11 : decode cX10_tell 11 = .ok (.new 107, 3) := by decide +kernel
theorem dX10_tell_14 : decode cX10_tell 14 = .ok (.dup, 1) := by decide +kernel
theorem dX10_tell_15 : decode cX10_tell 15 = .ok (.ldc 109, 2) := by decide +kernel
theorem dX10_tell_17 : decode cX10_tell 17 = .ok (.invokespecial 111, 3) := by decide +kernel
theorem dX10_tell_20 : decode cX10_tell 20 = .ok (.athrow, 1) := by decide +kernel
theorem dX10_tell_21 : decode cX10_tell 21 = .ok (.aload_n 0, 1) := by decide +kernel
theorem dX10_tell_22 : decode cX10_tell 22 = .ok (.getfield 30, 3) := by decide +kernel
theorem dX10_tell_25 : decode cX10_tell 25 = .ok (.aload_n 0, 1) := by decide +kernel
theorem dX10_tell_26 : decode cX10_tell 26 = .ok (.getfield 23, 3) := by decide +kernel
theorem dX10_tell_29 : decode cX10_tell 29 = .ok (.iload_n 1, 1) := by decide +kernel
theorem dX10_tell_30 : decode cX10_tell 30 = .ok (.invokevirtual 114, 3) := by decide +kernel
theorem dX10_tell_33 : decode cX10_tell 33 = .ok (.aload_n 0, 1) := by decide +kernel
theorem dX10_tell_34 : decode cX10_tell 34 = .ok (.getfield 23, 3) := by decide +kernel
theorem dX10_tell_37 : decode cX10_tell 37 = .ok (.getfield 118, 3) := by decide +kernel
theorem dX10_tell_40 : decode cX10_tell 40 = .ok (.invokevirtual 122, 3) := by decide +kernel
theorem dX10_tell_43 : decode cX10_tell 43 = .ok (.ireturn, 1) := by decide +kernel
theorem dX10_letter_0 : decode cX10_letter 0 = .ok (.aload_n 0, 1) := by decide +kernel
theorem dX10_letter_1 : decode cX10_letter 1 = .ok (.getfield 30, 3) := by decide +kernel
theorem dX10_letter_4 : decode cX10_letter 4 = .ok (.iload_n 1, 1) := by decide +kernel
theorem dX10_letter_5 : decode cX10_letter 5 = .ok (.invokevirtual 126, 3) := by decide +kernel
theorem dX10_letter_8 : decode cX10_letter 8 = .ok (.ireturn, 1) := by decide +kernel
theorem dX10_slot_0 : decode cX10_slot 0 = .ok (.aload_n 0, 1) := by decide +kernel
theorem dX10_slot_1 : decode cX10_slot 1 = .ok (.getfield 23, 3) := by decide +kernel
theorem dX10_slot_4 : decode cX10_slot 4 = .ok (.iload_n 1, 1) := by decide +kernel
theorem dX10_slot_5 : decode cX10_slot 5 = .ok (.invokevirtual 129, 3) := by decide +kernel
theorem dX10_slot_8 : decode cX10_slot 8 = .ok (.lreturn, 1) := by decide +kernel
theorem dX10_takeRow_0 : decode cX10_takeRow 0 = .ok (.aload_n 0, 1) := by decide +kernel
theorem dX10_takeRow_1 : decode cX10_takeRow 1 = .ok (.getfield 9, 3) := by decide +kernel
theorem dX10_takeRow_4 : decode cX10_takeRow 4 = .ok (.aload_n 0, 1) := by decide +kernel
theorem dX10_takeRow_5 : decode cX10_takeRow 5 = .ok (.getfield 34, 3) := by decide +kernel
theorem dX10_takeRow_8 : decode cX10_takeRow 8 = .ok (.iconst 0, 1) := by decide +kernel
theorem dX10_takeRow_9 : decode cX10_takeRow 9 = .ok (.invokestatic 132, 3) := by decide +kernel
theorem dX10_takeRow_12 : decode cX10_takeRow 12 = .ok (.invokestatic 138, 3) := by decide +kernel
theorem dX10_takeRow_15 : decode cX10_takeRow 15 = .ok (.astore_n 1, 1) := by decide +kernel
theorem dX10_takeRow_16 : decode cX10_takeRow 16 = .ok (.aload_n 0, 1) := by decide +kernel
theorem dX10_takeRow_17 : decode cX10_takeRow 17 = .ok (.iconst 0, 1) := by decide +kernel
theorem dX10_takeRow_18 : decode cX10_takeRow 18 = .ok (.putfield 34, 3) := by decide +kernel
theorem dX10_takeRow_21 : decode cX10_takeRow 21 = .ok (.aload_n 1, 1) := by decide +kernel
theorem dX10_takeRow_22 : decode cX10_takeRow 22 = .ok (.areturn, 1) := by decide +kernel
theorem dX10_procedureAt_0 : decode cX10_procedureAt 0 = .ok (.iload_n 1, 1) := by decide +kernel
theorem dX10_procedureAt_1 : decode cX10_procedureAt 1 = .ok (.aload_n 0, 1) := by decide +kernel
theorem dX10_procedureAt_2 : decode cX10_procedureAt 2 = .ok (.getfield 16, 3) := by decide +kernel
theorem dX10_procedureAt_5 : decode cX10_procedureAt 5 = .ok (.invokevirtual 42, 3) := by decide +kernel
theorem dX10_procedureAt_8 : decode cX10_procedureAt 8 = .ok (.invokestatic 144, 3) := by decide +kernel
theorem dX10_procedureAt_11 : decode cX10_procedureAt 11 = .ok (.ifCond .eq 17, 3) := by decide +kernel
theorem dX10_procedureAt_14 : decode cX10_procedureAt 14 = .ok (.aload_n 0, 1) := by decide +kernel
theorem dX10_procedureAt_15 : decode cX10_procedureAt 15 = .ok (.getfield 16, 3) := by decide +kernel
theorem dX10_procedureAt_18 : decode cX10_procedureAt 18 = .ok (.iload_n 1, 1) := by decide +kernel
theorem dX10_procedureAt_19 : decode cX10_procedureAt 19 = .ok (.invokevirtual 148, 3) := by decide +kernel
theorem dX10_procedureAt_22 : decode cX10_procedureAt 22 = .ok (.checkcast 47, 3) := by decide +kernel
theorem dX10_procedureAt_25 : decode cX10_procedureAt 25 = .ok (.goto 4, 3) := by decide +kernel
theorem dX10_procedureAt_28 : decode cX10_procedureAt 28 = .ok (.aconst_null, 1) := by decide +kernel
theorem dX10_procedureAt_29 : decode cX10_procedureAt 29 = .ok (.areturn, 1) := by decide +kernel
theorem dX10_within_0 : decode cX10_within 0 = .ok (.iload_n 0, 1) := by decide +kernel
theorem dX10_within_1 : decode cX10_within 1 = .ok (.ifCond .lt 12, 3) := by decide +kernel
theorem dX10_within_4 : decode cX10_within 4 = .ok (.iload_n 0, 1) := by decide +kernel
theorem dX10_within_5 : decode cX10_within 5 = .ok (.iload_n 1, 1) := by decide +kernel
theorem dX10_within_6 : decode cX10_within 6 = .ok (.if_icmp .ge 7, 3) := by decide +kernel
theorem dX10_within_9 : decode cX10_within 9 = .ok (.iconst 1, 1) := by decide +kernel
theorem dX10_within_10 : decode cX10_within 10 = .ok (.goto 4, 3) := by decide +kernel
theorem dX10_within_13 : decode cX10_within 13 = .ok (.iconst 0, 1) := by decide +kernel
theorem dX10_within_14 : decode cX10_within 14 = .ok (.ireturn, 1) := by decide +kernel
theorem dX10_isLimit_0 : decode cX10_isLimit 0 = .ok (.iload_n 0, 1) := by decide +kernel
theorem dX10_isLimit_1 : decode cX10_isLimit 1 = .ok (.ifCond .lt 14, 3) := by decide +kernel
theorem dX10_isLimit_4 : decode cX10_isLimit 4 = .ok (.iload_n 0, 1) := by decide +kernel
theorem dX10_isLimit_5 : decode cX10_isLimit 5 = .ok (.sipush 20000, 3) := by decide +kernel
theorem dX10_isLimit_8 : decode cX10_isLimit 8 = .ok (.if_icmp .gt 7, 3) := by decide +kernel
theorem dX10_isLimit_11 : decode cX10_isLimit 11 = .ok (.iconst 1, 1) := by decide +kernel
theorem dX10_isLimit_12 : decode cX10_isLimit 12 = .ok (.goto 4, 3) := by decide +kernel
theorem dX10_isLimit_15 : decode cX10_isLimit 15 = .ok (.iconst 0, 1) := by decide +kernel
theorem dX10_isLimit_16 : decode cX10_isLimit 16 = .ok (.ireturn, 1) := by decide +kernel
theorem dX11_init_0 : decode cX11_init 0 = .ok (.aload_n 0, 1) := by decide +kernel
theorem dX11_init_1 : decode cX11_init 1 = .ok (.invokespecial 1, 3) := by decide +kernel
theorem dX11_init_4 : decode cX11_init 4 = .ok (.aload_n 0, 1) := by decide +kernel
theorem dX11_init_5 : decode cX11_init 5 = .ok (.bipush 10, 2) := by decide +kernel
theorem dX11_init_7 : decode cX11_init 7 = .ok (.newarray .int, 2) := by decide +kernel
theorem dX11_init_9 : decode cX11_init 9 = .ok (.putfield 7, 3) := by decide +kernel
theorem dX11_init_12 : decode cX11_init 12 = .ok (.aload_n 0, 1) := by decide +kernel
theorem dX11_init_13 : decode cX11_init 13 = .ok (.bipush 60, 2) := by decide +kernel
theorem dX11_init_15 : decode cX11_init 15 = .ok (.newarray .boolean, 2) := by decide +kernel
theorem dX11_init_17 : decode cX11_init 17 = .ok (.putfield 13, 3) := by decide +kernel
theorem dX11_init_20 : decode cX11_init 20 = .ok (.aload_n 0, 1) := by decide +kernel
theorem dX11_init_21 : decode cX11_init 21 = .ok (.bipush 60, 2) := by decide +kernel
theorem dX11_init_23 : decode cX11_init 23 = .ok (.newarray .int, 2) := by decide +kernel
theorem dX11_init_25 : decode cX11_init 25 = .ok (.putfield 17, 3) := by decide +kernel
theorem dX11_init_28 : decode cX11_init 28 = .ok (.aload_n 0, 1) := by decide +kernel
theorem dX11_init_29 : decode cX11_init 29 = .ok (.bipush 60, 2) := by decide +kernel
theorem dX11_init_31 : decode cX11_init 31 = .ok (.newarray .int, 2) := by decide +kernel
theorem dX11_init_33 : decode cX11_init 33 = .ok (.putfield 20, 3) := by decide +kernel
theorem dX11_init_36 : decode cX11_init 36 = .ok (.aload_n 0, 1) := by decide +kernel
theorem dX11_init_37 : decode cX11_init 37 = .ok (.bipush 60, 2) := by decide +kernel
theorem dX11_init_39 : decode cX11_init 39 = .ok (.newarray .int, 2) := by decide +kernel
theorem dX11_init_41 : decode cX11_init 41 = .ok (.putfield 23, 3) := by decide +kernel
theorem dX11_init_44 : decode cX11_init 44 = .ok (.aload_n 0, 1) := by decide +kernel
theorem dX11_init_45 : decode cX11_init 45 = .ok (.sipush 480, 3) := by decide +kernel
theorem dX11_init_48 : decode cX11_init 48 = .ok (.newarray .int, 2) := by decide +kernel
theorem dX11_init_50 : decode cX11_init 50 = .ok (.putfield 26, 3) := by decide +kernel
theorem dX11_init_53 : decode cX11_init 53 = .ok (.aload_n 0, 1) := by decide +kernel
theorem dX11_init_54 : decode cX11_init 54 = .ok (.bipush 60, 2) := by decide +kernel
theorem dX11_init_56 : decode cX11_init 56 = .ok (.newarray .int, 2) := by decide +kernel
theorem dX11_init_58 : decode cX11_init 58 = .ok (.putfield 29, 3) := by decide +kernel
theorem dX11_init_61 : decode cX11_init 61 = .ok (.aload_n 0, 1) := by decide +kernel
theorem dX11_init_62 : decode cX11_init 62 = .ok (.ldc 32, 2) := by decide +kernel
theorem dX11_init_64 : decode cX11_init 64 = .ok (.newarray .int, 2) := by decide +kernel
theorem dX11_init_66 : decode cX11_init 66 = .ok (.putfield 33, 3) := by decide +kernel
theorem dX11_init_69 : decode cX11_init 69 = .ok (.aload_n 0, 1) := by decide +kernel
theorem dX11_init_70 : decode cX11_init 70 = .ok (.sipush 2000, 3) := by decide +kernel
theorem dX11_init_73 : decode cX11_init 73 = .ok (.newarray .int, 2) := by decide +kernel
theorem dX11_init_75 : decode cX11_init 75 = .ok (.putfield 36, 3) := by decide +kernel
theorem dX11_init_78 : decode cX11_init 78 = .ok (.aload_n 0, 1) := by decide +kernel
theorem dX11_init_79 : decode cX11_init 79 = .ok (.sipush 2000, 3) := by decide +kernel
theorem dX11_init_82 : decode cX11_init 82 = .ok (.newarray .int, 2) := by decide +kernel
theorem dX11_init_84 : decode cX11_init 84 = .ok (.putfield 39, 3) := by decide +kernel
theorem dX11_init_87 : decode cX11_init 87 = .ok (.aload_n 0, 1) := by decide +kernel
theorem dX11_init_88 : decode cX11_init 88 = .ok (.sipush 2000, 3) := by decide +kernel
theorem dX11_init_91 : decode cX11_init 91 = .ok (.newarray .int, 2) := by decide +kernel
theorem dX11_init_93 : decode cX11_init 93 = .ok (.putfield 42, 3) := by decide +kernel
theorem dX11_init_96 : decode cX11_init 96 = .ok (.aload_n 0, 1) := by decide +kernel
theorem dX11_init_97 : decode cX11_init 97 = .ok (.sipush 2000, 3) := by decide +kernel
theorem dX11_init_100 : decode cX11_init 100 = .ok (.newarray .int, 2) := by decide +kernel
theorem dX11_init_102 : decode cX11_init 102 = .ok (.putfield 45, 3) := by decide +kernel
theorem dX11_init_105 : decode cX11_init 105 = .ok (.aload_n 0, 1) := by decide +kernel
theorem dX11_init_106 : decode cX11_init 106 = .ok (.sipush 2000, 3) := by decide +kernel
theorem dX11_init_109 : decode cX11_init 109 = .ok (.newarray .int, 2) := by decide +kernel
theorem dX11_init_111 : decode cX11_init 111 = .ok (.putfield 48, 3) := by decide +kernel
theorem dX11_init_114 : decode cX11_init 114 = .ok (.aload_n 0, 1) := by decide +kernel
theorem dX11_init_115 : decode cX11_init 115 = .ok (.sipush 2000, 3) := by decide +kernel
theorem dX11_init_118 : decode cX11_init 118 = .ok (.newarray .int, 2) := by decide +kernel
theorem dX11_init_120 : decode cX11_init 120 = .ok (.putfield 51, 3) := by decide +kernel
theorem dX11_init_123 : decode cX11_init 123 = .ok (.aload_n 0, 1) := by decide +kernel
theorem dX11_init_124 : decode cX11_init 124 = .ok (.sipush 20000, 3) := by decide +kernel
theorem dX11_init_127 : decode cX11_init 127 = .ok (.newarray .int, 2) := by decide +kernel
theorem dX11_init_129 : decode cX11_init 129 = .ok (.putfield 54, 3) := by decide +kernel
theorem dX11_init_132 : decode cX11_init 132 = .ok (.aload_n 0, 1) := by decide +kernel
theorem dX11_init_133 : decode cX11_init 133 = .ok (.sipush 20100, 3) := by decide +kernel
theorem dX11_init_136 : decode cX11_init 136 = .ok (.newarray .int, 2) := by decide +kernel
theorem dX11_init_138 : decode cX11_init 138 = .ok (.putfield 57, 3) := by decide +kernel
theorem dX11_init_141 : decode cX11_init 141 = .ok (.aload_n 0, 1) := by decide +kernel
theorem dX11_init_142 : decode cX11_init 142 = .ok (.sipush 20100, 3) := by decide +kernel
theorem dX11_init_145 : decode cX11_init 145 = .ok (.newarray .int, 2) := by decide +kernel
theorem dX11_init_147 : decode cX11_init 147 = .ok (.putfield 60, 3) := by decide +kernel
theorem dX11_init_150 : decode cX11_init 150 = .ok (.aload_n 0, 1) := by decide +kernel
theorem dX11_init_151 : decode cX11_init 151 = .ok (.sipush 20100, 3) := by decide +kernel
theorem dX11_init_154 : decode cX11_init 154 = .ok (.newarray .int, 2) := by decide +kernel
theorem dX11_init_156 : decode cX11_init 156 = .ok (.putfield 63, 3) := by decide +kernel
theorem dX11_init_159 : decode cX11_init 159 = .ok (.aload_n 0, 1) := by decide +kernel
theorem dX11_init_160 : decode cX11_init 160 = .ok (.sipush 20100, 3) := by decide +kernel
theorem dX11_init_163 : decode cX11_init 163 = .ok (.newarray .long, 2) := by decide +kernel
theorem dX11_init_165 : decode cX11_init 165 = .ok (.putfield 66, 3) := by decide +kernel
theorem dX11_init_168 : decode cX11_init 168 = .ok (.aload_n 0, 1) := by decide +kernel
theorem dX11_init_169 : decode cX11_init 169 = .ok (.sipush 7000, 3) := by decide +kernel
theorem dX11_init_172 : decode cX11_init 172 = .ok (.newarray .boolean, 2) := by decide +kernel
theorem dX11_init_174 : decode cX11_init 174 = .ok (.putfield 70, 3) := by decide +kernel
theorem dX11_init_177 : decode cX11_init 177 = .ok (.aload_n 0, 1) := by decide +kernel
theorem dX11_init_178 : decode cX11_init 178 = .ok (.sipush 7000, 3) := by decide +kernel
theorem dX11_init_181 : decode cX11_init 181 = .ok (.newarray .int, 2) := by decide +kernel
theorem dX11_init_183 : decode cX11_init 183 = .ok (.putfield 73, 3) := by decide +kernel
theorem dX11_init_186 : decode cX11_init 186 = .ok (.aload_n 0, 1) := by decide +kernel
theorem dX11_init_187 : decode cX11_init 187 = .ok (.sipush 7000, 3) := by decide +kernel
theorem dX11_init_190 : decode cX11_init 190 = .ok (.newarray .int, 2) := by decide +kernel
theorem dX11_init_192 : decode cX11_init 192 = .ok (.putfield 76, 3) := by decide +kernel
theorem dX11_init_195 : decode cX11_init 195 = .ok (.aload_n 0, 1) := by decide +kernel
theorem dX11_init_196 : decode cX11_init 196 = .ok (.sipush 7000, 3) := by decide +kernel
theorem dX11_init_199 : decode cX11_init 199 = .ok (.newarray .int, 2) := by decide +kernel
theorem dX11_init_201 : decode cX11_init 201 = .ok (.putfield 79, 3) := by decide +kernel
theorem dX11_init_204 : decode cX11_init 204 = .ok (.aload_n 0, 1) := by decide +kernel
theorem dX11_init_205 : decode cX11_init 205 = .ok (.sipush 7000, 3) := by decide +kernel
theorem dX11_init_208 : decode cX11_init 208 = .ok (.newarray .int, 2) := by decide +kernel
theorem dX11_init_210 : decode cX11_init 210 = .ok (.putfield 82, 3) := by decide +kernel
theorem dX11_init_213 : decode cX11_init 213 = .ok (.aload_n 0, 1) := by decide +kernel
theorem dX11_init_214 : decode cX11_init 214 = .ok (.sipush 7000, 3) := by decide +kernel
theorem dX11_init_217 : decode cX11_init 217 = .ok (.newarray .int, 2) := by decide +kernel
theorem dX11_init_219 : decode cX11_init 219 = .ok (.putfield 85, 3) := by decide +kernel
theorem dX11_init_222 : decode cX11_init 222 = .ok (.aload_n 0, 1) := by decide +kernel
theorem dX11_init_223 : decode cX11_init 223 = .ok (.sipush 7000, 3) := by decide +kernel
theorem dX11_init_226 : decode cX11_init 226 = .ok (.newarray .int, 2) := by decide +kernel
theorem dX11_init_228 : decode cX11_init 228 = .ok (.putfield 88, 3) := by decide +kernel
theorem dX11_init_231 : decode cX11_init 231 = .ok (.aload_n 0, 1) := by decide +kernel
theorem dX11_init_232 : decode cX11_init 232 = .ok (.sipush 7000, 3) := by decide +kernel
theorem dX11_init_235 : decode cX11_init 235 = .ok (.newarray .boolean, 2) := by decide +kernel
theorem dX11_init_237 : decode cX11_init 237 = .ok (.putfield 91, 3) := by decide +kernel
theorem dX11_init_240 : decode cX11_init 240 = .ok (.aload_n 0, 1) := by decide +kernel
theorem dX11_init_241 : decode cX11_init 241 = .ok (.sipush 7000, 3) := by decide +kernel
theorem dX11_init_244 : decode cX11_init 244 = .ok (.newarray .int, 2) := by decide +kernel
theorem dX11_init_246 : decode cX11_init 246 = .ok (.putfield 94, 3) := by decide +kernel
theorem dX11_init_249 : decode cX11_init 249 = .ok (.aload_n 0, 1) := by decide +kernel
theorem dX11_init_250 : decode cX11_init 250 = .ok (.sipush 7000, 3) := by decide +kernel
theorem dX11_init_253 : decode cX11_init 253 = .ok (.newarray .int, 2) := by decide +kernel
theorem dX11_init_255 : decode cX11_init 255 = .ok (.putfield 97, 3) := by decide +kernel
theorem dX11_init_258 : decode cX11_init 258 = .ok (.aload_n 0, 1) := by decide +kernel
theorem dX11_init_259 : decode cX11_init 259 = .ok (.sipush 7000, 3) := by decide +kernel
theorem dX11_init_262 : decode cX11_init 262 = .ok (.newarray .int, 2) := by decide +kernel
theorem dX11_init_264 : decode cX11_init 264 = .ok (.putfield 100, 3) := by decide +kernel
theorem dX11_init_267 : decode cX11_init 267 = .ok (.aload_n 0, 1) := by decide +kernel
theorem dX11_init_268 : decode cX11_init 268 = .ok (.sipush 7000, 3) := by decide +kernel
theorem dX11_init_271 : decode cX11_init 271 = .ok (.newarray .int, 2) := by decide +kernel
theorem dX11_init_273 : decode cX11_init 273 = .ok (.putfield 103, 3) := by decide +kernel
theorem dX11_init_276 : decode cX11_init 276 = .ok (.aload_n 0, 1) := by decide +kernel
theorem dX11_init_277 : decode cX11_init 277 = .ok (.sipush 20100, 3) := by decide +kernel
theorem dX11_init_280 : decode cX11_init 280 = .ok (.newarray .long, 2) := by decide +kernel
theorem dX11_init_282 : decode cX11_init 282 = .ok (.putfield 106, 3) := by decide +kernel
theorem dX11_init_285 : decode cX11_init 285 = .ok (.aload_n 0, 1) := by decide +kernel
theorem dX11_init_286 : decode cX11_init 286 = .ok (.ldc 109, 2) := by decide +kernel
theorem dX11_init_288 : decode cX11_init 288 = .ok (.newarray .int, 2) := by decide +kernel
theorem dX11_init_290 : decode cX11_init 290 = .ok (.putfield 110, 3) := by decide +kernel
theorem dX11_init_293 : decode cX11_init 293 = .ok (.aload_n 0, 1) := by decide +kernel
theorem dX11_init_294 : decode cX11_init 294 = .ok (.ldc 109, 2) := by decide +kernel
theorem dX11_init_296 : decode cX11_init 296 = .ok (.newarray .long, 2) := by decide +kernel
theorem dX11_init_298 : decode cX11_init 298 = .ok (.putfield 113, 3) := by decide +kernel
theorem dX11_init_301 : decode cX11_init 301 = .ok (.aload_n 0, 1) := by decide +kernel
theorem dX11_init_302 : decode cX11_init 302 = .ok (.iconst (-1), 1) := by decide +kernel
theorem dX11_init_303 : decode cX11_init 303 = .ok (.putfield 116, 3) := by decide +kernel
theorem dX11_init_306 : decode cX11_init 306 = .ok (.aload_n 0, 1) := by decide +kernel
theorem dX11_init_307 : decode cX11_init 307 = .ok (.sipush 1000, 3) := by decide +kernel
theorem dX11_init_310 : decode cX11_init 310 = .ok (.newarray .int, 2) := by decide +kernel
theorem dX11_init_312 : decode cX11_init 312 = .ok (.putfield 120, 3) := by decide +kernel
theorem dX11_init_315 : decode cX11_init 315 = .ok (.aload_n 0, 1) := by decide +kernel
theorem dX11_init_316 : decode cX11_init 316 = .ok (.sipush 20100, 3) := by decide +kernel
theorem dX11_init_319 : decode cX11_init 319 = .ok (.newarray .long, 2) := by decide +kernel
theorem dX11_init_321 : decode cX11_init 321 = .ok (.putfield 123, 3) := by decide +kernel
theorem dX11_init_324 : decode cX11_init 324 = .ok (.aload_n 0, 1) := by decide +kernel
theorem dX11_init_325 : decode cX11_init 325 = .ok (.sipush 20100, 3) := by decide +kernel
theorem dX11_init_328 : decode cX11_init 328 = .ok (.newarray .long, 2) := by decide +kernel
theorem dX11_init_330 : decode cX11_init 330 = .ok (.putfield 126, 3) := by decide +kernel
theorem dX11_init_333 : decode cX11_init 333 = .ok (.aload_n 0, 1) := by decide +kernel
theorem dX11_init_334 : decode cX11_init 334 = .ok (.sipush 7000, 3) := by decide +kernel
theorem dX11_init_337 : decode cX11_init 337 = .ok (.newarray .int, 2) := by decide +kernel
theorem dX11_init_339 : decode cX11_init 339 = .ok (.putfield 129, 3) := by decide +kernel
theorem dX11_init_342 : decode cX11_init 342 = .ok (.return_, 1) := by decide +kernel
theorem dX11_thrown_0 : decode cX11_thrown 0 = .ok (.aload_n 0, 1) := by decide +kernel
theorem dX11_thrown_1 : decode cX11_thrown 1 = .ok (.getfield 132, 3) := by decide +kernel
theorem dX11_thrown_4 : decode cX11_thrown 4 = .ok (.ireturn, 1) := by decide +kernel
theorem dX11_put_0 : decode cX11_put 0 = .ok (.aload_n 0, 1) := by decide +kernel
theorem dX11_put_1 : decode cX11_put 1 = .ok (.iconst 0, 1) := by decide +kernel
theorem dX11_put_2 : decode cX11_put 2 = .ok (.putfield 132, 3) := by decide +kernel
theorem dX11_put_5 : decode cX11_put 5 = .ok (.aload_n 0, 1) := by decide +kernel
theorem dX11_put_6 : decode cX11_put 6 = .ok (.getfield 135, 3) := by decide +kernel
theorem dX11_put_9 : decode cX11_put 9 = .ok (.bipush 10, 2) := by decide +kernel
theorem dX11_put_11 : decode cX11_put 11 = .ok (.if_icmp .ne 5, 3) := by decide +kernel
theorem dX11_put_14 : decode cX11_put 14 = .ok (.iconst 0, 1) := by decide +kernel
theorem dX11_put_15 : decode cX11_put 15 = .ok (.ireturn, 1) := by decide +kernel
theorem dX11_put_16 : decode cX11_put 16 = .ok (.aload_n 0, 1) := by decide +kernel
theorem dX11_put_17 : decode cX11_put 17 = .ok (.getfield 7, 3) := by decide +kernel
theorem dX11_put_20 : decode cX11_put 20 = .ok (.aload_n 0, 1) := by decide +kernel
theorem dX11_put_21 : decode cX11_put 21 = .ok (.getfield 135, 3) := by decide +kernel
theorem dX11_put_24 : decode cX11_put 24 = .ok (.iload_n 1, 1) := by decide +kernel
theorem dX11_put_25 : decode cX11_put 25 = .ok (.iastore, 1) := by decide +kernel
theorem dX11_put_26 : decode cX11_put 26 = .ok (.aload_n 0, 1) := by decide +kernel
theorem dX11_put_27 : decode cX11_put 27 = .ok (.dup, 1) := by decide +kernel
theorem dX11_put_28 : decode cX11_put 28 = .ok (.getfield 135, 3) := by decide +kernel
theorem dX11_put_31 : decode cX11_put 31 = .ok (.iconst 1, 1) := by decide +kernel
theorem dX11_put_32 : decode cX11_put 32 = .ok (.iadd, 1) := by decide +kernel
theorem dX11_put_33 : decode cX11_put 33 = .ok (.putfield 135, 3) := by decide +kernel
theorem dX11_put_36 : decode cX11_put 36 = .ok (.iconst 1, 1) := by decide +kernel
theorem dX11_put_37 : decode cX11_put 37 = .ok (.ireturn, 1) := by decide +kernel
theorem dX11_taken_0 : decode cX11_taken 0 = .ok (.aload_n 0, 1) := by decide +kernel
theorem dX11_taken_1 : decode cX11_taken 1 = .ok (.getfield 135, 3) := by decide +kernel
theorem dX11_taken_4 : decode cX11_taken 4 = .ok (.istore_n 1, 1) := by decide +kernel
theorem dX11_taken_5 : decode cX11_taken 5 = .ok (.aload_n 0, 1) := by decide +kernel
theorem dX11_taken_6 : decode cX11_taken 6 = .ok (.iconst 0, 1) := by decide +kernel
theorem dX11_taken_7 : decode cX11_taken 7 = .ok (.putfield 135, 3) := by decide +kernel
theorem dX11_taken_10 : decode cX11_taken 10 = .ok (.iload_n 1, 1) := by decide +kernel
theorem dX11_taken_11 : decode cX11_taken 11 = .ok (.ireturn, 1) := by decide +kernel
theorem dX11_isWithin_0 : decode cX11_isWithin 0 = .ok (.iload_n 0, 1) := by decide +kernel
theorem dX11_isWithin_1 : decode cX11_isWithin 1 = .ok (.iload_n 1, 1) := by decide +kernel
theorem dX11_isWithin_2 : decode cX11_isWithin 2 = .ok (.if_icmp .lt 12, 3) := by decide +kernel
theorem dX11_isWithin_5 : decode cX11_isWithin 5 = .ok (.iload_n 0, 1) := by decide +kernel
theorem dX11_isWithin_6 : decode cX11_isWithin 6 = .ok (.iload_n 2, 1) := by decide +kernel
theorem dX11_isWithin_7 : decode cX11_isWithin 7 = .ok (.if_icmp .gt 7, 3) := by decide +kernel
theorem dX11_isWithin_10 : decode cX11_isWithin 10 = .ok (.iconst 1, 1) := by decide +kernel
theorem dX11_isWithin_11 : decode cX11_isWithin 11 = .ok (.goto 4, 3) := by decide +kernel
theorem dX11_isWithin_14 : decode cX11_isWithin 14 = .ok (.iconst 0, 1) := by decide +kernel
theorem dX11_isWithin_15 : decode cX11_isWithin 15 = .ok (.ireturn, 1) := by decide +kernel
theorem dX11_areSlots_0 : decode cX11_areSlots 0 = .ok (.iconst 0, 1) := by decide +kernel
theorem dX11_areSlots_1 : decode cX11_areSlots 1 = .ok (.istore_n 3, 1) := by decide +kernel
theorem dX11_areSlots_2 : decode cX11_areSlots 2 = .ok (.iload_n 3, 1) := by decide +kernel
theorem dX11_areSlots_3 : decode cX11_areSlots 3 = .ok (.iload_n 1, 1) := by decide +kernel
theorem dX11_areSlots_4 : decode cX11_areSlots 4 = .ok (.if_icmp .ge 27, 3) := by decide +kernel
theorem dX11_areSlots_7 : decode cX11_areSlots 7 = .ok (.aload_n 0, 1) := by decide +kernel
theorem dX11_areSlots_8 : decode cX11_areSlots 8 = .ok (.getfield 7, 3) := by decide +kernel
theorem dX11_areSlots_11 : decode cX11_areSlots 11 = .ok (.iload_n 3, 1) := by decide +kernel
theorem dX11_areSlots_12 : decode cX11_areSlots 12 = .ok (.iaload, 1) := by decide +kernel
theorem dX11_areSlots_13 : decode cX11_areSlots 13 = .ok (.iconst 0, 1) := by decide +kernel
theorem dX11_areSlots_14 : decode cX11_areSlots 14 = .ok (.iload_n 2, 1) := by decide +kernel
theorem dX11_areSlots_15 : decode cX11_areSlots 15 = .ok (.iconst 1, 1) := by decide +kernel
theorem dX11_areSlots_16 : decode cX11_areSlots 16 = .ok (.isub, 1) := by decide +kernel
theorem dX11_areSlots_17 : decode cX11_areSlots 17 = .ok (.invokestatic 138, 3) := by decide +kernel
theorem dX11_areSlots_20 : decode cX11_areSlots 20 = .ok (.ifCond .ne 5, 3) := by decide +kernel
theorem dX11_areSlots_23 : decode cX11_areSlots 23 = .ok (.iconst 0, 1) := by decide +kernel
theorem dX11_areSlots_24 : decode cX11_areSlots 24 = .ok (.ireturn, 1) := by decide +kernel
theorem dX11_areSlots_25 : decode cX11_areSlots 25 = .ok (.iinc 3 1, 3) := by decide +kernel
theorem dX11_areSlots_28 : decode cX11_areSlots 28 = .ok (.goto (-26), 3) := by decide +kernel
theorem dX11_areSlots_31 : decode cX11_areSlots 31 = .ok (.iconst 1, 1) := by decide +kernel
theorem dX11_areSlots_32 : decode cX11_areSlots 32 = .ok (.ireturn, 1) := by decide +kernel
theorem dX11_procedure_0 : decode cX11_procedure 0 = .ok (.aload_n 0, 1) := by decide +kernel
theorem dX11_procedure_1 : decode cX11_procedure 1 = .ok (.iconst 0, 1) := by decide +kernel
theorem dX11_procedure_2 : decode cX11_procedure 2 = .ok (.putfield 132, 3) := by decide +kernel
theorem dX11_procedure_5 : decode cX11_procedure 5 = .ok (.aload_n 0, 1) := by decide +kernel
theorem dX11_procedure_6 : decode cX11_procedure 6 = .ok (.invokevirtual 142, 3) := by decide +kernel
theorem dX11_procedure_9 : decode cX11_procedure 9 = .ok (.istore 4, 2) := by decide +kernel
theorem dX11_procedure_11 : decode cX11_procedure 11 = .ok (.aload_n 0, 1) := by decide +kernel
theorem dX11_procedure_12 : decode cX11_procedure 12 = .ok (.getfield 146, 3) := by decide +kernel
theorem dX11_procedure_15 : decode cX11_procedure 15 = .ok (.bipush 60, 2) := by decide +kernel
theorem dX11_procedure_17 : decode cX11_procedure 17 = .ok (.if_icmp .ge 52, 3) := by decide +kernel
theorem dX11_procedure_20 : decode cX11_procedure 20 = .ok (.iload_n 2, 1) := by decide +kernel
theorem dX11_procedure_21 : decode cX11_procedure 21 = .ok (.iconst 1, 1) := by decide +kernel
theorem dX11_procedure_22 : decode cX11_procedure 22 = .ok (.bipush 40, 2) := by decide +kernel
theorem dX11_procedure_24 : decode cX11_procedure 24 = .ok (.invokestatic 138, 3) := by decide +kernel
theorem dX11_procedure_27 : decode cX11_procedure 27 = .ok (.ifCond .eq 42, 3) := by decide +kernel
theorem dX11_procedure_30 : decode cX11_procedure 30 = .ok (.iload_n 3, 1) := by decide +kernel
theorem dX11_procedure_31 : decode cX11_procedure 31 = .ok (.iconst 0, 1) := by decide +kernel
theorem dX11_procedure_32 : decode cX11_procedure 32 = .ok (.iload_n 2, 1) := by decide +kernel
theorem dX11_procedure_33 : decode cX11_procedure 33 = .ok (.invokestatic 138, 3) := by decide +kernel
theorem dX11_procedure_36 : decode cX11_procedure 36 = .ok (.ifCond .eq 33, 3) := by decide +kernel
theorem dX11_procedure_39 : decode cX11_procedure 39 = .ok (.iload 4, 2) := by decide +kernel
theorem dX11_procedure_41 : decode cX11_procedure 41 = .ok (.bipush 9, 2) := by decide +kernel
theorem dX11_procedure_43 : decode cX11_procedure 43 = .ok (.if_icmp .ge 26, 3) := by decide +kernel
theorem dX11_procedure_46 : decode cX11_procedure 46 = .ok (.iload 4, 2) := by decide +kernel
theorem dX11_procedure_48 : decode cX11_procedure 48 = .ok (.iload_n 3, 1) := by decide +kernel
theorem dX11_procedure_49 : decode cX11_procedure 49 = .ok (.iadd, 1) := by decide +kernel
theorem dX11_procedure_50 : decode cX11_procedure 50 = .ok (.bipush 11, 2) := by decide +kernel
theorem dX11_procedure_52 : decode cX11_procedure 52 = .ok (.if_icmp .ge 17, 3) := by decide +kernel
theorem dX11_procedure_55 : decode cX11_procedure 55 = .ok (.aload_n 0, 1) := by decide +kernel
theorem dX11_procedure_56 : decode cX11_procedure 56 = .ok (.iload 4, 2) := by decide +kernel
theorem dX11_procedure_58 : decode cX11_procedure 58 = .ok (.iload_n 2, 1) := by decide +kernel
theorem dX11_procedure_59 : decode cX11_procedure 59 = .ok (.invokevirtual 149, 3) := by decide +kernel
theorem dX11_procedure_62 : decode cX11_procedure 62 = .ok (.ifCond .eq 7, 3) := by decide +kernel
theorem dX11_procedure_65 : decode cX11_procedure 65 = .ok (.iconst 1, 1) := by decide +kernel
theorem dX11_procedure_66 : decode cX11_procedure 66 = .ok (.goto 4, 3) := by decide +kernel
theorem dX11_procedure_69 : decode cX11_procedure 69 = .ok (.iconst 0, 1) := by decide +kernel
theorem dX11_procedure_70 : decode cX11_procedure 70 = .ok (.istore 5, 2) := by decide +kernel
theorem dX11_procedure_72 : decode cX11_procedure 72 = .ok (.iload 5, 2) := by decide +kernel
theorem dX11_procedure_74 : decode cX11_procedure 74 = .ok (.ifCond .ne 5, 3) := by decide +kernel
theorem dX11_procedure_77 : decode cX11_procedure 77 = .ok (.iconst (-1), 1) := by decide +kernel
theorem dX11_procedure_78 : decode cX11_procedure 78 = .ok (.ireturn, 1) := by decide +kernel
theorem dX11_procedure_79 : decode cX11_procedure 79 = .ok (.aload_n 0, 1) := by decide +kernel
theorem dX11_procedure_80 : decode cX11_procedure 80 = .ok (.getfield 146, 3) := by decide +kernel
theorem dX11_procedure_83 : decode cX11_procedure 83 = .ok (.istore 6, 2) := by decide +kernel
theorem dX11_procedure_85 : decode cX11_procedure 85 = .ok (.aload_n 0, 1) := by decide +kernel
theorem dX11_procedure_86 : decode cX11_procedure 86 = .ok (.getfield 13, 3) := by decide +kernel
theorem dX11_procedure_89 : decode cX11_procedure 89 = .ok (.iload 6, 2) := by decide +kernel
theorem dX11_procedure_91 : decode cX11_procedure 91 = .ok (.iload_n 1, 1) := by decide +kernel
theorem dX11_procedure_92 : decode cX11_procedure 92 = .ok (.bastore, 1) := by decide +kernel
theorem dX11_procedure_93 : decode cX11_procedure 93 = .ok (.aload_n 0, 1) := by decide +kernel
theorem dX11_procedure_94 : decode cX11_procedure 94 = .ok (.getfield 17, 3) := by decide +kernel
theorem dX11_procedure_97 : decode cX11_procedure 97 = .ok (.iload 6, 2) := by decide +kernel
theorem dX11_procedure_99 : decode cX11_procedure 99 = .ok (.iload_n 2, 1) := by decide +kernel
theorem dX11_procedure_100 : decode cX11_procedure 100 = .ok (.iastore, 1) := by decide +kernel
theorem dX11_procedure_101 : decode cX11_procedure 101 = .ok (.aload_n 0, 1) := by decide +kernel
theorem dX11_procedure_102 : decode cX11_procedure 102 = .ok (.getfield 20, 3) := by decide +kernel
theorem dX11_procedure_105 : decode cX11_procedure 105 = .ok (.iload 6, 2) := by decide +kernel
theorem dX11_procedure_107 : decode cX11_procedure 107 = .ok (.iload_n 3, 1) := by decide +kernel
theorem dX11_procedure_108 : decode cX11_procedure 108 = .ok (.iastore, 1) := by decide +kernel
theorem dX11_procedure_109 : decode cX11_procedure 109 = .ok (.aload_n 0, 1) := by decide +kernel
theorem dX11_procedure_110 : decode cX11_procedure 110 = .ok (.getfield 23, 3) := by decide +kernel
theorem dX11_procedure_113 : decode cX11_procedure 113 = .ok (.iload 6, 2) := by decide +kernel
theorem dX11_procedure_115 : decode cX11_procedure 115 = .ok (.iload 4, 2) := by decide +kernel
theorem dX11_procedure_117 : decode cX11_procedure 117 = .ok (.iastore, 1) := by decide +kernel
theorem dX11_procedure_118 : decode cX11_procedure 118 = .ok (.iconst 0, 1) := by decide +kernel
theorem dX11_procedure_119 : decode cX11_procedure 119 = .ok (.istore 7, 2) := by decide +kernel
theorem dX11_procedure_121 : decode cX11_procedure 121 = .ok (.iload 7, 2) := by decide +kernel
theorem dX11_procedure_123 : decode cX11_procedure 123 = .ok (.iload 4, 2) := by decide +kernel
theorem dX11_procedure_125 : decode cX11_procedure 125 = .ok (.if_icmp .ge 29, 3) := by decide +kernel
theorem dX11_procedure_128 : decode cX11_procedure 128 = .ok (.aload_n 0, 1) := by decide +kernel
theorem dX11_procedure_129 : decode cX11_procedure 129 = .ok (.getfield 26, 3) := by decide +kernel
theorem dX11_procedure_132 : decode cX11_procedure 132 = .ok (.bipush 8, 2) := by decide +kernel
theorem dX11_procedure_134 : decode cX11_procedure 134 = .ok (.iload 6, 2) := by decide +kernel
theorem dX11_procedure_136 : decode cX11_procedure 136 = .ok (.imul, 1) := by decide +kernel
theorem dX11_procedure_137 : decode cX11_procedure 137 = .ok (.iload 7, 2) := by decide +kernel
theorem dX11_procedure_139 : decode cX11_procedure 139 = .ok (.iadd, 1) := by decide +kernel
theorem dX11_procedure_140 : decode cX11_procedure 140 = .ok (.aload_n 0, 1) := by decide +kernel
theorem dX11_procedure_141 : decode cX11_procedure 141 = .ok (.getfield 7, 3) := by decide +kernel
theorem dX11_procedure_144 : decode cX11_procedure 144 = .ok (.iload 7, 2) := by decide +kernel
theorem dX11_procedure_146 : decode cX11_procedure 146 = .ok (.iaload, 1) := by decide +kernel
theorem dX11_procedure_147 : decode cX11_procedure 147 = .ok (.iastore, 1) := by decide +kernel
theorem dX11_procedure_148 : decode cX11_procedure 148 = .ok (.iinc 7 1, 3) := by decide +kernel
theorem dX11_procedure_151 : decode cX11_procedure 151 = .ok (.goto (-30), 3) := by decide +kernel
theorem dX11_procedure_154 : decode cX11_procedure 154 = .ok (.aload_n 0, 1) := by decide +kernel
theorem dX11_procedure_155 : decode cX11_procedure 155 = .ok (.getfield 29, 3) := by decide +kernel
theorem dX11_procedure_158 : decode cX11_procedure 158 = .ok (.iload 6, 2) := by decide +kernel
