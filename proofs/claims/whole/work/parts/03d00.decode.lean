theorem dX0_init_0 : decode cX0_init 0 = .ok (.aload_n 0, 1) := by decide +kernel
theorem dX0_init_1 : decode cX0_init 1 = .ok (.invokespecial 3, 3) := by decide +kernel
theorem dX0_init_4 : decode cX0_init 4 = .ok (.aload_n 0, 1) := by decide +kernel
theorem dX0_init_5 : decode cX0_init 5 = .ok (.new 9, 3) := by decide +kernel
theorem dX0_init_8 : decode cX0_init 8 = .ok (.dup, 1) := by decide +kernel
theorem dX0_init_9 : decode cX0_init 9 = .ok (.invokespecial 11, 3) := by decide +kernel
theorem dX0_init_12 : decode cX0_init 12 = .ok (.putfield 12, 3) := by decide +kernel
theorem dX0_init_15 : decode cX0_init 15 = .ok (.aload_n 0, 1) := by decide +kernel
theorem dX0_init_16 : decode cX0_init 16 = .ok (.new 18, 3) := by decide +kernel
theorem dX0_init_19 : decode cX0_init 19 = .ok (.dup, 1) := by decide +kernel
theorem dX0_init_20 : decode cX0_init 20 = .ok (.invokespecial 20, 3) := by decide +kernel
theorem dX0_init_23 : decode cX0_init 23 = .ok (.putfield 21, 3) := by decide +kernel
theorem dX0_init_26 : decode cX0_init 26 = .ok (.aload_n 0, 1) := by decide +kernel
theorem dX0_init_27 : decode cX0_init 27 = .ok (.iconst (-1), 1) := by decide +kernel
theorem dX0_init_28 : decode cX0_init 28 = .ok (.putfield 25, 3) := by decide +kernel
theorem dX0_init_31 : decode cX0_init 31 = .ok (.return_, 1) := by decide +kernel
theorem dX0_start_0 : decode cX0_start 0 = .ok (.aload_n 0, 1) := by decide +kernel
theorem dX0_start_1 : decode cX0_start 1 = .ok (.getfield 12, 3) := by decide +kernel
theorem dX0_start_4 : decode cX0_start 4 = .ok (.iload_n 3, 1) := by decide +kernel
theorem dX0_start_5 : decode cX0_start 5 = .ok (.invokevirtual 29, 3) := by decide +kernel
theorem dX0_start_8 : decode cX0_start 8 = .ok (.aload_n 0, 1) := by decide +kernel
theorem dX0_start_9 : decode cX0_start 9 = .ok (.getfield 21, 3) := by decide +kernel
theorem dX0_start_12 : decode cX0_start 12 = .ok (.iload 4, 2) := by decide +kernel
theorem dX0_start_14 : decode cX0_start 14 = .ok (.invokevirtual 33, 3) := by decide +kernel
theorem dX0_start_17 : decode cX0_start 17 = .ok (.aload_n 0, 1) := by decide +kernel
theorem dX0_start_18 : decode cX0_start 18 = .ok (.getfield 12, 3) := by decide +kernel
theorem dX0_start_21 : decode cX0_start 21 = .ok (.aload_n 1, 1) := by decide +kernel
theorem dX0_start_22 : decode cX0_start 22 = .ok (.invokevirtual 34, 3) := by decide +kernel
theorem dX0_start_25 : decode cX0_start 25 = .ok (.astore 5, 2) := by decide +kernel
theorem dX0_start_27 : decode cX0_start 27 = .ok (.iconst 0, 1) := by decide +kernel
theorem dX0_start_28 : decode cX0_start 28 = .ok (.istore 6, 2) := by decide +kernel
theorem dX0_start_30 : decode cX0_start 30 = .ok (.iload 6, 2) := by decide +kernel
theorem dX0_start_32 : decode cX0_start 32 = .ok (.aload_n 2, 1) := by decide +kernel
theorem dX0_start_33 : decode cX0_start 33 = .ok (.arraylength, 1) := by decide +kernel
theorem dX0_start_34 : decode cX0_start 34 = .ok (.if_icmp .ge 25, 3) := by decide +kernel
theorem dX0_start_37 : decode cX0_start 37 = .ok (.aload_n 0, 1) := by decide +kernel
theorem dX0_start_38 : decode cX0_start 38 = .ok (.getfield 12, 3) := by decide +kernel
theorem dX0_start_41 : decode cX0_start 41 = .ok (.aload 5, 2) := by decide +kernel
theorem dX0_start_43 : decode cX0_start 43 = .ok (.iload 6, 2) := by decide +kernel
theorem dX0_start_45 : decode cX0_start 45 = .ok (.aload_n 2, 1) := by decide +kernel
theorem dX0_start_46 : decode cX0_start 46 = .ok (.iload 6, 2) := by decide +kernel
theorem dX0_start_48 : decode cX0_start 48 = .ok (.iaload, 1) := by decide +kernel
theorem dX0_start_49 : decode cX0_start 49 = .ok (.i2l, 1) := by decide +kernel
theorem dX0_start_50 : decode cX0_start 50 = .ok (.invokevirtual 38, 3) := by decide +kernel
theorem dX0_start_53 : decode cX0_start 53 = .ok (.iinc 6 1, 3) := by decide +kernel
theorem dX0_start_56 : decode cX0_start 56 = .ok (.goto (-26), 3) := by decide +kernel
theorem dX0_start_59 : decode cX0_start 59 = .ok (.aload_n 0, 1) := by decide +kernel
theorem dX0_start_60 : decode cX0_start 60 = .ok (.iconst 0, 1) := by decide +kernel
theorem dX0_start_61 : decode cX0_start 61 = .ok (.putfield 25, 3) := by decide +kernel
theorem dX0_start_64 : decode cX0_start 64 = .ok (.aload_n 0, 1) := by decide +kernel
theorem dX0_start_65 : decode cX0_start 65 = .ok (.iconst 0, 1) := by decide +kernel
theorem dX0_start_66 : decode cX0_start 66 = .ok (.putfield 42, 3) := by decide +kernel
theorem dX0_start_69 : decode cX0_start 69 = .ok (.aload_n 0, 1) := by decide +kernel
theorem dX0_start_70 : decode cX0_start 70 = .ok (.iconst 0, 1) := by decide +kernel
theorem dX0_start_71 : decode cX0_start 71 = .ok (.putfield 45, 3) := by decide +kernel
theorem dX0_start_74 : decode cX0_start 74 = .ok (.aload_n 0, 1) := by decide +kernel
theorem dX0_start_75 : decode cX0_start 75 = .ok (.aload 5, 2) := by decide +kernel
theorem dX0_start_77 : decode cX0_start 77 = .ok (.putfield 48, 3) := by decide +kernel
theorem dX0_start_80 : decode cX0_start 80 = .ok (.aload_n 0, 1) := by decide +kernel
theorem dX0_start_81 : decode cX0_start 81 = .ok (.iconst 0, 1) := by decide +kernel
theorem dX0_start_82 : decode cX0_start 82 = .ok (.putfield 52, 3) := by decide +kernel
theorem dX0_start_85 : decode cX0_start 85 = .ok (.return_, 1) := by decide +kernel
theorem dX0_advance_0 : decode cX0_advance 0 = .ok (.iload_n 1, 1) := by decide +kernel
theorem dX0_advance_1 : decode cX0_advance 1 = .ok (.iconst 1, 1) := by decide +kernel
theorem dX0_advance_2 : decode cX0_advance 2 = .ok (.if_icmp .ge 8, 3) := by decide +kernel
theorem dX0_advance_5 : decode cX0_advance 5 = .ok (.aload_n 0, 1) := by decide +kernel
theorem dX0_advance_6 : decode cX0_advance 6 = .ok (.getfield 25, 3) := by decide +kernel
theorem dX0_advance_9 : decode cX0_advance 9 = .ok (.ireturn, 1) := by decide +kernel
theorem dX0_advance_10 : decode cX0_advance 10 = .ok (.aload_n 0, 1) := by decide +kernel
theorem dX0_advance_11 : decode cX0_advance 11 = .ok (.getfield 25, 3) := by decide +kernel
theorem dX0_advance_14 : decode cX0_advance 14 = .ok (.iconst 1, 1) := by decide +kernel
theorem dX0_advance_15 : decode cX0_advance 15 = .ok (.if_icmp .ne 7, 3) := by decide +kernel
theorem dX0_advance_18 : decode cX0_advance 18 = .ok (.aload_n 0, 1) := by decide +kernel
theorem dX0_advance_19 : decode cX0_advance 19 = .ok (.invokevirtual 55, 3) := by decide +kernel
theorem dX0_advance_22 : decode cX0_advance 22 = .ok (.iconst 0, 1) := by decide +kernel
theorem dX0_advance_23 : decode cX0_advance 23 = .ok (.istore_n 2, 1) := by decide +kernel
theorem dX0_advance_24 : decode cX0_advance 24 = .ok (.iload_n 2, 1) := by decide +kernel
theorem dX0_advance_25 : decode cX0_advance 25 = .ok (.iload_n 1, 1) := by decide +kernel
theorem dX0_advance_26 : decode cX0_advance 26 = .ok (.if_icmp .ge 63, 3) := by decide +kernel
theorem dX0_advance_29 : decode cX0_advance 29 = .ok (.aload_n 0, 1) := by decide +kernel
theorem dX0_advance_30 : decode cX0_advance 30 = .ok (.getfield 25, 3) := by decide +kernel
theorem dX0_advance_33 : decode cX0_advance 33 = .ok (.ifCond .ne 56, 3) := by decide +kernel
theorem dX0_advance_36 : decode cX0_advance 36 = .ok (.aload_n 0, 1) := by decide +kernel
theorem dX0_advance_37 : decode cX0_advance 37 = .ok (.getfield 42, 3) := by decide +kernel
theorem dX0_advance_40 : decode cX0_advance 40 = .ok (.sipush 20000, 3) := by decide +kernel
theorem dX0_advance_43 : decode cX0_advance 43 = .ok (.if_icmp .ge 10, 3) := by decide +kernel
theorem dX0_advance_46 : decode cX0_advance 46 = .ok (.aload_n 0, 1) := by decide +kernel
theorem dX0_advance_47 : decode cX0_advance 47 = .ok (.getfield 48, 3) := by decide +kernel
theorem dX0_advance_50 : decode cX0_advance 50 = .ok (.ifnonnull 11, 3) := by decide +kernel
theorem dX0_advance_53 : decode cX0_advance 53 = .ok (.aload_n 0, 1) := by decide +kernel
theorem dX0_advance_54 : decode cX0_advance 54 = .ok (.iconst 3, 1) := by decide +kernel
theorem dX0_advance_55 : decode cX0_advance 55 = .ok (.putfield 25, 3) := by decide +kernel
theorem dX0_advance_58 : decode cX0_advance 58 = .ok (.goto 25, 3) := by decide +kernel
theorem dX0_advance_61 : decode cX0_advance 61 = .ok (.aload_n 0, 1) := by decide +kernel
theorem dX0_advance_62 : decode cX0_advance 62 = .ok (.dup, 1) := by decide +kernel
theorem dX0_advance_63 : decode cX0_advance 63 = .ok (.getfield 42, 3) := by decide +kernel
theorem dX0_advance_66 : decode cX0_advance 66 = .ok (.iconst 1, 1) := by decide +kernel
theorem dX0_advance_67 : decode cX0_advance 67 = .ok (.iadd, 1) := by decide +kernel
theorem dX0_advance_68 : decode cX0_advance 68 = .ok (.putfield 42, 3) := by decide +kernel
theorem dX0_advance_71 : decode cX0_advance 71 = .ok (.aload_n 0, 1) := by decide +kernel
theorem dX0_advance_72 : decode cX0_advance 72 = .ok (.aload_n 0, 1) := by decide +kernel
theorem dX0_advance_73 : decode cX0_advance 73 = .ok (.aload_n 0, 1) := by decide +kernel
theorem dX0_advance_74 : decode cX0_advance 74 = .ok (.getfield 48, 3) := by decide +kernel
theorem dX0_advance_77 : decode cX0_advance 77 = .ok (.invokevirtual 58, 3) := by decide +kernel
theorem dX0_advance_80 : decode cX0_advance 80 = .ok (.invokevirtual 62, 3) := by decide +kernel
theorem dX0_advance_83 : decode cX0_advance 83 = .ok (.iinc 2 1, 3) := by decide +kernel
theorem dX0_advance_86 : decode cX0_advance 86 = .ok (.goto (-62), 3) := by decide +kernel
theorem dX0_advance_89 : decode cX0_advance 89 = .ok (.aload_n 0, 1) := by decide +kernel
theorem dX0_advance_90 : decode cX0_advance 90 = .ok (.getfield 25, 3) := by decide +kernel
theorem dX0_advance_93 : decode cX0_advance 93 = .ok (.ireturn, 1) := by decide +kernel
theorem dX0_figure_0 : decode cX0_figure 0 = .ok (.iload_n 1, 1) := by decide +kernel
theorem dX0_figure_1 : decode cX0_figure 1 = .ok (.tableswitch 114 0 8 #[51, 56, 61, 69, 77, 85, 93, 98, 106], 51) := by decide +kernel
theorem dX0_figure_52 : decode cX0_figure 52 = .ok (.aload_n 0, 1) := by decide +kernel
theorem dX0_figure_53 : decode cX0_figure 53 = .ok (.getfield 25, 3) := by decide +kernel
theorem dX0_figure_56 : decode cX0_figure 56 = .ok (.ireturn, 1) := by decide +kernel
theorem dX0_figure_57 : decode cX0_figure 57 = .ok (.aload_n 0, 1) := by decide +kernel
theorem dX0_figure_58 : decode cX0_figure 58 = .ok (.getfield 42, 3) := by decide +kernel
theorem dX0_figure_61 : decode cX0_figure 61 = .ok (.ireturn, 1) := by decide +kernel
theorem dX0_figure_62 : decode cX0_figure 62 = .ok (.aload_n 0, 1) := by decide +kernel
theorem dX0_figure_63 : decode cX0_figure 63 = .ok (.getfield 12, 3) := by decide +kernel
theorem dX0_figure_66 : decode cX0_figure 66 = .ok (.invokevirtual 65, 3) := by decide +kernel
theorem dX0_figure_69 : decode cX0_figure 69 = .ok (.ireturn, 1) := by decide +kernel
theorem dX0_figure_70 : decode cX0_figure 70 = .ok (.aload_n 0, 1) := by decide +kernel
theorem dX0_figure_71 : decode cX0_figure 71 = .ok (.getfield 12, 3) := by decide +kernel
theorem dX0_figure_74 : decode cX0_figure 74 = .ok (.getfield 69, 3) := by decide +kernel
theorem dX0_figure_77 : decode cX0_figure 77 = .ok (.ireturn, 1) := by decide +kernel
theorem dX0_figure_78 : decode cX0_figure 78 = .ok (.aload_n 0, 1) := by decide +kernel
theorem dX0_figure_79 : decode cX0_figure 79 = .ok (.getfield 21, 3) := by decide +kernel
theorem dX0_figure_82 : decode cX0_figure 82 = .ok (.invokevirtual 72, 3) := by decide +kernel
theorem dX0_figure_85 : decode cX0_figure 85 = .ok (.ireturn, 1) := by decide +kernel
theorem dX0_figure_86 : decode cX0_figure 86 = .ok (.aload_n 0, 1) := by decide +kernel
theorem dX0_figure_87 : decode cX0_figure 87 = .ok (.getfield 21, 3) := by decide +kernel
theorem dX0_figure_90 : decode cX0_figure 90 = .ok (.getfield 75, 3) := by decide +kernel
theorem dX0_figure_93 : decode cX0_figure 93 = .ok (.ireturn, 1) := by decide +kernel
theorem dX0_figure_94 : decode cX0_figure 94 = .ok (.aload_n 0, 1) := by decide +kernel
theorem dX0_figure_95 : decode cX0_figure 95 = .ok (.getfield 45, 3) := by decide +kernel
theorem dX0_figure_98 : decode cX0_figure 98 = .ok (.ireturn, 1) := by decide +kernel
theorem dX0_figure_99 : decode cX0_figure 99 = .ok (.aload_n 0, 1) := by decide +kernel
theorem dX0_figure_100 : decode cX0_figure 100 = .ok (.getfield 12, 3) := by decide +kernel
theorem dX0_figure_103 : decode cX0_figure 103 = .ok (.getfield 76, 3) := by decide +kernel
theorem dX0_figure_106 : decode cX0_figure 106 = .ok (.ireturn, 1) := by decide +kernel
theorem dX0_figure_107 : decode cX0_figure 107 = .ok (.aload_n 0, 1) := by decide +kernel
theorem dX0_figure_108 : decode cX0_figure 108 = .ok (.getfield 12, 3) := by decide +kernel
theorem dX0_figure_111 : decode cX0_figure 111 = .ok (.getfield 79, 3) := by decide +kernel
theorem dX0_figure_114 : decode cX0_figure 114 = .ok (.ireturn, 1) := by decide +kernel
theorem dX0_figure_115 : decode cX0_figure 115 = .ok (.iconst (-1), 1) := by decide +kernel
theorem dX0_figure_116 : decode cX0_figure 116 = .ok (.ireturn, 1) := by decide +kernel
theorem dX0_hasOut_0 : decode cX0_hasOut 0 = .ok (.aload_n 0, 1) := by decide +kernel
theorem dX0_hasOut_1 : decode cX0_hasOut 1 = .ok (.getfield 25, 3) := by decide +kernel
theorem dX0_hasOut_4 : decode cX0_hasOut 4 = .ok (.iconst 1, 1) := by decide +kernel
theorem dX0_hasOut_5 : decode cX0_hasOut 5 = .ok (.if_icmp .ne 32, 3) := by decide +kernel
theorem dX0_hasOut_8 : decode cX0_hasOut 8 = .ok (.aload_n 0, 1) := by decide +kernel
theorem dX0_hasOut_9 : decode cX0_hasOut 9 = .ok (.getfield 48, 3) := by decide +kernel
theorem dX0_hasOut_12 : decode cX0_hasOut 12 = .ok (.ifnull 25, 3) := by decide +kernel
theorem dX0_hasOut_15 : decode cX0_hasOut 15 = .ok (.iload_n 1, 1) := by decide +kernel
theorem dX0_hasOut_16 : decode cX0_hasOut 16 = .ok (.aload_n 0, 1) := by decide +kernel
theorem dX0_hasOut_17 : decode cX0_hasOut 17 = .ok (.getfield 48, 3) := by decide +kernel
theorem dX0_hasOut_20 : decode cX0_hasOut 20 = .ok (.getfield 82, 3) := by decide +kernel
theorem dX0_hasOut_23 : decode cX0_hasOut 23 = .ok (.getfield 88, 3) := by decide +kernel
theorem dX0_hasOut_26 : decode cX0_hasOut 26 = .ok (.arraylength, 1) := by decide +kernel
theorem dX0_hasOut_27 : decode cX0_hasOut 27 = .ok (.invokestatic 94, 3) := by decide +kernel
theorem dX0_hasOut_30 : decode cX0_hasOut 30 = .ok (.ifCond .eq 7, 3) := by decide +kernel
theorem dX0_hasOut_33 : decode cX0_hasOut 33 = .ok (.iconst 1, 1) := by decide +kernel
theorem dX0_hasOut_34 : decode cX0_hasOut 34 = .ok (.goto 4, 3) := by decide +kernel
theorem dX0_hasOut_37 : decode cX0_hasOut 37 = .ok (.iconst 0, 1) := by decide +kernel
theorem dX0_hasOut_38 : decode cX0_hasOut 38 = .ok (.ireturn, 1) := by decide +kernel
theorem dX0_outValue_0 : decode cX0_outValue 0 = .ok (.aload_n 0, 1) := by decide +kernel
theorem dX0_outValue_1 : decode cX0_outValue 1 = .ok (.iload_n 1, 1) := by decide +kernel
theorem dX0_outValue_2 : decode cX0_outValue 2 = .ok (.invokevirtual 98, 3) := by decide +kernel
theorem dX0_outValue_5 : decode cX0_outValue 5 = .ok (.ifCond .eq 29, 3) := by decide +kernel
theorem dX0_outValue_8 : decode cX0_outValue 8 = .ok (.aload_n 0, 1) := by decide +kernel
theorem dX0_outValue_9 : decode cX0_outValue 9 = .ok (.getfield 12, 3) := by decide +kernel
theorem dX0_outValue_12 : decode cX0_outValue 12 = .ok (.aload_n 0, 1) := by decide +kernel
theorem dX0_outValue_13 : decode cX0_outValue 13 = .ok (.getfield 48, 3) := by decide +kernel
theorem dX0_outValue_16 : decode cX0_outValue 16 = .ok (.aload_n 0, 1) := by decide +kernel
theorem dX0_outValue_17 : decode cX0_outValue 17 = .ok (.getfield 48, 3) := by decide +kernel
theorem dX0_outValue_20 : decode cX0_outValue 20 = .ok (.getfield 82, 3) := by decide +kernel
theorem dX0_outValue_23 : decode cX0_outValue 23 = .ok (.getfield 88, 3) := by decide +kernel
theorem dX0_outValue_26 : decode cX0_outValue 26 = .ok (.iload_n 1, 1) := by decide +kernel
theorem dX0_outValue_27 : decode cX0_outValue 27 = .ok (.iaload, 1) := by decide +kernel
theorem dX0_outValue_28 : decode cX0_outValue 28 = .ok (.invokevirtual 102, 3) := by decide +kernel
theorem dX0_outValue_31 : decode cX0_outValue 31 = .ok (.goto 4, 3) := by decide +kernel
theorem dX0_outValue_34 : decode cX0_outValue 34 = .ok (.lconst 0, 1) := by decide +kernel
theorem dX0_outValue_35 : decode cX0_outValue 35 = .ok (.lreturn, 1) := by decide +kernel
theorem dX0_slotSeen_0 : decode cX0_slotSeen 0 = .ok (.aload_n 0, 1) := by decide +kernel
theorem dX0_slotSeen_1 : decode cX0_slotSeen 1 = .ok (.getfield 25, 3) := by decide +kernel
theorem dX0_slotSeen_4 : decode cX0_slotSeen 4 = .ok (.ifCond .eq 11, 3) := by decide +kernel
theorem dX0_slotSeen_7 : decode cX0_slotSeen 7 = .ok (.aload_n 0, 1) := by decide +kernel
theorem dX0_slotSeen_8 : decode cX0_slotSeen 8 = .ok (.getfield 25, 3) := by decide +kernel
theorem dX0_slotSeen_11 : decode cX0_slotSeen 11 = .ok (.iconst 1, 1) := by decide +kernel
theorem dX0_slotSeen_12 : decode cX0_slotSeen 12 = .ok (.if_icmp .ne 7, 3) := by decide +kernel
theorem dX0_slotSeen_15 : decode cX0_slotSeen 15 = .ok (.iconst 1, 1) := by decide +kernel
theorem dX0_slotSeen_16 : decode cX0_slotSeen 16 = .ok (.goto 4, 3) := by decide +kernel
theorem dX0_slotSeen_19 : decode cX0_slotSeen 19 = .ok (.iconst 0, 1) := by decide +kernel
theorem dX0_slotSeen_20 : decode cX0_slotSeen 20 = .ok (.istore_n 2, 1) := by decide +kernel
theorem dX0_slotSeen_21 : decode cX0_slotSeen 21 = .ok (.iload_n 2, 1) := by decide +kernel
theorem dX0_slotSeen_22 : decode cX0_slotSeen 22 = .ok (.ifCond .eq 27, 3) := by decide +kernel
theorem dX0_slotSeen_25 : decode cX0_slotSeen 25 = .ok (.aload_n 0, 1) := by decide +kernel
theorem dX0_slotSeen_26 : decode cX0_slotSeen 26 = .ok (.getfield 48, 3) := by decide +kernel
theorem dX0_slotSeen_29 : decode cX0_slotSeen 29 = .ok (.ifnull 20, 3) := by decide +kernel
theorem dX0_slotSeen_32 : decode cX0_slotSeen 32 = .ok (.iload_n 1, 1) := by decide +kernel
theorem dX0_slotSeen_33 : decode cX0_slotSeen 33 = .ok (.aload_n 0, 1) := by decide +kernel
theorem dX0_slotSeen_34 : decode cX0_slotSeen 34 = .ok (.getfield 48, 3) := by decide +kernel
theorem dX0_slotSeen_37 : decode cX0_slotSeen 37 = .ok (.getfield 82, 3) := by decide +kernel
theorem dX0_slotSeen_40 : decode cX0_slotSeen 40 = .ok (.getfield 106, 3) := by decide +kernel
theorem dX0_slotSeen_43 : decode cX0_slotSeen 43 = .ok (.invokestatic 94, 3) := by decide +kernel
theorem dX0_slotSeen_46 : decode cX0_slotSeen 46 = .ok (.ifCond .ne 7, 3) := by decide +kernel
theorem dX0_slotSeen_49 : decode cX0_slotSeen 49 = .ok (.ldc2_w 109, 3) := by decide +kernel
theorem dX0_slotSeen_52 : decode cX0_slotSeen 52 = .ok (.lreturn, 1) := by decide +kernel
theorem dX0_slotSeen_53 : decode cX0_slotSeen 53 = .ok (.aload_n 0, 1) := by decide +kernel
theorem dX0_slotSeen_54 : decode cX0_slotSeen 54 = .ok (.getfield 12, 3) := by decide +kernel
theorem dX0_slotSeen_57 : decode cX0_slotSeen 57 = .ok (.aload_n 0, 1) := by decide +kernel
theorem dX0_slotSeen_58 : decode cX0_slotSeen 58 = .ok (.getfield 48, 3) := by decide +kernel
theorem dX0_slotSeen_61 : decode cX0_slotSeen 61 = .ok (.iload_n 1, 1) := by decide +kernel
theorem dX0_slotSeen_62 : decode cX0_slotSeen 62 = .ok (.invokevirtual 102, 3) := by decide +kernel
theorem dX0_slotSeen_65 : decode cX0_slotSeen 65 = .ok (.invokestatic 111, 3) := by decide +kernel
theorem dX0_slotSeen_68 : decode cX0_slotSeen 68 = .ok (.lreturn, 1) := by decide +kernel
theorem dX0_step_0 : decode cX0_step 0 = .ok (.aload_n 1, 1) := by decide +kernel
theorem dX0_step_1 : decode cX0_step 1 = .ok (.getfield 82, 3) := by decide +kernel
theorem dX0_step_4 : decode cX0_step 4 = .ok (.aload_n 0, 1) := by decide +kernel
theorem dX0_step_5 : decode cX0_step 5 = .ok (.getfield 52, 3) := by decide +kernel
theorem dX0_step_8 : decode cX0_step 8 = .ok (.invokevirtual 117, 3) := by decide +kernel
theorem dX0_step_11 : decode cX0_step 11 = .ok (.astore_n 2, 1) := by decide +kernel
theorem dX0_step_12 : decode cX0_step 12 = .ok (.aload_n 2, 1) := by decide +kernel
theorem dX0_step_13 : decode cX0_step 13 = .ok (.ifnonnull 6, 3) := by decide +kernel
theorem dX0_step_16 : decode cX0_step 16 = .ok (.bipush 7, 2) := by decide +kernel
theorem dX0_step_18 : decode cX0_step 18 = .ok (.ireturn, 1) := by decide +kernel
theorem dX0_step_19 : decode cX0_step 19 = .ok (.aload_n 0, 1) := by decide +kernel
theorem dX0_step_20 : decode cX0_step 20 = .ok (.dup, 1) := by decide +kernel
theorem dX0_step_21 : decode cX0_step 21 = .ok (.getfield 52, 3) := by decide +kernel
theorem dX0_step_24 : decode cX0_step 24 = .ok (.iconst 1, 1) := by decide +kernel
theorem dX0_step_25 : decode cX0_step 25 = .ok (.iadd, 1) := by decide +kernel
theorem dX0_step_26 : decode cX0_step 26 = .ok (.putfield 52, 3) := by decide +kernel
theorem dX0_step_29 : decode cX0_step 29 = .ok (.aload_n 2, 1) := by decide +kernel
theorem dX0_step_30 : decode cX0_step 30 = .ok (.getfield 121, 3) := by decide +kernel
theorem dX0_step_33 : decode cX0_step 33 = .ok (.tableswitch 292 0 14 #[75, 90, 112, 119, 126, 158, 165, 172, 181, 216, 226, 233, 251, 269, 286], 75) := by decide +kernel
theorem dX0_step_108 : decode cX0_step 108 = .ok (.aload_n 0, 1) := by decide +kernel
theorem dX0_step_109 : decode cX0_step 109 = .ok (.aload_n 1, 1) := by decide +kernel
theorem dX0_step_110 : decode cX0_step 110 = .ok (.aload_n 2, 1) := by decide +kernel
theorem dX0_step_111 : decode cX0_step 111 = .ok (.getfield 126, 3) := by decide +kernel
theorem dX0_step_114 : decode cX0_step 114 = .ok (.aload_n 2, 1) := by decide +kernel
theorem dX0_step_115 : decode cX0_step 115 = .ok (.getfield 129, 3) := by decide +kernel
theorem dX0_step_118 : decode cX0_step 118 = .ok (.i2l, 1) := by decide +kernel
theorem dX0_step_119 : decode cX0_step 119 = .ok (.invokevirtual 132, 3) := by decide +kernel
theorem dX0_step_122 : decode cX0_step 122 = .ok (.ireturn, 1) := by decide +kernel
theorem dX0_step_123 : decode cX0_step 123 = .ok (.aload_n 0, 1) := by decide +kernel
theorem dX0_step_124 : decode cX0_step 124 = .ok (.aload_n 1, 1) := by decide +kernel
theorem dX0_step_125 : decode cX0_step 125 = .ok (.aload_n 2, 1) := by decide +kernel
theorem dX0_step_126 : decode cX0_step 126 = .ok (.getfield 126, 3) := by decide +kernel
theorem dX0_step_129 : decode cX0_step 129 = .ok (.aload_n 0, 1) := by decide +kernel
theorem dX0_step_130 : decode cX0_step 130 = .ok (.getfield 12, 3) := by decide +kernel
theorem dX0_step_133 : decode cX0_step 133 = .ok (.aload_n 1, 1) := by decide +kernel
theorem dX0_step_134 : decode cX0_step 134 = .ok (.aload_n 2, 1) := by decide +kernel
theorem dX0_step_135 : decode cX0_step 135 = .ok (.getfield 129, 3) := by decide +kernel
theorem dX0_step_138 : decode cX0_step 138 = .ok (.invokevirtual 102, 3) := by decide +kernel
theorem dX0_step_141 : decode cX0_step 141 = .ok (.invokevirtual 132, 3) := by decide +kernel
theorem dX0_step_144 : decode cX0_step 144 = .ok (.ireturn, 1) := by decide +kernel
theorem dX0_step_145 : decode cX0_step 145 = .ok (.aload_n 0, 1) := by decide +kernel
theorem dX0_step_146 : decode cX0_step 146 = .ok (.aload_n 1, 1) := by decide +kernel
theorem dX0_step_147 : decode cX0_step 147 = .ok (.aload_n 2, 1) := by decide +kernel
theorem dX0_step_148 : decode cX0_step 148 = .ok (.invokevirtual 136, 3) := by decide +kernel
theorem dX0_step_151 : decode cX0_step 151 = .ok (.ireturn, 1) := by decide +kernel
theorem dX0_step_152 : decode cX0_step 152 = .ok (.aload_n 0, 1) := by decide +kernel
theorem dX0_step_153 : decode cX0_step 153 = .ok (.aload_n 1, 1) := by decide +kernel
theorem dX0_step_154 : decode cX0_step 154 = .ok (.aload_n 2, 1) := by decide +kernel
theorem dX0_step_155 : decode cX0_step 155 = .ok (.invokevirtual 140, 3) := by decide +kernel
theorem dX0_step_158 : decode cX0_step 158 = .ok (.ireturn, 1) := by decide +kernel
theorem dX0_step_159 : decode cX0_step 159 = .ok (.aload_n 0, 1) := by decide +kernel
theorem dX0_step_160 : decode cX0_step 160 = .ok (.getfield 21, 3) := by decide +kernel
theorem dX0_step_163 : decode cX0_step 163 = .ok (.aload_n 0, 1) := by decide +kernel
theorem dX0_step_164 : decode cX0_step 164 = .ok (.getfield 12, 3) := by decide +kernel
theorem dX0_step_167 : decode cX0_step 167 = .ok (.aload_n 1, 1) := by decide +kernel
theorem dX0_step_168 : decode cX0_step 168 = .ok (.aload_n 2, 1) := by decide +kernel
theorem dX0_step_169 : decode cX0_step 169 = .ok (.getfield 126, 3) := by decide +kernel
theorem dX0_step_172 : decode cX0_step 172 = .ok (.invokevirtual 102, 3) := by decide +kernel
theorem dX0_step_175 : decode cX0_step 175 = .ok (.aload_n 0, 1) := by decide +kernel
theorem dX0_step_176 : decode cX0_step 176 = .ok (.getfield 12, 3) := by decide +kernel
theorem dX0_step_179 : decode cX0_step 179 = .ok (.aload_n 1, 1) := by decide +kernel
theorem dX0_step_180 : decode cX0_step 180 = .ok (.aload_n 2, 1) := by decide +kernel
theorem dX0_step_181 : decode cX0_step 181 = .ok (.getfield 129, 3) := by decide +kernel
theorem dX0_step_184 : decode cX0_step 184 = .ok (.invokevirtual 102, 3) := by decide +kernel
theorem dX0_step_187 : decode cX0_step 187 = .ok (.invokevirtual 143, 3) := by decide +kernel
theorem dX0_step_190 : decode cX0_step 190 = .ok (.ireturn, 1) := by decide +kernel
theorem dX0_step_191 : decode cX0_step 191 = .ok (.aload_n 0, 1) := by decide +kernel
theorem dX0_step_192 : decode cX0_step 192 = .ok (.aload_n 1, 1) := by decide +kernel
theorem dX0_step_193 : decode cX0_step 193 = .ok (.aload_n 2, 1) := by decide +kernel
theorem dX0_step_194 : decode cX0_step 194 = .ok (.invokevirtual 147, 3) := by decide +kernel
theorem dX0_step_197 : decode cX0_step 197 = .ok (.ireturn, 1) := by decide +kernel
theorem dX0_step_198 : decode cX0_step 198 = .ok (.aload_n 0, 1) := by decide +kernel
theorem dX0_step_199 : decode cX0_step 199 = .ok (.aload_n 1, 1) := by decide +kernel
theorem dX0_step_200 : decode cX0_step 200 = .ok (.aload_n 2, 1) := by decide +kernel
theorem dX0_step_201 : decode cX0_step 201 = .ok (.invokevirtual 150, 3) := by decide +kernel
theorem dX0_step_204 : decode cX0_step 204 = .ok (.ireturn, 1) := by decide +kernel
theorem dX0_step_205 : decode cX0_step 205 = .ok (.aload_n 0, 1) := by decide +kernel
theorem dX0_step_206 : decode cX0_step 206 = .ok (.aload_n 2, 1) := by decide +kernel
theorem dX0_step_207 : decode cX0_step 207 = .ok (.getfield 126, 3) := by decide +kernel
theorem dX0_step_210 : decode cX0_step 210 = .ok (.invokevirtual 152, 3) := by decide +kernel
theorem dX0_step_213 : decode cX0_step 213 = .ok (.ireturn, 1) := by decide +kernel
theorem dX0_step_214 : decode cX0_step 214 = .ok (.aload_n 0, 1) := by decide +kernel
theorem dX0_step_215 : decode cX0_step 215 = .ok (.getfield 12, 3) := by decide +kernel
theorem dX0_step_218 : decode cX0_step 218 = .ok (.aload_n 1, 1) := by decide +kernel
theorem dX0_step_219 : decode cX0_step 219 = .ok (.aload_n 2, 1) := by decide +kernel
theorem dX0_step_220 : decode cX0_step 220 = .ok (.getfield 126, 3) := by decide +kernel
theorem dX0_step_223 : decode cX0_step 223 = .ok (.invokevirtual 102, 3) := by decide +kernel
theorem dX0_step_226 : decode cX0_step 226 = .ok (.aload_n 2, 1) := by decide +kernel
theorem dX0_step_227 : decode cX0_step 227 = .ok (.getfield 129, 3) := by decide +kernel
theorem dX0_step_230 : decode cX0_step 230 = .ok (.invokestatic 156, 3) := by decide +kernel
theorem dX0_step_233 : decode cX0_step 233 = .ok (.ifCond .eq 7, 3) := by decide +kernel
theorem dX0_step_236 : decode cX0_step 236 = .ok (.iconst 0, 1) := by decide +kernel
theorem dX0_step_237 : decode cX0_step 237 = .ok (.goto 11, 3) := by decide +kernel
theorem dX0_step_240 : decode cX0_step 240 = .ok (.aload_n 0, 1) := by decide +kernel
theorem dX0_step_241 : decode cX0_step 241 = .ok (.aload_n 2, 1) := by decide +kernel
theorem dX0_step_242 : decode cX0_step 242 = .ok (.getfield 160, 3) := by decide +kernel
theorem dX0_step_245 : decode cX0_step 245 = .ok (.invokevirtual 152, 3) := by decide +kernel
theorem dX0_step_248 : decode cX0_step 248 = .ok (.ireturn, 1) := by decide +kernel
theorem dX0_step_249 : decode cX0_step 249 = .ok (.aload_n 0, 1) := by decide +kernel
theorem dX0_step_250 : decode cX0_step 250 = .ok (.aload_n 1, 1) := by decide +kernel
theorem dX0_step_251 : decode cX0_step 251 = .ok (.aload_n 2, 1) := by decide +kernel
theorem dX0_step_252 : decode cX0_step 252 = .ok (.getfield 126, 3) := by decide +kernel
theorem dX0_step_255 : decode cX0_step 255 = .ok (.invokevirtual 163, 3) := by decide +kernel
theorem dX0_step_258 : decode cX0_step 258 = .ok (.ireturn, 1) := by decide +kernel
theorem dX0_step_259 : decode cX0_step 259 = .ok (.aload_n 0, 1) := by decide +kernel
theorem dX0_step_260 : decode cX0_step 260 = .ok (.aload_n 1, 1) := by decide +kernel
theorem dX0_step_261 : decode cX0_step 261 = .ok (.aload_n 2, 1) := by decide +kernel
theorem dX0_step_262 : decode cX0_step 262 = .ok (.invokevirtual 167, 3) := by decide +kernel
theorem dX0_step_265 : decode cX0_step 265 = .ok (.ireturn, 1) := by decide +kernel
theorem dX0_step_266 : decode cX0_step 266 = .ok (.aload_n 0, 1) := by decide +kernel
theorem dX0_step_267 : decode cX0_step 267 = .ok (.aload_n 1, 1) := by decide +kernel
theorem dX0_step_268 : decode cX0_step 268 = .ok (.aload_n 2, 1) := by decide +kernel
theorem dX0_step_269 : decode cX0_step 269 = .ok (.getfield 126, 3) := by decide +kernel
theorem dX0_step_272 : decode cX0_step 272 = .ok (.aload_n 0, 1) := by decide +kernel
theorem dX0_step_273 : decode cX0_step 273 = .ok (.getfield 12, 3) := by decide +kernel
theorem dX0_step_276 : decode cX0_step 276 = .ok (.getfield 76, 3) := by decide +kernel
theorem dX0_step_279 : decode cX0_step 279 = .ok (.i2l, 1) := by decide +kernel
theorem dX0_step_280 : decode cX0_step 280 = .ok (.invokevirtual 132, 3) := by decide +kernel
theorem dX0_step_283 : decode cX0_step 283 = .ok (.ireturn, 1) := by decide +kernel
theorem dX0_step_284 : decode cX0_step 284 = .ok (.aload_n 0, 1) := by decide +kernel
theorem dX0_step_285 : decode cX0_step 285 = .ok (.aload_n 1, 1) := by decide +kernel
theorem dX0_step_286 : decode cX0_step 286 = .ok (.aload_n 0, 1) := by decide +kernel
theorem dX0_step_287 : decode cX0_step 287 = .ok (.getfield 12, 3) := by decide +kernel
theorem dX0_step_290 : decode cX0_step 290 = .ok (.aload_n 1, 1) := by decide +kernel
theorem dX0_step_291 : decode cX0_step 291 = .ok (.aload_n 2, 1) := by decide +kernel
theorem dX0_step_292 : decode cX0_step 292 = .ok (.getfield 126, 3) := by decide +kernel
theorem dX0_step_295 : decode cX0_step 295 = .ok (.invokevirtual 102, 3) := by decide +kernel
theorem dX0_step_298 : decode cX0_step 298 = .ok (.invokevirtual 170, 3) := by decide +kernel
theorem dX0_step_301 : decode cX0_step 301 = .ok (.ireturn, 1) := by decide +kernel
theorem dX0_step_302 : decode cX0_step 302 = .ok (.aload_n 0, 1) := by decide +kernel
theorem dX0_step_303 : decode cX0_step 303 = .ok (.aload_n 0, 1) := by decide +kernel
theorem dX0_step_304 : decode cX0_step 304 = .ok (.getfield 12, 3) := by decide +kernel
theorem dX0_step_307 : decode cX0_step 307 = .ok (.aload_n 1, 1) := by decide +kernel
theorem dX0_step_308 : decode cX0_step 308 = .ok (.aload_n 2, 1) := by decide +kernel
theorem dX0_step_309 : decode cX0_step 309 = .ok (.getfield 126, 3) := by decide +kernel
theorem dX0_step_312 : decode cX0_step 312 = .ok (.invokevirtual 102, 3) := by decide +kernel
theorem dX0_step_315 : decode cX0_step 315 = .ok (.invokevirtual 174, 3) := by decide +kernel
theorem dX0_step_318 : decode cX0_step 318 = .ok (.ireturn, 1) := by decide +kernel
theorem dX0_step_319 : decode cX0_step 319 = .ok (.aload_n 0, 1) := by decide +kernel
theorem dX0_step_320 : decode cX0_step 320 = .ok (.aload_n 1, 1) := by decide +kernel
theorem dX0_step_321 : decode cX0_step 321 = .ok (.invokevirtual 178, 3) := by decide +kernel
theorem dX0_step_324 : decode cX0_step 324 = .ok (.ireturn, 1) := by decide +kernel
theorem dX0_step_325 : decode cX0_step 325 = .ok (.bipush 7, 2) := by decide +kernel
theorem dX0_step_327 : decode cX0_step 327 = .ok (.ireturn, 1) := by decide +kernel
theorem dX0_settle_0 : decode cX0_settle 0 = .ok (.iload_n 1, 1) := by decide +kernel
theorem dX0_settle_1 : decode cX0_settle 1 = .ok (.bipush 7, 2) := by decide +kernel
theorem dX0_settle_3 : decode cX0_settle 3 = .ok (.if_icmp .ne 10, 3) := by decide +kernel
theorem dX0_settle_6 : decode cX0_settle 6 = .ok (.aload_n 0, 1) := by decide +kernel
theorem dX0_settle_7 : decode cX0_settle 7 = .ok (.invokevirtual 55, 3) := by decide +kernel
theorem dX0_settle_10 : decode cX0_settle 10 = .ok (.goto 8, 3) := by decide +kernel
theorem dX0_settle_13 : decode cX0_settle 13 = .ok (.aload_n 0, 1) := by decide +kernel
theorem dX0_settle_14 : decode cX0_settle 14 = .ok (.iload_n 1, 1) := by decide +kernel
theorem dX0_settle_15 : decode cX0_settle 15 = .ok (.putfield 25, 3) := by decide +kernel
theorem dX0_settle_18 : decode cX0_settle 18 = .ok (.return_, 1) := by decide +kernel
theorem dX0_become_0 : decode cX0_become 0 = .ok (.aload_n 0, 1) := by decide +kernel
theorem dX0_become_1 : decode cX0_become 1 = .ok (.getfield 12, 3) := by decide +kernel
theorem dX0_become_4 : decode cX0_become 4 = .ok (.aload_n 1, 1) := by decide +kernel
theorem dX0_become_5 : decode cX0_become 5 = .ok (.iload_n 2, 1) := by decide +kernel
theorem dX0_become_6 : decode cX0_become 6 = .ok (.lload_n 3, 1) := by decide +kernel
theorem dX0_become_7 : decode cX0_become 7 = .ok (.invokevirtual 38, 3) := by decide +kernel
theorem dX0_become_10 : decode cX0_become 10 = .ok (.iconst 0, 1) := by decide +kernel
theorem dX0_become_11 : decode cX0_become 11 = .ok (.ireturn, 1) := by decide +kernel
theorem dX0_go_0 : decode cX0_go 0 = .ok (.aload_n 0, 1) := by decide +kernel
theorem dX0_go_1 : decode cX0_go 1 = .ok (.iload_n 1, 1) := by decide +kernel
theorem dX0_go_2 : decode cX0_go 2 = .ok (.putfield 52, 3) := by decide +kernel
theorem dX0_go_5 : decode cX0_go 5 = .ok (.iconst 0, 1) := by decide +kernel
theorem dX0_go_6 : decode cX0_go 6 = .ok (.ireturn, 1) := by decide +kernel
theorem dX0_make_0 : decode cX0_make 0 = .ok (.aload_n 0, 1) := by decide +kernel
theorem dX0_make_1 : decode cX0_make 1 = .ok (.getfield 21, 3) := by decide +kernel
theorem dX0_make_4 : decode cX0_make 4 = .ok (.aload_n 2, 1) := by decide +kernel
theorem dX0_make_5 : decode cX0_make 5 = .ok (.getfield 181, 3) := by decide +kernel
theorem dX0_make_8 : decode cX0_make 8 = .ok (.arraylength, 1) := by decide +kernel
theorem dX0_make_9 : decode cX0_make 9 = .ok (.invokevirtual 184, 3) := by decide +kernel
theorem dX0_make_12 : decode cX0_make 12 = .ok (.ifCond .ne 5, 3) := by decide +kernel
theorem dX0_make_15 : decode cX0_make 15 = .ok (.iconst 5, 1) := by decide +kernel
theorem dX0_make_16 : decode cX0_make 16 = .ok (.ireturn, 1) := by decide +kernel
theorem dX0_make_17 : decode cX0_make 17 = .ok (.aload_n 0, 1) := by decide +kernel
theorem dX0_make_18 : decode cX0_make 18 = .ok (.getfield 21, 3) := by decide +kernel
theorem dX0_make_21 : decode cX0_make 21 = .ok (.aload_n 2, 1) := by decide +kernel
theorem dX0_make_22 : decode cX0_make 22 = .ok (.getfield 129, 3) := by decide +kernel
theorem dX0_make_25 : decode cX0_make 25 = .ok (.aload_n 2, 1) := by decide +kernel
theorem dX0_make_26 : decode cX0_make 26 = .ok (.getfield 181, 3) := by decide +kernel
theorem dX0_make_29 : decode cX0_make 29 = .ok (.arraylength, 1) := by decide +kernel
theorem dX0_make_30 : decode cX0_make 30 = .ok (.invokevirtual 187, 3) := by decide +kernel
theorem dX0_make_33 : decode cX0_make 33 = .ok (.lstore_n 3, 1) := by decide +kernel
theorem dX0_make_34 : decode cX0_make 34 = .ok (.aload_n 2, 1) := by decide +kernel
theorem dX0_make_35 : decode cX0_make 35 = .ok (.getfield 181, 3) := by decide +kernel
theorem dX0_make_38 : decode cX0_make 38 = .ok (.astore 5, 2) := by decide +kernel
theorem dX0_make_40 : decode cX0_make 40 = .ok (.aload 5, 2) := by decide +kernel
theorem dX0_make_42 : decode cX0_make 42 = .ok (.arraylength, 1) := by decide +kernel
theorem dX0_make_43 : decode cX0_make 43 = .ok (.istore 6, 2) := by decide +kernel
theorem dX0_make_45 : decode cX0_make 45 = .ok (.iconst 0, 1) := by decide +kernel
theorem dX0_make_46 : decode cX0_make 46 = .ok (.istore 7, 2) := by decide +kernel
theorem dX0_make_48 : decode cX0_make 48 = .ok (.iload 7, 2) := by decide +kernel
theorem dX0_make_50 : decode cX0_make 50 = .ok (.iload 6, 2) := by decide +kernel
theorem dX0_make_52 : decode cX0_make 52 = .ok (.if_icmp .ge 33, 3) := by decide +kernel
theorem dX0_make_55 : decode cX0_make 55 = .ok (.aload 5, 2) := by decide +kernel
theorem dX0_make_57 : decode cX0_make 57 = .ok (.iload 7, 2) := by decide +kernel
theorem dX0_make_59 : decode cX0_make 59 = .ok (.iaload, 1) := by decide +kernel
theorem dX0_make_60 : decode cX0_make 60 = .ok (.istore 8, 2) := by decide +kernel
theorem dX0_make_62 : decode cX0_make 62 = .ok (.aload_n 0, 1) := by decide +kernel
theorem dX0_make_63 : decode cX0_make 63 = .ok (.getfield 21, 3) := by decide +kernel
theorem dX0_make_66 : decode cX0_make 66 = .ok (.aload_n 0, 1) := by decide +kernel
theorem dX0_make_67 : decode cX0_make 67 = .ok (.getfield 12, 3) := by decide +kernel
theorem dX0_make_70 : decode cX0_make 70 = .ok (.aload_n 1, 1) := by decide +kernel
theorem dX0_make_71 : decode cX0_make 71 = .ok (.iload 8, 2) := by decide +kernel
theorem dX0_make_73 : decode cX0_make 73 = .ok (.invokevirtual 102, 3) := by decide +kernel
theorem dX0_make_76 : decode cX0_make 76 = .ok (.invokevirtual 191, 3) := by decide +kernel
theorem dX0_make_79 : decode cX0_make 79 = .ok (.iinc 7 1, 3) := by decide +kernel
theorem dX0_make_82 : decode cX0_make 82 = .ok (.goto (-34), 3) := by decide +kernel
theorem dX0_make_85 : decode cX0_make 85 = .ok (.aload_n 0, 1) := by decide +kernel
theorem dX0_make_86 : decode cX0_make 86 = .ok (.aload_n 1, 1) := by decide +kernel
theorem dX0_make_87 : decode cX0_make 87 = .ok (.aload_n 2, 1) := by decide +kernel
theorem dX0_make_88 : decode cX0_make 88 = .ok (.getfield 126, 3) := by decide +kernel
theorem dX0_make_91 : decode cX0_make 91 = .ok (.lload_n 3, 1) := by decide +kernel
theorem dX0_make_92 : decode cX0_make 92 = .ok (.invokevirtual 132, 3) := by decide +kernel
theorem dX0_make_95 : decode cX0_make 95 = .ok (.ireturn, 1) := by decide +kernel
theorem dX0_take_0 : decode cX0_take 0 = .ok (.aload_n 0, 1) := by decide +kernel
theorem dX0_take_1 : decode cX0_take 1 = .ok (.getfield 12, 3) := by decide +kernel
theorem dX0_take_4 : decode cX0_take 4 = .ok (.aload_n 1, 1) := by decide +kernel
theorem dX0_take_5 : decode cX0_take 5 = .ok (.aload_n 2, 1) := by decide +kernel
theorem dX0_take_6 : decode cX0_take 6 = .ok (.getfield 126, 3) := by decide +kernel
theorem dX0_take_9 : decode cX0_take 9 = .ok (.invokevirtual 102, 3) := by decide +kernel
theorem dX0_take_12 : decode cX0_take 12 = .ok (.lstore_n 3, 1) := by decide +kernel
theorem dX0_take_13 : decode cX0_take 13 = .ok (.lload_n 3, 1) := by decide +kernel
theorem dX0_take_14 : decode cX0_take 14 = .ok (.aload_n 2, 1) := by decide +kernel
theorem dX0_take_15 : decode cX0_take 15 = .ok (.getfield 129, 3) := by decide +kernel
theorem dX0_take_18 : decode cX0_take 18 = .ok (.invokestatic 156, 3) := by decide +kernel
theorem dX0_take_21 : decode cX0_take 21 = .ok (.ifCond .eq 15, 3) := by decide +kernel
theorem dX0_take_24 : decode cX0_take 24 = .ok (.lload_n 3, 1) := by decide +kernel
theorem dX0_take_25 : decode cX0_take 25 = .ok (.invokestatic 195, 3) := by decide +kernel
theorem dX0_take_28 : decode cX0_take 28 = .ok (.aload_n 2, 1) := by decide +kernel
theorem dX0_take_29 : decode cX0_take 29 = .ok (.getfield 181, 3) := by decide +kernel
theorem dX0_take_32 : decode cX0_take 32 = .ok (.arraylength, 1) := by decide +kernel
theorem dX0_take_33 : decode cX0_take 33 = .ok (.if_icmp .eq 6, 3) := by decide +kernel
theorem dX0_take_36 : decode cX0_take 36 = .ok (.bipush 7, 2) := by decide +kernel
theorem dX0_take_38 : decode cX0_take 38 = .ok (.ireturn, 1) := by decide +kernel
theorem dX0_take_39 : decode cX0_take 39 = .ok (.iconst 0, 1) := by decide +kernel
theorem dX0_take_40 : decode cX0_take 40 = .ok (.istore 5, 2) := by decide +kernel
theorem dX0_take_42 : decode cX0_take 42 = .ok (.iload 5, 2) := by decide +kernel
theorem dX0_take_44 : decode cX0_take 44 = .ok (.aload_n 2, 1) := by decide +kernel
theorem dX0_take_45 : decode cX0_take 45 = .ok (.getfield 181, 3) := by decide +kernel
theorem dX0_take_48 : decode cX0_take 48 = .ok (.arraylength, 1) := by decide +kernel
theorem dX0_take_49 : decode cX0_take 49 = .ok (.if_icmp .ge 34, 3) := by decide +kernel
theorem dX0_take_52 : decode cX0_take 52 = .ok (.aload_n 0, 1) := by decide +kernel
theorem dX0_take_53 : decode cX0_take 53 = .ok (.getfield 12, 3) := by decide +kernel
theorem dX0_take_56 : decode cX0_take 56 = .ok (.aload_n 1, 1) := by decide +kernel
theorem dX0_take_57 : decode cX0_take 57 = .ok (.aload_n 2, 1) := by decide +kernel
theorem dX0_take_58 : decode cX0_take 58 = .ok (.getfield 181, 3) := by decide +kernel
theorem dX0_take_61 : decode cX0_take 61 = .ok (.iload 5, 2) := by decide +kernel
theorem dX0_take_63 : decode cX0_take 63 = .ok (.iaload, 1) := by decide +kernel
theorem dX0_take_64 : decode cX0_take 64 = .ok (.aload_n 0, 1) := by decide +kernel
theorem dX0_take_65 : decode cX0_take 65 = .ok (.getfield 21, 3) := by decide +kernel
theorem dX0_take_68 : decode cX0_take 68 = .ok (.lload_n 3, 1) := by decide +kernel
theorem dX0_take_69 : decode cX0_take 69 = .ok (.iload 5, 2) := by decide +kernel
theorem dX0_take_71 : decode cX0_take 71 = .ok (.invokevirtual 198, 3) := by decide +kernel
theorem dX0_take_74 : decode cX0_take 74 = .ok (.invokevirtual 38, 3) := by decide +kernel
theorem dX0_take_77 : decode cX0_take 77 = .ok (.iinc 5 1, 3) := by decide +kernel
theorem dX0_take_80 : decode cX0_take 80 = .ok (.goto (-38), 3) := by decide +kernel
theorem dX0_take_83 : decode cX0_take 83 = .ok (.iconst 0, 1) := by decide +kernel
theorem dX0_take_84 : decode cX0_take 84 = .ok (.ireturn, 1) := by decide +kernel
theorem dX0_sum_0 : decode cX0_sum 0 = .ok (.aload_n 0, 1) := by decide +kernel
theorem dX0_sum_1 : decode cX0_sum 1 = .ok (.getfield 12, 3) := by decide +kernel
theorem dX0_sum_4 : decode cX0_sum 4 = .ok (.aload_n 1, 1) := by decide +kernel
theorem dX0_sum_5 : decode cX0_sum 5 = .ok (.aload_n 2, 1) := by decide +kernel
theorem dX0_sum_6 : decode cX0_sum 6 = .ok (.getfield 129, 3) := by decide +kernel
theorem dX0_sum_9 : decode cX0_sum 9 = .ok (.invokevirtual 102, 3) := by decide +kernel
theorem dX0_sum_12 : decode cX0_sum 12 = .ok (.lstore_n 3, 1) := by decide +kernel
theorem dX0_sum_13 : decode cX0_sum 13 = .ok (.aload_n 0, 1) := by decide +kernel
theorem dX0_sum_14 : decode cX0_sum 14 = .ok (.getfield 12, 3) := by decide +kernel
theorem dX0_sum_17 : decode cX0_sum 17 = .ok (.aload_n 1, 1) := by decide +kernel
theorem dX0_sum_18 : decode cX0_sum 18 = .ok (.aload_n 2, 1) := by decide +kernel
theorem dX0_sum_19 : decode cX0_sum 19 = .ok (.getfield 160, 3) := by decide +kernel
theorem dX0_sum_22 : decode cX0_sum 22 = .ok (.invokevirtual 102, 3) := by decide +kernel
theorem dX0_sum_25 : decode cX0_sum 25 = .ok (.lstore 5, 2) := by decide +kernel
theorem dX0_sum_27 : decode cX0_sum 27 = .ok (.lload_n 3, 1) := by decide +kernel
theorem dX0_sum_28 : decode cX0_sum 28 = .ok (.invokestatic 202, 3) := by decide +kernel
theorem dX0_sum_31 : decode cX0_sum 31 = .ok (.ifCond .ne 11, 3) := by decide +kernel
theorem dX0_sum_34 : decode cX0_sum 34 = .ok (.lload 5, 2) := by decide +kernel
theorem dX0_sum_36 : decode cX0_sum 36 = .ok (.invokestatic 202, 3) := by decide +kernel
theorem dX0_sum_39 : decode cX0_sum 39 = .ok (.ifCond .eq 6, 3) := by decide +kernel
theorem dX0_sum_42 : decode cX0_sum 42 = .ok (.bipush 6, 2) := by decide +kernel
theorem dX0_sum_44 : decode cX0_sum 44 = .ok (.ireturn, 1) := by decide +kernel
theorem dX0_sum_45 : decode cX0_sum 45 = .ok (.lload 5, 2) := by decide +kernel
theorem dX0_sum_47 : decode cX0_sum 47 = .ok (.lconst 0, 1) := by decide +kernel
theorem dX0_sum_48 : decode cX0_sum 48 = .ok (.lcmp, 1) := by decide +kernel
theorem dX0_sum_49 : decode cX0_sum 49 = .ok (.ifCond .ne 22, 3) := by decide +kernel
theorem dX0_sum_52 : decode cX0_sum 52 = .ok (.aload_n 2, 1) := by decide +kernel
theorem dX0_sum_53 : decode cX0_sum 53 = .ok (.getfield 206, 3) := by decide +kernel
theorem dX0_sum_56 : decode cX0_sum 56 = .ok (.iconst 3, 1) := by decide +kernel
theorem dX0_sum_57 : decode cX0_sum 57 = .ok (.if_icmp .eq 11, 3) := by decide +kernel
theorem dX0_sum_60 : decode cX0_sum 60 = .ok (.aload_n 2, 1) := by decide +kernel
theorem dX0_sum_61 : decode cX0_sum 61 = .ok (.getfield 206, 3) := by decide +kernel
theorem dX0_sum_64 : decode cX0_sum 64 = .ok (.iconst 4, 1) := by decide +kernel
theorem dX0_sum_65 : decode cX0_sum 65 = .ok (.if_icmp .ne 6, 3) := by decide +kernel
theorem dX0_sum_68 : decode cX0_sum 68 = .ok (.bipush 7, 2) := by decide +kernel
theorem dX0_sum_70 : decode cX0_sum 70 = .ok (.ireturn, 1) := by decide +kernel
theorem dX0_sum_71 : decode cX0_sum 71 = .ok (.aload_n 0, 1) := by decide +kernel
theorem dX0_sum_72 : decode cX0_sum 72 = .ok (.aload_n 1, 1) := by decide +kernel
theorem dX0_sum_73 : decode cX0_sum 73 = .ok (.aload_n 2, 1) := by decide +kernel
theorem dX0_sum_74 : decode cX0_sum 74 = .ok (.getfield 126, 3) := by decide +kernel
theorem dX0_sum_77 : decode cX0_sum 77 = .ok (.aload_n 2, 1) := by decide +kernel
theorem dX0_sum_78 : decode cX0_sum 78 = .ok (.getfield 206, 3) := by decide +kernel
theorem dX0_sum_81 : decode cX0_sum 81 = .ok (.lload_n 3, 1) := by decide +kernel
theorem dX0_sum_82 : decode cX0_sum 82 = .ok (.l2i, 1) := by decide +kernel
theorem dX0_sum_83 : decode cX0_sum 83 = .ok (.lload 5, 2) := by decide +kernel
theorem dX0_sum_85 : decode cX0_sum 85 = .ok (.l2i, 1) := by decide +kernel
theorem dX0_sum_86 : decode cX0_sum 86 = .ok (.invokestatic 209, 3) := by decide +kernel
theorem dX0_sum_89 : decode cX0_sum 89 = .ok (.i2l, 1) := by decide +kernel
theorem dX0_sum_90 : decode cX0_sum 90 = .ok (.invokevirtual 132, 3) := by decide +kernel
theorem dX0_sum_93 : decode cX0_sum 93 = .ok (.ireturn, 1) := by decide +kernel
theorem dX0_result_0 : decode cX0_result 0 = .ok (.iload_n 0, 1) := by decide +kernel
theorem dX0_result_1 : decode cX0_result 1 = .ok (.tableswitch 55 0 3 #[31, 35, 39, 43], 31) := by decide +kernel
theorem dX0_result_32 : decode cX0_result 32 = .ok (.iload_n 1, 1) := by decide +kernel
theorem dX0_result_33 : decode cX0_result 33 = .ok (.iload_n 2, 1) := by decide +kernel
theorem dX0_result_34 : decode cX0_result 34 = .ok (.iadd, 1) := by decide +kernel
theorem dX0_result_35 : decode cX0_result 35 = .ok (.ireturn, 1) := by decide +kernel
theorem dX0_result_36 : decode cX0_result 36 = .ok (.iload_n 1, 1) := by decide +kernel
theorem dX0_result_37 : decode cX0_result 37 = .ok (.iload_n 2, 1) := by decide +kernel
theorem dX0_result_38 : decode cX0_result 38 = .ok (.isub, 1) := by decide +kernel
theorem dX0_result_39 : decode cX0_result 39 = .ok (.ireturn, 1) := by decide +kernel
theorem dX0_result_40 : decode cX0_result 40 = .ok (.iload_n 1, 1) := by decide +kernel
theorem dX0_result_41 : decode cX0_result 41 = .ok (.iload_n 2, 1) := by decide +kernel
theorem dX0_result_42 : decode cX0_result 42 = .ok (.imul, 1) := by decide +kernel
theorem dX0_result_43 : decode cX0_result 43 = .ok (.ireturn, 1) := by decide +kernel
theorem dX0_result_44 : decode cX0_result 44 = .ok (.iload_n 2, 1) := by decide +kernel
theorem dX0_result_45 : decode cX0_result 45 = .ok (.ifCond .ne 7, 3) := by decide +kernel
theorem dX0_result_48 : decode cX0_result 48 = .ok (.iconst 0, 1) := by decide +kernel
theorem dX0_result_49 : decode cX0_result 49 = .ok (.goto 6, 3) := by decide +kernel
theorem dX0_result_52 : decode cX0_result 52 = .ok (.iload_n 1, 1) := by decide +kernel
theorem dX0_result_53 : decode cX0_result 53 = .ok (.iload_n 2, 1) := by decide +kernel
theorem dX0_result_54 : decode cX0_result 54 = .ok (.idiv, 1) := by decide +kernel
theorem dX0_result_55 : decode cX0_result 55 = .ok (.ireturn, 1) := by decide +kernel
theorem dX0_result_56 : decode cX0_result 56 = .ok (.iload_n 2, 1) := by decide +kernel
theorem dX0_result_57 : decode cX0_result 57 = .ok (.ifCond .ne 7, 3) := by decide +kernel
theorem dX0_result_60 : decode cX0_result 60 = .ok (.iconst 0, 1) := by decide +kernel
theorem dX0_result_61 : decode cX0_result 61 = .ok (.goto 6, 3) := by decide +kernel
theorem dX0_result_64 : decode cX0_result 64 = .ok (.iload_n 1, 1) := by decide +kernel
theorem dX0_result_65 : decode cX0_result 65 = .ok (.iload_n 2, 1) := by decide +kernel
theorem dX0_result_66 : decode cX0_result 66 = .ok (.irem, 1) := by decide +kernel
theorem dX0_result_67 : decode cX0_result 67 = .ok (.ireturn, 1) := by decide +kernel
theorem dX0_compare_0 : decode cX0_compare 0 = .ok (.aload_n 0, 1) := by decide +kernel
theorem dX0_compare_1 : decode cX0_compare 1 = .ok (.getfield 12, 3) := by decide +kernel
theorem dX0_compare_4 : decode cX0_compare 4 = .ok (.aload_n 1, 1) := by decide +kernel
theorem dX0_compare_5 : decode cX0_compare 5 = .ok (.aload_n 2, 1) := by decide +kernel
theorem dX0_compare_6 : decode cX0_compare 6 = .ok (.getfield 126, 3) := by decide +kernel
theorem dX0_compare_9 : decode cX0_compare 9 = .ok (.invokevirtual 102, 3) := by decide +kernel
theorem dX0_compare_12 : decode cX0_compare 12 = .ok (.lstore_n 3, 1) := by decide +kernel
theorem dX0_compare_13 : decode cX0_compare 13 = .ok (.aload_n 0, 1) := by decide +kernel
theorem dX0_compare_14 : decode cX0_compare 14 = .ok (.getfield 12, 3) := by decide +kernel
theorem dX0_compare_17 : decode cX0_compare 17 = .ok (.aload_n 1, 1) := by decide +kernel
theorem dX0_compare_18 : decode cX0_compare 18 = .ok (.aload_n 2, 1) := by decide +kernel
theorem dX0_compare_19 : decode cX0_compare 19 = .ok (.getfield 129, 3) := by decide +kernel
theorem dX0_compare_22 : decode cX0_compare 22 = .ok (.invokevirtual 102, 3) := by decide +kernel
theorem dX0_compare_25 : decode cX0_compare 25 = .ok (.lstore 5, 2) := by decide +kernel
theorem dX0_compare_27 : decode cX0_compare 27 = .ok (.lload_n 3, 1) := by decide +kernel
theorem dX0_compare_28 : decode cX0_compare 28 = .ok (.invokestatic 202, 3) := by decide +kernel
theorem dX0_compare_31 : decode cX0_compare 31 = .ok (.ifCond .ne 11, 3) := by decide +kernel
theorem dX0_compare_34 : decode cX0_compare 34 = .ok (.lload 5, 2) := by decide +kernel
theorem dX0_compare_36 : decode cX0_compare 36 = .ok (.invokestatic 202, 3) := by decide +kernel
theorem dX0_compare_39 : decode cX0_compare 39 = .ok (.ifCond .eq 6, 3) := by decide +kernel
theorem dX0_compare_42 : decode cX0_compare 42 = .ok (.bipush 6, 2) := by decide +kernel
theorem dX0_compare_44 : decode cX0_compare 44 = .ok (.ireturn, 1) := by decide +kernel
theorem dX0_compare_45 : decode cX0_compare 45 = .ok (.aload_n 2, 1) := by decide +kernel
theorem dX0_compare_46 : decode cX0_compare 46 = .ok (.getfield 160, 3) := by decide +kernel
theorem dX0_compare_49 : decode cX0_compare 49 = .ok (.lload_n 3, 1) := by decide +kernel
theorem dX0_compare_50 : decode cX0_compare 50 = .ok (.lload 5, 2) := by decide +kernel
theorem dX0_compare_52 : decode cX0_compare 52 = .ok (.invokestatic 213, 3) := by decide +kernel
theorem dX0_compare_55 : decode cX0_compare 55 = .ok (.ifCond .eq 7, 3) := by decide +kernel
theorem dX0_compare_58 : decode cX0_compare 58 = .ok (.iconst 0, 1) := by decide +kernel
theorem dX0_compare_59 : decode cX0_compare 59 = .ok (.goto 5, 3) := by decide +kernel
theorem dX0_compare_62 : decode cX0_compare 62 = .ok (.bipush 7, 2) := by decide +kernel
theorem dX0_compare_64 : decode cX0_compare 64 = .ok (.ireturn, 1) := by decide +kernel
theorem dX0_holds_0 : decode cX0_holds 0 = .ok (.iload_n 0, 1) := by decide +kernel
theorem dX0_holds_1 : decode cX0_holds 1 = .ok (.tableswitch 95 0 4 #[35, 47, 59, 71, 83], 35) := by decide +kernel
theorem dX0_holds_36 : decode cX0_holds 36 = .ok (.lload_n 1, 1) := by decide +kernel
theorem dX0_holds_37 : decode cX0_holds 37 = .ok (.lload_n 3, 1) := by decide +kernel
theorem dX0_holds_38 : decode cX0_holds 38 = .ok (.lcmp, 1) := by decide +kernel
theorem dX0_holds_39 : decode cX0_holds 39 = .ok (.ifCond .ge 7, 3) := by decide +kernel
theorem dX0_holds_42 : decode cX0_holds 42 = .ok (.iconst 1, 1) := by decide +kernel
theorem dX0_holds_43 : decode cX0_holds 43 = .ok (.goto 4, 3) := by decide +kernel
theorem dX0_holds_46 : decode cX0_holds 46 = .ok (.iconst 0, 1) := by decide +kernel
theorem dX0_holds_47 : decode cX0_holds 47 = .ok (.ireturn, 1) := by decide +kernel
theorem dX0_holds_48 : decode cX0_holds 48 = .ok (.lload_n 1, 1) := by decide +kernel
theorem dX0_holds_49 : decode cX0_holds 49 = .ok (.lload_n 3, 1) := by decide +kernel
theorem dX0_holds_50 : decode cX0_holds 50 = .ok (.lcmp, 1) := by decide +kernel
theorem dX0_holds_51 : decode cX0_holds 51 = .ok (.ifCond .gt 7, 3) := by decide +kernel
theorem dX0_holds_54 : decode cX0_holds 54 = .ok (.iconst 1, 1) := by decide +kernel
theorem dX0_holds_55 : decode cX0_holds 55 = .ok (.goto 4, 3) := by decide +kernel
theorem dX0_holds_58 : decode cX0_holds 58 = .ok (.iconst 0, 1) := by decide +kernel
theorem dX0_holds_59 : decode cX0_holds 59 = .ok (.ireturn, 1) := by decide +kernel
theorem dX0_holds_60 : decode cX0_holds 60 = .ok (.lload_n 1, 1) := by decide +kernel
theorem dX0_holds_61 : decode cX0_holds 61 = .ok (.lload_n 3, 1) := by decide +kernel
theorem dX0_holds_62 : decode cX0_holds 62 = .ok (.lcmp, 1) := by decide +kernel
theorem dX0_holds_63 : decode cX0_holds 63 = .ok (.ifCond .le 7, 3) := by decide +kernel
theorem dX0_holds_66 : decode cX0_holds 66 = .ok (.iconst 1, 1) := by decide +kernel
theorem dX0_holds_67 : decode cX0_holds 67 = .ok (.goto 4, 3) := by decide +kernel
theorem dX0_holds_70 : decode cX0_holds 70 = .ok (.iconst 0, 1) := by decide +kernel
theorem dX0_holds_71 : decode cX0_holds 71 = .ok (.ireturn, 1) := by decide +kernel
theorem dX0_holds_72 : decode cX0_holds 72 = .ok (.lload_n 1, 1) := by decide +kernel
theorem dX0_holds_73 : decode cX0_holds 73 = .ok (.lload_n 3, 1) := by decide +kernel
theorem dX0_holds_74 : decode cX0_holds 74 = .ok (.lcmp, 1) := by decide +kernel
theorem dX0_holds_75 : decode cX0_holds 75 = .ok (.ifCond .lt 7, 3) := by decide +kernel
theorem dX0_holds_78 : decode cX0_holds 78 = .ok (.iconst 1, 1) := by decide +kernel
theorem dX0_holds_79 : decode cX0_holds 79 = .ok (.goto 4, 3) := by decide +kernel
theorem dX0_holds_82 : decode cX0_holds 82 = .ok (.iconst 0, 1) := by decide +kernel
theorem dX0_holds_83 : decode cX0_holds 83 = .ok (.ireturn, 1) := by decide +kernel
theorem dX0_holds_84 : decode cX0_holds 84 = .ok (.lload_n 1, 1) := by decide +kernel
theorem dX0_holds_85 : decode cX0_holds 85 = .ok (.lload_n 3, 1) := by decide +kernel
theorem dX0_holds_86 : decode cX0_holds 86 = .ok (.lcmp, 1) := by decide +kernel
theorem dX0_holds_87 : decode cX0_holds 87 = .ok (.ifCond .ne 7, 3) := by decide +kernel
theorem dX0_holds_90 : decode cX0_holds 90 = .ok (.iconst 1, 1) := by decide +kernel
theorem dX0_holds_91 : decode cX0_holds 91 = .ok (.goto 4, 3) := by decide +kernel
theorem dX0_holds_94 : decode cX0_holds 94 = .ok (.iconst 0, 1) := by decide +kernel
theorem dX0_holds_95 : decode cX0_holds 95 = .ok (.ireturn, 1) := by decide +kernel
theorem dX0_holds_96 : decode cX0_holds 96 = .ok (.lload_n 1, 1) := by decide +kernel
theorem dX0_holds_97 : decode cX0_holds 97 = .ok (.lload_n 3, 1) := by decide +kernel
theorem dX0_holds_98 : decode cX0_holds 98 = .ok (.lcmp, 1) := by decide +kernel
theorem dX0_holds_99 : decode cX0_holds 99 = .ok (.ifCond .eq 7, 3) := by decide +kernel
theorem dX0_holds_102 : decode cX0_holds 102 = .ok (.iconst 1, 1) := by decide +kernel
theorem dX0_holds_103 : decode cX0_holds 103 = .ok (.goto 4, 3) := by decide +kernel
theorem dX0_holds_106 : decode cX0_holds 106 = .ok (.iconst 0, 1) := by decide +kernel
theorem dX0_holds_107 : decode cX0_holds 107 = .ok (.ireturn, 1) := by decide +kernel
theorem dX0_leaveRedo_0 : decode cX0_leaveRedo 0 = .ok (.aload_n 0, 1) := by decide +kernel
theorem dX0_leaveRedo_1 : decode cX0_leaveRedo 1 = .ok (.getfield 12, 3) := by decide +kernel
theorem dX0_leaveRedo_4 : decode cX0_leaveRedo 4 = .ok (.iconst 3, 1) := by decide +kernel
theorem dX0_leaveRedo_5 : decode cX0_leaveRedo 5 = .ok (.invokevirtual 217, 3) := by decide +kernel
theorem dX0_leaveRedo_8 : decode cX0_leaveRedo 8 = .ok (.ifCond .ne 5, 3) := by decide +kernel
theorem dX0_leaveRedo_11 : decode cX0_leaveRedo 11 = .ok (.iconst 4, 1) := by decide +kernel
theorem dX0_leaveRedo_12 : decode cX0_leaveRedo 12 = .ok (.ireturn, 1) := by decide +kernel
theorem dX0_leaveRedo_13 : decode cX0_leaveRedo 13 = .ok (.aload_n 0, 1) := by decide +kernel
theorem dX0_leaveRedo_14 : decode cX0_leaveRedo 14 = .ok (.getfield 12, 3) := by decide +kernel
theorem dX0_leaveRedo_17 : decode cX0_leaveRedo 17 = .ok (.aload_n 1, 1) := by decide +kernel
theorem dX0_leaveRedo_18 : decode cX0_leaveRedo 18 = .ok (.iload_n 2, 1) := by decide +kernel
theorem dX0_leaveRedo_19 : decode cX0_leaveRedo 19 = .ok (.aload_n 0, 1) := by decide +kernel
theorem dX0_leaveRedo_20 : decode cX0_leaveRedo 20 = .ok (.getfield 21, 3) := by decide +kernel
theorem dX0_leaveRedo_23 : decode cX0_leaveRedo 23 = .ok (.invokevirtual 72, 3) := by decide +kernel
theorem dX0_leaveRedo_26 : decode cX0_leaveRedo 26 = .ok (.invokevirtual 218, 3) := by decide +kernel
theorem dX0_leaveRedo_29 : decode cX0_leaveRedo 29 = .ok (.iconst 0, 1) := by decide +kernel
theorem dX0_leaveRedo_30 : decode cX0_leaveRedo 30 = .ok (.ireturn, 1) := by decide +kernel
theorem dX0_call_0 : decode cX0_call 0 = .ok (.aload_n 2, 1) := by decide +kernel
theorem dX0_call_1 : decode cX0_call 1 = .ok (.getfield 222, 3) := by decide +kernel
theorem dX0_call_4 : decode cX0_call 4 = .ok (.astore_n 3, 1) := by decide +kernel
theorem dX0_call_5 : decode cX0_call 5 = .ok (.aload_n 3, 1) := by decide +kernel
theorem dX0_call_6 : decode cX0_call 6 = .ok (.ifnull 17, 3) := by decide +kernel
theorem dX0_call_9 : decode cX0_call 9 = .ok (.aload_n 0, 1) := by decide +kernel
theorem dX0_call_10 : decode cX0_call 10 = .ok (.getfield 12, 3) := by decide +kernel
theorem dX0_call_13 : decode cX0_call 13 = .ok (.aload_n 3, 1) := by decide +kernel
theorem dX0_call_14 : decode cX0_call 14 = .ok (.invokevirtual 225, 3) := by decide +kernel
theorem dX0_call_17 : decode cX0_call 17 = .ok (.invokevirtual 217, 3) := by decide +kernel
theorem dX0_call_20 : decode cX0_call 20 = .ok (.ifCond .ne 5, 3) := by decide +kernel
theorem dX0_call_23 : decode cX0_call 23 = .ok (.iconst 4, 1) := by decide +kernel
theorem dX0_call_24 : decode cX0_call 24 = .ok (.ireturn, 1) := by decide +kernel
theorem dX0_call_25 : decode cX0_call 25 = .ok (.aload_n 0, 1) := by decide +kernel
theorem dX0_call_26 : decode cX0_call 26 = .ok (.getfield 12, 3) := by decide +kernel
theorem dX0_call_29 : decode cX0_call 29 = .ok (.aload_n 3, 1) := by decide +kernel
theorem dX0_call_30 : decode cX0_call 30 = .ok (.invokevirtual 34, 3) := by decide +kernel
theorem dX0_call_33 : decode cX0_call 33 = .ok (.astore 4, 2) := by decide +kernel
theorem dX0_call_35 : decode cX0_call 35 = .ok (.aload 4, 2) := by decide +kernel
theorem dX0_call_37 : decode cX0_call 37 = .ok (.aload_n 1, 1) := by decide +kernel
theorem dX0_call_38 : decode cX0_call 38 = .ok (.putfield 228, 3) := by decide +kernel
theorem dX0_call_41 : decode cX0_call 41 = .ok (.aload 4, 2) := by decide +kernel
theorem dX0_call_43 : decode cX0_call 43 = .ok (.aload_n 2, 1) := by decide +kernel
theorem dX0_call_44 : decode cX0_call 44 = .ok (.putfield 231, 3) := by decide +kernel
theorem dX0_call_47 : decode cX0_call 47 = .ok (.aload 4, 2) := by decide +kernel
theorem dX0_call_49 : decode cX0_call 49 = .ok (.aload_n 0, 1) := by decide +kernel
theorem dX0_call_50 : decode cX0_call 50 = .ok (.getfield 52, 3) := by decide +kernel
theorem dX0_call_53 : decode cX0_call 53 = .ok (.putfield 234, 3) := by decide +kernel
theorem dX0_call_56 : decode cX0_call 56 = .ok (.iconst 0, 1) := by decide +kernel
theorem dX0_call_57 : decode cX0_call 57 = .ok (.istore 5, 2) := by decide +kernel
theorem dX0_call_59 : decode cX0_call 59 = .ok (.iload 5, 2) := by decide +kernel
theorem dX0_call_61 : decode cX0_call 61 = .ok (.aload_n 3, 1) := by decide +kernel
theorem dX0_call_62 : decode cX0_call 62 = .ok (.getfield 237, 3) := by decide +kernel
theorem dX0_call_65 : decode cX0_call 65 = .ok (.if_icmp .ge 45, 3) := by decide +kernel
theorem dX0_call_68 : decode cX0_call 68 = .ok (.iload 5, 2) := by decide +kernel
theorem dX0_call_70 : decode cX0_call 70 = .ok (.aload_n 2, 1) := by decide +kernel
theorem dX0_call_71 : decode cX0_call 71 = .ok (.getfield 181, 3) := by decide +kernel
theorem dX0_call_74 : decode cX0_call 74 = .ok (.arraylength, 1) := by decide +kernel
theorem dX0_call_75 : decode cX0_call 75 = .ok (.if_icmp .ge 35, 3) := by decide +kernel
theorem dX0_call_78 : decode cX0_call 78 = .ok (.aload_n 0, 1) := by decide +kernel
theorem dX0_call_79 : decode cX0_call 79 = .ok (.getfield 12, 3) := by decide +kernel
theorem dX0_call_82 : decode cX0_call 82 = .ok (.aload 4, 2) := by decide +kernel
theorem dX0_call_84 : decode cX0_call 84 = .ok (.iload 5, 2) := by decide +kernel
theorem dX0_call_86 : decode cX0_call 86 = .ok (.aload_n 0, 1) := by decide +kernel
theorem dX0_call_87 : decode cX0_call 87 = .ok (.getfield 12, 3) := by decide +kernel
theorem dX0_call_90 : decode cX0_call 90 = .ok (.aload_n 1, 1) := by decide +kernel
theorem dX0_call_91 : decode cX0_call 91 = .ok (.aload_n 2, 1) := by decide +kernel
theorem dX0_call_92 : decode cX0_call 92 = .ok (.getfield 181, 3) := by decide +kernel
theorem dX0_call_95 : decode cX0_call 95 = .ok (.iload 5, 2) := by decide +kernel
theorem dX0_call_97 : decode cX0_call 97 = .ok (.iaload, 1) := by decide +kernel
theorem dX0_call_98 : decode cX0_call 98 = .ok (.invokevirtual 102, 3) := by decide +kernel
theorem dX0_call_101 : decode cX0_call 101 = .ok (.invokevirtual 38, 3) := by decide +kernel
theorem dX0_call_104 : decode cX0_call 104 = .ok (.iinc 5 1, 3) := by decide +kernel
theorem dX0_call_107 : decode cX0_call 107 = .ok (.goto (-48), 3) := by decide +kernel
theorem dX0_call_110 : decode cX0_call 110 = .ok (.aload_n 0, 1) := by decide +kernel
theorem dX0_call_111 : decode cX0_call 111 = .ok (.aload 4, 2) := by decide +kernel
theorem dX0_call_113 : decode cX0_call 113 = .ok (.putfield 48, 3) := by decide +kernel
theorem dX0_call_116 : decode cX0_call 116 = .ok (.aload_n 0, 1) := by decide +kernel
theorem dX0_call_117 : decode cX0_call 117 = .ok (.iconst 0, 1) := by decide +kernel
theorem dX0_call_118 : decode cX0_call 118 = .ok (.invokevirtual 152, 3) := by decide +kernel
theorem dX0_call_121 : decode cX0_call 121 = .ok (.ireturn, 1) := by decide +kernel
theorem dX0_cut_0 : decode cX0_cut 0 = .ok (.lload_n 2, 1) := by decide +kernel
theorem dX0_cut_1 : decode cX0_cut 1 = .ok (.invokestatic 202, 3) := by decide +kernel
theorem dX0_cut_4 : decode cX0_cut 4 = .ok (.ifCond .eq 6, 3) := by decide +kernel
theorem dX0_cut_7 : decode cX0_cut 7 = .ok (.bipush 6, 2) := by decide +kernel
theorem dX0_cut_9 : decode cX0_cut 9 = .ok (.ireturn, 1) := by decide +kernel
theorem dX0_cut_10 : decode cX0_cut 10 = .ok (.aload_n 0, 1) := by decide +kernel
theorem dX0_cut_11 : decode cX0_cut 11 = .ok (.getfield 12, 3) := by decide +kernel
theorem dX0_cut_14 : decode cX0_cut 14 = .ok (.lload_n 2, 1) := by decide +kernel
theorem dX0_cut_15 : decode cX0_cut 15 = .ok (.l2i, 1) := by decide +kernel
theorem dX0_cut_16 : decode cX0_cut 16 = .ok (.aload_n 1, 1) := by decide +kernel
theorem dX0_cut_17 : decode cX0_cut 17 = .ok (.invokevirtual 240, 3) := by decide +kernel
theorem dX0_cut_20 : decode cX0_cut 20 = .ok (.iconst 0, 1) := by decide +kernel
theorem dX0_cut_21 : decode cX0_cut 21 = .ok (.ireturn, 1) := by decide +kernel
theorem dX0_drop_0 : decode cX0_drop 0 = .ok (.lload_n 1, 1) := by decide +kernel
theorem dX0_drop_1 : decode cX0_drop 1 = .ok (.invokestatic 202, 3) := by decide +kernel
theorem dX0_drop_4 : decode cX0_drop 4 = .ok (.ifCond .eq 6, 3) := by decide +kernel
theorem dX0_drop_7 : decode cX0_drop 7 = .ok (.bipush 6, 2) := by decide +kernel
theorem dX0_drop_9 : decode cX0_drop 9 = .ok (.ireturn, 1) := by decide +kernel
theorem dX0_drop_10 : decode cX0_drop 10 = .ok (.aload_n 0, 1) := by decide +kernel
theorem dX0_drop_11 : decode cX0_drop 11 = .ok (.getfield 12, 3) := by decide +kernel
theorem dX0_drop_14 : decode cX0_drop 14 = .ok (.lload_n 1, 1) := by decide +kernel
theorem dX0_drop_15 : decode cX0_drop 15 = .ok (.l2i, 1) := by decide +kernel
theorem dX0_drop_16 : decode cX0_drop 16 = .ok (.invokevirtual 244, 3) := by decide +kernel
theorem dX0_drop_19 : decode cX0_drop 19 = .ok (.iconst 0, 1) := by decide +kernel
theorem dX0_drop_20 : decode cX0_drop 20 = .ok (.ireturn, 1) := by decide +kernel
theorem dX0_exit_0 : decode cX0_exit 0 = .ok (.aload_n 1, 1) := by decide +kernel
theorem dX0_exit_1 : decode cX0_exit 1 = .ok (.getfield 82, 3) := by decide +kernel
theorem dX0_exit_4 : decode cX0_exit 4 = .ok (.astore_n 2, 1) := by decide +kernel
theorem dX0_exit_5 : decode cX0_exit 5 = .ok (.aload_n 2, 1) := by decide +kernel
theorem dX0_exit_6 : decode cX0_exit 6 = .ok (.getfield 247, 3) := by decide +kernel
theorem dX0_exit_9 : decode cX0_exit 9 = .ok (.ifCond .ne 15, 3) := by decide +kernel
theorem dX0_exit_12 : decode cX0_exit 12 = .ok (.aload_n 0, 1) := by decide +kernel
theorem dX0_exit_13 : decode cX0_exit 13 = .ok (.getfield 12, 3) := by decide +kernel
theorem dX0_exit_16 : decode cX0_exit 16 = .ok (.aload_n 1, 1) := by decide +kernel
theorem dX0_exit_17 : decode cX0_exit 17 = .ok (.getfield 251, 3) := by decide +kernel
theorem dX0_exit_20 : decode cX0_exit 20 = .ok (.aload_n 1, 1) := by decide +kernel
theorem dX0_exit_21 : decode cX0_exit 21 = .ok (.invokevirtual 240, 3) := by decide +kernel
theorem dX0_exit_24 : decode cX0_exit 24 = .ok (.aload_n 1, 1) := by decide +kernel
theorem dX0_exit_25 : decode cX0_exit 25 = .ok (.getfield 228, 3) := by decide +kernel
theorem dX0_exit_28 : decode cX0_exit 28 = .ok (.astore_n 3, 1) := by decide +kernel
theorem dX0_exit_29 : decode cX0_exit 29 = .ok (.aload_n 1, 1) := by decide +kernel
theorem dX0_exit_30 : decode cX0_exit 30 = .ok (.getfield 231, 3) := by decide +kernel
theorem dX0_exit_33 : decode cX0_exit 33 = .ok (.astore 4, 2) := by decide +kernel
theorem dX0_exit_35 : decode cX0_exit 35 = .ok (.aload_n 3, 1) := by decide +kernel
theorem dX0_exit_36 : decode cX0_exit 36 = .ok (.ifnull 8, 3) := by decide +kernel
theorem dX0_exit_39 : decode cX0_exit 39 = .ok (.aload 4, 2) := by decide +kernel
theorem dX0_exit_41 : decode cX0_exit 41 = .ok (.ifnonnull 15, 3) := by decide +kernel
theorem dX0_exit_44 : decode cX0_exit 44 = .ok (.aload_n 0, 1) := by decide +kernel
theorem dX0_exit_45 : decode cX0_exit 45 = .ok (.dup, 1) := by decide +kernel
theorem dX0_exit_46 : decode cX0_exit 46 = .ok (.getfield 45, 3) := by decide +kernel
theorem dX0_exit_49 : decode cX0_exit 49 = .ok (.iconst 1, 1) := by decide +kernel
theorem dX0_exit_50 : decode cX0_exit 50 = .ok (.iadd, 1) := by decide +kernel
theorem dX0_exit_51 : decode cX0_exit 51 = .ok (.putfield 45, 3) := by decide +kernel
theorem dX0_exit_54 : decode cX0_exit 54 = .ok (.iconst 1, 1) := by decide +kernel
theorem dX0_exit_55 : decode cX0_exit 55 = .ok (.ireturn, 1) := by decide +kernel
theorem dX0_exit_56 : decode cX0_exit 56 = .ok (.iconst 0, 1) := by decide +kernel
theorem dX0_exit_57 : decode cX0_exit 57 = .ok (.istore 5, 2) := by decide +kernel
theorem dX0_exit_59 : decode cX0_exit 59 = .ok (.iload 5, 2) := by decide +kernel
theorem dX0_exit_61 : decode cX0_exit 61 = .ok (.aload_n 2, 1) := by decide +kernel
theorem dX0_exit_62 : decode cX0_exit 62 = .ok (.getfield 88, 3) := by decide +kernel
theorem dX0_exit_65 : decode cX0_exit 65 = .ok (.arraylength, 1) := by decide +kernel
theorem dX0_exit_66 : decode cX0_exit 66 = .ok (.if_icmp .ge 61, 3) := by decide +kernel
theorem dX0_exit_69 : decode cX0_exit 69 = .ok (.aload_n 2, 1) := by decide +kernel
theorem dX0_exit_70 : decode cX0_exit 70 = .ok (.getfield 237, 3) := by decide +kernel
theorem dX0_exit_73 : decode cX0_exit 73 = .ok (.iload 5, 2) := by decide +kernel
theorem dX0_exit_75 : decode cX0_exit 75 = .ok (.iadd, 1) := by decide +kernel
theorem dX0_exit_76 : decode cX0_exit 76 = .ok (.aload 4, 2) := by decide +kernel
theorem dX0_exit_78 : decode cX0_exit 78 = .ok (.getfield 181, 3) := by decide +kernel
theorem dX0_exit_81 : decode cX0_exit 81 = .ok (.arraylength, 1) := by decide +kernel
theorem dX0_exit_82 : decode cX0_exit 82 = .ok (.if_icmp .ge 45, 3) := by decide +kernel
theorem dX0_exit_85 : decode cX0_exit 85 = .ok (.aload_n 0, 1) := by decide +kernel
theorem dX0_exit_86 : decode cX0_exit 86 = .ok (.getfield 12, 3) := by decide +kernel
theorem dX0_exit_89 : decode cX0_exit 89 = .ok (.aload_n 3, 1) := by decide +kernel
theorem dX0_exit_90 : decode cX0_exit 90 = .ok (.aload 4, 2) := by decide +kernel
theorem dX0_exit_92 : decode cX0_exit 92 = .ok (.getfield 181, 3) := by decide +kernel
theorem dX0_exit_95 : decode cX0_exit 95 = .ok (.aload_n 2, 1) := by decide +kernel
theorem dX0_exit_96 : decode cX0_exit 96 = .ok (.getfield 237, 3) := by decide +kernel
theorem dX0_exit_99 : decode cX0_exit 99 = .ok (.iload 5, 2) := by decide +kernel
theorem dX0_exit_101 : decode cX0_exit 101 = .ok (.iadd, 1) := by decide +kernel
theorem dX0_exit_102 : decode cX0_exit 102 = .ok (.iaload, 1) := by decide +kernel
theorem dX0_exit_103 : decode cX0_exit 103 = .ok (.aload_n 0, 1) := by decide +kernel
theorem dX0_exit_104 : decode cX0_exit 104 = .ok (.getfield 12, 3) := by decide +kernel
theorem dX0_exit_107 : decode cX0_exit 107 = .ok (.aload_n 1, 1) := by decide +kernel
theorem dX0_exit_108 : decode cX0_exit 108 = .ok (.aload_n 2, 1) := by decide +kernel
theorem dX0_exit_109 : decode cX0_exit 109 = .ok (.getfield 88, 3) := by decide +kernel
theorem dX0_exit_112 : decode cX0_exit 112 = .ok (.iload 5, 2) := by decide +kernel
theorem dX0_exit_114 : decode cX0_exit 114 = .ok (.iaload, 1) := by decide +kernel
theorem dX0_exit_115 : decode cX0_exit 115 = .ok (.invokevirtual 102, 3) := by decide +kernel
theorem dX0_exit_118 : decode cX0_exit 118 = .ok (.invokevirtual 38, 3) := by decide +kernel
theorem dX0_exit_121 : decode cX0_exit 121 = .ok (.iinc 5 1, 3) := by decide +kernel
theorem dX0_exit_124 : decode cX0_exit 124 = .ok (.goto (-65), 3) := by decide +kernel
theorem dX0_exit_127 : decode cX0_exit 127 = .ok (.aload_n 0, 1) := by decide +kernel
theorem dX0_exit_128 : decode cX0_exit 128 = .ok (.getfield 12, 3) := by decide +kernel
theorem dX0_exit_131 : decode cX0_exit 131 = .ok (.aload_n 1, 1) := by decide +kernel
theorem dX0_exit_132 : decode cX0_exit 132 = .ok (.invokevirtual 254, 3) := by decide +kernel
theorem dX0_exit_135 : decode cX0_exit 135 = .ok (.aload_n 0, 1) := by decide +kernel
theorem dX0_exit_136 : decode cX0_exit 136 = .ok (.aload_n 3, 1) := by decide +kernel
theorem dX0_exit_137 : decode cX0_exit 137 = .ok (.putfield 48, 3) := by decide +kernel
theorem dX0_exit_140 : decode cX0_exit 140 = .ok (.aload_n 0, 1) := by decide +kernel
theorem dX0_exit_141 : decode cX0_exit 141 = .ok (.aload_n 1, 1) := by decide +kernel
theorem dX0_exit_142 : decode cX0_exit 142 = .ok (.getfield 234, 3) := by decide +kernel
theorem dX0_exit_145 : decode cX0_exit 145 = .ok (.invokevirtual 152, 3) := by decide +kernel
theorem dX0_exit_148 : decode cX0_exit 148 = .ok (.ireturn, 1) := by decide +kernel
theorem dX0_fail_0 : decode cX0_fail 0 = .ok (.aload_n 0, 1) := by decide +kernel
theorem dX0_fail_1 : decode cX0_fail 1 = .ok (.getfield 12, 3) := by decide +kernel
theorem dX0_fail_4 : decode cX0_fail 4 = .ok (.getfield 76, 3) := by decide +kernel
theorem dX0_fail_7 : decode cX0_fail 7 = .ok (.istore_n 1, 1) := by decide +kernel
theorem dX0_fail_8 : decode cX0_fail 8 = .ok (.iload_n 1, 1) := by decide +kernel
theorem dX0_fail_9 : decode cX0_fail 9 = .ok (.ifCond .le 69, 3) := by decide +kernel
theorem dX0_fail_12 : decode cX0_fail 12 = .ok (.aload_n 0, 1) := by decide +kernel
theorem dX0_fail_13 : decode cX0_fail 13 = .ok (.getfield 12, 3) := by decide +kernel
theorem dX0_fail_16 : decode cX0_fail 16 = .ok (.invokevirtual 258, 3) := by decide +kernel
theorem dX0_fail_19 : decode cX0_fail 19 = .ok (.astore_n 2, 1) := by decide +kernel
theorem dX0_fail_20 : decode cX0_fail 20 = .ok (.aload_n 2, 1) := by decide +kernel
theorem dX0_fail_21 : decode cX0_fail 21 = .ok (.ifnull 51, 3) := by decide +kernel
theorem dX0_fail_24 : decode cX0_fail 24 = .ok (.aload_n 2, 1) := by decide +kernel
theorem dX0_fail_25 : decode cX0_fail 25 = .ok (.getfield 262, 3) := by decide +kernel
theorem dX0_fail_28 : decode cX0_fail 28 = .ok (.ifCond .ne 44, 3) := by decide +kernel
theorem dX0_fail_31 : decode cX0_fail 31 = .ok (.aload_n 0, 1) := by decide +kernel
theorem dX0_fail_32 : decode cX0_fail 32 = .ok (.getfield 12, 3) := by decide +kernel
theorem dX0_fail_35 : decode cX0_fail 35 = .ok (.aload_n 2, 1) := by decide +kernel
theorem dX0_fail_36 : decode cX0_fail 36 = .ok (.invokevirtual 267, 3) := by decide +kernel
theorem dX0_fail_39 : decode cX0_fail 39 = .ok (.aload_n 0, 1) := by decide +kernel
theorem dX0_fail_40 : decode cX0_fail 40 = .ok (.getfield 21, 3) := by decide +kernel
theorem dX0_fail_43 : decode cX0_fail 43 = .ok (.aload_n 2, 1) := by decide +kernel
theorem dX0_fail_44 : decode cX0_fail 44 = .ok (.getfield 271, 3) := by decide +kernel
theorem dX0_fail_47 : decode cX0_fail 47 = .ok (.invokevirtual 274, 3) := by decide +kernel
theorem dX0_fail_50 : decode cX0_fail 50 = .ok (.aload_n 0, 1) := by decide +kernel
theorem dX0_fail_51 : decode cX0_fail 51 = .ok (.aload_n 2, 1) := by decide +kernel
theorem dX0_fail_52 : decode cX0_fail 52 = .ok (.getfield 276, 3) := by decide +kernel
theorem dX0_fail_55 : decode cX0_fail 55 = .ok (.putfield 48, 3) := by decide +kernel
theorem dX0_fail_58 : decode cX0_fail 58 = .ok (.aload_n 0, 1) := by decide +kernel
theorem dX0_fail_59 : decode cX0_fail 59 = .ok (.aload_n 2, 1) := by decide +kernel
theorem dX0_fail_60 : decode cX0_fail 60 = .ok (.getfield 279, 3) := by decide +kernel
theorem dX0_fail_63 : decode cX0_fail 63 = .ok (.putfield 52, 3) := by decide +kernel
theorem dX0_fail_66 : decode cX0_fail 66 = .ok (.aload_n 0, 1) := by decide +kernel
theorem dX0_fail_67 : decode cX0_fail 67 = .ok (.iconst 0, 1) := by decide +kernel
theorem dX0_fail_68 : decode cX0_fail 68 = .ok (.putfield 25, 3) := by decide +kernel
theorem dX0_fail_71 : decode cX0_fail 71 = .ok (.return_, 1) := by decide +kernel
theorem dX0_fail_72 : decode cX0_fail 72 = .ok (.iinc 1 (-1), 3) := by decide +kernel
theorem dX0_fail_75 : decode cX0_fail 75 = .ok (.goto (-67), 3) := by decide +kernel
theorem dX0_fail_78 : decode cX0_fail 78 = .ok (.aload_n 0, 1) := by decide +kernel
theorem dX0_fail_79 : decode cX0_fail 79 = .ok (.iconst 2, 1) := by decide +kernel
theorem dX0_fail_80 : decode cX0_fail 80 = .ok (.putfield 25, 3) := by decide +kernel
theorem dX0_fail_83 : decode cX0_fail 83 = .ok (.return_, 1) := by decide +kernel
theorem dX1_init_0 : decode cX1_init 0 = .ok (.aload_n 0, 1) := by decide +kernel
theorem dX1_init_1 : decode cX1_init 1 = .ok (.invokespecial 1, 3) := by decide +kernel
theorem dX1_init_4 : decode cX1_init 4 = .ok (.aload_n 0, 1) := by decide +kernel
theorem dX1_init_5 : decode cX1_init 5 = .ok (.iload_n 1, 1) := by decide +kernel
theorem dX1_init_6 : decode cX1_init 6 = .ok (.putfield 7, 3) := by decide +kernel
theorem dX1_init_9 : decode cX1_init 9 = .ok (.aload_n 0, 1) := by decide +kernel
theorem dX1_init_10 : decode cX1_init 10 = .ok (.aload_n 2, 1) := by decide +kernel
theorem dX1_init_11 : decode cX1_init 11 = .ok (.putfield 13, 3) := by decide +kernel
theorem dX1_init_14 : decode cX1_init 14 = .ok (.return_, 1) := by decide +kernel
theorem dX2_init_0 : decode cX2_init 0 = .ok (.aload_n 0, 1) := by decide +kernel
theorem dX2_init_1 : decode cX2_init 1 = .ok (.invokespecial 3, 3) := by decide +kernel
theorem dX2_init_4 : decode cX2_init 4 = .ok (.aload_n 0, 1) := by decide +kernel
theorem dX2_init_5 : decode cX2_init 5 = .ok (.new 9, 3) := by decide +kernel
theorem dX2_init_8 : decode cX2_init 8 = .ok (.dup, 1) := by decide +kernel
theorem dX2_init_9 : decode cX2_init 9 = .ok (.invokespecial 11, 3) := by decide +kernel
theorem dX2_init_12 : decode cX2_init 12 = .ok (.putfield 12, 3) := by decide +kernel
theorem dX2_init_15 : decode cX2_init 15 = .ok (.aload_n 0, 1) := by decide +kernel
theorem dX2_init_16 : decode cX2_init 16 = .ok (.new 9, 3) := by decide +kernel
theorem dX2_init_19 : decode cX2_init 19 = .ok (.dup, 1) := by decide +kernel
theorem dX2_init_20 : decode cX2_init 20 = .ok (.invokespecial 11, 3) := by decide +kernel
theorem dX2_init_23 : decode cX2_init 23 = .ok (.putfield 18, 3) := by decide +kernel
theorem dX2_init_26 : decode cX2_init 26 = .ok (.return_, 1) := by decide +kernel
theorem dX2_clear_0 : decode cX2_clear 0 = .ok (.aload_n 0, 1) := by decide +kernel
theorem dX2_clear_1 : decode cX2_clear 1 = .ok (.getfield 12, 3) := by decide +kernel
theorem dX2_clear_4 : decode cX2_clear 4 = .ok (.iconst 0, 1) := by decide +kernel
theorem dX2_clear_5 : decode cX2_clear 5 = .ok (.invokevirtual 21, 3) := by decide +kernel
theorem dX2_clear_8 : decode cX2_clear 8 = .ok (.aload_n 0, 1) := by decide +kernel
theorem dX2_clear_9 : decode cX2_clear 9 = .ok (.iload_n 1, 1) := by decide +kernel
theorem dX2_clear_10 : decode cX2_clear 10 = .ok (.putfield 25, 3) := by decide +kernel
theorem dX2_clear_13 : decode cX2_clear 13 = .ok (.aload_n 0, 1) := by decide +kernel
theorem dX2_clear_14 : decode cX2_clear 14 = .ok (.iconst 0, 1) := by decide +kernel
theorem dX2_clear_15 : decode cX2_clear 15 = .ok (.putfield 29, 3) := by decide +kernel
theorem dX2_clear_18 : decode cX2_clear 18 = .ok (.return_, 1) := by decide +kernel
theorem dX2_used_0 : decode cX2_used 0 = .ok (.aload_n 0, 1) := by decide +kernel
theorem dX2_used_1 : decode cX2_used 1 = .ok (.getfield 12, 3) := by decide +kernel
theorem dX2_used_4 : decode cX2_used 4 = .ok (.invokevirtual 32, 3) := by decide +kernel
theorem dX2_used_7 : decode cX2_used 7 = .ok (.ireturn, 1) := by decide +kernel
