theorem d_G_init_0 : decode b_G_init 0 = .ok (.aload_n 0, 1) := by decide +kernel
theorem d_G_init_1 : decode b_G_init 1 = .ok (.invokespecial 3, 3) := by decide +kernel
theorem d_G_init_4 : decode b_G_init 4 = .ok (.aload_n 0, 1) := by decide +kernel
theorem d_G_init_5 : decode b_G_init 5 = .ok (.bipush 6, 2) := by decide +kernel
theorem d_G_init_7 : decode b_G_init 7 = .ok (.anewarray 9, 3) := by decide +kernel
theorem d_G_init_10 : decode b_G_init 10 = .ok (.putfield 11, 3) := by decide +kernel
theorem d_G_init_13 : decode b_G_init 13 = .ok (.aload_n 0, 1) := by decide +kernel
theorem d_G_init_14 : decode b_G_init 14 = .ok (.bipush 12, 2) := by decide +kernel
theorem d_G_init_16 : decode b_G_init 16 = .ok (.anewarray 15, 3) := by decide +kernel
theorem d_G_init_19 : decode b_G_init 19 = .ok (.putfield 17, 3) := by decide +kernel
theorem d_G_init_22 : decode b_G_init 22 = .ok (.aload_n 0, 1) := by decide +kernel
theorem d_G_init_23 : decode b_G_init 23 = .ok (.new 21, 3) := by decide +kernel
theorem d_G_init_26 : decode b_G_init 26 = .ok (.dup, 1) := by decide +kernel
theorem d_G_init_27 : decode b_G_init 27 = .ok (.invokespecial 23, 3) := by decide +kernel
theorem d_G_init_30 : decode b_G_init 30 = .ok (.putfield 24, 3) := by decide +kernel
theorem d_G_init_33 : decode b_G_init 33 = .ok (.aload_n 0, 1) := by decide +kernel
theorem d_G_init_34 : decode b_G_init 34 = .ok (.getfield 24, 3) := by decide +kernel
theorem d_G_init_37 : decode b_G_init 37 = .ok (.invokevirtual 28, 3) := by decide +kernel
theorem d_G_init_40 : decode b_G_init 40 = .ok (.aload_n 0, 1) := by decide +kernel
theorem d_G_init_41 : decode b_G_init 41 = .ok (.getfield 24, 3) := by decide +kernel
theorem d_G_init_44 : decode b_G_init 44 = .ok (.ldc2_w 31, 3) := by decide +kernel
theorem d_G_init_47 : decode b_G_init 47 = .ok (.iconst 4, 1) := by decide +kernel
theorem d_G_init_48 : decode b_G_init 48 = .ok (.invokevirtual 33, 3) := by decide +kernel
theorem d_G_init_51 : decode b_G_init 51 = .ok (.return_, 1) := by decide +kernel
theorem d_JO_init_0 : decode b_JO_init 0 = .ok (.return_, 1) := by decide +kernel
theorem d_O_init_0 : decode b_O_init 0 = .ok (.aload_n 0, 1) := by decide +kernel
theorem d_O_init_1 : decode b_O_init 1 = .ok (.invokespecial 3, 3) := by decide +kernel
theorem d_O_init_4 : decode b_O_init 4 = .ok (.aload_n 0, 1) := by decide +kernel
theorem d_O_init_5 : decode b_O_init 5 = .ok (.sipush 1400, 3) := by decide +kernel
theorem d_O_init_8 : decode b_O_init 8 = .ok (.newarray .byte, 2) := by decide +kernel
theorem d_O_init_10 : decode b_O_init 10 = .ok (.putfield 9, 3) := by decide +kernel
theorem d_O_init_13 : decode b_O_init 13 = .ok (.aload_n 0, 1) := by decide +kernel
theorem d_O_init_14 : decode b_O_init 14 = .ok (.sipush 255, 3) := by decide +kernel
theorem d_O_init_17 : decode b_O_init 17 = .ok (.newarray .byte, 2) := by decide +kernel
theorem d_O_init_19 : decode b_O_init 19 = .ok (.putfield 15, 3) := by decide +kernel
theorem d_O_init_22 : decode b_O_init 22 = .ok (.aload_n 0, 1) := by decide +kernel
theorem d_O_init_23 : decode b_O_init 23 = .ok (.bipush 35, 2) := by decide +kernel
theorem d_O_init_25 : decode b_O_init 25 = .ok (.newarray .int, 2) := by decide +kernel
theorem d_O_init_27 : decode b_O_init 27 = .ok (.putfield 18, 3) := by decide +kernel
theorem d_O_init_30 : decode b_O_init 30 = .ok (.aload_n 0, 1) := by decide +kernel
theorem d_O_init_31 : decode b_O_init 31 = .ok (.iconst 0, 1) := by decide +kernel
theorem d_O_init_32 : decode b_O_init 32 = .ok (.putfield 22, 3) := by decide +kernel
theorem d_O_init_35 : decode b_O_init 35 = .ok (.aload_n 0, 1) := by decide +kernel
theorem d_O_init_36 : decode b_O_init 36 = .ok (.bipush 35, 2) := by decide +kernel
theorem d_O_init_38 : decode b_O_init 38 = .ok (.newarray .int, 2) := by decide +kernel
theorem d_O_init_40 : decode b_O_init 40 = .ok (.putfield 26, 3) := by decide +kernel
theorem d_O_init_43 : decode b_O_init 43 = .ok (.return_, 1) := by decide +kernel
theorem d_O_forgetHandles_0 : decode b_O_forgetHandles 0 = .ok (.aload_n 0, 1) := by decide +kernel
theorem d_O_forgetHandles_1 : decode b_O_forgetHandles 1 = .ok (.getfield 18, 3) := by decide +kernel
theorem d_O_forgetHandles_4 : decode b_O_forgetHandles 4 = .ok (.iconst (-1), 1) := by decide +kernel
theorem d_O_forgetHandles_5 : decode b_O_forgetHandles 5 = .ok (.invokestatic 72, 3) := by decide +kernel
theorem d_O_forgetHandles_8 : decode b_O_forgetHandles 8 = .ok (.aload_n 0, 1) := by decide +kernel
theorem d_O_forgetHandles_9 : decode b_O_forgetHandles 9 = .ok (.iconst 0, 1) := by decide +kernel
theorem d_O_forgetHandles_10 : decode b_O_forgetHandles 10 = .ok (.putfield 47, 3) := by decide +kernel
theorem d_O_forgetHandles_13 : decode b_O_forgetHandles 13 = .ok (.return_, 1) := by decide +kernel
theorem d_JR_fill_0 : decode b_JR_fill 0 = .ok (.iconst 0, 1) := by decide +kernel
theorem d_JR_fill_1 : decode b_JR_fill 1 = .ok (.istore_n 2, 1) := by decide +kernel
theorem d_JR_fill_2 : decode b_JR_fill 2 = .ok (.aload_n 0, 1) := by decide +kernel
theorem d_JR_fill_3 : decode b_JR_fill 3 = .ok (.arraylength, 1) := by decide +kernel
theorem d_JR_fill_4 : decode b_JR_fill 4 = .ok (.istore_n 3, 1) := by decide +kernel
theorem d_JR_fill_5 : decode b_JR_fill 5 = .ok (.iload_n 2, 1) := by decide +kernel
theorem d_JR_fill_6 : decode b_JR_fill 6 = .ok (.iload_n 3, 1) := by decide +kernel
theorem d_JR_fill_7 : decode b_JR_fill 7 = .ok (.if_icmp .ge 13, 3) := by decide +kernel
theorem d_JR_fill_10 : decode b_JR_fill 10 = .ok (.aload_n 0, 1) := by decide +kernel
theorem d_JR_fill_11 : decode b_JR_fill 11 = .ok (.iload_n 2, 1) := by decide +kernel
theorem d_JR_fill_12 : decode b_JR_fill 12 = .ok (.iload_n 1, 1) := by decide +kernel
theorem d_JR_fill_13 : decode b_JR_fill 13 = .ok (.iastore, 1) := by decide +kernel
theorem d_JR_fill_14 : decode b_JR_fill 14 = .ok (.iinc 2 1, 3) := by decide +kernel
theorem d_JR_fill_17 : decode b_JR_fill 17 = .ok (.goto (-12), 3) := by decide +kernel
theorem d_JR_fill_20 : decode b_JR_fill 20 = .ok (.return_, 1) := by decide +kernel
theorem d_O_put_0 : decode b_O_put 0 = .ok (.aload_n 0, 1) := by decide +kernel
theorem d_O_put_1 : decode b_O_put 1 = .ok (.getfield 22, 3) := by decide +kernel
theorem d_O_put_4 : decode b_O_put 4 = .ok (.ifCond .ne 21, 3) := by decide +kernel
theorem d_O_put_7 : decode b_O_put 7 = .ok (.aload_n 0, 1) := by decide +kernel
theorem d_O_put_8 : decode b_O_put 8 = .ok (.getfield 35, 3) := by decide +kernel
theorem d_O_put_11 : decode b_O_put 11 = .ok (.iload_n 3, 1) := by decide +kernel
theorem d_O_put_12 : decode b_O_put 12 = .ok (.iadd, 1) := by decide +kernel
theorem d_O_put_13 : decode b_O_put 13 = .ok (.sipush 1400, 3) := by decide +kernel
theorem d_O_put_16 : decode b_O_put 16 = .ok (.if_icmp .le 9, 3) := by decide +kernel
theorem d_O_put_19 : decode b_O_put 19 = .ok (.aload_n 0, 1) := by decide +kernel
theorem d_O_put_20 : decode b_O_put 20 = .ok (.bipush (-2), 2) := by decide +kernel
theorem d_O_put_22 : decode b_O_put 22 = .ok (.putfield 22, 3) := by decide +kernel
theorem d_O_put_25 : decode b_O_put 25 = .ok (.aload_n 0, 1) := by decide +kernel
theorem d_O_put_26 : decode b_O_put 26 = .ok (.getfield 22, 3) := by decide +kernel
theorem d_O_put_29 : decode b_O_put 29 = .ok (.ifCond .eq 4, 3) := by decide +kernel
theorem d_O_put_32 : decode b_O_put 32 = .ok (.return_, 1) := by decide +kernel
theorem d_O_put_33 : decode b_O_put 33 = .ok (.bipush 8, 2) := by decide +kernel
theorem d_O_put_35 : decode b_O_put 35 = .ok (.iload_n 3, 1) := by decide +kernel
theorem d_O_put_36 : decode b_O_put 36 = .ok (.imul, 1) := by decide +kernel
theorem d_O_put_37 : decode b_O_put 37 = .ok (.bipush 8, 2) := by decide +kernel
theorem d_O_put_39 : decode b_O_put 39 = .ok (.isub, 1) := by decide +kernel
theorem d_O_put_40 : decode b_O_put 40 = .ok (.istore 4, 2) := by decide +kernel
theorem d_O_put_42 : decode b_O_put 42 = .ok (.iload 4, 2) := by decide +kernel
theorem d_O_put_44 : decode b_O_put 44 = .ok (.ifCond .lt 34, 3) := by decide +kernel
theorem d_O_put_47 : decode b_O_put 47 = .ok (.aload_n 0, 1) := by decide +kernel
theorem d_O_put_48 : decode b_O_put 48 = .ok (.getfield 9, 3) := by decide +kernel
theorem d_O_put_51 : decode b_O_put 51 = .ok (.aload_n 0, 1) := by decide +kernel
theorem d_O_put_52 : decode b_O_put 52 = .ok (.getfield 35, 3) := by decide +kernel
theorem d_O_put_55 : decode b_O_put 55 = .ok (.lload_n 1, 1) := by decide +kernel
theorem d_O_put_56 : decode b_O_put 56 = .ok (.iload 4, 2) := by decide +kernel
theorem d_O_put_58 : decode b_O_put 58 = .ok (.lushr, 1) := by decide +kernel
theorem d_O_put_59 : decode b_O_put 59 = .ok (.l2i, 1) := by decide +kernel
theorem d_O_put_60 : decode b_O_put 60 = .ok (.i2b, 1) := by decide +kernel
theorem d_O_put_61 : decode b_O_put 61 = .ok (.bastore, 1) := by decide +kernel
theorem d_O_put_62 : decode b_O_put 62 = .ok (.aload_n 0, 1) := by decide +kernel
theorem d_O_put_63 : decode b_O_put 63 = .ok (.dup, 1) := by decide +kernel
theorem d_O_put_64 : decode b_O_put 64 = .ok (.getfield 35, 3) := by decide +kernel
theorem d_O_put_67 : decode b_O_put 67 = .ok (.iconst 1, 1) := by decide +kernel
theorem d_O_put_68 : decode b_O_put 68 = .ok (.iadd, 1) := by decide +kernel
theorem d_O_put_69 : decode b_O_put 69 = .ok (.putfield 35, 3) := by decide +kernel
theorem d_O_put_72 : decode b_O_put 72 = .ok (.iinc 4 (-8), 3) := by decide +kernel
theorem d_O_put_75 : decode b_O_put 75 = .ok (.goto (-33), 3) := by decide +kernel
theorem d_O_put_78 : decode b_O_put 78 = .ok (.return_, 1) := by decide +kernel
theorem d_G_define_0 : decode b_G_define 0 = .ok (.iload_n 1, 1) := by decide +kernel
theorem d_G_define_1 : decode b_G_define 1 = .ok (.ifCond .lt 18, 3) := by decide +kernel
theorem d_G_define_4 : decode b_G_define 4 = .ok (.iload_n 1, 1) := by decide +kernel
theorem d_G_define_5 : decode b_G_define 5 = .ok (.bipush 6, 2) := by decide +kernel
theorem d_G_define_7 : decode b_G_define 7 = .ok (.if_icmp .ge 12, 3) := by decide +kernel
theorem d_G_define_10 : decode b_G_define 10 = .ok (.aload_n 0, 1) := by decide +kernel
theorem d_G_define_11 : decode b_G_define 11 = .ok (.getfield 11, 3) := by decide +kernel
theorem d_G_define_14 : decode b_G_define 14 = .ok (.iload_n 1, 1) := by decide +kernel
theorem d_G_define_15 : decode b_G_define 15 = .ok (.aaload, 1) := by decide +kernel
theorem d_G_define_16 : decode b_G_define 16 = .ok (.ifnull 5, 3) := by decide +kernel
theorem d_G_define_19 : decode b_G_define 19 = .ok (.iconst (-1), 1) := by decide +kernel
theorem d_G_define_20 : decode b_G_define 20 = .ok (.ireturn, 1) := by decide +kernel
theorem d_G_define_21 : decode b_G_define 21 = .ok (.iload_n 2, 1) := by decide +kernel
theorem d_G_define_22 : decode b_G_define 22 = .ok (.ifCond .lt 8, 3) := by decide +kernel
theorem d_G_define_25 : decode b_G_define 25 = .ok (.iload_n 2, 1) := by decide +kernel
theorem d_G_define_26 : decode b_G_define 26 = .ok (.iconst 4, 1) := by decide +kernel
theorem d_G_define_27 : decode b_G_define 27 = .ok (.if_icmp .le 5, 3) := by decide +kernel
theorem d_G_define_30 : decode b_G_define 30 = .ok (.iconst (-1), 1) := by decide +kernel
theorem d_G_define_31 : decode b_G_define 31 = .ok (.ireturn, 1) := by decide +kernel
theorem d_G_define_32 : decode b_G_define 32 = .ok (.iload_n 3, 1) := by decide +kernel
theorem d_G_define_33 : decode b_G_define 33 = .ok (.iconst (-1), 1) := by decide +kernel
theorem d_G_define_34 : decode b_G_define 34 = .ok (.if_icmp .eq 14, 3) := by decide +kernel
theorem d_G_define_37 : decode b_G_define 37 = .ok (.aload_n 0, 1) := by decide +kernel
theorem d_G_define_38 : decode b_G_define 38 = .ok (.iload_n 3, 1) := by decide +kernel
theorem d_G_define_39 : decode b_G_define 39 = .ok (.iload_n 2, 1) := by decide +kernel
theorem d_G_define_40 : decode b_G_define 40 = .ok (.invokevirtual 37, 3) := by decide +kernel
theorem d_G_define_43 : decode b_G_define 43 = .ok (.ifCond .ne 5, 3) := by decide +kernel
theorem d_G_define_46 : decode b_G_define 46 = .ok (.iconst (-1), 1) := by decide +kernel
theorem d_G_define_47 : decode b_G_define 47 = .ok (.ireturn, 1) := by decide +kernel
theorem d_G_define_48 : decode b_G_define 48 = .ok (.aload_n 0, 1) := by decide +kernel
theorem d_G_define_49 : decode b_G_define 49 = .ok (.getfield 11, 3) := by decide +kernel
theorem d_G_define_52 : decode b_G_define 52 = .ok (.iload_n 1, 1) := by decide +kernel
theorem d_G_define_53 : decode b_G_define 53 = .ok (.new 9, 3) := by decide +kernel
theorem d_G_define_56 : decode b_G_define 56 = .ok (.dup, 1) := by decide +kernel
theorem d_G_define_57 : decode b_G_define 57 = .ok (.iload_n 1, 1) := by decide +kernel
theorem d_G_define_58 : decode b_G_define 58 = .ok (.iload_n 2, 1) := by decide +kernel
theorem d_G_define_59 : decode b_G_define 59 = .ok (.lload 4, 2) := by decide +kernel
theorem d_G_define_61 : decode b_G_define 61 = .ok (.aload_n 0, 1) := by decide +kernel
theorem d_G_define_62 : decode b_G_define 62 = .ok (.iload_n 1, 1) := by decide +kernel
theorem d_G_define_63 : decode b_G_define 63 = .ok (.iload_n 3, 1) := by decide +kernel
theorem d_G_define_64 : decode b_G_define 64 = .ok (.invokevirtual 41, 3) := by decide +kernel
theorem d_G_define_67 : decode b_G_define 67 = .ok (.invokespecial 45, 3) := by decide +kernel
theorem d_G_define_70 : decode b_G_define 70 = .ok (.aastore, 1) := by decide +kernel
theorem d_G_define_71 : decode b_G_define 71 = .ok (.iconst 0, 1) := by decide +kernel
theorem d_G_define_72 : decode b_G_define 72 = .ok (.ireturn, 1) := by decide +kernel
theorem d_G_mayStandAbove_0 : decode b_G_mayStandAbove 0 = .ok (.aload_n 0, 1) := by decide +kernel
theorem d_G_mayStandAbove_1 : decode b_G_mayStandAbove 1 = .ok (.iload_n 1, 1) := by decide +kernel
theorem d_G_mayStandAbove_2 : decode b_G_mayStandAbove 2 = .ok (.invokevirtual 48, 3) := by decide +kernel
theorem d_G_mayStandAbove_5 : decode b_G_mayStandAbove 5 = .ok (.ifCond .ne 5, 3) := by decide +kernel
theorem d_G_mayStandAbove_8 : decode b_G_mayStandAbove 8 = .ok (.iconst 0, 1) := by decide +kernel
theorem d_G_mayStandAbove_9 : decode b_G_mayStandAbove 9 = .ok (.ireturn, 1) := by decide +kernel
theorem d_G_mayStandAbove_10 : decode b_G_mayStandAbove 10 = .ok (.aload_n 0, 1) := by decide +kernel
theorem d_G_mayStandAbove_11 : decode b_G_mayStandAbove 11 = .ok (.getfield 11, 3) := by decide +kernel
theorem d_G_mayStandAbove_14 : decode b_G_mayStandAbove 14 = .ok (.iload_n 1, 1) := by decide +kernel
theorem d_G_mayStandAbove_15 : decode b_G_mayStandAbove 15 = .ok (.aaload, 1) := by decide +kernel
theorem d_G_mayStandAbove_16 : decode b_G_mayStandAbove 16 = .ok (.getfield 52, 3) := by decide +kernel
theorem d_G_mayStandAbove_19 : decode b_G_mayStandAbove 19 = .ok (.istore_n 3, 1) := by decide +kernel
theorem d_G_mayStandAbove_20 : decode b_G_mayStandAbove 20 = .ok (.iload_n 3, 1) := by decide +kernel
theorem d_G_mayStandAbove_21 : decode b_G_mayStandAbove 21 = .ok (.iconst 2, 1) := by decide +kernel
theorem d_G_mayStandAbove_22 : decode b_G_mayStandAbove 22 = .ok (.if_icmp .gt 8, 3) := by decide +kernel
theorem d_G_mayStandAbove_25 : decode b_G_mayStandAbove 25 = .ok (.iload_n 2, 1) := by decide +kernel
theorem d_G_mayStandAbove_26 : decode b_G_mayStandAbove 26 = .ok (.iconst 2, 1) := by decide +kernel
theorem d_G_mayStandAbove_27 : decode b_G_mayStandAbove 27 = .ok (.if_icmp .le 5, 3) := by decide +kernel
theorem d_G_mayStandAbove_30 : decode b_G_mayStandAbove 30 = .ok (.iconst 0, 1) := by decide +kernel
theorem d_G_mayStandAbove_31 : decode b_G_mayStandAbove 31 = .ok (.ireturn, 1) := by decide +kernel
theorem d_G_mayStandAbove_32 : decode b_G_mayStandAbove 32 = .ok (.iload_n 2, 1) := by decide +kernel
theorem d_G_mayStandAbove_33 : decode b_G_mayStandAbove 33 = .ok (.ifCond .ne 7, 3) := by decide +kernel
theorem d_G_mayStandAbove_36 : decode b_G_mayStandAbove 36 = .ok (.iload_n 3, 1) := by decide +kernel
theorem d_G_mayStandAbove_37 : decode b_G_mayStandAbove 37 = .ok (.ifCond .ne 7, 3) := by decide +kernel
theorem d_G_mayStandAbove_40 : decode b_G_mayStandAbove 40 = .ok (.iconst 1, 1) := by decide +kernel
theorem d_G_mayStandAbove_41 : decode b_G_mayStandAbove 41 = .ok (.goto 4, 3) := by decide +kernel
theorem d_G_mayStandAbove_44 : decode b_G_mayStandAbove 44 = .ok (.iconst 0, 1) := by decide +kernel
theorem d_G_mayStandAbove_45 : decode b_G_mayStandAbove 45 = .ok (.ireturn, 1) := by decide +kernel
theorem d_G_isDefined_0 : decode b_G_isDefined 0 = .ok (.iload_n 1, 1) := by decide +kernel
theorem d_G_isDefined_1 : decode b_G_isDefined 1 = .ok (.ifCond .lt 22, 3) := by decide +kernel
theorem d_G_isDefined_4 : decode b_G_isDefined 4 = .ok (.iload_n 1, 1) := by decide +kernel
theorem d_G_isDefined_5 : decode b_G_isDefined 5 = .ok (.bipush 6, 2) := by decide +kernel
theorem d_G_isDefined_7 : decode b_G_isDefined 7 = .ok (.if_icmp .ge 16, 3) := by decide +kernel
theorem d_G_isDefined_10 : decode b_G_isDefined 10 = .ok (.aload_n 0, 1) := by decide +kernel
theorem d_G_isDefined_11 : decode b_G_isDefined 11 = .ok (.getfield 11, 3) := by decide +kernel
theorem d_G_isDefined_14 : decode b_G_isDefined 14 = .ok (.iload_n 1, 1) := by decide +kernel
theorem d_G_isDefined_15 : decode b_G_isDefined 15 = .ok (.aaload, 1) := by decide +kernel
theorem d_G_isDefined_16 : decode b_G_isDefined 16 = .ok (.ifnull 7, 3) := by decide +kernel
theorem d_G_isDefined_19 : decode b_G_isDefined 19 = .ok (.iconst 1, 1) := by decide +kernel
theorem d_G_isDefined_20 : decode b_G_isDefined 20 = .ok (.goto 4, 3) := by decide +kernel
theorem d_G_isDefined_23 : decode b_G_isDefined 23 = .ok (.iconst 0, 1) := by decide +kernel
theorem d_G_isDefined_24 : decode b_G_isDefined 24 = .ok (.ireturn, 1) := by decide +kernel
theorem d_G_chainTo_0 : decode b_G_chainTo 0 = .ok (.iload_n 2, 1) := by decide +kernel
theorem d_G_chainTo_1 : decode b_G_chainTo 1 = .ok (.iconst (-1), 1) := by decide +kernel
theorem d_G_chainTo_2 : decode b_G_chainTo 2 = .ok (.if_icmp .ne 11, 3) := by decide +kernel
theorem d_G_chainTo_5 : decode b_G_chainTo 5 = .ok (.iconst 1, 1) := by decide +kernel
theorem d_G_chainTo_6 : decode b_G_chainTo 6 = .ok (.newarray .int, 2) := by decide +kernel
theorem d_G_chainTo_8 : decode b_G_chainTo 8 = .ok (.dup, 1) := by decide +kernel
theorem d_G_chainTo_9 : decode b_G_chainTo 9 = .ok (.iconst 0, 1) := by decide +kernel
theorem d_G_chainTo_10 : decode b_G_chainTo 10 = .ok (.iload_n 1, 1) := by decide +kernel
theorem d_G_chainTo_11 : decode b_G_chainTo 11 = .ok (.iastore, 1) := by decide +kernel
theorem d_G_chainTo_12 : decode b_G_chainTo 12 = .ok (.areturn, 1) := by decide +kernel
theorem d_G_chainTo_13 : decode b_G_chainTo 13 = .ok (.aload_n 0, 1) := by decide +kernel
theorem d_G_chainTo_14 : decode b_G_chainTo 14 = .ok (.getfield 11, 3) := by decide +kernel
theorem d_G_chainTo_17 : decode b_G_chainTo 17 = .ok (.iload_n 2, 1) := by decide +kernel
theorem d_G_chainTo_18 : decode b_G_chainTo 18 = .ok (.aaload, 1) := by decide +kernel
theorem d_G_chainTo_19 : decode b_G_chainTo 19 = .ok (.getfield 73, 3) := by decide +kernel
theorem d_G_chainTo_22 : decode b_G_chainTo 22 = .ok (.astore_n 3, 1) := by decide +kernel
theorem d_G_chainTo_23 : decode b_G_chainTo 23 = .ok (.aload_n 3, 1) := by decide +kernel
theorem d_G_chainTo_24 : decode b_G_chainTo 24 = .ok (.aload_n 3, 1) := by decide +kernel
theorem d_G_chainTo_25 : decode b_G_chainTo 25 = .ok (.arraylength, 1) := by decide +kernel
theorem d_G_chainTo_26 : decode b_G_chainTo 26 = .ok (.iconst 1, 1) := by decide +kernel
theorem d_G_chainTo_27 : decode b_G_chainTo 27 = .ok (.iadd, 1) := by decide +kernel
theorem d_G_chainTo_28 : decode b_G_chainTo 28 = .ok (.invokestatic 186, 3) := by decide +kernel
theorem d_G_chainTo_31 : decode b_G_chainTo 31 = .ok (.astore 4, 2) := by decide +kernel
theorem d_G_chainTo_33 : decode b_G_chainTo 33 = .ok (.aload 4, 2) := by decide +kernel
theorem d_G_chainTo_35 : decode b_G_chainTo 35 = .ok (.aload_n 3, 1) := by decide +kernel
theorem d_G_chainTo_36 : decode b_G_chainTo 36 = .ok (.arraylength, 1) := by decide +kernel
theorem d_G_chainTo_37 : decode b_G_chainTo 37 = .ok (.iload_n 1, 1) := by decide +kernel
theorem d_G_chainTo_38 : decode b_G_chainTo 38 = .ok (.iastore, 1) := by decide +kernel
theorem d_G_chainTo_39 : decode b_G_chainTo 39 = .ok (.aload 4, 2) := by decide +kernel
theorem d_G_chainTo_41 : decode b_G_chainTo 41 = .ok (.areturn, 1) := by decide +kernel
theorem d_JR_copyOf1_0 : decode b_JR_copyOf1 0 = .ok (.iload_n 1, 1) := by decide +kernel
theorem d_JR_copyOf1_1 : decode b_JR_copyOf1 1 = .ok (.aload_n 0, 1) := by decide +kernel
theorem d_JR_copyOf1_2 : decode b_JR_copyOf1 2 = .ok (.arraylength, 1) := by decide +kernel
theorem d_JR_copyOf1_3 : decode b_JR_copyOf1 3 = .ok (.if_icmp .ne 11, 3) := by decide +kernel
theorem d_JR_copyOf1_6 : decode b_JR_copyOf1 6 = .ok (.aload_n 0, 1) := by decide +kernel
theorem d_JR_copyOf1_7 : decode b_JR_copyOf1 7 = .ok (.invokevirtual 316, 3) := by decide +kernel
theorem d_JR_copyOf1_10 : decode b_JR_copyOf1 10 = .ok (.checkcast 317, 3) := by decide +kernel
theorem d_JR_copyOf1_13 : decode b_JR_copyOf1 13 = .ok (.areturn, 1) := by decide +kernel
theorem d_JR_copyOf1_14 : decode b_JR_copyOf1 14 = .ok (.iload_n 1, 1) := by decide +kernel
theorem d_JR_copyOf1_15 : decode b_JR_copyOf1 15 = .ok (.newarray .int, 2) := by decide +kernel
theorem d_JR_copyOf1_17 : decode b_JR_copyOf1 17 = .ok (.astore_n 2, 1) := by decide +kernel
theorem d_JR_copyOf1_18 : decode b_JR_copyOf1 18 = .ok (.aload_n 0, 1) := by decide +kernel
theorem d_JR_copyOf1_19 : decode b_JR_copyOf1 19 = .ok (.iconst 0, 1) := by decide +kernel
theorem d_JR_copyOf1_20 : decode b_JR_copyOf1 20 = .ok (.aload_n 2, 1) := by decide +kernel
theorem d_JR_copyOf1_21 : decode b_JR_copyOf1 21 = .ok (.iconst 0, 1) := by decide +kernel
theorem d_JR_copyOf1_22 : decode b_JR_copyOf1 22 = .ok (.aload_n 0, 1) := by decide +kernel
theorem d_JR_copyOf1_23 : decode b_JR_copyOf1 23 = .ok (.arraylength, 1) := by decide +kernel
theorem d_JR_copyOf1_24 : decode b_JR_copyOf1 24 = .ok (.iload_n 1, 1) := by decide +kernel
theorem d_JR_copyOf1_25 : decode b_JR_copyOf1 25 = .ok (.invokestatic 304, 3) := by decide +kernel
theorem d_JR_copyOf1_28 : decode b_JR_copyOf1 28 = .ok (.invokestatic 150, 3) := by decide +kernel
theorem d_JR_copyOf1_31 : decode b_JR_copyOf1 31 = .ok (.aload_n 2, 1) := by decide +kernel
theorem d_JR_copyOf1_32 : decode b_JR_copyOf1 32 = .ok (.areturn, 1) := by decide +kernel
theorem d_JM_min_0 : decode b_JM_min 0 = .ok (.iload_n 0, 1) := by decide +kernel
theorem d_JM_min_1 : decode b_JM_min 1 = .ok (.iload_n 1, 1) := by decide +kernel
theorem d_JM_min_2 : decode b_JM_min 2 = .ok (.if_icmp .gt 7, 3) := by decide +kernel
theorem d_JM_min_5 : decode b_JM_min 5 = .ok (.iload_n 0, 1) := by decide +kernel
theorem d_JM_min_6 : decode b_JM_min 6 = .ok (.goto 4, 3) := by decide +kernel
theorem d_JM_min_9 : decode b_JM_min 9 = .ok (.iload_n 1, 1) := by decide +kernel
theorem d_JM_min_10 : decode b_JM_min 10 = .ok (.ireturn, 1) := by decide +kernel
theorem d_D_init_0 : decode b_D_init 0 = .ok (.aload_n 0, 1) := by decide +kernel
theorem d_D_init_1 : decode b_D_init 1 = .ok (.invokespecial 3, 3) := by decide +kernel
theorem d_D_init_4 : decode b_D_init 4 = .ok (.aload_n 0, 1) := by decide +kernel
theorem d_D_init_5 : decode b_D_init 5 = .ok (.iconst 4, 1) := by decide +kernel
theorem d_D_init_6 : decode b_D_init 6 = .ok (.newarray .int, 2) := by decide +kernel
theorem d_D_init_8 : decode b_D_init 8 = .ok (.putfield 9, 3) := by decide +kernel
theorem d_D_init_11 : decode b_D_init 11 = .ok (.aload_n 0, 1) := by decide +kernel
theorem d_D_init_12 : decode b_D_init 12 = .ok (.iconst 4, 1) := by decide +kernel
theorem d_D_init_13 : decode b_D_init 13 = .ok (.newarray .int, 2) := by decide +kernel
theorem d_D_init_15 : decode b_D_init 15 = .ok (.putfield 15, 3) := by decide +kernel
theorem d_D_init_18 : decode b_D_init 18 = .ok (.aload_n 0, 1) := by decide +kernel
theorem d_D_init_19 : decode b_D_init 19 = .ok (.iconst 4, 1) := by decide +kernel
theorem d_D_init_20 : decode b_D_init 20 = .ok (.newarray .int, 2) := by decide +kernel
theorem d_D_init_22 : decode b_D_init 22 = .ok (.putfield 18, 3) := by decide +kernel
theorem d_D_init_25 : decode b_D_init 25 = .ok (.aload_n 0, 1) := by decide +kernel
theorem d_D_init_26 : decode b_D_init 26 = .ok (.iload_n 1, 1) := by decide +kernel
theorem d_D_init_27 : decode b_D_init 27 = .ok (.putfield 21, 3) := by decide +kernel
theorem d_D_init_30 : decode b_D_init 30 = .ok (.aload_n 0, 1) := by decide +kernel
theorem d_D_init_31 : decode b_D_init 31 = .ok (.iload_n 2, 1) := by decide +kernel
theorem d_D_init_32 : decode b_D_init 32 = .ok (.putfield 25, 3) := by decide +kernel
theorem d_D_init_35 : decode b_D_init 35 = .ok (.aload_n 0, 1) := by decide +kernel
theorem d_D_init_36 : decode b_D_init 36 = .ok (.iload_n 2, 1) := by decide +kernel
theorem d_D_init_37 : decode b_D_init 37 = .ok (.iconst 3, 1) := by decide +kernel
theorem d_D_init_38 : decode b_D_init 38 = .ok (.if_icmp .ne 7, 3) := by decide +kernel
theorem d_D_init_41 : decode b_D_init 41 = .ok (.lconst 0, 1) := by decide +kernel
theorem d_D_init_42 : decode b_D_init 42 = .ok (.goto 4, 3) := by decide +kernel
theorem d_D_init_45 : decode b_D_init 45 = .ok (.lload_n 3, 1) := by decide +kernel
theorem d_D_init_46 : decode b_D_init 46 = .ok (.putfield 28, 3) := by decide +kernel
theorem d_D_init_49 : decode b_D_init 49 = .ok (.aload_n 0, 1) := by decide +kernel
theorem d_D_init_50 : decode b_D_init 50 = .ok (.ldc 32, 2) := by decide +kernel
theorem d_D_init_52 : decode b_D_init 52 = .ok (.iload_n 1, 1) := by decide +kernel
theorem d_D_init_53 : decode b_D_init 53 = .ok (.iload_n 1, 1) := by decide +kernel
theorem d_D_init_54 : decode b_D_init 54 = .ok (.iconst 1, 1) := by decide +kernel
theorem d_D_init_55 : decode b_D_init 55 = .ok (.iadd, 1) := by decide +kernel
theorem d_D_init_56 : decode b_D_init 56 = .ok (.invokevirtual 34, 3) := by decide +kernel
theorem d_D_init_59 : decode b_D_init 59 = .ok (.putfield 40, 3) := by decide +kernel
theorem d_D_init_62 : decode b_D_init 62 = .ok (.aload_n 0, 1) := by decide +kernel
theorem d_D_init_63 : decode b_D_init 63 = .ok (.aload 5, 2) := by decide +kernel
theorem d_D_init_65 : decode b_D_init 65 = .ok (.putfield 44, 3) := by decide +kernel
theorem d_D_init_68 : decode b_D_init 68 = .ok (.return_, 1) := by decide +kernel
theorem d_JS_substring_0 : decode b_JS_substring 0 = .ok (.aload_n 0, 1) := by decide +kernel
theorem d_JS_substring_1 : decode b_JS_substring 1 = .ok (.invokevirtual 505, 3) := by decide +kernel
theorem d_JS_substring_4 : decode b_JS_substring 4 = .ok (.istore_n 3, 1) := by decide +kernel
theorem d_JS_substring_5 : decode b_JS_substring 5 = .ok (.iload_n 1, 1) := by decide +kernel
theorem d_JS_substring_6 : decode b_JS_substring 6 = .ok (.iload_n 2, 1) := by decide +kernel
theorem d_JS_substring_7 : decode b_JS_substring 7 = .ok (.iload_n 3, 1) := by decide +kernel
theorem d_JS_substring_8 : decode b_JS_substring 8 = .ok (.invokestatic 521, 3) := by decide +kernel
theorem d_JS_substring_11 : decode b_JS_substring 11 = .ok (.iload_n 1, 1) := by decide +kernel
theorem d_JS_substring_12 : decode b_JS_substring 12 = .ok (.ifCond .ne 10, 3) := by decide +kernel
theorem d_JS_substring_15 : decode b_JS_substring 15 = .ok (.iload_n 2, 1) := by decide +kernel
theorem d_JS_substring_16 : decode b_JS_substring 16 = .ok (.iload_n 3, 1) := by decide +kernel
theorem d_JS_substring_17 : decode b_JS_substring 17 = .ok (.if_icmp .ne 5, 3) := by decide +kernel
theorem d_JS_substring_20 : decode b_JS_substring 20 = .ok (.aload_n 0, 1) := by decide +kernel
theorem d_JS_substring_21 : decode b_JS_substring 21 = .ok (.areturn, 1) := by decide +kernel
theorem d_JS_substring_22 : decode b_JS_substring 22 = .ok (.iload_n 2, 1) := by decide +kernel
theorem d_JS_substring_23 : decode b_JS_substring 23 = .ok (.iload_n 1, 1) := by decide +kernel
theorem d_JS_substring_24 : decode b_JS_substring 24 = .ok (.isub, 1) := by decide +kernel
theorem d_JS_substring_25 : decode b_JS_substring 25 = .ok (.istore 4, 2) := by decide +kernel
theorem d_JS_substring_27 : decode b_JS_substring 27 = .ok (.aload_n 0, 1) := by decide +kernel
theorem d_JS_substring_28 : decode b_JS_substring 28 = .ok (.invokevirtual 492, 3) := by decide +kernel
theorem d_JS_substring_31 : decode b_JS_substring 31 = .ok (.ifCond .eq 16, 3) := by decide +kernel
theorem d_JS_substring_34 : decode b_JS_substring 34 = .ok (.aload_n 0, 1) := by decide +kernel
theorem d_JS_substring_35 : decode b_JS_substring 35 = .ok (.getfield 9, 3) := by decide +kernel
theorem d_JS_substring_38 : decode b_JS_substring 38 = .ok (.iload_n 1, 1) := by decide +kernel
theorem d_JS_substring_39 : decode b_JS_substring 39 = .ok (.iload 4, 2) := by decide +kernel
theorem d_JS_substring_41 : decode b_JS_substring 41 = .ok (.invokestatic 685, 3) := by decide +kernel
theorem d_JS_substring_44 : decode b_JS_substring 44 = .ok (.goto 13, 3) := by decide +kernel
theorem d_JS_substring_47 : decode b_JS_substring 47 = .ok (.aload_n 0, 1) := by decide +kernel
theorem d_JS_substring_48 : decode b_JS_substring 48 = .ok (.getfield 9, 3) := by decide +kernel
theorem d_JS_substring_51 : decode b_JS_substring 51 = .ok (.iload_n 1, 1) := by decide +kernel
theorem d_JS_substring_52 : decode b_JS_substring 52 = .ok (.iload 4, 2) := by decide +kernel
theorem d_JS_substring_54 : decode b_JS_substring 54 = .ok (.invokestatic 689, 3) := by decide +kernel
theorem d_JS_substring_57 : decode b_JS_substring 57 = .ok (.areturn, 1) := by decide +kernel
theorem d_JS_length_0 : decode b_JS_length 0 = .ok (.aload_n 0, 1) := by decide +kernel
theorem d_JS_length_1 : decode b_JS_length 1 = .ok (.getfield 9, 3) := by decide +kernel
theorem d_JS_length_4 : decode b_JS_length 4 = .ok (.arraylength, 1) := by decide +kernel
theorem d_JS_length_5 : decode b_JS_length 5 = .ok (.aload_n 0, 1) := by decide +kernel
theorem d_JS_length_6 : decode b_JS_length 6 = .ok (.invokevirtual 335, 3) := by decide +kernel
theorem d_JS_length_9 : decode b_JS_length 9 = .ok (.ishr, 1) := by decide +kernel
theorem d_JS_length_10 : decode b_JS_length 10 = .ok (.ireturn, 1) := by decide +kernel
theorem d_JS_coder_0 : decode b_JS_coder 0 = .ok (.getstatic 38, 3) := by decide +kernel
theorem d_JS_coder_3 : decode b_JS_coder 3 = .ok (.ifCond .eq 10, 3) := by decide +kernel
theorem d_JS_coder_6 : decode b_JS_coder 6 = .ok (.aload_n 0, 1) := by decide +kernel
theorem d_JS_coder_7 : decode b_JS_coder 7 = .ok (.getfield 15, 3) := by decide +kernel
theorem d_JS_coder_10 : decode b_JS_coder 10 = .ok (.goto 4, 3) := by decide +kernel
theorem d_JS_coder_13 : decode b_JS_coder 13 = .ok (.iconst 1, 1) := by decide +kernel
theorem d_JS_coder_14 : decode b_JS_coder 14 = .ok (.ireturn, 1) := by decide +kernel
theorem d_JS_checkBoundsBeginEnd_0 : decode b_JS_checkBoundsBeginEnd 0 = .ok (.iload_n 0, 1) := by decide +kernel
theorem d_JS_checkBoundsBeginEnd_1 : decode b_JS_checkBoundsBeginEnd 1 = .ok (.iload_n 1, 1) := by decide +kernel
theorem d_JS_checkBoundsBeginEnd_2 : decode b_JS_checkBoundsBeginEnd 2 = .ok (.iload_n 2, 1) := by decide +kernel
theorem d_JS_checkBoundsBeginEnd_3 : decode b_JS_checkBoundsBeginEnd 3 = .ok (.getstatic 1053, 3) := by decide +kernel
theorem d_JS_checkBoundsBeginEnd_6 : decode b_JS_checkBoundsBeginEnd 6 = .ok (.invokestatic 1062, 3) := by decide +kernel
theorem d_JS_checkBoundsBeginEnd_9 : decode b_JS_checkBoundsBeginEnd 9 = .ok (.pop, 1) := by decide +kernel
theorem d_JS_checkBoundsBeginEnd_10 : decode b_JS_checkBoundsBeginEnd 10 = .ok (.return_, 1) := by decide +kernel
theorem d_JC_checkFromToIndex_0 : decode b_JC_checkFromToIndex 0 = .ok (.iload_n 0, 1) := by decide +kernel
theorem d_JC_checkFromToIndex_1 : decode b_JC_checkFromToIndex 1 = .ok (.ifCond .lt 13, 3) := by decide +kernel
theorem d_JC_checkFromToIndex_4 : decode b_JC_checkFromToIndex 4 = .ok (.iload_n 0, 1) := by decide +kernel
theorem d_JC_checkFromToIndex_5 : decode b_JC_checkFromToIndex 5 = .ok (.iload_n 1, 1) := by decide +kernel
theorem d_JC_checkFromToIndex_6 : decode b_JC_checkFromToIndex 6 = .ok (.if_icmp .gt 8, 3) := by decide +kernel
theorem d_JC_checkFromToIndex_9 : decode b_JC_checkFromToIndex 9 = .ok (.iload_n 1, 1) := by decide +kernel
theorem d_JC_checkFromToIndex_10 : decode b_JC_checkFromToIndex 10 = .ok (.iload_n 2, 1) := by decide +kernel
theorem d_JC_checkFromToIndex_11 : decode b_JC_checkFromToIndex 11 = .ok (.if_icmp .le 11, 3) := by decide +kernel
theorem d_JC_checkFromToIndex_14 : decode b_JC_checkFromToIndex 14 = .ok (.aload_n 3, 1) := by decide +kernel
theorem d_JC_checkFromToIndex_15 : decode b_JC_checkFromToIndex 15 = .ok (.iload_n 0, 1) := by decide +kernel
theorem d_JC_checkFromToIndex_16 : decode b_JC_checkFromToIndex 16 = .ok (.iload_n 1, 1) := by decide +kernel
theorem d_JC_checkFromToIndex_17 : decode b_JC_checkFromToIndex 17 = .ok (.iload_n 2, 1) := by decide +kernel
theorem d_JC_checkFromToIndex_18 : decode b_JC_checkFromToIndex 18 = .ok (.invokestatic 99, 3) := by decide +kernel
theorem d_JC_checkFromToIndex_21 : decode b_JC_checkFromToIndex 21 = .ok (.athrow, 1) := by decide +kernel
theorem d_JC_checkFromToIndex_22 : decode b_JC_checkFromToIndex 22 = .ok (.iload_n 0, 1) := by decide +kernel
theorem d_JC_checkFromToIndex_23 : decode b_JC_checkFromToIndex 23 = .ok (.ireturn, 1) := by decide +kernel
theorem d_JS_isLatin1_0 : decode b_JS_isLatin1 0 = .ok (.getstatic 38, 3) := by decide +kernel
theorem d_JS_isLatin1_3 : decode b_JS_isLatin1 3 = .ok (.ifCond .eq 14, 3) := by decide +kernel
theorem d_JS_isLatin1_6 : decode b_JS_isLatin1 6 = .ok (.aload_n 0, 1) := by decide +kernel
theorem d_JS_isLatin1_7 : decode b_JS_isLatin1 7 = .ok (.getfield 15, 3) := by decide +kernel
theorem d_JS_isLatin1_10 : decode b_JS_isLatin1 10 = .ok (.ifCond .ne 7, 3) := by decide +kernel
theorem d_JS_isLatin1_13 : decode b_JS_isLatin1 13 = .ok (.iconst 1, 1) := by decide +kernel
theorem d_JS_isLatin1_14 : decode b_JS_isLatin1 14 = .ok (.goto 4, 3) := by decide +kernel
theorem d_JS_isLatin1_17 : decode b_JS_isLatin1 17 = .ok (.iconst 0, 1) := by decide +kernel
theorem d_JS_isLatin1_18 : decode b_JS_isLatin1 18 = .ok (.ireturn, 1) := by decide +kernel
theorem d_JL_newString_0 : decode b_JL_newString 0 = .ok (.iload_n 2, 1) := by decide +kernel
theorem d_JL_newString_1 : decode b_JL_newString 1 = .ok (.ifCond .ne 6, 3) := by decide +kernel
theorem d_JL_newString_4 : decode b_JL_newString 4 = .ok (.ldc 151, 2) := by decide +kernel
theorem d_JL_newString_6 : decode b_JL_newString 6 = .ok (.areturn, 1) := by decide +kernel
theorem d_JL_newString_7 : decode b_JL_newString 7 = .ok (.new 1, 3) := by decide +kernel
theorem d_JL_newString_10 : decode b_JL_newString 10 = .ok (.dup, 1) := by decide +kernel
theorem d_JL_newString_11 : decode b_JL_newString 11 = .ok (.aload_n 0, 1) := by decide +kernel
theorem d_JL_newString_12 : decode b_JL_newString 12 = .ok (.iload_n 1, 1) := by decide +kernel
theorem d_JL_newString_13 : decode b_JL_newString 13 = .ok (.iload_n 1, 1) := by decide +kernel
theorem d_JL_newString_14 : decode b_JL_newString 14 = .ok (.iload_n 2, 1) := by decide +kernel
theorem d_JL_newString_15 : decode b_JL_newString 15 = .ok (.iadd, 1) := by decide +kernel
theorem d_JL_newString_16 : decode b_JL_newString 16 = .ok (.invokestatic 232, 3) := by decide +kernel
theorem d_JL_newString_19 : decode b_JL_newString 19 = .ok (.iconst 0, 1) := by decide +kernel
theorem d_JL_newString_20 : decode b_JL_newString 20 = .ok (.invokespecial 112, 3) := by decide +kernel
theorem d_JL_newString_23 : decode b_JL_newString 23 = .ok (.areturn, 1) := by decide +kernel
theorem d_JR_copyOfRange_0 : decode b_JR_copyOfRange 0 = .ok (.iload_n 1, 1) := by decide +kernel
theorem d_JR_copyOfRange_1 : decode b_JR_copyOfRange 1 = .ok (.ifCond .ne 9, 3) := by decide +kernel
theorem d_JR_copyOfRange_4 : decode b_JR_copyOfRange 4 = .ok (.iload_n 2, 1) := by decide +kernel
theorem d_JR_copyOfRange_5 : decode b_JR_copyOfRange 5 = .ok (.aload_n 0, 1) := by decide +kernel
theorem d_JR_copyOfRange_6 : decode b_JR_copyOfRange 6 = .ok (.arraylength, 1) := by decide +kernel
theorem d_JR_copyOfRange_7 : decode b_JR_copyOfRange 7 = .ok (.if_icmp .eq 10, 3) := by decide +kernel
theorem d_JR_copyOfRange_10 : decode b_JR_copyOfRange 10 = .ok (.aload_n 0, 1) := by decide +kernel
theorem d_JR_copyOfRange_11 : decode b_JR_copyOfRange 11 = .ok (.iload_n 1, 1) := by decide +kernel
theorem d_JR_copyOfRange_12 : decode b_JR_copyOfRange 12 = .ok (.iload_n 2, 1) := by decide +kernel
theorem d_JR_copyOfRange_13 : decode b_JR_copyOfRange 13 = .ok (.invokestatic 339, 3) := by decide +kernel
theorem d_JR_copyOfRange_16 : decode b_JR_copyOfRange 16 = .ok (.areturn, 1) := by decide +kernel
theorem d_JR_copyOfRange_17 : decode b_JR_copyOfRange 17 = .ok (.aload_n 0, 1) := by decide +kernel
theorem d_JR_copyOfRange_18 : decode b_JR_copyOfRange 18 = .ok (.invokevirtual 310, 3) := by decide +kernel
theorem d_JR_copyOfRange_21 : decode b_JR_copyOfRange 21 = .ok (.checkcast 311, 3) := by decide +kernel
theorem d_JR_copyOfRange_24 : decode b_JR_copyOfRange 24 = .ok (.areturn, 1) := by decide +kernel
theorem d_JR_copyOfRangeByte_0 : decode b_JR_copyOfRangeByte 0 = .ok (.iload_n 1, 1) := by decide +kernel
theorem d_JR_copyOfRangeByte_1 : decode b_JR_copyOfRangeByte 1 = .ok (.iload_n 2, 1) := by decide +kernel
theorem d_JR_copyOfRangeByte_2 : decode b_JR_copyOfRangeByte 2 = .ok (.invokestatic 343, 3) := by decide +kernel
theorem d_JR_copyOfRangeByte_5 : decode b_JR_copyOfRangeByte 5 = .ok (.iload_n 2, 1) := by decide +kernel
theorem d_JR_copyOfRangeByte_6 : decode b_JR_copyOfRangeByte 6 = .ok (.iload_n 1, 1) := by decide +kernel
theorem d_JR_copyOfRangeByte_7 : decode b_JR_copyOfRangeByte 7 = .ok (.isub, 1) := by decide +kernel
theorem d_JR_copyOfRangeByte_8 : decode b_JR_copyOfRangeByte 8 = .ok (.istore_n 3, 1) := by decide +kernel
theorem d_JR_copyOfRangeByte_9 : decode b_JR_copyOfRangeByte 9 = .ok (.iload_n 3, 1) := by decide +kernel
theorem d_JR_copyOfRangeByte_10 : decode b_JR_copyOfRangeByte 10 = .ok (.newarray .byte, 2) := by decide +kernel
theorem d_JR_copyOfRangeByte_12 : decode b_JR_copyOfRangeByte 12 = .ok (.astore 4, 2) := by decide +kernel
theorem d_JR_copyOfRangeByte_14 : decode b_JR_copyOfRangeByte 14 = .ok (.aload_n 0, 1) := by decide +kernel
theorem d_JR_copyOfRangeByte_15 : decode b_JR_copyOfRangeByte 15 = .ok (.iload_n 1, 1) := by decide +kernel
theorem d_JR_copyOfRangeByte_16 : decode b_JR_copyOfRangeByte 16 = .ok (.aload 4, 2) := by decide +kernel
theorem d_JR_copyOfRangeByte_18 : decode b_JR_copyOfRangeByte 18 = .ok (.iconst 0, 1) := by decide +kernel
theorem d_JR_copyOfRangeByte_19 : decode b_JR_copyOfRangeByte 19 = .ok (.aload_n 0, 1) := by decide +kernel
theorem d_JR_copyOfRangeByte_20 : decode b_JR_copyOfRangeByte 20 = .ok (.arraylength, 1) := by decide +kernel
theorem d_JR_copyOfRangeByte_21 : decode b_JR_copyOfRangeByte 21 = .ok (.iload_n 1, 1) := by decide +kernel
theorem d_JR_copyOfRangeByte_22 : decode b_JR_copyOfRangeByte 22 = .ok (.isub, 1) := by decide +kernel
theorem d_JR_copyOfRangeByte_23 : decode b_JR_copyOfRangeByte 23 = .ok (.iload_n 3, 1) := by decide +kernel
theorem d_JR_copyOfRangeByte_24 : decode b_JR_copyOfRangeByte 24 = .ok (.invokestatic 304, 3) := by decide +kernel
theorem d_JR_copyOfRangeByte_27 : decode b_JR_copyOfRangeByte 27 = .ok (.invokestatic 150, 3) := by decide +kernel
theorem d_JR_copyOfRangeByte_30 : decode b_JR_copyOfRangeByte 30 = .ok (.aload 4, 2) := by decide +kernel
theorem d_JR_copyOfRangeByte_32 : decode b_JR_copyOfRangeByte 32 = .ok (.areturn, 1) := by decide +kernel
theorem d_JR_checkLength_0 : decode b_JR_checkLength 0 = .ok (.iload_n 1, 1) := by decide +kernel
theorem d_JR_checkLength_1 : decode b_JR_checkLength 1 = .ok (.iload_n 0, 1) := by decide +kernel
theorem d_JR_checkLength_2 : decode b_JR_checkLength 2 = .ok (.if_icmp .ge 35, 3) := by decide +kernel
theorem d_JR_checkLength_5 : decode b_JR_checkLength 5 = .ok (.new 43, 3) := by decide +kernel
theorem d_JR_checkLength_8 : decode b_JR_checkLength 8 = .ok (.dup, 1) := by decide +kernel
theorem d_JR_checkLength_9 : decode b_JR_checkLength 9 = .ok (.new 45, 3) := by decide +kernel
theorem d_JR_checkLength_12 : decode b_JR_checkLength 12 = .ok (.dup, 1) := by decide +kernel
theorem d_JR_checkLength_13 : decode b_JR_checkLength 13 = .ok (.invokespecial 47, 3) := by decide +kernel
theorem d_JR_checkLength_16 : decode b_JR_checkLength 16 = .ok (.iload_n 0, 1) := by decide +kernel
theorem d_JR_checkLength_17 : decode b_JR_checkLength 17 = .ok (.invokevirtual 54, 3) := by decide +kernel
theorem d_JR_checkLength_20 : decode b_JR_checkLength 20 = .ok (.ldc_w 337, 3) := by decide +kernel
theorem d_JR_checkLength_23 : decode b_JR_checkLength 23 = .ok (.invokevirtual 50, 3) := by decide +kernel
theorem d_JR_checkLength_26 : decode b_JR_checkLength 26 = .ok (.iload_n 1, 1) := by decide +kernel
theorem d_JR_checkLength_27 : decode b_JR_checkLength 27 = .ok (.invokevirtual 54, 3) := by decide +kernel
theorem d_JR_checkLength_30 : decode b_JR_checkLength 30 = .ok (.invokevirtual 61, 3) := by decide +kernel
theorem d_JR_checkLength_33 : decode b_JR_checkLength 33 = .ok (.invokespecial 65, 3) := by decide +kernel
theorem d_JR_checkLength_36 : decode b_JR_checkLength 36 = .ok (.athrow, 1) := by decide +kernel
theorem d_JR_checkLength_37 : decode b_JR_checkLength 37 = .ok (.return_, 1) := by decide +kernel
theorem d_JS_init1_0 : decode b_JS_init1 0 = .ok (.aload_n 0, 1) := by decide +kernel
theorem d_JS_init1_1 : decode b_JS_init1 1 = .ok (.invokespecial 1, 3) := by decide +kernel
theorem d_JS_init1_4 : decode b_JS_init1 4 = .ok (.aload_n 0, 1) := by decide +kernel
theorem d_JS_init1_5 : decode b_JS_init1 5 = .ok (.aload_n 1, 1) := by decide +kernel
theorem d_JS_init1_6 : decode b_JS_init1 6 = .ok (.putfield 9, 3) := by decide +kernel
theorem d_JS_init1_9 : decode b_JS_init1 9 = .ok (.aload_n 0, 1) := by decide +kernel
theorem d_JS_init1_10 : decode b_JS_init1 10 = .ok (.iload_n 2, 1) := by decide +kernel
theorem d_JS_init1_11 : decode b_JS_init1 11 = .ok (.putfield 15, 3) := by decide +kernel
theorem d_JS_init1_14 : decode b_JS_init1 14 = .ok (.return_, 1) := by decide +kernel
theorem d_JU_newString_0 : decode b_JU_newString 0 = .ok (.iload_n 2, 1) := by decide +kernel
theorem d_JU_newString_1 : decode b_JU_newString 1 = .ok (.ifCond .ne 7, 3) := by decide +kernel
theorem d_JU_newString_4 : decode b_JU_newString 4 = .ok (.ldc_w 295, 3) := by decide +kernel
theorem d_JU_newString_7 : decode b_JU_newString 7 = .ok (.areturn, 1) := by decide +kernel
theorem d_JU_newString_8 : decode b_JU_newString 8 = .ok (.getstatic 251, 3) := by decide +kernel
theorem d_JU_newString_11 : decode b_JU_newString 11 = .ok (.ifCond .eq 28, 3) := by decide +kernel
theorem d_JU_newString_14 : decode b_JU_newString 14 = .ok (.aload_n 0, 1) := by decide +kernel
theorem d_JU_newString_15 : decode b_JU_newString 15 = .ok (.iload_n 1, 1) := by decide +kernel
theorem d_JU_newString_16 : decode b_JU_newString 16 = .ok (.iload_n 2, 1) := by decide +kernel
theorem d_JU_newString_17 : decode b_JU_newString 17 = .ok (.invokestatic 257, 3) := by decide +kernel
theorem d_JU_newString_20 : decode b_JU_newString 20 = .ok (.astore_n 3, 1) := by decide +kernel
theorem d_JU_newString_21 : decode b_JU_newString 21 = .ok (.aload_n 3, 1) := by decide +kernel
theorem d_JU_newString_22 : decode b_JU_newString 22 = .ok (.iload_n 2, 1) := by decide +kernel
theorem d_JU_newString_23 : decode b_JU_newString 23 = .ok (.invokestatic 259, 3) := by decide +kernel
theorem d_JU_newString_26 : decode b_JU_newString 26 = .ok (.istore 4, 2) := by decide +kernel
theorem d_JU_newString_28 : decode b_JU_newString 28 = .ok (.new 3, 3) := by decide +kernel
theorem d_JU_newString_31 : decode b_JU_newString 31 = .ok (.dup, 1) := by decide +kernel
theorem d_JU_newString_32 : decode b_JU_newString 32 = .ok (.aload_n 3, 1) := by decide +kernel
theorem d_JU_newString_33 : decode b_JU_newString 33 = .ok (.iload 4, 2) := by decide +kernel
theorem d_JU_newString_35 : decode b_JU_newString 35 = .ok (.invokespecial 263, 3) := by decide +kernel
theorem d_JU_newString_38 : decode b_JU_newString 38 = .ok (.areturn, 1) := by decide +kernel
theorem d_JU_newString_39 : decode b_JU_newString 39 = .ok (.iload_n 1, 1) := by decide +kernel
theorem d_JU_newString_40 : decode b_JU_newString 40 = .ok (.iload_n 2, 1) := by decide +kernel
theorem d_JU_newString_41 : decode b_JU_newString 41 = .ok (.iadd, 1) := by decide +kernel
theorem d_JU_newString_42 : decode b_JU_newString 42 = .ok (.istore_n 3, 1) := by decide +kernel
theorem d_JU_newString_43 : decode b_JU_newString 43 = .ok (.new 3, 3) := by decide +kernel
theorem d_JU_newString_46 : decode b_JU_newString 46 = .ok (.dup, 1) := by decide +kernel
theorem d_JU_newString_47 : decode b_JU_newString 47 = .ok (.aload_n 0, 1) := by decide +kernel
theorem d_JU_newString_48 : decode b_JU_newString 48 = .ok (.iload_n 1, 1) := by decide +kernel
theorem d_JU_newString_49 : decode b_JU_newString 49 = .ok (.iconst 1, 1) := by decide +kernel
theorem d_JU_newString_50 : decode b_JU_newString 50 = .ok (.ishl, 1) := by decide +kernel
theorem d_JU_newString_51 : decode b_JU_newString 51 = .ok (.iload_n 3, 1) := by decide +kernel
theorem d_JU_newString_52 : decode b_JU_newString 52 = .ok (.iconst 1, 1) := by decide +kernel
theorem d_JU_newString_53 : decode b_JU_newString 53 = .ok (.ishl, 1) := by decide +kernel
theorem d_JU_newString_54 : decode b_JU_newString 54 = .ok (.invokestatic 126, 3) := by decide +kernel
theorem d_JU_newString_57 : decode b_JU_newString 57 = .ok (.iconst 1, 1) := by decide +kernel
theorem d_JU_newString_58 : decode b_JU_newString 58 = .ok (.invokespecial 263, 3) := by decide +kernel
theorem d_JU_newString_61 : decode b_JU_newString 61 = .ok (.areturn, 1) := by decide +kernel
theorem d_JU_compress1_0 : decode b_JU_compress1 0 = .ok (.iload_n 2, 1) := by decide +kernel
theorem d_JU_compress1_1 : decode b_JU_compress1 1 = .ok (.newarray .byte, 2) := by decide +kernel
theorem d_JU_compress1_3 : decode b_JU_compress1 3 = .ok (.astore_n 3, 1) := by decide +kernel
theorem d_JU_compress1_4 : decode b_JU_compress1 4 = .ok (.aload_n 0, 1) := by decide +kernel
theorem d_JU_compress1_5 : decode b_JU_compress1 5 = .ok (.iload_n 1, 1) := by decide +kernel
theorem d_JU_compress1_6 : decode b_JU_compress1 6 = .ok (.aload_n 3, 1) := by decide +kernel
theorem d_JU_compress1_7 : decode b_JU_compress1 7 = .ok (.iconst 0, 1) := by decide +kernel
theorem d_JU_compress1_8 : decode b_JU_compress1 8 = .ok (.iload_n 2, 1) := by decide +kernel
theorem d_JU_compress1_9 : decode b_JU_compress1 9 = .ok (.invokestatic 123, 3) := by decide +kernel
theorem d_JU_compress1_12 : decode b_JU_compress1 12 = .ok (.istore 4, 2) := by decide +kernel
theorem d_JU_compress1_14 : decode b_JU_compress1 14 = .ok (.iload 4, 2) := by decide +kernel
theorem d_JU_compress1_16 : decode b_JU_compress1 16 = .ok (.iload_n 2, 1) := by decide +kernel
theorem d_JU_compress1_17 : decode b_JU_compress1 17 = .ok (.if_icmp .eq 47, 3) := by decide +kernel
theorem d_JU_compress1_20 : decode b_JU_compress1 20 = .ok (.aload_n 0, 1) := by decide +kernel
theorem d_JU_compress1_21 : decode b_JU_compress1 21 = .ok (.iload_n 1, 1) := by decide +kernel
theorem d_JU_compress1_22 : decode b_JU_compress1 22 = .ok (.iconst 1, 1) := by decide +kernel
theorem d_JU_compress1_23 : decode b_JU_compress1 23 = .ok (.ishl, 1) := by decide +kernel
theorem d_JU_compress1_24 : decode b_JU_compress1 24 = .ok (.iload_n 1, 1) := by decide +kernel
theorem d_JU_compress1_25 : decode b_JU_compress1 25 = .ok (.iload_n 2, 1) := by decide +kernel
theorem d_JU_compress1_26 : decode b_JU_compress1 26 = .ok (.iadd, 1) := by decide +kernel
theorem d_JU_compress1_27 : decode b_JU_compress1 27 = .ok (.invokestatic 11, 3) := by decide +kernel
theorem d_JU_compress1_30 : decode b_JU_compress1 30 = .ok (.invokestatic 126, 3) := by decide +kernel
theorem d_JU_compress1_33 : decode b_JU_compress1 33 = .ok (.astore 5, 2) := by decide +kernel
theorem d_JU_compress1_35 : decode b_JU_compress1 35 = .ok (.aload 5, 2) := by decide +kernel
theorem d_JU_compress1_37 : decode b_JU_compress1 37 = .ok (.iload 4, 2) := by decide +kernel
theorem d_JU_compress1_39 : decode b_JU_compress1 39 = .ok (.invokestatic 71, 3) := by decide +kernel
theorem d_JU_compress1_42 : decode b_JU_compress1 42 = .ok (.sipush 255, 3) := by decide +kernel
theorem d_JU_compress1_45 : decode b_JU_compress1 45 = .ok (.if_icmp .gt 16, 3) := by decide +kernel
theorem d_JU_compress1_48 : decode b_JU_compress1 48 = .ok (.aload 5, 2) := by decide +kernel
theorem d_JU_compress1_50 : decode b_JU_compress1 50 = .ok (.iconst 0, 1) := by decide +kernel
theorem d_JU_compress1_51 : decode b_JU_compress1 51 = .ok (.aload_n 3, 1) := by decide +kernel
theorem d_JU_compress1_52 : decode b_JU_compress1 52 = .ok (.iconst 0, 1) := by decide +kernel
theorem d_JU_compress1_53 : decode b_JU_compress1 53 = .ok (.iload_n 2, 1) := by decide +kernel
theorem d_JU_compress1_54 : decode b_JU_compress1 54 = .ok (.invokestatic 123, 3) := by decide +kernel
theorem d_JU_compress1_57 : decode b_JU_compress1 57 = .ok (.iload_n 2, 1) := by decide +kernel
theorem d_JU_compress1_58 : decode b_JU_compress1 58 = .ok (.if_icmp .eq 6, 3) := by decide +kernel
theorem d_JU_compress1_61 : decode b_JU_compress1 61 = .ok (.aload 5, 2) := by decide +kernel
theorem d_JU_compress1_63 : decode b_JU_compress1 63 = .ok (.areturn, 1) := by decide +kernel
theorem d_JU_compress1_64 : decode b_JU_compress1 64 = .ok (.aload_n 3, 1) := by decide +kernel
theorem d_JU_compress1_65 : decode b_JU_compress1 65 = .ok (.areturn, 1) := by decide +kernel
theorem d_JU_compress2_0 : decode b_JU_compress2 0 = .ok (.iload_n 1, 1) := by decide +kernel
theorem d_JU_compress2_1 : decode b_JU_compress2 1 = .ok (.iload 4, 2) := by decide +kernel
theorem d_JU_compress2_3 : decode b_JU_compress2 3 = .ok (.aload_n 0, 1) := by decide +kernel
theorem d_JU_compress2_4 : decode b_JU_compress2 4 = .ok (.invokestatic 173, 3) := by decide +kernel
theorem d_JU_compress2_7 : decode b_JU_compress2 7 = .ok (.iconst 0, 1) := by decide +kernel
theorem d_JU_compress2_8 : decode b_JU_compress2 8 = .ok (.istore 5, 2) := by decide +kernel
theorem d_JU_compress2_10 : decode b_JU_compress2 10 = .ok (.iload 5, 2) := by decide +kernel
theorem d_JU_compress2_12 : decode b_JU_compress2 12 = .ok (.iload 4, 2) := by decide +kernel
theorem d_JU_compress2_14 : decode b_JU_compress2 14 = .ok (.if_icmp .ge 39, 3) := by decide +kernel
theorem d_JU_compress2_17 : decode b_JU_compress2 17 = .ok (.aload_n 0, 1) := by decide +kernel
theorem d_JU_compress2_18 : decode b_JU_compress2 18 = .ok (.iload_n 1, 1) := by decide +kernel
theorem d_JU_compress2_19 : decode b_JU_compress2 19 = .ok (.invokestatic 71, 3) := by decide +kernel
theorem d_JU_compress2_22 : decode b_JU_compress2 22 = .ok (.istore 6, 2) := by decide +kernel
theorem d_JU_compress2_24 : decode b_JU_compress2 24 = .ok (.iload 6, 2) := by decide +kernel
theorem d_JU_compress2_26 : decode b_JU_compress2 26 = .ok (.sipush 255, 3) := by decide +kernel
theorem d_JU_compress2_29 : decode b_JU_compress2 29 = .ok (.if_icmp .le 6, 3) := by decide +kernel
theorem d_JU_compress2_32 : decode b_JU_compress2 32 = .ok (.iload 5, 2) := by decide +kernel
theorem d_JU_compress2_34 : decode b_JU_compress2 34 = .ok (.ireturn, 1) := by decide +kernel
theorem d_JU_compress2_35 : decode b_JU_compress2 35 = .ok (.aload_n 2, 1) := by decide +kernel
theorem d_JU_compress2_36 : decode b_JU_compress2 36 = .ok (.iload_n 3, 1) := by decide +kernel
theorem d_JU_compress2_37 : decode b_JU_compress2 37 = .ok (.iload 6, 2) := by decide +kernel
theorem d_JU_compress2_39 : decode b_JU_compress2 39 = .ok (.i2b, 1) := by decide +kernel
theorem d_JU_compress2_40 : decode b_JU_compress2 40 = .ok (.bastore, 1) := by decide +kernel
theorem d_JU_compress2_41 : decode b_JU_compress2 41 = .ok (.iinc 1 1, 3) := by decide +kernel
theorem d_JU_compress2_44 : decode b_JU_compress2 44 = .ok (.iinc 3 1, 3) := by decide +kernel
theorem d_JU_compress2_47 : decode b_JU_compress2 47 = .ok (.iinc 5 1, 3) := by decide +kernel
theorem d_JU_compress2_50 : decode b_JU_compress2 50 = .ok (.goto (-40), 3) := by decide +kernel
theorem d_JU_compress2_53 : decode b_JU_compress2 53 = .ok (.iload 4, 2) := by decide +kernel
theorem d_JU_compress2_55 : decode b_JU_compress2 55 = .ok (.ireturn, 1) := by decide +kernel
theorem d_JU_checkBoundsOffCount_0 : decode b_JU_checkBoundsOffCount 0 = .ok (.iload_n 0, 1) := by decide +kernel
theorem d_JU_checkBoundsOffCount_1 : decode b_JU_checkBoundsOffCount 1 = .ok (.iload_n 1, 1) := by decide +kernel
theorem d_JU_checkBoundsOffCount_2 : decode b_JU_checkBoundsOffCount 2 = .ok (.aload_n 2, 1) := by decide +kernel
theorem d_JU_checkBoundsOffCount_3 : decode b_JU_checkBoundsOffCount 3 = .ok (.invokestatic 48, 3) := by decide +kernel
theorem d_JU_checkBoundsOffCount_6 : decode b_JU_checkBoundsOffCount 6 = .ok (.invokestatic 419, 3) := by decide +kernel
theorem d_JU_checkBoundsOffCount_9 : decode b_JU_checkBoundsOffCount 9 = .ok (.pop, 1) := by decide +kernel
theorem d_JU_checkBoundsOffCount_10 : decode b_JU_checkBoundsOffCount 10 = .ok (.return_, 1) := by decide +kernel
theorem d_JU_length_0 : decode b_JU_length 0 = .ok (.aload_n 0, 1) := by decide +kernel
theorem d_JU_length_1 : decode b_JU_length 1 = .ok (.arraylength, 1) := by decide +kernel
theorem d_JU_length_2 : decode b_JU_length 2 = .ok (.iconst 1, 1) := by decide +kernel
theorem d_JU_length_3 : decode b_JU_length 3 = .ok (.ishr, 1) := by decide +kernel
theorem d_JU_length_4 : decode b_JU_length 4 = .ok (.ireturn, 1) := by decide +kernel
theorem d_JS_checkBoundsOffCount_0 : decode b_JS_checkBoundsOffCount 0 = .ok (.iload_n 0, 1) := by decide +kernel
theorem d_JS_checkBoundsOffCount_1 : decode b_JS_checkBoundsOffCount 1 = .ok (.iload_n 1, 1) := by decide +kernel
theorem d_JS_checkBoundsOffCount_2 : decode b_JS_checkBoundsOffCount 2 = .ok (.iload_n 2, 1) := by decide +kernel
theorem d_JS_checkBoundsOffCount_3 : decode b_JS_checkBoundsOffCount 3 = .ok (.getstatic 1053, 3) := by decide +kernel
theorem d_JS_checkBoundsOffCount_6 : decode b_JS_checkBoundsOffCount 6 = .ok (.invokestatic 1065, 3) := by decide +kernel
theorem d_JS_checkBoundsOffCount_9 : decode b_JS_checkBoundsOffCount 9 = .ok (.ireturn, 1) := by decide +kernel
theorem d_JC_checkFromIndexSize_0 : decode b_JC_checkFromIndexSize 0 = .ok (.iload_n 2, 1) := by decide +kernel
theorem d_JC_checkFromIndexSize_1 : decode b_JC_checkFromIndexSize 1 = .ok (.iload_n 0, 1) := by decide +kernel
theorem d_JC_checkFromIndexSize_2 : decode b_JC_checkFromIndexSize 2 = .ok (.ior, 1) := by decide +kernel
theorem d_JC_checkFromIndexSize_3 : decode b_JC_checkFromIndexSize 3 = .ok (.iload_n 1, 1) := by decide +kernel
theorem d_JC_checkFromIndexSize_4 : decode b_JC_checkFromIndexSize 4 = .ok (.ior, 1) := by decide +kernel
theorem d_JC_checkFromIndexSize_5 : decode b_JC_checkFromIndexSize 5 = .ok (.ifCond .lt 10, 3) := by decide +kernel
theorem d_JC_checkFromIndexSize_8 : decode b_JC_checkFromIndexSize 8 = .ok (.iload_n 1, 1) := by decide +kernel
theorem d_JC_checkFromIndexSize_9 : decode b_JC_checkFromIndexSize 9 = .ok (.iload_n 2, 1) := by decide +kernel
theorem d_JC_checkFromIndexSize_10 : decode b_JC_checkFromIndexSize 10 = .ok (.iload_n 0, 1) := by decide +kernel
theorem d_JC_checkFromIndexSize_11 : decode b_JC_checkFromIndexSize 11 = .ok (.isub, 1) := by decide +kernel
theorem d_JC_checkFromIndexSize_12 : decode b_JC_checkFromIndexSize 12 = .ok (.if_icmp .le 11, 3) := by decide +kernel
theorem d_JC_checkFromIndexSize_15 : decode b_JC_checkFromIndexSize 15 = .ok (.aload_n 3, 1) := by decide +kernel
theorem d_JC_checkFromIndexSize_16 : decode b_JC_checkFromIndexSize 16 = .ok (.iload_n 0, 1) := by decide +kernel
theorem d_JC_checkFromIndexSize_17 : decode b_JC_checkFromIndexSize 17 = .ok (.iload_n 1, 1) := by decide +kernel
theorem d_JC_checkFromIndexSize_18 : decode b_JC_checkFromIndexSize 18 = .ok (.iload_n 2, 1) := by decide +kernel
theorem d_JC_checkFromIndexSize_19 : decode b_JC_checkFromIndexSize 19 = .ok (.invokestatic 103, 3) := by decide +kernel
theorem d_JC_checkFromIndexSize_22 : decode b_JC_checkFromIndexSize 22 = .ok (.athrow, 1) := by decide +kernel
theorem d_JC_checkFromIndexSize_23 : decode b_JC_checkFromIndexSize 23 = .ok (.iload_n 0, 1) := by decide +kernel
theorem d_JC_checkFromIndexSize_24 : decode b_JC_checkFromIndexSize 24 = .ok (.ireturn, 1) := by decide +kernel
theorem d_JU_getChar_0 : decode b_JU_getChar 0 = .ok (.getstatic 44, 3) := by decide +kernel
theorem d_JU_getChar_3 : decode b_JU_getChar 3 = .ok (.ifCond .ne 25, 3) := by decide +kernel
theorem d_JU_getChar_6 : decode b_JU_getChar 6 = .ok (.iload_n 1, 1) := by decide +kernel
theorem d_JU_getChar_7 : decode b_JU_getChar 7 = .ok (.ifCond .lt 11, 3) := by decide +kernel
theorem d_JU_getChar_10 : decode b_JU_getChar 10 = .ok (.iload_n 1, 1) := by decide +kernel
theorem d_JU_getChar_11 : decode b_JU_getChar 11 = .ok (.aload_n 0, 1) := by decide +kernel
theorem d_JU_getChar_12 : decode b_JU_getChar 12 = .ok (.invokestatic 48, 3) := by decide +kernel
theorem d_JU_getChar_15 : decode b_JU_getChar 15 = .ok (.if_icmp .lt 13, 3) := by decide +kernel
theorem d_JU_getChar_18 : decode b_JU_getChar 18 = .ok (.new 52, 3) := by decide +kernel
theorem d_JU_getChar_21 : decode b_JU_getChar 21 = .ok (.dup, 1) := by decide +kernel
theorem d_JU_getChar_22 : decode b_JU_getChar 22 = .ok (.ldc 54, 2) := by decide +kernel
theorem d_JU_getChar_24 : decode b_JU_getChar 24 = .ok (.invokespecial 56, 3) := by decide +kernel
theorem d_JU_getChar_27 : decode b_JU_getChar 27 = .ok (.athrow, 1) := by decide +kernel
theorem d_JU_getChar_28 : decode b_JU_getChar 28 = .ok (.iload_n 1, 1) := by decide +kernel
theorem d_JU_getChar_29 : decode b_JU_getChar 29 = .ok (.iconst 1, 1) := by decide +kernel
theorem d_JU_getChar_30 : decode b_JU_getChar 30 = .ok (.ishl, 1) := by decide +kernel
theorem d_JU_getChar_31 : decode b_JU_getChar 31 = .ok (.istore_n 1, 1) := by decide +kernel
theorem d_JU_getChar_32 : decode b_JU_getChar 32 = .ok (.aload_n 0, 1) := by decide +kernel
theorem d_JU_getChar_33 : decode b_JU_getChar 33 = .ok (.iload_n 1, 1) := by decide +kernel
theorem d_JU_getChar_34 : decode b_JU_getChar 34 = .ok (.iinc 1 1, 3) := by decide +kernel
theorem d_JU_getChar_37 : decode b_JU_getChar 37 = .ok (.baload, 1) := by decide +kernel
theorem d_JU_getChar_38 : decode b_JU_getChar 38 = .ok (.sipush 255, 3) := by decide +kernel
theorem d_JU_getChar_41 : decode b_JU_getChar 41 = .ok (.iand, 1) := by decide +kernel
theorem d_JU_getChar_42 : decode b_JU_getChar 42 = .ok (.getstatic 59, 3) := by decide +kernel
theorem d_JU_getChar_45 : decode b_JU_getChar 45 = .ok (.ishl, 1) := by decide +kernel
theorem d_JU_getChar_46 : decode b_JU_getChar 46 = .ok (.aload_n 0, 1) := by decide +kernel
theorem d_JU_getChar_47 : decode b_JU_getChar 47 = .ok (.iload_n 1, 1) := by decide +kernel
theorem d_JU_getChar_48 : decode b_JU_getChar 48 = .ok (.baload, 1) := by decide +kernel
theorem d_JU_getChar_49 : decode b_JU_getChar 49 = .ok (.sipush 255, 3) := by decide +kernel
theorem d_JU_getChar_52 : decode b_JU_getChar 52 = .ok (.iand, 1) := by decide +kernel
theorem d_JU_getChar_53 : decode b_JU_getChar 53 = .ok (.getstatic 63, 3) := by decide +kernel
theorem d_JU_getChar_56 : decode b_JU_getChar 56 = .ok (.ishl, 1) := by decide +kernel
theorem d_JU_getChar_57 : decode b_JU_getChar 57 = .ok (.ior, 1) := by decide +kernel
theorem d_JU_getChar_58 : decode b_JU_getChar 58 = .ok (.i2c, 1) := by decide +kernel
theorem d_JU_getChar_59 : decode b_JU_getChar 59 = .ok (.ireturn, 1) := by decide +kernel
theorem d_JU_newBytesLength_0 : decode b_JU_newBytesLength 0 = .ok (.iload_n 0, 1) := by decide +kernel
theorem d_JU_newBytesLength_1 : decode b_JU_newBytesLength 1 = .ok (.ifCond .ge 11, 3) := by decide +kernel
theorem d_JU_newBytesLength_4 : decode b_JU_newBytesLength 4 = .ok (.new 17, 3) := by decide +kernel
theorem d_JU_newBytesLength_7 : decode b_JU_newBytesLength 7 = .ok (.dup, 1) := by decide +kernel
theorem d_JU_newBytesLength_8 : decode b_JU_newBytesLength 8 = .ok (.invokespecial 19, 3) := by decide +kernel
theorem d_JU_newBytesLength_11 : decode b_JU_newBytesLength 11 = .ok (.athrow, 1) := by decide +kernel
theorem d_JU_newBytesLength_12 : decode b_JU_newBytesLength 12 = .ok (.iload_n 0, 1) := by decide +kernel
theorem d_JU_newBytesLength_13 : decode b_JU_newBytesLength 13 = .ok (.ldc 20, 2) := by decide +kernel
theorem d_JU_newBytesLength_15 : decode b_JU_newBytesLength 15 = .ok (.if_icmp .lt 40, 3) := by decide +kernel
theorem d_JU_newBytesLength_18 : decode b_JU_newBytesLength 18 = .ok (.new 21, 3) := by decide +kernel
theorem d_JU_newBytesLength_21 : decode b_JU_newBytesLength 21 = .ok (.dup, 1) := by decide +kernel
theorem d_JU_newBytesLength_22 : decode b_JU_newBytesLength 22 = .ok (.new 23, 3) := by decide +kernel
theorem d_JU_newBytesLength_25 : decode b_JU_newBytesLength 25 = .ok (.dup, 1) := by decide +kernel
theorem d_JU_newBytesLength_26 : decode b_JU_newBytesLength 26 = .ok (.invokespecial 25, 3) := by decide +kernel
theorem d_JU_newBytesLength_29 : decode b_JU_newBytesLength 29 = .ok (.ldc 26, 2) := by decide +kernel
theorem d_JU_newBytesLength_31 : decode b_JU_newBytesLength 31 = .ok (.invokevirtual 28, 3) := by decide +kernel
theorem d_JU_newBytesLength_34 : decode b_JU_newBytesLength 34 = .ok (.iload_n 0, 1) := by decide +kernel
theorem d_JU_newBytesLength_35 : decode b_JU_newBytesLength 35 = .ok (.invokevirtual 32, 3) := by decide +kernel
theorem d_JU_newBytesLength_38 : decode b_JU_newBytesLength 38 = .ok (.ldc 35, 2) := by decide +kernel
theorem d_JU_newBytesLength_40 : decode b_JU_newBytesLength 40 = .ok (.invokevirtual 28, 3) := by decide +kernel
theorem d_JU_newBytesLength_43 : decode b_JU_newBytesLength 43 = .ok (.ldc 20, 2) := by decide +kernel
theorem d_JU_newBytesLength_45 : decode b_JU_newBytesLength 45 = .ok (.invokevirtual 32, 3) := by decide +kernel
theorem d_JU_newBytesLength_48 : decode b_JU_newBytesLength 48 = .ok (.invokevirtual 37, 3) := by decide +kernel
theorem d_JU_newBytesLength_51 : decode b_JU_newBytesLength 51 = .ok (.invokespecial 41, 3) := by decide +kernel
theorem d_JU_newBytesLength_54 : decode b_JU_newBytesLength 54 = .ok (.athrow, 1) := by decide +kernel
theorem d_JU_newBytesLength_55 : decode b_JU_newBytesLength 55 = .ok (.iload_n 0, 1) := by decide +kernel
theorem d_JU_newBytesLength_56 : decode b_JU_newBytesLength 56 = .ok (.iconst 1, 1) := by decide +kernel
theorem d_JU_newBytesLength_57 : decode b_JU_newBytesLength 57 = .ok (.ishl, 1) := by decide +kernel
theorem d_JU_newBytesLength_58 : decode b_JU_newBytesLength 58 = .ok (.ireturn, 1) := by decide +kernel
theorem d_JU_coderFromArrayLen_0 : decode b_JU_coderFromArrayLen 0 = .ok (.iload_n 1, 1) := by decide +kernel
theorem d_JU_coderFromArrayLen_1 : decode b_JU_coderFromArrayLen 1 = .ok (.aload_n 0, 1) := by decide +kernel
theorem d_JU_coderFromArrayLen_2 : decode b_JU_coderFromArrayLen 2 = .ok (.arraylength, 1) := by decide +kernel
theorem d_JU_coderFromArrayLen_3 : decode b_JU_coderFromArrayLen 3 = .ok (.isub, 1) := by decide +kernel
theorem d_JU_coderFromArrayLen_4 : decode b_JU_coderFromArrayLen 4 = .ok (.bipush 31, 2) := by decide +kernel
theorem d_JU_coderFromArrayLen_6 : decode b_JU_coderFromArrayLen 6 = .ok (.iushr, 1) := by decide +kernel
theorem d_JU_coderFromArrayLen_7 : decode b_JU_coderFromArrayLen 7 = .ok (.i2b, 1) := by decide +kernel
theorem d_JU_coderFromArrayLen_8 : decode b_JU_coderFromArrayLen 8 = .ok (.ireturn, 1) := by decide +kernel
theorem d_G_field_0 : decode b_G_field 0 = .ok (.aload_n 0, 1) := by decide +kernel
theorem d_G_field_1 : decode b_G_field 1 = .ok (.iload_n 1, 1) := by decide +kernel
theorem d_G_field_2 : decode b_G_field 2 = .ok (.invokevirtual 48, 3) := by decide +kernel
theorem d_G_field_5 : decode b_G_field 5 = .ok (.ifCond .eq 23, 3) := by decide +kernel
theorem d_G_field_8 : decode b_G_field 8 = .ok (.iload_n 2, 1) := by decide +kernel
theorem d_G_field_9 : decode b_G_field 9 = .ok (.ifCond .lt 19, 3) := by decide +kernel
theorem d_G_field_12 : decode b_G_field 12 = .ok (.iload_n 2, 1) := by decide +kernel
theorem d_G_field_13 : decode b_G_field 13 = .ok (.bipush 26, 2) := by decide +kernel
theorem d_G_field_15 : decode b_G_field 15 = .ok (.if_icmp .ge 13, 3) := by decide +kernel
theorem d_G_field_18 : decode b_G_field 18 = .ok (.iload_n 3, 1) := by decide +kernel
theorem d_G_field_19 : decode b_G_field 19 = .ok (.ifCond .lt 9, 3) := by decide +kernel
theorem d_G_field_22 : decode b_G_field 22 = .ok (.iload_n 3, 1) := by decide +kernel
theorem d_G_field_23 : decode b_G_field 23 = .ok (.bipush 7, 2) := by decide +kernel
theorem d_G_field_25 : decode b_G_field 25 = .ok (.if_icmp .le 5, 3) := by decide +kernel
theorem d_G_field_28 : decode b_G_field 28 = .ok (.iconst (-1), 1) := by decide +kernel
theorem d_G_field_29 : decode b_G_field 29 = .ok (.ireturn, 1) := by decide +kernel
theorem d_G_field_30 : decode b_G_field 30 = .ok (.aload_n 0, 1) := by decide +kernel
theorem d_G_field_31 : decode b_G_field 31 = .ok (.getfield 11, 3) := by decide +kernel
theorem d_G_field_34 : decode b_G_field 34 = .ok (.iload_n 1, 1) := by decide +kernel
theorem d_G_field_35 : decode b_G_field 35 = .ok (.aaload, 1) := by decide +kernel
theorem d_G_field_36 : decode b_G_field 36 = .ok (.astore 5, 2) := by decide +kernel
theorem d_G_field_38 : decode b_G_field 38 = .ok (.aload 5, 2) := by decide +kernel
theorem d_G_field_40 : decode b_G_field 40 = .ok (.getfield 52, 3) := by decide +kernel
theorem d_G_field_43 : decode b_G_field 43 = .ok (.iconst 3, 1) := by decide +kernel
theorem d_G_field_44 : decode b_G_field 44 = .ok (.if_icmp .eq 11, 3) := by decide +kernel
theorem d_G_field_47 : decode b_G_field 47 = .ok (.aload 5, 2) := by decide +kernel
theorem d_G_field_49 : decode b_G_field 49 = .ok (.getfield 56, 3) := by decide +kernel
theorem d_G_field_52 : decode b_G_field 52 = .ok (.ifCond .eq 5, 3) := by decide +kernel
theorem d_G_field_55 : decode b_G_field 55 = .ok (.iconst (-1), 1) := by decide +kernel
theorem d_G_field_56 : decode b_G_field 56 = .ok (.ireturn, 1) := by decide +kernel
theorem d_G_field_57 : decode b_G_field 57 = .ok (.aload 5, 2) := by decide +kernel
theorem d_G_field_59 : decode b_G_field 59 = .ok (.getfield 60, 3) := by decide +kernel
theorem d_G_field_62 : decode b_G_field 62 = .ok (.iconst 4, 1) := by decide +kernel
theorem d_G_field_63 : decode b_G_field 63 = .ok (.if_icmp .ge 12, 3) := by decide +kernel
theorem d_G_field_66 : decode b_G_field 66 = .ok (.aload 5, 2) := by decide +kernel
theorem d_G_field_68 : decode b_G_field 68 = .ok (.iload_n 2, 1) := by decide +kernel
theorem d_G_field_69 : decode b_G_field 69 = .ok (.invokevirtual 63, 3) := by decide +kernel
theorem d_G_field_72 : decode b_G_field 72 = .ok (.ifCond .eq 5, 3) := by decide +kernel
theorem d_G_field_75 : decode b_G_field 75 = .ok (.iconst (-1), 1) := by decide +kernel
theorem d_G_field_76 : decode b_G_field 76 = .ok (.ireturn, 1) := by decide +kernel
theorem d_G_field_77 : decode b_G_field 77 = .ok (.aload 5, 2) := by decide +kernel
theorem d_G_field_79 : decode b_G_field 79 = .ok (.iload_n 2, 1) := by decide +kernel
theorem d_G_field_80 : decode b_G_field 80 = .ok (.iload_n 3, 1) := by decide +kernel
theorem d_G_field_81 : decode b_G_field 81 = .ok (.iload 4, 2) := by decide +kernel
theorem d_G_field_83 : decode b_G_field 83 = .ok (.invokevirtual 66, 3) := by decide +kernel
theorem d_G_field_86 : decode b_G_field 86 = .ok (.aload 5, 2) := by decide +kernel
theorem d_G_field_88 : decode b_G_field 88 = .ok (.getfield 60, 3) := by decide +kernel
theorem d_G_field_91 : decode b_G_field 91 = .ok (.ireturn, 1) := by decide +kernel
theorem d_D_hasField_0 : decode b_D_hasField 0 = .ok (.iconst 0, 1) := by decide +kernel
theorem d_D_hasField_1 : decode b_D_hasField 1 = .ok (.istore_n 2, 1) := by decide +kernel
theorem d_D_hasField_2 : decode b_D_hasField 2 = .ok (.iload_n 2, 1) := by decide +kernel
theorem d_D_hasField_3 : decode b_D_hasField 3 = .ok (.aload_n 0, 1) := by decide +kernel
theorem d_D_hasField_4 : decode b_D_hasField 4 = .ok (.getfield 47, 3) := by decide +kernel
theorem d_D_hasField_7 : decode b_D_hasField 7 = .ok (.if_icmp .ge 21, 3) := by decide +kernel
theorem d_D_hasField_10 : decode b_D_hasField 10 = .ok (.aload_n 0, 1) := by decide +kernel
theorem d_D_hasField_11 : decode b_D_hasField 11 = .ok (.getfield 9, 3) := by decide +kernel
theorem d_D_hasField_14 : decode b_D_hasField 14 = .ok (.iload_n 2, 1) := by decide +kernel
theorem d_D_hasField_15 : decode b_D_hasField 15 = .ok (.iaload, 1) := by decide +kernel
theorem d_D_hasField_16 : decode b_D_hasField 16 = .ok (.iload_n 1, 1) := by decide +kernel
theorem d_D_hasField_17 : decode b_D_hasField 17 = .ok (.if_icmp .ne 5, 3) := by decide +kernel
theorem d_D_hasField_20 : decode b_D_hasField 20 = .ok (.iconst 1, 1) := by decide +kernel
theorem d_D_hasField_21 : decode b_D_hasField 21 = .ok (.ireturn, 1) := by decide +kernel
theorem d_D_hasField_22 : decode b_D_hasField 22 = .ok (.iinc 2 1, 3) := by decide +kernel
theorem d_D_hasField_25 : decode b_D_hasField 25 = .ok (.goto (-23), 3) := by decide +kernel
theorem d_D_hasField_28 : decode b_D_hasField 28 = .ok (.iconst 0, 1) := by decide +kernel
theorem d_D_hasField_29 : decode b_D_hasField 29 = .ok (.ireturn, 1) := by decide +kernel
theorem d_D_addField_0 : decode b_D_addField 0 = .ok (.aload_n 0, 1) := by decide +kernel
theorem d_D_addField_1 : decode b_D_addField 1 = .ok (.getfield 9, 3) := by decide +kernel
theorem d_D_addField_4 : decode b_D_addField 4 = .ok (.aload_n 0, 1) := by decide +kernel
theorem d_D_addField_5 : decode b_D_addField 5 = .ok (.getfield 47, 3) := by decide +kernel
theorem d_D_addField_8 : decode b_D_addField 8 = .ok (.iload_n 1, 1) := by decide +kernel
theorem d_D_addField_9 : decode b_D_addField 9 = .ok (.iastore, 1) := by decide +kernel
theorem d_D_addField_10 : decode b_D_addField 10 = .ok (.aload_n 0, 1) := by decide +kernel
theorem d_D_addField_11 : decode b_D_addField 11 = .ok (.getfield 15, 3) := by decide +kernel
theorem d_D_addField_14 : decode b_D_addField 14 = .ok (.aload_n 0, 1) := by decide +kernel
theorem d_D_addField_15 : decode b_D_addField 15 = .ok (.getfield 47, 3) := by decide +kernel
theorem d_D_addField_18 : decode b_D_addField 18 = .ok (.iload_n 2, 1) := by decide +kernel
theorem d_D_addField_19 : decode b_D_addField 19 = .ok (.iastore, 1) := by decide +kernel
theorem d_D_addField_20 : decode b_D_addField 20 = .ok (.iload_n 3, 1) := by decide +kernel
theorem d_D_addField_21 : decode b_D_addField 21 = .ok (.ifCond .ne 11, 3) := by decide +kernel
theorem d_D_addField_24 : decode b_D_addField 24 = .ok (.aload_n 0, 1) := by decide +kernel
theorem d_D_addField_25 : decode b_D_addField 25 = .ok (.aload_n 0, 1) := by decide +kernel
theorem d_D_addField_26 : decode b_D_addField 26 = .ok (.getfield 47, 3) := by decide +kernel
theorem d_D_addField_29 : decode b_D_addField 29 = .ok (.invokevirtual 50, 3) := by decide +kernel
theorem d_D_addField_32 : decode b_D_addField 32 = .ok (.aload_n 0, 1) := by decide +kernel
theorem d_D_addField_33 : decode b_D_addField 33 = .ok (.dup, 1) := by decide +kernel
theorem d_D_addField_34 : decode b_D_addField 34 = .ok (.getfield 47, 3) := by decide +kernel
theorem d_D_addField_37 : decode b_D_addField 37 = .ok (.iconst 1, 1) := by decide +kernel
theorem d_D_addField_38 : decode b_D_addField 38 = .ok (.iadd, 1) := by decide +kernel
theorem d_D_addField_39 : decode b_D_addField 39 = .ok (.putfield 47, 3) := by decide +kernel
theorem d_D_addField_42 : decode b_D_addField 42 = .ok (.return_, 1) := by decide +kernel
theorem d_D_putInOrder_0 : decode b_D_putInOrder 0 = .ok (.aload_n 0, 1) := by decide +kernel
theorem d_D_putInOrder_1 : decode b_D_putInOrder 1 = .ok (.getfield 54, 3) := by decide +kernel
theorem d_D_putInOrder_4 : decode b_D_putInOrder 4 = .ok (.istore_n 2, 1) := by decide +kernel
theorem d_D_putInOrder_5 : decode b_D_putInOrder 5 = .ok (.iload_n 2, 1) := by decide +kernel
theorem d_D_putInOrder_6 : decode b_D_putInOrder 6 = .ok (.ifCond .le 43, 3) := by decide +kernel
theorem d_D_putInOrder_9 : decode b_D_putInOrder 9 = .ok (.aload_n 0, 1) := by decide +kernel
theorem d_D_putInOrder_10 : decode b_D_putInOrder 10 = .ok (.aload_n 0, 1) := by decide +kernel
theorem d_D_putInOrder_11 : decode b_D_putInOrder 11 = .ok (.getfield 18, 3) := by decide +kernel
theorem d_D_putInOrder_14 : decode b_D_putInOrder 14 = .ok (.iload_n 2, 1) := by decide +kernel
theorem d_D_putInOrder_15 : decode b_D_putInOrder 15 = .ok (.iconst 1, 1) := by decide +kernel
theorem d_D_putInOrder_16 : decode b_D_putInOrder 16 = .ok (.isub, 1) := by decide +kernel
theorem d_D_putInOrder_17 : decode b_D_putInOrder 17 = .ok (.iaload, 1) := by decide +kernel
theorem d_D_putInOrder_18 : decode b_D_putInOrder 18 = .ok (.invokevirtual 57, 3) := by decide +kernel
theorem d_D_putInOrder_21 : decode b_D_putInOrder 21 = .ok (.aload_n 0, 1) := by decide +kernel
theorem d_D_putInOrder_22 : decode b_D_putInOrder 22 = .ok (.iload_n 1, 1) := by decide +kernel
theorem d_D_putInOrder_23 : decode b_D_putInOrder 23 = .ok (.invokevirtual 57, 3) := by decide +kernel
theorem d_D_putInOrder_26 : decode b_D_putInOrder 26 = .ok (.if_icmp .le 23, 3) := by decide +kernel
theorem d_D_putInOrder_29 : decode b_D_putInOrder 29 = .ok (.aload_n 0, 1) := by decide +kernel
theorem d_D_putInOrder_30 : decode b_D_putInOrder 30 = .ok (.getfield 18, 3) := by decide +kernel
theorem d_D_putInOrder_33 : decode b_D_putInOrder 33 = .ok (.iload_n 2, 1) := by decide +kernel
theorem d_D_putInOrder_34 : decode b_D_putInOrder 34 = .ok (.aload_n 0, 1) := by decide +kernel
theorem d_D_putInOrder_35 : decode b_D_putInOrder 35 = .ok (.getfield 18, 3) := by decide +kernel
theorem d_D_putInOrder_38 : decode b_D_putInOrder 38 = .ok (.iload_n 2, 1) := by decide +kernel
theorem d_D_putInOrder_39 : decode b_D_putInOrder 39 = .ok (.iconst 1, 1) := by decide +kernel
theorem d_D_putInOrder_40 : decode b_D_putInOrder 40 = .ok (.isub, 1) := by decide +kernel
theorem d_D_putInOrder_41 : decode b_D_putInOrder 41 = .ok (.iaload, 1) := by decide +kernel
theorem d_D_putInOrder_42 : decode b_D_putInOrder 42 = .ok (.iastore, 1) := by decide +kernel
theorem d_D_putInOrder_43 : decode b_D_putInOrder 43 = .ok (.iinc 2 (-1), 3) := by decide +kernel
theorem d_D_putInOrder_46 : decode b_D_putInOrder 46 = .ok (.goto (-41), 3) := by decide +kernel
theorem d_D_putInOrder_49 : decode b_D_putInOrder 49 = .ok (.aload_n 0, 1) := by decide +kernel
theorem d_D_putInOrder_50 : decode b_D_putInOrder 50 = .ok (.getfield 18, 3) := by decide +kernel
theorem d_D_putInOrder_53 : decode b_D_putInOrder 53 = .ok (.iload_n 2, 1) := by decide +kernel
theorem d_D_putInOrder_54 : decode b_D_putInOrder 54 = .ok (.iload_n 1, 1) := by decide +kernel
theorem d_D_putInOrder_55 : decode b_D_putInOrder 55 = .ok (.iastore, 1) := by decide +kernel
theorem d_D_putInOrder_56 : decode b_D_putInOrder 56 = .ok (.aload_n 0, 1) := by decide +kernel
theorem d_D_putInOrder_57 : decode b_D_putInOrder 57 = .ok (.dup, 1) := by decide +kernel
theorem d_D_putInOrder_58 : decode b_D_putInOrder 58 = .ok (.getfield 54, 3) := by decide +kernel
theorem d_D_putInOrder_61 : decode b_D_putInOrder 61 = .ok (.iconst 1, 1) := by decide +kernel
theorem d_D_putInOrder_62 : decode b_D_putInOrder 62 = .ok (.iadd, 1) := by decide +kernel
theorem d_D_putInOrder_63 : decode b_D_putInOrder 63 = .ok (.putfield 54, 3) := by decide +kernel
theorem d_D_putInOrder_66 : decode b_D_putInOrder 66 = .ok (.return_, 1) := by decide +kernel
theorem d_D_rank_0 : decode b_D_rank 0 = .ok (.aload_n 0, 1) := by decide +kernel
theorem d_D_rank_1 : decode b_D_rank 1 = .ok (.getfield 15, 3) := by decide +kernel
theorem d_D_rank_4 : decode b_D_rank 4 = .ok (.iload_n 1, 1) := by decide +kernel
theorem d_D_rank_5 : decode b_D_rank 5 = .ok (.iaload, 1) := by decide +kernel
theorem d_D_rank_6 : decode b_D_rank 6 = .ok (.bipush 6, 2) := by decide +kernel
theorem d_D_rank_8 : decode b_D_rank 8 = .ok (.if_icmp .ge 12, 3) := by decide +kernel
theorem d_D_rank_11 : decode b_D_rank 11 = .ok (.aload_n 0, 1) := by decide +kernel
theorem d_D_rank_12 : decode b_D_rank 12 = .ok (.getfield 9, 3) := by decide +kernel
theorem d_D_rank_15 : decode b_D_rank 15 = .ok (.iload_n 1, 1) := by decide +kernel
theorem d_D_rank_16 : decode b_D_rank 16 = .ok (.iaload, 1) := by decide +kernel
theorem d_D_rank_17 : decode b_D_rank 17 = .ok (.goto 12, 3) := by decide +kernel
theorem d_D_rank_20 : decode b_D_rank 20 = .ok (.bipush 26, 2) := by decide +kernel
theorem d_D_rank_22 : decode b_D_rank 22 = .ok (.aload_n 0, 1) := by decide +kernel
theorem d_D_rank_23 : decode b_D_rank 23 = .ok (.getfield 9, 3) := by decide +kernel
theorem d_D_rank_26 : decode b_D_rank 26 = .ok (.iload_n 1, 1) := by decide +kernel
theorem d_D_rank_27 : decode b_D_rank 27 = .ok (.iaload, 1) := by decide +kernel
theorem d_D_rank_28 : decode b_D_rank 28 = .ok (.iadd, 1) := by decide +kernel
theorem d_D_rank_29 : decode b_D_rank 29 = .ok (.ireturn, 1) := by decide +kernel
theorem d_G_instance_0 : decode b_G_instance 0 = .ok (.aload_n 0, 1) := by decide +kernel
theorem d_G_instance_1 : decode b_G_instance 1 = .ok (.iload_n 1, 1) := by decide +kernel
theorem d_G_instance_2 : decode b_G_instance 2 = .ok (.invokevirtual 48, 3) := by decide +kernel
theorem d_G_instance_5 : decode b_G_instance 5 = .ok (.ifCond .eq 16, 3) := by decide +kernel
theorem d_G_instance_8 : decode b_G_instance 8 = .ok (.aload_n 0, 1) := by decide +kernel
theorem d_G_instance_9 : decode b_G_instance 9 = .ok (.getfield 11, 3) := by decide +kernel
theorem d_G_instance_12 : decode b_G_instance 12 = .ok (.iload_n 1, 1) := by decide +kernel
theorem d_G_instance_13 : decode b_G_instance 13 = .ok (.aaload, 1) := by decide +kernel
theorem d_G_instance_14 : decode b_G_instance 14 = .ok (.getfield 52, 3) := by decide +kernel
theorem d_G_instance_17 : decode b_G_instance 17 = .ok (.iconst 3, 1) := by decide +kernel
theorem d_G_instance_18 : decode b_G_instance 18 = .ok (.if_icmp .ne 5, 3) := by decide +kernel
theorem d_G_instance_21 : decode b_G_instance 21 = .ok (.iconst (-1), 1) := by decide +kernel
theorem d_G_instance_22 : decode b_G_instance 22 = .ok (.ireturn, 1) := by decide +kernel
theorem d_G_instance_23 : decode b_G_instance 23 = .ok (.aload_n 0, 1) := by decide +kernel
theorem d_G_instance_24 : decode b_G_instance 24 = .ok (.getfield 70, 3) := by decide +kernel
theorem d_G_instance_27 : decode b_G_instance 27 = .ok (.bipush 12, 2) := by decide +kernel
theorem d_G_instance_29 : decode b_G_instance 29 = .ok (.if_icmp .lt 6, 3) := by decide +kernel
theorem d_G_instance_32 : decode b_G_instance 32 = .ok (.bipush (-2), 2) := by decide +kernel
theorem d_G_instance_34 : decode b_G_instance 34 = .ok (.ireturn, 1) := by decide +kernel
theorem d_G_instance_35 : decode b_G_instance 35 = .ok (.aload_n 0, 1) := by decide +kernel
theorem d_G_instance_36 : decode b_G_instance 36 = .ok (.getfield 11, 3) := by decide +kernel
theorem d_G_instance_39 : decode b_G_instance 39 = .ok (.iload_n 1, 1) := by decide +kernel
theorem d_G_instance_40 : decode b_G_instance 40 = .ok (.aaload, 1) := by decide +kernel
theorem d_G_instance_41 : decode b_G_instance 41 = .ok (.getfield 73, 3) := by decide +kernel
theorem d_G_instance_44 : decode b_G_instance 44 = .ok (.astore_n 2, 1) := by decide +kernel
theorem d_G_instance_45 : decode b_G_instance 45 = .ok (.iconst 0, 1) := by decide +kernel
theorem d_G_instance_46 : decode b_G_instance 46 = .ok (.istore_n 3, 1) := by decide +kernel
theorem d_G_instance_47 : decode b_G_instance 47 = .ok (.iload_n 3, 1) := by decide +kernel
theorem d_G_instance_48 : decode b_G_instance 48 = .ok (.aload_n 2, 1) := by decide +kernel
theorem d_G_instance_49 : decode b_G_instance 49 = .ok (.arraylength, 1) := by decide +kernel
theorem d_G_instance_50 : decode b_G_instance 50 = .ok (.if_icmp .ge 21, 3) := by decide +kernel
theorem d_G_instance_53 : decode b_G_instance 53 = .ok (.aload_n 0, 1) := by decide +kernel
theorem d_G_instance_54 : decode b_G_instance 54 = .ok (.getfield 11, 3) := by decide +kernel
theorem d_G_instance_57 : decode b_G_instance 57 = .ok (.aload_n 2, 1) := by decide +kernel
theorem d_G_instance_58 : decode b_G_instance 58 = .ok (.iload_n 3, 1) := by decide +kernel
theorem d_G_instance_59 : decode b_G_instance 59 = .ok (.iaload, 1) := by decide +kernel
theorem d_G_instance_60 : decode b_G_instance 60 = .ok (.aaload, 1) := by decide +kernel
theorem d_G_instance_61 : decode b_G_instance 61 = .ok (.iconst 1, 1) := by decide +kernel
theorem d_G_instance_62 : decode b_G_instance 62 = .ok (.putfield 56, 3) := by decide +kernel
theorem d_G_instance_65 : decode b_G_instance 65 = .ok (.iinc 3 1, 3) := by decide +kernel
theorem d_G_instance_68 : decode b_G_instance 68 = .ok (.goto (-21), 3) := by decide +kernel
theorem d_G_instance_71 : decode b_G_instance 71 = .ok (.aload_n 0, 1) := by decide +kernel
theorem d_G_instance_72 : decode b_G_instance 72 = .ok (.new 15, 3) := by decide +kernel
theorem d_G_instance_75 : decode b_G_instance 75 = .ok (.dup, 1) := by decide +kernel
theorem d_G_instance_76 : decode b_G_instance 76 = .ok (.iconst 0, 1) := by decide +kernel
theorem d_G_instance_77 : decode b_G_instance 77 = .ok (.iload_n 1, 1) := by decide +kernel
theorem d_G_instance_78 : decode b_G_instance 78 = .ok (.aload_n 0, 1) := by decide +kernel
theorem d_G_instance_79 : decode b_G_instance 79 = .ok (.aload_n 2, 1) := by decide +kernel
theorem d_G_instance_80 : decode b_G_instance 80 = .ok (.invokevirtual 77, 3) := by decide +kernel
theorem d_G_instance_83 : decode b_G_instance 83 = .ok (.ldc 81, 2) := by decide +kernel
theorem d_G_instance_85 : decode b_G_instance 85 = .ok (.invokespecial 83, 3) := by decide +kernel
theorem d_G_instance_88 : decode b_G_instance 88 = .ok (.invokevirtual 86, 3) := by decide +kernel
theorem d_G_instance_91 : decode b_G_instance 91 = .ok (.ireturn, 1) := by decide +kernel
theorem d_G_slotTypes_0 : decode b_G_slotTypes 0 = .ok (.iconst 0, 1) := by decide +kernel
theorem d_G_slotTypes_1 : decode b_G_slotTypes 1 = .ok (.istore_n 2, 1) := by decide +kernel
theorem d_G_slotTypes_2 : decode b_G_slotTypes 2 = .ok (.iconst 0, 1) := by decide +kernel
theorem d_G_slotTypes_3 : decode b_G_slotTypes 3 = .ok (.istore_n 3, 1) := by decide +kernel
theorem d_G_slotTypes_4 : decode b_G_slotTypes 4 = .ok (.iload_n 3, 1) := by decide +kernel
theorem d_G_slotTypes_5 : decode b_G_slotTypes 5 = .ok (.aload_n 1, 1) := by decide +kernel
theorem d_G_slotTypes_6 : decode b_G_slotTypes 6 = .ok (.arraylength, 1) := by decide +kernel
theorem d_G_slotTypes_7 : decode b_G_slotTypes 7 = .ok (.if_icmp .ge 23, 3) := by decide +kernel
theorem d_G_slotTypes_10 : decode b_G_slotTypes 10 = .ok (.iload_n 2, 1) := by decide +kernel
theorem d_G_slotTypes_11 : decode b_G_slotTypes 11 = .ok (.aload_n 0, 1) := by decide +kernel
theorem d_G_slotTypes_12 : decode b_G_slotTypes 12 = .ok (.getfield 11, 3) := by decide +kernel
theorem d_G_slotTypes_15 : decode b_G_slotTypes 15 = .ok (.aload_n 1, 1) := by decide +kernel
theorem d_G_slotTypes_16 : decode b_G_slotTypes 16 = .ok (.iload_n 3, 1) := by decide +kernel
theorem d_G_slotTypes_17 : decode b_G_slotTypes 17 = .ok (.iaload, 1) := by decide +kernel
theorem d_G_slotTypes_18 : decode b_G_slotTypes 18 = .ok (.aaload, 1) := by decide +kernel
theorem d_G_slotTypes_19 : decode b_G_slotTypes 19 = .ok (.getfield 60, 3) := by decide +kernel
theorem d_G_slotTypes_22 : decode b_G_slotTypes 22 = .ok (.iadd, 1) := by decide +kernel
theorem d_G_slotTypes_23 : decode b_G_slotTypes 23 = .ok (.istore_n 2, 1) := by decide +kernel
theorem d_G_slotTypes_24 : decode b_G_slotTypes 24 = .ok (.iinc 3 1, 3) := by decide +kernel
theorem d_G_slotTypes_27 : decode b_G_slotTypes 27 = .ok (.goto (-23), 3) := by decide +kernel
theorem d_G_slotTypes_30 : decode b_G_slotTypes 30 = .ok (.iload_n 2, 1) := by decide +kernel
theorem d_G_slotTypes_31 : decode b_G_slotTypes 31 = .ok (.newarray .int, 2) := by decide +kernel
theorem d_G_slotTypes_33 : decode b_G_slotTypes 33 = .ok (.astore_n 3, 1) := by decide +kernel
theorem d_G_slotTypes_34 : decode b_G_slotTypes 34 = .ok (.iconst 0, 1) := by decide +kernel
theorem d_G_slotTypes_35 : decode b_G_slotTypes 35 = .ok (.istore 4, 2) := by decide +kernel
theorem d_G_slotTypes_37 : decode b_G_slotTypes 37 = .ok (.iconst 0, 1) := by decide +kernel
theorem d_G_slotTypes_38 : decode b_G_slotTypes 38 = .ok (.istore 5, 2) := by decide +kernel
theorem d_G_slotTypes_40 : decode b_G_slotTypes 40 = .ok (.iload 5, 2) := by decide +kernel
theorem d_G_slotTypes_42 : decode b_G_slotTypes 42 = .ok (.aload_n 1, 1) := by decide +kernel
theorem d_G_slotTypes_43 : decode b_G_slotTypes 43 = .ok (.arraylength, 1) := by decide +kernel
theorem d_G_slotTypes_44 : decode b_G_slotTypes 44 = .ok (.if_icmp .ge 47, 3) := by decide +kernel
theorem d_G_slotTypes_47 : decode b_G_slotTypes 47 = .ok (.aload_n 0, 1) := by decide +kernel
theorem d_G_slotTypes_48 : decode b_G_slotTypes 48 = .ok (.getfield 11, 3) := by decide +kernel
theorem d_G_slotTypes_51 : decode b_G_slotTypes 51 = .ok (.aload_n 1, 1) := by decide +kernel
theorem d_G_slotTypes_52 : decode b_G_slotTypes 52 = .ok (.iload 5, 2) := by decide +kernel
theorem d_G_slotTypes_54 : decode b_G_slotTypes 54 = .ok (.iaload, 1) := by decide +kernel
theorem d_G_slotTypes_55 : decode b_G_slotTypes 55 = .ok (.aaload, 1) := by decide +kernel
theorem d_G_slotTypes_56 : decode b_G_slotTypes 56 = .ok (.astore 6, 2) := by decide +kernel
theorem d_G_slotTypes_58 : decode b_G_slotTypes 58 = .ok (.aload 6, 2) := by decide +kernel
theorem d_G_slotTypes_60 : decode b_G_slotTypes 60 = .ok (.getfield 190, 3) := by decide +kernel
theorem d_G_slotTypes_63 : decode b_G_slotTypes 63 = .ok (.iconst 0, 1) := by decide +kernel
theorem d_G_slotTypes_64 : decode b_G_slotTypes 64 = .ok (.aload_n 3, 1) := by decide +kernel
theorem d_G_slotTypes_65 : decode b_G_slotTypes 65 = .ok (.iload 4, 2) := by decide +kernel
theorem d_G_slotTypes_67 : decode b_G_slotTypes 67 = .ok (.aload 6, 2) := by decide +kernel
theorem d_G_slotTypes_69 : decode b_G_slotTypes 69 = .ok (.getfield 60, 3) := by decide +kernel
theorem d_G_slotTypes_72 : decode b_G_slotTypes 72 = .ok (.invokestatic 191, 3) := by decide +kernel
theorem d_G_slotTypes_75 : decode b_G_slotTypes 75 = .ok (.iload 4, 2) := by decide +kernel
theorem d_G_slotTypes_77 : decode b_G_slotTypes 77 = .ok (.aload 6, 2) := by decide +kernel
theorem d_G_slotTypes_79 : decode b_G_slotTypes 79 = .ok (.getfield 60, 3) := by decide +kernel
theorem d_G_slotTypes_82 : decode b_G_slotTypes 82 = .ok (.iadd, 1) := by decide +kernel
theorem d_G_slotTypes_83 : decode b_G_slotTypes 83 = .ok (.istore 4, 2) := by decide +kernel
theorem d_G_slotTypes_85 : decode b_G_slotTypes 85 = .ok (.iinc 5 1, 3) := by decide +kernel
theorem d_G_slotTypes_88 : decode b_G_slotTypes 88 = .ok (.goto (-48), 3) := by decide +kernel
theorem d_G_slotTypes_91 : decode b_G_slotTypes 91 = .ok (.aload_n 3, 1) := by decide +kernel
theorem d_G_slotTypes_92 : decode b_G_slotTypes 92 = .ok (.areturn, 1) := by decide +kernel
theorem d_T_init_0 : decode b_T_init 0 = .ok (.aload_n 0, 1) := by decide +kernel
theorem d_T_init_1 : decode b_T_init 1 = .ok (.invokespecial 3, 3) := by decide +kernel
theorem d_T_init_4 : decode b_T_init 4 = .ok (.aload_n 0, 1) := by decide +kernel
theorem d_T_init_5 : decode b_T_init 5 = .ok (.iconst (-1), 1) := by decide +kernel
theorem d_T_init_6 : decode b_T_init 6 = .ok (.putfield 9, 3) := by decide +kernel
theorem d_T_init_9 : decode b_T_init 9 = .ok (.aload_n 0, 1) := by decide +kernel
theorem d_T_init_10 : decode b_T_init 10 = .ok (.iload_n 1, 1) := by decide +kernel
theorem d_T_init_11 : decode b_T_init 11 = .ok (.putfield 15, 3) := by decide +kernel
theorem d_T_init_14 : decode b_T_init 14 = .ok (.aload_n 0, 1) := by decide +kernel
theorem d_T_init_15 : decode b_T_init 15 = .ok (.iload_n 2, 1) := by decide +kernel
theorem d_T_init_16 : decode b_T_init 16 = .ok (.putfield 18, 3) := by decide +kernel
theorem d_T_init_19 : decode b_T_init 19 = .ok (.aload_n 0, 1) := by decide +kernel
theorem d_T_init_20 : decode b_T_init 20 = .ok (.aload_n 3, 1) := by decide +kernel
theorem d_T_init_21 : decode b_T_init 21 = .ok (.putfield 21, 3) := by decide +kernel
theorem d_T_init_24 : decode b_T_init 24 = .ok (.aload_n 0, 1) := by decide +kernel
theorem d_T_init_25 : decode b_T_init 25 = .ok (.aload 4, 2) := by decide +kernel
theorem d_T_init_27 : decode b_T_init 27 = .ok (.putfield 25, 3) := by decide +kernel
theorem d_T_init_30 : decode b_T_init 30 = .ok (.aload_n 0, 1) := by decide +kernel
theorem d_T_init_31 : decode b_T_init 31 = .ok (.aload_n 3, 1) := by decide +kernel
theorem d_T_init_32 : decode b_T_init 32 = .ok (.arraylength, 1) := by decide +kernel
theorem d_T_init_33 : decode b_T_init 33 = .ok (.newarray .long, 2) := by decide +kernel
theorem d_T_init_35 : decode b_T_init 35 = .ok (.putfield 29, 3) := by decide +kernel
theorem d_T_init_38 : decode b_T_init 38 = .ok (.iconst 0, 1) := by decide +kernel
theorem d_T_init_39 : decode b_T_init 39 = .ok (.istore 5, 2) := by decide +kernel
theorem d_T_init_41 : decode b_T_init 41 = .ok (.iload 5, 2) := by decide +kernel
theorem d_T_init_43 : decode b_T_init 43 = .ok (.aload_n 3, 1) := by decide +kernel
theorem d_T_init_44 : decode b_T_init 44 = .ok (.arraylength, 1) := by decide +kernel
theorem d_T_init_45 : decode b_T_init 45 = .ok (.if_icmp .ge 28, 3) := by decide +kernel
theorem d_T_init_48 : decode b_T_init 48 = .ok (.aload_n 3, 1) := by decide +kernel
theorem d_T_init_49 : decode b_T_init 49 = .ok (.iload 5, 2) := by decide +kernel
theorem d_T_init_51 : decode b_T_init 51 = .ok (.iaload, 1) := by decide +kernel
theorem d_T_init_52 : decode b_T_init 52 = .ok (.bipush 6, 2) := by decide +kernel
theorem d_T_init_54 : decode b_T_init 54 = .ok (.if_icmp .lt 13, 3) := by decide +kernel
theorem d_T_init_57 : decode b_T_init 57 = .ok (.aload_n 0, 1) := by decide +kernel
theorem d_T_init_58 : decode b_T_init 58 = .ok (.getfield 29, 3) := by decide +kernel
theorem d_T_init_61 : decode b_T_init 61 = .ok (.iload 5, 2) := by decide +kernel
theorem d_T_init_63 : decode b_T_init 63 = .ok (.ldc2_w 33, 3) := by decide +kernel
theorem d_T_init_66 : decode b_T_init 66 = .ok (.lastore, 1) := by decide +kernel
theorem d_T_init_67 : decode b_T_init 67 = .ok (.iinc 5 1, 3) := by decide +kernel
theorem d_T_init_70 : decode b_T_init 70 = .ok (.goto (-29), 3) := by decide +kernel
theorem d_T_init_73 : decode b_T_init 73 = .ok (.return_, 1) := by decide +kernel
theorem d_G_keep_0 : decode b_G_keep 0 = .ok (.aload_n 0, 1) := by decide +kernel
theorem d_G_keep_1 : decode b_G_keep 1 = .ok (.getfield 17, 3) := by decide +kernel
theorem d_G_keep_4 : decode b_G_keep 4 = .ok (.aload_n 0, 1) := by decide +kernel
theorem d_G_keep_5 : decode b_G_keep 5 = .ok (.getfield 70, 3) := by decide +kernel
theorem d_G_keep_8 : decode b_G_keep 8 = .ok (.aload_n 1, 1) := by decide +kernel
theorem d_G_keep_9 : decode b_G_keep 9 = .ok (.aastore, 1) := by decide +kernel
theorem d_G_keep_10 : decode b_G_keep 10 = .ok (.aload_n 0, 1) := by decide +kernel
theorem d_G_keep_11 : decode b_G_keep 11 = .ok (.dup, 1) := by decide +kernel
theorem d_G_keep_12 : decode b_G_keep 12 = .ok (.getfield 70, 3) := by decide +kernel
theorem d_G_keep_15 : decode b_G_keep 15 = .ok (.iconst 1, 1) := by decide +kernel
theorem d_G_keep_16 : decode b_G_keep 16 = .ok (.iadd, 1) := by decide +kernel
theorem d_G_keep_17 : decode b_G_keep 17 = .ok (.putfield 70, 3) := by decide +kernel
theorem d_G_keep_20 : decode b_G_keep 20 = .ok (.aload_n 0, 1) := by decide +kernel
theorem d_G_keep_21 : decode b_G_keep 21 = .ok (.getfield 70, 3) := by decide +kernel
theorem d_G_keep_24 : decode b_G_keep 24 = .ok (.iconst 1, 1) := by decide +kernel
theorem d_G_keep_25 : decode b_G_keep 25 = .ok (.isub, 1) := by decide +kernel
theorem d_G_keep_26 : decode b_G_keep 26 = .ok (.ireturn, 1) := by decide +kernel
theorem d_G_text_0 : decode b_G_text 0 = .ok (.lload_n 1, 1) := by decide +kernel
theorem d_G_text_1 : decode b_G_text 1 = .ok (.ldc2_w 90, 3) := by decide +kernel
theorem d_G_text_4 : decode b_G_text 4 = .ok (.land, 1) := by decide +kernel
theorem d_G_text_5 : decode b_G_text 5 = .ok (.lconst 0, 1) := by decide +kernel
theorem d_G_text_6 : decode b_G_text 6 = .ok (.lcmp, 1) := by decide +kernel
theorem d_G_text_7 : decode b_G_text 7 = .ok (.ifCond .eq 5, 3) := by decide +kernel
theorem d_G_text_10 : decode b_G_text 10 = .ok (.iconst (-1), 1) := by decide +kernel
theorem d_G_text_11 : decode b_G_text 11 = .ok (.ireturn, 1) := by decide +kernel
theorem d_G_text_12 : decode b_G_text 12 = .ok (.aload_n 0, 1) := by decide +kernel
theorem d_G_text_13 : decode b_G_text 13 = .ok (.getfield 70, 3) := by decide +kernel
theorem d_G_text_16 : decode b_G_text 16 = .ok (.bipush 12, 2) := by decide +kernel
theorem d_G_text_18 : decode b_G_text 18 = .ok (.if_icmp .lt 6, 3) := by decide +kernel
theorem d_G_text_21 : decode b_G_text 21 = .ok (.bipush (-2), 2) := by decide +kernel
theorem d_G_text_23 : decode b_G_text 23 = .ok (.ireturn, 1) := by decide +kernel
theorem d_G_text_24 : decode b_G_text 24 = .ok (.aload_n 0, 1) := by decide +kernel
theorem d_G_text_25 : decode b_G_text 25 = .ok (.new 15, 3) := by decide +kernel
theorem d_G_text_28 : decode b_G_text 28 = .ok (.dup, 1) := by decide +kernel
theorem d_G_text_29 : decode b_G_text 29 = .ok (.iconst 1, 1) := by decide +kernel
theorem d_G_text_30 : decode b_G_text 30 = .ok (.iconst (-1), 1) := by decide +kernel
theorem d_G_text_31 : decode b_G_text 31 = .ok (.iconst 0, 1) := by decide +kernel
theorem d_G_text_32 : decode b_G_text 32 = .ok (.newarray .int, 2) := by decide +kernel
theorem d_G_text_34 : decode b_G_text 34 = .ok (.lload_n 1, 1) := by decide +kernel
theorem d_G_text_35 : decode b_G_text 35 = .ok (.invokestatic 92, 3) := by decide +kernel
theorem d_G_text_38 : decode b_G_text 38 = .ok (.invokespecial 83, 3) := by decide +kernel
theorem d_G_text_41 : decode b_G_text 41 = .ok (.invokevirtual 86, 3) := by decide +kernel
theorem d_G_text_44 : decode b_G_text 44 = .ok (.ireturn, 1) := by decide +kernel
theorem d_G_signsOf_0 : decode b_G_signsOf 0 = .ok (.new 197, 3) := by decide +kernel
theorem d_G_signsOf_3 : decode b_G_signsOf 3 = .ok (.dup, 1) := by decide +kernel
theorem d_G_signsOf_4 : decode b_G_signsOf 4 = .ok (.invokespecial 199, 3) := by decide +kernel
theorem d_G_signsOf_7 : decode b_G_signsOf 7 = .ok (.astore_n 2, 1) := by decide +kernel
theorem d_G_signsOf_8 : decode b_G_signsOf 8 = .ok (.bipush 56, 2) := by decide +kernel
theorem d_G_signsOf_10 : decode b_G_signsOf 10 = .ok (.istore_n 3, 1) := by decide +kernel
theorem d_G_signsOf_11 : decode b_G_signsOf 11 = .ok (.iload_n 3, 1) := by decide +kernel
theorem d_G_signsOf_12 : decode b_G_signsOf 12 = .ok (.ifCond .lt 32, 3) := by decide +kernel
theorem d_G_signsOf_15 : decode b_G_signsOf 15 = .ok (.lload_n 0, 1) := by decide +kernel
theorem d_G_signsOf_16 : decode b_G_signsOf 16 = .ok (.iload_n 3, 1) := by decide +kernel
theorem d_G_signsOf_17 : decode b_G_signsOf 17 = .ok (.lushr, 1) := by decide +kernel
theorem d_G_signsOf_18 : decode b_G_signsOf 18 = .ok (.ldc2_w 200, 3) := by decide +kernel
theorem d_G_signsOf_21 : decode b_G_signsOf 21 = .ok (.land, 1) := by decide +kernel
theorem d_G_signsOf_22 : decode b_G_signsOf 22 = .ok (.l2i, 1) := by decide +kernel
theorem d_G_signsOf_23 : decode b_G_signsOf 23 = .ok (.i2c, 1) := by decide +kernel
theorem d_G_signsOf_24 : decode b_G_signsOf 24 = .ok (.istore 4, 2) := by decide +kernel
theorem d_G_signsOf_26 : decode b_G_signsOf 26 = .ok (.iload 4, 2) := by decide +kernel
theorem d_G_signsOf_28 : decode b_G_signsOf 28 = .ok (.ifCond .eq 10, 3) := by decide +kernel
theorem d_G_signsOf_31 : decode b_G_signsOf 31 = .ok (.aload_n 2, 1) := by decide +kernel
theorem d_G_signsOf_32 : decode b_G_signsOf 32 = .ok (.iload 4, 2) := by decide +kernel
theorem d_G_signsOf_34 : decode b_G_signsOf 34 = .ok (.invokevirtual 202, 3) := by decide +kernel
theorem d_G_signsOf_37 : decode b_G_signsOf 37 = .ok (.pop, 1) := by decide +kernel
theorem d_G_signsOf_38 : decode b_G_signsOf 38 = .ok (.iinc 3 (-8), 3) := by decide +kernel
theorem d_G_signsOf_41 : decode b_G_signsOf 41 = .ok (.goto (-30), 3) := by decide +kernel
theorem d_G_signsOf_44 : decode b_G_signsOf 44 = .ok (.aload_n 2, 1) := by decide +kernel
theorem d_G_signsOf_45 : decode b_G_signsOf 45 = .ok (.invokevirtual 206, 3) := by decide +kernel
theorem d_G_signsOf_48 : decode b_G_signsOf 48 = .ok (.areturn, 1) := by decide +kernel
theorem d_JB_init_0 : decode b_JB_init 0 = .ok (.aload_n 0, 1) := by decide +kernel
theorem d_JB_init_1 : decode b_JB_init 1 = .ok (.bipush 16, 2) := by decide +kernel
theorem d_JB_init_3 : decode b_JB_init 3 = .ok (.invokespecial 1, 3) := by decide +kernel
theorem d_JB_init_6 : decode b_JB_init 6 = .ok (.return_, 1) := by decide +kernel
theorem d_JA_init_0 : decode b_JA_init 0 = .ok (.aload_n 0, 1) := by decide +kernel
theorem d_JA_init_1 : decode b_JA_init 1 = .ok (.invokespecial 3, 3) := by decide +kernel
theorem d_JA_init_4 : decode b_JA_init 4 = .ok (.getstatic 18, 3) := by decide +kernel
theorem d_JA_init_7 : decode b_JA_init 7 = .ok (.ifCond .eq 18, 3) := by decide +kernel
theorem d_JA_init_10 : decode b_JA_init 10 = .ok (.aload_n 0, 1) := by decide +kernel
theorem d_JA_init_11 : decode b_JA_init 11 = .ok (.iload_n 1, 1) := by decide +kernel
theorem d_JA_init_12 : decode b_JA_init 12 = .ok (.newarray .byte, 2) := by decide +kernel
theorem d_JA_init_14 : decode b_JA_init 14 = .ok (.putfield 15, 3) := by decide +kernel
theorem d_JA_init_17 : decode b_JA_init 17 = .ok (.aload_n 0, 1) := by decide +kernel
theorem d_JA_init_18 : decode b_JA_init 18 = .ok (.iconst 0, 1) := by decide +kernel
theorem d_JA_init_19 : decode b_JA_init 19 = .ok (.putfield 22, 3) := by decide +kernel
theorem d_JA_init_22 : decode b_JA_init 22 = .ok (.goto 16, 3) := by decide +kernel
theorem d_JA_init_25 : decode b_JA_init 25 = .ok (.aload_n 0, 1) := by decide +kernel
theorem d_JA_init_26 : decode b_JA_init 26 = .ok (.iload_n 1, 1) := by decide +kernel
theorem d_JA_init_27 : decode b_JA_init 27 = .ok (.invokestatic 26, 3) := by decide +kernel
theorem d_JA_init_30 : decode b_JA_init 30 = .ok (.putfield 15, 3) := by decide +kernel
theorem d_JA_init_33 : decode b_JA_init 33 = .ok (.aload_n 0, 1) := by decide +kernel
theorem d_JA_init_34 : decode b_JA_init 34 = .ok (.iconst 1, 1) := by decide +kernel
theorem d_JA_init_35 : decode b_JA_init 35 = .ok (.putfield 22, 3) := by decide +kernel
theorem d_JA_init_38 : decode b_JA_init 38 = .ok (.return_, 1) := by decide +kernel
theorem d_JU_newBytesFor_0 : decode b_JU_newBytesFor 0 = .ok (.iload_n 0, 1) := by decide +kernel
theorem d_JU_newBytesFor_1 : decode b_JU_newBytesFor 1 = .ok (.invokestatic 11, 3) := by decide +kernel
theorem d_JU_newBytesFor_4 : decode b_JU_newBytesFor 4 = .ok (.newarray .byte, 2) := by decide +kernel
theorem d_JU_newBytesFor_6 : decode b_JU_newBytesFor 6 = .ok (.areturn, 1) := by decide +kernel
theorem d_JB_append_0 : decode b_JB_append 0 = .ok (.aload_n 0, 1) := by decide +kernel
theorem d_JB_append_1 : decode b_JB_append 1 = .ok (.iload_n 1, 1) := by decide +kernel
theorem d_JB_append_2 : decode b_JB_append 2 = .ok (.invokespecial 50, 3) := by decide +kernel
theorem d_JB_append_5 : decode b_JB_append 5 = .ok (.pop, 1) := by decide +kernel
theorem d_JB_append_6 : decode b_JB_append 6 = .ok (.aload_n 0, 1) := by decide +kernel
theorem d_JB_append_7 : decode b_JB_append 7 = .ok (.areturn, 1) := by decide +kernel
theorem d_JA_append_0 : decode b_JA_append 0 = .ok (.aload_n 0, 1) := by decide +kernel
theorem d_JA_append_1 : decode b_JA_append 1 = .ok (.aload_n 0, 1) := by decide +kernel
theorem d_JA_append_2 : decode b_JA_append 2 = .ok (.getfield 79, 3) := by decide +kernel
theorem d_JA_append_5 : decode b_JA_append 5 = .ok (.iconst 1, 1) := by decide +kernel
theorem d_JA_append_6 : decode b_JA_append 6 = .ok (.iadd, 1) := by decide +kernel
theorem d_JA_append_7 : decode b_JA_append 7 = .ok (.invokevirtual 100, 3) := by decide +kernel
theorem d_JA_append_10 : decode b_JA_append 10 = .ok (.aload_n 0, 1) := by decide +kernel
theorem d_JA_append_11 : decode b_JA_append 11 = .ok (.invokevirtual 83, 3) := by decide +kernel
theorem d_JA_append_14 : decode b_JA_append 14 = .ok (.ifCond .eq 31, 3) := by decide +kernel
theorem d_JA_append_17 : decode b_JA_append 17 = .ok (.iload_n 1, 1) := by decide +kernel
theorem d_JA_append_18 : decode b_JA_append 18 = .ok (.invokestatic 191, 3) := by decide +kernel
theorem d_JA_append_21 : decode b_JA_append 21 = .ok (.ifCond .eq 24, 3) := by decide +kernel
theorem d_JA_append_24 : decode b_JA_append 24 = .ok (.aload_n 0, 1) := by decide +kernel
theorem d_JA_append_25 : decode b_JA_append 25 = .ok (.getfield 15, 3) := by decide +kernel
theorem d_JA_append_28 : decode b_JA_append 28 = .ok (.aload_n 0, 1) := by decide +kernel
theorem d_JA_append_29 : decode b_JA_append 29 = .ok (.dup, 1) := by decide +kernel
theorem d_JA_append_30 : decode b_JA_append 30 = .ok (.getfield 79, 3) := by decide +kernel
theorem d_JA_append_33 : decode b_JA_append 33 = .ok (.dup_x1, 1) := by decide +kernel
theorem d_JA_append_34 : decode b_JA_append 34 = .ok (.iconst 1, 1) := by decide +kernel
theorem d_JA_append_35 : decode b_JA_append 35 = .ok (.iadd, 1) := by decide +kernel
theorem d_JA_append_36 : decode b_JA_append 36 = .ok (.putfield 79, 3) := by decide +kernel
theorem d_JA_append_39 : decode b_JA_append 39 = .ok (.iload_n 1, 1) := by decide +kernel
theorem d_JA_append_40 : decode b_JA_append 40 = .ok (.i2b, 1) := by decide +kernel
