theorem d_M_holder_7 : decode b_M_holder 7 = .ok (.bipush 6, 2) := by decide +kernel
theorem d_M_holder_9 : decode b_M_holder 9 = .ok (.if_icmp .ge 25, 3) := by decide +kernel
theorem d_M_holder_12 : decode b_M_holder 12 = .ok (.iload_n 2, 1) := by decide +kernel
theorem d_M_holder_13 : decode b_M_holder 13 = .ok (.aload_n 0, 1) := by decide +kernel
theorem d_M_holder_14 : decode b_M_holder 14 = .ok (.iload_n 3, 1) := by decide +kernel
theorem d_M_holder_15 : decode b_M_holder 15 = .ok (.invokevirtual 121, 3) := by decide +kernel
theorem d_M_holder_18 : decode b_M_holder 18 = .ok (.if_icmp .ge 16, 3) := by decide +kernel
theorem d_M_holder_21 : decode b_M_holder 21 = .ok (.aload_n 0, 1) := by decide +kernel
theorem d_M_holder_22 : decode b_M_holder 22 = .ok (.getfield 17, 3) := by decide +kernel
theorem d_M_holder_25 : decode b_M_holder 25 = .ok (.iload_n 3, 1) := by decide +kernel
theorem d_M_holder_26 : decode b_M_holder 26 = .ok (.iaload, 1) := by decide +kernel
theorem d_M_holder_27 : decode b_M_holder 27 = .ok (.istore_n 3, 1) := by decide +kernel
theorem d_M_holder_28 : decode b_M_holder 28 = .ok (.iinc 4 1, 3) := by decide +kernel
theorem d_M_holder_31 : decode b_M_holder 31 = .ok (.goto (-26), 3) := by decide +kernel
theorem d_M_holder_34 : decode b_M_holder 34 = .ok (.iload_n 3, 1) := by decide +kernel
theorem d_M_holder_35 : decode b_M_holder 35 = .ok (.ireturn, 1) := by decide +kernel
theorem d_M_text_0 : decode b_M_text 0 = .ok (.iconst 0, 1) := by decide +kernel
theorem d_M_text_1 : decode b_M_text 1 = .ok (.istore_n 3, 1) := by decide +kernel
theorem d_M_text_2 : decode b_M_text 2 = .ok (.bipush 7, 2) := by decide +kernel
theorem d_M_text_4 : decode b_M_text 4 = .ok (.istore 4, 2) := by decide +kernel
theorem d_M_text_6 : decode b_M_text 6 = .ok (.iload 4, 2) := by decide +kernel
theorem d_M_text_8 : decode b_M_text 8 = .ok (.ifCond .lt 40, 3) := by decide +kernel
theorem d_M_text_11 : decode b_M_text 11 = .ok (.lload_n 1, 1) := by decide +kernel
theorem d_M_text_12 : decode b_M_text 12 = .ok (.bipush 8, 2) := by decide +kernel
theorem d_M_text_14 : decode b_M_text 14 = .ok (.iload 4, 2) := by decide +kernel
theorem d_M_text_16 : decode b_M_text 16 = .ok (.imul, 1) := by decide +kernel
theorem d_M_text_17 : decode b_M_text 17 = .ok (.lshr, 1) := by decide +kernel
theorem d_M_text_18 : decode b_M_text 18 = .ok (.l2i, 1) := by decide +kernel
theorem d_M_text_19 : decode b_M_text 19 = .ok (.sipush 255, 3) := by decide +kernel
theorem d_M_text_22 : decode b_M_text 22 = .ok (.iand, 1) := by decide +kernel
theorem d_M_text_23 : decode b_M_text 23 = .ok (.istore 5, 2) := by decide +kernel
theorem d_M_text_25 : decode b_M_text 25 = .ok (.iload 5, 2) := by decide +kernel
theorem d_M_text_27 : decode b_M_text 27 = .ok (.bipush 127, 2) := by decide +kernel
theorem d_M_text_29 : decode b_M_text 29 = .ok (.if_icmp .le 5, 3) := by decide +kernel
theorem d_M_text_32 : decode b_M_text 32 = .ok (.iconst (-1), 1) := by decide +kernel
theorem d_M_text_33 : decode b_M_text 33 = .ok (.ireturn, 1) := by decide +kernel
theorem d_M_text_34 : decode b_M_text 34 = .ok (.iload 5, 2) := by decide +kernel
theorem d_M_text_36 : decode b_M_text 36 = .ok (.ifCond .le 6, 3) := by decide +kernel
theorem d_M_text_39 : decode b_M_text 39 = .ok (.iinc 3 1, 3) := by decide +kernel
theorem d_M_text_42 : decode b_M_text 42 = .ok (.iinc 4 (-1), 3) := by decide +kernel
theorem d_M_text_45 : decode b_M_text 45 = .ok (.goto (-39), 3) := by decide +kernel
theorem d_M_text_48 : decode b_M_text 48 = .ok (.aload_n 0, 1) := by decide +kernel
theorem d_M_text_49 : decode b_M_text 49 = .ok (.iconst 1, 1) := by decide +kernel
theorem d_M_text_50 : decode b_M_text 50 = .ok (.iload_n 3, 1) := by decide +kernel
theorem d_M_text_51 : decode b_M_text 51 = .ok (.invokevirtual 129, 3) := by decide +kernel
theorem d_M_text_54 : decode b_M_text 54 = .ok (.istore 4, 2) := by decide +kernel
theorem d_M_text_56 : decode b_M_text 56 = .ok (.iload 4, 2) := by decide +kernel
theorem d_M_text_58 : decode b_M_text 58 = .ok (.ifCond .ge 6, 3) := by decide +kernel
theorem d_M_text_61 : decode b_M_text 61 = .ok (.bipush (-2), 2) := by decide +kernel
theorem d_M_text_63 : decode b_M_text 63 = .ok (.ireturn, 1) := by decide +kernel
theorem d_M_text_64 : decode b_M_text 64 = .ok (.iconst 0, 1) := by decide +kernel
theorem d_M_text_65 : decode b_M_text 65 = .ok (.istore_n 3, 1) := by decide +kernel
theorem d_M_text_66 : decode b_M_text 66 = .ok (.bipush 7, 2) := by decide +kernel
theorem d_M_text_68 : decode b_M_text 68 = .ok (.istore 5, 2) := by decide +kernel
theorem d_M_text_70 : decode b_M_text 70 = .ok (.iload 5, 2) := by decide +kernel
theorem d_M_text_72 : decode b_M_text 72 = .ok (.ifCond .lt 46, 3) := by decide +kernel
theorem d_M_text_75 : decode b_M_text 75 = .ok (.lload_n 1, 1) := by decide +kernel
theorem d_M_text_76 : decode b_M_text 76 = .ok (.bipush 8, 2) := by decide +kernel
theorem d_M_text_78 : decode b_M_text 78 = .ok (.iload 5, 2) := by decide +kernel
theorem d_M_text_80 : decode b_M_text 80 = .ok (.imul, 1) := by decide +kernel
theorem d_M_text_81 : decode b_M_text 81 = .ok (.lshr, 1) := by decide +kernel
theorem d_M_text_82 : decode b_M_text 82 = .ok (.l2i, 1) := by decide +kernel
theorem d_M_text_83 : decode b_M_text 83 = .ok (.sipush 255, 3) := by decide +kernel
theorem d_M_text_86 : decode b_M_text 86 = .ok (.iand, 1) := by decide +kernel
theorem d_M_text_87 : decode b_M_text 87 = .ok (.istore 6, 2) := by decide +kernel
theorem d_M_text_89 : decode b_M_text 89 = .ok (.iload 6, 2) := by decide +kernel
theorem d_M_text_91 : decode b_M_text 91 = .ok (.ifCond .le 21, 3) := by decide +kernel
theorem d_M_text_94 : decode b_M_text 94 = .ok (.aload_n 0, 1) := by decide +kernel
theorem d_M_text_95 : decode b_M_text 95 = .ok (.getfield 48, 3) := by decide +kernel
theorem d_M_text_98 : decode b_M_text 98 = .ok (.bipush 24, 2) := by decide +kernel
theorem d_M_text_100 : decode b_M_text 100 = .ok (.iload 4, 2) := by decide +kernel
theorem d_M_text_102 : decode b_M_text 102 = .ok (.imul, 1) := by decide +kernel
theorem d_M_text_103 : decode b_M_text 103 = .ok (.iload_n 3, 1) := by decide +kernel
theorem d_M_text_104 : decode b_M_text 104 = .ok (.iadd, 1) := by decide +kernel
theorem d_M_text_105 : decode b_M_text 105 = .ok (.iload 6, 2) := by decide +kernel
theorem d_M_text_107 : decode b_M_text 107 = .ok (.i2l, 1) := by decide +kernel
theorem d_M_text_108 : decode b_M_text 108 = .ok (.lastore, 1) := by decide +kernel
theorem d_M_text_109 : decode b_M_text 109 = .ok (.iinc 3 1, 3) := by decide +kernel
theorem d_M_text_112 : decode b_M_text 112 = .ok (.iinc 5 (-1), 3) := by decide +kernel
theorem d_M_text_115 : decode b_M_text 115 = .ok (.goto (-45), 3) := by decide +kernel
theorem d_M_text_118 : decode b_M_text 118 = .ok (.iload 4, 2) := by decide +kernel
theorem d_M_text_120 : decode b_M_text 120 = .ok (.ireturn, 1) := by decide +kernel
theorem d_M_array_0 : decode b_M_array 0 = .ok (.iload_n 2, 1) := by decide +kernel
theorem d_M_array_1 : decode b_M_array 1 = .ok (.ifCond .lt 17, 3) := by decide +kernel
theorem d_M_array_4 : decode b_M_array 4 = .ok (.iload_n 2, 1) := by decide +kernel
theorem d_M_array_5 : decode b_M_array 5 = .ok (.iload_n 1, 1) := by decide +kernel
theorem d_M_array_6 : decode b_M_array 6 = .ok (.ifCond .eq 7, 3) := by decide +kernel
theorem d_M_array_9 : decode b_M_array 9 = .ok (.iconst 4, 1) := by decide +kernel
theorem d_M_array_10 : decode b_M_array 10 = .ok (.goto 5, 3) := by decide +kernel
theorem d_M_array_13 : decode b_M_array 13 = .ok (.bipush 6, 2) := by decide +kernel
theorem d_M_array_15 : decode b_M_array 15 = .ok (.if_icmp .le 5, 3) := by decide +kernel
theorem d_M_array_18 : decode b_M_array 18 = .ok (.iconst (-1), 1) := by decide +kernel
theorem d_M_array_19 : decode b_M_array 19 = .ok (.ireturn, 1) := by decide +kernel
theorem d_M_array_20 : decode b_M_array 20 = .ok (.aload_n 0, 1) := by decide +kernel
theorem d_M_array_21 : decode b_M_array 21 = .ok (.iload_n 1, 1) := by decide +kernel
theorem d_M_array_22 : decode b_M_array 22 = .ok (.ifCond .eq 7, 3) := by decide +kernel
theorem d_M_array_25 : decode b_M_array 25 = .ok (.iconst 3, 1) := by decide +kernel
theorem d_M_array_26 : decode b_M_array 26 = .ok (.goto 4, 3) := by decide +kernel
theorem d_M_array_29 : decode b_M_array 29 = .ok (.iconst 2, 1) := by decide +kernel
theorem d_M_array_30 : decode b_M_array 30 = .ok (.iload_n 2, 1) := by decide +kernel
theorem d_M_array_31 : decode b_M_array 31 = .ok (.invokevirtual 129, 3) := by decide +kernel
theorem d_M_array_34 : decode b_M_array 34 = .ok (.istore_n 3, 1) := by decide +kernel
theorem d_M_array_35 : decode b_M_array 35 = .ok (.iload_n 3, 1) := by decide +kernel
theorem d_M_array_36 : decode b_M_array 36 = .ok (.ifCond .ge 6, 3) := by decide +kernel
theorem d_M_array_39 : decode b_M_array 39 = .ok (.bipush (-2), 2) := by decide +kernel
theorem d_M_array_41 : decode b_M_array 41 = .ok (.ireturn, 1) := by decide +kernel
theorem d_M_array_42 : decode b_M_array 42 = .ok (.iconst 0, 1) := by decide +kernel
theorem d_M_array_43 : decode b_M_array 43 = .ok (.istore 4, 2) := by decide +kernel
theorem d_M_array_45 : decode b_M_array 45 = .ok (.iload_n 1, 1) := by decide +kernel
theorem d_M_array_46 : decode b_M_array 46 = .ok (.ifCond .eq 30, 3) := by decide +kernel
theorem d_M_array_49 : decode b_M_array 49 = .ok (.iload 4, 2) := by decide +kernel
theorem d_M_array_51 : decode b_M_array 51 = .ok (.iload_n 2, 1) := by decide +kernel
theorem d_M_array_52 : decode b_M_array 52 = .ok (.if_icmp .ge 24, 3) := by decide +kernel
theorem d_M_array_55 : decode b_M_array 55 = .ok (.aload_n 0, 1) := by decide +kernel
theorem d_M_array_56 : decode b_M_array 56 = .ok (.getfield 48, 3) := by decide +kernel
theorem d_M_array_59 : decode b_M_array 59 = .ok (.bipush 24, 2) := by decide +kernel
theorem d_M_array_61 : decode b_M_array 61 = .ok (.iload_n 3, 1) := by decide +kernel
theorem d_M_array_62 : decode b_M_array 62 = .ok (.imul, 1) := by decide +kernel
theorem d_M_array_63 : decode b_M_array 63 = .ok (.iload 4, 2) := by decide +kernel
theorem d_M_array_65 : decode b_M_array 65 = .ok (.iadd, 1) := by decide +kernel
theorem d_M_array_66 : decode b_M_array 66 = .ok (.ldc2_w 135, 3) := by decide +kernel
theorem d_M_array_69 : decode b_M_array 69 = .ok (.lastore, 1) := by decide +kernel
theorem d_M_array_70 : decode b_M_array 70 = .ok (.iinc 4 1, 3) := by decide +kernel
theorem d_M_array_73 : decode b_M_array 73 = .ok (.goto (-28), 3) := by decide +kernel
theorem d_M_array_76 : decode b_M_array 76 = .ok (.iload_n 3, 1) := by decide +kernel
theorem d_M_array_77 : decode b_M_array 77 = .ok (.ireturn, 1) := by decide +kernel
theorem d_M_constant_0 : decode b_M_constant 0 = .ok (.aload_n 0, 1) := by decide +kernel
theorem d_M_constant_1 : decode b_M_constant 1 = .ok (.iload_n 1, 1) := by decide +kernel
theorem d_M_constant_2 : decode b_M_constant 2 = .ok (.invokevirtual 111, 3) := by decide +kernel
theorem d_M_constant_5 : decode b_M_constant 5 = .ok (.ifCond .ne 23, 3) := by decide +kernel
theorem d_M_constant_8 : decode b_M_constant 8 = .ok (.aload_n 0, 1) := by decide +kernel
theorem d_M_constant_9 : decode b_M_constant 9 = .ok (.getfield 13, 3) := by decide +kernel
theorem d_M_constant_12 : decode b_M_constant 12 = .ok (.iload_n 1, 1) := by decide +kernel
theorem d_M_constant_13 : decode b_M_constant 13 = .ok (.iaload, 1) := by decide +kernel
theorem d_M_constant_14 : decode b_M_constant 14 = .ok (.iconst 3, 1) := by decide +kernel
theorem d_M_constant_15 : decode b_M_constant 15 = .ok (.if_icmp .ne 13, 3) := by decide +kernel
theorem d_M_constant_18 : decode b_M_constant 18 = .ok (.aload_n 0, 1) := by decide +kernel
theorem d_M_constant_19 : decode b_M_constant 19 = .ok (.iload_n 2, 1) := by decide +kernel
theorem d_M_constant_20 : decode b_M_constant 20 = .ok (.bipush 26, 2) := by decide +kernel
theorem d_M_constant_22 : decode b_M_constant 22 = .ok (.invokevirtual 92, 3) := by decide +kernel
theorem d_M_constant_25 : decode b_M_constant 25 = .ok (.ifCond .eq 5, 3) := by decide +kernel
theorem d_M_constant_28 : decode b_M_constant 28 = .ok (.iconst (-1), 1) := by decide +kernel
theorem d_M_constant_29 : decode b_M_constant 29 = .ok (.ireturn, 1) := by decide +kernel
theorem d_M_constant_30 : decode b_M_constant 30 = .ok (.aload_n 0, 1) := by decide +kernel
theorem d_M_constant_31 : decode b_M_constant 31 = .ok (.iconst 4, 1) := by decide +kernel
theorem d_M_constant_32 : decode b_M_constant 32 = .ok (.iconst 0, 1) := by decide +kernel
theorem d_M_constant_33 : decode b_M_constant 33 = .ok (.invokevirtual 129, 3) := by decide +kernel
theorem d_M_constant_36 : decode b_M_constant 36 = .ok (.istore_n 3, 1) := by decide +kernel
theorem d_M_constant_37 : decode b_M_constant 37 = .ok (.iload_n 3, 1) := by decide +kernel
theorem d_M_constant_38 : decode b_M_constant 38 = .ok (.ifCond .ge 6, 3) := by decide +kernel
theorem d_M_constant_41 : decode b_M_constant 41 = .ok (.bipush (-2), 2) := by decide +kernel
theorem d_M_constant_43 : decode b_M_constant 43 = .ok (.ireturn, 1) := by decide +kernel
theorem d_M_constant_44 : decode b_M_constant 44 = .ok (.aload_n 0, 1) := by decide +kernel
theorem d_M_constant_45 : decode b_M_constant 45 = .ok (.getfield 39, 3) := by decide +kernel
theorem d_M_constant_48 : decode b_M_constant 48 = .ok (.iload_n 3, 1) := by decide +kernel
theorem d_M_constant_49 : decode b_M_constant 49 = .ok (.iload_n 1, 1) := by decide +kernel
theorem d_M_constant_50 : decode b_M_constant 50 = .ok (.iastore, 1) := by decide +kernel
theorem d_M_constant_51 : decode b_M_constant 51 = .ok (.aload_n 0, 1) := by decide +kernel
theorem d_M_constant_52 : decode b_M_constant 52 = .ok (.getfield 42, 3) := by decide +kernel
theorem d_M_constant_55 : decode b_M_constant 55 = .ok (.iload_n 3, 1) := by decide +kernel
theorem d_M_constant_56 : decode b_M_constant 56 = .ok (.iload_n 2, 1) := by decide +kernel
theorem d_M_constant_57 : decode b_M_constant 57 = .ok (.iastore, 1) := by decide +kernel
theorem d_M_constant_58 : decode b_M_constant 58 = .ok (.iload_n 3, 1) := by decide +kernel
theorem d_M_constant_59 : decode b_M_constant 59 = .ok (.ireturn, 1) := by decide +kernel
theorem d_M_set_0 : decode b_M_set 0 = .ok (.aload_n 0, 1) := by decide +kernel
theorem d_M_set_1 : decode b_M_set 1 = .ok (.iload_n 1, 1) := by decide +kernel
theorem d_M_set_2 : decode b_M_set 2 = .ok (.aload_n 0, 1) := by decide +kernel
theorem d_M_set_3 : decode b_M_set 3 = .ok (.getfield 115, 3) := by decide +kernel
theorem d_M_set_6 : decode b_M_set 6 = .ok (.invokevirtual 92, 3) := by decide +kernel
theorem d_M_set_9 : decode b_M_set 9 = .ok (.ifCond .ne 27, 3) := by decide +kernel
theorem d_M_set_12 : decode b_M_set 12 = .ok (.aload_n 0, 1) := by decide +kernel
theorem d_M_set_13 : decode b_M_set 13 = .ok (.getfield 36, 3) := by decide +kernel
theorem d_M_set_16 : decode b_M_set 16 = .ok (.iload_n 1, 1) := by decide +kernel
theorem d_M_set_17 : decode b_M_set 17 = .ok (.iaload, 1) := by decide +kernel
theorem d_M_set_18 : decode b_M_set 18 = .ok (.iconst 1, 1) := by decide +kernel
theorem d_M_set_19 : decode b_M_set 19 = .ok (.if_icmp .eq 17, 3) := by decide +kernel
theorem d_M_set_22 : decode b_M_set 22 = .ok (.aload_n 0, 1) := by decide +kernel
theorem d_M_set_23 : decode b_M_set 23 = .ok (.iload_n 2, 1) := by decide +kernel
theorem d_M_set_24 : decode b_M_set 24 = .ok (.aload_n 0, 1) := by decide +kernel
theorem d_M_set_25 : decode b_M_set 25 = .ok (.getfield 45, 3) := by decide +kernel
theorem d_M_set_28 : decode b_M_set 28 = .ok (.iload_n 1, 1) := by decide +kernel
theorem d_M_set_29 : decode b_M_set 29 = .ok (.iaload, 1) := by decide +kernel
theorem d_M_set_30 : decode b_M_set 30 = .ok (.invokevirtual 92, 3) := by decide +kernel
theorem d_M_set_33 : decode b_M_set 33 = .ok (.ifCond .eq 5, 3) := by decide +kernel
theorem d_M_set_36 : decode b_M_set 36 = .ok (.iconst (-1), 1) := by decide +kernel
theorem d_M_set_37 : decode b_M_set 37 = .ok (.ireturn, 1) := by decide +kernel
theorem d_M_set_38 : decode b_M_set 38 = .ok (.aload_n 0, 1) := by decide +kernel
theorem d_M_set_39 : decode b_M_set 39 = .ok (.getfield 36, 3) := by decide +kernel
theorem d_M_set_42 : decode b_M_set 42 = .ok (.iload_n 1, 1) := by decide +kernel
theorem d_M_set_43 : decode b_M_set 43 = .ok (.iaload, 1) := by decide +kernel
theorem d_M_set_44 : decode b_M_set 44 = .ok (.iconst 2, 1) := by decide +kernel
theorem d_M_set_45 : decode b_M_set 45 = .ok (.if_icmp .ne 7, 3) := by decide +kernel
theorem d_M_set_48 : decode b_M_set 48 = .ok (.iconst 2, 1) := by decide +kernel
theorem d_M_set_49 : decode b_M_set 49 = .ok (.goto 24, 3) := by decide +kernel
theorem d_M_set_52 : decode b_M_set 52 = .ok (.aload_n 0, 1) := by decide +kernel
theorem d_M_set_53 : decode b_M_set 53 = .ok (.getfield 36, 3) := by decide +kernel
theorem d_M_set_56 : decode b_M_set 56 = .ok (.iload_n 1, 1) := by decide +kernel
theorem d_M_set_57 : decode b_M_set 57 = .ok (.iaload, 1) := by decide +kernel
theorem d_M_set_58 : decode b_M_set 58 = .ok (.iconst 3, 1) := by decide +kernel
theorem d_M_set_59 : decode b_M_set 59 = .ok (.if_icmp .ne 8, 3) := by decide +kernel
theorem d_M_set_62 : decode b_M_set 62 = .ok (.bipush 7, 2) := by decide +kernel
theorem d_M_set_64 : decode b_M_set 64 = .ok (.goto 9, 3) := by decide +kernel
theorem d_M_set_67 : decode b_M_set 67 = .ok (.aload_n 0, 1) := by decide +kernel
theorem d_M_set_68 : decode b_M_set 68 = .ok (.iload_n 1, 1) := by decide +kernel
theorem d_M_set_69 : decode b_M_set 69 = .ok (.iload_n 2, 1) := by decide +kernel
theorem d_M_set_70 : decode b_M_set 70 = .ok (.invokevirtual 132, 3) := by decide +kernel
theorem d_M_set_73 : decode b_M_set 73 = .ok (.istore 5, 2) := by decide +kernel
theorem d_M_set_75 : decode b_M_set 75 = .ok (.iload 5, 2) := by decide +kernel
theorem d_M_set_77 : decode b_M_set 77 = .ok (.iconst 5, 1) := by decide +kernel
theorem d_M_set_78 : decode b_M_set 78 = .ok (.if_icmp .le 49, 3) := by decide +kernel
theorem d_M_set_81 : decode b_M_set 81 = .ok (.lload_n 3, 1) := by decide +kernel
theorem d_M_set_82 : decode b_M_set 82 = .ok (.ldc2_w 135, 3) := by decide +kernel
theorem d_M_set_85 : decode b_M_set 85 = .ok (.lcmp, 1) := by decide +kernel
theorem d_M_set_86 : decode b_M_set 86 = .ok (.ifCond .lt 13, 3) := by decide +kernel
theorem d_M_set_89 : decode b_M_set 89 = .ok (.lload_n 3, 1) := by decide +kernel
theorem d_M_set_90 : decode b_M_set 90 = .ok (.aload_n 0, 1) := by decide +kernel
theorem d_M_set_91 : decode b_M_set 91 = .ok (.getfield 115, 3) := by decide +kernel
theorem d_M_set_94 : decode b_M_set 94 = .ok (.i2l, 1) := by decide +kernel
theorem d_M_set_95 : decode b_M_set 95 = .ok (.lcmp, 1) := by decide +kernel
theorem d_M_set_96 : decode b_M_set 96 = .ok (.ifCond .lt 5, 3) := by decide +kernel
theorem d_M_set_99 : decode b_M_set 99 = .ok (.iconst (-1), 1) := by decide +kernel
theorem d_M_set_100 : decode b_M_set 100 = .ok (.ireturn, 1) := by decide +kernel
theorem d_M_set_101 : decode b_M_set 101 = .ok (.iload 5, 2) := by decide +kernel
theorem d_M_set_103 : decode b_M_set 103 = .ok (.bipush 6, 2) := by decide +kernel
theorem d_M_set_105 : decode b_M_set 105 = .ok (.if_icmp .ne 22, 3) := by decide +kernel
theorem d_M_set_108 : decode b_M_set 108 = .ok (.lload_n 3, 1) := by decide +kernel
theorem d_M_set_109 : decode b_M_set 109 = .ok (.lconst 0, 1) := by decide +kernel
theorem d_M_set_110 : decode b_M_set 110 = .ok (.lcmp, 1) := by decide +kernel
theorem d_M_set_111 : decode b_M_set 111 = .ok (.ifCond .lt 16, 3) := by decide +kernel
theorem d_M_set_114 : decode b_M_set 114 = .ok (.aload_n 0, 1) := by decide +kernel
theorem d_M_set_115 : decode b_M_set 115 = .ok (.getfield 36, 3) := by decide +kernel
theorem d_M_set_118 : decode b_M_set 118 = .ok (.lload_n 3, 1) := by decide +kernel
theorem d_M_set_119 : decode b_M_set 119 = .ok (.l2i, 1) := by decide +kernel
theorem d_M_set_120 : decode b_M_set 120 = .ok (.iaload, 1) := by decide +kernel
theorem d_M_set_121 : decode b_M_set 121 = .ok (.iconst 2, 1) := by decide +kernel
theorem d_M_set_122 : decode b_M_set 122 = .ok (.if_icmp .eq 5, 3) := by decide +kernel
theorem d_M_set_125 : decode b_M_set 125 = .ok (.iconst (-1), 1) := by decide +kernel
theorem d_M_set_126 : decode b_M_set 126 = .ok (.ireturn, 1) := by decide +kernel
theorem d_M_set_127 : decode b_M_set 127 = .ok (.aload_n 0, 1) := by decide +kernel
theorem d_M_set_128 : decode b_M_set 128 = .ok (.getfield 48, 3) := by decide +kernel
theorem d_M_set_131 : decode b_M_set 131 = .ok (.bipush 24, 2) := by decide +kernel
theorem d_M_set_133 : decode b_M_set 133 = .ok (.iload_n 1, 1) := by decide +kernel
theorem d_M_set_134 : decode b_M_set 134 = .ok (.imul, 1) := by decide +kernel
theorem d_M_set_135 : decode b_M_set 135 = .ok (.iload_n 2, 1) := by decide +kernel
theorem d_M_set_136 : decode b_M_set 136 = .ok (.iadd, 1) := by decide +kernel
theorem d_M_set_137 : decode b_M_set 137 = .ok (.lload_n 3, 1) := by decide +kernel
theorem d_M_set_138 : decode b_M_set 138 = .ok (.lastore, 1) := by decide +kernel
theorem d_M_set_139 : decode b_M_set 139 = .ok (.iconst 0, 1) := by decide +kernel
theorem d_M_set_140 : decode b_M_set 140 = .ok (.ireturn, 1) := by decide +kernel
theorem d_M_replace_0 : decode b_M_replace 0 = .ok (.aload_n 0, 1) := by decide +kernel
theorem d_M_replace_1 : decode b_M_replace 1 = .ok (.iload_n 1, 1) := by decide +kernel
theorem d_M_replace_2 : decode b_M_replace 2 = .ok (.invokevirtual 137, 3) := by decide +kernel
theorem d_M_replace_5 : decode b_M_replace 5 = .ok (.ifCond .ne 21, 3) := by decide +kernel
theorem d_M_replace_8 : decode b_M_replace 8 = .ok (.iload_n 2, 1) := by decide +kernel
theorem d_M_replace_9 : decode b_M_replace 9 = .ok (.iconst (-1), 1) := by decide +kernel
theorem d_M_replace_10 : decode b_M_replace 10 = .ok (.if_icmp .lt 16, 3) := by decide +kernel
theorem d_M_replace_13 : decode b_M_replace 13 = .ok (.iload_n 2, 1) := by decide +kernel
theorem d_M_replace_14 : decode b_M_replace 14 = .ok (.aload_n 0, 1) := by decide +kernel
theorem d_M_replace_15 : decode b_M_replace 15 = .ok (.getfield 115, 3) := by decide +kernel
theorem d_M_replace_18 : decode b_M_replace 18 = .ok (.if_icmp .ge 8, 3) := by decide +kernel
theorem d_M_replace_21 : decode b_M_replace 21 = .ok (.iload_n 2, 1) := by decide +kernel
theorem d_M_replace_22 : decode b_M_replace 22 = .ok (.iload_n 1, 1) := by decide +kernel
theorem d_M_replace_23 : decode b_M_replace 23 = .ok (.if_icmp .ne 5, 3) := by decide +kernel
theorem d_M_replace_26 : decode b_M_replace 26 = .ok (.iconst (-1), 1) := by decide +kernel
theorem d_M_replace_27 : decode b_M_replace 27 = .ok (.ireturn, 1) := by decide +kernel
theorem d_M_replace_28 : decode b_M_replace 28 = .ok (.aload_n 0, 1) := by decide +kernel
theorem d_M_replace_29 : decode b_M_replace 29 = .ok (.getfield 51, 3) := by decide +kernel
theorem d_M_replace_32 : decode b_M_replace 32 = .ok (.iload_n 1, 1) := by decide +kernel
theorem d_M_replace_33 : decode b_M_replace 33 = .ok (.iload_n 2, 1) := by decide +kernel
theorem d_M_replace_34 : decode b_M_replace 34 = .ok (.iastore, 1) := by decide +kernel
theorem d_M_replace_35 : decode b_M_replace 35 = .ok (.iconst 0, 1) := by decide +kernel
theorem d_M_replace_36 : decode b_M_replace 36 = .ok (.ireturn, 1) := by decide +kernel
theorem d_M_noInstance_0 : decode b_M_noInstance 0 = .ok (.aload_n 0, 1) := by decide +kernel
theorem d_M_noInstance_1 : decode b_M_noInstance 1 = .ok (.iload_n 1, 1) := by decide +kernel
theorem d_M_noInstance_2 : decode b_M_noInstance 2 = .ok (.aload_n 0, 1) := by decide +kernel
theorem d_M_noInstance_3 : decode b_M_noInstance 3 = .ok (.getfield 115, 3) := by decide +kernel
theorem d_M_noInstance_6 : decode b_M_noInstance 6 = .ok (.invokevirtual 92, 3) := by decide +kernel
theorem d_M_noInstance_9 : decode b_M_noInstance 9 = .ok (.ifCond .ne 12, 3) := by decide +kernel
theorem d_M_noInstance_12 : decode b_M_noInstance 12 = .ok (.aload_n 0, 1) := by decide +kernel
theorem d_M_noInstance_13 : decode b_M_noInstance 13 = .ok (.getfield 36, 3) := by decide +kernel
theorem d_M_noInstance_16 : decode b_M_noInstance 16 = .ok (.iload_n 1, 1) := by decide +kernel
theorem d_M_noInstance_17 : decode b_M_noInstance 17 = .ok (.iaload, 1) := by decide +kernel
theorem d_M_noInstance_18 : decode b_M_noInstance 18 = .ok (.ifCond .eq 7, 3) := by decide +kernel
theorem d_M_noInstance_21 : decode b_M_noInstance 21 = .ok (.iconst 1, 1) := by decide +kernel
theorem d_M_noInstance_22 : decode b_M_noInstance 22 = .ok (.goto 4, 3) := by decide +kernel
theorem d_M_noInstance_25 : decode b_M_noInstance 25 = .ok (.iconst 0, 1) := by decide +kernel
theorem d_M_noInstance_26 : decode b_M_noInstance 26 = .ok (.ireturn, 1) := by decide +kernel
theorem d_M_extra_0 : decode b_M_extra 0 = .ok (.aload_n 0, 1) := by decide +kernel
theorem d_M_extra_1 : decode b_M_extra 1 = .ok (.iload_n 1, 1) := by decide +kernel
theorem d_M_extra_2 : decode b_M_extra 2 = .ok (.invokevirtual 137, 3) := by decide +kernel
theorem d_M_extra_5 : decode b_M_extra 5 = .ok (.ifCond .eq 5, 3) := by decide +kernel
theorem d_M_extra_8 : decode b_M_extra 8 = .ok (.iconst (-1), 1) := by decide +kernel
theorem d_M_extra_9 : decode b_M_extra 9 = .ok (.ireturn, 1) := by decide +kernel
theorem d_M_extra_10 : decode b_M_extra 10 = .ok (.aload_n 0, 1) := by decide +kernel
theorem d_M_extra_11 : decode b_M_extra 11 = .ok (.getfield 54, 3) := by decide +kernel
theorem d_M_extra_14 : decode b_M_extra 14 = .ok (.iload_n 1, 1) := by decide +kernel
theorem d_M_extra_15 : decode b_M_extra 15 = .ok (.iload_n 2, 1) := by decide +kernel
theorem d_M_extra_16 : decode b_M_extra 16 = .ok (.iastore, 1) := by decide +kernel
theorem d_M_extra_17 : decode b_M_extra 17 = .ok (.iconst 0, 1) := by decide +kernel
theorem d_M_extra_18 : decode b_M_extra 18 = .ok (.ireturn, 1) := by decide +kernel
theorem d_M_data_0 : decode b_M_data 0 = .ok (.iload_n 3, 1) := by decide +kernel
theorem d_M_data_1 : decode b_M_data 1 = .ok (.iconst 1, 1) := by decide +kernel
theorem d_M_data_2 : decode b_M_data 2 = .ok (.if_icmp .lt 9, 3) := by decide +kernel
theorem d_M_data_5 : decode b_M_data 5 = .ok (.iload_n 3, 1) := by decide +kernel
theorem d_M_data_6 : decode b_M_data 6 = .ok (.bipush 8, 2) := by decide +kernel
theorem d_M_data_8 : decode b_M_data 8 = .ok (.if_icmp .le 5, 3) := by decide +kernel
theorem d_M_data_11 : decode b_M_data 11 = .ok (.iconst (-1), 1) := by decide +kernel
theorem d_M_data_12 : decode b_M_data 12 = .ok (.ireturn, 1) := by decide +kernel
theorem d_M_data_13 : decode b_M_data 13 = .ok (.aload_n 0, 1) := by decide +kernel
theorem d_M_data_14 : decode b_M_data 14 = .ok (.getfield 106, 3) := by decide +kernel
theorem d_M_data_17 : decode b_M_data 17 = .ok (.iload_n 3, 1) := by decide +kernel
theorem d_M_data_18 : decode b_M_data 18 = .ok (.iadd, 1) := by decide +kernel
theorem d_M_data_19 : decode b_M_data 19 = .ok (.istore 4, 2) := by decide +kernel
theorem d_M_data_21 : decode b_M_data 21 = .ok (.aload_n 0, 1) := by decide +kernel
theorem d_M_data_22 : decode b_M_data 22 = .ok (.getfield 96, 3) := by decide +kernel
theorem d_M_data_25 : decode b_M_data 25 = .ok (.iload 4, 2) := by decide +kernel
theorem d_M_data_27 : decode b_M_data 27 = .ok (.iadd, 1) := by decide +kernel
theorem d_M_data_28 : decode b_M_data 28 = .ok (.iload 4, 2) := by decide +kernel
theorem d_M_data_30 : decode b_M_data 30 = .ok (.sipush 255, 3) := by decide +kernel
theorem d_M_data_33 : decode b_M_data 33 = .ok (.if_icmp .lt 7, 3) := by decide +kernel
theorem d_M_data_36 : decode b_M_data 36 = .ok (.iconst 2, 1) := by decide +kernel
theorem d_M_data_37 : decode b_M_data 37 = .ok (.goto 4, 3) := by decide +kernel
theorem d_M_data_40 : decode b_M_data 40 = .ok (.iconst 0, 1) := by decide +kernel
theorem d_M_data_41 : decode b_M_data 41 = .ok (.iadd, 1) := by decide +kernel
theorem d_M_data_42 : decode b_M_data 42 = .ok (.istore 5, 2) := by decide +kernel
theorem d_M_data_44 : decode b_M_data 44 = .ok (.iload 5, 2) := by decide +kernel
theorem d_M_data_46 : decode b_M_data 46 = .ok (.sipush 1400, 3) := by decide +kernel
theorem d_M_data_49 : decode b_M_data 49 = .ok (.if_icmp .le 6, 3) := by decide +kernel
theorem d_M_data_52 : decode b_M_data 52 = .ok (.bipush (-2), 2) := by decide +kernel
theorem d_M_data_54 : decode b_M_data 54 = .ok (.ireturn, 1) := by decide +kernel
theorem d_M_data_55 : decode b_M_data 55 = .ok (.iload_n 3, 1) := by decide +kernel
theorem d_M_data_56 : decode b_M_data 56 = .ok (.iconst 1, 1) := by decide +kernel
theorem d_M_data_57 : decode b_M_data 57 = .ok (.isub, 1) := by decide +kernel
theorem d_M_data_58 : decode b_M_data 58 = .ok (.istore 6, 2) := by decide +kernel
theorem d_M_data_60 : decode b_M_data 60 = .ok (.iload 6, 2) := by decide +kernel
theorem d_M_data_62 : decode b_M_data 62 = .ok (.ifCond .lt 54, 3) := by decide +kernel
theorem d_M_data_65 : decode b_M_data 65 = .ok (.aload_n 0, 1) := by decide +kernel
theorem d_M_data_66 : decode b_M_data 66 = .ok (.getfield 60, 3) := by decide +kernel
theorem d_M_data_69 : decode b_M_data 69 = .ok (.aload_n 0, 1) := by decide +kernel
theorem d_M_data_70 : decode b_M_data 70 = .ok (.getfield 106, 3) := by decide +kernel
theorem d_M_data_73 : decode b_M_data 73 = .ok (.lload_n 1, 1) := by decide +kernel
theorem d_M_data_74 : decode b_M_data 74 = .ok (.bipush 8, 2) := by decide +kernel
theorem d_M_data_76 : decode b_M_data 76 = .ok (.iload 6, 2) := by decide +kernel
theorem d_M_data_78 : decode b_M_data 78 = .ok (.imul, 1) := by decide +kernel
theorem d_M_data_79 : decode b_M_data 79 = .ok (.lshr, 1) := by decide +kernel
theorem d_M_data_80 : decode b_M_data 80 = .ok (.l2i, 1) := by decide +kernel
theorem d_M_data_81 : decode b_M_data 81 = .ok (.sipush 255, 3) := by decide +kernel
theorem d_M_data_84 : decode b_M_data 84 = .ok (.iand, 1) := by decide +kernel
theorem d_M_data_85 : decode b_M_data 85 = .ok (.iastore, 1) := by decide +kernel
theorem d_M_data_86 : decode b_M_data 86 = .ok (.aload_n 0, 1) := by decide +kernel
theorem d_M_data_87 : decode b_M_data 87 = .ok (.dup, 1) := by decide +kernel
theorem d_M_data_88 : decode b_M_data 88 = .ok (.getfield 106, 3) := by decide +kernel
theorem d_M_data_91 : decode b_M_data 91 = .ok (.iconst 1, 1) := by decide +kernel
theorem d_M_data_92 : decode b_M_data 92 = .ok (.iadd, 1) := by decide +kernel
theorem d_M_data_93 : decode b_M_data 93 = .ok (.putfield 106, 3) := by decide +kernel
theorem d_M_data_96 : decode b_M_data 96 = .ok (.aload_n 0, 1) := by decide +kernel
theorem d_M_data_97 : decode b_M_data 97 = .ok (.getfield 106, 3) := by decide +kernel
theorem d_M_data_100 : decode b_M_data 100 = .ok (.sipush 255, 3) := by decide +kernel
theorem d_M_data_103 : decode b_M_data 103 = .ok (.if_icmp .ne 7, 3) := by decide +kernel
theorem d_M_data_106 : decode b_M_data 106 = .ok (.aload_n 0, 1) := by decide +kernel
theorem d_M_data_107 : decode b_M_data 107 = .ok (.invokevirtual 149, 3) := by decide +kernel
theorem d_M_data_110 : decode b_M_data 110 = .ok (.iinc 6 (-1), 3) := by decide +kernel
theorem d_M_data_113 : decode b_M_data 113 = .ok (.goto (-53), 3) := by decide +kernel
theorem d_M_data_116 : decode b_M_data 116 = .ok (.aload_n 0, 1) := by decide +kernel
theorem d_M_data_117 : decode b_M_data 117 = .ok (.getfield 106, 3) := by decide +kernel
theorem d_M_data_120 : decode b_M_data 120 = .ok (.ireturn, 1) := by decide +kernel
theorem d_M_flush_0 : decode b_M_flush 0 = .ok (.aload_n 0, 1) := by decide +kernel
theorem d_M_flush_1 : decode b_M_flush 1 = .ok (.getfield 106, 3) := by decide +kernel
theorem d_M_flush_4 : decode b_M_flush 4 = .ok (.ifCond .ne 4, 3) := by decide +kernel
theorem d_M_flush_7 : decode b_M_flush 7 = .ok (.return_, 1) := by decide +kernel
theorem d_M_flush_8 : decode b_M_flush 8 = .ok (.aload_n 0, 1) := by decide +kernel
theorem d_M_flush_9 : decode b_M_flush 9 = .ok (.ldc2_w 109, 3) := by decide +kernel
theorem d_M_flush_12 : decode b_M_flush 12 = .ok (.iconst 1, 1) := by decide +kernel
theorem d_M_flush_13 : decode b_M_flush 13 = .ok (.invokevirtual 83, 3) := by decide +kernel
theorem d_M_flush_16 : decode b_M_flush 16 = .ok (.aload_n 0, 1) := by decide +kernel
theorem d_M_flush_17 : decode b_M_flush 17 = .ok (.aload_n 0, 1) := by decide +kernel
theorem d_M_flush_18 : decode b_M_flush 18 = .ok (.getfield 106, 3) := by decide +kernel
theorem d_M_flush_21 : decode b_M_flush 21 = .ok (.i2l, 1) := by decide +kernel
theorem d_M_flush_22 : decode b_M_flush 22 = .ok (.iconst 1, 1) := by decide +kernel
theorem d_M_flush_23 : decode b_M_flush 23 = .ok (.invokevirtual 83, 3) := by decide +kernel
theorem d_M_flush_26 : decode b_M_flush 26 = .ok (.iconst 0, 1) := by decide +kernel
theorem d_M_flush_27 : decode b_M_flush 27 = .ok (.istore_n 1, 1) := by decide +kernel
theorem d_M_flush_28 : decode b_M_flush 28 = .ok (.iload_n 1, 1) := by decide +kernel
theorem d_M_flush_29 : decode b_M_flush 29 = .ok (.aload_n 0, 1) := by decide +kernel
theorem d_M_flush_30 : decode b_M_flush 30 = .ok (.getfield 106, 3) := by decide +kernel
theorem d_M_flush_33 : decode b_M_flush 33 = .ok (.if_icmp .ge 21, 3) := by decide +kernel
theorem d_M_flush_36 : decode b_M_flush 36 = .ok (.aload_n 0, 1) := by decide +kernel
theorem d_M_flush_37 : decode b_M_flush 37 = .ok (.aload_n 0, 1) := by decide +kernel
theorem d_M_flush_38 : decode b_M_flush 38 = .ok (.getfield 60, 3) := by decide +kernel
theorem d_M_flush_41 : decode b_M_flush 41 = .ok (.iload_n 1, 1) := by decide +kernel
theorem d_M_flush_42 : decode b_M_flush 42 = .ok (.iaload, 1) := by decide +kernel
theorem d_M_flush_43 : decode b_M_flush 43 = .ok (.i2l, 1) := by decide +kernel
theorem d_M_flush_44 : decode b_M_flush 44 = .ok (.iconst 1, 1) := by decide +kernel
theorem d_M_flush_45 : decode b_M_flush 45 = .ok (.invokevirtual 83, 3) := by decide +kernel
theorem d_M_flush_48 : decode b_M_flush 48 = .ok (.iinc 1 1, 3) := by decide +kernel
theorem d_M_flush_51 : decode b_M_flush 51 = .ok (.goto (-23), 3) := by decide +kernel
theorem d_M_flush_54 : decode b_M_flush 54 = .ok (.aload_n 0, 1) := by decide +kernel
theorem d_M_flush_55 : decode b_M_flush 55 = .ok (.iconst 0, 1) := by decide +kernel
theorem d_M_flush_56 : decode b_M_flush 56 = .ok (.putfield 106, 3) := by decide +kernel
theorem d_M_flush_59 : decode b_M_flush 59 = .ok (.return_, 1) := by decide +kernel
theorem d_M_write_0 : decode b_M_write 0 = .ok (.iload_n 1, 1) := by decide +kernel
theorem d_M_write_1 : decode b_M_write 1 = .ok (.iconst (-1), 1) := by decide +kernel
theorem d_M_write_2 : decode b_M_write 2 = .ok (.if_icmp .lt 11, 3) := by decide +kernel
theorem d_M_write_5 : decode b_M_write 5 = .ok (.iload_n 1, 1) := by decide +kernel
theorem d_M_write_6 : decode b_M_write 6 = .ok (.aload_n 0, 1) := by decide +kernel
theorem d_M_write_7 : decode b_M_write 7 = .ok (.getfield 115, 3) := by decide +kernel
theorem d_M_write_10 : decode b_M_write 10 = .ok (.if_icmp .lt 5, 3) := by decide +kernel
theorem d_M_write_13 : decode b_M_write 13 = .ok (.iconst (-1), 1) := by decide +kernel
theorem d_M_write_14 : decode b_M_write 14 = .ok (.ireturn, 1) := by decide +kernel
theorem d_M_write_15 : decode b_M_write 15 = .ok (.aload_n 0, 1) := by decide +kernel
theorem d_M_write_16 : decode b_M_write 16 = .ok (.invokevirtual 282, 3) := by decide +kernel
theorem d_M_write_19 : decode b_M_write 19 = .ok (.aload_n 0, 1) := by decide +kernel
theorem d_M_write_20 : decode b_M_write 20 = .ok (.invokevirtual 149, 3) := by decide +kernel
theorem d_M_write_23 : decode b_M_write 23 = .ok (.aload_n 0, 1) := by decide +kernel
theorem d_M_write_24 : decode b_M_write 24 = .ok (.iconst 0, 1) := by decide +kernel
theorem d_M_write_25 : decode b_M_write 25 = .ok (.putfield 152, 3) := by decide +kernel
theorem d_M_write_28 : decode b_M_write 28 = .ok (.aload_n 0, 1) := by decide +kernel
theorem d_M_write_29 : decode b_M_write 29 = .ok (.iload_n 1, 1) := by decide +kernel
theorem d_M_write_30 : decode b_M_write 30 = .ok (.iload_n 2, 1) := by decide +kernel
theorem d_M_write_31 : decode b_M_write 31 = .ok (.invokevirtual 273, 3) := by decide +kernel
theorem d_M_write_34 : decode b_M_write 34 = .ok (.istore_n 3, 1) := by decide +kernel
theorem d_M_write_35 : decode b_M_write 35 = .ok (.aload_n 0, 1) := by decide +kernel
theorem d_M_write_36 : decode b_M_write 36 = .ok (.getfield 152, 3) := by decide +kernel
theorem d_M_write_39 : decode b_M_write 39 = .ok (.ifCond .le 33, 3) := by decide +kernel
theorem d_M_write_42 : decode b_M_write 42 = .ok (.aload_n 0, 1) := by decide +kernel
theorem d_M_write_43 : decode b_M_write 43 = .ok (.getfield 96, 3) := by decide +kernel
theorem d_M_write_46 : decode b_M_write 46 = .ok (.sipush 1400, 3) := by decide +kernel
theorem d_M_write_49 : decode b_M_write 49 = .ok (.if_icmp .gt 23, 3) := by decide +kernel
theorem d_M_write_52 : decode b_M_write 52 = .ok (.aload_n 0, 1) := by decide +kernel
theorem d_M_write_53 : decode b_M_write 53 = .ok (.invokevirtual 285, 3) := by decide +kernel
theorem d_M_write_56 : decode b_M_write 56 = .ok (.ifCond .eq 11, 3) := by decide +kernel
theorem d_M_write_59 : decode b_M_write 59 = .ok (.iload_n 3, 1) := by decide +kernel
theorem d_M_write_60 : decode b_M_write 60 = .ok (.ifCond .eq 7, 3) := by decide +kernel
theorem d_M_write_63 : decode b_M_write 63 = .ok (.iconst 1, 1) := by decide +kernel
theorem d_M_write_64 : decode b_M_write 64 = .ok (.goto 4, 3) := by decide +kernel
theorem d_M_write_67 : decode b_M_write 67 = .ok (.iconst 0, 1) := by decide +kernel
theorem d_M_write_68 : decode b_M_write 68 = .ok (.istore_n 3, 1) := by decide +kernel
theorem d_M_write_69 : decode b_M_write 69 = .ok (.goto (-34), 3) := by decide +kernel
theorem d_M_write_72 : decode b_M_write 72 = .ok (.aload_n 0, 1) := by decide +kernel
theorem d_M_write_73 : decode b_M_write 73 = .ok (.invokevirtual 289, 3) := by decide +kernel
theorem d_M_write_76 : decode b_M_write 76 = .ok (.ifCond .eq 6, 3) := by decide +kernel
theorem d_M_write_79 : decode b_M_write 79 = .ok (.bipush (-2), 2) := by decide +kernel
theorem d_M_write_81 : decode b_M_write 81 = .ok (.ireturn, 1) := by decide +kernel
theorem d_M_write_82 : decode b_M_write 82 = .ok (.iload_n 3, 1) := by decide +kernel
theorem d_M_write_83 : decode b_M_write 83 = .ok (.ifCond .eq 10, 3) := by decide +kernel
theorem d_M_write_86 : decode b_M_write 86 = .ok (.aload_n 0, 1) := by decide +kernel
theorem d_M_write_87 : decode b_M_write 87 = .ok (.getfield 96, 3) := by decide +kernel
theorem d_M_write_90 : decode b_M_write 90 = .ok (.goto 5, 3) := by decide +kernel
theorem d_M_write_93 : decode b_M_write 93 = .ok (.bipush (-3), 2) := by decide +kernel
theorem d_M_write_95 : decode b_M_write 95 = .ok (.ireturn, 1) := by decide +kernel
theorem d_M_remember_0 : decode b_M_remember 0 = .ok (.aload_n 0, 1) := by decide +kernel
theorem d_M_remember_1 : decode b_M_remember 1 = .ok (.aload_n 0, 1) := by decide +kernel
theorem d_M_remember_2 : decode b_M_remember 2 = .ok (.getfield 96, 3) := by decide +kernel
theorem d_M_remember_5 : decode b_M_remember 5 = .ok (.putfield 140, 3) := by decide +kernel
theorem d_M_remember_8 : decode b_M_remember 8 = .ok (.aload_n 0, 1) := by decide +kernel
theorem d_M_remember_9 : decode b_M_remember 9 = .ok (.aload_n 0, 1) := by decide +kernel
theorem d_M_remember_10 : decode b_M_remember 10 = .ok (.getfield 106, 3) := by decide +kernel
theorem d_M_remember_13 : decode b_M_remember 13 = .ok (.putfield 143, 3) := by decide +kernel
theorem d_M_remember_16 : decode b_M_remember 16 = .ok (.aload_n 0, 1) := by decide +kernel
theorem d_M_remember_17 : decode b_M_remember 17 = .ok (.aload_n 0, 1) := by decide +kernel
theorem d_M_remember_18 : decode b_M_remember 18 = .ok (.getfield 100, 3) := by decide +kernel
theorem d_M_remember_21 : decode b_M_remember 21 = .ok (.putfield 146, 3) := by decide +kernel
theorem d_M_remember_24 : decode b_M_remember 24 = .ok (.iconst 0, 1) := by decide +kernel
theorem d_M_remember_25 : decode b_M_remember 25 = .ok (.istore_n 1, 1) := by decide +kernel
theorem d_M_remember_26 : decode b_M_remember 26 = .ok (.iload_n 1, 1) := by decide +kernel
theorem d_M_remember_27 : decode b_M_remember 27 = .ok (.bipush 51, 2) := by decide +kernel
theorem d_M_remember_29 : decode b_M_remember 29 = .ok (.if_icmp .ge 21, 3) := by decide +kernel
theorem d_M_remember_32 : decode b_M_remember 32 = .ok (.aload_n 0, 1) := by decide +kernel
theorem d_M_remember_33 : decode b_M_remember 33 = .ok (.getfield 78, 3) := by decide +kernel
theorem d_M_remember_36 : decode b_M_remember 36 = .ok (.iload_n 1, 1) := by decide +kernel
theorem d_M_remember_37 : decode b_M_remember 37 = .ok (.aload_n 0, 1) := by decide +kernel
theorem d_M_remember_38 : decode b_M_remember 38 = .ok (.getfield 63, 3) := by decide +kernel
theorem d_M_remember_41 : decode b_M_remember 41 = .ok (.iload_n 1, 1) := by decide +kernel
theorem d_M_remember_42 : decode b_M_remember 42 = .ok (.iaload, 1) := by decide +kernel
theorem d_M_remember_43 : decode b_M_remember 43 = .ok (.iastore, 1) := by decide +kernel
theorem d_M_remember_44 : decode b_M_remember 44 = .ok (.iinc 1 1, 3) := by decide +kernel
theorem d_M_remember_47 : decode b_M_remember 47 = .ok (.goto (-21), 3) := by decide +kernel
theorem d_M_remember_50 : decode b_M_remember 50 = .ok (.return_, 1) := by decide +kernel
theorem d_M_writeObject_0 : decode b_M_writeObject 0 = .ok (.iload_n 1, 1) := by decide +kernel
theorem d_M_writeObject_1 : decode b_M_writeObject 1 = .ok (.ifCond .ge 7, 3) := by decide +kernel
theorem d_M_writeObject_4 : decode b_M_writeObject 4 = .ok (.iconst (-1), 1) := by decide +kernel
theorem d_M_writeObject_5 : decode b_M_writeObject 5 = .ok (.goto 8, 3) := by decide +kernel
theorem d_M_writeObject_8 : decode b_M_writeObject 8 = .ok (.aload_n 0, 1) := by decide +kernel
theorem d_M_writeObject_9 : decode b_M_writeObject 9 = .ok (.iload_n 1, 1) := by decide +kernel
theorem d_M_writeObject_10 : decode b_M_writeObject 10 = .ok (.invokevirtual 252, 3) := by decide +kernel
theorem d_M_writeObject_13 : decode b_M_writeObject 13 = .ok (.istore_n 3, 1) := by decide +kernel
theorem d_M_writeObject_14 : decode b_M_writeObject 14 = .ok (.iload_n 3, 1) := by decide +kernel
theorem d_M_writeObject_15 : decode b_M_writeObject 15 = .ok (.ifCond .ge 13, 3) := by decide +kernel
theorem d_M_writeObject_18 : decode b_M_writeObject 18 = .ok (.aload_n 0, 1) := by decide +kernel
theorem d_M_writeObject_19 : decode b_M_writeObject 19 = .ok (.ldc2_w 212, 3) := by decide +kernel
theorem d_M_writeObject_22 : decode b_M_writeObject 22 = .ok (.iconst 1, 1) := by decide +kernel
theorem d_M_writeObject_23 : decode b_M_writeObject 23 = .ok (.invokevirtual 83, 3) := by decide +kernel
theorem d_M_writeObject_26 : decode b_M_writeObject 26 = .ok (.iconst 1, 1) := by decide +kernel
theorem d_M_writeObject_27 : decode b_M_writeObject 27 = .ok (.ireturn, 1) := by decide +kernel
theorem d_M_writeObject_28 : decode b_M_writeObject 28 = .ok (.aload_n 0, 1) := by decide +kernel
theorem d_M_writeObject_29 : decode b_M_writeObject 29 = .ok (.getfield 63, 3) := by decide +kernel
theorem d_M_writeObject_32 : decode b_M_writeObject 32 = .ok (.iload_n 3, 1) := by decide +kernel
theorem d_M_writeObject_33 : decode b_M_writeObject 33 = .ok (.iaload, 1) := by decide +kernel
theorem d_M_writeObject_34 : decode b_M_writeObject 34 = .ok (.ifCond .lt 14, 3) := by decide +kernel
theorem d_M_writeObject_37 : decode b_M_writeObject 37 = .ok (.iload_n 2, 1) := by decide +kernel
theorem d_M_writeObject_38 : decode b_M_writeObject 38 = .ok (.ifCond .ne 10, 3) := by decide +kernel
theorem d_M_writeObject_41 : decode b_M_writeObject 41 = .ok (.aload_n 0, 1) := by decide +kernel
theorem d_M_writeObject_42 : decode b_M_writeObject 42 = .ok (.iload_n 3, 1) := by decide +kernel
theorem d_M_writeObject_43 : decode b_M_writeObject 43 = .ok (.invokevirtual 187, 3) := by decide +kernel
theorem d_M_writeObject_46 : decode b_M_writeObject 46 = .ok (.iconst 1, 1) := by decide +kernel
theorem d_M_writeObject_47 : decode b_M_writeObject 47 = .ok (.ireturn, 1) := by decide +kernel
theorem d_M_writeObject_48 : decode b_M_writeObject 48 = .ok (.aload_n 0, 1) := by decide +kernel
theorem d_M_writeObject_49 : decode b_M_writeObject 49 = .ok (.getfield 36, 3) := by decide +kernel
theorem d_M_writeObject_52 : decode b_M_writeObject 52 = .ok (.iload_n 3, 1) := by decide +kernel
theorem d_M_writeObject_53 : decode b_M_writeObject 53 = .ok (.iaload, 1) := by decide +kernel
theorem d_M_writeObject_54 : decode b_M_writeObject 54 = .ok (.iconst 1, 1) := by decide +kernel
theorem d_M_writeObject_55 : decode b_M_writeObject 55 = .ok (.if_icmp .ne 68, 3) := by decide +kernel
theorem d_M_writeObject_58 : decode b_M_writeObject 58 = .ok (.aload_n 0, 1) := by decide +kernel
theorem d_M_writeObject_59 : decode b_M_writeObject 59 = .ok (.ldc2_w 190, 3) := by decide +kernel
theorem d_M_writeObject_62 : decode b_M_writeObject 62 = .ok (.iconst 1, 1) := by decide +kernel
theorem d_M_writeObject_63 : decode b_M_writeObject 63 = .ok (.invokevirtual 83, 3) := by decide +kernel
theorem d_M_writeObject_66 : decode b_M_writeObject 66 = .ok (.aload_n 0, 1) := by decide +kernel
theorem d_M_writeObject_67 : decode b_M_writeObject 67 = .ok (.iload_n 3, 1) := by decide +kernel
theorem d_M_writeObject_68 : decode b_M_writeObject 68 = .ok (.invokevirtual 192, 3) := by decide +kernel
theorem d_M_writeObject_71 : decode b_M_writeObject 71 = .ok (.aload_n 0, 1) := by decide +kernel
theorem d_M_writeObject_72 : decode b_M_writeObject 72 = .ok (.aload_n 0, 1) := by decide +kernel
theorem d_M_writeObject_73 : decode b_M_writeObject 73 = .ok (.getfield 45, 3) := by decide +kernel
theorem d_M_writeObject_76 : decode b_M_writeObject 76 = .ok (.iload_n 3, 1) := by decide +kernel
theorem d_M_writeObject_77 : decode b_M_writeObject 77 = .ok (.iaload, 1) := by decide +kernel
theorem d_M_writeObject_78 : decode b_M_writeObject 78 = .ok (.i2l, 1) := by decide +kernel
theorem d_M_writeObject_79 : decode b_M_writeObject 79 = .ok (.iconst 2, 1) := by decide +kernel
theorem d_M_writeObject_80 : decode b_M_writeObject 80 = .ok (.invokevirtual 83, 3) := by decide +kernel
theorem d_M_writeObject_83 : decode b_M_writeObject 83 = .ok (.iconst 0, 1) := by decide +kernel
theorem d_M_writeObject_84 : decode b_M_writeObject 84 = .ok (.istore 4, 2) := by decide +kernel
theorem d_M_writeObject_86 : decode b_M_writeObject 86 = .ok (.iload 4, 2) := by decide +kernel
theorem d_M_writeObject_88 : decode b_M_writeObject 88 = .ok (.aload_n 0, 1) := by decide +kernel
theorem d_M_writeObject_89 : decode b_M_writeObject 89 = .ok (.getfield 45, 3) := by decide +kernel
theorem d_M_writeObject_92 : decode b_M_writeObject 92 = .ok (.iload_n 3, 1) := by decide +kernel
theorem d_M_writeObject_93 : decode b_M_writeObject 93 = .ok (.iaload, 1) := by decide +kernel
theorem d_M_writeObject_94 : decode b_M_writeObject 94 = .ok (.if_icmp .ge 26, 3) := by decide +kernel
theorem d_M_writeObject_97 : decode b_M_writeObject 97 = .ok (.aload_n 0, 1) := by decide +kernel
theorem d_M_writeObject_98 : decode b_M_writeObject 98 = .ok (.aload_n 0, 1) := by decide +kernel
theorem d_M_writeObject_99 : decode b_M_writeObject 99 = .ok (.getfield 48, 3) := by decide +kernel
theorem d_M_writeObject_102 : decode b_M_writeObject 102 = .ok (.bipush 24, 2) := by decide +kernel
theorem d_M_writeObject_104 : decode b_M_writeObject 104 = .ok (.iload_n 3, 1) := by decide +kernel
theorem d_M_writeObject_105 : decode b_M_writeObject 105 = .ok (.imul, 1) := by decide +kernel
theorem d_M_writeObject_106 : decode b_M_writeObject 106 = .ok (.iload 4, 2) := by decide +kernel
theorem d_M_writeObject_108 : decode b_M_writeObject 108 = .ok (.iadd, 1) := by decide +kernel
theorem d_M_writeObject_109 : decode b_M_writeObject 109 = .ok (.laload, 1) := by decide +kernel
theorem d_M_writeObject_110 : decode b_M_writeObject 110 = .ok (.iconst 1, 1) := by decide +kernel
theorem d_M_writeObject_111 : decode b_M_writeObject 111 = .ok (.invokevirtual 83, 3) := by decide +kernel
theorem d_M_writeObject_114 : decode b_M_writeObject 114 = .ok (.iinc 4 1, 3) := by decide +kernel
theorem d_M_writeObject_117 : decode b_M_writeObject 117 = .ok (.goto (-31), 3) := by decide +kernel
theorem d_M_writeObject_120 : decode b_M_writeObject 120 = .ok (.goto 103, 3) := by decide +kernel
theorem d_M_writeObject_123 : decode b_M_writeObject 123 = .ok (.aload_n 0, 1) := by decide +kernel
theorem d_M_writeObject_124 : decode b_M_writeObject 124 = .ok (.getfield 36, 3) := by decide +kernel
theorem d_M_writeObject_127 : decode b_M_writeObject 127 = .ok (.iload_n 3, 1) := by decide +kernel
theorem d_M_writeObject_128 : decode b_M_writeObject 128 = .ok (.iaload, 1) := by decide +kernel
theorem d_M_writeObject_129 : decode b_M_writeObject 129 = .ok (.iconst 2, 1) := by decide +kernel
theorem d_M_writeObject_130 : decode b_M_writeObject 130 = .ok (.if_icmp .eq 13, 3) := by decide +kernel
theorem d_M_writeObject_133 : decode b_M_writeObject 133 = .ok (.aload_n 0, 1) := by decide +kernel
theorem d_M_writeObject_134 : decode b_M_writeObject 134 = .ok (.getfield 36, 3) := by decide +kernel
theorem d_M_writeObject_137 : decode b_M_writeObject 137 = .ok (.iload_n 3, 1) := by decide +kernel
theorem d_M_writeObject_138 : decode b_M_writeObject 138 = .ok (.iaload, 1) := by decide +kernel
theorem d_M_writeObject_139 : decode b_M_writeObject 139 = .ok (.iconst 3, 1) := by decide +kernel
theorem d_M_writeObject_140 : decode b_M_writeObject 140 = .ok (.if_icmp .ne 11, 3) := by decide +kernel
theorem d_M_writeObject_143 : decode b_M_writeObject 143 = .ok (.aload_n 0, 1) := by decide +kernel
theorem d_M_writeObject_144 : decode b_M_writeObject 144 = .ok (.iload_n 3, 1) := by decide +kernel
theorem d_M_writeObject_145 : decode b_M_writeObject 145 = .ok (.invokevirtual 255, 3) := by decide +kernel
theorem d_M_writeObject_148 : decode b_M_writeObject 148 = .ok (.goto 75, 3) := by decide +kernel
theorem d_M_writeObject_151 : decode b_M_writeObject 151 = .ok (.aload_n 0, 1) := by decide +kernel
theorem d_M_writeObject_152 : decode b_M_writeObject 152 = .ok (.getfield 36, 3) := by decide +kernel
theorem d_M_writeObject_155 : decode b_M_writeObject 155 = .ok (.iload_n 3, 1) := by decide +kernel
theorem d_M_writeObject_156 : decode b_M_writeObject 156 = .ok (.iaload, 1) := by decide +kernel
theorem d_M_writeObject_157 : decode b_M_writeObject 157 = .ok (.iconst 4, 1) := by decide +kernel
theorem d_M_writeObject_158 : decode b_M_writeObject 158 = .ok (.if_icmp .ne 11, 3) := by decide +kernel
theorem d_M_writeObject_161 : decode b_M_writeObject 161 = .ok (.aload_n 0, 1) := by decide +kernel
theorem d_M_writeObject_162 : decode b_M_writeObject 162 = .ok (.iload_n 3, 1) := by decide +kernel
theorem d_M_writeObject_163 : decode b_M_writeObject 163 = .ok (.invokevirtual 258, 3) := by decide +kernel
theorem d_M_writeObject_166 : decode b_M_writeObject 166 = .ok (.goto 57, 3) := by decide +kernel
theorem d_M_writeObject_169 : decode b_M_writeObject 169 = .ok (.aload_n 0, 1) := by decide +kernel
theorem d_M_writeObject_170 : decode b_M_writeObject 170 = .ok (.getfield 13, 3) := by decide +kernel
theorem d_M_writeObject_173 : decode b_M_writeObject 173 = .ok (.aload_n 0, 1) := by decide +kernel
theorem d_M_writeObject_174 : decode b_M_writeObject 174 = .ok (.getfield 39, 3) := by decide +kernel
theorem d_M_writeObject_177 : decode b_M_writeObject 177 = .ok (.iload_n 3, 1) := by decide +kernel
theorem d_M_writeObject_178 : decode b_M_writeObject 178 = .ok (.iaload, 1) := by decide +kernel
theorem d_M_writeObject_179 : decode b_M_writeObject 179 = .ok (.iaload, 1) := by decide +kernel
theorem d_M_writeObject_180 : decode b_M_writeObject 180 = .ok (.ifCond .ne 15, 3) := by decide +kernel
theorem d_M_writeObject_183 : decode b_M_writeObject 183 = .ok (.aload_n 0, 1) := by decide +kernel
theorem d_M_writeObject_184 : decode b_M_writeObject 184 = .ok (.aload_n 0, 1) := by decide +kernel
theorem d_M_writeObject_185 : decode b_M_writeObject 185 = .ok (.getfield 39, 3) := by decide +kernel
theorem d_M_writeObject_188 : decode b_M_writeObject 188 = .ok (.iload_n 3, 1) := by decide +kernel
theorem d_M_writeObject_189 : decode b_M_writeObject 189 = .ok (.iaload, 1) := by decide +kernel
theorem d_M_writeObject_190 : decode b_M_writeObject 190 = .ok (.invokevirtual 261, 3) := by decide +kernel
theorem d_M_writeObject_193 : decode b_M_writeObject 193 = .ok (.iconst 0, 1) := by decide +kernel
theorem d_M_writeObject_194 : decode b_M_writeObject 194 = .ok (.ireturn, 1) := by decide +kernel
theorem d_M_writeObject_195 : decode b_M_writeObject 195 = .ok (.aload_n 0, 1) := by decide +kernel
theorem d_M_writeObject_196 : decode b_M_writeObject 196 = .ok (.ldc2_w 264, 3) := by decide +kernel
theorem d_M_writeObject_199 : decode b_M_writeObject 199 = .ok (.iconst 1, 1) := by decide +kernel
theorem d_M_writeObject_200 : decode b_M_writeObject 200 = .ok (.invokevirtual 83, 3) := by decide +kernel
theorem d_M_writeObject_203 : decode b_M_writeObject 203 = .ok (.aload_n 0, 1) := by decide +kernel
theorem d_M_writeObject_204 : decode b_M_writeObject 204 = .ok (.aload_n 0, 1) := by decide +kernel
theorem d_M_writeObject_205 : decode b_M_writeObject 205 = .ok (.getfield 39, 3) := by decide +kernel
theorem d_M_writeObject_208 : decode b_M_writeObject 208 = .ok (.iload_n 3, 1) := by decide +kernel
theorem d_M_writeObject_209 : decode b_M_writeObject 209 = .ok (.iaload, 1) := by decide +kernel
theorem d_M_writeObject_210 : decode b_M_writeObject 210 = .ok (.invokevirtual 249, 3) := by decide +kernel
theorem d_M_writeObject_213 : decode b_M_writeObject 213 = .ok (.aload_n 0, 1) := by decide +kernel
theorem d_M_writeObject_214 : decode b_M_writeObject 214 = .ok (.iload_n 3, 1) := by decide +kernel
theorem d_M_writeObject_215 : decode b_M_writeObject 215 = .ok (.invokevirtual 192, 3) := by decide +kernel
theorem d_M_writeObject_218 : decode b_M_writeObject 218 = .ok (.aload_n 0, 1) := by decide +kernel
theorem d_M_writeObject_219 : decode b_M_writeObject 219 = .ok (.iload_n 3, 1) := by decide +kernel
theorem d_M_writeObject_220 : decode b_M_writeObject 220 = .ok (.invokevirtual 266, 3) := by decide +kernel
theorem d_M_writeObject_223 : decode b_M_writeObject 223 = .ok (.iconst 1, 1) := by decide +kernel
theorem d_M_writeObject_224 : decode b_M_writeObject 224 = .ok (.ireturn, 1) := by decide +kernel
theorem d_M_standing_0 : decode b_M_standing 0 = .ok (.iconst 1, 1) := by decide +kernel
theorem d_M_standing_1 : decode b_M_standing 1 = .ok (.iload_n 1, 1) := by decide +kernel
theorem d_M_standing_2 : decode b_M_standing 2 = .ok (.ishl, 1) := by decide +kernel
theorem d_M_standing_3 : decode b_M_standing 3 = .ok (.istore_n 2, 1) := by decide +kernel
theorem d_M_standing_4 : decode b_M_standing 4 = .ok (.iload_n 1, 1) := by decide +kernel
theorem d_M_standing_5 : decode b_M_standing 5 = .ok (.istore_n 3, 1) := by decide +kernel
theorem d_M_standing_6 : decode b_M_standing 6 = .ok (.iconst 0, 1) := by decide +kernel
theorem d_M_standing_7 : decode b_M_standing 7 = .ok (.istore 4, 2) := by decide +kernel
theorem d_M_standing_9 : decode b_M_standing 9 = .ok (.iload 4, 2) := by decide +kernel
theorem d_M_standing_11 : decode b_M_standing 11 = .ok (.bipush 20, 2) := by decide +kernel
theorem d_M_standing_13 : decode b_M_standing 13 = .ok (.if_icmp .ge 56, 3) := by decide +kernel
theorem d_M_standing_16 : decode b_M_standing 16 = .ok (.aload_n 0, 1) := by decide +kernel
theorem d_M_standing_17 : decode b_M_standing 17 = .ok (.getfield 36, 3) := by decide +kernel
theorem d_M_standing_20 : decode b_M_standing 20 = .ok (.iload_n 3, 1) := by decide +kernel
theorem d_M_standing_21 : decode b_M_standing 21 = .ok (.iaload, 1) := by decide +kernel
theorem d_M_standing_22 : decode b_M_standing 22 = .ok (.ifCond .ne 12, 3) := by decide +kernel
theorem d_M_standing_25 : decode b_M_standing 25 = .ok (.aload_n 0, 1) := by decide +kernel
theorem d_M_standing_26 : decode b_M_standing 26 = .ok (.getfield 51, 3) := by decide +kernel
theorem d_M_standing_29 : decode b_M_standing 29 = .ok (.iload_n 3, 1) := by decide +kernel
theorem d_M_standing_30 : decode b_M_standing 30 = .ok (.iaload, 1) := by decide +kernel
theorem d_M_standing_31 : decode b_M_standing 31 = .ok (.goto 4, 3) := by decide +kernel
theorem d_M_standing_34 : decode b_M_standing 34 = .ok (.iconst (-1), 1) := by decide +kernel
theorem d_M_standing_35 : decode b_M_standing 35 = .ok (.istore 5, 2) := by decide +kernel
theorem d_M_standing_37 : decode b_M_standing 37 = .ok (.iload 5, 2) := by decide +kernel
theorem d_M_standing_39 : decode b_M_standing 39 = .ok (.ifCond .lt 13, 3) := by decide +kernel
theorem d_M_standing_42 : decode b_M_standing 42 = .ok (.iload_n 2, 1) := by decide +kernel
theorem d_M_standing_43 : decode b_M_standing 43 = .ok (.iload 5, 2) := by decide +kernel
theorem d_M_standing_45 : decode b_M_standing 45 = .ok (.ishr, 1) := by decide +kernel
theorem d_M_standing_46 : decode b_M_standing 46 = .ok (.iconst 1, 1) := by decide +kernel
theorem d_M_standing_47 : decode b_M_standing 47 = .ok (.iand, 1) := by decide +kernel
theorem d_M_standing_48 : decode b_M_standing 48 = .ok (.iconst 1, 1) := by decide +kernel
theorem d_M_standing_49 : decode b_M_standing 49 = .ok (.if_icmp .ne 5, 3) := by decide +kernel
theorem d_M_standing_52 : decode b_M_standing 52 = .ok (.iload_n 3, 1) := by decide +kernel
theorem d_M_standing_53 : decode b_M_standing 53 = .ok (.ireturn, 1) := by decide +kernel
theorem d_M_standing_54 : decode b_M_standing 54 = .ok (.iload 5, 2) := by decide +kernel
theorem d_M_standing_56 : decode b_M_standing 56 = .ok (.istore_n 3, 1) := by decide +kernel
theorem d_M_standing_57 : decode b_M_standing 57 = .ok (.iload_n 2, 1) := by decide +kernel
theorem d_M_standing_58 : decode b_M_standing 58 = .ok (.iconst 1, 1) := by decide +kernel
theorem d_M_standing_59 : decode b_M_standing 59 = .ok (.iload_n 3, 1) := by decide +kernel
theorem d_M_standing_60 : decode b_M_standing 60 = .ok (.ishl, 1) := by decide +kernel
theorem d_M_standing_61 : decode b_M_standing 61 = .ok (.ior, 1) := by decide +kernel
theorem d_M_standing_62 : decode b_M_standing 62 = .ok (.istore_n 2, 1) := by decide +kernel
theorem d_M_standing_63 : decode b_M_standing 63 = .ok (.iinc 4 1, 3) := by decide +kernel
theorem d_M_standing_66 : decode b_M_standing 66 = .ok (.goto (-57), 3) := by decide +kernel
theorem d_M_standing_69 : decode b_M_standing 69 = .ok (.iload_n 3, 1) := by decide +kernel
theorem d_M_standing_70 : decode b_M_standing 70 = .ok (.ireturn, 1) := by decide +kernel
theorem d_M_refer_0 : decode b_M_refer 0 = .ok (.aload_n 0, 1) := by decide +kernel
theorem d_M_refer_1 : decode b_M_refer 1 = .ok (.ldc2_w 103, 3) := by decide +kernel
theorem d_M_refer_4 : decode b_M_refer 4 = .ok (.iconst 1, 1) := by decide +kernel
theorem d_M_refer_5 : decode b_M_refer 5 = .ok (.invokevirtual 83, 3) := by decide +kernel
theorem d_M_refer_8 : decode b_M_refer 8 = .ok (.aload_n 0, 1) := by decide +kernel
theorem d_M_refer_9 : decode b_M_refer 9 = .ok (.ldc 105, 2) := by decide +kernel
theorem d_M_refer_11 : decode b_M_refer 11 = .ok (.aload_n 0, 1) := by decide +kernel
theorem d_M_refer_12 : decode b_M_refer 12 = .ok (.getfield 63, 3) := by decide +kernel
theorem d_M_refer_15 : decode b_M_refer 15 = .ok (.iload_n 1, 1) := by decide +kernel
theorem d_M_refer_16 : decode b_M_refer 16 = .ok (.iaload, 1) := by decide +kernel
theorem d_M_refer_17 : decode b_M_refer 17 = .ok (.iadd, 1) := by decide +kernel
theorem d_M_refer_18 : decode b_M_refer 18 = .ok (.i2l, 1) := by decide +kernel
theorem d_M_refer_19 : decode b_M_refer 19 = .ok (.iconst 4, 1) := by decide +kernel
theorem d_M_refer_20 : decode b_M_refer 20 = .ok (.invokevirtual 83, 3) := by decide +kernel
theorem d_M_refer_23 : decode b_M_refer 23 = .ok (.return_, 1) := by decide +kernel
theorem d_M_give_0 : decode b_M_give 0 = .ok (.aload_n 0, 1) := by decide +kernel
theorem d_M_give_1 : decode b_M_give 1 = .ok (.getfield 63, 3) := by decide +kernel
theorem d_M_give_4 : decode b_M_give 4 = .ok (.iload_n 1, 1) := by decide +kernel
theorem d_M_give_5 : decode b_M_give 5 = .ok (.aload_n 0, 1) := by decide +kernel
theorem d_M_give_6 : decode b_M_give 6 = .ok (.getfield 100, 3) := by decide +kernel
theorem d_M_give_9 : decode b_M_give 9 = .ok (.iastore, 1) := by decide +kernel
theorem d_M_give_10 : decode b_M_give 10 = .ok (.aload_n 0, 1) := by decide +kernel
theorem d_M_give_11 : decode b_M_give 11 = .ok (.dup, 1) := by decide +kernel
theorem d_M_give_12 : decode b_M_give 12 = .ok (.getfield 100, 3) := by decide +kernel
theorem d_M_give_15 : decode b_M_give 15 = .ok (.iconst 1, 1) := by decide +kernel
theorem d_M_give_16 : decode b_M_give 16 = .ok (.iadd, 1) := by decide +kernel
theorem d_M_give_17 : decode b_M_give 17 = .ok (.putfield 100, 3) := by decide +kernel
theorem d_M_give_20 : decode b_M_give 20 = .ok (.return_, 1) := by decide +kernel
theorem d_M_writeArray_0 : decode b_M_writeArray 0 = .ok (.aload_n 0, 1) := by decide +kernel
theorem d_M_writeArray_1 : decode b_M_writeArray 1 = .ok (.getfield 36, 3) := by decide +kernel
theorem d_M_writeArray_4 : decode b_M_writeArray 4 = .ok (.iload_n 1, 1) := by decide +kernel
theorem d_M_writeArray_5 : decode b_M_writeArray 5 = .ok (.iaload, 1) := by decide +kernel
theorem d_M_writeArray_6 : decode b_M_writeArray 6 = .ok (.iconst 3, 1) := by decide +kernel
theorem d_M_writeArray_7 : decode b_M_writeArray 7 = .ok (.if_icmp .ne 7, 3) := by decide +kernel
theorem d_M_writeArray_10 : decode b_M_writeArray 10 = .ok (.iconst 1, 1) := by decide +kernel
theorem d_M_writeArray_11 : decode b_M_writeArray 11 = .ok (.goto 4, 3) := by decide +kernel
theorem d_M_writeArray_14 : decode b_M_writeArray 14 = .ok (.iconst 0, 1) := by decide +kernel
theorem d_M_writeArray_15 : decode b_M_writeArray 15 = .ok (.istore_n 2, 1) := by decide +kernel
theorem d_M_writeArray_16 : decode b_M_writeArray 16 = .ok (.aload_n 0, 1) := by decide +kernel
theorem d_M_writeArray_17 : decode b_M_writeArray 17 = .ok (.ldc2_w 241, 3) := by decide +kernel
theorem d_M_writeArray_20 : decode b_M_writeArray 20 = .ok (.iconst 1, 1) := by decide +kernel
theorem d_M_writeArray_21 : decode b_M_writeArray 21 = .ok (.invokevirtual 83, 3) := by decide +kernel
theorem d_M_writeArray_24 : decode b_M_writeArray 24 = .ok (.aload_n 0, 1) := by decide +kernel
theorem d_M_writeArray_25 : decode b_M_writeArray 25 = .ok (.iload_n 2, 1) := by decide +kernel
theorem d_M_writeArray_26 : decode b_M_writeArray 26 = .ok (.invokevirtual 243, 3) := by decide +kernel
theorem d_M_writeArray_29 : decode b_M_writeArray 29 = .ok (.aload_n 0, 1) := by decide +kernel
theorem d_M_writeArray_30 : decode b_M_writeArray 30 = .ok (.iload_n 1, 1) := by decide +kernel
theorem d_M_writeArray_31 : decode b_M_writeArray 31 = .ok (.invokevirtual 192, 3) := by decide +kernel
theorem d_M_writeArray_34 : decode b_M_writeArray 34 = .ok (.aload_n 0, 1) := by decide +kernel
theorem d_M_writeArray_35 : decode b_M_writeArray 35 = .ok (.aload_n 0, 1) := by decide +kernel
theorem d_M_writeArray_36 : decode b_M_writeArray 36 = .ok (.getfield 45, 3) := by decide +kernel
theorem d_M_writeArray_39 : decode b_M_writeArray 39 = .ok (.iload_n 1, 1) := by decide +kernel
theorem d_M_writeArray_40 : decode b_M_writeArray 40 = .ok (.iaload, 1) := by decide +kernel
theorem d_M_writeArray_41 : decode b_M_writeArray 41 = .ok (.i2l, 1) := by decide +kernel
theorem d_M_writeArray_42 : decode b_M_writeArray 42 = .ok (.iconst 4, 1) := by decide +kernel
theorem d_M_writeArray_43 : decode b_M_writeArray 43 = .ok (.invokevirtual 83, 3) := by decide +kernel
theorem d_M_writeArray_46 : decode b_M_writeArray 46 = .ok (.iconst 0, 1) := by decide +kernel
theorem d_M_writeArray_47 : decode b_M_writeArray 47 = .ok (.istore_n 3, 1) := by decide +kernel
theorem d_M_writeArray_48 : decode b_M_writeArray 48 = .ok (.iload_n 2, 1) := by decide +kernel
theorem d_M_writeArray_49 : decode b_M_writeArray 49 = .ok (.ifCond .ne 35, 3) := by decide +kernel
theorem d_M_writeArray_52 : decode b_M_writeArray 52 = .ok (.iload_n 3, 1) := by decide +kernel
theorem d_M_writeArray_53 : decode b_M_writeArray 53 = .ok (.aload_n 0, 1) := by decide +kernel
theorem d_M_writeArray_54 : decode b_M_writeArray 54 = .ok (.getfield 45, 3) := by decide +kernel
theorem d_M_writeArray_57 : decode b_M_writeArray 57 = .ok (.iload_n 1, 1) := by decide +kernel
theorem d_M_writeArray_58 : decode b_M_writeArray 58 = .ok (.iaload, 1) := by decide +kernel
theorem d_M_writeArray_59 : decode b_M_writeArray 59 = .ok (.if_icmp .ge 25, 3) := by decide +kernel
theorem d_M_writeArray_62 : decode b_M_writeArray 62 = .ok (.aload_n 0, 1) := by decide +kernel
theorem d_M_writeArray_63 : decode b_M_writeArray 63 = .ok (.aload_n 0, 1) := by decide +kernel
theorem d_M_writeArray_64 : decode b_M_writeArray 64 = .ok (.getfield 48, 3) := by decide +kernel
theorem d_M_writeArray_67 : decode b_M_writeArray 67 = .ok (.bipush 24, 2) := by decide +kernel
theorem d_M_writeArray_69 : decode b_M_writeArray 69 = .ok (.iload_n 1, 1) := by decide +kernel
theorem d_M_writeArray_70 : decode b_M_writeArray 70 = .ok (.imul, 1) := by decide +kernel
theorem d_M_writeArray_71 : decode b_M_writeArray 71 = .ok (.iload_n 3, 1) := by decide +kernel
theorem d_M_writeArray_72 : decode b_M_writeArray 72 = .ok (.iadd, 1) := by decide +kernel
theorem d_M_writeArray_73 : decode b_M_writeArray 73 = .ok (.laload, 1) := by decide +kernel
theorem d_M_writeArray_74 : decode b_M_writeArray 74 = .ok (.iconst 4, 1) := by decide +kernel
theorem d_M_writeArray_75 : decode b_M_writeArray 75 = .ok (.invokevirtual 83, 3) := by decide +kernel
theorem d_M_writeArray_78 : decode b_M_writeArray 78 = .ok (.iinc 3 1, 3) := by decide +kernel
theorem d_M_writeArray_81 : decode b_M_writeArray 81 = .ok (.goto (-33), 3) := by decide +kernel
theorem d_M_writeArray_84 : decode b_M_writeArray 84 = .ok (.aload_n 0, 1) := by decide +kernel
theorem d_M_writeArray_85 : decode b_M_writeArray 85 = .ok (.getfield 45, 3) := by decide +kernel
theorem d_M_writeArray_88 : decode b_M_writeArray 88 = .ok (.iload_n 1, 1) := by decide +kernel
theorem d_M_writeArray_89 : decode b_M_writeArray 89 = .ok (.iaload, 1) := by decide +kernel
theorem d_M_writeArray_90 : decode b_M_writeArray 90 = .ok (.iconst 1, 1) := by decide +kernel
theorem d_M_writeArray_91 : decode b_M_writeArray 91 = .ok (.isub, 1) := by decide +kernel
theorem d_M_writeArray_92 : decode b_M_writeArray 92 = .ok (.istore_n 3, 1) := by decide +kernel
theorem d_M_writeArray_93 : decode b_M_writeArray 93 = .ok (.iload_n 2, 1) := by decide +kernel
theorem d_M_writeArray_94 : decode b_M_writeArray 94 = .ok (.ifCond .eq 31, 3) := by decide +kernel
theorem d_M_writeArray_97 : decode b_M_writeArray 97 = .ok (.iload_n 3, 1) := by decide +kernel
theorem d_M_writeArray_98 : decode b_M_writeArray 98 = .ok (.ifCond .lt 27, 3) := by decide +kernel
theorem d_M_writeArray_101 : decode b_M_writeArray 101 = .ok (.aload_n 0, 1) := by decide +kernel
theorem d_M_writeArray_102 : decode b_M_writeArray 102 = .ok (.iconst 0, 1) := by decide +kernel
theorem d_M_writeArray_103 : decode b_M_writeArray 103 = .ok (.aload_n 0, 1) := by decide +kernel
theorem d_M_writeArray_104 : decode b_M_writeArray 104 = .ok (.getfield 48, 3) := by decide +kernel
theorem d_M_writeArray_107 : decode b_M_writeArray 107 = .ok (.bipush 24, 2) := by decide +kernel
theorem d_M_writeArray_109 : decode b_M_writeArray 109 = .ok (.iload_n 1, 1) := by decide +kernel
theorem d_M_writeArray_110 : decode b_M_writeArray 110 = .ok (.imul, 1) := by decide +kernel
theorem d_M_writeArray_111 : decode b_M_writeArray 111 = .ok (.iload_n 3, 1) := by decide +kernel
theorem d_M_writeArray_112 : decode b_M_writeArray 112 = .ok (.iadd, 1) := by decide +kernel
theorem d_M_writeArray_113 : decode b_M_writeArray 113 = .ok (.laload, 1) := by decide +kernel
theorem d_M_writeArray_114 : decode b_M_writeArray 114 = .ok (.l2i, 1) := by decide +kernel
theorem d_M_writeArray_115 : decode b_M_writeArray 115 = .ok (.iconst 0, 1) := by decide +kernel
theorem d_M_writeArray_116 : decode b_M_writeArray 116 = .ok (.invokevirtual 237, 3) := by decide +kernel
theorem d_M_writeArray_119 : decode b_M_writeArray 119 = .ok (.iinc 3 (-1), 3) := by decide +kernel
theorem d_M_writeArray_122 : decode b_M_writeArray 122 = .ok (.goto (-29), 3) := by decide +kernel
theorem d_M_writeArray_125 : decode b_M_writeArray 125 = .ok (.return_, 1) := by decide +kernel
theorem d_M_arrayDescriptor_0 : decode b_M_arrayDescriptor 0 = .ok (.iload_n 1, 1) := by decide +kernel
theorem d_M_arrayDescriptor_1 : decode b_M_arrayDescriptor 1 = .ok (.ifCond .eq 8, 3) := by decide +kernel
theorem d_M_arrayDescriptor_4 : decode b_M_arrayDescriptor 4 = .ok (.bipush 47, 2) := by decide +kernel
theorem d_M_arrayDescriptor_6 : decode b_M_arrayDescriptor 6 = .ok (.goto 5, 3) := by decide +kernel
theorem d_M_arrayDescriptor_9 : decode b_M_arrayDescriptor 9 = .ok (.bipush 46, 2) := by decide +kernel
theorem d_M_arrayDescriptor_11 : decode b_M_arrayDescriptor 11 = .ok (.istore_n 2, 1) := by decide +kernel
theorem d_M_arrayDescriptor_12 : decode b_M_arrayDescriptor 12 = .ok (.aload_n 0, 1) := by decide +kernel
theorem d_M_arrayDescriptor_13 : decode b_M_arrayDescriptor 13 = .ok (.getfield 63, 3) := by decide +kernel
theorem d_M_arrayDescriptor_16 : decode b_M_arrayDescriptor 16 = .ok (.iload_n 2, 1) := by decide +kernel
theorem d_M_arrayDescriptor_17 : decode b_M_arrayDescriptor 17 = .ok (.iaload, 1) := by decide +kernel
theorem d_M_arrayDescriptor_18 : decode b_M_arrayDescriptor 18 = .ok (.ifCond .lt 9, 3) := by decide +kernel
theorem d_M_arrayDescriptor_21 : decode b_M_arrayDescriptor 21 = .ok (.aload_n 0, 1) := by decide +kernel
theorem d_M_arrayDescriptor_22 : decode b_M_arrayDescriptor 22 = .ok (.iload_n 2, 1) := by decide +kernel
theorem d_M_arrayDescriptor_23 : decode b_M_arrayDescriptor 23 = .ok (.invokevirtual 187, 3) := by decide +kernel
theorem d_M_arrayDescriptor_26 : decode b_M_arrayDescriptor 26 = .ok (.return_, 1) := by decide +kernel
theorem d_M_arrayDescriptor_27 : decode b_M_arrayDescriptor 27 = .ok (.aload_n 0, 1) := by decide +kernel
theorem d_M_arrayDescriptor_28 : decode b_M_arrayDescriptor 28 = .ok (.ldc2_w 200, 3) := by decide +kernel
theorem d_M_arrayDescriptor_31 : decode b_M_arrayDescriptor 31 = .ok (.iconst 1, 1) := by decide +kernel
theorem d_M_arrayDescriptor_32 : decode b_M_arrayDescriptor 32 = .ok (.invokevirtual 83, 3) := by decide +kernel
theorem d_M_arrayDescriptor_35 : decode b_M_arrayDescriptor 35 = .ok (.iload_n 1, 1) := by decide +kernel
theorem d_M_arrayDescriptor_36 : decode b_M_arrayDescriptor 36 = .ok (.ifCond .eq 40, 3) := by decide +kernel
theorem d_M_arrayDescriptor_39 : decode b_M_arrayDescriptor 39 = .ok (.aload_n 0, 1) := by decide +kernel
theorem d_M_arrayDescriptor_40 : decode b_M_arrayDescriptor 40 = .ok (.ldc2_w 225, 3) := by decide +kernel
theorem d_M_arrayDescriptor_43 : decode b_M_arrayDescriptor 43 = .ok (.iconst 2, 1) := by decide +kernel
theorem d_M_arrayDescriptor_44 : decode b_M_arrayDescriptor 44 = .ok (.invokevirtual 83, 3) := by decide +kernel
theorem d_M_arrayDescriptor_47 : decode b_M_arrayDescriptor 47 = .ok (.aload_n 0, 1) := by decide +kernel
theorem d_M_arrayDescriptor_48 : decode b_M_arrayDescriptor 48 = .ok (.ldc2_w 227, 3) := by decide +kernel
theorem d_M_arrayDescriptor_51 : decode b_M_arrayDescriptor 51 = .ok (.bipush 8, 2) := by decide +kernel
theorem d_M_arrayDescriptor_53 : decode b_M_arrayDescriptor 53 = .ok (.invokevirtual 83, 3) := by decide +kernel
theorem d_M_arrayDescriptor_56 : decode b_M_arrayDescriptor 56 = .ok (.aload_n 0, 1) := by decide +kernel
theorem d_M_arrayDescriptor_57 : decode b_M_arrayDescriptor 57 = .ok (.ldc2_w 229, 3) := by decide +kernel
theorem d_M_arrayDescriptor_60 : decode b_M_arrayDescriptor 60 = .ok (.bipush 8, 2) := by decide +kernel
theorem d_M_arrayDescriptor_62 : decode b_M_arrayDescriptor 62 = .ok (.invokevirtual 83, 3) := by decide +kernel
theorem d_M_arrayDescriptor_65 : decode b_M_arrayDescriptor 65 = .ok (.aload_n 0, 1) := by decide +kernel
theorem d_M_arrayDescriptor_66 : decode b_M_arrayDescriptor 66 = .ok (.ldc2_w 231, 3) := by decide +kernel
theorem d_M_arrayDescriptor_69 : decode b_M_arrayDescriptor 69 = .ok (.iconst 3, 1) := by decide +kernel
theorem d_M_arrayDescriptor_70 : decode b_M_arrayDescriptor 70 = .ok (.invokevirtual 83, 3) := by decide +kernel
theorem d_M_arrayDescriptor_73 : decode b_M_arrayDescriptor 73 = .ok (.goto 19, 3) := by decide +kernel
theorem d_M_arrayDescriptor_76 : decode b_M_arrayDescriptor 76 = .ok (.aload_n 0, 1) := by decide +kernel
theorem d_M_arrayDescriptor_77 : decode b_M_arrayDescriptor 77 = .ok (.ldc2_w 155, 3) := by decide +kernel
theorem d_M_arrayDescriptor_80 : decode b_M_arrayDescriptor 80 = .ok (.iconst 2, 1) := by decide +kernel
theorem d_M_arrayDescriptor_81 : decode b_M_arrayDescriptor 81 = .ok (.invokevirtual 83, 3) := by decide +kernel
theorem d_M_arrayDescriptor_84 : decode b_M_arrayDescriptor 84 = .ok (.aload_n 0, 1) := by decide +kernel
theorem d_M_arrayDescriptor_85 : decode b_M_arrayDescriptor 85 = .ok (.ldc2_w 157, 3) := by decide +kernel
theorem d_M_arrayDescriptor_88 : decode b_M_arrayDescriptor 88 = .ok (.iconst 2, 1) := by decide +kernel
theorem d_M_arrayDescriptor_89 : decode b_M_arrayDescriptor 89 = .ok (.invokevirtual 83, 3) := by decide +kernel
theorem d_M_arrayDescriptor_92 : decode b_M_arrayDescriptor 92 = .ok (.aload_n 0, 1) := by decide +kernel
theorem d_M_arrayDescriptor_93 : decode b_M_arrayDescriptor 93 = .ok (.iload_n 1, 1) := by decide +kernel
theorem d_M_arrayDescriptor_94 : decode b_M_arrayDescriptor 94 = .ok (.ifCond .eq 9, 3) := by decide +kernel
theorem d_M_arrayDescriptor_97 : decode b_M_arrayDescriptor 97 = .ok (.ldc2_w 233, 3) := by decide +kernel
theorem d_M_arrayDescriptor_100 : decode b_M_arrayDescriptor 100 = .ok (.goto 6, 3) := by decide +kernel
theorem d_M_arrayDescriptor_103 : decode b_M_arrayDescriptor 103 = .ok (.ldc2_w 235, 3) := by decide +kernel
theorem d_M_arrayDescriptor_106 : decode b_M_arrayDescriptor 106 = .ok (.bipush 8, 2) := by decide +kernel
theorem d_M_arrayDescriptor_108 : decode b_M_arrayDescriptor 108 = .ok (.invokevirtual 83, 3) := by decide +kernel
theorem d_M_arrayDescriptor_111 : decode b_M_arrayDescriptor 111 = .ok (.aload_n 0, 1) := by decide +kernel
theorem d_M_arrayDescriptor_112 : decode b_M_arrayDescriptor 112 = .ok (.iload_n 2, 1) := by decide +kernel
theorem d_M_arrayDescriptor_113 : decode b_M_arrayDescriptor 113 = .ok (.iconst 2, 1) := by decide +kernel
theorem d_M_arrayDescriptor_114 : decode b_M_arrayDescriptor 114 = .ok (.invokevirtual 208, 3) := by decide +kernel
theorem d_M_arrayDescriptor_117 : decode b_M_arrayDescriptor 117 = .ok (.aload_n 0, 1) := by decide +kernel
theorem d_M_arrayDescriptor_118 : decode b_M_arrayDescriptor 118 = .ok (.ldc2_w 212, 3) := by decide +kernel
theorem d_M_arrayDescriptor_121 : decode b_M_arrayDescriptor 121 = .ok (.iconst 1, 1) := by decide +kernel
theorem d_M_arrayDescriptor_122 : decode b_M_arrayDescriptor 122 = .ok (.invokevirtual 83, 3) := by decide +kernel
theorem d_M_arrayDescriptor_125 : decode b_M_arrayDescriptor 125 = .ok (.return_, 1) := by decide +kernel
theorem d_M_plainEnd_0 : decode b_M_plainEnd 0 = .ok (.aload_n 0, 1) := by decide +kernel
theorem d_M_plainEnd_1 : decode b_M_plainEnd 1 = .ok (.iload_n 1, 1) := by decide +kernel
theorem d_M_plainEnd_2 : decode b_M_plainEnd 2 = .ok (.invokevirtual 192, 3) := by decide +kernel
theorem d_M_plainEnd_5 : decode b_M_plainEnd 5 = .ok (.aload_n 0, 1) := by decide +kernel
theorem d_M_plainEnd_6 : decode b_M_plainEnd 6 = .ok (.iload_n 2, 1) := by decide +kernel
theorem d_M_plainEnd_7 : decode b_M_plainEnd 7 = .ok (.i2l, 1) := by decide +kernel
theorem d_M_plainEnd_8 : decode b_M_plainEnd 8 = .ok (.iconst 1, 1) := by decide +kernel
theorem d_M_plainEnd_9 : decode b_M_plainEnd 9 = .ok (.invokevirtual 83, 3) := by decide +kernel
theorem d_M_plainEnd_12 : decode b_M_plainEnd 12 = .ok (.aload_n 0, 1) := by decide +kernel
theorem d_M_plainEnd_13 : decode b_M_plainEnd 13 = .ok (.lconst 0, 1) := by decide +kernel
theorem d_M_plainEnd_14 : decode b_M_plainEnd 14 = .ok (.iconst 2, 1) := by decide +kernel
theorem d_M_plainEnd_15 : decode b_M_plainEnd 15 = .ok (.invokevirtual 83, 3) := by decide +kernel
theorem d_M_plainEnd_18 : decode b_M_plainEnd 18 = .ok (.aload_n 0, 1) := by decide +kernel
theorem d_M_plainEnd_19 : decode b_M_plainEnd 19 = .ok (.ldc2_w 198, 3) := by decide +kernel
theorem d_M_plainEnd_22 : decode b_M_plainEnd 22 = .ok (.iconst 1, 1) := by decide +kernel
theorem d_M_plainEnd_23 : decode b_M_plainEnd 23 = .ok (.invokevirtual 83, 3) := by decide +kernel
theorem d_M_plainEnd_26 : decode b_M_plainEnd 26 = .ok (.return_, 1) := by decide +kernel
theorem d_M_push_0 : decode b_M_push 0 = .ok (.aload_n 0, 1) := by decide +kernel
theorem d_M_push_1 : decode b_M_push 1 = .ok (.getfield 66, 3) := by decide +kernel
theorem d_M_push_4 : decode b_M_push 4 = .ok (.aload_n 0, 1) := by decide +kernel
theorem d_M_push_5 : decode b_M_push 5 = .ok (.getfield 152, 3) := by decide +kernel
theorem d_M_push_8 : decode b_M_push 8 = .ok (.iload_n 1, 1) := by decide +kernel
theorem d_M_push_9 : decode b_M_push 9 = .ok (.iastore, 1) := by decide +kernel
theorem d_M_push_10 : decode b_M_push 10 = .ok (.aload_n 0, 1) := by decide +kernel
theorem d_M_push_11 : decode b_M_push 11 = .ok (.getfield 69, 3) := by decide +kernel
theorem d_M_push_14 : decode b_M_push 14 = .ok (.aload_n 0, 1) := by decide +kernel
theorem d_M_push_15 : decode b_M_push 15 = .ok (.getfield 152, 3) := by decide +kernel
theorem d_M_push_18 : decode b_M_push 18 = .ok (.iload_n 2, 1) := by decide +kernel
theorem d_M_push_19 : decode b_M_push 19 = .ok (.iastore, 1) := by decide +kernel
theorem d_M_push_20 : decode b_M_push 20 = .ok (.aload_n 0, 1) := by decide +kernel
theorem d_M_push_21 : decode b_M_push 21 = .ok (.getfield 72, 3) := by decide +kernel
theorem d_M_push_24 : decode b_M_push 24 = .ok (.aload_n 0, 1) := by decide +kernel
theorem d_M_push_25 : decode b_M_push 25 = .ok (.getfield 152, 3) := by decide +kernel
theorem d_M_push_28 : decode b_M_push 28 = .ok (.iload_n 3, 1) := by decide +kernel
theorem d_M_push_29 : decode b_M_push 29 = .ok (.iastore, 1) := by decide +kernel
theorem d_M_push_30 : decode b_M_push 30 = .ok (.aload_n 0, 1) := by decide +kernel
theorem d_M_push_31 : decode b_M_push 31 = .ok (.dup, 1) := by decide +kernel
theorem d_M_push_32 : decode b_M_push 32 = .ok (.getfield 152, 3) := by decide +kernel
theorem d_M_push_35 : decode b_M_push 35 = .ok (.iconst 1, 1) := by decide +kernel
theorem d_M_push_36 : decode b_M_push 36 = .ok (.iadd, 1) := by decide +kernel
theorem d_M_push_37 : decode b_M_push 37 = .ok (.putfield 152, 3) := by decide +kernel
theorem d_M_push_40 : decode b_M_push 40 = .ok (.return_, 1) := by decide +kernel
theorem d_M_writeConstant_0 : decode b_M_writeConstant 0 = .ok (.aload_n 0, 1) := by decide +kernel
theorem d_M_writeConstant_1 : decode b_M_writeConstant 1 = .ok (.ldc2_w 247, 3) := by decide +kernel
theorem d_M_writeConstant_4 : decode b_M_writeConstant 4 = .ok (.iconst 1, 1) := by decide +kernel
theorem d_M_writeConstant_5 : decode b_M_writeConstant 5 = .ok (.invokevirtual 83, 3) := by decide +kernel
theorem d_M_writeConstant_8 : decode b_M_writeConstant 8 = .ok (.aload_n 0, 1) := by decide +kernel
theorem d_M_writeConstant_9 : decode b_M_writeConstant 9 = .ok (.aload_n 0, 1) := by decide +kernel
theorem d_M_writeConstant_10 : decode b_M_writeConstant 10 = .ok (.getfield 39, 3) := by decide +kernel
theorem d_M_writeConstant_13 : decode b_M_writeConstant 13 = .ok (.iload_n 1, 1) := by decide +kernel
theorem d_M_writeConstant_14 : decode b_M_writeConstant 14 = .ok (.iaload, 1) := by decide +kernel
theorem d_M_writeConstant_15 : decode b_M_writeConstant 15 = .ok (.invokevirtual 249, 3) := by decide +kernel
theorem d_M_writeConstant_18 : decode b_M_writeConstant 18 = .ok (.aload_n 0, 1) := by decide +kernel
theorem d_M_writeConstant_19 : decode b_M_writeConstant 19 = .ok (.iload_n 1, 1) := by decide +kernel
theorem d_M_writeConstant_20 : decode b_M_writeConstant 20 = .ok (.invokevirtual 192, 3) := by decide +kernel
theorem d_M_writeConstant_23 : decode b_M_writeConstant 23 = .ok (.aload_n 0, 1) := by decide +kernel
theorem d_M_writeConstant_24 : decode b_M_writeConstant 24 = .ok (.getfield 63, 3) := by decide +kernel
theorem d_M_writeConstant_27 : decode b_M_writeConstant 27 = .ok (.bipush 20, 2) := by decide +kernel
theorem d_M_writeConstant_29 : decode b_M_writeConstant 29 = .ok (.iload_n 1, 1) := by decide +kernel
theorem d_M_writeConstant_30 : decode b_M_writeConstant 30 = .ok (.iadd, 1) := by decide +kernel
theorem d_M_writeConstant_31 : decode b_M_writeConstant 31 = .ok (.iaload, 1) := by decide +kernel
theorem d_M_writeConstant_32 : decode b_M_writeConstant 32 = .ok (.ifCond .lt 12, 3) := by decide +kernel
theorem d_M_writeConstant_35 : decode b_M_writeConstant 35 = .ok (.aload_n 0, 1) := by decide +kernel
theorem d_M_writeConstant_36 : decode b_M_writeConstant 36 = .ok (.bipush 20, 2) := by decide +kernel
theorem d_M_writeConstant_38 : decode b_M_writeConstant 38 = .ok (.iload_n 1, 1) := by decide +kernel
theorem d_M_writeConstant_39 : decode b_M_writeConstant 39 = .ok (.iadd, 1) := by decide +kernel
theorem d_M_writeConstant_40 : decode b_M_writeConstant 40 = .ok (.invokevirtual 187, 3) := by decide +kernel
theorem d_M_writeConstant_43 : decode b_M_writeConstant 43 = .ok (.return_, 1) := by decide +kernel
theorem d_M_writeConstant_44 : decode b_M_writeConstant 44 = .ok (.aload_n 0, 1) := by decide +kernel
theorem d_M_writeConstant_45 : decode b_M_writeConstant 45 = .ok (.ldc2_w 190, 3) := by decide +kernel
theorem d_M_writeConstant_48 : decode b_M_writeConstant 48 = .ok (.iconst 1, 1) := by decide +kernel
theorem d_M_writeConstant_49 : decode b_M_writeConstant 49 = .ok (.invokevirtual 83, 3) := by decide +kernel
theorem d_M_writeConstant_52 : decode b_M_writeConstant 52 = .ok (.aload_n 0, 1) := by decide +kernel
theorem d_M_writeConstant_53 : decode b_M_writeConstant 53 = .ok (.bipush 20, 2) := by decide +kernel
theorem d_M_writeConstant_55 : decode b_M_writeConstant 55 = .ok (.iload_n 1, 1) := by decide +kernel
theorem d_M_writeConstant_56 : decode b_M_writeConstant 56 = .ok (.iadd, 1) := by decide +kernel
theorem d_M_writeConstant_57 : decode b_M_writeConstant 57 = .ok (.invokevirtual 192, 3) := by decide +kernel
theorem d_M_writeConstant_60 : decode b_M_writeConstant 60 = .ok (.aload_n 0, 1) := by decide +kernel
theorem d_M_writeConstant_61 : decode b_M_writeConstant 61 = .ok (.bipush 97, 2) := by decide +kernel
theorem d_M_writeConstant_63 : decode b_M_writeConstant 63 = .ok (.aload_n 0, 1) := by decide +kernel
theorem d_M_writeConstant_64 : decode b_M_writeConstant 64 = .ok (.getfield 42, 3) := by decide +kernel
theorem d_M_writeConstant_67 : decode b_M_writeConstant 67 = .ok (.iload_n 1, 1) := by decide +kernel
theorem d_M_writeConstant_68 : decode b_M_writeConstant 68 = .ok (.iaload, 1) := by decide +kernel
theorem d_M_writeConstant_69 : decode b_M_writeConstant 69 = .ok (.iadd, 1) := by decide +kernel
theorem d_M_writeConstant_70 : decode b_M_writeConstant 70 = .ok (.invokevirtual 183, 3) := by decide +kernel
theorem d_M_writeConstant_73 : decode b_M_writeConstant 73 = .ok (.return_, 1) := by decide +kernel
theorem d_M_descriptor_0 : decode b_M_descriptor 0 = .ok (.iload_n 1, 1) := by decide +kernel
theorem d_M_descriptor_1 : decode b_M_descriptor 1 = .ok (.istore_n 2, 1) := by decide +kernel
theorem d_M_descriptor_2 : decode b_M_descriptor 2 = .ok (.iconst 0, 1) := by decide +kernel
theorem d_M_descriptor_3 : decode b_M_descriptor 3 = .ok (.istore_n 3, 1) := by decide +kernel
theorem d_M_descriptor_4 : decode b_M_descriptor 4 = .ok (.iload_n 3, 1) := by decide +kernel
theorem d_M_descriptor_5 : decode b_M_descriptor 5 = .ok (.bipush 7, 2) := by decide +kernel
theorem d_M_descriptor_7 : decode b_M_descriptor 7 = .ok (.if_icmp .ge 208, 3) := by decide +kernel
theorem d_M_descriptor_10 : decode b_M_descriptor 10 = .ok (.iload_n 2, 1) := by decide +kernel
theorem d_M_descriptor_11 : decode b_M_descriptor 11 = .ok (.ifCond .lt 12, 3) := by decide +kernel
theorem d_M_descriptor_14 : decode b_M_descriptor 14 = .ok (.aload_n 0, 1) := by decide +kernel
theorem d_M_descriptor_15 : decode b_M_descriptor 15 = .ok (.getfield 13, 3) := by decide +kernel
theorem d_M_descriptor_18 : decode b_M_descriptor 18 = .ok (.iload_n 2, 1) := by decide +kernel
theorem d_M_descriptor_19 : decode b_M_descriptor 19 = .ok (.iaload, 1) := by decide +kernel
theorem d_M_descriptor_20 : decode b_M_descriptor 20 = .ok (.ifCond .ne 12, 3) := by decide +kernel
theorem d_M_descriptor_23 : decode b_M_descriptor 23 = .ok (.aload_n 0, 1) := by decide +kernel
theorem d_M_descriptor_24 : decode b_M_descriptor 24 = .ok (.ldc2_w 212, 3) := by decide +kernel
theorem d_M_descriptor_27 : decode b_M_descriptor 27 = .ok (.iconst 1, 1) := by decide +kernel
theorem d_M_descriptor_28 : decode b_M_descriptor 28 = .ok (.invokevirtual 83, 3) := by decide +kernel
theorem d_M_descriptor_31 : decode b_M_descriptor 31 = .ok (.return_, 1) := by decide +kernel
theorem d_M_descriptor_32 : decode b_M_descriptor 32 = .ok (.aload_n 0, 1) := by decide +kernel
theorem d_M_descriptor_33 : decode b_M_descriptor 33 = .ok (.getfield 63, 3) := by decide +kernel
theorem d_M_descriptor_36 : decode b_M_descriptor 36 = .ok (.bipush 40, 2) := by decide +kernel
theorem d_M_descriptor_38 : decode b_M_descriptor 38 = .ok (.iload_n 2, 1) := by decide +kernel
theorem d_M_descriptor_39 : decode b_M_descriptor 39 = .ok (.iadd, 1) := by decide +kernel
theorem d_M_descriptor_40 : decode b_M_descriptor 40 = .ok (.iaload, 1) := by decide +kernel
theorem d_M_descriptor_41 : decode b_M_descriptor 41 = .ok (.ifCond .lt 12, 3) := by decide +kernel
theorem d_M_descriptor_44 : decode b_M_descriptor 44 = .ok (.aload_n 0, 1) := by decide +kernel
theorem d_M_descriptor_45 : decode b_M_descriptor 45 = .ok (.bipush 40, 2) := by decide +kernel
theorem d_M_descriptor_47 : decode b_M_descriptor 47 = .ok (.iload_n 2, 1) := by decide +kernel
theorem d_M_descriptor_48 : decode b_M_descriptor 48 = .ok (.iadd, 1) := by decide +kernel
theorem d_M_descriptor_49 : decode b_M_descriptor 49 = .ok (.invokevirtual 187, 3) := by decide +kernel
theorem d_M_descriptor_52 : decode b_M_descriptor 52 = .ok (.return_, 1) := by decide +kernel
theorem d_M_descriptor_53 : decode b_M_descriptor 53 = .ok (.aload_n 0, 1) := by decide +kernel
theorem d_M_descriptor_54 : decode b_M_descriptor 54 = .ok (.ldc2_w 200, 3) := by decide +kernel
theorem d_M_descriptor_57 : decode b_M_descriptor 57 = .ok (.iconst 1, 1) := by decide +kernel
theorem d_M_descriptor_58 : decode b_M_descriptor 58 = .ok (.invokevirtual 83, 3) := by decide +kernel
theorem d_M_descriptor_61 : decode b_M_descriptor 61 = .ok (.aload_n 0, 1) := by decide +kernel
theorem d_M_descriptor_62 : decode b_M_descriptor 62 = .ok (.bipush 65, 2) := by decide +kernel
theorem d_M_descriptor_64 : decode b_M_descriptor 64 = .ok (.iload_n 2, 1) := by decide +kernel
theorem d_M_descriptor_65 : decode b_M_descriptor 65 = .ok (.iadd, 1) := by decide +kernel
theorem d_M_descriptor_66 : decode b_M_descriptor 66 = .ok (.invokevirtual 183, 3) := by decide +kernel
theorem d_M_descriptor_69 : decode b_M_descriptor 69 = .ok (.aload_n 0, 1) := by decide +kernel
theorem d_M_descriptor_70 : decode b_M_descriptor 70 = .ok (.aload_n 0, 1) := by decide +kernel
theorem d_M_descriptor_71 : decode b_M_descriptor 71 = .ok (.getfield 13, 3) := by decide +kernel
theorem d_M_descriptor_74 : decode b_M_descriptor 74 = .ok (.iload_n 2, 1) := by decide +kernel
theorem d_M_descriptor_75 : decode b_M_descriptor 75 = .ok (.iaload, 1) := by decide +kernel
theorem d_M_descriptor_76 : decode b_M_descriptor 76 = .ok (.iconst 3, 1) := by decide +kernel
theorem d_M_descriptor_77 : decode b_M_descriptor 77 = .ok (.if_icmp .ne 7, 3) := by decide +kernel
theorem d_M_descriptor_80 : decode b_M_descriptor 80 = .ok (.lconst 0, 1) := by decide +kernel
theorem d_M_descriptor_81 : decode b_M_descriptor 81 = .ok (.goto 9, 3) := by decide +kernel
theorem d_M_descriptor_84 : decode b_M_descriptor 84 = .ok (.aload_n 0, 1) := by decide +kernel
theorem d_M_descriptor_85 : decode b_M_descriptor 85 = .ok (.getfield 20, 3) := by decide +kernel
theorem d_M_descriptor_88 : decode b_M_descriptor 88 = .ok (.iload_n 2, 1) := by decide +kernel
theorem d_M_descriptor_89 : decode b_M_descriptor 89 = .ok (.laload, 1) := by decide +kernel
theorem d_M_descriptor_90 : decode b_M_descriptor 90 = .ok (.bipush 8, 2) := by decide +kernel
theorem d_M_descriptor_92 : decode b_M_descriptor 92 = .ok (.invokevirtual 83, 3) := by decide +kernel
theorem d_M_descriptor_95 : decode b_M_descriptor 95 = .ok (.aload_n 0, 1) := by decide +kernel
theorem d_M_descriptor_96 : decode b_M_descriptor 96 = .ok (.getfield 13, 3) := by decide +kernel
theorem d_M_descriptor_99 : decode b_M_descriptor 99 = .ok (.iload_n 2, 1) := by decide +kernel
theorem d_M_descriptor_100 : decode b_M_descriptor 100 = .ok (.iaload, 1) := by decide +kernel
theorem d_M_descriptor_101 : decode b_M_descriptor 101 = .ok (.iconst 3, 1) := by decide +kernel
theorem d_M_descriptor_102 : decode b_M_descriptor 102 = .ok (.if_icmp .ne 18, 3) := by decide +kernel
theorem d_M_descriptor_105 : decode b_M_descriptor 105 = .ok (.aload_n 0, 1) := by decide +kernel
theorem d_M_descriptor_106 : decode b_M_descriptor 106 = .ok (.bipush 40, 2) := by decide +kernel
theorem d_M_descriptor_108 : decode b_M_descriptor 108 = .ok (.iload_n 2, 1) := by decide +kernel
theorem d_M_descriptor_109 : decode b_M_descriptor 109 = .ok (.iadd, 1) := by decide +kernel
theorem d_M_descriptor_110 : decode b_M_descriptor 110 = .ok (.bipush 18, 2) := by decide +kernel
theorem d_M_descriptor_112 : decode b_M_descriptor 112 = .ok (.invokevirtual 208, 3) := by decide +kernel
theorem d_M_descriptor_115 : decode b_M_descriptor 115 = .ok (.aload_n 0, 1) := by decide +kernel
theorem d_M_descriptor_116 : decode b_M_descriptor 116 = .ok (.invokevirtual 214, 3) := by decide +kernel
theorem d_M_descriptor_119 : decode b_M_descriptor 119 = .ok (.return_, 1) := by decide +kernel
theorem d_M_descriptor_120 : decode b_M_descriptor 120 = .ok (.aload_n 0, 1) := by decide +kernel
theorem d_M_descriptor_121 : decode b_M_descriptor 121 = .ok (.bipush 40, 2) := by decide +kernel
theorem d_M_descriptor_123 : decode b_M_descriptor 123 = .ok (.iload_n 2, 1) := by decide +kernel
theorem d_M_descriptor_124 : decode b_M_descriptor 124 = .ok (.iadd, 1) := by decide +kernel
theorem d_M_descriptor_125 : decode b_M_descriptor 125 = .ok (.invokevirtual 192, 3) := by decide +kernel
theorem d_M_descriptor_128 : decode b_M_descriptor 128 = .ok (.aload_n 0, 1) := by decide +kernel
theorem d_M_descriptor_129 : decode b_M_descriptor 129 = .ok (.aload_n 0, 1) := by decide +kernel
theorem d_M_descriptor_130 : decode b_M_descriptor 130 = .ok (.getfield 13, 3) := by decide +kernel
theorem d_M_descriptor_133 : decode b_M_descriptor 133 = .ok (.iload_n 2, 1) := by decide +kernel
theorem d_M_descriptor_134 : decode b_M_descriptor 134 = .ok (.iaload, 1) := by decide +kernel
theorem d_M_descriptor_135 : decode b_M_descriptor 135 = .ok (.iconst 2, 1) := by decide +kernel
theorem d_M_descriptor_136 : decode b_M_descriptor 136 = .ok (.if_icmp .ne 9, 3) := by decide +kernel
theorem d_M_descriptor_139 : decode b_M_descriptor 139 = .ok (.ldc2_w 217, 3) := by decide +kernel
theorem d_M_descriptor_142 : decode b_M_descriptor 142 = .ok (.goto 6, 3) := by decide +kernel
theorem d_M_descriptor_145 : decode b_M_descriptor 145 = .ok (.ldc2_w 155, 3) := by decide +kernel
theorem d_M_descriptor_148 : decode b_M_descriptor 148 = .ok (.iconst 1, 1) := by decide +kernel
theorem d_M_descriptor_149 : decode b_M_descriptor 149 = .ok (.invokevirtual 83, 3) := by decide +kernel
theorem d_M_descriptor_152 : decode b_M_descriptor 152 = .ok (.aload_n 0, 1) := by decide +kernel
theorem d_M_descriptor_153 : decode b_M_descriptor 153 = .ok (.iload_n 2, 1) := by decide +kernel
theorem d_M_descriptor_154 : decode b_M_descriptor 154 = .ok (.invokevirtual 219, 3) := by decide +kernel
theorem d_M_descriptor_157 : decode b_M_descriptor 157 = .ok (.istore 4, 2) := by decide +kernel
theorem d_M_descriptor_159 : decode b_M_descriptor 159 = .ok (.aload_n 0, 1) := by decide +kernel
theorem d_M_descriptor_160 : decode b_M_descriptor 160 = .ok (.iload 4, 2) := by decide +kernel
theorem d_M_descriptor_162 : decode b_M_descriptor 162 = .ok (.i2l, 1) := by decide +kernel
theorem d_M_descriptor_163 : decode b_M_descriptor 163 = .ok (.iconst 2, 1) := by decide +kernel
theorem d_M_descriptor_164 : decode b_M_descriptor 164 = .ok (.invokevirtual 83, 3) := by decide +kernel
theorem d_M_descriptor_167 : decode b_M_descriptor 167 = .ok (.iconst 0, 1) := by decide +kernel
theorem d_M_descriptor_168 : decode b_M_descriptor 168 = .ok (.istore 5, 2) := by decide +kernel
theorem d_M_descriptor_170 : decode b_M_descriptor 170 = .ok (.iload 5, 2) := by decide +kernel
theorem d_M_descriptor_172 : decode b_M_descriptor 172 = .ok (.iload 4, 2) := by decide +kernel
theorem d_M_descriptor_174 : decode b_M_descriptor 174 = .ok (.if_icmp .ge 20, 3) := by decide +kernel
theorem d_M_descriptor_177 : decode b_M_descriptor 177 = .ok (.aload_n 0, 1) := by decide +kernel
theorem d_M_descriptor_178 : decode b_M_descriptor 178 = .ok (.aload_n 0, 1) := by decide +kernel
theorem d_M_descriptor_179 : decode b_M_descriptor 179 = .ok (.getfield 75, 3) := by decide +kernel
theorem d_M_descriptor_182 : decode b_M_descriptor 182 = .ok (.iload 5, 2) := by decide +kernel
theorem d_M_descriptor_184 : decode b_M_descriptor 184 = .ok (.iaload, 1) := by decide +kernel
theorem d_M_descriptor_185 : decode b_M_descriptor 185 = .ok (.invokevirtual 222, 3) := by decide +kernel
theorem d_M_descriptor_188 : decode b_M_descriptor 188 = .ok (.iinc 5 1, 3) := by decide +kernel
theorem d_M_descriptor_191 : decode b_M_descriptor 191 = .ok (.goto (-21), 3) := by decide +kernel
theorem d_M_descriptor_194 : decode b_M_descriptor 194 = .ok (.aload_n 0, 1) := by decide +kernel
theorem d_M_descriptor_195 : decode b_M_descriptor 195 = .ok (.ldc2_w 198, 3) := by decide +kernel
theorem d_M_descriptor_198 : decode b_M_descriptor 198 = .ok (.iconst 1, 1) := by decide +kernel
theorem d_M_descriptor_199 : decode b_M_descriptor 199 = .ok (.invokevirtual 83, 3) := by decide +kernel
theorem d_M_descriptor_202 : decode b_M_descriptor 202 = .ok (.aload_n 0, 1) := by decide +kernel
theorem d_M_descriptor_203 : decode b_M_descriptor 203 = .ok (.getfield 17, 3) := by decide +kernel
theorem d_M_descriptor_206 : decode b_M_descriptor 206 = .ok (.iload_n 2, 1) := by decide +kernel
theorem d_M_descriptor_207 : decode b_M_descriptor 207 = .ok (.iaload, 1) := by decide +kernel
theorem d_M_descriptor_208 : decode b_M_descriptor 208 = .ok (.istore_n 2, 1) := by decide +kernel
theorem d_M_descriptor_209 : decode b_M_descriptor 209 = .ok (.iinc 3 1, 3) := by decide +kernel
theorem d_M_descriptor_212 : decode b_M_descriptor 212 = .ok (.goto (-208), 3) := by decide +kernel
theorem d_M_descriptor_215 : decode b_M_descriptor 215 = .ok (.return_, 1) := by decide +kernel
theorem d_M_letter_0 : decode b_M_letter 0 = .ok (.aload_n 0, 1) := by decide +kernel
theorem d_M_letter_1 : decode b_M_letter 1 = .ok (.lconst 1, 1) := by decide +kernel
theorem d_M_letter_2 : decode b_M_letter 2 = .ok (.iconst 2, 1) := by decide +kernel
theorem d_M_letter_3 : decode b_M_letter 3 = .ok (.invokevirtual 83, 3) := by decide +kernel
theorem d_M_letter_6 : decode b_M_letter 6 = .ok (.aload_n 0, 1) := by decide +kernel
theorem d_M_letter_7 : decode b_M_letter 7 = .ok (.iload_n 1, 1) := by decide +kernel
theorem d_M_letter_8 : decode b_M_letter 8 = .ok (.i2l, 1) := by decide +kernel
theorem d_M_letter_9 : decode b_M_letter 9 = .ok (.iconst 1, 1) := by decide +kernel
theorem d_M_letter_10 : decode b_M_letter 10 = .ok (.invokevirtual 83, 3) := by decide +kernel
theorem d_M_letter_13 : decode b_M_letter 13 = .ok (.return_, 1) := by decide +kernel
theorem d_M_enumBase_0 : decode b_M_enumBase 0 = .ok (.aload_n 0, 1) := by decide +kernel
theorem d_M_enumBase_1 : decode b_M_enumBase 1 = .ok (.getfield 63, 3) := by decide +kernel
theorem d_M_enumBase_4 : decode b_M_enumBase 4 = .ok (.bipush 48, 2) := by decide +kernel
theorem d_M_enumBase_6 : decode b_M_enumBase 6 = .ok (.iaload, 1) := by decide +kernel
theorem d_M_enumBase_7 : decode b_M_enumBase 7 = .ok (.ifCond .lt 10, 3) := by decide +kernel
theorem d_M_enumBase_10 : decode b_M_enumBase 10 = .ok (.aload_n 0, 1) := by decide +kernel
theorem d_M_enumBase_11 : decode b_M_enumBase 11 = .ok (.bipush 48, 2) := by decide +kernel
theorem d_M_enumBase_13 : decode b_M_enumBase 13 = .ok (.invokevirtual 187, 3) := by decide +kernel
theorem d_M_enumBase_16 : decode b_M_enumBase 16 = .ok (.return_, 1) := by decide +kernel
theorem d_M_enumBase_17 : decode b_M_enumBase 17 = .ok (.aload_n 0, 1) := by decide +kernel
theorem d_M_enumBase_18 : decode b_M_enumBase 18 = .ok (.ldc2_w 200, 3) := by decide +kernel
theorem d_M_enumBase_21 : decode b_M_enumBase 21 = .ok (.iconst 1, 1) := by decide +kernel
theorem d_M_enumBase_22 : decode b_M_enumBase 22 = .ok (.invokevirtual 83, 3) := by decide +kernel
theorem d_M_enumBase_25 : decode b_M_enumBase 25 = .ok (.aload_n 0, 1) := by decide +kernel
theorem d_M_enumBase_26 : decode b_M_enumBase 26 = .ok (.ldc2_w 202, 3) := by decide +kernel
theorem d_M_enumBase_29 : decode b_M_enumBase 29 = .ok (.iconst 2, 1) := by decide +kernel
theorem d_M_enumBase_30 : decode b_M_enumBase 30 = .ok (.invokevirtual 83, 3) := by decide +kernel
theorem d_M_enumBase_33 : decode b_M_enumBase 33 = .ok (.aload_n 0, 1) := by decide +kernel
theorem d_M_enumBase_34 : decode b_M_enumBase 34 = .ok (.ldc2_w 204, 3) := by decide +kernel
theorem d_M_enumBase_37 : decode b_M_enumBase 37 = .ok (.bipush 8, 2) := by decide +kernel
theorem d_M_enumBase_39 : decode b_M_enumBase 39 = .ok (.invokevirtual 83, 3) := by decide +kernel
theorem d_M_enumBase_42 : decode b_M_enumBase 42 = .ok (.aload_n 0, 1) := by decide +kernel
theorem d_M_enumBase_43 : decode b_M_enumBase 43 = .ok (.ldc2_w 206, 3) := by decide +kernel
theorem d_M_enumBase_46 : decode b_M_enumBase 46 = .ok (.bipush 6, 2) := by decide +kernel
theorem d_M_enumBase_48 : decode b_M_enumBase 48 = .ok (.invokevirtual 83, 3) := by decide +kernel
theorem d_M_enumBase_51 : decode b_M_enumBase 51 = .ok (.aload_n 0, 1) := by decide +kernel
theorem d_M_enumBase_52 : decode b_M_enumBase 52 = .ok (.lconst 0, 1) := by decide +kernel
theorem d_M_enumBase_53 : decode b_M_enumBase 53 = .ok (.bipush 8, 2) := by decide +kernel
theorem d_M_enumBase_55 : decode b_M_enumBase 55 = .ok (.invokevirtual 83, 3) := by decide +kernel
theorem d_M_enumBase_58 : decode b_M_enumBase 58 = .ok (.aload_n 0, 1) := by decide +kernel
theorem d_M_enumBase_59 : decode b_M_enumBase 59 = .ok (.bipush 48, 2) := by decide +kernel
theorem d_M_enumBase_61 : decode b_M_enumBase 61 = .ok (.bipush 18, 2) := by decide +kernel
theorem d_M_enumBase_63 : decode b_M_enumBase 63 = .ok (.invokevirtual 208, 3) := by decide +kernel
theorem d_M_enumBase_66 : decode b_M_enumBase 66 = .ok (.aload_n 0, 1) := by decide +kernel
theorem d_M_enumBase_67 : decode b_M_enumBase 67 = .ok (.ldc2_w 212, 3) := by decide +kernel
theorem d_M_enumBase_70 : decode b_M_enumBase 70 = .ok (.iconst 1, 1) := by decide +kernel
theorem d_M_enumBase_71 : decode b_M_enumBase 71 = .ok (.invokevirtual 83, 3) := by decide +kernel
theorem d_M_enumBase_74 : decode b_M_enumBase 74 = .ok (.return_, 1) := by decide +kernel
theorem d_M_arrange_0 : decode b_M_arrange 0 = .ok (.iconst 0, 1) := by decide +kernel
theorem d_M_arrange_1 : decode b_M_arrange 1 = .ok (.istore_n 2, 1) := by decide +kernel
theorem d_M_arrange_2 : decode b_M_arrange 2 = .ok (.iconst 0, 1) := by decide +kernel
theorem d_M_arrange_3 : decode b_M_arrange 3 = .ok (.istore_n 3, 1) := by decide +kernel
theorem d_M_arrange_4 : decode b_M_arrange 4 = .ok (.iload_n 3, 1) := by decide +kernel
theorem d_M_arrange_5 : decode b_M_arrange 5 = .ok (.iconst 2, 1) := by decide +kernel
theorem d_M_arrange_6 : decode b_M_arrange 6 = .ok (.if_icmp .ge 113, 3) := by decide +kernel
theorem d_M_arrange_9 : decode b_M_arrange 9 = .ok (.iconst 0, 1) := by decide +kernel
theorem d_M_arrange_10 : decode b_M_arrange 10 = .ok (.istore 4, 2) := by decide +kernel
theorem d_M_arrange_12 : decode b_M_arrange 12 = .ok (.iload 4, 2) := by decide +kernel
theorem d_M_arrange_14 : decode b_M_arrange 14 = .ok (.bipush 26, 2) := by decide +kernel
theorem d_M_arrange_16 : decode b_M_arrange 16 = .ok (.if_icmp .ge 97, 3) := by decide +kernel
theorem d_M_arrange_19 : decode b_M_arrange 19 = .ok (.iconst 4, 1) := by decide +kernel
theorem d_M_arrange_20 : decode b_M_arrange 20 = .ok (.iload_n 1, 1) := by decide +kernel
theorem d_M_arrange_21 : decode b_M_arrange 21 = .ok (.imul, 1) := by decide +kernel
theorem d_M_arrange_22 : decode b_M_arrange 22 = .ok (.istore 5, 2) := by decide +kernel
theorem d_M_arrange_24 : decode b_M_arrange 24 = .ok (.iload 5, 2) := by decide +kernel
theorem d_M_arrange_26 : decode b_M_arrange 26 = .ok (.iconst 4, 1) := by decide +kernel
theorem d_M_arrange_27 : decode b_M_arrange 27 = .ok (.iload_n 1, 1) := by decide +kernel
theorem d_M_arrange_28 : decode b_M_arrange 28 = .ok (.imul, 1) := by decide +kernel
