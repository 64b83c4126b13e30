theorem d_M_arrange_29 : decode b_M_arrange 29 = .ok (.aload_n 0, 1) := by decide +kernel
theorem d_M_arrange_30 : decode b_M_arrange 30 = .ok (.getfield 24, 3) := by decide +kernel
theorem d_M_arrange_33 : decode b_M_arrange 33 = .ok (.iload_n 1, 1) := by decide +kernel
theorem d_M_arrange_34 : decode b_M_arrange 34 = .ok (.iaload, 1) := by decide +kernel
theorem d_M_arrange_35 : decode b_M_arrange 35 = .ok (.iadd, 1) := by decide +kernel
theorem d_M_arrange_36 : decode b_M_arrange 36 = .ok (.if_icmp .ge 71, 3) := by decide +kernel
theorem d_M_arrange_39 : decode b_M_arrange 39 = .ok (.aload_n 0, 1) := by decide +kernel
theorem d_M_arrange_40 : decode b_M_arrange 40 = .ok (.getfield 27, 3) := by decide +kernel
theorem d_M_arrange_43 : decode b_M_arrange 43 = .ok (.iload 5, 2) := by decide +kernel
theorem d_M_arrange_45 : decode b_M_arrange 45 = .ok (.iaload, 1) := by decide +kernel
theorem d_M_arrange_46 : decode b_M_arrange 46 = .ok (.iload 4, 2) := by decide +kernel
theorem d_M_arrange_48 : decode b_M_arrange 48 = .ok (.if_icmp .ne 53, 3) := by decide +kernel
theorem d_M_arrange_51 : decode b_M_arrange 51 = .ok (.aload_n 0, 1) := by decide +kernel
theorem d_M_arrange_52 : decode b_M_arrange 52 = .ok (.getfield 33, 3) := by decide +kernel
theorem d_M_arrange_55 : decode b_M_arrange 55 = .ok (.iload 5, 2) := by decide +kernel
theorem d_M_arrange_57 : decode b_M_arrange 57 = .ok (.baload, 1) := by decide +kernel
theorem d_M_arrange_58 : decode b_M_arrange 58 = .ok (.ifCond .ne 43, 3) := by decide +kernel
theorem d_M_arrange_61 : decode b_M_arrange 61 = .ok (.aload_n 0, 1) := by decide +kernel
theorem d_M_arrange_62 : decode b_M_arrange 62 = .ok (.getfield 30, 3) := by decide +kernel
theorem d_M_arrange_65 : decode b_M_arrange 65 = .ok (.iload 5, 2) := by decide +kernel
theorem d_M_arrange_67 : decode b_M_arrange 67 = .ok (.iaload, 1) := by decide +kernel
theorem d_M_arrange_68 : decode b_M_arrange 68 = .ok (.iconst 5, 1) := by decide +kernel
theorem d_M_arrange_69 : decode b_M_arrange 69 = .ok (.if_icmp .le 7, 3) := by decide +kernel
theorem d_M_arrange_72 : decode b_M_arrange 72 = .ok (.iconst 1, 1) := by decide +kernel
theorem d_M_arrange_73 : decode b_M_arrange 73 = .ok (.goto 4, 3) := by decide +kernel
theorem d_M_arrange_76 : decode b_M_arrange 76 = .ok (.iconst 0, 1) := by decide +kernel
theorem d_M_arrange_77 : decode b_M_arrange 77 = .ok (.iload_n 3, 1) := by decide +kernel
theorem d_M_arrange_78 : decode b_M_arrange 78 = .ok (.iconst 1, 1) := by decide +kernel
theorem d_M_arrange_79 : decode b_M_arrange 79 = .ok (.if_icmp .ne 7, 3) := by decide +kernel
theorem d_M_arrange_82 : decode b_M_arrange 82 = .ok (.iconst 1, 1) := by decide +kernel
theorem d_M_arrange_83 : decode b_M_arrange 83 = .ok (.goto 4, 3) := by decide +kernel
theorem d_M_arrange_86 : decode b_M_arrange 86 = .ok (.iconst 0, 1) := by decide +kernel
theorem d_M_arrange_87 : decode b_M_arrange 87 = .ok (.if_icmp .ne 14, 3) := by decide +kernel
theorem d_M_arrange_90 : decode b_M_arrange 90 = .ok (.aload_n 0, 1) := by decide +kernel
theorem d_M_arrange_91 : decode b_M_arrange 91 = .ok (.getfield 75, 3) := by decide +kernel
theorem d_M_arrange_94 : decode b_M_arrange 94 = .ok (.iload_n 2, 1) := by decide +kernel
theorem d_M_arrange_95 : decode b_M_arrange 95 = .ok (.iload 5, 2) := by decide +kernel
theorem d_M_arrange_97 : decode b_M_arrange 97 = .ok (.iastore, 1) := by decide +kernel
theorem d_M_arrange_98 : decode b_M_arrange 98 = .ok (.iinc 2 1, 3) := by decide +kernel
theorem d_M_arrange_101 : decode b_M_arrange 101 = .ok (.iinc 5 1, 3) := by decide +kernel
theorem d_M_arrange_104 : decode b_M_arrange 104 = .ok (.goto (-80), 3) := by decide +kernel
theorem d_M_arrange_107 : decode b_M_arrange 107 = .ok (.iinc 4 1, 3) := by decide +kernel
theorem d_M_arrange_110 : decode b_M_arrange 110 = .ok (.goto (-98), 3) := by decide +kernel
theorem d_M_arrange_113 : decode b_M_arrange 113 = .ok (.iinc 3 1, 3) := by decide +kernel
theorem d_M_arrange_116 : decode b_M_arrange 116 = .ok (.goto (-112), 3) := by decide +kernel
theorem d_M_arrange_119 : decode b_M_arrange 119 = .ok (.iload_n 2, 1) := by decide +kernel
theorem d_M_arrange_120 : decode b_M_arrange 120 = .ok (.ireturn, 1) := by decide +kernel
theorem d_M_fieldEntry_0 : decode b_M_fieldEntry 0 = .ok (.aload_n 0, 1) := by decide +kernel
theorem d_M_fieldEntry_1 : decode b_M_fieldEntry 1 = .ok (.getfield 30, 3) := by decide +kernel
theorem d_M_fieldEntry_4 : decode b_M_fieldEntry 4 = .ok (.iload_n 1, 1) := by decide +kernel
theorem d_M_fieldEntry_5 : decode b_M_fieldEntry 5 = .ok (.iaload, 1) := by decide +kernel
theorem d_M_fieldEntry_6 : decode b_M_fieldEntry 6 = .ok (.istore_n 2, 1) := by decide +kernel
theorem d_M_fieldEntry_7 : decode b_M_fieldEntry 7 = .ok (.aload_n 0, 1) := by decide +kernel
theorem d_M_fieldEntry_8 : decode b_M_fieldEntry 8 = .ok (.iload_n 2, 1) := by decide +kernel
theorem d_M_fieldEntry_9 : decode b_M_fieldEntry 9 = .ok (.ifCond .ne 9, 3) := by decide +kernel
theorem d_M_fieldEntry_12 : decode b_M_fieldEntry 12 = .ok (.ldc2_w 167, 3) := by decide +kernel
theorem d_M_fieldEntry_15 : decode b_M_fieldEntry 15 = .ok (.goto 73, 3) := by decide +kernel
theorem d_M_fieldEntry_18 : decode b_M_fieldEntry 18 = .ok (.iload_n 2, 1) := by decide +kernel
theorem d_M_fieldEntry_19 : decode b_M_fieldEntry 19 = .ok (.iconst 1, 1) := by decide +kernel
theorem d_M_fieldEntry_20 : decode b_M_fieldEntry 20 = .ok (.if_icmp .ne 9, 3) := by decide +kernel
theorem d_M_fieldEntry_23 : decode b_M_fieldEntry 23 = .ok (.ldc2_w 169, 3) := by decide +kernel
theorem d_M_fieldEntry_26 : decode b_M_fieldEntry 26 = .ok (.goto 62, 3) := by decide +kernel
theorem d_M_fieldEntry_29 : decode b_M_fieldEntry 29 = .ok (.iload_n 2, 1) := by decide +kernel
theorem d_M_fieldEntry_30 : decode b_M_fieldEntry 30 = .ok (.iconst 2, 1) := by decide +kernel
theorem d_M_fieldEntry_31 : decode b_M_fieldEntry 31 = .ok (.if_icmp .ne 9, 3) := by decide +kernel
theorem d_M_fieldEntry_34 : decode b_M_fieldEntry 34 = .ok (.ldc2_w 171, 3) := by decide +kernel
theorem d_M_fieldEntry_37 : decode b_M_fieldEntry 37 = .ok (.goto 51, 3) := by decide +kernel
theorem d_M_fieldEntry_40 : decode b_M_fieldEntry 40 = .ok (.iload_n 2, 1) := by decide +kernel
theorem d_M_fieldEntry_41 : decode b_M_fieldEntry 41 = .ok (.iconst 3, 1) := by decide +kernel
theorem d_M_fieldEntry_42 : decode b_M_fieldEntry 42 = .ok (.if_icmp .ne 9, 3) := by decide +kernel
theorem d_M_fieldEntry_45 : decode b_M_fieldEntry 45 = .ok (.ldc2_w 173, 3) := by decide +kernel
theorem d_M_fieldEntry_48 : decode b_M_fieldEntry 48 = .ok (.goto 40, 3) := by decide +kernel
theorem d_M_fieldEntry_51 : decode b_M_fieldEntry 51 = .ok (.iload_n 2, 1) := by decide +kernel
theorem d_M_fieldEntry_52 : decode b_M_fieldEntry 52 = .ok (.iconst 4, 1) := by decide +kernel
theorem d_M_fieldEntry_53 : decode b_M_fieldEntry 53 = .ok (.if_icmp .ne 9, 3) := by decide +kernel
theorem d_M_fieldEntry_56 : decode b_M_fieldEntry 56 = .ok (.ldc2_w 175, 3) := by decide +kernel
theorem d_M_fieldEntry_59 : decode b_M_fieldEntry 59 = .ok (.goto 29, 3) := by decide +kernel
theorem d_M_fieldEntry_62 : decode b_M_fieldEntry 62 = .ok (.iload_n 2, 1) := by decide +kernel
theorem d_M_fieldEntry_63 : decode b_M_fieldEntry 63 = .ok (.iconst 5, 1) := by decide +kernel
theorem d_M_fieldEntry_64 : decode b_M_fieldEntry 64 = .ok (.if_icmp .ne 9, 3) := by decide +kernel
theorem d_M_fieldEntry_67 : decode b_M_fieldEntry 67 = .ok (.ldc2_w 177, 3) := by decide +kernel
theorem d_M_fieldEntry_70 : decode b_M_fieldEntry 70 = .ok (.goto 18, 3) := by decide +kernel
theorem d_M_fieldEntry_73 : decode b_M_fieldEntry 73 = .ok (.iload_n 2, 1) := by decide +kernel
theorem d_M_fieldEntry_74 : decode b_M_fieldEntry 74 = .ok (.bipush 6, 2) := by decide +kernel
theorem d_M_fieldEntry_76 : decode b_M_fieldEntry 76 = .ok (.if_icmp .ne 9, 3) := by decide +kernel
theorem d_M_fieldEntry_79 : decode b_M_fieldEntry 79 = .ok (.ldc2_w 179, 3) := by decide +kernel
theorem d_M_fieldEntry_82 : decode b_M_fieldEntry 82 = .ok (.goto 6, 3) := by decide +kernel
theorem d_M_fieldEntry_85 : decode b_M_fieldEntry 85 = .ok (.ldc2_w 181, 3) := by decide +kernel
theorem d_M_fieldEntry_88 : decode b_M_fieldEntry 88 = .ok (.iconst 1, 1) := by decide +kernel
theorem d_M_fieldEntry_89 : decode b_M_fieldEntry 89 = .ok (.invokevirtual 83, 3) := by decide +kernel
theorem d_M_fieldEntry_92 : decode b_M_fieldEntry 92 = .ok (.aload_n 0, 1) := by decide +kernel
theorem d_M_fieldEntry_93 : decode b_M_fieldEntry 93 = .ok (.bipush 97, 2) := by decide +kernel
theorem d_M_fieldEntry_95 : decode b_M_fieldEntry 95 = .ok (.aload_n 0, 1) := by decide +kernel
theorem d_M_fieldEntry_96 : decode b_M_fieldEntry 96 = .ok (.getfield 27, 3) := by decide +kernel
theorem d_M_fieldEntry_99 : decode b_M_fieldEntry 99 = .ok (.iload_n 1, 1) := by decide +kernel
theorem d_M_fieldEntry_100 : decode b_M_fieldEntry 100 = .ok (.iaload, 1) := by decide +kernel
theorem d_M_fieldEntry_101 : decode b_M_fieldEntry 101 = .ok (.iadd, 1) := by decide +kernel
theorem d_M_fieldEntry_102 : decode b_M_fieldEntry 102 = .ok (.invokevirtual 183, 3) := by decide +kernel
theorem d_M_fieldEntry_105 : decode b_M_fieldEntry 105 = .ok (.iload_n 2, 1) := by decide +kernel
theorem d_M_fieldEntry_106 : decode b_M_fieldEntry 106 = .ok (.bipush 6, 2) := by decide +kernel
theorem d_M_fieldEntry_108 : decode b_M_fieldEntry 108 = .ok (.if_icmp .ge 4, 3) := by decide +kernel
theorem d_M_fieldEntry_111 : decode b_M_fieldEntry 111 = .ok (.return_, 1) := by decide +kernel
theorem d_M_fieldEntry_112 : decode b_M_fieldEntry 112 = .ok (.iload_n 2, 1) := by decide +kernel
theorem d_M_fieldEntry_113 : decode b_M_fieldEntry 113 = .ok (.bipush 43, 2) := by decide +kernel
theorem d_M_fieldEntry_115 : decode b_M_fieldEntry 115 = .ok (.iadd, 1) := by decide +kernel
theorem d_M_fieldEntry_116 : decode b_M_fieldEntry 116 = .ok (.istore_n 3, 1) := by decide +kernel
theorem d_M_fieldEntry_117 : decode b_M_fieldEntry 117 = .ok (.aload_n 0, 1) := by decide +kernel
theorem d_M_fieldEntry_118 : decode b_M_fieldEntry 118 = .ok (.getfield 63, 3) := by decide +kernel
theorem d_M_fieldEntry_121 : decode b_M_fieldEntry 121 = .ok (.iload_n 3, 1) := by decide +kernel
theorem d_M_fieldEntry_122 : decode b_M_fieldEntry 122 = .ok (.iaload, 1) := by decide +kernel
theorem d_M_fieldEntry_123 : decode b_M_fieldEntry 123 = .ok (.ifCond .lt 11, 3) := by decide +kernel
theorem d_M_fieldEntry_126 : decode b_M_fieldEntry 126 = .ok (.aload_n 0, 1) := by decide +kernel
theorem d_M_fieldEntry_127 : decode b_M_fieldEntry 127 = .ok (.iload_n 3, 1) := by decide +kernel
theorem d_M_fieldEntry_128 : decode b_M_fieldEntry 128 = .ok (.invokevirtual 187, 3) := by decide +kernel
theorem d_M_fieldEntry_131 : decode b_M_fieldEntry 131 = .ok (.goto 21, 3) := by decide +kernel
theorem d_M_fieldEntry_134 : decode b_M_fieldEntry 134 = .ok (.aload_n 0, 1) := by decide +kernel
theorem d_M_fieldEntry_135 : decode b_M_fieldEntry 135 = .ok (.ldc2_w 190, 3) := by decide +kernel
theorem d_M_fieldEntry_138 : decode b_M_fieldEntry 138 = .ok (.iconst 1, 1) := by decide +kernel
theorem d_M_fieldEntry_139 : decode b_M_fieldEntry 139 = .ok (.invokevirtual 83, 3) := by decide +kernel
theorem d_M_fieldEntry_142 : decode b_M_fieldEntry 142 = .ok (.aload_n 0, 1) := by decide +kernel
theorem d_M_fieldEntry_143 : decode b_M_fieldEntry 143 = .ok (.iload_n 3, 1) := by decide +kernel
theorem d_M_fieldEntry_144 : decode b_M_fieldEntry 144 = .ok (.invokevirtual 192, 3) := by decide +kernel
theorem d_M_fieldEntry_147 : decode b_M_fieldEntry 147 = .ok (.aload_n 0, 1) := by decide +kernel
theorem d_M_fieldEntry_148 : decode b_M_fieldEntry 148 = .ok (.iload_n 2, 1) := by decide +kernel
theorem d_M_fieldEntry_149 : decode b_M_fieldEntry 149 = .ok (.invokevirtual 195, 3) := by decide +kernel
theorem d_M_fieldEntry_152 : decode b_M_fieldEntry 152 = .ok (.return_, 1) := by decide +kernel
theorem d_M_typeSigns_0 : decode b_M_typeSigns 0 = .ok (.iload_n 1, 1) := by decide +kernel
theorem d_M_typeSigns_1 : decode b_M_typeSigns 1 = .ok (.bipush 6, 2) := by decide +kernel
theorem d_M_typeSigns_3 : decode b_M_typeSigns 3 = .ok (.if_icmp .ne 22, 3) := by decide +kernel
theorem d_M_typeSigns_6 : decode b_M_typeSigns 6 = .ok (.aload_n 0, 1) := by decide +kernel
theorem d_M_typeSigns_7 : decode b_M_typeSigns 7 = .ok (.ldc2_w 155, 3) := by decide +kernel
theorem d_M_typeSigns_10 : decode b_M_typeSigns 10 = .ok (.iconst 2, 1) := by decide +kernel
theorem d_M_typeSigns_11 : decode b_M_typeSigns 11 = .ok (.invokevirtual 83, 3) := by decide +kernel
theorem d_M_typeSigns_14 : decode b_M_typeSigns 14 = .ok (.aload_n 0, 1) := by decide +kernel
theorem d_M_typeSigns_15 : decode b_M_typeSigns 15 = .ok (.ldc2_w 157, 3) := by decide +kernel
theorem d_M_typeSigns_18 : decode b_M_typeSigns 18 = .ok (.iconst 2, 1) := by decide +kernel
theorem d_M_typeSigns_19 : decode b_M_typeSigns 19 = .ok (.invokevirtual 83, 3) := by decide +kernel
theorem d_M_typeSigns_22 : decode b_M_typeSigns 22 = .ok (.goto 37, 3) := by decide +kernel
theorem d_M_typeSigns_25 : decode b_M_typeSigns 25 = .ok (.aload_n 0, 1) := by decide +kernel
theorem d_M_typeSigns_26 : decode b_M_typeSigns 26 = .ok (.ldc2_w 159, 3) := by decide +kernel
theorem d_M_typeSigns_29 : decode b_M_typeSigns 29 = .ok (.iconst 2, 1) := by decide +kernel
theorem d_M_typeSigns_30 : decode b_M_typeSigns 30 = .ok (.invokevirtual 83, 3) := by decide +kernel
theorem d_M_typeSigns_33 : decode b_M_typeSigns 33 = .ok (.aload_n 0, 1) := by decide +kernel
theorem d_M_typeSigns_34 : decode b_M_typeSigns 34 = .ok (.ldc2_w 161, 3) := by decide +kernel
theorem d_M_typeSigns_37 : decode b_M_typeSigns 37 = .ok (.bipush 8, 2) := by decide +kernel
theorem d_M_typeSigns_39 : decode b_M_typeSigns 39 = .ok (.invokevirtual 83, 3) := by decide +kernel
theorem d_M_typeSigns_42 : decode b_M_typeSigns 42 = .ok (.aload_n 0, 1) := by decide +kernel
theorem d_M_typeSigns_43 : decode b_M_typeSigns 43 = .ok (.ldc2_w 163, 3) := by decide +kernel
theorem d_M_typeSigns_46 : decode b_M_typeSigns 46 = .ok (.bipush 8, 2) := by decide +kernel
theorem d_M_typeSigns_48 : decode b_M_typeSigns 48 = .ok (.invokevirtual 83, 3) := by decide +kernel
theorem d_M_typeSigns_51 : decode b_M_typeSigns 51 = .ok (.aload_n 0, 1) := by decide +kernel
theorem d_M_typeSigns_52 : decode b_M_typeSigns 52 = .ok (.ldc2_w 165, 3) := by decide +kernel
theorem d_M_typeSigns_55 : decode b_M_typeSigns 55 = .ok (.iconst 2, 1) := by decide +kernel
theorem d_M_typeSigns_56 : decode b_M_typeSigns 56 = .ok (.invokevirtual 83, 3) := by decide +kernel
theorem d_M_typeSigns_59 : decode b_M_typeSigns 59 = .ok (.return_, 1) := by decide +kernel
theorem d_M_abort_0 : decode b_M_abort 0 = .ok (.aload_n 0, 1) := by decide +kernel
theorem d_M_abort_1 : decode b_M_abort 1 = .ok (.ldc2_w 269, 3) := by decide +kernel
theorem d_M_abort_4 : decode b_M_abort 4 = .ok (.iconst 2, 1) := by decide +kernel
theorem d_M_abort_5 : decode b_M_abort 5 = .ok (.invokevirtual 83, 3) := by decide +kernel
theorem d_M_abort_8 : decode b_M_abort 8 = .ok (.aload_n 0, 1) := by decide +kernel
theorem d_M_abort_9 : decode b_M_abort 9 = .ok (.ldc2_w 190, 3) := by decide +kernel
theorem d_M_abort_12 : decode b_M_abort 12 = .ok (.iconst 1, 1) := by decide +kernel
theorem d_M_abort_13 : decode b_M_abort 13 = .ok (.invokevirtual 83, 3) := by decide +kernel
theorem d_M_abort_16 : decode b_M_abort 16 = .ok (.aload_n 0, 1) := by decide +kernel
theorem d_M_abort_17 : decode b_M_abort 17 = .ok (.bipush 65, 2) := by decide +kernel
theorem d_M_abort_19 : decode b_M_abort 19 = .ok (.iload_n 1, 1) := by decide +kernel
theorem d_M_abort_20 : decode b_M_abort 20 = .ok (.iadd, 1) := by decide +kernel
theorem d_M_abort_21 : decode b_M_abort 21 = .ok (.invokevirtual 183, 3) := by decide +kernel
theorem d_M_abort_24 : decode b_M_abort 24 = .ok (.aload_n 0, 1) := by decide +kernel
theorem d_M_abort_25 : decode b_M_abort 25 = .ok (.ldc2_w 271, 3) := by decide +kernel
theorem d_M_abort_28 : decode b_M_abort 28 = .ok (.iconst 1, 1) := by decide +kernel
theorem d_M_abort_29 : decode b_M_abort 29 = .ok (.invokevirtual 83, 3) := by decide +kernel
theorem d_M_abort_32 : decode b_M_abort 32 = .ok (.aload_n 0, 1) := by decide +kernel
theorem d_M_abort_33 : decode b_M_abort 33 = .ok (.invokevirtual 89, 3) := by decide +kernel
theorem d_M_abort_36 : decode b_M_abort 36 = .ok (.aload_n 0, 1) := by decide +kernel
theorem d_M_abort_37 : decode b_M_abort 37 = .ok (.iconst 0, 1) := by decide +kernel
theorem d_M_abort_38 : decode b_M_abort 38 = .ok (.putfield 152, 3) := by decide +kernel
theorem d_M_abort_41 : decode b_M_abort 41 = .ok (.return_, 1) := by decide +kernel
theorem d_M_parts_0 : decode b_M_parts 0 = .ok (.aload_n 0, 1) := by decide +kernel
theorem d_M_parts_1 : decode b_M_parts 1 = .ok (.getfield 39, 3) := by decide +kernel
theorem d_M_parts_4 : decode b_M_parts 4 = .ok (.iload_n 1, 1) := by decide +kernel
theorem d_M_parts_5 : decode b_M_parts 5 = .ok (.iaload, 1) := by decide +kernel
theorem d_M_parts_6 : decode b_M_parts 6 = .ok (.istore_n 2, 1) := by decide +kernel
theorem d_M_parts_7 : decode b_M_parts 7 = .ok (.iload_n 2, 1) := by decide +kernel
theorem d_M_parts_8 : decode b_M_parts 8 = .ok (.ifCond .lt 126, 3) := by decide +kernel
theorem d_M_parts_11 : decode b_M_parts 11 = .ok (.aload_n 0, 1) := by decide +kernel
theorem d_M_parts_12 : decode b_M_parts 12 = .ok (.getfield 13, 3) := by decide +kernel
theorem d_M_parts_15 : decode b_M_parts 15 = .ok (.iload_n 2, 1) := by decide +kernel
theorem d_M_parts_16 : decode b_M_parts 16 = .ok (.iaload, 1) := by decide +kernel
theorem d_M_parts_17 : decode b_M_parts 17 = .ok (.ifCond .eq 117, 3) := by decide +kernel
theorem d_M_parts_20 : decode b_M_parts 20 = .ok (.aload_n 0, 1) := by decide +kernel
theorem d_M_parts_21 : decode b_M_parts 21 = .ok (.getfield 13, 3) := by decide +kernel
theorem d_M_parts_24 : decode b_M_parts 24 = .ok (.iload_n 2, 1) := by decide +kernel
theorem d_M_parts_25 : decode b_M_parts 25 = .ok (.iaload, 1) := by decide +kernel
theorem d_M_parts_26 : decode b_M_parts 26 = .ok (.iconst 2, 1) := by decide +kernel
theorem d_M_parts_27 : decode b_M_parts 27 = .ok (.if_icmp .ne 10, 3) := by decide +kernel
theorem d_M_parts_30 : decode b_M_parts 30 = .ok (.aload_n 0, 1) := by decide +kernel
theorem d_M_parts_31 : decode b_M_parts 31 = .ok (.iconst 2, 1) := by decide +kernel
theorem d_M_parts_32 : decode b_M_parts 32 = .ok (.iload_n 1, 1) := by decide +kernel
theorem d_M_parts_33 : decode b_M_parts 33 = .ok (.iload_n 2, 1) := by decide +kernel
theorem d_M_parts_34 : decode b_M_parts 34 = .ok (.invokevirtual 237, 3) := by decide +kernel
theorem d_M_parts_37 : decode b_M_parts 37 = .ok (.aload_n 0, 1) := by decide +kernel
theorem d_M_parts_38 : decode b_M_parts 38 = .ok (.iload_n 2, 1) := by decide +kernel
theorem d_M_parts_39 : decode b_M_parts 39 = .ok (.invokevirtual 219, 3) := by decide +kernel
theorem d_M_parts_42 : decode b_M_parts 42 = .ok (.istore_n 3, 1) := by decide +kernel
theorem d_M_parts_43 : decode b_M_parts 43 = .ok (.iload_n 3, 1) := by decide +kernel
theorem d_M_parts_44 : decode b_M_parts 44 = .ok (.iconst 1, 1) := by decide +kernel
theorem d_M_parts_45 : decode b_M_parts 45 = .ok (.isub, 1) := by decide +kernel
theorem d_M_parts_46 : decode b_M_parts 46 = .ok (.istore 4, 2) := by decide +kernel
theorem d_M_parts_48 : decode b_M_parts 48 = .ok (.iload 4, 2) := by decide +kernel
theorem d_M_parts_50 : decode b_M_parts 50 = .ok (.ifCond .lt 74, 3) := by decide +kernel
theorem d_M_parts_53 : decode b_M_parts 53 = .ok (.aload_n 0, 1) := by decide +kernel
theorem d_M_parts_54 : decode b_M_parts 54 = .ok (.iload_n 2, 1) := by decide +kernel
theorem d_M_parts_55 : decode b_M_parts 55 = .ok (.invokevirtual 121, 3) := by decide +kernel
theorem d_M_parts_58 : decode b_M_parts 58 = .ok (.aload_n 0, 1) := by decide +kernel
theorem d_M_parts_59 : decode b_M_parts 59 = .ok (.getfield 75, 3) := by decide +kernel
theorem d_M_parts_62 : decode b_M_parts 62 = .ok (.iload 4, 2) := by decide +kernel
theorem d_M_parts_64 : decode b_M_parts 64 = .ok (.iaload, 1) := by decide +kernel
theorem d_M_parts_65 : decode b_M_parts 65 = .ok (.iadd, 1) := by decide +kernel
theorem d_M_parts_66 : decode b_M_parts 66 = .ok (.iconst 4, 1) := by decide +kernel
theorem d_M_parts_67 : decode b_M_parts 67 = .ok (.iload_n 2, 1) := by decide +kernel
theorem d_M_parts_68 : decode b_M_parts 68 = .ok (.imul, 1) := by decide +kernel
theorem d_M_parts_69 : decode b_M_parts 69 = .ok (.isub, 1) := by decide +kernel
theorem d_M_parts_70 : decode b_M_parts 70 = .ok (.istore 5, 2) := by decide +kernel
theorem d_M_parts_72 : decode b_M_parts 72 = .ok (.aload_n 0, 1) := by decide +kernel
theorem d_M_parts_73 : decode b_M_parts 73 = .ok (.getfield 30, 3) := by decide +kernel
theorem d_M_parts_76 : decode b_M_parts 76 = .ok (.aload_n 0, 1) := by decide +kernel
theorem d_M_parts_77 : decode b_M_parts 77 = .ok (.getfield 75, 3) := by decide +kernel
theorem d_M_parts_80 : decode b_M_parts 80 = .ok (.iload 4, 2) := by decide +kernel
theorem d_M_parts_82 : decode b_M_parts 82 = .ok (.iaload, 1) := by decide +kernel
theorem d_M_parts_83 : decode b_M_parts 83 = .ok (.iaload, 1) := by decide +kernel
theorem d_M_parts_84 : decode b_M_parts 84 = .ok (.iconst 5, 1) := by decide +kernel
theorem d_M_parts_85 : decode b_M_parts 85 = .ok (.if_icmp .le 25, 3) := by decide +kernel
theorem d_M_parts_88 : decode b_M_parts 88 = .ok (.aload_n 0, 1) := by decide +kernel
theorem d_M_parts_89 : decode b_M_parts 89 = .ok (.iconst 0, 1) := by decide +kernel
theorem d_M_parts_90 : decode b_M_parts 90 = .ok (.aload_n 0, 1) := by decide +kernel
theorem d_M_parts_91 : decode b_M_parts 91 = .ok (.getfield 48, 3) := by decide +kernel
theorem d_M_parts_94 : decode b_M_parts 94 = .ok (.bipush 24, 2) := by decide +kernel
theorem d_M_parts_96 : decode b_M_parts 96 = .ok (.iload_n 1, 1) := by decide +kernel
theorem d_M_parts_97 : decode b_M_parts 97 = .ok (.imul, 1) := by decide +kernel
theorem d_M_parts_98 : decode b_M_parts 98 = .ok (.iload 5, 2) := by decide +kernel
theorem d_M_parts_100 : decode b_M_parts 100 = .ok (.iadd, 1) := by decide +kernel
theorem d_M_parts_101 : decode b_M_parts 101 = .ok (.laload, 1) := by decide +kernel
theorem d_M_parts_102 : decode b_M_parts 102 = .ok (.l2i, 1) := by decide +kernel
theorem d_M_parts_103 : decode b_M_parts 103 = .ok (.iconst 0, 1) := by decide +kernel
theorem d_M_parts_104 : decode b_M_parts 104 = .ok (.invokevirtual 237, 3) := by decide +kernel
theorem d_M_parts_107 : decode b_M_parts 107 = .ok (.goto 11, 3) := by decide +kernel
theorem d_M_parts_110 : decode b_M_parts 110 = .ok (.aload_n 0, 1) := by decide +kernel
theorem d_M_parts_111 : decode b_M_parts 111 = .ok (.iconst 1, 1) := by decide +kernel
theorem d_M_parts_112 : decode b_M_parts 112 = .ok (.iload_n 1, 1) := by decide +kernel
theorem d_M_parts_113 : decode b_M_parts 113 = .ok (.iload 5, 2) := by decide +kernel
theorem d_M_parts_115 : decode b_M_parts 115 = .ok (.invokevirtual 237, 3) := by decide +kernel
theorem d_M_parts_118 : decode b_M_parts 118 = .ok (.iinc 4 (-1), 3) := by decide +kernel
theorem d_M_parts_121 : decode b_M_parts 121 = .ok (.goto (-73), 3) := by decide +kernel
theorem d_M_parts_124 : decode b_M_parts 124 = .ok (.aload_n 0, 1) := by decide +kernel
theorem d_M_parts_125 : decode b_M_parts 125 = .ok (.getfield 17, 3) := by decide +kernel
theorem d_M_parts_128 : decode b_M_parts 128 = .ok (.iload_n 2, 1) := by decide +kernel
theorem d_M_parts_129 : decode b_M_parts 129 = .ok (.iaload, 1) := by decide +kernel
theorem d_M_parts_130 : decode b_M_parts 130 = .ok (.istore_n 2, 1) := by decide +kernel
theorem d_M_parts_131 : decode b_M_parts 131 = .ok (.goto (-124), 3) := by decide +kernel
theorem d_M_parts_134 : decode b_M_parts 134 = .ok (.return_, 1) := by decide +kernel
theorem d_M_doOne_0 : decode b_M_doOne 0 = .ok (.aload_n 0, 1) := by decide +kernel
theorem d_M_doOne_1 : decode b_M_doOne 1 = .ok (.dup, 1) := by decide +kernel
theorem d_M_doOne_2 : decode b_M_doOne 2 = .ok (.getfield 152, 3) := by decide +kernel
theorem d_M_doOne_5 : decode b_M_doOne 5 = .ok (.iconst 1, 1) := by decide +kernel
theorem d_M_doOne_6 : decode b_M_doOne 6 = .ok (.isub, 1) := by decide +kernel
theorem d_M_doOne_7 : decode b_M_doOne 7 = .ok (.putfield 152, 3) := by decide +kernel
theorem d_M_doOne_10 : decode b_M_doOne 10 = .ok (.aload_n 0, 1) := by decide +kernel
theorem d_M_doOne_11 : decode b_M_doOne 11 = .ok (.getfield 69, 3) := by decide +kernel
theorem d_M_doOne_14 : decode b_M_doOne 14 = .ok (.aload_n 0, 1) := by decide +kernel
theorem d_M_doOne_15 : decode b_M_doOne 15 = .ok (.getfield 152, 3) := by decide +kernel
theorem d_M_doOne_18 : decode b_M_doOne 18 = .ok (.iaload, 1) := by decide +kernel
theorem d_M_doOne_19 : decode b_M_doOne 19 = .ok (.istore_n 1, 1) := by decide +kernel
theorem d_M_doOne_20 : decode b_M_doOne 20 = .ok (.aload_n 0, 1) := by decide +kernel
theorem d_M_doOne_21 : decode b_M_doOne 21 = .ok (.getfield 72, 3) := by decide +kernel
theorem d_M_doOne_24 : decode b_M_doOne 24 = .ok (.aload_n 0, 1) := by decide +kernel
theorem d_M_doOne_25 : decode b_M_doOne 25 = .ok (.getfield 152, 3) := by decide +kernel
theorem d_M_doOne_28 : decode b_M_doOne 28 = .ok (.iaload, 1) := by decide +kernel
theorem d_M_doOne_29 : decode b_M_doOne 29 = .ok (.istore_n 2, 1) := by decide +kernel
theorem d_M_doOne_30 : decode b_M_doOne 30 = .ok (.aload_n 0, 1) := by decide +kernel
theorem d_M_doOne_31 : decode b_M_doOne 31 = .ok (.getfield 66, 3) := by decide +kernel
theorem d_M_doOne_34 : decode b_M_doOne 34 = .ok (.aload_n 0, 1) := by decide +kernel
theorem d_M_doOne_35 : decode b_M_doOne 35 = .ok (.getfield 152, 3) := by decide +kernel
theorem d_M_doOne_38 : decode b_M_doOne 38 = .ok (.iaload, 1) := by decide +kernel
theorem d_M_doOne_39 : decode b_M_doOne 39 = .ok (.ifCond .ne 10, 3) := by decide +kernel
theorem d_M_doOne_42 : decode b_M_doOne 42 = .ok (.aload_n 0, 1) := by decide +kernel
theorem d_M_doOne_43 : decode b_M_doOne 43 = .ok (.iload_n 1, 1) := by decide +kernel
theorem d_M_doOne_44 : decode b_M_doOne 44 = .ok (.iconst 0, 1) := by decide +kernel
theorem d_M_doOne_45 : decode b_M_doOne 45 = .ok (.invokevirtual 273, 3) := by decide +kernel
theorem d_M_doOne_48 : decode b_M_doOne 48 = .ok (.ireturn, 1) := by decide +kernel
theorem d_M_doOne_49 : decode b_M_doOne 49 = .ok (.aload_n 0, 1) := by decide +kernel
theorem d_M_doOne_50 : decode b_M_doOne 50 = .ok (.getfield 66, 3) := by decide +kernel
theorem d_M_doOne_53 : decode b_M_doOne 53 = .ok (.aload_n 0, 1) := by decide +kernel
theorem d_M_doOne_54 : decode b_M_doOne 54 = .ok (.getfield 152, 3) := by decide +kernel
theorem d_M_doOne_57 : decode b_M_doOne 57 = .ok (.iaload, 1) := by decide +kernel
theorem d_M_doOne_58 : decode b_M_doOne 58 = .ok (.iconst 1, 1) := by decide +kernel
theorem d_M_doOne_59 : decode b_M_doOne 59 = .ok (.if_icmp .ne 49, 3) := by decide +kernel
theorem d_M_doOne_62 : decode b_M_doOne 62 = .ok (.aload_n 0, 1) := by decide +kernel
theorem d_M_doOne_63 : decode b_M_doOne 63 = .ok (.iload_n 1, 1) := by decide +kernel
theorem d_M_doOne_64 : decode b_M_doOne 64 = .ok (.iload_n 2, 1) := by decide +kernel
theorem d_M_doOne_65 : decode b_M_doOne 65 = .ok (.invokevirtual 132, 3) := by decide +kernel
theorem d_M_doOne_68 : decode b_M_doOne 68 = .ok (.istore_n 3, 1) := by decide +kernel
theorem d_M_doOne_69 : decode b_M_doOne 69 = .ok (.aload_n 0, 1) := by decide +kernel
theorem d_M_doOne_70 : decode b_M_doOne 70 = .ok (.getfield 48, 3) := by decide +kernel
theorem d_M_doOne_73 : decode b_M_doOne 73 = .ok (.bipush 24, 2) := by decide +kernel
theorem d_M_doOne_75 : decode b_M_doOne 75 = .ok (.iload_n 1, 1) := by decide +kernel
theorem d_M_doOne_76 : decode b_M_doOne 76 = .ok (.imul, 1) := by decide +kernel
theorem d_M_doOne_77 : decode b_M_doOne 77 = .ok (.iload_n 2, 1) := by decide +kernel
theorem d_M_doOne_78 : decode b_M_doOne 78 = .ok (.iadd, 1) := by decide +kernel
theorem d_M_doOne_79 : decode b_M_doOne 79 = .ok (.laload, 1) := by decide +kernel
theorem d_M_doOne_80 : decode b_M_doOne 80 = .ok (.lstore 4, 2) := by decide +kernel
theorem d_M_doOne_82 : decode b_M_doOne 82 = .ok (.aload_n 0, 1) := by decide +kernel
theorem d_M_doOne_83 : decode b_M_doOne 83 = .ok (.iload_n 3, 1) := by decide +kernel
theorem d_M_doOne_84 : decode b_M_doOne 84 = .ok (.iconst 5, 1) := by decide +kernel
theorem d_M_doOne_85 : decode b_M_doOne 85 = .ok (.if_icmp .ne 10, 3) := by decide +kernel
theorem d_M_doOne_88 : decode b_M_doOne 88 = .ok (.lload 4, 2) := by decide +kernel
theorem d_M_doOne_90 : decode b_M_doOne 90 = .ok (.lconst 1, 1) := by decide +kernel
theorem d_M_doOne_91 : decode b_M_doOne 91 = .ok (.land, 1) := by decide +kernel
theorem d_M_doOne_92 : decode b_M_doOne 92 = .ok (.goto 5, 3) := by decide +kernel
theorem d_M_doOne_95 : decode b_M_doOne 95 = .ok (.lload 4, 2) := by decide +kernel
theorem d_M_doOne_97 : decode b_M_doOne 97 = .ok (.aload_n 0, 1) := by decide +kernel
theorem d_M_doOne_98 : decode b_M_doOne 98 = .ok (.iload_n 3, 1) := by decide +kernel
theorem d_M_doOne_99 : decode b_M_doOne 99 = .ok (.invokevirtual 277, 3) := by decide +kernel
theorem d_M_doOne_102 : decode b_M_doOne 102 = .ok (.invokevirtual 83, 3) := by decide +kernel
theorem d_M_doOne_105 : decode b_M_doOne 105 = .ok (.goto 33, 3) := by decide +kernel
theorem d_M_doOne_108 : decode b_M_doOne 108 = .ok (.aload_n 0, 1) := by decide +kernel
theorem d_M_doOne_109 : decode b_M_doOne 109 = .ok (.ldc2_w 280, 3) := by decide +kernel
theorem d_M_doOne_112 : decode b_M_doOne 112 = .ok (.iconst 2, 1) := by decide +kernel
theorem d_M_doOne_113 : decode b_M_doOne 113 = .ok (.invokevirtual 83, 3) := by decide +kernel
theorem d_M_doOne_116 : decode b_M_doOne 116 = .ok (.aload_n 0, 1) := by decide +kernel
theorem d_M_doOne_117 : decode b_M_doOne 117 = .ok (.aload_n 0, 1) := by decide +kernel
theorem d_M_doOne_118 : decode b_M_doOne 118 = .ok (.getfield 54, 3) := by decide +kernel
theorem d_M_doOne_121 : decode b_M_doOne 121 = .ok (.iload_n 1, 1) := by decide +kernel
theorem d_M_doOne_122 : decode b_M_doOne 122 = .ok (.iaload, 1) := by decide +kernel
theorem d_M_doOne_123 : decode b_M_doOne 123 = .ok (.iload_n 2, 1) := by decide +kernel
theorem d_M_doOne_124 : decode b_M_doOne 124 = .ok (.iadd, 1) := by decide +kernel
theorem d_M_doOne_125 : decode b_M_doOne 125 = .ok (.i2l, 1) := by decide +kernel
theorem d_M_doOne_126 : decode b_M_doOne 126 = .ok (.iconst 4, 1) := by decide +kernel
theorem d_M_doOne_127 : decode b_M_doOne 127 = .ok (.invokevirtual 83, 3) := by decide +kernel
theorem d_M_doOne_130 : decode b_M_doOne 130 = .ok (.aload_n 0, 1) := by decide +kernel
theorem d_M_doOne_131 : decode b_M_doOne 131 = .ok (.ldc2_w 198, 3) := by decide +kernel
theorem d_M_doOne_134 : decode b_M_doOne 134 = .ok (.iconst 1, 1) := by decide +kernel
theorem d_M_doOne_135 : decode b_M_doOne 135 = .ok (.invokevirtual 83, 3) := by decide +kernel
theorem d_M_doOne_138 : decode b_M_doOne 138 = .ok (.iconst 1, 1) := by decide +kernel
theorem d_M_doOne_139 : decode b_M_doOne 139 = .ok (.ireturn, 1) := by decide +kernel
theorem d_M_width_0 : decode b_M_width 0 = .ok (.iload_n 1, 1) := by decide +kernel
theorem d_M_width_1 : decode b_M_width 1 = .ok (.ifCond .eq 8, 3) := by decide +kernel
theorem d_M_width_4 : decode b_M_width 4 = .ok (.iload_n 1, 1) := by decide +kernel
theorem d_M_width_5 : decode b_M_width 5 = .ok (.iconst 5, 1) := by decide +kernel
theorem d_M_width_6 : decode b_M_width 6 = .ok (.if_icmp .ne 7, 3) := by decide +kernel
theorem d_M_width_9 : decode b_M_width 9 = .ok (.iconst 1, 1) := by decide +kernel
theorem d_M_width_10 : decode b_M_width 10 = .ok (.goto 28, 3) := by decide +kernel
theorem d_M_width_13 : decode b_M_width 13 = .ok (.iload_n 1, 1) := by decide +kernel
theorem d_M_width_14 : decode b_M_width 14 = .ok (.iconst 1, 1) := by decide +kernel
theorem d_M_width_15 : decode b_M_width 15 = .ok (.if_icmp .eq 8, 3) := by decide +kernel
theorem d_M_width_18 : decode b_M_width 18 = .ok (.iload_n 1, 1) := by decide +kernel
theorem d_M_width_19 : decode b_M_width 19 = .ok (.iconst 4, 1) := by decide +kernel
theorem d_M_width_20 : decode b_M_width 20 = .ok (.if_icmp .ne 7, 3) := by decide +kernel
theorem d_M_width_23 : decode b_M_width 23 = .ok (.iconst 2, 1) := by decide +kernel
theorem d_M_width_24 : decode b_M_width 24 = .ok (.goto 14, 3) := by decide +kernel
theorem d_M_width_27 : decode b_M_width 27 = .ok (.iload_n 1, 1) := by decide +kernel
theorem d_M_width_28 : decode b_M_width 28 = .ok (.iconst 3, 1) := by decide +kernel
theorem d_M_width_29 : decode b_M_width 29 = .ok (.if_icmp .ne 8, 3) := by decide +kernel
theorem d_M_width_32 : decode b_M_width 32 = .ok (.bipush 8, 2) := by decide +kernel
theorem d_M_width_34 : decode b_M_width 34 = .ok (.goto 4, 3) := by decide +kernel
theorem d_M_width_37 : decode b_M_width 37 = .ok (.iconst 4, 1) := by decide +kernel
theorem d_M_width_38 : decode b_M_width 38 = .ok (.ireturn, 1) := by decide +kernel
theorem d_M_tooLong_0 : decode b_M_tooLong 0 = .ok (.aload_n 0, 1) := by decide +kernel
theorem d_M_tooLong_1 : decode b_M_tooLong 1 = .ok (.getfield 96, 3) := by decide +kernel
theorem d_M_tooLong_4 : decode b_M_tooLong 4 = .ok (.aload_n 0, 1) := by decide +kernel
theorem d_M_tooLong_5 : decode b_M_tooLong 5 = .ok (.getfield 106, 3) := by decide +kernel
theorem d_M_tooLong_8 : decode b_M_tooLong 8 = .ok (.iadd, 1) := by decide +kernel
theorem d_M_tooLong_9 : decode b_M_tooLong 9 = .ok (.sipush 1400, 3) := by decide +kernel
theorem d_M_tooLong_12 : decode b_M_tooLong 12 = .ok (.if_icmp .gt 5, 3) := by decide +kernel
theorem d_M_tooLong_15 : decode b_M_tooLong 15 = .ok (.iconst 0, 1) := by decide +kernel
theorem d_M_tooLong_16 : decode b_M_tooLong 16 = .ok (.ireturn, 1) := by decide +kernel
theorem d_M_tooLong_17 : decode b_M_tooLong 17 = .ok (.aload_n 0, 1) := by decide +kernel
theorem d_M_tooLong_18 : decode b_M_tooLong 18 = .ok (.aload_n 0, 1) := by decide +kernel
theorem d_M_tooLong_19 : decode b_M_tooLong 19 = .ok (.getfield 140, 3) := by decide +kernel
theorem d_M_tooLong_22 : decode b_M_tooLong 22 = .ok (.putfield 96, 3) := by decide +kernel
theorem d_M_tooLong_25 : decode b_M_tooLong 25 = .ok (.aload_n 0, 1) := by decide +kernel
theorem d_M_tooLong_26 : decode b_M_tooLong 26 = .ok (.aload_n 0, 1) := by decide +kernel
theorem d_M_tooLong_27 : decode b_M_tooLong 27 = .ok (.getfield 143, 3) := by decide +kernel
theorem d_M_tooLong_30 : decode b_M_tooLong 30 = .ok (.putfield 106, 3) := by decide +kernel
theorem d_M_tooLong_33 : decode b_M_tooLong 33 = .ok (.aload_n 0, 1) := by decide +kernel
theorem d_M_tooLong_34 : decode b_M_tooLong 34 = .ok (.aload_n 0, 1) := by decide +kernel
theorem d_M_tooLong_35 : decode b_M_tooLong 35 = .ok (.getfield 146, 3) := by decide +kernel
theorem d_M_tooLong_38 : decode b_M_tooLong 38 = .ok (.putfield 100, 3) := by decide +kernel
theorem d_M_tooLong_41 : decode b_M_tooLong 41 = .ok (.iconst 0, 1) := by decide +kernel
theorem d_M_tooLong_42 : decode b_M_tooLong 42 = .ok (.istore_n 1, 1) := by decide +kernel
theorem d_M_tooLong_43 : decode b_M_tooLong 43 = .ok (.iload_n 1, 1) := by decide +kernel
theorem d_M_tooLong_44 : decode b_M_tooLong 44 = .ok (.bipush 51, 2) := by decide +kernel
theorem d_M_tooLong_46 : decode b_M_tooLong 46 = .ok (.if_icmp .ge 21, 3) := by decide +kernel
theorem d_M_tooLong_49 : decode b_M_tooLong 49 = .ok (.aload_n 0, 1) := by decide +kernel
theorem d_M_tooLong_50 : decode b_M_tooLong 50 = .ok (.getfield 63, 3) := by decide +kernel
theorem d_M_tooLong_53 : decode b_M_tooLong 53 = .ok (.iload_n 1, 1) := by decide +kernel
theorem d_M_tooLong_54 : decode b_M_tooLong 54 = .ok (.aload_n 0, 1) := by decide +kernel
theorem d_M_tooLong_55 : decode b_M_tooLong 55 = .ok (.getfield 78, 3) := by decide +kernel
theorem d_M_tooLong_58 : decode b_M_tooLong 58 = .ok (.iload_n 1, 1) := by decide +kernel
theorem d_M_tooLong_59 : decode b_M_tooLong 59 = .ok (.iaload, 1) := by decide +kernel
theorem d_M_tooLong_60 : decode b_M_tooLong 60 = .ok (.iastore, 1) := by decide +kernel
theorem d_M_tooLong_61 : decode b_M_tooLong 61 = .ok (.iinc 1 1, 3) := by decide +kernel
theorem d_M_tooLong_64 : decode b_M_tooLong 64 = .ok (.goto (-21), 3) := by decide +kernel
theorem d_M_tooLong_67 : decode b_M_tooLong 67 = .ok (.iconst 1, 1) := by decide +kernel
theorem d_M_tooLong_68 : decode b_M_tooLong 68 = .ok (.ireturn, 1) := by decide +kernel
theorem d_M_reset_0 : decode b_M_reset 0 = .ok (.aload_n 0, 1) := by decide +kernel
theorem d_M_reset_1 : decode b_M_reset 1 = .ok (.invokevirtual 282, 3) := by decide +kernel
theorem d_M_reset_4 : decode b_M_reset 4 = .ok (.aload_n 0, 1) := by decide +kernel
theorem d_M_reset_5 : decode b_M_reset 5 = .ok (.invokevirtual 149, 3) := by decide +kernel
theorem d_M_reset_8 : decode b_M_reset 8 = .ok (.aload_n 0, 1) := by decide +kernel
theorem d_M_reset_9 : decode b_M_reset 9 = .ok (.ldc2_w 271, 3) := by decide +kernel
theorem d_M_reset_12 : decode b_M_reset 12 = .ok (.iconst 1, 1) := by decide +kernel
theorem d_M_reset_13 : decode b_M_reset 13 = .ok (.invokevirtual 83, 3) := by decide +kernel
theorem d_M_reset_16 : decode b_M_reset 16 = .ok (.aload_n 0, 1) := by decide +kernel
theorem d_M_reset_17 : decode b_M_reset 17 = .ok (.invokevirtual 89, 3) := by decide +kernel
theorem d_M_reset_20 : decode b_M_reset 20 = .ok (.aload_n 0, 1) := by decide +kernel
theorem d_M_reset_21 : decode b_M_reset 21 = .ok (.invokevirtual 289, 3) := by decide +kernel
theorem d_M_reset_24 : decode b_M_reset 24 = .ok (.ifCond .eq 8, 3) := by decide +kernel
theorem d_M_reset_27 : decode b_M_reset 27 = .ok (.bipush (-2), 2) := by decide +kernel
theorem d_M_reset_29 : decode b_M_reset 29 = .ok (.goto 7, 3) := by decide +kernel
theorem d_M_reset_32 : decode b_M_reset 32 = .ok (.aload_n 0, 1) := by decide +kernel
theorem d_M_reset_33 : decode b_M_reset 33 = .ok (.getfield 96, 3) := by decide +kernel
theorem d_M_reset_36 : decode b_M_reset 36 = .ok (.ireturn, 1) := by decide +kernel
theorem d_M_byteAt_0 : decode b_M_byteAt 0 = .ok (.aload_n 0, 1) := by decide +kernel
theorem d_M_byteAt_1 : decode b_M_byteAt 1 = .ok (.iload_n 1, 1) := by decide +kernel
theorem d_M_byteAt_2 : decode b_M_byteAt 2 = .ok (.aload_n 0, 1) := by decide +kernel
theorem d_M_byteAt_3 : decode b_M_byteAt 3 = .ok (.getfield 96, 3) := by decide +kernel
theorem d_M_byteAt_6 : decode b_M_byteAt 6 = .ok (.invokevirtual 92, 3) := by decide +kernel
theorem d_M_byteAt_9 : decode b_M_byteAt 9 = .ok (.ifCond .eq 7, 3) := by decide +kernel
theorem d_M_byteAt_12 : decode b_M_byteAt 12 = .ok (.iconst (-1), 1) := by decide +kernel
theorem d_M_byteAt_13 : decode b_M_byteAt 13 = .ok (.goto 9, 3) := by decide +kernel
theorem d_M_byteAt_16 : decode b_M_byteAt 16 = .ok (.aload_n 0, 1) := by decide +kernel
theorem d_M_byteAt_17 : decode b_M_byteAt 17 = .ok (.getfield 57, 3) := by decide +kernel
theorem d_M_byteAt_20 : decode b_M_byteAt 20 = .ok (.iload_n 1, 1) := by decide +kernel
theorem d_M_byteAt_21 : decode b_M_byteAt 21 = .ok (.iaload, 1) := by decide +kernel
theorem d_M_byteAt_22 : decode b_M_byteAt 22 = .ok (.ireturn, 1) := by decide +kernel
theorem d_M_handle_0 : decode b_M_handle 0 = .ok (.aload_n 0, 1) := by decide +kernel
theorem d_M_handle_1 : decode b_M_handle 1 = .ok (.iload_n 1, 1) := by decide +kernel
theorem d_M_handle_2 : decode b_M_handle 2 = .ok (.aload_n 0, 1) := by decide +kernel
theorem d_M_handle_3 : decode b_M_handle 3 = .ok (.getfield 115, 3) := by decide +kernel
theorem d_M_handle_6 : decode b_M_handle 6 = .ok (.invokevirtual 92, 3) := by decide +kernel
theorem d_M_handle_9 : decode b_M_handle 9 = .ok (.ifCond .eq 7, 3) := by decide +kernel
theorem d_M_handle_12 : decode b_M_handle 12 = .ok (.iconst (-1), 1) := by decide +kernel
theorem d_M_handle_13 : decode b_M_handle 13 = .ok (.goto 9, 3) := by decide +kernel
theorem d_M_handle_16 : decode b_M_handle 16 = .ok (.aload_n 0, 1) := by decide +kernel
theorem d_M_handle_17 : decode b_M_handle 17 = .ok (.getfield 63, 3) := by decide +kernel
theorem d_M_handle_20 : decode b_M_handle 20 = .ok (.iload_n 1, 1) := by decide +kernel
theorem d_M_handle_21 : decode b_M_handle 21 = .ok (.iaload, 1) := by decide +kernel
theorem d_M_handle_22 : decode b_M_handle 22 = .ok (.ireturn, 1) := by decide +kernel
theorem d_M_count_0 : decode b_M_count 0 = .ok (.iconst 0, 1) := by decide +kernel
theorem d_M_count_1 : decode b_M_count 1 = .ok (.istore_n 2, 1) := by decide +kernel
theorem d_M_count_2 : decode b_M_count 2 = .ok (.iconst 0, 1) := by decide +kernel
theorem d_M_count_3 : decode b_M_count 3 = .ok (.istore_n 3, 1) := by decide +kernel
theorem d_M_count_4 : decode b_M_count 4 = .ok (.iload_n 3, 1) := by decide +kernel
theorem d_M_count_5 : decode b_M_count 5 = .ok (.bipush 6, 2) := by decide +kernel
theorem d_M_count_7 : decode b_M_count 7 = .ok (.if_icmp .ge 28, 3) := by decide +kernel
theorem d_M_count_10 : decode b_M_count 10 = .ok (.iload_n 2, 1) := by decide +kernel
theorem d_M_count_11 : decode b_M_count 11 = .ok (.aload_n 0, 1) := by decide +kernel
theorem d_M_count_12 : decode b_M_count 12 = .ok (.getfield 7, 3) := by decide +kernel
theorem d_M_count_15 : decode b_M_count 15 = .ok (.iload_n 3, 1) := by decide +kernel
theorem d_M_count_16 : decode b_M_count 16 = .ok (.baload, 1) := by decide +kernel
theorem d_M_count_17 : decode b_M_count 17 = .ok (.ifCond .eq 9, 3) := by decide +kernel
theorem d_M_count_20 : decode b_M_count 20 = .ok (.iconst 1, 1) := by decide +kernel
theorem d_M_count_21 : decode b_M_count 21 = .ok (.iload_n 3, 1) := by decide +kernel
theorem d_M_count_22 : decode b_M_count 22 = .ok (.ishl, 1) := by decide +kernel
theorem d_M_count_23 : decode b_M_count 23 = .ok (.goto 4, 3) := by decide +kernel
theorem d_M_count_26 : decode b_M_count 26 = .ok (.iconst 0, 1) := by decide +kernel
theorem d_M_count_27 : decode b_M_count 27 = .ok (.iadd, 1) := by decide +kernel
theorem d_M_count_28 : decode b_M_count 28 = .ok (.istore_n 2, 1) := by decide +kernel
theorem d_M_count_29 : decode b_M_count 29 = .ok (.iinc 3 1, 3) := by decide +kernel
theorem d_M_count_32 : decode b_M_count 32 = .ok (.goto (-28), 3) := by decide +kernel
theorem d_M_count_35 : decode b_M_count 35 = .ok (.iload_n 1, 1) := by decide +kernel
theorem d_M_count_36 : decode b_M_count 36 = .ok (.tableswitch 58 0 4 #[36, 41, 46, 51, 56], 36) := by decide +kernel
theorem d_M_count_72 : decode b_M_count 72 = .ok (.aload_n 0, 1) := by decide +kernel
theorem d_M_count_73 : decode b_M_count 73 = .ok (.getfield 96, 3) := by decide +kernel
theorem d_M_count_76 : decode b_M_count 76 = .ok (.ireturn, 1) := by decide +kernel
theorem d_M_count_77 : decode b_M_count 77 = .ok (.aload_n 0, 1) := by decide +kernel
theorem d_M_count_78 : decode b_M_count 78 = .ok (.getfield 106, 3) := by decide +kernel
theorem d_M_count_81 : decode b_M_count 81 = .ok (.ireturn, 1) := by decide +kernel
theorem d_M_count_82 : decode b_M_count 82 = .ok (.aload_n 0, 1) := by decide +kernel
theorem d_M_count_83 : decode b_M_count 83 = .ok (.getfield 100, 3) := by decide +kernel
theorem d_M_count_86 : decode b_M_count 86 = .ok (.ireturn, 1) := by decide +kernel
theorem d_M_count_87 : decode b_M_count 87 = .ok (.aload_n 0, 1) := by decide +kernel
theorem d_M_count_88 : decode b_M_count 88 = .ok (.getfield 115, 3) := by decide +kernel
theorem d_M_count_91 : decode b_M_count 91 = .ok (.ireturn, 1) := by decide +kernel
theorem d_M_count_92 : decode b_M_count 92 = .ok (.iload_n 2, 1) := by decide +kernel
theorem d_M_count_93 : decode b_M_count 93 = .ok (.ireturn, 1) := by decide +kernel
theorem d_M_count_94 : decode b_M_count 94 = .ok (.iconst (-1), 1) := by decide +kernel
theorem d_M_count_95 : decode b_M_count 95 = .ok (.ireturn, 1) := by decide +kernel
theorem d_M_object_0 : decode b_M_object 0 = .ok (.aload_n 0, 1) := by decide +kernel
theorem d_M_object_1 : decode b_M_object 1 = .ok (.iload_n 1, 1) := by decide +kernel
theorem d_M_object_2 : decode b_M_object 2 = .ok (.aload_n 0, 1) := by decide +kernel
theorem d_M_object_3 : decode b_M_object 3 = .ok (.getfield 115, 3) := by decide +kernel
theorem d_M_object_6 : decode b_M_object 6 = .ok (.invokevirtual 92, 3) := by decide +kernel
theorem d_M_object_9 : decode b_M_object 9 = .ok (.ifCond .ne 12, 3) := by decide +kernel
theorem d_M_object_12 : decode b_M_object 12 = .ok (.aload_n 0, 1) := by decide +kernel
theorem d_M_object_13 : decode b_M_object 13 = .ok (.iload_n 2, 1) := by decide +kernel
theorem d_M_object_14 : decode b_M_object 14 = .ok (.iconst 3, 1) := by decide +kernel
theorem d_M_object_15 : decode b_M_object 15 = .ok (.invokevirtual 92, 3) := by decide +kernel
theorem d_M_object_18 : decode b_M_object 18 = .ok (.ifCond .eq 5, 3) := by decide +kernel
theorem d_M_object_21 : decode b_M_object 21 = .ok (.iconst (-1), 1) := by decide +kernel
theorem d_M_object_22 : decode b_M_object 22 = .ok (.ireturn, 1) := by decide +kernel
theorem d_M_object_23 : decode b_M_object 23 = .ok (.iload_n 2, 1) := by decide +kernel
theorem d_M_object_24 : decode b_M_object 24 = .ok (.ifCond .ne 10, 3) := by decide +kernel
theorem d_M_object_27 : decode b_M_object 27 = .ok (.aload_n 0, 1) := by decide +kernel
theorem d_M_object_28 : decode b_M_object 28 = .ok (.getfield 36, 3) := by decide +kernel
theorem d_M_object_31 : decode b_M_object 31 = .ok (.iload_n 1, 1) := by decide +kernel
theorem d_M_object_32 : decode b_M_object 32 = .ok (.iaload, 1) := by decide +kernel
theorem d_M_object_33 : decode b_M_object 33 = .ok (.ireturn, 1) := by decide +kernel
theorem d_M_object_34 : decode b_M_object 34 = .ok (.iload_n 2, 1) := by decide +kernel
theorem d_M_object_35 : decode b_M_object 35 = .ok (.iconst 2, 1) := by decide +kernel
theorem d_M_object_36 : decode b_M_object 36 = .ok (.if_icmp .ne 10, 3) := by decide +kernel
theorem d_M_object_39 : decode b_M_object 39 = .ok (.aload_n 0, 1) := by decide +kernel
theorem d_M_object_40 : decode b_M_object 40 = .ok (.getfield 45, 3) := by decide +kernel
theorem d_M_object_43 : decode b_M_object 43 = .ok (.iload_n 1, 1) := by decide +kernel
theorem d_M_object_44 : decode b_M_object 44 = .ok (.iaload, 1) := by decide +kernel
theorem d_M_object_45 : decode b_M_object 45 = .ok (.ireturn, 1) := by decide +kernel
theorem d_M_object_46 : decode b_M_object 46 = .ok (.aload_n 0, 1) := by decide +kernel
theorem d_M_object_47 : decode b_M_object 47 = .ok (.getfield 36, 3) := by decide +kernel
theorem d_M_object_50 : decode b_M_object 50 = .ok (.iload_n 1, 1) := by decide +kernel
theorem d_M_object_51 : decode b_M_object 51 = .ok (.iaload, 1) := by decide +kernel
theorem d_M_object_52 : decode b_M_object 52 = .ok (.ifCond .eq 13, 3) := by decide +kernel
theorem d_M_object_55 : decode b_M_object 55 = .ok (.aload_n 0, 1) := by decide +kernel
theorem d_M_object_56 : decode b_M_object 56 = .ok (.getfield 36, 3) := by decide +kernel
theorem d_M_object_59 : decode b_M_object 59 = .ok (.iload_n 1, 1) := by decide +kernel
theorem d_M_object_60 : decode b_M_object 60 = .ok (.iaload, 1) := by decide +kernel
theorem d_M_object_61 : decode b_M_object 61 = .ok (.iconst 4, 1) := by decide +kernel
theorem d_M_object_62 : decode b_M_object 62 = .ok (.if_icmp .ne 12, 3) := by decide +kernel
theorem d_M_object_65 : decode b_M_object 65 = .ok (.aload_n 0, 1) := by decide +kernel
theorem d_M_object_66 : decode b_M_object 66 = .ok (.getfield 39, 3) := by decide +kernel
theorem d_M_object_69 : decode b_M_object 69 = .ok (.iload_n 1, 1) := by decide +kernel
theorem d_M_object_70 : decode b_M_object 70 = .ok (.iaload, 1) := by decide +kernel
theorem d_M_object_71 : decode b_M_object 71 = .ok (.goto 4, 3) := by decide +kernel
theorem d_M_object_74 : decode b_M_object 74 = .ok (.iconst (-1), 1) := by decide +kernel
theorem d_M_object_75 : decode b_M_object 75 = .ok (.ireturn, 1) := by decide +kernel
theorem d_L_law_0 : decode code 0 = .ok (.new 7, 3) := by decide +kernel
theorem d_L_law_3 : decode code 3 = .ok (.dup, 1) := by decide +kernel
theorem d_L_law_4 : decode code 4 = .ok (.invokespecial 9, 3) := by decide +kernel
theorem d_L_law_7 : decode code 7 = .ok (.astore_n 1, 1) := by decide +kernel
theorem d_L_law_8 : decode code 8 = .ok (.new 10, 3) := by decide +kernel
theorem d_L_law_11 : decode code 11 = .ok (.dup, 1) := by decide +kernel
theorem d_L_law_12 : decode code 12 = .ok (.invokespecial 12, 3) := by decide +kernel
theorem d_L_law_15 : decode code 15 = .ok (.astore_n 2, 1) := by decide +kernel
theorem d_L_law_16 : decode code 16 = .ok (.iconst 0, 1) := by decide +kernel
theorem d_L_law_17 : decode code 17 = .ok (.istore_n 3, 1) := by decide +kernel
theorem d_L_law_18 : decode code 18 = .ok (.iload_n 3, 1) := by decide +kernel
theorem d_L_law_19 : decode code 19 = .ok (.aload_n 0, 1) := by decide +kernel
theorem d_L_law_20 : decode code 20 = .ok (.arraylength, 1) := by decide +kernel
theorem d_L_law_21 : decode code 21 = .ok (.bipush 6, 2) := by decide +kernel
theorem d_L_law_23 : decode code 23 = .ok (.isub, 1) := by decide +kernel
theorem d_L_law_24 : decode code 24 = .ok (.if_icmp .gt 770, 3) := by decide +kernel
theorem d_L_law_27 : decode code 27 = .ok (.aload_n 0, 1) := by decide +kernel
theorem d_L_law_28 : decode code 28 = .ok (.iload_n 3, 1) := by decide +kernel
theorem d_L_law_29 : decode code 29 = .ok (.iaload, 1) := by decide +kernel
theorem d_L_law_30 : decode code 30 = .ok (.bipush 15, 2) := by decide +kernel
theorem d_L_law_32 : decode code 32 = .ok (.iand, 1) := by decide +kernel
theorem d_L_law_33 : decode code 33 = .ok (.tableswitch 755 0 15 #[79, 162, 231, 254, 307, 356, 389, 462, 495, 528, 591, 640, 653, 676, 699, 722], 79) := by decide +kernel
theorem d_L_law_112 : decode code 112 = .ok (.aload_n 1, 1) := by decide +kernel
theorem d_L_law_113 : decode code 113 = .ok (.aload_n 0, 1) := by decide +kernel
theorem d_L_law_114 : decode code 114 = .ok (.iload_n 3, 1) := by decide +kernel
theorem d_L_law_115 : decode code 115 = .ok (.iconst 1, 1) := by decide +kernel
theorem d_L_law_116 : decode code 116 = .ok (.iadd, 1) := by decide +kernel
theorem d_L_law_117 : decode code 117 = .ok (.iaload, 1) := by decide +kernel
theorem d_L_law_118 : decode code 118 = .ok (.aload_n 0, 1) := by decide +kernel
theorem d_L_law_119 : decode code 119 = .ok (.iload_n 3, 1) := by decide +kernel
theorem d_L_law_120 : decode code 120 = .ok (.iconst 2, 1) := by decide +kernel
theorem d_L_law_121 : decode code 121 = .ok (.iadd, 1) := by decide +kernel
theorem d_L_law_122 : decode code 122 = .ok (.iaload, 1) := by decide +kernel
theorem d_L_law_123 : decode code 123 = .ok (.aload_n 0, 1) := by decide +kernel
theorem d_L_law_124 : decode code 124 = .ok (.iload_n 3, 1) := by decide +kernel
theorem d_L_law_125 : decode code 125 = .ok (.iconst 3, 1) := by decide +kernel
theorem d_L_law_126 : decode code 126 = .ok (.iadd, 1) := by decide +kernel
theorem d_L_law_127 : decode code 127 = .ok (.iaload, 1) := by decide +kernel
theorem d_L_law_128 : decode code 128 = .ok (.aload_n 0, 1) := by decide +kernel
theorem d_L_law_129 : decode code 129 = .ok (.iload_n 3, 1) := by decide +kernel
theorem d_L_law_130 : decode code 130 = .ok (.iconst 4, 1) := by decide +kernel
theorem d_L_law_131 : decode code 131 = .ok (.iadd, 1) := by decide +kernel
theorem d_L_law_132 : decode code 132 = .ok (.iaload, 1) := by decide +kernel
theorem d_L_law_133 : decode code 133 = .ok (.i2l, 1) := by decide +kernel
theorem d_L_law_134 : decode code 134 = .ok (.bipush 32, 2) := by decide +kernel
theorem d_L_law_136 : decode code 136 = .ok (.lshl, 1) := by decide +kernel
theorem d_L_law_137 : decode code 137 = .ok (.aload_n 0, 1) := by decide +kernel
theorem d_L_law_138 : decode code 138 = .ok (.iload_n 3, 1) := by decide +kernel
theorem d_L_law_139 : decode code 139 = .ok (.iconst 5, 1) := by decide +kernel
theorem d_L_law_140 : decode code 140 = .ok (.iadd, 1) := by decide +kernel
theorem d_L_law_141 : decode code 141 = .ok (.iaload, 1) := by decide +kernel
theorem d_L_law_142 : decode code 142 = .ok (.i2l, 1) := by decide +kernel
theorem d_L_law_143 : decode code 143 = .ok (.ldc2_w 13, 3) := by decide +kernel
theorem d_L_law_146 : decode code 146 = .ok (.land, 1) := by decide +kernel
theorem d_L_law_147 : decode code 147 = .ok (.lor, 1) := by decide +kernel
theorem d_L_law_148 : decode code 148 = .ok (.invokevirtual 15, 3) := by decide +kernel
theorem d_L_law_151 : decode code 151 = .ok (.aload_n 2, 1) := by decide +kernel
theorem d_L_law_152 : decode code 152 = .ok (.aload_n 0, 1) := by decide +kernel
theorem d_L_law_153 : decode code 153 = .ok (.iload_n 3, 1) := by decide +kernel
theorem d_L_law_154 : decode code 154 = .ok (.iconst 1, 1) := by decide +kernel
theorem d_L_law_155 : decode code 155 = .ok (.iadd, 1) := by decide +kernel
theorem d_L_law_156 : decode code 156 = .ok (.iaload, 1) := by decide +kernel
theorem d_L_law_157 : decode code 157 = .ok (.aload_n 0, 1) := by decide +kernel
theorem d_L_law_158 : decode code 158 = .ok (.iload_n 3, 1) := by decide +kernel
theorem d_L_law_159 : decode code 159 = .ok (.iconst 2, 1) := by decide +kernel
theorem d_L_law_160 : decode code 160 = .ok (.iadd, 1) := by decide +kernel
theorem d_L_law_161 : decode code 161 = .ok (.iaload, 1) := by decide +kernel
theorem d_L_law_162 : decode code 162 = .ok (.aload_n 0, 1) := by decide +kernel
theorem d_L_law_163 : decode code 163 = .ok (.iload_n 3, 1) := by decide +kernel
theorem d_L_law_164 : decode code 164 = .ok (.iconst 3, 1) := by decide +kernel
theorem d_L_law_165 : decode code 165 = .ok (.iadd, 1) := by decide +kernel
theorem d_L_law_166 : decode code 166 = .ok (.iaload, 1) := by decide +kernel
theorem d_L_law_167 : decode code 167 = .ok (.aload_n 0, 1) := by decide +kernel
theorem d_L_law_168 : decode code 168 = .ok (.iload_n 3, 1) := by decide +kernel
theorem d_L_law_169 : decode code 169 = .ok (.iconst 4, 1) := by decide +kernel
theorem d_L_law_170 : decode code 170 = .ok (.iadd, 1) := by decide +kernel
theorem d_L_law_171 : decode code 171 = .ok (.iaload, 1) := by decide +kernel
theorem d_L_law_172 : decode code 172 = .ok (.i2l, 1) := by decide +kernel
theorem d_L_law_173 : decode code 173 = .ok (.bipush 32, 2) := by decide +kernel
theorem d_L_law_175 : decode code 175 = .ok (.lshl, 1) := by decide +kernel
theorem d_L_law_176 : decode code 176 = .ok (.aload_n 0, 1) := by decide +kernel
theorem d_L_law_177 : decode code 177 = .ok (.iload_n 3, 1) := by decide +kernel
theorem d_L_law_178 : decode code 178 = .ok (.iconst 5, 1) := by decide +kernel
theorem d_L_law_179 : decode code 179 = .ok (.iadd, 1) := by decide +kernel
theorem d_L_law_180 : decode code 180 = .ok (.iaload, 1) := by decide +kernel
theorem d_L_law_181 : decode code 181 = .ok (.i2l, 1) := by decide +kernel
theorem d_L_law_182 : decode code 182 = .ok (.ldc2_w 13, 3) := by decide +kernel
theorem d_L_law_185 : decode code 185 = .ok (.land, 1) := by decide +kernel
theorem d_L_law_186 : decode code 186 = .ok (.lor, 1) := by decide +kernel
theorem d_L_law_187 : decode code 187 = .ok (.invokevirtual 19, 3) := by decide +kernel
theorem d_L_law_190 : decode code 190 = .ok (.if_icmp .eq 598, 3) := by decide +kernel
theorem d_L_law_193 : decode code 193 = .ok (.iconst 0, 1) := by decide +kernel
theorem d_L_law_194 : decode code 194 = .ok (.ireturn, 1) := by decide +kernel
theorem d_L_law_195 : decode code 195 = .ok (.aload_n 1, 1) := by decide +kernel
theorem d_L_law_196 : decode code 196 = .ok (.aload_n 0, 1) := by decide +kernel
theorem d_L_law_197 : decode code 197 = .ok (.iload_n 3, 1) := by decide +kernel
theorem d_L_law_198 : decode code 198 = .ok (.iconst 1, 1) := by decide +kernel
theorem d_L_law_199 : decode code 199 = .ok (.iadd, 1) := by decide +kernel
theorem d_L_law_200 : decode code 200 = .ok (.iaload, 1) := by decide +kernel
theorem d_L_law_201 : decode code 201 = .ok (.aload_n 0, 1) := by decide +kernel
theorem d_L_law_202 : decode code 202 = .ok (.iload_n 3, 1) := by decide +kernel
theorem d_L_law_203 : decode code 203 = .ok (.iconst 2, 1) := by decide +kernel
theorem d_L_law_204 : decode code 204 = .ok (.iadd, 1) := by decide +kernel
theorem d_L_law_205 : decode code 205 = .ok (.iaload, 1) := by decide +kernel
theorem d_L_law_206 : decode code 206 = .ok (.aload_n 0, 1) := by decide +kernel
theorem d_L_law_207 : decode code 207 = .ok (.iload_n 3, 1) := by decide +kernel
theorem d_L_law_208 : decode code 208 = .ok (.iconst 3, 1) := by decide +kernel
theorem d_L_law_209 : decode code 209 = .ok (.iadd, 1) := by decide +kernel
theorem d_L_law_210 : decode code 210 = .ok (.iaload, 1) := by decide +kernel
theorem d_L_law_211 : decode code 211 = .ok (.aload_n 0, 1) := by decide +kernel
theorem d_L_law_212 : decode code 212 = .ok (.iload_n 3, 1) := by decide +kernel
theorem d_L_law_213 : decode code 213 = .ok (.iconst 4, 1) := by decide +kernel
theorem d_L_law_214 : decode code 214 = .ok (.iadd, 1) := by decide +kernel
theorem d_L_law_215 : decode code 215 = .ok (.iaload, 1) := by decide +kernel
theorem d_L_law_216 : decode code 216 = .ok (.ifCond .eq 7, 3) := by decide +kernel
theorem d_L_law_219 : decode code 219 = .ok (.iconst 1, 1) := by decide +kernel
theorem d_L_law_220 : decode code 220 = .ok (.goto 4, 3) := by decide +kernel
theorem d_L_law_223 : decode code 223 = .ok (.iconst 0, 1) := by decide +kernel
theorem d_L_law_224 : decode code 224 = .ok (.invokevirtual 20, 3) := by decide +kernel
theorem d_L_law_227 : decode code 227 = .ok (.aload_n 2, 1) := by decide +kernel
theorem d_L_law_228 : decode code 228 = .ok (.aload_n 0, 1) := by decide +kernel
theorem d_L_law_229 : decode code 229 = .ok (.iload_n 3, 1) := by decide +kernel
theorem d_L_law_230 : decode code 230 = .ok (.iconst 1, 1) := by decide +kernel
theorem d_L_law_231 : decode code 231 = .ok (.iadd, 1) := by decide +kernel
theorem d_L_law_232 : decode code 232 = .ok (.iaload, 1) := by decide +kernel
theorem d_L_law_233 : decode code 233 = .ok (.aload_n 0, 1) := by decide +kernel
theorem d_L_law_234 : decode code 234 = .ok (.iload_n 3, 1) := by decide +kernel
theorem d_L_law_235 : decode code 235 = .ok (.iconst 2, 1) := by decide +kernel
theorem d_L_law_236 : decode code 236 = .ok (.iadd, 1) := by decide +kernel
theorem d_L_law_237 : decode code 237 = .ok (.iaload, 1) := by decide +kernel
theorem d_L_law_238 : decode code 238 = .ok (.aload_n 0, 1) := by decide +kernel
theorem d_L_law_239 : decode code 239 = .ok (.iload_n 3, 1) := by decide +kernel
theorem d_L_law_240 : decode code 240 = .ok (.iconst 3, 1) := by decide +kernel
theorem d_L_law_241 : decode code 241 = .ok (.iadd, 1) := by decide +kernel
theorem d_L_law_242 : decode code 242 = .ok (.iaload, 1) := by decide +kernel
theorem d_L_law_243 : decode code 243 = .ok (.aload_n 0, 1) := by decide +kernel
theorem d_L_law_244 : decode code 244 = .ok (.iload_n 3, 1) := by decide +kernel
theorem d_L_law_245 : decode code 245 = .ok (.iconst 4, 1) := by decide +kernel
theorem d_L_law_246 : decode code 246 = .ok (.iadd, 1) := by decide +kernel
theorem d_L_law_247 : decode code 247 = .ok (.iaload, 1) := by decide +kernel
theorem d_L_law_248 : decode code 248 = .ok (.ifCond .eq 7, 3) := by decide +kernel
theorem d_L_law_251 : decode code 251 = .ok (.iconst 1, 1) := by decide +kernel
theorem d_L_law_252 : decode code 252 = .ok (.goto 4, 3) := by decide +kernel
theorem d_L_law_255 : decode code 255 = .ok (.iconst 0, 1) := by decide +kernel
theorem d_L_law_256 : decode code 256 = .ok (.invokevirtual 24, 3) := by decide +kernel
theorem d_L_law_259 : decode code 259 = .ok (.if_icmp .eq 529, 3) := by decide +kernel
theorem d_L_law_262 : decode code 262 = .ok (.iconst 0, 1) := by decide +kernel
theorem d_L_law_263 : decode code 263 = .ok (.ireturn, 1) := by decide +kernel
theorem d_L_law_264 : decode code 264 = .ok (.aload_n 1, 1) := by decide +kernel
theorem d_L_law_265 : decode code 265 = .ok (.aload_n 0, 1) := by decide +kernel
theorem d_L_law_266 : decode code 266 = .ok (.iload_n 3, 1) := by decide +kernel
theorem d_L_law_267 : decode code 267 = .ok (.iconst 1, 1) := by decide +kernel
theorem d_L_law_268 : decode code 268 = .ok (.iadd, 1) := by decide +kernel
theorem d_L_law_269 : decode code 269 = .ok (.iaload, 1) := by decide +kernel
theorem d_L_law_270 : decode code 270 = .ok (.invokevirtual 25, 3) := by decide +kernel
theorem d_L_law_273 : decode code 273 = .ok (.aload_n 2, 1) := by decide +kernel
theorem d_L_law_274 : decode code 274 = .ok (.aload_n 0, 1) := by decide +kernel
theorem d_L_law_275 : decode code 275 = .ok (.iload_n 3, 1) := by decide +kernel
theorem d_L_law_276 : decode code 276 = .ok (.iconst 1, 1) := by decide +kernel
theorem d_L_law_277 : decode code 277 = .ok (.iadd, 1) := by decide +kernel
theorem d_L_law_278 : decode code 278 = .ok (.iaload, 1) := by decide +kernel
theorem d_L_law_279 : decode code 279 = .ok (.invokevirtual 29, 3) := by decide +kernel
theorem d_L_law_282 : decode code 282 = .ok (.if_icmp .eq 506, 3) := by decide +kernel
theorem d_L_law_285 : decode code 285 = .ok (.iconst 0, 1) := by decide +kernel
theorem d_L_law_286 : decode code 286 = .ok (.ireturn, 1) := by decide +kernel
theorem d_L_law_287 : decode code 287 = .ok (.aload_n 1, 1) := by decide +kernel
theorem d_L_law_288 : decode code 288 = .ok (.aload_n 0, 1) := by decide +kernel
theorem d_L_law_289 : decode code 289 = .ok (.iload_n 3, 1) := by decide +kernel
theorem d_L_law_290 : decode code 290 = .ok (.iconst 1, 1) := by decide +kernel
theorem d_L_law_291 : decode code 291 = .ok (.iadd, 1) := by decide +kernel
theorem d_L_law_292 : decode code 292 = .ok (.iaload, 1) := by decide +kernel
theorem d_L_law_293 : decode code 293 = .ok (.i2l, 1) := by decide +kernel
theorem d_L_law_294 : decode code 294 = .ok (.bipush 32, 2) := by decide +kernel
theorem d_L_law_296 : decode code 296 = .ok (.lshl, 1) := by decide +kernel
theorem d_L_law_297 : decode code 297 = .ok (.aload_n 0, 1) := by decide +kernel
theorem d_L_law_298 : decode code 298 = .ok (.iload_n 3, 1) := by decide +kernel
theorem d_L_law_299 : decode code 299 = .ok (.iconst 2, 1) := by decide +kernel
theorem d_L_law_300 : decode code 300 = .ok (.iadd, 1) := by decide +kernel
theorem d_L_law_301 : decode code 301 = .ok (.iaload, 1) := by decide +kernel
theorem d_L_law_302 : decode code 302 = .ok (.i2l, 1) := by decide +kernel
theorem d_L_law_303 : decode code 303 = .ok (.ldc2_w 13, 3) := by decide +kernel
theorem d_L_law_306 : decode code 306 = .ok (.land, 1) := by decide +kernel
theorem d_L_law_307 : decode code 307 = .ok (.lor, 1) := by decide +kernel
theorem d_L_law_308 : decode code 308 = .ok (.invokevirtual 30, 3) := by decide +kernel
theorem d_L_law_311 : decode code 311 = .ok (.aload_n 2, 1) := by decide +kernel
theorem d_L_law_312 : decode code 312 = .ok (.aload_n 0, 1) := by decide +kernel
theorem d_L_law_313 : decode code 313 = .ok (.iload_n 3, 1) := by decide +kernel
theorem d_L_law_314 : decode code 314 = .ok (.iconst 1, 1) := by decide +kernel
theorem d_L_law_315 : decode code 315 = .ok (.iadd, 1) := by decide +kernel
theorem d_L_law_316 : decode code 316 = .ok (.iaload, 1) := by decide +kernel
theorem d_L_law_317 : decode code 317 = .ok (.i2l, 1) := by decide +kernel
theorem d_L_law_318 : decode code 318 = .ok (.bipush 32, 2) := by decide +kernel
theorem d_L_law_320 : decode code 320 = .ok (.lshl, 1) := by decide +kernel
theorem d_L_law_321 : decode code 321 = .ok (.aload_n 0, 1) := by decide +kernel
theorem d_L_law_322 : decode code 322 = .ok (.iload_n 3, 1) := by decide +kernel
theorem d_L_law_323 : decode code 323 = .ok (.iconst 2, 1) := by decide +kernel
theorem d_L_law_324 : decode code 324 = .ok (.iadd, 1) := by decide +kernel
theorem d_L_law_325 : decode code 325 = .ok (.iaload, 1) := by decide +kernel
theorem d_L_law_326 : decode code 326 = .ok (.i2l, 1) := by decide +kernel
theorem d_L_law_327 : decode code 327 = .ok (.ldc2_w 13, 3) := by decide +kernel
theorem d_L_law_330 : decode code 330 = .ok (.land, 1) := by decide +kernel
theorem d_L_law_331 : decode code 331 = .ok (.lor, 1) := by decide +kernel
theorem d_L_law_332 : decode code 332 = .ok (.invokevirtual 34, 3) := by decide +kernel
theorem d_L_law_335 : decode code 335 = .ok (.if_icmp .eq 453, 3) := by decide +kernel
theorem d_L_law_338 : decode code 338 = .ok (.iconst 0, 1) := by decide +kernel
theorem d_L_law_339 : decode code 339 = .ok (.ireturn, 1) := by decide +kernel
theorem d_L_law_340 : decode code 340 = .ok (.aload_n 1, 1) := by decide +kernel
theorem d_L_law_341 : decode code 341 = .ok (.aload_n 0, 1) := by decide +kernel
theorem d_L_law_342 : decode code 342 = .ok (.iload_n 3, 1) := by decide +kernel
theorem d_L_law_343 : decode code 343 = .ok (.iconst 1, 1) := by decide +kernel
theorem d_L_law_344 : decode code 344 = .ok (.iadd, 1) := by decide +kernel
theorem d_L_law_345 : decode code 345 = .ok (.iaload, 1) := by decide +kernel
theorem d_L_law_346 : decode code 346 = .ok (.ifCond .eq 7, 3) := by decide +kernel
theorem d_L_law_349 : decode code 349 = .ok (.iconst 1, 1) := by decide +kernel
theorem d_L_law_350 : decode code 350 = .ok (.goto 4, 3) := by decide +kernel
theorem d_L_law_353 : decode code 353 = .ok (.iconst 0, 1) := by decide +kernel
theorem d_L_law_354 : decode code 354 = .ok (.aload_n 0, 1) := by decide +kernel
theorem d_L_law_355 : decode code 355 = .ok (.iload_n 3, 1) := by decide +kernel
theorem d_L_law_356 : decode code 356 = .ok (.iconst 2, 1) := by decide +kernel
theorem d_L_law_357 : decode code 357 = .ok (.iadd, 1) := by decide +kernel
theorem d_L_law_358 : decode code 358 = .ok (.iaload, 1) := by decide +kernel
theorem d_L_law_359 : decode code 359 = .ok (.invokevirtual 35, 3) := by decide +kernel
theorem d_L_law_362 : decode code 362 = .ok (.aload_n 2, 1) := by decide +kernel
theorem d_L_law_363 : decode code 363 = .ok (.aload_n 0, 1) := by decide +kernel
theorem d_L_law_364 : decode code 364 = .ok (.iload_n 3, 1) := by decide +kernel
theorem d_L_law_365 : decode code 365 = .ok (.iconst 1, 1) := by decide +kernel
theorem d_L_law_366 : decode code 366 = .ok (.iadd, 1) := by decide +kernel
theorem d_L_law_367 : decode code 367 = .ok (.iaload, 1) := by decide +kernel
theorem d_L_law_368 : decode code 368 = .ok (.ifCond .eq 7, 3) := by decide +kernel
theorem d_L_law_371 : decode code 371 = .ok (.iconst 1, 1) := by decide +kernel
theorem d_L_law_372 : decode code 372 = .ok (.goto 4, 3) := by decide +kernel
theorem d_L_law_375 : decode code 375 = .ok (.iconst 0, 1) := by decide +kernel
theorem d_L_law_376 : decode code 376 = .ok (.aload_n 0, 1) := by decide +kernel
theorem d_L_law_377 : decode code 377 = .ok (.iload_n 3, 1) := by decide +kernel
theorem d_L_law_378 : decode code 378 = .ok (.iconst 2, 1) := by decide +kernel
theorem d_L_law_379 : decode code 379 = .ok (.iadd, 1) := by decide +kernel
theorem d_L_law_380 : decode code 380 = .ok (.iaload, 1) := by decide +kernel
theorem d_L_law_381 : decode code 381 = .ok (.invokevirtual 39, 3) := by decide +kernel
theorem d_L_law_384 : decode code 384 = .ok (.if_icmp .eq 404, 3) := by decide +kernel
theorem d_L_law_387 : decode code 387 = .ok (.iconst 0, 1) := by decide +kernel
theorem d_L_law_388 : decode code 388 = .ok (.ireturn, 1) := by decide +kernel
theorem d_L_law_389 : decode code 389 = .ok (.aload_n 1, 1) := by decide +kernel
theorem d_L_law_390 : decode code 390 = .ok (.aload_n 0, 1) := by decide +kernel
theorem d_L_law_391 : decode code 391 = .ok (.iload_n 3, 1) := by decide +kernel
theorem d_L_law_392 : decode code 392 = .ok (.iconst 1, 1) := by decide +kernel
theorem d_L_law_393 : decode code 393 = .ok (.iadd, 1) := by decide +kernel
theorem d_L_law_394 : decode code 394 = .ok (.iaload, 1) := by decide +kernel
theorem d_L_law_395 : decode code 395 = .ok (.aload_n 0, 1) := by decide +kernel
theorem d_L_law_396 : decode code 396 = .ok (.iload_n 3, 1) := by decide +kernel
theorem d_L_law_397 : decode code 397 = .ok (.iconst 2, 1) := by decide +kernel
theorem d_L_law_398 : decode code 398 = .ok (.iadd, 1) := by decide +kernel
theorem d_L_law_399 : decode code 399 = .ok (.iaload, 1) := by decide +kernel
theorem d_L_law_400 : decode code 400 = .ok (.invokevirtual 40, 3) := by decide +kernel
theorem d_L_law_403 : decode code 403 = .ok (.aload_n 2, 1) := by decide +kernel
theorem d_L_law_404 : decode code 404 = .ok (.aload_n 0, 1) := by decide +kernel
theorem d_L_law_405 : decode code 405 = .ok (.iload_n 3, 1) := by decide +kernel
theorem d_L_law_406 : decode code 406 = .ok (.iconst 1, 1) := by decide +kernel
theorem d_L_law_407 : decode code 407 = .ok (.iadd, 1) := by decide +kernel
theorem d_L_law_408 : decode code 408 = .ok (.iaload, 1) := by decide +kernel
theorem d_L_law_409 : decode code 409 = .ok (.aload_n 0, 1) := by decide +kernel
theorem d_L_law_410 : decode code 410 = .ok (.iload_n 3, 1) := by decide +kernel
theorem d_L_law_411 : decode code 411 = .ok (.iconst 2, 1) := by decide +kernel
theorem d_L_law_412 : decode code 412 = .ok (.iadd, 1) := by decide +kernel
theorem d_L_law_413 : decode code 413 = .ok (.iaload, 1) := by decide +kernel
theorem d_L_law_414 : decode code 414 = .ok (.invokevirtual 44, 3) := by decide +kernel
theorem d_L_law_417 : decode code 417 = .ok (.if_icmp .eq 371, 3) := by decide +kernel
theorem d_L_law_420 : decode code 420 = .ok (.iconst 0, 1) := by decide +kernel
theorem d_L_law_421 : decode code 421 = .ok (.ireturn, 1) := by decide +kernel
theorem d_L_law_422 : decode code 422 = .ok (.aload_n 1, 1) := by decide +kernel
theorem d_L_law_423 : decode code 423 = .ok (.aload_n 0, 1) := by decide +kernel
theorem d_L_law_424 : decode code 424 = .ok (.iload_n 3, 1) := by decide +kernel
theorem d_L_law_425 : decode code 425 = .ok (.iconst 1, 1) := by decide +kernel
theorem d_L_law_426 : decode code 426 = .ok (.iadd, 1) := by decide +kernel
theorem d_L_law_427 : decode code 427 = .ok (.iaload, 1) := by decide +kernel
theorem d_L_law_428 : decode code 428 = .ok (.aload_n 0, 1) := by decide +kernel
theorem d_L_law_429 : decode code 429 = .ok (.iload_n 3, 1) := by decide +kernel
theorem d_L_law_430 : decode code 430 = .ok (.iconst 2, 1) := by decide +kernel
theorem d_L_law_431 : decode code 431 = .ok (.iadd, 1) := by decide +kernel
theorem d_L_law_432 : decode code 432 = .ok (.iaload, 1) := by decide +kernel
theorem d_L_law_433 : decode code 433 = .ok (.aload_n 0, 1) := by decide +kernel
theorem d_L_law_434 : decode code 434 = .ok (.iload_n 3, 1) := by decide +kernel
theorem d_L_law_435 : decode code 435 = .ok (.iconst 3, 1) := by decide +kernel
theorem d_L_law_436 : decode code 436 = .ok (.iadd, 1) := by decide +kernel
theorem d_L_law_437 : decode code 437 = .ok (.iaload, 1) := by decide +kernel
theorem d_L_law_438 : decode code 438 = .ok (.i2l, 1) := by decide +kernel
theorem d_L_law_439 : decode code 439 = .ok (.bipush 32, 2) := by decide +kernel
theorem d_L_law_441 : decode code 441 = .ok (.lshl, 1) := by decide +kernel
theorem d_L_law_442 : decode code 442 = .ok (.aload_n 0, 1) := by decide +kernel
theorem d_L_law_443 : decode code 443 = .ok (.iload_n 3, 1) := by decide +kernel
theorem d_L_law_444 : decode code 444 = .ok (.iconst 4, 1) := by decide +kernel
theorem d_L_law_445 : decode code 445 = .ok (.iadd, 1) := by decide +kernel
theorem d_L_law_446 : decode code 446 = .ok (.iaload, 1) := by decide +kernel
theorem d_L_law_447 : decode code 447 = .ok (.i2l, 1) := by decide +kernel
theorem d_L_law_448 : decode code 448 = .ok (.ldc2_w 13, 3) := by decide +kernel
theorem d_L_law_451 : decode code 451 = .ok (.land, 1) := by decide +kernel
theorem d_L_law_452 : decode code 452 = .ok (.lor, 1) := by decide +kernel
theorem d_L_law_453 : decode code 453 = .ok (.invokevirtual 45, 3) := by decide +kernel
theorem d_L_law_456 : decode code 456 = .ok (.aload_n 2, 1) := by decide +kernel
theorem d_L_law_457 : decode code 457 = .ok (.aload_n 0, 1) := by decide +kernel
theorem d_L_law_458 : decode code 458 = .ok (.iload_n 3, 1) := by decide +kernel
theorem d_L_law_459 : decode code 459 = .ok (.iconst 1, 1) := by decide +kernel
theorem d_L_law_460 : decode code 460 = .ok (.iadd, 1) := by decide +kernel
theorem d_L_law_461 : decode code 461 = .ok (.iaload, 1) := by decide +kernel
theorem d_L_law_462 : decode code 462 = .ok (.aload_n 0, 1) := by decide +kernel
theorem d_L_law_463 : decode code 463 = .ok (.iload_n 3, 1) := by decide +kernel
theorem d_L_law_464 : decode code 464 = .ok (.iconst 2, 1) := by decide +kernel
theorem d_L_law_465 : decode code 465 = .ok (.iadd, 1) := by decide +kernel
theorem d_L_law_466 : decode code 466 = .ok (.iaload, 1) := by decide +kernel
theorem d_L_law_467 : decode code 467 = .ok (.aload_n 0, 1) := by decide +kernel
theorem d_L_law_468 : decode code 468 = .ok (.iload_n 3, 1) := by decide +kernel
theorem d_L_law_469 : decode code 469 = .ok (.iconst 3, 1) := by decide +kernel
theorem d_L_law_470 : decode code 470 = .ok (.iadd, 1) := by decide +kernel
theorem d_L_law_471 : decode code 471 = .ok (.iaload, 1) := by decide +kernel
theorem d_L_law_472 : decode code 472 = .ok (.i2l, 1) := by decide +kernel
theorem d_L_law_473 : decode code 473 = .ok (.bipush 32, 2) := by decide +kernel
theorem d_L_law_475 : decode code 475 = .ok (.lshl, 1) := by decide +kernel
theorem d_L_law_476 : decode code 476 = .ok (.aload_n 0, 1) := by decide +kernel
theorem d_L_law_477 : decode code 477 = .ok (.iload_n 3, 1) := by decide +kernel
theorem d_L_law_478 : decode code 478 = .ok (.iconst 4, 1) := by decide +kernel
theorem d_L_law_479 : decode code 479 = .ok (.iadd, 1) := by decide +kernel
theorem d_L_law_480 : decode code 480 = .ok (.iaload, 1) := by decide +kernel
theorem d_L_law_481 : decode code 481 = .ok (.i2l, 1) := by decide +kernel
theorem d_L_law_482 : decode code 482 = .ok (.ldc2_w 13, 3) := by decide +kernel
theorem d_L_law_485 : decode code 485 = .ok (.land, 1) := by decide +kernel
theorem d_L_law_486 : decode code 486 = .ok (.lor, 1) := by decide +kernel
theorem d_L_law_487 : decode code 487 = .ok (.invokevirtual 49, 3) := by decide +kernel
theorem d_L_law_490 : decode code 490 = .ok (.if_icmp .eq 298, 3) := by decide +kernel
theorem d_L_law_493 : decode code 493 = .ok (.iconst 0, 1) := by decide +kernel
theorem d_L_law_494 : decode code 494 = .ok (.ireturn, 1) := by decide +kernel
theorem d_L_law_495 : decode code 495 = .ok (.aload_n 1, 1) := by decide +kernel
theorem d_L_law_496 : decode code 496 = .ok (.aload_n 0, 1) := by decide +kernel
theorem d_L_law_497 : decode code 497 = .ok (.iload_n 3, 1) := by decide +kernel
theorem d_L_law_498 : decode code 498 = .ok (.iconst 1, 1) := by decide +kernel
theorem d_L_law_499 : decode code 499 = .ok (.iadd, 1) := by decide +kernel
theorem d_L_law_500 : decode code 500 = .ok (.iaload, 1) := by decide +kernel
theorem d_L_law_501 : decode code 501 = .ok (.aload_n 0, 1) := by decide +kernel
theorem d_L_law_502 : decode code 502 = .ok (.iload_n 3, 1) := by decide +kernel
theorem d_L_law_503 : decode code 503 = .ok (.iconst 2, 1) := by decide +kernel
theorem d_L_law_504 : decode code 504 = .ok (.iadd, 1) := by decide +kernel
theorem d_L_law_505 : decode code 505 = .ok (.iaload, 1) := by decide +kernel
theorem d_L_law_506 : decode code 506 = .ok (.invokevirtual 50, 3) := by decide +kernel
theorem d_L_law_509 : decode code 509 = .ok (.aload_n 2, 1) := by decide +kernel
theorem d_L_law_510 : decode code 510 = .ok (.aload_n 0, 1) := by decide +kernel
theorem d_L_law_511 : decode code 511 = .ok (.iload_n 3, 1) := by decide +kernel
theorem d_L_law_512 : decode code 512 = .ok (.iconst 1, 1) := by decide +kernel
theorem d_L_law_513 : decode code 513 = .ok (.iadd, 1) := by decide +kernel
theorem d_L_law_514 : decode code 514 = .ok (.iaload, 1) := by decide +kernel
theorem d_L_law_515 : decode code 515 = .ok (.aload_n 0, 1) := by decide +kernel
theorem d_L_law_516 : decode code 516 = .ok (.iload_n 3, 1) := by decide +kernel
theorem d_L_law_517 : decode code 517 = .ok (.iconst 2, 1) := by decide +kernel
theorem d_L_law_518 : decode code 518 = .ok (.iadd, 1) := by decide +kernel
theorem d_L_law_519 : decode code 519 = .ok (.iaload, 1) := by decide +kernel
theorem d_L_law_520 : decode code 520 = .ok (.invokevirtual 53, 3) := by decide +kernel
theorem d_L_law_523 : decode code 523 = .ok (.if_icmp .eq 265, 3) := by decide +kernel
theorem d_L_law_526 : decode code 526 = .ok (.iconst 0, 1) := by decide +kernel
theorem d_L_law_527 : decode code 527 = .ok (.ireturn, 1) := by decide +kernel
theorem d_L_law_528 : decode code 528 = .ok (.aload_n 1, 1) := by decide +kernel
theorem d_L_law_529 : decode code 529 = .ok (.aload_n 0, 1) := by decide +kernel
theorem d_L_law_530 : decode code 530 = .ok (.iload_n 3, 1) := by decide +kernel
theorem d_L_law_531 : decode code 531 = .ok (.iconst 1, 1) := by decide +kernel
theorem d_L_law_532 : decode code 532 = .ok (.iadd, 1) := by decide +kernel
theorem d_L_law_533 : decode code 533 = .ok (.iaload, 1) := by decide +kernel
theorem d_L_law_534 : decode code 534 = .ok (.aload_n 0, 1) := by decide +kernel
theorem d_L_law_535 : decode code 535 = .ok (.iload_n 3, 1) := by decide +kernel
theorem d_L_law_536 : decode code 536 = .ok (.iconst 2, 1) := by decide +kernel
theorem d_L_law_537 : decode code 537 = .ok (.iadd, 1) := by decide +kernel
theorem d_L_law_538 : decode code 538 = .ok (.iaload, 1) := by decide +kernel
theorem d_L_law_539 : decode code 539 = .ok (.invokevirtual 54, 3) := by decide +kernel
theorem d_L_law_542 : decode code 542 = .ok (.aload_n 2, 1) := by decide +kernel
theorem d_L_law_543 : decode code 543 = .ok (.aload_n 0, 1) := by decide +kernel
theorem d_L_law_544 : decode code 544 = .ok (.iload_n 3, 1) := by decide +kernel
theorem d_L_law_545 : decode code 545 = .ok (.iconst 1, 1) := by decide +kernel
theorem d_L_law_546 : decode code 546 = .ok (.iadd, 1) := by decide +kernel
theorem d_L_law_547 : decode code 547 = .ok (.iaload, 1) := by decide +kernel
theorem d_L_law_548 : decode code 548 = .ok (.aload_n 0, 1) := by decide +kernel
theorem d_L_law_549 : decode code 549 = .ok (.iload_n 3, 1) := by decide +kernel
theorem d_L_law_550 : decode code 550 = .ok (.iconst 2, 1) := by decide +kernel
theorem d_L_law_551 : decode code 551 = .ok (.iadd, 1) := by decide +kernel
theorem d_L_law_552 : decode code 552 = .ok (.iaload, 1) := by decide +kernel
theorem d_L_law_553 : decode code 553 = .ok (.invokevirtual 57, 3) := by decide +kernel
theorem d_L_law_556 : decode code 556 = .ok (.if_icmp .eq 232, 3) := by decide +kernel
theorem d_L_law_559 : decode code 559 = .ok (.iconst 0, 1) := by decide +kernel
theorem d_L_law_560 : decode code 560 = .ok (.ireturn, 1) := by decide +kernel
theorem d_L_law_561 : decode code 561 = .ok (.aload_n 1, 1) := by decide +kernel
theorem d_L_law_562 : decode code 562 = .ok (.aload_n 0, 1) := by decide +kernel
theorem d_L_law_563 : decode code 563 = .ok (.iload_n 3, 1) := by decide +kernel
theorem d_L_law_564 : decode code 564 = .ok (.iconst 1, 1) := by decide +kernel
theorem d_L_law_565 : decode code 565 = .ok (.iadd, 1) := by decide +kernel
theorem d_L_law_566 : decode code 566 = .ok (.iaload, 1) := by decide +kernel
theorem d_L_law_567 : decode code 567 = .ok (.i2l, 1) := by decide +kernel
theorem d_L_law_568 : decode code 568 = .ok (.bipush 32, 2) := by decide +kernel
theorem d_L_law_570 : decode code 570 = .ok (.lshl, 1) := by decide +kernel
theorem d_L_law_571 : decode code 571 = .ok (.aload_n 0, 1) := by decide +kernel
theorem d_L_law_572 : decode code 572 = .ok (.iload_n 3, 1) := by decide +kernel
theorem d_L_law_573 : decode code 573 = .ok (.iconst 2, 1) := by decide +kernel
theorem d_L_law_574 : decode code 574 = .ok (.iadd, 1) := by decide +kernel
theorem d_L_law_575 : decode code 575 = .ok (.iaload, 1) := by decide +kernel
theorem d_L_law_576 : decode code 576 = .ok (.i2l, 1) := by decide +kernel
theorem d_L_law_577 : decode code 577 = .ok (.ldc2_w 13, 3) := by decide +kernel
theorem d_L_law_580 : decode code 580 = .ok (.land, 1) := by decide +kernel
theorem d_L_law_581 : decode code 581 = .ok (.lor, 1) := by decide +kernel
theorem d_L_law_582 : decode code 582 = .ok (.aload_n 0, 1) := by decide +kernel
theorem d_L_law_583 : decode code 583 = .ok (.iload_n 3, 1) := by decide +kernel
theorem d_L_law_584 : decode code 584 = .ok (.iconst 3, 1) := by decide +kernel
theorem d_L_law_585 : decode code 585 = .ok (.iadd, 1) := by decide +kernel
theorem d_L_law_586 : decode code 586 = .ok (.iaload, 1) := by decide +kernel
theorem d_L_law_587 : decode code 587 = .ok (.invokevirtual 58, 3) := by decide +kernel
theorem d_L_law_590 : decode code 590 = .ok (.aload_n 2, 1) := by decide +kernel
theorem d_L_law_591 : decode code 591 = .ok (.aload_n 0, 1) := by decide +kernel
theorem d_L_law_592 : decode code 592 = .ok (.iload_n 3, 1) := by decide +kernel
theorem d_L_law_593 : decode code 593 = .ok (.iconst 1, 1) := by decide +kernel
theorem d_L_law_594 : decode code 594 = .ok (.iadd, 1) := by decide +kernel
theorem d_L_law_595 : decode code 595 = .ok (.iaload, 1) := by decide +kernel
theorem d_L_law_596 : decode code 596 = .ok (.i2l, 1) := by decide +kernel
theorem d_L_law_597 : decode code 597 = .ok (.bipush 32, 2) := by decide +kernel
theorem d_L_law_599 : decode code 599 = .ok (.lshl, 1) := by decide +kernel
theorem d_L_law_600 : decode code 600 = .ok (.aload_n 0, 1) := by decide +kernel
theorem d_L_law_601 : decode code 601 = .ok (.iload_n 3, 1) := by decide +kernel
theorem d_L_law_602 : decode code 602 = .ok (.iconst 2, 1) := by decide +kernel
theorem d_L_law_603 : decode code 603 = .ok (.iadd, 1) := by decide +kernel
theorem d_L_law_604 : decode code 604 = .ok (.iaload, 1) := by decide +kernel
theorem d_L_law_605 : decode code 605 = .ok (.i2l, 1) := by decide +kernel
theorem d_L_law_606 : decode code 606 = .ok (.ldc2_w 13, 3) := by decide +kernel
theorem d_L_law_609 : decode code 609 = .ok (.land, 1) := by decide +kernel
theorem d_L_law_610 : decode code 610 = .ok (.lor, 1) := by decide +kernel
theorem d_L_law_611 : decode code 611 = .ok (.aload_n 0, 1) := by decide +kernel
theorem d_L_law_612 : decode code 612 = .ok (.iload_n 3, 1) := by decide +kernel
theorem d_L_law_613 : decode code 613 = .ok (.iconst 3, 1) := by decide +kernel
theorem d_L_law_614 : decode code 614 = .ok (.iadd, 1) := by decide +kernel
theorem d_L_law_615 : decode code 615 = .ok (.iaload, 1) := by decide +kernel
theorem d_L_law_616 : decode code 616 = .ok (.invokevirtual 62, 3) := by decide +kernel
theorem d_L_law_619 : decode code 619 = .ok (.if_icmp .eq 169, 3) := by decide +kernel
theorem d_L_law_622 : decode code 622 = .ok (.iconst 0, 1) := by decide +kernel
theorem d_L_law_623 : decode code 623 = .ok (.ireturn, 1) := by decide +kernel
theorem d_L_law_624 : decode code 624 = .ok (.aload_n 1, 1) := by decide +kernel
theorem d_L_law_625 : decode code 625 = .ok (.aload_n 0, 1) := by decide +kernel
theorem d_L_law_626 : decode code 626 = .ok (.iload_n 3, 1) := by decide +kernel
theorem d_L_law_627 : decode code 627 = .ok (.iconst 1, 1) := by decide +kernel
theorem d_L_law_628 : decode code 628 = .ok (.iadd, 1) := by decide +kernel
theorem d_L_law_629 : decode code 629 = .ok (.iaload, 1) := by decide +kernel
theorem d_L_law_630 : decode code 630 = .ok (.aload_n 0, 1) := by decide +kernel
theorem d_L_law_631 : decode code 631 = .ok (.iload_n 3, 1) := by decide +kernel
theorem d_L_law_632 : decode code 632 = .ok (.iconst 2, 1) := by decide +kernel
theorem d_L_law_633 : decode code 633 = .ok (.iadd, 1) := by decide +kernel
theorem d_L_law_634 : decode code 634 = .ok (.iaload, 1) := by decide +kernel
theorem d_L_law_635 : decode code 635 = .ok (.ifCond .eq 7, 3) := by decide +kernel
theorem d_L_law_638 : decode code 638 = .ok (.iconst 1, 1) := by decide +kernel
theorem d_L_law_639 : decode code 639 = .ok (.goto 4, 3) := by decide +kernel
theorem d_L_law_642 : decode code 642 = .ok (.iconst 0, 1) := by decide +kernel
theorem d_L_law_643 : decode code 643 = .ok (.invokevirtual 63, 3) := by decide +kernel
theorem d_L_law_646 : decode code 646 = .ok (.aload_n 2, 1) := by decide +kernel
theorem d_L_law_647 : decode code 647 = .ok (.aload_n 0, 1) := by decide +kernel
theorem d_L_law_648 : decode code 648 = .ok (.iload_n 3, 1) := by decide +kernel
theorem d_L_law_649 : decode code 649 = .ok (.iconst 1, 1) := by decide +kernel
theorem d_L_law_650 : decode code 650 = .ok (.iadd, 1) := by decide +kernel
theorem d_L_law_651 : decode code 651 = .ok (.iaload, 1) := by decide +kernel
theorem d_L_law_652 : decode code 652 = .ok (.aload_n 0, 1) := by decide +kernel
theorem d_L_law_653 : decode code 653 = .ok (.iload_n 3, 1) := by decide +kernel
theorem d_L_law_654 : decode code 654 = .ok (.iconst 2, 1) := by decide +kernel
theorem d_L_law_655 : decode code 655 = .ok (.iadd, 1) := by decide +kernel
theorem d_L_law_656 : decode code 656 = .ok (.iaload, 1) := by decide +kernel
theorem d_L_law_657 : decode code 657 = .ok (.ifCond .eq 7, 3) := by decide +kernel
theorem d_L_law_660 : decode code 660 = .ok (.iconst 1, 1) := by decide +kernel
theorem d_L_law_661 : decode code 661 = .ok (.goto 4, 3) := by decide +kernel
theorem d_L_law_664 : decode code 664 = .ok (.iconst 0, 1) := by decide +kernel
theorem d_L_law_665 : decode code 665 = .ok (.invokevirtual 67, 3) := by decide +kernel
theorem d_L_law_668 : decode code 668 = .ok (.if_icmp .eq 120, 3) := by decide +kernel
theorem d_L_law_671 : decode code 671 = .ok (.iconst 0, 1) := by decide +kernel
theorem d_L_law_672 : decode code 672 = .ok (.ireturn, 1) := by decide +kernel
theorem d_L_law_673 : decode code 673 = .ok (.aload_n 1, 1) := by decide +kernel
theorem d_L_law_674 : decode code 674 = .ok (.invokevirtual 68, 3) := by decide +kernel
theorem d_L_law_677 : decode code 677 = .ok (.aload_n 2, 1) := by decide +kernel
theorem d_L_law_678 : decode code 678 = .ok (.invokevirtual 72, 3) := by decide +kernel
theorem d_L_law_681 : decode code 681 = .ok (.if_icmp .eq 107, 3) := by decide +kernel
theorem d_L_law_684 : decode code 684 = .ok (.iconst 0, 1) := by decide +kernel
theorem d_L_law_685 : decode code 685 = .ok (.ireturn, 1) := by decide +kernel
theorem d_L_law_686 : decode code 686 = .ok (.aload_n 1, 1) := by decide +kernel
theorem d_L_law_687 : decode code 687 = .ok (.aload_n 0, 1) := by decide +kernel
theorem d_L_law_688 : decode code 688 = .ok (.iload_n 3, 1) := by decide +kernel
theorem d_L_law_689 : decode code 689 = .ok (.iconst 1, 1) := by decide +kernel
theorem d_L_law_690 : decode code 690 = .ok (.iadd, 1) := by decide +kernel
theorem d_L_law_691 : decode code 691 = .ok (.iaload, 1) := by decide +kernel
theorem d_L_law_692 : decode code 692 = .ok (.invokevirtual 73, 3) := by decide +kernel
theorem d_L_law_695 : decode code 695 = .ok (.aload_n 2, 1) := by decide +kernel
theorem d_L_law_696 : decode code 696 = .ok (.aload_n 0, 1) := by decide +kernel
theorem d_L_law_697 : decode code 697 = .ok (.iload_n 3, 1) := by decide +kernel
theorem d_L_law_698 : decode code 698 = .ok (.iconst 1, 1) := by decide +kernel
theorem d_L_law_699 : decode code 699 = .ok (.iadd, 1) := by decide +kernel
theorem d_L_law_700 : decode code 700 = .ok (.iaload, 1) := by decide +kernel
theorem d_L_law_701 : decode code 701 = .ok (.invokevirtual 76, 3) := by decide +kernel
theorem d_L_law_704 : decode code 704 = .ok (.if_icmp .eq 84, 3) := by decide +kernel
theorem d_L_law_707 : decode code 707 = .ok (.iconst 0, 1) := by decide +kernel
theorem d_L_law_708 : decode code 708 = .ok (.ireturn, 1) := by decide +kernel
theorem d_L_law_709 : decode code 709 = .ok (.aload_n 1, 1) := by decide +kernel
theorem d_L_law_710 : decode code 710 = .ok (.aload_n 0, 1) := by decide +kernel
theorem d_L_law_711 : decode code 711 = .ok (.iload_n 3, 1) := by decide +kernel
theorem d_L_law_712 : decode code 712 = .ok (.iconst 1, 1) := by decide +kernel
theorem d_L_law_713 : decode code 713 = .ok (.iadd, 1) := by decide +kernel
theorem d_L_law_714 : decode code 714 = .ok (.iaload, 1) := by decide +kernel
theorem d_L_law_715 : decode code 715 = .ok (.invokevirtual 77, 3) := by decide +kernel
theorem d_L_law_718 : decode code 718 = .ok (.aload_n 2, 1) := by decide +kernel
theorem d_L_law_719 : decode code 719 = .ok (.aload_n 0, 1) := by decide +kernel
theorem d_L_law_720 : decode code 720 = .ok (.iload_n 3, 1) := by decide +kernel
theorem d_L_law_721 : decode code 721 = .ok (.iconst 1, 1) := by decide +kernel
theorem d_L_law_722 : decode code 722 = .ok (.iadd, 1) := by decide +kernel
theorem d_L_law_723 : decode code 723 = .ok (.iaload, 1) := by decide +kernel
theorem d_L_law_724 : decode code 724 = .ok (.invokevirtual 80, 3) := by decide +kernel
theorem d_L_law_727 : decode code 727 = .ok (.if_icmp .eq 61, 3) := by decide +kernel
theorem d_L_law_730 : decode code 730 = .ok (.iconst 0, 1) := by decide +kernel
theorem d_L_law_731 : decode code 731 = .ok (.ireturn, 1) := by decide +kernel
theorem d_L_law_732 : decode code 732 = .ok (.aload_n 1, 1) := by decide +kernel
theorem d_L_law_733 : decode code 733 = .ok (.aload_n 0, 1) := by decide +kernel
theorem d_L_law_734 : decode code 734 = .ok (.iload_n 3, 1) := by decide +kernel
theorem d_L_law_735 : decode code 735 = .ok (.iconst 1, 1) := by decide +kernel
theorem d_L_law_736 : decode code 736 = .ok (.iadd, 1) := by decide +kernel
theorem d_L_law_737 : decode code 737 = .ok (.iaload, 1) := by decide +kernel
theorem d_L_law_738 : decode code 738 = .ok (.invokevirtual 81, 3) := by decide +kernel
theorem d_L_law_741 : decode code 741 = .ok (.aload_n 2, 1) := by decide +kernel
theorem d_L_law_742 : decode code 742 = .ok (.aload_n 0, 1) := by decide +kernel
theorem d_L_law_743 : decode code 743 = .ok (.iload_n 3, 1) := by decide +kernel
theorem d_L_law_744 : decode code 744 = .ok (.iconst 1, 1) := by decide +kernel
theorem d_L_law_745 : decode code 745 = .ok (.iadd, 1) := by decide +kernel
theorem d_L_law_746 : decode code 746 = .ok (.iaload, 1) := by decide +kernel
theorem d_L_law_747 : decode code 747 = .ok (.invokevirtual 84, 3) := by decide +kernel
theorem d_L_law_750 : decode code 750 = .ok (.if_icmp .eq 38, 3) := by decide +kernel
theorem d_L_law_753 : decode code 753 = .ok (.iconst 0, 1) := by decide +kernel
theorem d_L_law_754 : decode code 754 = .ok (.ireturn, 1) := by decide +kernel
theorem d_L_law_755 : decode code 755 = .ok (.aload_n 1, 1) := by decide +kernel
theorem d_L_law_756 : decode code 756 = .ok (.aload_n 0, 1) := by decide +kernel
theorem d_L_law_757 : decode code 757 = .ok (.iload_n 3, 1) := by decide +kernel
theorem d_L_law_758 : decode code 758 = .ok (.iconst 1, 1) := by decide +kernel
theorem d_L_law_759 : decode code 759 = .ok (.iadd, 1) := by decide +kernel
theorem d_L_law_760 : decode code 760 = .ok (.iaload, 1) := by decide +kernel
theorem d_L_law_761 : decode code 761 = .ok (.aload_n 0, 1) := by decide +kernel
theorem d_L_law_762 : decode code 762 = .ok (.iload_n 3, 1) := by decide +kernel
theorem d_L_law_763 : decode code 763 = .ok (.iconst 2, 1) := by decide +kernel
theorem d_L_law_764 : decode code 764 = .ok (.iadd, 1) := by decide +kernel
theorem d_L_law_765 : decode code 765 = .ok (.iaload, 1) := by decide +kernel
theorem d_L_law_766 : decode code 766 = .ok (.invokevirtual 85, 3) := by decide +kernel
theorem d_L_law_769 : decode code 769 = .ok (.aload_n 2, 1) := by decide +kernel
theorem d_L_law_770 : decode code 770 = .ok (.aload_n 0, 1) := by decide +kernel
theorem d_L_law_771 : decode code 771 = .ok (.iload_n 3, 1) := by decide +kernel
theorem d_L_law_772 : decode code 772 = .ok (.iconst 1, 1) := by decide +kernel
theorem d_L_law_773 : decode code 773 = .ok (.iadd, 1) := by decide +kernel
theorem d_L_law_774 : decode code 774 = .ok (.iaload, 1) := by decide +kernel
theorem d_L_law_775 : decode code 775 = .ok (.aload_n 0, 1) := by decide +kernel
theorem d_L_law_776 : decode code 776 = .ok (.iload_n 3, 1) := by decide +kernel
theorem d_L_law_777 : decode code 777 = .ok (.iconst 2, 1) := by decide +kernel
theorem d_L_law_778 : decode code 778 = .ok (.iadd, 1) := by decide +kernel
theorem d_L_law_779 : decode code 779 = .ok (.iaload, 1) := by decide +kernel
theorem d_L_law_780 : decode code 780 = .ok (.invokevirtual 88, 3) := by decide +kernel
theorem d_L_law_783 : decode code 783 = .ok (.if_icmp .eq 5, 3) := by decide +kernel
theorem d_L_law_786 : decode code 786 = .ok (.iconst 0, 1) := by decide +kernel
theorem d_L_law_787 : decode code 787 = .ok (.ireturn, 1) := by decide +kernel
theorem d_L_law_788 : decode code 788 = .ok (.iinc 3 6, 3) := by decide +kernel
theorem d_L_law_791 : decode code 791 = .ok (.goto (-773), 3) := by decide +kernel
theorem d_L_law_794 : decode code 794 = .ok (.iconst 1, 1) := by decide +kernel
theorem d_L_law_795 : decode code 795 = .ok (.ireturn, 1) := by decide +kernel
