theorem d_JA_append_41 : decode b_JA_append 41 = .ok (.bastore, 1) := by decide +kernel
theorem d_JA_append_42 : decode b_JA_append 42 = .ok (.goto 33, 3) := by decide +kernel
theorem d_JA_append_45 : decode b_JA_append 45 = .ok (.aload_n 0, 1) := by decide +kernel
theorem d_JA_append_46 : decode b_JA_append 46 = .ok (.invokevirtual 83, 3) := by decide +kernel
theorem d_JA_append_49 : decode b_JA_append 49 = .ok (.ifCond .eq 7, 3) := by decide +kernel
theorem d_JA_append_52 : decode b_JA_append 52 = .ok (.aload_n 0, 1) := by decide +kernel
theorem d_JA_append_53 : decode b_JA_append 53 = .ok (.invokevirtual 195, 3) := by decide +kernel
theorem d_JA_append_56 : decode b_JA_append 56 = .ok (.aload_n 0, 1) := by decide +kernel
theorem d_JA_append_57 : decode b_JA_append 57 = .ok (.getfield 15, 3) := by decide +kernel
theorem d_JA_append_60 : decode b_JA_append 60 = .ok (.aload_n 0, 1) := by decide +kernel
theorem d_JA_append_61 : decode b_JA_append 61 = .ok (.dup, 1) := by decide +kernel
theorem d_JA_append_62 : decode b_JA_append 62 = .ok (.getfield 79, 3) := by decide +kernel
theorem d_JA_append_65 : decode b_JA_append 65 = .ok (.dup_x1, 1) := by decide +kernel
theorem d_JA_append_66 : decode b_JA_append 66 = .ok (.iconst 1, 1) := by decide +kernel
theorem d_JA_append_67 : decode b_JA_append 67 = .ok (.iadd, 1) := by decide +kernel
theorem d_JA_append_68 : decode b_JA_append 68 = .ok (.putfield 79, 3) := by decide +kernel
theorem d_JA_append_71 : decode b_JA_append 71 = .ok (.iload_n 1, 1) := by decide +kernel
theorem d_JA_append_72 : decode b_JA_append 72 = .ok (.invokestatic 197, 3) := by decide +kernel
theorem d_JA_append_75 : decode b_JA_append 75 = .ok (.aload_n 0, 1) := by decide +kernel
theorem d_JA_append_76 : decode b_JA_append 76 = .ok (.areturn, 1) := by decide +kernel
theorem d_JA_ensureCapacityInternal_0 : decode b_JA_ensureCapacityInternal 0 = .ok (.aload_n 0, 1) := by decide +kernel
theorem d_JA_ensureCapacityInternal_1 : decode b_JA_ensureCapacityInternal 1 = .ok (.getfield 15, 3) := by decide +kernel
theorem d_JA_ensureCapacityInternal_4 : decode b_JA_ensureCapacityInternal 4 = .ok (.arraylength, 1) := by decide +kernel
theorem d_JA_ensureCapacityInternal_5 : decode b_JA_ensureCapacityInternal 5 = .ok (.aload_n 0, 1) := by decide +kernel
theorem d_JA_ensureCapacityInternal_6 : decode b_JA_ensureCapacityInternal 6 = .ok (.getfield 22, 3) := by decide +kernel
theorem d_JA_ensureCapacityInternal_9 : decode b_JA_ensureCapacityInternal 9 = .ok (.ishr, 1) := by decide +kernel
theorem d_JA_ensureCapacityInternal_10 : decode b_JA_ensureCapacityInternal 10 = .ok (.istore_n 2, 1) := by decide +kernel
theorem d_JA_ensureCapacityInternal_11 : decode b_JA_ensureCapacityInternal 11 = .ok (.iload_n 1, 1) := by decide +kernel
theorem d_JA_ensureCapacityInternal_12 : decode b_JA_ensureCapacityInternal 12 = .ok (.iload_n 2, 1) := by decide +kernel
theorem d_JA_ensureCapacityInternal_13 : decode b_JA_ensureCapacityInternal 13 = .ok (.isub, 1) := by decide +kernel
theorem d_JA_ensureCapacityInternal_14 : decode b_JA_ensureCapacityInternal 14 = .ok (.ifCond .le 24, 3) := by decide +kernel
theorem d_JA_ensureCapacityInternal_17 : decode b_JA_ensureCapacityInternal 17 = .ok (.aload_n 0, 1) := by decide +kernel
theorem d_JA_ensureCapacityInternal_18 : decode b_JA_ensureCapacityInternal 18 = .ok (.aload_n 0, 1) := by decide +kernel
theorem d_JA_ensureCapacityInternal_19 : decode b_JA_ensureCapacityInternal 19 = .ok (.getfield 15, 3) := by decide +kernel
theorem d_JA_ensureCapacityInternal_22 : decode b_JA_ensureCapacityInternal 22 = .ok (.aload_n 0, 1) := by decide +kernel
theorem d_JA_ensureCapacityInternal_23 : decode b_JA_ensureCapacityInternal 23 = .ok (.iload_n 1, 1) := by decide +kernel
theorem d_JA_ensureCapacityInternal_24 : decode b_JA_ensureCapacityInternal 24 = .ok (.invokevirtual 104, 3) := by decide +kernel
theorem d_JA_ensureCapacityInternal_27 : decode b_JA_ensureCapacityInternal 27 = .ok (.aload_n 0, 1) := by decide +kernel
theorem d_JA_ensureCapacityInternal_28 : decode b_JA_ensureCapacityInternal 28 = .ok (.getfield 22, 3) := by decide +kernel
theorem d_JA_ensureCapacityInternal_31 : decode b_JA_ensureCapacityInternal 31 = .ok (.ishl, 1) := by decide +kernel
theorem d_JA_ensureCapacityInternal_32 : decode b_JA_ensureCapacityInternal 32 = .ok (.invokestatic 108, 3) := by decide +kernel
theorem d_JA_ensureCapacityInternal_35 : decode b_JA_ensureCapacityInternal 35 = .ok (.putfield 15, 3) := by decide +kernel
theorem d_JA_ensureCapacityInternal_38 : decode b_JA_ensureCapacityInternal 38 = .ok (.return_, 1) := by decide +kernel
theorem d_JA_newCapacity_0 : decode b_JA_newCapacity 0 = .ok (.aload_n 0, 1) := by decide +kernel
theorem d_JA_newCapacity_1 : decode b_JA_newCapacity 1 = .ok (.getfield 15, 3) := by decide +kernel
theorem d_JA_newCapacity_4 : decode b_JA_newCapacity 4 = .ok (.arraylength, 1) := by decide +kernel
theorem d_JA_newCapacity_5 : decode b_JA_newCapacity 5 = .ok (.istore_n 2, 1) := by decide +kernel
theorem d_JA_newCapacity_6 : decode b_JA_newCapacity 6 = .ok (.iload_n 1, 1) := by decide +kernel
theorem d_JA_newCapacity_7 : decode b_JA_newCapacity 7 = .ok (.aload_n 0, 1) := by decide +kernel
theorem d_JA_newCapacity_8 : decode b_JA_newCapacity 8 = .ok (.getfield 22, 3) := by decide +kernel
theorem d_JA_newCapacity_11 : decode b_JA_newCapacity 11 = .ok (.ishl, 1) := by decide +kernel
theorem d_JA_newCapacity_12 : decode b_JA_newCapacity 12 = .ok (.istore_n 3, 1) := by decide +kernel
theorem d_JA_newCapacity_13 : decode b_JA_newCapacity 13 = .ok (.iload_n 3, 1) := by decide +kernel
theorem d_JA_newCapacity_14 : decode b_JA_newCapacity 14 = .ok (.iload_n 2, 1) := by decide +kernel
theorem d_JA_newCapacity_15 : decode b_JA_newCapacity 15 = .ok (.isub, 1) := by decide +kernel
theorem d_JA_newCapacity_16 : decode b_JA_newCapacity 16 = .ok (.istore 4, 2) := by decide +kernel
theorem d_JA_newCapacity_18 : decode b_JA_newCapacity 18 = .ok (.iload_n 2, 1) := by decide +kernel
theorem d_JA_newCapacity_19 : decode b_JA_newCapacity 19 = .ok (.iload 4, 2) := by decide +kernel
theorem d_JA_newCapacity_21 : decode b_JA_newCapacity 21 = .ok (.iload_n 2, 1) := by decide +kernel
theorem d_JA_newCapacity_22 : decode b_JA_newCapacity 22 = .ok (.iconst 2, 1) := by decide +kernel
theorem d_JA_newCapacity_23 : decode b_JA_newCapacity 23 = .ok (.aload_n 0, 1) := by decide +kernel
theorem d_JA_newCapacity_24 : decode b_JA_newCapacity 24 = .ok (.getfield 22, 3) := by decide +kernel
theorem d_JA_newCapacity_27 : decode b_JA_newCapacity 27 = .ok (.ishl, 1) := by decide +kernel
theorem d_JA_newCapacity_28 : decode b_JA_newCapacity 28 = .ok (.iadd, 1) := by decide +kernel
theorem d_JA_newCapacity_29 : decode b_JA_newCapacity 29 = .ok (.invokestatic 114, 3) := by decide +kernel
theorem d_JA_newCapacity_32 : decode b_JA_newCapacity 32 = .ok (.istore 5, 2) := by decide +kernel
theorem d_JA_newCapacity_34 : decode b_JA_newCapacity 34 = .ok (.iload 5, 2) := by decide +kernel
theorem d_JA_newCapacity_36 : decode b_JA_newCapacity 36 = .ok (.ldc 39, 2) := by decide +kernel
theorem d_JA_newCapacity_38 : decode b_JA_newCapacity 38 = .ok (.if_icmp .ne 13, 3) := by decide +kernel
theorem d_JA_newCapacity_41 : decode b_JA_newCapacity 41 = .ok (.new 120, 3) := by decide +kernel
theorem d_JA_newCapacity_44 : decode b_JA_newCapacity 44 = .ok (.dup, 1) := by decide +kernel
theorem d_JA_newCapacity_45 : decode b_JA_newCapacity 45 = .ok (.ldc 122, 2) := by decide +kernel
theorem d_JA_newCapacity_47 : decode b_JA_newCapacity 47 = .ok (.invokespecial 124, 3) := by decide +kernel
theorem d_JA_newCapacity_50 : decode b_JA_newCapacity 50 = .ok (.athrow, 1) := by decide +kernel
theorem d_JA_newCapacity_51 : decode b_JA_newCapacity 51 = .ok (.iload 5, 2) := by decide +kernel
theorem d_JA_newCapacity_53 : decode b_JA_newCapacity 53 = .ok (.aload_n 0, 1) := by decide +kernel
theorem d_JA_newCapacity_54 : decode b_JA_newCapacity 54 = .ok (.getfield 22, 3) := by decide +kernel
theorem d_JA_newCapacity_57 : decode b_JA_newCapacity 57 = .ok (.ishr, 1) := by decide +kernel
theorem d_JA_newCapacity_58 : decode b_JA_newCapacity 58 = .ok (.ireturn, 1) := by decide +kernel
theorem d_JP_newLength_0 : decode b_JP_newLength 0 = .ok (.iload_n 0, 1) := by decide +kernel
theorem d_JP_newLength_1 : decode b_JP_newLength 1 = .ok (.iload_n 1, 1) := by decide +kernel
theorem d_JP_newLength_2 : decode b_JP_newLength 2 = .ok (.iload_n 2, 1) := by decide +kernel
theorem d_JP_newLength_3 : decode b_JP_newLength 3 = .ok (.invokestatic 194, 3) := by decide +kernel
theorem d_JP_newLength_6 : decode b_JP_newLength 6 = .ok (.iadd, 1) := by decide +kernel
theorem d_JP_newLength_7 : decode b_JP_newLength 7 = .ok (.istore_n 3, 1) := by decide +kernel
theorem d_JP_newLength_8 : decode b_JP_newLength 8 = .ok (.iconst 0, 1) := by decide +kernel
theorem d_JP_newLength_9 : decode b_JP_newLength 9 = .ok (.iload_n 3, 1) := by decide +kernel
theorem d_JP_newLength_10 : decode b_JP_newLength 10 = .ok (.if_icmp .ge 11, 3) := by decide +kernel
theorem d_JP_newLength_13 : decode b_JP_newLength 13 = .ok (.iload_n 3, 1) := by decide +kernel
theorem d_JP_newLength_14 : decode b_JP_newLength 14 = .ok (.ldc 200, 2) := by decide +kernel
theorem d_JP_newLength_16 : decode b_JP_newLength 16 = .ok (.if_icmp .gt 5, 3) := by decide +kernel
theorem d_JP_newLength_19 : decode b_JP_newLength 19 = .ok (.iload_n 3, 1) := by decide +kernel
theorem d_JP_newLength_20 : decode b_JP_newLength 20 = .ok (.ireturn, 1) := by decide +kernel
theorem d_JP_newLength_21 : decode b_JP_newLength 21 = .ok (.iload_n 0, 1) := by decide +kernel
theorem d_JP_newLength_22 : decode b_JP_newLength 22 = .ok (.iload_n 1, 1) := by decide +kernel
theorem d_JP_newLength_23 : decode b_JP_newLength 23 = .ok (.invokestatic 201, 3) := by decide +kernel
theorem d_JP_newLength_26 : decode b_JP_newLength 26 = .ok (.ireturn, 1) := by decide +kernel
theorem d_JM_max_0 : decode b_JM_max 0 = .ok (.iload_n 0, 1) := by decide +kernel
theorem d_JM_max_1 : decode b_JM_max 1 = .ok (.iload_n 1, 1) := by decide +kernel
theorem d_JM_max_2 : decode b_JM_max 2 = .ok (.if_icmp .lt 7, 3) := by decide +kernel
theorem d_JM_max_5 : decode b_JM_max 5 = .ok (.iload_n 0, 1) := by decide +kernel
theorem d_JM_max_6 : decode b_JM_max 6 = .ok (.goto 4, 3) := by decide +kernel
theorem d_JM_max_9 : decode b_JM_max 9 = .ok (.iload_n 1, 1) := by decide +kernel
theorem d_JM_max_10 : decode b_JM_max 10 = .ok (.ireturn, 1) := by decide +kernel
theorem d_JP_hugeLength_0 : decode b_JP_hugeLength 0 = .ok (.iload_n 0, 1) := by decide +kernel
theorem d_JP_hugeLength_1 : decode b_JP_hugeLength 1 = .ok (.iload_n 1, 1) := by decide +kernel
theorem d_JP_hugeLength_2 : decode b_JP_hugeLength 2 = .ok (.iadd, 1) := by decide +kernel
theorem d_JP_hugeLength_3 : decode b_JP_hugeLength 3 = .ok (.istore_n 2, 1) := by decide +kernel
theorem d_JP_hugeLength_4 : decode b_JP_hugeLength 4 = .ok (.iload_n 2, 1) := by decide +kernel
theorem d_JP_hugeLength_5 : decode b_JP_hugeLength 5 = .ok (.ifCond .ge 44, 3) := by decide +kernel
theorem d_JP_hugeLength_8 : decode b_JP_hugeLength 8 = .ok (.new 204, 3) := by decide +kernel
theorem d_JP_hugeLength_11 : decode b_JP_hugeLength 11 = .ok (.dup, 1) := by decide +kernel
theorem d_JP_hugeLength_12 : decode b_JP_hugeLength 12 = .ok (.new 89, 3) := by decide +kernel
theorem d_JP_hugeLength_15 : decode b_JP_hugeLength 15 = .ok (.dup, 1) := by decide +kernel
theorem d_JP_hugeLength_16 : decode b_JP_hugeLength 16 = .ok (.invokespecial 91, 3) := by decide +kernel
theorem d_JP_hugeLength_19 : decode b_JP_hugeLength 19 = .ok (.ldc 206, 2) := by decide +kernel
theorem d_JP_hugeLength_21 : decode b_JP_hugeLength 21 = .ok (.invokevirtual 94, 3) := by decide +kernel
theorem d_JP_hugeLength_24 : decode b_JP_hugeLength 24 = .ok (.iload_n 0, 1) := by decide +kernel
theorem d_JP_hugeLength_25 : decode b_JP_hugeLength 25 = .ok (.invokevirtual 98, 3) := by decide +kernel
theorem d_JP_hugeLength_28 : decode b_JP_hugeLength 28 = .ok (.ldc 208, 2) := by decide +kernel
theorem d_JP_hugeLength_30 : decode b_JP_hugeLength 30 = .ok (.invokevirtual 94, 3) := by decide +kernel
theorem d_JP_hugeLength_33 : decode b_JP_hugeLength 33 = .ok (.iload_n 1, 1) := by decide +kernel
theorem d_JP_hugeLength_34 : decode b_JP_hugeLength 34 = .ok (.invokevirtual 98, 3) := by decide +kernel
theorem d_JP_hugeLength_37 : decode b_JP_hugeLength 37 = .ok (.ldc 210, 2) := by decide +kernel
theorem d_JP_hugeLength_39 : decode b_JP_hugeLength 39 = .ok (.invokevirtual 94, 3) := by decide +kernel
theorem d_JP_hugeLength_42 : decode b_JP_hugeLength 42 = .ok (.invokevirtual 101, 3) := by decide +kernel
theorem d_JP_hugeLength_45 : decode b_JP_hugeLength 45 = .ok (.invokespecial 212, 3) := by decide +kernel
theorem d_JP_hugeLength_48 : decode b_JP_hugeLength 48 = .ok (.athrow, 1) := by decide +kernel
theorem d_JP_hugeLength_49 : decode b_JP_hugeLength 49 = .ok (.iload_n 2, 1) := by decide +kernel
theorem d_JP_hugeLength_50 : decode b_JP_hugeLength 50 = .ok (.ldc 200, 2) := by decide +kernel
theorem d_JP_hugeLength_52 : decode b_JP_hugeLength 52 = .ok (.if_icmp .gt 6, 3) := by decide +kernel
theorem d_JP_hugeLength_55 : decode b_JP_hugeLength 55 = .ok (.ldc 200, 2) := by decide +kernel
theorem d_JP_hugeLength_57 : decode b_JP_hugeLength 57 = .ok (.ireturn, 1) := by decide +kernel
theorem d_JP_hugeLength_58 : decode b_JP_hugeLength 58 = .ok (.iload_n 2, 1) := by decide +kernel
theorem d_JP_hugeLength_59 : decode b_JP_hugeLength 59 = .ok (.ireturn, 1) := by decide +kernel
theorem d_JR_copyOf2_0 : decode b_JR_copyOf2 0 = .ok (.iload_n 1, 1) := by decide +kernel
theorem d_JR_copyOf2_1 : decode b_JR_copyOf2 1 = .ok (.aload_n 0, 1) := by decide +kernel
theorem d_JR_copyOf2_2 : decode b_JR_copyOf2 2 = .ok (.arraylength, 1) := by decide +kernel
theorem d_JR_copyOf2_3 : decode b_JR_copyOf2 3 = .ok (.if_icmp .ne 11, 3) := by decide +kernel
theorem d_JR_copyOf2_6 : decode b_JR_copyOf2 6 = .ok (.aload_n 0, 1) := by decide +kernel
theorem d_JR_copyOf2_7 : decode b_JR_copyOf2 7 = .ok (.invokevirtual 310, 3) := by decide +kernel
theorem d_JR_copyOf2_10 : decode b_JR_copyOf2 10 = .ok (.checkcast 311, 3) := by decide +kernel
theorem d_JR_copyOf2_13 : decode b_JR_copyOf2 13 = .ok (.areturn, 1) := by decide +kernel
theorem d_JR_copyOf2_14 : decode b_JR_copyOf2 14 = .ok (.iload_n 1, 1) := by decide +kernel
theorem d_JR_copyOf2_15 : decode b_JR_copyOf2 15 = .ok (.newarray .byte, 2) := by decide +kernel
theorem d_JR_copyOf2_17 : decode b_JR_copyOf2 17 = .ok (.astore_n 2, 1) := by decide +kernel
theorem d_JR_copyOf2_18 : decode b_JR_copyOf2 18 = .ok (.aload_n 0, 1) := by decide +kernel
theorem d_JR_copyOf2_19 : decode b_JR_copyOf2 19 = .ok (.iconst 0, 1) := by decide +kernel
theorem d_JR_copyOf2_20 : decode b_JR_copyOf2 20 = .ok (.aload_n 2, 1) := by decide +kernel
theorem d_JR_copyOf2_21 : decode b_JR_copyOf2 21 = .ok (.iconst 0, 1) := by decide +kernel
theorem d_JR_copyOf2_22 : decode b_JR_copyOf2 22 = .ok (.aload_n 0, 1) := by decide +kernel
theorem d_JR_copyOf2_23 : decode b_JR_copyOf2 23 = .ok (.arraylength, 1) := by decide +kernel
theorem d_JR_copyOf2_24 : decode b_JR_copyOf2 24 = .ok (.iload_n 1, 1) := by decide +kernel
theorem d_JR_copyOf2_25 : decode b_JR_copyOf2 25 = .ok (.invokestatic 304, 3) := by decide +kernel
theorem d_JR_copyOf2_28 : decode b_JR_copyOf2 28 = .ok (.invokestatic 150, 3) := by decide +kernel
theorem d_JR_copyOf2_31 : decode b_JR_copyOf2 31 = .ok (.aload_n 2, 1) := by decide +kernel
theorem d_JR_copyOf2_32 : decode b_JR_copyOf2 32 = .ok (.areturn, 1) := by decide +kernel
theorem d_JA_isLatin1_0 : decode b_JA_isLatin1 0 = .ok (.getstatic 18, 3) := by decide +kernel
theorem d_JA_isLatin1_3 : decode b_JA_isLatin1 3 = .ok (.ifCond .eq 14, 3) := by decide +kernel
theorem d_JA_isLatin1_6 : decode b_JA_isLatin1 6 = .ok (.aload_n 0, 1) := by decide +kernel
theorem d_JA_isLatin1_7 : decode b_JA_isLatin1 7 = .ok (.getfield 22, 3) := by decide +kernel
theorem d_JA_isLatin1_10 : decode b_JA_isLatin1 10 = .ok (.ifCond .ne 7, 3) := by decide +kernel
theorem d_JA_isLatin1_13 : decode b_JA_isLatin1 13 = .ok (.iconst 1, 1) := by decide +kernel
theorem d_JA_isLatin1_14 : decode b_JA_isLatin1 14 = .ok (.goto 4, 3) := by decide +kernel
theorem d_JA_isLatin1_17 : decode b_JA_isLatin1 17 = .ok (.iconst 0, 1) := by decide +kernel
theorem d_JA_isLatin1_18 : decode b_JA_isLatin1 18 = .ok (.ireturn, 1) := by decide +kernel
theorem d_JL_canEncode_0 : decode b_JL_canEncode 0 = .ok (.iload_n 0, 1) := by decide +kernel
theorem d_JL_canEncode_1 : decode b_JL_canEncode 1 = .ok (.sipush 255, 3) := by decide +kernel
theorem d_JL_canEncode_4 : decode b_JL_canEncode 4 = .ok (.if_icmp .gt 7, 3) := by decide +kernel
theorem d_JL_canEncode_7 : decode b_JL_canEncode 7 = .ok (.iconst 1, 1) := by decide +kernel
theorem d_JL_canEncode_8 : decode b_JL_canEncode 8 = .ok (.goto 4, 3) := by decide +kernel
theorem d_JL_canEncode_11 : decode b_JL_canEncode 11 = .ok (.iconst 0, 1) := by decide +kernel
theorem d_JL_canEncode_12 : decode b_JL_canEncode 12 = .ok (.ireturn, 1) := by decide +kernel
theorem d_JA_inflate_0 : decode b_JA_inflate 0 = .ok (.aload_n 0, 1) := by decide +kernel
theorem d_JA_inflate_1 : decode b_JA_inflate 1 = .ok (.invokevirtual 83, 3) := by decide +kernel
theorem d_JA_inflate_4 : decode b_JA_inflate 4 = .ok (.ifCond .ne 4, 3) := by decide +kernel
theorem d_JA_inflate_7 : decode b_JA_inflate 7 = .ok (.return_, 1) := by decide +kernel
theorem d_JA_inflate_8 : decode b_JA_inflate 8 = .ok (.aload_n 0, 1) := by decide +kernel
theorem d_JA_inflate_9 : decode b_JA_inflate 9 = .ok (.getfield 15, 3) := by decide +kernel
theorem d_JA_inflate_12 : decode b_JA_inflate 12 = .ok (.arraylength, 1) := by decide +kernel
theorem d_JA_inflate_13 : decode b_JA_inflate 13 = .ok (.invokestatic 26, 3) := by decide +kernel
theorem d_JA_inflate_16 : decode b_JA_inflate 16 = .ok (.astore_n 1, 1) := by decide +kernel
theorem d_JA_inflate_17 : decode b_JA_inflate 17 = .ok (.aload_n 0, 1) := by decide +kernel
theorem d_JA_inflate_18 : decode b_JA_inflate 18 = .ok (.getfield 15, 3) := by decide +kernel
theorem d_JA_inflate_21 : decode b_JA_inflate 21 = .ok (.iconst 0, 1) := by decide +kernel
theorem d_JA_inflate_22 : decode b_JA_inflate 22 = .ok (.aload_n 1, 1) := by decide +kernel
theorem d_JA_inflate_23 : decode b_JA_inflate 23 = .ok (.iconst 0, 1) := by decide +kernel
theorem d_JA_inflate_24 : decode b_JA_inflate 24 = .ok (.aload_n 0, 1) := by decide +kernel
theorem d_JA_inflate_25 : decode b_JA_inflate 25 = .ok (.getfield 79, 3) := by decide +kernel
theorem d_JA_inflate_28 : decode b_JA_inflate 28 = .ok (.invokestatic 125, 3) := by decide +kernel
theorem d_JA_inflate_31 : decode b_JA_inflate 31 = .ok (.aload_n 0, 1) := by decide +kernel
theorem d_JA_inflate_32 : decode b_JA_inflate 32 = .ok (.aload_n 1, 1) := by decide +kernel
theorem d_JA_inflate_33 : decode b_JA_inflate 33 = .ok (.putfield 15, 3) := by decide +kernel
theorem d_JA_inflate_36 : decode b_JA_inflate 36 = .ok (.aload_n 0, 1) := by decide +kernel
theorem d_JA_inflate_37 : decode b_JA_inflate 37 = .ok (.iconst 1, 1) := by decide +kernel
theorem d_JA_inflate_38 : decode b_JA_inflate 38 = .ok (.putfield 22, 3) := by decide +kernel
theorem d_JA_inflate_41 : decode b_JA_inflate 41 = .ok (.return_, 1) := by decide +kernel
theorem d_JL_inflate_0 : decode b_JL_inflate 0 = .ok (.aload_n 0, 1) := by decide +kernel
theorem d_JL_inflate_1 : decode b_JL_inflate 1 = .ok (.iload_n 1, 1) := by decide +kernel
theorem d_JL_inflate_2 : decode b_JL_inflate 2 = .ok (.aload_n 2, 1) := by decide +kernel
theorem d_JL_inflate_3 : decode b_JL_inflate 3 = .ok (.iload_n 3, 1) := by decide +kernel
theorem d_JL_inflate_4 : decode b_JL_inflate 4 = .ok (.iload 4, 2) := by decide +kernel
theorem d_JL_inflate_6 : decode b_JL_inflate 6 = .ok (.invokestatic 240, 3) := by decide +kernel
theorem d_JL_inflate_9 : decode b_JL_inflate 9 = .ok (.return_, 1) := by decide +kernel
theorem d_JU_inflate_0 : decode b_JU_inflate 0 = .ok (.iload_n 3, 1) := by decide +kernel
theorem d_JU_inflate_1 : decode b_JU_inflate 1 = .ok (.iload 4, 2) := by decide +kernel
theorem d_JU_inflate_3 : decode b_JU_inflate 3 = .ok (.aload_n 2, 1) := by decide +kernel
theorem d_JU_inflate_4 : decode b_JU_inflate 4 = .ok (.invokestatic 173, 3) := by decide +kernel
theorem d_JU_inflate_7 : decode b_JU_inflate 7 = .ok (.iconst 0, 1) := by decide +kernel
theorem d_JU_inflate_8 : decode b_JU_inflate 8 = .ok (.istore 5, 2) := by decide +kernel
theorem d_JU_inflate_10 : decode b_JU_inflate 10 = .ok (.iload 5, 2) := by decide +kernel
theorem d_JU_inflate_12 : decode b_JU_inflate 12 = .ok (.iload 4, 2) := by decide +kernel
theorem d_JU_inflate_14 : decode b_JU_inflate 14 = .ok (.if_icmp .ge 27, 3) := by decide +kernel
theorem d_JU_inflate_17 : decode b_JU_inflate 17 = .ok (.aload_n 2, 1) := by decide +kernel
theorem d_JU_inflate_18 : decode b_JU_inflate 18 = .ok (.iload_n 3, 1) := by decide +kernel
theorem d_JU_inflate_19 : decode b_JU_inflate 19 = .ok (.iinc 3 1, 3) := by decide +kernel
theorem d_JU_inflate_22 : decode b_JU_inflate 22 = .ok (.aload_n 0, 1) := by decide +kernel
theorem d_JU_inflate_23 : decode b_JU_inflate 23 = .ok (.iload_n 1, 1) := by decide +kernel
theorem d_JU_inflate_24 : decode b_JU_inflate 24 = .ok (.iinc 1 1, 3) := by decide +kernel
theorem d_JU_inflate_27 : decode b_JU_inflate 27 = .ok (.baload, 1) := by decide +kernel
theorem d_JU_inflate_28 : decode b_JU_inflate 28 = .ok (.sipush 255, 3) := by decide +kernel
theorem d_JU_inflate_31 : decode b_JU_inflate 31 = .ok (.iand, 1) := by decide +kernel
theorem d_JU_inflate_32 : decode b_JU_inflate 32 = .ok (.invokestatic 111, 3) := by decide +kernel
theorem d_JU_inflate_35 : decode b_JU_inflate 35 = .ok (.iinc 5 1, 3) := by decide +kernel
theorem d_JU_inflate_38 : decode b_JU_inflate 38 = .ok (.goto (-28), 3) := by decide +kernel
theorem d_JU_inflate_41 : decode b_JU_inflate 41 = .ok (.return_, 1) := by decide +kernel
theorem d_JU_putChar_0 : decode b_JU_putChar 0 = .ok (.getstatic 44, 3) := by decide +kernel
theorem d_JU_putChar_3 : decode b_JU_putChar 3 = .ok (.ifCond .ne 25, 3) := by decide +kernel
theorem d_JU_putChar_6 : decode b_JU_putChar 6 = .ok (.iload_n 1, 1) := by decide +kernel
theorem d_JU_putChar_7 : decode b_JU_putChar 7 = .ok (.ifCond .lt 11, 3) := by decide +kernel
theorem d_JU_putChar_10 : decode b_JU_putChar 10 = .ok (.iload_n 1, 1) := by decide +kernel
theorem d_JU_putChar_11 : decode b_JU_putChar 11 = .ok (.aload_n 0, 1) := by decide +kernel
theorem d_JU_putChar_12 : decode b_JU_putChar 12 = .ok (.invokestatic 48, 3) := by decide +kernel
theorem d_JU_putChar_15 : decode b_JU_putChar 15 = .ok (.if_icmp .lt 13, 3) := by decide +kernel
theorem d_JU_putChar_18 : decode b_JU_putChar 18 = .ok (.new 52, 3) := by decide +kernel
theorem d_JU_putChar_21 : decode b_JU_putChar 21 = .ok (.dup, 1) := by decide +kernel
theorem d_JU_putChar_22 : decode b_JU_putChar 22 = .ok (.ldc 54, 2) := by decide +kernel
theorem d_JU_putChar_24 : decode b_JU_putChar 24 = .ok (.invokespecial 56, 3) := by decide +kernel
theorem d_JU_putChar_27 : decode b_JU_putChar 27 = .ok (.athrow, 1) := by decide +kernel
theorem d_JU_putChar_28 : decode b_JU_putChar 28 = .ok (.iload_n 1, 1) := by decide +kernel
theorem d_JU_putChar_29 : decode b_JU_putChar 29 = .ok (.iconst 1, 1) := by decide +kernel
theorem d_JU_putChar_30 : decode b_JU_putChar 30 = .ok (.ishl, 1) := by decide +kernel
theorem d_JU_putChar_31 : decode b_JU_putChar 31 = .ok (.istore_n 1, 1) := by decide +kernel
theorem d_JU_putChar_32 : decode b_JU_putChar 32 = .ok (.aload_n 0, 1) := by decide +kernel
theorem d_JU_putChar_33 : decode b_JU_putChar 33 = .ok (.iload_n 1, 1) := by decide +kernel
theorem d_JU_putChar_34 : decode b_JU_putChar 34 = .ok (.iinc 1 1, 3) := by decide +kernel
theorem d_JU_putChar_37 : decode b_JU_putChar 37 = .ok (.iload_n 2, 1) := by decide +kernel
theorem d_JU_putChar_38 : decode b_JU_putChar 38 = .ok (.getstatic 59, 3) := by decide +kernel
theorem d_JU_putChar_41 : decode b_JU_putChar 41 = .ok (.ishr, 1) := by decide +kernel
theorem d_JU_putChar_42 : decode b_JU_putChar 42 = .ok (.i2b, 1) := by decide +kernel
theorem d_JU_putChar_43 : decode b_JU_putChar 43 = .ok (.bastore, 1) := by decide +kernel
theorem d_JU_putChar_44 : decode b_JU_putChar 44 = .ok (.aload_n 0, 1) := by decide +kernel
theorem d_JU_putChar_45 : decode b_JU_putChar 45 = .ok (.iload_n 1, 1) := by decide +kernel
theorem d_JU_putChar_46 : decode b_JU_putChar 46 = .ok (.iload_n 2, 1) := by decide +kernel
theorem d_JU_putChar_47 : decode b_JU_putChar 47 = .ok (.getstatic 63, 3) := by decide +kernel
theorem d_JU_putChar_50 : decode b_JU_putChar 50 = .ok (.ishr, 1) := by decide +kernel
theorem d_JU_putChar_51 : decode b_JU_putChar 51 = .ok (.i2b, 1) := by decide +kernel
theorem d_JU_putChar_52 : decode b_JU_putChar 52 = .ok (.bastore, 1) := by decide +kernel
theorem d_JU_putChar_53 : decode b_JU_putChar 53 = .ok (.return_, 1) := by decide +kernel
theorem d_JU_putCharSB_0 : decode b_JU_putCharSB 0 = .ok (.iload_n 1, 1) := by decide +kernel
theorem d_JU_putCharSB_1 : decode b_JU_putCharSB 1 = .ok (.aload_n 0, 1) := by decide +kernel
theorem d_JU_putCharSB_2 : decode b_JU_putCharSB 2 = .ok (.invokestatic 67, 3) := by decide +kernel
theorem d_JU_putCharSB_5 : decode b_JU_putCharSB 5 = .ok (.aload_n 0, 1) := by decide +kernel
theorem d_JU_putCharSB_6 : decode b_JU_putCharSB 6 = .ok (.iload_n 1, 1) := by decide +kernel
theorem d_JU_putCharSB_7 : decode b_JU_putCharSB 7 = .ok (.iload_n 2, 1) := by decide +kernel
theorem d_JU_putCharSB_8 : decode b_JU_putCharSB 8 = .ok (.invokestatic 111, 3) := by decide +kernel
theorem d_JU_putCharSB_11 : decode b_JU_putCharSB 11 = .ok (.return_, 1) := by decide +kernel
theorem d_JU_checkIndex_0 : decode b_JU_checkIndex 0 = .ok (.iload_n 0, 1) := by decide +kernel
theorem d_JU_checkIndex_1 : decode b_JU_checkIndex 1 = .ok (.aload_n 1, 1) := by decide +kernel
theorem d_JU_checkIndex_2 : decode b_JU_checkIndex 2 = .ok (.invokestatic 48, 3) := by decide +kernel
theorem d_JU_checkIndex_5 : decode b_JU_checkIndex 5 = .ok (.invokestatic 414, 3) := by decide +kernel
theorem d_JU_checkIndex_8 : decode b_JU_checkIndex 8 = .ok (.return_, 1) := by decide +kernel
theorem d_JS_checkIndex_0 : decode b_JS_checkIndex 0 = .ok (.iload_n 0, 1) := by decide +kernel
theorem d_JS_checkIndex_1 : decode b_JS_checkIndex 1 = .ok (.iload_n 1, 1) := by decide +kernel
theorem d_JS_checkIndex_2 : decode b_JS_checkIndex 2 = .ok (.getstatic 1053, 3) := by decide +kernel
theorem d_JS_checkIndex_5 : decode b_JS_checkIndex 5 = .ok (.invokestatic 1059, 3) := by decide +kernel
theorem d_JS_checkIndex_8 : decode b_JS_checkIndex 8 = .ok (.pop, 1) := by decide +kernel
theorem d_JS_checkIndex_9 : decode b_JS_checkIndex 9 = .ok (.return_, 1) := by decide +kernel
theorem d_JC_checkIndex_0 : decode b_JC_checkIndex 0 = .ok (.iload_n 0, 1) := by decide +kernel
theorem d_JC_checkIndex_1 : decode b_JC_checkIndex 1 = .ok (.ifCond .lt 8, 3) := by decide +kernel
theorem d_JC_checkIndex_4 : decode b_JC_checkIndex 4 = .ok (.iload_n 0, 1) := by decide +kernel
theorem d_JC_checkIndex_5 : decode b_JC_checkIndex 5 = .ok (.iload_n 1, 1) := by decide +kernel
theorem d_JC_checkIndex_6 : decode b_JC_checkIndex 6 = .ok (.if_icmp .lt 10, 3) := by decide +kernel
theorem d_JC_checkIndex_9 : decode b_JC_checkIndex 9 = .ok (.aload_n 2, 1) := by decide +kernel
theorem d_JC_checkIndex_10 : decode b_JC_checkIndex 10 = .ok (.iload_n 0, 1) := by decide +kernel
theorem d_JC_checkIndex_11 : decode b_JC_checkIndex 11 = .ok (.iload_n 1, 1) := by decide +kernel
theorem d_JC_checkIndex_12 : decode b_JC_checkIndex 12 = .ok (.invokestatic 95, 3) := by decide +kernel
theorem d_JC_checkIndex_15 : decode b_JC_checkIndex 15 = .ok (.athrow, 1) := by decide +kernel
theorem d_JC_checkIndex_16 : decode b_JC_checkIndex 16 = .ok (.iload_n 0, 1) := by decide +kernel
theorem d_JC_checkIndex_17 : decode b_JC_checkIndex 17 = .ok (.ireturn, 1) := by decide +kernel
theorem d_JB_toString_0 : decode b_JB_toString 0 = .ok (.new 18, 3) := by decide +kernel
theorem d_JB_toString_3 : decode b_JB_toString 3 = .ok (.dup, 1) := by decide +kernel
theorem d_JB_toString_4 : decode b_JB_toString 4 = .ok (.aload_n 0, 1) := by decide +kernel
theorem d_JB_toString_5 : decode b_JB_toString 5 = .ok (.invokespecial 137, 3) := by decide +kernel
theorem d_JB_toString_8 : decode b_JB_toString 8 = .ok (.areturn, 1) := by decide +kernel
theorem d_JS_init2_0 : decode b_JS_init2 0 = .ok (.aload_n 0, 1) := by decide +kernel
theorem d_JS_init2_1 : decode b_JS_init2 1 = .ok (.aload_n 1, 1) := by decide +kernel
theorem d_JS_init2_2 : decode b_JS_init2 2 = .ok (.aconst_null, 1) := by decide +kernel
theorem d_JS_init2_3 : decode b_JS_init2 3 = .ok (.invokespecial 489, 3) := by decide +kernel
theorem d_JS_init2_6 : decode b_JS_init2 6 = .ok (.return_, 1) := by decide +kernel
theorem d_JS_init3_0 : decode b_JS_init3 0 = .ok (.aload_n 0, 1) := by decide +kernel
theorem d_JS_init3_1 : decode b_JS_init3 1 = .ok (.invokespecial 1, 3) := by decide +kernel
theorem d_JS_init3_4 : decode b_JS_init3 4 = .ok (.aload_n 1, 1) := by decide +kernel
theorem d_JS_init3_5 : decode b_JS_init3 5 = .ok (.invokevirtual 552, 3) := by decide +kernel
theorem d_JS_init3_8 : decode b_JS_init3 8 = .ok (.astore_n 3, 1) := by decide +kernel
theorem d_JS_init3_9 : decode b_JS_init3 9 = .ok (.aload_n 1, 1) := by decide +kernel
theorem d_JS_init3_10 : decode b_JS_init3 10 = .ok (.invokevirtual 549, 3) := by decide +kernel
theorem d_JS_init3_13 : decode b_JS_init3 13 = .ok (.istore 4, 2) := by decide +kernel
theorem d_JS_init3_15 : decode b_JS_init3 15 = .ok (.aload_n 1, 1) := by decide +kernel
theorem d_JS_init3_16 : decode b_JS_init3 16 = .ok (.invokevirtual 1047, 3) := by decide +kernel
theorem d_JS_init3_19 : decode b_JS_init3 19 = .ok (.ifCond .eq 22, 3) := by decide +kernel
theorem d_JS_init3_22 : decode b_JS_init3 22 = .ok (.aload_n 0, 1) := by decide +kernel
theorem d_JS_init3_23 : decode b_JS_init3 23 = .ok (.iconst 0, 1) := by decide +kernel
theorem d_JS_init3_24 : decode b_JS_init3 24 = .ok (.putfield 15, 3) := by decide +kernel
theorem d_JS_init3_27 : decode b_JS_init3 27 = .ok (.aload_n 0, 1) := by decide +kernel
theorem d_JS_init3_28 : decode b_JS_init3 28 = .ok (.aload_n 3, 1) := by decide +kernel
theorem d_JS_init3_29 : decode b_JS_init3 29 = .ok (.iconst 0, 1) := by decide +kernel
theorem d_JS_init3_30 : decode b_JS_init3 30 = .ok (.iload 4, 2) := by decide +kernel
theorem d_JS_init3_32 : decode b_JS_init3 32 = .ok (.invokestatic 54, 3) := by decide +kernel
theorem d_JS_init3_35 : decode b_JS_init3 35 = .ok (.putfield 9, 3) := by decide +kernel
theorem d_JS_init3_38 : decode b_JS_init3 38 = .ok (.goto 59, 3) := by decide +kernel
theorem d_JS_init3_41 : decode b_JS_init3 41 = .ok (.getstatic 38, 3) := by decide +kernel
theorem d_JS_init3_44 : decode b_JS_init3 44 = .ok (.ifCond .eq 35, 3) := by decide +kernel
theorem d_JS_init3_47 : decode b_JS_init3 47 = .ok (.aload_n 1, 1) := by decide +kernel
theorem d_JS_init3_48 : decode b_JS_init3 48 = .ok (.getfield 1048, 3) := by decide +kernel
theorem d_JS_init3_51 : decode b_JS_init3 51 = .ok (.ifCond .eq 28, 3) := by decide +kernel
theorem d_JS_init3_54 : decode b_JS_init3 54 = .ok (.aload_n 0, 1) := by decide +kernel
theorem d_JS_init3_55 : decode b_JS_init3 55 = .ok (.aload_n 3, 1) := by decide +kernel
theorem d_JS_init3_56 : decode b_JS_init3 56 = .ok (.iconst 0, 1) := by decide +kernel
theorem d_JS_init3_57 : decode b_JS_init3 57 = .ok (.iload 4, 2) := by decide +kernel
theorem d_JS_init3_59 : decode b_JS_init3 59 = .ok (.invokestatic 1051, 3) := by decide +kernel
theorem d_JS_init3_62 : decode b_JS_init3 62 = .ok (.putfield 9, 3) := by decide +kernel
theorem d_JS_init3_65 : decode b_JS_init3 65 = .ok (.aload_n 0, 1) := by decide +kernel
theorem d_JS_init3_66 : decode b_JS_init3 66 = .ok (.aload_n 0, 1) := by decide +kernel
theorem d_JS_init3_67 : decode b_JS_init3 67 = .ok (.getfield 9, 3) := by decide +kernel
theorem d_JS_init3_70 : decode b_JS_init3 70 = .ok (.iload 4, 2) := by decide +kernel
theorem d_JS_init3_72 : decode b_JS_init3 72 = .ok (.invokestatic 47, 3) := by decide +kernel
theorem d_JS_init3_75 : decode b_JS_init3 75 = .ok (.putfield 15, 3) := by decide +kernel
theorem d_JS_init3_78 : decode b_JS_init3 78 = .ok (.return_, 1) := by decide +kernel
theorem d_JS_init3_79 : decode b_JS_init3 79 = .ok (.aload_n 0, 1) := by decide +kernel
theorem d_JS_init3_80 : decode b_JS_init3 80 = .ok (.iconst 1, 1) := by decide +kernel
theorem d_JS_init3_81 : decode b_JS_init3 81 = .ok (.putfield 15, 3) := by decide +kernel
theorem d_JS_init3_84 : decode b_JS_init3 84 = .ok (.aload_n 0, 1) := by decide +kernel
theorem d_JS_init3_85 : decode b_JS_init3 85 = .ok (.aload_n 3, 1) := by decide +kernel
theorem d_JS_init3_86 : decode b_JS_init3 86 = .ok (.iconst 0, 1) := by decide +kernel
theorem d_JS_init3_87 : decode b_JS_init3 87 = .ok (.iload 4, 2) := by decide +kernel
theorem d_JS_init3_89 : decode b_JS_init3 89 = .ok (.iconst 1, 1) := by decide +kernel
theorem d_JS_init3_90 : decode b_JS_init3 90 = .ok (.ishl, 1) := by decide +kernel
theorem d_JS_init3_91 : decode b_JS_init3 91 = .ok (.invokestatic 54, 3) := by decide +kernel
theorem d_JS_init3_94 : decode b_JS_init3 94 = .ok (.putfield 9, 3) := by decide +kernel
theorem d_JS_init3_97 : decode b_JS_init3 97 = .ok (.return_, 1) := by decide +kernel
theorem d_JA_getValue_0 : decode b_JA_getValue 0 = .ok (.aload_n 0, 1) := by decide +kernel
theorem d_JA_getValue_1 : decode b_JA_getValue 1 = .ok (.getfield 15, 3) := by decide +kernel
theorem d_JA_getValue_4 : decode b_JA_getValue 4 = .ok (.areturn, 1) := by decide +kernel
theorem d_JB_length_0 : decode b_JB_length 0 = .ok (.aload_n 0, 1) := by decide +kernel
theorem d_JB_length_1 : decode b_JB_length 1 = .ok (.invokespecial 343, 3) := by decide +kernel
theorem d_JB_length_4 : decode b_JB_length 4 = .ok (.ireturn, 1) := by decide +kernel
theorem d_JA_length_0 : decode b_JA_length 0 = .ok (.aload_n 0, 1) := by decide +kernel
theorem d_JA_length_1 : decode b_JA_length 1 = .ok (.getfield 79, 3) := by decide +kernel
theorem d_JA_length_4 : decode b_JA_length 4 = .ok (.ireturn, 1) := by decide +kernel
theorem d_G_array_0 : decode b_G_array 0 = .ok (.iload_n 2, 1) := by decide +kernel
theorem d_G_array_1 : decode b_G_array 1 = .ok (.ifCond .lt 17, 3) := by decide +kernel
theorem d_G_array_4 : decode b_G_array 4 = .ok (.iload_n 2, 1) := by decide +kernel
theorem d_G_array_5 : decode b_G_array 5 = .ok (.iload_n 1, 1) := by decide +kernel
theorem d_G_array_6 : decode b_G_array 6 = .ok (.ifCond .eq 7, 3) := by decide +kernel
theorem d_G_array_9 : decode b_G_array 9 = .ok (.iconst 4, 1) := by decide +kernel
theorem d_G_array_10 : decode b_G_array 10 = .ok (.goto 5, 3) := by decide +kernel
theorem d_G_array_13 : decode b_G_array 13 = .ok (.bipush 6, 2) := by decide +kernel
theorem d_G_array_15 : decode b_G_array 15 = .ok (.if_icmp .le 5, 3) := by decide +kernel
theorem d_G_array_18 : decode b_G_array 18 = .ok (.iconst (-1), 1) := by decide +kernel
theorem d_G_array_19 : decode b_G_array 19 = .ok (.ireturn, 1) := by decide +kernel
theorem d_G_array_20 : decode b_G_array 20 = .ok (.aload_n 0, 1) := by decide +kernel
theorem d_G_array_21 : decode b_G_array 21 = .ok (.getfield 70, 3) := by decide +kernel
theorem d_G_array_24 : decode b_G_array 24 = .ok (.bipush 12, 2) := by decide +kernel
theorem d_G_array_26 : decode b_G_array 26 = .ok (.if_icmp .lt 6, 3) := by decide +kernel
theorem d_G_array_29 : decode b_G_array 29 = .ok (.bipush (-2), 2) := by decide +kernel
theorem d_G_array_31 : decode b_G_array 31 = .ok (.ireturn, 1) := by decide +kernel
theorem d_G_array_32 : decode b_G_array 32 = .ok (.iload_n 2, 1) := by decide +kernel
theorem d_G_array_33 : decode b_G_array 33 = .ok (.newarray .int, 2) := by decide +kernel
theorem d_G_array_35 : decode b_G_array 35 = .ok (.astore_n 3, 1) := by decide +kernel
theorem d_G_array_36 : decode b_G_array 36 = .ok (.aload_n 3, 1) := by decide +kernel
theorem d_G_array_37 : decode b_G_array 37 = .ok (.iload_n 1, 1) := by decide +kernel
theorem d_G_array_38 : decode b_G_array 38 = .ok (.ifCond .eq 8, 3) := by decide +kernel
theorem d_G_array_41 : decode b_G_array 41 = .ok (.bipush 7, 2) := by decide +kernel
theorem d_G_array_43 : decode b_G_array 43 = .ok (.goto 4, 3) := by decide +kernel
theorem d_G_array_46 : decode b_G_array 46 = .ok (.iconst 2, 1) := by decide +kernel
theorem d_G_array_47 : decode b_G_array 47 = .ok (.invokestatic 96, 3) := by decide +kernel
theorem d_G_array_50 : decode b_G_array 50 = .ok (.aload_n 0, 1) := by decide +kernel
theorem d_G_array_51 : decode b_G_array 51 = .ok (.new 15, 3) := by decide +kernel
theorem d_G_array_54 : decode b_G_array 54 = .ok (.dup, 1) := by decide +kernel
theorem d_G_array_55 : decode b_G_array 55 = .ok (.iload_n 1, 1) := by decide +kernel
theorem d_G_array_56 : decode b_G_array 56 = .ok (.ifCond .eq 7, 3) := by decide +kernel
theorem d_G_array_59 : decode b_G_array 59 = .ok (.iconst 3, 1) := by decide +kernel
theorem d_G_array_60 : decode b_G_array 60 = .ok (.goto 4, 3) := by decide +kernel
theorem d_G_array_63 : decode b_G_array 63 = .ok (.iconst 2, 1) := by decide +kernel
theorem d_G_array_64 : decode b_G_array 64 = .ok (.iconst (-1), 1) := by decide +kernel
theorem d_G_array_65 : decode b_G_array 65 = .ok (.aload_n 3, 1) := by decide +kernel
theorem d_G_array_66 : decode b_G_array 66 = .ok (.ldc 81, 2) := by decide +kernel
theorem d_G_array_68 : decode b_G_array 68 = .ok (.invokespecial 83, 3) := by decide +kernel
theorem d_G_array_71 : decode b_G_array 71 = .ok (.invokevirtual 86, 3) := by decide +kernel
theorem d_G_array_74 : decode b_G_array 74 = .ok (.ireturn, 1) := by decide +kernel
theorem d_G_constant_0 : decode b_G_constant 0 = .ok (.aload_n 0, 1) := by decide +kernel
theorem d_G_constant_1 : decode b_G_constant 1 = .ok (.iload_n 1, 1) := by decide +kernel
theorem d_G_constant_2 : decode b_G_constant 2 = .ok (.invokevirtual 48, 3) := by decide +kernel
theorem d_G_constant_5 : decode b_G_constant 5 = .ok (.ifCond .eq 13, 3) := by decide +kernel
theorem d_G_constant_8 : decode b_G_constant 8 = .ok (.iload_n 2, 1) := by decide +kernel
theorem d_G_constant_9 : decode b_G_constant 9 = .ok (.ifCond .lt 9, 3) := by decide +kernel
theorem d_G_constant_12 : decode b_G_constant 12 = .ok (.iload_n 2, 1) := by decide +kernel
theorem d_G_constant_13 : decode b_G_constant 13 = .ok (.bipush 26, 2) := by decide +kernel
theorem d_G_constant_15 : decode b_G_constant 15 = .ok (.if_icmp .lt 5, 3) := by decide +kernel
theorem d_G_constant_18 : decode b_G_constant 18 = .ok (.iconst (-1), 1) := by decide +kernel
theorem d_G_constant_19 : decode b_G_constant 19 = .ok (.ireturn, 1) := by decide +kernel
theorem d_G_constant_20 : decode b_G_constant 20 = .ok (.aload_n 0, 1) := by decide +kernel
theorem d_G_constant_21 : decode b_G_constant 21 = .ok (.getfield 11, 3) := by decide +kernel
theorem d_G_constant_24 : decode b_G_constant 24 = .ok (.iload_n 1, 1) := by decide +kernel
theorem d_G_constant_25 : decode b_G_constant 25 = .ok (.aaload, 1) := by decide +kernel
theorem d_G_constant_26 : decode b_G_constant 26 = .ok (.getfield 52, 3) := by decide +kernel
theorem d_G_constant_29 : decode b_G_constant 29 = .ok (.iconst 3, 1) := by decide +kernel
theorem d_G_constant_30 : decode b_G_constant 30 = .ok (.if_icmp .eq 5, 3) := by decide +kernel
theorem d_G_constant_33 : decode b_G_constant 33 = .ok (.iconst (-1), 1) := by decide +kernel
theorem d_G_constant_34 : decode b_G_constant 34 = .ok (.ireturn, 1) := by decide +kernel
theorem d_G_constant_35 : decode b_G_constant 35 = .ok (.aload_n 0, 1) := by decide +kernel
theorem d_G_constant_36 : decode b_G_constant 36 = .ok (.getfield 70, 3) := by decide +kernel
theorem d_G_constant_39 : decode b_G_constant 39 = .ok (.bipush 12, 2) := by decide +kernel
theorem d_G_constant_41 : decode b_G_constant 41 = .ok (.if_icmp .lt 6, 3) := by decide +kernel
theorem d_G_constant_44 : decode b_G_constant 44 = .ok (.bipush (-2), 2) := by decide +kernel
theorem d_G_constant_46 : decode b_G_constant 46 = .ok (.ireturn, 1) := by decide +kernel
theorem d_G_constant_47 : decode b_G_constant 47 = .ok (.ldc 102, 2) := by decide +kernel
theorem d_G_constant_49 : decode b_G_constant 49 = .ok (.iload_n 2, 1) := by decide +kernel
theorem d_G_constant_50 : decode b_G_constant 50 = .ok (.iload_n 2, 1) := by decide +kernel
theorem d_G_constant_51 : decode b_G_constant 51 = .ok (.iconst 1, 1) := by decide +kernel
theorem d_G_constant_52 : decode b_G_constant 52 = .ok (.iadd, 1) := by decide +kernel
theorem d_G_constant_53 : decode b_G_constant 53 = .ok (.invokevirtual 104, 3) := by decide +kernel
theorem d_G_constant_56 : decode b_G_constant 56 = .ok (.astore_n 3, 1) := by decide +kernel
theorem d_G_constant_57 : decode b_G_constant 57 = .ok (.aload_n 0, 1) := by decide +kernel
theorem d_G_constant_58 : decode b_G_constant 58 = .ok (.new 15, 3) := by decide +kernel
theorem d_G_constant_61 : decode b_G_constant 61 = .ok (.dup, 1) := by decide +kernel
theorem d_G_constant_62 : decode b_G_constant 62 = .ok (.iconst 4, 1) := by decide +kernel
theorem d_G_constant_63 : decode b_G_constant 63 = .ok (.iload_n 1, 1) := by decide +kernel
theorem d_G_constant_64 : decode b_G_constant 64 = .ok (.iconst 0, 1) := by decide +kernel
theorem d_G_constant_65 : decode b_G_constant 65 = .ok (.newarray .int, 2) := by decide +kernel
theorem d_G_constant_67 : decode b_G_constant 67 = .ok (.aload_n 3, 1) := by decide +kernel
theorem d_G_constant_68 : decode b_G_constant 68 = .ok (.invokespecial 83, 3) := by decide +kernel
theorem d_G_constant_71 : decode b_G_constant 71 = .ok (.invokevirtual 86, 3) := by decide +kernel
theorem d_G_constant_74 : decode b_G_constant 74 = .ok (.ireturn, 1) := by decide +kernel
theorem d_G_set_0 : decode b_G_set 0 = .ok (.aload_n 0, 1) := by decide +kernel
theorem d_G_set_1 : decode b_G_set 1 = .ok (.iload_n 1, 1) := by decide +kernel
theorem d_G_set_2 : decode b_G_set 2 = .ok (.invokevirtual 110, 3) := by decide +kernel
theorem d_G_set_5 : decode b_G_set 5 = .ok (.ifCond .ne 5, 3) := by decide +kernel
theorem d_G_set_8 : decode b_G_set 8 = .ok (.iconst (-1), 1) := by decide +kernel
theorem d_G_set_9 : decode b_G_set 9 = .ok (.ireturn, 1) := by decide +kernel
theorem d_G_set_10 : decode b_G_set 10 = .ok (.aload_n 0, 1) := by decide +kernel
theorem d_G_set_11 : decode b_G_set 11 = .ok (.getfield 17, 3) := by decide +kernel
theorem d_G_set_14 : decode b_G_set 14 = .ok (.iload_n 1, 1) := by decide +kernel
theorem d_G_set_15 : decode b_G_set 15 = .ok (.aaload, 1) := by decide +kernel
theorem d_G_set_16 : decode b_G_set 16 = .ok (.astore 5, 2) := by decide +kernel
theorem d_G_set_18 : decode b_G_set 18 = .ok (.iload_n 2, 1) := by decide +kernel
theorem d_G_set_19 : decode b_G_set 19 = .ok (.ifCond .lt 13, 3) := by decide +kernel
theorem d_G_set_22 : decode b_G_set 22 = .ok (.iload_n 2, 1) := by decide +kernel
theorem d_G_set_23 : decode b_G_set 23 = .ok (.aload 5, 2) := by decide +kernel
theorem d_G_set_25 : decode b_G_set 25 = .ok (.getfield 113, 3) := by decide +kernel
theorem d_G_set_28 : decode b_G_set 28 = .ok (.arraylength, 1) := by decide +kernel
theorem d_G_set_29 : decode b_G_set 29 = .ok (.if_icmp .lt 5, 3) := by decide +kernel
theorem d_G_set_32 : decode b_G_set 32 = .ok (.iconst (-1), 1) := by decide +kernel
theorem d_G_set_33 : decode b_G_set 33 = .ok (.ireturn, 1) := by decide +kernel
theorem d_G_set_34 : decode b_G_set 34 = .ok (.aload 5, 2) := by decide +kernel
theorem d_G_set_36 : decode b_G_set 36 = .ok (.getfield 113, 3) := by decide +kernel
theorem d_G_set_39 : decode b_G_set 39 = .ok (.iload_n 2, 1) := by decide +kernel
theorem d_G_set_40 : decode b_G_set 40 = .ok (.iaload, 1) := by decide +kernel
theorem d_G_set_41 : decode b_G_set 41 = .ok (.bipush 6, 2) := by decide +kernel
theorem d_G_set_43 : decode b_G_set 43 = .ok (.if_icmp .lt 20, 3) := by decide +kernel
theorem d_G_set_46 : decode b_G_set 46 = .ok (.aload_n 0, 1) := by decide +kernel
theorem d_G_set_47 : decode b_G_set 47 = .ok (.lload_n 3, 1) := by decide +kernel
theorem d_G_set_48 : decode b_G_set 48 = .ok (.aload 5, 2) := by decide +kernel
theorem d_G_set_50 : decode b_G_set 50 = .ok (.getfield 113, 3) := by decide +kernel
theorem d_G_set_53 : decode b_G_set 53 = .ok (.iload_n 2, 1) := by decide +kernel
theorem d_G_set_54 : decode b_G_set 54 = .ok (.iaload, 1) := by decide +kernel
theorem d_G_set_55 : decode b_G_set 55 = .ok (.invokevirtual 116, 3) := by decide +kernel
theorem d_G_set_58 : decode b_G_set 58 = .ok (.ifCond .ne 5, 3) := by decide +kernel
theorem d_G_set_61 : decode b_G_set 61 = .ok (.iconst (-1), 1) := by decide +kernel
theorem d_G_set_62 : decode b_G_set 62 = .ok (.ireturn, 1) := by decide +kernel
theorem d_G_set_63 : decode b_G_set 63 = .ok (.aload 5, 2) := by decide +kernel
theorem d_G_set_65 : decode b_G_set 65 = .ok (.getfield 120, 3) := by decide +kernel
theorem d_G_set_68 : decode b_G_set 68 = .ok (.iload_n 2, 1) := by decide +kernel
theorem d_G_set_69 : decode b_G_set 69 = .ok (.lload_n 3, 1) := by decide +kernel
theorem d_G_set_70 : decode b_G_set 70 = .ok (.lastore, 1) := by decide +kernel
theorem d_G_set_71 : decode b_G_set 71 = .ok (.iconst 0, 1) := by decide +kernel
theorem d_G_set_72 : decode b_G_set 72 = .ok (.ireturn, 1) := by decide +kernel
theorem d_G_isMade_0 : decode b_G_isMade 0 = .ok (.iload_n 1, 1) := by decide +kernel
theorem d_G_isMade_1 : decode b_G_isMade 1 = .ok (.ifCond .lt 15, 3) := by decide +kernel
theorem d_G_isMade_4 : decode b_G_isMade 4 = .ok (.iload_n 1, 1) := by decide +kernel
theorem d_G_isMade_5 : decode b_G_isMade 5 = .ok (.aload_n 0, 1) := by decide +kernel
theorem d_G_isMade_6 : decode b_G_isMade 6 = .ok (.getfield 70, 3) := by decide +kernel
theorem d_G_isMade_9 : decode b_G_isMade 9 = .ok (.if_icmp .ge 7, 3) := by decide +kernel
theorem d_G_isMade_12 : decode b_G_isMade 12 = .ok (.iconst 1, 1) := by decide +kernel
theorem d_G_isMade_13 : decode b_G_isMade 13 = .ok (.goto 4, 3) := by decide +kernel
theorem d_G_isMade_16 : decode b_G_isMade 16 = .ok (.iconst 0, 1) := by decide +kernel
theorem d_G_isMade_17 : decode b_G_isMade 17 = .ok (.ireturn, 1) := by decide +kernel
theorem d_G_mayBeHeld_0 : decode b_G_mayBeHeld 0 = .ok (.lload_n 1, 1) := by decide +kernel
theorem d_G_mayBeHeld_1 : decode b_G_mayBeHeld 1 = .ok (.ldc2_w 210, 3) := by decide +kernel
theorem d_G_mayBeHeld_4 : decode b_G_mayBeHeld 4 = .ok (.lcmp, 1) := by decide +kernel
theorem d_G_mayBeHeld_5 : decode b_G_mayBeHeld 5 = .ok (.ifCond .ne 5, 3) := by decide +kernel
theorem d_G_mayBeHeld_8 : decode b_G_mayBeHeld 8 = .ok (.iconst 1, 1) := by decide +kernel
theorem d_G_mayBeHeld_9 : decode b_G_mayBeHeld 9 = .ok (.ireturn, 1) := by decide +kernel
theorem d_G_mayBeHeld_10 : decode b_G_mayBeHeld 10 = .ok (.lload_n 1, 1) := by decide +kernel
theorem d_G_mayBeHeld_11 : decode b_G_mayBeHeld 11 = .ok (.lconst 0, 1) := by decide +kernel
theorem d_G_mayBeHeld_12 : decode b_G_mayBeHeld 12 = .ok (.lcmp, 1) := by decide +kernel
theorem d_G_mayBeHeld_13 : decode b_G_mayBeHeld 13 = .ok (.ifCond .lt 13, 3) := by decide +kernel
theorem d_G_mayBeHeld_16 : decode b_G_mayBeHeld 16 = .ok (.lload_n 1, 1) := by decide +kernel
theorem d_G_mayBeHeld_17 : decode b_G_mayBeHeld 17 = .ok (.aload_n 0, 1) := by decide +kernel
theorem d_G_mayBeHeld_18 : decode b_G_mayBeHeld 18 = .ok (.getfield 70, 3) := by decide +kernel
theorem d_G_mayBeHeld_21 : decode b_G_mayBeHeld 21 = .ok (.i2l, 1) := by decide +kernel
theorem d_G_mayBeHeld_22 : decode b_G_mayBeHeld 22 = .ok (.lcmp, 1) := by decide +kernel
theorem d_G_mayBeHeld_23 : decode b_G_mayBeHeld 23 = .ok (.ifCond .lt 5, 3) := by decide +kernel
theorem d_G_mayBeHeld_26 : decode b_G_mayBeHeld 26 = .ok (.iconst 0, 1) := by decide +kernel
theorem d_G_mayBeHeld_27 : decode b_G_mayBeHeld 27 = .ok (.ireturn, 1) := by decide +kernel
theorem d_G_mayBeHeld_28 : decode b_G_mayBeHeld 28 = .ok (.iload_n 3, 1) := by decide +kernel
theorem d_G_mayBeHeld_29 : decode b_G_mayBeHeld 29 = .ok (.bipush 7, 2) := by decide +kernel
theorem d_G_mayBeHeld_31 : decode b_G_mayBeHeld 31 = .ok (.if_icmp .eq 17, 3) := by decide +kernel
theorem d_G_mayBeHeld_34 : decode b_G_mayBeHeld 34 = .ok (.aload_n 0, 1) := by decide +kernel
theorem d_G_mayBeHeld_35 : decode b_G_mayBeHeld 35 = .ok (.getfield 17, 3) := by decide +kernel
theorem d_G_mayBeHeld_38 : decode b_G_mayBeHeld 38 = .ok (.lload_n 1, 1) := by decide +kernel
theorem d_G_mayBeHeld_39 : decode b_G_mayBeHeld 39 = .ok (.l2i, 1) := by decide +kernel
theorem d_G_mayBeHeld_40 : decode b_G_mayBeHeld 40 = .ok (.aaload, 1) := by decide +kernel
theorem d_G_mayBeHeld_41 : decode b_G_mayBeHeld 41 = .ok (.getfield 174, 3) := by decide +kernel
theorem d_G_mayBeHeld_44 : decode b_G_mayBeHeld 44 = .ok (.iconst 2, 1) := by decide +kernel
theorem d_G_mayBeHeld_45 : decode b_G_mayBeHeld 45 = .ok (.if_icmp .ne 7, 3) := by decide +kernel
theorem d_G_mayBeHeld_48 : decode b_G_mayBeHeld 48 = .ok (.iconst 1, 1) := by decide +kernel
theorem d_G_mayBeHeld_49 : decode b_G_mayBeHeld 49 = .ok (.goto 4, 3) := by decide +kernel
theorem d_G_mayBeHeld_52 : decode b_G_mayBeHeld 52 = .ok (.iconst 0, 1) := by decide +kernel
theorem d_G_mayBeHeld_53 : decode b_G_mayBeHeld 53 = .ok (.ireturn, 1) := by decide +kernel
theorem d_G_replace_0 : decode b_G_replace 0 = .ok (.aload_n 0, 1) := by decide +kernel
theorem d_G_replace_1 : decode b_G_replace 1 = .ok (.iload_n 1, 1) := by decide +kernel
theorem d_G_replace_2 : decode b_G_replace 2 = .ok (.invokevirtual 124, 3) := by decide +kernel
theorem d_G_replace_5 : decode b_G_replace 5 = .ok (.ifCond .eq 8, 3) := by decide +kernel
theorem d_G_replace_8 : decode b_G_replace 8 = .ok (.iload_n 2, 1) := by decide +kernel
theorem d_G_replace_9 : decode b_G_replace 9 = .ok (.iload_n 1, 1) := by decide +kernel
theorem d_G_replace_10 : decode b_G_replace 10 = .ok (.if_icmp .ne 5, 3) := by decide +kernel
theorem d_G_replace_13 : decode b_G_replace 13 = .ok (.iconst (-1), 1) := by decide +kernel
theorem d_G_replace_14 : decode b_G_replace 14 = .ok (.ireturn, 1) := by decide +kernel
theorem d_G_replace_15 : decode b_G_replace 15 = .ok (.iload_n 2, 1) := by decide +kernel
theorem d_G_replace_16 : decode b_G_replace 16 = .ok (.iconst (-1), 1) := by decide +kernel
theorem d_G_replace_17 : decode b_G_replace 17 = .ok (.if_icmp .eq 13, 3) := by decide +kernel
theorem d_G_replace_20 : decode b_G_replace 20 = .ok (.aload_n 0, 1) := by decide +kernel
theorem d_G_replace_21 : decode b_G_replace 21 = .ok (.iload_n 2, 1) := by decide +kernel
theorem d_G_replace_22 : decode b_G_replace 22 = .ok (.invokevirtual 110, 3) := by decide +kernel
theorem d_G_replace_25 : decode b_G_replace 25 = .ok (.ifCond .ne 5, 3) := by decide +kernel
theorem d_G_replace_28 : decode b_G_replace 28 = .ok (.iconst (-1), 1) := by decide +kernel
theorem d_G_replace_29 : decode b_G_replace 29 = .ok (.ireturn, 1) := by decide +kernel
theorem d_G_replace_30 : decode b_G_replace 30 = .ok (.aload_n 0, 1) := by decide +kernel
theorem d_G_replace_31 : decode b_G_replace 31 = .ok (.getfield 17, 3) := by decide +kernel
theorem d_G_replace_34 : decode b_G_replace 34 = .ok (.iload_n 1, 1) := by decide +kernel
theorem d_G_replace_35 : decode b_G_replace 35 = .ok (.aaload, 1) := by decide +kernel
theorem d_G_replace_36 : decode b_G_replace 36 = .ok (.iload_n 2, 1) := by decide +kernel
theorem d_G_replace_37 : decode b_G_replace 37 = .ok (.putfield 127, 3) := by decide +kernel
theorem d_G_replace_40 : decode b_G_replace 40 = .ok (.iconst 0, 1) := by decide +kernel
theorem d_G_replace_41 : decode b_G_replace 41 = .ok (.ireturn, 1) := by decide +kernel
theorem d_G_isInstance_0 : decode b_G_isInstance 0 = .ok (.aload_n 0, 1) := by decide +kernel
theorem d_G_isInstance_1 : decode b_G_isInstance 1 = .ok (.iload_n 1, 1) := by decide +kernel
theorem d_G_isInstance_2 : decode b_G_isInstance 2 = .ok (.invokevirtual 110, 3) := by decide +kernel
theorem d_G_isInstance_5 : decode b_G_isInstance 5 = .ok (.ifCond .eq 19, 3) := by decide +kernel
theorem d_G_isInstance_8 : decode b_G_isInstance 8 = .ok (.aload_n 0, 1) := by decide +kernel
theorem d_G_isInstance_9 : decode b_G_isInstance 9 = .ok (.getfield 17, 3) := by decide +kernel
theorem d_G_isInstance_12 : decode b_G_isInstance 12 = .ok (.iload_n 1, 1) := by decide +kernel
theorem d_G_isInstance_13 : decode b_G_isInstance 13 = .ok (.aaload, 1) := by decide +kernel
theorem d_G_isInstance_14 : decode b_G_isInstance 14 = .ok (.getfield 174, 3) := by decide +kernel
theorem d_G_isInstance_17 : decode b_G_isInstance 17 = .ok (.ifCond .ne 7, 3) := by decide +kernel
theorem d_G_isInstance_20 : decode b_G_isInstance 20 = .ok (.iconst 1, 1) := by decide +kernel
theorem d_G_isInstance_21 : decode b_G_isInstance 21 = .ok (.goto 4, 3) := by decide +kernel
theorem d_G_isInstance_24 : decode b_G_isInstance 24 = .ok (.iconst 0, 1) := by decide +kernel
theorem d_G_isInstance_25 : decode b_G_isInstance 25 = .ok (.ireturn, 1) := by decide +kernel
theorem d_G_extra_0 : decode b_G_extra 0 = .ok (.aload_n 0, 1) := by decide +kernel
theorem d_G_extra_1 : decode b_G_extra 1 = .ok (.iload_n 1, 1) := by decide +kernel
theorem d_G_extra_2 : decode b_G_extra 2 = .ok (.invokevirtual 124, 3) := by decide +kernel
theorem d_G_extra_5 : decode b_G_extra 5 = .ok (.ifCond .ne 5, 3) := by decide +kernel
theorem d_G_extra_8 : decode b_G_extra 8 = .ok (.iconst (-1), 1) := by decide +kernel
theorem d_G_extra_9 : decode b_G_extra 9 = .ok (.ireturn, 1) := by decide +kernel
theorem d_G_extra_10 : decode b_G_extra 10 = .ok (.aload_n 0, 1) := by decide +kernel
theorem d_G_extra_11 : decode b_G_extra 11 = .ok (.getfield 17, 3) := by decide +kernel
theorem d_G_extra_14 : decode b_G_extra 14 = .ok (.iload_n 1, 1) := by decide +kernel
theorem d_G_extra_15 : decode b_G_extra 15 = .ok (.aaload, 1) := by decide +kernel
theorem d_G_extra_16 : decode b_G_extra 16 = .ok (.iload_n 2, 1) := by decide +kernel
theorem d_G_extra_17 : decode b_G_extra 17 = .ok (.putfield 130, 3) := by decide +kernel
theorem d_G_extra_20 : decode b_G_extra 20 = .ok (.iconst 0, 1) := by decide +kernel
theorem d_G_extra_21 : decode b_G_extra 21 = .ok (.ireturn, 1) := by decide +kernel
theorem d_G_data_0 : decode b_G_data 0 = .ok (.iload_n 3, 1) := by decide +kernel
theorem d_G_data_1 : decode b_G_data 1 = .ok (.iconst 1, 1) := by decide +kernel
theorem d_G_data_2 : decode b_G_data 2 = .ok (.if_icmp .lt 9, 3) := by decide +kernel
theorem d_G_data_5 : decode b_G_data 5 = .ok (.iload_n 3, 1) := by decide +kernel
theorem d_G_data_6 : decode b_G_data 6 = .ok (.bipush 8, 2) := by decide +kernel
theorem d_G_data_8 : decode b_G_data 8 = .ok (.if_icmp .le 5, 3) := by decide +kernel
theorem d_G_data_11 : decode b_G_data 11 = .ok (.iconst (-1), 1) := by decide +kernel
theorem d_G_data_12 : decode b_G_data 12 = .ok (.ireturn, 1) := by decide +kernel
theorem d_G_data_13 : decode b_G_data 13 = .ok (.aload_n 0, 1) := by decide +kernel
theorem d_G_data_14 : decode b_G_data 14 = .ok (.getfield 24, 3) := by decide +kernel
theorem d_G_data_17 : decode b_G_data 17 = .ok (.iload_n 3, 1) := by decide +kernel
theorem d_G_data_18 : decode b_G_data 18 = .ok (.invokevirtual 133, 3) := by decide +kernel
theorem d_G_data_21 : decode b_G_data 21 = .ok (.ifCond .ne 6, 3) := by decide +kernel
theorem d_G_data_24 : decode b_G_data 24 = .ok (.bipush (-2), 2) := by decide +kernel
theorem d_G_data_26 : decode b_G_data 26 = .ok (.ireturn, 1) := by decide +kernel
theorem d_G_data_27 : decode b_G_data 27 = .ok (.aload_n 0, 1) := by decide +kernel
theorem d_G_data_28 : decode b_G_data 28 = .ok (.getfield 24, 3) := by decide +kernel
theorem d_G_data_31 : decode b_G_data 31 = .ok (.lload_n 1, 1) := by decide +kernel
theorem d_G_data_32 : decode b_G_data 32 = .ok (.iload_n 3, 1) := by decide +kernel
theorem d_G_data_33 : decode b_G_data 33 = .ok (.invokevirtual 136, 3) := by decide +kernel
theorem d_G_data_36 : decode b_G_data 36 = .ok (.aload_n 0, 1) := by decide +kernel
theorem d_G_data_37 : decode b_G_data 37 = .ok (.getfield 24, 3) := by decide +kernel
theorem d_G_data_40 : decode b_G_data 40 = .ok (.getfield 139, 3) := by decide +kernel
theorem d_G_data_43 : decode b_G_data 43 = .ok (.ireturn, 1) := by decide +kernel
theorem d_O_hasRoomToWait_0 : decode b_O_hasRoomToWait 0 = .ok (.aload_n 0, 1) := by decide +kernel
theorem d_O_hasRoomToWait_1 : decode b_O_hasRoomToWait 1 = .ok (.getfield 41, 3) := by decide +kernel
theorem d_O_hasRoomToWait_4 : decode b_O_hasRoomToWait 4 = .ok (.iload_n 1, 1) := by decide +kernel
theorem d_O_hasRoomToWait_5 : decode b_O_hasRoomToWait 5 = .ok (.iadd, 1) := by decide +kernel
theorem d_O_hasRoomToWait_6 : decode b_O_hasRoomToWait 6 = .ok (.sipush 255, 3) := by decide +kernel
theorem d_O_hasRoomToWait_9 : decode b_O_hasRoomToWait 9 = .ok (.if_icmp .lt 7, 3) := by decide +kernel
theorem d_O_hasRoomToWait_12 : decode b_O_hasRoomToWait 12 = .ok (.iconst 2, 1) := by decide +kernel
theorem d_O_hasRoomToWait_13 : decode b_O_hasRoomToWait 13 = .ok (.goto 4, 3) := by decide +kernel
theorem d_O_hasRoomToWait_16 : decode b_O_hasRoomToWait 16 = .ok (.iconst 0, 1) := by decide +kernel
theorem d_O_hasRoomToWait_17 : decode b_O_hasRoomToWait 17 = .ok (.istore_n 2, 1) := by decide +kernel
theorem d_O_hasRoomToWait_18 : decode b_O_hasRoomToWait 18 = .ok (.aload_n 0, 1) := by decide +kernel
theorem d_O_hasRoomToWait_19 : decode b_O_hasRoomToWait 19 = .ok (.getfield 35, 3) := by decide +kernel
theorem d_O_hasRoomToWait_22 : decode b_O_hasRoomToWait 22 = .ok (.aload_n 0, 1) := by decide +kernel
theorem d_O_hasRoomToWait_23 : decode b_O_hasRoomToWait 23 = .ok (.getfield 41, 3) := by decide +kernel
theorem d_O_hasRoomToWait_26 : decode b_O_hasRoomToWait 26 = .ok (.iadd, 1) := by decide +kernel
theorem d_O_hasRoomToWait_27 : decode b_O_hasRoomToWait 27 = .ok (.iload_n 1, 1) := by decide +kernel
theorem d_O_hasRoomToWait_28 : decode b_O_hasRoomToWait 28 = .ok (.iadd, 1) := by decide +kernel
theorem d_O_hasRoomToWait_29 : decode b_O_hasRoomToWait 29 = .ok (.iload_n 2, 1) := by decide +kernel
theorem d_O_hasRoomToWait_30 : decode b_O_hasRoomToWait 30 = .ok (.iadd, 1) := by decide +kernel
theorem d_O_hasRoomToWait_31 : decode b_O_hasRoomToWait 31 = .ok (.sipush 1400, 3) := by decide +kernel
theorem d_O_hasRoomToWait_34 : decode b_O_hasRoomToWait 34 = .ok (.if_icmp .gt 7, 3) := by decide +kernel
theorem d_O_hasRoomToWait_37 : decode b_O_hasRoomToWait 37 = .ok (.iconst 1, 1) := by decide +kernel
theorem d_O_hasRoomToWait_38 : decode b_O_hasRoomToWait 38 = .ok (.goto 4, 3) := by decide +kernel
theorem d_O_hasRoomToWait_41 : decode b_O_hasRoomToWait 41 = .ok (.iconst 0, 1) := by decide +kernel
theorem d_O_hasRoomToWait_42 : decode b_O_hasRoomToWait 42 = .ok (.ireturn, 1) := by decide +kernel
theorem d_O_letWait_0 : decode b_O_letWait 0 = .ok (.bipush 8, 2) := by decide +kernel
theorem d_O_letWait_2 : decode b_O_letWait 2 = .ok (.iload_n 3, 1) := by decide +kernel
theorem d_O_letWait_3 : decode b_O_letWait 3 = .ok (.imul, 1) := by decide +kernel
theorem d_O_letWait_4 : decode b_O_letWait 4 = .ok (.bipush 8, 2) := by decide +kernel
theorem d_O_letWait_6 : decode b_O_letWait 6 = .ok (.isub, 1) := by decide +kernel
theorem d_O_letWait_7 : decode b_O_letWait 7 = .ok (.istore 4, 2) := by decide +kernel
theorem d_O_letWait_9 : decode b_O_letWait 9 = .ok (.iload 4, 2) := by decide +kernel
theorem d_O_letWait_11 : decode b_O_letWait 11 = .ok (.ifCond .lt 48, 3) := by decide +kernel
theorem d_O_letWait_14 : decode b_O_letWait 14 = .ok (.aload_n 0, 1) := by decide +kernel
theorem d_O_letWait_15 : decode b_O_letWait 15 = .ok (.getfield 15, 3) := by decide +kernel
theorem d_O_letWait_18 : decode b_O_letWait 18 = .ok (.aload_n 0, 1) := by decide +kernel
theorem d_O_letWait_19 : decode b_O_letWait 19 = .ok (.getfield 41, 3) := by decide +kernel
theorem d_O_letWait_22 : decode b_O_letWait 22 = .ok (.lload_n 1, 1) := by decide +kernel
theorem d_O_letWait_23 : decode b_O_letWait 23 = .ok (.iload 4, 2) := by decide +kernel
theorem d_O_letWait_25 : decode b_O_letWait 25 = .ok (.lushr, 1) := by decide +kernel
theorem d_O_letWait_26 : decode b_O_letWait 26 = .ok (.l2i, 1) := by decide +kernel
theorem d_O_letWait_27 : decode b_O_letWait 27 = .ok (.i2b, 1) := by decide +kernel
theorem d_O_letWait_28 : decode b_O_letWait 28 = .ok (.bastore, 1) := by decide +kernel
theorem d_O_letWait_29 : decode b_O_letWait 29 = .ok (.aload_n 0, 1) := by decide +kernel
theorem d_O_letWait_30 : decode b_O_letWait 30 = .ok (.dup, 1) := by decide +kernel
theorem d_O_letWait_31 : decode b_O_letWait 31 = .ok (.getfield 41, 3) := by decide +kernel
theorem d_O_letWait_34 : decode b_O_letWait 34 = .ok (.iconst 1, 1) := by decide +kernel
theorem d_O_letWait_35 : decode b_O_letWait 35 = .ok (.iadd, 1) := by decide +kernel
theorem d_O_letWait_36 : decode b_O_letWait 36 = .ok (.putfield 41, 3) := by decide +kernel
theorem d_O_letWait_39 : decode b_O_letWait 39 = .ok (.aload_n 0, 1) := by decide +kernel
theorem d_O_letWait_40 : decode b_O_letWait 40 = .ok (.getfield 41, 3) := by decide +kernel
theorem d_O_letWait_43 : decode b_O_letWait 43 = .ok (.sipush 255, 3) := by decide +kernel
theorem d_O_letWait_46 : decode b_O_letWait 46 = .ok (.if_icmp .ne 7, 3) := by decide +kernel
theorem d_O_letWait_49 : decode b_O_letWait 49 = .ok (.aload_n 0, 1) := by decide +kernel
theorem d_O_letWait_50 : decode b_O_letWait 50 = .ok (.invokevirtual 105, 3) := by decide +kernel
theorem d_O_letWait_53 : decode b_O_letWait 53 = .ok (.iinc 4 (-8), 3) := by decide +kernel
theorem d_O_letWait_56 : decode b_O_letWait 56 = .ok (.goto (-47), 3) := by decide +kernel
theorem d_O_letWait_59 : decode b_O_letWait 59 = .ok (.return_, 1) := by decide +kernel
theorem d_O_flush_0 : decode b_O_flush 0 = .ok (.aload_n 0, 1) := by decide +kernel
theorem d_O_flush_1 : decode b_O_flush 1 = .ok (.getfield 41, 3) := by decide +kernel
theorem d_O_flush_4 : decode b_O_flush 4 = .ok (.ifCond .ne 4, 3) := by decide +kernel
theorem d_O_flush_7 : decode b_O_flush 7 = .ok (.return_, 1) := by decide +kernel
theorem d_O_flush_8 : decode b_O_flush 8 = .ok (.aload_n 0, 1) := by decide +kernel
theorem d_O_flush_9 : decode b_O_flush 9 = .ok (.ldc2_w 108, 3) := by decide +kernel
theorem d_O_flush_12 : decode b_O_flush 12 = .ok (.iconst 1, 1) := by decide +kernel
theorem d_O_flush_13 : decode b_O_flush 13 = .ok (.invokevirtual 64, 3) := by decide +kernel
theorem d_O_flush_16 : decode b_O_flush 16 = .ok (.aload_n 0, 1) := by decide +kernel
theorem d_O_flush_17 : decode b_O_flush 17 = .ok (.aload_n 0, 1) := by decide +kernel
theorem d_O_flush_18 : decode b_O_flush 18 = .ok (.getfield 41, 3) := by decide +kernel
theorem d_O_flush_21 : decode b_O_flush 21 = .ok (.i2l, 1) := by decide +kernel
theorem d_O_flush_22 : decode b_O_flush 22 = .ok (.iconst 1, 1) := by decide +kernel
theorem d_O_flush_23 : decode b_O_flush 23 = .ok (.invokevirtual 64, 3) := by decide +kernel
theorem d_O_flush_26 : decode b_O_flush 26 = .ok (.iconst 0, 1) := by decide +kernel
theorem d_O_flush_27 : decode b_O_flush 27 = .ok (.istore_n 1, 1) := by decide +kernel
theorem d_O_flush_28 : decode b_O_flush 28 = .ok (.iload_n 1, 1) := by decide +kernel
theorem d_O_flush_29 : decode b_O_flush 29 = .ok (.aload_n 0, 1) := by decide +kernel
theorem d_O_flush_30 : decode b_O_flush 30 = .ok (.getfield 41, 3) := by decide +kernel
theorem d_O_flush_33 : decode b_O_flush 33 = .ok (.if_icmp .ge 21, 3) := by decide +kernel
theorem d_O_flush_36 : decode b_O_flush 36 = .ok (.aload_n 0, 1) := by decide +kernel
theorem d_O_flush_37 : decode b_O_flush 37 = .ok (.aload_n 0, 1) := by decide +kernel
theorem d_O_flush_38 : decode b_O_flush 38 = .ok (.getfield 15, 3) := by decide +kernel
theorem d_O_flush_41 : decode b_O_flush 41 = .ok (.iload_n 1, 1) := by decide +kernel
theorem d_O_flush_42 : decode b_O_flush 42 = .ok (.baload, 1) := by decide +kernel
theorem d_O_flush_43 : decode b_O_flush 43 = .ok (.i2l, 1) := by decide +kernel
theorem d_O_flush_44 : decode b_O_flush 44 = .ok (.iconst 1, 1) := by decide +kernel
theorem d_O_flush_45 : decode b_O_flush 45 = .ok (.invokevirtual 64, 3) := by decide +kernel
theorem d_O_flush_48 : decode b_O_flush 48 = .ok (.iinc 1 1, 3) := by decide +kernel
theorem d_O_flush_51 : decode b_O_flush 51 = .ok (.goto (-23), 3) := by decide +kernel
theorem d_O_flush_54 : decode b_O_flush 54 = .ok (.aload_n 0, 1) := by decide +kernel
theorem d_O_flush_55 : decode b_O_flush 55 = .ok (.iconst 0, 1) := by decide +kernel
theorem d_O_flush_56 : decode b_O_flush 56 = .ok (.putfield 41, 3) := by decide +kernel
theorem d_O_flush_59 : decode b_O_flush 59 = .ok (.return_, 1) := by decide +kernel
theorem d_G_write_0 : decode b_G_write 0 = .ok (.iload_n 1, 1) := by decide +kernel
theorem d_G_write_1 : decode b_G_write 1 = .ok (.iconst (-1), 1) := by decide +kernel
theorem d_G_write_2 : decode b_G_write 2 = .ok (.if_icmp .eq 13, 3) := by decide +kernel
theorem d_G_write_5 : decode b_G_write 5 = .ok (.aload_n 0, 1) := by decide +kernel
theorem d_G_write_6 : decode b_G_write 6 = .ok (.iload_n 1, 1) := by decide +kernel
theorem d_G_write_7 : decode b_G_write 7 = .ok (.invokevirtual 110, 3) := by decide +kernel
theorem d_G_write_10 : decode b_G_write 10 = .ok (.ifCond .ne 5, 3) := by decide +kernel
theorem d_G_write_13 : decode b_G_write 13 = .ok (.iconst (-1), 1) := by decide +kernel
theorem d_G_write_14 : decode b_G_write 14 = .ok (.ireturn, 1) := by decide +kernel
theorem d_G_write_15 : decode b_G_write 15 = .ok (.aload_n 0, 1) := by decide +kernel
theorem d_G_write_16 : decode b_G_write 16 = .ok (.getfield 24, 3) := by decide +kernel
theorem d_G_write_19 : decode b_G_write 19 = .ok (.invokevirtual 142, 3) := by decide +kernel
theorem d_G_write_22 : decode b_G_write 22 = .ok (.aload_n 0, 1) := by decide +kernel
theorem d_G_write_23 : decode b_G_write 23 = .ok (.getfield 24, 3) := by decide +kernel
theorem d_G_write_26 : decode b_G_write 26 = .ok (.invokevirtual 145, 3) := by decide +kernel
theorem d_G_write_29 : decode b_G_write 29 = .ok (.aload_n 0, 1) := by decide +kernel
theorem d_G_write_30 : decode b_G_write 30 = .ok (.iload_n 1, 1) := by decide +kernel
theorem d_G_write_31 : decode b_G_write 31 = .ok (.iload_n 2, 1) := by decide +kernel
theorem d_G_write_32 : decode b_G_write 32 = .ok (.iconst 0, 1) := by decide +kernel
theorem d_G_write_33 : decode b_G_write 33 = .ok (.invokevirtual 148, 3) := by decide +kernel
theorem d_G_write_36 : decode b_G_write 36 = .ok (.aload_n 0, 1) := by decide +kernel
theorem d_G_write_37 : decode b_G_write 37 = .ok (.getfield 24, 3) := by decide +kernel
theorem d_G_write_40 : decode b_G_write 40 = .ok (.invokevirtual 152, 3) := by decide +kernel
theorem d_G_write_43 : decode b_G_write 43 = .ok (.ireturn, 1) := by decide +kernel
theorem d_O_begin_0 : decode b_O_begin 0 = .ok (.aload_n 0, 1) := by decide +kernel
theorem d_O_begin_1 : decode b_O_begin 1 = .ok (.getfield 18, 3) := by decide +kernel
theorem d_O_begin_4 : decode b_O_begin 4 = .ok (.iconst 0, 1) := by decide +kernel
theorem d_O_begin_5 : decode b_O_begin 5 = .ok (.aload_n 0, 1) := by decide +kernel
theorem d_O_begin_6 : decode b_O_begin 6 = .ok (.getfield 26, 3) := by decide +kernel
theorem d_O_begin_9 : decode b_O_begin 9 = .ok (.iconst 0, 1) := by decide +kernel
theorem d_O_begin_10 : decode b_O_begin 10 = .ok (.bipush 35, 2) := by decide +kernel
theorem d_O_begin_12 : decode b_O_begin 12 = .ok (.invokestatic 29, 3) := by decide +kernel
theorem d_O_begin_15 : decode b_O_begin 15 = .ok (.aload_n 0, 1) := by decide +kernel
theorem d_O_begin_16 : decode b_O_begin 16 = .ok (.aload_n 0, 1) := by decide +kernel
theorem d_O_begin_17 : decode b_O_begin 17 = .ok (.getfield 35, 3) := by decide +kernel
theorem d_O_begin_20 : decode b_O_begin 20 = .ok (.putfield 38, 3) := by decide +kernel
theorem d_O_begin_23 : decode b_O_begin 23 = .ok (.aload_n 0, 1) := by decide +kernel
theorem d_O_begin_24 : decode b_O_begin 24 = .ok (.aload_n 0, 1) := by decide +kernel
theorem d_O_begin_25 : decode b_O_begin 25 = .ok (.getfield 41, 3) := by decide +kernel
theorem d_O_begin_28 : decode b_O_begin 28 = .ok (.putfield 44, 3) := by decide +kernel
theorem d_O_begin_31 : decode b_O_begin 31 = .ok (.aload_n 0, 1) := by decide +kernel
theorem d_O_begin_32 : decode b_O_begin 32 = .ok (.aload_n 0, 1) := by decide +kernel
theorem d_O_begin_33 : decode b_O_begin 33 = .ok (.getfield 47, 3) := by decide +kernel
theorem d_O_begin_36 : decode b_O_begin 36 = .ok (.putfield 50, 3) := by decide +kernel
theorem d_O_begin_39 : decode b_O_begin 39 = .ok (.return_, 1) := by decide +kernel
theorem d_G_writeObject_0 : decode b_G_writeObject 0 = .ok (.aload_n 0, 1) := by decide +kernel
theorem d_G_writeObject_1 : decode b_G_writeObject 1 = .ok (.getfield 24, 3) := by decide +kernel
theorem d_G_writeObject_4 : decode b_G_writeObject 4 = .ok (.getfield 212, 3) := by decide +kernel
theorem d_G_writeObject_7 : decode b_G_writeObject 7 = .ok (.ifCond .eq 4, 3) := by decide +kernel
theorem d_G_writeObject_10 : decode b_G_writeObject 10 = .ok (.return_, 1) := by decide +kernel
theorem d_G_writeObject_11 : decode b_G_writeObject 11 = .ok (.iload_n 1, 1) := by decide +kernel
theorem d_G_writeObject_12 : decode b_G_writeObject 12 = .ok (.iconst (-1), 1) := by decide +kernel
theorem d_G_writeObject_13 : decode b_G_writeObject 13 = .ok (.if_icmp .ne 15, 3) := by decide +kernel
theorem d_G_writeObject_16 : decode b_G_writeObject 16 = .ok (.aload_n 0, 1) := by decide +kernel
theorem d_G_writeObject_17 : decode b_G_writeObject 17 = .ok (.getfield 24, 3) := by decide +kernel
theorem d_G_writeObject_20 : decode b_G_writeObject 20 = .ok (.ldc2_w 215, 3) := by decide +kernel
theorem d_G_writeObject_23 : decode b_G_writeObject 23 = .ok (.iconst 1, 1) := by decide +kernel
theorem d_G_writeObject_24 : decode b_G_writeObject 24 = .ok (.invokevirtual 33, 3) := by decide +kernel
theorem d_G_writeObject_27 : decode b_G_writeObject 27 = .ok (.return_, 1) := by decide +kernel
theorem d_G_writeObject_28 : decode b_G_writeObject 28 = .ok (.iload_n 3, 1) := by decide +kernel
theorem d_G_writeObject_29 : decode b_G_writeObject 29 = .ok (.bipush 12, 2) := by decide +kernel
theorem d_G_writeObject_31 : decode b_G_writeObject 31 = .ok (.if_icmp .le 13, 3) := by decide +kernel
theorem d_G_writeObject_34 : decode b_G_writeObject 34 = .ok (.aload_n 0, 1) := by decide +kernel
theorem d_G_writeObject_35 : decode b_G_writeObject 35 = .ok (.getfield 24, 3) := by decide +kernel
theorem d_G_writeObject_38 : decode b_G_writeObject 38 = .ok (.bipush (-2), 2) := by decide +kernel
theorem d_G_writeObject_40 : decode b_G_writeObject 40 = .ok (.putfield 212, 3) := by decide +kernel
theorem d_G_writeObject_43 : decode b_G_writeObject 43 = .ok (.return_, 1) := by decide +kernel
theorem d_G_writeObject_44 : decode b_G_writeObject 44 = .ok (.aload_n 0, 1) := by decide +kernel
theorem d_G_writeObject_45 : decode b_G_writeObject 45 = .ok (.iload_n 1, 1) := by decide +kernel
theorem d_G_writeObject_46 : decode b_G_writeObject 46 = .ok (.invokevirtual 217, 3) := by decide +kernel
theorem d_G_writeObject_49 : decode b_G_writeObject 49 = .ok (.istore 4, 2) := by decide +kernel
theorem d_G_writeObject_51 : decode b_G_writeObject 51 = .ok (.iload_n 2, 1) := by decide +kernel
theorem d_G_writeObject_52 : decode b_G_writeObject 52 = .ok (.ifCond .ne 16, 3) := by decide +kernel
theorem d_G_writeObject_55 : decode b_G_writeObject 55 = .ok (.aload_n 0, 1) := by decide +kernel
theorem d_G_writeObject_56 : decode b_G_writeObject 56 = .ok (.getfield 24, 3) := by decide +kernel
theorem d_G_writeObject_59 : decode b_G_writeObject 59 = .ok (.iload 4, 2) := by decide +kernel
theorem d_G_writeObject_61 : decode b_G_writeObject 61 = .ok (.invokevirtual 221, 3) := by decide +kernel
theorem d_G_writeObject_64 : decode b_G_writeObject 64 = .ok (.ifCond .eq 4, 3) := by decide +kernel
theorem d_G_writeObject_67 : decode b_G_writeObject 67 = .ok (.return_, 1) := by decide +kernel
theorem d_G_writeObject_68 : decode b_G_writeObject 68 = .ok (.aload_n 0, 1) := by decide +kernel
theorem d_G_writeObject_69 : decode b_G_writeObject 69 = .ok (.getfield 17, 3) := by decide +kernel
theorem d_G_writeObject_72 : decode b_G_writeObject 72 = .ok (.iload 4, 2) := by decide +kernel
theorem d_G_writeObject_74 : decode b_G_writeObject 74 = .ok (.aaload, 1) := by decide +kernel
theorem d_G_writeObject_75 : decode b_G_writeObject 75 = .ok (.getfield 174, 3) := by decide +kernel
theorem d_G_writeObject_78 : decode b_G_writeObject 78 = .ok (.tableswitch 80 1 4 #[30, 52, 61, 71], 30) := by decide +kernel
theorem d_G_writeObject_108 : decode b_G_writeObject 108 = .ok (.aload_n 0, 1) := by decide +kernel
theorem d_G_writeObject_109 : decode b_G_writeObject 109 = .ok (.getfield 24, 3) := by decide +kernel
theorem d_G_writeObject_112 : decode b_G_writeObject 112 = .ok (.iload 4, 2) := by decide +kernel
theorem d_G_writeObject_114 : decode b_G_writeObject 114 = .ok (.aload_n 0, 1) := by decide +kernel
theorem d_G_writeObject_115 : decode b_G_writeObject 115 = .ok (.getfield 17, 3) := by decide +kernel
theorem d_G_writeObject_118 : decode b_G_writeObject 118 = .ok (.iload 4, 2) := by decide +kernel
theorem d_G_writeObject_120 : decode b_G_writeObject 120 = .ok (.aaload, 1) := by decide +kernel
theorem d_G_writeObject_121 : decode b_G_writeObject 121 = .ok (.getfield 180, 3) := by decide +kernel
theorem d_G_writeObject_124 : decode b_G_writeObject 124 = .ok (.invokevirtual 224, 3) := by decide +kernel
theorem d_G_writeObject_127 : decode b_G_writeObject 127 = .ok (.goto 38, 3) := by decide +kernel
theorem d_G_writeObject_130 : decode b_G_writeObject 130 = .ok (.aload_n 0, 1) := by decide +kernel
theorem d_G_writeObject_131 : decode b_G_writeObject 131 = .ok (.iload 4, 2) := by decide +kernel
theorem d_G_writeObject_133 : decode b_G_writeObject 133 = .ok (.invokevirtual 228, 3) := by decide +kernel
theorem d_G_writeObject_136 : decode b_G_writeObject 136 = .ok (.goto 29, 3) := by decide +kernel
theorem d_G_writeObject_139 : decode b_G_writeObject 139 = .ok (.aload_n 0, 1) := by decide +kernel
theorem d_G_writeObject_140 : decode b_G_writeObject 140 = .ok (.iload 4, 2) := by decide +kernel
theorem d_G_writeObject_142 : decode b_G_writeObject 142 = .ok (.iload_n 3, 1) := by decide +kernel
theorem d_G_writeObject_143 : decode b_G_writeObject 143 = .ok (.invokevirtual 232, 3) := by decide +kernel
theorem d_G_writeObject_146 : decode b_G_writeObject 146 = .ok (.goto 19, 3) := by decide +kernel
theorem d_G_writeObject_149 : decode b_G_writeObject 149 = .ok (.aload_n 0, 1) := by decide +kernel
theorem d_G_writeObject_150 : decode b_G_writeObject 150 = .ok (.iload 4, 2) := by decide +kernel
theorem d_G_writeObject_152 : decode b_G_writeObject 152 = .ok (.invokevirtual 236, 3) := by decide +kernel
theorem d_G_writeObject_155 : decode b_G_writeObject 155 = .ok (.goto 10, 3) := by decide +kernel
theorem d_G_writeObject_158 : decode b_G_writeObject 158 = .ok (.aload_n 0, 1) := by decide +kernel
theorem d_G_writeObject_159 : decode b_G_writeObject 159 = .ok (.iload 4, 2) := by decide +kernel
theorem d_G_writeObject_161 : decode b_G_writeObject 161 = .ok (.iload_n 3, 1) := by decide +kernel
theorem d_G_writeObject_162 : decode b_G_writeObject 162 = .ok (.invokevirtual 239, 3) := by decide +kernel
theorem d_G_writeObject_165 : decode b_G_writeObject 165 = .ok (.return_, 1) := by decide +kernel
theorem d_G_replaced_0 : decode b_G_replaced 0 = .ok (.iload_n 1, 1) := by decide +kernel
theorem d_G_replaced_1 : decode b_G_replaced 1 = .ok (.istore_n 2, 1) := by decide +kernel
theorem d_G_replaced_2 : decode b_G_replaced 2 = .ok (.iconst 0, 1) := by decide +kernel
theorem d_G_replaced_3 : decode b_G_replaced 3 = .ok (.istore_n 3, 1) := by decide +kernel
theorem d_G_replaced_4 : decode b_G_replaced 4 = .ok (.iconst 0, 1) := by decide +kernel
theorem d_G_replaced_5 : decode b_G_replaced 5 = .ok (.istore 4, 2) := by decide +kernel
theorem d_G_replaced_7 : decode b_G_replaced 7 = .ok (.iload 4, 2) := by decide +kernel
theorem d_G_replaced_9 : decode b_G_replaced 9 = .ok (.bipush 12, 2) := by decide +kernel
theorem d_G_replaced_11 : decode b_G_replaced 11 = .ok (.if_icmp .ge 47, 3) := by decide +kernel
theorem d_G_replaced_14 : decode b_G_replaced 14 = .ok (.iload_n 3, 1) := by decide +kernel
theorem d_G_replaced_15 : decode b_G_replaced 15 = .ok (.iconst 1, 1) := by decide +kernel
theorem d_G_replaced_16 : decode b_G_replaced 16 = .ok (.iload_n 2, 1) := by decide +kernel
theorem d_G_replaced_17 : decode b_G_replaced 17 = .ok (.ishl, 1) := by decide +kernel
theorem d_G_replaced_18 : decode b_G_replaced 18 = .ok (.ior, 1) := by decide +kernel
theorem d_G_replaced_19 : decode b_G_replaced 19 = .ok (.istore_n 3, 1) := by decide +kernel
theorem d_G_replaced_20 : decode b_G_replaced 20 = .ok (.aload_n 0, 1) := by decide +kernel
theorem d_G_replaced_21 : decode b_G_replaced 21 = .ok (.getfield 17, 3) := by decide +kernel
theorem d_G_replaced_24 : decode b_G_replaced 24 = .ok (.iload_n 2, 1) := by decide +kernel
theorem d_G_replaced_25 : decode b_G_replaced 25 = .ok (.aaload, 1) := by decide +kernel
theorem d_G_replaced_26 : decode b_G_replaced 26 = .ok (.getfield 127, 3) := by decide +kernel
theorem d_G_replaced_29 : decode b_G_replaced 29 = .ok (.istore 5, 2) := by decide +kernel
theorem d_G_replaced_31 : decode b_G_replaced 31 = .ok (.iload 5, 2) := by decide +kernel
theorem d_G_replaced_33 : decode b_G_replaced 33 = .ok (.iconst (-1), 1) := by decide +kernel
theorem d_G_replaced_34 : decode b_G_replaced 34 = .ok (.if_icmp .eq 24, 3) := by decide +kernel
theorem d_G_replaced_37 : decode b_G_replaced 37 = .ok (.iload_n 3, 1) := by decide +kernel
theorem d_G_replaced_38 : decode b_G_replaced 38 = .ok (.iload 5, 2) := by decide +kernel
theorem d_G_replaced_40 : decode b_G_replaced 40 = .ok (.ishr, 1) := by decide +kernel
theorem d_G_replaced_41 : decode b_G_replaced 41 = .ok (.iconst 1, 1) := by decide +kernel
theorem d_G_replaced_42 : decode b_G_replaced 42 = .ok (.iand, 1) := by decide +kernel
theorem d_G_replaced_43 : decode b_G_replaced 43 = .ok (.ifCond .eq 6, 3) := by decide +kernel
theorem d_G_replaced_46 : decode b_G_replaced 46 = .ok (.goto 12, 3) := by decide +kernel
theorem d_G_replaced_49 : decode b_G_replaced 49 = .ok (.iload 5, 2) := by decide +kernel
theorem d_G_replaced_51 : decode b_G_replaced 51 = .ok (.istore_n 2, 1) := by decide +kernel
theorem d_G_replaced_52 : decode b_G_replaced 52 = .ok (.iinc 4 1, 3) := by decide +kernel
theorem d_G_replaced_55 : decode b_G_replaced 55 = .ok (.goto (-48), 3) := by decide +kernel
theorem d_G_replaced_58 : decode b_G_replaced 58 = .ok (.iload_n 2, 1) := by decide +kernel
theorem d_G_replaced_59 : decode b_G_replaced 59 = .ok (.ireturn, 1) := by decide +kernel
theorem d_O_putReference_0 : decode b_O_putReference 0 = .ok (.aload_n 0, 1) := by decide +kernel
theorem d_O_putReference_1 : decode b_O_putReference 1 = .ok (.getfield 18, 3) := by decide +kernel
theorem d_O_putReference_4 : decode b_O_putReference 4 = .ok (.iload_n 1, 1) := by decide +kernel
theorem d_O_putReference_5 : decode b_O_putReference 5 = .ok (.iaload, 1) := by decide +kernel
theorem d_O_putReference_6 : decode b_O_putReference 6 = .ok (.iconst (-1), 1) := by decide +kernel
theorem d_O_putReference_7 : decode b_O_putReference 7 = .ok (.if_icmp .ne 5, 3) := by decide +kernel
theorem d_O_putReference_10 : decode b_O_putReference 10 = .ok (.iconst 0, 1) := by decide +kernel
theorem d_O_putReference_11 : decode b_O_putReference 11 = .ok (.ireturn, 1) := by decide +kernel
theorem d_O_putReference_12 : decode b_O_putReference 12 = .ok (.aload_n 0, 1) := by decide +kernel
theorem d_O_putReference_13 : decode b_O_putReference 13 = .ok (.ldc2_w 78, 3) := by decide +kernel
theorem d_O_putReference_16 : decode b_O_putReference 16 = .ok (.iconst 1, 1) := by decide +kernel
theorem d_O_putReference_17 : decode b_O_putReference 17 = .ok (.invokevirtual 64, 3) := by decide +kernel
theorem d_O_putReference_20 : decode b_O_putReference 20 = .ok (.aload_n 0, 1) := by decide +kernel
theorem d_O_putReference_21 : decode b_O_putReference 21 = .ok (.ldc 80, 2) := by decide +kernel
theorem d_O_putReference_23 : decode b_O_putReference 23 = .ok (.aload_n 0, 1) := by decide +kernel
theorem d_O_putReference_24 : decode b_O_putReference 24 = .ok (.getfield 18, 3) := by decide +kernel
theorem d_O_putReference_27 : decode b_O_putReference 27 = .ok (.iload_n 1, 1) := by decide +kernel
theorem d_O_putReference_28 : decode b_O_putReference 28 = .ok (.iaload, 1) := by decide +kernel
theorem d_O_putReference_29 : decode b_O_putReference 29 = .ok (.iadd, 1) := by decide +kernel
theorem d_O_putReference_30 : decode b_O_putReference 30 = .ok (.i2l, 1) := by decide +kernel
theorem d_O_putReference_31 : decode b_O_putReference 31 = .ok (.iconst 4, 1) := by decide +kernel
theorem d_O_putReference_32 : decode b_O_putReference 32 = .ok (.invokevirtual 64, 3) := by decide +kernel
theorem d_O_putReference_35 : decode b_O_putReference 35 = .ok (.iconst 1, 1) := by decide +kernel
theorem d_O_putReference_36 : decode b_O_putReference 36 = .ok (.ireturn, 1) := by decide +kernel
theorem d_O_putText_0 : decode b_O_putText 0 = .ok (.aload_n 0, 1) := by decide +kernel
theorem d_O_putText_1 : decode b_O_putText 1 = .ok (.ldc2_w 81, 3) := by decide +kernel
theorem d_O_putText_4 : decode b_O_putText 4 = .ok (.iconst 1, 1) := by decide +kernel
theorem d_O_putText_5 : decode b_O_putText 5 = .ok (.invokevirtual 64, 3) := by decide +kernel
theorem d_O_putText_8 : decode b_O_putText 8 = .ok (.aload_n 0, 1) := by decide +kernel
theorem d_O_putText_9 : decode b_O_putText 9 = .ok (.iload_n 1, 1) := by decide +kernel
theorem d_O_putText_10 : decode b_O_putText 10 = .ok (.invokevirtual 83, 3) := by decide +kernel
theorem d_O_putText_13 : decode b_O_putText 13 = .ok (.aload_n 0, 1) := by decide +kernel
theorem d_O_putText_14 : decode b_O_putText 14 = .ok (.aload_n 2, 1) := by decide +kernel
theorem d_O_putText_15 : decode b_O_putText 15 = .ok (.invokevirtual 87, 3) := by decide +kernel
theorem d_O_putText_18 : decode b_O_putText 18 = .ok (.return_, 1) := by decide +kernel
theorem d_O_giveHandle_0 : decode b_O_giveHandle 0 = .ok (.aload_n 0, 1) := by decide +kernel
theorem d_O_giveHandle_1 : decode b_O_giveHandle 1 = .ok (.getfield 18, 3) := by decide +kernel
theorem d_O_giveHandle_4 : decode b_O_giveHandle 4 = .ok (.iload_n 1, 1) := by decide +kernel
theorem d_O_giveHandle_5 : decode b_O_giveHandle 5 = .ok (.aload_n 0, 1) := by decide +kernel
theorem d_O_giveHandle_6 : decode b_O_giveHandle 6 = .ok (.getfield 47, 3) := by decide +kernel
theorem d_O_giveHandle_9 : decode b_O_giveHandle 9 = .ok (.iastore, 1) := by decide +kernel
theorem d_O_giveHandle_10 : decode b_O_giveHandle 10 = .ok (.aload_n 0, 1) := by decide +kernel
theorem d_O_giveHandle_11 : decode b_O_giveHandle 11 = .ok (.dup, 1) := by decide +kernel
theorem d_O_giveHandle_12 : decode b_O_giveHandle 12 = .ok (.getfield 47, 3) := by decide +kernel
theorem d_O_giveHandle_15 : decode b_O_giveHandle 15 = .ok (.iconst 1, 1) := by decide +kernel
theorem d_O_giveHandle_16 : decode b_O_giveHandle 16 = .ok (.iadd, 1) := by decide +kernel
theorem d_O_giveHandle_17 : decode b_O_giveHandle 17 = .ok (.putfield 47, 3) := by decide +kernel
theorem d_O_giveHandle_20 : decode b_O_giveHandle 20 = .ok (.return_, 1) := by decide +kernel
theorem d_O_putUtf_0 : decode b_O_putUtf 0 = .ok (.aload_n 0, 1) := by decide +kernel
theorem d_O_putUtf_1 : decode b_O_putUtf 1 = .ok (.aload_n 1, 1) := by decide +kernel
theorem d_O_putUtf_2 : decode b_O_putUtf 2 = .ok (.invokevirtual 59, 3) := by decide +kernel
theorem d_O_putUtf_5 : decode b_O_putUtf 5 = .ok (.i2l, 1) := by decide +kernel
theorem d_O_putUtf_6 : decode b_O_putUtf 6 = .ok (.iconst 2, 1) := by decide +kernel
theorem d_O_putUtf_7 : decode b_O_putUtf 7 = .ok (.invokevirtual 64, 3) := by decide +kernel
theorem d_O_putUtf_10 : decode b_O_putUtf 10 = .ok (.iconst 0, 1) := by decide +kernel
theorem d_O_putUtf_11 : decode b_O_putUtf 11 = .ok (.istore_n 2, 1) := by decide +kernel
theorem d_O_putUtf_12 : decode b_O_putUtf 12 = .ok (.iload_n 2, 1) := by decide +kernel
theorem d_O_putUtf_13 : decode b_O_putUtf 13 = .ok (.aload_n 1, 1) := by decide +kernel
theorem d_O_putUtf_14 : decode b_O_putUtf 14 = .ok (.invokevirtual 59, 3) := by decide +kernel
theorem d_O_putUtf_17 : decode b_O_putUtf 17 = .ok (.if_icmp .ge 20, 3) := by decide +kernel
theorem d_O_putUtf_20 : decode b_O_putUtf 20 = .ok (.aload_n 0, 1) := by decide +kernel
theorem d_O_putUtf_21 : decode b_O_putUtf 21 = .ok (.aload_n 1, 1) := by decide +kernel
theorem d_O_putUtf_22 : decode b_O_putUtf 22 = .ok (.iload_n 2, 1) := by decide +kernel
theorem d_O_putUtf_23 : decode b_O_putUtf 23 = .ok (.invokevirtual 68, 3) := by decide +kernel
theorem d_O_putUtf_26 : decode b_O_putUtf 26 = .ok (.i2l, 1) := by decide +kernel
theorem d_O_putUtf_27 : decode b_O_putUtf 27 = .ok (.iconst 1, 1) := by decide +kernel
theorem d_O_putUtf_28 : decode b_O_putUtf 28 = .ok (.invokevirtual 64, 3) := by decide +kernel
theorem d_O_putUtf_31 : decode b_O_putUtf 31 = .ok (.iinc 2 1, 3) := by decide +kernel
theorem d_O_putUtf_34 : decode b_O_putUtf 34 = .ok (.goto (-22), 3) := by decide +kernel
theorem d_O_putUtf_37 : decode b_O_putUtf 37 = .ok (.return_, 1) := by decide +kernel
theorem d_JS_charAt_0 : decode b_JS_charAt 0 = .ok (.aload_n 0, 1) := by decide +kernel
theorem d_JS_charAt_1 : decode b_JS_charAt 1 = .ok (.invokevirtual 492, 3) := by decide +kernel
theorem d_JS_charAt_4 : decode b_JS_charAt 4 = .ok (.ifCond .eq 12, 3) := by decide +kernel
theorem d_JS_charAt_7 : decode b_JS_charAt 7 = .ok (.aload_n 0, 1) := by decide +kernel
theorem d_JS_charAt_8 : decode b_JS_charAt 8 = .ok (.getfield 9, 3) := by decide +kernel
theorem d_JS_charAt_11 : decode b_JS_charAt 11 = .ok (.iload_n 1, 1) := by decide +kernel
theorem d_JS_charAt_12 : decode b_JS_charAt 12 = .ok (.invokestatic 495, 3) := by decide +kernel
theorem d_JS_charAt_15 : decode b_JS_charAt 15 = .ok (.ireturn, 1) := by decide +kernel
theorem d_JS_charAt_16 : decode b_JS_charAt 16 = .ok (.aload_n 0, 1) := by decide +kernel
theorem d_JS_charAt_17 : decode b_JS_charAt 17 = .ok (.getfield 9, 3) := by decide +kernel
theorem d_JS_charAt_20 : decode b_JS_charAt 20 = .ok (.iload_n 1, 1) := by decide +kernel
theorem d_JS_charAt_21 : decode b_JS_charAt 21 = .ok (.invokestatic 498, 3) := by decide +kernel
theorem d_JS_charAt_24 : decode b_JS_charAt 24 = .ok (.ireturn, 1) := by decide +kernel
theorem d_JL_charAt_0 : decode b_JL_charAt 0 = .ok (.iload_n 1, 1) := by decide +kernel
theorem d_JL_charAt_1 : decode b_JL_charAt 1 = .ok (.aload_n 0, 1) := by decide +kernel
theorem d_JL_charAt_2 : decode b_JL_charAt 2 = .ok (.arraylength, 1) := by decide +kernel
theorem d_JL_charAt_3 : decode b_JL_charAt 3 = .ok (.invokestatic 9, 3) := by decide +kernel
theorem d_JL_charAt_6 : decode b_JL_charAt 6 = .ok (.aload_n 0, 1) := by decide +kernel
theorem d_JL_charAt_7 : decode b_JL_charAt 7 = .ok (.iload_n 1, 1) := by decide +kernel
theorem d_JL_charAt_8 : decode b_JL_charAt 8 = .ok (.baload, 1) := by decide +kernel
theorem d_JL_charAt_9 : decode b_JL_charAt 9 = .ok (.sipush 255, 3) := by decide +kernel
theorem d_JL_charAt_12 : decode b_JL_charAt 12 = .ok (.iand, 1) := by decide +kernel
theorem d_JL_charAt_13 : decode b_JL_charAt 13 = .ok (.i2c, 1) := by decide +kernel
theorem d_JL_charAt_14 : decode b_JL_charAt 14 = .ok (.ireturn, 1) := by decide +kernel
theorem d_JU_charAt_0 : decode b_JU_charAt 0 = .ok (.iload_n 1, 1) := by decide +kernel
theorem d_JU_charAt_1 : decode b_JU_charAt 1 = .ok (.aload_n 0, 1) := by decide +kernel
theorem d_JU_charAt_2 : decode b_JU_charAt 2 = .ok (.invokestatic 67, 3) := by decide +kernel
theorem d_JU_charAt_5 : decode b_JU_charAt 5 = .ok (.aload_n 0, 1) := by decide +kernel
theorem d_JU_charAt_6 : decode b_JU_charAt 6 = .ok (.iload_n 1, 1) := by decide +kernel
theorem d_JU_charAt_7 : decode b_JU_charAt 7 = .ok (.invokestatic 71, 3) := by decide +kernel
theorem d_JU_charAt_10 : decode b_JU_charAt 10 = .ok (.ireturn, 1) := by decide +kernel
theorem d_G_writeInts_0 : decode b_G_writeInts 0 = .ok (.aload_n 0, 1) := by decide +kernel
theorem d_G_writeInts_1 : decode b_G_writeInts 1 = .ok (.getfield 17, 3) := by decide +kernel
theorem d_G_writeInts_4 : decode b_G_writeInts 4 = .ok (.iload_n 1, 1) := by decide +kernel
theorem d_G_writeInts_5 : decode b_G_writeInts 5 = .ok (.aaload, 1) := by decide +kernel
theorem d_G_writeInts_6 : decode b_G_writeInts 6 = .ok (.getfield 120, 3) := by decide +kernel
theorem d_G_writeInts_9 : decode b_G_writeInts 9 = .ok (.astore_n 2, 1) := by decide +kernel
theorem d_G_writeInts_10 : decode b_G_writeInts 10 = .ok (.aload_n 0, 1) := by decide +kernel
theorem d_G_writeInts_11 : decode b_G_writeInts 11 = .ok (.getfield 24, 3) := by decide +kernel
theorem d_G_writeInts_14 : decode b_G_writeInts 14 = .ok (.ldc2_w 242, 3) := by decide +kernel
theorem d_G_writeInts_17 : decode b_G_writeInts 17 = .ok (.iconst 1, 1) := by decide +kernel
theorem d_G_writeInts_18 : decode b_G_writeInts 18 = .ok (.invokevirtual 33, 3) := by decide +kernel
theorem d_G_writeInts_21 : decode b_G_writeInts 21 = .ok (.aload_n 0, 1) := by decide +kernel
theorem d_G_writeInts_22 : decode b_G_writeInts 22 = .ok (.getfield 24, 3) := by decide +kernel
theorem d_G_writeInts_25 : decode b_G_writeInts 25 = .ok (.bipush 30, 2) := by decide +kernel
theorem d_G_writeInts_27 : decode b_G_writeInts 27 = .ok (.ldc 244, 2) := by decide +kernel
theorem d_G_writeInts_29 : decode b_G_writeInts 29 = .ok (.ldc2_w 245, 3) := by decide +kernel
theorem d_G_writeInts_32 : decode b_G_writeInts 32 = .ok (.iconst 2, 1) := by decide +kernel
theorem d_G_writeInts_33 : decode b_G_writeInts 33 = .ok (.iconst 0, 1) := by decide +kernel
theorem d_G_writeInts_34 : decode b_G_writeInts 34 = .ok (.invokevirtual 247, 3) := by decide +kernel
theorem d_G_writeInts_37 : decode b_G_writeInts 37 = .ok (.ifCond .eq 10, 3) := by decide +kernel
theorem d_G_writeInts_40 : decode b_G_writeInts 40 = .ok (.aload_n 0, 1) := by decide +kernel
theorem d_G_writeInts_41 : decode b_G_writeInts 41 = .ok (.getfield 24, 3) := by decide +kernel
theorem d_G_writeInts_44 : decode b_G_writeInts 44 = .ok (.invokevirtual 251, 3) := by decide +kernel
theorem d_G_writeInts_47 : decode b_G_writeInts 47 = .ok (.aload_n 0, 1) := by decide +kernel
theorem d_G_writeInts_48 : decode b_G_writeInts 48 = .ok (.getfield 24, 3) := by decide +kernel
theorem d_G_writeInts_51 : decode b_G_writeInts 51 = .ok (.iload_n 1, 1) := by decide +kernel
theorem d_G_writeInts_52 : decode b_G_writeInts 52 = .ok (.invokevirtual 254, 3) := by decide +kernel
theorem d_G_writeInts_55 : decode b_G_writeInts 55 = .ok (.aload_n 0, 1) := by decide +kernel
theorem d_G_writeInts_56 : decode b_G_writeInts 56 = .ok (.getfield 24, 3) := by decide +kernel
theorem d_G_writeInts_59 : decode b_G_writeInts 59 = .ok (.aload_n 2, 1) := by decide +kernel
theorem d_G_writeInts_60 : decode b_G_writeInts 60 = .ok (.arraylength, 1) := by decide +kernel
theorem d_G_writeInts_61 : decode b_G_writeInts 61 = .ok (.i2l, 1) := by decide +kernel
theorem d_G_writeInts_62 : decode b_G_writeInts 62 = .ok (.iconst 4, 1) := by decide +kernel
theorem d_G_writeInts_63 : decode b_G_writeInts 63 = .ok (.invokevirtual 33, 3) := by decide +kernel
theorem d_G_writeInts_66 : decode b_G_writeInts 66 = .ok (.iconst 0, 1) := by decide +kernel
theorem d_G_writeInts_67 : decode b_G_writeInts 67 = .ok (.istore_n 3, 1) := by decide +kernel
theorem d_G_writeInts_68 : decode b_G_writeInts 68 = .ok (.iload_n 3, 1) := by decide +kernel
theorem d_G_writeInts_69 : decode b_G_writeInts 69 = .ok (.aload_n 2, 1) := by decide +kernel
theorem d_G_writeInts_70 : decode b_G_writeInts 70 = .ok (.arraylength, 1) := by decide +kernel
theorem d_G_writeInts_71 : decode b_G_writeInts 71 = .ok (.if_icmp .ge 20, 3) := by decide +kernel
theorem d_G_writeInts_74 : decode b_G_writeInts 74 = .ok (.aload_n 0, 1) := by decide +kernel
theorem d_G_writeInts_75 : decode b_G_writeInts 75 = .ok (.getfield 24, 3) := by decide +kernel
theorem d_G_writeInts_78 : decode b_G_writeInts 78 = .ok (.aload_n 2, 1) := by decide +kernel
theorem d_G_writeInts_79 : decode b_G_writeInts 79 = .ok (.iload_n 3, 1) := by decide +kernel
theorem d_G_writeInts_80 : decode b_G_writeInts 80 = .ok (.laload, 1) := by decide +kernel
theorem d_G_writeInts_81 : decode b_G_writeInts 81 = .ok (.iconst 4, 1) := by decide +kernel
theorem d_G_writeInts_82 : decode b_G_writeInts 82 = .ok (.invokevirtual 33, 3) := by decide +kernel
theorem d_G_writeInts_85 : decode b_G_writeInts 85 = .ok (.iinc 3 1, 3) := by decide +kernel
theorem d_G_writeInts_88 : decode b_G_writeInts 88 = .ok (.goto (-20), 3) := by decide +kernel
theorem d_G_writeInts_91 : decode b_G_writeInts 91 = .ok (.return_, 1) := by decide +kernel
theorem d_O_openDescriptor_0 : decode b_O_openDescriptor 0 = .ok (.aload_n 0, 1) := by decide +kernel
theorem d_O_openDescriptor_1 : decode b_O_openDescriptor 1 = .ok (.iload_n 1, 1) := by decide +kernel
theorem d_O_openDescriptor_2 : decode b_O_openDescriptor 2 = .ok (.invokevirtual 91, 3) := by decide +kernel
theorem d_O_openDescriptor_5 : decode b_O_openDescriptor 5 = .ok (.ifCond .eq 5, 3) := by decide +kernel
theorem d_O_openDescriptor_8 : decode b_O_openDescriptor 8 = .ok (.iconst 0, 1) := by decide +kernel
theorem d_O_openDescriptor_9 : decode b_O_openDescriptor 9 = .ok (.ireturn, 1) := by decide +kernel
theorem d_O_openDescriptor_10 : decode b_O_openDescriptor 10 = .ok (.aload_n 0, 1) := by decide +kernel
theorem d_O_openDescriptor_11 : decode b_O_openDescriptor 11 = .ok (.ldc2_w 95, 3) := by decide +kernel
theorem d_O_openDescriptor_14 : decode b_O_openDescriptor 14 = .ok (.iconst 1, 1) := by decide +kernel
theorem d_O_openDescriptor_15 : decode b_O_openDescriptor 15 = .ok (.invokevirtual 64, 3) := by decide +kernel
theorem d_O_openDescriptor_18 : decode b_O_openDescriptor 18 = .ok (.aload_n 0, 1) := by decide +kernel
theorem d_O_openDescriptor_19 : decode b_O_openDescriptor 19 = .ok (.aload_n 2, 1) := by decide +kernel
theorem d_O_openDescriptor_20 : decode b_O_openDescriptor 20 = .ok (.invokevirtual 87, 3) := by decide +kernel
theorem d_O_openDescriptor_23 : decode b_O_openDescriptor 23 = .ok (.aload_n 0, 1) := by decide +kernel
theorem d_O_openDescriptor_24 : decode b_O_openDescriptor 24 = .ok (.lload_n 3, 1) := by decide +kernel
theorem d_O_openDescriptor_25 : decode b_O_openDescriptor 25 = .ok (.bipush 8, 2) := by decide +kernel
theorem d_O_openDescriptor_27 : decode b_O_openDescriptor 27 = .ok (.invokevirtual 64, 3) := by decide +kernel
theorem d_O_openDescriptor_30 : decode b_O_openDescriptor 30 = .ok (.aload_n 0, 1) := by decide +kernel
theorem d_O_openDescriptor_31 : decode b_O_openDescriptor 31 = .ok (.iload_n 1, 1) := by decide +kernel
theorem d_O_openDescriptor_32 : decode b_O_openDescriptor 32 = .ok (.invokevirtual 83, 3) := by decide +kernel
theorem d_O_openDescriptor_35 : decode b_O_openDescriptor 35 = .ok (.aload_n 0, 1) := by decide +kernel
theorem d_O_openDescriptor_36 : decode b_O_openDescriptor 36 = .ok (.iload 5, 2) := by decide +kernel
theorem d_O_openDescriptor_38 : decode b_O_openDescriptor 38 = .ok (.i2l, 1) := by decide +kernel
theorem d_O_openDescriptor_39 : decode b_O_openDescriptor 39 = .ok (.iconst 1, 1) := by decide +kernel
theorem d_O_openDescriptor_40 : decode b_O_openDescriptor 40 = .ok (.invokevirtual 64, 3) := by decide +kernel
theorem d_O_openDescriptor_43 : decode b_O_openDescriptor 43 = .ok (.aload_n 0, 1) := by decide +kernel
theorem d_O_openDescriptor_44 : decode b_O_openDescriptor 44 = .ok (.iload 6, 2) := by decide +kernel
theorem d_O_openDescriptor_46 : decode b_O_openDescriptor 46 = .ok (.i2l, 1) := by decide +kernel
theorem d_O_openDescriptor_47 : decode b_O_openDescriptor 47 = .ok (.iconst 2, 1) := by decide +kernel
theorem d_O_openDescriptor_48 : decode b_O_openDescriptor 48 = .ok (.invokevirtual 64, 3) := by decide +kernel
theorem d_O_openDescriptor_51 : decode b_O_openDescriptor 51 = .ok (.iconst 1, 1) := by decide +kernel
theorem d_O_openDescriptor_52 : decode b_O_openDescriptor 52 = .ok (.ireturn, 1) := by decide +kernel
theorem d_O_closeTopDescriptor_0 : decode b_O_closeTopDescriptor 0 = .ok (.aload_n 0, 1) := by decide +kernel
theorem d_O_closeTopDescriptor_1 : decode b_O_closeTopDescriptor 1 = .ok (.ldc2_w 97, 3) := by decide +kernel
theorem d_O_closeTopDescriptor_4 : decode b_O_closeTopDescriptor 4 = .ok (.iconst 1, 1) := by decide +kernel
theorem d_O_closeTopDescriptor_5 : decode b_O_closeTopDescriptor 5 = .ok (.invokevirtual 64, 3) := by decide +kernel
theorem d_O_closeTopDescriptor_8 : decode b_O_closeTopDescriptor 8 = .ok (.aload_n 0, 1) := by decide +kernel
theorem d_O_closeTopDescriptor_9 : decode b_O_closeTopDescriptor 9 = .ok (.ldc2_w 99, 3) := by decide +kernel
theorem d_O_closeTopDescriptor_12 : decode b_O_closeTopDescriptor 12 = .ok (.iconst 1, 1) := by decide +kernel
theorem d_O_closeTopDescriptor_13 : decode b_O_closeTopDescriptor 13 = .ok (.invokevirtual 64, 3) := by decide +kernel
theorem d_O_closeTopDescriptor_16 : decode b_O_closeTopDescriptor 16 = .ok (.return_, 1) := by decide +kernel
theorem d_G_writeRefs_0 : decode b_G_writeRefs 0 = .ok (.aload_n 0, 1) := by decide +kernel
theorem d_G_writeRefs_1 : decode b_G_writeRefs 1 = .ok (.getfield 17, 3) := by decide +kernel
theorem d_G_writeRefs_4 : decode b_G_writeRefs 4 = .ok (.iload_n 1, 1) := by decide +kernel
theorem d_G_writeRefs_5 : decode b_G_writeRefs 5 = .ok (.aaload, 1) := by decide +kernel
theorem d_G_writeRefs_6 : decode b_G_writeRefs 6 = .ok (.getfield 120, 3) := by decide +kernel
theorem d_G_writeRefs_9 : decode b_G_writeRefs 9 = .ok (.astore_n 3, 1) := by decide +kernel
theorem d_G_writeRefs_10 : decode b_G_writeRefs 10 = .ok (.aload_n 0, 1) := by decide +kernel
theorem d_G_writeRefs_11 : decode b_G_writeRefs 11 = .ok (.getfield 24, 3) := by decide +kernel
theorem d_G_writeRefs_14 : decode b_G_writeRefs 14 = .ok (.ldc2_w 242, 3) := by decide +kernel
theorem d_G_writeRefs_17 : decode b_G_writeRefs 17 = .ok (.iconst 1, 1) := by decide +kernel
theorem d_G_writeRefs_18 : decode b_G_writeRefs 18 = .ok (.invokevirtual 33, 3) := by decide +kernel
theorem d_G_writeRefs_21 : decode b_G_writeRefs 21 = .ok (.aload_n 0, 1) := by decide +kernel
theorem d_G_writeRefs_22 : decode b_G_writeRefs 22 = .ok (.getfield 24, 3) := by decide +kernel
theorem d_G_writeRefs_25 : decode b_G_writeRefs 25 = .ok (.bipush 31, 2) := by decide +kernel
theorem d_G_writeRefs_27 : decode b_G_writeRefs 27 = .ok (.ldc_w 257, 3) := by decide +kernel
theorem d_G_writeRefs_30 : decode b_G_writeRefs 30 = .ok (.ldc2_w 259, 3) := by decide +kernel
theorem d_G_writeRefs_33 : decode b_G_writeRefs 33 = .ok (.iconst 2, 1) := by decide +kernel
theorem d_G_writeRefs_34 : decode b_G_writeRefs 34 = .ok (.iconst 0, 1) := by decide +kernel
theorem d_G_writeRefs_35 : decode b_G_writeRefs 35 = .ok (.invokevirtual 247, 3) := by decide +kernel
theorem d_G_writeRefs_38 : decode b_G_writeRefs 38 = .ok (.ifCond .eq 10, 3) := by decide +kernel
theorem d_G_writeRefs_41 : decode b_G_writeRefs 41 = .ok (.aload_n 0, 1) := by decide +kernel
theorem d_G_writeRefs_42 : decode b_G_writeRefs 42 = .ok (.getfield 24, 3) := by decide +kernel
theorem d_G_writeRefs_45 : decode b_G_writeRefs 45 = .ok (.invokevirtual 251, 3) := by decide +kernel
theorem d_G_writeRefs_48 : decode b_G_writeRefs 48 = .ok (.aload_n 0, 1) := by decide +kernel
theorem d_G_writeRefs_49 : decode b_G_writeRefs 49 = .ok (.getfield 24, 3) := by decide +kernel
theorem d_G_writeRefs_52 : decode b_G_writeRefs 52 = .ok (.iload_n 1, 1) := by decide +kernel
theorem d_G_writeRefs_53 : decode b_G_writeRefs 53 = .ok (.invokevirtual 254, 3) := by decide +kernel
theorem d_G_writeRefs_56 : decode b_G_writeRefs 56 = .ok (.aload_n 0, 1) := by decide +kernel
theorem d_G_writeRefs_57 : decode b_G_writeRefs 57 = .ok (.getfield 24, 3) := by decide +kernel
theorem d_G_writeRefs_60 : decode b_G_writeRefs 60 = .ok (.aload_n 3, 1) := by decide +kernel
theorem d_G_writeRefs_61 : decode b_G_writeRefs 61 = .ok (.arraylength, 1) := by decide +kernel
theorem d_G_writeRefs_62 : decode b_G_writeRefs 62 = .ok (.i2l, 1) := by decide +kernel
theorem d_G_writeRefs_63 : decode b_G_writeRefs 63 = .ok (.iconst 4, 1) := by decide +kernel
theorem d_G_writeRefs_64 : decode b_G_writeRefs 64 = .ok (.invokevirtual 33, 3) := by decide +kernel
theorem d_G_writeRefs_67 : decode b_G_writeRefs 67 = .ok (.iconst 0, 1) := by decide +kernel
theorem d_G_writeRefs_68 : decode b_G_writeRefs 68 = .ok (.istore 4, 2) := by decide +kernel
theorem d_G_writeRefs_70 : decode b_G_writeRefs 70 = .ok (.iload 4, 2) := by decide +kernel
theorem d_G_writeRefs_72 : decode b_G_writeRefs 72 = .ok (.aload_n 3, 1) := by decide +kernel
theorem d_G_writeRefs_73 : decode b_G_writeRefs 73 = .ok (.arraylength, 1) := by decide +kernel
theorem d_G_writeRefs_74 : decode b_G_writeRefs 74 = .ok (.if_icmp .ge 22, 3) := by decide +kernel
theorem d_G_writeRefs_77 : decode b_G_writeRefs 77 = .ok (.aload_n 0, 1) := by decide +kernel
theorem d_G_writeRefs_78 : decode b_G_writeRefs 78 = .ok (.aload_n 3, 1) := by decide +kernel
theorem d_G_writeRefs_79 : decode b_G_writeRefs 79 = .ok (.iload 4, 2) := by decide +kernel
theorem d_G_writeRefs_81 : decode b_G_writeRefs 81 = .ok (.laload, 1) := by decide +kernel
theorem d_G_writeRefs_82 : decode b_G_writeRefs 82 = .ok (.l2i, 1) := by decide +kernel
theorem d_G_writeRefs_83 : decode b_G_writeRefs 83 = .ok (.iconst 0, 1) := by decide +kernel
theorem d_G_writeRefs_84 : decode b_G_writeRefs 84 = .ok (.iload_n 2, 1) := by decide +kernel
theorem d_G_writeRefs_85 : decode b_G_writeRefs 85 = .ok (.iconst 1, 1) := by decide +kernel
theorem d_G_writeRefs_86 : decode b_G_writeRefs 86 = .ok (.iadd, 1) := by decide +kernel
theorem d_G_writeRefs_87 : decode b_G_writeRefs 87 = .ok (.invokevirtual 148, 3) := by decide +kernel
theorem d_G_writeRefs_90 : decode b_G_writeRefs 90 = .ok (.iinc 4 1, 3) := by decide +kernel
theorem d_G_writeRefs_93 : decode b_G_writeRefs 93 = .ok (.goto (-23), 3) := by decide +kernel
theorem d_G_writeRefs_96 : decode b_G_writeRefs 96 = .ok (.return_, 1) := by decide +kernel
theorem d_G_writeConstant_0 : decode b_G_writeConstant 0 = .ok (.aload_n 0, 1) := by decide +kernel
theorem d_G_writeConstant_1 : decode b_G_writeConstant 1 = .ok (.getfield 17, 3) := by decide +kernel
theorem d_G_writeConstant_4 : decode b_G_writeConstant 4 = .ok (.iload_n 1, 1) := by decide +kernel
theorem d_G_writeConstant_5 : decode b_G_writeConstant 5 = .ok (.aaload, 1) := by decide +kernel
