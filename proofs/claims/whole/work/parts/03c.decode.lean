-- decode rows, a row an instruction (by wip/gen/names.py)
theorem dD_without_0 : decode cD_without 0 = .ok (.aload_n 0, 1) := by decide +kernel
theorem dD_without_1 : decode cD_without 1 = .ok (.iconst 0, 1) := by decide +kernel
theorem dD_without_2 : decode cD_without 2 = .ok (.putfield 66, 3) := by decide +kernel
theorem dD_without_5 : decode cD_without 5 = .ok (.iconst 0, 1) := by decide +kernel
theorem dD_without_6 : decode cD_without 6 = .ok (.istore_n 3, 1) := by decide +kernel
theorem dD_without_7 : decode cD_without 7 = .ok (.iload_n 3, 1) := by decide +kernel
theorem dD_without_8 : decode cD_without 8 = .ok (.aload_n 0, 1) := by decide +kernel
theorem dD_without_9 : decode cD_without 9 = .ok (.getfield 41, 3) := by decide +kernel
theorem dD_without_12 : decode cD_without 12 = .ok (.if_icmp .ge 46, 3) := by decide +kernel
theorem dD_without_15 : decode cD_without 15 = .ok (.iload_n 3, 1) := by decide +kernel
theorem dD_without_16 : decode cD_without 16 = .ok (.iload_n 1, 1) := by decide +kernel
theorem dD_without_17 : decode cD_without 17 = .ok (.if_icmp .lt 10, 3) := by decide +kernel
theorem dD_without_20 : decode cD_without 20 = .ok (.iload_n 3, 1) := by decide +kernel
theorem dD_without_21 : decode cD_without 21 = .ok (.iload_n 1, 1) := by decide +kernel
theorem dD_without_22 : decode cD_without 22 = .ok (.iload_n 2, 1) := by decide +kernel
theorem dD_without_23 : decode cD_without 23 = .ok (.iadd, 1) := by decide +kernel
theorem dD_without_24 : decode cD_without 24 = .ok (.if_icmp .lt 28, 3) := by decide +kernel
theorem dD_without_27 : decode cD_without 27 = .ok (.aload_n 0, 1) := by decide +kernel
theorem dD_without_28 : decode cD_without 28 = .ok (.getfield 16, 3) := by decide +kernel
theorem dD_without_31 : decode cD_without 31 = .ok (.aload_n 0, 1) := by decide +kernel
theorem dD_without_32 : decode cD_without 32 = .ok (.getfield 66, 3) := by decide +kernel
theorem dD_without_35 : decode cD_without 35 = .ok (.aload_n 0, 1) := by decide +kernel
theorem dD_without_36 : decode cD_without 36 = .ok (.getfield 7, 3) := by decide +kernel
theorem dD_without_39 : decode cD_without 39 = .ok (.iload_n 3, 1) := by decide +kernel
theorem dD_without_40 : decode cD_without 40 = .ok (.iaload, 1) := by decide +kernel
theorem dD_without_41 : decode cD_without 41 = .ok (.iastore, 1) := by decide +kernel
theorem dD_without_42 : decode cD_without 42 = .ok (.aload_n 0, 1) := by decide +kernel
theorem dD_without_43 : decode cD_without 43 = .ok (.dup, 1) := by decide +kernel
theorem dD_without_44 : decode cD_without 44 = .ok (.getfield 66, 3) := by decide +kernel
theorem dD_without_47 : decode cD_without 47 = .ok (.iconst 1, 1) := by decide +kernel
theorem dD_without_48 : decode cD_without 48 = .ok (.iadd, 1) := by decide +kernel
theorem dD_without_49 : decode cD_without 49 = .ok (.putfield 66, 3) := by decide +kernel
theorem dD_without_52 : decode cD_without 52 = .ok (.iinc 3 1, 3) := by decide +kernel
theorem dD_without_55 : decode cD_without 55 = .ok (.goto (-48), 3) := by decide +kernel
theorem dD_without_58 : decode cD_without 58 = .ok (.return_, 1) := by decide +kernel
theorem dD_withByte_0 : decode cD_withByte 0 = .ok (.iconst 0, 1) := by decide +kernel
theorem dD_withByte_1 : decode cD_withByte 1 = .ok (.istore 4, 2) := by decide +kernel
theorem dD_withByte_3 : decode cD_withByte 3 = .ok (.iload 4, 2) := by decide +kernel
theorem dD_withByte_5 : decode cD_withByte 5 = .ok (.aload_n 0, 1) := by decide +kernel
theorem dD_withByte_6 : decode cD_withByte 6 = .ok (.getfield 41, 3) := by decide +kernel
theorem dD_withByte_9 : decode cD_withByte 9 = .ok (.if_icmp .ge 23, 3) := by decide +kernel
theorem dD_withByte_12 : decode cD_withByte 12 = .ok (.aload_n 0, 1) := by decide +kernel
theorem dD_withByte_13 : decode cD_withByte 13 = .ok (.getfield 16, 3) := by decide +kernel
theorem dD_withByte_16 : decode cD_withByte 16 = .ok (.iload 4, 2) := by decide +kernel
theorem dD_withByte_18 : decode cD_withByte 18 = .ok (.aload_n 0, 1) := by decide +kernel
theorem dD_withByte_19 : decode cD_withByte 19 = .ok (.getfield 7, 3) := by decide +kernel
theorem dD_withByte_22 : decode cD_withByte 22 = .ok (.iload 4, 2) := by decide +kernel
theorem dD_withByte_24 : decode cD_withByte 24 = .ok (.iaload, 1) := by decide +kernel
theorem dD_withByte_25 : decode cD_withByte 25 = .ok (.iastore, 1) := by decide +kernel
theorem dD_withByte_26 : decode cD_withByte 26 = .ok (.iinc 4 1, 3) := by decide +kernel
theorem dD_withByte_29 : decode cD_withByte 29 = .ok (.goto (-26), 3) := by decide +kernel
theorem dD_withByte_32 : decode cD_withByte 32 = .ok (.bipush 24, 2) := by decide +kernel
theorem dD_withByte_34 : decode cD_withByte 34 = .ok (.bipush 8, 2) := by decide +kernel
theorem dD_withByte_36 : decode cD_withByte 36 = .ok (.iload_n 2, 1) := by decide +kernel
theorem dD_withByte_37 : decode cD_withByte 37 = .ok (.imul, 1) := by decide +kernel
theorem dD_withByte_38 : decode cD_withByte 38 = .ok (.isub, 1) := by decide +kernel
theorem dD_withByte_39 : decode cD_withByte 39 = .ok (.istore 4, 2) := by decide +kernel
theorem dD_withByte_41 : decode cD_withByte 41 = .ok (.aload_n 0, 1) := by decide +kernel
theorem dD_withByte_42 : decode cD_withByte 42 = .ok (.getfield 16, 3) := by decide +kernel
theorem dD_withByte_45 : decode cD_withByte 45 = .ok (.iload_n 1, 1) := by decide +kernel
theorem dD_withByte_46 : decode cD_withByte 46 = .ok (.aload_n 0, 1) := by decide +kernel
theorem dD_withByte_47 : decode cD_withByte 47 = .ok (.getfield 7, 3) := by decide +kernel
theorem dD_withByte_50 : decode cD_withByte 50 = .ok (.iload_n 1, 1) := by decide +kernel
theorem dD_withByte_51 : decode cD_withByte 51 = .ok (.iaload, 1) := by decide +kernel
theorem dD_withByte_52 : decode cD_withByte 52 = .ok (.sipush 255, 3) := by decide +kernel
theorem dD_withByte_55 : decode cD_withByte 55 = .ok (.iload 4, 2) := by decide +kernel
theorem dD_withByte_57 : decode cD_withByte 57 = .ok (.ishl, 1) := by decide +kernel
theorem dD_withByte_58 : decode cD_withByte 58 = .ok (.iconst (-1), 1) := by decide +kernel
theorem dD_withByte_59 : decode cD_withByte 59 = .ok (.ixor, 1) := by decide +kernel
theorem dD_withByte_60 : decode cD_withByte 60 = .ok (.iand, 1) := by decide +kernel
theorem dD_withByte_61 : decode cD_withByte 61 = .ok (.iload_n 3, 1) := by decide +kernel
theorem dD_withByte_62 : decode cD_withByte 62 = .ok (.iload 4, 2) := by decide +kernel
theorem dD_withByte_64 : decode cD_withByte 64 = .ok (.ishl, 1) := by decide +kernel
theorem dD_withByte_65 : decode cD_withByte 65 = .ok (.ior, 1) := by decide +kernel
theorem dD_withByte_66 : decode cD_withByte 66 = .ok (.iastore, 1) := by decide +kernel
theorem dD_withByte_67 : decode cD_withByte 67 = .ok (.aload_n 0, 1) := by decide +kernel
theorem dD_withByte_68 : decode cD_withByte 68 = .ok (.aload_n 0, 1) := by decide +kernel
theorem dD_withByte_69 : decode cD_withByte 69 = .ok (.getfield 41, 3) := by decide +kernel
theorem dD_withByte_72 : decode cD_withByte 72 = .ok (.putfield 66, 3) := by decide +kernel
theorem dD_withByte_75 : decode cD_withByte 75 = .ok (.return_, 1) := by decide +kernel
theorem dD_byteOf_0 : decode cD_byteOf 0 = .ok (.aload_n 0, 1) := by decide +kernel
theorem dD_byteOf_1 : decode cD_byteOf 1 = .ok (.getfield 7, 3) := by decide +kernel
theorem dD_byteOf_4 : decode cD_byteOf 4 = .ok (.iload_n 1, 1) := by decide +kernel
theorem dD_byteOf_5 : decode cD_byteOf 5 = .ok (.iaload, 1) := by decide +kernel
theorem dD_byteOf_6 : decode cD_byteOf 6 = .ok (.bipush 24, 2) := by decide +kernel
theorem dD_byteOf_8 : decode cD_byteOf 8 = .ok (.bipush 8, 2) := by decide +kernel
theorem dD_byteOf_10 : decode cD_byteOf 10 = .ok (.iload_n 2, 1) := by decide +kernel
theorem dD_byteOf_11 : decode cD_byteOf 11 = .ok (.imul, 1) := by decide +kernel
theorem dD_byteOf_12 : decode cD_byteOf 12 = .ok (.isub, 1) := by decide +kernel
theorem dD_byteOf_13 : decode cD_byteOf 13 = .ok (.iushr, 1) := by decide +kernel
theorem dD_byteOf_14 : decode cD_byteOf 14 = .ok (.sipush 255, 3) := by decide +kernel
theorem dD_byteOf_17 : decode cD_byteOf 17 = .ok (.iand, 1) := by decide +kernel
theorem dD_byteOf_18 : decode cD_byteOf 18 = .ok (.ireturn, 1) := by decide +kernel
theorem dD_lowerTo_0 : decode cD_lowerTo 0 = .ok (.aload_n 0, 1) := by decide +kernel
theorem dD_lowerTo_1 : decode cD_lowerTo 1 = .ok (.aload_n 0, 1) := by decide +kernel
theorem dD_lowerTo_2 : decode cD_lowerTo 2 = .ok (.getfield 73, 3) := by decide +kernel
theorem dD_lowerTo_5 : decode cD_lowerTo 5 = .ok (.aload_n 0, 1) := by decide +kernel
theorem dD_lowerTo_6 : decode cD_lowerTo 6 = .ok (.getfield 76, 3) := by decide +kernel
theorem dD_lowerTo_9 : decode cD_lowerTo 9 = .ok (.invokevirtual 79, 3) := by decide +kernel
theorem dD_lowerTo_12 : decode cD_lowerTo 12 = .ok (.istore_n 1, 1) := by decide +kernel
theorem dD_lowerTo_13 : decode cD_lowerTo 13 = .ok (.aload_n 0, 1) := by decide +kernel
theorem dD_lowerTo_14 : decode cD_lowerTo 14 = .ok (.getfield 83, 3) := by decide +kernel
theorem dD_lowerTo_17 : decode cD_lowerTo 17 = .ok (.ifCond .ne 15, 3) := by decide +kernel
theorem dD_lowerTo_20 : decode cD_lowerTo 20 = .ok (.iload_n 1, 1) := by decide +kernel
theorem dD_lowerTo_21 : decode cD_lowerTo 21 = .ok (.ifCond .ne 7, 3) := by decide +kernel
theorem dD_lowerTo_24 : decode cD_lowerTo 24 = .ok (.iconst (-1), 1) := by decide +kernel
theorem dD_lowerTo_25 : decode cD_lowerTo 25 = .ok (.goto 24, 3) := by decide +kernel
theorem dD_lowerTo_28 : decode cD_lowerTo 28 = .ok (.iconst 0, 1) := by decide +kernel
theorem dD_lowerTo_29 : decode cD_lowerTo 29 = .ok (.goto 20, 3) := by decide +kernel
theorem dD_lowerTo_32 : decode cD_lowerTo 32 = .ok (.aload_n 0, 1) := by decide +kernel
theorem dD_lowerTo_33 : decode cD_lowerTo 33 = .ok (.getfield 83, 3) := by decide +kernel
theorem dD_lowerTo_36 : decode cD_lowerTo 36 = .ok (.iconst 1, 1) := by decide +kernel
theorem dD_lowerTo_37 : decode cD_lowerTo 37 = .ok (.if_icmp .ne 9, 3) := by decide +kernel
theorem dD_lowerTo_40 : decode cD_lowerTo 40 = .ok (.iload_n 1, 1) := by decide +kernel
theorem dD_lowerTo_41 : decode cD_lowerTo 41 = .ok (.iconst 2, 1) := by decide +kernel
theorem dD_lowerTo_42 : decode cD_lowerTo 42 = .ok (.idiv, 1) := by decide +kernel
theorem dD_lowerTo_43 : decode cD_lowerTo 43 = .ok (.goto 6, 3) := by decide +kernel
theorem dD_lowerTo_46 : decode cD_lowerTo 46 = .ok (.iload_n 1, 1) := by decide +kernel
theorem dD_lowerTo_47 : decode cD_lowerTo 47 = .ok (.iconst 1, 1) := by decide +kernel
theorem dD_lowerTo_48 : decode cD_lowerTo 48 = .ok (.isub, 1) := by decide +kernel
theorem dD_lowerTo_49 : decode cD_lowerTo 49 = .ok (.istore_n 2, 1) := by decide +kernel
theorem dD_lowerTo_50 : decode cD_lowerTo 50 = .ok (.aload_n 0, 1) := by decide +kernel
theorem dD_lowerTo_51 : decode cD_lowerTo 51 = .ok (.getfield 83, 3) := by decide +kernel
theorem dD_lowerTo_54 : decode cD_lowerTo 54 = .ok (.ifCond .eq 7, 3) := by decide +kernel
theorem dD_lowerTo_57 : decode cD_lowerTo 57 = .ok (.iload_n 2, 1) := by decide +kernel
theorem dD_lowerTo_58 : decode cD_lowerTo 58 = .ok (.ifCond .le 7, 3) := by decide +kernel
theorem dD_lowerTo_61 : decode cD_lowerTo 61 = .ok (.iload_n 2, 1) := by decide +kernel
theorem dD_lowerTo_62 : decode cD_lowerTo 62 = .ok (.goto 4, 3) := by decide +kernel
theorem dD_lowerTo_65 : decode cD_lowerTo 65 = .ok (.iconst (-1), 1) := by decide +kernel
theorem dD_lowerTo_66 : decode cD_lowerTo 66 = .ok (.ireturn, 1) := by decide +kernel
theorem dD_beginLeaving_0 : decode cD_beginLeaving 0 = .ok (.aload_n 0, 1) := by decide +kernel
theorem dD_beginLeaving_1 : decode cD_beginLeaving 1 = .ok (.iconst 0, 1) := by decide +kernel
theorem dD_beginLeaving_2 : decode cD_beginLeaving 2 = .ok (.putfield 86, 3) := by decide +kernel
theorem dD_beginLeaving_5 : decode cD_beginLeaving 5 = .ok (.aload_n 0, 1) := by decide +kernel
theorem dD_beginLeaving_6 : decode cD_beginLeaving 6 = .ok (.iload_n 1, 1) := by decide +kernel
theorem dD_beginLeaving_7 : decode cD_beginLeaving 7 = .ok (.putfield 90, 3) := by decide +kernel
theorem dD_beginLeaving_10 : decode cD_beginLeaving 10 = .ok (.aload_n 0, 1) := by decide +kernel
theorem dD_beginLeaving_11 : decode cD_beginLeaving 11 = .ok (.iconst 0, 1) := by decide +kernel
theorem dD_beginLeaving_12 : decode cD_beginLeaving 12 = .ok (.putfield 93, 3) := by decide +kernel
theorem dD_beginLeaving_15 : decode cD_beginLeaving 15 = .ok (.aload_n 0, 1) := by decide +kernel
theorem dD_beginLeaving_16 : decode cD_beginLeaving 16 = .ok (.iconst 0, 1) := by decide +kernel
theorem dD_beginLeaving_17 : decode cD_beginLeaving 17 = .ok (.putfield 96, 3) := by decide +kernel
theorem dD_beginLeaving_20 : decode cD_beginLeaving 20 = .ok (.aload_n 0, 1) := by decide +kernel
theorem dD_beginLeaving_21 : decode cD_beginLeaving 21 = .ok (.dup, 1) := by decide +kernel
theorem dD_beginLeaving_22 : decode cD_beginLeaving 22 = .ok (.getfield 63, 3) := by decide +kernel
theorem dD_beginLeaving_25 : decode cD_beginLeaving 25 = .ok (.iconst 1, 1) := by decide +kernel
theorem dD_beginLeaving_26 : decode cD_beginLeaving 26 = .ok (.iadd, 1) := by decide +kernel
theorem dD_beginLeaving_27 : decode cD_beginLeaving 27 = .ok (.putfield 63, 3) := by decide +kernel
theorem dD_beginLeaving_30 : decode cD_beginLeaving 30 = .ok (.return_, 1) := by decide +kernel
theorem dD_beginLowering_0 : decode cD_beginLowering 0 = .ok (.aload_n 0, 1) := by decide +kernel
theorem dD_beginLowering_1 : decode cD_beginLowering 1 = .ok (.iconst 1, 1) := by decide +kernel
theorem dD_beginLowering_2 : decode cD_beginLowering 2 = .ok (.putfield 86, 3) := by decide +kernel
theorem dD_beginLowering_5 : decode cD_beginLowering 5 = .ok (.aload_n 0, 1) := by decide +kernel
theorem dD_beginLowering_6 : decode cD_beginLowering 6 = .ok (.iconst 0, 1) := by decide +kernel
theorem dD_beginLowering_7 : decode cD_beginLowering 7 = .ok (.putfield 99, 3) := by decide +kernel
theorem dD_beginLowering_10 : decode cD_beginLowering 10 = .ok (.aload_n 0, 1) := by decide +kernel
theorem dD_beginLowering_11 : decode cD_beginLowering 11 = .ok (.iconst 0, 1) := by decide +kernel
theorem dD_beginLowering_12 : decode cD_beginLowering 12 = .ok (.putfield 73, 3) := by decide +kernel
theorem dD_beginLowering_15 : decode cD_beginLowering 15 = .ok (.aload_n 0, 1) := by decide +kernel
theorem dD_beginLowering_16 : decode cD_beginLowering 16 = .ok (.iconst 0, 1) := by decide +kernel
theorem dD_beginLowering_17 : decode cD_beginLowering 17 = .ok (.putfield 76, 3) := by decide +kernel
theorem dD_beginLowering_20 : decode cD_beginLowering 20 = .ok (.aload_n 0, 1) := by decide +kernel
theorem dD_beginLowering_21 : decode cD_beginLowering 21 = .ok (.iconst 0, 1) := by decide +kernel
theorem dD_beginLowering_22 : decode cD_beginLowering 22 = .ok (.putfield 83, 3) := by decide +kernel
theorem dD_beginLowering_25 : decode cD_beginLowering 25 = .ok (.return_, 1) := by decide +kernel
theorem dD_nextByte_0 : decode cD_nextByte 0 = .ok (.aload_n 0, 1) := by decide +kernel
theorem dD_nextByte_1 : decode cD_nextByte 1 = .ok (.iconst 0, 1) := by decide +kernel
theorem dD_nextByte_2 : decode cD_nextByte 2 = .ok (.putfield 83, 3) := by decide +kernel
theorem dD_nextByte_5 : decode cD_nextByte 5 = .ok (.aload_n 0, 1) := by decide +kernel
theorem dD_nextByte_6 : decode cD_nextByte 6 = .ok (.dup, 1) := by decide +kernel
theorem dD_nextByte_7 : decode cD_nextByte 7 = .ok (.getfield 76, 3) := by decide +kernel
theorem dD_nextByte_10 : decode cD_nextByte 10 = .ok (.iconst 1, 1) := by decide +kernel
theorem dD_nextByte_11 : decode cD_nextByte 11 = .ok (.iadd, 1) := by decide +kernel
theorem dD_nextByte_12 : decode cD_nextByte 12 = .ok (.putfield 76, 3) := by decide +kernel
theorem dD_nextByte_15 : decode cD_nextByte 15 = .ok (.aload_n 0, 1) := by decide +kernel
theorem dD_nextByte_16 : decode cD_nextByte 16 = .ok (.getfield 76, 3) := by decide +kernel
theorem dD_nextByte_19 : decode cD_nextByte 19 = .ok (.iconst 4, 1) := by decide +kernel
theorem dD_nextByte_20 : decode cD_nextByte 20 = .ok (.if_icmp .ge 4, 3) := by decide +kernel
theorem dD_nextByte_23 : decode cD_nextByte 23 = .ok (.return_, 1) := by decide +kernel
theorem dD_nextByte_24 : decode cD_nextByte 24 = .ok (.aload_n 0, 1) := by decide +kernel
theorem dD_nextByte_25 : decode cD_nextByte 25 = .ok (.iconst 0, 1) := by decide +kernel
theorem dD_nextByte_26 : decode cD_nextByte 26 = .ok (.putfield 76, 3) := by decide +kernel
theorem dD_nextByte_29 : decode cD_nextByte 29 = .ok (.aload_n 0, 1) := by decide +kernel
theorem dD_nextByte_30 : decode cD_nextByte 30 = .ok (.dup, 1) := by decide +kernel
theorem dD_nextByte_31 : decode cD_nextByte 31 = .ok (.getfield 73, 3) := by decide +kernel
theorem dD_nextByte_34 : decode cD_nextByte 34 = .ok (.iconst 1, 1) := by decide +kernel
theorem dD_nextByte_35 : decode cD_nextByte 35 = .ok (.iadd, 1) := by decide +kernel
theorem dD_nextByte_36 : decode cD_nextByte 36 = .ok (.putfield 73, 3) := by decide +kernel
theorem dD_nextByte_39 : decode cD_nextByte 39 = .ok (.return_, 1) := by decide +kernel
theorem dD_endPass_0 : decode cD_endPass 0 = .ok (.aload_n 0, 1) := by decide +kernel
theorem dD_endPass_1 : decode cD_endPass 1 = .ok (.getfield 90, 3) := by decide +kernel
theorem dD_endPass_4 : decode cD_endPass 4 = .ok (.iconst 1, 1) := by decide +kernel
theorem dD_endPass_5 : decode cD_endPass 5 = .ok (.if_icmp .gt 10, 3) := by decide +kernel
theorem dD_endPass_8 : decode cD_endPass 8 = .ok (.aload_n 0, 1) := by decide +kernel
theorem dD_endPass_9 : decode cD_endPass 9 = .ok (.getfield 96, 3) := by decide +kernel
theorem dD_endPass_12 : decode cD_endPass 12 = .ok (.ifCond .eq 7, 3) := by decide +kernel
theorem dD_endPass_15 : decode cD_endPass 15 = .ok (.iconst 1, 1) := by decide +kernel
theorem dD_endPass_16 : decode cD_endPass 16 = .ok (.goto 4, 3) := by decide +kernel
theorem dD_endPass_19 : decode cD_endPass 19 = .ok (.iconst 0, 1) := by decide +kernel
theorem dD_endPass_20 : decode cD_endPass 20 = .ok (.istore_n 1, 1) := by decide +kernel
theorem dD_endPass_21 : decode cD_endPass 21 = .ok (.aload_n 0, 1) := by decide +kernel
theorem dD_endPass_22 : decode cD_endPass 22 = .ok (.aload_n 0, 1) := by decide +kernel
theorem dD_endPass_23 : decode cD_endPass 23 = .ok (.getfield 90, 3) := by decide +kernel
theorem dD_endPass_26 : decode cD_endPass 26 = .ok (.iconst 1, 1) := by decide +kernel
theorem dD_endPass_27 : decode cD_endPass 27 = .ok (.if_icmp .le 12, 3) := by decide +kernel
theorem dD_endPass_30 : decode cD_endPass 30 = .ok (.aload_n 0, 1) := by decide +kernel
theorem dD_endPass_31 : decode cD_endPass 31 = .ok (.getfield 90, 3) := by decide +kernel
theorem dD_endPass_34 : decode cD_endPass 34 = .ok (.iconst 2, 1) := by decide +kernel
theorem dD_endPass_35 : decode cD_endPass 35 = .ok (.idiv, 1) := by decide +kernel
theorem dD_endPass_36 : decode cD_endPass 36 = .ok (.goto 4, 3) := by decide +kernel
theorem dD_endPass_39 : decode cD_endPass 39 = .ok (.iconst 1, 1) := by decide +kernel
theorem dD_endPass_40 : decode cD_endPass 40 = .ok (.putfield 90, 3) := by decide +kernel
theorem dD_endPass_43 : decode cD_endPass 43 = .ok (.aload_n 0, 1) := by decide +kernel
theorem dD_endPass_44 : decode cD_endPass 44 = .ok (.iconst 0, 1) := by decide +kernel
theorem dD_endPass_45 : decode cD_endPass 45 = .ok (.putfield 93, 3) := by decide +kernel
theorem dD_endPass_48 : decode cD_endPass 48 = .ok (.aload_n 0, 1) := by decide +kernel
theorem dD_endPass_49 : decode cD_endPass 49 = .ok (.iconst 0, 1) := by decide +kernel
theorem dD_endPass_50 : decode cD_endPass 50 = .ok (.putfield 96, 3) := by decide +kernel
theorem dD_endPass_53 : decode cD_endPass 53 = .ok (.iload_n 1, 1) := by decide +kernel
theorem dD_endPass_54 : decode cD_endPass 54 = .ok (.ifCond .ne 7, 3) := by decide +kernel
theorem dD_endPass_57 : decode cD_endPass 57 = .ok (.aload_n 0, 1) := by decide +kernel
theorem dD_endPass_58 : decode cD_endPass 58 = .ok (.invokevirtual 102, 3) := by decide +kernel
theorem dD_endPass_61 : decode cD_endPass 61 = .ok (.return_, 1) := by decide +kernel
theorem dD_prepare_0 : decode cD_prepare 0 = .ok (.aload_n 0, 1) := by decide +kernel
theorem dD_prepare_1 : decode cD_prepare 1 = .ok (.getfield 38, 3) := by decide +kernel
theorem dD_prepare_4 : decode cD_prepare 4 = .ok (.iconst 1, 1) := by decide +kernel
theorem dD_prepare_5 : decode cD_prepare 5 = .ok (.if_icmp .ne 137, 3) := by decide +kernel
theorem dD_prepare_8 : decode cD_prepare 8 = .ok (.aload_n 0, 1) := by decide +kernel
theorem dD_prepare_9 : decode cD_prepare 9 = .ok (.getfield 86, 3) := by decide +kernel
theorem dD_prepare_12 : decode cD_prepare 12 = .ok (.ifCond .ne 28, 3) := by decide +kernel
theorem dD_prepare_15 : decode cD_prepare 15 = .ok (.aload_n 0, 1) := by decide +kernel
theorem dD_prepare_16 : decode cD_prepare 16 = .ok (.getfield 93, 3) := by decide +kernel
theorem dD_prepare_19 : decode cD_prepare 19 = .ok (.aload_n 0, 1) := by decide +kernel
theorem dD_prepare_20 : decode cD_prepare 20 = .ok (.getfield 41, 3) := by decide +kernel
theorem dD_prepare_23 : decode cD_prepare 23 = .ok (.if_icmp .ge 17, 3) := by decide +kernel
theorem dD_prepare_26 : decode cD_prepare 26 = .ok (.aload_n 0, 1) := by decide +kernel
theorem dD_prepare_27 : decode cD_prepare 27 = .ok (.aload_n 0, 1) := by decide +kernel
theorem dD_prepare_28 : decode cD_prepare 28 = .ok (.getfield 93, 3) := by decide +kernel
theorem dD_prepare_31 : decode cD_prepare 31 = .ok (.aload_n 0, 1) := by decide +kernel
theorem dD_prepare_32 : decode cD_prepare 32 = .ok (.getfield 90, 3) := by decide +kernel
theorem dD_prepare_35 : decode cD_prepare 35 = .ok (.invokevirtual 105, 3) := by decide +kernel
theorem dD_prepare_38 : decode cD_prepare 38 = .ok (.iconst 1, 1) := by decide +kernel
theorem dD_prepare_39 : decode cD_prepare 39 = .ok (.ireturn, 1) := by decide +kernel
theorem dD_prepare_40 : decode cD_prepare 40 = .ok (.aload_n 0, 1) := by decide +kernel
theorem dD_prepare_41 : decode cD_prepare 41 = .ok (.getfield 86, 3) := by decide +kernel
theorem dD_prepare_44 : decode cD_prepare 44 = .ok (.ifCond .ne 10, 3) := by decide +kernel
theorem dD_prepare_47 : decode cD_prepare 47 = .ok (.aload_n 0, 1) := by decide +kernel
theorem dD_prepare_48 : decode cD_prepare 48 = .ok (.invokevirtual 109, 3) := by decide +kernel
theorem dD_prepare_51 : decode cD_prepare 51 = .ok (.goto (-51), 3) := by decide +kernel
theorem dD_prepare_54 : decode cD_prepare 54 = .ok (.aload_n 0, 1) := by decide +kernel
theorem dD_prepare_55 : decode cD_prepare 55 = .ok (.getfield 73, 3) := by decide +kernel
theorem dD_prepare_58 : decode cD_prepare 58 = .ok (.aload_n 0, 1) := by decide +kernel
theorem dD_prepare_59 : decode cD_prepare 59 = .ok (.getfield 41, 3) := by decide +kernel
theorem dD_prepare_62 : decode cD_prepare 62 = .ok (.if_icmp .lt 33, 3) := by decide +kernel
theorem dD_prepare_65 : decode cD_prepare 65 = .ok (.aload_n 0, 1) := by decide +kernel
theorem dD_prepare_66 : decode cD_prepare 66 = .ok (.getfield 99, 3) := by decide +kernel
theorem dD_prepare_69 : decode cD_prepare 69 = .ok (.ifCond .eq 18, 3) := by decide +kernel
theorem dD_prepare_72 : decode cD_prepare 72 = .ok (.aload_n 0, 1) := by decide +kernel
theorem dD_prepare_73 : decode cD_prepare 73 = .ok (.getfield 41, 3) := by decide +kernel
theorem dD_prepare_76 : decode cD_prepare 76 = .ok (.ifCond .le 11, 3) := by decide +kernel
theorem dD_prepare_79 : decode cD_prepare 79 = .ok (.aload_n 0, 1) := by decide +kernel
theorem dD_prepare_80 : decode cD_prepare 80 = .ok (.iconst 1, 1) := by decide +kernel
theorem dD_prepare_81 : decode cD_prepare 81 = .ok (.invokevirtual 112, 3) := by decide +kernel
theorem dD_prepare_84 : decode cD_prepare 84 = .ok (.goto (-84), 3) := by decide +kernel
theorem dD_prepare_87 : decode cD_prepare 87 = .ok (.aload_n 0, 1) := by decide +kernel
theorem dD_prepare_88 : decode cD_prepare 88 = .ok (.iconst 2, 1) := by decide +kernel
theorem dD_prepare_89 : decode cD_prepare 89 = .ok (.putfield 38, 3) := by decide +kernel
theorem dD_prepare_92 : decode cD_prepare 92 = .ok (.goto (-92), 3) := by decide +kernel
theorem dD_prepare_95 : decode cD_prepare 95 = .ok (.aload_n 0, 1) := by decide +kernel
theorem dD_prepare_96 : decode cD_prepare 96 = .ok (.invokevirtual 116, 3) := by decide +kernel
theorem dD_prepare_99 : decode cD_prepare 99 = .ok (.istore_n 1, 1) := by decide +kernel
theorem dD_prepare_100 : decode cD_prepare 100 = .ok (.iload_n 1, 1) := by decide +kernel
theorem dD_prepare_101 : decode cD_prepare 101 = .ok (.ifCond .lt 18, 3) := by decide +kernel
theorem dD_prepare_104 : decode cD_prepare 104 = .ok (.aload_n 0, 1) := by decide +kernel
theorem dD_prepare_105 : decode cD_prepare 105 = .ok (.aload_n 0, 1) := by decide +kernel
theorem dD_prepare_106 : decode cD_prepare 106 = .ok (.getfield 73, 3) := by decide +kernel
theorem dD_prepare_109 : decode cD_prepare 109 = .ok (.aload_n 0, 1) := by decide +kernel
theorem dD_prepare_110 : decode cD_prepare 110 = .ok (.getfield 76, 3) := by decide +kernel
theorem dD_prepare_113 : decode cD_prepare 113 = .ok (.iload_n 1, 1) := by decide +kernel
theorem dD_prepare_114 : decode cD_prepare 114 = .ok (.invokevirtual 120, 3) := by decide +kernel
theorem dD_prepare_117 : decode cD_prepare 117 = .ok (.iconst 1, 1) := by decide +kernel
theorem dD_prepare_118 : decode cD_prepare 118 = .ok (.ireturn, 1) := by decide +kernel
theorem dD_prepare_119 : decode cD_prepare 119 = .ok (.aload_n 0, 1) := by decide +kernel
theorem dD_prepare_120 : decode cD_prepare 120 = .ok (.getfield 83, 3) := by decide +kernel
theorem dD_prepare_123 : decode cD_prepare 123 = .ok (.iconst 1, 1) := by decide +kernel
theorem dD_prepare_124 : decode cD_prepare 124 = .ok (.if_icmp .ne 11, 3) := by decide +kernel
theorem dD_prepare_127 : decode cD_prepare 127 = .ok (.aload_n 0, 1) := by decide +kernel
theorem dD_prepare_128 : decode cD_prepare 128 = .ok (.iconst 2, 1) := by decide +kernel
theorem dD_prepare_129 : decode cD_prepare 129 = .ok (.putfield 83, 3) := by decide +kernel
theorem dD_prepare_132 : decode cD_prepare 132 = .ok (.goto 7, 3) := by decide +kernel
theorem dD_prepare_135 : decode cD_prepare 135 = .ok (.aload_n 0, 1) := by decide +kernel
theorem dD_prepare_136 : decode cD_prepare 136 = .ok (.invokevirtual 124, 3) := by decide +kernel
theorem dD_prepare_139 : decode cD_prepare 139 = .ok (.goto (-139), 3) := by decide +kernel
theorem dD_prepare_142 : decode cD_prepare 142 = .ok (.iconst 0, 1) := by decide +kernel
theorem dD_prepare_143 : decode cD_prepare 143 = .ok (.ireturn, 1) := by decide +kernel
theorem dD_takeLeaving_0 : decode cD_takeLeaving 0 = .ok (.aload_n 0, 1) := by decide +kernel
theorem dD_takeLeaving_1 : decode cD_takeLeaving 1 = .ok (.getfield 41, 3) := by decide +kernel
theorem dD_takeLeaving_4 : decode cD_takeLeaving 4 = .ok (.aload_n 0, 1) := by decide +kernel
theorem dD_takeLeaving_5 : decode cD_takeLeaving 5 = .ok (.getfield 66, 3) := by decide +kernel
theorem dD_takeLeaving_8 : decode cD_takeLeaving 8 = .ok (.isub, 1) := by decide +kernel
theorem dD_takeLeaving_9 : decode cD_takeLeaving 9 = .ok (.istore_n 1, 1) := by decide +kernel
theorem dD_takeLeaving_10 : decode cD_takeLeaving 10 = .ok (.aload_n 0, 1) := by decide +kernel
theorem dD_takeLeaving_11 : decode cD_takeLeaving 11 = .ok (.getfield 93, 3) := by decide +kernel
theorem dD_takeLeaving_14 : decode cD_takeLeaving 14 = .ok (.istore_n 2, 1) := by decide +kernel
theorem dD_takeLeaving_15 : decode cD_takeLeaving 15 = .ok (.iload_n 2, 1) := by decide +kernel
theorem dD_takeLeaving_16 : decode cD_takeLeaving 16 = .ok (.aload_n 0, 1) := by decide +kernel
theorem dD_takeLeaving_17 : decode cD_takeLeaving 17 = .ok (.getfield 66, 3) := by decide +kernel
theorem dD_takeLeaving_20 : decode cD_takeLeaving 20 = .ok (.if_icmp .ge 23, 3) := by decide +kernel
theorem dD_takeLeaving_23 : decode cD_takeLeaving 23 = .ok (.aload_n 0, 1) := by decide +kernel
theorem dD_takeLeaving_24 : decode cD_takeLeaving 24 = .ok (.getfield 13, 3) := by decide +kernel
theorem dD_takeLeaving_27 : decode cD_takeLeaving 27 = .ok (.iload_n 2, 1) := by decide +kernel
theorem dD_takeLeaving_28 : decode cD_takeLeaving 28 = .ok (.aload_n 0, 1) := by decide +kernel
theorem dD_takeLeaving_29 : decode cD_takeLeaving 29 = .ok (.getfield 13, 3) := by decide +kernel
theorem dD_takeLeaving_32 : decode cD_takeLeaving 32 = .ok (.iload_n 2, 1) := by decide +kernel
theorem dD_takeLeaving_33 : decode cD_takeLeaving 33 = .ok (.iload_n 1, 1) := by decide +kernel
theorem dD_takeLeaving_34 : decode cD_takeLeaving 34 = .ok (.iadd, 1) := by decide +kernel
theorem dD_takeLeaving_35 : decode cD_takeLeaving 35 = .ok (.iaload, 1) := by decide +kernel
theorem dD_takeLeaving_36 : decode cD_takeLeaving 36 = .ok (.iastore, 1) := by decide +kernel
theorem dD_takeLeaving_37 : decode cD_takeLeaving 37 = .ok (.iinc 2 1, 3) := by decide +kernel
theorem dD_takeLeaving_40 : decode cD_takeLeaving 40 = .ok (.goto (-25), 3) := by decide +kernel
theorem dD_takeLeaving_43 : decode cD_takeLeaving 43 = .ok (.iconst 0, 1) := by decide +kernel
theorem dD_takeLeaving_44 : decode cD_takeLeaving 44 = .ok (.istore_n 2, 1) := by decide +kernel
theorem dD_takeLeaving_45 : decode cD_takeLeaving 45 = .ok (.iload_n 2, 1) := by decide +kernel
theorem dD_takeLeaving_46 : decode cD_takeLeaving 46 = .ok (.aload_n 0, 1) := by decide +kernel
theorem dD_takeLeaving_47 : decode cD_takeLeaving 47 = .ok (.getfield 66, 3) := by decide +kernel
theorem dD_takeLeaving_50 : decode cD_takeLeaving 50 = .ok (.if_icmp .ge 21, 3) := by decide +kernel
theorem dD_takeLeaving_53 : decode cD_takeLeaving 53 = .ok (.aload_n 0, 1) := by decide +kernel
theorem dD_takeLeaving_54 : decode cD_takeLeaving 54 = .ok (.getfield 7, 3) := by decide +kernel
theorem dD_takeLeaving_57 : decode cD_takeLeaving 57 = .ok (.iload_n 2, 1) := by decide +kernel
theorem dD_takeLeaving_58 : decode cD_takeLeaving 58 = .ok (.aload_n 0, 1) := by decide +kernel
theorem dD_takeLeaving_59 : decode cD_takeLeaving 59 = .ok (.getfield 16, 3) := by decide +kernel
theorem dD_takeLeaving_62 : decode cD_takeLeaving 62 = .ok (.iload_n 2, 1) := by decide +kernel
theorem dD_takeLeaving_63 : decode cD_takeLeaving 63 = .ok (.iaload, 1) := by decide +kernel
theorem dD_takeLeaving_64 : decode cD_takeLeaving 64 = .ok (.iastore, 1) := by decide +kernel
theorem dD_takeLeaving_65 : decode cD_takeLeaving 65 = .ok (.iinc 2 1, 3) := by decide +kernel
theorem dD_takeLeaving_68 : decode cD_takeLeaving 68 = .ok (.goto (-23), 3) := by decide +kernel
theorem dD_takeLeaving_71 : decode cD_takeLeaving 71 = .ok (.aload_n 0, 1) := by decide +kernel
theorem dD_takeLeaving_72 : decode cD_takeLeaving 72 = .ok (.aload_n 0, 1) := by decide +kernel
theorem dD_takeLeaving_73 : decode cD_takeLeaving 73 = .ok (.getfield 66, 3) := by decide +kernel
theorem dD_takeLeaving_76 : decode cD_takeLeaving 76 = .ok (.putfield 41, 3) := by decide +kernel
theorem dD_takeLeaving_79 : decode cD_takeLeaving 79 = .ok (.aload_n 0, 1) := by decide +kernel
theorem dD_takeLeaving_80 : decode cD_takeLeaving 80 = .ok (.dup, 1) := by decide +kernel
theorem dD_takeLeaving_81 : decode cD_takeLeaving 81 = .ok (.getfield 57, 3) := by decide +kernel
theorem dD_takeLeaving_84 : decode cD_takeLeaving 84 = .ok (.iload_n 1, 1) := by decide +kernel
theorem dD_takeLeaving_85 : decode cD_takeLeaving 85 = .ok (.iadd, 1) := by decide +kernel
theorem dD_takeLeaving_86 : decode cD_takeLeaving 86 = .ok (.putfield 57, 3) := by decide +kernel
theorem dD_takeLeaving_89 : decode cD_takeLeaving 89 = .ok (.aload_n 0, 1) := by decide +kernel
theorem dD_takeLeaving_90 : decode cD_takeLeaving 90 = .ok (.iconst 1, 1) := by decide +kernel
theorem dD_takeLeaving_91 : decode cD_takeLeaving 91 = .ok (.putfield 96, 3) := by decide +kernel
theorem dD_takeLeaving_94 : decode cD_takeLeaving 94 = .ok (.return_, 1) := by decide +kernel
theorem dD_takeLowering_0 : decode cD_takeLowering 0 = .ok (.aload_n 0, 1) := by decide +kernel
theorem dD_takeLowering_1 : decode cD_takeLowering 1 = .ok (.getfield 7, 3) := by decide +kernel
theorem dD_takeLowering_4 : decode cD_takeLowering 4 = .ok (.aload_n 0, 1) := by decide +kernel
theorem dD_takeLowering_5 : decode cD_takeLowering 5 = .ok (.getfield 73, 3) := by decide +kernel
theorem dD_takeLowering_8 : decode cD_takeLowering 8 = .ok (.aload_n 0, 1) := by decide +kernel
theorem dD_takeLowering_9 : decode cD_takeLowering 9 = .ok (.getfield 16, 3) := by decide +kernel
theorem dD_takeLowering_12 : decode cD_takeLowering 12 = .ok (.aload_n 0, 1) := by decide +kernel
theorem dD_takeLowering_13 : decode cD_takeLowering 13 = .ok (.getfield 73, 3) := by decide +kernel
theorem dD_takeLowering_16 : decode cD_takeLowering 16 = .ok (.iaload, 1) := by decide +kernel
theorem dD_takeLowering_17 : decode cD_takeLowering 17 = .ok (.iastore, 1) := by decide +kernel
theorem dD_takeLowering_18 : decode cD_takeLowering 18 = .ok (.aload_n 0, 1) := by decide +kernel
theorem dD_takeLowering_19 : decode cD_takeLowering 19 = .ok (.dup, 1) := by decide +kernel
theorem dD_takeLowering_20 : decode cD_takeLowering 20 = .ok (.getfield 60, 3) := by decide +kernel
theorem dD_takeLowering_23 : decode cD_takeLowering 23 = .ok (.iconst 1, 1) := by decide +kernel
theorem dD_takeLowering_24 : decode cD_takeLowering 24 = .ok (.iadd, 1) := by decide +kernel
theorem dD_takeLowering_25 : decode cD_takeLowering 25 = .ok (.putfield 60, 3) := by decide +kernel
theorem dD_takeLowering_28 : decode cD_takeLowering 28 = .ok (.aload_n 0, 1) := by decide +kernel
theorem dD_takeLowering_29 : decode cD_takeLowering 29 = .ok (.iconst 1, 1) := by decide +kernel
theorem dD_takeLowering_30 : decode cD_takeLowering 30 = .ok (.putfield 99, 3) := by decide +kernel
theorem dD_takeLowering_33 : decode cD_takeLowering 33 = .ok (.aload_n 0, 1) := by decide +kernel
theorem dD_takeLowering_34 : decode cD_takeLowering 34 = .ok (.getfield 83, 3) := by decide +kernel
theorem dD_takeLowering_37 : decode cD_takeLowering 37 = .ok (.ifCond .ne 7, 3) := by decide +kernel
theorem dD_takeLowering_40 : decode cD_takeLowering 40 = .ok (.aload_n 0, 1) := by decide +kernel
theorem dD_takeLowering_41 : decode cD_takeLowering 41 = .ok (.invokevirtual 124, 3) := by decide +kernel
theorem dD_takeLowering_44 : decode cD_takeLowering 44 = .ok (.return_, 1) := by decide +kernel
theorem dD_answered_0 : decode cD_answered 0 = .ok (.iload_n 1, 1) := by decide +kernel
theorem dD_answered_1 : decode cD_answered 1 = .ok (.aload_n 0, 1) := by decide +kernel
theorem dD_answered_2 : decode cD_answered 2 = .ok (.getfield 19, 3) := by decide +kernel
theorem dD_answered_5 : decode cD_answered 5 = .ok (.if_icmp .ne 7, 3) := by decide +kernel
theorem dD_answered_8 : decode cD_answered 8 = .ok (.iconst 1, 1) := by decide +kernel
theorem dD_answered_9 : decode cD_answered 9 = .ok (.goto 4, 3) := by decide +kernel
theorem dD_answered_12 : decode cD_answered 12 = .ok (.iconst 0, 1) := by decide +kernel
theorem dD_answered_13 : decode cD_answered 13 = .ok (.istore_n 2, 1) := by decide +kernel
theorem dD_answered_14 : decode cD_answered 14 = .ok (.aload_n 0, 1) := by decide +kernel
theorem dD_answered_15 : decode cD_answered 15 = .ok (.dup, 1) := by decide +kernel
theorem dD_answered_16 : decode cD_answered 16 = .ok (.getfield 54, 3) := by decide +kernel
theorem dD_answered_19 : decode cD_answered 19 = .ok (.iload_n 2, 1) := by decide +kernel
theorem dD_answered_20 : decode cD_answered 20 = .ok (.ifCond .eq 7, 3) := by decide +kernel
theorem dD_answered_23 : decode cD_answered 23 = .ok (.iconst 1, 1) := by decide +kernel
theorem dD_answered_24 : decode cD_answered 24 = .ok (.goto 4, 3) := by decide +kernel
theorem dD_answered_27 : decode cD_answered 27 = .ok (.iconst 0, 1) := by decide +kernel
theorem dD_answered_28 : decode cD_answered 28 = .ok (.iadd, 1) := by decide +kernel
theorem dD_answered_29 : decode cD_answered 29 = .ok (.putfield 54, 3) := by decide +kernel
theorem dD_answered_32 : decode cD_answered 32 = .ok (.aload_n 0, 1) := by decide +kernel
theorem dD_answered_33 : decode cD_answered 33 = .ok (.getfield 86, 3) := by decide +kernel
theorem dD_answered_36 : decode cD_answered 36 = .ok (.ifCond .ne 30, 3) := by decide +kernel
theorem dD_answered_39 : decode cD_answered 39 = .ok (.iload_n 2, 1) := by decide +kernel
theorem dD_answered_40 : decode cD_answered 40 = .ok (.ifCond .eq 10, 3) := by decide +kernel
theorem dD_answered_43 : decode cD_answered 43 = .ok (.aload_n 0, 1) := by decide +kernel
theorem dD_answered_44 : decode cD_answered 44 = .ok (.invokevirtual 127, 3) := by decide +kernel
theorem dD_answered_47 : decode cD_answered 47 = .ok (.goto 55, 3) := by decide +kernel
theorem dD_answered_50 : decode cD_answered 50 = .ok (.aload_n 0, 1) := by decide +kernel
theorem dD_answered_51 : decode cD_answered 51 = .ok (.dup, 1) := by decide +kernel
theorem dD_answered_52 : decode cD_answered 52 = .ok (.getfield 93, 3) := by decide +kernel
theorem dD_answered_55 : decode cD_answered 55 = .ok (.aload_n 0, 1) := by decide +kernel
theorem dD_answered_56 : decode cD_answered 56 = .ok (.getfield 90, 3) := by decide +kernel
theorem dD_answered_59 : decode cD_answered 59 = .ok (.iadd, 1) := by decide +kernel
theorem dD_answered_60 : decode cD_answered 60 = .ok (.putfield 93, 3) := by decide +kernel
theorem dD_answered_63 : decode cD_answered 63 = .ok (.goto 39, 3) := by decide +kernel
theorem dD_answered_66 : decode cD_answered 66 = .ok (.iload_n 2, 1) := by decide +kernel
theorem dD_answered_67 : decode cD_answered 67 = .ok (.ifCond .eq 10, 3) := by decide +kernel
theorem dD_answered_70 : decode cD_answered 70 = .ok (.aload_n 0, 1) := by decide +kernel
theorem dD_answered_71 : decode cD_answered 71 = .ok (.invokevirtual 130, 3) := by decide +kernel
theorem dD_answered_74 : decode cD_answered 74 = .ok (.goto 28, 3) := by decide +kernel
theorem dD_answered_77 : decode cD_answered 77 = .ok (.aload_n 0, 1) := by decide +kernel
theorem dD_answered_78 : decode cD_answered 78 = .ok (.getfield 83, 3) := by decide +kernel
theorem dD_answered_81 : decode cD_answered 81 = .ok (.iconst 2, 1) := by decide +kernel
theorem dD_answered_82 : decode cD_answered 82 = .ok (.if_icmp .ne 10, 3) := by decide +kernel
theorem dD_answered_85 : decode cD_answered 85 = .ok (.aload_n 0, 1) := by decide +kernel
theorem dD_answered_86 : decode cD_answered 86 = .ok (.invokevirtual 124, 3) := by decide +kernel
theorem dD_answered_89 : decode cD_answered 89 = .ok (.goto 13, 3) := by decide +kernel
theorem dD_answered_92 : decode cD_answered 92 = .ok (.aload_n 0, 1) := by decide +kernel
theorem dD_answered_93 : decode cD_answered 93 = .ok (.dup, 1) := by decide +kernel
theorem dD_answered_94 : decode cD_answered 94 = .ok (.getfield 83, 3) := by decide +kernel
theorem dD_answered_97 : decode cD_answered 97 = .ok (.iconst 1, 1) := by decide +kernel
theorem dD_answered_98 : decode cD_answered 98 = .ok (.iadd, 1) := by decide +kernel
theorem dD_answered_99 : decode cD_answered 99 = .ok (.putfield 83, 3) := by decide +kernel
theorem dD_answered_102 : decode cD_answered 102 = .ok (.return_, 1) := by decide +kernel
theorem dD_goOn_0 : decode cD_goOn 0 = .ok (.aload_n 0, 1) := by decide +kernel
theorem dD_goOn_1 : decode cD_goOn 1 = .ok (.invokevirtual 133, 3) := by decide +kernel
theorem dD_goOn_4 : decode cD_goOn 4 = .ok (.ifCond .eq 59, 3) := by decide +kernel
theorem dD_goOn_7 : decode cD_goOn 7 = .ok (.aload_n 0, 1) := by decide +kernel
theorem dD_goOn_8 : decode cD_goOn 8 = .ok (.invokevirtual 137, 3) := by decide +kernel
theorem dD_goOn_11 : decode cD_goOn 11 = .ok (.istore_n 1, 1) := by decide +kernel
theorem dD_goOn_12 : decode cD_goOn 12 = .ok (.iload_n 1, 1) := by decide +kernel
theorem dD_goOn_13 : decode cD_goOn 13 = .ok (.ifCond .ge 27, 3) := by decide +kernel
theorem dD_goOn_16 : decode cD_goOn 16 = .ok (.aload_n 0, 1) := by decide +kernel
theorem dD_goOn_17 : decode cD_goOn 17 = .ok (.getfield 48, 3) := by decide +kernel
theorem dD_goOn_20 : decode cD_goOn 20 = .ok (.aload_n 0, 1) := by decide +kernel
theorem dD_goOn_21 : decode cD_goOn 21 = .ok (.getfield 32, 3) := by decide +kernel
theorem dD_goOn_24 : decode cD_goOn 24 = .ok (.if_icmp .ne 11, 3) := by decide +kernel
theorem dD_goOn_27 : decode cD_goOn 27 = .ok (.aload_n 0, 1) := by decide +kernel
theorem dD_goOn_28 : decode cD_goOn 28 = .ok (.iconst 3, 1) := by decide +kernel
theorem dD_goOn_29 : decode cD_goOn 29 = .ok (.putfield 38, 3) := by decide +kernel
theorem dD_goOn_32 : decode cD_goOn 32 = .ok (.goto 7, 3) := by decide +kernel
theorem dD_goOn_35 : decode cD_goOn 35 = .ok (.aload_n 0, 1) := by decide +kernel
theorem dD_goOn_36 : decode cD_goOn 36 = .ok (.invokevirtual 140, 3) := by decide +kernel
theorem dD_goOn_39 : decode cD_goOn 39 = .ok (.return_, 1) := by decide +kernel
theorem dD_goOn_40 : decode cD_goOn 40 = .ok (.aload_n 0, 1) := by decide +kernel
theorem dD_goOn_41 : decode cD_goOn 41 = .ok (.dup, 1) := by decide +kernel
theorem dD_goOn_42 : decode cD_goOn 42 = .ok (.getfield 51, 3) := by decide +kernel
theorem dD_goOn_45 : decode cD_goOn 45 = .ok (.iconst 1, 1) := by decide +kernel
theorem dD_goOn_46 : decode cD_goOn 46 = .ok (.iadd, 1) := by decide +kernel
theorem dD_goOn_47 : decode cD_goOn 47 = .ok (.putfield 51, 3) := by decide +kernel
theorem dD_goOn_50 : decode cD_goOn 50 = .ok (.aload_n 0, 1) := by decide +kernel
theorem dD_goOn_51 : decode cD_goOn 51 = .ok (.aload_n 0, 1) := by decide +kernel
theorem dD_goOn_52 : decode cD_goOn 52 = .ok (.getfield 29, 3) := by decide +kernel
theorem dD_goOn_55 : decode cD_goOn 55 = .ok (.iload_n 1, 1) := by decide +kernel
theorem dD_goOn_56 : decode cD_goOn 56 = .ok (.iaload, 1) := by decide +kernel
theorem dD_goOn_57 : decode cD_goOn 57 = .ok (.invokevirtual 143, 3) := by decide +kernel
theorem dD_goOn_60 : decode cD_goOn 60 = .ok (.goto (-60), 3) := by decide +kernel
theorem dD_goOn_63 : decode cD_goOn 63 = .ok (.return_, 1) := by decide +kernel
theorem dD_put_0 : decode cD_put 0 = .ok (.aload_n 0, 1) := by decide +kernel
theorem dD_put_1 : decode cD_put 1 = .ok (.getfield 23, 3) := by decide +kernel
theorem dD_put_4 : decode cD_put 4 = .ok (.aload_n 0, 1) := by decide +kernel
theorem dD_put_5 : decode cD_put 5 = .ok (.getfield 48, 3) := by decide +kernel
theorem dD_put_8 : decode cD_put 8 = .ok (.aload_n 0, 1) := by decide +kernel
theorem dD_put_9 : decode cD_put 9 = .ok (.getfield 66, 3) := by decide +kernel
theorem dD_put_12 : decode cD_put 12 = .ok (.iastore, 1) := by decide +kernel
theorem dD_put_13 : decode cD_put 13 = .ok (.iconst 0, 1) := by decide +kernel
theorem dD_put_14 : decode cD_put 14 = .ok (.istore_n 1, 1) := by decide +kernel
theorem dD_put_15 : decode cD_put 15 = .ok (.iload_n 1, 1) := by decide +kernel
theorem dD_put_16 : decode cD_put 16 = .ok (.aload_n 0, 1) := by decide +kernel
theorem dD_put_17 : decode cD_put 17 = .ok (.getfield 66, 3) := by decide +kernel
theorem dD_put_20 : decode cD_put 20 = .ok (.if_icmp .ge 29, 3) := by decide +kernel
theorem dD_put_23 : decode cD_put 23 = .ok (.aload_n 0, 1) := by decide +kernel
theorem dD_put_24 : decode cD_put 24 = .ok (.getfield 26, 3) := by decide +kernel
theorem dD_put_27 : decode cD_put 27 = .ok (.bipush 48, 2) := by decide +kernel
theorem dD_put_29 : decode cD_put 29 = .ok (.aload_n 0, 1) := by decide +kernel
theorem dD_put_30 : decode cD_put 30 = .ok (.getfield 48, 3) := by decide +kernel
theorem dD_put_33 : decode cD_put 33 = .ok (.imul, 1) := by decide +kernel
theorem dD_put_34 : decode cD_put 34 = .ok (.iload_n 1, 1) := by decide +kernel
theorem dD_put_35 : decode cD_put 35 = .ok (.iadd, 1) := by decide +kernel
theorem dD_put_36 : decode cD_put 36 = .ok (.aload_n 0, 1) := by decide +kernel
theorem dD_put_37 : decode cD_put 37 = .ok (.getfield 16, 3) := by decide +kernel
theorem dD_put_40 : decode cD_put 40 = .ok (.iload_n 1, 1) := by decide +kernel
theorem dD_put_41 : decode cD_put 41 = .ok (.iaload, 1) := by decide +kernel
theorem dD_put_42 : decode cD_put 42 = .ok (.iastore, 1) := by decide +kernel
theorem dD_put_43 : decode cD_put 43 = .ok (.iinc 1 1, 3) := by decide +kernel
theorem dD_put_46 : decode cD_put 46 = .ok (.goto (-31), 3) := by decide +kernel
theorem dD_put_49 : decode cD_put 49 = .ok (.aload_n 0, 1) := by decide +kernel
theorem dD_put_50 : decode cD_put 50 = .ok (.getfield 29, 3) := by decide +kernel
theorem dD_put_53 : decode cD_put 53 = .ok (.aload_n 0, 1) := by decide +kernel
theorem dD_put_54 : decode cD_put 54 = .ok (.getfield 48, 3) := by decide +kernel
theorem dD_put_57 : decode cD_put 57 = .ok (.bipush (-2), 2) := by decide +kernel
theorem dD_put_59 : decode cD_put 59 = .ok (.iastore, 1) := by decide +kernel
theorem dD_put_60 : decode cD_put 60 = .ok (.aload_n 0, 1) := by decide +kernel
theorem dD_put_61 : decode cD_put 61 = .ok (.dup, 1) := by decide +kernel
theorem dD_put_62 : decode cD_put 62 = .ok (.getfield 48, 3) := by decide +kernel
theorem dD_put_65 : decode cD_put 65 = .ok (.iconst 1, 1) := by decide +kernel
theorem dD_put_66 : decode cD_put 66 = .ok (.iadd, 1) := by decide +kernel
theorem dD_put_67 : decode cD_put 67 = .ok (.putfield 48, 3) := by decide +kernel
theorem dD_put_70 : decode cD_put 70 = .ok (.return_, 1) := by decide +kernel
theorem dD_begin_0 : decode cD_begin 0 = .ok (.aload_n 0, 1) := by decide +kernel
theorem dD_begin_1 : decode cD_begin 1 = .ok (.iconst 0, 1) := by decide +kernel
theorem dD_begin_2 : decode cD_begin 2 = .ok (.putfield 35, 3) := by decide +kernel
theorem dD_begin_5 : decode cD_begin 5 = .ok (.aload_n 0, 1) := by decide +kernel
theorem dD_begin_6 : decode cD_begin 6 = .ok (.getfield 38, 3) := by decide +kernel
theorem dD_begin_9 : decode cD_begin 9 = .ok (.ifCond .ne 10, 3) := by decide +kernel
theorem dD_begin_12 : decode cD_begin 12 = .ok (.aload_n 0, 1) := by decide +kernel
theorem dD_begin_13 : decode cD_begin 13 = .ok (.getfield 41, 3) := by decide +kernel
theorem dD_begin_16 : decode cD_begin 16 = .ok (.ifCond .ne 9, 3) := by decide +kernel
theorem dD_begin_19 : decode cD_begin 19 = .ok (.aload_n 0, 1) := by decide +kernel
theorem dD_begin_20 : decode cD_begin 20 = .ok (.iconst 1, 1) := by decide +kernel
theorem dD_begin_21 : decode cD_begin 21 = .ok (.putfield 35, 3) := by decide +kernel
theorem dD_begin_24 : decode cD_begin 24 = .ok (.return_, 1) := by decide +kernel
theorem dD_begin_25 : decode cD_begin 25 = .ok (.aload_n 0, 1) := by decide +kernel
theorem dD_begin_26 : decode cD_begin 26 = .ok (.iconst 1, 1) := by decide +kernel
theorem dD_begin_27 : decode cD_begin 27 = .ok (.putfield 38, 3) := by decide +kernel
theorem dD_begin_30 : decode cD_begin 30 = .ok (.aload_n 0, 1) := by decide +kernel
theorem dD_begin_31 : decode cD_begin 31 = .ok (.iconst 1, 1) := by decide +kernel
theorem dD_begin_32 : decode cD_begin 32 = .ok (.putfield 146, 3) := by decide +kernel
theorem dD_begin_35 : decode cD_begin 35 = .ok (.aload_n 0, 1) := by decide +kernel
theorem dD_begin_36 : decode cD_begin 36 = .ok (.aload_n 0, 1) := by decide +kernel
theorem dD_begin_37 : decode cD_begin 37 = .ok (.getfield 41, 3) := by decide +kernel
theorem dD_begin_40 : decode cD_begin 40 = .ok (.iconst 0, 1) := by decide +kernel
theorem dD_begin_41 : decode cD_begin 41 = .ok (.invokevirtual 105, 3) := by decide +kernel
theorem dD_begin_44 : decode cD_begin 44 = .ok (.aload_n 0, 1) := by decide +kernel
theorem dD_begin_45 : decode cD_begin 45 = .ok (.invokevirtual 140, 3) := by decide +kernel
theorem dD_begin_48 : decode cD_begin 48 = .ok (.return_, 1) := by decide +kernel
theorem dD_judge_0 : decode cD_judge 0 = .ok (.aload_n 0, 1) := by decide +kernel
theorem dD_judge_1 : decode cD_judge 1 = .ok (.iconst 0, 1) := by decide +kernel
theorem dD_judge_2 : decode cD_judge 2 = .ok (.putfield 35, 3) := by decide +kernel
theorem dD_judge_5 : decode cD_judge 5 = .ok (.aload_n 0, 1) := by decide +kernel
theorem dD_judge_6 : decode cD_judge 6 = .ok (.getfield 38, 3) := by decide +kernel
theorem dD_judge_9 : decode cD_judge 9 = .ok (.iconst 1, 1) := by decide +kernel
theorem dD_judge_10 : decode cD_judge 10 = .ok (.if_icmp .eq 9, 3) := by decide +kernel
theorem dD_judge_13 : decode cD_judge 13 = .ok (.aload_n 0, 1) := by decide +kernel
theorem dD_judge_14 : decode cD_judge 14 = .ok (.iconst 1, 1) := by decide +kernel
theorem dD_judge_15 : decode cD_judge 15 = .ok (.invokevirtual 44, 3) := by decide +kernel
theorem dD_judge_18 : decode cD_judge 18 = .ok (.ireturn, 1) := by decide +kernel
theorem dD_judge_19 : decode cD_judge 19 = .ok (.iload_n 1, 1) := by decide +kernel
theorem dD_judge_20 : decode cD_judge 20 = .ok (.iconst (-1), 1) := by decide +kernel
theorem dD_judge_21 : decode cD_judge 21 = .ok (.if_icmp .ge 9, 3) := by decide +kernel
theorem dD_judge_24 : decode cD_judge 24 = .ok (.aload_n 0, 1) := by decide +kernel
theorem dD_judge_25 : decode cD_judge 25 = .ok (.iconst 2, 1) := by decide +kernel
theorem dD_judge_26 : decode cD_judge 26 = .ok (.invokevirtual 44, 3) := by decide +kernel
theorem dD_judge_29 : decode cD_judge 29 = .ok (.ireturn, 1) := by decide +kernel
theorem dD_judge_30 : decode cD_judge 30 = .ok (.aload_n 0, 1) := by decide +kernel
theorem dD_judge_31 : decode cD_judge 31 = .ok (.getfield 29, 3) := by decide +kernel
theorem dD_judge_34 : decode cD_judge 34 = .ok (.aload_n 0, 1) := by decide +kernel
theorem dD_judge_35 : decode cD_judge 35 = .ok (.getfield 48, 3) := by decide +kernel
theorem dD_judge_38 : decode cD_judge 38 = .ok (.iconst 1, 1) := by decide +kernel
theorem dD_judge_39 : decode cD_judge 39 = .ok (.isub, 1) := by decide +kernel
theorem dD_judge_40 : decode cD_judge 40 = .ok (.iload_n 1, 1) := by decide +kernel
theorem dD_judge_41 : decode cD_judge 41 = .ok (.iastore, 1) := by decide +kernel
theorem dD_judge_42 : decode cD_judge 42 = .ok (.aload_n 0, 1) := by decide +kernel
theorem dD_judge_43 : decode cD_judge 43 = .ok (.getfield 146, 3) := by decide +kernel
theorem dD_judge_46 : decode cD_judge 46 = .ok (.ifCond .eq 52, 3) := by decide +kernel
theorem dD_judge_49 : decode cD_judge 49 = .ok (.aload_n 0, 1) := by decide +kernel
theorem dD_judge_50 : decode cD_judge 50 = .ok (.iconst 0, 1) := by decide +kernel
theorem dD_judge_51 : decode cD_judge 51 = .ok (.putfield 146, 3) := by decide +kernel
theorem dD_judge_54 : decode cD_judge 54 = .ok (.aload_n 0, 1) := by decide +kernel
theorem dD_judge_55 : decode cD_judge 55 = .ok (.iload_n 1, 1) := by decide +kernel
theorem dD_judge_56 : decode cD_judge 56 = .ok (.putfield 19, 3) := by decide +kernel
theorem dD_judge_59 : decode cD_judge 59 = .ok (.iload_n 1, 1) := by decide +kernel
theorem dD_judge_60 : decode cD_judge 60 = .ok (.iconst (-1), 1) := by decide +kernel
theorem dD_judge_61 : decode cD_judge 61 = .ok (.if_icmp .ne 11, 3) := by decide +kernel
theorem dD_judge_64 : decode cD_judge 64 = .ok (.aload_n 0, 1) := by decide +kernel
theorem dD_judge_65 : decode cD_judge 65 = .ok (.iconst 4, 1) := by decide +kernel
theorem dD_judge_66 : decode cD_judge 66 = .ok (.putfield 38, 3) := by decide +kernel
theorem dD_judge_69 : decode cD_judge 69 = .ok (.goto 34, 3) := by decide +kernel
theorem dD_judge_72 : decode cD_judge 72 = .ok (.aload_n 0, 1) := by decide +kernel
theorem dD_judge_73 : decode cD_judge 73 = .ok (.aload_n 0, 1) := by decide +kernel
theorem dD_judge_74 : decode cD_judge 74 = .ok (.getfield 41, 3) := by decide +kernel
theorem dD_judge_77 : decode cD_judge 77 = .ok (.iconst 2, 1) := by decide +kernel
theorem dD_judge_78 : decode cD_judge 78 = .ok (.idiv, 1) := by decide +kernel
theorem dD_judge_79 : decode cD_judge 79 = .ok (.ifCond .le 12, 3) := by decide +kernel
theorem dD_judge_82 : decode cD_judge 82 = .ok (.aload_n 0, 1) := by decide +kernel
theorem dD_judge_83 : decode cD_judge 83 = .ok (.getfield 41, 3) := by decide +kernel
theorem dD_judge_86 : decode cD_judge 86 = .ok (.iconst 2, 1) := by decide +kernel
theorem dD_judge_87 : decode cD_judge 87 = .ok (.idiv, 1) := by decide +kernel
theorem dD_judge_88 : decode cD_judge 88 = .ok (.goto 4, 3) := by decide +kernel
theorem dD_judge_91 : decode cD_judge 91 = .ok (.iconst 1, 1) := by decide +kernel
theorem dD_judge_92 : decode cD_judge 92 = .ok (.invokevirtual 112, 3) := by decide +kernel
theorem dD_judge_95 : decode cD_judge 95 = .ok (.goto 8, 3) := by decide +kernel
theorem dD_judge_98 : decode cD_judge 98 = .ok (.aload_n 0, 1) := by decide +kernel
theorem dD_judge_99 : decode cD_judge 99 = .ok (.iload_n 1, 1) := by decide +kernel
theorem dD_judge_100 : decode cD_judge 100 = .ok (.invokevirtual 143, 3) := by decide +kernel
theorem dD_judge_103 : decode cD_judge 103 = .ok (.aload_n 0, 1) := by decide +kernel
theorem dD_judge_104 : decode cD_judge 104 = .ok (.invokevirtual 149, 3) := by decide +kernel
theorem dD_judge_107 : decode cD_judge 107 = .ok (.aload_n 0, 1) := by decide +kernel
theorem dD_judge_108 : decode cD_judge 108 = .ok (.getfield 38, 3) := by decide +kernel
theorem dD_judge_111 : decode cD_judge 111 = .ok (.ireturn, 1) := by decide +kernel
theorem dD_asked_0 : decode cD_asked 0 = .ok (.aload_n 0, 1) := by decide +kernel
theorem dD_asked_1 : decode cD_asked 1 = .ok (.iconst 0, 1) := by decide +kernel
theorem dD_asked_2 : decode cD_asked 2 = .ok (.putfield 35, 3) := by decide +kernel
theorem dD_asked_5 : decode cD_asked 5 = .ok (.aload_n 0, 1) := by decide +kernel
theorem dD_asked_6 : decode cD_asked 6 = .ok (.getfield 38, 3) := by decide +kernel
theorem dD_asked_9 : decode cD_asked 9 = .ok (.iconst 1, 1) := by decide +kernel
theorem dD_asked_10 : decode cD_asked 10 = .ok (.if_icmp .eq 9, 3) := by decide +kernel
theorem dD_asked_13 : decode cD_asked 13 = .ok (.aload_n 0, 1) := by decide +kernel
theorem dD_asked_14 : decode cD_asked 14 = .ok (.iconst 1, 1) := by decide +kernel
theorem dD_asked_15 : decode cD_asked 15 = .ok (.invokevirtual 44, 3) := by decide +kernel
theorem dD_asked_18 : decode cD_asked 18 = .ok (.ireturn, 1) := by decide +kernel
theorem dD_asked_19 : decode cD_asked 19 = .ok (.iload_n 1, 1) := by decide +kernel
theorem dD_asked_20 : decode cD_asked 20 = .ok (.iconst 0, 1) := by decide +kernel
theorem dD_asked_21 : decode cD_asked 21 = .ok (.aload_n 0, 1) := by decide +kernel
theorem dD_asked_22 : decode cD_asked 22 = .ok (.getfield 66, 3) := by decide +kernel
theorem dD_asked_25 : decode cD_asked 25 = .ok (.iconst 1, 1) := by decide +kernel
theorem dD_asked_26 : decode cD_asked 26 = .ok (.isub, 1) := by decide +kernel
theorem dD_asked_27 : decode cD_asked 27 = .ok (.invokestatic 152, 3) := by decide +kernel
theorem dD_asked_30 : decode cD_asked 30 = .ok (.ifCond .eq 12, 3) := by decide +kernel
theorem dD_asked_33 : decode cD_asked 33 = .ok (.aload_n 0, 1) := by decide +kernel
theorem dD_asked_34 : decode cD_asked 34 = .ok (.getfield 16, 3) := by decide +kernel
theorem dD_asked_37 : decode cD_asked 37 = .ok (.iload_n 1, 1) := by decide +kernel
theorem dD_asked_38 : decode cD_asked 38 = .ok (.iaload, 1) := by decide +kernel
theorem dD_asked_39 : decode cD_asked 39 = .ok (.goto 8, 3) := by decide +kernel
theorem dD_asked_42 : decode cD_asked 42 = .ok (.aload_n 0, 1) := by decide +kernel
theorem dD_asked_43 : decode cD_asked 43 = .ok (.iconst 2, 1) := by decide +kernel
theorem dD_asked_44 : decode cD_asked 44 = .ok (.invokevirtual 44, 3) := by decide +kernel
theorem dD_asked_47 : decode cD_asked 47 = .ok (.ireturn, 1) := by decide +kernel
theorem dD_size_0 : decode cD_size 0 = .ok (.aload_n 0, 1) := by decide +kernel
theorem dD_size_1 : decode cD_size 1 = .ok (.iconst 0, 1) := by decide +kernel
theorem dD_size_2 : decode cD_size 2 = .ok (.putfield 35, 3) := by decide +kernel
theorem dD_size_5 : decode cD_size 5 = .ok (.aload_n 0, 1) := by decide +kernel
theorem dD_size_6 : decode cD_size 6 = .ok (.getfield 38, 3) := by decide +kernel
theorem dD_size_9 : decode cD_size 9 = .ok (.iconst 1, 1) := by decide +kernel
theorem dD_size_10 : decode cD_size 10 = .ok (.if_icmp .ne 10, 3) := by decide +kernel
theorem dD_size_13 : decode cD_size 13 = .ok (.aload_n 0, 1) := by decide +kernel
theorem dD_size_14 : decode cD_size 14 = .ok (.getfield 66, 3) := by decide +kernel
theorem dD_size_17 : decode cD_size 17 = .ok (.goto 8, 3) := by decide +kernel
theorem dD_size_20 : decode cD_size 20 = .ok (.aload_n 0, 1) := by decide +kernel
theorem dD_size_21 : decode cD_size 21 = .ok (.iconst 1, 1) := by decide +kernel
theorem dD_size_22 : decode cD_size 22 = .ok (.invokevirtual 44, 3) := by decide +kernel
theorem dD_size_25 : decode cD_size 25 = .ok (.ireturn, 1) := by decide +kernel
theorem dD_at_0 : decode cD_at 0 = .ok (.aload_n 0, 1) := by decide +kernel
theorem dD_at_1 : decode cD_at 1 = .ok (.iconst 0, 1) := by decide +kernel
theorem dD_at_2 : decode cD_at 2 = .ok (.putfield 35, 3) := by decide +kernel
theorem dD_at_5 : decode cD_at 5 = .ok (.iload_n 1, 1) := by decide +kernel
theorem dD_at_6 : decode cD_at 6 = .ok (.iconst 0, 1) := by decide +kernel
theorem dD_at_7 : decode cD_at 7 = .ok (.aload_n 0, 1) := by decide +kernel
theorem dD_at_8 : decode cD_at 8 = .ok (.getfield 41, 3) := by decide +kernel
theorem dD_at_11 : decode cD_at 11 = .ok (.iconst 1, 1) := by decide +kernel
theorem dD_at_12 : decode cD_at 12 = .ok (.isub, 1) := by decide +kernel
theorem dD_at_13 : decode cD_at 13 = .ok (.invokestatic 152, 3) := by decide +kernel
theorem dD_at_16 : decode cD_at 16 = .ok (.ifCond .eq 12, 3) := by decide +kernel
theorem dD_at_19 : decode cD_at 19 = .ok (.aload_n 0, 1) := by decide +kernel
theorem dD_at_20 : decode cD_at 20 = .ok (.getfield 7, 3) := by decide +kernel
theorem dD_at_23 : decode cD_at 23 = .ok (.iload_n 1, 1) := by decide +kernel
theorem dD_at_24 : decode cD_at 24 = .ok (.iaload, 1) := by decide +kernel
theorem dD_at_25 : decode cD_at 25 = .ok (.goto 8, 3) := by decide +kernel
theorem dD_at_28 : decode cD_at 28 = .ok (.aload_n 0, 1) := by decide +kernel
theorem dD_at_29 : decode cD_at 29 = .ok (.iconst 1, 1) := by decide +kernel
theorem dD_at_30 : decode cD_at 30 = .ok (.invokevirtual 44, 3) := by decide +kernel
theorem dD_at_33 : decode cD_at 33 = .ok (.ireturn, 1) := by decide +kernel
