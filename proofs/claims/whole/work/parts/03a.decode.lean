-- decode rows, a row an instruction (by wip/gen/names.py)
theorem dP_init_0 : decode cP_init 0 = .ok (.aload_n 0, 1) := by decide +kernel
theorem dP_init_1 : decode cP_init 1 = .ok (.invokespecial 3, 3) := by decide +kernel
theorem dP_init_4 : decode cP_init 4 = .ok (.aload_n 0, 1) := by decide +kernel
theorem dP_init_5 : decode cP_init 5 = .ok (.bipush 48, 2) := by decide +kernel
theorem dP_init_7 : decode cP_init 7 = .ok (.newarray .int, 2) := by decide +kernel
theorem dP_init_9 : decode cP_init 9 = .ok (.putfield 9, 3) := by decide +kernel
theorem dP_init_12 : decode cP_init 12 = .ok (.aload_n 0, 1) := by decide +kernel
theorem dP_init_13 : decode cP_init 13 = .ok (.bipush 48, 2) := by decide +kernel
theorem dP_init_15 : decode cP_init 15 = .ok (.newarray .int, 2) := by decide +kernel
theorem dP_init_17 : decode cP_init 17 = .ok (.putfield 15, 3) := by decide +kernel
theorem dP_init_20 : decode cP_init 20 = .ok (.return_, 1) := by decide +kernel
theorem dP_length_0 : decode cP_length 0 = .ok (.aload_n 0, 1) := by decide +kernel
theorem dP_length_1 : decode cP_length 1 = .ok (.getfield 18, 3) := by decide +kernel
theorem dP_length_4 : decode cP_length 4 = .ok (.ireturn, 1) := by decide +kernel
theorem dP_isFull_0 : decode cP_isFull 0 = .ok (.aload_n 0, 1) := by decide +kernel
theorem dP_isFull_1 : decode cP_isFull 1 = .ok (.getfield 18, 3) := by decide +kernel
theorem dP_isFull_4 : decode cP_isFull 4 = .ok (.bipush 48, 2) := by decide +kernel
theorem dP_isFull_6 : decode cP_isFull 6 = .ok (.if_icmp .lt 7, 3) := by decide +kernel
theorem dP_isFull_9 : decode cP_isFull 9 = .ok (.iconst 1, 1) := by decide +kernel
theorem dP_isFull_10 : decode cP_isFull 10 = .ok (.goto 4, 3) := by decide +kernel
theorem dP_isFull_13 : decode cP_isFull 13 = .ok (.iconst 0, 1) := by decide +kernel
theorem dP_isFull_14 : decode cP_isFull 14 = .ok (.ireturn, 1) := by decide +kernel
theorem dP_has_0 : decode cP_has 0 = .ok (.iload_n 1, 1) := by decide +kernel
theorem dP_has_1 : decode cP_has 1 = .ok (.ifCond .lt 21, 3) := by decide +kernel
theorem dP_has_4 : decode cP_has 4 = .ok (.iload_n 1, 1) := by decide +kernel
theorem dP_has_5 : decode cP_has 5 = .ok (.aload_n 0, 1) := by decide +kernel
theorem dP_has_6 : decode cP_has 6 = .ok (.getfield 18, 3) := by decide +kernel
theorem dP_has_9 : decode cP_has 9 = .ok (.if_icmp .ge 13, 3) := by decide +kernel
theorem dP_has_12 : decode cP_has 12 = .ok (.iload_n 1, 1) := by decide +kernel
theorem dP_has_13 : decode cP_has 13 = .ok (.bipush 48, 2) := by decide +kernel
theorem dP_has_15 : decode cP_has 15 = .ok (.if_icmp .ge 7, 3) := by decide +kernel
theorem dP_has_18 : decode cP_has 18 = .ok (.iconst 1, 1) := by decide +kernel
theorem dP_has_19 : decode cP_has 19 = .ok (.goto 4, 3) := by decide +kernel
theorem dP_has_22 : decode cP_has 22 = .ok (.iconst 0, 1) := by decide +kernel
theorem dP_has_23 : decode cP_has 23 = .ok (.ireturn, 1) := by decide +kernel
theorem dP_word_0 : decode cP_word 0 = .ok (.aload_n 0, 1) := by decide +kernel
theorem dP_word_1 : decode cP_word 1 = .ok (.iload_n 1, 1) := by decide +kernel
theorem dP_word_2 : decode cP_word 2 = .ok (.invokevirtual 22, 3) := by decide +kernel
theorem dP_word_5 : decode cP_word 5 = .ok (.ifCond .eq 12, 3) := by decide +kernel
theorem dP_word_8 : decode cP_word 8 = .ok (.aload_n 0, 1) := by decide +kernel
theorem dP_word_9 : decode cP_word 9 = .ok (.getfield 9, 3) := by decide +kernel
theorem dP_word_12 : decode cP_word 12 = .ok (.iload_n 1, 1) := by decide +kernel
theorem dP_word_13 : decode cP_word 13 = .ok (.iaload, 1) := by decide +kernel
theorem dP_word_14 : decode cP_word 14 = .ok (.goto 4, 3) := by decide +kernel
theorem dP_word_17 : decode cP_word 17 = .ok (.iconst 0, 1) := by decide +kernel
theorem dP_word_18 : decode cP_word 18 = .ok (.ireturn, 1) := by decide +kernel
theorem dP_origin_0 : decode cP_origin 0 = .ok (.aload_n 0, 1) := by decide +kernel
theorem dP_origin_1 : decode cP_origin 1 = .ok (.iload_n 1, 1) := by decide +kernel
theorem dP_origin_2 : decode cP_origin 2 = .ok (.invokevirtual 22, 3) := by decide +kernel
theorem dP_origin_5 : decode cP_origin 5 = .ok (.ifCond .eq 12, 3) := by decide +kernel
theorem dP_origin_8 : decode cP_origin 8 = .ok (.aload_n 0, 1) := by decide +kernel
theorem dP_origin_9 : decode cP_origin 9 = .ok (.getfield 15, 3) := by decide +kernel
theorem dP_origin_12 : decode cP_origin 12 = .ok (.iload_n 1, 1) := by decide +kernel
theorem dP_origin_13 : decode cP_origin 13 = .ok (.iaload, 1) := by decide +kernel
theorem dP_origin_14 : decode cP_origin 14 = .ok (.goto 4, 3) := by decide +kernel
theorem dP_origin_17 : decode cP_origin 17 = .ok (.iconst (-1), 1) := by decide +kernel
theorem dP_origin_18 : decode cP_origin 18 = .ok (.ireturn, 1) := by decide +kernel
theorem dP_clear_0 : decode cP_clear 0 = .ok (.aload_n 0, 1) := by decide +kernel
theorem dP_clear_1 : decode cP_clear 1 = .ok (.iconst 0, 1) := by decide +kernel
theorem dP_clear_2 : decode cP_clear 2 = .ok (.putfield 18, 3) := by decide +kernel
theorem dP_clear_5 : decode cP_clear 5 = .ok (.return_, 1) := by decide +kernel
theorem dP_append_0 : decode cP_append 0 = .ok (.aload_n 0, 1) := by decide +kernel
theorem dP_append_1 : decode cP_append 1 = .ok (.getfield 18, 3) := by decide +kernel
theorem dP_append_4 : decode cP_append 4 = .ok (.ifCond .lt 45, 3) := by decide +kernel
theorem dP_append_7 : decode cP_append 7 = .ok (.aload_n 0, 1) := by decide +kernel
theorem dP_append_8 : decode cP_append 8 = .ok (.getfield 18, 3) := by decide +kernel
theorem dP_append_11 : decode cP_append 11 = .ok (.bipush 48, 2) := by decide +kernel
theorem dP_append_13 : decode cP_append 13 = .ok (.if_icmp .ge 36, 3) := by decide +kernel
theorem dP_append_16 : decode cP_append 16 = .ok (.aload_n 0, 1) := by decide +kernel
theorem dP_append_17 : decode cP_append 17 = .ok (.getfield 9, 3) := by decide +kernel
theorem dP_append_20 : decode cP_append 20 = .ok (.aload_n 0, 1) := by decide +kernel
theorem dP_append_21 : decode cP_append 21 = .ok (.getfield 18, 3) := by decide +kernel
theorem dP_append_24 : decode cP_append 24 = .ok (.iload_n 1, 1) := by decide +kernel
theorem dP_append_25 : decode cP_append 25 = .ok (.iastore, 1) := by decide +kernel
theorem dP_append_26 : decode cP_append 26 = .ok (.aload_n 0, 1) := by decide +kernel
theorem dP_append_27 : decode cP_append 27 = .ok (.getfield 15, 3) := by decide +kernel
theorem dP_append_30 : decode cP_append 30 = .ok (.aload_n 0, 1) := by decide +kernel
theorem dP_append_31 : decode cP_append 31 = .ok (.getfield 18, 3) := by decide +kernel
theorem dP_append_34 : decode cP_append 34 = .ok (.aload_n 0, 1) := by decide +kernel
theorem dP_append_35 : decode cP_append 35 = .ok (.getfield 18, 3) := by decide +kernel
theorem dP_append_38 : decode cP_append 38 = .ok (.iastore, 1) := by decide +kernel
theorem dP_append_39 : decode cP_append 39 = .ok (.aload_n 0, 1) := by decide +kernel
theorem dP_append_40 : decode cP_append 40 = .ok (.dup, 1) := by decide +kernel
theorem dP_append_41 : decode cP_append 41 = .ok (.getfield 18, 3) := by decide +kernel
theorem dP_append_44 : decode cP_append 44 = .ok (.iconst 1, 1) := by decide +kernel
theorem dP_append_45 : decode cP_append 45 = .ok (.iadd, 1) := by decide +kernel
theorem dP_append_46 : decode cP_append 46 = .ok (.putfield 18, 3) := by decide +kernel
theorem dP_append_49 : decode cP_append 49 = .ok (.return_, 1) := by decide +kernel
theorem dP_copy_0 : decode cP_copy 0 = .ok (.aload_n 1, 1) := by decide +kernel
theorem dP_copy_1 : decode cP_copy 1 = .ok (.getfield 18, 3) := by decide +kernel
theorem dP_copy_4 : decode cP_copy 4 = .ok (.bipush 48, 2) := by decide +kernel
theorem dP_copy_6 : decode cP_copy 6 = .ok (.invokestatic 26, 3) := by decide +kernel
theorem dP_copy_9 : decode cP_copy 9 = .ok (.istore_n 2, 1) := by decide +kernel
theorem dP_copy_10 : decode cP_copy 10 = .ok (.iconst 0, 1) := by decide +kernel
theorem dP_copy_11 : decode cP_copy 11 = .ok (.istore_n 3, 1) := by decide +kernel
theorem dP_copy_12 : decode cP_copy 12 = .ok (.iload_n 3, 1) := by decide +kernel
theorem dP_copy_13 : decode cP_copy 13 = .ok (.iload_n 2, 1) := by decide +kernel
theorem dP_copy_14 : decode cP_copy 14 = .ok (.if_icmp .ge 33, 3) := by decide +kernel
theorem dP_copy_17 : decode cP_copy 17 = .ok (.aload_n 0, 1) := by decide +kernel
theorem dP_copy_18 : decode cP_copy 18 = .ok (.getfield 9, 3) := by decide +kernel
theorem dP_copy_21 : decode cP_copy 21 = .ok (.iload_n 3, 1) := by decide +kernel
theorem dP_copy_22 : decode cP_copy 22 = .ok (.aload_n 1, 1) := by decide +kernel
theorem dP_copy_23 : decode cP_copy 23 = .ok (.getfield 9, 3) := by decide +kernel
theorem dP_copy_26 : decode cP_copy 26 = .ok (.iload_n 3, 1) := by decide +kernel
theorem dP_copy_27 : decode cP_copy 27 = .ok (.iaload, 1) := by decide +kernel
theorem dP_copy_28 : decode cP_copy 28 = .ok (.iastore, 1) := by decide +kernel
theorem dP_copy_29 : decode cP_copy 29 = .ok (.aload_n 0, 1) := by decide +kernel
theorem dP_copy_30 : decode cP_copy 30 = .ok (.getfield 15, 3) := by decide +kernel
theorem dP_copy_33 : decode cP_copy 33 = .ok (.iload_n 3, 1) := by decide +kernel
theorem dP_copy_34 : decode cP_copy 34 = .ok (.aload_n 1, 1) := by decide +kernel
theorem dP_copy_35 : decode cP_copy 35 = .ok (.getfield 15, 3) := by decide +kernel
theorem dP_copy_38 : decode cP_copy 38 = .ok (.iload_n 3, 1) := by decide +kernel
theorem dP_copy_39 : decode cP_copy 39 = .ok (.iaload, 1) := by decide +kernel
theorem dP_copy_40 : decode cP_copy 40 = .ok (.iastore, 1) := by decide +kernel
theorem dP_copy_41 : decode cP_copy 41 = .ok (.iinc 3 1, 3) := by decide +kernel
theorem dP_copy_44 : decode cP_copy 44 = .ok (.goto (-32), 3) := by decide +kernel
theorem dP_copy_47 : decode cP_copy 47 = .ok (.aload_n 0, 1) := by decide +kernel
theorem dP_copy_48 : decode cP_copy 48 = .ok (.iload_n 2, 1) := by decide +kernel
theorem dP_copy_49 : decode cP_copy 49 = .ok (.putfield 18, 3) := by decide +kernel
theorem dP_copy_52 : decode cP_copy 52 = .ok (.return_, 1) := by decide +kernel
theorem dP_leaveOut_0 : decode cP_leaveOut 0 = .ok (.aload_n 0, 1) := by decide +kernel
theorem dP_leaveOut_1 : decode cP_leaveOut 1 = .ok (.iload_n 1, 1) := by decide +kernel
theorem dP_leaveOut_2 : decode cP_leaveOut 2 = .ok (.invokevirtual 22, 3) := by decide +kernel
theorem dP_leaveOut_5 : decode cP_leaveOut 5 = .ok (.ifCond .eq 8, 3) := by decide +kernel
theorem dP_leaveOut_8 : decode cP_leaveOut 8 = .ok (.iload_n 2, 1) := by decide +kernel
theorem dP_leaveOut_9 : decode cP_leaveOut 9 = .ok (.iconst 1, 1) := by decide +kernel
theorem dP_leaveOut_10 : decode cP_leaveOut 10 = .ok (.if_icmp .ge 4, 3) := by decide +kernel
theorem dP_leaveOut_13 : decode cP_leaveOut 13 = .ok (.return_, 1) := by decide +kernel
theorem dP_leaveOut_14 : decode cP_leaveOut 14 = .ok (.iload_n 1, 1) := by decide +kernel
theorem dP_leaveOut_15 : decode cP_leaveOut 15 = .ok (.istore_n 3, 1) := by decide +kernel
theorem dP_leaveOut_16 : decode cP_leaveOut 16 = .ok (.iload_n 1, 1) := by decide +kernel
theorem dP_leaveOut_17 : decode cP_leaveOut 17 = .ok (.istore 4, 2) := by decide +kernel
theorem dP_leaveOut_19 : decode cP_leaveOut 19 = .ok (.iload 4, 2) := by decide +kernel
theorem dP_leaveOut_21 : decode cP_leaveOut 21 = .ok (.aload_n 0, 1) := by decide +kernel
theorem dP_leaveOut_22 : decode cP_leaveOut 22 = .ok (.getfield 18, 3) := by decide +kernel
theorem dP_leaveOut_25 : decode cP_leaveOut 25 = .ok (.if_icmp .ge 53, 3) := by decide +kernel
theorem dP_leaveOut_28 : decode cP_leaveOut 28 = .ok (.iload 4, 2) := by decide +kernel
theorem dP_leaveOut_30 : decode cP_leaveOut 30 = .ok (.bipush 48, 2) := by decide +kernel
theorem dP_leaveOut_32 : decode cP_leaveOut 32 = .ok (.if_icmp .ge 46, 3) := by decide +kernel
theorem dP_leaveOut_35 : decode cP_leaveOut 35 = .ok (.iload 4, 2) := by decide +kernel
theorem dP_leaveOut_37 : decode cP_leaveOut 37 = .ok (.iload_n 1, 1) := by decide +kernel
theorem dP_leaveOut_38 : decode cP_leaveOut 38 = .ok (.isub, 1) := by decide +kernel
theorem dP_leaveOut_39 : decode cP_leaveOut 39 = .ok (.iload_n 2, 1) := by decide +kernel
theorem dP_leaveOut_40 : decode cP_leaveOut 40 = .ok (.if_icmp .lt 32, 3) := by decide +kernel
theorem dP_leaveOut_43 : decode cP_leaveOut 43 = .ok (.aload_n 0, 1) := by decide +kernel
theorem dP_leaveOut_44 : decode cP_leaveOut 44 = .ok (.getfield 9, 3) := by decide +kernel
theorem dP_leaveOut_47 : decode cP_leaveOut 47 = .ok (.iload_n 3, 1) := by decide +kernel
theorem dP_leaveOut_48 : decode cP_leaveOut 48 = .ok (.aload_n 0, 1) := by decide +kernel
theorem dP_leaveOut_49 : decode cP_leaveOut 49 = .ok (.getfield 9, 3) := by decide +kernel
theorem dP_leaveOut_52 : decode cP_leaveOut 52 = .ok (.iload 4, 2) := by decide +kernel
theorem dP_leaveOut_54 : decode cP_leaveOut 54 = .ok (.iaload, 1) := by decide +kernel
theorem dP_leaveOut_55 : decode cP_leaveOut 55 = .ok (.iastore, 1) := by decide +kernel
theorem dP_leaveOut_56 : decode cP_leaveOut 56 = .ok (.aload_n 0, 1) := by decide +kernel
theorem dP_leaveOut_57 : decode cP_leaveOut 57 = .ok (.getfield 15, 3) := by decide +kernel
theorem dP_leaveOut_60 : decode cP_leaveOut 60 = .ok (.iload_n 3, 1) := by decide +kernel
theorem dP_leaveOut_61 : decode cP_leaveOut 61 = .ok (.aload_n 0, 1) := by decide +kernel
theorem dP_leaveOut_62 : decode cP_leaveOut 62 = .ok (.getfield 15, 3) := by decide +kernel
theorem dP_leaveOut_65 : decode cP_leaveOut 65 = .ok (.iload 4, 2) := by decide +kernel
theorem dP_leaveOut_67 : decode cP_leaveOut 67 = .ok (.iaload, 1) := by decide +kernel
theorem dP_leaveOut_68 : decode cP_leaveOut 68 = .ok (.iastore, 1) := by decide +kernel
theorem dP_leaveOut_69 : decode cP_leaveOut 69 = .ok (.iinc 3 1, 3) := by decide +kernel
theorem dP_leaveOut_72 : decode cP_leaveOut 72 = .ok (.iinc 4 1, 3) := by decide +kernel
theorem dP_leaveOut_75 : decode cP_leaveOut 75 = .ok (.goto (-56), 3) := by decide +kernel
theorem dP_leaveOut_78 : decode cP_leaveOut 78 = .ok (.aload_n 0, 1) := by decide +kernel
theorem dP_leaveOut_79 : decode cP_leaveOut 79 = .ok (.iload_n 3, 1) := by decide +kernel
theorem dP_leaveOut_80 : decode cP_leaveOut 80 = .ok (.putfield 18, 3) := by decide +kernel
theorem dP_leaveOut_83 : decode cP_leaveOut 83 = .ok (.return_, 1) := by decide +kernel
theorem dP_byteOf_0 : decode cP_byteOf 0 = .ok (.aload_n 0, 1) := by decide +kernel
theorem dP_byteOf_1 : decode cP_byteOf 1 = .ok (.iload_n 1, 1) := by decide +kernel
theorem dP_byteOf_2 : decode cP_byteOf 2 = .ok (.invokevirtual 32, 3) := by decide +kernel
theorem dP_byteOf_5 : decode cP_byteOf 5 = .ok (.iload_n 2, 1) := by decide +kernel
theorem dP_byteOf_6 : decode cP_byteOf 6 = .ok (.invokestatic 36, 3) := by decide +kernel
theorem dP_byteOf_9 : decode cP_byteOf 9 = .ok (.iushr, 1) := by decide +kernel
theorem dP_byteOf_10 : decode cP_byteOf 10 = .ok (.sipush 255, 3) := by decide +kernel
theorem dP_byteOf_13 : decode cP_byteOf 13 = .ok (.iand, 1) := by decide +kernel
theorem dP_byteOf_14 : decode cP_byteOf 14 = .ok (.ireturn, 1) := by decide +kernel
theorem dP_setByte_0 : decode cP_setByte 0 = .ok (.aload_n 0, 1) := by decide +kernel
theorem dP_setByte_1 : decode cP_setByte 1 = .ok (.iload_n 1, 1) := by decide +kernel
theorem dP_setByte_2 : decode cP_setByte 2 = .ok (.invokevirtual 22, 3) := by decide +kernel
theorem dP_setByte_5 : decode cP_setByte 5 = .ok (.ifCond .eq 41, 3) := by decide +kernel
theorem dP_setByte_8 : decode cP_setByte 8 = .ok (.aload_n 0, 1) := by decide +kernel
theorem dP_setByte_9 : decode cP_setByte 9 = .ok (.getfield 9, 3) := by decide +kernel
theorem dP_setByte_12 : decode cP_setByte 12 = .ok (.iload_n 1, 1) := by decide +kernel
theorem dP_setByte_13 : decode cP_setByte 13 = .ok (.iaload, 1) := by decide +kernel
theorem dP_setByte_14 : decode cP_setByte 14 = .ok (.sipush 255, 3) := by decide +kernel
theorem dP_setByte_17 : decode cP_setByte 17 = .ok (.iload_n 2, 1) := by decide +kernel
theorem dP_setByte_18 : decode cP_setByte 18 = .ok (.invokestatic 36, 3) := by decide +kernel
theorem dP_setByte_21 : decode cP_setByte 21 = .ok (.ishl, 1) := by decide +kernel
theorem dP_setByte_22 : decode cP_setByte 22 = .ok (.iconst (-1), 1) := by decide +kernel
theorem dP_setByte_23 : decode cP_setByte 23 = .ok (.ixor, 1) := by decide +kernel
theorem dP_setByte_24 : decode cP_setByte 24 = .ok (.iand, 1) := by decide +kernel
theorem dP_setByte_25 : decode cP_setByte 25 = .ok (.istore 4, 2) := by decide +kernel
theorem dP_setByte_27 : decode cP_setByte 27 = .ok (.aload_n 0, 1) := by decide +kernel
theorem dP_setByte_28 : decode cP_setByte 28 = .ok (.getfield 9, 3) := by decide +kernel
theorem dP_setByte_31 : decode cP_setByte 31 = .ok (.iload_n 1, 1) := by decide +kernel
theorem dP_setByte_32 : decode cP_setByte 32 = .ok (.iload 4, 2) := by decide +kernel
theorem dP_setByte_34 : decode cP_setByte 34 = .ok (.iload_n 3, 1) := by decide +kernel
theorem dP_setByte_35 : decode cP_setByte 35 = .ok (.sipush 255, 3) := by decide +kernel
theorem dP_setByte_38 : decode cP_setByte 38 = .ok (.iand, 1) := by decide +kernel
theorem dP_setByte_39 : decode cP_setByte 39 = .ok (.iload_n 2, 1) := by decide +kernel
theorem dP_setByte_40 : decode cP_setByte 40 = .ok (.invokestatic 36, 3) := by decide +kernel
theorem dP_setByte_43 : decode cP_setByte 43 = .ok (.ishl, 1) := by decide +kernel
theorem dP_setByte_44 : decode cP_setByte 44 = .ok (.ior, 1) := by decide +kernel
theorem dP_setByte_45 : decode cP_setByte 45 = .ok (.iastore, 1) := by decide +kernel
theorem dP_setByte_46 : decode cP_setByte 46 = .ok (.return_, 1) := by decide +kernel
theorem dP_shift_0 : decode cP_shift 0 = .ok (.bipush 8, 2) := by decide +kernel
theorem dP_shift_2 : decode cP_shift 2 = .ok (.iconst 3, 1) := by decide +kernel
theorem dP_shift_3 : decode cP_shift 3 = .ok (.iload_n 0, 1) := by decide +kernel
theorem dP_shift_4 : decode cP_shift 4 = .ok (.isub, 1) := by decide +kernel
theorem dP_shift_5 : decode cP_shift 5 = .ok (.imul, 1) := by decide +kernel
theorem dP_shift_6 : decode cP_shift 6 = .ok (.ireturn, 1) := by decide +kernel
theorem dP_hasSameWords_0 : decode cP_hasSameWords 0 = .ok (.aload_n 0, 1) := by decide +kernel
theorem dP_hasSameWords_1 : decode cP_hasSameWords 1 = .ok (.getfield 18, 3) := by decide +kernel
theorem dP_hasSameWords_4 : decode cP_hasSameWords 4 = .ok (.aload_n 1, 1) := by decide +kernel
theorem dP_hasSameWords_5 : decode cP_hasSameWords 5 = .ok (.getfield 18, 3) := by decide +kernel
theorem dP_hasSameWords_8 : decode cP_hasSameWords 8 = .ok (.if_icmp .eq 5, 3) := by decide +kernel
theorem dP_hasSameWords_11 : decode cP_hasSameWords 11 = .ok (.iconst 0, 1) := by decide +kernel
theorem dP_hasSameWords_12 : decode cP_hasSameWords 12 = .ok (.ireturn, 1) := by decide +kernel
theorem dP_hasSameWords_13 : decode cP_hasSameWords 13 = .ok (.iconst 0, 1) := by decide +kernel
theorem dP_hasSameWords_14 : decode cP_hasSameWords 14 = .ok (.istore_n 2, 1) := by decide +kernel
theorem dP_hasSameWords_15 : decode cP_hasSameWords 15 = .ok (.iload_n 2, 1) := by decide +kernel
theorem dP_hasSameWords_16 : decode cP_hasSameWords 16 = .ok (.aload_n 0, 1) := by decide +kernel
theorem dP_hasSameWords_17 : decode cP_hasSameWords 17 = .ok (.getfield 18, 3) := by decide +kernel
theorem dP_hasSameWords_20 : decode cP_hasSameWords 20 = .ok (.if_icmp .ge 32, 3) := by decide +kernel
theorem dP_hasSameWords_23 : decode cP_hasSameWords 23 = .ok (.iload_n 2, 1) := by decide +kernel
theorem dP_hasSameWords_24 : decode cP_hasSameWords 24 = .ok (.bipush 48, 2) := by decide +kernel
theorem dP_hasSameWords_26 : decode cP_hasSameWords 26 = .ok (.if_icmp .ge 26, 3) := by decide +kernel
theorem dP_hasSameWords_29 : decode cP_hasSameWords 29 = .ok (.aload_n 0, 1) := by decide +kernel
theorem dP_hasSameWords_30 : decode cP_hasSameWords 30 = .ok (.getfield 9, 3) := by decide +kernel
theorem dP_hasSameWords_33 : decode cP_hasSameWords 33 = .ok (.iload_n 2, 1) := by decide +kernel
theorem dP_hasSameWords_34 : decode cP_hasSameWords 34 = .ok (.iaload, 1) := by decide +kernel
theorem dP_hasSameWords_35 : decode cP_hasSameWords 35 = .ok (.aload_n 1, 1) := by decide +kernel
theorem dP_hasSameWords_36 : decode cP_hasSameWords 36 = .ok (.getfield 9, 3) := by decide +kernel
theorem dP_hasSameWords_39 : decode cP_hasSameWords 39 = .ok (.iload_n 2, 1) := by decide +kernel
theorem dP_hasSameWords_40 : decode cP_hasSameWords 40 = .ok (.iaload, 1) := by decide +kernel
theorem dP_hasSameWords_41 : decode cP_hasSameWords 41 = .ok (.if_icmp .eq 5, 3) := by decide +kernel
theorem dP_hasSameWords_44 : decode cP_hasSameWords 44 = .ok (.iconst 0, 1) := by decide +kernel
theorem dP_hasSameWords_45 : decode cP_hasSameWords 45 = .ok (.ireturn, 1) := by decide +kernel
theorem dP_hasSameWords_46 : decode cP_hasSameWords 46 = .ok (.iinc 2 1, 3) := by decide +kernel
theorem dP_hasSameWords_49 : decode cP_hasSameWords 49 = .ok (.goto (-34), 3) := by decide +kernel
theorem dP_hasSameWords_52 : decode cP_hasSameWords 52 = .ok (.iconst 1, 1) := by decide +kernel
theorem dP_hasSameWords_53 : decode cP_hasSameWords 53 = .ok (.ireturn, 1) := by decide +kernel
theorem dP_mark_0 : decode cP_mark 0 = .ok (.aload_n 0, 1) := by decide +kernel
theorem dP_mark_1 : decode cP_mark 1 = .ok (.getfield 18, 3) := by decide +kernel
theorem dP_mark_4 : decode cP_mark 4 = .ok (.istore_n 1, 1) := by decide +kernel
theorem dP_mark_5 : decode cP_mark 5 = .ok (.iconst 0, 1) := by decide +kernel
theorem dP_mark_6 : decode cP_mark 6 = .ok (.istore_n 2, 1) := by decide +kernel
theorem dP_mark_7 : decode cP_mark 7 = .ok (.iload_n 2, 1) := by decide +kernel
theorem dP_mark_8 : decode cP_mark 8 = .ok (.aload_n 0, 1) := by decide +kernel
theorem dP_mark_9 : decode cP_mark 9 = .ok (.getfield 18, 3) := by decide +kernel
theorem dP_mark_12 : decode cP_mark 12 = .ok (.if_icmp .ge 27, 3) := by decide +kernel
theorem dP_mark_15 : decode cP_mark 15 = .ok (.iload_n 2, 1) := by decide +kernel
theorem dP_mark_16 : decode cP_mark 16 = .ok (.bipush 48, 2) := by decide +kernel
theorem dP_mark_18 : decode cP_mark 18 = .ok (.if_icmp .ge 21, 3) := by decide +kernel
theorem dP_mark_21 : decode cP_mark 21 = .ok (.bipush 31, 2) := by decide +kernel
theorem dP_mark_23 : decode cP_mark 23 = .ok (.iload_n 1, 1) := by decide +kernel
theorem dP_mark_24 : decode cP_mark 24 = .ok (.imul, 1) := by decide +kernel
theorem dP_mark_25 : decode cP_mark 25 = .ok (.aload_n 0, 1) := by decide +kernel
theorem dP_mark_26 : decode cP_mark 26 = .ok (.getfield 9, 3) := by decide +kernel
theorem dP_mark_29 : decode cP_mark 29 = .ok (.iload_n 2, 1) := by decide +kernel
theorem dP_mark_30 : decode cP_mark 30 = .ok (.iaload, 1) := by decide +kernel
theorem dP_mark_31 : decode cP_mark 31 = .ok (.iadd, 1) := by decide +kernel
theorem dP_mark_32 : decode cP_mark 32 = .ok (.istore_n 1, 1) := by decide +kernel
theorem dP_mark_33 : decode cP_mark 33 = .ok (.iinc 2 1, 3) := by decide +kernel
theorem dP_mark_36 : decode cP_mark 36 = .ok (.goto (-29), 3) := by decide +kernel
theorem dP_mark_39 : decode cP_mark 39 = .ok (.iload_n 1, 1) := by decide +kernel
theorem dP_mark_40 : decode cP_mark 40 = .ok (.ireturn, 1) := by decide +kernel
theorem dA_init_0 : decode cA_init 0 = .ok (.aload_n 0, 1) := by decide +kernel
theorem dA_init_1 : decode cA_init 1 = .ok (.invokespecial 3, 3) := by decide +kernel
theorem dA_init_4 : decode cA_init 4 = .ok (.aload_n 0, 1) := by decide +kernel
theorem dA_init_5 : decode cA_init 5 = .ok (.new 9, 3) := by decide +kernel
theorem dA_init_8 : decode cA_init 8 = .ok (.dup, 1) := by decide +kernel
theorem dA_init_9 : decode cA_init 9 = .ok (.invokespecial 11, 3) := by decide +kernel
theorem dA_init_12 : decode cA_init 12 = .ok (.putfield 12, 3) := by decide +kernel
theorem dA_init_15 : decode cA_init 15 = .ok (.return_, 1) := by decide +kernel
theorem dA_program_0 : decode cA_program 0 = .ok (.aload_n 0, 1) := by decide +kernel
theorem dA_program_1 : decode cA_program 1 = .ok (.getfield 12, 3) := by decide +kernel
theorem dA_program_4 : decode cA_program 4 = .ok (.areturn, 1) := by decide +kernel
theorem dA_answer_0 : decode cA_answer 0 = .ok (.aload_n 0, 1) := by decide +kernel
theorem dA_answer_1 : decode cA_answer 1 = .ok (.getfield 18, 3) := by decide +kernel
theorem dA_answer_4 : decode cA_answer 4 = .ok (.ireturn, 1) := by decide +kernel
theorem dA_setAnswer_0 : decode cA_setAnswer 0 = .ok (.aload_n 0, 1) := by decide +kernel
theorem dA_setAnswer_1 : decode cA_setAnswer 1 = .ok (.iload_n 1, 1) := by decide +kernel
theorem dA_setAnswer_2 : decode cA_setAnswer 2 = .ok (.putfield 18, 3) := by decide +kernel
theorem dA_setAnswer_5 : decode cA_setAnswer 5 = .ok (.return_, 1) := by decide +kernel
theorem dA_open_0 : decode cA_open 0 = .ok (.aload_n 0, 1) := by decide +kernel
theorem dA_open_1 : decode cA_open 1 = .ok (.getfield 12, 3) := by decide +kernel
theorem dA_open_4 : decode cA_open 4 = .ok (.aload_n 1, 1) := by decide +kernel
theorem dA_open_5 : decode cA_open 5 = .ok (.invokevirtual 22, 3) := by decide +kernel
theorem dA_open_8 : decode cA_open 8 = .ok (.aload_n 0, 1) := by decide +kernel
theorem dA_open_9 : decode cA_open 9 = .ok (.aload_n 0, 1) := by decide +kernel
theorem dA_open_10 : decode cA_open 10 = .ok (.getfield 12, 3) := by decide +kernel
theorem dA_open_13 : decode cA_open 13 = .ok (.invokevirtual 26, 3) := by decide +kernel
theorem dA_open_16 : decode cA_open 16 = .ok (.putfield 30, 3) := by decide +kernel
theorem dA_open_19 : decode cA_open 19 = .ok (.aload_n 0, 1) := by decide +kernel
theorem dA_open_20 : decode cA_open 20 = .ok (.bipush (-2), 2) := by decide +kernel
theorem dA_open_22 : decode cA_open 22 = .ok (.putfield 18, 3) := by decide +kernel
theorem dA_open_25 : decode cA_open 25 = .ok (.return_, 1) := by decide +kernel
theorem dA_isOf_0 : decode cA_isOf 0 = .ok (.aload_n 0, 1) := by decide +kernel
theorem dA_isOf_1 : decode cA_isOf 1 = .ok (.getfield 30, 3) := by decide +kernel
theorem dA_isOf_4 : decode cA_isOf 4 = .ok (.iload_n 2, 1) := by decide +kernel
theorem dA_isOf_5 : decode cA_isOf 5 = .ok (.if_icmp .ne 18, 3) := by decide +kernel
theorem dA_isOf_8 : decode cA_isOf 8 = .ok (.aload_n 0, 1) := by decide +kernel
theorem dA_isOf_9 : decode cA_isOf 9 = .ok (.getfield 12, 3) := by decide +kernel
theorem dA_isOf_12 : decode cA_isOf 12 = .ok (.aload_n 1, 1) := by decide +kernel
theorem dA_isOf_13 : decode cA_isOf 13 = .ok (.invokevirtual 32, 3) := by decide +kernel
theorem dA_isOf_16 : decode cA_isOf 16 = .ok (.ifCond .eq 7, 3) := by decide +kernel
theorem dA_isOf_19 : decode cA_isOf 19 = .ok (.iconst 1, 1) := by decide +kernel
theorem dA_isOf_20 : decode cA_isOf 20 = .ok (.goto 4, 3) := by decide +kernel
theorem dA_isOf_23 : decode cA_isOf 23 = .ok (.iconst 0, 1) := by decide +kernel
theorem dA_isOf_24 : decode cA_isOf 24 = .ok (.ireturn, 1) := by decide +kernel
theorem dM_init_0 : decode cM_init 0 = .ok (.aload_n 0, 1) := by decide +kernel
theorem dM_init_1 : decode cM_init 1 = .ok (.invokespecial 3, 3) := by decide +kernel
theorem dM_init_4 : decode cM_init 4 = .ok (.aload_n 0, 1) := by decide +kernel
theorem dM_init_5 : decode cM_init 5 = .ok (.sipush 600, 3) := by decide +kernel
theorem dM_init_8 : decode cM_init 8 = .ok (.anewarray 9, 3) := by decide +kernel
theorem dM_init_11 : decode cM_init 11 = .ok (.putfield 11, 3) := by decide +kernel
theorem dM_init_14 : decode cM_init 14 = .ok (.return_, 1) := by decide +kernel
theorem dM_filled_0 : decode cM_filled 0 = .ok (.aload_n 0, 1) := by decide +kernel
theorem dM_filled_1 : decode cM_filled 1 = .ok (.getfield 17, 3) := by decide +kernel
theorem dM_filled_4 : decode cM_filled 4 = .ok (.ireturn, 1) := by decide +kernel
theorem dM_clear_0 : decode cM_clear 0 = .ok (.aload_n 0, 1) := by decide +kernel
theorem dM_clear_1 : decode cM_clear 1 = .ok (.iconst 0, 1) := by decide +kernel
theorem dM_clear_2 : decode cM_clear 2 = .ok (.putfield 17, 3) := by decide +kernel
theorem dM_clear_5 : decode cM_clear 5 = .ok (.return_, 1) := by decide +kernel
theorem dM_keep_0 : decode cM_keep 0 = .ok (.aload_n 0, 1) := by decide +kernel
theorem dM_keep_1 : decode cM_keep 1 = .ok (.getfield 17, 3) := by decide +kernel
theorem dM_keep_4 : decode cM_keep 4 = .ok (.ifCond .lt 13, 3) := by decide +kernel
theorem dM_keep_7 : decode cM_keep 7 = .ok (.aload_n 0, 1) := by decide +kernel
theorem dM_keep_8 : decode cM_keep 8 = .ok (.getfield 17, 3) := by decide +kernel
theorem dM_keep_11 : decode cM_keep 11 = .ok (.sipush 600, 3) := by decide +kernel
theorem dM_keep_14 : decode cM_keep 14 = .ok (.if_icmp .lt 4, 3) := by decide +kernel
theorem dM_keep_17 : decode cM_keep 17 = .ok (.return_, 1) := by decide +kernel
theorem dM_keep_18 : decode cM_keep 18 = .ok (.aload_n 0, 1) := by decide +kernel
theorem dM_keep_19 : decode cM_keep 19 = .ok (.getfield 11, 3) := by decide +kernel
theorem dM_keep_22 : decode cM_keep 22 = .ok (.aload_n 0, 1) := by decide +kernel
theorem dM_keep_23 : decode cM_keep 23 = .ok (.getfield 17, 3) := by decide +kernel
theorem dM_keep_26 : decode cM_keep 26 = .ok (.aaload, 1) := by decide +kernel
theorem dM_keep_27 : decode cM_keep 27 = .ok (.astore_n 2, 1) := by decide +kernel
theorem dM_keep_28 : decode cM_keep 28 = .ok (.aload_n 2, 1) := by decide +kernel
theorem dM_keep_29 : decode cM_keep 29 = .ok (.ifnonnull 21, 3) := by decide +kernel
theorem dM_keep_32 : decode cM_keep 32 = .ok (.new 9, 3) := by decide +kernel
theorem dM_keep_35 : decode cM_keep 35 = .ok (.dup, 1) := by decide +kernel
theorem dM_keep_36 : decode cM_keep 36 = .ok (.invokespecial 21, 3) := by decide +kernel
theorem dM_keep_39 : decode cM_keep 39 = .ok (.astore_n 2, 1) := by decide +kernel
theorem dM_keep_40 : decode cM_keep 40 = .ok (.aload_n 0, 1) := by decide +kernel
theorem dM_keep_41 : decode cM_keep 41 = .ok (.getfield 11, 3) := by decide +kernel
theorem dM_keep_44 : decode cM_keep 44 = .ok (.aload_n 0, 1) := by decide +kernel
theorem dM_keep_45 : decode cM_keep 45 = .ok (.getfield 17, 3) := by decide +kernel
theorem dM_keep_48 : decode cM_keep 48 = .ok (.aload_n 2, 1) := by decide +kernel
theorem dM_keep_49 : decode cM_keep 49 = .ok (.aastore, 1) := by decide +kernel
theorem dM_keep_50 : decode cM_keep 50 = .ok (.aload_n 2, 1) := by decide +kernel
theorem dM_keep_51 : decode cM_keep 51 = .ok (.aload_n 1, 1) := by decide +kernel
theorem dM_keep_52 : decode cM_keep 52 = .ok (.invokevirtual 22, 3) := by decide +kernel
theorem dM_keep_55 : decode cM_keep 55 = .ok (.aload_n 0, 1) := by decide +kernel
theorem dM_keep_56 : decode cM_keep 56 = .ok (.dup, 1) := by decide +kernel
theorem dM_keep_57 : decode cM_keep 57 = .ok (.getfield 17, 3) := by decide +kernel
theorem dM_keep_60 : decode cM_keep 60 = .ok (.iconst 1, 1) := by decide +kernel
theorem dM_keep_61 : decode cM_keep 61 = .ok (.iadd, 1) := by decide +kernel
theorem dM_keep_62 : decode cM_keep 62 = .ok (.putfield 17, 3) := by decide +kernel
theorem dM_keep_65 : decode cM_keep 65 = .ok (.return_, 1) := by decide +kernel
theorem dM_last_0 : decode cM_last 0 = .ok (.aload_n 0, 1) := by decide +kernel
theorem dM_last_1 : decode cM_last 1 = .ok (.getfield 17, 3) := by decide +kernel
theorem dM_last_4 : decode cM_last 4 = .ok (.ifCond .le 27, 3) := by decide +kernel
theorem dM_last_7 : decode cM_last 7 = .ok (.aload_n 0, 1) := by decide +kernel
theorem dM_last_8 : decode cM_last 8 = .ok (.getfield 17, 3) := by decide +kernel
theorem dM_last_11 : decode cM_last 11 = .ok (.sipush 600, 3) := by decide +kernel
theorem dM_last_14 : decode cM_last 14 = .ok (.if_icmp .gt 17, 3) := by decide +kernel
theorem dM_last_17 : decode cM_last 17 = .ok (.aload_n 0, 1) := by decide +kernel
theorem dM_last_18 : decode cM_last 18 = .ok (.getfield 11, 3) := by decide +kernel
theorem dM_last_21 : decode cM_last 21 = .ok (.aload_n 0, 1) := by decide +kernel
theorem dM_last_22 : decode cM_last 22 = .ok (.getfield 17, 3) := by decide +kernel
theorem dM_last_25 : decode cM_last 25 = .ok (.iconst 1, 1) := by decide +kernel
theorem dM_last_26 : decode cM_last 26 = .ok (.isub, 1) := by decide +kernel
theorem dM_last_27 : decode cM_last 27 = .ok (.aaload, 1) := by decide +kernel
theorem dM_last_28 : decode cM_last 28 = .ok (.goto 4, 3) := by decide +kernel
theorem dM_last_31 : decode cM_last 31 = .ok (.aconst_null, 1) := by decide +kernel
theorem dM_last_32 : decode cM_last 32 = .ok (.areturn, 1) := by decide +kernel
theorem dM_find_0 : decode cM_find 0 = .ok (.aload_n 1, 1) := by decide +kernel
theorem dM_find_1 : decode cM_find 1 = .ok (.invokevirtual 26, 3) := by decide +kernel
theorem dM_find_4 : decode cM_find 4 = .ok (.istore_n 2, 1) := by decide +kernel
theorem dM_find_5 : decode cM_find 5 = .ok (.iconst 0, 1) := by decide +kernel
theorem dM_find_6 : decode cM_find 6 = .ok (.istore_n 3, 1) := by decide +kernel
theorem dM_find_7 : decode cM_find 7 = .ok (.iload_n 3, 1) := by decide +kernel
theorem dM_find_8 : decode cM_find 8 = .ok (.aload_n 0, 1) := by decide +kernel
theorem dM_find_9 : decode cM_find 9 = .ok (.getfield 17, 3) := by decide +kernel
theorem dM_find_12 : decode cM_find 12 = .ok (.if_icmp .ge 42, 3) := by decide +kernel
theorem dM_find_15 : decode cM_find 15 = .ok (.iload_n 3, 1) := by decide +kernel
theorem dM_find_16 : decode cM_find 16 = .ok (.sipush 600, 3) := by decide +kernel
theorem dM_find_19 : decode cM_find 19 = .ok (.if_icmp .ge 35, 3) := by decide +kernel
theorem dM_find_22 : decode cM_find 22 = .ok (.aload_n 0, 1) := by decide +kernel
theorem dM_find_23 : decode cM_find 23 = .ok (.getfield 11, 3) := by decide +kernel
theorem dM_find_26 : decode cM_find 26 = .ok (.iload_n 3, 1) := by decide +kernel
theorem dM_find_27 : decode cM_find 27 = .ok (.aaload, 1) := by decide +kernel
theorem dM_find_28 : decode cM_find 28 = .ok (.astore 4, 2) := by decide +kernel
theorem dM_find_30 : decode cM_find 30 = .ok (.aload 4, 2) := by decide +kernel
theorem dM_find_32 : decode cM_find 32 = .ok (.ifnull 16, 3) := by decide +kernel
theorem dM_find_35 : decode cM_find 35 = .ok (.aload 4, 2) := by decide +kernel
theorem dM_find_37 : decode cM_find 37 = .ok (.aload_n 1, 1) := by decide +kernel
theorem dM_find_38 : decode cM_find 38 = .ok (.iload_n 2, 1) := by decide +kernel
theorem dM_find_39 : decode cM_find 39 = .ok (.invokevirtual 32, 3) := by decide +kernel
theorem dM_find_42 : decode cM_find 42 = .ok (.ifCond .eq 6, 3) := by decide +kernel
theorem dM_find_45 : decode cM_find 45 = .ok (.aload 4, 2) := by decide +kernel
theorem dM_find_47 : decode cM_find 47 = .ok (.areturn, 1) := by decide +kernel
theorem dM_find_48 : decode cM_find 48 = .ok (.iinc 3 1, 3) := by decide +kernel
theorem dM_find_51 : decode cM_find 51 = .ok (.goto (-44), 3) := by decide +kernel
theorem dM_find_54 : decode cM_find 54 = .ok (.aconst_null, 1) := by decide +kernel
theorem dM_find_55 : decode cM_find 55 = .ok (.areturn, 1) := by decide +kernel
theorem dW_init_0 : decode cW_init 0 = .ok (.aload_n 0, 1) := by decide +kernel
theorem dW_init_1 : decode cW_init 1 = .ok (.invokespecial 3, 3) := by decide +kernel
theorem dW_init_4 : decode cW_init 4 = .ok (.return_, 1) := by decide +kernel
theorem dW_timesLeaving_0 : decode cW_timesLeaving 0 = .ok (.aload_n 0, 1) := by decide +kernel
theorem dW_timesLeaving_1 : decode cW_timesLeaving 1 = .ok (.getfield 9, 3) := by decide +kernel
theorem dW_timesLeaving_4 : decode cW_timesLeaving 4 = .ok (.ireturn, 1) := by decide +kernel
theorem dW_isLowering_0 : decode cW_isLowering 0 = .ok (.aload_n 0, 1) := by decide +kernel
theorem dW_isLowering_1 : decode cW_isLowering 1 = .ok (.getfield 15, 3) := by decide +kernel
theorem dW_isLowering_4 : decode cW_isLowering 4 = .ok (.ifCond .eq 7, 3) := by decide +kernel
theorem dW_isLowering_7 : decode cW_isLowering 7 = .ok (.iconst 1, 1) := by decide +kernel
theorem dW_isLowering_8 : decode cW_isLowering 8 = .ok (.goto 4, 3) := by decide +kernel
theorem dW_isLowering_11 : decode cW_isLowering 11 = .ok (.iconst 0, 1) := by decide +kernel
theorem dW_isLowering_12 : decode cW_isLowering 12 = .ok (.ireturn, 1) := by decide +kernel
theorem dW_clear_0 : decode cW_clear 0 = .ok (.aload_n 0, 1) := by decide +kernel
theorem dW_clear_1 : decode cW_clear 1 = .ok (.iconst 0, 1) := by decide +kernel
theorem dW_clear_2 : decode cW_clear 2 = .ok (.putfield 15, 3) := by decide +kernel
theorem dW_clear_5 : decode cW_clear 5 = .ok (.aload_n 0, 1) := by decide +kernel
theorem dW_clear_6 : decode cW_clear 6 = .ok (.iconst 0, 1) := by decide +kernel
theorem dW_clear_7 : decode cW_clear 7 = .ok (.putfield 9, 3) := by decide +kernel
theorem dW_clear_10 : decode cW_clear 10 = .ok (.return_, 1) := by decide +kernel
theorem dW_startLeaving_0 : decode cW_startLeaving 0 = .ok (.aload_n 0, 1) := by decide +kernel
theorem dW_startLeaving_1 : decode cW_startLeaving 1 = .ok (.dup, 1) := by decide +kernel
theorem dW_startLeaving_2 : decode cW_startLeaving 2 = .ok (.getfield 9, 3) := by decide +kernel
theorem dW_startLeaving_5 : decode cW_startLeaving 5 = .ok (.iconst 1, 1) := by decide +kernel
theorem dW_startLeaving_6 : decode cW_startLeaving 6 = .ok (.iadd, 1) := by decide +kernel
theorem dW_startLeaving_7 : decode cW_startLeaving 7 = .ok (.putfield 9, 3) := by decide +kernel
theorem dW_startLeaving_10 : decode cW_startLeaving 10 = .ok (.aload_n 0, 1) := by decide +kernel
theorem dW_startLeaving_11 : decode cW_startLeaving 11 = .ok (.iconst 0, 1) := by decide +kernel
theorem dW_startLeaving_12 : decode cW_startLeaving 12 = .ok (.putfield 15, 3) := by decide +kernel
theorem dW_startLeaving_15 : decode cW_startLeaving 15 = .ok (.aload_n 0, 1) := by decide +kernel
theorem dW_startLeaving_16 : decode cW_startLeaving 16 = .ok (.iload_n 1, 1) := by decide +kernel
theorem dW_startLeaving_17 : decode cW_startLeaving 17 = .ok (.invokevirtual 18, 3) := by decide +kernel
theorem dW_startLeaving_20 : decode cW_startLeaving 20 = .ok (.return_, 1) := by decide +kernel
theorem dW_startGoingThrough_0 : decode cW_startGoingThrough 0 = .ok (.aload_n 0, 1) := by decide +kernel
theorem dW_startGoingThrough_1 : decode cW_startGoingThrough 1 = .ok (.iload_n 1, 1) := by decide +kernel
theorem dW_startGoingThrough_2 : decode cW_startGoingThrough 2 = .ok (.putfield 22, 3) := by decide +kernel
theorem dW_startGoingThrough_5 : decode cW_startGoingThrough 5 = .ok (.aload_n 0, 1) := by decide +kernel
theorem dW_startGoingThrough_6 : decode cW_startGoingThrough 6 = .ok (.iconst 0, 1) := by decide +kernel
theorem dW_startGoingThrough_7 : decode cW_startGoingThrough 7 = .ok (.putfield 25, 3) := by decide +kernel
theorem dW_startGoingThrough_10 : decode cW_startGoingThrough 10 = .ok (.aload_n 0, 1) := by decide +kernel
theorem dW_startGoingThrough_11 : decode cW_startGoingThrough 11 = .ok (.iconst 0, 1) := by decide +kernel
theorem dW_startGoingThrough_12 : decode cW_startGoingThrough 12 = .ok (.putfield 28, 3) := by decide +kernel
theorem dW_startGoingThrough_15 : decode cW_startGoingThrough 15 = .ok (.return_, 1) := by decide +kernel
theorem dW_startLowering_0 : decode cW_startLowering 0 = .ok (.aload_n 0, 1) := by decide +kernel
theorem dW_startLowering_1 : decode cW_startLowering 1 = .ok (.iconst 1, 1) := by decide +kernel
theorem dW_startLowering_2 : decode cW_startLowering 2 = .ok (.putfield 15, 3) := by decide +kernel
theorem dW_startLowering_5 : decode cW_startLowering 5 = .ok (.aload_n 0, 1) := by decide +kernel
theorem dW_startLowering_6 : decode cW_startLowering 6 = .ok (.iconst 0, 1) := by decide +kernel
theorem dW_startLowering_7 : decode cW_startLowering 7 = .ok (.putfield 32, 3) := by decide +kernel
theorem dW_startLowering_10 : decode cW_startLowering 10 = .ok (.aload_n 0, 1) := by decide +kernel
theorem dW_startLowering_11 : decode cW_startLowering 11 = .ok (.iconst 0, 1) := by decide +kernel
theorem dW_startLowering_12 : decode cW_startLowering 12 = .ok (.putfield 35, 3) := by decide +kernel
theorem dW_startLowering_15 : decode cW_startLowering 15 = .ok (.aload_n 0, 1) := by decide +kernel
theorem dW_startLowering_16 : decode cW_startLowering 16 = .ok (.iconst 0, 1) := by decide +kernel
theorem dW_startLowering_17 : decode cW_startLowering 17 = .ok (.putfield 38, 3) := by decide +kernel
theorem dW_startLowering_20 : decode cW_startLowering 20 = .ok (.return_, 1) := by decide +kernel
theorem dW_findChange_0 : decode cW_findChange 0 = .ok (.iconst 0, 1) := by decide +kernel
theorem dW_findChange_1 : decode cW_findChange 1 = .ok (.istore_n 2, 1) := by decide +kernel
theorem dW_findChange_2 : decode cW_findChange 2 = .ok (.iload_n 2, 1) := by decide +kernel
theorem dW_findChange_3 : decode cW_findChange 3 = .ok (.ldc 41, 2) := by decide +kernel
theorem dW_findChange_5 : decode cW_findChange 5 = .ok (.if_icmp .ge 92, 3) := by decide +kernel
theorem dW_findChange_8 : decode cW_findChange 8 = .ok (.aload_n 0, 1) := by decide +kernel
theorem dW_findChange_9 : decode cW_findChange 9 = .ok (.getfield 15, 3) := by decide +kernel
theorem dW_findChange_12 : decode cW_findChange 12 = .ok (.ifCond .ne 23, 3) := by decide +kernel
theorem dW_findChange_15 : decode cW_findChange 15 = .ok (.aload_n 1, 1) := by decide +kernel
theorem dW_findChange_16 : decode cW_findChange 16 = .ok (.aload_n 0, 1) := by decide +kernel
theorem dW_findChange_17 : decode cW_findChange 17 = .ok (.getfield 25, 3) := by decide +kernel
theorem dW_findChange_20 : decode cW_findChange 20 = .ok (.invokevirtual 42, 3) := by decide +kernel
theorem dW_findChange_23 : decode cW_findChange 23 = .ok (.ifCond .eq 5, 3) := by decide +kernel
theorem dW_findChange_26 : decode cW_findChange 26 = .ok (.iconst 1, 1) := by decide +kernel
theorem dW_findChange_27 : decode cW_findChange 27 = .ok (.ireturn, 1) := by decide +kernel
theorem dW_findChange_28 : decode cW_findChange 28 = .ok (.aload_n 0, 1) := by decide +kernel
theorem dW_findChange_29 : decode cW_findChange 29 = .ok (.invokevirtual 48, 3) := by decide +kernel
theorem dW_findChange_32 : decode cW_findChange 32 = .ok (.goto 59, 3) := by decide +kernel
theorem dW_findChange_35 : decode cW_findChange 35 = .ok (.aload_n 1, 1) := by decide +kernel
theorem dW_findChange_36 : decode cW_findChange 36 = .ok (.aload_n 0, 1) := by decide +kernel
theorem dW_findChange_37 : decode cW_findChange 37 = .ok (.getfield 32, 3) := by decide +kernel
theorem dW_findChange_40 : decode cW_findChange 40 = .ok (.invokevirtual 42, 3) := by decide +kernel
theorem dW_findChange_43 : decode cW_findChange 43 = .ok (.ifCond .eq 31, 3) := by decide +kernel
theorem dW_findChange_46 : decode cW_findChange 46 = .ok (.aload_n 0, 1) := by decide +kernel
theorem dW_findChange_47 : decode cW_findChange 47 = .ok (.aload_n 1, 1) := by decide +kernel
theorem dW_findChange_48 : decode cW_findChange 48 = .ok (.aload_n 0, 1) := by decide +kernel
theorem dW_findChange_49 : decode cW_findChange 49 = .ok (.getfield 32, 3) := by decide +kernel
theorem dW_findChange_52 : decode cW_findChange 52 = .ok (.aload_n 0, 1) := by decide +kernel
theorem dW_findChange_53 : decode cW_findChange 53 = .ok (.getfield 35, 3) := by decide +kernel
theorem dW_findChange_56 : decode cW_findChange 56 = .ok (.invokevirtual 51, 3) := by decide +kernel
theorem dW_findChange_59 : decode cW_findChange 59 = .ok (.invokevirtual 55, 3) := by decide +kernel
theorem dW_findChange_62 : decode cW_findChange 62 = .ok (.ifCond .eq 5, 3) := by decide +kernel
theorem dW_findChange_65 : decode cW_findChange 65 = .ok (.iconst 1, 1) := by decide +kernel
theorem dW_findChange_66 : decode cW_findChange 66 = .ok (.ireturn, 1) := by decide +kernel
theorem dW_findChange_67 : decode cW_findChange 67 = .ok (.aload_n 0, 1) := by decide +kernel
theorem dW_findChange_68 : decode cW_findChange 68 = .ok (.invokevirtual 58, 3) := by decide +kernel
theorem dW_findChange_71 : decode cW_findChange 71 = .ok (.goto 20, 3) := by decide +kernel
theorem dW_findChange_74 : decode cW_findChange 74 = .ok (.aload_n 0, 1) := by decide +kernel
theorem dW_findChange_75 : decode cW_findChange 75 = .ok (.getfield 38, 3) := by decide +kernel
theorem dW_findChange_78 : decode cW_findChange 78 = .ok (.ifCond .eq 11, 3) := by decide +kernel
theorem dW_findChange_81 : decode cW_findChange 81 = .ok (.aload_n 0, 1) := by decide +kernel
theorem dW_findChange_82 : decode cW_findChange 82 = .ok (.iconst 1, 1) := by decide +kernel
theorem dW_findChange_83 : decode cW_findChange 83 = .ok (.invokevirtual 61, 3) := by decide +kernel
theorem dW_findChange_86 : decode cW_findChange 86 = .ok (.goto 5, 3) := by decide +kernel
theorem dW_findChange_89 : decode cW_findChange 89 = .ok (.iconst 0, 1) := by decide +kernel
theorem dW_findChange_90 : decode cW_findChange 90 = .ok (.ireturn, 1) := by decide +kernel
theorem dW_findChange_91 : decode cW_findChange 91 = .ok (.iinc 2 1, 3) := by decide +kernel
theorem dW_findChange_94 : decode cW_findChange 94 = .ok (.goto (-92), 3) := by decide +kernel
theorem dW_findChange_97 : decode cW_findChange 97 = .ok (.iconst 0, 1) := by decide +kernel
theorem dW_findChange_98 : decode cW_findChange 98 = .ok (.ireturn, 1) := by decide +kernel
theorem dW_endGoingThrough_0 : decode cW_endGoingThrough 0 = .ok (.aload_n 0, 1) := by decide +kernel
theorem dW_endGoingThrough_1 : decode cW_endGoingThrough 1 = .ok (.getfield 22, 3) := by decide +kernel
theorem dW_endGoingThrough_4 : decode cW_endGoingThrough 4 = .ok (.iconst 1, 1) := by decide +kernel
theorem dW_endGoingThrough_5 : decode cW_endGoingThrough 5 = .ok (.if_icmp .le 16, 3) := by decide +kernel
theorem dW_endGoingThrough_8 : decode cW_endGoingThrough 8 = .ok (.aload_n 0, 1) := by decide +kernel
theorem dW_endGoingThrough_9 : decode cW_endGoingThrough 9 = .ok (.aload_n 0, 1) := by decide +kernel
theorem dW_endGoingThrough_10 : decode cW_endGoingThrough 10 = .ok (.getfield 22, 3) := by decide +kernel
theorem dW_endGoingThrough_13 : decode cW_endGoingThrough 13 = .ok (.iconst 2, 1) := by decide +kernel
theorem dW_endGoingThrough_14 : decode cW_endGoingThrough 14 = .ok (.idiv, 1) := by decide +kernel
theorem dW_endGoingThrough_15 : decode cW_endGoingThrough 15 = .ok (.invokevirtual 18, 3) := by decide +kernel
theorem dW_endGoingThrough_18 : decode cW_endGoingThrough 18 = .ok (.goto 22, 3) := by decide +kernel
theorem dW_endGoingThrough_21 : decode cW_endGoingThrough 21 = .ok (.aload_n 0, 1) := by decide +kernel
theorem dW_endGoingThrough_22 : decode cW_endGoingThrough 22 = .ok (.getfield 28, 3) := by decide +kernel
theorem dW_endGoingThrough_25 : decode cW_endGoingThrough 25 = .ok (.ifCond .eq 11, 3) := by decide +kernel
theorem dW_endGoingThrough_28 : decode cW_endGoingThrough 28 = .ok (.aload_n 0, 1) := by decide +kernel
theorem dW_endGoingThrough_29 : decode cW_endGoingThrough 29 = .ok (.iconst 1, 1) := by decide +kernel
theorem dW_endGoingThrough_30 : decode cW_endGoingThrough 30 = .ok (.invokevirtual 18, 3) := by decide +kernel
theorem dW_endGoingThrough_33 : decode cW_endGoingThrough 33 = .ok (.goto 7, 3) := by decide +kernel
theorem dW_endGoingThrough_36 : decode cW_endGoingThrough 36 = .ok (.aload_n 0, 1) := by decide +kernel
theorem dW_endGoingThrough_37 : decode cW_endGoingThrough 37 = .ok (.invokevirtual 64, 3) := by decide +kernel
theorem dW_endGoingThrough_40 : decode cW_endGoingThrough 40 = .ok (.return_, 1) := by decide +kernel
theorem dW_canLower_0 : decode cW_canLower 0 = .ok (.aload_n 0, 1) := by decide +kernel
theorem dW_canLower_1 : decode cW_canLower 1 = .ok (.getfield 15, 3) := by decide +kernel
theorem dW_canLower_4 : decode cW_canLower 4 = .ok (.iconst 1, 1) := by decide +kernel
theorem dW_canLower_5 : decode cW_canLower 5 = .ok (.if_icmp .ne 15, 3) := by decide +kernel
theorem dW_canLower_8 : decode cW_canLower 8 = .ok (.iload_n 1, 1) := by decide +kernel
theorem dW_canLower_9 : decode cW_canLower 9 = .ok (.ifCond .le 7, 3) := by decide +kernel
theorem dW_canLower_12 : decode cW_canLower 12 = .ok (.iconst 1, 1) := by decide +kernel
theorem dW_canLower_13 : decode cW_canLower 13 = .ok (.goto 20, 3) := by decide +kernel
theorem dW_canLower_16 : decode cW_canLower 16 = .ok (.iconst 0, 1) := by decide +kernel
theorem dW_canLower_17 : decode cW_canLower 17 = .ok (.goto 16, 3) := by decide +kernel
theorem dW_canLower_20 : decode cW_canLower 20 = .ok (.aload_n 0, 1) := by decide +kernel
theorem dW_canLower_21 : decode cW_canLower 21 = .ok (.iload_n 1, 1) := by decide +kernel
theorem dW_canLower_22 : decode cW_canLower 22 = .ok (.invokevirtual 67, 3) := by decide +kernel
theorem dW_canLower_25 : decode cW_canLower 25 = .ok (.ifCond .le 7, 3) := by decide +kernel
theorem dW_canLower_28 : decode cW_canLower 28 = .ok (.iconst 1, 1) := by decide +kernel
theorem dW_canLower_29 : decode cW_canLower 29 = .ok (.goto 4, 3) := by decide +kernel
theorem dW_canLower_32 : decode cW_canLower 32 = .ok (.iconst 0, 1) := by decide +kernel
theorem dW_canLower_33 : decode cW_canLower 33 = .ok (.ireturn, 1) := by decide +kernel
theorem dW_lowerValue_0 : decode cW_lowerValue 0 = .ok (.aload_n 0, 1) := by decide +kernel
theorem dW_lowerValue_1 : decode cW_lowerValue 1 = .ok (.getfield 15, 3) := by decide +kernel
theorem dW_lowerValue_4 : decode cW_lowerValue 4 = .ok (.iconst 1, 1) := by decide +kernel
theorem dW_lowerValue_5 : decode cW_lowerValue 5 = .ok (.if_icmp .ne 5, 3) := by decide +kernel
theorem dW_lowerValue_8 : decode cW_lowerValue 8 = .ok (.iconst 0, 1) := by decide +kernel
theorem dW_lowerValue_9 : decode cW_lowerValue 9 = .ok (.ireturn, 1) := by decide +kernel
theorem dW_lowerValue_10 : decode cW_lowerValue 10 = .ok (.aload_n 0, 1) := by decide +kernel
theorem dW_lowerValue_11 : decode cW_lowerValue 11 = .ok (.getfield 15, 3) := by decide +kernel
theorem dW_lowerValue_14 : decode cW_lowerValue 14 = .ok (.iconst 2, 1) := by decide +kernel
theorem dW_lowerValue_15 : decode cW_lowerValue 15 = .ok (.if_icmp .ne 9, 3) := by decide +kernel
theorem dW_lowerValue_18 : decode cW_lowerValue 18 = .ok (.iload_n 1, 1) := by decide +kernel
theorem dW_lowerValue_19 : decode cW_lowerValue 19 = .ok (.iconst 2, 1) := by decide +kernel
theorem dW_lowerValue_20 : decode cW_lowerValue 20 = .ok (.idiv, 1) := by decide +kernel
theorem dW_lowerValue_21 : decode cW_lowerValue 21 = .ok (.goto 6, 3) := by decide +kernel
theorem dW_lowerValue_24 : decode cW_lowerValue 24 = .ok (.iload_n 1, 1) := by decide +kernel
theorem dW_lowerValue_25 : decode cW_lowerValue 25 = .ok (.iconst 1, 1) := by decide +kernel
theorem dW_lowerValue_26 : decode cW_lowerValue 26 = .ok (.isub, 1) := by decide +kernel
theorem dW_lowerValue_27 : decode cW_lowerValue 27 = .ok (.ireturn, 1) := by decide +kernel
theorem dW_change_0 : decode cW_change 0 = .ok (.aload_n 0, 1) := by decide +kernel
theorem dW_change_1 : decode cW_change 1 = .ok (.getfield 15, 3) := by decide +kernel
theorem dW_change_4 : decode cW_change 4 = .ok (.ifCond .ne 18, 3) := by decide +kernel
theorem dW_change_7 : decode cW_change 7 = .ok (.aload_n 1, 1) := by decide +kernel
theorem dW_change_8 : decode cW_change 8 = .ok (.aload_n 0, 1) := by decide +kernel
theorem dW_change_9 : decode cW_change 9 = .ok (.getfield 25, 3) := by decide +kernel
theorem dW_change_12 : decode cW_change 12 = .ok (.aload_n 0, 1) := by decide +kernel
theorem dW_change_13 : decode cW_change 13 = .ok (.getfield 22, 3) := by decide +kernel
theorem dW_change_16 : decode cW_change 16 = .ok (.invokevirtual 71, 3) := by decide +kernel
theorem dW_change_19 : decode cW_change 19 = .ok (.goto 33, 3) := by decide +kernel
theorem dW_change_22 : decode cW_change 22 = .ok (.aload_n 1, 1) := by decide +kernel
theorem dW_change_23 : decode cW_change 23 = .ok (.aload_n 0, 1) := by decide +kernel
theorem dW_change_24 : decode cW_change 24 = .ok (.getfield 32, 3) := by decide +kernel
theorem dW_change_27 : decode cW_change 27 = .ok (.aload_n 0, 1) := by decide +kernel
theorem dW_change_28 : decode cW_change 28 = .ok (.getfield 35, 3) := by decide +kernel
theorem dW_change_31 : decode cW_change 31 = .ok (.invokevirtual 51, 3) := by decide +kernel
theorem dW_change_34 : decode cW_change 34 = .ok (.istore_n 2, 1) := by decide +kernel
theorem dW_change_35 : decode cW_change 35 = .ok (.aload_n 1, 1) := by decide +kernel
theorem dW_change_36 : decode cW_change 36 = .ok (.aload_n 0, 1) := by decide +kernel
theorem dW_change_37 : decode cW_change 37 = .ok (.getfield 32, 3) := by decide +kernel
theorem dW_change_40 : decode cW_change 40 = .ok (.aload_n 0, 1) := by decide +kernel
theorem dW_change_41 : decode cW_change 41 = .ok (.getfield 35, 3) := by decide +kernel
theorem dW_change_44 : decode cW_change 44 = .ok (.aload_n 0, 1) := by decide +kernel
theorem dW_change_45 : decode cW_change 45 = .ok (.iload_n 2, 1) := by decide +kernel
theorem dW_change_46 : decode cW_change 46 = .ok (.invokevirtual 67, 3) := by decide +kernel
theorem dW_change_49 : decode cW_change 49 = .ok (.invokevirtual 75, 3) := by decide +kernel
theorem dW_change_52 : decode cW_change 52 = .ok (.return_, 1) := by decide +kernel
theorem dW_goOn_0 : decode cW_goOn 0 = .ok (.aload_n 0, 1) := by decide +kernel
theorem dW_goOn_1 : decode cW_goOn 1 = .ok (.getfield 15, 3) := by decide +kernel
theorem dW_goOn_4 : decode cW_goOn 4 = .ok (.ifCond .ne 9, 3) := by decide +kernel
theorem dW_goOn_7 : decode cW_goOn 7 = .ok (.aload_n 0, 1) := by decide +kernel
theorem dW_goOn_8 : decode cW_goOn 8 = .ok (.iconst 1, 1) := by decide +kernel
theorem dW_goOn_9 : decode cW_goOn 9 = .ok (.putfield 28, 3) := by decide +kernel
theorem dW_goOn_12 : decode cW_goOn 12 = .ok (.return_, 1) := by decide +kernel
theorem dW_goOn_13 : decode cW_goOn 13 = .ok (.aload_n 0, 1) := by decide +kernel
theorem dW_goOn_14 : decode cW_goOn 14 = .ok (.iconst 1, 1) := by decide +kernel
theorem dW_goOn_15 : decode cW_goOn 15 = .ok (.putfield 38, 3) := by decide +kernel
theorem dW_goOn_18 : decode cW_goOn 18 = .ok (.aload_n 0, 1) := by decide +kernel
theorem dW_goOn_19 : decode cW_goOn 19 = .ok (.getfield 15, 3) := by decide +kernel
theorem dW_goOn_22 : decode cW_goOn 22 = .ok (.iconst 1, 1) := by decide +kernel
theorem dW_goOn_23 : decode cW_goOn 23 = .ok (.if_icmp .ne 7, 3) := by decide +kernel
theorem dW_goOn_26 : decode cW_goOn 26 = .ok (.aload_n 0, 1) := by decide +kernel
theorem dW_goOn_27 : decode cW_goOn 27 = .ok (.invokevirtual 79, 3) := by decide +kernel
theorem dW_goOn_30 : decode cW_goOn 30 = .ok (.return_, 1) := by decide +kernel
theorem dW_passOver_0 : decode cW_passOver 0 = .ok (.aload_n 0, 1) := by decide +kernel
theorem dW_passOver_1 : decode cW_passOver 1 = .ok (.getfield 15, 3) := by decide +kernel
theorem dW_passOver_4 : decode cW_passOver 4 = .ok (.ifCond .ne 19, 3) := by decide +kernel
theorem dW_passOver_7 : decode cW_passOver 7 = .ok (.aload_n 0, 1) := by decide +kernel
theorem dW_passOver_8 : decode cW_passOver 8 = .ok (.dup, 1) := by decide +kernel
theorem dW_passOver_9 : decode cW_passOver 9 = .ok (.getfield 25, 3) := by decide +kernel
theorem dW_passOver_12 : decode cW_passOver 12 = .ok (.aload_n 0, 1) := by decide +kernel
theorem dW_passOver_13 : decode cW_passOver 13 = .ok (.getfield 22, 3) := by decide +kernel
theorem dW_passOver_16 : decode cW_passOver 16 = .ok (.iadd, 1) := by decide +kernel
theorem dW_passOver_17 : decode cW_passOver 17 = .ok (.putfield 25, 3) := by decide +kernel
theorem dW_passOver_20 : decode cW_passOver 20 = .ok (.goto 39, 3) := by decide +kernel
theorem dW_passOver_23 : decode cW_passOver 23 = .ok (.aload_n 0, 1) := by decide +kernel
theorem dW_passOver_24 : decode cW_passOver 24 = .ok (.getfield 15, 3) := by decide +kernel
theorem dW_passOver_27 : decode cW_passOver 27 = .ok (.iconst 1, 1) := by decide +kernel
theorem dW_passOver_28 : decode cW_passOver 28 = .ok (.if_icmp .ne 11, 3) := by decide +kernel
theorem dW_passOver_31 : decode cW_passOver 31 = .ok (.aload_n 0, 1) := by decide +kernel
theorem dW_passOver_32 : decode cW_passOver 32 = .ok (.iconst 2, 1) := by decide +kernel
theorem dW_passOver_33 : decode cW_passOver 33 = .ok (.putfield 15, 3) := by decide +kernel
theorem dW_passOver_36 : decode cW_passOver 36 = .ok (.goto 23, 3) := by decide +kernel
theorem dW_passOver_39 : decode cW_passOver 39 = .ok (.aload_n 0, 1) := by decide +kernel
theorem dW_passOver_40 : decode cW_passOver 40 = .ok (.getfield 15, 3) := by decide +kernel
theorem dW_passOver_43 : decode cW_passOver 43 = .ok (.iconst 2, 1) := by decide +kernel
theorem dW_passOver_44 : decode cW_passOver 44 = .ok (.if_icmp .ne 11, 3) := by decide +kernel
theorem dW_passOver_47 : decode cW_passOver 47 = .ok (.aload_n 0, 1) := by decide +kernel
theorem dW_passOver_48 : decode cW_passOver 48 = .ok (.iconst 3, 1) := by decide +kernel
theorem dW_passOver_49 : decode cW_passOver 49 = .ok (.putfield 15, 3) := by decide +kernel
theorem dW_passOver_52 : decode cW_passOver 52 = .ok (.goto 7, 3) := by decide +kernel
theorem dW_passOver_55 : decode cW_passOver 55 = .ok (.aload_n 0, 1) := by decide +kernel
theorem dW_passOver_56 : decode cW_passOver 56 = .ok (.invokevirtual 79, 3) := by decide +kernel
theorem dW_passOver_59 : decode cW_passOver 59 = .ok (.return_, 1) := by decide +kernel
theorem dW_nextByte_0 : decode cW_nextByte 0 = .ok (.aload_n 0, 1) := by decide +kernel
theorem dW_nextByte_1 : decode cW_nextByte 1 = .ok (.iconst 1, 1) := by decide +kernel
theorem dW_nextByte_2 : decode cW_nextByte 2 = .ok (.putfield 15, 3) := by decide +kernel
theorem dW_nextByte_5 : decode cW_nextByte 5 = .ok (.aload_n 0, 1) := by decide +kernel
theorem dW_nextByte_6 : decode cW_nextByte 6 = .ok (.dup, 1) := by decide +kernel
theorem dW_nextByte_7 : decode cW_nextByte 7 = .ok (.getfield 35, 3) := by decide +kernel
theorem dW_nextByte_10 : decode cW_nextByte 10 = .ok (.iconst 1, 1) := by decide +kernel
theorem dW_nextByte_11 : decode cW_nextByte 11 = .ok (.iadd, 1) := by decide +kernel
theorem dW_nextByte_12 : decode cW_nextByte 12 = .ok (.putfield 35, 3) := by decide +kernel
theorem dW_nextByte_15 : decode cW_nextByte 15 = .ok (.aload_n 0, 1) := by decide +kernel
theorem dW_nextByte_16 : decode cW_nextByte 16 = .ok (.getfield 35, 3) := by decide +kernel
theorem dW_nextByte_19 : decode cW_nextByte 19 = .ok (.iconst 4, 1) := by decide +kernel
theorem dW_nextByte_20 : decode cW_nextByte 20 = .ok (.if_icmp .lt 18, 3) := by decide +kernel
theorem dW_nextByte_23 : decode cW_nextByte 23 = .ok (.aload_n 0, 1) := by decide +kernel
theorem dW_nextByte_24 : decode cW_nextByte 24 = .ok (.iconst 0, 1) := by decide +kernel
theorem dW_nextByte_25 : decode cW_nextByte 25 = .ok (.putfield 35, 3) := by decide +kernel
theorem dW_nextByte_28 : decode cW_nextByte 28 = .ok (.aload_n 0, 1) := by decide +kernel
theorem dW_nextByte_29 : decode cW_nextByte 29 = .ok (.dup, 1) := by decide +kernel
theorem dW_nextByte_30 : decode cW_nextByte 30 = .ok (.getfield 32, 3) := by decide +kernel
theorem dW_nextByte_33 : decode cW_nextByte 33 = .ok (.iconst 1, 1) := by decide +kernel
theorem dW_nextByte_34 : decode cW_nextByte 34 = .ok (.iadd, 1) := by decide +kernel
theorem dW_nextByte_35 : decode cW_nextByte 35 = .ok (.putfield 32, 3) := by decide +kernel
theorem dW_nextByte_38 : decode cW_nextByte 38 = .ok (.return_, 1) := by decide +kernel
