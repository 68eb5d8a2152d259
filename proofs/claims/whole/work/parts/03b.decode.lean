-- decode rows, a row an instruction (by wip/gen/names.py)
theorem dS_init_0 : decode cS_init 0 = .ok (.aload_n 0, 1) := by decide +kernel
theorem dS_init_1 : decode cS_init 1 = .ok (.invokespecial 1, 3) := by decide +kernel
theorem dS_init_4 : decode cS_init 4 = .ok (.aload_n 0, 1) := by decide +kernel
theorem dS_init_5 : decode cS_init 5 = .ok (.iconst 1, 1) := by decide +kernel
theorem dS_init_6 : decode cS_init 6 = .ok (.iload_n 1, 1) := by decide +kernel
theorem dS_init_7 : decode cS_init 7 = .ok (.i2l, 1) := by decide +kernel
theorem dS_init_8 : decode cS_init 8 = .ok (.lconst 1, 1) := by decide +kernel
theorem dS_init_9 : decode cS_init 9 = .ok (.lsub, 1) := by decide +kernel
theorem dS_init_10 : decode cS_init 10 = .ok (.ldc2_w 9, 3) := by decide +kernel
theorem dS_init_13 : decode cS_init 13 = .ok (.invokestatic 11, 3) := by decide +kernel
theorem dS_init_16 : decode cS_init 16 = .ok (.l2i, 1) := by decide +kernel
theorem dS_init_17 : decode cS_init 17 = .ok (.iadd, 1) := by decide +kernel
theorem dS_init_18 : decode cS_init 18 = .ok (.putfield 17, 3) := by decide +kernel
theorem dS_init_21 : decode cS_init 21 = .ok (.aload_n 0, 1) := by decide +kernel
theorem dS_init_22 : decode cS_init 22 = .ok (.new 21, 3) := by decide +kernel
theorem dS_init_25 : decode cS_init 25 = .ok (.dup, 1) := by decide +kernel
theorem dS_init_26 : decode cS_init 26 = .ok (.invokespecial 23, 3) := by decide +kernel
theorem dS_init_29 : decode cS_init 29 = .ok (.putfield 24, 3) := by decide +kernel
theorem dS_init_32 : decode cS_init 32 = .ok (.aload_n 0, 1) := by decide +kernel
theorem dS_init_33 : decode cS_init 33 = .ok (.new 21, 3) := by decide +kernel
theorem dS_init_36 : decode cS_init 36 = .ok (.dup, 1) := by decide +kernel
theorem dS_init_37 : decode cS_init 37 = .ok (.invokespecial 23, 3) := by decide +kernel
theorem dS_init_40 : decode cS_init 40 = .ok (.putfield 28, 3) := by decide +kernel
theorem dS_init_43 : decode cS_init 43 = .ok (.aload_n 0, 1) := by decide +kernel
theorem dS_init_44 : decode cS_init 44 = .ok (.new 31, 3) := by decide +kernel
theorem dS_init_47 : decode cS_init 47 = .ok (.dup, 1) := by decide +kernel
theorem dS_init_48 : decode cS_init 48 = .ok (.invokespecial 33, 3) := by decide +kernel
theorem dS_init_51 : decode cS_init 51 = .ok (.putfield 34, 3) := by decide +kernel
theorem dS_init_54 : decode cS_init 54 = .ok (.aload_n 0, 1) := by decide +kernel
theorem dS_init_55 : decode cS_init 55 = .ok (.new 38, 3) := by decide +kernel
theorem dS_init_58 : decode cS_init 58 = .ok (.dup, 1) := by decide +kernel
theorem dS_init_59 : decode cS_init 59 = .ok (.invokespecial 40, 3) := by decide +kernel
theorem dS_init_62 : decode cS_init 62 = .ok (.putfield 41, 3) := by decide +kernel
theorem dS_init_65 : decode cS_init 65 = .ok (.aload_n 0, 1) := by decide +kernel
theorem dS_init_66 : decode cS_init 66 = .ok (.iconst 0, 1) := by decide +kernel
theorem dS_init_67 : decode cS_init 67 = .ok (.putfield 45, 3) := by decide +kernel
theorem dS_init_70 : decode cS_init 70 = .ok (.aload_n 0, 1) := by decide +kernel
theorem dS_init_71 : decode cS_init 71 = .ok (.iconst (-1), 1) := by decide +kernel
theorem dS_init_72 : decode cS_init 72 = .ok (.putfield 48, 3) := by decide +kernel
theorem dS_init_75 : decode cS_init 75 = .ok (.return_, 1) := by decide +kernel
theorem dS_feed_0 : decode cS_feed 0 = .ok (.aload_n 0, 1) := by decide +kernel
theorem dS_feed_1 : decode cS_feed 1 = .ok (.getfield 45, 3) := by decide +kernel
theorem dS_feed_4 : decode cS_feed 4 = .ok (.ifCond .eq 7, 3) := by decide +kernel
theorem dS_feed_7 : decode cS_feed 7 = .ok (.aload_n 0, 1) := by decide +kernel
theorem dS_feed_8 : decode cS_feed 8 = .ok (.invokevirtual 51, 3) := by decide +kernel
theorem dS_feed_11 : decode cS_feed 11 = .ok (.aload_n 0, 1) := by decide +kernel
theorem dS_feed_12 : decode cS_feed 12 = .ok (.getfield 24, 3) := by decide +kernel
theorem dS_feed_15 : decode cS_feed 15 = .ok (.invokevirtual 54, 3) := by decide +kernel
theorem dS_feed_18 : decode cS_feed 18 = .ok (.ifCond .eq 13, 3) := by decide +kernel
theorem dS_feed_21 : decode cS_feed 21 = .ok (.new 58, 3) := by decide +kernel
theorem dS_feed_24 : decode cS_feed 24 = .ok (.dup, 1) := by decide +kernel
theorem dS_feed_25 : decode cS_feed 25 = .ok (.ldc 60, 2) := by decide +kernel
theorem dS_feed_27 : decode cS_feed 27 = .ok (.invokespecial 62, 3) := by decide +kernel
theorem dS_feed_30 : decode cS_feed 30 = .ok (.athrow, 1) := by decide +kernel
theorem dS_feed_31 : decode cS_feed 31 = .ok (.aload_n 0, 1) := by decide +kernel
theorem dS_feed_32 : decode cS_feed 32 = .ok (.getfield 24, 3) := by decide +kernel
theorem dS_feed_35 : decode cS_feed 35 = .ok (.iload_n 1, 1) := by decide +kernel
theorem dS_feed_36 : decode cS_feed 36 = .ok (.invokevirtual 65, 3) := by decide +kernel
theorem dS_feed_39 : decode cS_feed 39 = .ok (.aload_n 0, 1) := by decide +kernel
theorem dS_feed_40 : decode cS_feed 40 = .ok (.getfield 24, 3) := by decide +kernel
theorem dS_feed_43 : decode cS_feed 43 = .ok (.invokevirtual 69, 3) := by decide +kernel
theorem dS_feed_46 : decode cS_feed 46 = .ok (.ireturn, 1) := by decide +kernel
theorem dS_begin_0 : decode cS_begin 0 = .ok (.aload_n 0, 1) := by decide +kernel
theorem dS_begin_1 : decode cS_begin 1 = .ok (.getfield 45, 3) := by decide +kernel
theorem dS_begin_4 : decode cS_begin 4 = .ok (.ifCond .ne 13, 3) := by decide +kernel
theorem dS_begin_7 : decode cS_begin 7 = .ok (.aload_n 0, 1) := by decide +kernel
theorem dS_begin_8 : decode cS_begin 8 = .ok (.getfield 24, 3) := by decide +kernel
theorem dS_begin_11 : decode cS_begin 11 = .ok (.invokevirtual 69, 3) := by decide +kernel
theorem dS_begin_14 : decode cS_begin 14 = .ok (.ifCond .ne 13, 3) := by decide +kernel
theorem dS_begin_17 : decode cS_begin 17 = .ok (.new 73, 3) := by decide +kernel
theorem dS_begin_20 : decode cS_begin 20 = .ok (.dup, 1) := by decide +kernel
theorem dS_begin_21 : decode cS_begin 21 = .ok (.ldc 75, 2) := by decide +kernel
theorem dS_begin_23 : decode cS_begin 23 = .ok (.invokespecial 77, 3) := by decide +kernel
theorem dS_begin_26 : decode cS_begin 26 = .ok (.athrow, 1) := by decide +kernel
theorem dS_begin_27 : decode cS_begin 27 = .ok (.aload_n 0, 1) := by decide +kernel
theorem dS_begin_28 : decode cS_begin 28 = .ok (.getfield 34, 3) := by decide +kernel
theorem dS_begin_31 : decode cS_begin 31 = .ok (.aload_n 0, 1) := by decide +kernel
theorem dS_begin_32 : decode cS_begin 32 = .ok (.getfield 24, 3) := by decide +kernel
theorem dS_begin_35 : decode cS_begin 35 = .ok (.invokevirtual 78, 3) := by decide +kernel
theorem dS_begin_38 : decode cS_begin 38 = .ok (.aload_n 0, 1) := by decide +kernel
theorem dS_begin_39 : decode cS_begin 39 = .ok (.iconst 1, 1) := by decide +kernel
theorem dS_begin_40 : decode cS_begin 40 = .ok (.putfield 45, 3) := by decide +kernel
theorem dS_begin_43 : decode cS_begin 43 = .ok (.return_, 1) := by decide +kernel
theorem dS_asked_0 : decode cS_asked 0 = .ok (.aload_n 0, 1) := by decide +kernel
theorem dS_asked_1 : decode cS_asked 1 = .ok (.invokevirtual 82, 3) := by decide +kernel
theorem dS_asked_4 : decode cS_asked 4 = .ok (.astore_n 2, 1) := by decide +kernel
theorem dS_asked_5 : decode cS_asked 5 = .ok (.aload_n 2, 1) := by decide +kernel
theorem dS_asked_6 : decode cS_asked 6 = .ok (.ifnonnull 13, 3) := by decide +kernel
theorem dS_asked_9 : decode cS_asked 9 = .ok (.new 73, 3) := by decide +kernel
theorem dS_asked_12 : decode cS_asked 12 = .ok (.dup, 1) := by decide +kernel
theorem dS_asked_13 : decode cS_asked 13 = .ok (.ldc 86, 2) := by decide +kernel
theorem dS_asked_15 : decode cS_asked 15 = .ok (.invokespecial 77, 3) := by decide +kernel
theorem dS_asked_18 : decode cS_asked 18 = .ok (.athrow, 1) := by decide +kernel
theorem dS_asked_19 : decode cS_asked 19 = .ok (.aload_n 2, 1) := by decide +kernel
theorem dS_asked_20 : decode cS_asked 20 = .ok (.invokevirtual 88, 3) := by decide +kernel
theorem dS_asked_23 : decode cS_asked 23 = .ok (.iload_n 1, 1) := by decide +kernel
theorem dS_asked_24 : decode cS_asked 24 = .ok (.invokevirtual 94, 3) := by decide +kernel
theorem dS_asked_27 : decode cS_asked 27 = .ok (.ifCond .ne 13, 3) := by decide +kernel
theorem dS_asked_30 : decode cS_asked 30 = .ok (.new 98, 3) := by decide +kernel
theorem dS_asked_33 : decode cS_asked 33 = .ok (.dup, 1) := by decide +kernel
theorem dS_asked_34 : decode cS_asked 34 = .ok (.ldc 100, 2) := by decide +kernel
theorem dS_asked_36 : decode cS_asked 36 = .ok (.invokespecial 102, 3) := by decide +kernel
theorem dS_asked_39 : decode cS_asked 39 = .ok (.athrow, 1) := by decide +kernel
theorem dS_asked_40 : decode cS_asked 40 = .ok (.aload_n 2, 1) := by decide +kernel
theorem dS_asked_41 : decode cS_asked 41 = .ok (.invokevirtual 88, 3) := by decide +kernel
theorem dS_asked_44 : decode cS_asked 44 = .ok (.iload_n 1, 1) := by decide +kernel
theorem dS_asked_45 : decode cS_asked 45 = .ok (.invokevirtual 103, 3) := by decide +kernel
theorem dS_asked_48 : decode cS_asked 48 = .ok (.ireturn, 1) := by decide +kernel
theorem dS_size_0 : decode cS_size 0 = .ok (.aload_n 0, 1) := by decide +kernel
theorem dS_size_1 : decode cS_size 1 = .ok (.invokevirtual 82, 3) := by decide +kernel
theorem dS_size_4 : decode cS_size 4 = .ok (.astore_n 1, 1) := by decide +kernel
theorem dS_size_5 : decode cS_size 5 = .ok (.aload_n 1, 1) := by decide +kernel
theorem dS_size_6 : decode cS_size 6 = .ok (.ifnonnull 13, 3) := by decide +kernel
theorem dS_size_9 : decode cS_size 9 = .ok (.new 73, 3) := by decide +kernel
theorem dS_size_12 : decode cS_size 12 = .ok (.dup, 1) := by decide +kernel
theorem dS_size_13 : decode cS_size 13 = .ok (.ldc 86, 2) := by decide +kernel
theorem dS_size_15 : decode cS_size 15 = .ok (.invokespecial 77, 3) := by decide +kernel
theorem dS_size_18 : decode cS_size 18 = .ok (.athrow, 1) := by decide +kernel
theorem dS_size_19 : decode cS_size 19 = .ok (.aload_n 1, 1) := by decide +kernel
theorem dS_size_20 : decode cS_size 20 = .ok (.invokevirtual 88, 3) := by decide +kernel
theorem dS_size_23 : decode cS_size 23 = .ok (.invokevirtual 69, 3) := by decide +kernel
theorem dS_size_26 : decode cS_size 26 = .ok (.ireturn, 1) := by decide +kernel
theorem dS_judge_0 : decode cS_judge 0 = .ok (.aload_n 0, 1) := by decide +kernel
theorem dS_judge_1 : decode cS_judge 1 = .ok (.invokevirtual 82, 3) := by decide +kernel
theorem dS_judge_4 : decode cS_judge 4 = .ok (.astore_n 2, 1) := by decide +kernel
theorem dS_judge_5 : decode cS_judge 5 = .ok (.aload_n 2, 1) := by decide +kernel
theorem dS_judge_6 : decode cS_judge 6 = .ok (.ifnonnull 13, 3) := by decide +kernel
theorem dS_judge_9 : decode cS_judge 9 = .ok (.new 73, 3) := by decide +kernel
theorem dS_judge_12 : decode cS_judge 12 = .ok (.dup, 1) := by decide +kernel
theorem dS_judge_13 : decode cS_judge 13 = .ok (.ldc 86, 2) := by decide +kernel
theorem dS_judge_15 : decode cS_judge 15 = .ok (.invokespecial 77, 3) := by decide +kernel
theorem dS_judge_18 : decode cS_judge 18 = .ok (.athrow, 1) := by decide +kernel
theorem dS_judge_19 : decode cS_judge 19 = .ok (.iload_n 1, 1) := by decide +kernel
theorem dS_judge_20 : decode cS_judge 20 = .ok (.iconst (-1), 1) := by decide +kernel
theorem dS_judge_21 : decode cS_judge 21 = .ok (.if_icmp .ge 13, 3) := by decide +kernel
theorem dS_judge_24 : decode cS_judge 24 = .ok (.new 107, 3) := by decide +kernel
theorem dS_judge_27 : decode cS_judge 27 = .ok (.dup, 1) := by decide +kernel
theorem dS_judge_28 : decode cS_judge 28 = .ok (.ldc 109, 2) := by decide +kernel
theorem dS_judge_30 : decode cS_judge 30 = .ok (.invokespecial 111, 3) := by decide +kernel
theorem dS_judge_33 : decode cS_judge 33 = .ok (.athrow, 1) := by decide +kernel
theorem dS_judge_34 : decode cS_judge 34 = .ok (.aload_n 2, 1) := by decide +kernel
theorem dS_judge_35 : decode cS_judge 35 = .ok (.iload_n 1, 1) := by decide +kernel
theorem dS_judge_36 : decode cS_judge 36 = .ok (.invokevirtual 112, 3) := by decide +kernel
theorem dS_judge_39 : decode cS_judge 39 = .ok (.aload_n 0, 1) := by decide +kernel
theorem dS_judge_40 : decode cS_judge 40 = .ok (.getfield 48, 3) := by decide +kernel
theorem dS_judge_43 : decode cS_judge 43 = .ok (.iconst (-1), 1) := by decide +kernel
theorem dS_judge_44 : decode cS_judge 44 = .ok (.if_icmp .ne 11, 3) := by decide +kernel
theorem dS_judge_47 : decode cS_judge 47 = .ok (.aload_n 0, 1) := by decide +kernel
theorem dS_judge_48 : decode cS_judge 48 = .ok (.iload_n 1, 1) := by decide +kernel
theorem dS_judge_49 : decode cS_judge 49 = .ok (.invokevirtual 115, 3) := by decide +kernel
theorem dS_judge_52 : decode cS_judge 52 = .ok (.goto 8, 3) := by decide +kernel
theorem dS_judge_55 : decode cS_judge 55 = .ok (.aload_n 0, 1) := by decide +kernel
theorem dS_judge_56 : decode cS_judge 56 = .ok (.iload_n 1, 1) := by decide +kernel
theorem dS_judge_57 : decode cS_judge 57 = .ok (.invokevirtual 118, 3) := by decide +kernel
theorem dS_judge_60 : decode cS_judge 60 = .ok (.aload_n 0, 1) := by decide +kernel
theorem dS_judge_61 : decode cS_judge 61 = .ok (.getfield 45, 3) := by decide +kernel
theorem dS_judge_64 : decode cS_judge 64 = .ok (.iconst 1, 1) := by decide +kernel
theorem dS_judge_65 : decode cS_judge 65 = .ok (.if_icmp .ne 7, 3) := by decide +kernel
theorem dS_judge_68 : decode cS_judge 68 = .ok (.aload_n 0, 1) := by decide +kernel
theorem dS_judge_69 : decode cS_judge 69 = .ok (.invokevirtual 121, 3) := by decide +kernel
theorem dS_judge_72 : decode cS_judge 72 = .ok (.aload_n 0, 1) := by decide +kernel
theorem dS_judge_73 : decode cS_judge 73 = .ok (.getfield 45, 3) := by decide +kernel
theorem dS_judge_76 : decode cS_judge 76 = .ok (.ireturn, 1) := by decide +kernel
theorem dS_at_0 : decode cS_at 0 = .ok (.aload_n 0, 1) := by decide +kernel
theorem dS_at_1 : decode cS_at 1 = .ok (.getfield 24, 3) := by decide +kernel
theorem dS_at_4 : decode cS_at 4 = .ok (.iload_n 1, 1) := by decide +kernel
theorem dS_at_5 : decode cS_at 5 = .ok (.invokevirtual 94, 3) := by decide +kernel
theorem dS_at_8 : decode cS_at 8 = .ok (.ifCond .ne 13, 3) := by decide +kernel
theorem dS_at_11 : decode cS_at 11 = .ok (.new 98, 3) := by decide +kernel
theorem dS_at_14 : decode cS_at 14 = .ok (.dup, 1) := by decide +kernel
theorem dS_at_15 : decode cS_at 15 = .ok (.ldc 124, 2) := by decide +kernel
theorem dS_at_17 : decode cS_at 17 = .ok (.invokespecial 102, 3) := by decide +kernel
theorem dS_at_20 : decode cS_at 20 = .ok (.athrow, 1) := by decide +kernel
theorem dS_at_21 : decode cS_at 21 = .ok (.aload_n 0, 1) := by decide +kernel
theorem dS_at_22 : decode cS_at 22 = .ok (.getfield 24, 3) := by decide +kernel
theorem dS_at_25 : decode cS_at 25 = .ok (.iload_n 1, 1) := by decide +kernel
theorem dS_at_26 : decode cS_at 26 = .ok (.invokevirtual 103, 3) := by decide +kernel
theorem dS_at_29 : decode cS_at 29 = .ok (.ireturn, 1) := by decide +kernel
theorem dS_from_0 : decode cS_from 0 = .ok (.aload_n 0, 1) := by decide +kernel
theorem dS_from_1 : decode cS_from 1 = .ok (.getfield 24, 3) := by decide +kernel
theorem dS_from_4 : decode cS_from 4 = .ok (.iload_n 1, 1) := by decide +kernel
theorem dS_from_5 : decode cS_from 5 = .ok (.invokevirtual 94, 3) := by decide +kernel
theorem dS_from_8 : decode cS_from 8 = .ok (.ifCond .ne 13, 3) := by decide +kernel
theorem dS_from_11 : decode cS_from 11 = .ok (.new 98, 3) := by decide +kernel
theorem dS_from_14 : decode cS_from 14 = .ok (.dup, 1) := by decide +kernel
theorem dS_from_15 : decode cS_from 15 = .ok (.ldc 124, 2) := by decide +kernel
theorem dS_from_17 : decode cS_from 17 = .ok (.invokespecial 102, 3) := by decide +kernel
theorem dS_from_20 : decode cS_from 20 = .ok (.athrow, 1) := by decide +kernel
theorem dS_from_21 : decode cS_from 21 = .ok (.aload_n 0, 1) := by decide +kernel
theorem dS_from_22 : decode cS_from 22 = .ok (.getfield 24, 3) := by decide +kernel
theorem dS_from_25 : decode cS_from 25 = .ok (.iload_n 1, 1) := by decide +kernel
theorem dS_from_26 : decode cS_from 26 = .ok (.invokevirtual 126, 3) := by decide +kernel
theorem dS_from_29 : decode cS_from 29 = .ok (.ireturn, 1) := by decide +kernel
theorem dS_known_0 : decode cS_known 0 = .ok (.aload_n 0, 1) := by decide +kernel
theorem dS_known_1 : decode cS_known 1 = .ok (.getfield 24, 3) := by decide +kernel
theorem dS_known_4 : decode cS_known 4 = .ok (.iload_n 2, 1) := by decide +kernel
theorem dS_known_5 : decode cS_known 5 = .ok (.invokevirtual 94, 3) := by decide +kernel
theorem dS_known_8 : decode cS_known 8 = .ok (.ifCond .ne 13, 3) := by decide +kernel
theorem dS_known_11 : decode cS_known 11 = .ok (.new 98, 3) := by decide +kernel
theorem dS_known_14 : decode cS_known 14 = .ok (.dup, 1) := by decide +kernel
theorem dS_known_15 : decode cS_known 15 = .ok (.ldc 124, 2) := by decide +kernel
theorem dS_known_17 : decode cS_known 17 = .ok (.invokespecial 102, 3) := by decide +kernel
theorem dS_known_20 : decode cS_known 20 = .ok (.athrow, 1) := by decide +kernel
theorem dS_known_21 : decode cS_known 21 = .ok (.iload_n 1, 1) := by decide +kernel
theorem dS_known_22 : decode cS_known 22 = .ok (.iconst 1, 1) := by decide +kernel
theorem dS_known_23 : decode cS_known 23 = .ok (.if_icmp .ne 22, 3) := by decide +kernel
theorem dS_known_26 : decode cS_known 26 = .ok (.iload_n 3, 1) := by decide +kernel
theorem dS_known_27 : decode cS_known 27 = .ok (.ifCond .lt 8, 3) := by decide +kernel
theorem dS_known_30 : decode cS_known 30 = .ok (.iload_n 3, 1) := by decide +kernel
theorem dS_known_31 : decode cS_known 31 = .ok (.iconst 4, 1) := by decide +kernel
theorem dS_known_32 : decode cS_known 32 = .ok (.if_icmp .lt 13, 3) := by decide +kernel
theorem dS_known_35 : decode cS_known 35 = .ok (.new 98, 3) := by decide +kernel
theorem dS_known_38 : decode cS_known 38 = .ok (.dup, 1) := by decide +kernel
theorem dS_known_39 : decode cS_known 39 = .ok (.ldc 129, 2) := by decide +kernel
theorem dS_known_41 : decode cS_known 41 = .ok (.invokespecial 102, 3) := by decide +kernel
theorem dS_known_44 : decode cS_known 44 = .ok (.athrow, 1) := by decide +kernel
theorem dS_known_45 : decode cS_known 45 = .ok (.iload_n 1, 1) := by decide +kernel
theorem dS_known_46 : decode cS_known 46 = .ok (.ifCond .eq 18, 3) := by decide +kernel
theorem dS_known_49 : decode cS_known 49 = .ok (.iload_n 1, 1) := by decide +kernel
theorem dS_known_50 : decode cS_known 50 = .ok (.iconst 1, 1) := by decide +kernel
theorem dS_known_51 : decode cS_known 51 = .ok (.if_icmp .eq 13, 3) := by decide +kernel
theorem dS_known_54 : decode cS_known 54 = .ok (.new 107, 3) := by decide +kernel
theorem dS_known_57 : decode cS_known 57 = .ok (.dup, 1) := by decide +kernel
theorem dS_known_58 : decode cS_known 58 = .ok (.ldc 131, 2) := by decide +kernel
theorem dS_known_60 : decode cS_known 60 = .ok (.invokespecial 111, 3) := by decide +kernel
theorem dS_known_63 : decode cS_known 63 = .ok (.athrow, 1) := by decide +kernel
theorem dS_known_64 : decode cS_known 64 = .ok (.iload_n 1, 1) := by decide +kernel
theorem dS_known_65 : decode cS_known 65 = .ok (.iconst 1, 1) := by decide +kernel
theorem dS_known_66 : decode cS_known 66 = .ok (.if_icmp .ne 26, 3) := by decide +kernel
theorem dS_known_69 : decode cS_known 69 = .ok (.iload 4, 2) := by decide +kernel
theorem dS_known_71 : decode cS_known 71 = .ok (.ifCond .lt 11, 3) := by decide +kernel
theorem dS_known_74 : decode cS_known 74 = .ok (.iload 4, 2) := by decide +kernel
theorem dS_known_76 : decode cS_known 76 = .ok (.sipush 255, 3) := by decide +kernel
theorem dS_known_79 : decode cS_known 79 = .ok (.if_icmp .le 13, 3) := by decide +kernel
theorem dS_known_82 : decode cS_known 82 = .ok (.new 107, 3) := by decide +kernel
theorem dS_known_85 : decode cS_known 85 = .ok (.dup, 1) := by decide +kernel
theorem dS_known_86 : decode cS_known 86 = .ok (.ldc 133, 2) := by decide +kernel
theorem dS_known_88 : decode cS_known 88 = .ok (.invokespecial 111, 3) := by decide +kernel
theorem dS_known_91 : decode cS_known 91 = .ok (.athrow, 1) := by decide +kernel
theorem dS_known_92 : decode cS_known 92 = .ok (.aload_n 0, 1) := by decide +kernel
theorem dS_known_93 : decode cS_known 93 = .ok (.getfield 28, 3) := by decide +kernel
theorem dS_known_96 : decode cS_known 96 = .ok (.aload_n 0, 1) := by decide +kernel
theorem dS_known_97 : decode cS_known 97 = .ok (.getfield 24, 3) := by decide +kernel
theorem dS_known_100 : decode cS_known 100 = .ok (.invokevirtual 135, 3) := by decide +kernel
theorem dS_known_103 : decode cS_known 103 = .ok (.iload_n 1, 1) := by decide +kernel
theorem dS_known_104 : decode cS_known 104 = .ok (.ifCond .ne 15, 3) := by decide +kernel
theorem dS_known_107 : decode cS_known 107 = .ok (.aload_n 0, 1) := by decide +kernel
theorem dS_known_108 : decode cS_known 108 = .ok (.getfield 28, 3) := by decide +kernel
theorem dS_known_111 : decode cS_known 111 = .ok (.iload_n 2, 1) := by decide +kernel
theorem dS_known_112 : decode cS_known 112 = .ok (.iconst 1, 1) := by decide +kernel
theorem dS_known_113 : decode cS_known 113 = .ok (.invokevirtual 138, 3) := by decide +kernel
theorem dS_known_116 : decode cS_known 116 = .ok (.goto 14, 3) := by decide +kernel
theorem dS_known_119 : decode cS_known 119 = .ok (.aload_n 0, 1) := by decide +kernel
theorem dS_known_120 : decode cS_known 120 = .ok (.getfield 28, 3) := by decide +kernel
theorem dS_known_123 : decode cS_known 123 = .ok (.iload_n 2, 1) := by decide +kernel
theorem dS_known_124 : decode cS_known 124 = .ok (.iload_n 3, 1) := by decide +kernel
theorem dS_known_125 : decode cS_known 125 = .ok (.iload 4, 2) := by decide +kernel
theorem dS_known_127 : decode cS_known 127 = .ok (.invokevirtual 142, 3) := by decide +kernel
theorem dS_known_130 : decode cS_known 130 = .ok (.aload_n 0, 1) := by decide +kernel
theorem dS_known_131 : decode cS_known 131 = .ok (.getfield 34, 3) := by decide +kernel
theorem dS_known_134 : decode cS_known 134 = .ok (.aload_n 0, 1) := by decide +kernel
theorem dS_known_135 : decode cS_known 135 = .ok (.getfield 28, 3) := by decide +kernel
theorem dS_known_138 : decode cS_known 138 = .ok (.invokevirtual 146, 3) := by decide +kernel
theorem dS_known_141 : decode cS_known 141 = .ok (.astore 5, 2) := by decide +kernel
theorem dS_known_143 : decode cS_known 143 = .ok (.aload 5, 2) := by decide +kernel
theorem dS_known_145 : decode cS_known 145 = .ok (.ifnonnull 8, 3) := by decide +kernel
theorem dS_known_148 : decode cS_known 148 = .ok (.bipush (-2), 2) := by decide +kernel
theorem dS_known_150 : decode cS_known 150 = .ok (.goto 8, 3) := by decide +kernel
theorem dS_known_153 : decode cS_known 153 = .ok (.aload 5, 2) := by decide +kernel
theorem dS_known_155 : decode cS_known 155 = .ok (.invokevirtual 150, 3) := by decide +kernel
theorem dS_known_158 : decode cS_known 158 = .ok (.ireturn, 1) := by decide +kernel
theorem dS_count_0 : decode cS_count 0 = .ok (.iload_n 1, 1) := by decide +kernel
theorem dS_count_1 : decode cS_count 1 = .ok (.tableswitch 114 0 9 #[55, 60, 68, 76, 81, 86, 91, 96, 101, 106], 55) := by decide +kernel
theorem dS_count_56 : decode cS_count 56 = .ok (.aload_n 0, 1) := by decide +kernel
theorem dS_count_57 : decode cS_count 57 = .ok (.getfield 45, 3) := by decide +kernel
theorem dS_count_60 : decode cS_count 60 = .ok (.ireturn, 1) := by decide +kernel
theorem dS_count_61 : decode cS_count 61 = .ok (.aload_n 0, 1) := by decide +kernel
theorem dS_count_62 : decode cS_count 62 = .ok (.getfield 24, 3) := by decide +kernel
theorem dS_count_65 : decode cS_count 65 = .ok (.invokevirtual 69, 3) := by decide +kernel
theorem dS_count_68 : decode cS_count 68 = .ok (.ireturn, 1) := by decide +kernel
theorem dS_count_69 : decode cS_count 69 = .ok (.aload_n 0, 1) := by decide +kernel
theorem dS_count_70 : decode cS_count 70 = .ok (.getfield 34, 3) := by decide +kernel
theorem dS_count_73 : decode cS_count 73 = .ok (.invokevirtual 153, 3) := by decide +kernel
theorem dS_count_76 : decode cS_count 76 = .ok (.ireturn, 1) := by decide +kernel
theorem dS_count_77 : decode cS_count 77 = .ok (.aload_n 0, 1) := by decide +kernel
theorem dS_count_78 : decode cS_count 78 = .ok (.getfield 156, 3) := by decide +kernel
theorem dS_count_81 : decode cS_count 81 = .ok (.ireturn, 1) := by decide +kernel
theorem dS_count_82 : decode cS_count 82 = .ok (.aload_n 0, 1) := by decide +kernel
theorem dS_count_83 : decode cS_count 83 = .ok (.getfield 159, 3) := by decide +kernel
theorem dS_count_86 : decode cS_count 86 = .ok (.ireturn, 1) := by decide +kernel
theorem dS_count_87 : decode cS_count 87 = .ok (.aload_n 0, 1) := by decide +kernel
theorem dS_count_88 : decode cS_count 88 = .ok (.getfield 162, 3) := by decide +kernel
theorem dS_count_91 : decode cS_count 91 = .ok (.ireturn, 1) := by decide +kernel
theorem dS_count_92 : decode cS_count 92 = .ok (.aload_n 0, 1) := by decide +kernel
theorem dS_count_93 : decode cS_count 93 = .ok (.getfield 165, 3) := by decide +kernel
theorem dS_count_96 : decode cS_count 96 = .ok (.ireturn, 1) := by decide +kernel
theorem dS_count_97 : decode cS_count 97 = .ok (.aload_n 0, 1) := by decide +kernel
theorem dS_count_98 : decode cS_count 98 = .ok (.getfield 17, 3) := by decide +kernel
theorem dS_count_101 : decode cS_count 101 = .ok (.ireturn, 1) := by decide +kernel
theorem dS_count_102 : decode cS_count 102 = .ok (.aload_n 0, 1) := by decide +kernel
theorem dS_count_103 : decode cS_count 103 = .ok (.getfield 48, 3) := by decide +kernel
theorem dS_count_106 : decode cS_count 106 = .ok (.ireturn, 1) := by decide +kernel
theorem dS_count_107 : decode cS_count 107 = .ok (.aload_n 0, 1) := by decide +kernel
theorem dS_count_108 : decode cS_count 108 = .ok (.getfield 41, 3) := by decide +kernel
theorem dS_count_111 : decode cS_count 111 = .ok (.invokevirtual 168, 3) := by decide +kernel
theorem dS_count_114 : decode cS_count 114 = .ok (.ireturn, 1) := by decide +kernel
theorem dS_count_115 : decode cS_count 115 = .ok (.iconst (-1), 1) := by decide +kernel
theorem dS_count_116 : decode cS_count 116 = .ok (.ireturn, 1) := by decide +kernel
theorem dS_startAfresh_0 : decode cS_startAfresh 0 = .ok (.aload_n 0, 1) := by decide +kernel
theorem dS_startAfresh_1 : decode cS_startAfresh 1 = .ok (.getfield 24, 3) := by decide +kernel
theorem dS_startAfresh_4 : decode cS_startAfresh 4 = .ok (.invokevirtual 171, 3) := by decide +kernel
theorem dS_startAfresh_7 : decode cS_startAfresh 7 = .ok (.aload_n 0, 1) := by decide +kernel
theorem dS_startAfresh_8 : decode cS_startAfresh 8 = .ok (.getfield 34, 3) := by decide +kernel
theorem dS_startAfresh_11 : decode cS_startAfresh 11 = .ok (.invokevirtual 174, 3) := by decide +kernel
theorem dS_startAfresh_14 : decode cS_startAfresh 14 = .ok (.aload_n 0, 1) := by decide +kernel
theorem dS_startAfresh_15 : decode cS_startAfresh 15 = .ok (.getfield 41, 3) := by decide +kernel
theorem dS_startAfresh_18 : decode cS_startAfresh 18 = .ok (.invokevirtual 175, 3) := by decide +kernel
theorem dS_startAfresh_21 : decode cS_startAfresh 21 = .ok (.aload_n 0, 1) := by decide +kernel
theorem dS_startAfresh_22 : decode cS_startAfresh 22 = .ok (.iconst 0, 1) := by decide +kernel
theorem dS_startAfresh_23 : decode cS_startAfresh 23 = .ok (.putfield 45, 3) := by decide +kernel
theorem dS_startAfresh_26 : decode cS_startAfresh 26 = .ok (.aload_n 0, 1) := by decide +kernel
theorem dS_startAfresh_27 : decode cS_startAfresh 27 = .ok (.iconst (-1), 1) := by decide +kernel
theorem dS_startAfresh_28 : decode cS_startAfresh 28 = .ok (.putfield 48, 3) := by decide +kernel
theorem dS_startAfresh_31 : decode cS_startAfresh 31 = .ok (.aload_n 0, 1) := by decide +kernel
theorem dS_startAfresh_32 : decode cS_startAfresh 32 = .ok (.iconst 0, 1) := by decide +kernel
theorem dS_startAfresh_33 : decode cS_startAfresh 33 = .ok (.putfield 156, 3) := by decide +kernel
theorem dS_startAfresh_36 : decode cS_startAfresh 36 = .ok (.aload_n 0, 1) := by decide +kernel
theorem dS_startAfresh_37 : decode cS_startAfresh 37 = .ok (.iconst 0, 1) := by decide +kernel
theorem dS_startAfresh_38 : decode cS_startAfresh 38 = .ok (.putfield 159, 3) := by decide +kernel
theorem dS_startAfresh_41 : decode cS_startAfresh 41 = .ok (.aload_n 0, 1) := by decide +kernel
theorem dS_startAfresh_42 : decode cS_startAfresh 42 = .ok (.iconst 0, 1) := by decide +kernel
theorem dS_startAfresh_43 : decode cS_startAfresh 43 = .ok (.putfield 162, 3) := by decide +kernel
theorem dS_startAfresh_46 : decode cS_startAfresh 46 = .ok (.aload_n 0, 1) := by decide +kernel
theorem dS_startAfresh_47 : decode cS_startAfresh 47 = .ok (.iconst 0, 1) := by decide +kernel
theorem dS_startAfresh_48 : decode cS_startAfresh 48 = .ok (.putfield 165, 3) := by decide +kernel
theorem dS_startAfresh_51 : decode cS_startAfresh 51 = .ok (.return_, 1) := by decide +kernel
theorem dS_openAsk_0 : decode cS_openAsk 0 = .ok (.aload_n 0, 1) := by decide +kernel
theorem dS_openAsk_1 : decode cS_openAsk 1 = .ok (.getfield 45, 3) := by decide +kernel
theorem dS_openAsk_4 : decode cS_openAsk 4 = .ok (.iconst 1, 1) := by decide +kernel
theorem dS_openAsk_5 : decode cS_openAsk 5 = .ok (.if_icmp .ne 13, 3) := by decide +kernel
theorem dS_openAsk_8 : decode cS_openAsk 8 = .ok (.aload_n 0, 1) := by decide +kernel
theorem dS_openAsk_9 : decode cS_openAsk 9 = .ok (.getfield 34, 3) := by decide +kernel
theorem dS_openAsk_12 : decode cS_openAsk 12 = .ok (.invokevirtual 176, 3) := by decide +kernel
theorem dS_openAsk_15 : decode cS_openAsk 15 = .ok (.goto 4, 3) := by decide +kernel
theorem dS_openAsk_18 : decode cS_openAsk 18 = .ok (.aconst_null, 1) := by decide +kernel
theorem dS_openAsk_19 : decode cS_openAsk 19 = .ok (.areturn, 1) := by decide +kernel
theorem dS_takeFirst_0 : decode cS_takeFirst 0 = .ok (.iload_n 1, 1) := by decide +kernel
theorem dS_takeFirst_1 : decode cS_takeFirst 1 = .ok (.iconst (-1), 1) := by decide +kernel
theorem dS_takeFirst_2 : decode cS_takeFirst 2 = .ok (.if_icmp .ne 9, 3) := by decide +kernel
theorem dS_takeFirst_5 : decode cS_takeFirst 5 = .ok (.aload_n 0, 1) := by decide +kernel
theorem dS_takeFirst_6 : decode cS_takeFirst 6 = .ok (.iconst 4, 1) := by decide +kernel
theorem dS_takeFirst_7 : decode cS_takeFirst 7 = .ok (.putfield 45, 3) := by decide +kernel
theorem dS_takeFirst_10 : decode cS_takeFirst 10 = .ok (.return_, 1) := by decide +kernel
theorem dS_takeFirst_11 : decode cS_takeFirst 11 = .ok (.aload_n 0, 1) := by decide +kernel
theorem dS_takeFirst_12 : decode cS_takeFirst 12 = .ok (.iload_n 1, 1) := by decide +kernel
theorem dS_takeFirst_13 : decode cS_takeFirst 13 = .ok (.putfield 48, 3) := by decide +kernel
theorem dS_takeFirst_16 : decode cS_takeFirst 16 = .ok (.aload_n 0, 1) := by decide +kernel
theorem dS_takeFirst_17 : decode cS_takeFirst 17 = .ok (.getfield 41, 3) := by decide +kernel
theorem dS_takeFirst_20 : decode cS_takeFirst 20 = .ok (.iconst 1, 1) := by decide +kernel
theorem dS_takeFirst_21 : decode cS_takeFirst 21 = .ok (.aload_n 0, 1) := by decide +kernel
theorem dS_takeFirst_22 : decode cS_takeFirst 22 = .ok (.getfield 24, 3) := by decide +kernel
theorem dS_takeFirst_25 : decode cS_takeFirst 25 = .ok (.invokevirtual 69, 3) := by decide +kernel
theorem dS_takeFirst_28 : decode cS_takeFirst 28 = .ok (.iconst 2, 1) := by decide +kernel
theorem dS_takeFirst_29 : decode cS_takeFirst 29 = .ok (.idiv, 1) := by decide +kernel
theorem dS_takeFirst_30 : decode cS_takeFirst 30 = .ok (.invokestatic 179, 3) := by decide +kernel
theorem dS_takeFirst_33 : decode cS_takeFirst 33 = .ok (.invokevirtual 183, 3) := by decide +kernel
theorem dS_takeFirst_36 : decode cS_takeFirst 36 = .ok (.return_, 1) := by decide +kernel
theorem dS_take_0 : decode cS_take 0 = .ok (.iload_n 1, 1) := by decide +kernel
theorem dS_take_1 : decode cS_take 1 = .ok (.aload_n 0, 1) := by decide +kernel
theorem dS_take_2 : decode cS_take 2 = .ok (.getfield 48, 3) := by decide +kernel
theorem dS_take_5 : decode cS_take 5 = .ok (.if_icmp .eq 11, 3) := by decide +kernel
theorem dS_take_8 : decode cS_take 8 = .ok (.aload_n 0, 1) := by decide +kernel
theorem dS_take_9 : decode cS_take 9 = .ok (.getfield 41, 3) := by decide +kernel
theorem dS_take_12 : decode cS_take 12 = .ok (.invokevirtual 186, 3) := by decide +kernel
theorem dS_take_15 : decode cS_take 15 = .ok (.return_, 1) := by decide +kernel
theorem dS_take_16 : decode cS_take 16 = .ok (.aload_n 0, 1) := by decide +kernel
theorem dS_take_17 : decode cS_take 17 = .ok (.getfield 24, 3) := by decide +kernel
theorem dS_take_20 : decode cS_take 20 = .ok (.invokevirtual 69, 3) := by decide +kernel
theorem dS_take_23 : decode cS_take 23 = .ok (.istore_n 2, 1) := by decide +kernel
theorem dS_take_24 : decode cS_take 24 = .ok (.aload_n 0, 1) := by decide +kernel
theorem dS_take_25 : decode cS_take 25 = .ok (.getfield 41, 3) := by decide +kernel
theorem dS_take_28 : decode cS_take 28 = .ok (.aload_n 0, 1) := by decide +kernel
theorem dS_take_29 : decode cS_take 29 = .ok (.getfield 24, 3) := by decide +kernel
theorem dS_take_32 : decode cS_take 32 = .ok (.invokevirtual 189, 3) := by decide +kernel
theorem dS_take_35 : decode cS_take 35 = .ok (.aload_n 0, 1) := by decide +kernel
theorem dS_take_36 : decode cS_take 36 = .ok (.dup, 1) := by decide +kernel
theorem dS_take_37 : decode cS_take 37 = .ok (.getfield 159, 3) := by decide +kernel
theorem dS_take_40 : decode cS_take 40 = .ok (.iconst 1, 1) := by decide +kernel
theorem dS_take_41 : decode cS_take 41 = .ok (.iadd, 1) := by decide +kernel
theorem dS_take_42 : decode cS_take 42 = .ok (.putfield 159, 3) := by decide +kernel
theorem dS_take_45 : decode cS_take 45 = .ok (.aload_n 0, 1) := by decide +kernel
theorem dS_take_46 : decode cS_take 46 = .ok (.dup, 1) := by decide +kernel
theorem dS_take_47 : decode cS_take 47 = .ok (.getfield 162, 3) := by decide +kernel
theorem dS_take_50 : decode cS_take 50 = .ok (.iload_n 2, 1) := by decide +kernel
theorem dS_take_51 : decode cS_take 51 = .ok (.aload_n 0, 1) := by decide +kernel
theorem dS_take_52 : decode cS_take 52 = .ok (.getfield 24, 3) := by decide +kernel
theorem dS_take_55 : decode cS_take 55 = .ok (.invokevirtual 69, 3) := by decide +kernel
theorem dS_take_58 : decode cS_take 58 = .ok (.isub, 1) := by decide +kernel
theorem dS_take_59 : decode cS_take 59 = .ok (.iadd, 1) := by decide +kernel
theorem dS_take_60 : decode cS_take 60 = .ok (.putfield 162, 3) := by decide +kernel
theorem dS_take_63 : decode cS_take 63 = .ok (.aload_n 0, 1) := by decide +kernel
theorem dS_take_64 : decode cS_take 64 = .ok (.getfield 41, 3) := by decide +kernel
theorem dS_take_67 : decode cS_take 67 = .ok (.invokevirtual 192, 3) := by decide +kernel
theorem dS_take_70 : decode cS_take 70 = .ok (.ifCond .eq 13, 3) := by decide +kernel
theorem dS_take_73 : decode cS_take 73 = .ok (.aload_n 0, 1) := by decide +kernel
theorem dS_take_74 : decode cS_take 74 = .ok (.dup, 1) := by decide +kernel
theorem dS_take_75 : decode cS_take 75 = .ok (.getfield 165, 3) := by decide +kernel
theorem dS_take_78 : decode cS_take 78 = .ok (.iconst 1, 1) := by decide +kernel
theorem dS_take_79 : decode cS_take 79 = .ok (.iadd, 1) := by decide +kernel
theorem dS_take_80 : decode cS_take 80 = .ok (.putfield 165, 3) := by decide +kernel
theorem dS_take_83 : decode cS_take 83 = .ok (.aload_n 0, 1) := by decide +kernel
theorem dS_take_84 : decode cS_take 84 = .ok (.getfield 41, 3) := by decide +kernel
theorem dS_take_87 : decode cS_take 87 = .ok (.invokevirtual 195, 3) := by decide +kernel
theorem dS_take_90 : decode cS_take 90 = .ok (.return_, 1) := by decide +kernel
theorem dS_askNext_0 : decode cS_askNext 0 = .ok (.iconst 0, 1) := by decide +kernel
theorem dS_askNext_1 : decode cS_askNext 1 = .ok (.istore_n 1, 1) := by decide +kernel
theorem dS_askNext_2 : decode cS_askNext 2 = .ok (.iload_n 1, 1) := by decide +kernel
theorem dS_askNext_3 : decode cS_askNext 3 = .ok (.ldc 198, 2) := by decide +kernel
theorem dS_askNext_5 : decode cS_askNext 5 = .ok (.if_icmp .ge 90, 3) := by decide +kernel
theorem dS_askNext_8 : decode cS_askNext 8 = .ok (.aload_n 0, 1) := by decide +kernel
theorem dS_askNext_9 : decode cS_askNext 9 = .ok (.getfield 41, 3) := by decide +kernel
theorem dS_askNext_12 : decode cS_askNext 12 = .ok (.aload_n 0, 1) := by decide +kernel
theorem dS_askNext_13 : decode cS_askNext 13 = .ok (.getfield 24, 3) := by decide +kernel
theorem dS_askNext_16 : decode cS_askNext 16 = .ok (.invokevirtual 199, 3) := by decide +kernel
theorem dS_askNext_19 : decode cS_askNext 19 = .ok (.ifCond .ne 9, 3) := by decide +kernel
theorem dS_askNext_22 : decode cS_askNext 22 = .ok (.aload_n 0, 1) := by decide +kernel
theorem dS_askNext_23 : decode cS_askNext 23 = .ok (.iconst 2, 1) := by decide +kernel
theorem dS_askNext_24 : decode cS_askNext 24 = .ok (.putfield 45, 3) := by decide +kernel
theorem dS_askNext_27 : decode cS_askNext 27 = .ok (.return_, 1) := by decide +kernel
theorem dS_askNext_28 : decode cS_askNext 28 = .ok (.aload_n 0, 1) := by decide +kernel
theorem dS_askNext_29 : decode cS_askNext 29 = .ok (.getfield 28, 3) := by decide +kernel
theorem dS_askNext_32 : decode cS_askNext 32 = .ok (.aload_n 0, 1) := by decide +kernel
theorem dS_askNext_33 : decode cS_askNext 33 = .ok (.getfield 24, 3) := by decide +kernel
theorem dS_askNext_36 : decode cS_askNext 36 = .ok (.invokevirtual 135, 3) := by decide +kernel
theorem dS_askNext_39 : decode cS_askNext 39 = .ok (.aload_n 0, 1) := by decide +kernel
theorem dS_askNext_40 : decode cS_askNext 40 = .ok (.getfield 41, 3) := by decide +kernel
theorem dS_askNext_43 : decode cS_askNext 43 = .ok (.aload_n 0, 1) := by decide +kernel
theorem dS_askNext_44 : decode cS_askNext 44 = .ok (.getfield 28, 3) := by decide +kernel
theorem dS_askNext_47 : decode cS_askNext 47 = .ok (.invokevirtual 189, 3) := by decide +kernel
theorem dS_askNext_50 : decode cS_askNext 50 = .ok (.aload_n 0, 1) := by decide +kernel
theorem dS_askNext_51 : decode cS_askNext 51 = .ok (.getfield 34, 3) := by decide +kernel
theorem dS_askNext_54 : decode cS_askNext 54 = .ok (.aload_n 0, 1) := by decide +kernel
theorem dS_askNext_55 : decode cS_askNext 55 = .ok (.getfield 28, 3) := by decide +kernel
theorem dS_askNext_58 : decode cS_askNext 58 = .ok (.invokevirtual 146, 3) := by decide +kernel
theorem dS_askNext_61 : decode cS_askNext 61 = .ok (.astore_n 2, 1) := by decide +kernel
theorem dS_askNext_62 : decode cS_askNext 62 = .ok (.aload_n 2, 1) := by decide +kernel
theorem dS_askNext_63 : decode cS_askNext 63 = .ok (.ifnonnull 8, 3) := by decide +kernel
theorem dS_askNext_66 : decode cS_askNext 66 = .ok (.aload_n 0, 1) := by decide +kernel
theorem dS_askNext_67 : decode cS_askNext 67 = .ok (.invokevirtual 203, 3) := by decide +kernel
theorem dS_askNext_70 : decode cS_askNext 70 = .ok (.return_, 1) := by decide +kernel
theorem dS_askNext_71 : decode cS_askNext 71 = .ok (.aload_n 0, 1) := by decide +kernel
theorem dS_askNext_72 : decode cS_askNext 72 = .ok (.dup, 1) := by decide +kernel
theorem dS_askNext_73 : decode cS_askNext 73 = .ok (.getfield 156, 3) := by decide +kernel
theorem dS_askNext_76 : decode cS_askNext 76 = .ok (.iconst 1, 1) := by decide +kernel
theorem dS_askNext_77 : decode cS_askNext 77 = .ok (.iadd, 1) := by decide +kernel
theorem dS_askNext_78 : decode cS_askNext 78 = .ok (.putfield 156, 3) := by decide +kernel
theorem dS_askNext_81 : decode cS_askNext 81 = .ok (.aload_n 0, 1) := by decide +kernel
theorem dS_askNext_82 : decode cS_askNext 82 = .ok (.aload_n 2, 1) := by decide +kernel
theorem dS_askNext_83 : decode cS_askNext 83 = .ok (.invokevirtual 150, 3) := by decide +kernel
theorem dS_askNext_86 : decode cS_askNext 86 = .ok (.invokevirtual 118, 3) := by decide +kernel
theorem dS_askNext_89 : decode cS_askNext 89 = .ok (.iinc 1 1, 3) := by decide +kernel
theorem dS_askNext_92 : decode cS_askNext 92 = .ok (.goto (-90), 3) := by decide +kernel
theorem dS_askNext_95 : decode cS_askNext 95 = .ok (.aload_n 0, 1) := by decide +kernel
theorem dS_askNext_96 : decode cS_askNext 96 = .ok (.iconst 2, 1) := by decide +kernel
theorem dS_askNext_97 : decode cS_askNext 97 = .ok (.putfield 45, 3) := by decide +kernel
theorem dS_askNext_100 : decode cS_askNext 100 = .ok (.return_, 1) := by decide +kernel
theorem dS_ask_0 : decode cS_ask 0 = .ok (.aload_n 0, 1) := by decide +kernel
theorem dS_ask_1 : decode cS_ask 1 = .ok (.getfield 34, 3) := by decide +kernel
theorem dS_ask_4 : decode cS_ask 4 = .ok (.invokevirtual 153, 3) := by decide +kernel
theorem dS_ask_7 : decode cS_ask 7 = .ok (.aload_n 0, 1) := by decide +kernel
theorem dS_ask_8 : decode cS_ask 8 = .ok (.getfield 17, 3) := by decide +kernel
theorem dS_ask_11 : decode cS_ask 11 = .ok (.if_icmp .lt 11, 3) := by decide +kernel
theorem dS_ask_14 : decode cS_ask 14 = .ok (.aload_n 0, 1) := by decide +kernel
theorem dS_ask_15 : decode cS_ask 15 = .ok (.iconst 3, 1) := by decide +kernel
theorem dS_ask_16 : decode cS_ask 16 = .ok (.putfield 45, 3) := by decide +kernel
theorem dS_ask_19 : decode cS_ask 19 = .ok (.goto 14, 3) := by decide +kernel
theorem dS_ask_22 : decode cS_ask 22 = .ok (.aload_n 0, 1) := by decide +kernel
theorem dS_ask_23 : decode cS_ask 23 = .ok (.getfield 34, 3) := by decide +kernel
theorem dS_ask_26 : decode cS_ask 26 = .ok (.aload_n 0, 1) := by decide +kernel
theorem dS_ask_27 : decode cS_ask 27 = .ok (.getfield 28, 3) := by decide +kernel
theorem dS_ask_30 : decode cS_ask 30 = .ok (.invokevirtual 78, 3) := by decide +kernel
theorem dS_ask_33 : decode cS_ask 33 = .ok (.return_, 1) := by decide +kernel
theorem dD_init_0 : decode cD_init 0 = .ok (.aload_n 0, 1) := by decide +kernel
theorem dD_init_1 : decode cD_init 1 = .ok (.invokespecial 1, 3) := by decide +kernel
theorem dD_init_4 : decode cD_init 4 = .ok (.aload_n 0, 1) := by decide +kernel
theorem dD_init_5 : decode cD_init 5 = .ok (.bipush 48, 2) := by decide +kernel
theorem dD_init_7 : decode cD_init 7 = .ok (.newarray .int, 2) := by decide +kernel
theorem dD_init_9 : decode cD_init 9 = .ok (.putfield 7, 3) := by decide +kernel
theorem dD_init_12 : decode cD_init 12 = .ok (.aload_n 0, 1) := by decide +kernel
theorem dD_init_13 : decode cD_init 13 = .ok (.bipush 48, 2) := by decide +kernel
theorem dD_init_15 : decode cD_init 15 = .ok (.newarray .int, 2) := by decide +kernel
theorem dD_init_17 : decode cD_init 17 = .ok (.putfield 13, 3) := by decide +kernel
theorem dD_init_20 : decode cD_init 20 = .ok (.aload_n 0, 1) := by decide +kernel
theorem dD_init_21 : decode cD_init 21 = .ok (.bipush 48, 2) := by decide +kernel
theorem dD_init_23 : decode cD_init 23 = .ok (.newarray .int, 2) := by decide +kernel
theorem dD_init_25 : decode cD_init 25 = .ok (.putfield 16, 3) := by decide +kernel
theorem dD_init_28 : decode cD_init 28 = .ok (.aload_n 0, 1) := by decide +kernel
theorem dD_init_29 : decode cD_init 29 = .ok (.iconst (-1), 1) := by decide +kernel
theorem dD_init_30 : decode cD_init 30 = .ok (.putfield 19, 3) := by decide +kernel
theorem dD_init_33 : decode cD_init 33 = .ok (.aload_n 0, 1) := by decide +kernel
theorem dD_init_34 : decode cD_init 34 = .ok (.sipush 600, 3) := by decide +kernel
theorem dD_init_37 : decode cD_init 37 = .ok (.newarray .int, 2) := by decide +kernel
theorem dD_init_39 : decode cD_init 39 = .ok (.putfield 23, 3) := by decide +kernel
theorem dD_init_42 : decode cD_init 42 = .ok (.aload_n 0, 1) := by decide +kernel
theorem dD_init_43 : decode cD_init 43 = .ok (.sipush 28800, 3) := by decide +kernel
theorem dD_init_46 : decode cD_init 46 = .ok (.newarray .int, 2) := by decide +kernel
theorem dD_init_48 : decode cD_init 48 = .ok (.putfield 26, 3) := by decide +kernel
theorem dD_init_51 : decode cD_init 51 = .ok (.aload_n 0, 1) := by decide +kernel
theorem dD_init_52 : decode cD_init 52 = .ok (.sipush 600, 3) := by decide +kernel
theorem dD_init_55 : decode cD_init 55 = .ok (.newarray .int, 2) := by decide +kernel
theorem dD_init_57 : decode cD_init 57 = .ok (.putfield 29, 3) := by decide +kernel
theorem dD_init_60 : decode cD_init 60 = .ok (.iload_n 1, 1) := by decide +kernel
theorem dD_init_61 : decode cD_init 61 = .ok (.sipush 600, 3) := by decide +kernel
theorem dD_init_64 : decode cD_init 64 = .ok (.irem, 1) := by decide +kernel
theorem dD_init_65 : decode cD_init 65 = .ok (.sipush 600, 3) := by decide +kernel
theorem dD_init_68 : decode cD_init 68 = .ok (.iadd, 1) := by decide +kernel
theorem dD_init_69 : decode cD_init 69 = .ok (.sipush 600, 3) := by decide +kernel
theorem dD_init_72 : decode cD_init 72 = .ok (.irem, 1) := by decide +kernel
theorem dD_init_73 : decode cD_init 73 = .ok (.istore_n 2, 1) := by decide +kernel
theorem dD_init_74 : decode cD_init 74 = .ok (.aload_n 0, 1) := by decide +kernel
theorem dD_init_75 : decode cD_init 75 = .ok (.iload_n 2, 1) := by decide +kernel
theorem dD_init_76 : decode cD_init 76 = .ok (.ifCond .ne 9, 3) := by decide +kernel
theorem dD_init_79 : decode cD_init 79 = .ok (.sipush 600, 3) := by decide +kernel
theorem dD_init_82 : decode cD_init 82 = .ok (.goto 4, 3) := by decide +kernel
theorem dD_init_85 : decode cD_init 85 = .ok (.iload_n 2, 1) := by decide +kernel
theorem dD_init_86 : decode cD_init 86 = .ok (.putfield 32, 3) := by decide +kernel
theorem dD_init_89 : decode cD_init 89 = .ok (.return_, 1) := by decide +kernel
theorem dD_thrown_0 : decode cD_thrown 0 = .ok (.aload_n 0, 1) := by decide +kernel
theorem dD_thrown_1 : decode cD_thrown 1 = .ok (.getfield 35, 3) := by decide +kernel
theorem dD_thrown_4 : decode cD_thrown 4 = .ok (.ireturn, 1) := by decide +kernel
theorem dD_fail_0 : decode cD_fail 0 = .ok (.aload_n 0, 1) := by decide +kernel
theorem dD_fail_1 : decode cD_fail 1 = .ok (.iload_n 1, 1) := by decide +kernel
theorem dD_fail_2 : decode cD_fail 2 = .ok (.putfield 35, 3) := by decide +kernel
theorem dD_fail_5 : decode cD_fail 5 = .ok (.iconst 0, 1) := by decide +kernel
theorem dD_fail_6 : decode cD_fail 6 = .ok (.ireturn, 1) := by decide +kernel
theorem dD_within_0 : decode cD_within 0 = .ok (.iload_n 0, 1) := by decide +kernel
theorem dD_within_1 : decode cD_within 1 = .ok (.iload_n 1, 1) := by decide +kernel
theorem dD_within_2 : decode cD_within 2 = .ok (.if_icmp .lt 12, 3) := by decide +kernel
theorem dD_within_5 : decode cD_within 5 = .ok (.iload_n 0, 1) := by decide +kernel
theorem dD_within_6 : decode cD_within 6 = .ok (.iload_n 2, 1) := by decide +kernel
theorem dD_within_7 : decode cD_within 7 = .ok (.if_icmp .gt 7, 3) := by decide +kernel
theorem dD_within_10 : decode cD_within 10 = .ok (.iconst 1, 1) := by decide +kernel
theorem dD_within_11 : decode cD_within 11 = .ok (.goto 4, 3) := by decide +kernel
theorem dD_within_14 : decode cD_within 14 = .ok (.iconst 0, 1) := by decide +kernel
theorem dD_within_15 : decode cD_within 15 = .ok (.ireturn, 1) := by decide +kernel
theorem dD_feed_0 : decode cD_feed 0 = .ok (.aload_n 0, 1) := by decide +kernel
theorem dD_feed_1 : decode cD_feed 1 = .ok (.iconst 0, 1) := by decide +kernel
theorem dD_feed_2 : decode cD_feed 2 = .ok (.putfield 35, 3) := by decide +kernel
theorem dD_feed_5 : decode cD_feed 5 = .ok (.aload_n 0, 1) := by decide +kernel
theorem dD_feed_6 : decode cD_feed 6 = .ok (.getfield 38, 3) := by decide +kernel
theorem dD_feed_9 : decode cD_feed 9 = .ok (.ifCond .ne 18, 3) := by decide +kernel
theorem dD_feed_12 : decode cD_feed 12 = .ok (.aload_n 0, 1) := by decide +kernel
theorem dD_feed_13 : decode cD_feed 13 = .ok (.getfield 41, 3) := by decide +kernel
theorem dD_feed_16 : decode cD_feed 16 = .ok (.bipush 48, 2) := by decide +kernel
theorem dD_feed_18 : decode cD_feed 18 = .ok (.if_icmp .ne 9, 3) := by decide +kernel
theorem dD_feed_21 : decode cD_feed 21 = .ok (.aload_n 0, 1) := by decide +kernel
theorem dD_feed_22 : decode cD_feed 22 = .ok (.iconst 1, 1) := by decide +kernel
theorem dD_feed_23 : decode cD_feed 23 = .ok (.invokevirtual 44, 3) := by decide +kernel
theorem dD_feed_26 : decode cD_feed 26 = .ok (.ireturn, 1) := by decide +kernel
theorem dD_feed_27 : decode cD_feed 27 = .ok (.aload_n 0, 1) := by decide +kernel
theorem dD_feed_28 : decode cD_feed 28 = .ok (.getfield 38, 3) := by decide +kernel
theorem dD_feed_31 : decode cD_feed 31 = .ok (.ifCond .eq 48, 3) := by decide +kernel
theorem dD_feed_34 : decode cD_feed 34 = .ok (.aload_n 0, 1) := by decide +kernel
theorem dD_feed_35 : decode cD_feed 35 = .ok (.iconst 0, 1) := by decide +kernel
theorem dD_feed_36 : decode cD_feed 36 = .ok (.putfield 38, 3) := by decide +kernel
theorem dD_feed_39 : decode cD_feed 39 = .ok (.aload_n 0, 1) := by decide +kernel
theorem dD_feed_40 : decode cD_feed 40 = .ok (.iconst 0, 1) := by decide +kernel
theorem dD_feed_41 : decode cD_feed 41 = .ok (.putfield 41, 3) := by decide +kernel
theorem dD_feed_44 : decode cD_feed 44 = .ok (.aload_n 0, 1) := by decide +kernel
theorem dD_feed_45 : decode cD_feed 45 = .ok (.iconst 0, 1) := by decide +kernel
theorem dD_feed_46 : decode cD_feed 46 = .ok (.putfield 48, 3) := by decide +kernel
theorem dD_feed_49 : decode cD_feed 49 = .ok (.aload_n 0, 1) := by decide +kernel
theorem dD_feed_50 : decode cD_feed 50 = .ok (.iconst 0, 1) := by decide +kernel
theorem dD_feed_51 : decode cD_feed 51 = .ok (.putfield 51, 3) := by decide +kernel
theorem dD_feed_54 : decode cD_feed 54 = .ok (.aload_n 0, 1) := by decide +kernel
theorem dD_feed_55 : decode cD_feed 55 = .ok (.iconst 0, 1) := by decide +kernel
theorem dD_feed_56 : decode cD_feed 56 = .ok (.putfield 54, 3) := by decide +kernel
theorem dD_feed_59 : decode cD_feed 59 = .ok (.aload_n 0, 1) := by decide +kernel
theorem dD_feed_60 : decode cD_feed 60 = .ok (.iconst 0, 1) := by decide +kernel
theorem dD_feed_61 : decode cD_feed 61 = .ok (.putfield 57, 3) := by decide +kernel
theorem dD_feed_64 : decode cD_feed 64 = .ok (.aload_n 0, 1) := by decide +kernel
theorem dD_feed_65 : decode cD_feed 65 = .ok (.iconst 0, 1) := by decide +kernel
theorem dD_feed_66 : decode cD_feed 66 = .ok (.putfield 60, 3) := by decide +kernel
theorem dD_feed_69 : decode cD_feed 69 = .ok (.aload_n 0, 1) := by decide +kernel
theorem dD_feed_70 : decode cD_feed 70 = .ok (.iconst 0, 1) := by decide +kernel
theorem dD_feed_71 : decode cD_feed 71 = .ok (.putfield 63, 3) := by decide +kernel
theorem dD_feed_74 : decode cD_feed 74 = .ok (.aload_n 0, 1) := by decide +kernel
theorem dD_feed_75 : decode cD_feed 75 = .ok (.iconst (-1), 1) := by decide +kernel
theorem dD_feed_76 : decode cD_feed 76 = .ok (.putfield 19, 3) := by decide +kernel
theorem dD_feed_79 : decode cD_feed 79 = .ok (.aload_n 0, 1) := by decide +kernel
theorem dD_feed_80 : decode cD_feed 80 = .ok (.getfield 7, 3) := by decide +kernel
theorem dD_feed_83 : decode cD_feed 83 = .ok (.aload_n 0, 1) := by decide +kernel
theorem dD_feed_84 : decode cD_feed 84 = .ok (.getfield 41, 3) := by decide +kernel
theorem dD_feed_87 : decode cD_feed 87 = .ok (.iload_n 1, 1) := by decide +kernel
theorem dD_feed_88 : decode cD_feed 88 = .ok (.iastore, 1) := by decide +kernel
theorem dD_feed_89 : decode cD_feed 89 = .ok (.aload_n 0, 1) := by decide +kernel
theorem dD_feed_90 : decode cD_feed 90 = .ok (.getfield 13, 3) := by decide +kernel
theorem dD_feed_93 : decode cD_feed 93 = .ok (.aload_n 0, 1) := by decide +kernel
theorem dD_feed_94 : decode cD_feed 94 = .ok (.getfield 41, 3) := by decide +kernel
theorem dD_feed_97 : decode cD_feed 97 = .ok (.aload_n 0, 1) := by decide +kernel
theorem dD_feed_98 : decode cD_feed 98 = .ok (.getfield 41, 3) := by decide +kernel
theorem dD_feed_101 : decode cD_feed 101 = .ok (.iastore, 1) := by decide +kernel
theorem dD_feed_102 : decode cD_feed 102 = .ok (.aload_n 0, 1) := by decide +kernel
theorem dD_feed_103 : decode cD_feed 103 = .ok (.dup, 1) := by decide +kernel
theorem dD_feed_104 : decode cD_feed 104 = .ok (.getfield 41, 3) := by decide +kernel
theorem dD_feed_107 : decode cD_feed 107 = .ok (.iconst 1, 1) := by decide +kernel
theorem dD_feed_108 : decode cD_feed 108 = .ok (.iadd, 1) := by decide +kernel
theorem dD_feed_109 : decode cD_feed 109 = .ok (.putfield 41, 3) := by decide +kernel
theorem dD_feed_112 : decode cD_feed 112 = .ok (.aload_n 0, 1) := by decide +kernel
theorem dD_feed_113 : decode cD_feed 113 = .ok (.getfield 41, 3) := by decide +kernel
theorem dD_feed_116 : decode cD_feed 116 = .ok (.ireturn, 1) := by decide +kernel
theorem dD_isAsked_0 : decode cD_isAsked 0 = .ok (.aload_n 0, 1) := by decide +kernel
theorem dD_isAsked_1 : decode cD_isAsked 1 = .ok (.getfield 23, 3) := by decide +kernel
theorem dD_isAsked_4 : decode cD_isAsked 4 = .ok (.iload_n 1, 1) := by decide +kernel
theorem dD_isAsked_5 : decode cD_isAsked 5 = .ok (.iaload, 1) := by decide +kernel
theorem dD_isAsked_6 : decode cD_isAsked 6 = .ok (.aload_n 0, 1) := by decide +kernel
theorem dD_isAsked_7 : decode cD_isAsked 7 = .ok (.getfield 66, 3) := by decide +kernel
theorem dD_isAsked_10 : decode cD_isAsked 10 = .ok (.if_icmp .eq 5, 3) := by decide +kernel
theorem dD_isAsked_13 : decode cD_isAsked 13 = .ok (.iconst 0, 1) := by decide +kernel
theorem dD_isAsked_14 : decode cD_isAsked 14 = .ok (.ireturn, 1) := by decide +kernel
theorem dD_isAsked_15 : decode cD_isAsked 15 = .ok (.iconst 0, 1) := by decide +kernel
theorem dD_isAsked_16 : decode cD_isAsked 16 = .ok (.istore_n 2, 1) := by decide +kernel
theorem dD_isAsked_17 : decode cD_isAsked 17 = .ok (.iload_n 2, 1) := by decide +kernel
theorem dD_isAsked_18 : decode cD_isAsked 18 = .ok (.aload_n 0, 1) := by decide +kernel
theorem dD_isAsked_19 : decode cD_isAsked 19 = .ok (.getfield 66, 3) := by decide +kernel
theorem dD_isAsked_22 : decode cD_isAsked 22 = .ok (.if_icmp .ge 31, 3) := by decide +kernel
theorem dD_isAsked_25 : decode cD_isAsked 25 = .ok (.aload_n 0, 1) := by decide +kernel
theorem dD_isAsked_26 : decode cD_isAsked 26 = .ok (.getfield 26, 3) := by decide +kernel
theorem dD_isAsked_29 : decode cD_isAsked 29 = .ok (.bipush 48, 2) := by decide +kernel
theorem dD_isAsked_31 : decode cD_isAsked 31 = .ok (.iload_n 1, 1) := by decide +kernel
theorem dD_isAsked_32 : decode cD_isAsked 32 = .ok (.imul, 1) := by decide +kernel
theorem dD_isAsked_33 : decode cD_isAsked 33 = .ok (.iload_n 2, 1) := by decide +kernel
theorem dD_isAsked_34 : decode cD_isAsked 34 = .ok (.iadd, 1) := by decide +kernel
theorem dD_isAsked_35 : decode cD_isAsked 35 = .ok (.iaload, 1) := by decide +kernel
theorem dD_isAsked_36 : decode cD_isAsked 36 = .ok (.aload_n 0, 1) := by decide +kernel
theorem dD_isAsked_37 : decode cD_isAsked 37 = .ok (.getfield 16, 3) := by decide +kernel
theorem dD_isAsked_40 : decode cD_isAsked 40 = .ok (.iload_n 2, 1) := by decide +kernel
theorem dD_isAsked_41 : decode cD_isAsked 41 = .ok (.iaload, 1) := by decide +kernel
theorem dD_isAsked_42 : decode cD_isAsked 42 = .ok (.if_icmp .eq 5, 3) := by decide +kernel
theorem dD_isAsked_45 : decode cD_isAsked 45 = .ok (.iconst 0, 1) := by decide +kernel
theorem dD_isAsked_46 : decode cD_isAsked 46 = .ok (.ireturn, 1) := by decide +kernel
theorem dD_isAsked_47 : decode cD_isAsked 47 = .ok (.iinc 2 1, 3) := by decide +kernel
theorem dD_isAsked_50 : decode cD_isAsked 50 = .ok (.goto (-33), 3) := by decide +kernel
theorem dD_isAsked_53 : decode cD_isAsked 53 = .ok (.iconst 1, 1) := by decide +kernel
theorem dD_isAsked_54 : decode cD_isAsked 54 = .ok (.ireturn, 1) := by decide +kernel
theorem dD_find_0 : decode cD_find 0 = .ok (.iconst 0, 1) := by decide +kernel
theorem dD_find_1 : decode cD_find 1 = .ok (.istore_n 1, 1) := by decide +kernel
theorem dD_find_2 : decode cD_find 2 = .ok (.iload_n 1, 1) := by decide +kernel
theorem dD_find_3 : decode cD_find 3 = .ok (.aload_n 0, 1) := by decide +kernel
theorem dD_find_4 : decode cD_find 4 = .ok (.getfield 48, 3) := by decide +kernel
theorem dD_find_7 : decode cD_find 7 = .ok (.if_icmp .ge 19, 3) := by decide +kernel
theorem dD_find_10 : decode cD_find 10 = .ok (.aload_n 0, 1) := by decide +kernel
theorem dD_find_11 : decode cD_find 11 = .ok (.iload_n 1, 1) := by decide +kernel
theorem dD_find_12 : decode cD_find 12 = .ok (.invokevirtual 69, 3) := by decide +kernel
theorem dD_find_15 : decode cD_find 15 = .ok (.ifCond .eq 5, 3) := by decide +kernel
theorem dD_find_18 : decode cD_find 18 = .ok (.iload_n 1, 1) := by decide +kernel
theorem dD_find_19 : decode cD_find 19 = .ok (.ireturn, 1) := by decide +kernel
theorem dD_find_20 : decode cD_find 20 = .ok (.iinc 1 1, 3) := by decide +kernel
theorem dD_find_23 : decode cD_find 23 = .ok (.goto (-21), 3) := by decide +kernel
theorem dD_find_26 : decode cD_find 26 = .ok (.iconst (-1), 1) := by decide +kernel
theorem dD_find_27 : decode cD_find 27 = .ok (.ireturn, 1) := by decide +kernel
