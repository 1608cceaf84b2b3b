theorem dX0_init_0 : decode cX0_init 0 = .ok (.aload_n 0, 1) := by decide +kernel
theorem dX0_init_1 : decode cX0_init 1 = .ok (.invokespecial 3, 3) := by decide +kernel
theorem dX0_init_4 : decode cX0_init 4 = .ok (.aload_n 0, 1) := by decide +kernel
theorem dX0_init_5 : decode cX0_init 5 = .ok (.iconst 3, 1) := by decide +kernel
theorem dX0_init_6 : decode cX0_init 6 = .ok (.newarray .int, 2) := by decide +kernel
theorem dX0_init_8 : decode cX0_init 8 = .ok (.dup, 1) := by decide +kernel
theorem dX0_init_9 : decode cX0_init 9 = .ok (.iconst 0, 1) := by decide +kernel
theorem dX0_init_10 : decode cX0_init 10 = .ok (.iconst (-1), 1) := by decide +kernel
theorem dX0_init_11 : decode cX0_init 11 = .ok (.iastore, 1) := by decide +kernel
theorem dX0_init_12 : decode cX0_init 12 = .ok (.dup, 1) := by decide +kernel
theorem dX0_init_13 : decode cX0_init 13 = .ok (.iconst 1, 1) := by decide +kernel
theorem dX0_init_14 : decode cX0_init 14 = .ok (.iconst (-1), 1) := by decide +kernel
theorem dX0_init_15 : decode cX0_init 15 = .ok (.iastore, 1) := by decide +kernel
theorem dX0_init_16 : decode cX0_init 16 = .ok (.dup, 1) := by decide +kernel
theorem dX0_init_17 : decode cX0_init 17 = .ok (.iconst 2, 1) := by decide +kernel
theorem dX0_init_18 : decode cX0_init 18 = .ok (.iconst (-1), 1) := by decide +kernel
theorem dX0_init_19 : decode cX0_init 19 = .ok (.iastore, 1) := by decide +kernel
theorem dX0_init_20 : decode cX0_init 20 = .ok (.putfield 9, 3) := by decide +kernel
theorem dX0_init_23 : decode cX0_init 23 = .ok (.aload_n 0, 1) := by decide +kernel
theorem dX0_init_24 : decode cX0_init 24 = .ok (.bipush 9, 2) := by decide +kernel
theorem dX0_init_26 : decode cX0_init 26 = .ok (.newarray .int, 2) := by decide +kernel
theorem dX0_init_28 : decode cX0_init 28 = .ok (.putfield 15, 3) := by decide +kernel
theorem dX0_init_31 : decode cX0_init 31 = .ok (.aload_n 0, 1) := by decide +kernel
theorem dX0_init_32 : decode cX0_init 32 = .ok (.bipush 9, 2) := by decide +kernel
theorem dX0_init_34 : decode cX0_init 34 = .ok (.newarray .int, 2) := by decide +kernel
theorem dX0_init_36 : decode cX0_init 36 = .ok (.putfield 18, 3) := by decide +kernel
theorem dX0_init_39 : decode cX0_init 39 = .ok (.aload_n 0, 1) := by decide +kernel
theorem dX0_init_40 : decode cX0_init 40 = .ok (.iconst (-1), 1) := by decide +kernel
theorem dX0_init_41 : decode cX0_init 41 = .ok (.putfield 21, 3) := by decide +kernel
theorem dX0_init_44 : decode cX0_init 44 = .ok (.aload_n 0, 1) := by decide +kernel
theorem dX0_init_45 : decode cX0_init 45 = .ok (.iconst (-1), 1) := by decide +kernel
theorem dX0_init_46 : decode cX0_init 46 = .ok (.putfield 25, 3) := by decide +kernel
theorem dX0_init_49 : decode cX0_init 49 = .ok (.return_, 1) := by decide +kernel
theorem dX0_isUnmixed_0 : decode cX0_isUnmixed 0 = .ok (.aload_n 0, 1) := by decide +kernel
theorem dX0_isUnmixed_1 : decode cX0_isUnmixed 1 = .ok (.getfield 25, 3) := by decide +kernel
theorem dX0_isUnmixed_4 : decode cX0_isUnmixed 4 = .ok (.iconst (-1), 1) := by decide +kernel
theorem dX0_isUnmixed_5 : decode cX0_isUnmixed 5 = .ok (.if_icmp .eq 7, 3) := by decide +kernel
theorem dX0_isUnmixed_8 : decode cX0_isUnmixed 8 = .ok (.iconst 1, 1) := by decide +kernel
theorem dX0_isUnmixed_9 : decode cX0_isUnmixed 9 = .ok (.goto 4, 3) := by decide +kernel
theorem dX0_isUnmixed_12 : decode cX0_isUnmixed 12 = .ok (.iconst 0, 1) := by decide +kernel
theorem dX0_isUnmixed_13 : decode cX0_isUnmixed 13 = .ok (.ireturn, 1) := by decide +kernel
theorem dX0_isBlank_0 : decode cX0_isBlank 0 = .ok (.aload_n 0, 1) := by decide +kernel
theorem dX0_isBlank_1 : decode cX0_isBlank 1 = .ok (.getfield 25, 3) := by decide +kernel
theorem dX0_isBlank_4 : decode cX0_isBlank 4 = .ok (.ifCond .ne 7, 3) := by decide +kernel
theorem dX0_isBlank_7 : decode cX0_isBlank 7 = .ok (.iconst 1, 1) := by decide +kernel
theorem dX0_isBlank_8 : decode cX0_isBlank 8 = .ok (.goto 4, 3) := by decide +kernel
theorem dX0_isBlank_11 : decode cX0_isBlank 11 = .ok (.iconst 0, 1) := by decide +kernel
theorem dX0_isBlank_12 : decode cX0_isBlank 12 = .ok (.ireturn, 1) := by decide +kernel
theorem dX0_measure_0 : decode cX0_measure 0 = .ok (.aload_n 0, 1) := by decide +kernel
theorem dX0_measure_1 : decode cX0_measure 1 = .ok (.iconst (-1), 1) := by decide +kernel
theorem dX0_measure_2 : decode cX0_measure 2 = .ok (.putfield 21, 3) := by decide +kernel
theorem dX0_measure_5 : decode cX0_measure 5 = .ok (.aload_n 0, 1) := by decide +kernel
theorem dX0_measure_6 : decode cX0_measure 6 = .ok (.iconst (-1), 1) := by decide +kernel
theorem dX0_measure_7 : decode cX0_measure 7 = .ok (.putfield 25, 3) := by decide +kernel
theorem dX0_measure_10 : decode cX0_measure 10 = .ok (.aload_n 0, 1) := by decide +kernel
theorem dX0_measure_11 : decode cX0_measure 11 = .ok (.invokevirtual 28, 3) := by decide +kernel
theorem dX0_measure_14 : decode cX0_measure 14 = .ok (.ifCond .ne 4, 3) := by decide +kernel
theorem dX0_measure_17 : decode cX0_measure 17 = .ok (.return_, 1) := by decide +kernel
theorem dX0_measure_18 : decode cX0_measure 18 = .ok (.iconst 0, 1) := by decide +kernel
theorem dX0_measure_19 : decode cX0_measure 19 = .ok (.istore_n 2, 1) := by decide +kernel
theorem dX0_measure_20 : decode cX0_measure 20 = .ok (.iconst 0, 1) := by decide +kernel
theorem dX0_measure_21 : decode cX0_measure 21 = .ok (.istore_n 3, 1) := by decide +kernel
theorem dX0_measure_22 : decode cX0_measure 22 = .ok (.iload_n 3, 1) := by decide +kernel
theorem dX0_measure_23 : decode cX0_measure 23 = .ok (.bipush 9, 2) := by decide +kernel
theorem dX0_measure_25 : decode cX0_measure 25 = .ok (.if_icmp .gt 53, 3) := by decide +kernel
theorem dX0_measure_28 : decode cX0_measure 28 = .ok (.iconst 0, 1) := by decide +kernel
theorem dX0_measure_29 : decode cX0_measure 29 = .ok (.istore 4, 2) := by decide +kernel
theorem dX0_measure_31 : decode cX0_measure 31 = .ok (.iload 4, 2) := by decide +kernel
theorem dX0_measure_33 : decode cX0_measure 33 = .ok (.bipush 9, 2) := by decide +kernel
theorem dX0_measure_35 : decode cX0_measure 35 = .ok (.if_icmp .gt 37, 3) := by decide +kernel
theorem dX0_measure_38 : decode cX0_measure 38 = .ok (.aload_n 0, 1) := by decide +kernel
theorem dX0_measure_39 : decode cX0_measure 39 = .ok (.aload_n 1, 1) := by decide +kernel
theorem dX0_measure_40 : decode cX0_measure 40 = .ok (.iload_n 3, 1) := by decide +kernel
theorem dX0_measure_41 : decode cX0_measure 41 = .ok (.iload 4, 2) := by decide +kernel
theorem dX0_measure_43 : decode cX0_measure 43 = .ok (.invokevirtual 32, 3) := by decide +kernel
theorem dX0_measure_46 : decode cX0_measure 46 = .ok (.ifCond .ne 6, 3) := by decide +kernel
theorem dX0_measure_49 : decode cX0_measure 49 = .ok (.goto 17, 3) := by decide +kernel
theorem dX0_measure_52 : decode cX0_measure 52 = .ok (.iinc 2 1, 3) := by decide +kernel
theorem dX0_measure_55 : decode cX0_measure 55 = .ok (.aload_n 0, 1) := by decide +kernel
theorem dX0_measure_56 : decode cX0_measure 56 = .ok (.iload_n 3, 1) := by decide +kernel
theorem dX0_measure_57 : decode cX0_measure 57 = .ok (.putfield 21, 3) := by decide +kernel
theorem dX0_measure_60 : decode cX0_measure 60 = .ok (.aload_n 0, 1) := by decide +kernel
theorem dX0_measure_61 : decode cX0_measure 61 = .ok (.iload 4, 2) := by decide +kernel
theorem dX0_measure_63 : decode cX0_measure 63 = .ok (.putfield 25, 3) := by decide +kernel
theorem dX0_measure_66 : decode cX0_measure 66 = .ok (.iinc 4 1, 3) := by decide +kernel
theorem dX0_measure_69 : decode cX0_measure 69 = .ok (.goto (-38), 3) := by decide +kernel
theorem dX0_measure_72 : decode cX0_measure 72 = .ok (.iinc 3 1, 3) := by decide +kernel
theorem dX0_measure_75 : decode cX0_measure 75 = .ok (.goto (-53), 3) := by decide +kernel
theorem dX0_measure_78 : decode cX0_measure 78 = .ok (.iload_n 2, 1) := by decide +kernel
theorem dX0_measure_79 : decode cX0_measure 79 = .ok (.iconst 1, 1) := by decide +kernel
theorem dX0_measure_80 : decode cX0_measure 80 = .ok (.if_icmp .eq 13, 3) := by decide +kernel
theorem dX0_measure_83 : decode cX0_measure 83 = .ok (.aload_n 0, 1) := by decide +kernel
theorem dX0_measure_84 : decode cX0_measure 84 = .ok (.iconst (-1), 1) := by decide +kernel
theorem dX0_measure_85 : decode cX0_measure 85 = .ok (.putfield 21, 3) := by decide +kernel
theorem dX0_measure_88 : decode cX0_measure 88 = .ok (.aload_n 0, 1) := by decide +kernel
theorem dX0_measure_89 : decode cX0_measure 89 = .ok (.iconst (-1), 1) := by decide +kernel
theorem dX0_measure_90 : decode cX0_measure 90 = .ok (.putfield 25, 3) := by decide +kernel
theorem dX0_measure_93 : decode cX0_measure 93 = .ok (.return_, 1) := by decide +kernel
theorem dX0_isImaged_0 : decode cX0_isImaged 0 = .ok (.aload_n 0, 1) := by decide +kernel
theorem dX0_isImaged_1 : decode cX0_isImaged 1 = .ok (.getfield 9, 3) := by decide +kernel
theorem dX0_isImaged_4 : decode cX0_isImaged 4 = .ok (.astore_n 1, 1) := by decide +kernel
theorem dX0_isImaged_5 : decode cX0_isImaged 5 = .ok (.aload_n 1, 1) := by decide +kernel
theorem dX0_isImaged_6 : decode cX0_isImaged 6 = .ok (.arraylength, 1) := by decide +kernel
theorem dX0_isImaged_7 : decode cX0_isImaged 7 = .ok (.istore_n 2, 1) := by decide +kernel
theorem dX0_isImaged_8 : decode cX0_isImaged 8 = .ok (.iconst 0, 1) := by decide +kernel
theorem dX0_isImaged_9 : decode cX0_isImaged 9 = .ok (.istore_n 3, 1) := by decide +kernel
theorem dX0_isImaged_10 : decode cX0_isImaged 10 = .ok (.iload_n 3, 1) := by decide +kernel
theorem dX0_isImaged_11 : decode cX0_isImaged 11 = .ok (.iload_n 2, 1) := by decide +kernel
theorem dX0_isImaged_12 : decode cX0_isImaged 12 = .ok (.if_icmp .ge 22, 3) := by decide +kernel
theorem dX0_isImaged_15 : decode cX0_isImaged 15 = .ok (.aload_n 1, 1) := by decide +kernel
theorem dX0_isImaged_16 : decode cX0_isImaged 16 = .ok (.iload_n 3, 1) := by decide +kernel
theorem dX0_isImaged_17 : decode cX0_isImaged 17 = .ok (.iaload, 1) := by decide +kernel
theorem dX0_isImaged_18 : decode cX0_isImaged 18 = .ok (.istore 4, 2) := by decide +kernel
theorem dX0_isImaged_20 : decode cX0_isImaged 20 = .ok (.iload 4, 2) := by decide +kernel
theorem dX0_isImaged_22 : decode cX0_isImaged 22 = .ok (.iconst (-1), 1) := by decide +kernel
theorem dX0_isImaged_23 : decode cX0_isImaged 23 = .ok (.if_icmp .eq 5, 3) := by decide +kernel
theorem dX0_isImaged_26 : decode cX0_isImaged 26 = .ok (.iconst 1, 1) := by decide +kernel
theorem dX0_isImaged_27 : decode cX0_isImaged 27 = .ok (.ireturn, 1) := by decide +kernel
theorem dX0_isImaged_28 : decode cX0_isImaged 28 = .ok (.iinc 3 1, 3) := by decide +kernel
theorem dX0_isImaged_31 : decode cX0_isImaged 31 = .ok (.goto (-21), 3) := by decide +kernel
theorem dX0_isImaged_34 : decode cX0_isImaged 34 = .ok (.iconst 0, 1) := by decide +kernel
theorem dX0_isImaged_35 : decode cX0_isImaged 35 = .ok (.ireturn, 1) := by decide +kernel
theorem dX0_comesOf_0 : decode cX0_comesOf 0 = .ok (.iconst 0, 1) := by decide +kernel
theorem dX0_comesOf_1 : decode cX0_comesOf 1 = .ok (.istore 4, 2) := by decide +kernel
theorem dX0_comesOf_3 : decode cX0_comesOf 3 = .ok (.iload 4, 2) := by decide +kernel
theorem dX0_comesOf_5 : decode cX0_comesOf 5 = .ok (.iconst 3, 1) := by decide +kernel
theorem dX0_comesOf_6 : decode cX0_comesOf 6 = .ok (.if_icmp .ge 51, 3) := by decide +kernel
theorem dX0_comesOf_9 : decode cX0_comesOf 9 = .ok (.aload_n 0, 1) := by decide +kernel
theorem dX0_comesOf_10 : decode cX0_comesOf 10 = .ok (.getfield 9, 3) := by decide +kernel
theorem dX0_comesOf_13 : decode cX0_comesOf 13 = .ok (.iload 4, 2) := by decide +kernel
theorem dX0_comesOf_15 : decode cX0_comesOf 15 = .ok (.iaload, 1) := by decide +kernel
theorem dX0_comesOf_16 : decode cX0_comesOf 16 = .ok (.iconst (-1), 1) := by decide +kernel
theorem dX0_comesOf_17 : decode cX0_comesOf 17 = .ok (.if_icmp .eq 34, 3) := by decide +kernel
theorem dX0_comesOf_20 : decode cX0_comesOf 20 = .ok (.aload_n 0, 1) := by decide +kernel
theorem dX0_comesOf_21 : decode cX0_comesOf 21 = .ok (.getfield 9, 3) := by decide +kernel
theorem dX0_comesOf_24 : decode cX0_comesOf 24 = .ok (.iload 4, 2) := by decide +kernel
theorem dX0_comesOf_26 : decode cX0_comesOf 26 = .ok (.iaload, 1) := by decide +kernel
theorem dX0_comesOf_27 : decode cX0_comesOf 27 = .ok (.aload_n 1, 1) := by decide +kernel
theorem dX0_comesOf_28 : decode cX0_comesOf 28 = .ok (.getfield 36, 3) := by decide +kernel
theorem dX0_comesOf_31 : decode cX0_comesOf 31 = .ok (.iload 4, 2) := by decide +kernel
theorem dX0_comesOf_33 : decode cX0_comesOf 33 = .ok (.iaload, 1) := by decide +kernel
theorem dX0_comesOf_34 : decode cX0_comesOf 34 = .ok (.iload_n 2, 1) := by decide +kernel
theorem dX0_comesOf_35 : decode cX0_comesOf 35 = .ok (.imul, 1) := by decide +kernel
theorem dX0_comesOf_36 : decode cX0_comesOf 36 = .ok (.aload_n 1, 1) := by decide +kernel
theorem dX0_comesOf_37 : decode cX0_comesOf 37 = .ok (.getfield 40, 3) := by decide +kernel
theorem dX0_comesOf_40 : decode cX0_comesOf 40 = .ok (.iload 4, 2) := by decide +kernel
theorem dX0_comesOf_42 : decode cX0_comesOf 42 = .ok (.iaload, 1) := by decide +kernel
theorem dX0_comesOf_43 : decode cX0_comesOf 43 = .ok (.iload_n 3, 1) := by decide +kernel
theorem dX0_comesOf_44 : decode cX0_comesOf 44 = .ok (.imul, 1) := by decide +kernel
theorem dX0_comesOf_45 : decode cX0_comesOf 45 = .ok (.iadd, 1) := by decide +kernel
theorem dX0_comesOf_46 : decode cX0_comesOf 46 = .ok (.if_icmp .eq 5, 3) := by decide +kernel
theorem dX0_comesOf_49 : decode cX0_comesOf 49 = .ok (.iconst 0, 1) := by decide +kernel
theorem dX0_comesOf_50 : decode cX0_comesOf 50 = .ok (.ireturn, 1) := by decide +kernel
theorem dX0_comesOf_51 : decode cX0_comesOf 51 = .ok (.iinc 4 1, 3) := by decide +kernel
theorem dX0_comesOf_54 : decode cX0_comesOf 54 = .ok (.goto (-51), 3) := by decide +kernel
theorem dX0_comesOf_57 : decode cX0_comesOf 57 = .ok (.iconst 1, 1) := by decide +kernel
theorem dX0_comesOf_58 : decode cX0_comesOf 58 = .ok (.ireturn, 1) := by decide +kernel
theorem dX0_slotFor_0 : decode cX0_slotFor 0 = .ok (.iconst (-1), 1) := by decide +kernel
theorem dX0_slotFor_1 : decode cX0_slotFor 1 = .ok (.istore_n 3, 1) := by decide +kernel
theorem dX0_slotFor_2 : decode cX0_slotFor 2 = .ok (.iconst 0, 1) := by decide +kernel
theorem dX0_slotFor_3 : decode cX0_slotFor 3 = .ok (.istore 4, 2) := by decide +kernel
theorem dX0_slotFor_5 : decode cX0_slotFor 5 = .ok (.iload 4, 2) := by decide +kernel
theorem dX0_slotFor_7 : decode cX0_slotFor 7 = .ok (.iconst 3, 1) := by decide +kernel
theorem dX0_slotFor_8 : decode cX0_slotFor 8 = .ok (.if_icmp .ge 47, 3) := by decide +kernel
theorem dX0_slotFor_11 : decode cX0_slotFor 11 = .ok (.iload_n 1, 1) := by decide +kernel
theorem dX0_slotFor_12 : decode cX0_slotFor 12 = .ok (.iconst 3, 1) := by decide +kernel
theorem dX0_slotFor_13 : decode cX0_slotFor 13 = .ok (.imul, 1) := by decide +kernel
theorem dX0_slotFor_14 : decode cX0_slotFor 14 = .ok (.iload 4, 2) := by decide +kernel
theorem dX0_slotFor_16 : decode cX0_slotFor 16 = .ok (.iadd, 1) := by decide +kernel
theorem dX0_slotFor_17 : decode cX0_slotFor 17 = .ok (.istore 5, 2) := by decide +kernel
theorem dX0_slotFor_19 : decode cX0_slotFor 19 = .ok (.aload_n 0, 1) := by decide +kernel
theorem dX0_slotFor_20 : decode cX0_slotFor 20 = .ok (.getfield 18, 3) := by decide +kernel
theorem dX0_slotFor_23 : decode cX0_slotFor 23 = .ok (.iload 5, 2) := by decide +kernel
theorem dX0_slotFor_25 : decode cX0_slotFor 25 = .ok (.iaload, 1) := by decide +kernel
theorem dX0_slotFor_26 : decode cX0_slotFor 26 = .ok (.ifCond .ne 9, 3) := by decide +kernel
theorem dX0_slotFor_29 : decode cX0_slotFor 29 = .ok (.iload 5, 2) := by decide +kernel
theorem dX0_slotFor_31 : decode cX0_slotFor 31 = .ok (.istore_n 3, 1) := by decide +kernel
theorem dX0_slotFor_32 : decode cX0_slotFor 32 = .ok (.goto 17, 3) := by decide +kernel
theorem dX0_slotFor_35 : decode cX0_slotFor 35 = .ok (.aload_n 0, 1) := by decide +kernel
theorem dX0_slotFor_36 : decode cX0_slotFor 36 = .ok (.getfield 15, 3) := by decide +kernel
theorem dX0_slotFor_39 : decode cX0_slotFor 39 = .ok (.iload 5, 2) := by decide +kernel
theorem dX0_slotFor_41 : decode cX0_slotFor 41 = .ok (.iaload, 1) := by decide +kernel
theorem dX0_slotFor_42 : decode cX0_slotFor 42 = .ok (.iload_n 2, 1) := by decide +kernel
theorem dX0_slotFor_43 : decode cX0_slotFor 43 = .ok (.if_icmp .ne 6, 3) := by decide +kernel
theorem dX0_slotFor_46 : decode cX0_slotFor 46 = .ok (.iload 5, 2) := by decide +kernel
theorem dX0_slotFor_48 : decode cX0_slotFor 48 = .ok (.ireturn, 1) := by decide +kernel
theorem dX0_slotFor_49 : decode cX0_slotFor 49 = .ok (.iinc 4 1, 3) := by decide +kernel
theorem dX0_slotFor_52 : decode cX0_slotFor 52 = .ok (.goto (-47), 3) := by decide +kernel
theorem dX0_slotFor_55 : decode cX0_slotFor 55 = .ok (.iload_n 3, 1) := by decide +kernel
theorem dX0_slotFor_56 : decode cX0_slotFor 56 = .ok (.ireturn, 1) := by decide +kernel
theorem dX0_put_0 : decode cX0_put 0 = .ok (.aload_n 0, 1) := by decide +kernel
theorem dX0_put_1 : decode cX0_put 1 = .ok (.getfield 15, 3) := by decide +kernel
theorem dX0_put_4 : decode cX0_put 4 = .ok (.iload_n 1, 1) := by decide +kernel
theorem dX0_put_5 : decode cX0_put 5 = .ok (.iload_n 2, 1) := by decide +kernel
theorem dX0_put_6 : decode cX0_put 6 = .ok (.iastore, 1) := by decide +kernel
theorem dX0_put_7 : decode cX0_put 7 = .ok (.aload_n 0, 1) := by decide +kernel
theorem dX0_put_8 : decode cX0_put 8 = .ok (.getfield 18, 3) := by decide +kernel
theorem dX0_put_11 : decode cX0_put 11 = .ok (.iload_n 1, 1) := by decide +kernel
theorem dX0_put_12 : decode cX0_put 12 = .ok (.iload_n 3, 1) := by decide +kernel
theorem dX0_put_13 : decode cX0_put 13 = .ok (.iastore, 1) := by decide +kernel
theorem dX0_put_14 : decode cX0_put 14 = .ok (.return_, 1) := by decide +kernel
theorem dX0_countOf_0 : decode cX0_countOf 0 = .ok (.iconst 0, 1) := by decide +kernel
theorem dX0_countOf_1 : decode cX0_countOf 1 = .ok (.istore_n 2, 1) := by decide +kernel
theorem dX0_countOf_2 : decode cX0_countOf 2 = .ok (.iconst 0, 1) := by decide +kernel
theorem dX0_countOf_3 : decode cX0_countOf 3 = .ok (.istore_n 3, 1) := by decide +kernel
theorem dX0_countOf_4 : decode cX0_countOf 4 = .ok (.iload_n 3, 1) := by decide +kernel
theorem dX0_countOf_5 : decode cX0_countOf 5 = .ok (.iconst 3, 1) := by decide +kernel
theorem dX0_countOf_6 : decode cX0_countOf 6 = .ok (.if_icmp .ge 25, 3) := by decide +kernel
theorem dX0_countOf_9 : decode cX0_countOf 9 = .ok (.aload_n 0, 1) := by decide +kernel
theorem dX0_countOf_10 : decode cX0_countOf 10 = .ok (.getfield 18, 3) := by decide +kernel
theorem dX0_countOf_13 : decode cX0_countOf 13 = .ok (.iload_n 1, 1) := by decide +kernel
theorem dX0_countOf_14 : decode cX0_countOf 14 = .ok (.iconst 3, 1) := by decide +kernel
theorem dX0_countOf_15 : decode cX0_countOf 15 = .ok (.imul, 1) := by decide +kernel
theorem dX0_countOf_16 : decode cX0_countOf 16 = .ok (.iload_n 3, 1) := by decide +kernel
theorem dX0_countOf_17 : decode cX0_countOf 17 = .ok (.iadd, 1) := by decide +kernel
theorem dX0_countOf_18 : decode cX0_countOf 18 = .ok (.iaload, 1) := by decide +kernel
theorem dX0_countOf_19 : decode cX0_countOf 19 = .ok (.ifCond .eq 6, 3) := by decide +kernel
theorem dX0_countOf_22 : decode cX0_countOf 22 = .ok (.iinc 2 1, 3) := by decide +kernel
theorem dX0_countOf_25 : decode cX0_countOf 25 = .ok (.iinc 3 1, 3) := by decide +kernel
theorem dX0_countOf_28 : decode cX0_countOf 28 = .ok (.goto (-24), 3) := by decide +kernel
theorem dX0_countOf_31 : decode cX0_countOf 31 = .ok (.iload_n 2, 1) := by decide +kernel
theorem dX0_countOf_32 : decode cX0_countOf 32 = .ok (.ireturn, 1) := by decide +kernel
theorem dX0_addTo_0 : decode cX0_addTo 0 = .ok (.iconst 0, 1) := by decide +kernel
theorem dX0_addTo_1 : decode cX0_addTo 1 = .ok (.istore 4, 2) := by decide +kernel
theorem dX0_addTo_3 : decode cX0_addTo 3 = .ok (.iload 4, 2) := by decide +kernel
theorem dX0_addTo_5 : decode cX0_addTo 5 = .ok (.iconst 3, 1) := by decide +kernel
theorem dX0_addTo_6 : decode cX0_addTo 6 = .ok (.if_icmp .ge 48, 3) := by decide +kernel
theorem dX0_addTo_9 : decode cX0_addTo 9 = .ok (.iload_n 3, 1) := by decide +kernel
theorem dX0_addTo_10 : decode cX0_addTo 10 = .ok (.iconst 3, 1) := by decide +kernel
theorem dX0_addTo_11 : decode cX0_addTo 11 = .ok (.imul, 1) := by decide +kernel
theorem dX0_addTo_12 : decode cX0_addTo 12 = .ok (.iload 4, 2) := by decide +kernel
theorem dX0_addTo_14 : decode cX0_addTo 14 = .ok (.iadd, 1) := by decide +kernel
theorem dX0_addTo_15 : decode cX0_addTo 15 = .ok (.istore 5, 2) := by decide +kernel
theorem dX0_addTo_17 : decode cX0_addTo 17 = .ok (.aload_n 0, 1) := by decide +kernel
theorem dX0_addTo_18 : decode cX0_addTo 18 = .ok (.getfield 18, 3) := by decide +kernel
theorem dX0_addTo_21 : decode cX0_addTo 21 = .ok (.iload 5, 2) := by decide +kernel
theorem dX0_addTo_23 : decode cX0_addTo 23 = .ok (.iaload, 1) := by decide +kernel
theorem dX0_addTo_24 : decode cX0_addTo 24 = .ok (.ifCond .eq 24, 3) := by decide +kernel
theorem dX0_addTo_27 : decode cX0_addTo 27 = .ok (.aload_n 1, 1) := by decide +kernel
theorem dX0_addTo_28 : decode cX0_addTo 28 = .ok (.iload_n 2, 1) := by decide +kernel
theorem dX0_addTo_29 : decode cX0_addTo 29 = .ok (.aload_n 0, 1) := by decide +kernel
theorem dX0_addTo_30 : decode cX0_addTo 30 = .ok (.getfield 15, 3) := by decide +kernel
theorem dX0_addTo_33 : decode cX0_addTo 33 = .ok (.iload 5, 2) := by decide +kernel
theorem dX0_addTo_35 : decode cX0_addTo 35 = .ok (.iaload, 1) := by decide +kernel
theorem dX0_addTo_36 : decode cX0_addTo 36 = .ok (.iadd, 1) := by decide +kernel
theorem dX0_addTo_37 : decode cX0_addTo 37 = .ok (.dup2, 1) := by decide +kernel
theorem dX0_addTo_38 : decode cX0_addTo 38 = .ok (.iaload, 1) := by decide +kernel
theorem dX0_addTo_39 : decode cX0_addTo 39 = .ok (.aload_n 0, 1) := by decide +kernel
theorem dX0_addTo_40 : decode cX0_addTo 40 = .ok (.getfield 18, 3) := by decide +kernel
theorem dX0_addTo_43 : decode cX0_addTo 43 = .ok (.iload 5, 2) := by decide +kernel
theorem dX0_addTo_45 : decode cX0_addTo 45 = .ok (.iaload, 1) := by decide +kernel
theorem dX0_addTo_46 : decode cX0_addTo 46 = .ok (.iadd, 1) := by decide +kernel
theorem dX0_addTo_47 : decode cX0_addTo 47 = .ok (.iastore, 1) := by decide +kernel
theorem dX0_addTo_48 : decode cX0_addTo 48 = .ok (.iinc 4 1, 3) := by decide +kernel
theorem dX0_addTo_51 : decode cX0_addTo 51 = .ok (.goto (-48), 3) := by decide +kernel
theorem dX0_addTo_54 : decode cX0_addTo 54 = .ok (.return_, 1) := by decide +kernel
theorem dX1_init_0 : decode cX1_init 0 = .ok (.aload_n 0, 1) := by decide +kernel
theorem dX1_init_1 : decode cX1_init 1 = .ok (.invokespecial 3, 3) := by decide +kernel
theorem dX1_init_4 : decode cX1_init 4 = .ok (.aload_n 0, 1) := by decide +kernel
theorem dX1_init_5 : decode cX1_init 5 = .ok (.iconst 1, 1) := by decide +kernel
theorem dX1_init_6 : decode cX1_init 6 = .ok (.putfield 9, 3) := by decide +kernel
theorem dX1_init_9 : decode cX1_init 9 = .ok (.aload_n 0, 1) := by decide +kernel
theorem dX1_init_10 : decode cX1_init 10 = .ok (.iload_n 1, 1) := by decide +kernel
theorem dX1_init_11 : decode cX1_init 11 = .ok (.putfield 15, 3) := by decide +kernel
theorem dX1_init_14 : decode cX1_init 14 = .ok (.aload_n 0, 1) := by decide +kernel
theorem dX1_init_15 : decode cX1_init 15 = .ok (.aload_n 2, 1) := by decide +kernel
theorem dX1_init_16 : decode cX1_init 16 = .ok (.putfield 19, 3) := by decide +kernel
theorem dX1_init_19 : decode cX1_init 19 = .ok (.aload_n 0, 1) := by decide +kernel
theorem dX1_init_20 : decode cX1_init 20 = .ok (.iload_n 3, 1) := by decide +kernel
theorem dX1_init_21 : decode cX1_init 21 = .ok (.putfield 23, 3) := by decide +kernel
theorem dX1_init_24 : decode cX1_init 24 = .ok (.aload_n 0, 1) := by decide +kernel
theorem dX1_init_25 : decode cX1_init 25 = .ok (.iload 4, 2) := by decide +kernel
theorem dX1_init_27 : decode cX1_init 27 = .ok (.putfield 26, 3) := by decide +kernel
theorem dX1_init_30 : decode cX1_init 30 = .ok (.aload_n 0, 1) := by decide +kernel
theorem dX1_init_31 : decode cX1_init 31 = .ok (.iload 5, 2) := by decide +kernel
theorem dX1_init_33 : decode cX1_init 33 = .ok (.putfield 29, 3) := by decide +kernel
theorem dX1_init_36 : decode cX1_init 36 = .ok (.aload_n 0, 1) := by decide +kernel
theorem dX1_init_37 : decode cX1_init 37 = .ok (.iload 6, 2) := by decide +kernel
theorem dX1_init_39 : decode cX1_init 39 = .ok (.putfield 32, 3) := by decide +kernel
theorem dX1_init_42 : decode cX1_init 42 = .ok (.return_, 1) := by decide +kernel
theorem dX1_isOf_0 : decode cX1_isOf 0 = .ok (.aload_n 0, 1) := by decide +kernel
theorem dX1_isOf_1 : decode cX1_isOf 1 = .ok (.getfield 26, 3) := by decide +kernel
theorem dX1_isOf_4 : decode cX1_isOf 4 = .ok (.iload_n 1, 1) := by decide +kernel
theorem dX1_isOf_5 : decode cX1_isOf 5 = .ok (.if_icmp .eq 19, 3) := by decide +kernel
theorem dX1_isOf_8 : decode cX1_isOf 8 = .ok (.aload_n 0, 1) := by decide +kernel
theorem dX1_isOf_9 : decode cX1_isOf 9 = .ok (.getfield 23, 3) := by decide +kernel
theorem dX1_isOf_12 : decode cX1_isOf 12 = .ok (.iconst 3, 1) := by decide +kernel
theorem dX1_isOf_13 : decode cX1_isOf 13 = .ok (.if_icmp .eq 15, 3) := by decide +kernel
theorem dX1_isOf_16 : decode cX1_isOf 16 = .ok (.aload_n 0, 1) := by decide +kernel
theorem dX1_isOf_17 : decode cX1_isOf 17 = .ok (.getfield 29, 3) := by decide +kernel
theorem dX1_isOf_20 : decode cX1_isOf 20 = .ok (.iload_n 1, 1) := by decide +kernel
theorem dX1_isOf_21 : decode cX1_isOf 21 = .ok (.if_icmp .ne 7, 3) := by decide +kernel
theorem dX1_isOf_24 : decode cX1_isOf 24 = .ok (.iconst 1, 1) := by decide +kernel
theorem dX1_isOf_25 : decode cX1_isOf 25 = .ok (.goto 4, 3) := by decide +kernel
theorem dX1_isOf_28 : decode cX1_isOf 28 = .ok (.iconst 0, 1) := by decide +kernel
theorem dX1_isOf_29 : decode cX1_isOf 29 = .ok (.ireturn, 1) := by decide +kernel
theorem dX2_init_0 : decode cX2_init 0 = .ok (.aload_n 0, 1) := by decide +kernel
theorem dX2_init_1 : decode cX2_init 1 = .ok (.invokespecial 3, 3) := by decide +kernel
theorem dX2_init_4 : decode cX2_init 4 = .ok (.aload_n 0, 1) := by decide +kernel
theorem dX2_init_5 : decode cX2_init 5 = .ok (.iconst (-1), 1) := by decide +kernel
theorem dX2_init_6 : decode cX2_init 6 = .ok (.putfield 9, 3) := by decide +kernel
theorem dX2_init_9 : decode cX2_init 9 = .ok (.aload_n 0, 1) := by decide +kernel
theorem dX2_init_10 : decode cX2_init 10 = .ok (.iconst 0, 1) := by decide +kernel
theorem dX2_init_11 : decode cX2_init 11 = .ok (.putfield 15, 3) := by decide +kernel
theorem dX2_init_14 : decode cX2_init 14 = .ok (.aload_n 0, 1) := by decide +kernel
theorem dX2_init_15 : decode cX2_init 15 = .ok (.iconst 0, 1) := by decide +kernel
theorem dX2_init_16 : decode cX2_init 16 = .ok (.putfield 18, 3) := by decide +kernel
theorem dX2_init_19 : decode cX2_init 19 = .ok (.aload_n 0, 1) := by decide +kernel
theorem dX2_init_20 : decode cX2_init 20 = .ok (.iconst 0, 1) := by decide +kernel
theorem dX2_init_21 : decode cX2_init 21 = .ok (.putfield 21, 3) := by decide +kernel
theorem dX2_init_24 : decode cX2_init 24 = .ok (.aload_n 0, 1) := by decide +kernel
theorem dX2_init_25 : decode cX2_init 25 = .ok (.iconst 0, 1) := by decide +kernel
theorem dX2_init_26 : decode cX2_init 26 = .ok (.putfield 24, 3) := by decide +kernel
theorem dX2_init_29 : decode cX2_init 29 = .ok (.aload_n 0, 1) := by decide +kernel
theorem dX2_init_30 : decode cX2_init 30 = .ok (.iconst 0, 1) := by decide +kernel
theorem dX2_init_31 : decode cX2_init 31 = .ok (.putfield 27, 3) := by decide +kernel
theorem dX2_init_34 : decode cX2_init 34 = .ok (.aload_n 0, 1) := by decide +kernel
theorem dX2_init_35 : decode cX2_init 35 = .ok (.iconst 0, 1) := by decide +kernel
theorem dX2_init_36 : decode cX2_init 36 = .ok (.putfield 30, 3) := by decide +kernel
theorem dX2_init_39 : decode cX2_init 39 = .ok (.aload_n 0, 1) := by decide +kernel
theorem dX2_init_40 : decode cX2_init 40 = .ok (.sipush 4095, 3) := by decide +kernel
theorem dX2_init_43 : decode cX2_init 43 = .ok (.putfield 33, 3) := by decide +kernel
theorem dX2_init_46 : decode cX2_init 46 = .ok (.aload_n 0, 1) := by decide +kernel
theorem dX2_init_47 : decode cX2_init 47 = .ok (.iload_n 1, 1) := by decide +kernel
theorem dX2_init_48 : decode cX2_init 48 = .ok (.putfield 36, 3) := by decide +kernel
theorem dX2_init_51 : decode cX2_init 51 = .ok (.aload_n 0, 1) := by decide +kernel
theorem dX2_init_52 : decode cX2_init 52 = .ok (.aload_n 2, 1) := by decide +kernel
theorem dX2_init_53 : decode cX2_init 53 = .ok (.putfield 39, 3) := by decide +kernel
theorem dX2_init_56 : decode cX2_init 56 = .ok (.aload_n 0, 1) := by decide +kernel
theorem dX2_init_57 : decode cX2_init 57 = .ok (.iload_n 3, 1) := by decide +kernel
theorem dX2_init_58 : decode cX2_init 58 = .ok (.putfield 43, 3) := by decide +kernel
theorem dX2_init_61 : decode cX2_init 61 = .ok (.aload_n 0, 1) := by decide +kernel
theorem dX2_init_62 : decode cX2_init 62 = .ok (.iload 4, 2) := by decide +kernel
theorem dX2_init_64 : decode cX2_init 64 = .ok (.putfield 46, 3) := by decide +kernel
theorem dX2_init_67 : decode cX2_init 67 = .ok (.aload_n 0, 1) := by decide +kernel
theorem dX2_init_68 : decode cX2_init 68 = .ok (.bipush 32, 2) := by decide +kernel
theorem dX2_init_70 : decode cX2_init 70 = .ok (.anewarray 49, 3) := by decide +kernel
theorem dX2_init_73 : decode cX2_init 73 = .ok (.putfield 51, 3) := by decide +kernel
theorem dX2_init_76 : decode cX2_init 76 = .ok (.iconst 0, 1) := by decide +kernel
theorem dX2_init_77 : decode cX2_init 77 = .ok (.istore 5, 2) := by decide +kernel
theorem dX2_init_79 : decode cX2_init 79 = .ok (.iload 5, 2) := by decide +kernel
theorem dX2_init_81 : decode cX2_init 81 = .ok (.iload_n 3, 1) := by decide +kernel
theorem dX2_init_82 : decode cX2_init 82 = .ok (.iload 4, 2) := by decide +kernel
theorem dX2_init_84 : decode cX2_init 84 = .ok (.imul, 1) := by decide +kernel
theorem dX2_init_85 : decode cX2_init 85 = .ok (.if_icmp .ge 33, 3) := by decide +kernel
theorem dX2_init_88 : decode cX2_init 88 = .ok (.iload 5, 2) := by decide +kernel
theorem dX2_init_90 : decode cX2_init 90 = .ok (.aload_n 0, 1) := by decide +kernel
theorem dX2_init_91 : decode cX2_init 91 = .ok (.getfield 51, 3) := by decide +kernel
theorem dX2_init_94 : decode cX2_init 94 = .ok (.arraylength, 1) := by decide +kernel
theorem dX2_init_95 : decode cX2_init 95 = .ok (.if_icmp .ge 23, 3) := by decide +kernel
theorem dX2_init_98 : decode cX2_init 98 = .ok (.aload_n 0, 1) := by decide +kernel
theorem dX2_init_99 : decode cX2_init 99 = .ok (.getfield 51, 3) := by decide +kernel
theorem dX2_init_102 : decode cX2_init 102 = .ok (.iload 5, 2) := by decide +kernel
theorem dX2_init_104 : decode cX2_init 104 = .ok (.new 49, 3) := by decide +kernel
theorem dX2_init_107 : decode cX2_init 107 = .ok (.dup, 1) := by decide +kernel
theorem dX2_init_108 : decode cX2_init 108 = .ok (.invokespecial 55, 3) := by decide +kernel
theorem dX2_init_111 : decode cX2_init 111 = .ok (.aastore, 1) := by decide +kernel
theorem dX2_init_112 : decode cX2_init 112 = .ok (.iinc 5 1, 3) := by decide +kernel
theorem dX2_init_115 : decode cX2_init 115 = .ok (.goto (-36), 3) := by decide +kernel
theorem dX2_init_118 : decode cX2_init 118 = .ok (.return_, 1) := by decide +kernel
theorem dX2_hasLine_0 : decode cX2_hasLine 0 = .ok (.iload_n 1, 1) := by decide +kernel
theorem dX2_hasLine_1 : decode cX2_hasLine 1 = .ok (.ifCond .lt 15, 3) := by decide +kernel
theorem dX2_hasLine_4 : decode cX2_hasLine 4 = .ok (.iload_n 1, 1) := by decide +kernel
theorem dX2_hasLine_5 : decode cX2_hasLine 5 = .ok (.aload_n 0, 1) := by decide +kernel
theorem dX2_hasLine_6 : decode cX2_hasLine 6 = .ok (.getfield 43, 3) := by decide +kernel
theorem dX2_hasLine_9 : decode cX2_hasLine 9 = .ok (.if_icmp .ge 7, 3) := by decide +kernel
theorem dX2_hasLine_12 : decode cX2_hasLine 12 = .ok (.iconst 1, 1) := by decide +kernel
theorem dX2_hasLine_13 : decode cX2_hasLine 13 = .ok (.goto 4, 3) := by decide +kernel
theorem dX2_hasLine_16 : decode cX2_hasLine 16 = .ok (.iconst 0, 1) := by decide +kernel
theorem dX2_hasLine_17 : decode cX2_hasLine 17 = .ok (.ireturn, 1) := by decide +kernel
theorem dX2_cellAt_0 : decode cX2_cellAt 0 = .ok (.aload_n 0, 1) := by decide +kernel
theorem dX2_cellAt_1 : decode cX2_cellAt 1 = .ok (.iload_n 1, 1) := by decide +kernel
theorem dX2_cellAt_2 : decode cX2_cellAt 2 = .ok (.invokevirtual 56, 3) := by decide +kernel
theorem dX2_cellAt_5 : decode cX2_cellAt 5 = .ok (.ifCond .eq 15, 3) := by decide +kernel
theorem dX2_cellAt_8 : decode cX2_cellAt 8 = .ok (.iload_n 2, 1) := by decide +kernel
theorem dX2_cellAt_9 : decode cX2_cellAt 9 = .ok (.ifCond .lt 11, 3) := by decide +kernel
theorem dX2_cellAt_12 : decode cX2_cellAt 12 = .ok (.iload_n 2, 1) := by decide +kernel
theorem dX2_cellAt_13 : decode cX2_cellAt 13 = .ok (.aload_n 0, 1) := by decide +kernel
theorem dX2_cellAt_14 : decode cX2_cellAt 14 = .ok (.getfield 46, 3) := by decide +kernel
theorem dX2_cellAt_17 : decode cX2_cellAt 17 = .ok (.if_icmp .lt 5, 3) := by decide +kernel
theorem dX2_cellAt_20 : decode cX2_cellAt 20 = .ok (.aconst_null, 1) := by decide +kernel
theorem dX2_cellAt_21 : decode cX2_cellAt 21 = .ok (.areturn, 1) := by decide +kernel
theorem dX2_cellAt_22 : decode cX2_cellAt 22 = .ok (.aload_n 0, 1) := by decide +kernel
theorem dX2_cellAt_23 : decode cX2_cellAt 23 = .ok (.getfield 51, 3) := by decide +kernel
theorem dX2_cellAt_26 : decode cX2_cellAt 26 = .ok (.iload_n 1, 1) := by decide +kernel
theorem dX2_cellAt_27 : decode cX2_cellAt 27 = .ok (.aload_n 0, 1) := by decide +kernel
theorem dX2_cellAt_28 : decode cX2_cellAt 28 = .ok (.getfield 46, 3) := by decide +kernel
theorem dX2_cellAt_31 : decode cX2_cellAt 31 = .ok (.imul, 1) := by decide +kernel
theorem dX2_cellAt_32 : decode cX2_cellAt 32 = .ok (.iload_n 2, 1) := by decide +kernel
theorem dX2_cellAt_33 : decode cX2_cellAt 33 = .ok (.iadd, 1) := by decide +kernel
theorem dX2_cellAt_34 : decode cX2_cellAt 34 = .ok (.aaload, 1) := by decide +kernel
theorem dX2_cellAt_35 : decode cX2_cellAt 35 = .ok (.areturn, 1) := by decide +kernel
theorem dX2_measureAll_0 : decode cX2_measureAll 0 = .ok (.aload_n 0, 1) := by decide +kernel
theorem dX2_measureAll_1 : decode cX2_measureAll 1 = .ok (.getfield 51, 3) := by decide +kernel
theorem dX2_measureAll_4 : decode cX2_measureAll 4 = .ok (.astore_n 2, 1) := by decide +kernel
theorem dX2_measureAll_5 : decode cX2_measureAll 5 = .ok (.aload_n 2, 1) := by decide +kernel
theorem dX2_measureAll_6 : decode cX2_measureAll 6 = .ok (.arraylength, 1) := by decide +kernel
theorem dX2_measureAll_7 : decode cX2_measureAll 7 = .ok (.istore_n 3, 1) := by decide +kernel
theorem dX2_measureAll_8 : decode cX2_measureAll 8 = .ok (.iconst 0, 1) := by decide +kernel
theorem dX2_measureAll_9 : decode cX2_measureAll 9 = .ok (.istore 4, 2) := by decide +kernel
theorem dX2_measureAll_11 : decode cX2_measureAll 11 = .ok (.iload 4, 2) := by decide +kernel
theorem dX2_measureAll_13 : decode cX2_measureAll 13 = .ok (.iload_n 3, 1) := by decide +kernel
theorem dX2_measureAll_14 : decode cX2_measureAll 14 = .ok (.if_icmp .ge 26, 3) := by decide +kernel
theorem dX2_measureAll_17 : decode cX2_measureAll 17 = .ok (.aload_n 2, 1) := by decide +kernel
theorem dX2_measureAll_18 : decode cX2_measureAll 18 = .ok (.iload 4, 2) := by decide +kernel
theorem dX2_measureAll_20 : decode cX2_measureAll 20 = .ok (.aaload, 1) := by decide +kernel
theorem dX2_measureAll_21 : decode cX2_measureAll 21 = .ok (.astore 5, 2) := by decide +kernel
theorem dX2_measureAll_23 : decode cX2_measureAll 23 = .ok (.aload 5, 2) := by decide +kernel
theorem dX2_measureAll_25 : decode cX2_measureAll 25 = .ok (.ifnull 9, 3) := by decide +kernel
theorem dX2_measureAll_28 : decode cX2_measureAll 28 = .ok (.aload 5, 2) := by decide +kernel
theorem dX2_measureAll_30 : decode cX2_measureAll 30 = .ok (.aload_n 1, 1) := by decide +kernel
theorem dX2_measureAll_31 : decode cX2_measureAll 31 = .ok (.invokevirtual 60, 3) := by decide +kernel
theorem dX2_measureAll_34 : decode cX2_measureAll 34 = .ok (.iinc 4 1, 3) := by decide +kernel
theorem dX2_measureAll_37 : decode cX2_measureAll 37 = .ok (.goto (-26), 3) := by decide +kernel
theorem dX2_measureAll_40 : decode cX2_measureAll 40 = .ok (.return_, 1) := by decide +kernel
theorem dX2_mixedCells_0 : decode cX2_mixedCells 0 = .ok (.iconst 0, 1) := by decide +kernel
theorem dX2_mixedCells_1 : decode cX2_mixedCells 1 = .ok (.istore_n 1, 1) := by decide +kernel
theorem dX2_mixedCells_2 : decode cX2_mixedCells 2 = .ok (.aload_n 0, 1) := by decide +kernel
theorem dX2_mixedCells_3 : decode cX2_mixedCells 3 = .ok (.getfield 51, 3) := by decide +kernel
theorem dX2_mixedCells_6 : decode cX2_mixedCells 6 = .ok (.astore_n 2, 1) := by decide +kernel
theorem dX2_mixedCells_7 : decode cX2_mixedCells 7 = .ok (.aload_n 2, 1) := by decide +kernel
theorem dX2_mixedCells_8 : decode cX2_mixedCells 8 = .ok (.arraylength, 1) := by decide +kernel
theorem dX2_mixedCells_9 : decode cX2_mixedCells 9 = .ok (.istore_n 3, 1) := by decide +kernel
theorem dX2_mixedCells_10 : decode cX2_mixedCells 10 = .ok (.iconst 0, 1) := by decide +kernel
theorem dX2_mixedCells_11 : decode cX2_mixedCells 11 = .ok (.istore 4, 2) := by decide +kernel
theorem dX2_mixedCells_13 : decode cX2_mixedCells 13 = .ok (.iload 4, 2) := by decide +kernel
theorem dX2_mixedCells_15 : decode cX2_mixedCells 15 = .ok (.iload_n 3, 1) := by decide +kernel
theorem dX2_mixedCells_16 : decode cX2_mixedCells 16 = .ok (.if_icmp .ge 31, 3) := by decide +kernel
theorem dX2_mixedCells_19 : decode cX2_mixedCells 19 = .ok (.aload_n 2, 1) := by decide +kernel
theorem dX2_mixedCells_20 : decode cX2_mixedCells 20 = .ok (.iload 4, 2) := by decide +kernel
theorem dX2_mixedCells_22 : decode cX2_mixedCells 22 = .ok (.aaload, 1) := by decide +kernel
theorem dX2_mixedCells_23 : decode cX2_mixedCells 23 = .ok (.astore 5, 2) := by decide +kernel
theorem dX2_mixedCells_25 : decode cX2_mixedCells 25 = .ok (.aload 5, 2) := by decide +kernel
theorem dX2_mixedCells_27 : decode cX2_mixedCells 27 = .ok (.ifnull 14, 3) := by decide +kernel
theorem dX2_mixedCells_30 : decode cX2_mixedCells 30 = .ok (.aload 5, 2) := by decide +kernel
theorem dX2_mixedCells_32 : decode cX2_mixedCells 32 = .ok (.invokevirtual 64, 3) := by decide +kernel
theorem dX2_mixedCells_35 : decode cX2_mixedCells 35 = .ok (.ifCond .ne 6, 3) := by decide +kernel
theorem dX2_mixedCells_38 : decode cX2_mixedCells 38 = .ok (.iinc 1 1, 3) := by decide +kernel
theorem dX2_mixedCells_41 : decode cX2_mixedCells 41 = .ok (.iinc 4 1, 3) := by decide +kernel
theorem dX2_mixedCells_44 : decode cX2_mixedCells 44 = .ok (.goto (-31), 3) := by decide +kernel
theorem dX2_mixedCells_47 : decode cX2_mixedCells 47 = .ok (.iload_n 1, 1) := by decide +kernel
theorem dX2_mixedCells_48 : decode cX2_mixedCells 48 = .ok (.ireturn, 1) := by decide +kernel
theorem dX2_isAlike_0 : decode cX2_isAlike 0 = .ok (.aload_n 0, 1) := by decide +kernel
theorem dX2_isAlike_1 : decode cX2_isAlike 1 = .ok (.getfield 18, 3) := by decide +kernel
theorem dX2_isAlike_4 : decode cX2_isAlike 4 = .ok (.aload_n 1, 1) := by decide +kernel
theorem dX2_isAlike_5 : decode cX2_isAlike 5 = .ok (.getfield 18, 3) := by decide +kernel
theorem dX2_isAlike_8 : decode cX2_isAlike 8 = .ok (.isub, 1) := by decide +kernel
theorem dX2_isAlike_9 : decode cX2_isAlike 9 = .ok (.invokestatic 68, 3) := by decide +kernel
theorem dX2_isAlike_12 : decode cX2_isAlike 12 = .ok (.aload_n 0, 1) := by decide +kernel
theorem dX2_isAlike_13 : decode cX2_isAlike 13 = .ok (.getfield 21, 3) := by decide +kernel
theorem dX2_isAlike_16 : decode cX2_isAlike 16 = .ok (.aload_n 1, 1) := by decide +kernel
theorem dX2_isAlike_17 : decode cX2_isAlike 17 = .ok (.getfield 21, 3) := by decide +kernel
theorem dX2_isAlike_20 : decode cX2_isAlike 20 = .ok (.isub, 1) := by decide +kernel
theorem dX2_isAlike_21 : decode cX2_isAlike 21 = .ok (.invokestatic 68, 3) := by decide +kernel
theorem dX2_isAlike_24 : decode cX2_isAlike 24 = .ok (.iadd, 1) := by decide +kernel
theorem dX2_isAlike_25 : decode cX2_isAlike 25 = .ok (.aload_n 0, 1) := by decide +kernel
theorem dX2_isAlike_26 : decode cX2_isAlike 26 = .ok (.getfield 24, 3) := by decide +kernel
theorem dX2_isAlike_29 : decode cX2_isAlike 29 = .ok (.aload_n 1, 1) := by decide +kernel
theorem dX2_isAlike_30 : decode cX2_isAlike 30 = .ok (.getfield 24, 3) := by decide +kernel
theorem dX2_isAlike_33 : decode cX2_isAlike 33 = .ok (.isub, 1) := by decide +kernel
theorem dX2_isAlike_34 : decode cX2_isAlike 34 = .ok (.invokestatic 68, 3) := by decide +kernel
theorem dX2_isAlike_37 : decode cX2_isAlike 37 = .ok (.iadd, 1) := by decide +kernel
theorem dX2_isAlike_38 : decode cX2_isAlike 38 = .ok (.istore_n 2, 1) := by decide +kernel
theorem dX2_isAlike_39 : decode cX2_isAlike 39 = .ok (.iload_n 2, 1) := by decide +kernel
theorem dX2_isAlike_40 : decode cX2_isAlike 40 = .ok (.bipush 6, 2) := by decide +kernel
theorem dX2_isAlike_42 : decode cX2_isAlike 42 = .ok (.iconst 2, 1) := by decide +kernel
theorem dX2_isAlike_43 : decode cX2_isAlike 43 = .ok (.aload_n 0, 1) := by decide +kernel
theorem dX2_isAlike_44 : decode cX2_isAlike 44 = .ok (.getfield 27, 3) := by decide +kernel
theorem dX2_isAlike_47 : decode cX2_isAlike 47 = .ok (.imul, 1) := by decide +kernel
theorem dX2_isAlike_48 : decode cX2_isAlike 48 = .ok (.iadd, 1) := by decide +kernel
theorem dX2_isAlike_49 : decode cX2_isAlike 49 = .ok (.iconst 2, 1) := by decide +kernel
theorem dX2_isAlike_50 : decode cX2_isAlike 50 = .ok (.aload_n 1, 1) := by decide +kernel
theorem dX2_isAlike_51 : decode cX2_isAlike 51 = .ok (.getfield 27, 3) := by decide +kernel
theorem dX2_isAlike_54 : decode cX2_isAlike 54 = .ok (.imul, 1) := by decide +kernel
theorem dX2_isAlike_55 : decode cX2_isAlike 55 = .ok (.iadd, 1) := by decide +kernel
theorem dX2_isAlike_56 : decode cX2_isAlike 56 = .ok (.if_icmp .gt 7, 3) := by decide +kernel
theorem dX2_isAlike_59 : decode cX2_isAlike 59 = .ok (.iconst 1, 1) := by decide +kernel
theorem dX2_isAlike_60 : decode cX2_isAlike 60 = .ok (.goto 4, 3) := by decide +kernel
theorem dX2_isAlike_63 : decode cX2_isAlike 63 = .ok (.iconst 0, 1) := by decide +kernel
theorem dX2_isAlike_64 : decode cX2_isAlike 64 = .ok (.ireturn, 1) := by decide +kernel
theorem dX2_isUnlikeFront_0 : decode cX2_isUnlikeFront 0 = .ok (.aload_n 0, 1) := by decide +kernel
theorem dX2_isUnlikeFront_1 : decode cX2_isUnlikeFront 1 = .ok (.getfield 9, 3) := by decide +kernel
theorem dX2_isUnlikeFront_4 : decode cX2_isUnlikeFront 4 = .ok (.iconst (-1), 1) := by decide +kernel
theorem dX2_isUnlikeFront_5 : decode cX2_isUnlikeFront 5 = .ok (.if_icmp .eq 22, 3) := by decide +kernel
theorem dX2_isUnlikeFront_8 : decode cX2_isUnlikeFront 8 = .ok (.aload_n 1, 1) := by decide +kernel
theorem dX2_isUnlikeFront_9 : decode cX2_isUnlikeFront 9 = .ok (.getfield 9, 3) := by decide +kernel
theorem dX2_isUnlikeFront_12 : decode cX2_isUnlikeFront 12 = .ok (.iconst (-1), 1) := by decide +kernel
theorem dX2_isUnlikeFront_13 : decode cX2_isUnlikeFront 13 = .ok (.if_icmp .eq 14, 3) := by decide +kernel
theorem dX2_isUnlikeFront_16 : decode cX2_isUnlikeFront 16 = .ok (.aload_n 0, 1) := by decide +kernel
theorem dX2_isUnlikeFront_17 : decode cX2_isUnlikeFront 17 = .ok (.getfield 9, 3) := by decide +kernel
theorem dX2_isUnlikeFront_20 : decode cX2_isUnlikeFront 20 = .ok (.aload_n 1, 1) := by decide +kernel
theorem dX2_isUnlikeFront_21 : decode cX2_isUnlikeFront 21 = .ok (.getfield 9, 3) := by decide +kernel
theorem dX2_isUnlikeFront_24 : decode cX2_isUnlikeFront 24 = .ok (.if_icmp .eq 7, 3) := by decide +kernel
theorem dX2_isUnlikeFront_27 : decode cX2_isUnlikeFront 27 = .ok (.iconst 1, 1) := by decide +kernel
theorem dX2_isUnlikeFront_28 : decode cX2_isUnlikeFront 28 = .ok (.goto 4, 3) := by decide +kernel
theorem dX2_isUnlikeFront_31 : decode cX2_isUnlikeFront 31 = .ok (.iconst 0, 1) := by decide +kernel
theorem dX2_isUnlikeFront_32 : decode cX2_isUnlikeFront 32 = .ok (.ireturn, 1) := by decide +kernel
theorem dX3_init_0 : decode cX3_init 0 = .ok (.aload_n 0, 1) := by decide +kernel
theorem dX3_init_1 : decode cX3_init 1 = .ok (.invokespecial 1, 3) := by decide +kernel
theorem dX3_init_4 : decode cX3_init 4 = .ok (.aload_n 0, 1) := by decide +kernel
theorem dX3_init_5 : decode cX3_init 5 = .ok (.iconst 3, 1) := by decide +kernel
theorem dX3_init_6 : decode cX3_init 6 = .ok (.newarray .int, 2) := by decide +kernel
theorem dX3_init_8 : decode cX3_init 8 = .ok (.dup, 1) := by decide +kernel
theorem dX3_init_9 : decode cX3_init 9 = .ok (.iconst 0, 1) := by decide +kernel
theorem dX3_init_10 : decode cX3_init 10 = .ok (.iconst 1, 1) := by decide +kernel
theorem dX3_init_11 : decode cX3_init 11 = .ok (.iastore, 1) := by decide +kernel
theorem dX3_init_12 : decode cX3_init 12 = .ok (.dup, 1) := by decide +kernel
theorem dX3_init_13 : decode cX3_init 13 = .ok (.iconst 1, 1) := by decide +kernel
theorem dX3_init_14 : decode cX3_init 14 = .ok (.iconst 1, 1) := by decide +kernel
theorem dX3_init_15 : decode cX3_init 15 = .ok (.iastore, 1) := by decide +kernel
theorem dX3_init_16 : decode cX3_init 16 = .ok (.dup, 1) := by decide +kernel
theorem dX3_init_17 : decode cX3_init 17 = .ok (.iconst 2, 1) := by decide +kernel
theorem dX3_init_18 : decode cX3_init 18 = .ok (.iconst 1, 1) := by decide +kernel
theorem dX3_init_19 : decode cX3_init 19 = .ok (.iastore, 1) := by decide +kernel
theorem dX3_init_20 : decode cX3_init 20 = .ok (.putfield 7, 3) := by decide +kernel
theorem dX3_init_23 : decode cX3_init 23 = .ok (.aload_n 0, 1) := by decide +kernel
theorem dX3_init_24 : decode cX3_init 24 = .ok (.iconst 3, 1) := by decide +kernel
theorem dX3_init_25 : decode cX3_init 25 = .ok (.newarray .int, 2) := by decide +kernel
theorem dX3_init_27 : decode cX3_init 27 = .ok (.dup, 1) := by decide +kernel
theorem dX3_init_28 : decode cX3_init 28 = .ok (.iconst 0, 1) := by decide +kernel
theorem dX3_init_29 : decode cX3_init 29 = .ok (.iconst 1, 1) := by decide +kernel
theorem dX3_init_30 : decode cX3_init 30 = .ok (.iastore, 1) := by decide +kernel
theorem dX3_init_31 : decode cX3_init 31 = .ok (.dup, 1) := by decide +kernel
theorem dX3_init_32 : decode cX3_init 32 = .ok (.iconst 1, 1) := by decide +kernel
theorem dX3_init_33 : decode cX3_init 33 = .ok (.iconst 1, 1) := by decide +kernel
theorem dX3_init_34 : decode cX3_init 34 = .ok (.iastore, 1) := by decide +kernel
theorem dX3_init_35 : decode cX3_init 35 = .ok (.dup, 1) := by decide +kernel
theorem dX3_init_36 : decode cX3_init 36 = .ok (.iconst 2, 1) := by decide +kernel
theorem dX3_init_37 : decode cX3_init 37 = .ok (.iconst 1, 1) := by decide +kernel
theorem dX3_init_38 : decode cX3_init 38 = .ok (.iastore, 1) := by decide +kernel
theorem dX3_init_39 : decode cX3_init 39 = .ok (.putfield 13, 3) := by decide +kernel
theorem dX3_init_42 : decode cX3_init 42 = .ok (.return_, 1) := by decide +kernel
theorem dX4_init_0 : decode cX4_init 0 = .ok (.aload_n 0, 1) := by decide +kernel
theorem dX4_init_1 : decode cX4_init 1 = .ok (.invokespecial 3, 3) := by decide +kernel
theorem dX4_init_4 : decode cX4_init 4 = .ok (.aload_n 0, 1) := by decide +kernel
theorem dX4_init_5 : decode cX4_init 5 = .ok (.iconst 0, 1) := by decide +kernel
theorem dX4_init_6 : decode cX4_init 6 = .ok (.putfield 9, 3) := by decide +kernel
theorem dX4_init_9 : decode cX4_init 9 = .ok (.aload_n 0, 1) := by decide +kernel
theorem dX4_init_10 : decode cX4_init 10 = .ok (.iconst 0, 1) := by decide +kernel
theorem dX4_init_11 : decode cX4_init 11 = .ok (.putfield 15, 3) := by decide +kernel
theorem dX4_init_14 : decode cX4_init 14 = .ok (.aload_n 0, 1) := by decide +kernel
theorem dX4_init_15 : decode cX4_init 15 = .ok (.bipush 41, 2) := by decide +kernel
theorem dX4_init_17 : decode cX4_init 17 = .ok (.newarray .int, 2) := by decide +kernel
theorem dX4_init_19 : decode cX4_init 19 = .ok (.putfield 18, 3) := by decide +kernel
theorem dX4_init_22 : decode cX4_init 22 = .ok (.return_, 1) := by decide +kernel
theorem dX4_align_0 : decode cX4_align 0 = .ok (.aload_n 0, 1) := by decide +kernel
theorem dX4_align_1 : decode cX4_align 1 = .ok (.getfield 18, 3) := by decide +kernel
theorem dX4_align_4 : decode cX4_align 4 = .ok (.iconst 0, 1) := by decide +kernel
theorem dX4_align_5 : decode cX4_align 5 = .ok (.invokestatic 22, 3) := by decide +kernel
theorem dX4_align_8 : decode cX4_align 8 = .ok (.iconst 0, 1) := by decide +kernel
theorem dX4_align_9 : decode cX4_align 9 = .ok (.istore_n 3, 1) := by decide +kernel
theorem dX4_align_10 : decode cX4_align 10 = .ok (.iload_n 3, 1) := by decide +kernel
theorem dX4_align_11 : decode cX4_align 11 = .ok (.aload_n 1, 1) := by decide +kernel
theorem dX4_align_12 : decode cX4_align 12 = .ok (.getfield 28, 3) := by decide +kernel
theorem dX4_align_15 : decode cX4_align 15 = .ok (.if_icmp .ge 29, 3) := by decide +kernel
theorem dX4_align_18 : decode cX4_align 18 = .ok (.aload_n 1, 1) := by decide +kernel
theorem dX4_align_19 : decode cX4_align 19 = .ok (.iload_n 3, 1) := by decide +kernel
theorem dX4_align_20 : decode cX4_align 20 = .ok (.invokevirtual 33, 3) := by decide +kernel
theorem dX4_align_23 : decode cX4_align 23 = .ok (.istore 4, 2) := by decide +kernel
theorem dX4_align_25 : decode cX4_align 25 = .ok (.iload 4, 2) := by decide +kernel
theorem dX4_align_27 : decode cX4_align 27 = .ok (.iconst (-1), 1) := by decide +kernel
theorem dX4_align_28 : decode cX4_align 28 = .ok (.if_icmp .eq 10, 3) := by decide +kernel
theorem dX4_align_31 : decode cX4_align 31 = .ok (.aload_n 0, 1) := by decide +kernel
theorem dX4_align_32 : decode cX4_align 32 = .ok (.iload 4, 2) := by decide +kernel
theorem dX4_align_34 : decode cX4_align 34 = .ok (.aload_n 2, 1) := by decide +kernel
theorem dX4_align_35 : decode cX4_align 35 = .ok (.invokevirtual 37, 3) := by decide +kernel
theorem dX4_align_38 : decode cX4_align 38 = .ok (.iinc 3 1, 3) := by decide +kernel
theorem dX4_align_41 : decode cX4_align 41 = .ok (.goto (-31), 3) := by decide +kernel
theorem dX4_align_44 : decode cX4_align 44 = .ok (.aload_n 0, 1) := by decide +kernel
theorem dX4_align_45 : decode cX4_align 45 = .ok (.aload_n 0, 1) := by decide +kernel
theorem dX4_align_46 : decode cX4_align 46 = .ok (.getfield 18, 3) := by decide +kernel
theorem dX4_align_49 : decode cX4_align 49 = .ok (.iconst 0, 1) := by decide +kernel
theorem dX4_align_50 : decode cX4_align 50 = .ok (.iaload, 1) := by decide +kernel
theorem dX4_align_51 : decode cX4_align 51 = .ok (.putfield 9, 3) := by decide +kernel
theorem dX4_align_54 : decode cX4_align 54 = .ok (.aload_n 0, 1) := by decide +kernel
theorem dX4_align_55 : decode cX4_align 55 = .ok (.iconst 0, 1) := by decide +kernel
theorem dX4_align_56 : decode cX4_align 56 = .ok (.putfield 15, 3) := by decide +kernel
theorem dX4_align_59 : decode cX4_align 59 = .ok (.iconst 1, 1) := by decide +kernel
theorem dX4_align_60 : decode cX4_align 60 = .ok (.istore_n 3, 1) := by decide +kernel
theorem dX4_align_61 : decode cX4_align 61 = .ok (.iload_n 3, 1) := by decide +kernel
theorem dX4_align_62 : decode cX4_align 62 = .ok (.aload_n 2, 1) := by decide +kernel
theorem dX4_align_63 : decode cX4_align 63 = .ok (.getfield 41, 3) := by decide +kernel
theorem dX4_align_66 : decode cX4_align 66 = .ok (.if_icmp .gt 46, 3) := by decide +kernel
theorem dX4_align_69 : decode cX4_align 69 = .ok (.iload_n 3, 1) := by decide +kernel
theorem dX4_align_70 : decode cX4_align 70 = .ok (.aload_n 0, 1) := by decide +kernel
theorem dX4_align_71 : decode cX4_align 71 = .ok (.getfield 18, 3) := by decide +kernel
theorem dX4_align_74 : decode cX4_align 74 = .ok (.arraylength, 1) := by decide +kernel
theorem dX4_align_75 : decode cX4_align 75 = .ok (.if_icmp .ge 37, 3) := by decide +kernel
theorem dX4_align_78 : decode cX4_align 78 = .ok (.aload_n 0, 1) := by decide +kernel
theorem dX4_align_79 : decode cX4_align 79 = .ok (.getfield 18, 3) := by decide +kernel
theorem dX4_align_82 : decode cX4_align 82 = .ok (.iload_n 3, 1) := by decide +kernel
theorem dX4_align_83 : decode cX4_align 83 = .ok (.iaload, 1) := by decide +kernel
theorem dX4_align_84 : decode cX4_align 84 = .ok (.aload_n 0, 1) := by decide +kernel
theorem dX4_align_85 : decode cX4_align 85 = .ok (.getfield 9, 3) := by decide +kernel
theorem dX4_align_88 : decode cX4_align 88 = .ok (.if_icmp .ge 18, 3) := by decide +kernel
theorem dX4_align_91 : decode cX4_align 91 = .ok (.aload_n 0, 1) := by decide +kernel
theorem dX4_align_92 : decode cX4_align 92 = .ok (.aload_n 0, 1) := by decide +kernel
theorem dX4_align_93 : decode cX4_align 93 = .ok (.getfield 18, 3) := by decide +kernel
theorem dX4_align_96 : decode cX4_align 96 = .ok (.iload_n 3, 1) := by decide +kernel
theorem dX4_align_97 : decode cX4_align 97 = .ok (.iaload, 1) := by decide +kernel
theorem dX4_align_98 : decode cX4_align 98 = .ok (.putfield 9, 3) := by decide +kernel
theorem dX4_align_101 : decode cX4_align 101 = .ok (.aload_n 0, 1) := by decide +kernel
theorem dX4_align_102 : decode cX4_align 102 = .ok (.iload_n 3, 1) := by decide +kernel
theorem dX4_align_103 : decode cX4_align 103 = .ok (.putfield 15, 3) := by decide +kernel
theorem dX4_align_106 : decode cX4_align 106 = .ok (.iinc 3 1, 3) := by decide +kernel
theorem dX4_align_109 : decode cX4_align 109 = .ok (.goto (-48), 3) := by decide +kernel
theorem dX4_align_112 : decode cX4_align 112 = .ok (.return_, 1) := by decide +kernel
theorem dX4_addLetter_0 : decode cX4_addLetter 0 = .ok (.aload_n 0, 1) := by decide +kernel
theorem dX4_addLetter_1 : decode cX4_addLetter 1 = .ok (.getfield 18, 3) := by decide +kernel
theorem dX4_addLetter_4 : decode cX4_addLetter 4 = .ok (.iconst 0, 1) := by decide +kernel
theorem dX4_addLetter_5 : decode cX4_addLetter 5 = .ok (.iaload, 1) := by decide +kernel
theorem dX4_addLetter_6 : decode cX4_addLetter 6 = .ok (.istore_n 3, 1) := by decide +kernel
theorem dX4_addLetter_7 : decode cX4_addLetter 7 = .ok (.aload_n 0, 1) := by decide +kernel
theorem dX4_addLetter_8 : decode cX4_addLetter 8 = .ok (.getfield 18, 3) := by decide +kernel
theorem dX4_addLetter_11 : decode cX4_addLetter 11 = .ok (.iconst 0, 1) := by decide +kernel
theorem dX4_addLetter_12 : decode cX4_addLetter 12 = .ok (.dup2, 1) := by decide +kernel
theorem dX4_addLetter_13 : decode cX4_addLetter 13 = .ok (.iaload, 1) := by decide +kernel
theorem dX4_addLetter_14 : decode cX4_addLetter 14 = .ok (.iconst 2, 1) := by decide +kernel
theorem dX4_addLetter_15 : decode cX4_addLetter 15 = .ok (.iadd, 1) := by decide +kernel
theorem dX4_addLetter_16 : decode cX4_addLetter 16 = .ok (.iastore, 1) := by decide +kernel
theorem dX4_addLetter_17 : decode cX4_addLetter 17 = .ok (.iconst 1, 1) := by decide +kernel
theorem dX4_addLetter_18 : decode cX4_addLetter 18 = .ok (.istore 4, 2) := by decide +kernel
theorem dX4_addLetter_20 : decode cX4_addLetter 20 = .ok (.iload 4, 2) := by decide +kernel
theorem dX4_addLetter_22 : decode cX4_addLetter 22 = .ok (.aload_n 2, 1) := by decide +kernel
theorem dX4_addLetter_23 : decode cX4_addLetter 23 = .ok (.getfield 41, 3) := by decide +kernel
theorem dX4_addLetter_26 : decode cX4_addLetter 26 = .ok (.if_icmp .gt 82, 3) := by decide +kernel
theorem dX4_addLetter_29 : decode cX4_addLetter 29 = .ok (.iload 4, 2) := by decide +kernel
theorem dX4_addLetter_31 : decode cX4_addLetter 31 = .ok (.aload_n 0, 1) := by decide +kernel
theorem dX4_addLetter_32 : decode cX4_addLetter 32 = .ok (.getfield 18, 3) := by decide +kernel
theorem dX4_addLetter_35 : decode cX4_addLetter 35 = .ok (.arraylength, 1) := by decide +kernel
theorem dX4_addLetter_36 : decode cX4_addLetter 36 = .ok (.if_icmp .ge 72, 3) := by decide +kernel
theorem dX4_addLetter_39 : decode cX4_addLetter 39 = .ok (.iload_n 3, 1) := by decide +kernel
theorem dX4_addLetter_40 : decode cX4_addLetter 40 = .ok (.aload_n 2, 1) := by decide +kernel
theorem dX4_addLetter_41 : decode cX4_addLetter 41 = .ok (.getfield 46, 3) := by decide +kernel
theorem dX4_addLetter_44 : decode cX4_addLetter 44 = .ok (.iload 4, 2) := by decide +kernel
theorem dX4_addLetter_46 : decode cX4_addLetter 46 = .ok (.iconst 1, 1) := by decide +kernel
theorem dX4_addLetter_47 : decode cX4_addLetter 47 = .ok (.isub, 1) := by decide +kernel
theorem dX4_addLetter_48 : decode cX4_addLetter 48 = .ok (.iaload, 1) := by decide +kernel
theorem dX4_addLetter_49 : decode cX4_addLetter 49 = .ok (.iload_n 1, 1) := by decide +kernel
theorem dX4_addLetter_50 : decode cX4_addLetter 50 = .ok (.if_icmp .ne 7, 3) := by decide +kernel
theorem dX4_addLetter_53 : decode cX4_addLetter 53 = .ok (.iconst 0, 1) := by decide +kernel
theorem dX4_addLetter_54 : decode cX4_addLetter 54 = .ok (.goto 4, 3) := by decide +kernel
theorem dX4_addLetter_57 : decode cX4_addLetter 57 = .ok (.iconst 1, 1) := by decide +kernel
theorem dX4_addLetter_58 : decode cX4_addLetter 58 = .ok (.iadd, 1) := by decide +kernel
theorem dX4_addLetter_59 : decode cX4_addLetter 59 = .ok (.istore 5, 2) := by decide +kernel
theorem dX4_addLetter_61 : decode cX4_addLetter 61 = .ok (.aload_n 0, 1) := by decide +kernel
theorem dX4_addLetter_62 : decode cX4_addLetter 62 = .ok (.getfield 18, 3) := by decide +kernel
theorem dX4_addLetter_65 : decode cX4_addLetter 65 = .ok (.iload 4, 2) := by decide +kernel
theorem dX4_addLetter_67 : decode cX4_addLetter 67 = .ok (.iaload, 1) := by decide +kernel
theorem dX4_addLetter_68 : decode cX4_addLetter 68 = .ok (.istore_n 3, 1) := by decide +kernel
theorem dX4_addLetter_69 : decode cX4_addLetter 69 = .ok (.aload_n 0, 1) := by decide +kernel
theorem dX4_addLetter_70 : decode cX4_addLetter 70 = .ok (.getfield 18, 3) := by decide +kernel
theorem dX4_addLetter_73 : decode cX4_addLetter 73 = .ok (.iload 4, 2) := by decide +kernel
theorem dX4_addLetter_75 : decode cX4_addLetter 75 = .ok (.iload 5, 2) := by decide +kernel
theorem dX4_addLetter_77 : decode cX4_addLetter 77 = .ok (.aload_n 0, 1) := by decide +kernel
theorem dX4_addLetter_78 : decode cX4_addLetter 78 = .ok (.getfield 18, 3) := by decide +kernel
theorem dX4_addLetter_81 : decode cX4_addLetter 81 = .ok (.iload 4, 2) := by decide +kernel
theorem dX4_addLetter_83 : decode cX4_addLetter 83 = .ok (.iaload, 1) := by decide +kernel
theorem dX4_addLetter_84 : decode cX4_addLetter 84 = .ok (.aload_n 0, 1) := by decide +kernel
theorem dX4_addLetter_85 : decode cX4_addLetter 85 = .ok (.getfield 18, 3) := by decide +kernel
theorem dX4_addLetter_88 : decode cX4_addLetter 88 = .ok (.iload 4, 2) := by decide +kernel
theorem dX4_addLetter_90 : decode cX4_addLetter 90 = .ok (.iconst 1, 1) := by decide +kernel
theorem dX4_addLetter_91 : decode cX4_addLetter 91 = .ok (.isub, 1) := by decide +kernel
theorem dX4_addLetter_92 : decode cX4_addLetter 92 = .ok (.iaload, 1) := by decide +kernel
theorem dX4_addLetter_93 : decode cX4_addLetter 93 = .ok (.invokestatic 49, 3) := by decide +kernel
theorem dX4_addLetter_96 : decode cX4_addLetter 96 = .ok (.iconst 2, 1) := by decide +kernel
theorem dX4_addLetter_97 : decode cX4_addLetter 97 = .ok (.iadd, 1) := by decide +kernel
theorem dX4_addLetter_98 : decode cX4_addLetter 98 = .ok (.invokestatic 49, 3) := by decide +kernel
theorem dX4_addLetter_101 : decode cX4_addLetter 101 = .ok (.iastore, 1) := by decide +kernel
theorem dX4_addLetter_102 : decode cX4_addLetter 102 = .ok (.iinc 4 1, 3) := by decide +kernel
theorem dX4_addLetter_105 : decode cX4_addLetter 105 = .ok (.goto (-85), 3) := by decide +kernel
theorem dX4_addLetter_108 : decode cX4_addLetter 108 = .ok (.return_, 1) := by decide +kernel
theorem dX5_init_0 : decode cX5_init 0 = .ok (.aload_n 0, 1) := by decide +kernel
theorem dX5_init_1 : decode cX5_init 1 = .ok (.invokespecial 3, 3) := by decide +kernel
theorem dX5_init_4 : decode cX5_init 4 = .ok (.aload_n 0, 1) := by decide +kernel
theorem dX5_init_5 : decode cX5_init 5 = .ok (.iconst 4, 1) := by decide +kernel
theorem dX5_init_6 : decode cX5_init 6 = .ok (.putfield 9, 3) := by decide +kernel
theorem dX5_init_9 : decode cX5_init 9 = .ok (.aload_n 0, 1) := by decide +kernel
theorem dX5_init_10 : decode cX5_init 10 = .ok (.bipush 6, 2) := by decide +kernel
theorem dX5_init_12 : decode cX5_init 12 = .ok (.anewarray 15, 3) := by decide +kernel
theorem dX5_init_15 : decode cX5_init 15 = .ok (.putfield 17, 3) := by decide +kernel
theorem dX5_init_18 : decode cX5_init 18 = .ok (.aload_n 0, 1) := by decide +kernel
theorem dX5_init_19 : decode cX5_init 19 = .ok (.iconst 0, 1) := by decide +kernel
theorem dX5_init_20 : decode cX5_init 20 = .ok (.putfield 21, 3) := by decide +kernel
theorem dX5_init_23 : decode cX5_init 23 = .ok (.aload_n 0, 1) := by decide +kernel
theorem dX5_init_24 : decode cX5_init 24 = .ok (.new 24, 3) := by decide +kernel
theorem dX5_init_27 : decode cX5_init 27 = .ok (.dup, 1) := by decide +kernel
theorem dX5_init_28 : decode cX5_init 28 = .ok (.iconst 0, 1) := by decide +kernel
theorem dX5_init_29 : decode cX5_init 29 = .ok (.iconst 0, 1) := by decide +kernel
theorem dX5_init_30 : decode cX5_init 30 = .ok (.invokespecial 26, 3) := by decide +kernel
theorem dX5_init_33 : decode cX5_init 33 = .ok (.putfield 29, 3) := by decide +kernel
theorem dX5_init_36 : decode cX5_init 36 = .ok (.aload_n 0, 1) := by decide +kernel
theorem dX5_init_37 : decode cX5_init 37 = .ok (.new 24, 3) := by decide +kernel
theorem dX5_init_40 : decode cX5_init 40 = .ok (.dup, 1) := by decide +kernel
theorem dX5_init_41 : decode cX5_init 41 = .ok (.iconst 1, 1) := by decide +kernel
theorem dX5_init_42 : decode cX5_init 42 = .ok (.iconst 0, 1) := by decide +kernel
theorem dX5_init_43 : decode cX5_init 43 = .ok (.invokespecial 26, 3) := by decide +kernel
theorem dX5_init_46 : decode cX5_init 46 = .ok (.putfield 33, 3) := by decide +kernel
theorem dX5_init_49 : decode cX5_init 49 = .ok (.aload_n 0, 1) := by decide +kernel
theorem dX5_init_50 : decode cX5_init 50 = .ok (.new 24, 3) := by decide +kernel
theorem dX5_init_53 : decode cX5_init 53 = .ok (.dup, 1) := by decide +kernel
theorem dX5_init_54 : decode cX5_init 54 = .ok (.iconst 0, 1) := by decide +kernel
theorem dX5_init_55 : decode cX5_init 55 = .ok (.iconst 1, 1) := by decide +kernel
theorem dX5_init_56 : decode cX5_init 56 = .ok (.invokespecial 26, 3) := by decide +kernel
theorem dX5_init_59 : decode cX5_init 59 = .ok (.putfield 36, 3) := by decide +kernel
theorem dX5_init_62 : decode cX5_init 62 = .ok (.return_, 1) := by decide +kernel
theorem dX5_hasRoom_0 : decode cX5_hasRoom 0 = .ok (.aload_n 0, 1) := by decide +kernel
theorem dX5_hasRoom_1 : decode cX5_hasRoom 1 = .ok (.getfield 21, 3) := by decide +kernel
theorem dX5_hasRoom_4 : decode cX5_hasRoom 4 = .ok (.aload_n 0, 1) := by decide +kernel
theorem dX5_hasRoom_5 : decode cX5_hasRoom 5 = .ok (.getfield 17, 3) := by decide +kernel
theorem dX5_hasRoom_8 : decode cX5_hasRoom 8 = .ok (.arraylength, 1) := by decide +kernel
theorem dX5_hasRoom_9 : decode cX5_hasRoom 9 = .ok (.if_icmp .ge 20, 3) := by decide +kernel
theorem dX5_hasRoom_12 : decode cX5_hasRoom 12 = .ok (.aload_n 0, 1) := by decide +kernel
theorem dX5_hasRoom_13 : decode cX5_hasRoom 13 = .ok (.getfield 21, 3) := by decide +kernel
theorem dX5_hasRoom_16 : decode cX5_hasRoom 16 = .ok (.iconst 2, 1) := by decide +kernel
theorem dX5_hasRoom_17 : decode cX5_hasRoom 17 = .ok (.aload_n 0, 1) := by decide +kernel
theorem dX5_hasRoom_18 : decode cX5_hasRoom 18 = .ok (.getfield 9, 3) := by decide +kernel
theorem dX5_hasRoom_21 : decode cX5_hasRoom 21 = .ok (.imul, 1) := by decide +kernel
theorem dX5_hasRoom_22 : decode cX5_hasRoom 22 = .ok (.if_icmp .ge 7, 3) := by decide +kernel
theorem dX5_hasRoom_25 : decode cX5_hasRoom 25 = .ok (.iconst 1, 1) := by decide +kernel
theorem dX5_hasRoom_26 : decode cX5_hasRoom 26 = .ok (.goto 4, 3) := by decide +kernel
theorem dX5_hasRoom_29 : decode cX5_hasRoom 29 = .ok (.iconst 0, 1) := by decide +kernel
theorem dX5_hasRoom_30 : decode cX5_hasRoom 30 = .ok (.ireturn, 1) := by decide +kernel
theorem dX5_hasPlace_0 : decode cX5_hasPlace 0 = .ok (.iload_n 1, 1) := by decide +kernel
theorem dX5_hasPlace_1 : decode cX5_hasPlace 1 = .ok (.ifCond .lt 17, 3) := by decide +kernel
theorem dX5_hasPlace_4 : decode cX5_hasPlace 4 = .ok (.iload_n 1, 1) := by decide +kernel
theorem dX5_hasPlace_5 : decode cX5_hasPlace 5 = .ok (.iconst 2, 1) := by decide +kernel
theorem dX5_hasPlace_6 : decode cX5_hasPlace 6 = .ok (.aload_n 0, 1) := by decide +kernel
theorem dX5_hasPlace_7 : decode cX5_hasPlace 7 = .ok (.getfield 9, 3) := by decide +kernel
theorem dX5_hasPlace_10 : decode cX5_hasPlace 10 = .ok (.imul, 1) := by decide +kernel
theorem dX5_hasPlace_11 : decode cX5_hasPlace 11 = .ok (.if_icmp .ge 7, 3) := by decide +kernel
theorem dX5_hasPlace_14 : decode cX5_hasPlace 14 = .ok (.iconst 1, 1) := by decide +kernel
theorem dX5_hasPlace_15 : decode cX5_hasPlace 15 = .ok (.goto 4, 3) := by decide +kernel
theorem dX5_hasPlace_18 : decode cX5_hasPlace 18 = .ok (.iconst 0, 1) := by decide +kernel
theorem dX5_hasPlace_19 : decode cX5_hasPlace 19 = .ok (.ireturn, 1) := by decide +kernel
theorem dX5_take_0 : decode cX5_take 0 = .ok (.aload_n 0, 1) := by decide +kernel
theorem dX5_take_1 : decode cX5_take 1 = .ok (.getfield 21, 3) := by decide +kernel
theorem dX5_take_4 : decode cX5_take 4 = .ok (.aload_n 0, 1) := by decide +kernel
theorem dX5_take_5 : decode cX5_take 5 = .ok (.getfield 17, 3) := by decide +kernel
theorem dX5_take_8 : decode cX5_take 8 = .ok (.arraylength, 1) := by decide +kernel
theorem dX5_take_9 : decode cX5_take 9 = .ok (.if_icmp .lt 4, 3) := by decide +kernel
theorem dX5_take_12 : decode cX5_take 12 = .ok (.return_, 1) := by decide +kernel
theorem dX5_take_13 : decode cX5_take 13 = .ok (.aload_n 0, 1) := by decide +kernel
theorem dX5_take_14 : decode cX5_take 14 = .ok (.getfield 17, 3) := by decide +kernel
theorem dX5_take_17 : decode cX5_take 17 = .ok (.aload_n 0, 1) := by decide +kernel
theorem dX5_take_18 : decode cX5_take 18 = .ok (.getfield 21, 3) := by decide +kernel
theorem dX5_take_21 : decode cX5_take 21 = .ok (.aload_n 1, 1) := by decide +kernel
theorem dX5_take_22 : decode cX5_take 22 = .ok (.aastore, 1) := by decide +kernel
theorem dX5_take_23 : decode cX5_take 23 = .ok (.aload_n 0, 1) := by decide +kernel
theorem dX5_take_24 : decode cX5_take 24 = .ok (.dup, 1) := by decide +kernel
theorem dX5_take_25 : decode cX5_take 25 = .ok (.getfield 21, 3) := by decide +kernel
theorem dX5_take_28 : decode cX5_take 28 = .ok (.iconst 1, 1) := by decide +kernel
theorem dX5_take_29 : decode cX5_take 29 = .ok (.iadd, 1) := by decide +kernel
theorem dX5_take_30 : decode cX5_take 30 = .ok (.putfield 21, 3) := by decide +kernel
theorem dX5_take_33 : decode cX5_take 33 = .ok (.aload_n 0, 1) := by decide +kernel
theorem dX5_take_34 : decode cX5_take 34 = .ok (.invokevirtual 39, 3) := by decide +kernel
theorem dX5_take_37 : decode cX5_take 37 = .ok (.return_, 1) := by decide +kernel
theorem dX5_forget_0 : decode cX5_forget 0 = .ok (.aload_n 0, 1) := by decide +kernel
theorem dX5_forget_1 : decode cX5_forget 1 = .ok (.getfield 29, 3) := by decide +kernel
theorem dX5_forget_4 : decode cX5_forget 4 = .ok (.iconst 0, 1) := by decide +kernel
theorem dX5_forget_5 : decode cX5_forget 5 = .ok (.putfield 42, 3) := by decide +kernel
theorem dX5_forget_8 : decode cX5_forget 8 = .ok (.aload_n 0, 1) := by decide +kernel
theorem dX5_forget_9 : decode cX5_forget 9 = .ok (.getfield 33, 3) := by decide +kernel
theorem dX5_forget_12 : decode cX5_forget 12 = .ok (.iconst 0, 1) := by decide +kernel
theorem dX5_forget_13 : decode cX5_forget 13 = .ok (.putfield 42, 3) := by decide +kernel
theorem dX5_forget_16 : decode cX5_forget 16 = .ok (.aload_n 0, 1) := by decide +kernel
theorem dX5_forget_17 : decode cX5_forget 17 = .ok (.getfield 36, 3) := by decide +kernel
theorem dX5_forget_20 : decode cX5_forget 20 = .ok (.iconst 0, 1) := by decide +kernel
theorem dX5_forget_21 : decode cX5_forget 21 = .ok (.putfield 42, 3) := by decide +kernel
theorem dX5_forget_24 : decode cX5_forget 24 = .ok (.return_, 1) := by decide +kernel
theorem dX5_surveyed_0 : decode cX5_surveyed 0 = .ok (.iload_n 1, 1) := by decide +kernel
theorem dX5_surveyed_1 : decode cX5_surveyed 1 = .ok (.ifCond .eq 10, 3) := by decide +kernel
theorem dX5_surveyed_4 : decode cX5_surveyed 4 = .ok (.aload_n 0, 1) := by decide +kernel
theorem dX5_surveyed_5 : decode cX5_surveyed 5 = .ok (.getfield 33, 3) := by decide +kernel
theorem dX5_surveyed_8 : decode cX5_surveyed 8 = .ok (.goto 7, 3) := by decide +kernel
theorem dX5_surveyed_11 : decode cX5_surveyed 11 = .ok (.aload_n 0, 1) := by decide +kernel
theorem dX5_surveyed_12 : decode cX5_surveyed 12 = .ok (.getfield 29, 3) := by decide +kernel
theorem dX5_surveyed_15 : decode cX5_surveyed 15 = .ok (.astore_n 3, 1) := by decide +kernel
theorem dX5_surveyed_16 : decode cX5_surveyed 16 = .ok (.aload_n 3, 1) := by decide +kernel
theorem dX5_surveyed_17 : decode cX5_surveyed 17 = .ok (.getfield 42, 3) := by decide +kernel
theorem dX5_surveyed_20 : decode cX5_surveyed 20 = .ok (.ifCond .ne 9, 3) := by decide +kernel
theorem dX5_surveyed_23 : decode cX5_surveyed 23 = .ok (.aload_n 3, 1) := by decide +kernel
theorem dX5_surveyed_24 : decode cX5_surveyed 24 = .ok (.aload_n 0, 1) := by decide +kernel
theorem dX5_surveyed_25 : decode cX5_surveyed 25 = .ok (.aload_n 2, 1) := by decide +kernel
theorem dX5_surveyed_26 : decode cX5_surveyed 26 = .ok (.invokevirtual 46, 3) := by decide +kernel
theorem dX5_surveyed_29 : decode cX5_surveyed 29 = .ok (.aload_n 3, 1) := by decide +kernel
theorem dX5_surveyed_30 : decode cX5_surveyed 30 = .ok (.areturn, 1) := by decide +kernel
theorem dX5_surveyedSparing_0 : decode cX5_surveyedSparing 0 = .ok (.aload_n 0, 1) := by decide +kernel
theorem dX5_surveyedSparing_1 : decode cX5_surveyedSparing 1 = .ok (.getfield 36, 3) := by decide +kernel
theorem dX5_surveyedSparing_4 : decode cX5_surveyedSparing 4 = .ok (.getfield 42, 3) := by decide +kernel
theorem dX5_surveyedSparing_7 : decode cX5_surveyedSparing 7 = .ok (.ifCond .ne 12, 3) := by decide +kernel
theorem dX5_surveyedSparing_10 : decode cX5_surveyedSparing 10 = .ok (.aload_n 0, 1) := by decide +kernel
theorem dX5_surveyedSparing_11 : decode cX5_surveyedSparing 11 = .ok (.getfield 36, 3) := by decide +kernel
theorem dX5_surveyedSparing_14 : decode cX5_surveyedSparing 14 = .ok (.aload_n 0, 1) := by decide +kernel
theorem dX5_surveyedSparing_15 : decode cX5_surveyedSparing 15 = .ok (.aload_n 1, 1) := by decide +kernel
theorem dX5_surveyedSparing_16 : decode cX5_surveyedSparing 16 = .ok (.invokevirtual 46, 3) := by decide +kernel
theorem dX5_surveyedSparing_19 : decode cX5_surveyedSparing 19 = .ok (.aload_n 0, 1) := by decide +kernel
theorem dX5_surveyedSparing_20 : decode cX5_surveyedSparing 20 = .ok (.getfield 36, 3) := by decide +kernel
theorem dX5_surveyedSparing_23 : decode cX5_surveyedSparing 23 = .ok (.areturn, 1) := by decide +kernel
theorem dX6_init_0 : decode cX6_init 0 = .ok (.aload_n 0, 1) := by decide +kernel
theorem dX6_init_1 : decode cX6_init 1 = .ok (.invokespecial 3, 3) := by decide +kernel
theorem dX6_init_4 : decode cX6_init 4 = .ok (.aload_n 0, 1) := by decide +kernel
theorem dX6_init_5 : decode cX6_init 5 = .ok (.iconst 0, 1) := by decide +kernel
theorem dX6_init_6 : decode cX6_init 6 = .ok (.putfield 9, 3) := by decide +kernel
theorem dX6_init_9 : decode cX6_init 9 = .ok (.aload_n 0, 1) := by decide +kernel
theorem dX6_init_10 : decode cX6_init 10 = .ok (.bipush 8, 2) := by decide +kernel
theorem dX6_init_12 : decode cX6_init 12 = .ok (.newarray .boolean, 2) := by decide +kernel
theorem dX6_init_14 : decode cX6_init 14 = .ok (.putfield 15, 3) := by decide +kernel
theorem dX6_init_17 : decode cX6_init 17 = .ok (.aload_n 0, 1) := by decide +kernel
theorem dX6_init_18 : decode cX6_init 18 = .ok (.bipush 8, 2) := by decide +kernel
theorem dX6_init_20 : decode cX6_init 20 = .ok (.newarray .int, 2) := by decide +kernel
theorem dX6_init_22 : decode cX6_init 22 = .ok (.putfield 19, 3) := by decide +kernel
theorem dX6_init_25 : decode cX6_init 25 = .ok (.aload_n 0, 1) := by decide +kernel
theorem dX6_init_26 : decode cX6_init 26 = .ok (.sipush 208, 3) := by decide +kernel
theorem dX6_init_29 : decode cX6_init 29 = .ok (.newarray .int, 2) := by decide +kernel
theorem dX6_init_31 : decode cX6_init 31 = .ok (.putfield 23, 3) := by decide +kernel
theorem dX6_init_34 : decode cX6_init 34 = .ok (.aload_n 0, 1) := by decide +kernel
theorem dX6_init_35 : decode cX6_init 35 = .ok (.bipush 96, 2) := by decide +kernel
theorem dX6_init_37 : decode cX6_init 37 = .ok (.newarray .int, 2) := by decide +kernel
theorem dX6_init_39 : decode cX6_init 39 = .ok (.putfield 26, 3) := by decide +kernel
theorem dX6_init_42 : decode cX6_init 42 = .ok (.aload_n 0, 1) := by decide +kernel
theorem dX6_init_43 : decode cX6_init 43 = .ok (.bipush 9, 2) := by decide +kernel
theorem dX6_init_45 : decode cX6_init 45 = .ok (.newarray .int, 2) := by decide +kernel
theorem dX6_init_47 : decode cX6_init 47 = .ok (.putfield 29, 3) := by decide +kernel
theorem dX6_init_50 : decode cX6_init 50 = .ok (.aload_n 0, 1) := by decide +kernel
theorem dX6_init_51 : decode cX6_init 51 = .ok (.bipush 9, 2) := by decide +kernel
theorem dX6_init_53 : decode cX6_init 53 = .ok (.newarray .int, 2) := by decide +kernel
theorem dX6_init_55 : decode cX6_init 55 = .ok (.putfield 32, 3) := by decide +kernel
theorem dX6_init_58 : decode cX6_init 58 = .ok (.aload_n 0, 1) := by decide +kernel
theorem dX6_init_59 : decode cX6_init 59 = .ok (.bipush 9, 2) := by decide +kernel
theorem dX6_init_61 : decode cX6_init 61 = .ok (.newarray .int, 2) := by decide +kernel
theorem dX6_init_63 : decode cX6_init 63 = .ok (.putfield 35, 3) := by decide +kernel
theorem dX6_init_66 : decode cX6_init 66 = .ok (.aload_n 0, 1) := by decide +kernel
theorem dX6_init_67 : decode cX6_init 67 = .ok (.bipush 9, 2) := by decide +kernel
theorem dX6_init_69 : decode cX6_init 69 = .ok (.bipush 8, 2) := by decide +kernel
theorem dX6_init_71 : decode cX6_init 71 = .ok (.multianewarray 38 2, 4) := by decide +kernel
theorem dX6_init_75 : decode cX6_init 75 = .ok (.putfield 40, 3) := by decide +kernel
theorem dX6_init_78 : decode cX6_init 78 = .ok (.aload_n 0, 1) := by decide +kernel
theorem dX6_init_79 : decode cX6_init 79 = .ok (.bipush 8, 2) := by decide +kernel
theorem dX6_init_81 : decode cX6_init 81 = .ok (.newarray .int, 2) := by decide +kernel
theorem dX6_init_83 : decode cX6_init 83 = .ok (.putfield 43, 3) := by decide +kernel
theorem dX6_init_86 : decode cX6_init 86 = .ok (.return_, 1) := by decide +kernel
theorem dX6_bestWeight_0 : decode cX6_bestWeight 0 = .ok (.aload_n 0, 1) := by decide +kernel
theorem dX6_bestWeight_1 : decode cX6_bestWeight 1 = .ok (.getfield 32, 3) := by decide +kernel
theorem dX6_bestWeight_4 : decode cX6_bestWeight 4 = .ok (.iconst 0, 1) := by decide +kernel
theorem dX6_bestWeight_5 : decode cX6_bestWeight 5 = .ok (.iaload, 1) := by decide +kernel
theorem dX6_bestWeight_6 : decode cX6_bestWeight 6 = .ok (.ireturn, 1) := by decide +kernel
theorem dX6_bestCount_0 : decode cX6_bestCount 0 = .ok (.aload_n 0, 1) := by decide +kernel
theorem dX6_bestCount_1 : decode cX6_bestCount 1 = .ok (.getfield 35, 3) := by decide +kernel
theorem dX6_bestCount_4 : decode cX6_bestCount 4 = .ok (.iconst 0, 1) := by decide +kernel
theorem dX6_bestCount_5 : decode cX6_bestCount 5 = .ok (.iaload, 1) := by decide +kernel
theorem dX6_bestCount_6 : decode cX6_bestCount 6 = .ok (.ireturn, 1) := by decide +kernel
theorem dX6_firstLetter_0 : decode cX6_firstLetter 0 = .ok (.iload_n 1, 1) := by decide +kernel
theorem dX6_firstLetter_1 : decode cX6_firstLetter 1 = .ok (.ifCond .lt 21, 3) := by decide +kernel
theorem dX6_firstLetter_4 : decode cX6_firstLetter 4 = .ok (.iload_n 1, 1) := by decide +kernel
theorem dX6_firstLetter_5 : decode cX6_firstLetter 5 = .ok (.aload_n 0, 1) := by decide +kernel
theorem dX6_firstLetter_6 : decode cX6_firstLetter 6 = .ok (.getfield 9, 3) := by decide +kernel
theorem dX6_firstLetter_9 : decode cX6_firstLetter 9 = .ok (.if_icmp .ge 13, 3) := by decide +kernel
theorem dX6_firstLetter_12 : decode cX6_firstLetter 12 = .ok (.aload_n 0, 1) := by decide +kernel
theorem dX6_firstLetter_13 : decode cX6_firstLetter 13 = .ok (.getfield 32, 3) := by decide +kernel
theorem dX6_firstLetter_16 : decode cX6_firstLetter 16 = .ok (.iconst 0, 1) := by decide +kernel
theorem dX6_firstLetter_17 : decode cX6_firstLetter 17 = .ok (.iaload, 1) := by decide +kernel
theorem dX6_firstLetter_18 : decode cX6_firstLetter 18 = .ok (.iconst (-1), 1) := by decide +kernel
theorem dX6_firstLetter_19 : decode cX6_firstLetter 19 = .ok (.if_icmp .ne 5, 3) := by decide +kernel
theorem dX6_firstLetter_22 : decode cX6_firstLetter 22 = .ok (.iconst (-1), 1) := by decide +kernel
theorem dX6_firstLetter_23 : decode cX6_firstLetter 23 = .ok (.ireturn, 1) := by decide +kernel
theorem dX6_firstLetter_24 : decode cX6_firstLetter 24 = .ok (.aload_n 0, 1) := by decide +kernel
theorem dX6_firstLetter_25 : decode cX6_firstLetter 25 = .ok (.getfield 40, 3) := by decide +kernel
theorem dX6_firstLetter_28 : decode cX6_firstLetter 28 = .ok (.iconst 0, 1) := by decide +kernel
theorem dX6_firstLetter_29 : decode cX6_firstLetter 29 = .ok (.aaload, 1) := by decide +kernel
theorem dX6_firstLetter_30 : decode cX6_firstLetter 30 = .ok (.iload_n 1, 1) := by decide +kernel
theorem dX6_firstLetter_31 : decode cX6_firstLetter 31 = .ok (.iaload, 1) := by decide +kernel
theorem dX6_firstLetter_32 : decode cX6_firstLetter 32 = .ok (.ireturn, 1) := by decide +kernel
theorem dX6_read_0 : decode cX6_read 0 = .ok (.aload_n 0, 1) := by decide +kernel
theorem dX6_read_1 : decode cX6_read 1 = .ok (.aload_n 1, 1) := by decide +kernel
theorem dX6_read_2 : decode cX6_read 2 = .ok (.getfield 46, 3) := by decide +kernel
theorem dX6_read_5 : decode cX6_read 5 = .ok (.bipush 8, 2) := by decide +kernel
theorem dX6_read_7 : decode cX6_read 7 = .ok (.invokestatic 49, 3) := by decide +kernel
theorem dX6_read_10 : decode cX6_read 10 = .ok (.putfield 9, 3) := by decide +kernel
theorem dX6_read_13 : decode cX6_read 13 = .ok (.aload_n 0, 1) := by decide +kernel
theorem dX6_read_14 : decode cX6_read 14 = .ok (.getfield 23, 3) := by decide +kernel
theorem dX6_read_17 : decode cX6_read 17 = .ok (.iconst 0, 1) := by decide +kernel
theorem dX6_read_18 : decode cX6_read 18 = .ok (.invokestatic 55, 3) := by decide +kernel
theorem dX6_read_21 : decode cX6_read 21 = .ok (.iconst 0, 1) := by decide +kernel
theorem dX6_read_22 : decode cX6_read 22 = .ok (.istore 5, 2) := by decide +kernel
theorem dX6_read_24 : decode cX6_read 24 = .ok (.iload 5, 2) := by decide +kernel
theorem dX6_read_26 : decode cX6_read 26 = .ok (.aload_n 0, 1) := by decide +kernel
theorem dX6_read_27 : decode cX6_read 27 = .ok (.getfield 9, 3) := by decide +kernel
theorem dX6_read_30 : decode cX6_read 30 = .ok (.if_icmp .ge 23, 3) := by decide +kernel
theorem dX6_read_33 : decode cX6_read 33 = .ok (.aload_n 0, 1) := by decide +kernel
theorem dX6_read_34 : decode cX6_read 34 = .ok (.aload_n 1, 1) := by decide +kernel
theorem dX6_read_35 : decode cX6_read 35 = .ok (.iload_n 2, 1) := by decide +kernel
theorem dX6_read_36 : decode cX6_read 36 = .ok (.iload 5, 2) := by decide +kernel
theorem dX6_read_38 : decode cX6_read 38 = .ok (.invokevirtual 61, 3) := by decide +kernel
theorem dX6_read_41 : decode cX6_read 41 = .ok (.iload 5, 2) := by decide +kernel
theorem dX6_read_43 : decode cX6_read 43 = .ok (.iload_n 3, 1) := by decide +kernel
theorem dX6_read_44 : decode cX6_read 44 = .ok (.invokevirtual 65, 3) := by decide +kernel
theorem dX6_read_47 : decode cX6_read 47 = .ok (.iinc 5 1, 3) := by decide +kernel
theorem dX6_read_50 : decode cX6_read 50 = .ok (.goto (-26), 3) := by decide +kernel
theorem dX6_read_53 : decode cX6_read 53 = .ok (.iconst 0, 1) := by decide +kernel
theorem dX6_read_54 : decode cX6_read 54 = .ok (.istore 5, 2) := by decide +kernel
theorem dX6_read_56 : decode cX6_read 56 = .ok (.iload 5, 2) := by decide +kernel
theorem dX6_read_58 : decode cX6_read 58 = .ok (.aload_n 0, 1) := by decide +kernel
theorem dX6_read_59 : decode cX6_read 59 = .ok (.getfield 9, 3) := by decide +kernel
theorem dX6_read_62 : decode cX6_read 62 = .ok (.if_icmp .ge 57, 3) := by decide +kernel
theorem dX6_read_65 : decode cX6_read 65 = .ok (.iconst 0, 1) := by decide +kernel
theorem dX6_read_66 : decode cX6_read 66 = .ok (.istore 6, 2) := by decide +kernel
theorem dX6_read_68 : decode cX6_read 68 = .ok (.iload 6, 2) := by decide +kernel
theorem dX6_read_70 : decode cX6_read 70 = .ok (.bipush 12, 2) := by decide +kernel
theorem dX6_read_72 : decode cX6_read 72 = .ok (.if_icmp .ge 41, 3) := by decide +kernel
theorem dX6_read_75 : decode cX6_read 75 = .ok (.iload 6, 2) := by decide +kernel
theorem dX6_read_77 : decode cX6_read 77 = .ok (.aload 4, 2) := by decide +kernel
theorem dX6_read_79 : decode cX6_read 79 = .ok (.arraylength, 1) := by decide +kernel
theorem dX6_read_80 : decode cX6_read 80 = .ok (.if_icmp .ge 33, 3) := by decide +kernel
theorem dX6_read_83 : decode cX6_read 83 = .ok (.aload_n 0, 1) := by decide +kernel
theorem dX6_read_84 : decode cX6_read 84 = .ok (.getfield 26, 3) := by decide +kernel
theorem dX6_read_87 : decode cX6_read 87 = .ok (.iload 5, 2) := by decide +kernel
theorem dX6_read_89 : decode cX6_read 89 = .ok (.bipush 12, 2) := by decide +kernel
theorem dX6_read_91 : decode cX6_read 91 = .ok (.imul, 1) := by decide +kernel
theorem dX6_read_92 : decode cX6_read 92 = .ok (.iload 6, 2) := by decide +kernel
theorem dX6_read_94 : decode cX6_read 94 = .ok (.iadd, 1) := by decide +kernel
theorem dX6_read_95 : decode cX6_read 95 = .ok (.aload_n 0, 1) := by decide +kernel
theorem dX6_read_96 : decode cX6_read 96 = .ok (.aload 4, 2) := by decide +kernel
theorem dX6_read_98 : decode cX6_read 98 = .ok (.iload 6, 2) := by decide +kernel
theorem dX6_read_100 : decode cX6_read 100 = .ok (.aaload, 1) := by decide +kernel
theorem dX6_read_101 : decode cX6_read 101 = .ok (.iload 5, 2) := by decide +kernel
theorem dX6_read_103 : decode cX6_read 103 = .ok (.invokevirtual 69, 3) := by decide +kernel
theorem dX6_read_106 : decode cX6_read 106 = .ok (.iastore, 1) := by decide +kernel
theorem dX6_read_107 : decode cX6_read 107 = .ok (.iinc 6 1, 3) := by decide +kernel
theorem dX6_read_110 : decode cX6_read 110 = .ok (.goto (-42), 3) := by decide +kernel
theorem dX6_read_113 : decode cX6_read 113 = .ok (.iinc 5 1, 3) := by decide +kernel
theorem dX6_read_116 : decode cX6_read 116 = .ok (.goto (-60), 3) := by decide +kernel
theorem dX6_read_119 : decode cX6_read 119 = .ok (.aload_n 0, 1) := by decide +kernel
theorem dX6_read_120 : decode cX6_read 120 = .ok (.getfield 32, 3) := by decide +kernel
theorem dX6_read_123 : decode cX6_read 123 = .ok (.iconst (-1), 1) := by decide +kernel
theorem dX6_read_124 : decode cX6_read 124 = .ok (.invokestatic 55, 3) := by decide +kernel
theorem dX6_read_127 : decode cX6_read 127 = .ok (.aload_n 0, 1) := by decide +kernel
theorem dX6_read_128 : decode cX6_read 128 = .ok (.getfield 35, 3) := by decide +kernel
theorem dX6_read_131 : decode cX6_read 131 = .ok (.iconst 0, 1) := by decide +kernel
theorem dX6_read_132 : decode cX6_read 132 = .ok (.invokestatic 55, 3) := by decide +kernel
theorem dX6_read_135 : decode cX6_read 135 = .ok (.aload_n 0, 1) := by decide +kernel
theorem dX6_read_136 : decode cX6_read 136 = .ok (.getfield 32, 3) := by decide +kernel
theorem dX6_read_139 : decode cX6_read 139 = .ok (.aload_n 0, 1) := by decide +kernel
theorem dX6_read_140 : decode cX6_read 140 = .ok (.getfield 9, 3) := by decide +kernel
theorem dX6_read_143 : decode cX6_read 143 = .ok (.iconst 0, 1) := by decide +kernel
theorem dX6_read_144 : decode cX6_read 144 = .ok (.iastore, 1) := by decide +kernel
theorem dX6_read_145 : decode cX6_read 145 = .ok (.aload_n 0, 1) := by decide +kernel
theorem dX6_read_146 : decode cX6_read 146 = .ok (.getfield 35, 3) := by decide +kernel
theorem dX6_read_149 : decode cX6_read 149 = .ok (.aload_n 0, 1) := by decide +kernel
theorem dX6_read_150 : decode cX6_read 150 = .ok (.getfield 9, 3) := by decide +kernel
theorem dX6_read_153 : decode cX6_read 153 = .ok (.iconst 1, 1) := by decide +kernel
theorem dX6_read_154 : decode cX6_read 154 = .ok (.iastore, 1) := by decide +kernel
theorem dX6_read_155 : decode cX6_read 155 = .ok (.aload_n 0, 1) := by decide +kernel
theorem dX6_read_156 : decode cX6_read 156 = .ok (.getfield 9, 3) := by decide +kernel
theorem dX6_read_159 : decode cX6_read 159 = .ok (.iconst 1, 1) := by decide +kernel
theorem dX6_read_160 : decode cX6_read 160 = .ok (.isub, 1) := by decide +kernel
theorem dX6_read_161 : decode cX6_read 161 = .ok (.istore 5, 2) := by decide +kernel
theorem dX6_read_163 : decode cX6_read 163 = .ok (.iload 5, 2) := by decide +kernel
theorem dX6_read_165 : decode cX6_read 165 = .ok (.ifCond .lt 17, 3) := by decide +kernel
theorem dX6_read_168 : decode cX6_read 168 = .ok (.aload_n 0, 1) := by decide +kernel
theorem dX6_read_169 : decode cX6_read 169 = .ok (.iload 5, 2) := by decide +kernel
theorem dX6_read_171 : decode cX6_read 171 = .ok (.aload 4, 2) := by decide +kernel
theorem dX6_read_173 : decode cX6_read 173 = .ok (.invokevirtual 73, 3) := by decide +kernel
theorem dX6_read_176 : decode cX6_read 176 = .ok (.iinc 5 (-1), 3) := by decide +kernel
theorem dX6_read_179 : decode cX6_read 179 = .ok (.goto (-16), 3) := by decide +kernel
theorem dX6_read_182 : decode cX6_read 182 = .ok (.return_, 1) := by decide +kernel
theorem dX6_load_0 : decode cX6_load 0 = .ok (.aload_n 0, 1) := by decide +kernel
theorem dX6_load_1 : decode cX6_load 1 = .ok (.getfield 15, 3) := by decide +kernel
theorem dX6_load_4 : decode cX6_load 4 = .ok (.iload_n 2, 1) := by decide +kernel
theorem dX6_load_5 : decode cX6_load 5 = .ok (.aload_n 1, 1) := by decide +kernel
theorem dX6_load_6 : decode cX6_load 6 = .ok (.ifnull 14, 3) := by decide +kernel
theorem dX6_load_9 : decode cX6_load 9 = .ok (.aload_n 1, 1) := by decide +kernel
theorem dX6_load_10 : decode cX6_load 10 = .ok (.invokevirtual 77, 3) := by decide +kernel
theorem dX6_load_13 : decode cX6_load 13 = .ok (.ifCond .eq 7, 3) := by decide +kernel
theorem dX6_load_16 : decode cX6_load 16 = .ok (.iconst 1, 1) := by decide +kernel
theorem dX6_load_17 : decode cX6_load 17 = .ok (.goto 4, 3) := by decide +kernel
theorem dX6_load_20 : decode cX6_load 20 = .ok (.iconst 0, 1) := by decide +kernel
theorem dX6_load_21 : decode cX6_load 21 = .ok (.bastore, 1) := by decide +kernel
theorem dX6_load_22 : decode cX6_load 22 = .ok (.aload_n 0, 1) := by decide +kernel
theorem dX6_load_23 : decode cX6_load 23 = .ok (.getfield 19, 3) := by decide +kernel
theorem dX6_load_26 : decode cX6_load 26 = .ok (.iload_n 2, 1) := by decide +kernel
theorem dX6_load_27 : decode cX6_load 27 = .ok (.iconst 0, 1) := by decide +kernel
theorem dX6_load_28 : decode cX6_load 28 = .ok (.iastore, 1) := by decide +kernel
theorem dX6_load_29 : decode cX6_load 29 = .ok (.aload_n 1, 1) := by decide +kernel
theorem dX6_load_30 : decode cX6_load 30 = .ok (.ifnull 12, 3) := by decide +kernel
theorem dX6_load_33 : decode cX6_load 33 = .ok (.aload_n 0, 1) := by decide +kernel
theorem dX6_load_34 : decode cX6_load 34 = .ok (.getfield 15, 3) := by decide +kernel
theorem dX6_load_37 : decode cX6_load 37 = .ok (.iload_n 2, 1) := by decide +kernel
theorem dX6_load_38 : decode cX6_load 38 = .ok (.baload, 1) := by decide +kernel
theorem dX6_load_39 : decode cX6_load 39 = .ok (.ifCond .eq 4, 3) := by decide +kernel
theorem dX6_load_42 : decode cX6_load 42 = .ok (.return_, 1) := by decide +kernel
theorem dX6_load_43 : decode cX6_load 43 = .ok (.iload_n 2, 1) := by decide +kernel
theorem dX6_load_44 : decode cX6_load 44 = .ok (.bipush 26, 2) := by decide +kernel
theorem dX6_load_46 : decode cX6_load 46 = .ok (.imul, 1) := by decide +kernel
theorem dX6_load_47 : decode cX6_load 47 = .ok (.istore 4, 2) := by decide +kernel
theorem dX6_load_49 : decode cX6_load 49 = .ok (.iconst 0, 1) := by decide +kernel
theorem dX6_load_50 : decode cX6_load 50 = .ok (.istore 5, 2) := by decide +kernel
theorem dX6_load_52 : decode cX6_load 52 = .ok (.iload 5, 2) := by decide +kernel
theorem dX6_load_54 : decode cX6_load 54 = .ok (.iconst 3, 1) := by decide +kernel
theorem dX6_load_55 : decode cX6_load 55 = .ok (.if_icmp .ge 31, 3) := by decide +kernel
theorem dX6_load_58 : decode cX6_load 58 = .ok (.iload_n 3, 1) := by decide +kernel
theorem dX6_load_59 : decode cX6_load 59 = .ok (.iload 5, 2) := by decide +kernel
theorem dX6_load_61 : decode cX6_load 61 = .ok (.ishr, 1) := by decide +kernel
theorem dX6_load_62 : decode cX6_load 62 = .ok (.iconst 1, 1) := by decide +kernel
theorem dX6_load_63 : decode cX6_load 63 = .ok (.iand, 1) := by decide +kernel
theorem dX6_load_64 : decode cX6_load 64 = .ok (.iconst 1, 1) := by decide +kernel
theorem dX6_load_65 : decode cX6_load 65 = .ok (.if_icmp .ne 15, 3) := by decide +kernel
theorem dX6_load_68 : decode cX6_load 68 = .ok (.aload_n 1, 1) := by decide +kernel
theorem dX6_load_69 : decode cX6_load 69 = .ok (.aload_n 0, 1) := by decide +kernel
theorem dX6_load_70 : decode cX6_load 70 = .ok (.getfield 23, 3) := by decide +kernel
theorem dX6_load_73 : decode cX6_load 73 = .ok (.iload 4, 2) := by decide +kernel
theorem dX6_load_75 : decode cX6_load 75 = .ok (.iload 5, 2) := by decide +kernel
theorem dX6_load_77 : decode cX6_load 77 = .ok (.invokevirtual 82, 3) := by decide +kernel
theorem dX6_load_80 : decode cX6_load 80 = .ok (.iinc 5 1, 3) := by decide +kernel
theorem dX6_load_83 : decode cX6_load 83 = .ok (.goto (-31), 3) := by decide +kernel
theorem dX6_load_86 : decode cX6_load 86 = .ok (.iconst 0, 1) := by decide +kernel
theorem dX6_load_87 : decode cX6_load 87 = .ok (.istore 5, 2) := by decide +kernel
theorem dX6_load_89 : decode cX6_load 89 = .ok (.iload 5, 2) := by decide +kernel
theorem dX6_load_91 : decode cX6_load 91 = .ok (.bipush 26, 2) := by decide +kernel
theorem dX6_load_93 : decode cX6_load 93 = .ok (.if_icmp .ge 32, 3) := by decide +kernel
theorem dX6_load_96 : decode cX6_load 96 = .ok (.aload_n 0, 1) := by decide +kernel
theorem dX6_load_97 : decode cX6_load 97 = .ok (.getfield 23, 3) := by decide +kernel
theorem dX6_load_100 : decode cX6_load 100 = .ok (.iload 4, 2) := by decide +kernel
theorem dX6_load_102 : decode cX6_load 102 = .ok (.iload 5, 2) := by decide +kernel
theorem dX6_load_104 : decode cX6_load 104 = .ok (.iadd, 1) := by decide +kernel
theorem dX6_load_105 : decode cX6_load 105 = .ok (.iaload, 1) := by decide +kernel
theorem dX6_load_106 : decode cX6_load 106 = .ok (.ifCond .le 13, 3) := by decide +kernel
theorem dX6_load_109 : decode cX6_load 109 = .ok (.aload_n 0, 1) := by decide +kernel
theorem dX6_load_110 : decode cX6_load 110 = .ok (.getfield 19, 3) := by decide +kernel
theorem dX6_load_113 : decode cX6_load 113 = .ok (.iload_n 2, 1) := by decide +kernel
theorem dX6_load_114 : decode cX6_load 114 = .ok (.dup2, 1) := by decide +kernel
theorem dX6_load_115 : decode cX6_load 115 = .ok (.iaload, 1) := by decide +kernel
theorem dX6_load_116 : decode cX6_load 116 = .ok (.iconst 1, 1) := by decide +kernel
theorem dX6_load_117 : decode cX6_load 117 = .ok (.iadd, 1) := by decide +kernel
theorem dX6_load_118 : decode cX6_load 118 = .ok (.iastore, 1) := by decide +kernel
theorem dX6_load_119 : decode cX6_load 119 = .ok (.iinc 5 1, 3) := by decide +kernel
theorem dX6_load_122 : decode cX6_load 122 = .ok (.goto (-33), 3) := by decide +kernel
theorem dX6_load_125 : decode cX6_load 125 = .ok (.return_, 1) := by decide +kernel
theorem dX6_fitOf_0 : decode cX6_fitOf 0 = .ok (.aload_n 1, 1) := by decide +kernel
theorem dX6_fitOf_1 : decode cX6_fitOf 1 = .ok (.ifnull 16, 3) := by decide +kernel
theorem dX6_fitOf_4 : decode cX6_fitOf 4 = .ok (.iload_n 2, 1) := by decide +kernel
theorem dX6_fitOf_5 : decode cX6_fitOf 5 = .ok (.aload_n 1, 1) := by decide +kernel
theorem dX6_fitOf_6 : decode cX6_fitOf 6 = .ok (.getfield 86, 3) := by decide +kernel
theorem dX6_fitOf_9 : decode cX6_fitOf 9 = .ok (.iadd, 1) := by decide +kernel
theorem dX6_fitOf_10 : decode cX6_fitOf 10 = .ok (.aload_n 0, 1) := by decide +kernel
theorem dX6_fitOf_11 : decode cX6_fitOf 11 = .ok (.getfield 9, 3) := by decide +kernel
theorem dX6_fitOf_14 : decode cX6_fitOf 14 = .ok (.if_icmp .le 5, 3) := by decide +kernel
theorem dX6_fitOf_17 : decode cX6_fitOf 17 = .ok (.iconst (-1), 1) := by decide +kernel
theorem dX6_fitOf_18 : decode cX6_fitOf 18 = .ok (.ireturn, 1) := by decide +kernel
theorem dX6_fitOf_19 : decode cX6_fitOf 19 = .ok (.iconst 0, 1) := by decide +kernel
theorem dX6_fitOf_20 : decode cX6_fitOf 20 = .ok (.istore_n 3, 1) := by decide +kernel
theorem dX6_fitOf_21 : decode cX6_fitOf 21 = .ok (.iconst 0, 1) := by decide +kernel
theorem dX6_fitOf_22 : decode cX6_fitOf 22 = .ok (.istore 4, 2) := by decide +kernel
theorem dX6_fitOf_24 : decode cX6_fitOf 24 = .ok (.iload 4, 2) := by decide +kernel
theorem dX6_fitOf_26 : decode cX6_fitOf 26 = .ok (.aload_n 1, 1) := by decide +kernel
theorem dX6_fitOf_27 : decode cX6_fitOf 27 = .ok (.getfield 86, 3) := by decide +kernel
theorem dX6_fitOf_30 : decode cX6_fitOf 30 = .ok (.if_icmp .ge 69, 3) := by decide +kernel
theorem dX6_fitOf_33 : decode cX6_fitOf 33 = .ok (.iload_n 2, 1) := by decide +kernel
theorem dX6_fitOf_34 : decode cX6_fitOf 34 = .ok (.iload 4, 2) := by decide +kernel
theorem dX6_fitOf_36 : decode cX6_fitOf 36 = .ok (.iadd, 1) := by decide +kernel
theorem dX6_fitOf_37 : decode cX6_fitOf 37 = .ok (.istore 5, 2) := by decide +kernel
theorem dX6_fitOf_39 : decode cX6_fitOf 39 = .ok (.aload_n 0, 1) := by decide +kernel
theorem dX6_fitOf_40 : decode cX6_fitOf 40 = .ok (.getfield 15, 3) := by decide +kernel
theorem dX6_fitOf_43 : decode cX6_fitOf 43 = .ok (.iload 5, 2) := by decide +kernel
theorem dX6_fitOf_45 : decode cX6_fitOf 45 = .ok (.baload, 1) := by decide +kernel
theorem dX6_fitOf_46 : decode cX6_fitOf 46 = .ok (.ifCond .eq 5, 3) := by decide +kernel
theorem dX6_fitOf_49 : decode cX6_fitOf 49 = .ok (.iconst (-1), 1) := by decide +kernel
theorem dX6_fitOf_50 : decode cX6_fitOf 50 = .ok (.ireturn, 1) := by decide +kernel
theorem dX6_fitOf_51 : decode cX6_fitOf 51 = .ok (.aload_n 0, 1) := by decide +kernel
theorem dX6_fitOf_52 : decode cX6_fitOf 52 = .ok (.getfield 23, 3) := by decide +kernel
theorem dX6_fitOf_55 : decode cX6_fitOf 55 = .ok (.iload 5, 2) := by decide +kernel
theorem dX6_fitOf_57 : decode cX6_fitOf 57 = .ok (.bipush 26, 2) := by decide +kernel
theorem dX6_fitOf_59 : decode cX6_fitOf 59 = .ok (.imul, 1) := by decide +kernel
theorem dX6_fitOf_60 : decode cX6_fitOf 60 = .ok (.aload_n 1, 1) := by decide +kernel
theorem dX6_fitOf_61 : decode cX6_fitOf 61 = .ok (.getfield 91, 3) := by decide +kernel
theorem dX6_fitOf_64 : decode cX6_fitOf 64 = .ok (.iload 4, 2) := by decide +kernel
theorem dX6_fitOf_66 : decode cX6_fitOf 66 = .ok (.iaload, 1) := by decide +kernel
theorem dX6_fitOf_67 : decode cX6_fitOf 67 = .ok (.iadd, 1) := by decide +kernel
theorem dX6_fitOf_68 : decode cX6_fitOf 68 = .ok (.iaload, 1) := by decide +kernel
theorem dX6_fitOf_69 : decode cX6_fitOf 69 = .ok (.istore 6, 2) := by decide +kernel
theorem dX6_fitOf_71 : decode cX6_fitOf 71 = .ok (.iload 6, 2) := by decide +kernel
theorem dX6_fitOf_73 : decode cX6_fitOf 73 = .ok (.ifCond .ne 15, 3) := by decide +kernel
theorem dX6_fitOf_76 : decode cX6_fitOf 76 = .ok (.aload_n 0, 1) := by decide +kernel
theorem dX6_fitOf_77 : decode cX6_fitOf 77 = .ok (.getfield 19, 3) := by decide +kernel
theorem dX6_fitOf_80 : decode cX6_fitOf 80 = .ok (.iload 5, 2) := by decide +kernel
theorem dX6_fitOf_82 : decode cX6_fitOf 82 = .ok (.iaload, 1) := by decide +kernel
theorem dX6_fitOf_83 : decode cX6_fitOf 83 = .ok (.ifCond .le 5, 3) := by decide +kernel
theorem dX6_fitOf_86 : decode cX6_fitOf 86 = .ok (.iconst (-1), 1) := by decide +kernel
theorem dX6_fitOf_87 : decode cX6_fitOf 87 = .ok (.ireturn, 1) := by decide +kernel
theorem dX6_fitOf_88 : decode cX6_fitOf 88 = .ok (.iload_n 3, 1) := by decide +kernel
theorem dX6_fitOf_89 : decode cX6_fitOf 89 = .ok (.iload 6, 2) := by decide +kernel
theorem dX6_fitOf_91 : decode cX6_fitOf 91 = .ok (.iadd, 1) := by decide +kernel
theorem dX6_fitOf_92 : decode cX6_fitOf 92 = .ok (.istore_n 3, 1) := by decide +kernel
theorem dX6_fitOf_93 : decode cX6_fitOf 93 = .ok (.iinc 4 1, 3) := by decide +kernel
theorem dX6_fitOf_96 : decode cX6_fitOf 96 = .ok (.goto (-72), 3) := by decide +kernel
theorem dX6_fitOf_99 : decode cX6_fitOf 99 = .ok (.iload_n 3, 1) := by decide +kernel
theorem dX6_fitOf_100 : decode cX6_fitOf 100 = .ok (.ireturn, 1) := by decide +kernel
theorem dX6_readFrom_0 : decode cX6_readFrom 0 = .ok (.aload_n 0, 1) := by decide +kernel
theorem dX6_readFrom_1 : decode cX6_readFrom 1 = .ok (.getfield 15, 3) := by decide +kernel
theorem dX6_readFrom_4 : decode cX6_readFrom 4 = .ok (.iload_n 1, 1) := by decide +kernel
theorem dX6_readFrom_5 : decode cX6_readFrom 5 = .ok (.baload, 1) := by decide +kernel
theorem dX6_readFrom_6 : decode cX6_readFrom 6 = .ok (.ifCond .eq 62, 3) := by decide +kernel
theorem dX6_readFrom_9 : decode cX6_readFrom 9 = .ok (.aload_n 0, 1) := by decide +kernel
theorem dX6_readFrom_10 : decode cX6_readFrom 10 = .ok (.getfield 32, 3) := by decide +kernel
theorem dX6_readFrom_13 : decode cX6_readFrom 13 = .ok (.iload_n 1, 1) := by decide +kernel
theorem dX6_readFrom_14 : decode cX6_readFrom 14 = .ok (.aload_n 0, 1) := by decide +kernel
theorem dX6_readFrom_15 : decode cX6_readFrom 15 = .ok (.getfield 32, 3) := by decide +kernel
theorem dX6_readFrom_18 : decode cX6_readFrom 18 = .ok (.iload_n 1, 1) := by decide +kernel
theorem dX6_readFrom_19 : decode cX6_readFrom 19 = .ok (.iconst 1, 1) := by decide +kernel
theorem dX6_readFrom_20 : decode cX6_readFrom 20 = .ok (.iadd, 1) := by decide +kernel
theorem dX6_readFrom_21 : decode cX6_readFrom 21 = .ok (.iaload, 1) := by decide +kernel
theorem dX6_readFrom_22 : decode cX6_readFrom 22 = .ok (.iastore, 1) := by decide +kernel
theorem dX6_readFrom_23 : decode cX6_readFrom 23 = .ok (.aload_n 0, 1) := by decide +kernel
theorem dX6_readFrom_24 : decode cX6_readFrom 24 = .ok (.getfield 35, 3) := by decide +kernel
theorem dX6_readFrom_27 : decode cX6_readFrom 27 = .ok (.iload_n 1, 1) := by decide +kernel
theorem dX6_readFrom_28 : decode cX6_readFrom 28 = .ok (.aload_n 0, 1) := by decide +kernel
theorem dX6_readFrom_29 : decode cX6_readFrom 29 = .ok (.getfield 35, 3) := by decide +kernel
theorem dX6_readFrom_32 : decode cX6_readFrom 32 = .ok (.iload_n 1, 1) := by decide +kernel
theorem dX6_readFrom_33 : decode cX6_readFrom 33 = .ok (.iconst 1, 1) := by decide +kernel
theorem dX6_readFrom_34 : decode cX6_readFrom 34 = .ok (.iadd, 1) := by decide +kernel
theorem dX6_readFrom_35 : decode cX6_readFrom 35 = .ok (.iaload, 1) := by decide +kernel
theorem dX6_readFrom_36 : decode cX6_readFrom 36 = .ok (.iastore, 1) := by decide +kernel
theorem dX6_readFrom_37 : decode cX6_readFrom 37 = .ok (.aload_n 0, 1) := by decide +kernel
theorem dX6_readFrom_38 : decode cX6_readFrom 38 = .ok (.getfield 40, 3) := by decide +kernel
theorem dX6_readFrom_41 : decode cX6_readFrom 41 = .ok (.iload_n 1, 1) := by decide +kernel
theorem dX6_readFrom_42 : decode cX6_readFrom 42 = .ok (.iconst 1, 1) := by decide +kernel
theorem dX6_readFrom_43 : decode cX6_readFrom 43 = .ok (.iadd, 1) := by decide +kernel
theorem dX6_readFrom_44 : decode cX6_readFrom 44 = .ok (.aaload, 1) := by decide +kernel
theorem dX6_readFrom_45 : decode cX6_readFrom 45 = .ok (.iconst 0, 1) := by decide +kernel
theorem dX6_readFrom_46 : decode cX6_readFrom 46 = .ok (.aload_n 0, 1) := by decide +kernel
theorem dX6_readFrom_47 : decode cX6_readFrom 47 = .ok (.getfield 40, 3) := by decide +kernel
theorem dX6_readFrom_50 : decode cX6_readFrom 50 = .ok (.iload_n 1, 1) := by decide +kernel
theorem dX6_readFrom_51 : decode cX6_readFrom 51 = .ok (.aaload, 1) := by decide +kernel
theorem dX6_readFrom_52 : decode cX6_readFrom 52 = .ok (.iconst 0, 1) := by decide +kernel
theorem dX6_readFrom_53 : decode cX6_readFrom 53 = .ok (.bipush 8, 2) := by decide +kernel
theorem dX6_readFrom_55 : decode cX6_readFrom 55 = .ok (.invokestatic 94, 3) := by decide +kernel
theorem dX6_readFrom_58 : decode cX6_readFrom 58 = .ok (.aload_n 0, 1) := by decide +kernel
theorem dX6_readFrom_59 : decode cX6_readFrom 59 = .ok (.getfield 40, 3) := by decide +kernel
theorem dX6_readFrom_62 : decode cX6_readFrom 62 = .ok (.iload_n 1, 1) := by decide +kernel
theorem dX6_readFrom_63 : decode cX6_readFrom 63 = .ok (.aaload, 1) := by decide +kernel
theorem dX6_readFrom_64 : decode cX6_readFrom 64 = .ok (.iload_n 1, 1) := by decide +kernel
theorem dX6_readFrom_65 : decode cX6_readFrom 65 = .ok (.iconst (-1), 1) := by decide +kernel
theorem dX6_readFrom_66 : decode cX6_readFrom 66 = .ok (.iastore, 1) := by decide +kernel
theorem dX6_readFrom_67 : decode cX6_readFrom 67 = .ok (.return_, 1) := by decide +kernel
theorem dX6_readFrom_68 : decode cX6_readFrom 68 = .ok (.iconst 0, 1) := by decide +kernel
theorem dX6_readFrom_69 : decode cX6_readFrom 69 = .ok (.istore_n 3, 1) := by decide +kernel
theorem dX6_readFrom_70 : decode cX6_readFrom 70 = .ok (.iload_n 3, 1) := by decide +kernel
theorem dX6_readFrom_71 : decode cX6_readFrom 71 = .ok (.bipush 12, 2) := by decide +kernel
theorem dX6_readFrom_73 : decode cX6_readFrom 73 = .ok (.if_icmp .ge 53, 3) := by decide +kernel
theorem dX6_readFrom_76 : decode cX6_readFrom 76 = .ok (.iload_n 3, 1) := by decide +kernel
theorem dX6_readFrom_77 : decode cX6_readFrom 77 = .ok (.aload_n 2, 1) := by decide +kernel
theorem dX6_readFrom_78 : decode cX6_readFrom 78 = .ok (.arraylength, 1) := by decide +kernel
theorem dX6_readFrom_79 : decode cX6_readFrom 79 = .ok (.if_icmp .ge 47, 3) := by decide +kernel
theorem dX6_readFrom_82 : decode cX6_readFrom 82 = .ok (.aload_n 2, 1) := by decide +kernel
theorem dX6_readFrom_83 : decode cX6_readFrom 83 = .ok (.iload_n 3, 1) := by decide +kernel
theorem dX6_readFrom_84 : decode cX6_readFrom 84 = .ok (.aaload, 1) := by decide +kernel
theorem dX6_readFrom_85 : decode cX6_readFrom 85 = .ok (.astore 4, 2) := by decide +kernel
theorem dX6_readFrom_87 : decode cX6_readFrom 87 = .ok (.aload_n 0, 1) := by decide +kernel
theorem dX6_readFrom_88 : decode cX6_readFrom 88 = .ok (.getfield 26, 3) := by decide +kernel
theorem dX6_readFrom_91 : decode cX6_readFrom 91 = .ok (.iload_n 1, 1) := by decide +kernel
theorem dX6_readFrom_92 : decode cX6_readFrom 92 = .ok (.bipush 12, 2) := by decide +kernel
theorem dX6_readFrom_94 : decode cX6_readFrom 94 = .ok (.imul, 1) := by decide +kernel
theorem dX6_readFrom_95 : decode cX6_readFrom 95 = .ok (.iload_n 3, 1) := by decide +kernel
theorem dX6_readFrom_96 : decode cX6_readFrom 96 = .ok (.iadd, 1) := by decide +kernel
theorem dX6_readFrom_97 : decode cX6_readFrom 97 = .ok (.iaload, 1) := by decide +kernel
theorem dX6_readFrom_98 : decode cX6_readFrom 98 = .ok (.istore 5, 2) := by decide +kernel
theorem dX6_readFrom_100 : decode cX6_readFrom 100 = .ok (.aload 4, 2) := by decide +kernel
theorem dX6_readFrom_102 : decode cX6_readFrom 102 = .ok (.ifnull 18, 3) := by decide +kernel
theorem dX6_readFrom_105 : decode cX6_readFrom 105 = .ok (.iload 5, 2) := by decide +kernel
theorem dX6_readFrom_107 : decode cX6_readFrom 107 = .ok (.iconst (-1), 1) := by decide +kernel
theorem dX6_readFrom_108 : decode cX6_readFrom 108 = .ok (.if_icmp .eq 12, 3) := by decide +kernel
theorem dX6_readFrom_111 : decode cX6_readFrom 111 = .ok (.aload_n 0, 1) := by decide +kernel
theorem dX6_readFrom_112 : decode cX6_readFrom 112 = .ok (.aload 4, 2) := by decide +kernel
theorem dX6_readFrom_114 : decode cX6_readFrom 114 = .ok (.iload 5, 2) := by decide +kernel
theorem dX6_readFrom_116 : decode cX6_readFrom 116 = .ok (.iload_n 1, 1) := by decide +kernel
theorem dX6_readFrom_117 : decode cX6_readFrom 117 = .ok (.invokevirtual 100, 3) := by decide +kernel
theorem dX6_readFrom_120 : decode cX6_readFrom 120 = .ok (.iinc 3 1, 3) := by decide +kernel
theorem dX6_readFrom_123 : decode cX6_readFrom 123 = .ok (.goto (-53), 3) := by decide +kernel
theorem dX6_readFrom_126 : decode cX6_readFrom 126 = .ok (.return_, 1) := by decide +kernel
theorem dX6_tryWord_0 : decode cX6_tryWord 0 = .ok (.iload_n 3, 1) := by decide +kernel
theorem dX6_tryWord_1 : decode cX6_tryWord 1 = .ok (.aload_n 1, 1) := by decide +kernel
theorem dX6_tryWord_2 : decode cX6_tryWord 2 = .ok (.getfield 86, 3) := by decide +kernel
theorem dX6_tryWord_5 : decode cX6_tryWord 5 = .ok (.iadd, 1) := by decide +kernel
theorem dX6_tryWord_6 : decode cX6_tryWord 6 = .ok (.istore 4, 2) := by decide +kernel
theorem dX6_tryWord_8 : decode cX6_tryWord 8 = .ok (.iload 4, 2) := by decide +kernel
theorem dX6_tryWord_10 : decode cX6_tryWord 10 = .ok (.aload_n 0, 1) := by decide +kernel
theorem dX6_tryWord_11 : decode cX6_tryWord 11 = .ok (.getfield 9, 3) := by decide +kernel
theorem dX6_tryWord_14 : decode cX6_tryWord 14 = .ok (.if_icmp .gt 14, 3) := by decide +kernel
theorem dX6_tryWord_17 : decode cX6_tryWord 17 = .ok (.aload_n 0, 1) := by decide +kernel
theorem dX6_tryWord_18 : decode cX6_tryWord 18 = .ok (.getfield 32, 3) := by decide +kernel
theorem dX6_tryWord_21 : decode cX6_tryWord 21 = .ok (.iload 4, 2) := by decide +kernel
theorem dX6_tryWord_23 : decode cX6_tryWord 23 = .ok (.iaload, 1) := by decide +kernel
theorem dX6_tryWord_24 : decode cX6_tryWord 24 = .ok (.iconst (-1), 1) := by decide +kernel
theorem dX6_tryWord_25 : decode cX6_tryWord 25 = .ok (.if_icmp .ne 4, 3) := by decide +kernel
theorem dX6_tryWord_28 : decode cX6_tryWord 28 = .ok (.return_, 1) := by decide +kernel
theorem dX6_tryWord_29 : decode cX6_tryWord 29 = .ok (.iload_n 2, 1) := by decide +kernel
theorem dX6_tryWord_30 : decode cX6_tryWord 30 = .ok (.aload_n 0, 1) := by decide +kernel
theorem dX6_tryWord_31 : decode cX6_tryWord 31 = .ok (.getfield 32, 3) := by decide +kernel
theorem dX6_tryWord_34 : decode cX6_tryWord 34 = .ok (.iload 4, 2) := by decide +kernel
theorem dX6_tryWord_36 : decode cX6_tryWord 36 = .ok (.iaload, 1) := by decide +kernel
theorem dX6_tryWord_37 : decode cX6_tryWord 37 = .ok (.iadd, 1) := by decide +kernel
theorem dX6_tryWord_38 : decode cX6_tryWord 38 = .ok (.istore 5, 2) := by decide +kernel
theorem dX6_tryWord_40 : decode cX6_tryWord 40 = .ok (.iload 5, 2) := by decide +kernel
theorem dX6_tryWord_42 : decode cX6_tryWord 42 = .ok (.aload_n 0, 1) := by decide +kernel
theorem dX6_tryWord_43 : decode cX6_tryWord 43 = .ok (.getfield 32, 3) := by decide +kernel
theorem dX6_tryWord_46 : decode cX6_tryWord 46 = .ok (.iload_n 3, 1) := by decide +kernel
theorem dX6_tryWord_47 : decode cX6_tryWord 47 = .ok (.iaload, 1) := by decide +kernel
theorem dX6_tryWord_48 : decode cX6_tryWord 48 = .ok (.if_icmp .ge 4, 3) := by decide +kernel
theorem dX6_tryWord_51 : decode cX6_tryWord 51 = .ok (.return_, 1) := by decide +kernel
theorem dX6_tryWord_52 : decode cX6_tryWord 52 = .ok (.iload 5, 2) := by decide +kernel
theorem dX6_tryWord_54 : decode cX6_tryWord 54 = .ok (.aload_n 0, 1) := by decide +kernel
theorem dX6_tryWord_55 : decode cX6_tryWord 55 = .ok (.getfield 32, 3) := by decide +kernel
theorem dX6_tryWord_58 : decode cX6_tryWord 58 = .ok (.iload_n 3, 1) := by decide +kernel
theorem dX6_tryWord_59 : decode cX6_tryWord 59 = .ok (.iaload, 1) := by decide +kernel
theorem dX6_tryWord_60 : decode cX6_tryWord 60 = .ok (.if_icmp .le 35, 3) := by decide +kernel
theorem dX6_tryWord_63 : decode cX6_tryWord 63 = .ok (.aload_n 0, 1) := by decide +kernel
theorem dX6_tryWord_64 : decode cX6_tryWord 64 = .ok (.getfield 32, 3) := by decide +kernel
theorem dX6_tryWord_67 : decode cX6_tryWord 67 = .ok (.iload_n 3, 1) := by decide +kernel
theorem dX6_tryWord_68 : decode cX6_tryWord 68 = .ok (.iload 5, 2) := by decide +kernel
theorem dX6_tryWord_70 : decode cX6_tryWord 70 = .ok (.iastore, 1) := by decide +kernel
theorem dX6_tryWord_71 : decode cX6_tryWord 71 = .ok (.aload_n 0, 1) := by decide +kernel
theorem dX6_tryWord_72 : decode cX6_tryWord 72 = .ok (.getfield 35, 3) := by decide +kernel
theorem dX6_tryWord_75 : decode cX6_tryWord 75 = .ok (.iload_n 3, 1) := by decide +kernel
theorem dX6_tryWord_76 : decode cX6_tryWord 76 = .ok (.aload_n 0, 1) := by decide +kernel
theorem dX6_tryWord_77 : decode cX6_tryWord 77 = .ok (.getfield 35, 3) := by decide +kernel
theorem dX6_tryWord_80 : decode cX6_tryWord 80 = .ok (.iload 4, 2) := by decide +kernel
theorem dX6_tryWord_82 : decode cX6_tryWord 82 = .ok (.iaload, 1) := by decide +kernel
theorem dX6_tryWord_83 : decode cX6_tryWord 83 = .ok (.iastore, 1) := by decide +kernel
theorem dX6_tryWord_84 : decode cX6_tryWord 84 = .ok (.aload_n 0, 1) := by decide +kernel
theorem dX6_tryWord_85 : decode cX6_tryWord 85 = .ok (.aload_n 1, 1) := by decide +kernel
theorem dX6_tryWord_86 : decode cX6_tryWord 86 = .ok (.iload_n 3, 1) := by decide +kernel
theorem dX6_tryWord_87 : decode cX6_tryWord 87 = .ok (.iload 4, 2) := by decide +kernel
theorem dX6_tryWord_89 : decode cX6_tryWord 89 = .ok (.invokevirtual 104, 3) := by decide +kernel
theorem dX6_tryWord_92 : decode cX6_tryWord 92 = .ok (.goto 38, 3) := by decide +kernel
theorem dX6_tryWord_95 : decode cX6_tryWord 95 = .ok (.aload_n 0, 1) := by decide +kernel
theorem dX6_tryWord_96 : decode cX6_tryWord 96 = .ok (.getfield 35, 3) := by decide +kernel
theorem dX6_tryWord_99 : decode cX6_tryWord 99 = .ok (.iload_n 3, 1) := by decide +kernel
theorem dX6_tryWord_100 : decode cX6_tryWord 100 = .ok (.dup2, 1) := by decide +kernel
theorem dX6_tryWord_101 : decode cX6_tryWord 101 = .ok (.iaload, 1) := by decide +kernel
theorem dX6_tryWord_102 : decode cX6_tryWord 102 = .ok (.aload_n 0, 1) := by decide +kernel
theorem dX6_tryWord_103 : decode cX6_tryWord 103 = .ok (.getfield 35, 3) := by decide +kernel
theorem dX6_tryWord_106 : decode cX6_tryWord 106 = .ok (.iload 4, 2) := by decide +kernel
theorem dX6_tryWord_108 : decode cX6_tryWord 108 = .ok (.iaload, 1) := by decide +kernel
theorem dX6_tryWord_109 : decode cX6_tryWord 109 = .ok (.iadd, 1) := by decide +kernel
theorem dX6_tryWord_110 : decode cX6_tryWord 110 = .ok (.iastore, 1) := by decide +kernel
theorem dX6_tryWord_111 : decode cX6_tryWord 111 = .ok (.aload_n 0, 1) := by decide +kernel
theorem dX6_tryWord_112 : decode cX6_tryWord 112 = .ok (.aload_n 1, 1) := by decide +kernel
theorem dX6_tryWord_113 : decode cX6_tryWord 113 = .ok (.iload_n 3, 1) := by decide +kernel
theorem dX6_tryWord_114 : decode cX6_tryWord 114 = .ok (.iload 4, 2) := by decide +kernel
theorem dX6_tryWord_116 : decode cX6_tryWord 116 = .ok (.invokevirtual 107, 3) := by decide +kernel
theorem dX6_tryWord_119 : decode cX6_tryWord 119 = .ok (.ifCond .eq 11, 3) := by decide +kernel
theorem dX6_tryWord_122 : decode cX6_tryWord 122 = .ok (.aload_n 0, 1) := by decide +kernel
theorem dX6_tryWord_123 : decode cX6_tryWord 123 = .ok (.aload_n 1, 1) := by decide +kernel
theorem dX6_tryWord_124 : decode cX6_tryWord 124 = .ok (.iload_n 3, 1) := by decide +kernel
theorem dX6_tryWord_125 : decode cX6_tryWord 125 = .ok (.iload 4, 2) := by decide +kernel
theorem dX6_tryWord_127 : decode cX6_tryWord 127 = .ok (.invokevirtual 104, 3) := by decide +kernel
theorem dX6_tryWord_130 : decode cX6_tryWord 130 = .ok (.return_, 1) := by decide +kernel
theorem dX6_makeFirst_0 : decode cX6_makeFirst 0 = .ok (.iload_n 2, 1) := by decide +kernel
theorem dX6_makeFirst_1 : decode cX6_makeFirst 1 = .ok (.istore 4, 2) := by decide +kernel
theorem dX6_makeFirst_3 : decode cX6_makeFirst 3 = .ok (.iload 4, 2) := by decide +kernel
theorem dX6_makeFirst_5 : decode cX6_makeFirst 5 = .ok (.aload_n 0, 1) := by decide +kernel
theorem dX6_makeFirst_6 : decode cX6_makeFirst 6 = .ok (.getfield 9, 3) := by decide +kernel
theorem dX6_makeFirst_9 : decode cX6_makeFirst 9 = .ok (.if_icmp .ge 45, 3) := by decide +kernel
theorem dX6_makeFirst_12 : decode cX6_makeFirst 12 = .ok (.aload_n 0, 1) := by decide +kernel
theorem dX6_makeFirst_13 : decode cX6_makeFirst 13 = .ok (.getfield 40, 3) := by decide +kernel
theorem dX6_makeFirst_16 : decode cX6_makeFirst 16 = .ok (.iload_n 2, 1) := by decide +kernel
theorem dX6_makeFirst_17 : decode cX6_makeFirst 17 = .ok (.aaload, 1) := by decide +kernel
theorem dX6_makeFirst_18 : decode cX6_makeFirst 18 = .ok (.iload 4, 2) := by decide +kernel
theorem dX6_makeFirst_20 : decode cX6_makeFirst 20 = .ok (.iload 4, 2) := by decide +kernel
theorem dX6_makeFirst_22 : decode cX6_makeFirst 22 = .ok (.iload_n 3, 1) := by decide +kernel
theorem dX6_makeFirst_23 : decode cX6_makeFirst 23 = .ok (.if_icmp .ge 15, 3) := by decide +kernel
theorem dX6_makeFirst_26 : decode cX6_makeFirst 26 = .ok (.aload_n 1, 1) := by decide +kernel
theorem dX6_makeFirst_27 : decode cX6_makeFirst 27 = .ok (.getfield 91, 3) := by decide +kernel
theorem dX6_makeFirst_30 : decode cX6_makeFirst 30 = .ok (.iload 4, 2) := by decide +kernel
theorem dX6_makeFirst_32 : decode cX6_makeFirst 32 = .ok (.iload_n 2, 1) := by decide +kernel
theorem dX6_makeFirst_33 : decode cX6_makeFirst 33 = .ok (.isub, 1) := by decide +kernel
theorem dX6_makeFirst_34 : decode cX6_makeFirst 34 = .ok (.iaload, 1) := by decide +kernel
theorem dX6_makeFirst_35 : decode cX6_makeFirst 35 = .ok (.goto 12, 3) := by decide +kernel
theorem dX6_makeFirst_38 : decode cX6_makeFirst 38 = .ok (.aload_n 0, 1) := by decide +kernel
theorem dX6_makeFirst_39 : decode cX6_makeFirst 39 = .ok (.getfield 40, 3) := by decide +kernel
theorem dX6_makeFirst_42 : decode cX6_makeFirst 42 = .ok (.iload_n 3, 1) := by decide +kernel
theorem dX6_makeFirst_43 : decode cX6_makeFirst 43 = .ok (.aaload, 1) := by decide +kernel
theorem dX6_makeFirst_44 : decode cX6_makeFirst 44 = .ok (.iload 4, 2) := by decide +kernel
theorem dX6_makeFirst_46 : decode cX6_makeFirst 46 = .ok (.iaload, 1) := by decide +kernel
theorem dX6_makeFirst_47 : decode cX6_makeFirst 47 = .ok (.iastore, 1) := by decide +kernel
theorem dX6_makeFirst_48 : decode cX6_makeFirst 48 = .ok (.iinc 4 1, 3) := by decide +kernel
theorem dX6_makeFirst_51 : decode cX6_makeFirst 51 = .ok (.goto (-48), 3) := by decide +kernel
theorem dX6_makeFirst_54 : decode cX6_makeFirst 54 = .ok (.return_, 1) := by decide +kernel
theorem dX6_isLower_0 : decode cX6_isLower 0 = .ok (.iload_n 2, 1) := by decide +kernel
theorem dX6_isLower_1 : decode cX6_isLower 1 = .ok (.istore 4, 2) := by decide +kernel
theorem dX6_isLower_3 : decode cX6_isLower 3 = .ok (.iload 4, 2) := by decide +kernel
theorem dX6_isLower_5 : decode cX6_isLower 5 = .ok (.aload_n 0, 1) := by decide +kernel
theorem dX6_isLower_6 : decode cX6_isLower 6 = .ok (.getfield 9, 3) := by decide +kernel
theorem dX6_isLower_9 : decode cX6_isLower 9 = .ok (.if_icmp .ge 72, 3) := by decide +kernel
theorem dX6_isLower_12 : decode cX6_isLower 12 = .ok (.iload 4, 2) := by decide +kernel
theorem dX6_isLower_14 : decode cX6_isLower 14 = .ok (.iload_n 3, 1) := by decide +kernel
theorem dX6_isLower_15 : decode cX6_isLower 15 = .ok (.if_icmp .ge 15, 3) := by decide +kernel
theorem dX6_isLower_18 : decode cX6_isLower 18 = .ok (.aload_n 1, 1) := by decide +kernel
theorem dX6_isLower_19 : decode cX6_isLower 19 = .ok (.getfield 91, 3) := by decide +kernel
theorem dX6_isLower_22 : decode cX6_isLower 22 = .ok (.iload 4, 2) := by decide +kernel
theorem dX6_isLower_24 : decode cX6_isLower 24 = .ok (.iload_n 2, 1) := by decide +kernel
theorem dX6_isLower_25 : decode cX6_isLower 25 = .ok (.isub, 1) := by decide +kernel
theorem dX6_isLower_26 : decode cX6_isLower 26 = .ok (.iaload, 1) := by decide +kernel
theorem dX6_isLower_27 : decode cX6_isLower 27 = .ok (.goto 12, 3) := by decide +kernel
theorem dX6_isLower_30 : decode cX6_isLower 30 = .ok (.aload_n 0, 1) := by decide +kernel
theorem dX6_isLower_31 : decode cX6_isLower 31 = .ok (.getfield 40, 3) := by decide +kernel
theorem dX6_isLower_34 : decode cX6_isLower 34 = .ok (.iload_n 3, 1) := by decide +kernel
theorem dX6_isLower_35 : decode cX6_isLower 35 = .ok (.aaload, 1) := by decide +kernel
theorem dX6_isLower_36 : decode cX6_isLower 36 = .ok (.iload 4, 2) := by decide +kernel
theorem dX6_isLower_38 : decode cX6_isLower 38 = .ok (.iaload, 1) := by decide +kernel
theorem dX6_isLower_39 : decode cX6_isLower 39 = .ok (.istore 5, 2) := by decide +kernel
theorem dX6_isLower_41 : decode cX6_isLower 41 = .ok (.iload 5, 2) := by decide +kernel
theorem dX6_isLower_43 : decode cX6_isLower 43 = .ok (.aload_n 0, 1) := by decide +kernel
theorem dX6_isLower_44 : decode cX6_isLower 44 = .ok (.getfield 40, 3) := by decide +kernel
theorem dX6_isLower_47 : decode cX6_isLower 47 = .ok (.iload_n 2, 1) := by decide +kernel
theorem dX6_isLower_48 : decode cX6_isLower 48 = .ok (.aaload, 1) := by decide +kernel
theorem dX6_isLower_49 : decode cX6_isLower 49 = .ok (.iload 4, 2) := by decide +kernel
theorem dX6_isLower_51 : decode cX6_isLower 51 = .ok (.iaload, 1) := by decide +kernel
theorem dX6_isLower_52 : decode cX6_isLower 52 = .ok (.if_icmp .eq 23, 3) := by decide +kernel
theorem dX6_isLower_55 : decode cX6_isLower 55 = .ok (.iload 5, 2) := by decide +kernel
theorem dX6_isLower_57 : decode cX6_isLower 57 = .ok (.aload_n 0, 1) := by decide +kernel
theorem dX6_isLower_58 : decode cX6_isLower 58 = .ok (.getfield 40, 3) := by decide +kernel
theorem dX6_isLower_61 : decode cX6_isLower 61 = .ok (.iload_n 2, 1) := by decide +kernel
theorem dX6_isLower_62 : decode cX6_isLower 62 = .ok (.aaload, 1) := by decide +kernel
theorem dX6_isLower_63 : decode cX6_isLower 63 = .ok (.iload 4, 2) := by decide +kernel
theorem dX6_isLower_65 : decode cX6_isLower 65 = .ok (.iaload, 1) := by decide +kernel
theorem dX6_isLower_66 : decode cX6_isLower 66 = .ok (.if_icmp .ge 7, 3) := by decide +kernel
theorem dX6_isLower_69 : decode cX6_isLower 69 = .ok (.iconst 1, 1) := by decide +kernel
theorem dX6_isLower_70 : decode cX6_isLower 70 = .ok (.goto 4, 3) := by decide +kernel
theorem dX6_isLower_73 : decode cX6_isLower 73 = .ok (.iconst 0, 1) := by decide +kernel
theorem dX6_isLower_74 : decode cX6_isLower 74 = .ok (.ireturn, 1) := by decide +kernel
theorem dX6_isLower_75 : decode cX6_isLower 75 = .ok (.iinc 4 1, 3) := by decide +kernel
theorem dX6_isLower_78 : decode cX6_isLower 78 = .ok (.goto (-75), 3) := by decide +kernel
theorem dX6_isLower_81 : decode cX6_isLower 81 = .ok (.iconst 0, 1) := by decide +kernel
theorem dX6_isLower_82 : decode cX6_isLower 82 = .ok (.ireturn, 1) := by decide +kernel
theorem dX6_gatherLetters_0 : decode cX6_gatherLetters 0 = .ok (.aload_n 0, 1) := by decide +kernel
theorem dX6_gatherLetters_1 : decode cX6_gatherLetters 1 = .ok (.getfield 29, 3) := by decide +kernel
theorem dX6_gatherLetters_4 : decode cX6_gatherLetters 4 = .ok (.iconst (-1), 1) := by decide +kernel
theorem dX6_gatherLetters_5 : decode cX6_gatherLetters 5 = .ok (.invokestatic 55, 3) := by decide +kernel
theorem dX6_gatherLetters_8 : decode cX6_gatherLetters 8 = .ok (.aload_n 0, 1) := by decide +kernel
theorem dX6_gatherLetters_9 : decode cX6_gatherLetters 9 = .ok (.getfield 43, 3) := by decide +kernel
theorem dX6_gatherLetters_12 : decode cX6_gatherLetters 12 = .ok (.iconst 0, 1) := by decide +kernel
theorem dX6_gatherLetters_13 : decode cX6_gatherLetters 13 = .ok (.invokestatic 55, 3) := by decide +kernel
theorem dX6_gatherLetters_16 : decode cX6_gatherLetters 16 = .ok (.aload_n 0, 1) := by decide +kernel
theorem dX6_gatherLetters_17 : decode cX6_gatherLetters 17 = .ok (.getfield 29, 3) := by decide +kernel
theorem dX6_gatherLetters_20 : decode cX6_gatherLetters 20 = .ok (.iconst 0, 1) := by decide +kernel
theorem dX6_gatherLetters_21 : decode cX6_gatherLetters 21 = .ok (.iconst 0, 1) := by decide +kernel
theorem dX6_gatherLetters_22 : decode cX6_gatherLetters 22 = .ok (.iastore, 1) := by decide +kernel
theorem dX6_gatherLetters_23 : decode cX6_gatherLetters 23 = .ok (.iconst 0, 1) := by decide +kernel
theorem dX6_gatherLetters_24 : decode cX6_gatherLetters 24 = .ok (.istore_n 2, 1) := by decide +kernel
theorem dX6_gatherLetters_25 : decode cX6_gatherLetters 25 = .ok (.iload_n 2, 1) := by decide +kernel
theorem dX6_gatherLetters_26 : decode cX6_gatherLetters 26 = .ok (.aload_n 0, 1) := by decide +kernel
theorem dX6_gatherLetters_27 : decode cX6_gatherLetters 27 = .ok (.getfield 9, 3) := by decide +kernel
theorem dX6_gatherLetters_30 : decode cX6_gatherLetters 30 = .ok (.if_icmp .ge 114, 3) := by decide +kernel
theorem dX6_gatherLetters_33 : decode cX6_gatherLetters 33 = .ok (.aload_n 0, 1) := by decide +kernel
theorem dX6_gatherLetters_34 : decode cX6_gatherLetters 34 = .ok (.getfield 29, 3) := by decide +kernel
theorem dX6_gatherLetters_37 : decode cX6_gatherLetters 37 = .ok (.iload_n 2, 1) := by decide +kernel
theorem dX6_gatherLetters_38 : decode cX6_gatherLetters 38 = .ok (.iaload, 1) := by decide +kernel
theorem dX6_gatherLetters_39 : decode cX6_gatherLetters 39 = .ok (.iconst (-1), 1) := by decide +kernel
theorem dX6_gatherLetters_40 : decode cX6_gatherLetters 40 = .ok (.if_icmp .ne 6, 3) := by decide +kernel
theorem dX6_gatherLetters_43 : decode cX6_gatherLetters 43 = .ok (.goto 95, 3) := by decide +kernel
theorem dX6_gatherLetters_46 : decode cX6_gatherLetters 46 = .ok (.aload_n 0, 1) := by decide +kernel
theorem dX6_gatherLetters_47 : decode cX6_gatherLetters 47 = .ok (.getfield 15, 3) := by decide +kernel
theorem dX6_gatherLetters_50 : decode cX6_gatherLetters 50 = .ok (.iload_n 2, 1) := by decide +kernel
theorem dX6_gatherLetters_51 : decode cX6_gatherLetters 51 = .ok (.baload, 1) := by decide +kernel
theorem dX6_gatherLetters_52 : decode cX6_gatherLetters 52 = .ok (.ifCond .eq 28, 3) := by decide +kernel
theorem dX6_gatherLetters_55 : decode cX6_gatherLetters 55 = .ok (.aload_n 0, 1) := by decide +kernel
theorem dX6_gatherLetters_56 : decode cX6_gatherLetters 56 = .ok (.getfield 29, 3) := by decide +kernel
theorem dX6_gatherLetters_59 : decode cX6_gatherLetters 59 = .ok (.iload_n 2, 1) := by decide +kernel
theorem dX6_gatherLetters_60 : decode cX6_gatherLetters 60 = .ok (.iconst 1, 1) := by decide +kernel
theorem dX6_gatherLetters_61 : decode cX6_gatherLetters 61 = .ok (.iadd, 1) := by decide +kernel
theorem dX6_gatherLetters_62 : decode cX6_gatherLetters 62 = .ok (.aload_n 0, 1) := by decide +kernel
theorem dX6_gatherLetters_63 : decode cX6_gatherLetters 63 = .ok (.getfield 29, 3) := by decide +kernel
theorem dX6_gatherLetters_66 : decode cX6_gatherLetters 66 = .ok (.iload_n 2, 1) := by decide +kernel
theorem dX6_gatherLetters_67 : decode cX6_gatherLetters 67 = .ok (.iconst 1, 1) := by decide +kernel
theorem dX6_gatherLetters_68 : decode cX6_gatherLetters 68 = .ok (.iadd, 1) := by decide +kernel
theorem dX6_gatherLetters_69 : decode cX6_gatherLetters 69 = .ok (.iaload, 1) := by decide +kernel
theorem dX6_gatherLetters_70 : decode cX6_gatherLetters 70 = .ok (.aload_n 0, 1) := by decide +kernel
theorem dX6_gatherLetters_71 : decode cX6_gatherLetters 71 = .ok (.getfield 29, 3) := by decide +kernel
theorem dX6_gatherLetters_74 : decode cX6_gatherLetters 74 = .ok (.iload_n 2, 1) := by decide +kernel
theorem dX6_gatherLetters_75 : decode cX6_gatherLetters 75 = .ok (.iaload, 1) := by decide +kernel
theorem dX6_gatherLetters_76 : decode cX6_gatherLetters 76 = .ok (.invokestatic 111, 3) := by decide +kernel
theorem dX6_gatherLetters_79 : decode cX6_gatherLetters 79 = .ok (.iastore, 1) := by decide +kernel
theorem dX6_gatherLetters_80 : decode cX6_gatherLetters 80 = .ok (.iconst 0, 1) := by decide +kernel
theorem dX6_gatherLetters_81 : decode cX6_gatherLetters 81 = .ok (.istore_n 3, 1) := by decide +kernel
theorem dX6_gatherLetters_82 : decode cX6_gatherLetters 82 = .ok (.iload_n 3, 1) := by decide +kernel
theorem dX6_gatherLetters_83 : decode cX6_gatherLetters 83 = .ok (.bipush 12, 2) := by decide +kernel
theorem dX6_gatherLetters_85 : decode cX6_gatherLetters 85 = .ok (.if_icmp .ge 53, 3) := by decide +kernel
theorem dX6_gatherLetters_88 : decode cX6_gatherLetters 88 = .ok (.iload_n 3, 1) := by decide +kernel
theorem dX6_gatherLetters_89 : decode cX6_gatherLetters 89 = .ok (.aload_n 1, 1) := by decide +kernel
theorem dX6_gatherLetters_90 : decode cX6_gatherLetters 90 = .ok (.arraylength, 1) := by decide +kernel
theorem dX6_gatherLetters_91 : decode cX6_gatherLetters 91 = .ok (.if_icmp .ge 47, 3) := by decide +kernel
theorem dX6_gatherLetters_94 : decode cX6_gatherLetters 94 = .ok (.aload_n 1, 1) := by decide +kernel
theorem dX6_gatherLetters_95 : decode cX6_gatherLetters 95 = .ok (.iload_n 3, 1) := by decide +kernel
theorem dX6_gatherLetters_96 : decode cX6_gatherLetters 96 = .ok (.aaload, 1) := by decide +kernel
theorem dX6_gatherLetters_97 : decode cX6_gatherLetters 97 = .ok (.astore 4, 2) := by decide +kernel
theorem dX6_gatherLetters_99 : decode cX6_gatherLetters 99 = .ok (.aload_n 0, 1) := by decide +kernel
theorem dX6_gatherLetters_100 : decode cX6_gatherLetters 100 = .ok (.getfield 26, 3) := by decide +kernel
theorem dX6_gatherLetters_103 : decode cX6_gatherLetters 103 = .ok (.iload_n 2, 1) := by decide +kernel
theorem dX6_gatherLetters_104 : decode cX6_gatherLetters 104 = .ok (.bipush 12, 2) := by decide +kernel
theorem dX6_gatherLetters_106 : decode cX6_gatherLetters 106 = .ok (.imul, 1) := by decide +kernel
theorem dX6_gatherLetters_107 : decode cX6_gatherLetters 107 = .ok (.iload_n 3, 1) := by decide +kernel
theorem dX6_gatherLetters_108 : decode cX6_gatherLetters 108 = .ok (.iadd, 1) := by decide +kernel
theorem dX6_gatherLetters_109 : decode cX6_gatherLetters 109 = .ok (.iaload, 1) := by decide +kernel
theorem dX6_gatherLetters_110 : decode cX6_gatherLetters 110 = .ok (.istore 5, 2) := by decide +kernel
theorem dX6_gatherLetters_112 : decode cX6_gatherLetters 112 = .ok (.aload 4, 2) := by decide +kernel
theorem dX6_gatherLetters_114 : decode cX6_gatherLetters 114 = .ok (.ifnull 18, 3) := by decide +kernel
theorem dX6_gatherLetters_117 : decode cX6_gatherLetters 117 = .ok (.iload 5, 2) := by decide +kernel
theorem dX6_gatherLetters_119 : decode cX6_gatherLetters 119 = .ok (.iconst (-1), 1) := by decide +kernel
theorem dX6_gatherLetters_120 : decode cX6_gatherLetters 120 = .ok (.if_icmp .eq 12, 3) := by decide +kernel
theorem dX6_gatherLetters_123 : decode cX6_gatherLetters 123 = .ok (.aload_n 0, 1) := by decide +kernel
theorem dX6_gatherLetters_124 : decode cX6_gatherLetters 124 = .ok (.aload 4, 2) := by decide +kernel
theorem dX6_gatherLetters_126 : decode cX6_gatherLetters 126 = .ok (.iload 5, 2) := by decide +kernel
theorem dX6_gatherLetters_128 : decode cX6_gatherLetters 128 = .ok (.iload_n 2, 1) := by decide +kernel
theorem dX6_gatherLetters_129 : decode cX6_gatherLetters 129 = .ok (.invokevirtual 114, 3) := by decide +kernel
theorem dX6_gatherLetters_132 : decode cX6_gatherLetters 132 = .ok (.iinc 3 1, 3) := by decide +kernel
theorem dX6_gatherLetters_135 : decode cX6_gatherLetters 135 = .ok (.goto (-53), 3) := by decide +kernel
theorem dX6_gatherLetters_138 : decode cX6_gatherLetters 138 = .ok (.iinc 2 1, 3) := by decide +kernel
theorem dX6_gatherLetters_141 : decode cX6_gatherLetters 141 = .ok (.goto (-116), 3) := by decide +kernel
theorem dX6_gatherLetters_144 : decode cX6_gatherLetters 144 = .ok (.return_, 1) := by decide +kernel
theorem dX6_gatherWord_0 : decode cX6_gatherWord 0 = .ok (.iload_n 3, 1) := by decide +kernel
theorem dX6_gatherWord_1 : decode cX6_gatherWord 1 = .ok (.aload_n 1, 1) := by decide +kernel
theorem dX6_gatherWord_2 : decode cX6_gatherWord 2 = .ok (.getfield 86, 3) := by decide +kernel
theorem dX6_gatherWord_5 : decode cX6_gatherWord 5 = .ok (.iadd, 1) := by decide +kernel
theorem dX6_gatherWord_6 : decode cX6_gatherWord 6 = .ok (.istore 4, 2) := by decide +kernel
theorem dX6_gatherWord_8 : decode cX6_gatherWord 8 = .ok (.iload 4, 2) := by decide +kernel
theorem dX6_gatherWord_10 : decode cX6_gatherWord 10 = .ok (.aload_n 0, 1) := by decide +kernel
theorem dX6_gatherWord_11 : decode cX6_gatherWord 11 = .ok (.getfield 9, 3) := by decide +kernel
theorem dX6_gatherWord_14 : decode cX6_gatherWord 14 = .ok (.if_icmp .le 4, 3) := by decide +kernel
theorem dX6_gatherWord_17 : decode cX6_gatherWord 17 = .ok (.return_, 1) := by decide +kernel
theorem dX6_gatherWord_18 : decode cX6_gatherWord 18 = .ok (.aload_n 0, 1) := by decide +kernel
theorem dX6_gatherWord_19 : decode cX6_gatherWord 19 = .ok (.getfield 29, 3) := by decide +kernel
theorem dX6_gatherWord_22 : decode cX6_gatherWord 22 = .ok (.iload_n 3, 1) := by decide +kernel
theorem dX6_gatherWord_23 : decode cX6_gatherWord 23 = .ok (.iaload, 1) := by decide +kernel
theorem dX6_gatherWord_24 : decode cX6_gatherWord 24 = .ok (.iload_n 2, 1) := by decide +kernel
theorem dX6_gatherWord_25 : decode cX6_gatherWord 25 = .ok (.iadd, 1) := by decide +kernel
theorem dX6_gatherWord_26 : decode cX6_gatherWord 26 = .ok (.istore 5, 2) := by decide +kernel
theorem dX6_gatherWord_28 : decode cX6_gatherWord 28 = .ok (.aload_n 0, 1) := by decide +kernel
theorem dX6_gatherWord_29 : decode cX6_gatherWord 29 = .ok (.getfield 29, 3) := by decide +kernel
theorem dX6_gatherWord_32 : decode cX6_gatherWord 32 = .ok (.iload 4, 2) := by decide +kernel
theorem dX6_gatherWord_34 : decode cX6_gatherWord 34 = .ok (.aload_n 0, 1) := by decide +kernel
theorem dX6_gatherWord_35 : decode cX6_gatherWord 35 = .ok (.getfield 29, 3) := by decide +kernel
theorem dX6_gatherWord_38 : decode cX6_gatherWord 38 = .ok (.iload 4, 2) := by decide +kernel
theorem dX6_gatherWord_40 : decode cX6_gatherWord 40 = .ok (.iaload, 1) := by decide +kernel
theorem dX6_gatherWord_41 : decode cX6_gatherWord 41 = .ok (.iload 5, 2) := by decide +kernel
theorem dX6_gatherWord_43 : decode cX6_gatherWord 43 = .ok (.invokestatic 111, 3) := by decide +kernel
theorem dX6_gatherWord_46 : decode cX6_gatherWord 46 = .ok (.iastore, 1) := by decide +kernel
theorem dX6_gatherWord_47 : decode cX6_gatherWord 47 = .ok (.aload_n 0, 1) := by decide +kernel
theorem dX6_gatherWord_48 : decode cX6_gatherWord 48 = .ok (.getfield 32, 3) := by decide +kernel
theorem dX6_gatherWord_51 : decode cX6_gatherWord 51 = .ok (.iload 4, 2) := by decide +kernel
theorem dX6_gatherWord_53 : decode cX6_gatherWord 53 = .ok (.iaload, 1) := by decide +kernel
theorem dX6_gatherWord_54 : decode cX6_gatherWord 54 = .ok (.iconst (-1), 1) := by decide +kernel
theorem dX6_gatherWord_55 : decode cX6_gatherWord 55 = .ok (.if_icmp .eq 22, 3) := by decide +kernel
theorem dX6_gatherWord_58 : decode cX6_gatherWord 58 = .ok (.iload 5, 2) := by decide +kernel
theorem dX6_gatherWord_60 : decode cX6_gatherWord 60 = .ok (.aload_n 0, 1) := by decide +kernel
theorem dX6_gatherWord_61 : decode cX6_gatherWord 61 = .ok (.getfield 32, 3) := by decide +kernel
theorem dX6_gatherWord_64 : decode cX6_gatherWord 64 = .ok (.iload 4, 2) := by decide +kernel
theorem dX6_gatherWord_66 : decode cX6_gatherWord 66 = .ok (.iaload, 1) := by decide +kernel
theorem dX6_gatherWord_67 : decode cX6_gatherWord 67 = .ok (.iadd, 1) := by decide +kernel
theorem dX6_gatherWord_68 : decode cX6_gatherWord 68 = .ok (.aload_n 0, 1) := by decide +kernel
theorem dX6_gatherWord_69 : decode cX6_gatherWord 69 = .ok (.getfield 32, 3) := by decide +kernel
theorem dX6_gatherWord_72 : decode cX6_gatherWord 72 = .ok (.iconst 0, 1) := by decide +kernel
theorem dX6_gatherWord_73 : decode cX6_gatherWord 73 = .ok (.iaload, 1) := by decide +kernel
theorem dX6_gatherWord_74 : decode cX6_gatherWord 74 = .ok (.if_icmp .eq 4, 3) := by decide +kernel
theorem dX6_gatherWord_77 : decode cX6_gatherWord 77 = .ok (.return_, 1) := by decide +kernel
theorem dX6_gatherWord_78 : decode cX6_gatherWord 78 = .ok (.iconst 0, 1) := by decide +kernel
theorem dX6_gatherWord_79 : decode cX6_gatherWord 79 = .ok (.istore 6, 2) := by decide +kernel
theorem dX6_gatherWord_81 : decode cX6_gatherWord 81 = .ok (.iload 6, 2) := by decide +kernel
theorem dX6_gatherWord_83 : decode cX6_gatherWord 83 = .ok (.aload_n 1, 1) := by decide +kernel
theorem dX6_gatherWord_84 : decode cX6_gatherWord 84 = .ok (.getfield 86, 3) := by decide +kernel
theorem dX6_gatherWord_87 : decode cX6_gatherWord 87 = .ok (.if_icmp .ge 30, 3) := by decide +kernel
theorem dX6_gatherWord_90 : decode cX6_gatherWord 90 = .ok (.aload_n 0, 1) := by decide +kernel
theorem dX6_gatherWord_91 : decode cX6_gatherWord 91 = .ok (.getfield 43, 3) := by decide +kernel
theorem dX6_gatherWord_94 : decode cX6_gatherWord 94 = .ok (.iload_n 3, 1) := by decide +kernel
theorem dX6_gatherWord_95 : decode cX6_gatherWord 95 = .ok (.iload 6, 2) := by decide +kernel
theorem dX6_gatherWord_97 : decode cX6_gatherWord 97 = .ok (.iadd, 1) := by decide +kernel
theorem dX6_gatherWord_98 : decode cX6_gatherWord 98 = .ok (.dup2, 1) := by decide +kernel
theorem dX6_gatherWord_99 : decode cX6_gatherWord 99 = .ok (.iaload, 1) := by decide +kernel
theorem dX6_gatherWord_100 : decode cX6_gatherWord 100 = .ok (.iconst 1, 1) := by decide +kernel
theorem dX6_gatherWord_101 : decode cX6_gatherWord 101 = .ok (.aload_n 1, 1) := by decide +kernel
theorem dX6_gatherWord_102 : decode cX6_gatherWord 102 = .ok (.getfield 91, 3) := by decide +kernel
theorem dX6_gatherWord_105 : decode cX6_gatherWord 105 = .ok (.iload 6, 2) := by decide +kernel
theorem dX6_gatherWord_107 : decode cX6_gatherWord 107 = .ok (.iaload, 1) := by decide +kernel
theorem dX6_gatherWord_108 : decode cX6_gatherWord 108 = .ok (.ishl, 1) := by decide +kernel
theorem dX6_gatherWord_109 : decode cX6_gatherWord 109 = .ok (.ior, 1) := by decide +kernel
theorem dX6_gatherWord_110 : decode cX6_gatherWord 110 = .ok (.iastore, 1) := by decide +kernel
theorem dX6_gatherWord_111 : decode cX6_gatherWord 111 = .ok (.iinc 6 1, 3) := by decide +kernel
theorem dX6_gatherWord_114 : decode cX6_gatherWord 114 = .ok (.goto (-33), 3) := by decide +kernel
theorem dX6_gatherWord_117 : decode cX6_gatherWord 117 = .ok (.return_, 1) := by decide +kernel
theorem dX6_standing_0 : decode cX6_standing 0 = .ok (.iload_n 1, 1) := by decide +kernel
theorem dX6_standing_1 : decode cX6_standing 1 = .ok (.ifCond .lt 21, 3) := by decide +kernel
theorem dX6_standing_4 : decode cX6_standing 4 = .ok (.iload_n 1, 1) := by decide +kernel
theorem dX6_standing_5 : decode cX6_standing 5 = .ok (.aload_n 0, 1) := by decide +kernel
theorem dX6_standing_6 : decode cX6_standing 6 = .ok (.getfield 9, 3) := by decide +kernel
theorem dX6_standing_9 : decode cX6_standing 9 = .ok (.if_icmp .ge 13, 3) := by decide +kernel
theorem dX6_standing_12 : decode cX6_standing 12 = .ok (.aload_n 0, 1) := by decide +kernel
theorem dX6_standing_13 : decode cX6_standing 13 = .ok (.getfield 32, 3) := by decide +kernel
theorem dX6_standing_16 : decode cX6_standing 16 = .ok (.iconst 0, 1) := by decide +kernel
theorem dX6_standing_17 : decode cX6_standing 17 = .ok (.iaload, 1) := by decide +kernel
theorem dX6_standing_18 : decode cX6_standing 18 = .ok (.iconst (-1), 1) := by decide +kernel
theorem dX6_standing_19 : decode cX6_standing 19 = .ok (.if_icmp .ne 5, 3) := by decide +kernel
theorem dX6_standing_22 : decode cX6_standing 22 = .ok (.iconst 0, 1) := by decide +kernel
theorem dX6_standing_23 : decode cX6_standing 23 = .ok (.ireturn, 1) := by decide +kernel
theorem dX6_standing_24 : decode cX6_standing 24 = .ok (.aload_n 0, 1) := by decide +kernel
theorem dX6_standing_25 : decode cX6_standing 25 = .ok (.getfield 15, 3) := by decide +kernel
theorem dX6_standing_28 : decode cX6_standing 28 = .ok (.iload_n 1, 1) := by decide +kernel
theorem dX6_standing_29 : decode cX6_standing 29 = .ok (.baload, 1) := by decide +kernel
theorem dX6_standing_30 : decode cX6_standing 30 = .ok (.ifCond .eq 5, 3) := by decide +kernel
theorem dX6_standing_33 : decode cX6_standing 33 = .ok (.iconst 1, 1) := by decide +kernel
theorem dX6_standing_34 : decode cX6_standing 34 = .ok (.ireturn, 1) := by decide +kernel
theorem dX6_standing_35 : decode cX6_standing 35 = .ok (.aload_n 0, 1) := by decide +kernel
theorem dX6_standing_36 : decode cX6_standing 36 = .ok (.getfield 43, 3) := by decide +kernel
theorem dX6_standing_39 : decode cX6_standing 39 = .ok (.iload_n 1, 1) := by decide +kernel
theorem dX6_standing_40 : decode cX6_standing 40 = .ok (.iaload, 1) := by decide +kernel
theorem dX6_standing_41 : decode cX6_standing 41 = .ok (.invokestatic 117, 3) := by decide +kernel
theorem dX6_standing_44 : decode cX6_standing 44 = .ok (.iconst 1, 1) := by decide +kernel
theorem dX6_standing_45 : decode cX6_standing 45 = .ok (.if_icmp .le 5, 3) := by decide +kernel
theorem dX6_standing_48 : decode cX6_standing 48 = .ok (.iconst 5, 1) := by decide +kernel
theorem dX6_standing_49 : decode cX6_standing 49 = .ok (.ireturn, 1) := by decide +kernel
theorem dX6_standing_50 : decode cX6_standing 50 = .ok (.aload_n 0, 1) := by decide +kernel
theorem dX6_standing_51 : decode cX6_standing 51 = .ok (.getfield 19, 3) := by decide +kernel
theorem dX6_standing_54 : decode cX6_standing 54 = .ok (.iload_n 1, 1) := by decide +kernel
theorem dX6_standing_55 : decode cX6_standing 55 = .ok (.iaload, 1) := by decide +kernel
theorem dX6_standing_56 : decode cX6_standing 56 = .ok (.ifCond .ne 5, 3) := by decide +kernel
theorem dX6_standing_59 : decode cX6_standing 59 = .ok (.iconst 4, 1) := by decide +kernel
theorem dX6_standing_60 : decode cX6_standing 60 = .ok (.ireturn, 1) := by decide +kernel
theorem dX6_standing_61 : decode cX6_standing 61 = .ok (.aload_n 0, 1) := by decide +kernel
theorem dX6_standing_62 : decode cX6_standing 62 = .ok (.getfield 19, 3) := by decide +kernel
theorem dX6_standing_65 : decode cX6_standing 65 = .ok (.iload_n 1, 1) := by decide +kernel
theorem dX6_standing_66 : decode cX6_standing 66 = .ok (.iaload, 1) := by decide +kernel
theorem dX6_standing_67 : decode cX6_standing 67 = .ok (.iconst 1, 1) := by decide +kernel
theorem dX6_standing_68 : decode cX6_standing 68 = .ok (.if_icmp .ne 7, 3) := by decide +kernel
theorem dX6_standing_71 : decode cX6_standing 71 = .ok (.iconst 2, 1) := by decide +kernel
theorem dX6_standing_72 : decode cX6_standing 72 = .ok (.goto 4, 3) := by decide +kernel
theorem dX6_standing_75 : decode cX6_standing 75 = .ok (.iconst 3, 1) := by decide +kernel
theorem dX6_standing_76 : decode cX6_standing 76 = .ok (.ireturn, 1) := by decide +kernel
theorem dX7_init_0 : decode cX7_init 0 = .ok (.aload_n 0, 1) := by decide +kernel
theorem dX7_init_1 : decode cX7_init 1 = .ok (.invokespecial 3, 3) := by decide +kernel
theorem dX7_init_4 : decode cX7_init 4 = .ok (.aload_n 0, 1) := by decide +kernel
theorem dX7_init_5 : decode cX7_init 5 = .ok (.iconst 0, 1) := by decide +kernel
theorem dX7_init_6 : decode cX7_init 6 = .ok (.putfield 9, 3) := by decide +kernel
theorem dX7_init_9 : decode cX7_init 9 = .ok (.aload_n 0, 1) := by decide +kernel
theorem dX7_init_10 : decode cX7_init 10 = .ok (.iconst 0, 1) := by decide +kernel
theorem dX7_init_11 : decode cX7_init 11 = .ok (.putfield 15, 3) := by decide +kernel
theorem dX7_init_14 : decode cX7_init 14 = .ok (.aload_n 0, 1) := by decide +kernel
theorem dX7_init_15 : decode cX7_init 15 = .ok (.bipush 10, 2) := by decide +kernel
theorem dX7_init_17 : decode cX7_init 17 = .ok (.newarray .int, 2) := by decide +kernel
theorem dX7_init_19 : decode cX7_init 19 = .ok (.putfield 19, 3) := by decide +kernel
theorem dX7_init_22 : decode cX7_init 22 = .ok (.aload_n 0, 1) := by decide +kernel
theorem dX7_init_23 : decode cX7_init 23 = .ok (.bipush 100, 2) := by decide +kernel
theorem dX7_init_25 : decode cX7_init 25 = .ok (.newarray .int, 2) := by decide +kernel
theorem dX7_init_27 : decode cX7_init 27 = .ok (.putfield 23, 3) := by decide +kernel
theorem dX7_init_30 : decode cX7_init 30 = .ok (.aload_n 0, 1) := by decide +kernel
theorem dX7_init_31 : decode cX7_init 31 = .ok (.bipush 120, 2) := by decide +kernel
theorem dX7_init_33 : decode cX7_init 33 = .ok (.newarray .int, 2) := by decide +kernel
theorem dX7_init_35 : decode cX7_init 35 = .ok (.putfield 26, 3) := by decide +kernel
theorem dX7_init_38 : decode cX7_init 38 = .ok (.aload_n 0, 1) := by decide +kernel
theorem dX7_init_39 : decode cX7_init 39 = .ok (.bipush 12, 2) := by decide +kernel
theorem dX7_init_41 : decode cX7_init 41 = .ok (.anewarray 29, 3) := by decide +kernel
theorem dX7_init_44 : decode cX7_init 44 = .ok (.putfield 31, 3) := by decide +kernel
theorem dX7_init_47 : decode cX7_init 47 = .ok (.aload_n 0, 1) := by decide +kernel
theorem dX7_init_48 : decode cX7_init 48 = .ok (.iconst 0, 1) := by decide +kernel
theorem dX7_init_49 : decode cX7_init 49 = .ok (.putfield 35, 3) := by decide +kernel
theorem dX7_init_52 : decode cX7_init 52 = .ok (.aload_n 0, 1) := by decide +kernel
theorem dX7_init_53 : decode cX7_init 53 = .ok (.iconst 0, 1) := by decide +kernel
theorem dX7_init_54 : decode cX7_init 54 = .ok (.anewarray 38, 3) := by decide +kernel
theorem dX7_init_57 : decode cX7_init 57 = .ok (.putfield 40, 3) := by decide +kernel
theorem dX7_init_60 : decode cX7_init 60 = .ok (.aload_n 0, 1) := by decide +kernel
theorem dX7_init_61 : decode cX7_init 61 = .ok (.iconst 0, 1) := by decide +kernel
theorem dX7_init_62 : decode cX7_init 62 = .ok (.putfield 44, 3) := by decide +kernel
theorem dX7_init_65 : decode cX7_init 65 = .ok (.aload_n 0, 1) := by decide +kernel
theorem dX7_init_66 : decode cX7_init 66 = .ok (.bipush 10, 2) := by decide +kernel
theorem dX7_init_68 : decode cX7_init 68 = .ok (.newarray .int, 2) := by decide +kernel
theorem dX7_init_70 : decode cX7_init 70 = .ok (.putfield 47, 3) := by decide +kernel
theorem dX7_init_73 : decode cX7_init 73 = .ok (.aload_n 0, 1) := by decide +kernel
theorem dX7_init_74 : decode cX7_init 74 = .ok (.bipush 8, 2) := by decide +kernel
theorem dX7_init_76 : decode cX7_init 76 = .ok (.anewarray 38, 3) := by decide +kernel
theorem dX7_init_79 : decode cX7_init 79 = .ok (.putfield 50, 3) := by decide +kernel
theorem dX7_init_82 : decode cX7_init 82 = .ok (.aload_n 0, 1) := by decide +kernel
theorem dX7_init_83 : decode cX7_init 83 = .ok (.iload_n 1, 1) := by decide +kernel
theorem dX7_init_84 : decode cX7_init 84 = .ok (.putfield 53, 3) := by decide +kernel
theorem dX7_init_87 : decode cX7_init 87 = .ok (.aload_n 0, 1) := by decide +kernel
theorem dX7_init_88 : decode cX7_init 88 = .ok (.iload_n 2, 1) := by decide +kernel
theorem dX7_init_89 : decode cX7_init 89 = .ok (.putfield 56, 3) := by decide +kernel
theorem dX7_init_92 : decode cX7_init 92 = .ok (.return_, 1) := by decide +kernel
theorem dX7_sparedSeats_0 : decode cX7_sparedSeats 0 = .ok (.aload_n 0, 1) := by decide +kernel
theorem dX7_sparedSeats_1 : decode cX7_sparedSeats 1 = .ok (.getfield 26, 3) := by decide +kernel
theorem dX7_sparedSeats_4 : decode cX7_sparedSeats 4 = .ok (.iload_n 1, 1) := by decide +kernel
theorem dX7_sparedSeats_5 : decode cX7_sparedSeats 5 = .ok (.bipush 10, 2) := by decide +kernel
theorem dX7_sparedSeats_7 : decode cX7_sparedSeats 7 = .ok (.imul, 1) := by decide +kernel
theorem dX7_sparedSeats_8 : decode cX7_sparedSeats 8 = .ok (.iload_n 2, 1) := by decide +kernel
theorem dX7_sparedSeats_9 : decode cX7_sparedSeats 9 = .ok (.iadd, 1) := by decide +kernel
theorem dX7_sparedSeats_10 : decode cX7_sparedSeats 10 = .ok (.iaload, 1) := by decide +kernel
theorem dX7_sparedSeats_11 : decode cX7_sparedSeats 11 = .ok (.ireturn, 1) := by decide +kernel
theorem dX7_make_0 : decode cX7_make 0 = .ok (.aload_n 0, 1) := by decide +kernel
theorem dX7_make_1 : decode cX7_make 1 = .ok (.iconst 0, 1) := by decide +kernel
theorem dX7_make_2 : decode cX7_make 2 = .ok (.putfield 15, 3) := by decide +kernel
theorem dX7_make_5 : decode cX7_make 5 = .ok (.aload_n 0, 1) := by decide +kernel
theorem dX7_make_6 : decode cX7_make 6 = .ok (.getfield 19, 3) := by decide +kernel
theorem dX7_make_9 : decode cX7_make 9 = .ok (.iconst 0, 1) := by decide +kernel
theorem dX7_make_10 : decode cX7_make 10 = .ok (.invokestatic 59, 3) := by decide +kernel
theorem dX7_make_13 : decode cX7_make 13 = .ok (.aload_n 0, 1) := by decide +kernel
theorem dX7_make_14 : decode cX7_make 14 = .ok (.getfield 23, 3) := by decide +kernel
theorem dX7_make_17 : decode cX7_make 17 = .ok (.iconst 0, 1) := by decide +kernel
theorem dX7_make_18 : decode cX7_make 18 = .ok (.invokestatic 59, 3) := by decide +kernel
theorem dX7_make_21 : decode cX7_make 21 = .ok (.aload_n 0, 1) := by decide +kernel
theorem dX7_make_22 : decode cX7_make 22 = .ok (.getfield 26, 3) := by decide +kernel
theorem dX7_make_25 : decode cX7_make 25 = .ok (.iconst 0, 1) := by decide +kernel
theorem dX7_make_26 : decode cX7_make 26 = .ok (.invokestatic 59, 3) := by decide +kernel
theorem dX7_make_29 : decode cX7_make 29 = .ok (.aload_n 0, 1) := by decide +kernel
theorem dX7_make_30 : decode cX7_make 30 = .ok (.getfield 47, 3) := by decide +kernel
theorem dX7_make_33 : decode cX7_make 33 = .ok (.iconst (-1), 1) := by decide +kernel
theorem dX7_make_34 : decode cX7_make 34 = .ok (.invokestatic 59, 3) := by decide +kernel
theorem dX7_make_37 : decode cX7_make 37 = .ok (.aload_n 0, 1) := by decide +kernel
theorem dX7_make_38 : decode cX7_make 38 = .ok (.aload_n 1, 1) := by decide +kernel
theorem dX7_make_39 : decode cX7_make 39 = .ok (.getfield 65, 3) := by decide +kernel
theorem dX7_make_42 : decode cX7_make 42 = .ok (.putfield 40, 3) := by decide +kernel
theorem dX7_make_45 : decode cX7_make 45 = .ok (.aload_n 0, 1) := by decide +kernel
theorem dX7_make_46 : decode cX7_make 46 = .ok (.iconst 2, 1) := by decide +kernel
theorem dX7_make_47 : decode cX7_make 47 = .ok (.aload_n 1, 1) := by decide +kernel
theorem dX7_make_48 : decode cX7_make 48 = .ok (.getfield 68, 3) := by decide +kernel
theorem dX7_make_51 : decode cX7_make 51 = .ok (.imul, 1) := by decide +kernel
theorem dX7_make_52 : decode cX7_make 52 = .ok (.bipush 8, 2) := by decide +kernel
theorem dX7_make_54 : decode cX7_make 54 = .ok (.invokestatic 71, 3) := by decide +kernel
theorem dX7_make_57 : decode cX7_make 57 = .ok (.putfield 44, 3) := by decide +kernel
theorem dX7_make_60 : decode cX7_make 60 = .ok (.aload_n 0, 1) := by decide +kernel
theorem dX7_make_61 : decode cX7_make 61 = .ok (.aload_n 2, 1) := by decide +kernel
theorem dX7_make_62 : decode cX7_make 62 = .ok (.invokevirtual 77, 3) := by decide +kernel
theorem dX7_make_65 : decode cX7_make 65 = .ok (.aload_n 0, 1) := by decide +kernel
theorem dX7_make_66 : decode cX7_make 66 = .ok (.iconst 0, 1) := by decide +kernel
theorem dX7_make_67 : decode cX7_make 67 = .ok (.aload_n 1, 1) := by decide +kernel
theorem dX7_make_68 : decode cX7_make 68 = .ok (.getfield 81, 3) := by decide +kernel
theorem dX7_make_71 : decode cX7_make 71 = .ok (.iconst 0, 1) := by decide +kernel
theorem dX7_make_72 : decode cX7_make 72 = .ok (.iconst 0, 1) := by decide +kernel
theorem dX7_make_73 : decode cX7_make 73 = .ok (.iconst (-1), 1) := by decide +kernel
theorem dX7_make_74 : decode cX7_make 74 = .ok (.invokestatic 84, 3) := by decide +kernel
theorem dX7_make_77 : decode cX7_make 77 = .ok (.aload_n 0, 1) := by decide +kernel
theorem dX7_make_78 : decode cX7_make 78 = .ok (.iconst 1, 1) := by decide +kernel
theorem dX7_make_79 : decode cX7_make 79 = .ok (.putfield 9, 3) := by decide +kernel
theorem dX7_make_82 : decode cX7_make 82 = .ok (.return_, 1) := by decide +kernel
theorem dX7_takeFacts_0 : decode cX7_takeFacts 0 = .ok (.aload_n 0, 1) := by decide +kernel
theorem dX7_takeFacts_1 : decode cX7_takeFacts 1 = .ok (.iconst 0, 1) := by decide +kernel
theorem dX7_takeFacts_2 : decode cX7_takeFacts 2 = .ok (.putfield 35, 3) := by decide +kernel
theorem dX7_takeFacts_5 : decode cX7_takeFacts 5 = .ok (.aload_n 1, 1) := by decide +kernel
theorem dX7_takeFacts_6 : decode cX7_takeFacts 6 = .ok (.astore_n 2, 1) := by decide +kernel
theorem dX7_takeFacts_7 : decode cX7_takeFacts 7 = .ok (.aload_n 2, 1) := by decide +kernel
theorem dX7_takeFacts_8 : decode cX7_takeFacts 8 = .ok (.arraylength, 1) := by decide +kernel
theorem dX7_takeFacts_9 : decode cX7_takeFacts 9 = .ok (.istore_n 3, 1) := by decide +kernel
theorem dX7_takeFacts_10 : decode cX7_takeFacts 10 = .ok (.iconst 0, 1) := by decide +kernel
theorem dX7_takeFacts_11 : decode cX7_takeFacts 11 = .ok (.istore 4, 2) := by decide +kernel
theorem dX7_takeFacts_13 : decode cX7_takeFacts 13 = .ok (.iload 4, 2) := by decide +kernel
theorem dX7_takeFacts_15 : decode cX7_takeFacts 15 = .ok (.iload_n 3, 1) := by decide +kernel
theorem dX7_takeFacts_16 : decode cX7_takeFacts 16 = .ok (.if_icmp .ge 82, 3) := by decide +kernel
theorem dX7_takeFacts_19 : decode cX7_takeFacts 19 = .ok (.aload_n 2, 1) := by decide +kernel
theorem dX7_takeFacts_20 : decode cX7_takeFacts 20 = .ok (.iload 4, 2) := by decide +kernel
theorem dX7_takeFacts_22 : decode cX7_takeFacts 22 = .ok (.aaload, 1) := by decide +kernel
theorem dX7_takeFacts_23 : decode cX7_takeFacts 23 = .ok (.astore 5, 2) := by decide +kernel
theorem dX7_takeFacts_25 : decode cX7_takeFacts 25 = .ok (.aload 5, 2) := by decide +kernel
theorem dX7_takeFacts_27 : decode cX7_takeFacts 27 = .ok (.ifnull 65, 3) := by decide +kernel
theorem dX7_takeFacts_30 : decode cX7_takeFacts 30 = .ok (.aload 5, 2) := by decide +kernel
theorem dX7_takeFacts_32 : decode cX7_takeFacts 32 = .ok (.getfield 88, 3) := by decide +kernel
theorem dX7_takeFacts_35 : decode cX7_takeFacts 35 = .ok (.ifCond .eq 57, 3) := by decide +kernel
theorem dX7_takeFacts_38 : decode cX7_takeFacts 38 = .ok (.aload 5, 2) := by decide +kernel
theorem dX7_takeFacts_40 : decode cX7_takeFacts 40 = .ok (.getfield 91, 3) := by decide +kernel
theorem dX7_takeFacts_43 : decode cX7_takeFacts 43 = .ok (.ifCond .ne 13, 3) := by decide +kernel
theorem dX7_takeFacts_46 : decode cX7_takeFacts 46 = .ok (.aload_n 0, 1) := by decide +kernel
theorem dX7_takeFacts_47 : decode cX7_takeFacts 47 = .ok (.getfield 53, 3) := by decide +kernel
theorem dX7_takeFacts_50 : decode cX7_takeFacts 50 = .ok (.ifCond .ne 6, 3) := by decide +kernel
theorem dX7_takeFacts_53 : decode cX7_takeFacts 53 = .ok (.goto 39, 3) := by decide +kernel
theorem dX7_takeFacts_56 : decode cX7_takeFacts 56 = .ok (.aload_n 0, 1) := by decide +kernel
theorem dX7_takeFacts_57 : decode cX7_takeFacts 57 = .ok (.getfield 35, 3) := by decide +kernel
theorem dX7_takeFacts_60 : decode cX7_takeFacts 60 = .ok (.aload_n 0, 1) := by decide +kernel
theorem dX7_takeFacts_61 : decode cX7_takeFacts 61 = .ok (.getfield 31, 3) := by decide +kernel
theorem dX7_takeFacts_64 : decode cX7_takeFacts 64 = .ok (.arraylength, 1) := by decide +kernel
theorem dX7_takeFacts_65 : decode cX7_takeFacts 65 = .ok (.if_icmp .lt 6, 3) := by decide +kernel
theorem dX7_takeFacts_68 : decode cX7_takeFacts 68 = .ok (.goto 24, 3) := by decide +kernel
theorem dX7_takeFacts_71 : decode cX7_takeFacts 71 = .ok (.aload_n 0, 1) := by decide +kernel
theorem dX7_takeFacts_72 : decode cX7_takeFacts 72 = .ok (.getfield 31, 3) := by decide +kernel
theorem dX7_takeFacts_75 : decode cX7_takeFacts 75 = .ok (.aload_n 0, 1) := by decide +kernel
theorem dX7_takeFacts_76 : decode cX7_takeFacts 76 = .ok (.getfield 35, 3) := by decide +kernel
theorem dX7_takeFacts_79 : decode cX7_takeFacts 79 = .ok (.aload 5, 2) := by decide +kernel
theorem dX7_takeFacts_81 : decode cX7_takeFacts 81 = .ok (.aastore, 1) := by decide +kernel
theorem dX7_takeFacts_82 : decode cX7_takeFacts 82 = .ok (.aload_n 0, 1) := by decide +kernel
theorem dX7_takeFacts_83 : decode cX7_takeFacts 83 = .ok (.dup, 1) := by decide +kernel
theorem dX7_takeFacts_84 : decode cX7_takeFacts 84 = .ok (.getfield 35, 3) := by decide +kernel
theorem dX7_takeFacts_87 : decode cX7_takeFacts 87 = .ok (.iconst 1, 1) := by decide +kernel
theorem dX7_takeFacts_88 : decode cX7_takeFacts 88 = .ok (.iadd, 1) := by decide +kernel
theorem dX7_takeFacts_89 : decode cX7_takeFacts 89 = .ok (.putfield 35, 3) := by decide +kernel
theorem dX7_takeFacts_92 : decode cX7_takeFacts 92 = .ok (.iinc 4 1, 3) := by decide +kernel
theorem dX7_takeFacts_95 : decode cX7_takeFacts 95 = .ok (.goto (-82), 3) := by decide +kernel
theorem dX7_takeFacts_98 : decode cX7_takeFacts 98 = .ok (.return_, 1) := by decide +kernel
theorem dX7_seek_0 : decode cX7_seek 0 = .ok (.iload_n 2, 1) := by decide +kernel
theorem dX7_seek_1 : decode cX7_seek 1 = .ok (.ifCond .ne 10, 3) := by decide +kernel
theorem dX7_seek_4 : decode cX7_seek 4 = .ok (.aload_n 0, 1) := by decide +kernel
theorem dX7_seek_5 : decode cX7_seek 5 = .ok (.iload 5, 2) := by decide +kernel
theorem dX7_seek_7 : decode cX7_seek 7 = .ok (.invokevirtual 94, 3) := by decide +kernel
theorem dX7_seek_10 : decode cX7_seek 10 = .ok (.return_, 1) := by decide +kernel
theorem dX7_seek_11 : decode cX7_seek 11 = .ok (.iload_n 1, 1) := by decide +kernel
theorem dX7_seek_12 : decode cX7_seek 12 = .ok (.aload_n 0, 1) := by decide +kernel
theorem dX7_seek_13 : decode cX7_seek 13 = .ok (.getfield 44, 3) := by decide +kernel
theorem dX7_seek_16 : decode cX7_seek 16 = .ok (.if_icmp .ge 13, 3) := by decide +kernel
theorem dX7_seek_19 : decode cX7_seek 19 = .ok (.iload_n 2, 1) := by decide +kernel
theorem dX7_seek_20 : decode cX7_seek 20 = .ok (.aload_n 0, 1) := by decide +kernel
theorem dX7_seek_21 : decode cX7_seek 21 = .ok (.getfield 44, 3) := by decide +kernel
theorem dX7_seek_24 : decode cX7_seek 24 = .ok (.iload_n 1, 1) := by decide +kernel
theorem dX7_seek_25 : decode cX7_seek 25 = .ok (.isub, 1) := by decide +kernel
theorem dX7_seek_26 : decode cX7_seek 26 = .ok (.if_icmp .le 4, 3) := by decide +kernel
theorem dX7_seek_29 : decode cX7_seek 29 = .ok (.return_, 1) := by decide +kernel
theorem dX7_seek_30 : decode cX7_seek 30 = .ok (.aload_n 0, 1) := by decide +kernel
theorem dX7_seek_31 : decode cX7_seek 31 = .ok (.iload_n 1, 1) := by decide +kernel
theorem dX7_seek_32 : decode cX7_seek 32 = .ok (.iconst 1, 1) := by decide +kernel
theorem dX7_seek_33 : decode cX7_seek 33 = .ok (.iadd, 1) := by decide +kernel
theorem dX7_seek_34 : decode cX7_seek 34 = .ok (.iload_n 2, 1) := by decide +kernel
theorem dX7_seek_35 : decode cX7_seek 35 = .ok (.iload_n 3, 1) := by decide +kernel
theorem dX7_seek_36 : decode cX7_seek 36 = .ok (.iload 4, 2) := by decide +kernel
theorem dX7_seek_38 : decode cX7_seek 38 = .ok (.iload 5, 2) := by decide +kernel
theorem dX7_seek_40 : decode cX7_seek 40 = .ok (.invokestatic 84, 3) := by decide +kernel
theorem dX7_seek_43 : decode cX7_seek 43 = .ok (.aload_n 0, 1) := by decide +kernel
theorem dX7_seek_44 : decode cX7_seek 44 = .ok (.getfield 40, 3) := by decide +kernel
theorem dX7_seek_47 : decode cX7_seek 47 = .ok (.astore 6, 2) := by decide +kernel
theorem dX7_seek_49 : decode cX7_seek 49 = .ok (.aload 6, 2) := by decide +kernel
theorem dX7_seek_51 : decode cX7_seek 51 = .ok (.arraylength, 1) := by decide +kernel
theorem dX7_seek_52 : decode cX7_seek 52 = .ok (.istore 7, 2) := by decide +kernel
theorem dX7_seek_54 : decode cX7_seek 54 = .ok (.iconst 0, 1) := by decide +kernel
theorem dX7_seek_55 : decode cX7_seek 55 = .ok (.istore 8, 2) := by decide +kernel
theorem dX7_seek_57 : decode cX7_seek 57 = .ok (.iload 8, 2) := by decide +kernel
theorem dX7_seek_59 : decode cX7_seek 59 = .ok (.iload 7, 2) := by decide +kernel
theorem dX7_seek_61 : decode cX7_seek 61 = .ok (.if_icmp .ge 124, 3) := by decide +kernel
theorem dX7_seek_64 : decode cX7_seek 64 = .ok (.aload 6, 2) := by decide +kernel
theorem dX7_seek_66 : decode cX7_seek 66 = .ok (.iload 8, 2) := by decide +kernel
theorem dX7_seek_68 : decode cX7_seek 68 = .ok (.aaload, 1) := by decide +kernel
theorem dX7_seek_69 : decode cX7_seek 69 = .ok (.astore 9, 2) := by decide +kernel
theorem dX7_seek_71 : decode cX7_seek 71 = .ok (.aload 9, 2) := by decide +kernel
theorem dX7_seek_73 : decode cX7_seek 73 = .ok (.ifnull 106, 3) := by decide +kernel
theorem dX7_seek_76 : decode cX7_seek 76 = .ok (.aload_n 0, 1) := by decide +kernel
theorem dX7_seek_77 : decode cX7_seek 77 = .ok (.aload 9, 2) := by decide +kernel
theorem dX7_seek_79 : decode cX7_seek 79 = .ok (.iload_n 1, 1) := by decide +kernel
theorem dX7_seek_80 : decode cX7_seek 80 = .ok (.iload 4, 2) := by decide +kernel
theorem dX7_seek_82 : decode cX7_seek 82 = .ok (.invokevirtual 98, 3) := by decide +kernel
theorem dX7_seek_85 : decode cX7_seek 85 = .ok (.ifCond .ne 6, 3) := by decide +kernel
theorem dX7_seek_88 : decode cX7_seek 88 = .ok (.goto 91, 3) := by decide +kernel
theorem dX7_seek_91 : decode cX7_seek 91 = .ok (.aload_n 0, 1) := by decide +kernel
theorem dX7_seek_92 : decode cX7_seek 92 = .ok (.getfield 50, 3) := by decide +kernel
theorem dX7_seek_95 : decode cX7_seek 95 = .ok (.iload_n 1, 1) := by decide +kernel
theorem dX7_seek_96 : decode cX7_seek 96 = .ok (.aload 9, 2) := by decide +kernel
theorem dX7_seek_98 : decode cX7_seek 98 = .ok (.aastore, 1) := by decide +kernel
theorem dX7_seek_99 : decode cX7_seek 99 = .ok (.aload_n 0, 1) := by decide +kernel
theorem dX7_seek_100 : decode cX7_seek 100 = .ok (.getfield 47, 3) := by decide +kernel
theorem dX7_seek_103 : decode cX7_seek 103 = .ok (.aload 9, 2) := by decide +kernel
theorem dX7_seek_105 : decode cX7_seek 105 = .ok (.getfield 102, 3) := by decide +kernel
theorem dX7_seek_108 : decode cX7_seek 108 = .ok (.iload_n 1, 1) := by decide +kernel
theorem dX7_seek_109 : decode cX7_seek 109 = .ok (.iastore, 1) := by decide +kernel
theorem dX7_seek_110 : decode cX7_seek 110 = .ok (.aload_n 0, 1) := by decide +kernel
theorem dX7_seek_111 : decode cX7_seek 111 = .ok (.aload 9, 2) := by decide +kernel
theorem dX7_seek_113 : decode cX7_seek 113 = .ok (.getfield 102, 3) := by decide +kernel
theorem dX7_seek_116 : decode cX7_seek 116 = .ok (.iload 5, 2) := by decide +kernel
theorem dX7_seek_118 : decode cX7_seek 118 = .ok (.invokevirtual 105, 3) := by decide +kernel
theorem dX7_seek_121 : decode cX7_seek 121 = .ok (.istore 10, 2) := by decide +kernel
theorem dX7_seek_123 : decode cX7_seek 123 = .ok (.iload 10, 2) := by decide +kernel
theorem dX7_seek_125 : decode cX7_seek 125 = .ok (.bipush (-2), 2) := by decide +kernel
theorem dX7_seek_127 : decode cX7_seek 127 = .ok (.if_icmp .eq 34, 3) := by decide +kernel
theorem dX7_seek_130 : decode cX7_seek 130 = .ok (.aload_n 0, 1) := by decide +kernel
theorem dX7_seek_131 : decode cX7_seek 131 = .ok (.iload_n 1, 1) := by decide +kernel
theorem dX7_seek_132 : decode cX7_seek 132 = .ok (.iconst 1, 1) := by decide +kernel
theorem dX7_seek_133 : decode cX7_seek 133 = .ok (.iadd, 1) := by decide +kernel
theorem dX7_seek_134 : decode cX7_seek 134 = .ok (.iload_n 2, 1) := by decide +kernel
theorem dX7_seek_135 : decode cX7_seek 135 = .ok (.iconst 1, 1) := by decide +kernel
theorem dX7_seek_136 : decode cX7_seek 136 = .ok (.isub, 1) := by decide +kernel
theorem dX7_seek_137 : decode cX7_seek 137 = .ok (.iload_n 3, 1) := by decide +kernel
theorem dX7_seek_138 : decode cX7_seek 138 = .ok (.aload 9, 2) := by decide +kernel
theorem dX7_seek_140 : decode cX7_seek 140 = .ok (.getfield 108, 3) := by decide +kernel
theorem dX7_seek_143 : decode cX7_seek 143 = .ok (.ior, 1) := by decide +kernel
theorem dX7_seek_144 : decode cX7_seek 144 = .ok (.iload 4, 2) := by decide +kernel
theorem dX7_seek_146 : decode cX7_seek 146 = .ok (.iload_n 3, 1) := by decide +kernel
theorem dX7_seek_147 : decode cX7_seek 147 = .ok (.aload 9, 2) := by decide +kernel
theorem dX7_seek_149 : decode cX7_seek 149 = .ok (.getfield 108, 3) := by decide +kernel
theorem dX7_seek_152 : decode cX7_seek 152 = .ok (.iconst (-1), 1) := by decide +kernel
theorem dX7_seek_153 : decode cX7_seek 153 = .ok (.ixor, 1) := by decide +kernel
theorem dX7_seek_154 : decode cX7_seek 154 = .ok (.iand, 1) := by decide +kernel
theorem dX7_seek_155 : decode cX7_seek 155 = .ok (.ior, 1) := by decide +kernel
theorem dX7_seek_156 : decode cX7_seek 156 = .ok (.iload 10, 2) := by decide +kernel
theorem dX7_seek_158 : decode cX7_seek 158 = .ok (.invokestatic 84, 3) := by decide +kernel
theorem dX7_seek_161 : decode cX7_seek 161 = .ok (.aload_n 0, 1) := by decide +kernel
theorem dX7_seek_162 : decode cX7_seek 162 = .ok (.getfield 47, 3) := by decide +kernel
theorem dX7_seek_165 : decode cX7_seek 165 = .ok (.aload 9, 2) := by decide +kernel
theorem dX7_seek_167 : decode cX7_seek 167 = .ok (.getfield 102, 3) := by decide +kernel
theorem dX7_seek_170 : decode cX7_seek 170 = .ok (.iconst (-1), 1) := by decide +kernel
theorem dX7_seek_171 : decode cX7_seek 171 = .ok (.iastore, 1) := by decide +kernel
theorem dX7_seek_172 : decode cX7_seek 172 = .ok (.aload_n 0, 1) := by decide +kernel
theorem dX7_seek_173 : decode cX7_seek 173 = .ok (.getfield 50, 3) := by decide +kernel
theorem dX7_seek_176 : decode cX7_seek 176 = .ok (.iload_n 1, 1) := by decide +kernel
theorem dX7_seek_177 : decode cX7_seek 177 = .ok (.aconst_null, 1) := by decide +kernel
theorem dX7_seek_178 : decode cX7_seek 178 = .ok (.aastore, 1) := by decide +kernel
theorem dX7_seek_179 : decode cX7_seek 179 = .ok (.iinc 8 1, 3) := by decide +kernel
theorem dX7_seek_182 : decode cX7_seek 182 = .ok (.goto (-125), 3) := by decide +kernel
theorem dX7_seek_185 : decode cX7_seek 185 = .ok (.return_, 1) := by decide +kernel
theorem dX7_canStand_0 : decode cX7_canStand 0 = .ok (.aload_n 0, 1) := by decide +kernel
theorem dX7_canStand_1 : decode cX7_canStand 1 = .ok (.getfield 47, 3) := by decide +kernel
theorem dX7_canStand_4 : decode cX7_canStand 4 = .ok (.aload_n 1, 1) := by decide +kernel
theorem dX7_canStand_5 : decode cX7_canStand 5 = .ok (.getfield 102, 3) := by decide +kernel
theorem dX7_canStand_8 : decode cX7_canStand 8 = .ok (.iaload, 1) := by decide +kernel
theorem dX7_canStand_9 : decode cX7_canStand 9 = .ok (.iconst (-1), 1) := by decide +kernel
theorem dX7_canStand_10 : decode cX7_canStand 10 = .ok (.if_icmp .ne 12, 3) := by decide +kernel
theorem dX7_canStand_13 : decode cX7_canStand 13 = .ok (.aload_n 1, 1) := by decide +kernel
theorem dX7_canStand_14 : decode cX7_canStand 14 = .ok (.getfield 108, 3) := by decide +kernel
theorem dX7_canStand_17 : decode cX7_canStand 17 = .ok (.iload_n 3, 1) := by decide +kernel
theorem dX7_canStand_18 : decode cX7_canStand 18 = .ok (.iand, 1) := by decide +kernel
theorem dX7_canStand_19 : decode cX7_canStand 19 = .ok (.ifCond .eq 5, 3) := by decide +kernel
theorem dX7_canStand_22 : decode cX7_canStand 22 = .ok (.iconst 0, 1) := by decide +kernel
theorem dX7_canStand_23 : decode cX7_canStand 23 = .ok (.ireturn, 1) := by decide +kernel
theorem dX7_canStand_24 : decode cX7_canStand 24 = .ok (.iload_n 2, 1) := by decide +kernel
theorem dX7_canStand_25 : decode cX7_canStand 25 = .ok (.ifCond .le 14, 3) := by decide +kernel
theorem dX7_canStand_28 : decode cX7_canStand 28 = .ok (.aload_n 0, 1) := by decide +kernel
theorem dX7_canStand_29 : decode cX7_canStand 29 = .ok (.getfield 50, 3) := by decide +kernel
theorem dX7_canStand_32 : decode cX7_canStand 32 = .ok (.iload_n 2, 1) := by decide +kernel
theorem dX7_canStand_33 : decode cX7_canStand 33 = .ok (.iconst 1, 1) := by decide +kernel
theorem dX7_canStand_34 : decode cX7_canStand 34 = .ok (.isub, 1) := by decide +kernel
theorem dX7_canStand_35 : decode cX7_canStand 35 = .ok (.aaload, 1) := by decide +kernel
theorem dX7_canStand_36 : decode cX7_canStand 36 = .ok (.goto 4, 3) := by decide +kernel
theorem dX7_canStand_39 : decode cX7_canStand 39 = .ok (.aconst_null, 1) := by decide +kernel
theorem dX7_canStand_40 : decode cX7_canStand 40 = .ok (.astore 4, 2) := by decide +kernel
theorem dX7_canStand_42 : decode cX7_canStand 42 = .ok (.aload 4, 2) := by decide +kernel
theorem dX7_canStand_44 : decode cX7_canStand 44 = .ok (.ifnull 12, 3) := by decide +kernel
theorem dX7_canStand_47 : decode cX7_canStand 47 = .ok (.aload_n 1, 1) := by decide +kernel
theorem dX7_canStand_48 : decode cX7_canStand 48 = .ok (.aload 4, 2) := by decide +kernel
theorem dX7_canStand_50 : decode cX7_canStand 50 = .ok (.invokevirtual 111, 3) := by decide +kernel
theorem dX7_canStand_53 : decode cX7_canStand 53 = .ok (.ifCond .eq 7, 3) := by decide +kernel
theorem dX7_canStand_56 : decode cX7_canStand 56 = .ok (.iconst 1, 1) := by decide +kernel
theorem dX7_canStand_57 : decode cX7_canStand 57 = .ok (.goto 4, 3) := by decide +kernel
theorem dX7_canStand_60 : decode cX7_canStand 60 = .ok (.iconst 0, 1) := by decide +kernel
theorem dX7_canStand_61 : decode cX7_canStand 61 = .ok (.ireturn, 1) := by decide +kernel
theorem dX7_brokenWith_0 : decode cX7_brokenWith 0 = .ok (.iload_n 2, 1) := by decide +kernel
theorem dX7_brokenWith_1 : decode cX7_brokenWith 1 = .ok (.istore_n 3, 1) := by decide +kernel
theorem dX7_brokenWith_2 : decode cX7_brokenWith 2 = .ok (.iconst 0, 1) := by decide +kernel
theorem dX7_brokenWith_3 : decode cX7_brokenWith 3 = .ok (.istore 4, 2) := by decide +kernel
theorem dX7_brokenWith_5 : decode cX7_brokenWith 5 = .ok (.iload 4, 2) := by decide +kernel
theorem dX7_brokenWith_7 : decode cX7_brokenWith 7 = .ok (.aload_n 0, 1) := by decide +kernel
theorem dX7_brokenWith_8 : decode cX7_brokenWith 8 = .ok (.getfield 35, 3) := by decide +kernel
theorem dX7_brokenWith_11 : decode cX7_brokenWith 11 = .ok (.if_icmp .ge 65, 3) := by decide +kernel
theorem dX7_brokenWith_14 : decode cX7_brokenWith 14 = .ok (.aload_n 0, 1) := by decide +kernel
theorem dX7_brokenWith_15 : decode cX7_brokenWith 15 = .ok (.getfield 31, 3) := by decide +kernel
theorem dX7_brokenWith_18 : decode cX7_brokenWith 18 = .ok (.iload 4, 2) := by decide +kernel
theorem dX7_brokenWith_20 : decode cX7_brokenWith 20 = .ok (.aaload, 1) := by decide +kernel
theorem dX7_brokenWith_21 : decode cX7_brokenWith 21 = .ok (.astore 5, 2) := by decide +kernel
theorem dX7_brokenWith_23 : decode cX7_brokenWith 23 = .ok (.aload 5, 2) := by decide +kernel
theorem dX7_brokenWith_25 : decode cX7_brokenWith 25 = .ok (.ifnull 45, 3) := by decide +kernel
theorem dX7_brokenWith_28 : decode cX7_brokenWith 28 = .ok (.aload 5, 2) := by decide +kernel
theorem dX7_brokenWith_30 : decode cX7_brokenWith 30 = .ok (.iload_n 1, 1) := by decide +kernel
theorem dX7_brokenWith_31 : decode cX7_brokenWith 31 = .ok (.invokevirtual 115, 3) := by decide +kernel
theorem dX7_brokenWith_34 : decode cX7_brokenWith 34 = .ok (.ifCond .eq 36, 3) := by decide +kernel
theorem dX7_brokenWith_37 : decode cX7_brokenWith 37 = .ok (.aload_n 0, 1) := by decide +kernel
theorem dX7_brokenWith_38 : decode cX7_brokenWith 38 = .ok (.aload 5, 2) := by decide +kernel
theorem dX7_brokenWith_40 : decode cX7_brokenWith 40 = .ok (.invokevirtual 119, 3) := by decide +kernel
theorem dX7_brokenWith_43 : decode cX7_brokenWith 43 = .ok (.ifCond .ne 6, 3) := by decide +kernel
theorem dX7_brokenWith_46 : decode cX7_brokenWith 46 = .ok (.goto 24, 3) := by decide +kernel
theorem dX7_brokenWith_49 : decode cX7_brokenWith 49 = .ok (.aload_n 0, 1) := by decide +kernel
theorem dX7_brokenWith_50 : decode cX7_brokenWith 50 = .ok (.getfield 56, 3) := by decide +kernel
theorem dX7_brokenWith_53 : decode cX7_brokenWith 53 = .ok (.ifCond .eq 8, 3) := by decide +kernel
theorem dX7_brokenWith_56 : decode cX7_brokenWith 56 = .ok (.iload_n 3, 1) := by decide +kernel
theorem dX7_brokenWith_57 : decode cX7_brokenWith 57 = .ok (.iconst (-1), 1) := by decide +kernel
theorem dX7_brokenWith_58 : decode cX7_brokenWith 58 = .ok (.if_icmp .eq 6, 3) := by decide +kernel
theorem dX7_brokenWith_61 : decode cX7_brokenWith 61 = .ok (.bipush (-2), 2) := by decide +kernel
theorem dX7_brokenWith_63 : decode cX7_brokenWith 63 = .ok (.ireturn, 1) := by decide +kernel
theorem dX7_brokenWith_64 : decode cX7_brokenWith 64 = .ok (.aload 5, 2) := by decide +kernel
theorem dX7_brokenWith_66 : decode cX7_brokenWith 66 = .ok (.getfield 123, 3) := by decide +kernel
theorem dX7_brokenWith_69 : decode cX7_brokenWith 69 = .ok (.istore_n 3, 1) := by decide +kernel
theorem dX7_brokenWith_70 : decode cX7_brokenWith 70 = .ok (.iinc 4 1, 3) := by decide +kernel
theorem dX7_brokenWith_73 : decode cX7_brokenWith 73 = .ok (.goto (-68), 3) := by decide +kernel
theorem dX7_brokenWith_76 : decode cX7_brokenWith 76 = .ok (.iload_n 3, 1) := by decide +kernel
theorem dX7_brokenWith_77 : decode cX7_brokenWith 77 = .ok (.ireturn, 1) := by decide +kernel
theorem dX7_isBroken_0 : decode cX7_isBroken 0 = .ok (.aload_n 0, 1) := by decide +kernel
theorem dX7_isBroken_1 : decode cX7_isBroken 1 = .ok (.getfield 47, 3) := by decide +kernel
theorem dX7_isBroken_4 : decode cX7_isBroken 4 = .ok (.aload_n 1, 1) := by decide +kernel
theorem dX7_isBroken_5 : decode cX7_isBroken 5 = .ok (.getfield 124, 3) := by decide +kernel
theorem dX7_isBroken_8 : decode cX7_isBroken 8 = .ok (.iaload, 1) := by decide +kernel
theorem dX7_isBroken_9 : decode cX7_isBroken 9 = .ok (.istore_n 2, 1) := by decide +kernel
theorem dX7_isBroken_10 : decode cX7_isBroken 10 = .ok (.aload_n 1, 1) := by decide +kernel
theorem dX7_isBroken_11 : decode cX7_isBroken 11 = .ok (.getfield 127, 3) := by decide +kernel
theorem dX7_isBroken_14 : decode cX7_isBroken 14 = .ok (.iconst 3, 1) := by decide +kernel
theorem dX7_isBroken_15 : decode cX7_isBroken 15 = .ok (.if_icmp .ne 17, 3) := by decide +kernel
theorem dX7_isBroken_18 : decode cX7_isBroken 18 = .ok (.iload_n 2, 1) := by decide +kernel
theorem dX7_isBroken_19 : decode cX7_isBroken 19 = .ok (.aload_n 1, 1) := by decide +kernel
theorem dX7_isBroken_20 : decode cX7_isBroken 20 = .ok (.getfield 130, 3) := by decide +kernel
theorem dX7_isBroken_23 : decode cX7_isBroken 23 = .ok (.if_icmp .eq 7, 3) := by decide +kernel
theorem dX7_isBroken_26 : decode cX7_isBroken 26 = .ok (.iconst 1, 1) := by decide +kernel
theorem dX7_isBroken_27 : decode cX7_isBroken 27 = .ok (.goto 4, 3) := by decide +kernel
theorem dX7_isBroken_30 : decode cX7_isBroken 30 = .ok (.iconst 0, 1) := by decide +kernel
theorem dX7_isBroken_31 : decode cX7_isBroken 31 = .ok (.ireturn, 1) := by decide +kernel
theorem dX7_isBroken_32 : decode cX7_isBroken 32 = .ok (.aload_n 0, 1) := by decide +kernel
theorem dX7_isBroken_33 : decode cX7_isBroken 33 = .ok (.getfield 47, 3) := by decide +kernel
theorem dX7_isBroken_36 : decode cX7_isBroken 36 = .ok (.aload_n 1, 1) := by decide +kernel
theorem dX7_isBroken_37 : decode cX7_isBroken 37 = .ok (.getfield 130, 3) := by decide +kernel
theorem dX7_isBroken_40 : decode cX7_isBroken 40 = .ok (.iaload, 1) := by decide +kernel
theorem dX7_isBroken_41 : decode cX7_isBroken 41 = .ok (.istore_n 3, 1) := by decide +kernel
theorem dX7_isBroken_42 : decode cX7_isBroken 42 = .ok (.iload_n 2, 1) := by decide +kernel
theorem dX7_isBroken_43 : decode cX7_isBroken 43 = .ok (.iconst (-1), 1) := by decide +kernel
theorem dX7_isBroken_44 : decode cX7_isBroken 44 = .ok (.if_icmp .eq 8, 3) := by decide +kernel
theorem dX7_isBroken_47 : decode cX7_isBroken 47 = .ok (.iload_n 3, 1) := by decide +kernel
theorem dX7_isBroken_48 : decode cX7_isBroken 48 = .ok (.iconst (-1), 1) := by decide +kernel
theorem dX7_isBroken_49 : decode cX7_isBroken 49 = .ok (.if_icmp .ne 5, 3) := by decide +kernel
theorem dX7_isBroken_52 : decode cX7_isBroken 52 = .ok (.iconst 0, 1) := by decide +kernel
theorem dX7_isBroken_53 : decode cX7_isBroken 53 = .ok (.ireturn, 1) := by decide +kernel
theorem dX7_isBroken_54 : decode cX7_isBroken 54 = .ok (.aload_n 1, 1) := by decide +kernel
theorem dX7_isBroken_55 : decode cX7_isBroken 55 = .ok (.getfield 127, 3) := by decide +kernel
theorem dX7_isBroken_58 : decode cX7_isBroken 58 = .ok (.tableswitch 68 0 2 #[26, 44, 57], 26) := by decide +kernel
theorem dX7_isBroken_84 : decode cX7_isBroken 84 = .ok (.iload_n 2, 1) := by decide +kernel
theorem dX7_isBroken_85 : decode cX7_isBroken 85 = .ok (.iload_n 3, 1) := by decide +kernel
theorem dX7_isBroken_86 : decode cX7_isBroken 86 = .ok (.iadd, 1) := by decide +kernel
theorem dX7_isBroken_87 : decode cX7_isBroken 87 = .ok (.aload_n 0, 1) := by decide +kernel
theorem dX7_isBroken_88 : decode cX7_isBroken 88 = .ok (.getfield 44, 3) := by decide +kernel
theorem dX7_isBroken_91 : decode cX7_isBroken 91 = .ok (.iconst 1, 1) := by decide +kernel
theorem dX7_isBroken_92 : decode cX7_isBroken 92 = .ok (.isub, 1) := by decide +kernel
theorem dX7_isBroken_93 : decode cX7_isBroken 93 = .ok (.if_icmp .eq 7, 3) := by decide +kernel
theorem dX7_isBroken_96 : decode cX7_isBroken 96 = .ok (.iconst 1, 1) := by decide +kernel
theorem dX7_isBroken_97 : decode cX7_isBroken 97 = .ok (.goto 4, 3) := by decide +kernel
theorem dX7_isBroken_100 : decode cX7_isBroken 100 = .ok (.iconst 0, 1) := by decide +kernel
theorem dX7_isBroken_101 : decode cX7_isBroken 101 = .ok (.ireturn, 1) := by decide +kernel
theorem dX7_isBroken_102 : decode cX7_isBroken 102 = .ok (.iload_n 3, 1) := by decide +kernel
theorem dX7_isBroken_103 : decode cX7_isBroken 103 = .ok (.iload_n 2, 1) := by decide +kernel
theorem dX7_isBroken_104 : decode cX7_isBroken 104 = .ok (.iconst 1, 1) := by decide +kernel
theorem dX7_isBroken_105 : decode cX7_isBroken 105 = .ok (.iadd, 1) := by decide +kernel
theorem dX7_isBroken_106 : decode cX7_isBroken 106 = .ok (.if_icmp .eq 7, 3) := by decide +kernel
theorem dX7_isBroken_109 : decode cX7_isBroken 109 = .ok (.iconst 1, 1) := by decide +kernel
theorem dX7_isBroken_110 : decode cX7_isBroken 110 = .ok (.goto 4, 3) := by decide +kernel
theorem dX7_isBroken_113 : decode cX7_isBroken 113 = .ok (.iconst 0, 1) := by decide +kernel
theorem dX7_isBroken_114 : decode cX7_isBroken 114 = .ok (.ireturn, 1) := by decide +kernel
theorem dX7_isBroken_115 : decode cX7_isBroken 115 = .ok (.iload_n 2, 1) := by decide +kernel
theorem dX7_isBroken_116 : decode cX7_isBroken 116 = .ok (.iload_n 3, 1) := by decide +kernel
theorem dX7_isBroken_117 : decode cX7_isBroken 117 = .ok (.if_icmp .lt 7, 3) := by decide +kernel
theorem dX7_isBroken_120 : decode cX7_isBroken 120 = .ok (.iconst 1, 1) := by decide +kernel
theorem dX7_isBroken_121 : decode cX7_isBroken 121 = .ok (.goto 4, 3) := by decide +kernel
theorem dX7_isBroken_124 : decode cX7_isBroken 124 = .ok (.iconst 0, 1) := by decide +kernel
theorem dX7_isBroken_125 : decode cX7_isBroken 125 = .ok (.ireturn, 1) := by decide +kernel
theorem dX7_isBroken_126 : decode cX7_isBroken 126 = .ok (.iload_n 2, 1) := by decide +kernel
theorem dX7_isBroken_127 : decode cX7_isBroken 127 = .ok (.iload_n 3, 1) := by decide +kernel
theorem dX7_isBroken_128 : decode cX7_isBroken 128 = .ok (.iadd, 1) := by decide +kernel
theorem dX7_isBroken_129 : decode cX7_isBroken 129 = .ok (.aload_n 0, 1) := by decide +kernel
theorem dX7_isBroken_130 : decode cX7_isBroken 130 = .ok (.getfield 44, 3) := by decide +kernel
theorem dX7_isBroken_133 : decode cX7_isBroken 133 = .ok (.iconst 1, 1) := by decide +kernel
theorem dX7_isBroken_134 : decode cX7_isBroken 134 = .ok (.isub, 1) := by decide +kernel
theorem dX7_isBroken_135 : decode cX7_isBroken 135 = .ok (.if_icmp .ne 7, 3) := by decide +kernel
theorem dX7_isBroken_138 : decode cX7_isBroken 138 = .ok (.iconst 1, 1) := by decide +kernel
theorem dX7_isBroken_139 : decode cX7_isBroken 139 = .ok (.goto 4, 3) := by decide +kernel
theorem dX7_isBroken_142 : decode cX7_isBroken 142 = .ok (.iconst 0, 1) := by decide +kernel
theorem dX7_isBroken_143 : decode cX7_isBroken 143 = .ok (.ireturn, 1) := by decide +kernel
theorem dX7_keep_0 : decode cX7_keep 0 = .ok (.iload_n 1, 1) := by decide +kernel
theorem dX7_keep_1 : decode cX7_keep 1 = .ok (.iconst (-1), 1) := by decide +kernel
theorem dX7_keep_2 : decode cX7_keep 2 = .ok (.if_icmp .ne 10, 3) := by decide +kernel
theorem dX7_keep_5 : decode cX7_keep 5 = .ok (.aload_n 0, 1) := by decide +kernel
theorem dX7_keep_6 : decode cX7_keep 6 = .ok (.invokevirtual 133, 3) := by decide +kernel
theorem dX7_keep_9 : decode cX7_keep 9 = .ok (.goto 8, 3) := by decide +kernel
theorem dX7_keep_12 : decode cX7_keep 12 = .ok (.aload_n 0, 1) := by decide +kernel
theorem dX7_keep_13 : decode cX7_keep 13 = .ok (.iload_n 1, 1) := by decide +kernel
theorem dX7_keep_14 : decode cX7_keep 14 = .ok (.invokevirtual 136, 3) := by decide +kernel
theorem dX7_keep_17 : decode cX7_keep 17 = .ok (.return_, 1) := by decide +kernel
theorem dX7_keepFit_0 : decode cX7_keepFit 0 = .ok (.aload_n 0, 1) := by decide +kernel
theorem dX7_keepFit_1 : decode cX7_keepFit 1 = .ok (.dup, 1) := by decide +kernel
theorem dX7_keepFit_2 : decode cX7_keepFit 2 = .ok (.getfield 15, 3) := by decide +kernel
theorem dX7_keepFit_5 : decode cX7_keepFit 5 = .ok (.iconst 1, 1) := by decide +kernel
theorem dX7_keepFit_6 : decode cX7_keepFit 6 = .ok (.iadd, 1) := by decide +kernel
theorem dX7_keepFit_7 : decode cX7_keepFit 7 = .ok (.putfield 15, 3) := by decide +kernel
theorem dX7_keepFit_10 : decode cX7_keepFit 10 = .ok (.aload_n 0, 1) := by decide +kernel
theorem dX7_keepFit_11 : decode cX7_keepFit 11 = .ok (.getfield 40, 3) := by decide +kernel
theorem dX7_keepFit_14 : decode cX7_keepFit 14 = .ok (.astore_n 1, 1) := by decide +kernel
theorem dX7_keepFit_15 : decode cX7_keepFit 15 = .ok (.aload_n 1, 1) := by decide +kernel
theorem dX7_keepFit_16 : decode cX7_keepFit 16 = .ok (.arraylength, 1) := by decide +kernel
theorem dX7_keepFit_17 : decode cX7_keepFit 17 = .ok (.istore_n 2, 1) := by decide +kernel
theorem dX7_keepFit_18 : decode cX7_keepFit 18 = .ok (.iconst 0, 1) := by decide +kernel
theorem dX7_keepFit_19 : decode cX7_keepFit 19 = .ok (.istore_n 3, 1) := by decide +kernel
theorem dX7_keepFit_20 : decode cX7_keepFit 20 = .ok (.iload_n 3, 1) := by decide +kernel
theorem dX7_keepFit_21 : decode cX7_keepFit 21 = .ok (.iload_n 2, 1) := by decide +kernel
theorem dX7_keepFit_22 : decode cX7_keepFit 22 = .ok (.if_icmp .ge 44, 3) := by decide +kernel
theorem dX7_keepFit_25 : decode cX7_keepFit 25 = .ok (.aload_n 1, 1) := by decide +kernel
theorem dX7_keepFit_26 : decode cX7_keepFit 26 = .ok (.iload_n 3, 1) := by decide +kernel
theorem dX7_keepFit_27 : decode cX7_keepFit 27 = .ok (.aaload, 1) := by decide +kernel
theorem dX7_keepFit_28 : decode cX7_keepFit 28 = .ok (.astore 4, 2) := by decide +kernel
theorem dX7_keepFit_30 : decode cX7_keepFit 30 = .ok (.aload 4, 2) := by decide +kernel
theorem dX7_keepFit_32 : decode cX7_keepFit 32 = .ok (.ifnull 28, 3) := by decide +kernel
theorem dX7_keepFit_35 : decode cX7_keepFit 35 = .ok (.aload_n 0, 1) := by decide +kernel
theorem dX7_keepFit_36 : decode cX7_keepFit 36 = .ok (.getfield 19, 3) := by decide +kernel
theorem dX7_keepFit_39 : decode cX7_keepFit 39 = .ok (.aload 4, 2) := by decide +kernel
theorem dX7_keepFit_41 : decode cX7_keepFit 41 = .ok (.getfield 102, 3) := by decide +kernel
theorem dX7_keepFit_44 : decode cX7_keepFit 44 = .ok (.dup2, 1) := by decide +kernel
theorem dX7_keepFit_45 : decode cX7_keepFit 45 = .ok (.iaload, 1) := by decide +kernel
theorem dX7_keepFit_46 : decode cX7_keepFit 46 = .ok (.iconst 1, 1) := by decide +kernel
theorem dX7_keepFit_47 : decode cX7_keepFit 47 = .ok (.aload_n 0, 1) := by decide +kernel
theorem dX7_keepFit_48 : decode cX7_keepFit 48 = .ok (.getfield 47, 3) := by decide +kernel
theorem dX7_keepFit_51 : decode cX7_keepFit 51 = .ok (.aload 4, 2) := by decide +kernel
theorem dX7_keepFit_53 : decode cX7_keepFit 53 = .ok (.getfield 102, 3) := by decide +kernel
theorem dX7_keepFit_56 : decode cX7_keepFit 56 = .ok (.iaload, 1) := by decide +kernel
theorem dX7_keepFit_57 : decode cX7_keepFit 57 = .ok (.ishl, 1) := by decide +kernel
theorem dX7_keepFit_58 : decode cX7_keepFit 58 = .ok (.ior, 1) := by decide +kernel
theorem dX7_keepFit_59 : decode cX7_keepFit 59 = .ok (.iastore, 1) := by decide +kernel
theorem dX7_keepFit_60 : decode cX7_keepFit 60 = .ok (.iinc 3 1, 3) := by decide +kernel
theorem dX7_keepFit_63 : decode cX7_keepFit 63 = .ok (.goto (-43), 3) := by decide +kernel
theorem dX7_keepFit_66 : decode cX7_keepFit 66 = .ok (.iconst 0, 1) := by decide +kernel
theorem dX7_keepFit_67 : decode cX7_keepFit 67 = .ok (.istore_n 1, 1) := by decide +kernel
theorem dX7_keepFit_68 : decode cX7_keepFit 68 = .ok (.iload_n 1, 1) := by decide +kernel
theorem dX7_keepFit_69 : decode cX7_keepFit 69 = .ok (.aload_n 0, 1) := by decide +kernel
theorem dX7_keepFit_70 : decode cX7_keepFit 70 = .ok (.getfield 44, 3) := by decide +kernel
theorem dX7_keepFit_73 : decode cX7_keepFit 73 = .ok (.if_icmp .ge 59, 3) := by decide +kernel
theorem dX7_keepFit_76 : decode cX7_keepFit 76 = .ok (.aload_n 0, 1) := by decide +kernel
theorem dX7_keepFit_77 : decode cX7_keepFit 77 = .ok (.getfield 50, 3) := by decide +kernel
theorem dX7_keepFit_80 : decode cX7_keepFit 80 = .ok (.iload_n 1, 1) := by decide +kernel
theorem dX7_keepFit_81 : decode cX7_keepFit 81 = .ok (.aaload, 1) := by decide +kernel
theorem dX7_keepFit_82 : decode cX7_keepFit 82 = .ok (.astore_n 2, 1) := by decide +kernel
theorem dX7_keepFit_83 : decode cX7_keepFit 83 = .ok (.aload_n 0, 1) := by decide +kernel
theorem dX7_keepFit_84 : decode cX7_keepFit 84 = .ok (.getfield 50, 3) := by decide +kernel
theorem dX7_keepFit_87 : decode cX7_keepFit 87 = .ok (.aload_n 0, 1) := by decide +kernel
theorem dX7_keepFit_88 : decode cX7_keepFit 88 = .ok (.getfield 44, 3) := by decide +kernel
theorem dX7_keepFit_91 : decode cX7_keepFit 91 = .ok (.iconst 1, 1) := by decide +kernel
theorem dX7_keepFit_92 : decode cX7_keepFit 92 = .ok (.isub, 1) := by decide +kernel
theorem dX7_keepFit_93 : decode cX7_keepFit 93 = .ok (.iload_n 1, 1) := by decide +kernel
theorem dX7_keepFit_94 : decode cX7_keepFit 94 = .ok (.isub, 1) := by decide +kernel
theorem dX7_keepFit_95 : decode cX7_keepFit 95 = .ok (.aaload, 1) := by decide +kernel
theorem dX7_keepFit_96 : decode cX7_keepFit 96 = .ok (.astore_n 3, 1) := by decide +kernel
theorem dX7_keepFit_97 : decode cX7_keepFit 97 = .ok (.aload_n 2, 1) := by decide +kernel
theorem dX7_keepFit_98 : decode cX7_keepFit 98 = .ok (.ifnull 28, 3) := by decide +kernel
theorem dX7_keepFit_101 : decode cX7_keepFit 101 = .ok (.aload_n 3, 1) := by decide +kernel
theorem dX7_keepFit_102 : decode cX7_keepFit 102 = .ok (.ifnull 24, 3) := by decide +kernel
theorem dX7_keepFit_105 : decode cX7_keepFit 105 = .ok (.aload_n 0, 1) := by decide +kernel
theorem dX7_keepFit_106 : decode cX7_keepFit 106 = .ok (.getfield 23, 3) := by decide +kernel
theorem dX7_keepFit_109 : decode cX7_keepFit 109 = .ok (.aload_n 2, 1) := by decide +kernel
theorem dX7_keepFit_110 : decode cX7_keepFit 110 = .ok (.getfield 102, 3) := by decide +kernel
theorem dX7_keepFit_113 : decode cX7_keepFit 113 = .ok (.bipush 10, 2) := by decide +kernel
theorem dX7_keepFit_115 : decode cX7_keepFit 115 = .ok (.imul, 1) := by decide +kernel
theorem dX7_keepFit_116 : decode cX7_keepFit 116 = .ok (.aload_n 3, 1) := by decide +kernel
theorem dX7_keepFit_117 : decode cX7_keepFit 117 = .ok (.getfield 102, 3) := by decide +kernel
theorem dX7_keepFit_120 : decode cX7_keepFit 120 = .ok (.iadd, 1) := by decide +kernel
theorem dX7_keepFit_121 : decode cX7_keepFit 121 = .ok (.dup2, 1) := by decide +kernel
theorem dX7_keepFit_122 : decode cX7_keepFit 122 = .ok (.iaload, 1) := by decide +kernel
theorem dX7_keepFit_123 : decode cX7_keepFit 123 = .ok (.iconst 1, 1) := by decide +kernel
theorem dX7_keepFit_124 : decode cX7_keepFit 124 = .ok (.iadd, 1) := by decide +kernel
theorem dX7_keepFit_125 : decode cX7_keepFit 125 = .ok (.iastore, 1) := by decide +kernel
theorem dX7_keepFit_126 : decode cX7_keepFit 126 = .ok (.iinc 1 1, 3) := by decide +kernel
theorem dX7_keepFit_129 : decode cX7_keepFit 129 = .ok (.goto (-61), 3) := by decide +kernel
theorem dX7_keepFit_132 : decode cX7_keepFit 132 = .ok (.return_, 1) := by decide +kernel
theorem dX7_keepSpared_0 : decode cX7_keepSpared 0 = .ok (.aload_n 0, 1) := by decide +kernel
theorem dX7_keepSpared_1 : decode cX7_keepSpared 1 = .ok (.getfield 40, 3) := by decide +kernel
theorem dX7_keepSpared_4 : decode cX7_keepSpared 4 = .ok (.astore_n 2, 1) := by decide +kernel
theorem dX7_keepSpared_5 : decode cX7_keepSpared 5 = .ok (.aload_n 2, 1) := by decide +kernel
theorem dX7_keepSpared_6 : decode cX7_keepSpared 6 = .ok (.arraylength, 1) := by decide +kernel
theorem dX7_keepSpared_7 : decode cX7_keepSpared 7 = .ok (.istore_n 3, 1) := by decide +kernel
theorem dX7_keepSpared_8 : decode cX7_keepSpared 8 = .ok (.iconst 0, 1) := by decide +kernel
theorem dX7_keepSpared_9 : decode cX7_keepSpared 9 = .ok (.istore 4, 2) := by decide +kernel
theorem dX7_keepSpared_11 : decode cX7_keepSpared 11 = .ok (.iload 4, 2) := by decide +kernel
theorem dX7_keepSpared_13 : decode cX7_keepSpared 13 = .ok (.iload_n 3, 1) := by decide +kernel
theorem dX7_keepSpared_14 : decode cX7_keepSpared 14 = .ok (.if_icmp .ge 50, 3) := by decide +kernel
theorem dX7_keepSpared_17 : decode cX7_keepSpared 17 = .ok (.aload_n 2, 1) := by decide +kernel
theorem dX7_keepSpared_18 : decode cX7_keepSpared 18 = .ok (.iload 4, 2) := by decide +kernel
theorem dX7_keepSpared_20 : decode cX7_keepSpared 20 = .ok (.aaload, 1) := by decide +kernel
theorem dX7_keepSpared_21 : decode cX7_keepSpared 21 = .ok (.astore 5, 2) := by decide +kernel
theorem dX7_keepSpared_23 : decode cX7_keepSpared 23 = .ok (.aload 5, 2) := by decide +kernel
theorem dX7_keepSpared_25 : decode cX7_keepSpared 25 = .ok (.ifnull 33, 3) := by decide +kernel
theorem dX7_keepSpared_28 : decode cX7_keepSpared 28 = .ok (.aload_n 0, 1) := by decide +kernel
theorem dX7_keepSpared_29 : decode cX7_keepSpared 29 = .ok (.getfield 26, 3) := by decide +kernel
theorem dX7_keepSpared_32 : decode cX7_keepSpared 32 = .ok (.iload_n 1, 1) := by decide +kernel
theorem dX7_keepSpared_33 : decode cX7_keepSpared 33 = .ok (.bipush 10, 2) := by decide +kernel
theorem dX7_keepSpared_35 : decode cX7_keepSpared 35 = .ok (.imul, 1) := by decide +kernel
theorem dX7_keepSpared_36 : decode cX7_keepSpared 36 = .ok (.aload 5, 2) := by decide +kernel
theorem dX7_keepSpared_38 : decode cX7_keepSpared 38 = .ok (.getfield 102, 3) := by decide +kernel
theorem dX7_keepSpared_41 : decode cX7_keepSpared 41 = .ok (.iadd, 1) := by decide +kernel
theorem dX7_keepSpared_42 : decode cX7_keepSpared 42 = .ok (.dup2, 1) := by decide +kernel
theorem dX7_keepSpared_43 : decode cX7_keepSpared 43 = .ok (.iaload, 1) := by decide +kernel
theorem dX7_keepSpared_44 : decode cX7_keepSpared 44 = .ok (.iconst 1, 1) := by decide +kernel
theorem dX7_keepSpared_45 : decode cX7_keepSpared 45 = .ok (.aload_n 0, 1) := by decide +kernel
theorem dX7_keepSpared_46 : decode cX7_keepSpared 46 = .ok (.getfield 47, 3) := by decide +kernel
theorem dX7_keepSpared_49 : decode cX7_keepSpared 49 = .ok (.aload 5, 2) := by decide +kernel
theorem dX7_keepSpared_51 : decode cX7_keepSpared 51 = .ok (.getfield 102, 3) := by decide +kernel
theorem dX7_keepSpared_54 : decode cX7_keepSpared 54 = .ok (.iaload, 1) := by decide +kernel
theorem dX7_keepSpared_55 : decode cX7_keepSpared 55 = .ok (.ishl, 1) := by decide +kernel
theorem dX7_keepSpared_56 : decode cX7_keepSpared 56 = .ok (.ior, 1) := by decide +kernel
theorem dX7_keepSpared_57 : decode cX7_keepSpared 57 = .ok (.iastore, 1) := by decide +kernel
theorem dX7_keepSpared_58 : decode cX7_keepSpared 58 = .ok (.iinc 4 1, 3) := by decide +kernel
theorem dX7_keepSpared_61 : decode cX7_keepSpared 61 = .ok (.goto (-50), 3) := by decide +kernel
theorem dX7_keepSpared_64 : decode cX7_keepSpared 64 = .ok (.return_, 1) := by decide +kernel
theorem dX8_init_0 : decode cX8_init 0 = .ok (.aload_n 0, 1) := by decide +kernel
theorem dX8_init_1 : decode cX8_init 1 = .ok (.invokespecial 1, 3) := by decide +kernel
theorem dX8_init_4 : decode cX8_init 4 = .ok (.aload_n 0, 1) := by decide +kernel
theorem dX8_init_5 : decode cX8_init 5 = .ok (.aload_n 1, 1) := by decide +kernel
theorem dX8_init_6 : decode cX8_init 6 = .ok (.iload_n 2, 1) := by decide +kernel
theorem dX8_init_7 : decode cX8_init 7 = .ok (.ifCond .ge 7, 3) := by decide +kernel
theorem dX8_init_10 : decode cX8_init 10 = .ok (.iconst 0, 1) := by decide +kernel
theorem dX8_init_11 : decode cX8_init 11 = .ok (.goto 4, 3) := by decide +kernel
theorem dX8_init_14 : decode cX8_init 14 = .ok (.iload_n 2, 1) := by decide +kernel
theorem dX8_init_15 : decode cX8_init 15 = .ok (.invokestatic 7, 3) := by decide +kernel
theorem dX8_init_18 : decode cX8_init 18 = .ok (.putfield 13, 3) := by decide +kernel
theorem dX8_init_21 : decode cX8_init 21 = .ok (.aload_n 0, 1) := by decide +kernel
theorem dX8_init_22 : decode cX8_init 22 = .ok (.aload_n 0, 1) := by decide +kernel
theorem dX8_init_23 : decode cX8_init 23 = .ok (.getfield 13, 3) := by decide +kernel
theorem dX8_init_26 : decode cX8_init 26 = .ok (.arraylength, 1) := by decide +kernel
theorem dX8_init_27 : decode cX8_init 27 = .ok (.putfield 19, 3) := by decide +kernel
theorem dX8_init_30 : decode cX8_init 30 = .ok (.return_, 1) := by decide +kernel
theorem dX8_isSame_0 : decode cX8_isSame 0 = .ok (.iload_n 2, 1) := by decide +kernel
theorem dX8_isSame_1 : decode cX8_isSame 1 = .ok (.aload_n 0, 1) := by decide +kernel
theorem dX8_isSame_2 : decode cX8_isSame 2 = .ok (.getfield 19, 3) := by decide +kernel
theorem dX8_isSame_5 : decode cX8_isSame 5 = .ok (.if_icmp .ne 9, 3) := by decide +kernel
theorem dX8_isSame_8 : decode cX8_isSame 8 = .ok (.iload_n 2, 1) := by decide +kernel
theorem dX8_isSame_9 : decode cX8_isSame 9 = .ok (.aload_n 1, 1) := by decide +kernel
theorem dX8_isSame_10 : decode cX8_isSame 10 = .ok (.arraylength, 1) := by decide +kernel
theorem dX8_isSame_11 : decode cX8_isSame 11 = .ok (.if_icmp .le 5, 3) := by decide +kernel
theorem dX8_isSame_14 : decode cX8_isSame 14 = .ok (.iconst 0, 1) := by decide +kernel
theorem dX8_isSame_15 : decode cX8_isSame 15 = .ok (.ireturn, 1) := by decide +kernel
theorem dX8_isSame_16 : decode cX8_isSame 16 = .ok (.iconst 0, 1) := by decide +kernel
theorem dX8_isSame_17 : decode cX8_isSame 17 = .ok (.istore_n 3, 1) := by decide +kernel
theorem dX8_isSame_18 : decode cX8_isSame 18 = .ok (.iload_n 3, 1) := by decide +kernel
theorem dX8_isSame_19 : decode cX8_isSame 19 = .ok (.aload_n 0, 1) := by decide +kernel
theorem dX8_isSame_20 : decode cX8_isSame 20 = .ok (.getfield 19, 3) := by decide +kernel
theorem dX8_isSame_23 : decode cX8_isSame 23 = .ok (.if_icmp .ge 23, 3) := by decide +kernel
theorem dX8_isSame_26 : decode cX8_isSame 26 = .ok (.aload_n 0, 1) := by decide +kernel
theorem dX8_isSame_27 : decode cX8_isSame 27 = .ok (.getfield 13, 3) := by decide +kernel
theorem dX8_isSame_30 : decode cX8_isSame 30 = .ok (.iload_n 3, 1) := by decide +kernel
theorem dX8_isSame_31 : decode cX8_isSame 31 = .ok (.iaload, 1) := by decide +kernel
theorem dX8_isSame_32 : decode cX8_isSame 32 = .ok (.aload_n 1, 1) := by decide +kernel
theorem dX8_isSame_33 : decode cX8_isSame 33 = .ok (.iload_n 3, 1) := by decide +kernel
theorem dX8_isSame_34 : decode cX8_isSame 34 = .ok (.iaload, 1) := by decide +kernel
theorem dX8_isSame_35 : decode cX8_isSame 35 = .ok (.if_icmp .eq 5, 3) := by decide +kernel
theorem dX8_isSame_38 : decode cX8_isSame 38 = .ok (.iconst 0, 1) := by decide +kernel
theorem dX8_isSame_39 : decode cX8_isSame 39 = .ok (.ireturn, 1) := by decide +kernel
theorem dX8_isSame_40 : decode cX8_isSame 40 = .ok (.iinc 3 1, 3) := by decide +kernel
theorem dX8_isSame_43 : decode cX8_isSame 43 = .ok (.goto (-25), 3) := by decide +kernel
theorem dX8_isSame_46 : decode cX8_isSame 46 = .ok (.iconst 1, 1) := by decide +kernel
theorem dX8_isSame_47 : decode cX8_isSame 47 = .ok (.ireturn, 1) := by decide +kernel
theorem dX9_init_0 : decode cX9_init 0 = .ok (.aload_n 0, 1) := by decide +kernel
theorem dX9_init_1 : decode cX9_init 1 = .ok (.invokespecial 3, 3) := by decide +kernel
theorem dX9_init_4 : decode cX9_init 4 = .ok (.aload_n 0, 1) := by decide +kernel
theorem dX9_init_5 : decode cX9_init 5 = .ok (.new 9, 3) := by decide +kernel
theorem dX9_init_8 : decode cX9_init 8 = .ok (.dup, 1) := by decide +kernel
theorem dX9_init_9 : decode cX9_init 9 = .ok (.invokespecial 11, 3) := by decide +kernel
theorem dX9_init_12 : decode cX9_init 12 = .ok (.putfield 12, 3) := by decide +kernel
theorem dX9_init_15 : decode cX9_init 15 = .ok (.aload_n 0, 1) := by decide +kernel
theorem dX9_init_16 : decode cX9_init 16 = .ok (.bipush 10, 2) := by decide +kernel
theorem dX9_init_18 : decode cX9_init 18 = .ok (.anewarray 16, 3) := by decide +kernel
theorem dX9_init_21 : decode cX9_init 21 = .ok (.putfield 18, 3) := by decide +kernel
theorem dX9_init_24 : decode cX9_init 24 = .ok (.aload_n 0, 1) := by decide +kernel
theorem dX9_init_25 : decode cX9_init 25 = .ok (.iconst 0, 1) := by decide +kernel
theorem dX9_init_26 : decode cX9_init 26 = .ok (.putfield 22, 3) := by decide +kernel
theorem dX9_init_29 : decode cX9_init 29 = .ok (.aload_n 0, 1) := by decide +kernel
theorem dX9_init_30 : decode cX9_init 30 = .ok (.iconst 2, 1) := by decide +kernel
theorem dX9_init_31 : decode cX9_init 31 = .ok (.anewarray 26, 3) := by decide +kernel
theorem dX9_init_34 : decode cX9_init 34 = .ok (.dup, 1) := by decide +kernel
theorem dX9_init_35 : decode cX9_init 35 = .ok (.iconst 0, 1) := by decide +kernel
theorem dX9_init_36 : decode cX9_init 36 = .ok (.new 26, 3) := by decide +kernel
theorem dX9_init_39 : decode cX9_init 39 = .ok (.dup, 1) := by decide +kernel
theorem dX9_init_40 : decode cX9_init 40 = .ok (.invokespecial 28, 3) := by decide +kernel
theorem dX9_init_43 : decode cX9_init 43 = .ok (.aastore, 1) := by decide +kernel
theorem dX9_init_44 : decode cX9_init 44 = .ok (.dup, 1) := by decide +kernel
theorem dX9_init_45 : decode cX9_init 45 = .ok (.iconst 1, 1) := by decide +kernel
theorem dX9_init_46 : decode cX9_init 46 = .ok (.new 26, 3) := by decide +kernel
theorem dX9_init_49 : decode cX9_init 49 = .ok (.dup, 1) := by decide +kernel
theorem dX9_init_50 : decode cX9_init 50 = .ok (.invokespecial 28, 3) := by decide +kernel
theorem dX9_init_53 : decode cX9_init 53 = .ok (.aastore, 1) := by decide +kernel
theorem dX9_init_54 : decode cX9_init 54 = .ok (.putfield 29, 3) := by decide +kernel
theorem dX9_init_57 : decode cX9_init 57 = .ok (.aload_n 0, 1) := by decide +kernel
theorem dX9_init_58 : decode cX9_init 58 = .ok (.bipush 12, 2) := by decide +kernel
theorem dX9_init_60 : decode cX9_init 60 = .ok (.anewarray 33, 3) := by decide +kernel
theorem dX9_init_63 : decode cX9_init 63 = .ok (.putfield 35, 3) := by decide +kernel
theorem dX9_init_66 : decode cX9_init 66 = .ok (.aload_n 0, 1) := by decide +kernel
theorem dX9_init_67 : decode cX9_init 67 = .ok (.iconst 0, 1) := by decide +kernel
theorem dX9_init_68 : decode cX9_init 68 = .ok (.putfield 39, 3) := by decide +kernel
theorem dX9_init_71 : decode cX9_init 71 = .ok (.aload_n 0, 1) := by decide +kernel
theorem dX9_init_72 : decode cX9_init 72 = .ok (.bipush 40, 2) := by decide +kernel
theorem dX9_init_74 : decode cX9_init 74 = .ok (.newarray .int, 2) := by decide +kernel
theorem dX9_init_76 : decode cX9_init 76 = .ok (.putfield 42, 3) := by decide +kernel
theorem dX9_init_79 : decode cX9_init 79 = .ok (.aload_n 0, 1) := by decide +kernel
theorem dX9_init_80 : decode cX9_init 80 = .ok (.iconst 0, 1) := by decide +kernel
theorem dX9_init_81 : decode cX9_init 81 = .ok (.putfield 46, 3) := by decide +kernel
theorem dX9_init_84 : decode cX9_init 84 = .ok (.aload_n 0, 1) := by decide +kernel
theorem dX9_init_85 : decode cX9_init 85 = .ok (.bipush 12, 2) := by decide +kernel
theorem dX9_init_87 : decode cX9_init 87 = .ok (.anewarray 49, 3) := by decide +kernel
theorem dX9_init_90 : decode cX9_init 90 = .ok (.putfield 51, 3) := by decide +kernel
theorem dX9_init_93 : decode cX9_init 93 = .ok (.aload_n 0, 1) := by decide +kernel
theorem dX9_init_94 : decode cX9_init 94 = .ok (.iconst 0, 1) := by decide +kernel
theorem dX9_init_95 : decode cX9_init 95 = .ok (.putfield 55, 3) := by decide +kernel
theorem dX9_init_98 : decode cX9_init 98 = .ok (.aload_n 0, 1) := by decide +kernel
theorem dX9_init_99 : decode cX9_init 99 = .ok (.iconst 4, 1) := by decide +kernel
theorem dX9_init_100 : decode cX9_init 100 = .ok (.anewarray 49, 3) := by decide +kernel
theorem dX9_init_103 : decode cX9_init 103 = .ok (.putfield 58, 3) := by decide +kernel
theorem dX9_init_106 : decode cX9_init 106 = .ok (.aload_n 0, 1) := by decide +kernel
theorem dX9_init_107 : decode cX9_init 107 = .ok (.iconst 0, 1) := by decide +kernel
theorem dX9_init_108 : decode cX9_init 108 = .ok (.putfield 61, 3) := by decide +kernel
theorem dX9_init_111 : decode cX9_init 111 = .ok (.aload_n 0, 1) := by decide +kernel
theorem dX9_init_112 : decode cX9_init 112 = .ok (.new 64, 3) := by decide +kernel
theorem dX9_init_115 : decode cX9_init 115 = .ok (.dup, 1) := by decide +kernel
theorem dX9_init_116 : decode cX9_init 116 = .ok (.invokespecial 66, 3) := by decide +kernel
theorem dX9_init_119 : decode cX9_init 119 = .ok (.putfield 67, 3) := by decide +kernel
theorem dX9_init_122 : decode cX9_init 122 = .ok (.aload_n 0, 1) := by decide +kernel
theorem dX9_init_123 : decode cX9_init 123 = .ok (.new 71, 3) := by decide +kernel
theorem dX9_init_126 : decode cX9_init 126 = .ok (.dup, 1) := by decide +kernel
theorem dX9_init_127 : decode cX9_init 127 = .ok (.invokespecial 73, 3) := by decide +kernel
theorem dX9_init_130 : decode cX9_init 130 = .ok (.putfield 74, 3) := by decide +kernel
theorem dX9_init_133 : decode cX9_init 133 = .ok (.aload_n 0, 1) := by decide +kernel
theorem dX9_init_134 : decode cX9_init 134 = .ok (.bipush 10, 2) := by decide +kernel
theorem dX9_init_136 : decode cX9_init 136 = .ok (.newarray .int, 2) := by decide +kernel
theorem dX9_init_138 : decode cX9_init 138 = .ok (.putfield 78, 3) := by decide +kernel
theorem dX9_init_141 : decode cX9_init 141 = .ok (.return_, 1) := by decide +kernel
theorem dX9_leaf_0 : decode cX9_leaf 0 = .ok (.aload_n 0, 1) := by decide +kernel
theorem dX9_leaf_1 : decode cX9_leaf 1 = .ok (.iload_n 1, 1) := by decide +kernel
theorem dX9_leaf_2 : decode cX9_leaf 2 = .ok (.invokevirtual 81, 3) := by decide +kernel
theorem dX9_leaf_5 : decode cX9_leaf 5 = .ok (.astore 6, 2) := by decide +kernel
theorem dX9_leaf_7 : decode cX9_leaf 7 = .ok (.aload 6, 2) := by decide +kernel
theorem dX9_leaf_9 : decode cX9_leaf 9 = .ok (.ifnonnull 11, 3) := by decide +kernel
theorem dX9_leaf_12 : decode cX9_leaf 12 = .ok (.new 85, 3) := by decide +kernel
theorem dX9_leaf_15 : decode cX9_leaf 15 = .ok (.dup, 1) := by decide +kernel
theorem dX9_leaf_16 : decode cX9_leaf 16 = .ok (.invokespecial 87, 3) := by decide +kernel
theorem dX9_leaf_19 : decode cX9_leaf 19 = .ok (.athrow, 1) := by decide +kernel
theorem dX9_leaf_20 : decode cX9_leaf 20 = .ok (.iload_n 2, 1) := by decide +kernel
theorem dX9_leaf_21 : decode cX9_leaf 21 = .ok (.iconst 1, 1) := by decide +kernel
theorem dX9_leaf_22 : decode cX9_leaf 22 = .ok (.iconst 4, 1) := by decide +kernel
theorem dX9_leaf_23 : decode cX9_leaf 23 = .ok (.invokestatic 88, 3) := by decide +kernel
theorem dX9_leaf_26 : decode cX9_leaf 26 = .ok (.ifCond .eq 13, 3) := by decide +kernel
theorem dX9_leaf_29 : decode cX9_leaf 29 = .ok (.iload_n 3, 1) := by decide +kernel
theorem dX9_leaf_30 : decode cX9_leaf 30 = .ok (.iconst 1, 1) := by decide +kernel
theorem dX9_leaf_31 : decode cX9_leaf 31 = .ok (.bipush 8, 2) := by decide +kernel
theorem dX9_leaf_33 : decode cX9_leaf 33 = .ok (.invokestatic 88, 3) := by decide +kernel
theorem dX9_leaf_36 : decode cX9_leaf 36 = .ok (.ifCond .ne 11, 3) := by decide +kernel
theorem dX9_leaf_39 : decode cX9_leaf 39 = .ok (.new 92, 3) := by decide +kernel
theorem dX9_leaf_42 : decode cX9_leaf 42 = .ok (.dup, 1) := by decide +kernel
theorem dX9_leaf_43 : decode cX9_leaf 43 = .ok (.invokespecial 94, 3) := by decide +kernel
theorem dX9_leaf_46 : decode cX9_leaf 46 = .ok (.athrow, 1) := by decide +kernel
theorem dX9_leaf_47 : decode cX9_leaf 47 = .ok (.iload 4, 2) := by decide +kernel
theorem dX9_leaf_49 : decode cX9_leaf 49 = .ok (.ifCond .eq 23, 3) := by decide +kernel
theorem dX9_leaf_52 : decode cX9_leaf 52 = .ok (.iload 4, 2) := by decide +kernel
theorem dX9_leaf_54 : decode cX9_leaf 54 = .ok (.iconst 1, 1) := by decide +kernel
theorem dX9_leaf_55 : decode cX9_leaf 55 = .ok (.if_icmp .eq 17, 3) := by decide +kernel
theorem dX9_leaf_58 : decode cX9_leaf 58 = .ok (.iload 4, 2) := by decide +kernel
theorem dX9_leaf_60 : decode cX9_leaf 60 = .ok (.iconst (-1), 1) := by decide +kernel
theorem dX9_leaf_61 : decode cX9_leaf 61 = .ok (.if_icmp .eq 11, 3) := by decide +kernel
theorem dX9_leaf_64 : decode cX9_leaf 64 = .ok (.new 92, 3) := by decide +kernel
theorem dX9_leaf_67 : decode cX9_leaf 67 = .ok (.dup, 1) := by decide +kernel
theorem dX9_leaf_68 : decode cX9_leaf 68 = .ok (.invokespecial 94, 3) := by decide +kernel
theorem dX9_leaf_71 : decode cX9_leaf 71 = .ok (.athrow, 1) := by decide +kernel
theorem dX9_leaf_72 : decode cX9_leaf 72 = .ok (.iload 5, 2) := by decide +kernel
theorem dX9_leaf_74 : decode cX9_leaf 74 = .ok (.iconst 0, 1) := by decide +kernel
theorem dX9_leaf_75 : decode cX9_leaf 75 = .ok (.sipush 255, 3) := by decide +kernel
theorem dX9_leaf_78 : decode cX9_leaf 78 = .ok (.invokestatic 88, 3) := by decide +kernel
theorem dX9_leaf_81 : decode cX9_leaf 81 = .ok (.ifCond .ne 11, 3) := by decide +kernel
theorem dX9_leaf_84 : decode cX9_leaf 84 = .ok (.new 92, 3) := by decide +kernel
theorem dX9_leaf_87 : decode cX9_leaf 87 = .ok (.dup, 1) := by decide +kernel
theorem dX9_leaf_88 : decode cX9_leaf 88 = .ok (.invokespecial 94, 3) := by decide +kernel
theorem dX9_leaf_91 : decode cX9_leaf 91 = .ok (.athrow, 1) := by decide +kernel
theorem dX9_leaf_92 : decode cX9_leaf 92 = .ok (.aload_n 0, 1) := by decide +kernel
theorem dX9_leaf_93 : decode cX9_leaf 93 = .ok (.getfield 22, 3) := by decide +kernel
theorem dX9_leaf_96 : decode cX9_leaf 96 = .ok (.bipush 10, 2) := by decide +kernel
theorem dX9_leaf_98 : decode cX9_leaf 98 = .ok (.if_icmp .ge 11, 3) := by decide +kernel
theorem dX9_leaf_101 : decode cX9_leaf 101 = .ok (.aload 6, 2) := by decide +kernel
theorem dX9_leaf_103 : decode cX9_leaf 103 = .ok (.invokevirtual 95, 3) := by decide +kernel
theorem dX9_leaf_106 : decode cX9_leaf 106 = .ok (.ifCond .ne 11, 3) := by decide +kernel
theorem dX9_leaf_109 : decode cX9_leaf 109 = .ok (.new 99, 3) := by decide +kernel
theorem dX9_leaf_112 : decode cX9_leaf 112 = .ok (.dup, 1) := by decide +kernel
theorem dX9_leaf_113 : decode cX9_leaf 113 = .ok (.invokespecial 101, 3) := by decide +kernel
theorem dX9_leaf_116 : decode cX9_leaf 116 = .ok (.athrow, 1) := by decide +kernel
theorem dX9_leaf_117 : decode cX9_leaf 117 = .ok (.new 16, 3) := by decide +kernel
theorem dX9_leaf_120 : decode cX9_leaf 120 = .ok (.dup, 1) := by decide +kernel
theorem dX9_leaf_121 : decode cX9_leaf 121 = .ok (.aload_n 0, 1) := by decide +kernel
theorem dX9_leaf_122 : decode cX9_leaf 122 = .ok (.getfield 22, 3) := by decide +kernel
theorem dX9_leaf_125 : decode cX9_leaf 125 = .ok (.aload 6, 2) := by decide +kernel
theorem dX9_leaf_127 : decode cX9_leaf 127 = .ok (.iload_n 2, 1) := by decide +kernel
theorem dX9_leaf_128 : decode cX9_leaf 128 = .ok (.iload_n 3, 1) := by decide +kernel
theorem dX9_leaf_129 : decode cX9_leaf 129 = .ok (.invokespecial 102, 3) := by decide +kernel
theorem dX9_leaf_132 : decode cX9_leaf 132 = .ok (.astore 7, 2) := by decide +kernel
theorem dX9_leaf_134 : decode cX9_leaf 134 = .ok (.aload 7, 2) := by decide +kernel
theorem dX9_leaf_136 : decode cX9_leaf 136 = .ok (.iload 4, 2) := by decide +kernel
theorem dX9_leaf_138 : decode cX9_leaf 138 = .ok (.putfield 105, 3) := by decide +kernel
theorem dX9_leaf_141 : decode cX9_leaf 141 = .ok (.aload 7, 2) := by decide +kernel
theorem dX9_leaf_143 : decode cX9_leaf 143 = .ok (.iload 5, 2) := by decide +kernel
theorem dX9_leaf_145 : decode cX9_leaf 145 = .ok (.putfield 108, 3) := by decide +kernel
theorem dX9_leaf_148 : decode cX9_leaf 148 = .ok (.aload_n 0, 1) := by decide +kernel
theorem dX9_leaf_149 : decode cX9_leaf 149 = .ok (.getfield 18, 3) := by decide +kernel
theorem dX9_leaf_152 : decode cX9_leaf 152 = .ok (.aload_n 0, 1) := by decide +kernel
theorem dX9_leaf_153 : decode cX9_leaf 153 = .ok (.getfield 22, 3) := by decide +kernel
theorem dX9_leaf_156 : decode cX9_leaf 156 = .ok (.aload 7, 2) := by decide +kernel
theorem dX9_leaf_158 : decode cX9_leaf 158 = .ok (.aastore, 1) := by decide +kernel
theorem dX9_leaf_159 : decode cX9_leaf 159 = .ok (.aload 6, 2) := by decide +kernel
theorem dX9_leaf_161 : decode cX9_leaf 161 = .ok (.aload 7, 2) := by decide +kernel
theorem dX9_leaf_163 : decode cX9_leaf 163 = .ok (.invokevirtual 111, 3) := by decide +kernel
theorem dX9_leaf_166 : decode cX9_leaf 166 = .ok (.aload_n 0, 1) := by decide +kernel
theorem dX9_leaf_167 : decode cX9_leaf 167 = .ok (.dup, 1) := by decide +kernel
theorem dX9_leaf_168 : decode cX9_leaf 168 = .ok (.getfield 22, 3) := by decide +kernel
theorem dX9_leaf_171 : decode cX9_leaf 171 = .ok (.iconst 1, 1) := by decide +kernel
theorem dX9_leaf_172 : decode cX9_leaf 172 = .ok (.iadd, 1) := by decide +kernel
theorem dX9_leaf_173 : decode cX9_leaf 173 = .ok (.putfield 22, 3) := by decide +kernel
theorem dX9_leaf_176 : decode cX9_leaf 176 = .ok (.aload 7, 2) := by decide +kernel
theorem dX9_leaf_178 : decode cX9_leaf 178 = .ok (.getfield 115, 3) := by decide +kernel
theorem dX9_leaf_181 : decode cX9_leaf 181 = .ok (.ireturn, 1) := by decide +kernel
theorem dX9_sheets_0 : decode cX9_sheets 0 = .ok (.aload_n 0, 1) := by decide +kernel
theorem dX9_sheets_1 : decode cX9_sheets 1 = .ok (.iload_n 1, 1) := by decide +kernel
theorem dX9_sheets_2 : decode cX9_sheets 2 = .ok (.invokevirtual 81, 3) := by decide +kernel
theorem dX9_sheets_5 : decode cX9_sheets 5 = .ok (.astore_n 3, 1) := by decide +kernel
theorem dX9_sheets_6 : decode cX9_sheets 6 = .ok (.aload_n 3, 1) := by decide +kernel
theorem dX9_sheets_7 : decode cX9_sheets 7 = .ok (.ifnonnull 11, 3) := by decide +kernel
theorem dX9_sheets_10 : decode cX9_sheets 10 = .ok (.new 85, 3) := by decide +kernel
theorem dX9_sheets_13 : decode cX9_sheets 13 = .ok (.dup, 1) := by decide +kernel
theorem dX9_sheets_14 : decode cX9_sheets 14 = .ok (.invokespecial 87, 3) := by decide +kernel
theorem dX9_sheets_17 : decode cX9_sheets 17 = .ok (.athrow, 1) := by decide +kernel
theorem dX9_sheets_18 : decode cX9_sheets 18 = .ok (.iload_n 2, 1) := by decide +kernel
theorem dX9_sheets_19 : decode cX9_sheets 19 = .ok (.iconst 1, 1) := by decide +kernel
theorem dX9_sheets_20 : decode cX9_sheets 20 = .ok (.iconst 4, 1) := by decide +kernel
theorem dX9_sheets_21 : decode cX9_sheets 21 = .ok (.invokestatic 88, 3) := by decide +kernel
theorem dX9_sheets_24 : decode cX9_sheets 24 = .ok (.ifCond .ne 11, 3) := by decide +kernel
theorem dX9_sheets_27 : decode cX9_sheets 27 = .ok (.new 92, 3) := by decide +kernel
theorem dX9_sheets_30 : decode cX9_sheets 30 = .ok (.dup, 1) := by decide +kernel
theorem dX9_sheets_31 : decode cX9_sheets 31 = .ok (.invokespecial 94, 3) := by decide +kernel
theorem dX9_sheets_34 : decode cX9_sheets 34 = .ok (.athrow, 1) := by decide +kernel
theorem dX9_sheets_35 : decode cX9_sheets 35 = .ok (.aload_n 3, 1) := by decide +kernel
theorem dX9_sheets_36 : decode cX9_sheets 36 = .ok (.getfield 118, 3) := by decide +kernel
theorem dX9_sheets_39 : decode cX9_sheets 39 = .ok (.iconst 2, 1) := by decide +kernel
theorem dX9_sheets_40 : decode cX9_sheets 40 = .ok (.iload_n 2, 1) := by decide +kernel
theorem dX9_sheets_41 : decode cX9_sheets 41 = .ok (.imul, 1) := by decide +kernel
theorem dX9_sheets_42 : decode cX9_sheets 42 = .ok (.if_icmp .le 11, 3) := by decide +kernel
theorem dX9_sheets_45 : decode cX9_sheets 45 = .ok (.new 99, 3) := by decide +kernel
theorem dX9_sheets_48 : decode cX9_sheets 48 = .ok (.dup, 1) := by decide +kernel
theorem dX9_sheets_49 : decode cX9_sheets 49 = .ok (.invokespecial 101, 3) := by decide +kernel
theorem dX9_sheets_52 : decode cX9_sheets 52 = .ok (.athrow, 1) := by decide +kernel
theorem dX9_sheets_53 : decode cX9_sheets 53 = .ok (.aload_n 3, 1) := by decide +kernel
theorem dX9_sheets_54 : decode cX9_sheets 54 = .ok (.getfield 121, 3) := by decide +kernel
theorem dX9_sheets_57 : decode cX9_sheets 57 = .ok (.istore 4, 2) := by decide +kernel
theorem dX9_sheets_59 : decode cX9_sheets 59 = .ok (.aload_n 3, 1) := by decide +kernel
theorem dX9_sheets_60 : decode cX9_sheets 60 = .ok (.iload_n 2, 1) := by decide +kernel
theorem dX9_sheets_61 : decode cX9_sheets 61 = .ok (.putfield 121, 3) := by decide +kernel
theorem dX9_sheets_64 : decode cX9_sheets 64 = .ok (.aload_n 3, 1) := by decide +kernel
theorem dX9_sheets_65 : decode cX9_sheets 65 = .ok (.invokevirtual 124, 3) := by decide +kernel
theorem dX9_sheets_68 : decode cX9_sheets 68 = .ok (.iload 4, 2) := by decide +kernel
theorem dX9_sheets_70 : decode cX9_sheets 70 = .ok (.ireturn, 1) := by decide +kernel
theorem dX9_light_0 : decode cX9_light 0 = .ok (.iload_n 1, 1) := by decide +kernel
theorem dX9_light_1 : decode cX9_light 1 = .ok (.iconst 0, 1) := by decide +kernel
theorem dX9_light_2 : decode cX9_light 2 = .ok (.iconst 2, 1) := by decide +kernel
theorem dX9_light_3 : decode cX9_light 3 = .ok (.invokestatic 88, 3) := by decide +kernel
theorem dX9_light_6 : decode cX9_light 6 = .ok (.ifCond .ne 11, 3) := by decide +kernel
theorem dX9_light_9 : decode cX9_light 9 = .ok (.new 85, 3) := by decide +kernel
theorem dX9_light_12 : decode cX9_light 12 = .ok (.dup, 1) := by decide +kernel
theorem dX9_light_13 : decode cX9_light 13 = .ok (.invokespecial 87, 3) := by decide +kernel
theorem dX9_light_16 : decode cX9_light 16 = .ok (.athrow, 1) := by decide +kernel
theorem dX9_light_17 : decode cX9_light 17 = .ok (.iload_n 2, 1) := by decide +kernel
theorem dX9_light_18 : decode cX9_light 18 = .ok (.iconst 0, 1) := by decide +kernel
theorem dX9_light_19 : decode cX9_light 19 = .ok (.bipush 9, 2) := by decide +kernel
theorem dX9_light_21 : decode cX9_light 21 = .ok (.invokestatic 88, 3) := by decide +kernel
theorem dX9_light_24 : decode cX9_light 24 = .ok (.ifCond .eq 13, 3) := by decide +kernel
theorem dX9_light_27 : decode cX9_light 27 = .ok (.iload_n 3, 1) := by decide +kernel
theorem dX9_light_28 : decode cX9_light 28 = .ok (.iconst 0, 1) := by decide +kernel
theorem dX9_light_29 : decode cX9_light 29 = .ok (.bipush 9, 2) := by decide +kernel
theorem dX9_light_31 : decode cX9_light 31 = .ok (.invokestatic 88, 3) := by decide +kernel
theorem dX9_light_34 : decode cX9_light 34 = .ok (.ifCond .ne 11, 3) := by decide +kernel
theorem dX9_light_37 : decode cX9_light 37 = .ok (.new 92, 3) := by decide +kernel
theorem dX9_light_40 : decode cX9_light 40 = .ok (.dup, 1) := by decide +kernel
theorem dX9_light_41 : decode cX9_light 41 = .ok (.invokespecial 94, 3) := by decide +kernel
theorem dX9_light_44 : decode cX9_light 44 = .ok (.athrow, 1) := by decide +kernel
theorem dX9_light_45 : decode cX9_light 45 = .ok (.aload_n 0, 1) := by decide +kernel
theorem dX9_light_46 : decode cX9_light 46 = .ok (.getfield 12, 3) := by decide +kernel
theorem dX9_light_49 : decode cX9_light 49 = .ok (.getfield 127, 3) := by decide +kernel
theorem dX9_light_52 : decode cX9_light 52 = .ok (.iload_n 1, 1) := by decide +kernel
theorem dX9_light_53 : decode cX9_light 53 = .ok (.iload_n 2, 1) := by decide +kernel
theorem dX9_light_54 : decode cX9_light 54 = .ok (.iastore, 1) := by decide +kernel
theorem dX9_light_55 : decode cX9_light 55 = .ok (.aload_n 0, 1) := by decide +kernel
theorem dX9_light_56 : decode cX9_light 56 = .ok (.getfield 12, 3) := by decide +kernel
theorem dX9_light_59 : decode cX9_light 59 = .ok (.getfield 130, 3) := by decide +kernel
theorem dX9_light_62 : decode cX9_light 62 = .ok (.iload_n 1, 1) := by decide +kernel
theorem dX9_light_63 : decode cX9_light 63 = .ok (.iload_n 3, 1) := by decide +kernel
theorem dX9_light_64 : decode cX9_light 64 = .ok (.iastore, 1) := by decide +kernel
theorem dX9_light_65 : decode cX9_light 65 = .ok (.aload_n 0, 1) := by decide +kernel
theorem dX9_light_66 : decode cX9_light 66 = .ok (.getfield 18, 3) := by decide +kernel
theorem dX9_light_69 : decode cX9_light 69 = .ok (.astore 4, 2) := by decide +kernel
theorem dX9_light_71 : decode cX9_light 71 = .ok (.aload 4, 2) := by decide +kernel
theorem dX9_light_73 : decode cX9_light 73 = .ok (.arraylength, 1) := by decide +kernel
theorem dX9_light_74 : decode cX9_light 74 = .ok (.istore 5, 2) := by decide +kernel
theorem dX9_light_76 : decode cX9_light 76 = .ok (.iconst 0, 1) := by decide +kernel
theorem dX9_light_77 : decode cX9_light 77 = .ok (.istore 6, 2) := by decide +kernel
theorem dX9_light_79 : decode cX9_light 79 = .ok (.iload 6, 2) := by decide +kernel
theorem dX9_light_81 : decode cX9_light 81 = .ok (.iload 5, 2) := by decide +kernel
theorem dX9_light_83 : decode cX9_light 83 = .ok (.if_icmp .ge 30, 3) := by decide +kernel
theorem dX9_light_86 : decode cX9_light 86 = .ok (.aload 4, 2) := by decide +kernel
theorem dX9_light_88 : decode cX9_light 88 = .ok (.iload 6, 2) := by decide +kernel
theorem dX9_light_90 : decode cX9_light 90 = .ok (.aaload, 1) := by decide +kernel
theorem dX9_light_91 : decode cX9_light 91 = .ok (.astore 7, 2) := by decide +kernel
theorem dX9_light_93 : decode cX9_light 93 = .ok (.aload 7, 2) := by decide +kernel
theorem dX9_light_95 : decode cX9_light 95 = .ok (.ifnull 12, 3) := by decide +kernel
theorem dX9_light_98 : decode cX9_light 98 = .ok (.aload 7, 2) := by decide +kernel
theorem dX9_light_100 : decode cX9_light 100 = .ok (.aload_n 0, 1) := by decide +kernel
theorem dX9_light_101 : decode cX9_light 101 = .ok (.getfield 12, 3) := by decide +kernel
theorem dX9_light_104 : decode cX9_light 104 = .ok (.invokevirtual 133, 3) := by decide +kernel
theorem dX9_light_107 : decode cX9_light 107 = .ok (.iinc 6 1, 3) := by decide +kernel
theorem dX9_light_110 : decode cX9_light 110 = .ok (.goto (-31), 3) := by decide +kernel
theorem dX9_light_113 : decode cX9_light 113 = .ok (.return_, 1) := by decide +kernel
theorem dX9_image_0 : decode cX9_image 0 = .ok (.aload_n 0, 1) := by decide +kernel
theorem dX9_image_1 : decode cX9_image 1 = .ok (.iload_n 1, 1) := by decide +kernel
theorem dX9_image_2 : decode cX9_image 2 = .ok (.iload_n 2, 1) := by decide +kernel
theorem dX9_image_3 : decode cX9_image 3 = .ok (.iload_n 3, 1) := by decide +kernel
theorem dX9_image_4 : decode cX9_image 4 = .ok (.invokevirtual 137, 3) := by decide +kernel
theorem dX9_image_7 : decode cX9_image 7 = .ok (.astore 6, 2) := by decide +kernel
theorem dX9_image_9 : decode cX9_image 9 = .ok (.aload 6, 2) := by decide +kernel
theorem dX9_image_11 : decode cX9_image 11 = .ok (.ifnull 13, 3) := by decide +kernel
theorem dX9_image_14 : decode cX9_image 14 = .ok (.iload 4, 2) := by decide +kernel
theorem dX9_image_16 : decode cX9_image 16 = .ok (.iconst 0, 1) := by decide +kernel
theorem dX9_image_17 : decode cX9_image 17 = .ok (.iconst 2, 1) := by decide +kernel
theorem dX9_image_18 : decode cX9_image 18 = .ok (.invokestatic 88, 3) := by decide +kernel
theorem dX9_image_21 : decode cX9_image 21 = .ok (.ifCond .ne 11, 3) := by decide +kernel
theorem dX9_image_24 : decode cX9_image 24 = .ok (.new 85, 3) := by decide +kernel
theorem dX9_image_27 : decode cX9_image 27 = .ok (.dup, 1) := by decide +kernel
theorem dX9_image_28 : decode cX9_image 28 = .ok (.invokespecial 87, 3) := by decide +kernel
theorem dX9_image_31 : decode cX9_image 31 = .ok (.athrow, 1) := by decide +kernel
theorem dX9_image_32 : decode cX9_image 32 = .ok (.iload 5, 2) := by decide +kernel
theorem dX9_image_34 : decode cX9_image 34 = .ok (.iconst (-1), 1) := by decide +kernel
theorem dX9_image_35 : decode cX9_image 35 = .ok (.if_icmp .eq 23, 3) := by decide +kernel
theorem dX9_image_38 : decode cX9_image 38 = .ok (.iload 5, 2) := by decide +kernel
theorem dX9_image_40 : decode cX9_image 40 = .ok (.iconst 0, 1) := by decide +kernel
theorem dX9_image_41 : decode cX9_image 41 = .ok (.sipush 162, 3) := by decide +kernel
theorem dX9_image_44 : decode cX9_image 44 = .ok (.invokestatic 88, 3) := by decide +kernel
theorem dX9_image_47 : decode cX9_image 47 = .ok (.ifCond .ne 11, 3) := by decide +kernel
theorem dX9_image_50 : decode cX9_image 50 = .ok (.new 92, 3) := by decide +kernel
theorem dX9_image_53 : decode cX9_image 53 = .ok (.dup, 1) := by decide +kernel
theorem dX9_image_54 : decode cX9_image 54 = .ok (.invokespecial 94, 3) := by decide +kernel
theorem dX9_image_57 : decode cX9_image 57 = .ok (.athrow, 1) := by decide +kernel
theorem dX9_image_58 : decode cX9_image 58 = .ok (.aload 6, 2) := by decide +kernel
theorem dX9_image_60 : decode cX9_image 60 = .ok (.getfield 141, 3) := by decide +kernel
theorem dX9_image_63 : decode cX9_image 63 = .ok (.iload 4, 2) := by decide +kernel
theorem dX9_image_65 : decode cX9_image 65 = .ok (.iload 5, 2) := by decide +kernel
theorem dX9_image_67 : decode cX9_image 67 = .ok (.iastore, 1) := by decide +kernel
theorem dX9_image_68 : decode cX9_image 68 = .ok (.aload 6, 2) := by decide +kernel
theorem dX9_image_70 : decode cX9_image 70 = .ok (.aload_n 0, 1) := by decide +kernel
theorem dX9_image_71 : decode cX9_image 71 = .ok (.getfield 12, 3) := by decide +kernel
theorem dX9_image_74 : decode cX9_image 74 = .ok (.invokevirtual 146, 3) := by decide +kernel
theorem dX9_image_77 : decode cX9_image 77 = .ok (.aload 6, 2) := by decide +kernel
theorem dX9_image_79 : decode cX9_image 79 = .ok (.getfield 149, 3) := by decide +kernel
theorem dX9_image_82 : decode cX9_image 82 = .ok (.ireturn, 1) := by decide +kernel
theorem dX9_unmix_0 : decode cX9_unmix 0 = .ok (.aload_n 0, 1) := by decide +kernel
theorem dX9_unmix_1 : decode cX9_unmix 1 = .ok (.iload_n 1, 1) := by decide +kernel
theorem dX9_unmix_2 : decode cX9_unmix 2 = .ok (.iload_n 2, 1) := by decide +kernel
theorem dX9_unmix_3 : decode cX9_unmix 3 = .ok (.iload_n 3, 1) := by decide +kernel
theorem dX9_unmix_4 : decode cX9_unmix 4 = .ok (.invokevirtual 137, 3) := by decide +kernel
theorem dX9_unmix_7 : decode cX9_unmix 7 = .ok (.astore 5, 2) := by decide +kernel
theorem dX9_unmix_9 : decode cX9_unmix 9 = .ok (.aload 5, 2) := by decide +kernel
theorem dX9_unmix_11 : decode cX9_unmix 11 = .ok (.ifnonnull 11, 3) := by decide +kernel
theorem dX9_unmix_14 : decode cX9_unmix 14 = .ok (.new 85, 3) := by decide +kernel
theorem dX9_unmix_17 : decode cX9_unmix 17 = .ok (.dup, 1) := by decide +kernel
theorem dX9_unmix_18 : decode cX9_unmix 18 = .ok (.invokespecial 87, 3) := by decide +kernel
theorem dX9_unmix_21 : decode cX9_unmix 21 = .ok (.athrow, 1) := by decide +kernel
theorem dX9_unmix_22 : decode cX9_unmix 22 = .ok (.iload 4, 2) := by decide +kernel
theorem dX9_unmix_24 : decode cX9_unmix 24 = .ok (.ifCond .eq 11, 3) := by decide +kernel
theorem dX9_unmix_27 : decode cX9_unmix 27 = .ok (.aload 5, 2) := by decide +kernel
theorem dX9_unmix_29 : decode cX9_unmix 29 = .ok (.getfield 149, 3) := by decide +kernel
theorem dX9_unmix_32 : decode cX9_unmix 32 = .ok (.goto 8, 3) := by decide +kernel
theorem dX9_unmix_35 : decode cX9_unmix 35 = .ok (.aload 5, 2) := by decide +kernel
theorem dX9_unmix_37 : decode cX9_unmix 37 = .ok (.getfield 151, 3) := by decide +kernel
theorem dX9_unmix_40 : decode cX9_unmix 40 = .ok (.ireturn, 1) := by decide +kernel
theorem dX9_give_0 : decode cX9_give 0 = .ok (.aload_n 0, 1) := by decide +kernel
theorem dX9_give_1 : decode cX9_give 1 = .ok (.iload_n 2, 1) := by decide +kernel
theorem dX9_give_2 : decode cX9_give 2 = .ok (.iload_n 3, 1) := by decide +kernel
theorem dX9_give_3 : decode cX9_give 3 = .ok (.iload 4, 2) := by decide +kernel
theorem dX9_give_5 : decode cX9_give 5 = .ok (.invokevirtual 137, 3) := by decide +kernel
theorem dX9_give_8 : decode cX9_give 8 = .ok (.astore 7, 2) := by decide +kernel
theorem dX9_give_10 : decode cX9_give 10 = .ok (.aload 7, 2) := by decide +kernel
theorem dX9_give_12 : decode cX9_give 12 = .ok (.ifnull 12, 3) := by decide +kernel
theorem dX9_give_15 : decode cX9_give 15 = .ok (.iload_n 1, 1) := by decide +kernel
theorem dX9_give_16 : decode cX9_give 16 = .ok (.iconst 0, 1) := by decide +kernel
theorem dX9_give_17 : decode cX9_give 17 = .ok (.iconst 2, 1) := by decide +kernel
theorem dX9_give_18 : decode cX9_give 18 = .ok (.invokestatic 88, 3) := by decide +kernel
theorem dX9_give_21 : decode cX9_give 21 = .ok (.ifCond .ne 11, 3) := by decide +kernel
theorem dX9_give_24 : decode cX9_give 24 = .ok (.new 85, 3) := by decide +kernel
theorem dX9_give_27 : decode cX9_give 27 = .ok (.dup, 1) := by decide +kernel
theorem dX9_give_28 : decode cX9_give 28 = .ok (.invokespecial 87, 3) := by decide +kernel
theorem dX9_give_31 : decode cX9_give 31 = .ok (.athrow, 1) := by decide +kernel
theorem dX9_give_32 : decode cX9_give 32 = .ok (.iload 5, 2) := by decide +kernel
theorem dX9_give_34 : decode cX9_give 34 = .ok (.invokestatic 153, 3) := by decide +kernel
theorem dX9_give_37 : decode cX9_give 37 = .ok (.ifCond .eq 14, 3) := by decide +kernel
theorem dX9_give_40 : decode cX9_give 40 = .ok (.iload 6, 2) := by decide +kernel
theorem dX9_give_42 : decode cX9_give 42 = .ok (.iconst 0, 1) := by decide +kernel
theorem dX9_give_43 : decode cX9_give 43 = .ok (.bipush 9, 2) := by decide +kernel
theorem dX9_give_45 : decode cX9_give 45 = .ok (.invokestatic 88, 3) := by decide +kernel
theorem dX9_give_48 : decode cX9_give 48 = .ok (.ifCond .ne 11, 3) := by decide +kernel
theorem dX9_give_51 : decode cX9_give 51 = .ok (.new 92, 3) := by decide +kernel
theorem dX9_give_54 : decode cX9_give 54 = .ok (.dup, 1) := by decide +kernel
theorem dX9_give_55 : decode cX9_give 55 = .ok (.invokespecial 94, 3) := by decide +kernel
theorem dX9_give_58 : decode cX9_give 58 = .ok (.athrow, 1) := by decide +kernel
theorem dX9_give_59 : decode cX9_give 59 = .ok (.aload 7, 2) := by decide +kernel
theorem dX9_give_61 : decode cX9_give 61 = .ok (.iload_n 1, 1) := by decide +kernel
theorem dX9_give_62 : decode cX9_give 62 = .ok (.iload 5, 2) := by decide +kernel
theorem dX9_give_64 : decode cX9_give 64 = .ok (.invokevirtual 157, 3) := by decide +kernel
theorem dX9_give_67 : decode cX9_give 67 = .ok (.istore 8, 2) := by decide +kernel
theorem dX9_give_69 : decode cX9_give 69 = .ok (.aload 7, 2) := by decide +kernel
theorem dX9_give_71 : decode cX9_give 71 = .ok (.invokevirtual 161, 3) := by decide +kernel
theorem dX9_give_74 : decode cX9_give 74 = .ok (.ifCond .ne 9, 3) := by decide +kernel
theorem dX9_give_77 : decode cX9_give 77 = .ok (.iload 8, 2) := by decide +kernel
theorem dX9_give_79 : decode cX9_give 79 = .ok (.iconst (-1), 1) := by decide +kernel
theorem dX9_give_80 : decode cX9_give 80 = .ok (.if_icmp .ne 11, 3) := by decide +kernel
theorem dX9_give_83 : decode cX9_give 83 = .ok (.new 99, 3) := by decide +kernel
theorem dX9_give_86 : decode cX9_give 86 = .ok (.dup, 1) := by decide +kernel
theorem dX9_give_87 : decode cX9_give 87 = .ok (.invokespecial 101, 3) := by decide +kernel
theorem dX9_give_90 : decode cX9_give 90 = .ok (.athrow, 1) := by decide +kernel
theorem dX9_give_91 : decode cX9_give 91 = .ok (.aload 7, 2) := by decide +kernel
theorem dX9_give_93 : decode cX9_give 93 = .ok (.iload 8, 2) := by decide +kernel
theorem dX9_give_95 : decode cX9_give 95 = .ok (.iload 5, 2) := by decide +kernel
theorem dX9_give_97 : decode cX9_give 97 = .ok (.iload 6, 2) := by decide +kernel
theorem dX9_give_99 : decode cX9_give 99 = .ok (.invokevirtual 164, 3) := by decide +kernel
theorem dX9_give_102 : decode cX9_give 102 = .ok (.aload 7, 2) := by decide +kernel
theorem dX9_give_104 : decode cX9_give 104 = .ok (.iload_n 1, 1) := by decide +kernel
theorem dX9_give_105 : decode cX9_give 105 = .ok (.invokevirtual 168, 3) := by decide +kernel
theorem dX9_give_108 : decode cX9_give 108 = .ok (.ireturn, 1) := by decide +kernel
theorem dX9_type_0 : decode cX9_type 0 = .ok (.iload_n 1, 1) := by decide +kernel
theorem dX9_type_1 : decode cX9_type 1 = .ok (.invokestatic 153, 3) := by decide +kernel
theorem dX9_type_4 : decode cX9_type 4 = .ok (.ifCond .ne 11, 3) := by decide +kernel
theorem dX9_type_7 : decode cX9_type 7 = .ok (.new 92, 3) := by decide +kernel
theorem dX9_type_10 : decode cX9_type 10 = .ok (.dup, 1) := by decide +kernel
theorem dX9_type_11 : decode cX9_type 11 = .ok (.invokespecial 94, 3) := by decide +kernel
theorem dX9_type_14 : decode cX9_type 14 = .ok (.athrow, 1) := by decide +kernel
theorem dX9_type_15 : decode cX9_type 15 = .ok (.aload_n 0, 1) := by decide +kernel
theorem dX9_type_16 : decode cX9_type 16 = .ok (.getfield 46, 3) := by decide +kernel
theorem dX9_type_19 : decode cX9_type 19 = .ok (.aload_n 0, 1) := by decide +kernel
theorem dX9_type_20 : decode cX9_type 20 = .ok (.getfield 42, 3) := by decide +kernel
theorem dX9_type_23 : decode cX9_type 23 = .ok (.arraylength, 1) := by decide +kernel
theorem dX9_type_24 : decode cX9_type 24 = .ok (.if_icmp .lt 11, 3) := by decide +kernel
theorem dX9_type_27 : decode cX9_type 27 = .ok (.new 99, 3) := by decide +kernel
theorem dX9_type_30 : decode cX9_type 30 = .ok (.dup, 1) := by decide +kernel
theorem dX9_type_31 : decode cX9_type 31 = .ok (.invokespecial 101, 3) := by decide +kernel
theorem dX9_type_34 : decode cX9_type 34 = .ok (.athrow, 1) := by decide +kernel
theorem dX9_type_35 : decode cX9_type 35 = .ok (.aload_n 0, 1) := by decide +kernel
theorem dX9_type_36 : decode cX9_type 36 = .ok (.getfield 42, 3) := by decide +kernel
theorem dX9_type_39 : decode cX9_type 39 = .ok (.aload_n 0, 1) := by decide +kernel
theorem dX9_type_40 : decode cX9_type 40 = .ok (.getfield 46, 3) := by decide +kernel
theorem dX9_type_43 : decode cX9_type 43 = .ok (.iload_n 1, 1) := by decide +kernel
theorem dX9_type_44 : decode cX9_type 44 = .ok (.iastore, 1) := by decide +kernel
theorem dX9_type_45 : decode cX9_type 45 = .ok (.aload_n 0, 1) := by decide +kernel
theorem dX9_type_46 : decode cX9_type 46 = .ok (.dup, 1) := by decide +kernel
theorem dX9_type_47 : decode cX9_type 47 = .ok (.getfield 46, 3) := by decide +kernel
theorem dX9_type_50 : decode cX9_type 50 = .ok (.iconst 1, 1) := by decide +kernel
theorem dX9_type_51 : decode cX9_type 51 = .ok (.iadd, 1) := by decide +kernel
theorem dX9_type_52 : decode cX9_type 52 = .ok (.putfield 46, 3) := by decide +kernel
theorem dX9_type_55 : decode cX9_type 55 = .ok (.aload_n 0, 1) := by decide +kernel
theorem dX9_type_56 : decode cX9_type 56 = .ok (.getfield 46, 3) := by decide +kernel
theorem dX9_type_59 : decode cX9_type 59 = .ok (.ireturn, 1) := by decide +kernel
theorem dX9_word_0 : decode cX9_word 0 = .ok (.aload_n 0, 1) := by decide +kernel
theorem dX9_word_1 : decode cX9_word 1 = .ok (.getfield 46, 3) := by decide +kernel
theorem dX9_word_4 : decode cX9_word 4 = .ok (.ifCond .eq 12, 3) := by decide +kernel
theorem dX9_word_7 : decode cX9_word 7 = .ok (.aload_n 0, 1) := by decide +kernel
theorem dX9_word_8 : decode cX9_word 8 = .ok (.getfield 46, 3) := by decide +kernel
theorem dX9_word_11 : decode cX9_word 11 = .ok (.bipush 8, 2) := by decide +kernel
theorem dX9_word_13 : decode cX9_word 13 = .ok (.if_icmp .le 11, 3) := by decide +kernel
theorem dX9_word_16 : decode cX9_word 16 = .ok (.new 99, 3) := by decide +kernel
theorem dX9_word_19 : decode cX9_word 19 = .ok (.dup, 1) := by decide +kernel
theorem dX9_word_20 : decode cX9_word 20 = .ok (.invokespecial 101, 3) := by decide +kernel
theorem dX9_word_23 : decode cX9_word 23 = .ok (.athrow, 1) := by decide +kernel
theorem dX9_word_24 : decode cX9_word 24 = .ok (.aload_n 0, 1) := by decide +kernel
theorem dX9_word_25 : decode cX9_word 25 = .ok (.invokevirtual 172, 3) := by decide +kernel
theorem dX9_word_28 : decode cX9_word 28 = .ok (.istore_n 1, 1) := by decide +kernel
theorem dX9_word_29 : decode cX9_word 29 = .ok (.iload_n 1, 1) := by decide +kernel
theorem dX9_word_30 : decode cX9_word 30 = .ok (.iconst (-1), 1) := by decide +kernel
theorem dX9_word_31 : decode cX9_word 31 = .ok (.if_icmp .ne 20, 3) := by decide +kernel
theorem dX9_word_34 : decode cX9_word 34 = .ok (.aload_n 0, 1) := by decide +kernel
theorem dX9_word_35 : decode cX9_word 35 = .ok (.getfield 55, 3) := by decide +kernel
theorem dX9_word_38 : decode cX9_word 38 = .ok (.bipush 12, 2) := by decide +kernel
theorem dX9_word_40 : decode cX9_word 40 = .ok (.if_icmp .lt 11, 3) := by decide +kernel
theorem dX9_word_43 : decode cX9_word 43 = .ok (.new 99, 3) := by decide +kernel
theorem dX9_word_46 : decode cX9_word 46 = .ok (.dup, 1) := by decide +kernel
theorem dX9_word_47 : decode cX9_word 47 = .ok (.invokespecial 101, 3) := by decide +kernel
theorem dX9_word_50 : decode cX9_word 50 = .ok (.athrow, 1) := by decide +kernel
theorem dX9_word_51 : decode cX9_word 51 = .ok (.iload_n 1, 1) := by decide +kernel
theorem dX9_word_52 : decode cX9_word 52 = .ok (.istore_n 2, 1) := by decide +kernel
theorem dX9_word_53 : decode cX9_word 53 = .ok (.iload_n 1, 1) := by decide +kernel
theorem dX9_word_54 : decode cX9_word 54 = .ok (.iconst (-1), 1) := by decide +kernel
theorem dX9_word_55 : decode cX9_word 55 = .ok (.if_icmp .ne 42, 3) := by decide +kernel
theorem dX9_word_58 : decode cX9_word 58 = .ok (.aload_n 0, 1) := by decide +kernel
theorem dX9_word_59 : decode cX9_word 59 = .ok (.getfield 55, 3) := by decide +kernel
theorem dX9_word_62 : decode cX9_word 62 = .ok (.istore_n 2, 1) := by decide +kernel
theorem dX9_word_63 : decode cX9_word 63 = .ok (.aload_n 0, 1) := by decide +kernel
theorem dX9_word_64 : decode cX9_word 64 = .ok (.getfield 51, 3) := by decide +kernel
theorem dX9_word_67 : decode cX9_word 67 = .ok (.aload_n 0, 1) := by decide +kernel
theorem dX9_word_68 : decode cX9_word 68 = .ok (.getfield 55, 3) := by decide +kernel
theorem dX9_word_71 : decode cX9_word 71 = .ok (.new 49, 3) := by decide +kernel
theorem dX9_word_74 : decode cX9_word 74 = .ok (.dup, 1) := by decide +kernel
theorem dX9_word_75 : decode cX9_word 75 = .ok (.aload_n 0, 1) := by decide +kernel
theorem dX9_word_76 : decode cX9_word 76 = .ok (.getfield 42, 3) := by decide +kernel
theorem dX9_word_79 : decode cX9_word 79 = .ok (.aload_n 0, 1) := by decide +kernel
theorem dX9_word_80 : decode cX9_word 80 = .ok (.getfield 46, 3) := by decide +kernel
theorem dX9_word_83 : decode cX9_word 83 = .ok (.invokespecial 176, 3) := by decide +kernel
theorem dX9_word_86 : decode cX9_word 86 = .ok (.aastore, 1) := by decide +kernel
theorem dX9_word_87 : decode cX9_word 87 = .ok (.aload_n 0, 1) := by decide +kernel
theorem dX9_word_88 : decode cX9_word 88 = .ok (.dup, 1) := by decide +kernel
theorem dX9_word_89 : decode cX9_word 89 = .ok (.getfield 55, 3) := by decide +kernel
theorem dX9_word_92 : decode cX9_word 92 = .ok (.iconst 1, 1) := by decide +kernel
theorem dX9_word_93 : decode cX9_word 93 = .ok (.iadd, 1) := by decide +kernel
theorem dX9_word_94 : decode cX9_word 94 = .ok (.putfield 55, 3) := by decide +kernel
theorem dX9_word_97 : decode cX9_word 97 = .ok (.aload_n 0, 1) := by decide +kernel
theorem dX9_word_98 : decode cX9_word 98 = .ok (.iconst 0, 1) := by decide +kernel
theorem dX9_word_99 : decode cX9_word 99 = .ok (.putfield 46, 3) := by decide +kernel
theorem dX9_word_102 : decode cX9_word 102 = .ok (.iload_n 2, 1) := by decide +kernel
theorem dX9_word_103 : decode cX9_word 103 = .ok (.ireturn, 1) := by decide +kernel
theorem dX9_work_0 : decode cX9_work 0 = .ok (.aload_n 0, 1) := by decide +kernel
theorem dX9_work_1 : decode cX9_work 1 = .ok (.getfield 46, 3) := by decide +kernel
theorem dX9_work_4 : decode cX9_work 4 = .ok (.ifCond .eq 11, 3) := by decide +kernel
theorem dX9_work_7 : decode cX9_work 7 = .ok (.aload_n 0, 1) := by decide +kernel
theorem dX9_work_8 : decode cX9_work 8 = .ok (.getfield 61, 3) := by decide +kernel
theorem dX9_work_11 : decode cX9_work 11 = .ok (.iconst 4, 1) := by decide +kernel
theorem dX9_work_12 : decode cX9_work 12 = .ok (.if_icmp .lt 11, 3) := by decide +kernel
theorem dX9_work_15 : decode cX9_work 15 = .ok (.new 99, 3) := by decide +kernel
theorem dX9_work_18 : decode cX9_work 18 = .ok (.dup, 1) := by decide +kernel
theorem dX9_work_19 : decode cX9_work 19 = .ok (.invokespecial 101, 3) := by decide +kernel
theorem dX9_work_22 : decode cX9_work 22 = .ok (.athrow, 1) := by decide +kernel
theorem dX9_work_23 : decode cX9_work 23 = .ok (.aload_n 0, 1) := by decide +kernel
theorem dX9_work_24 : decode cX9_work 24 = .ok (.getfield 61, 3) := by decide +kernel
theorem dX9_work_27 : decode cX9_work 27 = .ok (.istore_n 1, 1) := by decide +kernel
theorem dX9_work_28 : decode cX9_work 28 = .ok (.aload_n 0, 1) := by decide +kernel
theorem dX9_work_29 : decode cX9_work 29 = .ok (.getfield 58, 3) := by decide +kernel
theorem dX9_work_32 : decode cX9_work 32 = .ok (.aload_n 0, 1) := by decide +kernel
theorem dX9_work_33 : decode cX9_work 33 = .ok (.getfield 61, 3) := by decide +kernel
theorem dX9_work_36 : decode cX9_work 36 = .ok (.new 49, 3) := by decide +kernel
theorem dX9_work_39 : decode cX9_work 39 = .ok (.dup, 1) := by decide +kernel
theorem dX9_work_40 : decode cX9_work 40 = .ok (.aload_n 0, 1) := by decide +kernel
theorem dX9_work_41 : decode cX9_work 41 = .ok (.getfield 42, 3) := by decide +kernel
theorem dX9_work_44 : decode cX9_work 44 = .ok (.aload_n 0, 1) := by decide +kernel
theorem dX9_work_45 : decode cX9_work 45 = .ok (.getfield 46, 3) := by decide +kernel
theorem dX9_work_48 : decode cX9_work 48 = .ok (.invokespecial 176, 3) := by decide +kernel
theorem dX9_work_51 : decode cX9_work 51 = .ok (.aastore, 1) := by decide +kernel
theorem dX9_work_52 : decode cX9_work 52 = .ok (.aload_n 0, 1) := by decide +kernel
theorem dX9_work_53 : decode cX9_work 53 = .ok (.dup, 1) := by decide +kernel
theorem dX9_work_54 : decode cX9_work 54 = .ok (.getfield 61, 3) := by decide +kernel
theorem dX9_work_57 : decode cX9_work 57 = .ok (.iconst 1, 1) := by decide +kernel
theorem dX9_work_58 : decode cX9_work 58 = .ok (.iadd, 1) := by decide +kernel
theorem dX9_work_59 : decode cX9_work 59 = .ok (.putfield 61, 3) := by decide +kernel
theorem dX9_work_62 : decode cX9_work 62 = .ok (.aload_n 0, 1) := by decide +kernel
theorem dX9_work_63 : decode cX9_work 63 = .ok (.iconst 0, 1) := by decide +kernel
theorem dX9_work_64 : decode cX9_work 64 = .ok (.putfield 46, 3) := by decide +kernel
theorem dX9_work_67 : decode cX9_work 67 = .ok (.iload_n 1, 1) := by decide +kernel
theorem dX9_work_68 : decode cX9_work 68 = .ok (.ireturn, 1) := by decide +kernel
theorem dX9_weight_0 : decode cX9_weight 0 = .ok (.aload_n 0, 1) := by decide +kernel
theorem dX9_weight_1 : decode cX9_weight 1 = .ok (.iload_n 1, 1) := by decide +kernel
theorem dX9_weight_2 : decode cX9_weight 2 = .ok (.invokevirtual 179, 3) := by decide +kernel
theorem dX9_weight_5 : decode cX9_weight 5 = .ok (.astore 4, 2) := by decide +kernel
theorem dX9_weight_7 : decode cX9_weight 7 = .ok (.aload 4, 2) := by decide +kernel
theorem dX9_weight_9 : decode cX9_weight 9 = .ok (.ifnull 12, 3) := by decide +kernel
theorem dX9_weight_12 : decode cX9_weight 12 = .ok (.aload 4, 2) := by decide +kernel
theorem dX9_weight_14 : decode cX9_weight 14 = .ok (.iload_n 2, 1) := by decide +kernel
theorem dX9_weight_15 : decode cX9_weight 15 = .ok (.invokevirtual 183, 3) := by decide +kernel
theorem dX9_weight_18 : decode cX9_weight 18 = .ok (.ifCond .ne 11, 3) := by decide +kernel
theorem dX9_weight_21 : decode cX9_weight 21 = .ok (.new 85, 3) := by decide +kernel
theorem dX9_weight_24 : decode cX9_weight 24 = .ok (.dup, 1) := by decide +kernel
theorem dX9_weight_25 : decode cX9_weight 25 = .ok (.invokespecial 87, 3) := by decide +kernel
theorem dX9_weight_28 : decode cX9_weight 28 = .ok (.athrow, 1) := by decide +kernel
theorem dX9_weight_29 : decode cX9_weight 29 = .ok (.iload_n 3, 1) := by decide +kernel
theorem dX9_weight_30 : decode cX9_weight 30 = .ok (.invokestatic 186, 3) := by decide +kernel
theorem dX9_weight_33 : decode cX9_weight 33 = .ok (.ifCond .ne 11, 3) := by decide +kernel
theorem dX9_weight_36 : decode cX9_weight 36 = .ok (.new 92, 3) := by decide +kernel
theorem dX9_weight_39 : decode cX9_weight 39 = .ok (.dup, 1) := by decide +kernel
theorem dX9_weight_40 : decode cX9_weight 40 = .ok (.invokespecial 94, 3) := by decide +kernel
theorem dX9_weight_43 : decode cX9_weight 43 = .ok (.athrow, 1) := by decide +kernel
theorem dX9_weight_44 : decode cX9_weight 44 = .ok (.aload_n 0, 1) := by decide +kernel
theorem dX9_weight_45 : decode cX9_weight 45 = .ok (.getfield 67, 3) := by decide +kernel
theorem dX9_weight_48 : decode cX9_weight 48 = .ok (.aload 4, 2) := by decide +kernel
theorem dX9_weight_50 : decode cX9_weight 50 = .ok (.iload_n 2, 1) := by decide +kernel
theorem dX9_weight_51 : decode cX9_weight 51 = .ok (.iload_n 3, 1) := by decide +kernel
theorem dX9_weight_52 : decode cX9_weight 52 = .ok (.aload_n 0, 1) := by decide +kernel
theorem dX9_weight_53 : decode cX9_weight 53 = .ok (.getfield 51, 3) := by decide +kernel
theorem dX9_weight_56 : decode cX9_weight 56 = .ok (.invokevirtual 189, 3) := by decide +kernel
theorem dX9_weight_59 : decode cX9_weight 59 = .ok (.aload_n 0, 1) := by decide +kernel
theorem dX9_weight_60 : decode cX9_weight 60 = .ok (.getfield 67, 3) := by decide +kernel
theorem dX9_weight_63 : decode cX9_weight 63 = .ok (.invokevirtual 193, 3) := by decide +kernel
theorem dX9_weight_66 : decode cX9_weight 66 = .ok (.ireturn, 1) := by decide +kernel
theorem dX9_readings_0 : decode cX9_readings 0 = .ok (.aload_n 0, 1) := by decide +kernel
theorem dX9_readings_1 : decode cX9_readings 1 = .ok (.iload_n 1, 1) := by decide +kernel
theorem dX9_readings_2 : decode cX9_readings 2 = .ok (.invokevirtual 179, 3) := by decide +kernel
theorem dX9_readings_5 : decode cX9_readings 5 = .ok (.astore 4, 2) := by decide +kernel
theorem dX9_readings_7 : decode cX9_readings 7 = .ok (.aload 4, 2) := by decide +kernel
theorem dX9_readings_9 : decode cX9_readings 9 = .ok (.ifnull 12, 3) := by decide +kernel
theorem dX9_readings_12 : decode cX9_readings 12 = .ok (.aload 4, 2) := by decide +kernel
theorem dX9_readings_14 : decode cX9_readings 14 = .ok (.iload_n 2, 1) := by decide +kernel
theorem dX9_readings_15 : decode cX9_readings 15 = .ok (.invokevirtual 183, 3) := by decide +kernel
theorem dX9_readings_18 : decode cX9_readings 18 = .ok (.ifCond .ne 11, 3) := by decide +kernel
theorem dX9_readings_21 : decode cX9_readings 21 = .ok (.new 85, 3) := by decide +kernel
theorem dX9_readings_24 : decode cX9_readings 24 = .ok (.dup, 1) := by decide +kernel
theorem dX9_readings_25 : decode cX9_readings 25 = .ok (.invokespecial 87, 3) := by decide +kernel
theorem dX9_readings_28 : decode cX9_readings 28 = .ok (.athrow, 1) := by decide +kernel
theorem dX9_readings_29 : decode cX9_readings 29 = .ok (.iload_n 3, 1) := by decide +kernel
theorem dX9_readings_30 : decode cX9_readings 30 = .ok (.invokestatic 186, 3) := by decide +kernel
theorem dX9_readings_33 : decode cX9_readings 33 = .ok (.ifCond .ne 11, 3) := by decide +kernel
theorem dX9_readings_36 : decode cX9_readings 36 = .ok (.new 92, 3) := by decide +kernel
theorem dX9_readings_39 : decode cX9_readings 39 = .ok (.dup, 1) := by decide +kernel
theorem dX9_readings_40 : decode cX9_readings 40 = .ok (.invokespecial 94, 3) := by decide +kernel
theorem dX9_readings_43 : decode cX9_readings 43 = .ok (.athrow, 1) := by decide +kernel
theorem dX9_readings_44 : decode cX9_readings 44 = .ok (.aload_n 0, 1) := by decide +kernel
theorem dX9_readings_45 : decode cX9_readings 45 = .ok (.getfield 67, 3) := by decide +kernel
theorem dX9_readings_48 : decode cX9_readings 48 = .ok (.aload 4, 2) := by decide +kernel
theorem dX9_readings_50 : decode cX9_readings 50 = .ok (.iload_n 2, 1) := by decide +kernel
theorem dX9_readings_51 : decode cX9_readings 51 = .ok (.iload_n 3, 1) := by decide +kernel
theorem dX9_readings_52 : decode cX9_readings 52 = .ok (.aload_n 0, 1) := by decide +kernel
theorem dX9_readings_53 : decode cX9_readings 53 = .ok (.getfield 51, 3) := by decide +kernel
theorem dX9_readings_56 : decode cX9_readings 56 = .ok (.invokevirtual 189, 3) := by decide +kernel
theorem dX9_readings_59 : decode cX9_readings 59 = .ok (.aload_n 0, 1) := by decide +kernel
theorem dX9_readings_60 : decode cX9_readings 60 = .ok (.getfield 67, 3) := by decide +kernel
theorem dX9_readings_63 : decode cX9_readings 63 = .ok (.invokevirtual 196, 3) := by decide +kernel
theorem dX9_readings_66 : decode cX9_readings 66 = .ok (.ireturn, 1) := by decide +kernel
theorem dX9_letter_0 : decode cX9_letter 0 = .ok (.aload_n 0, 1) := by decide +kernel
theorem dX9_letter_1 : decode cX9_letter 1 = .ok (.iload_n 1, 1) := by decide +kernel
theorem dX9_letter_2 : decode cX9_letter 2 = .ok (.invokevirtual 179, 3) := by decide +kernel
theorem dX9_letter_5 : decode cX9_letter 5 = .ok (.astore 5, 2) := by decide +kernel
theorem dX9_letter_7 : decode cX9_letter 7 = .ok (.aload 5, 2) := by decide +kernel
theorem dX9_letter_9 : decode cX9_letter 9 = .ok (.ifnull 13, 3) := by decide +kernel
theorem dX9_letter_12 : decode cX9_letter 12 = .ok (.aload 5, 2) := by decide +kernel
theorem dX9_letter_14 : decode cX9_letter 14 = .ok (.iload_n 2, 1) := by decide +kernel
theorem dX9_letter_15 : decode cX9_letter 15 = .ok (.iload_n 3, 1) := by decide +kernel
theorem dX9_letter_16 : decode cX9_letter 16 = .ok (.invokevirtual 199, 3) := by decide +kernel
theorem dX9_letter_19 : decode cX9_letter 19 = .ok (.ifnonnull 11, 3) := by decide +kernel
theorem dX9_letter_22 : decode cX9_letter 22 = .ok (.new 85, 3) := by decide +kernel
theorem dX9_letter_25 : decode cX9_letter 25 = .ok (.dup, 1) := by decide +kernel
theorem dX9_letter_26 : decode cX9_letter 26 = .ok (.invokespecial 87, 3) := by decide +kernel
theorem dX9_letter_29 : decode cX9_letter 29 = .ok (.athrow, 1) := by decide +kernel
theorem dX9_letter_30 : decode cX9_letter 30 = .ok (.iload 4, 2) := by decide +kernel
theorem dX9_letter_32 : decode cX9_letter 32 = .ok (.invokestatic 186, 3) := by decide +kernel
theorem dX9_letter_35 : decode cX9_letter 35 = .ok (.ifCond .ne 11, 3) := by decide +kernel
theorem dX9_letter_38 : decode cX9_letter 38 = .ok (.new 92, 3) := by decide +kernel
theorem dX9_letter_41 : decode cX9_letter 41 = .ok (.dup, 1) := by decide +kernel
theorem dX9_letter_42 : decode cX9_letter 42 = .ok (.invokespecial 94, 3) := by decide +kernel
theorem dX9_letter_45 : decode cX9_letter 45 = .ok (.athrow, 1) := by decide +kernel
theorem dX9_letter_46 : decode cX9_letter 46 = .ok (.aload_n 0, 1) := by decide +kernel
theorem dX9_letter_47 : decode cX9_letter 47 = .ok (.getfield 67, 3) := by decide +kernel
theorem dX9_letter_50 : decode cX9_letter 50 = .ok (.aload 5, 2) := by decide +kernel
theorem dX9_letter_52 : decode cX9_letter 52 = .ok (.iload_n 2, 1) := by decide +kernel
theorem dX9_letter_53 : decode cX9_letter 53 = .ok (.iload 4, 2) := by decide +kernel
theorem dX9_letter_55 : decode cX9_letter 55 = .ok (.aload_n 0, 1) := by decide +kernel
theorem dX9_letter_56 : decode cX9_letter 56 = .ok (.getfield 51, 3) := by decide +kernel
theorem dX9_letter_59 : decode cX9_letter 59 = .ok (.invokevirtual 189, 3) := by decide +kernel
theorem dX9_letter_62 : decode cX9_letter 62 = .ok (.aload_n 0, 1) := by decide +kernel
theorem dX9_letter_63 : decode cX9_letter 63 = .ok (.getfield 67, 3) := by decide +kernel
theorem dX9_letter_66 : decode cX9_letter 66 = .ok (.iload_n 3, 1) := by decide +kernel
theorem dX9_letter_67 : decode cX9_letter 67 = .ok (.invokevirtual 203, 3) := by decide +kernel
theorem dX9_letter_70 : decode cX9_letter 70 = .ok (.ireturn, 1) := by decide +kernel
theorem dX9_fact_0 : decode cX9_fact 0 = .ok (.aload_n 0, 1) := by decide +kernel
theorem dX9_fact_1 : decode cX9_fact 1 = .ok (.iload_n 2, 1) := by decide +kernel
theorem dX9_fact_2 : decode cX9_fact 2 = .ok (.invokevirtual 179, 3) := by decide +kernel
theorem dX9_fact_5 : decode cX9_fact 5 = .ok (.astore 5, 2) := by decide +kernel
theorem dX9_fact_7 : decode cX9_fact 7 = .ok (.aload 5, 2) := by decide +kernel
theorem dX9_fact_9 : decode cX9_fact 9 = .ok (.ifnonnull 11, 3) := by decide +kernel
theorem dX9_fact_12 : decode cX9_fact 12 = .ok (.new 85, 3) := by decide +kernel
theorem dX9_fact_15 : decode cX9_fact 15 = .ok (.dup, 1) := by decide +kernel
theorem dX9_fact_16 : decode cX9_fact 16 = .ok (.invokespecial 87, 3) := by decide +kernel
theorem dX9_fact_19 : decode cX9_fact 19 = .ok (.athrow, 1) := by decide +kernel
theorem dX9_fact_20 : decode cX9_fact 20 = .ok (.iload_n 1, 1) := by decide +kernel
theorem dX9_fact_21 : decode cX9_fact 21 = .ok (.iconst 0, 1) := by decide +kernel
theorem dX9_fact_22 : decode cX9_fact 22 = .ok (.iconst 4, 1) := by decide +kernel
theorem dX9_fact_23 : decode cX9_fact 23 = .ok (.invokestatic 88, 3) := by decide +kernel
theorem dX9_fact_26 : decode cX9_fact 26 = .ok (.ifCond .ne 11, 3) := by decide +kernel
theorem dX9_fact_29 : decode cX9_fact 29 = .ok (.new 92, 3) := by decide +kernel
theorem dX9_fact_32 : decode cX9_fact 32 = .ok (.dup, 1) := by decide +kernel
theorem dX9_fact_33 : decode cX9_fact 33 = .ok (.invokespecial 94, 3) := by decide +kernel
theorem dX9_fact_36 : decode cX9_fact 36 = .ok (.athrow, 1) := by decide +kernel
theorem dX9_fact_37 : decode cX9_fact 37 = .ok (.iload_n 1, 1) := by decide +kernel
theorem dX9_fact_38 : decode cX9_fact 38 = .ok (.iconst 3, 1) := by decide +kernel
theorem dX9_fact_39 : decode cX9_fact 39 = .ok (.if_icmp .ne 23, 3) := by decide +kernel
theorem dX9_fact_42 : decode cX9_fact 42 = .ok (.aload 5, 2) := by decide +kernel
theorem dX9_fact_44 : decode cX9_fact 44 = .ok (.getfield 206, 3) := by decide +kernel
theorem dX9_fact_47 : decode cX9_fact 47 = .ok (.iload_n 3, 1) := by decide +kernel
theorem dX9_fact_48 : decode cX9_fact 48 = .ok (.invokevirtual 210, 3) := by decide +kernel
theorem dX9_fact_51 : decode cX9_fact 51 = .ok (.ifCond .ne 59, 3) := by decide +kernel
theorem dX9_fact_54 : decode cX9_fact 54 = .ok (.new 85, 3) := by decide +kernel
theorem dX9_fact_57 : decode cX9_fact 57 = .ok (.dup, 1) := by decide +kernel
theorem dX9_fact_58 : decode cX9_fact 58 = .ok (.invokespecial 87, 3) := by decide +kernel
theorem dX9_fact_61 : decode cX9_fact 61 = .ok (.athrow, 1) := by decide +kernel
theorem dX9_fact_62 : decode cX9_fact 62 = .ok (.aload_n 0, 1) := by decide +kernel
theorem dX9_fact_63 : decode cX9_fact 63 = .ok (.iload_n 3, 1) := by decide +kernel
theorem dX9_fact_64 : decode cX9_fact 64 = .ok (.invokevirtual 179, 3) := by decide +kernel
theorem dX9_fact_67 : decode cX9_fact 67 = .ok (.astore 6, 2) := by decide +kernel
theorem dX9_fact_69 : decode cX9_fact 69 = .ok (.aload 6, 2) := by decide +kernel
theorem dX9_fact_71 : decode cX9_fact 71 = .ok (.ifnonnull 11, 3) := by decide +kernel
theorem dX9_fact_74 : decode cX9_fact 74 = .ok (.new 85, 3) := by decide +kernel
theorem dX9_fact_77 : decode cX9_fact 77 = .ok (.dup, 1) := by decide +kernel
theorem dX9_fact_78 : decode cX9_fact 78 = .ok (.invokespecial 87, 3) := by decide +kernel
theorem dX9_fact_81 : decode cX9_fact 81 = .ok (.athrow, 1) := by decide +kernel
theorem dX9_fact_82 : decode cX9_fact 82 = .ok (.aload 5, 2) := by decide +kernel
theorem dX9_fact_84 : decode cX9_fact 84 = .ok (.aload 6, 2) := by decide +kernel
theorem dX9_fact_86 : decode cX9_fact 86 = .ok (.if_acmp .eq 16, 3) := by decide +kernel
theorem dX9_fact_89 : decode cX9_fact 89 = .ok (.aload 5, 2) := by decide +kernel
theorem dX9_fact_91 : decode cX9_fact 91 = .ok (.getfield 206, 3) := by decide +kernel
theorem dX9_fact_94 : decode cX9_fact 94 = .ok (.aload 6, 2) := by decide +kernel
theorem dX9_fact_96 : decode cX9_fact 96 = .ok (.getfield 206, 3) := by decide +kernel
theorem dX9_fact_99 : decode cX9_fact 99 = .ok (.if_acmp .eq 11, 3) := by decide +kernel
theorem dX9_fact_102 : decode cX9_fact 102 = .ok (.new 92, 3) := by decide +kernel
theorem dX9_fact_105 : decode cX9_fact 105 = .ok (.dup, 1) := by decide +kernel
theorem dX9_fact_106 : decode cX9_fact 106 = .ok (.invokespecial 94, 3) := by decide +kernel
theorem dX9_fact_109 : decode cX9_fact 109 = .ok (.athrow, 1) := by decide +kernel
theorem dX9_fact_110 : decode cX9_fact 110 = .ok (.aload_n 0, 1) := by decide +kernel
theorem dX9_fact_111 : decode cX9_fact 111 = .ok (.getfield 39, 3) := by decide +kernel
theorem dX9_fact_114 : decode cX9_fact 114 = .ok (.bipush 12, 2) := by decide +kernel
theorem dX9_fact_116 : decode cX9_fact 116 = .ok (.if_icmp .lt 11, 3) := by decide +kernel
theorem dX9_fact_119 : decode cX9_fact 119 = .ok (.new 99, 3) := by decide +kernel
theorem dX9_fact_122 : decode cX9_fact 122 = .ok (.dup, 1) := by decide +kernel
theorem dX9_fact_123 : decode cX9_fact 123 = .ok (.invokespecial 101, 3) := by decide +kernel
theorem dX9_fact_126 : decode cX9_fact 126 = .ok (.athrow, 1) := by decide +kernel
theorem dX9_fact_127 : decode cX9_fact 127 = .ok (.new 33, 3) := by decide +kernel
theorem dX9_fact_130 : decode cX9_fact 130 = .ok (.dup, 1) := by decide +kernel
theorem dX9_fact_131 : decode cX9_fact 131 = .ok (.aload_n 0, 1) := by decide +kernel
theorem dX9_fact_132 : decode cX9_fact 132 = .ok (.getfield 39, 3) := by decide +kernel
theorem dX9_fact_135 : decode cX9_fact 135 = .ok (.aload 5, 2) := by decide +kernel
theorem dX9_fact_137 : decode cX9_fact 137 = .ok (.getfield 206, 3) := by decide +kernel
theorem dX9_fact_140 : decode cX9_fact 140 = .ok (.iload_n 1, 1) := by decide +kernel
theorem dX9_fact_141 : decode cX9_fact 141 = .ok (.iload_n 2, 1) := by decide +kernel
theorem dX9_fact_142 : decode cX9_fact 142 = .ok (.iload_n 3, 1) := by decide +kernel
theorem dX9_fact_143 : decode cX9_fact 143 = .ok (.iload 4, 2) := by decide +kernel
theorem dX9_fact_145 : decode cX9_fact 145 = .ok (.invokespecial 213, 3) := by decide +kernel
theorem dX9_fact_148 : decode cX9_fact 148 = .ok (.astore 6, 2) := by decide +kernel
theorem dX9_fact_150 : decode cX9_fact 150 = .ok (.aload_n 0, 1) := by decide +kernel
theorem dX9_fact_151 : decode cX9_fact 151 = .ok (.getfield 35, 3) := by decide +kernel
theorem dX9_fact_154 : decode cX9_fact 154 = .ok (.aload_n 0, 1) := by decide +kernel
theorem dX9_fact_155 : decode cX9_fact 155 = .ok (.getfield 39, 3) := by decide +kernel
theorem dX9_fact_158 : decode cX9_fact 158 = .ok (.aload 6, 2) := by decide +kernel
theorem dX9_fact_160 : decode cX9_fact 160 = .ok (.aastore, 1) := by decide +kernel
theorem dX9_fact_161 : decode cX9_fact 161 = .ok (.aload_n 0, 1) := by decide +kernel
theorem dX9_fact_162 : decode cX9_fact 162 = .ok (.dup, 1) := by decide +kernel
theorem dX9_fact_163 : decode cX9_fact 163 = .ok (.getfield 39, 3) := by decide +kernel
theorem dX9_fact_166 : decode cX9_fact 166 = .ok (.iconst 1, 1) := by decide +kernel
theorem dX9_fact_167 : decode cX9_fact 167 = .ok (.iadd, 1) := by decide +kernel
theorem dX9_fact_168 : decode cX9_fact 168 = .ok (.putfield 39, 3) := by decide +kernel
theorem dX9_fact_171 : decode cX9_fact 171 = .ok (.aload 5, 2) := by decide +kernel
theorem dX9_fact_173 : decode cX9_fact 173 = .ok (.getfield 206, 3) := by decide +kernel
theorem dX9_fact_176 : decode cX9_fact 176 = .ok (.invokevirtual 124, 3) := by decide +kernel
theorem dX9_fact_179 : decode cX9_fact 179 = .ok (.aload 6, 2) := by decide +kernel
theorem dX9_fact_181 : decode cX9_fact 181 = .ok (.getfield 216, 3) := by decide +kernel
theorem dX9_fact_184 : decode cX9_fact 184 = .ok (.ireturn, 1) := by decide +kernel
theorem dX9_hold_0 : decode cX9_hold 0 = .ok (.iload_n 1, 1) := by decide +kernel
theorem dX9_hold_1 : decode cX9_hold 1 = .ok (.iconst 0, 1) := by decide +kernel
theorem dX9_hold_2 : decode cX9_hold 2 = .ok (.aload_n 0, 1) := by decide +kernel
theorem dX9_hold_3 : decode cX9_hold 3 = .ok (.getfield 35, 3) := by decide +kernel
theorem dX9_hold_6 : decode cX9_hold 6 = .ok (.arraylength, 1) := by decide +kernel
theorem dX9_hold_7 : decode cX9_hold 7 = .ok (.iconst 1, 1) := by decide +kernel
theorem dX9_hold_8 : decode cX9_hold 8 = .ok (.isub, 1) := by decide +kernel
theorem dX9_hold_9 : decode cX9_hold 9 = .ok (.invokestatic 88, 3) := by decide +kernel
theorem dX9_hold_12 : decode cX9_hold 12 = .ok (.ifCond .ne 11, 3) := by decide +kernel
theorem dX9_hold_15 : decode cX9_hold 15 = .ok (.new 85, 3) := by decide +kernel
theorem dX9_hold_18 : decode cX9_hold 18 = .ok (.dup, 1) := by decide +kernel
theorem dX9_hold_19 : decode cX9_hold 19 = .ok (.invokespecial 87, 3) := by decide +kernel
theorem dX9_hold_22 : decode cX9_hold 22 = .ok (.athrow, 1) := by decide +kernel
theorem dX9_hold_23 : decode cX9_hold 23 = .ok (.aload_n 0, 1) := by decide +kernel
theorem dX9_hold_24 : decode cX9_hold 24 = .ok (.getfield 35, 3) := by decide +kernel
theorem dX9_hold_27 : decode cX9_hold 27 = .ok (.iload_n 1, 1) := by decide +kernel
theorem dX9_hold_28 : decode cX9_hold 28 = .ok (.aaload, 1) := by decide +kernel
theorem dX9_hold_29 : decode cX9_hold 29 = .ok (.astore_n 3, 1) := by decide +kernel
theorem dX9_hold_30 : decode cX9_hold 30 = .ok (.aload_n 3, 1) := by decide +kernel
theorem dX9_hold_31 : decode cX9_hold 31 = .ok (.ifnonnull 11, 3) := by decide +kernel
theorem dX9_hold_34 : decode cX9_hold 34 = .ok (.new 85, 3) := by decide +kernel
theorem dX9_hold_37 : decode cX9_hold 37 = .ok (.dup, 1) := by decide +kernel
theorem dX9_hold_38 : decode cX9_hold 38 = .ok (.invokespecial 87, 3) := by decide +kernel
theorem dX9_hold_41 : decode cX9_hold 41 = .ok (.athrow, 1) := by decide +kernel
theorem dX9_hold_42 : decode cX9_hold 42 = .ok (.aload_n 3, 1) := by decide +kernel
theorem dX9_hold_43 : decode cX9_hold 43 = .ok (.getfield 217, 3) := by decide +kernel
theorem dX9_hold_46 : decode cX9_hold 46 = .ok (.istore 4, 2) := by decide +kernel
theorem dX9_hold_48 : decode cX9_hold 48 = .ok (.aload_n 3, 1) := by decide +kernel
theorem dX9_hold_49 : decode cX9_hold 49 = .ok (.iload_n 2, 1) := by decide +kernel
theorem dX9_hold_50 : decode cX9_hold 50 = .ok (.putfield 217, 3) := by decide +kernel
theorem dX9_hold_53 : decode cX9_hold 53 = .ok (.aload_n 3, 1) := by decide +kernel
theorem dX9_hold_54 : decode cX9_hold 54 = .ok (.getfield 221, 3) := by decide +kernel
theorem dX9_hold_57 : decode cX9_hold 57 = .ok (.invokevirtual 124, 3) := by decide +kernel
theorem dX9_hold_60 : decode cX9_hold 60 = .ok (.iload 4, 2) := by decide +kernel
theorem dX9_hold_62 : decode cX9_hold 62 = .ok (.ireturn, 1) := by decide +kernel
theorem dX9_arrangements_0 : decode cX9_arrangements 0 = .ok (.aload_n 0, 1) := by decide +kernel
theorem dX9_arrangements_1 : decode cX9_arrangements 1 = .ok (.iload_n 1, 1) := by decide +kernel
theorem dX9_arrangements_2 : decode cX9_arrangements 2 = .ok (.invokevirtual 81, 3) := by decide +kernel
theorem dX9_arrangements_5 : decode cX9_arrangements 5 = .ok (.astore_n 3, 1) := by decide +kernel
theorem dX9_arrangements_6 : decode cX9_arrangements 6 = .ok (.aload_n 3, 1) := by decide +kernel
theorem dX9_arrangements_7 : decode cX9_arrangements 7 = .ok (.ifnonnull 11, 3) := by decide +kernel
theorem dX9_arrangements_10 : decode cX9_arrangements 10 = .ok (.new 85, 3) := by decide +kernel
theorem dX9_arrangements_13 : decode cX9_arrangements 13 = .ok (.dup, 1) := by decide +kernel
theorem dX9_arrangements_14 : decode cX9_arrangements 14 = .ok (.invokespecial 87, 3) := by decide +kernel
theorem dX9_arrangements_17 : decode cX9_arrangements 17 = .ok (.athrow, 1) := by decide +kernel
theorem dX9_arrangements_18 : decode cX9_arrangements 18 = .ok (.aload_n 3, 1) := by decide +kernel
theorem dX9_arrangements_19 : decode cX9_arrangements 19 = .ok (.iload_n 2, 1) := by decide +kernel
theorem dX9_arrangements_20 : decode cX9_arrangements 20 = .ok (.aload_n 0, 1) := by decide +kernel
theorem dX9_arrangements_21 : decode cX9_arrangements 21 = .ok (.getfield 35, 3) := by decide +kernel
theorem dX9_arrangements_24 : decode cX9_arrangements 24 = .ok (.invokevirtual 222, 3) := by decide +kernel
theorem dX9_arrangements_27 : decode cX9_arrangements 27 = .ok (.getfield 226, 3) := by decide +kernel
theorem dX9_arrangements_30 : decode cX9_arrangements 30 = .ok (.ireturn, 1) := by decide +kernel
theorem dX9_places_0 : decode cX9_places 0 = .ok (.aload_n 0, 1) := by decide +kernel
theorem dX9_places_1 : decode cX9_places 1 = .ok (.iload_n 1, 1) := by decide +kernel
theorem dX9_places_2 : decode cX9_places 2 = .ok (.invokevirtual 179, 3) := by decide +kernel
theorem dX9_places_5 : decode cX9_places 5 = .ok (.astore_n 3, 1) := by decide +kernel
theorem dX9_places_6 : decode cX9_places 6 = .ok (.aload_n 3, 1) := by decide +kernel
theorem dX9_places_7 : decode cX9_places 7 = .ok (.ifnonnull 11, 3) := by decide +kernel
theorem dX9_places_10 : decode cX9_places 10 = .ok (.new 85, 3) := by decide +kernel
theorem dX9_places_13 : decode cX9_places 13 = .ok (.dup, 1) := by decide +kernel
theorem dX9_places_14 : decode cX9_places 14 = .ok (.invokespecial 87, 3) := by decide +kernel
theorem dX9_places_17 : decode cX9_places 17 = .ok (.athrow, 1) := by decide +kernel
theorem dX9_places_18 : decode cX9_places 18 = .ok (.aload_n 0, 1) := by decide +kernel
theorem dX9_places_19 : decode cX9_places 19 = .ok (.aload_n 3, 1) := by decide +kernel
theorem dX9_places_20 : decode cX9_places 20 = .ok (.iload_n 2, 1) := by decide +kernel
theorem dX9_places_21 : decode cX9_places 21 = .ok (.invokevirtual 231, 3) := by decide +kernel
theorem dX9_places_24 : decode cX9_places 24 = .ok (.ireturn, 1) := by decide +kernel
theorem dX9_hand_0 : decode cX9_hand 0 = .ok (.aload_n 0, 1) := by decide +kernel
theorem dX9_hand_1 : decode cX9_hand 1 = .ok (.iload_n 1, 1) := by decide +kernel
theorem dX9_hand_2 : decode cX9_hand 2 = .ok (.invokevirtual 179, 3) := by decide +kernel
theorem dX9_hand_5 : decode cX9_hand 5 = .ok (.astore 6, 2) := by decide +kernel
theorem dX9_hand_7 : decode cX9_hand 7 = .ok (.aload 6, 2) := by decide +kernel
theorem dX9_hand_9 : decode cX9_hand 9 = .ok (.ifnonnull 11, 3) := by decide +kernel
theorem dX9_hand_12 : decode cX9_hand 12 = .ok (.new 85, 3) := by decide +kernel
theorem dX9_hand_15 : decode cX9_hand 15 = .ok (.dup, 1) := by decide +kernel
theorem dX9_hand_16 : decode cX9_hand 16 = .ok (.invokespecial 87, 3) := by decide +kernel
theorem dX9_hand_19 : decode cX9_hand 19 = .ok (.athrow, 1) := by decide +kernel
theorem dX9_hand_20 : decode cX9_hand 20 = .ok (.iload_n 2, 1) := by decide +kernel
theorem dX9_hand_21 : decode cX9_hand 21 = .ok (.iconst 0, 1) := by decide +kernel
theorem dX9_hand_22 : decode cX9_hand 22 = .ok (.bipush 20, 2) := by decide +kernel
theorem dX9_hand_24 : decode cX9_hand 24 = .ok (.invokestatic 88, 3) := by decide +kernel
theorem dX9_hand_27 : decode cX9_hand 27 = .ok (.ifCond .eq 13, 3) := by decide +kernel
theorem dX9_hand_30 : decode cX9_hand 30 = .ok (.iload_n 3, 1) := by decide +kernel
theorem dX9_hand_31 : decode cX9_hand 31 = .ok (.iconst 0, 1) := by decide +kernel
theorem dX9_hand_32 : decode cX9_hand 32 = .ok (.bipush 20, 2) := by decide +kernel
theorem dX9_hand_34 : decode cX9_hand 34 = .ok (.invokestatic 88, 3) := by decide +kernel
theorem dX9_hand_37 : decode cX9_hand 37 = .ok (.ifCond .ne 11, 3) := by decide +kernel
theorem dX9_hand_40 : decode cX9_hand 40 = .ok (.new 92, 3) := by decide +kernel
theorem dX9_hand_43 : decode cX9_hand 43 = .ok (.dup, 1) := by decide +kernel
theorem dX9_hand_44 : decode cX9_hand 44 = .ok (.invokespecial 94, 3) := by decide +kernel
theorem dX9_hand_47 : decode cX9_hand 47 = .ok (.athrow, 1) := by decide +kernel
theorem dX9_hand_48 : decode cX9_hand 48 = .ok (.iload 4, 2) := by decide +kernel
theorem dX9_hand_50 : decode cX9_hand 50 = .ok (.iconst 0, 1) := by decide +kernel
theorem dX9_hand_51 : decode cX9_hand 51 = .ok (.bipush 20, 2) := by decide +kernel
theorem dX9_hand_53 : decode cX9_hand 53 = .ok (.invokestatic 88, 3) := by decide +kernel
theorem dX9_hand_56 : decode cX9_hand 56 = .ok (.ifCond .eq 13, 3) := by decide +kernel
theorem dX9_hand_59 : decode cX9_hand 59 = .ok (.iload 5, 2) := by decide +kernel
theorem dX9_hand_61 : decode cX9_hand 61 = .ok (.iconst 0, 1) := by decide +kernel
theorem dX9_hand_62 : decode cX9_hand 62 = .ok (.iconst 3, 1) := by decide +kernel
theorem dX9_hand_63 : decode cX9_hand 63 = .ok (.invokestatic 88, 3) := by decide +kernel
theorem dX9_hand_66 : decode cX9_hand 66 = .ok (.ifCond .ne 11, 3) := by decide +kernel
theorem dX9_hand_69 : decode cX9_hand 69 = .ok (.new 92, 3) := by decide +kernel
theorem dX9_hand_72 : decode cX9_hand 72 = .ok (.dup, 1) := by decide +kernel
theorem dX9_hand_73 : decode cX9_hand 73 = .ok (.invokespecial 94, 3) := by decide +kernel
theorem dX9_hand_76 : decode cX9_hand 76 = .ok (.athrow, 1) := by decide +kernel
theorem dX9_hand_77 : decode cX9_hand 77 = .ok (.aload 6, 2) := by decide +kernel
theorem dX9_hand_79 : decode cX9_hand 79 = .ok (.iload_n 2, 1) := by decide +kernel
theorem dX9_hand_80 : decode cX9_hand 80 = .ok (.putfield 238, 3) := by decide +kernel
theorem dX9_hand_83 : decode cX9_hand 83 = .ok (.aload 6, 2) := by decide +kernel
theorem dX9_hand_85 : decode cX9_hand 85 = .ok (.iload_n 3, 1) := by decide +kernel
theorem dX9_hand_86 : decode cX9_hand 86 = .ok (.putfield 241, 3) := by decide +kernel
theorem dX9_hand_89 : decode cX9_hand 89 = .ok (.aload 6, 2) := by decide +kernel
theorem dX9_hand_91 : decode cX9_hand 91 = .ok (.iload 4, 2) := by decide +kernel
theorem dX9_hand_93 : decode cX9_hand 93 = .ok (.putfield 244, 3) := by decide +kernel
theorem dX9_hand_96 : decode cX9_hand 96 = .ok (.aload 6, 2) := by decide +kernel
theorem dX9_hand_98 : decode cX9_hand 98 = .ok (.iload 5, 2) := by decide +kernel
theorem dX9_hand_100 : decode cX9_hand 100 = .ok (.putfield 247, 3) := by decide +kernel
theorem dX9_hand_103 : decode cX9_hand 103 = .ok (.aload_n 0, 1) := by decide +kernel
theorem dX9_hand_104 : decode cX9_hand 104 = .ok (.invokevirtual 250, 3) := by decide +kernel
theorem dX9_hand_107 : decode cX9_hand 107 = .ok (.iconst 0, 1) := by decide +kernel
theorem dX9_hand_108 : decode cX9_hand 108 = .ok (.istore 7, 2) := by decide +kernel
theorem dX9_hand_110 : decode cX9_hand 110 = .ok (.aload_n 0, 1) := by decide +kernel
theorem dX9_hand_111 : decode cX9_hand 111 = .ok (.getfield 18, 3) := by decide +kernel
theorem dX9_hand_114 : decode cX9_hand 114 = .ok (.astore 8, 2) := by decide +kernel
theorem dX9_hand_116 : decode cX9_hand 116 = .ok (.aload 8, 2) := by decide +kernel
theorem dX9_hand_118 : decode cX9_hand 118 = .ok (.arraylength, 1) := by decide +kernel
theorem dX9_hand_119 : decode cX9_hand 119 = .ok (.istore 9, 2) := by decide +kernel
theorem dX9_hand_121 : decode cX9_hand 121 = .ok (.iconst 0, 1) := by decide +kernel
theorem dX9_hand_122 : decode cX9_hand 122 = .ok (.istore 10, 2) := by decide +kernel
theorem dX9_hand_124 : decode cX9_hand 124 = .ok (.iload 10, 2) := by decide +kernel
theorem dX9_hand_126 : decode cX9_hand 126 = .ok (.iload 9, 2) := by decide +kernel
theorem dX9_hand_128 : decode cX9_hand 128 = .ok (.if_icmp .ge 42, 3) := by decide +kernel
theorem dX9_hand_131 : decode cX9_hand 131 = .ok (.aload 8, 2) := by decide +kernel
theorem dX9_hand_133 : decode cX9_hand 133 = .ok (.iload 10, 2) := by decide +kernel
theorem dX9_hand_135 : decode cX9_hand 135 = .ok (.aaload, 1) := by decide +kernel
theorem dX9_hand_136 : decode cX9_hand 136 = .ok (.astore 11, 2) := by decide +kernel
theorem dX9_hand_138 : decode cX9_hand 138 = .ok (.aload 11, 2) := by decide +kernel
theorem dX9_hand_140 : decode cX9_hand 140 = .ok (.ifnull 24, 3) := by decide +kernel
theorem dX9_hand_143 : decode cX9_hand 143 = .ok (.aload_n 0, 1) := by decide +kernel
theorem dX9_hand_144 : decode cX9_hand 144 = .ok (.getfield 78, 3) := by decide +kernel
theorem dX9_hand_147 : decode cX9_hand 147 = .ok (.aload 11, 2) := by decide +kernel
theorem dX9_hand_149 : decode cX9_hand 149 = .ok (.getfield 115, 3) := by decide +kernel
theorem dX9_hand_152 : decode cX9_hand 152 = .ok (.iaload, 1) := by decide +kernel
theorem dX9_hand_153 : decode cX9_hand 153 = .ok (.aload 11, 2) := by decide +kernel
theorem dX9_hand_155 : decode cX9_hand 155 = .ok (.getfield 115, 3) := by decide +kernel
theorem dX9_hand_158 : decode cX9_hand 158 = .ok (.if_icmp .ne 6, 3) := by decide +kernel
theorem dX9_hand_161 : decode cX9_hand 161 = .ok (.iinc 7 1, 3) := by decide +kernel
theorem dX9_hand_164 : decode cX9_hand 164 = .ok (.iinc 10 1, 3) := by decide +kernel
theorem dX9_hand_167 : decode cX9_hand 167 = .ok (.goto (-43), 3) := by decide +kernel
theorem dX9_hand_170 : decode cX9_hand 170 = .ok (.iload 7, 2) := by decide +kernel
theorem dX9_hand_172 : decode cX9_hand 172 = .ok (.ireturn, 1) := by decide +kernel
theorem dX9_handOf_0 : decode cX9_handOf 0 = .ok (.aload_n 0, 1) := by decide +kernel
theorem dX9_handOf_1 : decode cX9_handOf 1 = .ok (.iload_n 1, 1) := by decide +kernel
theorem dX9_handOf_2 : decode cX9_handOf 2 = .ok (.invokevirtual 179, 3) := by decide +kernel
theorem dX9_handOf_5 : decode cX9_handOf 5 = .ok (.astore_n 2, 1) := by decide +kernel
theorem dX9_handOf_6 : decode cX9_handOf 6 = .ok (.aload_n 2, 1) := by decide +kernel
theorem dX9_handOf_7 : decode cX9_handOf 7 = .ok (.ifnonnull 11, 3) := by decide +kernel
theorem dX9_handOf_10 : decode cX9_handOf 10 = .ok (.new 85, 3) := by decide +kernel
theorem dX9_handOf_13 : decode cX9_handOf 13 = .ok (.dup, 1) := by decide +kernel
theorem dX9_handOf_14 : decode cX9_handOf 14 = .ok (.invokespecial 87, 3) := by decide +kernel
theorem dX9_handOf_17 : decode cX9_handOf 17 = .ok (.athrow, 1) := by decide +kernel
theorem dX9_handOf_18 : decode cX9_handOf 18 = .ok (.aload_n 0, 1) := by decide +kernel
theorem dX9_handOf_19 : decode cX9_handOf 19 = .ok (.invokevirtual 250, 3) := by decide +kernel
theorem dX9_handOf_22 : decode cX9_handOf 22 = .ok (.aload_n 0, 1) := by decide +kernel
theorem dX9_handOf_23 : decode cX9_handOf 23 = .ok (.getfield 78, 3) := by decide +kernel
theorem dX9_handOf_26 : decode cX9_handOf 26 = .ok (.aload_n 2, 1) := by decide +kernel
theorem dX9_handOf_27 : decode cX9_handOf 27 = .ok (.getfield 115, 3) := by decide +kernel
theorem dX9_handOf_30 : decode cX9_handOf 30 = .ok (.iaload, 1) := by decide +kernel
theorem dX9_handOf_31 : decode cX9_handOf 31 = .ok (.ireturn, 1) := by decide +kernel
theorem dX9_date_0 : decode cX9_date 0 = .ok (.aload_n 0, 1) := by decide +kernel
theorem dX9_date_1 : decode cX9_date 1 = .ok (.iload_n 1, 1) := by decide +kernel
theorem dX9_date_2 : decode cX9_date 2 = .ok (.invokevirtual 179, 3) := by decide +kernel
theorem dX9_date_5 : decode cX9_date 5 = .ok (.astore_n 3, 1) := by decide +kernel
theorem dX9_date_6 : decode cX9_date 6 = .ok (.aload_n 3, 1) := by decide +kernel
theorem dX9_date_7 : decode cX9_date 7 = .ok (.ifnonnull 11, 3) := by decide +kernel
theorem dX9_date_10 : decode cX9_date 10 = .ok (.new 85, 3) := by decide +kernel
theorem dX9_date_13 : decode cX9_date 13 = .ok (.dup, 1) := by decide +kernel
theorem dX9_date_14 : decode cX9_date 14 = .ok (.invokespecial 87, 3) := by decide +kernel
theorem dX9_date_17 : decode cX9_date 17 = .ok (.athrow, 1) := by decide +kernel
theorem dX9_date_18 : decode cX9_date 18 = .ok (.iload_n 2, 1) := by decide +kernel
theorem dX9_date_19 : decode cX9_date 19 = .ok (.iconst 0, 1) := by decide +kernel
theorem dX9_date_20 : decode cX9_date 20 = .ok (.sipush 4095, 3) := by decide +kernel
theorem dX9_date_23 : decode cX9_date 23 = .ok (.invokestatic 88, 3) := by decide +kernel
theorem dX9_date_26 : decode cX9_date 26 = .ok (.ifCond .ne 11, 3) := by decide +kernel
theorem dX9_date_29 : decode cX9_date 29 = .ok (.new 92, 3) := by decide +kernel
theorem dX9_date_32 : decode cX9_date 32 = .ok (.dup, 1) := by decide +kernel
theorem dX9_date_33 : decode cX9_date 33 = .ok (.invokespecial 94, 3) := by decide +kernel
theorem dX9_date_36 : decode cX9_date 36 = .ok (.athrow, 1) := by decide +kernel
theorem dX9_date_37 : decode cX9_date 37 = .ok (.aload_n 3, 1) := by decide +kernel
theorem dX9_date_38 : decode cX9_date 38 = .ok (.getfield 253, 3) := by decide +kernel
theorem dX9_date_41 : decode cX9_date 41 = .ok (.iconst 4, 1) := by decide +kernel
theorem dX9_date_42 : decode cX9_date 42 = .ok (.if_icmp .lt 11, 3) := by decide +kernel
theorem dX9_date_45 : decode cX9_date 45 = .ok (.new 99, 3) := by decide +kernel
theorem dX9_date_48 : decode cX9_date 48 = .ok (.dup, 1) := by decide +kernel
theorem dX9_date_49 : decode cX9_date 49 = .ok (.invokespecial 101, 3) := by decide +kernel
theorem dX9_date_52 : decode cX9_date 52 = .ok (.athrow, 1) := by decide +kernel
theorem dX9_date_53 : decode cX9_date 53 = .ok (.aload_n 3, 1) := by decide +kernel
theorem dX9_date_54 : decode cX9_date 54 = .ok (.dup, 1) := by decide +kernel
theorem dX9_date_55 : decode cX9_date 55 = .ok (.getfield 253, 3) := by decide +kernel
theorem dX9_date_58 : decode cX9_date 58 = .ok (.iconst 1, 1) := by decide +kernel
theorem dX9_date_59 : decode cX9_date 59 = .ok (.iadd, 1) := by decide +kernel
theorem dX9_date_60 : decode cX9_date 60 = .ok (.putfield 253, 3) := by decide +kernel
theorem dX9_date_63 : decode cX9_date 63 = .ok (.aload_n 3, 1) := by decide +kernel
theorem dX9_date_64 : decode cX9_date 64 = .ok (.dup, 1) := by decide +kernel
theorem dX9_date_65 : decode cX9_date 65 = .ok (.getfield 256, 3) := by decide +kernel
theorem dX9_date_68 : decode cX9_date 68 = .ok (.iload_n 2, 1) := by decide +kernel
theorem dX9_date_69 : decode cX9_date 69 = .ok (.iand, 1) := by decide +kernel
theorem dX9_date_70 : decode cX9_date 70 = .ok (.putfield 256, 3) := by decide +kernel
theorem dX9_date_73 : decode cX9_date 73 = .ok (.aload_n 0, 1) := by decide +kernel
theorem dX9_date_74 : decode cX9_date 74 = .ok (.aload_n 3, 1) := by decide +kernel
theorem dX9_date_75 : decode cX9_date 75 = .ok (.invokevirtual 259, 3) := by decide +kernel
theorem dX9_date_78 : decode cX9_date 78 = .ok (.ireturn, 1) := by decide +kernel
theorem dX9_dates_0 : decode cX9_dates 0 = .ok (.aload_n 0, 1) := by decide +kernel
theorem dX9_dates_1 : decode cX9_dates 1 = .ok (.iload_n 1, 1) := by decide +kernel
theorem dX9_dates_2 : decode cX9_dates 2 = .ok (.invokevirtual 179, 3) := by decide +kernel
theorem dX9_dates_5 : decode cX9_dates 5 = .ok (.astore_n 2, 1) := by decide +kernel
theorem dX9_dates_6 : decode cX9_dates 6 = .ok (.aload_n 2, 1) := by decide +kernel
theorem dX9_dates_7 : decode cX9_dates 7 = .ok (.ifnonnull 11, 3) := by decide +kernel
theorem dX9_dates_10 : decode cX9_dates 10 = .ok (.new 85, 3) := by decide +kernel
theorem dX9_dates_13 : decode cX9_dates 13 = .ok (.dup, 1) := by decide +kernel
theorem dX9_dates_14 : decode cX9_dates 14 = .ok (.invokespecial 87, 3) := by decide +kernel
theorem dX9_dates_17 : decode cX9_dates 17 = .ok (.athrow, 1) := by decide +kernel
theorem dX9_dates_18 : decode cX9_dates 18 = .ok (.aload_n 0, 1) := by decide +kernel
theorem dX9_dates_19 : decode cX9_dates 19 = .ok (.aload_n 2, 1) := by decide +kernel
theorem dX9_dates_20 : decode cX9_dates 20 = .ok (.invokevirtual 259, 3) := by decide +kernel
theorem dX9_dates_23 : decode cX9_dates 23 = .ok (.ireturn, 1) := by decide +kernel
theorem dX9_match_0 : decode cX9_match 0 = .ok (.aload_n 0, 1) := by decide +kernel
theorem dX9_match_1 : decode cX9_match 1 = .ok (.iload_n 2, 1) := by decide +kernel
theorem dX9_match_2 : decode cX9_match 2 = .ok (.invokevirtual 179, 3) := by decide +kernel
theorem dX9_match_5 : decode cX9_match 5 = .ok (.astore 6, 2) := by decide +kernel
theorem dX9_match_7 : decode cX9_match 7 = .ok (.aload 6, 2) := by decide +kernel
theorem dX9_match_9 : decode cX9_match 9 = .ok (.ifnull 12, 3) := by decide +kernel
theorem dX9_match_12 : decode cX9_match 12 = .ok (.aload 6, 2) := by decide +kernel
theorem dX9_match_14 : decode cX9_match 14 = .ok (.iload_n 3, 1) := by decide +kernel
theorem dX9_match_15 : decode cX9_match 15 = .ok (.invokevirtual 183, 3) := by decide +kernel
theorem dX9_match_18 : decode cX9_match 18 = .ok (.ifCond .ne 11, 3) := by decide +kernel
theorem dX9_match_21 : decode cX9_match 21 = .ok (.new 85, 3) := by decide +kernel
theorem dX9_match_24 : decode cX9_match 24 = .ok (.dup, 1) := by decide +kernel
theorem dX9_match_25 : decode cX9_match 25 = .ok (.invokespecial 87, 3) := by decide +kernel
theorem dX9_match_28 : decode cX9_match 28 = .ok (.athrow, 1) := by decide +kernel
theorem dX9_match_29 : decode cX9_match 29 = .ok (.iload_n 1, 1) := by decide +kernel
theorem dX9_match_30 : decode cX9_match 30 = .ok (.iconst 0, 1) := by decide +kernel
theorem dX9_match_31 : decode cX9_match 31 = .ok (.aload_n 0, 1) := by decide +kernel
theorem dX9_match_32 : decode cX9_match 32 = .ok (.getfield 58, 3) := by decide +kernel
theorem dX9_match_35 : decode cX9_match 35 = .ok (.arraylength, 1) := by decide +kernel
theorem dX9_match_36 : decode cX9_match 36 = .ok (.iconst 1, 1) := by decide +kernel
theorem dX9_match_37 : decode cX9_match 37 = .ok (.isub, 1) := by decide +kernel
theorem dX9_match_38 : decode cX9_match 38 = .ok (.invokestatic 88, 3) := by decide +kernel
theorem dX9_match_41 : decode cX9_match 41 = .ok (.ifCond .ne 11, 3) := by decide +kernel
theorem dX9_match_44 : decode cX9_match 44 = .ok (.new 85, 3) := by decide +kernel
theorem dX9_match_47 : decode cX9_match 47 = .ok (.dup, 1) := by decide +kernel
theorem dX9_match_48 : decode cX9_match 48 = .ok (.invokespecial 87, 3) := by decide +kernel
theorem dX9_match_51 : decode cX9_match 51 = .ok (.athrow, 1) := by decide +kernel
theorem dX9_match_52 : decode cX9_match 52 = .ok (.aload_n 0, 1) := by decide +kernel
theorem dX9_match_53 : decode cX9_match 53 = .ok (.getfield 58, 3) := by decide +kernel
theorem dX9_match_56 : decode cX9_match 56 = .ok (.iload_n 1, 1) := by decide +kernel
theorem dX9_match_57 : decode cX9_match 57 = .ok (.aaload, 1) := by decide +kernel
theorem dX9_match_58 : decode cX9_match 58 = .ok (.astore 7, 2) := by decide +kernel
theorem dX9_match_60 : decode cX9_match 60 = .ok (.aload 7, 2) := by decide +kernel
theorem dX9_match_62 : decode cX9_match 62 = .ok (.ifnonnull 11, 3) := by decide +kernel
theorem dX9_match_65 : decode cX9_match 65 = .ok (.new 85, 3) := by decide +kernel
theorem dX9_match_68 : decode cX9_match 68 = .ok (.dup, 1) := by decide +kernel
theorem dX9_match_69 : decode cX9_match 69 = .ok (.invokespecial 87, 3) := by decide +kernel
theorem dX9_match_72 : decode cX9_match 72 = .ok (.athrow, 1) := by decide +kernel
theorem dX9_match_73 : decode cX9_match 73 = .ok (.iload 4, 2) := by decide +kernel
theorem dX9_match_75 : decode cX9_match 75 = .ok (.invokestatic 186, 3) := by decide +kernel
theorem dX9_match_78 : decode cX9_match 78 = .ok (.ifCond .ne 11, 3) := by decide +kernel
theorem dX9_match_81 : decode cX9_match 81 = .ok (.new 92, 3) := by decide +kernel
theorem dX9_match_84 : decode cX9_match 84 = .ok (.dup, 1) := by decide +kernel
theorem dX9_match_85 : decode cX9_match 85 = .ok (.invokespecial 94, 3) := by decide +kernel
theorem dX9_match_88 : decode cX9_match 88 = .ok (.athrow, 1) := by decide +kernel
theorem dX9_match_89 : decode cX9_match 89 = .ok (.aload_n 0, 1) := by decide +kernel
theorem dX9_match_90 : decode cX9_match 90 = .ok (.getfield 67, 3) := by decide +kernel
theorem dX9_match_93 : decode cX9_match 93 = .ok (.aload 6, 2) := by decide +kernel
theorem dX9_match_95 : decode cX9_match 95 = .ok (.iload_n 3, 1) := by decide +kernel
theorem dX9_match_96 : decode cX9_match 96 = .ok (.iload 4, 2) := by decide +kernel
theorem dX9_match_98 : decode cX9_match 98 = .ok (.aload_n 0, 1) := by decide +kernel
theorem dX9_match_99 : decode cX9_match 99 = .ok (.getfield 51, 3) := by decide +kernel
theorem dX9_match_102 : decode cX9_match 102 = .ok (.invokevirtual 189, 3) := by decide +kernel
theorem dX9_match_105 : decode cX9_match 105 = .ok (.aload_n 0, 1) := by decide +kernel
theorem dX9_match_106 : decode cX9_match 106 = .ok (.getfield 67, 3) := by decide +kernel
theorem dX9_match_109 : decode cX9_match 109 = .ok (.invokevirtual 193, 3) := by decide +kernel
theorem dX9_match_112 : decode cX9_match 112 = .ok (.iconst (-1), 1) := by decide +kernel
theorem dX9_match_113 : decode cX9_match 113 = .ok (.if_icmp .ne 5, 3) := by decide +kernel
theorem dX9_match_116 : decode cX9_match 116 = .ok (.iconst (-1), 1) := by decide +kernel
theorem dX9_match_117 : decode cX9_match 117 = .ok (.ireturn, 1) := by decide +kernel
theorem dX9_match_118 : decode cX9_match 118 = .ok (.aload_n 0, 1) := by decide +kernel
theorem dX9_match_119 : decode cX9_match 119 = .ok (.getfield 74, 3) := by decide +kernel
theorem dX9_match_122 : decode cX9_match 122 = .ok (.aload_n 0, 1) := by decide +kernel
theorem dX9_match_123 : decode cX9_match 123 = .ok (.getfield 67, 3) := by decide +kernel
theorem dX9_match_126 : decode cX9_match 126 = .ok (.aload 7, 2) := by decide +kernel
theorem dX9_match_128 : decode cX9_match 128 = .ok (.invokevirtual 263, 3) := by decide +kernel
theorem dX9_match_131 : decode cX9_match 131 = .ok (.iload 5, 2) := by decide +kernel
theorem dX9_match_133 : decode cX9_match 133 = .ok (.ifCond .eq 13, 3) := by decide +kernel
theorem dX9_match_136 : decode cX9_match 136 = .ok (.aload_n 0, 1) := by decide +kernel
theorem dX9_match_137 : decode cX9_match 137 = .ok (.getfield 74, 3) := by decide +kernel
theorem dX9_match_140 : decode cX9_match 140 = .ok (.getfield 267, 3) := by decide +kernel
theorem dX9_match_143 : decode cX9_match 143 = .ok (.goto 10, 3) := by decide +kernel
theorem dX9_match_146 : decode cX9_match 146 = .ok (.aload_n 0, 1) := by decide +kernel
theorem dX9_match_147 : decode cX9_match 147 = .ok (.getfield 74, 3) := by decide +kernel
theorem dX9_match_150 : decode cX9_match 150 = .ok (.getfield 270, 3) := by decide +kernel
theorem dX9_match_153 : decode cX9_match 153 = .ok (.ireturn, 1) := by decide +kernel
theorem dX9_state_0 : decode cX9_state 0 = .ok (.aload_n 0, 1) := by decide +kernel
theorem dX9_state_1 : decode cX9_state 1 = .ok (.iload_n 1, 1) := by decide +kernel
theorem dX9_state_2 : decode cX9_state 2 = .ok (.invokevirtual 179, 3) := by decide +kernel
theorem dX9_state_5 : decode cX9_state 5 = .ok (.astore 5, 2) := by decide +kernel
theorem dX9_state_7 : decode cX9_state 7 = .ok (.aload 5, 2) := by decide +kernel
theorem dX9_state_9 : decode cX9_state 9 = .ok (.ifnull 13, 3) := by decide +kernel
theorem dX9_state_12 : decode cX9_state 12 = .ok (.aload 5, 2) := by decide +kernel
theorem dX9_state_14 : decode cX9_state 14 = .ok (.iload_n 2, 1) := by decide +kernel
theorem dX9_state_15 : decode cX9_state 15 = .ok (.iload_n 3, 1) := by decide +kernel
theorem dX9_state_16 : decode cX9_state 16 = .ok (.invokevirtual 199, 3) := by decide +kernel
theorem dX9_state_19 : decode cX9_state 19 = .ok (.ifnonnull 11, 3) := by decide +kernel
theorem dX9_state_22 : decode cX9_state 22 = .ok (.new 85, 3) := by decide +kernel
theorem dX9_state_25 : decode cX9_state 25 = .ok (.dup, 1) := by decide +kernel
theorem dX9_state_26 : decode cX9_state 26 = .ok (.invokespecial 87, 3) := by decide +kernel
theorem dX9_state_29 : decode cX9_state 29 = .ok (.athrow, 1) := by decide +kernel
theorem dX9_state_30 : decode cX9_state 30 = .ok (.iload 4, 2) := by decide +kernel
theorem dX9_state_32 : decode cX9_state 32 = .ok (.invokestatic 186, 3) := by decide +kernel
theorem dX9_state_35 : decode cX9_state 35 = .ok (.ifCond .ne 11, 3) := by decide +kernel
theorem dX9_state_38 : decode cX9_state 38 = .ok (.new 92, 3) := by decide +kernel
theorem dX9_state_41 : decode cX9_state 41 = .ok (.dup, 1) := by decide +kernel
theorem dX9_state_42 : decode cX9_state 42 = .ok (.invokespecial 94, 3) := by decide +kernel
theorem dX9_state_45 : decode cX9_state 45 = .ok (.athrow, 1) := by decide +kernel
theorem dX9_state_46 : decode cX9_state 46 = .ok (.aload_n 0, 1) := by decide +kernel
theorem dX9_state_47 : decode cX9_state 47 = .ok (.getfield 67, 3) := by decide +kernel
theorem dX9_state_50 : decode cX9_state 50 = .ok (.aload 5, 2) := by decide +kernel
theorem dX9_state_52 : decode cX9_state 52 = .ok (.iload_n 2, 1) := by decide +kernel
theorem dX9_state_53 : decode cX9_state 53 = .ok (.iload 4, 2) := by decide +kernel
theorem dX9_state_55 : decode cX9_state 55 = .ok (.aload_n 0, 1) := by decide +kernel
theorem dX9_state_56 : decode cX9_state 56 = .ok (.getfield 51, 3) := by decide +kernel
theorem dX9_state_59 : decode cX9_state 59 = .ok (.invokevirtual 189, 3) := by decide +kernel
theorem dX9_state_62 : decode cX9_state 62 = .ok (.aload_n 0, 1) := by decide +kernel
theorem dX9_state_63 : decode cX9_state 63 = .ok (.getfield 67, 3) := by decide +kernel
theorem dX9_state_66 : decode cX9_state 66 = .ok (.aload_n 0, 1) := by decide +kernel
theorem dX9_state_67 : decode cX9_state 67 = .ok (.getfield 51, 3) := by decide +kernel
theorem dX9_state_70 : decode cX9_state 70 = .ok (.invokevirtual 279, 3) := by decide +kernel
theorem dX9_state_73 : decode cX9_state 73 = .ok (.aload_n 0, 1) := by decide +kernel
theorem dX9_state_74 : decode cX9_state 74 = .ok (.getfield 67, 3) := by decide +kernel
theorem dX9_state_77 : decode cX9_state 77 = .ok (.iload_n 3, 1) := by decide +kernel
theorem dX9_state_78 : decode cX9_state 78 = .ok (.invokevirtual 283, 3) := by decide +kernel
theorem dX9_state_81 : decode cX9_state 81 = .ok (.ireturn, 1) := by decide +kernel
theorem dX9_rests_0 : decode cX9_rests 0 = .ok (.aload_n 0, 1) := by decide +kernel
theorem dX9_rests_1 : decode cX9_rests 1 = .ok (.iload_n 1, 1) := by decide +kernel
theorem dX9_rests_2 : decode cX9_rests 2 = .ok (.invokevirtual 179, 3) := by decide +kernel
theorem dX9_rests_5 : decode cX9_rests 5 = .ok (.astore_n 2, 1) := by decide +kernel
theorem dX9_rests_6 : decode cX9_rests 6 = .ok (.aload_n 2, 1) := by decide +kernel
theorem dX9_rests_7 : decode cX9_rests 7 = .ok (.ifnonnull 11, 3) := by decide +kernel
theorem dX9_rests_10 : decode cX9_rests 10 = .ok (.new 85, 3) := by decide +kernel
theorem dX9_rests_13 : decode cX9_rests 13 = .ok (.dup, 1) := by decide +kernel
theorem dX9_rests_14 : decode cX9_rests 14 = .ok (.invokespecial 87, 3) := by decide +kernel
theorem dX9_rests_17 : decode cX9_rests 17 = .ok (.athrow, 1) := by decide +kernel
theorem dX9_rests_18 : decode cX9_rests 18 = .ok (.aload_n 0, 1) := by decide +kernel
theorem dX9_rests_19 : decode cX9_rests 19 = .ok (.aload_n 2, 1) := by decide +kernel
theorem dX9_rests_20 : decode cX9_rests 20 = .ok (.iconst 0, 1) := by decide +kernel
theorem dX9_rests_21 : decode cX9_rests 21 = .ok (.invokevirtual 231, 3) := by decide +kernel
theorem dX9_rests_24 : decode cX9_rests 24 = .ok (.istore_n 3, 1) := by decide +kernel
theorem dX9_rests_25 : decode cX9_rests 25 = .ok (.iload_n 3, 1) := by decide +kernel
theorem dX9_rests_26 : decode cX9_rests 26 = .ok (.invokestatic 286, 3) := by decide +kernel
theorem dX9_rests_29 : decode cX9_rests 29 = .ok (.iconst 1, 1) := by decide +kernel
theorem dX9_rests_30 : decode cX9_rests 30 = .ok (.if_icmp .eq 5, 3) := by decide +kernel
theorem dX9_rests_33 : decode cX9_rests 33 = .ok (.iconst 0, 1) := by decide +kernel
theorem dX9_rests_34 : decode cX9_rests 34 = .ok (.ireturn, 1) := by decide +kernel
theorem dX9_rests_35 : decode cX9_rests 35 = .ok (.aload_n 2, 1) := by decide +kernel
theorem dX9_rests_36 : decode cX9_rests 36 = .ok (.getfield 206, 3) := by decide +kernel
theorem dX9_rests_39 : decode cX9_rests 39 = .ok (.aload_n 0, 1) := by decide +kernel
theorem dX9_rests_40 : decode cX9_rests 40 = .ok (.getfield 35, 3) := by decide +kernel
theorem dX9_rests_43 : decode cX9_rests 43 = .ok (.invokevirtual 291, 3) := by decide +kernel
theorem dX9_rests_46 : decode cX9_rests 46 = .ok (.astore 4, 2) := by decide +kernel
theorem dX9_rests_48 : decode cX9_rests 48 = .ok (.iconst 0, 1) := by decide +kernel
theorem dX9_rests_49 : decode cX9_rests 49 = .ok (.istore 5, 2) := by decide +kernel
theorem dX9_rests_51 : decode cX9_rests 51 = .ok (.aload_n 0, 1) := by decide +kernel
theorem dX9_rests_52 : decode cX9_rests 52 = .ok (.getfield 35, 3) := by decide +kernel
theorem dX9_rests_55 : decode cX9_rests 55 = .ok (.astore 6, 2) := by decide +kernel
theorem dX9_rests_57 : decode cX9_rests 57 = .ok (.aload 6, 2) := by decide +kernel
theorem dX9_rests_59 : decode cX9_rests 59 = .ok (.arraylength, 1) := by decide +kernel
theorem dX9_rests_60 : decode cX9_rests 60 = .ok (.istore 7, 2) := by decide +kernel
theorem dX9_rests_62 : decode cX9_rests 62 = .ok (.iconst 0, 1) := by decide +kernel
theorem dX9_rests_63 : decode cX9_rests 63 = .ok (.istore 8, 2) := by decide +kernel
theorem dX9_rests_65 : decode cX9_rests 65 = .ok (.iload 8, 2) := by decide +kernel
theorem dX9_rests_67 : decode cX9_rests 67 = .ok (.iload 7, 2) := by decide +kernel
theorem dX9_rests_69 : decode cX9_rests 69 = .ok (.if_icmp .ge 51, 3) := by decide +kernel
theorem dX9_rests_72 : decode cX9_rests 72 = .ok (.aload 6, 2) := by decide +kernel
theorem dX9_rests_74 : decode cX9_rests 74 = .ok (.iload 8, 2) := by decide +kernel
theorem dX9_rests_76 : decode cX9_rests 76 = .ok (.aaload, 1) := by decide +kernel
theorem dX9_rests_77 : decode cX9_rests 77 = .ok (.astore 9, 2) := by decide +kernel
theorem dX9_rests_79 : decode cX9_rests 79 = .ok (.aload 9, 2) := by decide +kernel
theorem dX9_rests_81 : decode cX9_rests 81 = .ok (.ifnull 33, 3) := by decide +kernel
theorem dX9_rests_84 : decode cX9_rests 84 = .ok (.aload 4, 2) := by decide +kernel
theorem dX9_rests_86 : decode cX9_rests 86 = .ok (.aload 9, 2) := by decide +kernel
theorem dX9_rests_88 : decode cX9_rests 88 = .ok (.getfield 216, 3) := by decide +kernel
theorem dX9_rests_91 : decode cX9_rests 91 = .ok (.iload_n 1, 1) := by decide +kernel
theorem dX9_rests_92 : decode cX9_rests 92 = .ok (.invokevirtual 295, 3) := by decide +kernel
theorem dX9_rests_95 : decode cX9_rests 95 = .ok (.iload_n 3, 1) := by decide +kernel
theorem dX9_rests_96 : decode cX9_rests 96 = .ok (.iconst (-1), 1) := by decide +kernel
theorem dX9_rests_97 : decode cX9_rests 97 = .ok (.ixor, 1) := by decide +kernel
theorem dX9_rests_98 : decode cX9_rests 98 = .ok (.iand, 1) := by decide +kernel
theorem dX9_rests_99 : decode cX9_rests 99 = .ok (.ifCond .eq 15, 3) := by decide +kernel
theorem dX9_rests_102 : decode cX9_rests 102 = .ok (.iload 5, 2) := by decide +kernel
theorem dX9_rests_104 : decode cX9_rests 104 = .ok (.iconst 1, 1) := by decide +kernel
theorem dX9_rests_105 : decode cX9_rests 105 = .ok (.aload 9, 2) := by decide +kernel
theorem dX9_rests_107 : decode cX9_rests 107 = .ok (.getfield 216, 3) := by decide +kernel
theorem dX9_rests_110 : decode cX9_rests 110 = .ok (.ishl, 1) := by decide +kernel
theorem dX9_rests_111 : decode cX9_rests 111 = .ok (.ior, 1) := by decide +kernel
theorem dX9_rests_112 : decode cX9_rests 112 = .ok (.istore 5, 2) := by decide +kernel
theorem dX9_rests_114 : decode cX9_rests 114 = .ok (.iinc 8 1, 3) := by decide +kernel
theorem dX9_rests_117 : decode cX9_rests 117 = .ok (.goto (-52), 3) := by decide +kernel
theorem dX9_rests_120 : decode cX9_rests 120 = .ok (.iload 5, 2) := by decide +kernel
theorem dX9_rests_122 : decode cX9_rests 122 = .ok (.ireturn, 1) := by decide +kernel
theorem dX9_worth_0 : decode cX9_worth 0 = .ok (.iconst (-1), 1) := by decide +kernel
theorem dX9_worth_1 : decode cX9_worth 1 = .ok (.istore_n 1, 1) := by decide +kernel
theorem dX9_worth_2 : decode cX9_worth 2 = .ok (.iconst 0, 1) := by decide +kernel
theorem dX9_worth_3 : decode cX9_worth 3 = .ok (.istore_n 2, 1) := by decide +kernel
theorem dX9_worth_4 : decode cX9_worth 4 = .ok (.aload_n 0, 1) := by decide +kernel
theorem dX9_worth_5 : decode cX9_worth 5 = .ok (.getfield 18, 3) := by decide +kernel
theorem dX9_worth_8 : decode cX9_worth 8 = .ok (.astore_n 3, 1) := by decide +kernel
theorem dX9_worth_9 : decode cX9_worth 9 = .ok (.aload_n 3, 1) := by decide +kernel
theorem dX9_worth_10 : decode cX9_worth 10 = .ok (.arraylength, 1) := by decide +kernel
theorem dX9_worth_11 : decode cX9_worth 11 = .ok (.istore 4, 2) := by decide +kernel
theorem dX9_worth_13 : decode cX9_worth 13 = .ok (.iconst 0, 1) := by decide +kernel
theorem dX9_worth_14 : decode cX9_worth 14 = .ok (.istore 5, 2) := by decide +kernel
theorem dX9_worth_16 : decode cX9_worth 16 = .ok (.iload 5, 2) := by decide +kernel
theorem dX9_worth_18 : decode cX9_worth 18 = .ok (.iload 4, 2) := by decide +kernel
theorem dX9_worth_20 : decode cX9_worth 20 = .ok (.if_icmp .ge 69, 3) := by decide +kernel
theorem dX9_worth_23 : decode cX9_worth 23 = .ok (.aload_n 3, 1) := by decide +kernel
theorem dX9_worth_24 : decode cX9_worth 24 = .ok (.iload 5, 2) := by decide +kernel
theorem dX9_worth_26 : decode cX9_worth 26 = .ok (.aaload, 1) := by decide +kernel
theorem dX9_worth_27 : decode cX9_worth 27 = .ok (.astore 6, 2) := by decide +kernel
theorem dX9_worth_29 : decode cX9_worth 29 = .ok (.aload 6, 2) := by decide +kernel
theorem dX9_worth_31 : decode cX9_worth 31 = .ok (.ifnonnull 6, 3) := by decide +kernel
theorem dX9_worth_34 : decode cX9_worth 34 = .ok (.goto 49, 3) := by decide +kernel
theorem dX9_worth_37 : decode cX9_worth 37 = .ok (.aload_n 0, 1) := by decide +kernel
theorem dX9_worth_38 : decode cX9_worth 38 = .ok (.aload 6, 2) := by decide +kernel
theorem dX9_worth_40 : decode cX9_worth 40 = .ok (.iconst 0, 1) := by decide +kernel
theorem dX9_worth_41 : decode cX9_worth 41 = .ok (.invokevirtual 231, 3) := by decide +kernel
theorem dX9_worth_44 : decode cX9_worth 44 = .ok (.istore 7, 2) := by decide +kernel
theorem dX9_worth_46 : decode cX9_worth 46 = .ok (.aload 6, 2) := by decide +kernel
theorem dX9_worth_48 : decode cX9_worth 48 = .ok (.invokevirtual 298, 3) := by decide +kernel
theorem dX9_worth_51 : decode cX9_worth 51 = .ok (.iload 7, 2) := by decide +kernel
theorem dX9_worth_53 : decode cX9_worth 53 = .ok (.ifCond .ne 7, 3) := by decide +kernel
theorem dX9_worth_56 : decode cX9_worth 56 = .ok (.iconst 1, 1) := by decide +kernel
theorem dX9_worth_57 : decode cX9_worth 57 = .ok (.goto 8, 3) := by decide +kernel
theorem dX9_worth_60 : decode cX9_worth 60 = .ok (.iload 7, 2) := by decide +kernel
theorem dX9_worth_62 : decode cX9_worth 62 = .ok (.invokestatic 286, 3) := by decide +kernel
theorem dX9_worth_65 : decode cX9_worth 65 = .ok (.imul, 1) := by decide +kernel
theorem dX9_worth_66 : decode cX9_worth 66 = .ok (.istore 8, 2) := by decide +kernel
theorem dX9_worth_68 : decode cX9_worth 68 = .ok (.iload 8, 2) := by decide +kernel
theorem dX9_worth_70 : decode cX9_worth 70 = .ok (.iload_n 2, 1) := by decide +kernel
theorem dX9_worth_71 : decode cX9_worth 71 = .ok (.if_icmp .le 12, 3) := by decide +kernel
theorem dX9_worth_74 : decode cX9_worth 74 = .ok (.iload 8, 2) := by decide +kernel
theorem dX9_worth_76 : decode cX9_worth 76 = .ok (.istore_n 2, 1) := by decide +kernel
theorem dX9_worth_77 : decode cX9_worth 77 = .ok (.aload 6, 2) := by decide +kernel
theorem dX9_worth_79 : decode cX9_worth 79 = .ok (.getfield 115, 3) := by decide +kernel
theorem dX9_worth_82 : decode cX9_worth 82 = .ok (.istore_n 1, 1) := by decide +kernel
theorem dX9_worth_83 : decode cX9_worth 83 = .ok (.iinc 5 1, 3) := by decide +kernel
theorem dX9_worth_86 : decode cX9_worth 86 = .ok (.goto (-70), 3) := by decide +kernel
theorem dX9_worth_89 : decode cX9_worth 89 = .ok (.iload_n 1, 1) := by decide +kernel
theorem dX9_worth_90 : decode cX9_worth 90 = .ok (.ireturn, 1) := by decide +kernel
theorem dX9_isWithin_0 : decode cX9_isWithin 0 = .ok (.iload_n 0, 1) := by decide +kernel
theorem dX9_isWithin_1 : decode cX9_isWithin 1 = .ok (.iload_n 1, 1) := by decide +kernel
theorem dX9_isWithin_2 : decode cX9_isWithin 2 = .ok (.if_icmp .lt 12, 3) := by decide +kernel
theorem dX9_isWithin_5 : decode cX9_isWithin 5 = .ok (.iload_n 0, 1) := by decide +kernel
theorem dX9_isWithin_6 : decode cX9_isWithin 6 = .ok (.iload_n 2, 1) := by decide +kernel
theorem dX9_isWithin_7 : decode cX9_isWithin 7 = .ok (.if_icmp .gt 7, 3) := by decide +kernel
theorem dX9_isWithin_10 : decode cX9_isWithin 10 = .ok (.iconst 1, 1) := by decide +kernel
theorem dX9_isWithin_11 : decode cX9_isWithin 11 = .ok (.goto 4, 3) := by decide +kernel
theorem dX9_isWithin_14 : decode cX9_isWithin 14 = .ok (.iconst 0, 1) := by decide +kernel
theorem dX9_isWithin_15 : decode cX9_isWithin 15 = .ok (.ireturn, 1) := by decide +kernel
theorem dX9_isLetter_0 : decode cX9_isLetter 0 = .ok (.iload_n 0, 1) := by decide +kernel
theorem dX9_isLetter_1 : decode cX9_isLetter 1 = .ok (.ifCond .lt 13, 3) := by decide +kernel
theorem dX9_isLetter_4 : decode cX9_isLetter 4 = .ok (.iload_n 0, 1) := by decide +kernel
theorem dX9_isLetter_5 : decode cX9_isLetter 5 = .ok (.bipush 26, 2) := by decide +kernel
theorem dX9_isLetter_7 : decode cX9_isLetter 7 = .ok (.if_icmp .ge 7, 3) := by decide +kernel
theorem dX9_isLetter_10 : decode cX9_isLetter 10 = .ok (.iconst 1, 1) := by decide +kernel
theorem dX9_isLetter_11 : decode cX9_isLetter 11 = .ok (.goto 4, 3) := by decide +kernel
theorem dX9_isLetter_14 : decode cX9_isLetter 14 = .ok (.iconst 0, 1) := by decide +kernel
theorem dX9_isLetter_15 : decode cX9_isLetter 15 = .ok (.ireturn, 1) := by decide +kernel
theorem dX9_isLayer_0 : decode cX9_isLayer 0 = .ok (.iload_n 0, 1) := by decide +kernel
theorem dX9_isLayer_1 : decode cX9_isLayer 1 = .ok (.ifCond .lt 13, 3) := by decide +kernel
theorem dX9_isLayer_4 : decode cX9_isLayer 4 = .ok (.iload_n 0, 1) := by decide +kernel
theorem dX9_isLayer_5 : decode cX9_isLayer 5 = .ok (.bipush 7, 2) := by decide +kernel
theorem dX9_isLayer_7 : decode cX9_isLayer 7 = .ok (.if_icmp .gt 7, 3) := by decide +kernel
theorem dX9_isLayer_10 : decode cX9_isLayer 10 = .ok (.iconst 1, 1) := by decide +kernel
theorem dX9_isLayer_11 : decode cX9_isLayer 11 = .ok (.goto 4, 3) := by decide +kernel
theorem dX9_isLayer_14 : decode cX9_isLayer 14 = .ok (.iconst 0, 1) := by decide +kernel
theorem dX9_isLayer_15 : decode cX9_isLayer 15 = .ok (.ireturn, 1) := by decide +kernel
theorem dX9_quireOf_0 : decode cX9_quireOf 0 = .ok (.iload_n 1, 1) := by decide +kernel
theorem dX9_quireOf_1 : decode cX9_quireOf 1 = .ok (.ifCond .lt 26, 3) := by decide +kernel
theorem dX9_quireOf_4 : decode cX9_quireOf 4 = .ok (.iload_n 1, 1) := by decide +kernel
theorem dX9_quireOf_5 : decode cX9_quireOf 5 = .ok (.iconst 2, 1) := by decide +kernel
theorem dX9_quireOf_6 : decode cX9_quireOf 6 = .ok (.if_icmp .ge 21, 3) := by decide +kernel
theorem dX9_quireOf_9 : decode cX9_quireOf 9 = .ok (.iload_n 1, 1) := by decide +kernel
theorem dX9_quireOf_10 : decode cX9_quireOf 10 = .ok (.aload_n 0, 1) := by decide +kernel
theorem dX9_quireOf_11 : decode cX9_quireOf 11 = .ok (.getfield 29, 3) := by decide +kernel
theorem dX9_quireOf_14 : decode cX9_quireOf 14 = .ok (.arraylength, 1) := by decide +kernel
theorem dX9_quireOf_15 : decode cX9_quireOf 15 = .ok (.if_icmp .ge 12, 3) := by decide +kernel
theorem dX9_quireOf_18 : decode cX9_quireOf 18 = .ok (.aload_n 0, 1) := by decide +kernel
theorem dX9_quireOf_19 : decode cX9_quireOf 19 = .ok (.getfield 29, 3) := by decide +kernel
theorem dX9_quireOf_22 : decode cX9_quireOf 22 = .ok (.iload_n 1, 1) := by decide +kernel
theorem dX9_quireOf_23 : decode cX9_quireOf 23 = .ok (.aaload, 1) := by decide +kernel
theorem dX9_quireOf_24 : decode cX9_quireOf 24 = .ok (.goto 4, 3) := by decide +kernel
theorem dX9_quireOf_27 : decode cX9_quireOf 27 = .ok (.aconst_null, 1) := by decide +kernel
theorem dX9_quireOf_28 : decode cX9_quireOf 28 = .ok (.areturn, 1) := by decide +kernel
theorem dX9_leafOf_0 : decode cX9_leafOf 0 = .ok (.iload_n 1, 1) := by decide +kernel
theorem dX9_leafOf_1 : decode cX9_leafOf 1 = .ok (.ifCond .lt 21, 3) := by decide +kernel
theorem dX9_leafOf_4 : decode cX9_leafOf 4 = .ok (.iload_n 1, 1) := by decide +kernel
theorem dX9_leafOf_5 : decode cX9_leafOf 5 = .ok (.aload_n 0, 1) := by decide +kernel
theorem dX9_leafOf_6 : decode cX9_leafOf 6 = .ok (.getfield 18, 3) := by decide +kernel
theorem dX9_leafOf_9 : decode cX9_leafOf 9 = .ok (.arraylength, 1) := by decide +kernel
theorem dX9_leafOf_10 : decode cX9_leafOf 10 = .ok (.if_icmp .ge 12, 3) := by decide +kernel
theorem dX9_leafOf_13 : decode cX9_leafOf 13 = .ok (.aload_n 0, 1) := by decide +kernel
theorem dX9_leafOf_14 : decode cX9_leafOf 14 = .ok (.getfield 18, 3) := by decide +kernel
theorem dX9_leafOf_17 : decode cX9_leafOf 17 = .ok (.iload_n 1, 1) := by decide +kernel
theorem dX9_leafOf_18 : decode cX9_leafOf 18 = .ok (.aaload, 1) := by decide +kernel
theorem dX9_leafOf_19 : decode cX9_leafOf 19 = .ok (.goto 4, 3) := by decide +kernel
theorem dX9_leafOf_22 : decode cX9_leafOf 22 = .ok (.aconst_null, 1) := by decide +kernel
theorem dX9_leafOf_23 : decode cX9_leafOf 23 = .ok (.areturn, 1) := by decide +kernel
theorem dX9_cellOf_0 : decode cX9_cellOf 0 = .ok (.aload_n 0, 1) := by decide +kernel
theorem dX9_cellOf_1 : decode cX9_cellOf 1 = .ok (.iload_n 1, 1) := by decide +kernel
theorem dX9_cellOf_2 : decode cX9_cellOf 2 = .ok (.invokevirtual 179, 3) := by decide +kernel
theorem dX9_cellOf_5 : decode cX9_cellOf 5 = .ok (.astore 4, 2) := by decide +kernel
theorem dX9_cellOf_7 : decode cX9_cellOf 7 = .ok (.aload 4, 2) := by decide +kernel
theorem dX9_cellOf_9 : decode cX9_cellOf 9 = .ok (.ifnonnull 7, 3) := by decide +kernel
theorem dX9_cellOf_12 : decode cX9_cellOf 12 = .ok (.aconst_null, 1) := by decide +kernel
theorem dX9_cellOf_13 : decode cX9_cellOf 13 = .ok (.goto 10, 3) := by decide +kernel
theorem dX9_cellOf_16 : decode cX9_cellOf 16 = .ok (.aload 4, 2) := by decide +kernel
theorem dX9_cellOf_18 : decode cX9_cellOf 18 = .ok (.iload_n 2, 1) := by decide +kernel
theorem dX9_cellOf_19 : decode cX9_cellOf 19 = .ok (.iload_n 3, 1) := by decide +kernel
theorem dX9_cellOf_20 : decode cX9_cellOf 20 = .ok (.invokevirtual 199, 3) := by decide +kernel
theorem dX9_cellOf_23 : decode cX9_cellOf 23 = .ok (.areturn, 1) := by decide +kernel
theorem dX9_wordLikeDraft_0 : decode cX9_wordLikeDraft 0 = .ok (.iconst 0, 1) := by decide +kernel
theorem dX9_wordLikeDraft_1 : decode cX9_wordLikeDraft 1 = .ok (.istore_n 1, 1) := by decide +kernel
theorem dX9_wordLikeDraft_2 : decode cX9_wordLikeDraft 2 = .ok (.iload_n 1, 1) := by decide +kernel
theorem dX9_wordLikeDraft_3 : decode cX9_wordLikeDraft 3 = .ok (.aload_n 0, 1) := by decide +kernel
theorem dX9_wordLikeDraft_4 : decode cX9_wordLikeDraft 4 = .ok (.getfield 51, 3) := by decide +kernel
theorem dX9_wordLikeDraft_7 : decode cX9_wordLikeDraft 7 = .ok (.arraylength, 1) := by decide +kernel
theorem dX9_wordLikeDraft_8 : decode cX9_wordLikeDraft 8 = .ok (.if_icmp .ge 37, 3) := by decide +kernel
theorem dX9_wordLikeDraft_11 : decode cX9_wordLikeDraft 11 = .ok (.aload_n 0, 1) := by decide +kernel
theorem dX9_wordLikeDraft_12 : decode cX9_wordLikeDraft 12 = .ok (.getfield 51, 3) := by decide +kernel
theorem dX9_wordLikeDraft_15 : decode cX9_wordLikeDraft 15 = .ok (.iload_n 1, 1) := by decide +kernel
theorem dX9_wordLikeDraft_16 : decode cX9_wordLikeDraft 16 = .ok (.aaload, 1) := by decide +kernel
theorem dX9_wordLikeDraft_17 : decode cX9_wordLikeDraft 17 = .ok (.astore_n 2, 1) := by decide +kernel
theorem dX9_wordLikeDraft_18 : decode cX9_wordLikeDraft 18 = .ok (.aload_n 2, 1) := by decide +kernel
theorem dX9_wordLikeDraft_19 : decode cX9_wordLikeDraft 19 = .ok (.ifnull 20, 3) := by decide +kernel
theorem dX9_wordLikeDraft_22 : decode cX9_wordLikeDraft 22 = .ok (.aload_n 2, 1) := by decide +kernel
theorem dX9_wordLikeDraft_23 : decode cX9_wordLikeDraft 23 = .ok (.aload_n 0, 1) := by decide +kernel
theorem dX9_wordLikeDraft_24 : decode cX9_wordLikeDraft 24 = .ok (.getfield 42, 3) := by decide +kernel
theorem dX9_wordLikeDraft_27 : decode cX9_wordLikeDraft 27 = .ok (.aload_n 0, 1) := by decide +kernel
theorem dX9_wordLikeDraft_28 : decode cX9_wordLikeDraft 28 = .ok (.getfield 46, 3) := by decide +kernel
theorem dX9_wordLikeDraft_31 : decode cX9_wordLikeDraft 31 = .ok (.invokevirtual 301, 3) := by decide +kernel
theorem dX9_wordLikeDraft_34 : decode cX9_wordLikeDraft 34 = .ok (.ifCond .eq 5, 3) := by decide +kernel
theorem dX9_wordLikeDraft_37 : decode cX9_wordLikeDraft 37 = .ok (.iload_n 1, 1) := by decide +kernel
theorem dX9_wordLikeDraft_38 : decode cX9_wordLikeDraft 38 = .ok (.ireturn, 1) := by decide +kernel
theorem dX9_wordLikeDraft_39 : decode cX9_wordLikeDraft 39 = .ok (.iinc 1 1, 3) := by decide +kernel
theorem dX9_wordLikeDraft_42 : decode cX9_wordLikeDraft 42 = .ok (.goto (-40), 3) := by decide +kernel
theorem dX9_wordLikeDraft_45 : decode cX9_wordLikeDraft 45 = .ok (.iconst (-1), 1) := by decide +kernel
theorem dX9_wordLikeDraft_46 : decode cX9_wordLikeDraft 46 = .ok (.ireturn, 1) := by decide +kernel
theorem dX9_placesOf_0 : decode cX9_placesOf 0 = .ok (.aload_n 1, 1) := by decide +kernel
theorem dX9_placesOf_1 : decode cX9_placesOf 1 = .ok (.getfield 206, 3) := by decide +kernel
theorem dX9_placesOf_4 : decode cX9_placesOf 4 = .ok (.iload_n 2, 1) := by decide +kernel
theorem dX9_placesOf_5 : decode cX9_placesOf 5 = .ok (.aload_n 0, 1) := by decide +kernel
theorem dX9_placesOf_6 : decode cX9_placesOf 6 = .ok (.getfield 35, 3) := by decide +kernel
theorem dX9_placesOf_9 : decode cX9_placesOf 9 = .ok (.invokevirtual 222, 3) := by decide +kernel
theorem dX9_placesOf_12 : decode cX9_placesOf 12 = .ok (.getfield 276, 3) := by decide +kernel
theorem dX9_placesOf_15 : decode cX9_placesOf 15 = .ok (.aload_n 1, 1) := by decide +kernel
theorem dX9_placesOf_16 : decode cX9_placesOf 16 = .ok (.getfield 115, 3) := by decide +kernel
theorem dX9_placesOf_19 : decode cX9_placesOf 19 = .ok (.iaload, 1) := by decide +kernel
theorem dX9_placesOf_20 : decode cX9_placesOf 20 = .ok (.ireturn, 1) := by decide +kernel
theorem dX9_settleHands_0 : decode cX9_settleHands 0 = .ok (.iconst 0, 1) := by decide +kernel
theorem dX9_settleHands_1 : decode cX9_settleHands 1 = .ok (.istore_n 1, 1) := by decide +kernel
theorem dX9_settleHands_2 : decode cX9_settleHands 2 = .ok (.iload_n 1, 1) := by decide +kernel
theorem dX9_settleHands_3 : decode cX9_settleHands 3 = .ok (.aload_n 0, 1) := by decide +kernel
theorem dX9_settleHands_4 : decode cX9_settleHands 4 = .ok (.getfield 78, 3) := by decide +kernel
theorem dX9_settleHands_7 : decode cX9_settleHands 7 = .ok (.arraylength, 1) := by decide +kernel
theorem dX9_settleHands_8 : decode cX9_settleHands 8 = .ok (.if_icmp .ge 16, 3) := by decide +kernel
theorem dX9_settleHands_11 : decode cX9_settleHands 11 = .ok (.aload_n 0, 1) := by decide +kernel
theorem dX9_settleHands_12 : decode cX9_settleHands 12 = .ok (.getfield 78, 3) := by decide +kernel
theorem dX9_settleHands_15 : decode cX9_settleHands 15 = .ok (.iload_n 1, 1) := by decide +kernel
theorem dX9_settleHands_16 : decode cX9_settleHands 16 = .ok (.iload_n 1, 1) := by decide +kernel
theorem dX9_settleHands_17 : decode cX9_settleHands 17 = .ok (.iastore, 1) := by decide +kernel
theorem dX9_settleHands_18 : decode cX9_settleHands 18 = .ok (.iinc 1 1, 3) := by decide +kernel
theorem dX9_settleHands_21 : decode cX9_settleHands 21 = .ok (.goto (-19), 3) := by decide +kernel
theorem dX9_settleHands_24 : decode cX9_settleHands 24 = .ok (.iconst 0, 1) := by decide +kernel
theorem dX9_settleHands_25 : decode cX9_settleHands 25 = .ok (.istore_n 1, 1) := by decide +kernel
theorem dX9_settleHands_26 : decode cX9_settleHands 26 = .ok (.iload_n 1, 1) := by decide +kernel
theorem dX9_settleHands_27 : decode cX9_settleHands 27 = .ok (.bipush 10, 2) := by decide +kernel
theorem dX9_settleHands_29 : decode cX9_settleHands 29 = .ok (.if_icmp .ge 49, 3) := by decide +kernel
theorem dX9_settleHands_32 : decode cX9_settleHands 32 = .ok (.aload_n 0, 1) := by decide +kernel
theorem dX9_settleHands_33 : decode cX9_settleHands 33 = .ok (.getfield 18, 3) := by decide +kernel
theorem dX9_settleHands_36 : decode cX9_settleHands 36 = .ok (.astore_n 2, 1) := by decide +kernel
theorem dX9_settleHands_37 : decode cX9_settleHands 37 = .ok (.aload_n 2, 1) := by decide +kernel
theorem dX9_settleHands_38 : decode cX9_settleHands 38 = .ok (.arraylength, 1) := by decide +kernel
theorem dX9_settleHands_39 : decode cX9_settleHands 39 = .ok (.istore_n 3, 1) := by decide +kernel
theorem dX9_settleHands_40 : decode cX9_settleHands 40 = .ok (.iconst 0, 1) := by decide +kernel
theorem dX9_settleHands_41 : decode cX9_settleHands 41 = .ok (.istore 4, 2) := by decide +kernel
theorem dX9_settleHands_43 : decode cX9_settleHands 43 = .ok (.iload 4, 2) := by decide +kernel
theorem dX9_settleHands_45 : decode cX9_settleHands 45 = .ok (.iload_n 3, 1) := by decide +kernel
theorem dX9_settleHands_46 : decode cX9_settleHands 46 = .ok (.if_icmp .ge 26, 3) := by decide +kernel
theorem dX9_settleHands_49 : decode cX9_settleHands 49 = .ok (.aload_n 2, 1) := by decide +kernel
theorem dX9_settleHands_50 : decode cX9_settleHands 50 = .ok (.iload 4, 2) := by decide +kernel
theorem dX9_settleHands_52 : decode cX9_settleHands 52 = .ok (.aaload, 1) := by decide +kernel
theorem dX9_settleHands_53 : decode cX9_settleHands 53 = .ok (.astore 5, 2) := by decide +kernel
theorem dX9_settleHands_55 : decode cX9_settleHands 55 = .ok (.aload 5, 2) := by decide +kernel
theorem dX9_settleHands_57 : decode cX9_settleHands 57 = .ok (.ifnull 9, 3) := by decide +kernel
theorem dX9_settleHands_60 : decode cX9_settleHands 60 = .ok (.aload_n 0, 1) := by decide +kernel
theorem dX9_settleHands_61 : decode cX9_settleHands 61 = .ok (.aload 5, 2) := by decide +kernel
theorem dX9_settleHands_63 : decode cX9_settleHands 63 = .ok (.invokevirtual 305, 3) := by decide +kernel
theorem dX9_settleHands_66 : decode cX9_settleHands 66 = .ok (.iinc 4 1, 3) := by decide +kernel
theorem dX9_settleHands_69 : decode cX9_settleHands 69 = .ok (.goto (-26), 3) := by decide +kernel
theorem dX9_settleHands_72 : decode cX9_settleHands 72 = .ok (.iinc 1 1, 3) := by decide +kernel
theorem dX9_settleHands_75 : decode cX9_settleHands 75 = .ok (.goto (-49), 3) := by decide +kernel
theorem dX9_settleHands_78 : decode cX9_settleHands 78 = .ok (.return_, 1) := by decide +kernel
theorem dX9_takeLowest_0 : decode cX9_takeLowest 0 = .ok (.aload_n 0, 1) := by decide +kernel
theorem dX9_takeLowest_1 : decode cX9_takeLowest 1 = .ok (.getfield 18, 3) := by decide +kernel
theorem dX9_takeLowest_4 : decode cX9_takeLowest 4 = .ok (.astore_n 2, 1) := by decide +kernel
theorem dX9_takeLowest_5 : decode cX9_takeLowest 5 = .ok (.aload_n 2, 1) := by decide +kernel
theorem dX9_takeLowest_6 : decode cX9_takeLowest 6 = .ok (.arraylength, 1) := by decide +kernel
theorem dX9_takeLowest_7 : decode cX9_takeLowest 7 = .ok (.istore_n 3, 1) := by decide +kernel
theorem dX9_takeLowest_8 : decode cX9_takeLowest 8 = .ok (.iconst 0, 1) := by decide +kernel
theorem dX9_takeLowest_9 : decode cX9_takeLowest 9 = .ok (.istore 4, 2) := by decide +kernel
theorem dX9_takeLowest_11 : decode cX9_takeLowest 11 = .ok (.iload 4, 2) := by decide +kernel
theorem dX9_takeLowest_13 : decode cX9_takeLowest 13 = .ok (.iload_n 3, 1) := by decide +kernel
theorem dX9_takeLowest_14 : decode cX9_takeLowest 14 = .ok (.if_icmp .ge 73, 3) := by decide +kernel
theorem dX9_takeLowest_17 : decode cX9_takeLowest 17 = .ok (.aload_n 2, 1) := by decide +kernel
theorem dX9_takeLowest_18 : decode cX9_takeLowest 18 = .ok (.iload 4, 2) := by decide +kernel
theorem dX9_takeLowest_20 : decode cX9_takeLowest 20 = .ok (.aaload, 1) := by decide +kernel
theorem dX9_takeLowest_21 : decode cX9_takeLowest 21 = .ok (.astore 5, 2) := by decide +kernel
theorem dX9_takeLowest_23 : decode cX9_takeLowest 23 = .ok (.aload 5, 2) := by decide +kernel
theorem dX9_takeLowest_25 : decode cX9_takeLowest 25 = .ok (.ifnull 56, 3) := by decide +kernel
theorem dX9_takeLowest_28 : decode cX9_takeLowest 28 = .ok (.aload_n 0, 1) := by decide +kernel
theorem dX9_takeLowest_29 : decode cX9_takeLowest 29 = .ok (.getfield 78, 3) := by decide +kernel
theorem dX9_takeLowest_32 : decode cX9_takeLowest 32 = .ok (.aload 5, 2) := by decide +kernel
theorem dX9_takeLowest_34 : decode cX9_takeLowest 34 = .ok (.getfield 115, 3) := by decide +kernel
theorem dX9_takeLowest_37 : decode cX9_takeLowest 37 = .ok (.iaload, 1) := by decide +kernel
theorem dX9_takeLowest_38 : decode cX9_takeLowest 38 = .ok (.aload_n 0, 1) := by decide +kernel
theorem dX9_takeLowest_39 : decode cX9_takeLowest 39 = .ok (.getfield 78, 3) := by decide +kernel
theorem dX9_takeLowest_42 : decode cX9_takeLowest 42 = .ok (.aload_n 1, 1) := by decide +kernel
theorem dX9_takeLowest_43 : decode cX9_takeLowest 43 = .ok (.getfield 115, 3) := by decide +kernel
theorem dX9_takeLowest_46 : decode cX9_takeLowest 46 = .ok (.iaload, 1) := by decide +kernel
theorem dX9_takeLowest_47 : decode cX9_takeLowest 47 = .ok (.if_icmp .lt 6, 3) := by decide +kernel
theorem dX9_takeLowest_50 : decode cX9_takeLowest 50 = .ok (.goto 31, 3) := by decide +kernel
theorem dX9_takeLowest_53 : decode cX9_takeLowest 53 = .ok (.aload_n 1, 1) := by decide +kernel
theorem dX9_takeLowest_54 : decode cX9_takeLowest 54 = .ok (.aload 5, 2) := by decide +kernel
theorem dX9_takeLowest_56 : decode cX9_takeLowest 56 = .ok (.invokevirtual 308, 3) := by decide +kernel
theorem dX9_takeLowest_59 : decode cX9_takeLowest 59 = .ok (.ifCond .eq 22, 3) := by decide +kernel
theorem dX9_takeLowest_62 : decode cX9_takeLowest 62 = .ok (.aload_n 0, 1) := by decide +kernel
theorem dX9_takeLowest_63 : decode cX9_takeLowest 63 = .ok (.getfield 78, 3) := by decide +kernel
theorem dX9_takeLowest_66 : decode cX9_takeLowest 66 = .ok (.aload_n 1, 1) := by decide +kernel
theorem dX9_takeLowest_67 : decode cX9_takeLowest 67 = .ok (.getfield 115, 3) := by decide +kernel
theorem dX9_takeLowest_70 : decode cX9_takeLowest 70 = .ok (.aload_n 0, 1) := by decide +kernel
theorem dX9_takeLowest_71 : decode cX9_takeLowest 71 = .ok (.getfield 78, 3) := by decide +kernel
theorem dX9_takeLowest_74 : decode cX9_takeLowest 74 = .ok (.aload 5, 2) := by decide +kernel
theorem dX9_takeLowest_76 : decode cX9_takeLowest 76 = .ok (.getfield 115, 3) := by decide +kernel
theorem dX9_takeLowest_79 : decode cX9_takeLowest 79 = .ok (.iaload, 1) := by decide +kernel
theorem dX9_takeLowest_80 : decode cX9_takeLowest 80 = .ok (.iastore, 1) := by decide +kernel
theorem dX9_takeLowest_81 : decode cX9_takeLowest 81 = .ok (.iinc 4 1, 3) := by decide +kernel
theorem dX9_takeLowest_84 : decode cX9_takeLowest 84 = .ok (.goto (-73), 3) := by decide +kernel
theorem dX9_takeLowest_87 : decode cX9_takeLowest 87 = .ok (.return_, 1) := by decide +kernel
theorem dX9_spansOf_0 : decode cX9_spansOf 0 = .ok (.aload_n 0, 1) := by decide +kernel
theorem dX9_spansOf_1 : decode cX9_spansOf 1 = .ok (.aload_n 1, 1) := by decide +kernel
theorem dX9_spansOf_2 : decode cX9_spansOf 2 = .ok (.getfield 115, 3) := by decide +kernel
theorem dX9_spansOf_5 : decode cX9_spansOf 5 = .ok (.invokevirtual 312, 3) := by decide +kernel
theorem dX9_spansOf_8 : decode cX9_spansOf 8 = .ok (.istore_n 2, 1) := by decide +kernel
theorem dX9_spansOf_9 : decode cX9_spansOf 9 = .ok (.sipush 4095, 3) := by decide +kernel
theorem dX9_spansOf_12 : decode cX9_spansOf 12 = .ok (.istore_n 3, 1) := by decide +kernel
theorem dX9_spansOf_13 : decode cX9_spansOf 13 = .ok (.aload_n 0, 1) := by decide +kernel
theorem dX9_spansOf_14 : decode cX9_spansOf 14 = .ok (.getfield 18, 3) := by decide +kernel
theorem dX9_spansOf_17 : decode cX9_spansOf 17 = .ok (.astore 4, 2) := by decide +kernel
theorem dX9_spansOf_19 : decode cX9_spansOf 19 = .ok (.aload 4, 2) := by decide +kernel
theorem dX9_spansOf_21 : decode cX9_spansOf 21 = .ok (.arraylength, 1) := by decide +kernel
theorem dX9_spansOf_22 : decode cX9_spansOf 22 = .ok (.istore 5, 2) := by decide +kernel
theorem dX9_spansOf_24 : decode cX9_spansOf 24 = .ok (.iconst 0, 1) := by decide +kernel
theorem dX9_spansOf_25 : decode cX9_spansOf 25 = .ok (.istore 6, 2) := by decide +kernel
theorem dX9_spansOf_27 : decode cX9_spansOf 27 = .ok (.iload 6, 2) := by decide +kernel
theorem dX9_spansOf_29 : decode cX9_spansOf 29 = .ok (.iload 5, 2) := by decide +kernel
theorem dX9_spansOf_31 : decode cX9_spansOf 31 = .ok (.if_icmp .ge 42, 3) := by decide +kernel
theorem dX9_spansOf_34 : decode cX9_spansOf 34 = .ok (.aload 4, 2) := by decide +kernel
theorem dX9_spansOf_36 : decode cX9_spansOf 36 = .ok (.iload 6, 2) := by decide +kernel
theorem dX9_spansOf_38 : decode cX9_spansOf 38 = .ok (.aaload, 1) := by decide +kernel
theorem dX9_spansOf_39 : decode cX9_spansOf 39 = .ok (.astore 7, 2) := by decide +kernel
theorem dX9_spansOf_41 : decode cX9_spansOf 41 = .ok (.aload 7, 2) := by decide +kernel
theorem dX9_spansOf_43 : decode cX9_spansOf 43 = .ok (.ifnull 24, 3) := by decide +kernel
theorem dX9_spansOf_46 : decode cX9_spansOf 46 = .ok (.iload_n 2, 1) := by decide +kernel
theorem dX9_spansOf_47 : decode cX9_spansOf 47 = .ok (.aload 7, 2) := by decide +kernel
theorem dX9_spansOf_49 : decode cX9_spansOf 49 = .ok (.getfield 115, 3) := by decide +kernel
theorem dX9_spansOf_52 : decode cX9_spansOf 52 = .ok (.ishr, 1) := by decide +kernel
theorem dX9_spansOf_53 : decode cX9_spansOf 53 = .ok (.iconst 1, 1) := by decide +kernel
theorem dX9_spansOf_54 : decode cX9_spansOf 54 = .ok (.iand, 1) := by decide +kernel
theorem dX9_spansOf_55 : decode cX9_spansOf 55 = .ok (.iconst 1, 1) := by decide +kernel
theorem dX9_spansOf_56 : decode cX9_spansOf 56 = .ok (.if_icmp .ne 11, 3) := by decide +kernel
theorem dX9_spansOf_59 : decode cX9_spansOf 59 = .ok (.iload_n 3, 1) := by decide +kernel
theorem dX9_spansOf_60 : decode cX9_spansOf 60 = .ok (.aload 7, 2) := by decide +kernel
theorem dX9_spansOf_62 : decode cX9_spansOf 62 = .ok (.getfield 256, 3) := by decide +kernel
theorem dX9_spansOf_65 : decode cX9_spansOf 65 = .ok (.iand, 1) := by decide +kernel
theorem dX9_spansOf_66 : decode cX9_spansOf 66 = .ok (.istore_n 3, 1) := by decide +kernel
theorem dX9_spansOf_67 : decode cX9_spansOf 67 = .ok (.iinc 6 1, 3) := by decide +kernel
theorem dX9_spansOf_70 : decode cX9_spansOf 70 = .ok (.goto (-43), 3) := by decide +kernel
theorem dX9_spansOf_73 : decode cX9_spansOf 73 = .ok (.iload_n 3, 1) := by decide +kernel
theorem dX9_spansOf_74 : decode cX9_spansOf 74 = .ok (.ireturn, 1) := by decide +kernel
theorem dX9_sheetGroup_0 : decode cX9_sheetGroup 0 = .ok (.iconst 1, 1) := by decide +kernel
theorem dX9_sheetGroup_1 : decode cX9_sheetGroup 1 = .ok (.iload_n 1, 1) := by decide +kernel
theorem dX9_sheetGroup_2 : decode cX9_sheetGroup 2 = .ok (.ishl, 1) := by decide +kernel
theorem dX9_sheetGroup_3 : decode cX9_sheetGroup 3 = .ok (.istore_n 2, 1) := by decide +kernel
theorem dX9_sheetGroup_4 : decode cX9_sheetGroup 4 = .ok (.iconst 0, 1) := by decide +kernel
theorem dX9_sheetGroup_5 : decode cX9_sheetGroup 5 = .ok (.istore_n 3, 1) := by decide +kernel
theorem dX9_sheetGroup_6 : decode cX9_sheetGroup 6 = .ok (.iload_n 3, 1) := by decide +kernel
theorem dX9_sheetGroup_7 : decode cX9_sheetGroup 7 = .ok (.bipush 10, 2) := by decide +kernel
theorem dX9_sheetGroup_9 : decode cX9_sheetGroup 9 = .ok (.if_icmp .ge 104, 3) := by decide +kernel
theorem dX9_sheetGroup_12 : decode cX9_sheetGroup 12 = .ok (.aload_n 0, 1) := by decide +kernel
theorem dX9_sheetGroup_13 : decode cX9_sheetGroup 13 = .ok (.getfield 35, 3) := by decide +kernel
theorem dX9_sheetGroup_16 : decode cX9_sheetGroup 16 = .ok (.astore 4, 2) := by decide +kernel
theorem dX9_sheetGroup_18 : decode cX9_sheetGroup 18 = .ok (.aload 4, 2) := by decide +kernel
theorem dX9_sheetGroup_20 : decode cX9_sheetGroup 20 = .ok (.arraylength, 1) := by decide +kernel
theorem dX9_sheetGroup_21 : decode cX9_sheetGroup 21 = .ok (.istore 5, 2) := by decide +kernel
theorem dX9_sheetGroup_23 : decode cX9_sheetGroup 23 = .ok (.iconst 0, 1) := by decide +kernel
theorem dX9_sheetGroup_24 : decode cX9_sheetGroup 24 = .ok (.istore 6, 2) := by decide +kernel
theorem dX9_sheetGroup_26 : decode cX9_sheetGroup 26 = .ok (.iload 6, 2) := by decide +kernel
theorem dX9_sheetGroup_28 : decode cX9_sheetGroup 28 = .ok (.iload 5, 2) := by decide +kernel
theorem dX9_sheetGroup_30 : decode cX9_sheetGroup 30 = .ok (.if_icmp .ge 77, 3) := by decide +kernel
theorem dX9_sheetGroup_33 : decode cX9_sheetGroup 33 = .ok (.aload 4, 2) := by decide +kernel
theorem dX9_sheetGroup_35 : decode cX9_sheetGroup 35 = .ok (.iload 6, 2) := by decide +kernel
theorem dX9_sheetGroup_37 : decode cX9_sheetGroup 37 = .ok (.aaload, 1) := by decide +kernel
theorem dX9_sheetGroup_38 : decode cX9_sheetGroup 38 = .ok (.astore 7, 2) := by decide +kernel
theorem dX9_sheetGroup_40 : decode cX9_sheetGroup 40 = .ok (.aload 7, 2) := by decide +kernel
theorem dX9_sheetGroup_42 : decode cX9_sheetGroup 42 = .ok (.ifnull 59, 3) := by decide +kernel
theorem dX9_sheetGroup_45 : decode cX9_sheetGroup 45 = .ok (.aload 7, 2) := by decide +kernel
theorem dX9_sheetGroup_47 : decode cX9_sheetGroup 47 = .ok (.getfield 315, 3) := by decide +kernel
theorem dX9_sheetGroup_50 : decode cX9_sheetGroup 50 = .ok (.ifCond .ne 51, 3) := by decide +kernel
theorem dX9_sheetGroup_53 : decode cX9_sheetGroup 53 = .ok (.aload 7, 2) := by decide +kernel
theorem dX9_sheetGroup_55 : decode cX9_sheetGroup 55 = .ok (.getfield 318, 3) := by decide +kernel
theorem dX9_sheetGroup_58 : decode cX9_sheetGroup 58 = .ok (.ifCond .eq 43, 3) := by decide +kernel
theorem dX9_sheetGroup_61 : decode cX9_sheetGroup 61 = .ok (.aload 7, 2) := by decide +kernel
theorem dX9_sheetGroup_63 : decode cX9_sheetGroup 63 = .ok (.getfield 217, 3) := by decide +kernel
theorem dX9_sheetGroup_66 : decode cX9_sheetGroup 66 = .ok (.ifCond .ne 6, 3) := by decide +kernel
theorem dX9_sheetGroup_69 : decode cX9_sheetGroup 69 = .ok (.goto 32, 3) := by decide +kernel
theorem dX9_sheetGroup_72 : decode cX9_sheetGroup 72 = .ok (.iconst 1, 1) := by decide +kernel
theorem dX9_sheetGroup_73 : decode cX9_sheetGroup 73 = .ok (.aload 7, 2) := by decide +kernel
theorem dX9_sheetGroup_75 : decode cX9_sheetGroup 75 = .ok (.getfield 321, 3) := by decide +kernel
theorem dX9_sheetGroup_78 : decode cX9_sheetGroup 78 = .ok (.ishl, 1) := by decide +kernel
theorem dX9_sheetGroup_79 : decode cX9_sheetGroup 79 = .ok (.iconst 1, 1) := by decide +kernel
theorem dX9_sheetGroup_80 : decode cX9_sheetGroup 80 = .ok (.aload 7, 2) := by decide +kernel
theorem dX9_sheetGroup_82 : decode cX9_sheetGroup 82 = .ok (.getfield 324, 3) := by decide +kernel
theorem dX9_sheetGroup_85 : decode cX9_sheetGroup 85 = .ok (.ishl, 1) := by decide +kernel
theorem dX9_sheetGroup_86 : decode cX9_sheetGroup 86 = .ok (.ior, 1) := by decide +kernel
theorem dX9_sheetGroup_87 : decode cX9_sheetGroup 87 = .ok (.istore 8, 2) := by decide +kernel
theorem dX9_sheetGroup_89 : decode cX9_sheetGroup 89 = .ok (.iload_n 2, 1) := by decide +kernel
theorem dX9_sheetGroup_90 : decode cX9_sheetGroup 90 = .ok (.iload 8, 2) := by decide +kernel
theorem dX9_sheetGroup_92 : decode cX9_sheetGroup 92 = .ok (.iand, 1) := by decide +kernel
theorem dX9_sheetGroup_93 : decode cX9_sheetGroup 93 = .ok (.ifCond .eq 8, 3) := by decide +kernel
theorem dX9_sheetGroup_96 : decode cX9_sheetGroup 96 = .ok (.iload_n 2, 1) := by decide +kernel
theorem dX9_sheetGroup_97 : decode cX9_sheetGroup 97 = .ok (.iload 8, 2) := by decide +kernel
theorem dX9_sheetGroup_99 : decode cX9_sheetGroup 99 = .ok (.ior, 1) := by decide +kernel
theorem dX9_sheetGroup_100 : decode cX9_sheetGroup 100 = .ok (.istore_n 2, 1) := by decide +kernel
theorem dX9_sheetGroup_101 : decode cX9_sheetGroup 101 = .ok (.iinc 6 1, 3) := by decide +kernel
theorem dX9_sheetGroup_104 : decode cX9_sheetGroup 104 = .ok (.goto (-78), 3) := by decide +kernel
theorem dX9_sheetGroup_107 : decode cX9_sheetGroup 107 = .ok (.iinc 3 1, 3) := by decide +kernel
theorem dX9_sheetGroup_110 : decode cX9_sheetGroup 110 = .ok (.goto (-104), 3) := by decide +kernel
theorem dX9_sheetGroup_113 : decode cX9_sheetGroup 113 = .ok (.iload_n 2, 1) := by decide +kernel
theorem dX9_sheetGroup_114 : decode cX9_sheetGroup 114 = .ok (.ireturn, 1) := by decide +kernel
theorem dJ6_bitCount_0f7a4_0 : decode cJ6_bitCount_0f7a4 0 = .ok (.iload_n 0, 1) := by decide +kernel
theorem dJ6_bitCount_0f7a4_1 : decode cJ6_bitCount_0f7a4 1 = .ok (.iload_n 0, 1) := by decide +kernel
theorem dJ6_bitCount_0f7a4_2 : decode cJ6_bitCount_0f7a4 2 = .ok (.iconst 1, 1) := by decide +kernel
theorem dJ6_bitCount_0f7a4_3 : decode cJ6_bitCount_0f7a4 3 = .ok (.iushr, 1) := by decide +kernel
theorem dJ6_bitCount_0f7a4_4 : decode cJ6_bitCount_0f7a4 4 = .ok (.ldc_w 265, 3) := by decide +kernel
theorem dJ6_bitCount_0f7a4_7 : decode cJ6_bitCount_0f7a4 7 = .ok (.iand, 1) := by decide +kernel
theorem dJ6_bitCount_0f7a4_8 : decode cJ6_bitCount_0f7a4 8 = .ok (.isub, 1) := by decide +kernel
theorem dJ6_bitCount_0f7a4_9 : decode cJ6_bitCount_0f7a4 9 = .ok (.istore_n 0, 1) := by decide +kernel
theorem dJ6_bitCount_0f7a4_10 : decode cJ6_bitCount_0f7a4 10 = .ok (.iload_n 0, 1) := by decide +kernel
theorem dJ6_bitCount_0f7a4_11 : decode cJ6_bitCount_0f7a4 11 = .ok (.ldc_w 266, 3) := by decide +kernel
theorem dJ6_bitCount_0f7a4_14 : decode cJ6_bitCount_0f7a4 14 = .ok (.iand, 1) := by decide +kernel
theorem dJ6_bitCount_0f7a4_15 : decode cJ6_bitCount_0f7a4 15 = .ok (.iload_n 0, 1) := by decide +kernel
theorem dJ6_bitCount_0f7a4_16 : decode cJ6_bitCount_0f7a4 16 = .ok (.iconst 2, 1) := by decide +kernel
theorem dJ6_bitCount_0f7a4_17 : decode cJ6_bitCount_0f7a4 17 = .ok (.iushr, 1) := by decide +kernel
theorem dJ6_bitCount_0f7a4_18 : decode cJ6_bitCount_0f7a4 18 = .ok (.ldc_w 266, 3) := by decide +kernel
theorem dJ6_bitCount_0f7a4_21 : decode cJ6_bitCount_0f7a4 21 = .ok (.iand, 1) := by decide +kernel
theorem dJ6_bitCount_0f7a4_22 : decode cJ6_bitCount_0f7a4 22 = .ok (.iadd, 1) := by decide +kernel
theorem dJ6_bitCount_0f7a4_23 : decode cJ6_bitCount_0f7a4 23 = .ok (.istore_n 0, 1) := by decide +kernel
theorem dJ6_bitCount_0f7a4_24 : decode cJ6_bitCount_0f7a4 24 = .ok (.iload_n 0, 1) := by decide +kernel
theorem dJ6_bitCount_0f7a4_25 : decode cJ6_bitCount_0f7a4 25 = .ok (.iload_n 0, 1) := by decide +kernel
theorem dJ6_bitCount_0f7a4_26 : decode cJ6_bitCount_0f7a4 26 = .ok (.iconst 4, 1) := by decide +kernel
theorem dJ6_bitCount_0f7a4_27 : decode cJ6_bitCount_0f7a4 27 = .ok (.iushr, 1) := by decide +kernel
theorem dJ6_bitCount_0f7a4_28 : decode cJ6_bitCount_0f7a4 28 = .ok (.iadd, 1) := by decide +kernel
theorem dJ6_bitCount_0f7a4_29 : decode cJ6_bitCount_0f7a4 29 = .ok (.ldc_w 267, 3) := by decide +kernel
theorem dJ6_bitCount_0f7a4_32 : decode cJ6_bitCount_0f7a4 32 = .ok (.iand, 1) := by decide +kernel
theorem dJ6_bitCount_0f7a4_33 : decode cJ6_bitCount_0f7a4 33 = .ok (.istore_n 0, 1) := by decide +kernel
theorem dJ6_bitCount_0f7a4_34 : decode cJ6_bitCount_0f7a4 34 = .ok (.iload_n 0, 1) := by decide +kernel
theorem dJ6_bitCount_0f7a4_35 : decode cJ6_bitCount_0f7a4 35 = .ok (.iload_n 0, 1) := by decide +kernel
theorem dJ6_bitCount_0f7a4_36 : decode cJ6_bitCount_0f7a4 36 = .ok (.bipush 8, 2) := by decide +kernel
theorem dJ6_bitCount_0f7a4_38 : decode cJ6_bitCount_0f7a4 38 = .ok (.iushr, 1) := by decide +kernel
theorem dJ6_bitCount_0f7a4_39 : decode cJ6_bitCount_0f7a4 39 = .ok (.iadd, 1) := by decide +kernel
theorem dJ6_bitCount_0f7a4_40 : decode cJ6_bitCount_0f7a4 40 = .ok (.istore_n 0, 1) := by decide +kernel
theorem dJ6_bitCount_0f7a4_41 : decode cJ6_bitCount_0f7a4 41 = .ok (.iload_n 0, 1) := by decide +kernel
theorem dJ6_bitCount_0f7a4_42 : decode cJ6_bitCount_0f7a4 42 = .ok (.iload_n 0, 1) := by decide +kernel
theorem dJ6_bitCount_0f7a4_43 : decode cJ6_bitCount_0f7a4 43 = .ok (.bipush 16, 2) := by decide +kernel
theorem dJ6_bitCount_0f7a4_45 : decode cJ6_bitCount_0f7a4 45 = .ok (.iushr, 1) := by decide +kernel
theorem dJ6_bitCount_0f7a4_46 : decode cJ6_bitCount_0f7a4 46 = .ok (.iadd, 1) := by decide +kernel
theorem dJ6_bitCount_0f7a4_47 : decode cJ6_bitCount_0f7a4 47 = .ok (.istore_n 0, 1) := by decide +kernel
theorem dJ6_bitCount_0f7a4_48 : decode cJ6_bitCount_0f7a4 48 = .ok (.iload_n 0, 1) := by decide +kernel
theorem dJ6_bitCount_0f7a4_49 : decode cJ6_bitCount_0f7a4 49 = .ok (.bipush 63, 2) := by decide +kernel
theorem dJ6_bitCount_0f7a4_51 : decode cJ6_bitCount_0f7a4 51 = .ok (.iand, 1) := by decide +kernel
theorem dJ6_bitCount_0f7a4_52 : decode cJ6_bitCount_0f7a4 52 = .ok (.ireturn, 1) := by decide +kernel
theorem dJ9_abs_0f7a4_0 : decode cJ9_abs_0f7a4 0 = .ok (.iload_n 0, 1) := by decide +kernel
theorem dJ9_abs_0f7a4_1 : decode cJ9_abs_0f7a4 1 = .ok (.ifCond .ge 8, 3) := by decide +kernel
theorem dJ9_abs_0f7a4_4 : decode cJ9_abs_0f7a4 4 = .ok (.iload_n 0, 1) := by decide +kernel
theorem dJ9_abs_0f7a4_5 : decode cJ9_abs_0f7a4 5 = .ok (.ineg, 1) := by decide +kernel
theorem dJ9_abs_0f7a4_6 : decode cJ9_abs_0f7a4 6 = .ok (.goto 4, 3) := by decide +kernel
theorem dJ9_abs_0f7a4_9 : decode cJ9_abs_0f7a4 9 = .ok (.iload_n 0, 1) := by decide +kernel
theorem dJ9_abs_0f7a4_10 : decode cJ9_abs_0f7a4 10 = .ok (.ireturn, 1) := by decide +kernel
theorem dJ9_max_7cf53_0 : decode cJ9_max_7cf53 0 = .ok (.iload_n 0, 1) := by decide +kernel
theorem dJ9_max_7cf53_1 : decode cJ9_max_7cf53 1 = .ok (.iload_n 1, 1) := by decide +kernel
theorem dJ9_max_7cf53_2 : decode cJ9_max_7cf53 2 = .ok (.if_icmp .lt 7, 3) := by decide +kernel
theorem dJ9_max_7cf53_5 : decode cJ9_max_7cf53 5 = .ok (.iload_n 0, 1) := by decide +kernel
theorem dJ9_max_7cf53_6 : decode cJ9_max_7cf53 6 = .ok (.goto 4, 3) := by decide +kernel
theorem dJ9_max_7cf53_9 : decode cJ9_max_7cf53 9 = .ok (.iload_n 1, 1) := by decide +kernel
theorem dJ9_max_7cf53_10 : decode cJ9_max_7cf53 10 = .ok (.ireturn, 1) := by decide +kernel
theorem dJ9_min_7cf53_0 : decode cJ9_min_7cf53 0 = .ok (.iload_n 0, 1) := by decide +kernel
theorem dJ9_min_7cf53_1 : decode cJ9_min_7cf53 1 = .ok (.iload_n 1, 1) := by decide +kernel
theorem dJ9_min_7cf53_2 : decode cJ9_min_7cf53 2 = .ok (.if_icmp .gt 7, 3) := by decide +kernel
theorem dJ9_min_7cf53_5 : decode cJ9_min_7cf53 5 = .ok (.iload_n 0, 1) := by decide +kernel
theorem dJ9_min_7cf53_6 : decode cJ9_min_7cf53 6 = .ok (.goto 4, 3) := by decide +kernel
theorem dJ9_min_7cf53_9 : decode cJ9_min_7cf53 9 = .ok (.iload_n 1, 1) := by decide +kernel
theorem dJ9_min_7cf53_10 : decode cJ9_min_7cf53 10 = .ok (.ireturn, 1) := by decide +kernel
theorem dJ7_fill_53178_0 : decode cJ7_fill_53178 0 = .ok (.iconst 0, 1) := by decide +kernel
theorem dJ7_fill_53178_1 : decode cJ7_fill_53178 1 = .ok (.istore_n 2, 1) := by decide +kernel
theorem dJ7_fill_53178_2 : decode cJ7_fill_53178 2 = .ok (.aload_n 0, 1) := by decide +kernel
theorem dJ7_fill_53178_3 : decode cJ7_fill_53178 3 = .ok (.arraylength, 1) := by decide +kernel
theorem dJ7_fill_53178_4 : decode cJ7_fill_53178 4 = .ok (.istore_n 3, 1) := by decide +kernel
theorem dJ7_fill_53178_5 : decode cJ7_fill_53178 5 = .ok (.iload_n 2, 1) := by decide +kernel
theorem dJ7_fill_53178_6 : decode cJ7_fill_53178 6 = .ok (.iload_n 3, 1) := by decide +kernel
theorem dJ7_fill_53178_7 : decode cJ7_fill_53178 7 = .ok (.if_icmp .ge 13, 3) := by decide +kernel
theorem dJ7_fill_53178_10 : decode cJ7_fill_53178 10 = .ok (.aload_n 0, 1) := by decide +kernel
theorem dJ7_fill_53178_11 : decode cJ7_fill_53178 11 = .ok (.iload_n 2, 1) := by decide +kernel
theorem dJ7_fill_53178_12 : decode cJ7_fill_53178 12 = .ok (.iload_n 1, 1) := by decide +kernel
theorem dJ7_fill_53178_13 : decode cJ7_fill_53178 13 = .ok (.iastore, 1) := by decide +kernel
theorem dJ7_fill_53178_14 : decode cJ7_fill_53178 14 = .ok (.iinc 2 1, 3) := by decide +kernel
theorem dJ7_fill_53178_17 : decode cJ7_fill_53178 17 = .ok (.goto (-12), 3) := by decide +kernel
theorem dJ7_fill_53178_20 : decode cJ7_fill_53178 20 = .ok (.return_, 1) := by decide +kernel
theorem dJ7_copyOf_59c91_0 : decode cJ7_copyOf_59c91 0 = .ok (.iload_n 1, 1) := by decide +kernel
theorem dJ7_copyOf_59c91_1 : decode cJ7_copyOf_59c91 1 = .ok (.aload_n 0, 1) := by decide +kernel
theorem dJ7_copyOf_59c91_2 : decode cJ7_copyOf_59c91 2 = .ok (.arraylength, 1) := by decide +kernel
theorem dJ7_copyOf_59c91_3 : decode cJ7_copyOf_59c91 3 = .ok (.if_icmp .ne 11, 3) := by decide +kernel
theorem dJ7_copyOf_59c91_6 : decode cJ7_copyOf_59c91 6 = .ok (.aload_n 0, 1) := by decide +kernel
theorem dJ7_copyOf_59c91_7 : decode cJ7_copyOf_59c91 7 = .ok (.invokevirtual 316, 3) := by decide +kernel
theorem dJ7_copyOf_59c91_10 : decode cJ7_copyOf_59c91 10 = .ok (.checkcast 317, 3) := by decide +kernel
theorem dJ7_copyOf_59c91_13 : decode cJ7_copyOf_59c91 13 = .ok (.areturn, 1) := by decide +kernel
theorem dJ7_copyOf_59c91_14 : decode cJ7_copyOf_59c91 14 = .ok (.iload_n 1, 1) := by decide +kernel
theorem dJ7_copyOf_59c91_15 : decode cJ7_copyOf_59c91 15 = .ok (.newarray .int, 2) := by decide +kernel
theorem dJ7_copyOf_59c91_17 : decode cJ7_copyOf_59c91 17 = .ok (.astore_n 2, 1) := by decide +kernel
theorem dJ7_copyOf_59c91_18 : decode cJ7_copyOf_59c91 18 = .ok (.aload_n 0, 1) := by decide +kernel
theorem dJ7_copyOf_59c91_19 : decode cJ7_copyOf_59c91 19 = .ok (.iconst 0, 1) := by decide +kernel
theorem dJ7_copyOf_59c91_20 : decode cJ7_copyOf_59c91 20 = .ok (.aload_n 2, 1) := by decide +kernel
theorem dJ7_copyOf_59c91_21 : decode cJ7_copyOf_59c91 21 = .ok (.iconst 0, 1) := by decide +kernel
theorem dJ7_copyOf_59c91_22 : decode cJ7_copyOf_59c91 22 = .ok (.aload_n 0, 1) := by decide +kernel
theorem dJ7_copyOf_59c91_23 : decode cJ7_copyOf_59c91 23 = .ok (.arraylength, 1) := by decide +kernel
theorem dJ7_copyOf_59c91_24 : decode cJ7_copyOf_59c91 24 = .ok (.iload_n 1, 1) := by decide +kernel
theorem dJ7_copyOf_59c91_25 : decode cJ7_copyOf_59c91 25 = .ok (.invokestatic 304, 3) := by decide +kernel
theorem dJ7_copyOf_59c91_28 : decode cJ7_copyOf_59c91 28 = .ok (.invokestatic 150, 3) := by decide +kernel
theorem dJ7_copyOf_59c91_31 : decode cJ7_copyOf_59c91 31 = .ok (.aload_n 2, 1) := by decide +kernel
theorem dJ7_copyOf_59c91_32 : decode cJ7_copyOf_59c91 32 = .ok (.areturn, 1) := by decide +kernel
