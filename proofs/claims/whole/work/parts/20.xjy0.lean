theorem dX0_init_0 : decode cX0_init 0 = .ok (.aload_n 0, 1) := by decide +kernel
theorem dX0_init_1 : decode cX0_init 1 = .ok (.invokespecial 3, 3) := by decide +kernel
theorem dX0_init_4 : decode cX0_init 4 = .ok (.aload_n 0, 1) := by decide +kernel
theorem dX0_init_5 : decode cX0_init 5 = .ok (.bipush 40, 2) := by decide +kernel
theorem dX0_init_7 : decode cX0_init 7 = .ok (.newarray .long, 2) := by decide +kernel
theorem dX0_init_9 : decode cX0_init 9 = .ok (.putfield 9, 3) := by decide +kernel
theorem dX0_init_12 : decode cX0_init 12 = .ok (.aload_n 0, 1) := by decide +kernel
theorem dX0_init_13 : decode cX0_init 13 = .ok (.bipush 40, 2) := by decide +kernel
theorem dX0_init_15 : decode cX0_init 15 = .ok (.newarray .int, 2) := by decide +kernel
theorem dX0_init_17 : decode cX0_init 17 = .ok (.putfield 15, 3) := by decide +kernel
theorem dX0_init_20 : decode cX0_init 20 = .ok (.aload_n 0, 1) := by decide +kernel
theorem dX0_init_21 : decode cX0_init 21 = .ok (.bipush 40, 2) := by decide +kernel
theorem dX0_init_23 : decode cX0_init 23 = .ok (.newarray .int, 2) := by decide +kernel
theorem dX0_init_25 : decode cX0_init 25 = .ok (.putfield 19, 3) := by decide +kernel
theorem dX0_init_28 : decode cX0_init 28 = .ok (.aload_n 0, 1) := by decide +kernel
theorem dX0_init_29 : decode cX0_init 29 = .ok (.bipush 14, 2) := by decide +kernel
theorem dX0_init_31 : decode cX0_init 31 = .ok (.newarray .int, 2) := by decide +kernel
theorem dX0_init_33 : decode cX0_init 33 = .ok (.putfield 22, 3) := by decide +kernel
theorem dX0_init_36 : decode cX0_init 36 = .ok (.aload_n 0, 1) := by decide +kernel
theorem dX0_init_37 : decode cX0_init 37 = .ok (.bipush 14, 2) := by decide +kernel
theorem dX0_init_39 : decode cX0_init 39 = .ok (.newarray .int, 2) := by decide +kernel
theorem dX0_init_41 : decode cX0_init 41 = .ok (.putfield 25, 3) := by decide +kernel
theorem dX0_init_44 : decode cX0_init 44 = .ok (.return_, 1) := by decide +kernel
theorem dX0_replaced_0 : decode cX0_replaced 0 = .ok (.iload_n 1, 1) := by decide +kernel
theorem dX0_replaced_1 : decode cX0_replaced 1 = .ok (.ifCond .lt 9, 3) := by decide +kernel
theorem dX0_replaced_4 : decode cX0_replaced 4 = .ok (.iload_n 1, 1) := by decide +kernel
theorem dX0_replaced_5 : decode cX0_replaced 5 = .ok (.bipush 40, 2) := by decide +kernel
theorem dX0_replaced_7 : decode cX0_replaced 7 = .ok (.if_icmp .lt 5, 3) := by decide +kernel
theorem dX0_replaced_10 : decode cX0_replaced 10 = .ok (.lconst 0, 1) := by decide +kernel
theorem dX0_replaced_11 : decode cX0_replaced 11 = .ok (.lreturn, 1) := by decide +kernel
theorem dX0_replaced_12 : decode cX0_replaced 12 = .ok (.aload_n 0, 1) := by decide +kernel
theorem dX0_replaced_13 : decode cX0_replaced 13 = .ok (.getfield 9, 3) := by decide +kernel
theorem dX0_replaced_16 : decode cX0_replaced 16 = .ok (.iload_n 1, 1) := by decide +kernel
theorem dX0_replaced_17 : decode cX0_replaced 17 = .ok (.laload, 1) := by decide +kernel
theorem dX0_replaced_18 : decode cX0_replaced 18 = .ok (.lstore 4, 2) := by decide +kernel
theorem dX0_replaced_20 : decode cX0_replaced 20 = .ok (.aload_n 0, 1) := by decide +kernel
theorem dX0_replaced_21 : decode cX0_replaced 21 = .ok (.getfield 9, 3) := by decide +kernel
theorem dX0_replaced_24 : decode cX0_replaced 24 = .ok (.iload_n 1, 1) := by decide +kernel
theorem dX0_replaced_25 : decode cX0_replaced 25 = .ok (.lload_n 2, 1) := by decide +kernel
theorem dX0_replaced_26 : decode cX0_replaced 26 = .ok (.lastore, 1) := by decide +kernel
theorem dX0_replaced_27 : decode cX0_replaced 27 = .ok (.lload 4, 2) := by decide +kernel
theorem dX0_replaced_29 : decode cX0_replaced 29 = .ok (.lreturn, 1) := by decide +kernel
theorem dX0_madeKnown_0 : decode cX0_madeKnown 0 = .ok (.aload_n 0, 1) := by decide +kernel
theorem dX0_madeKnown_1 : decode cX0_madeKnown 1 = .ok (.getfield 28, 3) := by decide +kernel
theorem dX0_madeKnown_4 : decode cX0_madeKnown 4 = .ok (.iload_n 1, 1) := by decide +kernel
theorem dX0_madeKnown_5 : decode cX0_madeKnown 5 = .ok (.lshr, 1) := by decide +kernel
theorem dX0_madeKnown_6 : decode cX0_madeKnown 6 = .ok (.lconst 1, 1) := by decide +kernel
theorem dX0_madeKnown_7 : decode cX0_madeKnown 7 = .ok (.land, 1) := by decide +kernel
theorem dX0_madeKnown_8 : decode cX0_madeKnown 8 = .ok (.lconst 0, 1) := by decide +kernel
theorem dX0_madeKnown_9 : decode cX0_madeKnown 9 = .ok (.lcmp, 1) := by decide +kernel
theorem dX0_madeKnown_10 : decode cX0_madeKnown 10 = .ok (.ifCond .eq 7, 3) := by decide +kernel
theorem dX0_madeKnown_13 : decode cX0_madeKnown 13 = .ok (.iconst 1, 1) := by decide +kernel
theorem dX0_madeKnown_14 : decode cX0_madeKnown 14 = .ok (.goto 4, 3) := by decide +kernel
theorem dX0_madeKnown_17 : decode cX0_madeKnown 17 = .ok (.iconst 0, 1) := by decide +kernel
theorem dX0_madeKnown_18 : decode cX0_madeKnown 18 = .ok (.istore_n 3, 1) := by decide +kernel
theorem dX0_madeKnown_19 : decode cX0_madeKnown 19 = .ok (.aload_n 0, 1) := by decide +kernel
theorem dX0_madeKnown_20 : decode cX0_madeKnown 20 = .ok (.iload_n 2, 1) := by decide +kernel
theorem dX0_madeKnown_21 : decode cX0_madeKnown 21 = .ok (.ifCond .eq 14, 3) := by decide +kernel
theorem dX0_madeKnown_24 : decode cX0_madeKnown 24 = .ok (.aload_n 0, 1) := by decide +kernel
theorem dX0_madeKnown_25 : decode cX0_madeKnown 25 = .ok (.getfield 28, 3) := by decide +kernel
theorem dX0_madeKnown_28 : decode cX0_madeKnown 28 = .ok (.lconst 1, 1) := by decide +kernel
theorem dX0_madeKnown_29 : decode cX0_madeKnown 29 = .ok (.iload_n 1, 1) := by decide +kernel
theorem dX0_madeKnown_30 : decode cX0_madeKnown 30 = .ok (.lshl, 1) := by decide +kernel
theorem dX0_madeKnown_31 : decode cX0_madeKnown 31 = .ok (.lor, 1) := by decide +kernel
theorem dX0_madeKnown_32 : decode cX0_madeKnown 32 = .ok (.goto 15, 3) := by decide +kernel
theorem dX0_madeKnown_35 : decode cX0_madeKnown 35 = .ok (.aload_n 0, 1) := by decide +kernel
theorem dX0_madeKnown_36 : decode cX0_madeKnown 36 = .ok (.getfield 28, 3) := by decide +kernel
theorem dX0_madeKnown_39 : decode cX0_madeKnown 39 = .ok (.lconst 1, 1) := by decide +kernel
theorem dX0_madeKnown_40 : decode cX0_madeKnown 40 = .ok (.iload_n 1, 1) := by decide +kernel
theorem dX0_madeKnown_41 : decode cX0_madeKnown 41 = .ok (.lshl, 1) := by decide +kernel
theorem dX0_madeKnown_42 : decode cX0_madeKnown 42 = .ok (.ldc2_w 32, 3) := by decide +kernel
theorem dX0_madeKnown_45 : decode cX0_madeKnown 45 = .ok (.lxor, 1) := by decide +kernel
theorem dX0_madeKnown_46 : decode cX0_madeKnown 46 = .ok (.land, 1) := by decide +kernel
theorem dX0_madeKnown_47 : decode cX0_madeKnown 47 = .ok (.putfield 28, 3) := by decide +kernel
theorem dX0_madeKnown_50 : decode cX0_madeKnown 50 = .ok (.iload_n 3, 1) := by decide +kernel
theorem dX0_madeKnown_51 : decode cX0_madeKnown 51 = .ok (.ireturn, 1) := by decide +kernel
theorem dX0_explainedBy_0 : decode cX0_explainedBy 0 = .ok (.iload_n 1, 1) := by decide +kernel
theorem dX0_explainedBy_1 : decode cX0_explainedBy 1 = .ok (.ifCond .lt 31, 3) := by decide +kernel
theorem dX0_explainedBy_4 : decode cX0_explainedBy 4 = .ok (.iload_n 1, 1) := by decide +kernel
theorem dX0_explainedBy_5 : decode cX0_explainedBy 5 = .ok (.bipush 40, 2) := by decide +kernel
theorem dX0_explainedBy_7 : decode cX0_explainedBy 7 = .ok (.if_icmp .ge 25, 3) := by decide +kernel
theorem dX0_explainedBy_10 : decode cX0_explainedBy 10 = .ok (.aload_n 0, 1) := by decide +kernel
theorem dX0_explainedBy_11 : decode cX0_explainedBy 11 = .ok (.getfield 9, 3) := by decide +kernel
theorem dX0_explainedBy_14 : decode cX0_explainedBy 14 = .ok (.iload_n 1, 1) := by decide +kernel
theorem dX0_explainedBy_15 : decode cX0_explainedBy 15 = .ok (.laload, 1) := by decide +kernel
theorem dX0_explainedBy_16 : decode cX0_explainedBy 16 = .ok (.lload_n 2, 1) := by decide +kernel
theorem dX0_explainedBy_17 : decode cX0_explainedBy 17 = .ok (.aload_n 0, 1) := by decide +kernel
theorem dX0_explainedBy_18 : decode cX0_explainedBy 18 = .ok (.getfield 28, 3) := by decide +kernel
theorem dX0_explainedBy_21 : decode cX0_explainedBy 21 = .ok (.lor, 1) := by decide +kernel
theorem dX0_explainedBy_22 : decode cX0_explainedBy 22 = .ok (.ldc2_w 32, 3) := by decide +kernel
theorem dX0_explainedBy_25 : decode cX0_explainedBy 25 = .ok (.lxor, 1) := by decide +kernel
theorem dX0_explainedBy_26 : decode cX0_explainedBy 26 = .ok (.land, 1) := by decide +kernel
theorem dX0_explainedBy_27 : decode cX0_explainedBy 27 = .ok (.lconst 0, 1) := by decide +kernel
theorem dX0_explainedBy_28 : decode cX0_explainedBy 28 = .ok (.lcmp, 1) := by decide +kernel
theorem dX0_explainedBy_29 : decode cX0_explainedBy 29 = .ok (.ifCond .ne 7, 3) := by decide +kernel
theorem dX0_explainedBy_32 : decode cX0_explainedBy 32 = .ok (.iconst 1, 1) := by decide +kernel
theorem dX0_explainedBy_33 : decode cX0_explainedBy 33 = .ok (.goto 4, 3) := by decide +kernel
theorem dX0_explainedBy_36 : decode cX0_explainedBy 36 = .ok (.iconst 0, 1) := by decide +kernel
theorem dX0_explainedBy_37 : decode cX0_explainedBy 37 = .ok (.ireturn, 1) := by decide +kernel
theorem dX0_ringSize_0 : decode cX0_ringSize 0 = .ok (.aload_n 0, 1) := by decide +kernel
theorem dX0_ringSize_1 : decode cX0_ringSize 1 = .ok (.getfield 34, 3) := by decide +kernel
theorem dX0_ringSize_4 : decode cX0_ringSize 4 = .ok (.ireturn, 1) := by decide +kernel
theorem dX0_ringAt_0 : decode cX0_ringAt 0 = .ok (.iload_n 1, 1) := by decide +kernel
theorem dX0_ringAt_1 : decode cX0_ringAt 1 = .ok (.ifCond .lt 20, 3) := by decide +kernel
theorem dX0_ringAt_4 : decode cX0_ringAt 4 = .ok (.iload_n 1, 1) := by decide +kernel
theorem dX0_ringAt_5 : decode cX0_ringAt 5 = .ok (.aload_n 0, 1) := by decide +kernel
theorem dX0_ringAt_6 : decode cX0_ringAt 6 = .ok (.getfield 34, 3) := by decide +kernel
theorem dX0_ringAt_9 : decode cX0_ringAt 9 = .ok (.if_icmp .ge 12, 3) := by decide +kernel
theorem dX0_ringAt_12 : decode cX0_ringAt 12 = .ok (.aload_n 0, 1) := by decide +kernel
theorem dX0_ringAt_13 : decode cX0_ringAt 13 = .ok (.getfield 19, 3) := by decide +kernel
theorem dX0_ringAt_16 : decode cX0_ringAt 16 = .ok (.iload_n 1, 1) := by decide +kernel
theorem dX0_ringAt_17 : decode cX0_ringAt 17 = .ok (.iaload, 1) := by decide +kernel
theorem dX0_ringAt_18 : decode cX0_ringAt 18 = .ok (.goto 4, 3) := by decide +kernel
theorem dX0_ringAt_21 : decode cX0_ringAt 21 = .ok (.iconst (-1), 1) := by decide +kernel
theorem dX0_ringAt_22 : decode cX0_ringAt 22 = .ok (.ireturn, 1) := by decide +kernel
theorem dX0_findRing_0 : decode cX0_findRing 0 = .ok (.iconst (-1), 1) := by decide +kernel
theorem dX0_findRing_1 : decode cX0_findRing 1 = .ok (.istore_n 1, 1) := by decide +kernel
theorem dX0_findRing_2 : decode cX0_findRing 2 = .ok (.aload_n 0, 1) := by decide +kernel
theorem dX0_findRing_3 : decode cX0_findRing 3 = .ok (.iconst 0, 1) := by decide +kernel
theorem dX0_findRing_4 : decode cX0_findRing 4 = .ok (.putfield 34, 3) := by decide +kernel
theorem dX0_findRing_7 : decode cX0_findRing 7 = .ok (.iconst 0, 1) := by decide +kernel
theorem dX0_findRing_8 : decode cX0_findRing 8 = .ok (.istore_n 2, 1) := by decide +kernel
theorem dX0_findRing_9 : decode cX0_findRing 9 = .ok (.iload_n 2, 1) := by decide +kernel
theorem dX0_findRing_10 : decode cX0_findRing 10 = .ok (.bipush 40, 2) := by decide +kernel
theorem dX0_findRing_12 : decode cX0_findRing 12 = .ok (.if_icmp .ge 39, 3) := by decide +kernel
theorem dX0_findRing_15 : decode cX0_findRing 15 = .ok (.aload_n 0, 1) := by decide +kernel
theorem dX0_findRing_16 : decode cX0_findRing 16 = .ok (.iload_n 2, 1) := by decide +kernel
theorem dX0_findRing_17 : decode cX0_findRing 17 = .ok (.invokevirtual 38, 3) := by decide +kernel
theorem dX0_findRing_20 : decode cX0_findRing 20 = .ok (.istore_n 3, 1) := by decide +kernel
theorem dX0_findRing_21 : decode cX0_findRing 21 = .ok (.iload_n 3, 1) := by decide +kernel
theorem dX0_findRing_22 : decode cX0_findRing 22 = .ok (.ifCond .le 23, 3) := by decide +kernel
theorem dX0_findRing_25 : decode cX0_findRing 25 = .ok (.iload_n 1, 1) := by decide +kernel
theorem dX0_findRing_26 : decode cX0_findRing 26 = .ok (.iconst (-1), 1) := by decide +kernel
theorem dX0_findRing_27 : decode cX0_findRing 27 = .ok (.if_icmp .eq 11, 3) := by decide +kernel
theorem dX0_findRing_30 : decode cX0_findRing 30 = .ok (.iload_n 3, 1) := by decide +kernel
theorem dX0_findRing_31 : decode cX0_findRing 31 = .ok (.aload_n 0, 1) := by decide +kernel
theorem dX0_findRing_32 : decode cX0_findRing 32 = .ok (.getfield 34, 3) := by decide +kernel
theorem dX0_findRing_35 : decode cX0_findRing 35 = .ok (.if_icmp .ge 10, 3) := by decide +kernel
theorem dX0_findRing_38 : decode cX0_findRing 38 = .ok (.iload_n 2, 1) := by decide +kernel
theorem dX0_findRing_39 : decode cX0_findRing 39 = .ok (.istore_n 1, 1) := by decide +kernel
theorem dX0_findRing_40 : decode cX0_findRing 40 = .ok (.aload_n 0, 1) := by decide +kernel
theorem dX0_findRing_41 : decode cX0_findRing 41 = .ok (.iload_n 3, 1) := by decide +kernel
theorem dX0_findRing_42 : decode cX0_findRing 42 = .ok (.putfield 34, 3) := by decide +kernel
theorem dX0_findRing_45 : decode cX0_findRing 45 = .ok (.iinc 2 1, 3) := by decide +kernel
theorem dX0_findRing_48 : decode cX0_findRing 48 = .ok (.goto (-39), 3) := by decide +kernel
theorem dX0_findRing_51 : decode cX0_findRing 51 = .ok (.iload_n 1, 1) := by decide +kernel
theorem dX0_findRing_52 : decode cX0_findRing 52 = .ok (.iconst (-1), 1) := by decide +kernel
theorem dX0_findRing_53 : decode cX0_findRing 53 = .ok (.if_icmp .eq 14, 3) := by decide +kernel
theorem dX0_findRing_56 : decode cX0_findRing 56 = .ok (.aload_n 0, 1) := by decide +kernel
theorem dX0_findRing_57 : decode cX0_findRing 57 = .ok (.iload_n 1, 1) := by decide +kernel
theorem dX0_findRing_58 : decode cX0_findRing 58 = .ok (.invokevirtual 38, 3) := by decide +kernel
theorem dX0_findRing_61 : decode cX0_findRing 61 = .ok (.pop, 1) := by decide +kernel
theorem dX0_findRing_62 : decode cX0_findRing 62 = .ok (.aload_n 0, 1) := by decide +kernel
theorem dX0_findRing_63 : decode cX0_findRing 63 = .ok (.iload_n 1, 1) := by decide +kernel
theorem dX0_findRing_64 : decode cX0_findRing 64 = .ok (.invokevirtual 42, 3) := by decide +kernel
theorem dX0_findRing_67 : decode cX0_findRing 67 = .ok (.return_, 1) := by decide +kernel
theorem dX0_stepsBackTo_0 : decode cX0_stepsBackTo 0 = .ok (.iconst 0, 1) := by decide +kernel
theorem dX0_stepsBackTo_1 : decode cX0_stepsBackTo 1 = .ok (.istore_n 2, 1) := by decide +kernel
theorem dX0_stepsBackTo_2 : decode cX0_stepsBackTo 2 = .ok (.iload_n 2, 1) := by decide +kernel
theorem dX0_stepsBackTo_3 : decode cX0_stepsBackTo 3 = .ok (.bipush 40, 2) := by decide +kernel
theorem dX0_stepsBackTo_5 : decode cX0_stepsBackTo 5 = .ok (.if_icmp .ge 16, 3) := by decide +kernel
theorem dX0_stepsBackTo_8 : decode cX0_stepsBackTo 8 = .ok (.aload_n 0, 1) := by decide +kernel
theorem dX0_stepsBackTo_9 : decode cX0_stepsBackTo 9 = .ok (.getfield 15, 3) := by decide +kernel
theorem dX0_stepsBackTo_12 : decode cX0_stepsBackTo 12 = .ok (.iload_n 2, 1) := by decide +kernel
theorem dX0_stepsBackTo_13 : decode cX0_stepsBackTo 13 = .ok (.iconst 0, 1) := by decide +kernel
theorem dX0_stepsBackTo_14 : decode cX0_stepsBackTo 14 = .ok (.iastore, 1) := by decide +kernel
theorem dX0_stepsBackTo_15 : decode cX0_stepsBackTo 15 = .ok (.iinc 2 1, 3) := by decide +kernel
theorem dX0_stepsBackTo_18 : decode cX0_stepsBackTo 18 = .ok (.goto (-16), 3) := by decide +kernel
theorem dX0_stepsBackTo_21 : decode cX0_stepsBackTo 21 = .ok (.lconst 1, 1) := by decide +kernel
theorem dX0_stepsBackTo_22 : decode cX0_stepsBackTo 22 = .ok (.iload_n 1, 1) := by decide +kernel
theorem dX0_stepsBackTo_23 : decode cX0_stepsBackTo 23 = .ok (.lshl, 1) := by decide +kernel
theorem dX0_stepsBackTo_24 : decode cX0_stepsBackTo 24 = .ok (.lstore_n 2, 1) := by decide +kernel
theorem dX0_stepsBackTo_25 : decode cX0_stepsBackTo 25 = .ok (.iconst 1, 1) := by decide +kernel
theorem dX0_stepsBackTo_26 : decode cX0_stepsBackTo 26 = .ok (.istore 4, 2) := by decide +kernel
theorem dX0_stepsBackTo_28 : decode cX0_stepsBackTo 28 = .ok (.iload 4, 2) := by decide +kernel
theorem dX0_stepsBackTo_30 : decode cX0_stepsBackTo 30 = .ok (.bipush 40, 2) := by decide +kernel
theorem dX0_stepsBackTo_32 : decode cX0_stepsBackTo 32 = .ok (.if_icmp .gt 79, 3) := by decide +kernel
theorem dX0_stepsBackTo_35 : decode cX0_stepsBackTo 35 = .ok (.lload_n 2, 1) := by decide +kernel
theorem dX0_stepsBackTo_36 : decode cX0_stepsBackTo 36 = .ok (.lconst 0, 1) := by decide +kernel
theorem dX0_stepsBackTo_37 : decode cX0_stepsBackTo 37 = .ok (.lcmp, 1) := by decide +kernel
theorem dX0_stepsBackTo_38 : decode cX0_stepsBackTo 38 = .ok (.ifCond .eq 73, 3) := by decide +kernel
theorem dX0_stepsBackTo_41 : decode cX0_stepsBackTo 41 = .ok (.lconst 0, 1) := by decide +kernel
theorem dX0_stepsBackTo_42 : decode cX0_stepsBackTo 42 = .ok (.lstore 5, 2) := by decide +kernel
theorem dX0_stepsBackTo_44 : decode cX0_stepsBackTo 44 = .ok (.iconst 0, 1) := by decide +kernel
theorem dX0_stepsBackTo_45 : decode cX0_stepsBackTo 45 = .ok (.istore 7, 2) := by decide +kernel
theorem dX0_stepsBackTo_47 : decode cX0_stepsBackTo 47 = .ok (.iload 7, 2) := by decide +kernel
theorem dX0_stepsBackTo_49 : decode cX0_stepsBackTo 49 = .ok (.bipush 40, 2) := by decide +kernel
theorem dX0_stepsBackTo_51 : decode cX0_stepsBackTo 51 = .ok (.if_icmp .ge 51, 3) := by decide +kernel
theorem dX0_stepsBackTo_54 : decode cX0_stepsBackTo 54 = .ok (.aload_n 0, 1) := by decide +kernel
theorem dX0_stepsBackTo_55 : decode cX0_stepsBackTo 55 = .ok (.getfield 15, 3) := by decide +kernel
theorem dX0_stepsBackTo_58 : decode cX0_stepsBackTo 58 = .ok (.iload 7, 2) := by decide +kernel
theorem dX0_stepsBackTo_60 : decode cX0_stepsBackTo 60 = .ok (.iaload, 1) := by decide +kernel
theorem dX0_stepsBackTo_61 : decode cX0_stepsBackTo 61 = .ok (.ifCond .ne 35, 3) := by decide +kernel
theorem dX0_stepsBackTo_64 : decode cX0_stepsBackTo 64 = .ok (.aload_n 0, 1) := by decide +kernel
theorem dX0_stepsBackTo_65 : decode cX0_stepsBackTo 65 = .ok (.getfield 9, 3) := by decide +kernel
theorem dX0_stepsBackTo_68 : decode cX0_stepsBackTo 68 = .ok (.iload 7, 2) := by decide +kernel
theorem dX0_stepsBackTo_70 : decode cX0_stepsBackTo 70 = .ok (.laload, 1) := by decide +kernel
theorem dX0_stepsBackTo_71 : decode cX0_stepsBackTo 71 = .ok (.lload_n 2, 1) := by decide +kernel
theorem dX0_stepsBackTo_72 : decode cX0_stepsBackTo 72 = .ok (.land, 1) := by decide +kernel
theorem dX0_stepsBackTo_73 : decode cX0_stepsBackTo 73 = .ok (.lconst 0, 1) := by decide +kernel
theorem dX0_stepsBackTo_74 : decode cX0_stepsBackTo 74 = .ok (.lcmp, 1) := by decide +kernel
theorem dX0_stepsBackTo_75 : decode cX0_stepsBackTo 75 = .ok (.ifCond .eq 21, 3) := by decide +kernel
theorem dX0_stepsBackTo_78 : decode cX0_stepsBackTo 78 = .ok (.aload_n 0, 1) := by decide +kernel
theorem dX0_stepsBackTo_79 : decode cX0_stepsBackTo 79 = .ok (.getfield 15, 3) := by decide +kernel
theorem dX0_stepsBackTo_82 : decode cX0_stepsBackTo 82 = .ok (.iload 7, 2) := by decide +kernel
theorem dX0_stepsBackTo_84 : decode cX0_stepsBackTo 84 = .ok (.iload 4, 2) := by decide +kernel
theorem dX0_stepsBackTo_86 : decode cX0_stepsBackTo 86 = .ok (.iastore, 1) := by decide +kernel
theorem dX0_stepsBackTo_87 : decode cX0_stepsBackTo 87 = .ok (.lload 5, 2) := by decide +kernel
theorem dX0_stepsBackTo_89 : decode cX0_stepsBackTo 89 = .ok (.lconst 1, 1) := by decide +kernel
theorem dX0_stepsBackTo_90 : decode cX0_stepsBackTo 90 = .ok (.iload 7, 2) := by decide +kernel
theorem dX0_stepsBackTo_92 : decode cX0_stepsBackTo 92 = .ok (.lshl, 1) := by decide +kernel
theorem dX0_stepsBackTo_93 : decode cX0_stepsBackTo 93 = .ok (.lor, 1) := by decide +kernel
theorem dX0_stepsBackTo_94 : decode cX0_stepsBackTo 94 = .ok (.lstore 5, 2) := by decide +kernel
theorem dX0_stepsBackTo_96 : decode cX0_stepsBackTo 96 = .ok (.iinc 7 1, 3) := by decide +kernel
theorem dX0_stepsBackTo_99 : decode cX0_stepsBackTo 99 = .ok (.goto (-52), 3) := by decide +kernel
theorem dX0_stepsBackTo_102 : decode cX0_stepsBackTo 102 = .ok (.lload 5, 2) := by decide +kernel
theorem dX0_stepsBackTo_104 : decode cX0_stepsBackTo 104 = .ok (.lstore_n 2, 1) := by decide +kernel
theorem dX0_stepsBackTo_105 : decode cX0_stepsBackTo 105 = .ok (.iinc 4 1, 3) := by decide +kernel
theorem dX0_stepsBackTo_108 : decode cX0_stepsBackTo 108 = .ok (.goto (-80), 3) := by decide +kernel
theorem dX0_stepsBackTo_111 : decode cX0_stepsBackTo 111 = .ok (.iload_n 1, 1) := by decide +kernel
theorem dX0_stepsBackTo_112 : decode cX0_stepsBackTo 112 = .ok (.ifCond .lt 18, 3) := by decide +kernel
theorem dX0_stepsBackTo_115 : decode cX0_stepsBackTo 115 = .ok (.iload_n 1, 1) := by decide +kernel
theorem dX0_stepsBackTo_116 : decode cX0_stepsBackTo 116 = .ok (.bipush 40, 2) := by decide +kernel
theorem dX0_stepsBackTo_118 : decode cX0_stepsBackTo 118 = .ok (.if_icmp .ge 12, 3) := by decide +kernel
theorem dX0_stepsBackTo_121 : decode cX0_stepsBackTo 121 = .ok (.aload_n 0, 1) := by decide +kernel
theorem dX0_stepsBackTo_122 : decode cX0_stepsBackTo 122 = .ok (.getfield 15, 3) := by decide +kernel
theorem dX0_stepsBackTo_125 : decode cX0_stepsBackTo 125 = .ok (.iload_n 1, 1) := by decide +kernel
theorem dX0_stepsBackTo_126 : decode cX0_stepsBackTo 126 = .ok (.iaload, 1) := by decide +kernel
theorem dX0_stepsBackTo_127 : decode cX0_stepsBackTo 127 = .ok (.goto 4, 3) := by decide +kernel
theorem dX0_stepsBackTo_130 : decode cX0_stepsBackTo 130 = .ok (.iconst 0, 1) := by decide +kernel
theorem dX0_stepsBackTo_131 : decode cX0_stepsBackTo 131 = .ok (.ireturn, 1) := by decide +kernel
theorem dX0_walkRing_0 : decode cX0_walkRing 0 = .ok (.iload_n 1, 1) := by decide +kernel
theorem dX0_walkRing_1 : decode cX0_walkRing 1 = .ok (.istore_n 2, 1) := by decide +kernel
theorem dX0_walkRing_2 : decode cX0_walkRing 2 = .ok (.iconst 0, 1) := by decide +kernel
theorem dX0_walkRing_3 : decode cX0_walkRing 3 = .ok (.istore_n 3, 1) := by decide +kernel
theorem dX0_walkRing_4 : decode cX0_walkRing 4 = .ok (.iload_n 3, 1) := by decide +kernel
theorem dX0_walkRing_5 : decode cX0_walkRing 5 = .ok (.aload_n 0, 1) := by decide +kernel
theorem dX0_walkRing_6 : decode cX0_walkRing 6 = .ok (.getfield 34, 3) := by decide +kernel
theorem dX0_walkRing_9 : decode cX0_walkRing 9 = .ok (.if_icmp .ge 36, 3) := by decide +kernel
theorem dX0_walkRing_12 : decode cX0_walkRing 12 = .ok (.iload_n 3, 1) := by decide +kernel
theorem dX0_walkRing_13 : decode cX0_walkRing 13 = .ok (.bipush 40, 2) := by decide +kernel
theorem dX0_walkRing_15 : decode cX0_walkRing 15 = .ok (.if_icmp .ge 30, 3) := by decide +kernel
theorem dX0_walkRing_18 : decode cX0_walkRing 18 = .ok (.aload_n 0, 1) := by decide +kernel
theorem dX0_walkRing_19 : decode cX0_walkRing 19 = .ok (.getfield 19, 3) := by decide +kernel
theorem dX0_walkRing_22 : decode cX0_walkRing 22 = .ok (.iload_n 3, 1) := by decide +kernel
theorem dX0_walkRing_23 : decode cX0_walkRing 23 = .ok (.iload_n 2, 1) := by decide +kernel
theorem dX0_walkRing_24 : decode cX0_walkRing 24 = .ok (.iastore, 1) := by decide +kernel
theorem dX0_walkRing_25 : decode cX0_walkRing 25 = .ok (.aload_n 0, 1) := by decide +kernel
theorem dX0_walkRing_26 : decode cX0_walkRing 26 = .ok (.iload_n 2, 1) := by decide +kernel
theorem dX0_walkRing_27 : decode cX0_walkRing 27 = .ok (.aload_n 0, 1) := by decide +kernel
theorem dX0_walkRing_28 : decode cX0_walkRing 28 = .ok (.getfield 34, 3) := by decide +kernel
theorem dX0_walkRing_31 : decode cX0_walkRing 31 = .ok (.iload_n 3, 1) := by decide +kernel
theorem dX0_walkRing_32 : decode cX0_walkRing 32 = .ok (.isub, 1) := by decide +kernel
theorem dX0_walkRing_33 : decode cX0_walkRing 33 = .ok (.iconst 1, 1) := by decide +kernel
theorem dX0_walkRing_34 : decode cX0_walkRing 34 = .ok (.isub, 1) := by decide +kernel
theorem dX0_walkRing_35 : decode cX0_walkRing 35 = .ok (.invokevirtual 46, 3) := by decide +kernel
theorem dX0_walkRing_38 : decode cX0_walkRing 38 = .ok (.istore_n 2, 1) := by decide +kernel
theorem dX0_walkRing_39 : decode cX0_walkRing 39 = .ok (.iinc 3 1, 3) := by decide +kernel
theorem dX0_walkRing_42 : decode cX0_walkRing 42 = .ok (.goto (-38), 3) := by decide +kernel
theorem dX0_walkRing_45 : decode cX0_walkRing 45 = .ok (.return_, 1) := by decide +kernel
theorem dX0_leastNext_0 : decode cX0_leastNext 0 = .ok (.iload_n 1, 1) := by decide +kernel
theorem dX0_leastNext_1 : decode cX0_leastNext 1 = .ok (.ifCond .lt 9, 3) := by decide +kernel
theorem dX0_leastNext_4 : decode cX0_leastNext 4 = .ok (.iload_n 1, 1) := by decide +kernel
theorem dX0_leastNext_5 : decode cX0_leastNext 5 = .ok (.bipush 40, 2) := by decide +kernel
theorem dX0_leastNext_7 : decode cX0_leastNext 7 = .ok (.if_icmp .lt 5, 3) := by decide +kernel
theorem dX0_leastNext_10 : decode cX0_leastNext 10 = .ok (.iconst (-1), 1) := by decide +kernel
theorem dX0_leastNext_11 : decode cX0_leastNext 11 = .ok (.ireturn, 1) := by decide +kernel
theorem dX0_leastNext_12 : decode cX0_leastNext 12 = .ok (.iconst 0, 1) := by decide +kernel
theorem dX0_leastNext_13 : decode cX0_leastNext 13 = .ok (.istore_n 3, 1) := by decide +kernel
theorem dX0_leastNext_14 : decode cX0_leastNext 14 = .ok (.iload_n 3, 1) := by decide +kernel
theorem dX0_leastNext_15 : decode cX0_leastNext 15 = .ok (.bipush 40, 2) := by decide +kernel
theorem dX0_leastNext_17 : decode cX0_leastNext 17 = .ok (.if_icmp .ge 36, 3) := by decide +kernel
theorem dX0_leastNext_20 : decode cX0_leastNext 20 = .ok (.aload_n 0, 1) := by decide +kernel
theorem dX0_leastNext_21 : decode cX0_leastNext 21 = .ok (.getfield 9, 3) := by decide +kernel
theorem dX0_leastNext_24 : decode cX0_leastNext 24 = .ok (.iload_n 1, 1) := by decide +kernel
theorem dX0_leastNext_25 : decode cX0_leastNext 25 = .ok (.laload, 1) := by decide +kernel
theorem dX0_leastNext_26 : decode cX0_leastNext 26 = .ok (.iload_n 3, 1) := by decide +kernel
theorem dX0_leastNext_27 : decode cX0_leastNext 27 = .ok (.lshr, 1) := by decide +kernel
theorem dX0_leastNext_28 : decode cX0_leastNext 28 = .ok (.lconst 1, 1) := by decide +kernel
theorem dX0_leastNext_29 : decode cX0_leastNext 29 = .ok (.land, 1) := by decide +kernel
theorem dX0_leastNext_30 : decode cX0_leastNext 30 = .ok (.lconst 0, 1) := by decide +kernel
theorem dX0_leastNext_31 : decode cX0_leastNext 31 = .ok (.lcmp, 1) := by decide +kernel
theorem dX0_leastNext_32 : decode cX0_leastNext 32 = .ok (.ifCond .eq 15, 3) := by decide +kernel
theorem dX0_leastNext_35 : decode cX0_leastNext 35 = .ok (.aload_n 0, 1) := by decide +kernel
theorem dX0_leastNext_36 : decode cX0_leastNext 36 = .ok (.getfield 15, 3) := by decide +kernel
theorem dX0_leastNext_39 : decode cX0_leastNext 39 = .ok (.iload_n 3, 1) := by decide +kernel
theorem dX0_leastNext_40 : decode cX0_leastNext 40 = .ok (.iaload, 1) := by decide +kernel
theorem dX0_leastNext_41 : decode cX0_leastNext 41 = .ok (.iload_n 2, 1) := by decide +kernel
theorem dX0_leastNext_42 : decode cX0_leastNext 42 = .ok (.if_icmp .ne 5, 3) := by decide +kernel
theorem dX0_leastNext_45 : decode cX0_leastNext 45 = .ok (.iload_n 3, 1) := by decide +kernel
theorem dX0_leastNext_46 : decode cX0_leastNext 46 = .ok (.ireturn, 1) := by decide +kernel
theorem dX0_leastNext_47 : decode cX0_leastNext 47 = .ok (.iinc 3 1, 3) := by decide +kernel
theorem dX0_leastNext_50 : decode cX0_leastNext 50 = .ok (.goto (-36), 3) := by decide +kernel
theorem dX0_leastNext_53 : decode cX0_leastNext 53 = .ok (.iconst (-1), 1) := by decide +kernel
theorem dX0_leastNext_54 : decode cX0_leastNext 54 = .ok (.ireturn, 1) := by decide +kernel
theorem dX0_findFewest_0 : decode cX0_findFewest 0 = .ok (.aload_n 0, 1) := by decide +kernel
theorem dX0_findFewest_1 : decode cX0_findFewest 1 = .ok (.invokevirtual 50, 3) := by decide +kernel
theorem dX0_findFewest_4 : decode cX0_findFewest 4 = .ok (.ifCond .ne 7, 3) := by decide +kernel
theorem dX0_findFewest_7 : decode cX0_findFewest 7 = .ok (.ldc2_w 32, 3) := by decide +kernel
theorem dX0_findFewest_10 : decode cX0_findFewest 10 = .ok (.lreturn, 1) := by decide +kernel
theorem dX0_findFewest_11 : decode cX0_findFewest 11 = .ok (.iconst 1, 1) := by decide +kernel
theorem dX0_findFewest_12 : decode cX0_findFewest 12 = .ok (.aload_n 0, 1) := by decide +kernel
theorem dX0_findFewest_13 : decode cX0_findFewest 13 = .ok (.getfield 54, 3) := by decide +kernel
theorem dX0_findFewest_16 : decode cX0_findFewest 16 = .ok (.ishl, 1) := by decide +kernel
theorem dX0_findFewest_17 : decode cX0_findFewest 17 = .ok (.iconst 1, 1) := by decide +kernel
theorem dX0_findFewest_18 : decode cX0_findFewest 18 = .ok (.isub, 1) := by decide +kernel
theorem dX0_findFewest_19 : decode cX0_findFewest 19 = .ok (.istore_n 1, 1) := by decide +kernel
theorem dX0_findFewest_20 : decode cX0_findFewest 20 = .ok (.iconst 0, 1) := by decide +kernel
theorem dX0_findFewest_21 : decode cX0_findFewest 21 = .ok (.istore_n 2, 1) := by decide +kernel
theorem dX0_findFewest_22 : decode cX0_findFewest 22 = .ok (.iload_n 2, 1) := by decide +kernel
theorem dX0_findFewest_23 : decode cX0_findFewest 23 = .ok (.iconst 1, 1) := by decide +kernel
theorem dX0_findFewest_24 : decode cX0_findFewest 24 = .ok (.aload_n 0, 1) := by decide +kernel
theorem dX0_findFewest_25 : decode cX0_findFewest 25 = .ok (.getfield 54, 3) := by decide +kernel
theorem dX0_findFewest_28 : decode cX0_findFewest 28 = .ok (.ishl, 1) := by decide +kernel
theorem dX0_findFewest_29 : decode cX0_findFewest 29 = .ok (.if_icmp .ge 30, 3) := by decide +kernel
theorem dX0_findFewest_32 : decode cX0_findFewest 32 = .ok (.iload_n 2, 1) := by decide +kernel
theorem dX0_findFewest_33 : decode cX0_findFewest 33 = .ok (.invokestatic 57, 3) := by decide +kernel
theorem dX0_findFewest_36 : decode cX0_findFewest 36 = .ok (.iload_n 1, 1) := by decide +kernel
theorem dX0_findFewest_37 : decode cX0_findFewest 37 = .ok (.invokestatic 57, 3) := by decide +kernel
theorem dX0_findFewest_40 : decode cX0_findFewest 40 = .ok (.if_icmp .ge 13, 3) := by decide +kernel
theorem dX0_findFewest_43 : decode cX0_findFewest 43 = .ok (.aload_n 0, 1) := by decide +kernel
theorem dX0_findFewest_44 : decode cX0_findFewest 44 = .ok (.iload_n 2, 1) := by decide +kernel
theorem dX0_findFewest_45 : decode cX0_findFewest 45 = .ok (.invokevirtual 62, 3) := by decide +kernel
theorem dX0_findFewest_48 : decode cX0_findFewest 48 = .ok (.ifCond .eq 5, 3) := by decide +kernel
theorem dX0_findFewest_51 : decode cX0_findFewest 51 = .ok (.iload_n 2, 1) := by decide +kernel
theorem dX0_findFewest_52 : decode cX0_findFewest 52 = .ok (.istore_n 1, 1) := by decide +kernel
theorem dX0_findFewest_53 : decode cX0_findFewest 53 = .ok (.iinc 2 1, 3) := by decide +kernel
theorem dX0_findFewest_56 : decode cX0_findFewest 56 = .ok (.goto (-34), 3) := by decide +kernel
theorem dX0_findFewest_59 : decode cX0_findFewest 59 = .ok (.lconst 0, 1) := by decide +kernel
theorem dX0_findFewest_60 : decode cX0_findFewest 60 = .ok (.lstore_n 2, 1) := by decide +kernel
theorem dX0_findFewest_61 : decode cX0_findFewest 61 = .ok (.iconst 0, 1) := by decide +kernel
theorem dX0_findFewest_62 : decode cX0_findFewest 62 = .ok (.istore 4, 2) := by decide +kernel
theorem dX0_findFewest_64 : decode cX0_findFewest 64 = .ok (.iload 4, 2) := by decide +kernel
theorem dX0_findFewest_66 : decode cX0_findFewest 66 = .ok (.aload_n 0, 1) := by decide +kernel
theorem dX0_findFewest_67 : decode cX0_findFewest 67 = .ok (.getfield 54, 3) := by decide +kernel
theorem dX0_findFewest_70 : decode cX0_findFewest 70 = .ok (.if_icmp .ge 30, 3) := by decide +kernel
theorem dX0_findFewest_73 : decode cX0_findFewest 73 = .ok (.iload_n 1, 1) := by decide +kernel
theorem dX0_findFewest_74 : decode cX0_findFewest 74 = .ok (.iload 4, 2) := by decide +kernel
theorem dX0_findFewest_76 : decode cX0_findFewest 76 = .ok (.ishr, 1) := by decide +kernel
theorem dX0_findFewest_77 : decode cX0_findFewest 77 = .ok (.iconst 1, 1) := by decide +kernel
theorem dX0_findFewest_78 : decode cX0_findFewest 78 = .ok (.iand, 1) := by decide +kernel
theorem dX0_findFewest_79 : decode cX0_findFewest 79 = .ok (.ifCond .eq 15, 3) := by decide +kernel
theorem dX0_findFewest_82 : decode cX0_findFewest 82 = .ok (.lload_n 2, 1) := by decide +kernel
theorem dX0_findFewest_83 : decode cX0_findFewest 83 = .ok (.lconst 1, 1) := by decide +kernel
theorem dX0_findFewest_84 : decode cX0_findFewest 84 = .ok (.aload_n 0, 1) := by decide +kernel
theorem dX0_findFewest_85 : decode cX0_findFewest 85 = .ok (.getfield 22, 3) := by decide +kernel
theorem dX0_findFewest_88 : decode cX0_findFewest 88 = .ok (.iload 4, 2) := by decide +kernel
theorem dX0_findFewest_90 : decode cX0_findFewest 90 = .ok (.iaload, 1) := by decide +kernel
theorem dX0_findFewest_91 : decode cX0_findFewest 91 = .ok (.lshl, 1) := by decide +kernel
theorem dX0_findFewest_92 : decode cX0_findFewest 92 = .ok (.lor, 1) := by decide +kernel
theorem dX0_findFewest_93 : decode cX0_findFewest 93 = .ok (.lstore_n 2, 1) := by decide +kernel
theorem dX0_findFewest_94 : decode cX0_findFewest 94 = .ok (.iinc 4 1, 3) := by decide +kernel
theorem dX0_findFewest_97 : decode cX0_findFewest 97 = .ok (.goto (-33), 3) := by decide +kernel
theorem dX0_findFewest_100 : decode cX0_findFewest 100 = .ok (.lload_n 2, 1) := by decide +kernel
theorem dX0_findFewest_101 : decode cX0_findFewest 101 = .ok (.lreturn, 1) := by decide +kernel
theorem dX0_gatherMembers_0 : decode cX0_gatherMembers 0 = .ok (.lconst 0, 1) := by decide +kernel
theorem dX0_gatherMembers_1 : decode cX0_gatherMembers 1 = .ok (.lstore_n 1, 1) := by decide +kernel
theorem dX0_gatherMembers_2 : decode cX0_gatherMembers 2 = .ok (.iconst 0, 1) := by decide +kernel
theorem dX0_gatherMembers_3 : decode cX0_gatherMembers 3 = .ok (.istore_n 3, 1) := by decide +kernel
theorem dX0_gatherMembers_4 : decode cX0_gatherMembers 4 = .ok (.iload_n 3, 1) := by decide +kernel
theorem dX0_gatherMembers_5 : decode cX0_gatherMembers 5 = .ok (.bipush 40, 2) := by decide +kernel
theorem dX0_gatherMembers_7 : decode cX0_gatherMembers 7 = .ok (.if_icmp .ge 33, 3) := by decide +kernel
theorem dX0_gatherMembers_10 : decode cX0_gatherMembers 10 = .ok (.aload_n 0, 1) := by decide +kernel
theorem dX0_gatherMembers_11 : decode cX0_gatherMembers 11 = .ok (.getfield 9, 3) := by decide +kernel
theorem dX0_gatherMembers_14 : decode cX0_gatherMembers 14 = .ok (.iload_n 3, 1) := by decide +kernel
theorem dX0_gatherMembers_15 : decode cX0_gatherMembers 15 = .ok (.laload, 1) := by decide +kernel
theorem dX0_gatherMembers_16 : decode cX0_gatherMembers 16 = .ok (.lconst 0, 1) := by decide +kernel
theorem dX0_gatherMembers_17 : decode cX0_gatherMembers 17 = .ok (.lcmp, 1) := by decide +kernel
theorem dX0_gatherMembers_18 : decode cX0_gatherMembers 18 = .ok (.ifCond .eq 16, 3) := by decide +kernel
theorem dX0_gatherMembers_21 : decode cX0_gatherMembers 21 = .ok (.lload_n 1, 1) := by decide +kernel
theorem dX0_gatherMembers_22 : decode cX0_gatherMembers 22 = .ok (.aload_n 0, 1) := by decide +kernel
theorem dX0_gatherMembers_23 : decode cX0_gatherMembers 23 = .ok (.getfield 9, 3) := by decide +kernel
theorem dX0_gatherMembers_26 : decode cX0_gatherMembers 26 = .ok (.iload_n 3, 1) := by decide +kernel
theorem dX0_gatherMembers_27 : decode cX0_gatherMembers 27 = .ok (.laload, 1) := by decide +kernel
theorem dX0_gatherMembers_28 : decode cX0_gatherMembers 28 = .ok (.lconst 1, 1) := by decide +kernel
theorem dX0_gatherMembers_29 : decode cX0_gatherMembers 29 = .ok (.iload_n 3, 1) := by decide +kernel
theorem dX0_gatherMembers_30 : decode cX0_gatherMembers 30 = .ok (.lshl, 1) := by decide +kernel
theorem dX0_gatherMembers_31 : decode cX0_gatherMembers 31 = .ok (.lor, 1) := by decide +kernel
theorem dX0_gatherMembers_32 : decode cX0_gatherMembers 32 = .ok (.lor, 1) := by decide +kernel
theorem dX0_gatherMembers_33 : decode cX0_gatherMembers 33 = .ok (.lstore_n 1, 1) := by decide +kernel
theorem dX0_gatherMembers_34 : decode cX0_gatherMembers 34 = .ok (.iinc 3 1, 3) := by decide +kernel
theorem dX0_gatherMembers_37 : decode cX0_gatherMembers 37 = .ok (.goto (-33), 3) := by decide +kernel
theorem dX0_gatherMembers_40 : decode cX0_gatherMembers 40 = .ok (.aload_n 0, 1) := by decide +kernel
theorem dX0_gatherMembers_41 : decode cX0_gatherMembers 41 = .ok (.iconst 0, 1) := by decide +kernel
theorem dX0_gatherMembers_42 : decode cX0_gatherMembers 42 = .ok (.putfield 54, 3) := by decide +kernel
theorem dX0_gatherMembers_45 : decode cX0_gatherMembers 45 = .ok (.lload_n 1, 1) := by decide +kernel
theorem dX0_gatherMembers_46 : decode cX0_gatherMembers 46 = .ok (.invokestatic 66, 3) := by decide +kernel
theorem dX0_gatherMembers_49 : decode cX0_gatherMembers 49 = .ok (.bipush 14, 2) := by decide +kernel
theorem dX0_gatherMembers_51 : decode cX0_gatherMembers 51 = .ok (.if_icmp .le 5, 3) := by decide +kernel
theorem dX0_gatherMembers_54 : decode cX0_gatherMembers 54 = .ok (.iconst 0, 1) := by decide +kernel
theorem dX0_gatherMembers_55 : decode cX0_gatherMembers 55 = .ok (.ireturn, 1) := by decide +kernel
theorem dX0_gatherMembers_56 : decode cX0_gatherMembers 56 = .ok (.iconst 0, 1) := by decide +kernel
theorem dX0_gatherMembers_57 : decode cX0_gatherMembers 57 = .ok (.istore_n 3, 1) := by decide +kernel
theorem dX0_gatherMembers_58 : decode cX0_gatherMembers 58 = .ok (.iload_n 3, 1) := by decide +kernel
theorem dX0_gatherMembers_59 : decode cX0_gatherMembers 59 = .ok (.bipush 40, 2) := by decide +kernel
theorem dX0_gatherMembers_61 : decode cX0_gatherMembers 61 = .ok (.if_icmp .ge 48, 3) := by decide +kernel
theorem dX0_gatherMembers_64 : decode cX0_gatherMembers 64 = .ok (.aload_n 0, 1) := by decide +kernel
theorem dX0_gatherMembers_65 : decode cX0_gatherMembers 65 = .ok (.getfield 54, 3) := by decide +kernel
theorem dX0_gatherMembers_68 : decode cX0_gatherMembers 68 = .ok (.bipush 14, 2) := by decide +kernel
theorem dX0_gatherMembers_70 : decode cX0_gatherMembers 70 = .ok (.if_icmp .ge 39, 3) := by decide +kernel
theorem dX0_gatherMembers_73 : decode cX0_gatherMembers 73 = .ok (.lload_n 1, 1) := by decide +kernel
theorem dX0_gatherMembers_74 : decode cX0_gatherMembers 74 = .ok (.iload_n 3, 1) := by decide +kernel
theorem dX0_gatherMembers_75 : decode cX0_gatherMembers 75 = .ok (.lshr, 1) := by decide +kernel
theorem dX0_gatherMembers_76 : decode cX0_gatherMembers 76 = .ok (.lconst 1, 1) := by decide +kernel
theorem dX0_gatherMembers_77 : decode cX0_gatherMembers 77 = .ok (.land, 1) := by decide +kernel
theorem dX0_gatherMembers_78 : decode cX0_gatherMembers 78 = .ok (.lconst 0, 1) := by decide +kernel
theorem dX0_gatherMembers_79 : decode cX0_gatherMembers 79 = .ok (.lcmp, 1) := by decide +kernel
theorem dX0_gatherMembers_80 : decode cX0_gatherMembers 80 = .ok (.ifCond .eq 23, 3) := by decide +kernel
theorem dX0_gatherMembers_83 : decode cX0_gatherMembers 83 = .ok (.aload_n 0, 1) := by decide +kernel
theorem dX0_gatherMembers_84 : decode cX0_gatherMembers 84 = .ok (.getfield 22, 3) := by decide +kernel
theorem dX0_gatherMembers_87 : decode cX0_gatherMembers 87 = .ok (.aload_n 0, 1) := by decide +kernel
theorem dX0_gatherMembers_88 : decode cX0_gatherMembers 88 = .ok (.getfield 54, 3) := by decide +kernel
theorem dX0_gatherMembers_91 : decode cX0_gatherMembers 91 = .ok (.iload_n 3, 1) := by decide +kernel
theorem dX0_gatherMembers_92 : decode cX0_gatherMembers 92 = .ok (.iastore, 1) := by decide +kernel
theorem dX0_gatherMembers_93 : decode cX0_gatherMembers 93 = .ok (.aload_n 0, 1) := by decide +kernel
theorem dX0_gatherMembers_94 : decode cX0_gatherMembers 94 = .ok (.dup, 1) := by decide +kernel
theorem dX0_gatherMembers_95 : decode cX0_gatherMembers 95 = .ok (.getfield 54, 3) := by decide +kernel
theorem dX0_gatherMembers_98 : decode cX0_gatherMembers 98 = .ok (.iconst 1, 1) := by decide +kernel
theorem dX0_gatherMembers_99 : decode cX0_gatherMembers 99 = .ok (.iadd, 1) := by decide +kernel
theorem dX0_gatherMembers_100 : decode cX0_gatherMembers 100 = .ok (.putfield 54, 3) := by decide +kernel
theorem dX0_gatherMembers_103 : decode cX0_gatherMembers 103 = .ok (.iinc 3 1, 3) := by decide +kernel
theorem dX0_gatherMembers_106 : decode cX0_gatherMembers 106 = .ok (.goto (-48), 3) := by decide +kernel
theorem dX0_gatherMembers_109 : decode cX0_gatherMembers 109 = .ok (.iconst 0, 1) := by decide +kernel
theorem dX0_gatherMembers_110 : decode cX0_gatherMembers 110 = .ok (.istore_n 3, 1) := by decide +kernel
theorem dX0_gatherMembers_111 : decode cX0_gatherMembers 111 = .ok (.iload_n 3, 1) := by decide +kernel
theorem dX0_gatherMembers_112 : decode cX0_gatherMembers 112 = .ok (.aload_n 0, 1) := by decide +kernel
theorem dX0_gatherMembers_113 : decode cX0_gatherMembers 113 = .ok (.getfield 54, 3) := by decide +kernel
theorem dX0_gatherMembers_116 : decode cX0_gatherMembers 116 = .ok (.if_icmp .ge 30, 3) := by decide +kernel
theorem dX0_gatherMembers_119 : decode cX0_gatherMembers 119 = .ok (.aload_n 0, 1) := by decide +kernel
theorem dX0_gatherMembers_120 : decode cX0_gatherMembers 120 = .ok (.getfield 25, 3) := by decide +kernel
theorem dX0_gatherMembers_123 : decode cX0_gatherMembers 123 = .ok (.iload_n 3, 1) := by decide +kernel
theorem dX0_gatherMembers_124 : decode cX0_gatherMembers 124 = .ok (.aload_n 0, 1) := by decide +kernel
theorem dX0_gatherMembers_125 : decode cX0_gatherMembers 125 = .ok (.aload_n 0, 1) := by decide +kernel
theorem dX0_gatherMembers_126 : decode cX0_gatherMembers 126 = .ok (.getfield 9, 3) := by decide +kernel
theorem dX0_gatherMembers_129 : decode cX0_gatherMembers 129 = .ok (.aload_n 0, 1) := by decide +kernel
theorem dX0_gatherMembers_130 : decode cX0_gatherMembers 130 = .ok (.getfield 22, 3) := by decide +kernel
theorem dX0_gatherMembers_133 : decode cX0_gatherMembers 133 = .ok (.iload_n 3, 1) := by decide +kernel
theorem dX0_gatherMembers_134 : decode cX0_gatherMembers 134 = .ok (.iaload, 1) := by decide +kernel
theorem dX0_gatherMembers_135 : decode cX0_gatherMembers 135 = .ok (.laload, 1) := by decide +kernel
theorem dX0_gatherMembers_136 : decode cX0_gatherMembers 136 = .ok (.invokevirtual 71, 3) := by decide +kernel
theorem dX0_gatherMembers_139 : decode cX0_gatherMembers 139 = .ok (.iastore, 1) := by decide +kernel
theorem dX0_gatherMembers_140 : decode cX0_gatherMembers 140 = .ok (.iinc 3 1, 3) := by decide +kernel
theorem dX0_gatherMembers_143 : decode cX0_gatherMembers 143 = .ok (.goto (-32), 3) := by decide +kernel
theorem dX0_gatherMembers_146 : decode cX0_gatherMembers 146 = .ok (.iconst 1, 1) := by decide +kernel
theorem dX0_gatherMembers_147 : decode cX0_gatherMembers 147 = .ok (.ireturn, 1) := by decide +kernel
theorem dX0_membersAmong_0 : decode cX0_membersAmong 0 = .ok (.iconst 0, 1) := by decide +kernel
theorem dX0_membersAmong_1 : decode cX0_membersAmong 1 = .ok (.istore_n 3, 1) := by decide +kernel
theorem dX0_membersAmong_2 : decode cX0_membersAmong 2 = .ok (.iconst 0, 1) := by decide +kernel
theorem dX0_membersAmong_3 : decode cX0_membersAmong 3 = .ok (.istore 4, 2) := by decide +kernel
theorem dX0_membersAmong_5 : decode cX0_membersAmong 5 = .ok (.iload 4, 2) := by decide +kernel
theorem dX0_membersAmong_7 : decode cX0_membersAmong 7 = .ok (.aload_n 0, 1) := by decide +kernel
theorem dX0_membersAmong_8 : decode cX0_membersAmong 8 = .ok (.getfield 54, 3) := by decide +kernel
theorem dX0_membersAmong_11 : decode cX0_membersAmong 11 = .ok (.if_icmp .ge 32, 3) := by decide +kernel
theorem dX0_membersAmong_14 : decode cX0_membersAmong 14 = .ok (.lload_n 1, 1) := by decide +kernel
theorem dX0_membersAmong_15 : decode cX0_membersAmong 15 = .ok (.aload_n 0, 1) := by decide +kernel
theorem dX0_membersAmong_16 : decode cX0_membersAmong 16 = .ok (.getfield 22, 3) := by decide +kernel
theorem dX0_membersAmong_19 : decode cX0_membersAmong 19 = .ok (.iload 4, 2) := by decide +kernel
theorem dX0_membersAmong_21 : decode cX0_membersAmong 21 = .ok (.iaload, 1) := by decide +kernel
theorem dX0_membersAmong_22 : decode cX0_membersAmong 22 = .ok (.lshr, 1) := by decide +kernel
theorem dX0_membersAmong_23 : decode cX0_membersAmong 23 = .ok (.lconst 1, 1) := by decide +kernel
theorem dX0_membersAmong_24 : decode cX0_membersAmong 24 = .ok (.land, 1) := by decide +kernel
theorem dX0_membersAmong_25 : decode cX0_membersAmong 25 = .ok (.lconst 0, 1) := by decide +kernel
theorem dX0_membersAmong_26 : decode cX0_membersAmong 26 = .ok (.lcmp, 1) := by decide +kernel
theorem dX0_membersAmong_27 : decode cX0_membersAmong 27 = .ok (.ifCond .eq 10, 3) := by decide +kernel
theorem dX0_membersAmong_30 : decode cX0_membersAmong 30 = .ok (.iload_n 3, 1) := by decide +kernel
theorem dX0_membersAmong_31 : decode cX0_membersAmong 31 = .ok (.iconst 1, 1) := by decide +kernel
theorem dX0_membersAmong_32 : decode cX0_membersAmong 32 = .ok (.iload 4, 2) := by decide +kernel
theorem dX0_membersAmong_34 : decode cX0_membersAmong 34 = .ok (.ishl, 1) := by decide +kernel
theorem dX0_membersAmong_35 : decode cX0_membersAmong 35 = .ok (.ior, 1) := by decide +kernel
theorem dX0_membersAmong_36 : decode cX0_membersAmong 36 = .ok (.istore_n 3, 1) := by decide +kernel
theorem dX0_membersAmong_37 : decode cX0_membersAmong 37 = .ok (.iinc 4 1, 3) := by decide +kernel
theorem dX0_membersAmong_40 : decode cX0_membersAmong 40 = .ok (.goto (-35), 3) := by decide +kernel
theorem dX0_membersAmong_43 : decode cX0_membersAmong 43 = .ok (.iload_n 3, 1) := by decide +kernel
theorem dX0_membersAmong_44 : decode cX0_membersAmong 44 = .ok (.ireturn, 1) := by decide +kernel
theorem dX0_explainsAll_0 : decode cX0_explainsAll 0 = .ok (.iload_n 1, 1) := by decide +kernel
theorem dX0_explainsAll_1 : decode cX0_explainsAll 1 = .ok (.istore_n 2, 1) := by decide +kernel
theorem dX0_explainsAll_2 : decode cX0_explainsAll 2 = .ok (.iconst 0, 1) := by decide +kernel
theorem dX0_explainsAll_3 : decode cX0_explainsAll 3 = .ok (.istore_n 3, 1) := by decide +kernel
theorem dX0_explainsAll_4 : decode cX0_explainsAll 4 = .ok (.iload_n 3, 1) := by decide +kernel
theorem dX0_explainsAll_5 : decode cX0_explainsAll 5 = .ok (.aload_n 0, 1) := by decide +kernel
theorem dX0_explainsAll_6 : decode cX0_explainsAll 6 = .ok (.getfield 54, 3) := by decide +kernel
theorem dX0_explainsAll_9 : decode cX0_explainsAll 9 = .ok (.if_icmp .ge 70, 3) := by decide +kernel
theorem dX0_explainsAll_12 : decode cX0_explainsAll 12 = .ok (.iload_n 2, 1) := by decide +kernel
theorem dX0_explainsAll_13 : decode cX0_explainsAll 13 = .ok (.istore 4, 2) := by decide +kernel
theorem dX0_explainsAll_15 : decode cX0_explainsAll 15 = .ok (.iconst 0, 1) := by decide +kernel
theorem dX0_explainsAll_16 : decode cX0_explainsAll 16 = .ok (.istore 5, 2) := by decide +kernel
theorem dX0_explainsAll_18 : decode cX0_explainsAll 18 = .ok (.iload 5, 2) := by decide +kernel
theorem dX0_explainsAll_20 : decode cX0_explainsAll 20 = .ok (.aload_n 0, 1) := by decide +kernel
theorem dX0_explainsAll_21 : decode cX0_explainsAll 21 = .ok (.getfield 54, 3) := by decide +kernel
theorem dX0_explainsAll_24 : decode cX0_explainsAll 24 = .ok (.if_icmp .ge 40, 3) := by decide +kernel
theorem dX0_explainsAll_27 : decode cX0_explainsAll 27 = .ok (.aload_n 0, 1) := by decide +kernel
theorem dX0_explainsAll_28 : decode cX0_explainsAll 28 = .ok (.getfield 25, 3) := by decide +kernel
theorem dX0_explainsAll_31 : decode cX0_explainsAll 31 = .ok (.iload 5, 2) := by decide +kernel
theorem dX0_explainsAll_33 : decode cX0_explainsAll 33 = .ok (.iaload, 1) := by decide +kernel
theorem dX0_explainsAll_34 : decode cX0_explainsAll 34 = .ok (.ifCond .eq 24, 3) := by decide +kernel
theorem dX0_explainsAll_37 : decode cX0_explainsAll 37 = .ok (.aload_n 0, 1) := by decide +kernel
theorem dX0_explainsAll_38 : decode cX0_explainsAll 38 = .ok (.getfield 25, 3) := by decide +kernel
theorem dX0_explainsAll_41 : decode cX0_explainsAll 41 = .ok (.iload 5, 2) := by decide +kernel
theorem dX0_explainsAll_43 : decode cX0_explainsAll 43 = .ok (.iaload, 1) := by decide +kernel
theorem dX0_explainsAll_44 : decode cX0_explainsAll 44 = .ok (.iload_n 2, 1) := by decide +kernel
theorem dX0_explainsAll_45 : decode cX0_explainsAll 45 = .ok (.iconst (-1), 1) := by decide +kernel
theorem dX0_explainsAll_46 : decode cX0_explainsAll 46 = .ok (.ixor, 1) := by decide +kernel
theorem dX0_explainsAll_47 : decode cX0_explainsAll 47 = .ok (.iand, 1) := by decide +kernel
theorem dX0_explainsAll_48 : decode cX0_explainsAll 48 = .ok (.ifCond .ne 10, 3) := by decide +kernel
theorem dX0_explainsAll_51 : decode cX0_explainsAll 51 = .ok (.iload_n 2, 1) := by decide +kernel
theorem dX0_explainsAll_52 : decode cX0_explainsAll 52 = .ok (.iconst 1, 1) := by decide +kernel
theorem dX0_explainsAll_53 : decode cX0_explainsAll 53 = .ok (.iload 5, 2) := by decide +kernel
theorem dX0_explainsAll_55 : decode cX0_explainsAll 55 = .ok (.ishl, 1) := by decide +kernel
theorem dX0_explainsAll_56 : decode cX0_explainsAll 56 = .ok (.ior, 1) := by decide +kernel
theorem dX0_explainsAll_57 : decode cX0_explainsAll 57 = .ok (.istore_n 2, 1) := by decide +kernel
theorem dX0_explainsAll_58 : decode cX0_explainsAll 58 = .ok (.iinc 5 1, 3) := by decide +kernel
theorem dX0_explainsAll_61 : decode cX0_explainsAll 61 = .ok (.goto (-43), 3) := by decide +kernel
theorem dX0_explainsAll_64 : decode cX0_explainsAll 64 = .ok (.iload_n 2, 1) := by decide +kernel
theorem dX0_explainsAll_65 : decode cX0_explainsAll 65 = .ok (.iload 4, 2) := by decide +kernel
theorem dX0_explainsAll_67 : decode cX0_explainsAll 67 = .ok (.if_icmp .ne 6, 3) := by decide +kernel
theorem dX0_explainsAll_70 : decode cX0_explainsAll 70 = .ok (.goto 9, 3) := by decide +kernel
theorem dX0_explainsAll_73 : decode cX0_explainsAll 73 = .ok (.iinc 3 1, 3) := by decide +kernel
theorem dX0_explainsAll_76 : decode cX0_explainsAll 76 = .ok (.goto (-72), 3) := by decide +kernel
theorem dX0_explainsAll_79 : decode cX0_explainsAll 79 = .ok (.iload_n 2, 1) := by decide +kernel
theorem dX0_explainsAll_80 : decode cX0_explainsAll 80 = .ok (.iconst 1, 1) := by decide +kernel
theorem dX0_explainsAll_81 : decode cX0_explainsAll 81 = .ok (.aload_n 0, 1) := by decide +kernel
theorem dX0_explainsAll_82 : decode cX0_explainsAll 82 = .ok (.getfield 54, 3) := by decide +kernel
theorem dX0_explainsAll_85 : decode cX0_explainsAll 85 = .ok (.ishl, 1) := by decide +kernel
theorem dX0_explainsAll_86 : decode cX0_explainsAll 86 = .ok (.iconst 1, 1) := by decide +kernel
theorem dX0_explainsAll_87 : decode cX0_explainsAll 87 = .ok (.isub, 1) := by decide +kernel
theorem dX0_explainsAll_88 : decode cX0_explainsAll 88 = .ok (.if_icmp .ne 7, 3) := by decide +kernel
theorem dX0_explainsAll_91 : decode cX0_explainsAll 91 = .ok (.iconst 1, 1) := by decide +kernel
theorem dX0_explainsAll_92 : decode cX0_explainsAll 92 = .ok (.goto 4, 3) := by decide +kernel
theorem dX0_explainsAll_95 : decode cX0_explainsAll 95 = .ok (.iconst 0, 1) := by decide +kernel
theorem dX0_explainsAll_96 : decode cX0_explainsAll 96 = .ok (.ireturn, 1) := by decide +kernel
theorem dX1_init_0 : decode cX1_init 0 = .ok (.aload_n 0, 1) := by decide +kernel
theorem dX1_init_1 : decode cX1_init 1 = .ok (.invokespecial 3, 3) := by decide +kernel
theorem dX1_init_4 : decode cX1_init 4 = .ok (.aload_n 0, 1) := by decide +kernel
theorem dX1_init_5 : decode cX1_init 5 = .ok (.new 9, 3) := by decide +kernel
theorem dX1_init_8 : decode cX1_init 8 = .ok (.dup, 1) := by decide +kernel
theorem dX1_init_9 : decode cX1_init 9 = .ok (.invokespecial 11, 3) := by decide +kernel
theorem dX1_init_12 : decode cX1_init 12 = .ok (.putfield 12, 3) := by decide +kernel
theorem dX1_init_15 : decode cX1_init 15 = .ok (.aload_n 0, 1) := by decide +kernel
theorem dX1_init_16 : decode cX1_init 16 = .ok (.new 9, 3) := by decide +kernel
theorem dX1_init_19 : decode cX1_init 19 = .ok (.dup, 1) := by decide +kernel
theorem dX1_init_20 : decode cX1_init 20 = .ok (.invokespecial 11, 3) := by decide +kernel
theorem dX1_init_23 : decode cX1_init 23 = .ok (.putfield 18, 3) := by decide +kernel
theorem dX1_init_26 : decode cX1_init 26 = .ok (.aload_n 0, 1) := by decide +kernel
theorem dX1_init_27 : decode cX1_init 27 = .ok (.new 9, 3) := by decide +kernel
theorem dX1_init_30 : decode cX1_init 30 = .ok (.dup, 1) := by decide +kernel
theorem dX1_init_31 : decode cX1_init 31 = .ok (.invokespecial 11, 3) := by decide +kernel
theorem dX1_init_34 : decode cX1_init 34 = .ok (.putfield 21, 3) := by decide +kernel
theorem dX1_init_37 : decode cX1_init 37 = .ok (.return_, 1) := by decide +kernel
theorem dX1_endingsHeld_0 : decode cX1_endingsHeld 0 = .ok (.aload_n 0, 1) := by decide +kernel
theorem dX1_endingsHeld_1 : decode cX1_endingsHeld 1 = .ok (.getfield 12, 3) := by decide +kernel
theorem dX1_endingsHeld_4 : decode cX1_endingsHeld 4 = .ok (.invokevirtual 24, 3) := by decide +kernel
theorem dX1_endingsHeld_7 : decode cX1_endingsHeld 7 = .ok (.ireturn, 1) := by decide +kernel
theorem dX1_termsHeld_0 : decode cX1_termsHeld 0 = .ok (.aload_n 0, 1) := by decide +kernel
theorem dX1_termsHeld_1 : decode cX1_termsHeld 1 = .ok (.getfield 18, 3) := by decide +kernel
theorem dX1_termsHeld_4 : decode cX1_termsHeld 4 = .ok (.invokevirtual 24, 3) := by decide +kernel
theorem dX1_termsHeld_7 : decode cX1_termsHeld 7 = .ok (.ireturn, 1) := by decide +kernel
theorem dX1_holdsTerm_0 : decode cX1_holdsTerm 0 = .ok (.iload_n 1, 1) := by decide +kernel
theorem dX1_holdsTerm_1 : decode cX1_holdsTerm 1 = .ok (.ifCond .lt 18, 3) := by decide +kernel
theorem dX1_holdsTerm_4 : decode cX1_holdsTerm 4 = .ok (.iload_n 1, 1) := by decide +kernel
theorem dX1_holdsTerm_5 : decode cX1_holdsTerm 5 = .ok (.aload_n 0, 1) := by decide +kernel
theorem dX1_holdsTerm_6 : decode cX1_holdsTerm 6 = .ok (.getfield 18, 3) := by decide +kernel
theorem dX1_holdsTerm_9 : decode cX1_holdsTerm 9 = .ok (.invokevirtual 24, 3) := by decide +kernel
theorem dX1_holdsTerm_12 : decode cX1_holdsTerm 12 = .ok (.if_icmp .ge 7, 3) := by decide +kernel
theorem dX1_holdsTerm_15 : decode cX1_holdsTerm 15 = .ok (.iconst 1, 1) := by decide +kernel
theorem dX1_holdsTerm_16 : decode cX1_holdsTerm 16 = .ok (.goto 4, 3) := by decide +kernel
theorem dX1_holdsTerm_19 : decode cX1_holdsTerm 19 = .ok (.iconst 0, 1) := by decide +kernel
theorem dX1_holdsTerm_20 : decode cX1_holdsTerm 20 = .ok (.ireturn, 1) := by decide +kernel
theorem dX1_termAt_0 : decode cX1_termAt 0 = .ok (.aload_n 0, 1) := by decide +kernel
theorem dX1_termAt_1 : decode cX1_termAt 1 = .ok (.getfield 18, 3) := by decide +kernel
theorem dX1_termAt_4 : decode cX1_termAt 4 = .ok (.iload_n 1, 1) := by decide +kernel
theorem dX1_termAt_5 : decode cX1_termAt 5 = .ok (.invokevirtual 28, 3) := by decide +kernel
theorem dX1_termAt_8 : decode cX1_termAt 8 = .ok (.checkcast 32, 3) := by decide +kernel
theorem dX1_termAt_11 : decode cX1_termAt 11 = .ok (.areturn, 1) := by decide +kernel
theorem dX1_addEnding_0 : decode cX1_addEnding 0 = .ok (.aload_n 1, 1) := by decide +kernel
theorem dX1_addEnding_1 : decode cX1_addEnding 1 = .ok (.invokevirtual 34, 3) := by decide +kernel
theorem dX1_addEnding_4 : decode cX1_addEnding 4 = .ok (.iconst 1, 1) := by decide +kernel
theorem dX1_addEnding_5 : decode cX1_addEnding 5 = .ok (.if_icmp .ne 7, 3) := by decide +kernel
theorem dX1_addEnding_8 : decode cX1_addEnding 8 = .ok (.iconst 1, 1) := by decide +kernel
theorem dX1_addEnding_9 : decode cX1_addEnding 9 = .ok (.goto 4, 3) := by decide +kernel
theorem dX1_addEnding_12 : decode cX1_addEnding 12 = .ok (.iconst 0, 1) := by decide +kernel
theorem dX1_addEnding_13 : decode cX1_addEnding 13 = .ok (.istore_n 2, 1) := by decide +kernel
theorem dX1_addEnding_14 : decode cX1_addEnding 14 = .ok (.aload_n 0, 1) := by decide +kernel
theorem dX1_addEnding_15 : decode cX1_addEnding 15 = .ok (.getfield 12, 3) := by decide +kernel
theorem dX1_addEnding_18 : decode cX1_addEnding 18 = .ok (.invokevirtual 24, 3) := by decide +kernel
theorem dX1_addEnding_21 : decode cX1_addEnding 21 = .ok (.bipush 6, 2) := by decide +kernel
theorem dX1_addEnding_23 : decode cX1_addEnding 23 = .ok (.if_icmp .ge 15, 3) := by decide +kernel
theorem dX1_addEnding_26 : decode cX1_addEnding 26 = .ok (.iload_n 2, 1) := by decide +kernel
theorem dX1_addEnding_27 : decode cX1_addEnding 27 = .ok (.ifCond .eq 11, 3) := by decide +kernel
theorem dX1_addEnding_30 : decode cX1_addEnding 30 = .ok (.aload_n 1, 1) := by decide +kernel
theorem dX1_addEnding_31 : decode cX1_addEnding 31 = .ok (.invokevirtual 39, 3) := by decide +kernel
theorem dX1_addEnding_34 : decode cX1_addEnding 34 = .ok (.iconst 4, 1) := by decide +kernel
theorem dX1_addEnding_35 : decode cX1_addEnding 35 = .ok (.if_icmp .le 5, 3) := by decide +kernel
theorem dX1_addEnding_38 : decode cX1_addEnding 38 = .ok (.iconst (-1), 1) := by decide +kernel
theorem dX1_addEnding_39 : decode cX1_addEnding 39 = .ok (.ireturn, 1) := by decide +kernel
theorem dX1_addEnding_40 : decode cX1_addEnding 40 = .ok (.aload_n 0, 1) := by decide +kernel
theorem dX1_addEnding_41 : decode cX1_addEnding 41 = .ok (.getfield 12, 3) := by decide +kernel
theorem dX1_addEnding_44 : decode cX1_addEnding 44 = .ok (.aload_n 1, 1) := by decide +kernel
theorem dX1_addEnding_45 : decode cX1_addEnding 45 = .ok (.invokevirtual 40, 3) := by decide +kernel
theorem dX1_addEnding_48 : decode cX1_addEnding 48 = .ok (.invokevirtual 44, 3) := by decide +kernel
theorem dX1_addEnding_51 : decode cX1_addEnding 51 = .ok (.pop, 1) := by decide +kernel
theorem dX1_addEnding_52 : decode cX1_addEnding 52 = .ok (.aload_n 0, 1) := by decide +kernel
theorem dX1_addEnding_53 : decode cX1_addEnding 53 = .ok (.getfield 12, 3) := by decide +kernel
theorem dX1_addEnding_56 : decode cX1_addEnding 56 = .ok (.invokevirtual 24, 3) := by decide +kernel
theorem dX1_addEnding_59 : decode cX1_addEnding 59 = .ok (.iconst 1, 1) := by decide +kernel
theorem dX1_addEnding_60 : decode cX1_addEnding 60 = .ok (.isub, 1) := by decide +kernel
theorem dX1_addEnding_61 : decode cX1_addEnding 61 = .ok (.ireturn, 1) := by decide +kernel
theorem dX1_addTerm_0 : decode cX1_addTerm 0 = .ok (.aload_n 1, 1) := by decide +kernel
theorem dX1_addTerm_1 : decode cX1_addTerm 1 = .ok (.invokevirtual 34, 3) := by decide +kernel
theorem dX1_addTerm_4 : decode cX1_addTerm 4 = .ok (.istore 5, 2) := by decide +kernel
theorem dX1_addTerm_6 : decode cX1_addTerm 6 = .ok (.aload_n 0, 1) := by decide +kernel
theorem dX1_addTerm_7 : decode cX1_addTerm 7 = .ok (.getfield 18, 3) := by decide +kernel
theorem dX1_addTerm_10 : decode cX1_addTerm 10 = .ok (.invokevirtual 24, 3) := by decide +kernel
theorem dX1_addTerm_13 : decode cX1_addTerm 13 = .ok (.bipush 60, 2) := by decide +kernel
theorem dX1_addTerm_15 : decode cX1_addTerm 15 = .ok (.if_icmp .ge 8, 3) := by decide +kernel
theorem dX1_addTerm_18 : decode cX1_addTerm 18 = .ok (.iload 5, 2) := by decide +kernel
theorem dX1_addTerm_20 : decode cX1_addTerm 20 = .ok (.ifCond .ne 5, 3) := by decide +kernel
theorem dX1_addTerm_23 : decode cX1_addTerm 23 = .ok (.iconst (-1), 1) := by decide +kernel
theorem dX1_addTerm_24 : decode cX1_addTerm 24 = .ok (.ireturn, 1) := by decide +kernel
theorem dX1_addTerm_25 : decode cX1_addTerm 25 = .ok (.aload_n 0, 1) := by decide +kernel
theorem dX1_addTerm_26 : decode cX1_addTerm 26 = .ok (.getfield 18, 3) := by decide +kernel
theorem dX1_addTerm_29 : decode cX1_addTerm 29 = .ok (.new 32, 3) := by decide +kernel
theorem dX1_addTerm_32 : decode cX1_addTerm 32 = .ok (.dup, 1) := by decide +kernel
theorem dX1_addTerm_33 : decode cX1_addTerm 33 = .ok (.aload_n 1, 1) := by decide +kernel
theorem dX1_addTerm_34 : decode cX1_addTerm 34 = .ok (.invokevirtual 40, 3) := by decide +kernel
theorem dX1_addTerm_37 : decode cX1_addTerm 37 = .ok (.iload 5, 2) := by decide +kernel
theorem dX1_addTerm_39 : decode cX1_addTerm 39 = .ok (.iload_n 2, 1) := by decide +kernel
theorem dX1_addTerm_40 : decode cX1_addTerm 40 = .ok (.iload_n 3, 1) := by decide +kernel
theorem dX1_addTerm_41 : decode cX1_addTerm 41 = .ok (.iload 4, 2) := by decide +kernel
theorem dX1_addTerm_43 : decode cX1_addTerm 43 = .ok (.invokespecial 48, 3) := by decide +kernel
theorem dX1_addTerm_46 : decode cX1_addTerm 46 = .ok (.invokevirtual 44, 3) := by decide +kernel
theorem dX1_addTerm_49 : decode cX1_addTerm 49 = .ok (.pop, 1) := by decide +kernel
theorem dX1_addTerm_50 : decode cX1_addTerm 50 = .ok (.aload_n 0, 1) := by decide +kernel
theorem dX1_addTerm_51 : decode cX1_addTerm 51 = .ok (.getfield 18, 3) := by decide +kernel
theorem dX1_addTerm_54 : decode cX1_addTerm 54 = .ok (.invokevirtual 24, 3) := by decide +kernel
theorem dX1_addTerm_57 : decode cX1_addTerm 57 = .ok (.iconst 1, 1) := by decide +kernel
theorem dX1_addTerm_58 : decode cX1_addTerm 58 = .ok (.isub, 1) := by decide +kernel
theorem dX1_addTerm_59 : decode cX1_addTerm 59 = .ok (.ireturn, 1) := by decide +kernel
theorem dX1_addNeighbour_0 : decode cX1_addNeighbour 0 = .ok (.aload_n 1, 1) := by decide +kernel
theorem dX1_addNeighbour_1 : decode cX1_addNeighbour 1 = .ok (.invokevirtual 34, 3) := by decide +kernel
theorem dX1_addNeighbour_4 : decode cX1_addNeighbour 4 = .ok (.iconst 1, 1) := by decide +kernel
theorem dX1_addNeighbour_5 : decode cX1_addNeighbour 5 = .ok (.if_icmp .eq 5, 3) := by decide +kernel
theorem dX1_addNeighbour_8 : decode cX1_addNeighbour 8 = .ok (.iconst (-1), 1) := by decide +kernel
theorem dX1_addNeighbour_9 : decode cX1_addNeighbour 9 = .ok (.ireturn, 1) := by decide +kernel
theorem dX1_addNeighbour_10 : decode cX1_addNeighbour 10 = .ok (.iconst 0, 1) := by decide +kernel
theorem dX1_addNeighbour_11 : decode cX1_addNeighbour 11 = .ok (.istore_n 3, 1) := by decide +kernel
theorem dX1_addNeighbour_12 : decode cX1_addNeighbour 12 = .ok (.iconst 0, 1) := by decide +kernel
theorem dX1_addNeighbour_13 : decode cX1_addNeighbour 13 = .ok (.istore 4, 2) := by decide +kernel
theorem dX1_addNeighbour_15 : decode cX1_addNeighbour 15 = .ok (.iload 4, 2) := by decide +kernel
theorem dX1_addNeighbour_17 : decode cX1_addNeighbour 17 = .ok (.aload_n 0, 1) := by decide +kernel
theorem dX1_addNeighbour_18 : decode cX1_addNeighbour 18 = .ok (.getfield 21, 3) := by decide +kernel
theorem dX1_addNeighbour_21 : decode cX1_addNeighbour 21 = .ok (.invokevirtual 24, 3) := by decide +kernel
theorem dX1_addNeighbour_24 : decode cX1_addNeighbour 24 = .ok (.if_icmp .ge 49, 3) := by decide +kernel
theorem dX1_addNeighbour_27 : decode cX1_addNeighbour 27 = .ok (.aload_n 0, 1) := by decide +kernel
theorem dX1_addNeighbour_28 : decode cX1_addNeighbour 28 = .ok (.getfield 21, 3) := by decide +kernel
theorem dX1_addNeighbour_31 : decode cX1_addNeighbour 31 = .ok (.iload 4, 2) := by decide +kernel
theorem dX1_addNeighbour_33 : decode cX1_addNeighbour 33 = .ok (.invokevirtual 28, 3) := by decide +kernel
theorem dX1_addNeighbour_36 : decode cX1_addNeighbour 36 = .ok (.checkcast 51, 3) := by decide +kernel
theorem dX1_addNeighbour_39 : decode cX1_addNeighbour 39 = .ok (.astore 5, 2) := by decide +kernel
theorem dX1_addNeighbour_41 : decode cX1_addNeighbour 41 = .ok (.aload 5, 2) := by decide +kernel
theorem dX1_addNeighbour_43 : decode cX1_addNeighbour 43 = .ok (.getfield 53, 3) := by decide +kernel
theorem dX1_addNeighbour_46 : decode cX1_addNeighbour 46 = .ok (.iload_n 2, 1) := by decide +kernel
theorem dX1_addNeighbour_47 : decode cX1_addNeighbour 47 = .ok (.if_icmp .ne 20, 3) := by decide +kernel
theorem dX1_addNeighbour_50 : decode cX1_addNeighbour 50 = .ok (.aload 5, 2) := by decide +kernel
theorem dX1_addNeighbour_52 : decode cX1_addNeighbour 52 = .ok (.getfield 57, 3) := by decide +kernel
theorem dX1_addNeighbour_55 : decode cX1_addNeighbour 55 = .ok (.aload_n 1, 1) := by decide +kernel
theorem dX1_addNeighbour_56 : decode cX1_addNeighbour 56 = .ok (.invokevirtual 61, 3) := by decide +kernel
theorem dX1_addNeighbour_59 : decode cX1_addNeighbour 59 = .ok (.ifCond .eq 5, 3) := by decide +kernel
theorem dX1_addNeighbour_62 : decode cX1_addNeighbour 62 = .ok (.iconst (-1), 1) := by decide +kernel
theorem dX1_addNeighbour_63 : decode cX1_addNeighbour 63 = .ok (.ireturn, 1) := by decide +kernel
theorem dX1_addNeighbour_64 : decode cX1_addNeighbour 64 = .ok (.iinc 3 1, 3) := by decide +kernel
theorem dX1_addNeighbour_67 : decode cX1_addNeighbour 67 = .ok (.iinc 4 1, 3) := by decide +kernel
theorem dX1_addNeighbour_70 : decode cX1_addNeighbour 70 = .ok (.goto (-55), 3) := by decide +kernel
theorem dX1_addNeighbour_73 : decode cX1_addNeighbour 73 = .ok (.iload_n 3, 1) := by decide +kernel
theorem dX1_addNeighbour_74 : decode cX1_addNeighbour 74 = .ok (.bipush 8, 2) := by decide +kernel
theorem dX1_addNeighbour_76 : decode cX1_addNeighbour 76 = .ok (.if_icmp .lt 5, 3) := by decide +kernel
theorem dX1_addNeighbour_79 : decode cX1_addNeighbour 79 = .ok (.iconst (-1), 1) := by decide +kernel
theorem dX1_addNeighbour_80 : decode cX1_addNeighbour 80 = .ok (.ireturn, 1) := by decide +kernel
theorem dX1_addNeighbour_81 : decode cX1_addNeighbour 81 = .ok (.aload_n 0, 1) := by decide +kernel
theorem dX1_addNeighbour_82 : decode cX1_addNeighbour 82 = .ok (.getfield 21, 3) := by decide +kernel
theorem dX1_addNeighbour_85 : decode cX1_addNeighbour 85 = .ok (.new 51, 3) := by decide +kernel
theorem dX1_addNeighbour_88 : decode cX1_addNeighbour 88 = .ok (.dup, 1) := by decide +kernel
theorem dX1_addNeighbour_89 : decode cX1_addNeighbour 89 = .ok (.aload_n 1, 1) := by decide +kernel
theorem dX1_addNeighbour_90 : decode cX1_addNeighbour 90 = .ok (.invokevirtual 40, 3) := by decide +kernel
theorem dX1_addNeighbour_93 : decode cX1_addNeighbour 93 = .ok (.iload_n 2, 1) := by decide +kernel
theorem dX1_addNeighbour_94 : decode cX1_addNeighbour 94 = .ok (.invokespecial 65, 3) := by decide +kernel
theorem dX1_addNeighbour_97 : decode cX1_addNeighbour 97 = .ok (.invokevirtual 44, 3) := by decide +kernel
theorem dX1_addNeighbour_100 : decode cX1_addNeighbour 100 = .ok (.pop, 1) := by decide +kernel
theorem dX1_addNeighbour_101 : decode cX1_addNeighbour 101 = .ok (.iload_n 3, 1) := by decide +kernel
theorem dX1_addNeighbour_102 : decode cX1_addNeighbour 102 = .ok (.iconst 1, 1) := by decide +kernel
theorem dX1_addNeighbour_103 : decode cX1_addNeighbour 103 = .ok (.iadd, 1) := by decide +kernel
theorem dX1_addNeighbour_104 : decode cX1_addNeighbour 104 = .ok (.ireturn, 1) := by decide +kernel
theorem dX1_thingsNear_0 : decode cX1_thingsNear 0 = .ok (.lconst 0, 1) := by decide +kernel
theorem dX1_thingsNear_1 : decode cX1_thingsNear 1 = .ok (.lstore 4, 2) := by decide +kernel
theorem dX1_thingsNear_3 : decode cX1_thingsNear 3 = .ok (.iconst 0, 1) := by decide +kernel
theorem dX1_thingsNear_4 : decode cX1_thingsNear 4 = .ok (.istore 6, 2) := by decide +kernel
theorem dX1_thingsNear_6 : decode cX1_thingsNear 6 = .ok (.iload 6, 2) := by decide +kernel
theorem dX1_thingsNear_8 : decode cX1_thingsNear 8 = .ok (.aload_n 0, 1) := by decide +kernel
theorem dX1_thingsNear_9 : decode cX1_thingsNear 9 = .ok (.getfield 21, 3) := by decide +kernel
theorem dX1_thingsNear_12 : decode cX1_thingsNear 12 = .ok (.invokevirtual 24, 3) := by decide +kernel
theorem dX1_thingsNear_15 : decode cX1_thingsNear 15 = .ok (.if_icmp .ge 49, 3) := by decide +kernel
theorem dX1_thingsNear_18 : decode cX1_thingsNear 18 = .ok (.aload_n 0, 1) := by decide +kernel
theorem dX1_thingsNear_19 : decode cX1_thingsNear 19 = .ok (.getfield 21, 3) := by decide +kernel
theorem dX1_thingsNear_22 : decode cX1_thingsNear 22 = .ok (.iload 6, 2) := by decide +kernel
theorem dX1_thingsNear_24 : decode cX1_thingsNear 24 = .ok (.invokevirtual 28, 3) := by decide +kernel
theorem dX1_thingsNear_27 : decode cX1_thingsNear 27 = .ok (.checkcast 51, 3) := by decide +kernel
theorem dX1_thingsNear_30 : decode cX1_thingsNear 30 = .ok (.astore 7, 2) := by decide +kernel
theorem dX1_thingsNear_32 : decode cX1_thingsNear 32 = .ok (.aload_n 1, 1) := by decide +kernel
theorem dX1_thingsNear_33 : decode cX1_thingsNear 33 = .ok (.iload_n 2, 1) := by decide +kernel
theorem dX1_thingsNear_34 : decode cX1_thingsNear 34 = .ok (.aload 7, 2) := by decide +kernel
theorem dX1_thingsNear_36 : decode cX1_thingsNear 36 = .ok (.getfield 57, 3) := by decide +kernel
theorem dX1_thingsNear_39 : decode cX1_thingsNear 39 = .ok (.invokevirtual 68, 3) := by decide +kernel
theorem dX1_thingsNear_42 : decode cX1_thingsNear 42 = .ok (.iload_n 3, 1) := by decide +kernel
theorem dX1_thingsNear_43 : decode cX1_thingsNear 43 = .ok (.if_icmp .ne 15, 3) := by decide +kernel
theorem dX1_thingsNear_46 : decode cX1_thingsNear 46 = .ok (.lload 4, 2) := by decide +kernel
theorem dX1_thingsNear_48 : decode cX1_thingsNear 48 = .ok (.lconst 1, 1) := by decide +kernel
theorem dX1_thingsNear_49 : decode cX1_thingsNear 49 = .ok (.aload 7, 2) := by decide +kernel
theorem dX1_thingsNear_51 : decode cX1_thingsNear 51 = .ok (.getfield 53, 3) := by decide +kernel
theorem dX1_thingsNear_54 : decode cX1_thingsNear 54 = .ok (.lshl, 1) := by decide +kernel
theorem dX1_thingsNear_55 : decode cX1_thingsNear 55 = .ok (.lor, 1) := by decide +kernel
theorem dX1_thingsNear_56 : decode cX1_thingsNear 56 = .ok (.lstore 4, 2) := by decide +kernel
theorem dX1_thingsNear_58 : decode cX1_thingsNear 58 = .ok (.iinc 6 1, 3) := by decide +kernel
theorem dX1_thingsNear_61 : decode cX1_thingsNear 61 = .ok (.goto (-55), 3) := by decide +kernel
theorem dX1_thingsNear_64 : decode cX1_thingsNear 64 = .ok (.lload 4, 2) := by decide +kernel
theorem dX1_thingsNear_66 : decode cX1_thingsNear 66 = .ok (.lreturn, 1) := by decide +kernel
theorem dX1_thingsOf_0 : decode cX1_thingsOf 0 = .ok (.lconst 0, 1) := by decide +kernel
theorem dX1_thingsOf_1 : decode cX1_thingsOf 1 = .ok (.lstore_n 3, 1) := by decide +kernel
theorem dX1_thingsOf_2 : decode cX1_thingsOf 2 = .ok (.iconst 0, 1) := by decide +kernel
theorem dX1_thingsOf_3 : decode cX1_thingsOf 3 = .ok (.istore 5, 2) := by decide +kernel
theorem dX1_thingsOf_5 : decode cX1_thingsOf 5 = .ok (.iload 5, 2) := by decide +kernel
theorem dX1_thingsOf_7 : decode cX1_thingsOf 7 = .ok (.aload_n 0, 1) := by decide +kernel
theorem dX1_thingsOf_8 : decode cX1_thingsOf 8 = .ok (.getfield 18, 3) := by decide +kernel
theorem dX1_thingsOf_11 : decode cX1_thingsOf 11 = .ok (.invokevirtual 24, 3) := by decide +kernel
theorem dX1_thingsOf_14 : decode cX1_thingsOf 14 = .ok (.if_icmp .ge 40, 3) := by decide +kernel
theorem dX1_thingsOf_17 : decode cX1_thingsOf 17 = .ok (.lload_n 1, 1) := by decide +kernel
theorem dX1_thingsOf_18 : decode cX1_thingsOf 18 = .ok (.iload 5, 2) := by decide +kernel
theorem dX1_thingsOf_20 : decode cX1_thingsOf 20 = .ok (.lshr, 1) := by decide +kernel
theorem dX1_thingsOf_21 : decode cX1_thingsOf 21 = .ok (.lconst 1, 1) := by decide +kernel
theorem dX1_thingsOf_22 : decode cX1_thingsOf 22 = .ok (.land, 1) := by decide +kernel
theorem dX1_thingsOf_23 : decode cX1_thingsOf 23 = .ok (.lconst 0, 1) := by decide +kernel
theorem dX1_thingsOf_24 : decode cX1_thingsOf 24 = .ok (.lcmp, 1) := by decide +kernel
theorem dX1_thingsOf_25 : decode cX1_thingsOf 25 = .ok (.ifCond .eq 23, 3) := by decide +kernel
theorem dX1_thingsOf_28 : decode cX1_thingsOf 28 = .ok (.lload_n 3, 1) := by decide +kernel
theorem dX1_thingsOf_29 : decode cX1_thingsOf 29 = .ok (.lconst 1, 1) := by decide +kernel
theorem dX1_thingsOf_30 : decode cX1_thingsOf 30 = .ok (.aload_n 0, 1) := by decide +kernel
theorem dX1_thingsOf_31 : decode cX1_thingsOf 31 = .ok (.getfield 18, 3) := by decide +kernel
theorem dX1_thingsOf_34 : decode cX1_thingsOf 34 = .ok (.iload 5, 2) := by decide +kernel
theorem dX1_thingsOf_36 : decode cX1_thingsOf 36 = .ok (.invokevirtual 28, 3) := by decide +kernel
theorem dX1_thingsOf_39 : decode cX1_thingsOf 39 = .ok (.checkcast 32, 3) := by decide +kernel
theorem dX1_thingsOf_42 : decode cX1_thingsOf 42 = .ok (.getfield 72, 3) := by decide +kernel
theorem dX1_thingsOf_45 : decode cX1_thingsOf 45 = .ok (.lshl, 1) := by decide +kernel
theorem dX1_thingsOf_46 : decode cX1_thingsOf 46 = .ok (.lor, 1) := by decide +kernel
theorem dX1_thingsOf_47 : decode cX1_thingsOf 47 = .ok (.lstore_n 3, 1) := by decide +kernel
theorem dX1_thingsOf_48 : decode cX1_thingsOf 48 = .ok (.iinc 5 1, 3) := by decide +kernel
theorem dX1_thingsOf_51 : decode cX1_thingsOf 51 = .ok (.goto (-46), 3) := by decide +kernel
theorem dX1_thingsOf_54 : decode cX1_thingsOf 54 = .ok (.lload_n 3, 1) := by decide +kernel
theorem dX1_thingsOf_55 : decode cX1_thingsOf 55 = .ok (.lreturn, 1) := by decide +kernel
theorem dX1_goodTermOf_0 : decode cX1_goodTermOf 0 = .ok (.iconst 0, 1) := by decide +kernel
theorem dX1_goodTermOf_1 : decode cX1_goodTermOf 1 = .ok (.istore_n 2, 1) := by decide +kernel
theorem dX1_goodTermOf_2 : decode cX1_goodTermOf 2 = .ok (.iload_n 2, 1) := by decide +kernel
theorem dX1_goodTermOf_3 : decode cX1_goodTermOf 3 = .ok (.aload_n 0, 1) := by decide +kernel
theorem dX1_goodTermOf_4 : decode cX1_goodTermOf 4 = .ok (.getfield 18, 3) := by decide +kernel
theorem dX1_goodTermOf_7 : decode cX1_goodTermOf 7 = .ok (.invokevirtual 24, 3) := by decide +kernel
theorem dX1_goodTermOf_10 : decode cX1_goodTermOf 10 = .ok (.if_icmp .ge 38, 3) := by decide +kernel
theorem dX1_goodTermOf_13 : decode cX1_goodTermOf 13 = .ok (.aload_n 0, 1) := by decide +kernel
theorem dX1_goodTermOf_14 : decode cX1_goodTermOf 14 = .ok (.getfield 18, 3) := by decide +kernel
theorem dX1_goodTermOf_17 : decode cX1_goodTermOf 17 = .ok (.iload_n 2, 1) := by decide +kernel
theorem dX1_goodTermOf_18 : decode cX1_goodTermOf 18 = .ok (.invokevirtual 28, 3) := by decide +kernel
theorem dX1_goodTermOf_21 : decode cX1_goodTermOf 21 = .ok (.checkcast 32, 3) := by decide +kernel
theorem dX1_goodTermOf_24 : decode cX1_goodTermOf 24 = .ok (.astore_n 3, 1) := by decide +kernel
theorem dX1_goodTermOf_25 : decode cX1_goodTermOf 25 = .ok (.aload_n 3, 1) := by decide +kernel
theorem dX1_goodTermOf_26 : decode cX1_goodTermOf 26 = .ok (.getfield 72, 3) := by decide +kernel
theorem dX1_goodTermOf_29 : decode cX1_goodTermOf 29 = .ok (.iload_n 1, 1) := by decide +kernel
theorem dX1_goodTermOf_30 : decode cX1_goodTermOf 30 = .ok (.if_icmp .ne 12, 3) := by decide +kernel
theorem dX1_goodTermOf_33 : decode cX1_goodTermOf 33 = .ok (.aload_n 3, 1) := by decide +kernel
theorem dX1_goodTermOf_34 : decode cX1_goodTermOf 34 = .ok (.getfield 73, 3) := by decide +kernel
theorem dX1_goodTermOf_37 : decode cX1_goodTermOf 37 = .ok (.ifCond .ne 5, 3) := by decide +kernel
theorem dX1_goodTermOf_40 : decode cX1_goodTermOf 40 = .ok (.iload_n 2, 1) := by decide +kernel
theorem dX1_goodTermOf_41 : decode cX1_goodTermOf 41 = .ok (.ireturn, 1) := by decide +kernel
theorem dX1_goodTermOf_42 : decode cX1_goodTermOf 42 = .ok (.iinc 2 1, 3) := by decide +kernel
theorem dX1_goodTermOf_45 : decode cX1_goodTermOf 45 = .ok (.goto (-43), 3) := by decide +kernel
theorem dX1_goodTermOf_48 : decode cX1_goodTermOf 48 = .ok (.iconst (-1), 1) := by decide +kernel
theorem dX1_goodTermOf_49 : decode cX1_goodTermOf 49 = .ok (.ireturn, 1) := by decide +kernel
theorem dX1_wayAt_0 : decode cX1_wayAt 0 = .ok (.aload_n 1, 1) := by decide +kernel
theorem dX1_wayAt_1 : decode cX1_wayAt 1 = .ok (.iload_n 2, 1) := by decide +kernel
theorem dX1_wayAt_2 : decode cX1_wayAt 2 = .ok (.aload_n 3, 1) := by decide +kernel
theorem dX1_wayAt_3 : decode cX1_wayAt 3 = .ok (.getfield 76, 3) := by decide +kernel
theorem dX1_wayAt_6 : decode cX1_wayAt 6 = .ok (.invokevirtual 68, 3) := by decide +kernel
theorem dX1_wayAt_9 : decode cX1_wayAt 9 = .ok (.istore 4, 2) := by decide +kernel
theorem dX1_wayAt_11 : decode cX1_wayAt 11 = .ok (.iload 4, 2) := by decide +kernel
theorem dX1_wayAt_13 : decode cX1_wayAt 13 = .ok (.iconst (-1), 1) := by decide +kernel
theorem dX1_wayAt_14 : decode cX1_wayAt 14 = .ok (.if_icmp .ne 6, 3) := by decide +kernel
theorem dX1_wayAt_17 : decode cX1_wayAt 17 = .ok (.bipush (-2), 2) := by decide +kernel
theorem dX1_wayAt_19 : decode cX1_wayAt 19 = .ok (.ireturn, 1) := by decide +kernel
theorem dX1_wayAt_20 : decode cX1_wayAt 20 = .ok (.aload_n 1, 1) := by decide +kernel
theorem dX1_wayAt_21 : decode cX1_wayAt 21 = .ok (.iload 4, 2) := by decide +kernel
theorem dX1_wayAt_23 : decode cX1_wayAt 23 = .ok (.invokevirtual 79, 3) := by decide +kernel
theorem dX1_wayAt_26 : decode cX1_wayAt 26 = .ok (.ifCond .ne 5, 3) := by decide +kernel
theorem dX1_wayAt_29 : decode cX1_wayAt 29 = .ok (.iconst (-1), 1) := by decide +kernel
theorem dX1_wayAt_30 : decode cX1_wayAt 30 = .ok (.ireturn, 1) := by decide +kernel
theorem dX1_wayAt_31 : decode cX1_wayAt 31 = .ok (.iconst 0, 1) := by decide +kernel
theorem dX1_wayAt_32 : decode cX1_wayAt 32 = .ok (.istore 5, 2) := by decide +kernel
theorem dX1_wayAt_34 : decode cX1_wayAt 34 = .ok (.iload 5, 2) := by decide +kernel
theorem dX1_wayAt_36 : decode cX1_wayAt 36 = .ok (.aload_n 0, 1) := by decide +kernel
theorem dX1_wayAt_37 : decode cX1_wayAt 37 = .ok (.getfield 12, 3) := by decide +kernel
theorem dX1_wayAt_40 : decode cX1_wayAt 40 = .ok (.invokevirtual 24, 3) := by decide +kernel
theorem dX1_wayAt_43 : decode cX1_wayAt 43 = .ok (.if_icmp .ge 56, 3) := by decide +kernel
theorem dX1_wayAt_46 : decode cX1_wayAt 46 = .ok (.aload_n 3, 1) := by decide +kernel
theorem dX1_wayAt_47 : decode cX1_wayAt 47 = .ok (.iload 5, 2) := by decide +kernel
theorem dX1_wayAt_49 : decode cX1_wayAt 49 = .ok (.invokevirtual 83, 3) := by decide +kernel
theorem dX1_wayAt_52 : decode cX1_wayAt 52 = .ok (.ifCond .eq 41, 3) := by decide +kernel
theorem dX1_wayAt_55 : decode cX1_wayAt 55 = .ok (.aload_n 1, 1) := by decide +kernel
theorem dX1_wayAt_56 : decode cX1_wayAt 56 = .ok (.iload 4, 2) := by decide +kernel
theorem dX1_wayAt_58 : decode cX1_wayAt 58 = .ok (.aload_n 0, 1) := by decide +kernel
theorem dX1_wayAt_59 : decode cX1_wayAt 59 = .ok (.getfield 12, 3) := by decide +kernel
theorem dX1_wayAt_62 : decode cX1_wayAt 62 = .ok (.iload 5, 2) := by decide +kernel
theorem dX1_wayAt_64 : decode cX1_wayAt 64 = .ok (.invokevirtual 28, 3) := by decide +kernel
theorem dX1_wayAt_67 : decode cX1_wayAt 67 = .ok (.checkcast 35, 3) := by decide +kernel
theorem dX1_wayAt_70 : decode cX1_wayAt 70 = .ok (.invokevirtual 68, 3) := by decide +kernel
theorem dX1_wayAt_73 : decode cX1_wayAt 73 = .ok (.istore 6, 2) := by decide +kernel
theorem dX1_wayAt_75 : decode cX1_wayAt 75 = .ok (.iload 6, 2) := by decide +kernel
theorem dX1_wayAt_77 : decode cX1_wayAt 77 = .ok (.iconst (-1), 1) := by decide +kernel
theorem dX1_wayAt_78 : decode cX1_wayAt 78 = .ok (.if_icmp .eq 15, 3) := by decide +kernel
theorem dX1_wayAt_81 : decode cX1_wayAt 81 = .ok (.aload_n 1, 1) := by decide +kernel
theorem dX1_wayAt_82 : decode cX1_wayAt 82 = .ok (.iload 6, 2) := by decide +kernel
theorem dX1_wayAt_84 : decode cX1_wayAt 84 = .ok (.invokevirtual 79, 3) := by decide +kernel
theorem dX1_wayAt_87 : decode cX1_wayAt 87 = .ok (.ifCond .ne 6, 3) := by decide +kernel
theorem dX1_wayAt_90 : decode cX1_wayAt 90 = .ok (.iload 5, 2) := by decide +kernel
theorem dX1_wayAt_92 : decode cX1_wayAt 92 = .ok (.ireturn, 1) := by decide +kernel
theorem dX1_wayAt_93 : decode cX1_wayAt 93 = .ok (.iinc 5 1, 3) := by decide +kernel
theorem dX1_wayAt_96 : decode cX1_wayAt 96 = .ok (.goto (-62), 3) := by decide +kernel
theorem dX1_wayAt_99 : decode cX1_wayAt 99 = .ok (.bipush (-2), 2) := by decide +kernel
theorem dX1_wayAt_101 : decode cX1_wayAt 101 = .ok (.ireturn, 1) := by decide +kernel
theorem dX1_pushForm_0 : decode cX1_pushForm 0 = .ok (.iconst 0, 1) := by decide +kernel
theorem dX1_pushForm_1 : decode cX1_pushForm 1 = .ok (.istore 4, 2) := by decide +kernel
theorem dX1_pushForm_3 : decode cX1_pushForm 3 = .ok (.iload 4, 2) := by decide +kernel
theorem dX1_pushForm_5 : decode cX1_pushForm 5 = .ok (.aload_n 2, 1) := by decide +kernel
theorem dX1_pushForm_6 : decode cX1_pushForm 6 = .ok (.getfield 76, 3) := by decide +kernel
theorem dX1_pushForm_9 : decode cX1_pushForm 9 = .ok (.invokevirtual 39, 3) := by decide +kernel
theorem dX1_pushForm_12 : decode cX1_pushForm 12 = .ok (.if_icmp .ge 23, 3) := by decide +kernel
theorem dX1_pushForm_15 : decode cX1_pushForm 15 = .ok (.aload_n 1, 1) := by decide +kernel
theorem dX1_pushForm_16 : decode cX1_pushForm 16 = .ok (.aload_n 2, 1) := by decide +kernel
theorem dX1_pushForm_17 : decode cX1_pushForm 17 = .ok (.getfield 76, 3) := by decide +kernel
theorem dX1_pushForm_20 : decode cX1_pushForm 20 = .ok (.iload 4, 2) := by decide +kernel
theorem dX1_pushForm_22 : decode cX1_pushForm 22 = .ok (.invokevirtual 86, 3) := by decide +kernel
theorem dX1_pushForm_25 : decode cX1_pushForm 25 = .ok (.invokevirtual 90, 3) := by decide +kernel
theorem dX1_pushForm_28 : decode cX1_pushForm 28 = .ok (.pop, 1) := by decide +kernel
theorem dX1_pushForm_29 : decode cX1_pushForm 29 = .ok (.iinc 4 1, 3) := by decide +kernel
theorem dX1_pushForm_32 : decode cX1_pushForm 32 = .ok (.goto (-29), 3) := by decide +kernel
theorem dX1_pushForm_35 : decode cX1_pushForm 35 = .ok (.iload_n 3, 1) := by decide +kernel
theorem dX1_pushForm_36 : decode cX1_pushForm 36 = .ok (.ifCond .lt 58, 3) := by decide +kernel
theorem dX1_pushForm_39 : decode cX1_pushForm 39 = .ok (.iload_n 3, 1) := by decide +kernel
theorem dX1_pushForm_40 : decode cX1_pushForm 40 = .ok (.aload_n 0, 1) := by decide +kernel
theorem dX1_pushForm_41 : decode cX1_pushForm 41 = .ok (.getfield 12, 3) := by decide +kernel
theorem dX1_pushForm_44 : decode cX1_pushForm 44 = .ok (.invokevirtual 24, 3) := by decide +kernel
theorem dX1_pushForm_47 : decode cX1_pushForm 47 = .ok (.if_icmp .ge 47, 3) := by decide +kernel
theorem dX1_pushForm_50 : decode cX1_pushForm 50 = .ok (.aload_n 0, 1) := by decide +kernel
theorem dX1_pushForm_51 : decode cX1_pushForm 51 = .ok (.getfield 12, 3) := by decide +kernel
theorem dX1_pushForm_54 : decode cX1_pushForm 54 = .ok (.iload_n 3, 1) := by decide +kernel
theorem dX1_pushForm_55 : decode cX1_pushForm 55 = .ok (.invokevirtual 28, 3) := by decide +kernel
theorem dX1_pushForm_58 : decode cX1_pushForm 58 = .ok (.checkcast 35, 3) := by decide +kernel
theorem dX1_pushForm_61 : decode cX1_pushForm 61 = .ok (.astore 4, 2) := by decide +kernel
theorem dX1_pushForm_63 : decode cX1_pushForm 63 = .ok (.iconst 0, 1) := by decide +kernel
theorem dX1_pushForm_64 : decode cX1_pushForm 64 = .ok (.istore 5, 2) := by decide +kernel
theorem dX1_pushForm_66 : decode cX1_pushForm 66 = .ok (.iload 5, 2) := by decide +kernel
theorem dX1_pushForm_68 : decode cX1_pushForm 68 = .ok (.aload 4, 2) := by decide +kernel
theorem dX1_pushForm_70 : decode cX1_pushForm 70 = .ok (.invokevirtual 39, 3) := by decide +kernel
theorem dX1_pushForm_73 : decode cX1_pushForm 73 = .ok (.if_icmp .ge 21, 3) := by decide +kernel
theorem dX1_pushForm_76 : decode cX1_pushForm 76 = .ok (.aload_n 1, 1) := by decide +kernel
theorem dX1_pushForm_77 : decode cX1_pushForm 77 = .ok (.aload 4, 2) := by decide +kernel
theorem dX1_pushForm_79 : decode cX1_pushForm 79 = .ok (.iload 5, 2) := by decide +kernel
theorem dX1_pushForm_81 : decode cX1_pushForm 81 = .ok (.invokevirtual 86, 3) := by decide +kernel
theorem dX1_pushForm_84 : decode cX1_pushForm 84 = .ok (.invokevirtual 90, 3) := by decide +kernel
theorem dX1_pushForm_87 : decode cX1_pushForm 87 = .ok (.pop, 1) := by decide +kernel
theorem dX1_pushForm_88 : decode cX1_pushForm 88 = .ok (.iinc 5 1, 3) := by decide +kernel
theorem dX1_pushForm_91 : decode cX1_pushForm 91 = .ok (.goto (-25), 3) := by decide +kernel
theorem dX1_pushForm_94 : decode cX1_pushForm 94 = .ok (.return_, 1) := by decide +kernel
theorem dX2_init_0 : decode cX2_init 0 = .ok (.aload_n 0, 1) := by decide +kernel
theorem dX2_init_1 : decode cX2_init 1 = .ok (.invokespecial 3, 3) := by decide +kernel
theorem dX2_init_4 : decode cX2_init 4 = .ok (.aload_n 0, 1) := by decide +kernel
theorem dX2_init_5 : decode cX2_init 5 = .ok (.new 9, 3) := by decide +kernel
theorem dX2_init_8 : decode cX2_init 8 = .ok (.dup, 1) := by decide +kernel
theorem dX2_init_9 : decode cX2_init 9 = .ok (.bipush 44, 2) := by decide +kernel
theorem dX2_init_11 : decode cX2_init 11 = .ok (.invokespecial 11, 3) := by decide +kernel
theorem dX2_init_14 : decode cX2_init 14 = .ok (.putfield 14, 3) := by decide +kernel
theorem dX2_init_17 : decode cX2_init 17 = .ok (.aload_n 0, 1) := by decide +kernel
theorem dX2_init_18 : decode cX2_init 18 = .ok (.aload_n 1, 1) := by decide +kernel
theorem dX2_init_19 : decode cX2_init 19 = .ok (.putfield 20, 3) := by decide +kernel
theorem dX2_init_22 : decode cX2_init 22 = .ok (.return_, 1) := by decide +kernel
theorem dX2_mendsEver_0 : decode cX2_mendsEver 0 = .ok (.aload_n 0, 1) := by decide +kernel
theorem dX2_mendsEver_1 : decode cX2_mendsEver 1 = .ok (.getfield 24, 3) := by decide +kernel
theorem dX2_mendsEver_4 : decode cX2_mendsEver 4 = .ok (.ireturn, 1) := by decide +kernel
theorem dX2_mendsFirst_0 : decode cX2_mendsFirst 0 = .ok (.iconst 0, 1) := by decide +kernel
theorem dX2_mendsFirst_1 : decode cX2_mendsFirst 1 = .ok (.istore_n 3, 1) := by decide +kernel
theorem dX2_mendsFirst_2 : decode cX2_mendsFirst 2 = .ok (.iload_n 3, 1) := by decide +kernel
theorem dX2_mendsFirst_3 : decode cX2_mendsFirst 3 = .ok (.aload_n 2, 1) := by decide +kernel
theorem dX2_mendsFirst_4 : decode cX2_mendsFirst 4 = .ok (.invokevirtual 28, 3) := by decide +kernel
theorem dX2_mendsFirst_7 : decode cX2_mendsFirst 7 = .ok (.if_icmp .ge 21, 3) := by decide +kernel
theorem dX2_mendsFirst_10 : decode cX2_mendsFirst 10 = .ok (.aload_n 0, 1) := by decide +kernel
theorem dX2_mendsFirst_11 : decode cX2_mendsFirst 11 = .ok (.aload_n 1, 1) := by decide +kernel
theorem dX2_mendsFirst_12 : decode cX2_mendsFirst 12 = .ok (.aload_n 2, 1) := by decide +kernel
theorem dX2_mendsFirst_13 : decode cX2_mendsFirst 13 = .ok (.iload_n 3, 1) := by decide +kernel
theorem dX2_mendsFirst_14 : decode cX2_mendsFirst 14 = .ok (.invokevirtual 34, 3) := by decide +kernel
theorem dX2_mendsFirst_17 : decode cX2_mendsFirst 17 = .ok (.ifCond .eq 5, 3) := by decide +kernel
theorem dX2_mendsFirst_20 : decode cX2_mendsFirst 20 = .ok (.iconst 1, 1) := by decide +kernel
theorem dX2_mendsFirst_21 : decode cX2_mendsFirst 21 = .ok (.ireturn, 1) := by decide +kernel
theorem dX2_mendsFirst_22 : decode cX2_mendsFirst 22 = .ok (.iinc 3 1, 3) := by decide +kernel
theorem dX2_mendsFirst_25 : decode cX2_mendsFirst 25 = .ok (.goto (-23), 3) := by decide +kernel
theorem dX2_mendsFirst_28 : decode cX2_mendsFirst 28 = .ok (.iconst 0, 1) := by decide +kernel
theorem dX2_mendsFirst_29 : decode cX2_mendsFirst 29 = .ok (.ireturn, 1) := by decide +kernel
theorem dX2_mendsUse_0 : decode cX2_mendsUse 0 = .ok (.aload_n 2, 1) := by decide +kernel
theorem dX2_mendsUse_1 : decode cX2_mendsUse 1 = .ok (.iload_n 3, 1) := by decide +kernel
theorem dX2_mendsUse_2 : decode cX2_mendsUse 2 = .ok (.invokevirtual 38, 3) := by decide +kernel
theorem dX2_mendsUse_5 : decode cX2_mendsUse 5 = .ok (.istore 4, 2) := by decide +kernel
theorem dX2_mendsUse_7 : decode cX2_mendsUse 7 = .ok (.aload_n 0, 1) := by decide +kernel
theorem dX2_mendsUse_8 : decode cX2_mendsUse 8 = .ok (.getfield 20, 3) := by decide +kernel
theorem dX2_mendsUse_11 : decode cX2_mendsUse 11 = .ok (.iload 4, 2) := by decide +kernel
theorem dX2_mendsUse_13 : decode cX2_mendsUse 13 = .ok (.invokevirtual 42, 3) := by decide +kernel
theorem dX2_mendsUse_16 : decode cX2_mendsUse 16 = .ok (.ifCond .ne 5, 3) := by decide +kernel
theorem dX2_mendsUse_19 : decode cX2_mendsUse 19 = .ok (.iconst 0, 1) := by decide +kernel
theorem dX2_mendsUse_20 : decode cX2_mendsUse 20 = .ok (.ireturn, 1) := by decide +kernel
theorem dX2_mendsUse_21 : decode cX2_mendsUse 21 = .ok (.aload_n 0, 1) := by decide +kernel
theorem dX2_mendsUse_22 : decode cX2_mendsUse 22 = .ok (.getfield 20, 3) := by decide +kernel
theorem dX2_mendsUse_25 : decode cX2_mendsUse 25 = .ok (.iload 4, 2) := by decide +kernel
theorem dX2_mendsUse_27 : decode cX2_mendsUse 27 = .ok (.invokevirtual 48, 3) := by decide +kernel
theorem dX2_mendsUse_30 : decode cX2_mendsUse 30 = .ok (.astore 5, 2) := by decide +kernel
theorem dX2_mendsUse_32 : decode cX2_mendsUse 32 = .ok (.aload_n 0, 1) := by decide +kernel
theorem dX2_mendsUse_33 : decode cX2_mendsUse 33 = .ok (.getfield 20, 3) := by decide +kernel
theorem dX2_mendsUse_36 : decode cX2_mendsUse 36 = .ok (.aload 5, 2) := by decide +kernel
theorem dX2_mendsUse_38 : decode cX2_mendsUse 38 = .ok (.getfield 52, 3) := by decide +kernel
theorem dX2_mendsUse_41 : decode cX2_mendsUse 41 = .ok (.invokevirtual 57, 3) := by decide +kernel
theorem dX2_mendsUse_44 : decode cX2_mendsUse 44 = .ok (.istore 6, 2) := by decide +kernel
theorem dX2_mendsUse_46 : decode cX2_mendsUse 46 = .ok (.aload 5, 2) := by decide +kernel
theorem dX2_mendsUse_48 : decode cX2_mendsUse 48 = .ok (.getfield 60, 3) := by decide +kernel
theorem dX2_mendsUse_51 : decode cX2_mendsUse 51 = .ok (.iconst 1, 1) := by decide +kernel
theorem dX2_mendsUse_52 : decode cX2_mendsUse 52 = .ok (.if_icmp .eq 12, 3) := by decide +kernel
theorem dX2_mendsUse_55 : decode cX2_mendsUse 55 = .ok (.aload 5, 2) := by decide +kernel
theorem dX2_mendsUse_57 : decode cX2_mendsUse 57 = .ok (.getfield 60, 3) := by decide +kernel
theorem dX2_mendsUse_60 : decode cX2_mendsUse 60 = .ok (.iconst 3, 1) := by decide +kernel
theorem dX2_mendsUse_61 : decode cX2_mendsUse 61 = .ok (.if_icmp .ne 7, 3) := by decide +kernel
theorem dX2_mendsUse_64 : decode cX2_mendsUse 64 = .ok (.iconst 1, 1) := by decide +kernel
theorem dX2_mendsUse_65 : decode cX2_mendsUse 65 = .ok (.goto 4, 3) := by decide +kernel
theorem dX2_mendsUse_68 : decode cX2_mendsUse 68 = .ok (.iconst 0, 1) := by decide +kernel
theorem dX2_mendsUse_69 : decode cX2_mendsUse 69 = .ok (.istore 7, 2) := by decide +kernel
theorem dX2_mendsUse_71 : decode cX2_mendsUse 71 = .ok (.iload 7, 2) := by decide +kernel
theorem dX2_mendsUse_73 : decode cX2_mendsUse 73 = .ok (.ifCond .eq 15, 3) := by decide +kernel
theorem dX2_mendsUse_76 : decode cX2_mendsUse 76 = .ok (.aload_n 0, 1) := by decide +kernel
theorem dX2_mendsUse_77 : decode cX2_mendsUse 77 = .ok (.getfield 20, 3) := by decide +kernel
theorem dX2_mendsUse_80 : decode cX2_mendsUse 80 = .ok (.iload 6, 2) := by decide +kernel
theorem dX2_mendsUse_82 : decode cX2_mendsUse 82 = .ok (.invokevirtual 42, 3) := by decide +kernel
theorem dX2_mendsUse_85 : decode cX2_mendsUse 85 = .ok (.ifCond .ne 5, 3) := by decide +kernel
theorem dX2_mendsUse_88 : decode cX2_mendsUse 88 = .ok (.iconst 0, 1) := by decide +kernel
theorem dX2_mendsUse_89 : decode cX2_mendsUse 89 = .ok (.ireturn, 1) := by decide +kernel
theorem dX2_mendsUse_90 : decode cX2_mendsUse 90 = .ok (.aload_n 0, 1) := by decide +kernel
theorem dX2_mendsUse_91 : decode cX2_mendsUse 91 = .ok (.getfield 20, 3) := by decide +kernel
theorem dX2_mendsUse_94 : decode cX2_mendsUse 94 = .ok (.iload 6, 2) := by decide +kernel
theorem dX2_mendsUse_96 : decode cX2_mendsUse 96 = .ok (.invokevirtual 48, 3) := by decide +kernel
theorem dX2_mendsUse_99 : decode cX2_mendsUse 99 = .ok (.astore 8, 2) := by decide +kernel
theorem dX2_mendsUse_101 : decode cX2_mendsUse 101 = .ok (.aload_n 2, 1) := by decide +kernel
theorem dX2_mendsUse_102 : decode cX2_mendsUse 102 = .ok (.iload_n 3, 1) := by decide +kernel
theorem dX2_mendsUse_103 : decode cX2_mendsUse 103 = .ok (.invokevirtual 63, 3) := by decide +kernel
theorem dX2_mendsUse_106 : decode cX2_mendsUse 106 = .ok (.istore 9, 2) := by decide +kernel
theorem dX2_mendsUse_108 : decode cX2_mendsUse 108 = .ok (.iload 9, 2) := by decide +kernel
theorem dX2_mendsUse_110 : decode cX2_mendsUse 110 = .ok (.iconst (-1), 1) := by decide +kernel
theorem dX2_mendsUse_111 : decode cX2_mendsUse 111 = .ok (.if_icmp .eq 15, 3) := by decide +kernel
theorem dX2_mendsUse_114 : decode cX2_mendsUse 114 = .ok (.aload 8, 2) := by decide +kernel
theorem dX2_mendsUse_116 : decode cX2_mendsUse 116 = .ok (.iload 9, 2) := by decide +kernel
theorem dX2_mendsUse_118 : decode cX2_mendsUse 118 = .ok (.invokevirtual 66, 3) := by decide +kernel
theorem dX2_mendsUse_121 : decode cX2_mendsUse 121 = .ok (.ifCond .ne 5, 3) := by decide +kernel
theorem dX2_mendsUse_124 : decode cX2_mendsUse 124 = .ok (.iconst 0, 1) := by decide +kernel
theorem dX2_mendsUse_125 : decode cX2_mendsUse 125 = .ok (.ireturn, 1) := by decide +kernel
theorem dX2_mendsUse_126 : decode cX2_mendsUse 126 = .ok (.aload_n 2, 1) := by decide +kernel
theorem dX2_mendsUse_127 : decode cX2_mendsUse 127 = .ok (.iload_n 3, 1) := by decide +kernel
theorem dX2_mendsUse_128 : decode cX2_mendsUse 128 = .ok (.invokevirtual 69, 3) := by decide +kernel
theorem dX2_mendsUse_131 : decode cX2_mendsUse 131 = .ok (.istore 10, 2) := by decide +kernel
theorem dX2_mendsUse_133 : decode cX2_mendsUse 133 = .ok (.aload_n 2, 1) := by decide +kernel
theorem dX2_mendsUse_134 : decode cX2_mendsUse 134 = .ok (.iload_n 3, 1) := by decide +kernel
theorem dX2_mendsUse_135 : decode cX2_mendsUse 135 = .ok (.invokevirtual 72, 3) := by decide +kernel
theorem dX2_mendsUse_138 : decode cX2_mendsUse 138 = .ok (.istore 11, 2) := by decide +kernel
theorem dX2_mendsUse_140 : decode cX2_mendsUse 140 = .ok (.aload_n 0, 1) := by decide +kernel
theorem dX2_mendsUse_141 : decode cX2_mendsUse 141 = .ok (.getfield 14, 3) := by decide +kernel
theorem dX2_mendsUse_144 : decode cX2_mendsUse 144 = .ok (.iconst 0, 1) := by decide +kernel
theorem dX2_mendsUse_145 : decode cX2_mendsUse 145 = .ok (.invokevirtual 75, 3) := by decide +kernel
theorem dX2_mendsUse_148 : decode cX2_mendsUse 148 = .ok (.aload_n 0, 1) := by decide +kernel
theorem dX2_mendsUse_149 : decode cX2_mendsUse 149 = .ok (.getfield 20, 3) := by decide +kernel
theorem dX2_mendsUse_152 : decode cX2_mendsUse 152 = .ok (.aload_n 0, 1) := by decide +kernel
theorem dX2_mendsUse_153 : decode cX2_mendsUse 153 = .ok (.getfield 14, 3) := by decide +kernel
theorem dX2_mendsUse_156 : decode cX2_mendsUse 156 = .ok (.aload 8, 2) := by decide +kernel
theorem dX2_mendsUse_158 : decode cX2_mendsUse 158 = .ok (.iload 9, 2) := by decide +kernel
theorem dX2_mendsUse_160 : decode cX2_mendsUse 160 = .ok (.invokevirtual 78, 3) := by decide +kernel
theorem dX2_mendsUse_163 : decode cX2_mendsUse 163 = .ok (.aload_n 0, 1) := by decide +kernel
theorem dX2_mendsUse_164 : decode cX2_mendsUse 164 = .ok (.getfield 14, 3) := by decide +kernel
theorem dX2_mendsUse_167 : decode cX2_mendsUse 167 = .ok (.aload_n 0, 1) := by decide +kernel
theorem dX2_mendsUse_168 : decode cX2_mendsUse 168 = .ok (.aload_n 1, 1) := by decide +kernel
theorem dX2_mendsUse_169 : decode cX2_mendsUse 169 = .ok (.iload 10, 2) := by decide +kernel
theorem dX2_mendsUse_171 : decode cX2_mendsUse 171 = .ok (.iload 11, 2) := by decide +kernel
theorem dX2_mendsUse_173 : decode cX2_mendsUse 173 = .ok (.invokevirtual 82, 3) := by decide +kernel
theorem dX2_mendsUse_176 : decode cX2_mendsUse 176 = .ok (.invokevirtual 86, 3) := by decide +kernel
theorem dX2_mendsUse_179 : decode cX2_mendsUse 179 = .ok (.aload_n 1, 1) := by decide +kernel
theorem dX2_mendsUse_180 : decode cX2_mendsUse 180 = .ok (.iload 10, 2) := by decide +kernel
theorem dX2_mendsUse_182 : decode cX2_mendsUse 182 = .ok (.iload 11, 2) := by decide +kernel
theorem dX2_mendsUse_184 : decode cX2_mendsUse 184 = .ok (.aload_n 0, 1) := by decide +kernel
theorem dX2_mendsUse_185 : decode cX2_mendsUse 185 = .ok (.getfield 14, 3) := by decide +kernel
theorem dX2_mendsUse_188 : decode cX2_mendsUse 188 = .ok (.invokevirtual 89, 3) := by decide +kernel
theorem dX2_mendsUse_191 : decode cX2_mendsUse 191 = .ok (.ifCond .ne 5, 3) := by decide +kernel
theorem dX2_mendsUse_194 : decode cX2_mendsUse 194 = .ok (.iconst 0, 1) := by decide +kernel
theorem dX2_mendsUse_195 : decode cX2_mendsUse 195 = .ok (.ireturn, 1) := by decide +kernel
theorem dX2_mendsUse_196 : decode cX2_mendsUse 196 = .ok (.aload_n 0, 1) := by decide +kernel
theorem dX2_mendsUse_197 : decode cX2_mendsUse 197 = .ok (.dup, 1) := by decide +kernel
theorem dX2_mendsUse_198 : decode cX2_mendsUse 198 = .ok (.getfield 24, 3) := by decide +kernel
theorem dX2_mendsUse_201 : decode cX2_mendsUse 201 = .ok (.iconst 1, 1) := by decide +kernel
theorem dX2_mendsUse_202 : decode cX2_mendsUse 202 = .ok (.iadd, 1) := by decide +kernel
theorem dX2_mendsUse_203 : decode cX2_mendsUse 203 = .ok (.putfield 24, 3) := by decide +kernel
theorem dX2_mendsUse_206 : decode cX2_mendsUse 206 = .ok (.iconst 1, 1) := by decide +kernel
theorem dX2_mendsUse_207 : decode cX2_mendsUse 207 = .ok (.ireturn, 1) := by decide +kernel
theorem dX2_greatBytes_0 : decode cX2_greatBytes 0 = .ok (.iconst 0, 1) := by decide +kernel
theorem dX2_greatBytes_1 : decode cX2_greatBytes 1 = .ok (.istore 4, 2) := by decide +kernel
theorem dX2_greatBytes_3 : decode cX2_greatBytes 3 = .ok (.iconst 0, 1) := by decide +kernel
theorem dX2_greatBytes_4 : decode cX2_greatBytes 4 = .ok (.istore 5, 2) := by decide +kernel
theorem dX2_greatBytes_6 : decode cX2_greatBytes 6 = .ok (.iload_n 2, 1) := by decide +kernel
theorem dX2_greatBytes_7 : decode cX2_greatBytes 7 = .ok (.istore 6, 2) := by decide +kernel
theorem dX2_greatBytes_9 : decode cX2_greatBytes 9 = .ok (.iload 6, 2) := by decide +kernel
theorem dX2_greatBytes_11 : decode cX2_greatBytes 11 = .ok (.iload_n 3, 1) := by decide +kernel
theorem dX2_greatBytes_12 : decode cX2_greatBytes 12 = .ok (.if_icmp .ge 36, 3) := by decide +kernel
theorem dX2_greatBytes_15 : decode cX2_greatBytes 15 = .ok (.aload_n 1, 1) := by decide +kernel
theorem dX2_greatBytes_16 : decode cX2_greatBytes 16 = .ok (.iload 6, 2) := by decide +kernel
theorem dX2_greatBytes_18 : decode cX2_greatBytes 18 = .ok (.invokevirtual 93, 3) := by decide +kernel
theorem dX2_greatBytes_21 : decode cX2_greatBytes 21 = .ok (.ifCond .eq 21, 3) := by decide +kernel
theorem dX2_greatBytes_24 : decode cX2_greatBytes 24 = .ok (.iinc 4 1, 3) := by decide +kernel
theorem dX2_greatBytes_27 : decode cX2_greatBytes 27 = .ok (.aload_n 1, 1) := by decide +kernel
theorem dX2_greatBytes_28 : decode cX2_greatBytes 28 = .ok (.iload 6, 2) := by decide +kernel
theorem dX2_greatBytes_30 : decode cX2_greatBytes 30 = .ok (.invokevirtual 96, 3) := by decide +kernel
theorem dX2_greatBytes_33 : decode cX2_greatBytes 33 = .ok (.invokestatic 99, 3) := by decide +kernel
theorem dX2_greatBytes_36 : decode cX2_greatBytes 36 = .ok (.ifCond .eq 6, 3) := by decide +kernel
theorem dX2_greatBytes_39 : decode cX2_greatBytes 39 = .ok (.iinc 5 1, 3) := by decide +kernel
theorem dX2_greatBytes_42 : decode cX2_greatBytes 42 = .ok (.iinc 6 1, 3) := by decide +kernel
theorem dX2_greatBytes_45 : decode cX2_greatBytes 45 = .ok (.goto (-36), 3) := by decide +kernel
theorem dX2_greatBytes_48 : decode cX2_greatBytes 48 = .ok (.iload 4, 2) := by decide +kernel
theorem dX2_greatBytes_50 : decode cX2_greatBytes 50 = .ok (.iconst 2, 1) := by decide +kernel
theorem dX2_greatBytes_51 : decode cX2_greatBytes 51 = .ok (.if_icmp .lt 18, 3) := by decide +kernel
theorem dX2_greatBytes_54 : decode cX2_greatBytes 54 = .ok (.iload 5, 2) := by decide +kernel
theorem dX2_greatBytes_56 : decode cX2_greatBytes 56 = .ok (.iload 4, 2) := by decide +kernel
theorem dX2_greatBytes_58 : decode cX2_greatBytes 58 = .ok (.if_icmp .ne 11, 3) := by decide +kernel
theorem dX2_greatBytes_61 : decode cX2_greatBytes 61 = .ok (.aload_n 0, 1) := by decide +kernel
theorem dX2_greatBytes_62 : decode cX2_greatBytes 62 = .ok (.getfield 14, 3) := by decide +kernel
theorem dX2_greatBytes_65 : decode cX2_greatBytes 65 = .ok (.invokevirtual 102, 3) := by decide +kernel
theorem dX2_greatBytes_68 : decode cX2_greatBytes 68 = .ok (.ireturn, 1) := by decide +kernel
theorem dX2_greatBytes_69 : decode cX2_greatBytes 69 = .ok (.aload_n 1, 1) := by decide +kernel
theorem dX2_greatBytes_70 : decode cX2_greatBytes 70 = .ok (.iload_n 2, 1) := by decide +kernel
theorem dX2_greatBytes_71 : decode cX2_greatBytes 71 = .ok (.invokevirtual 96, 3) := by decide +kernel
theorem dX2_greatBytes_74 : decode cX2_greatBytes 74 = .ok (.invokestatic 99, 3) := by decide +kernel
theorem dX2_greatBytes_77 : decode cX2_greatBytes 77 = .ok (.ifCond .eq 7, 3) := by decide +kernel
theorem dX2_greatBytes_80 : decode cX2_greatBytes 80 = .ok (.iconst 1, 1) := by decide +kernel
theorem dX2_greatBytes_81 : decode cX2_greatBytes 81 = .ok (.goto 4, 3) := by decide +kernel
theorem dX2_greatBytes_84 : decode cX2_greatBytes 84 = .ok (.iconst 0, 1) := by decide +kernel
theorem dX2_greatBytes_85 : decode cX2_greatBytes 85 = .ok (.ireturn, 1) := by decide +kernel
theorem dX3_init_0 : decode cX3_init 0 = .ok (.aload_n 0, 1) := by decide +kernel
theorem dX3_init_1 : decode cX3_init 1 = .ok (.invokespecial 1, 3) := by decide +kernel
theorem dX3_init_4 : decode cX3_init 4 = .ok (.aload_n 0, 1) := by decide +kernel
theorem dX3_init_5 : decode cX3_init 5 = .ok (.aload_n 1, 1) := by decide +kernel
theorem dX3_init_6 : decode cX3_init 6 = .ok (.putfield 7, 3) := by decide +kernel
theorem dX3_init_9 : decode cX3_init 9 = .ok (.aload_n 0, 1) := by decide +kernel
theorem dX3_init_10 : decode cX3_init 10 = .ok (.iload_n 2, 1) := by decide +kernel
theorem dX3_init_11 : decode cX3_init 11 = .ok (.putfield 13, 3) := by decide +kernel
theorem dX3_init_14 : decode cX3_init 14 = .ok (.return_, 1) := by decide +kernel
theorem dX4_init_0 : decode cX4_init 0 = .ok (.aload_n 0, 1) := by decide +kernel
theorem dX4_init_1 : decode cX4_init 1 = .ok (.invokespecial 3, 3) := by decide +kernel
theorem dX4_init_4 : decode cX4_init 4 = .ok (.aload_n 0, 1) := by decide +kernel
theorem dX4_init_5 : decode cX4_init 5 = .ok (.iload_n 1, 1) := by decide +kernel
theorem dX4_init_6 : decode cX4_init 6 = .ok (.iconst 0, 1) := by decide +kernel
theorem dX4_init_7 : decode cX4_init 7 = .ok (.invokestatic 9, 3) := by decide +kernel
theorem dX4_init_10 : decode cX4_init 10 = .ok (.newarray .byte, 2) := by decide +kernel
theorem dX4_init_12 : decode cX4_init 12 = .ok (.putfield 15, 3) := by decide +kernel
theorem dX4_init_15 : decode cX4_init 15 = .ok (.return_, 1) := by decide +kernel
theorem dX4_size_0 : decode cX4_size 0 = .ok (.aload_n 0, 1) := by decide +kernel
theorem dX4_size_1 : decode cX4_size 1 = .ok (.getfield 21, 3) := by decide +kernel
theorem dX4_size_4 : decode cX4_size 4 = .ok (.ireturn, 1) := by decide +kernel
theorem dX4_at_0 : decode cX4_at 0 = .ok (.iload_n 1, 1) := by decide +kernel
theorem dX4_at_1 : decode cX4_at 1 = .ok (.ifCond .lt 24, 3) := by decide +kernel
theorem dX4_at_4 : decode cX4_at 4 = .ok (.iload_n 1, 1) := by decide +kernel
theorem dX4_at_5 : decode cX4_at 5 = .ok (.aload_n 0, 1) := by decide +kernel
theorem dX4_at_6 : decode cX4_at 6 = .ok (.getfield 21, 3) := by decide +kernel
theorem dX4_at_9 : decode cX4_at 9 = .ok (.if_icmp .ge 16, 3) := by decide +kernel
theorem dX4_at_12 : decode cX4_at 12 = .ok (.aload_n 0, 1) := by decide +kernel
theorem dX4_at_13 : decode cX4_at 13 = .ok (.getfield 15, 3) := by decide +kernel
theorem dX4_at_16 : decode cX4_at 16 = .ok (.iload_n 1, 1) := by decide +kernel
theorem dX4_at_17 : decode cX4_at 17 = .ok (.baload, 1) := by decide +kernel
theorem dX4_at_18 : decode cX4_at 18 = .ok (.sipush 255, 3) := by decide +kernel
theorem dX4_at_21 : decode cX4_at 21 = .ok (.iand, 1) := by decide +kernel
theorem dX4_at_22 : decode cX4_at 22 = .ok (.goto 4, 3) := by decide +kernel
theorem dX4_at_25 : decode cX4_at 25 = .ok (.iconst (-1), 1) := by decide +kernel
theorem dX4_at_26 : decode cX4_at 26 = .ok (.ireturn, 1) := by decide +kernel
theorem dX4_smallAt_0 : decode cX4_smallAt 0 = .ok (.aload_n 0, 1) := by decide +kernel
theorem dX4_smallAt_1 : decode cX4_smallAt 1 = .ok (.iload_n 1, 1) := by decide +kernel
theorem dX4_smallAt_2 : decode cX4_smallAt 2 = .ok (.invokevirtual 25, 3) := by decide +kernel
theorem dX4_smallAt_5 : decode cX4_smallAt 5 = .ok (.istore_n 2, 1) := by decide +kernel
theorem dX4_smallAt_6 : decode cX4_smallAt 6 = .ok (.iload_n 2, 1) := by decide +kernel
theorem dX4_smallAt_7 : decode cX4_smallAt 7 = .ok (.invokestatic 29, 3) := by decide +kernel
theorem dX4_smallAt_10 : decode cX4_smallAt 10 = .ok (.ifCond .eq 10, 3) := by decide +kernel
theorem dX4_smallAt_13 : decode cX4_smallAt 13 = .ok (.iload_n 2, 1) := by decide +kernel
theorem dX4_smallAt_14 : decode cX4_smallAt 14 = .ok (.bipush 32, 2) := by decide +kernel
theorem dX4_smallAt_16 : decode cX4_smallAt 16 = .ok (.iadd, 1) := by decide +kernel
theorem dX4_smallAt_17 : decode cX4_smallAt 17 = .ok (.goto 4, 3) := by decide +kernel
theorem dX4_smallAt_20 : decode cX4_smallAt 20 = .ok (.iload_n 2, 1) := by decide +kernel
theorem dX4_smallAt_21 : decode cX4_smallAt 21 = .ok (.ireturn, 1) := by decide +kernel
theorem dX4_letterAt_0 : decode cX4_letterAt 0 = .ok (.aload_n 0, 1) := by decide +kernel
theorem dX4_letterAt_1 : decode cX4_letterAt 1 = .ok (.iload_n 1, 1) := by decide +kernel
theorem dX4_letterAt_2 : decode cX4_letterAt 2 = .ok (.invokevirtual 25, 3) := by decide +kernel
theorem dX4_letterAt_5 : decode cX4_letterAt 5 = .ok (.invokestatic 33, 3) := by decide +kernel
theorem dX4_letterAt_8 : decode cX4_letterAt 8 = .ok (.ireturn, 1) := by decide +kernel
theorem dX4_push_0 : decode cX4_push 0 = .ok (.aload_n 0, 1) := by decide +kernel
theorem dX4_push_1 : decode cX4_push 1 = .ok (.getfield 21, 3) := by decide +kernel
theorem dX4_push_4 : decode cX4_push 4 = .ok (.aload_n 0, 1) := by decide +kernel
theorem dX4_push_5 : decode cX4_push 5 = .ok (.getfield 15, 3) := by decide +kernel
theorem dX4_push_8 : decode cX4_push 8 = .ok (.arraylength, 1) := by decide +kernel
theorem dX4_push_9 : decode cX4_push 9 = .ok (.if_icmp .lt 5, 3) := by decide +kernel
theorem dX4_push_12 : decode cX4_push 12 = .ok (.iconst 0, 1) := by decide +kernel
theorem dX4_push_13 : decode cX4_push 13 = .ok (.ireturn, 1) := by decide +kernel
theorem dX4_push_14 : decode cX4_push 14 = .ok (.aload_n 0, 1) := by decide +kernel
theorem dX4_push_15 : decode cX4_push 15 = .ok (.getfield 15, 3) := by decide +kernel
theorem dX4_push_18 : decode cX4_push 18 = .ok (.aload_n 0, 1) := by decide +kernel
theorem dX4_push_19 : decode cX4_push 19 = .ok (.getfield 21, 3) := by decide +kernel
theorem dX4_push_22 : decode cX4_push 22 = .ok (.iload_n 1, 1) := by decide +kernel
theorem dX4_push_23 : decode cX4_push 23 = .ok (.i2b, 1) := by decide +kernel
theorem dX4_push_24 : decode cX4_push 24 = .ok (.bastore, 1) := by decide +kernel
theorem dX4_push_25 : decode cX4_push 25 = .ok (.aload_n 0, 1) := by decide +kernel
theorem dX4_push_26 : decode cX4_push 26 = .ok (.dup, 1) := by decide +kernel
theorem dX4_push_27 : decode cX4_push 27 = .ok (.getfield 21, 3) := by decide +kernel
theorem dX4_push_30 : decode cX4_push 30 = .ok (.iconst 1, 1) := by decide +kernel
theorem dX4_push_31 : decode cX4_push 31 = .ok (.iadd, 1) := by decide +kernel
theorem dX4_push_32 : decode cX4_push 32 = .ok (.putfield 21, 3) := by decide +kernel
theorem dX4_push_35 : decode cX4_push 35 = .ok (.iconst 1, 1) := by decide +kernel
theorem dX4_push_36 : decode cX4_push 36 = .ok (.ireturn, 1) := by decide +kernel
theorem dX4_shorten_0 : decode cX4_shorten 0 = .ok (.iload_n 1, 1) := by decide +kernel
theorem dX4_shorten_1 : decode cX4_shorten 1 = .ok (.ifCond .lt 16, 3) := by decide +kernel
theorem dX4_shorten_4 : decode cX4_shorten 4 = .ok (.iload_n 1, 1) := by decide +kernel
theorem dX4_shorten_5 : decode cX4_shorten 5 = .ok (.aload_n 0, 1) := by decide +kernel
theorem dX4_shorten_6 : decode cX4_shorten 6 = .ok (.getfield 21, 3) := by decide +kernel
theorem dX4_shorten_9 : decode cX4_shorten 9 = .ok (.if_icmp .ge 8, 3) := by decide +kernel
theorem dX4_shorten_12 : decode cX4_shorten 12 = .ok (.aload_n 0, 1) := by decide +kernel
theorem dX4_shorten_13 : decode cX4_shorten 13 = .ok (.iload_n 1, 1) := by decide +kernel
theorem dX4_shorten_14 : decode cX4_shorten 14 = .ok (.putfield 21, 3) := by decide +kernel
theorem dX4_shorten_17 : decode cX4_shorten 17 = .ok (.return_, 1) := by decide +kernel
theorem dX4_greaten_0 : decode cX4_greaten 0 = .ok (.iconst 0, 1) := by decide +kernel
theorem dX4_greaten_1 : decode cX4_greaten 1 = .ok (.istore_n 2, 1) := by decide +kernel
theorem dX4_greaten_2 : decode cX4_greaten 2 = .ok (.iload_n 2, 1) := by decide +kernel
theorem dX4_greaten_3 : decode cX4_greaten 3 = .ok (.iload_n 1, 1) := by decide +kernel
theorem dX4_greaten_4 : decode cX4_greaten 4 = .ok (.if_icmp .ge 51, 3) := by decide +kernel
theorem dX4_greaten_7 : decode cX4_greaten 7 = .ok (.iload_n 2, 1) := by decide +kernel
theorem dX4_greaten_8 : decode cX4_greaten 8 = .ok (.aload_n 0, 1) := by decide +kernel
theorem dX4_greaten_9 : decode cX4_greaten 9 = .ok (.getfield 21, 3) := by decide +kernel
theorem dX4_greaten_12 : decode cX4_greaten 12 = .ok (.if_icmp .ge 43, 3) := by decide +kernel
theorem dX4_greaten_15 : decode cX4_greaten 15 = .ok (.aload_n 0, 1) := by decide +kernel
theorem dX4_greaten_16 : decode cX4_greaten 16 = .ok (.getfield 15, 3) := by decide +kernel
theorem dX4_greaten_19 : decode cX4_greaten 19 = .ok (.iload_n 2, 1) := by decide +kernel
theorem dX4_greaten_20 : decode cX4_greaten 20 = .ok (.baload, 1) := by decide +kernel
theorem dX4_greaten_21 : decode cX4_greaten 21 = .ok (.bipush 97, 2) := by decide +kernel
theorem dX4_greaten_23 : decode cX4_greaten 23 = .ok (.if_icmp .lt 26, 3) := by decide +kernel
theorem dX4_greaten_26 : decode cX4_greaten 26 = .ok (.aload_n 0, 1) := by decide +kernel
theorem dX4_greaten_27 : decode cX4_greaten 27 = .ok (.getfield 15, 3) := by decide +kernel
theorem dX4_greaten_30 : decode cX4_greaten 30 = .ok (.iload_n 2, 1) := by decide +kernel
theorem dX4_greaten_31 : decode cX4_greaten 31 = .ok (.baload, 1) := by decide +kernel
theorem dX4_greaten_32 : decode cX4_greaten 32 = .ok (.bipush 122, 2) := by decide +kernel
theorem dX4_greaten_34 : decode cX4_greaten 34 = .ok (.if_icmp .gt 15, 3) := by decide +kernel
theorem dX4_greaten_37 : decode cX4_greaten 37 = .ok (.aload_n 0, 1) := by decide +kernel
theorem dX4_greaten_38 : decode cX4_greaten 38 = .ok (.getfield 15, 3) := by decide +kernel
theorem dX4_greaten_41 : decode cX4_greaten 41 = .ok (.iload_n 2, 1) := by decide +kernel
theorem dX4_greaten_42 : decode cX4_greaten 42 = .ok (.dup2, 1) := by decide +kernel
theorem dX4_greaten_43 : decode cX4_greaten 43 = .ok (.baload, 1) := by decide +kernel
theorem dX4_greaten_44 : decode cX4_greaten 44 = .ok (.bipush 32, 2) := by decide +kernel
theorem dX4_greaten_46 : decode cX4_greaten 46 = .ok (.isub, 1) := by decide +kernel
theorem dX4_greaten_47 : decode cX4_greaten 47 = .ok (.i2b, 1) := by decide +kernel
theorem dX4_greaten_48 : decode cX4_greaten 48 = .ok (.bastore, 1) := by decide +kernel
theorem dX4_greaten_49 : decode cX4_greaten 49 = .ok (.iinc 2 1, 3) := by decide +kernel
theorem dX4_greaten_52 : decode cX4_greaten 52 = .ok (.goto (-50), 3) := by decide +kernel
theorem dX4_greaten_55 : decode cX4_greaten 55 = .ok (.return_, 1) := by decide +kernel
theorem dX4_copied_0 : decode cX4_copied 0 = .ok (.new 16, 3) := by decide +kernel
theorem dX4_copied_3 : decode cX4_copied 3 = .ok (.dup, 1) := by decide +kernel
theorem dX4_copied_4 : decode cX4_copied 4 = .ok (.aload_n 0, 1) := by decide +kernel
theorem dX4_copied_5 : decode cX4_copied 5 = .ok (.getfield 21, 3) := by decide +kernel
theorem dX4_copied_8 : decode cX4_copied 8 = .ok (.invokespecial 36, 3) := by decide +kernel
theorem dX4_copied_11 : decode cX4_copied 11 = .ok (.astore_n 1, 1) := by decide +kernel
theorem dX4_copied_12 : decode cX4_copied 12 = .ok (.iconst 0, 1) := by decide +kernel
theorem dX4_copied_13 : decode cX4_copied 13 = .ok (.istore_n 2, 1) := by decide +kernel
theorem dX4_copied_14 : decode cX4_copied 14 = .ok (.iload_n 2, 1) := by decide +kernel
theorem dX4_copied_15 : decode cX4_copied 15 = .ok (.aload_n 0, 1) := by decide +kernel
theorem dX4_copied_16 : decode cX4_copied 16 = .ok (.getfield 21, 3) := by decide +kernel
theorem dX4_copied_19 : decode cX4_copied 19 = .ok (.if_icmp .ge 19, 3) := by decide +kernel
theorem dX4_copied_22 : decode cX4_copied 22 = .ok (.aload_n 1, 1) := by decide +kernel
theorem dX4_copied_23 : decode cX4_copied 23 = .ok (.aload_n 0, 1) := by decide +kernel
theorem dX4_copied_24 : decode cX4_copied 24 = .ok (.iload_n 2, 1) := by decide +kernel
theorem dX4_copied_25 : decode cX4_copied 25 = .ok (.invokevirtual 25, 3) := by decide +kernel
theorem dX4_copied_28 : decode cX4_copied 28 = .ok (.invokevirtual 39, 3) := by decide +kernel
theorem dX4_copied_31 : decode cX4_copied 31 = .ok (.pop, 1) := by decide +kernel
theorem dX4_copied_32 : decode cX4_copied 32 = .ok (.iinc 2 1, 3) := by decide +kernel
theorem dX4_copied_35 : decode cX4_copied 35 = .ok (.goto (-21), 3) := by decide +kernel
theorem dX4_copied_38 : decode cX4_copied 38 = .ok (.aload_n 1, 1) := by decide +kernel
theorem dX4_copied_39 : decode cX4_copied 39 = .ok (.areturn, 1) := by decide +kernel
theorem dX4_sameAs_0 : decode cX4_sameAs 0 = .ok (.aload_n 0, 1) := by decide +kernel
theorem dX4_sameAs_1 : decode cX4_sameAs 1 = .ok (.getfield 21, 3) := by decide +kernel
theorem dX4_sameAs_4 : decode cX4_sameAs 4 = .ok (.aload_n 1, 1) := by decide +kernel
theorem dX4_sameAs_5 : decode cX4_sameAs 5 = .ok (.getfield 21, 3) := by decide +kernel
theorem dX4_sameAs_8 : decode cX4_sameAs 8 = .ok (.if_icmp .ne 20, 3) := by decide +kernel
theorem dX4_sameAs_11 : decode cX4_sameAs 11 = .ok (.aload_n 0, 1) := by decide +kernel
theorem dX4_sameAs_12 : decode cX4_sameAs 12 = .ok (.iconst 0, 1) := by decide +kernel
theorem dX4_sameAs_13 : decode cX4_sameAs 13 = .ok (.aload_n 1, 1) := by decide +kernel
theorem dX4_sameAs_14 : decode cX4_sameAs 14 = .ok (.invokevirtual 42, 3) := by decide +kernel
theorem dX4_sameAs_17 : decode cX4_sameAs 17 = .ok (.aload_n 0, 1) := by decide +kernel
theorem dX4_sameAs_18 : decode cX4_sameAs 18 = .ok (.getfield 21, 3) := by decide +kernel
theorem dX4_sameAs_21 : decode cX4_sameAs 21 = .ok (.if_icmp .ne 7, 3) := by decide +kernel
theorem dX4_sameAs_24 : decode cX4_sameAs 24 = .ok (.iconst 1, 1) := by decide +kernel
theorem dX4_sameAs_25 : decode cX4_sameAs 25 = .ok (.goto 4, 3) := by decide +kernel
theorem dX4_sameAs_28 : decode cX4_sameAs 28 = .ok (.iconst 0, 1) := by decide +kernel
theorem dX4_sameAs_29 : decode cX4_sameAs 29 = .ok (.ireturn, 1) := by decide +kernel
theorem dX4_wordsOfTerm_0 : decode cX4_wordsOfTerm 0 = .ok (.iconst 0, 1) := by decide +kernel
theorem dX4_wordsOfTerm_1 : decode cX4_wordsOfTerm 1 = .ok (.istore_n 1, 1) := by decide +kernel
theorem dX4_wordsOfTerm_2 : decode cX4_wordsOfTerm 2 = .ok (.iconst 0, 1) := by decide +kernel
theorem dX4_wordsOfTerm_3 : decode cX4_wordsOfTerm 3 = .ok (.istore_n 2, 1) := by decide +kernel
theorem dX4_wordsOfTerm_4 : decode cX4_wordsOfTerm 4 = .ok (.iconst 0, 1) := by decide +kernel
theorem dX4_wordsOfTerm_5 : decode cX4_wordsOfTerm 5 = .ok (.istore_n 3, 1) := by decide +kernel
theorem dX4_wordsOfTerm_6 : decode cX4_wordsOfTerm 6 = .ok (.iload_n 3, 1) := by decide +kernel
theorem dX4_wordsOfTerm_7 : decode cX4_wordsOfTerm 7 = .ok (.aload_n 0, 1) := by decide +kernel
theorem dX4_wordsOfTerm_8 : decode cX4_wordsOfTerm 8 = .ok (.getfield 21, 3) := by decide +kernel
theorem dX4_wordsOfTerm_11 : decode cX4_wordsOfTerm 11 = .ok (.if_icmp .gt 41, 3) := by decide +kernel
theorem dX4_wordsOfTerm_14 : decode cX4_wordsOfTerm 14 = .ok (.aload_n 0, 1) := by decide +kernel
theorem dX4_wordsOfTerm_15 : decode cX4_wordsOfTerm 15 = .ok (.iload_n 3, 1) := by decide +kernel
theorem dX4_wordsOfTerm_16 : decode cX4_wordsOfTerm 16 = .ok (.invokevirtual 46, 3) := by decide +kernel
theorem dX4_wordsOfTerm_19 : decode cX4_wordsOfTerm 19 = .ok (.ifCond .eq 9, 3) := by decide +kernel
theorem dX4_wordsOfTerm_22 : decode cX4_wordsOfTerm 22 = .ok (.iinc 2 1, 3) := by decide +kernel
theorem dX4_wordsOfTerm_25 : decode cX4_wordsOfTerm 25 = .ok (.goto 21, 3) := by decide +kernel
theorem dX4_wordsOfTerm_28 : decode cX4_wordsOfTerm 28 = .ok (.iload_n 2, 1) := by decide +kernel
theorem dX4_wordsOfTerm_29 : decode cX4_wordsOfTerm 29 = .ok (.iconst 1, 1) := by decide +kernel
theorem dX4_wordsOfTerm_30 : decode cX4_wordsOfTerm 30 = .ok (.if_icmp .lt 9, 3) := by decide +kernel
theorem dX4_wordsOfTerm_33 : decode cX4_wordsOfTerm 33 = .ok (.iload_n 2, 1) := by decide +kernel
theorem dX4_wordsOfTerm_34 : decode cX4_wordsOfTerm 34 = .ok (.bipush 12, 2) := by decide +kernel
theorem dX4_wordsOfTerm_36 : decode cX4_wordsOfTerm 36 = .ok (.if_icmp .le 5, 3) := by decide +kernel
theorem dX4_wordsOfTerm_39 : decode cX4_wordsOfTerm 39 = .ok (.iconst 0, 1) := by decide +kernel
theorem dX4_wordsOfTerm_40 : decode cX4_wordsOfTerm 40 = .ok (.ireturn, 1) := by decide +kernel
theorem dX4_wordsOfTerm_41 : decode cX4_wordsOfTerm 41 = .ok (.iinc 1 1, 3) := by decide +kernel
theorem dX4_wordsOfTerm_44 : decode cX4_wordsOfTerm 44 = .ok (.iconst 0, 1) := by decide +kernel
theorem dX4_wordsOfTerm_45 : decode cX4_wordsOfTerm 45 = .ok (.istore_n 2, 1) := by decide +kernel
theorem dX4_wordsOfTerm_46 : decode cX4_wordsOfTerm 46 = .ok (.iinc 3 1, 3) := by decide +kernel
theorem dX4_wordsOfTerm_49 : decode cX4_wordsOfTerm 49 = .ok (.goto (-43), 3) := by decide +kernel
theorem dX4_wordsOfTerm_52 : decode cX4_wordsOfTerm 52 = .ok (.iload_n 1, 1) := by decide +kernel
theorem dX4_wordsOfTerm_53 : decode cX4_wordsOfTerm 53 = .ok (.iconst 3, 1) := by decide +kernel
theorem dX4_wordsOfTerm_54 : decode cX4_wordsOfTerm 54 = .ok (.if_icmp .gt 7, 3) := by decide +kernel
theorem dX4_wordsOfTerm_57 : decode cX4_wordsOfTerm 57 = .ok (.iload_n 1, 1) := by decide +kernel
theorem dX4_wordsOfTerm_58 : decode cX4_wordsOfTerm 58 = .ok (.goto 4, 3) := by decide +kernel
theorem dX4_wordsOfTerm_61 : decode cX4_wordsOfTerm 61 = .ok (.iconst 0, 1) := by decide +kernel
theorem dX4_wordsOfTerm_62 : decode cX4_wordsOfTerm 62 = .ok (.ireturn, 1) := by decide +kernel
theorem dX4_endOfForm_0 : decode cX4_endOfForm 0 = .ok (.iconst 0, 1) := by decide +kernel
theorem dX4_endOfForm_1 : decode cX4_endOfForm 1 = .ok (.istore_n 3, 1) := by decide +kernel
theorem dX4_endOfForm_2 : decode cX4_endOfForm 2 = .ok (.iload_n 3, 1) := by decide +kernel
theorem dX4_endOfForm_3 : decode cX4_endOfForm 3 = .ok (.aload_n 2, 1) := by decide +kernel
theorem dX4_endOfForm_4 : decode cX4_endOfForm 4 = .ok (.getfield 21, 3) := by decide +kernel
theorem dX4_endOfForm_7 : decode cX4_endOfForm 7 = .ok (.if_icmp .ge 60, 3) := by decide +kernel
theorem dX4_endOfForm_10 : decode cX4_endOfForm 10 = .ok (.aload_n 2, 1) := by decide +kernel
theorem dX4_endOfForm_11 : decode cX4_endOfForm 11 = .ok (.iload_n 3, 1) := by decide +kernel
theorem dX4_endOfForm_12 : decode cX4_endOfForm 12 = .ok (.invokevirtual 25, 3) := by decide +kernel
theorem dX4_endOfForm_15 : decode cX4_endOfForm 15 = .ok (.istore 4, 2) := by decide +kernel
theorem dX4_endOfForm_17 : decode cX4_endOfForm 17 = .ok (.aload_n 0, 1) := by decide +kernel
theorem dX4_endOfForm_18 : decode cX4_endOfForm 18 = .ok (.iload_n 1, 1) := by decide +kernel
theorem dX4_endOfForm_19 : decode cX4_endOfForm 19 = .ok (.iload_n 3, 1) := by decide +kernel
theorem dX4_endOfForm_20 : decode cX4_endOfForm 20 = .ok (.iadd, 1) := by decide +kernel
theorem dX4_endOfForm_21 : decode cX4_endOfForm 21 = .ok (.invokevirtual 49, 3) := by decide +kernel
theorem dX4_endOfForm_24 : decode cX4_endOfForm 24 = .ok (.istore 5, 2) := by decide +kernel
theorem dX4_endOfForm_26 : decode cX4_endOfForm 26 = .ok (.iload 4, 2) := by decide +kernel
theorem dX4_endOfForm_28 : decode cX4_endOfForm 28 = .ok (.bipush 32, 2) := by decide +kernel
theorem dX4_endOfForm_30 : decode cX4_endOfForm 30 = .ok (.if_icmp .ne 14, 3) := by decide +kernel
theorem dX4_endOfForm_33 : decode cX4_endOfForm 33 = .ok (.iload 5, 2) := by decide +kernel
theorem dX4_endOfForm_35 : decode cX4_endOfForm 35 = .ok (.bipush 10, 2) := by decide +kernel
theorem dX4_endOfForm_37 : decode cX4_endOfForm 37 = .ok (.if_icmp .ne 7, 3) := by decide +kernel
theorem dX4_endOfForm_40 : decode cX4_endOfForm 40 = .ok (.iconst 1, 1) := by decide +kernel
theorem dX4_endOfForm_41 : decode cX4_endOfForm 41 = .ok (.goto 4, 3) := by decide +kernel
theorem dX4_endOfForm_44 : decode cX4_endOfForm 44 = .ok (.iconst 0, 1) := by decide +kernel
theorem dX4_endOfForm_45 : decode cX4_endOfForm 45 = .ok (.istore 6, 2) := by decide +kernel
theorem dX4_endOfForm_47 : decode cX4_endOfForm 47 = .ok (.iload 5, 2) := by decide +kernel
theorem dX4_endOfForm_49 : decode cX4_endOfForm 49 = .ok (.iload 4, 2) := by decide +kernel
theorem dX4_endOfForm_51 : decode cX4_endOfForm 51 = .ok (.if_icmp .eq 10, 3) := by decide +kernel
theorem dX4_endOfForm_54 : decode cX4_endOfForm 54 = .ok (.iload 6, 2) := by decide +kernel
theorem dX4_endOfForm_56 : decode cX4_endOfForm 56 = .ok (.ifCond .ne 5, 3) := by decide +kernel
theorem dX4_endOfForm_59 : decode cX4_endOfForm 59 = .ok (.iconst (-1), 1) := by decide +kernel
theorem dX4_endOfForm_60 : decode cX4_endOfForm 60 = .ok (.ireturn, 1) := by decide +kernel
theorem dX4_endOfForm_61 : decode cX4_endOfForm 61 = .ok (.iinc 3 1, 3) := by decide +kernel
theorem dX4_endOfForm_64 : decode cX4_endOfForm 64 = .ok (.goto (-62), 3) := by decide +kernel
theorem dX4_endOfForm_67 : decode cX4_endOfForm 67 = .ok (.iload_n 1, 1) := by decide +kernel
theorem dX4_endOfForm_68 : decode cX4_endOfForm 68 = .ok (.aload_n 2, 1) := by decide +kernel
theorem dX4_endOfForm_69 : decode cX4_endOfForm 69 = .ok (.getfield 21, 3) := by decide +kernel
theorem dX4_endOfForm_72 : decode cX4_endOfForm 72 = .ok (.iadd, 1) := by decide +kernel
theorem dX4_endOfForm_73 : decode cX4_endOfForm 73 = .ok (.ireturn, 1) := by decide +kernel
theorem dX4_takesInstead_0 : decode cX4_takesInstead 0 = .ok (.iload_n 1, 1) := by decide +kernel
theorem dX4_takesInstead_1 : decode cX4_takesInstead 1 = .ok (.ifCond .lt 16, 3) := by decide +kernel
theorem dX4_takesInstead_4 : decode cX4_takesInstead 4 = .ok (.iload_n 2, 1) := by decide +kernel
theorem dX4_takesInstead_5 : decode cX4_takesInstead 5 = .ok (.iload_n 1, 1) := by decide +kernel
theorem dX4_takesInstead_6 : decode cX4_takesInstead 6 = .ok (.if_icmp .lt 11, 3) := by decide +kernel
theorem dX4_takesInstead_9 : decode cX4_takesInstead 9 = .ok (.iload_n 2, 1) := by decide +kernel
theorem dX4_takesInstead_10 : decode cX4_takesInstead 10 = .ok (.aload_n 0, 1) := by decide +kernel
theorem dX4_takesInstead_11 : decode cX4_takesInstead 11 = .ok (.getfield 21, 3) := by decide +kernel
theorem dX4_takesInstead_14 : decode cX4_takesInstead 14 = .ok (.if_icmp .le 5, 3) := by decide +kernel
theorem dX4_takesInstead_17 : decode cX4_takesInstead 17 = .ok (.iconst 0, 1) := by decide +kernel
theorem dX4_takesInstead_18 : decode cX4_takesInstead 18 = .ok (.ireturn, 1) := by decide +kernel
theorem dX4_takesInstead_19 : decode cX4_takesInstead 19 = .ok (.aload_n 0, 1) := by decide +kernel
theorem dX4_takesInstead_20 : decode cX4_takesInstead 20 = .ok (.getfield 21, 3) := by decide +kernel
theorem dX4_takesInstead_23 : decode cX4_takesInstead 23 = .ok (.iload_n 2, 1) := by decide +kernel
theorem dX4_takesInstead_24 : decode cX4_takesInstead 24 = .ok (.iload_n 1, 1) := by decide +kernel
theorem dX4_takesInstead_25 : decode cX4_takesInstead 25 = .ok (.isub, 1) := by decide +kernel
theorem dX4_takesInstead_26 : decode cX4_takesInstead 26 = .ok (.isub, 1) := by decide +kernel
theorem dX4_takesInstead_27 : decode cX4_takesInstead 27 = .ok (.aload_n 3, 1) := by decide +kernel
theorem dX4_takesInstead_28 : decode cX4_takesInstead 28 = .ok (.getfield 21, 3) := by decide +kernel
theorem dX4_takesInstead_31 : decode cX4_takesInstead 31 = .ok (.iadd, 1) := by decide +kernel
theorem dX4_takesInstead_32 : decode cX4_takesInstead 32 = .ok (.istore 4, 2) := by decide +kernel
theorem dX4_takesInstead_34 : decode cX4_takesInstead 34 = .ok (.iload 4, 2) := by decide +kernel
theorem dX4_takesInstead_36 : decode cX4_takesInstead 36 = .ok (.aload_n 0, 1) := by decide +kernel
theorem dX4_takesInstead_37 : decode cX4_takesInstead 37 = .ok (.getfield 15, 3) := by decide +kernel
theorem dX4_takesInstead_40 : decode cX4_takesInstead 40 = .ok (.arraylength, 1) := by decide +kernel
theorem dX4_takesInstead_41 : decode cX4_takesInstead 41 = .ok (.if_icmp .le 5, 3) := by decide +kernel
theorem dX4_takesInstead_44 : decode cX4_takesInstead 44 = .ok (.iconst 0, 1) := by decide +kernel
theorem dX4_takesInstead_45 : decode cX4_takesInstead 45 = .ok (.ireturn, 1) := by decide +kernel
theorem dX4_takesInstead_46 : decode cX4_takesInstead 46 = .ok (.aload_n 0, 1) := by decide +kernel
theorem dX4_takesInstead_47 : decode cX4_takesInstead 47 = .ok (.getfield 15, 3) := by decide +kernel
theorem dX4_takesInstead_50 : decode cX4_takesInstead 50 = .ok (.iload_n 2, 1) := by decide +kernel
theorem dX4_takesInstead_51 : decode cX4_takesInstead 51 = .ok (.aload_n 0, 1) := by decide +kernel
theorem dX4_takesInstead_52 : decode cX4_takesInstead 52 = .ok (.getfield 15, 3) := by decide +kernel
theorem dX4_takesInstead_55 : decode cX4_takesInstead 55 = .ok (.iload_n 1, 1) := by decide +kernel
theorem dX4_takesInstead_56 : decode cX4_takesInstead 56 = .ok (.aload_n 3, 1) := by decide +kernel
theorem dX4_takesInstead_57 : decode cX4_takesInstead 57 = .ok (.getfield 21, 3) := by decide +kernel
theorem dX4_takesInstead_60 : decode cX4_takesInstead 60 = .ok (.iadd, 1) := by decide +kernel
theorem dX4_takesInstead_61 : decode cX4_takesInstead 61 = .ok (.aload_n 0, 1) := by decide +kernel
theorem dX4_takesInstead_62 : decode cX4_takesInstead 62 = .ok (.getfield 21, 3) := by decide +kernel
theorem dX4_takesInstead_65 : decode cX4_takesInstead 65 = .ok (.iload_n 2, 1) := by decide +kernel
theorem dX4_takesInstead_66 : decode cX4_takesInstead 66 = .ok (.isub, 1) := by decide +kernel
theorem dX4_takesInstead_67 : decode cX4_takesInstead 67 = .ok (.invokestatic 52, 3) := by decide +kernel
theorem dX4_takesInstead_70 : decode cX4_takesInstead 70 = .ok (.aload_n 3, 1) := by decide +kernel
theorem dX4_takesInstead_71 : decode cX4_takesInstead 71 = .ok (.getfield 15, 3) := by decide +kernel
theorem dX4_takesInstead_74 : decode cX4_takesInstead 74 = .ok (.iconst 0, 1) := by decide +kernel
theorem dX4_takesInstead_75 : decode cX4_takesInstead 75 = .ok (.aload_n 0, 1) := by decide +kernel
theorem dX4_takesInstead_76 : decode cX4_takesInstead 76 = .ok (.getfield 15, 3) := by decide +kernel
theorem dX4_takesInstead_79 : decode cX4_takesInstead 79 = .ok (.iload_n 1, 1) := by decide +kernel
theorem dX4_takesInstead_80 : decode cX4_takesInstead 80 = .ok (.aload_n 3, 1) := by decide +kernel
theorem dX4_takesInstead_81 : decode cX4_takesInstead 81 = .ok (.getfield 21, 3) := by decide +kernel
theorem dX4_takesInstead_84 : decode cX4_takesInstead 84 = .ok (.invokestatic 52, 3) := by decide +kernel
theorem dX4_takesInstead_87 : decode cX4_takesInstead 87 = .ok (.aload_n 0, 1) := by decide +kernel
theorem dX4_takesInstead_88 : decode cX4_takesInstead 88 = .ok (.iload 4, 2) := by decide +kernel
theorem dX4_takesInstead_90 : decode cX4_takesInstead 90 = .ok (.putfield 21, 3) := by decide +kernel
theorem dX4_takesInstead_93 : decode cX4_takesInstead 93 = .ok (.iconst 1, 1) := by decide +kernel
theorem dX4_takesInstead_94 : decode cX4_takesInstead 94 = .ok (.ireturn, 1) := by decide +kernel
theorem dX5_init_0 : decode cX5_init 0 = .ok (.aload_n 0, 1) := by decide +kernel
theorem dX5_init_1 : decode cX5_init 1 = .ok (.invokespecial 1, 3) := by decide +kernel
theorem dX5_init_4 : decode cX5_init 4 = .ok (.aload_n 0, 1) := by decide +kernel
theorem dX5_init_5 : decode cX5_init 5 = .ok (.aload_n 1, 1) := by decide +kernel
theorem dX5_init_6 : decode cX5_init 6 = .ok (.putfield 7, 3) := by decide +kernel
theorem dX5_init_9 : decode cX5_init 9 = .ok (.aload_n 0, 1) := by decide +kernel
theorem dX5_init_10 : decode cX5_init 10 = .ok (.iload_n 2, 1) := by decide +kernel
theorem dX5_init_11 : decode cX5_init 11 = .ok (.putfield 13, 3) := by decide +kernel
theorem dX5_init_14 : decode cX5_init 14 = .ok (.aload_n 0, 1) := by decide +kernel
theorem dX5_init_15 : decode cX5_init 15 = .ok (.iload_n 3, 1) := by decide +kernel
theorem dX5_init_16 : decode cX5_init 16 = .ok (.putfield 17, 3) := by decide +kernel
theorem dX5_init_19 : decode cX5_init 19 = .ok (.aload_n 0, 1) := by decide +kernel
theorem dX5_init_20 : decode cX5_init 20 = .ok (.iload 4, 2) := by decide +kernel
theorem dX5_init_22 : decode cX5_init 22 = .ok (.putfield 20, 3) := by decide +kernel
theorem dX5_init_25 : decode cX5_init 25 = .ok (.aload_n 0, 1) := by decide +kernel
theorem dX5_init_26 : decode cX5_init 26 = .ok (.iload 5, 2) := by decide +kernel
theorem dX5_init_28 : decode cX5_init 28 = .ok (.putfield 23, 3) := by decide +kernel
theorem dX5_init_31 : decode cX5_init 31 = .ok (.return_, 1) := by decide +kernel
theorem dX5_letters_0 : decode cX5_letters 0 = .ok (.aload_n 0, 1) := by decide +kernel
theorem dX5_letters_1 : decode cX5_letters 1 = .ok (.getfield 7, 3) := by decide +kernel
theorem dX5_letters_4 : decode cX5_letters 4 = .ok (.invokevirtual 26, 3) := by decide +kernel
theorem dX5_letters_7 : decode cX5_letters 7 = .ok (.aload_n 0, 1) := by decide +kernel
theorem dX5_letters_8 : decode cX5_letters 8 = .ok (.getfield 13, 3) := by decide +kernel
theorem dX5_letters_11 : decode cX5_letters 11 = .ok (.iconst 1, 1) := by decide +kernel
theorem dX5_letters_12 : decode cX5_letters 12 = .ok (.isub, 1) := by decide +kernel
theorem dX5_letters_13 : decode cX5_letters 13 = .ok (.isub, 1) := by decide +kernel
theorem dX5_letters_14 : decode cX5_letters 14 = .ok (.ireturn, 1) := by decide +kernel
theorem dX5_takesEnding_0 : decode cX5_takesEnding 0 = .ok (.aload_n 0, 1) := by decide +kernel
theorem dX5_takesEnding_1 : decode cX5_takesEnding 1 = .ok (.getfield 23, 3) := by decide +kernel
theorem dX5_takesEnding_4 : decode cX5_takesEnding 4 = .ok (.iload_n 1, 1) := by decide +kernel
theorem dX5_takesEnding_5 : decode cX5_takesEnding 5 = .ok (.ishr, 1) := by decide +kernel
theorem dX5_takesEnding_6 : decode cX5_takesEnding 6 = .ok (.iconst 1, 1) := by decide +kernel
theorem dX5_takesEnding_7 : decode cX5_takesEnding 7 = .ok (.iand, 1) := by decide +kernel
theorem dX5_takesEnding_8 : decode cX5_takesEnding 8 = .ok (.ifCond .eq 7, 3) := by decide +kernel
theorem dX5_takesEnding_11 : decode cX5_takesEnding 11 = .ok (.iconst 1, 1) := by decide +kernel
theorem dX5_takesEnding_12 : decode cX5_takesEnding 12 = .ok (.goto 4, 3) := by decide +kernel
theorem dX5_takesEnding_15 : decode cX5_takesEnding 15 = .ok (.iconst 0, 1) := by decide +kernel
theorem dX5_takesEnding_16 : decode cX5_takesEnding 16 = .ok (.ireturn, 1) := by decide +kernel
theorem dX6_init_0 : decode cX6_init 0 = .ok (.aload_n 0, 1) := by decide +kernel
theorem dX6_init_1 : decode cX6_init 1 = .ok (.invokespecial 3, 3) := by decide +kernel
theorem dX6_init_4 : decode cX6_init 4 = .ok (.aload_n 0, 1) := by decide +kernel
theorem dX6_init_5 : decode cX6_init 5 = .ok (.bipush 60, 2) := by decide +kernel
theorem dX6_init_7 : decode cX6_init 7 = .ok (.newarray .int, 2) := by decide +kernel
theorem dX6_init_9 : decode cX6_init 9 = .ok (.putfield 9, 3) := by decide +kernel
theorem dX6_init_12 : decode cX6_init 12 = .ok (.aload_n 0, 1) := by decide +kernel
theorem dX6_init_13 : decode cX6_init 13 = .ok (.sipush 300, 3) := by decide +kernel
theorem dX6_init_16 : decode cX6_init 16 = .ok (.newarray .int, 2) := by decide +kernel
theorem dX6_init_18 : decode cX6_init 18 = .ok (.putfield 15, 3) := by decide +kernel
theorem dX6_init_21 : decode cX6_init 21 = .ok (.aload_n 0, 1) := by decide +kernel
theorem dX6_init_22 : decode cX6_init 22 = .ok (.sipush 300, 3) := by decide +kernel
theorem dX6_init_25 : decode cX6_init 25 = .ok (.newarray .int, 2) := by decide +kernel
theorem dX6_init_27 : decode cX6_init 27 = .ok (.putfield 18, 3) := by decide +kernel
theorem dX6_init_30 : decode cX6_init 30 = .ok (.aload_n 0, 1) := by decide +kernel
theorem dX6_init_31 : decode cX6_init 31 = .ok (.sipush 300, 3) := by decide +kernel
theorem dX6_init_34 : decode cX6_init 34 = .ok (.newarray .int, 2) := by decide +kernel
theorem dX6_init_36 : decode cX6_init 36 = .ok (.putfield 21, 3) := by decide +kernel
theorem dX6_init_39 : decode cX6_init 39 = .ok (.aload_n 0, 1) := by decide +kernel
theorem dX6_init_40 : decode cX6_init 40 = .ok (.sipush 300, 3) := by decide +kernel
theorem dX6_init_43 : decode cX6_init 43 = .ok (.newarray .int, 2) := by decide +kernel
theorem dX6_init_45 : decode cX6_init 45 = .ok (.putfield 24, 3) := by decide +kernel
theorem dX6_init_48 : decode cX6_init 48 = .ok (.aload_n 0, 1) := by decide +kernel
theorem dX6_init_49 : decode cX6_init 49 = .ok (.sipush 300, 3) := by decide +kernel
theorem dX6_init_52 : decode cX6_init 52 = .ok (.newarray .int, 2) := by decide +kernel
theorem dX6_init_54 : decode cX6_init 54 = .ok (.putfield 27, 3) := by decide +kernel
theorem dX6_init_57 : decode cX6_init 57 = .ok (.aload_n 0, 1) := by decide +kernel
theorem dX6_init_58 : decode cX6_init 58 = .ok (.aload_n 1, 1) := by decide +kernel
theorem dX6_init_59 : decode cX6_init 59 = .ok (.putfield 30, 3) := by decide +kernel
theorem dX6_init_62 : decode cX6_init 62 = .ok (.aload_n 0, 1) := by decide +kernel
theorem dX6_init_63 : decode cX6_init 63 = .ok (.aload_n 2, 1) := by decide +kernel
theorem dX6_init_64 : decode cX6_init 64 = .ok (.putfield 34, 3) := by decide +kernel
theorem dX6_init_67 : decode cX6_init 67 = .ok (.aload_n 0, 1) := by decide +kernel
theorem dX6_init_68 : decode cX6_init 68 = .ok (.new 38, 3) := by decide +kernel
theorem dX6_init_71 : decode cX6_init 71 = .ok (.dup, 1) := by decide +kernel
theorem dX6_init_72 : decode cX6_init 72 = .ok (.aload_n 1, 1) := by decide +kernel
theorem dX6_init_73 : decode cX6_init 73 = .ok (.invokespecial 40, 3) := by decide +kernel
theorem dX6_init_76 : decode cX6_init 76 = .ok (.putfield 43, 3) := by decide +kernel
theorem dX6_init_79 : decode cX6_init 79 = .ok (.return_, 1) := by decide +kernel
theorem dX6_size_0 : decode cX6_size 0 = .ok (.aload_n 0, 1) := by decide +kernel
theorem dX6_size_1 : decode cX6_size 1 = .ok (.getfield 47, 3) := by decide +kernel
theorem dX6_size_4 : decode cX6_size 4 = .ok (.ireturn, 1) := by decide +kernel
theorem dX6_beginOf_0 : decode cX6_beginOf 0 = .ok (.aload_n 0, 1) := by decide +kernel
theorem dX6_beginOf_1 : decode cX6_beginOf 1 = .ok (.iload_n 1, 1) := by decide +kernel
theorem dX6_beginOf_2 : decode cX6_beginOf 2 = .ok (.invokevirtual 51, 3) := by decide +kernel
theorem dX6_beginOf_5 : decode cX6_beginOf 5 = .ok (.ifCond .eq 12, 3) := by decide +kernel
theorem dX6_beginOf_8 : decode cX6_beginOf 8 = .ok (.aload_n 0, 1) := by decide +kernel
theorem dX6_beginOf_9 : decode cX6_beginOf 9 = .ok (.getfield 15, 3) := by decide +kernel
theorem dX6_beginOf_12 : decode cX6_beginOf 12 = .ok (.iload_n 1, 1) := by decide +kernel
theorem dX6_beginOf_13 : decode cX6_beginOf 13 = .ok (.iaload, 1) := by decide +kernel
theorem dX6_beginOf_14 : decode cX6_beginOf 14 = .ok (.goto 4, 3) := by decide +kernel
theorem dX6_beginOf_17 : decode cX6_beginOf 17 = .ok (.iconst (-1), 1) := by decide +kernel
theorem dX6_beginOf_18 : decode cX6_beginOf 18 = .ok (.ireturn, 1) := by decide +kernel
theorem dX6_endOf_0 : decode cX6_endOf 0 = .ok (.aload_n 0, 1) := by decide +kernel
theorem dX6_endOf_1 : decode cX6_endOf 1 = .ok (.iload_n 1, 1) := by decide +kernel
theorem dX6_endOf_2 : decode cX6_endOf 2 = .ok (.invokevirtual 51, 3) := by decide +kernel
theorem dX6_endOf_5 : decode cX6_endOf 5 = .ok (.ifCond .eq 12, 3) := by decide +kernel
theorem dX6_endOf_8 : decode cX6_endOf 8 = .ok (.aload_n 0, 1) := by decide +kernel
theorem dX6_endOf_9 : decode cX6_endOf 9 = .ok (.getfield 18, 3) := by decide +kernel
theorem dX6_endOf_12 : decode cX6_endOf 12 = .ok (.iload_n 1, 1) := by decide +kernel
theorem dX6_endOf_13 : decode cX6_endOf 13 = .ok (.iaload, 1) := by decide +kernel
theorem dX6_endOf_14 : decode cX6_endOf 14 = .ok (.goto 4, 3) := by decide +kernel
theorem dX6_endOf_17 : decode cX6_endOf 17 = .ok (.iconst (-1), 1) := by decide +kernel
theorem dX6_endOf_18 : decode cX6_endOf 18 = .ok (.ireturn, 1) := by decide +kernel
theorem dX6_termOf_0 : decode cX6_termOf 0 = .ok (.aload_n 0, 1) := by decide +kernel
theorem dX6_termOf_1 : decode cX6_termOf 1 = .ok (.iload_n 1, 1) := by decide +kernel
theorem dX6_termOf_2 : decode cX6_termOf 2 = .ok (.invokevirtual 51, 3) := by decide +kernel
theorem dX6_termOf_5 : decode cX6_termOf 5 = .ok (.ifCond .eq 12, 3) := by decide +kernel
theorem dX6_termOf_8 : decode cX6_termOf 8 = .ok (.aload_n 0, 1) := by decide +kernel
theorem dX6_termOf_9 : decode cX6_termOf 9 = .ok (.getfield 21, 3) := by decide +kernel
theorem dX6_termOf_12 : decode cX6_termOf 12 = .ok (.iload_n 1, 1) := by decide +kernel
theorem dX6_termOf_13 : decode cX6_termOf 13 = .ok (.iaload, 1) := by decide +kernel
theorem dX6_termOf_14 : decode cX6_termOf 14 = .ok (.goto 4, 3) := by decide +kernel
theorem dX6_termOf_17 : decode cX6_termOf 17 = .ok (.iconst (-1), 1) := by decide +kernel
theorem dX6_termOf_18 : decode cX6_termOf 18 = .ok (.ireturn, 1) := by decide +kernel
theorem dX6_endingOf_0 : decode cX6_endingOf 0 = .ok (.aload_n 0, 1) := by decide +kernel
theorem dX6_endingOf_1 : decode cX6_endingOf 1 = .ok (.iload_n 1, 1) := by decide +kernel
theorem dX6_endingOf_2 : decode cX6_endingOf 2 = .ok (.invokevirtual 51, 3) := by decide +kernel
theorem dX6_endingOf_5 : decode cX6_endingOf 5 = .ok (.ifCond .eq 12, 3) := by decide +kernel
theorem dX6_endingOf_8 : decode cX6_endingOf 8 = .ok (.aload_n 0, 1) := by decide +kernel
theorem dX6_endingOf_9 : decode cX6_endingOf 9 = .ok (.getfield 24, 3) := by decide +kernel
theorem dX6_endingOf_12 : decode cX6_endingOf 12 = .ok (.iload_n 1, 1) := by decide +kernel
theorem dX6_endingOf_13 : decode cX6_endingOf 13 = .ok (.iaload, 1) := by decide +kernel
theorem dX6_endingOf_14 : decode cX6_endingOf 14 = .ok (.goto 4, 3) := by decide +kernel
theorem dX6_endingOf_17 : decode cX6_endingOf 17 = .ok (.iconst (-1), 1) := by decide +kernel
theorem dX6_endingOf_18 : decode cX6_endingOf 18 = .ok (.ireturn, 1) := by decide +kernel
theorem dX6_findingOf_0 : decode cX6_findingOf 0 = .ok (.aload_n 0, 1) := by decide +kernel
theorem dX6_findingOf_1 : decode cX6_findingOf 1 = .ok (.iload_n 1, 1) := by decide +kernel
theorem dX6_findingOf_2 : decode cX6_findingOf 2 = .ok (.invokevirtual 51, 3) := by decide +kernel
theorem dX6_findingOf_5 : decode cX6_findingOf 5 = .ok (.ifCond .eq 12, 3) := by decide +kernel
theorem dX6_findingOf_8 : decode cX6_findingOf 8 = .ok (.aload_n 0, 1) := by decide +kernel
theorem dX6_findingOf_9 : decode cX6_findingOf 9 = .ok (.getfield 27, 3) := by decide +kernel
theorem dX6_findingOf_12 : decode cX6_findingOf 12 = .ok (.iload_n 1, 1) := by decide +kernel
theorem dX6_findingOf_13 : decode cX6_findingOf 13 = .ok (.iaload, 1) := by decide +kernel
theorem dX6_findingOf_14 : decode cX6_findingOf 14 = .ok (.goto 4, 3) := by decide +kernel
theorem dX6_findingOf_17 : decode cX6_findingOf 17 = .ok (.iconst (-1), 1) := by decide +kernel
theorem dX6_findingOf_18 : decode cX6_findingOf 18 = .ok (.ireturn, 1) := by decide +kernel
theorem dX6_terms_0 : decode cX6_terms 0 = .ok (.aload_n 0, 1) := by decide +kernel
theorem dX6_terms_1 : decode cX6_terms 1 = .ok (.getfield 55, 3) := by decide +kernel
theorem dX6_terms_4 : decode cX6_terms 4 = .ok (.lreturn, 1) := by decide +kernel
theorem dX6_things_0 : decode cX6_things 0 = .ok (.aload_n 0, 1) := by decide +kernel
theorem dX6_things_1 : decode cX6_things 1 = .ok (.getfield 59, 3) := by decide +kernel
theorem dX6_things_4 : decode cX6_things 4 = .ok (.lreturn, 1) := by decide +kernel
theorem dX6_usesOf_0 : decode cX6_usesOf 0 = .ok (.iconst 0, 1) := by decide +kernel
theorem dX6_usesOf_1 : decode cX6_usesOf 1 = .ok (.istore_n 2, 1) := by decide +kernel
theorem dX6_usesOf_2 : decode cX6_usesOf 2 = .ok (.iconst 0, 1) := by decide +kernel
theorem dX6_usesOf_3 : decode cX6_usesOf 3 = .ok (.istore_n 3, 1) := by decide +kernel
theorem dX6_usesOf_4 : decode cX6_usesOf 4 = .ok (.iload_n 3, 1) := by decide +kernel
theorem dX6_usesOf_5 : decode cX6_usesOf 5 = .ok (.aload_n 0, 1) := by decide +kernel
theorem dX6_usesOf_6 : decode cX6_usesOf 6 = .ok (.getfield 47, 3) := by decide +kernel
theorem dX6_usesOf_9 : decode cX6_usesOf 9 = .ok (.if_icmp .ge 22, 3) := by decide +kernel
theorem dX6_usesOf_12 : decode cX6_usesOf 12 = .ok (.aload_n 0, 1) := by decide +kernel
theorem dX6_usesOf_13 : decode cX6_usesOf 13 = .ok (.getfield 21, 3) := by decide +kernel
theorem dX6_usesOf_16 : decode cX6_usesOf 16 = .ok (.iload_n 3, 1) := by decide +kernel
theorem dX6_usesOf_17 : decode cX6_usesOf 17 = .ok (.iaload, 1) := by decide +kernel
theorem dX6_usesOf_18 : decode cX6_usesOf 18 = .ok (.iload_n 1, 1) := by decide +kernel
theorem dX6_usesOf_19 : decode cX6_usesOf 19 = .ok (.if_icmp .ne 6, 3) := by decide +kernel
theorem dX6_usesOf_22 : decode cX6_usesOf 22 = .ok (.iinc 2 1, 3) := by decide +kernel
theorem dX6_usesOf_25 : decode cX6_usesOf 25 = .ok (.iinc 3 1, 3) := by decide +kernel
theorem dX6_usesOf_28 : decode cX6_usesOf 28 = .ok (.goto (-24), 3) := by decide +kernel
theorem dX6_usesOf_31 : decode cX6_usesOf 31 = .ok (.iload_n 2, 1) := by decide +kernel
theorem dX6_usesOf_32 : decode cX6_usesOf 32 = .ok (.ireturn, 1) := by decide +kernel
theorem dX6_holds_0 : decode cX6_holds 0 = .ok (.iload_n 1, 1) := by decide +kernel
theorem dX6_holds_1 : decode cX6_holds 1 = .ok (.ifCond .lt 15, 3) := by decide +kernel
theorem dX6_holds_4 : decode cX6_holds 4 = .ok (.iload_n 1, 1) := by decide +kernel
theorem dX6_holds_5 : decode cX6_holds 5 = .ok (.aload_n 0, 1) := by decide +kernel
theorem dX6_holds_6 : decode cX6_holds 6 = .ok (.getfield 47, 3) := by decide +kernel
theorem dX6_holds_9 : decode cX6_holds 9 = .ok (.if_icmp .ge 7, 3) := by decide +kernel
theorem dX6_holds_12 : decode cX6_holds 12 = .ok (.iconst 1, 1) := by decide +kernel
theorem dX6_holds_13 : decode cX6_holds 13 = .ok (.goto 4, 3) := by decide +kernel
theorem dX6_holds_16 : decode cX6_holds 16 = .ok (.iconst 0, 1) := by decide +kernel
theorem dX6_holds_17 : decode cX6_holds 17 = .ok (.ireturn, 1) := by decide +kernel
theorem dX6_read_0 : decode cX6_read 0 = .ok (.aload_n 0, 1) := by decide +kernel
theorem dX6_read_1 : decode cX6_read 1 = .ok (.getfield 43, 3) := by decide +kernel
theorem dX6_read_4 : decode cX6_read 4 = .ok (.aload_n 1, 1) := by decide +kernel
theorem dX6_read_5 : decode cX6_read 5 = .ok (.invokevirtual 62, 3) := by decide +kernel
theorem dX6_read_8 : decode cX6_read 8 = .ok (.aload_n 0, 1) := by decide +kernel
theorem dX6_read_9 : decode cX6_read 9 = .ok (.iconst 0, 1) := by decide +kernel
theorem dX6_read_10 : decode cX6_read 10 = .ok (.putfield 47, 3) := by decide +kernel
theorem dX6_read_13 : decode cX6_read 13 = .ok (.aload_n 0, 1) := by decide +kernel
theorem dX6_read_14 : decode cX6_read 14 = .ok (.lconst 0, 1) := by decide +kernel
theorem dX6_read_15 : decode cX6_read 15 = .ok (.putfield 55, 3) := by decide +kernel
theorem dX6_read_18 : decode cX6_read 18 = .ok (.aload_n 0, 1) := by decide +kernel
theorem dX6_read_19 : decode cX6_read 19 = .ok (.lconst 0, 1) := by decide +kernel
theorem dX6_read_20 : decode cX6_read 20 = .ok (.putfield 59, 3) := by decide +kernel
theorem dX6_read_23 : decode cX6_read 23 = .ok (.aload_n 0, 1) := by decide +kernel
theorem dX6_read_24 : decode cX6_read 24 = .ok (.lconst 0, 1) := by decide +kernel
theorem dX6_read_25 : decode cX6_read 25 = .ok (.putfield 66, 3) := by decide +kernel
theorem dX6_read_28 : decode cX6_read 28 = .ok (.iconst 0, 1) := by decide +kernel
theorem dX6_read_29 : decode cX6_read 29 = .ok (.istore_n 2, 1) := by decide +kernel
theorem dX6_read_30 : decode cX6_read 30 = .ok (.iconst 0, 1) := by decide +kernel
theorem dX6_read_31 : decode cX6_read 31 = .ok (.istore_n 3, 1) := by decide +kernel
theorem dX6_read_32 : decode cX6_read 32 = .ok (.iload_n 3, 1) := by decide +kernel
theorem dX6_read_33 : decode cX6_read 33 = .ok (.aload_n 0, 1) := by decide +kernel
theorem dX6_read_34 : decode cX6_read 34 = .ok (.getfield 43, 3) := by decide +kernel
theorem dX6_read_37 : decode cX6_read 37 = .ok (.invokevirtual 69, 3) := by decide +kernel
theorem dX6_read_40 : decode cX6_read 40 = .ok (.if_icmp .ge 62, 3) := by decide +kernel
theorem dX6_read_43 : decode cX6_read 43 = .ok (.aload_n 0, 1) := by decide +kernel
theorem dX6_read_44 : decode cX6_read 44 = .ok (.getfield 43, 3) := by decide +kernel
theorem dX6_read_47 : decode cX6_read 47 = .ok (.iload_n 3, 1) := by decide +kernel
theorem dX6_read_48 : decode cX6_read 48 = .ok (.invokevirtual 72, 3) := by decide +kernel
theorem dX6_read_51 : decode cX6_read 51 = .ok (.iload_n 2, 1) := by decide +kernel
theorem dX6_read_52 : decode cX6_read 52 = .ok (.if_icmp .lt 44, 3) := by decide +kernel
theorem dX6_read_55 : decode cX6_read 55 = .ok (.aload_n 0, 1) := by decide +kernel
theorem dX6_read_56 : decode cX6_read 56 = .ok (.aload_n 1, 1) := by decide +kernel
theorem dX6_read_57 : decode cX6_read 57 = .ok (.aload_n 0, 1) := by decide +kernel
theorem dX6_read_58 : decode cX6_read 58 = .ok (.getfield 43, 3) := by decide +kernel
theorem dX6_read_61 : decode cX6_read 61 = .ok (.iload_n 3, 1) := by decide +kernel
theorem dX6_read_62 : decode cX6_read 62 = .ok (.invokevirtual 72, 3) := by decide +kernel
theorem dX6_read_65 : decode cX6_read 65 = .ok (.invokevirtual 76, 3) := by decide +kernel
theorem dX6_read_68 : decode cX6_read 68 = .ok (.istore 4, 2) := by decide +kernel
theorem dX6_read_70 : decode cX6_read 70 = .ok (.iload 4, 2) := by decide +kernel
theorem dX6_read_72 : decode cX6_read 72 = .ok (.ifCond .le 24, 3) := by decide +kernel
