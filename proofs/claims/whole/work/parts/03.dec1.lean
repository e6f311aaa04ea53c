theorem dX0_init_0 : decode cX0_init 0 = .ok (.aload_n 0, 1) := by decide +kernel
theorem dX0_init_1 : decode cX0_init 1 = .ok (.invokespecial 3, 3) := by decide +kernel
theorem dX0_init_4 : decode cX0_init 4 = .ok (.aload_n 0, 1) := by decide +kernel
theorem dX0_init_5 : decode cX0_init 5 = .ok (.bipush 64, 2) := by decide +kernel
theorem dX0_init_7 : decode cX0_init 7 = .ok (.newarray .int, 2) := by decide +kernel
theorem dX0_init_9 : decode cX0_init 9 = .ok (.putfield 9, 3) := by decide +kernel
theorem dX0_init_12 : decode cX0_init 12 = .ok (.aload_n 0, 1) := by decide +kernel
theorem dX0_init_13 : decode cX0_init 13 = .ok (.sipush 256, 3) := by decide +kernel
theorem dX0_init_16 : decode cX0_init 16 = .ok (.newarray .int, 2) := by decide +kernel
theorem dX0_init_18 : decode cX0_init 18 = .ok (.putfield 15, 3) := by decide +kernel
theorem dX0_init_21 : decode cX0_init 21 = .ok (.aload_n 0, 1) := by decide +kernel
theorem dX0_init_22 : decode cX0_init 22 = .ok (.iconst 0, 1) := by decide +kernel
theorem dX0_init_23 : decode cX0_init 23 = .ok (.putfield 18, 3) := by decide +kernel
theorem dX0_init_26 : decode cX0_init 26 = .ok (.return_, 1) := by decide +kernel
theorem dX0_claims_0 : decode cX0_claims 0 = .ok (.aload_n 0, 1) := by decide +kernel
theorem dX0_claims_1 : decode cX0_claims 1 = .ok (.getfield 18, 3) := by decide +kernel
theorem dX0_claims_4 : decode cX0_claims 4 = .ok (.ireturn, 1) := by decide +kernel
theorem dX0_add_0 : decode cX0_add 0 = .ok (.iload_n 1, 1) := by decide +kernel
theorem dX0_add_1 : decode cX0_add 1 = .ok (.bipush 8, 2) := by decide +kernel
theorem dX0_add_3 : decode cX0_add 3 = .ok (.imul, 1) := by decide +kernel
theorem dX0_add_4 : decode cX0_add 4 = .ok (.iload_n 2, 1) := by decide +kernel
theorem dX0_add_5 : decode cX0_add 5 = .ok (.iadd, 1) := by decide +kernel
theorem dX0_add_6 : decode cX0_add 6 = .ok (.istore 4, 2) := by decide +kernel
theorem dX0_add_8 : decode cX0_add 8 = .ok (.aload_n 0, 1) := by decide +kernel
theorem dX0_add_9 : decode cX0_add 9 = .ok (.getfield 9, 3) := by decide +kernel
theorem dX0_add_12 : decode cX0_add 12 = .ok (.iload 4, 2) := by decide +kernel
theorem dX0_add_14 : decode cX0_add 14 = .ok (.aload_n 0, 1) := by decide +kernel
theorem dX0_add_15 : decode cX0_add 15 = .ok (.getfield 9, 3) := by decide +kernel
theorem dX0_add_18 : decode cX0_add 18 = .ok (.iload 4, 2) := by decide +kernel
theorem dX0_add_20 : decode cX0_add 20 = .ok (.invokestatic 22, 3) := by decide +kernel
theorem dX0_add_23 : decode cX0_add 23 = .ok (.iload_n 3, 1) := by decide +kernel
theorem dX0_add_24 : decode cX0_add 24 = .ok (.iadd, 1) := by decide +kernel
theorem dX0_add_25 : decode cX0_add 25 = .ok (.invokestatic 26, 3) := by decide +kernel
theorem dX0_add_28 : decode cX0_add 28 = .ok (.aload_n 0, 1) := by decide +kernel
theorem dX0_add_29 : decode cX0_add 29 = .ok (.dup, 1) := by decide +kernel
theorem dX0_add_30 : decode cX0_add 30 = .ok (.getfield 18, 3) := by decide +kernel
theorem dX0_add_33 : decode cX0_add 33 = .ok (.iconst 1, 1) := by decide +kernel
theorem dX0_add_34 : decode cX0_add 34 = .ok (.iadd, 1) := by decide +kernel
theorem dX0_add_35 : decode cX0_add 35 = .ok (.putfield 18, 3) := by decide +kernel
theorem dX0_add_38 : decode cX0_add 38 = .ok (.return_, 1) := by decide +kernel
theorem dX0_weight_0 : decode cX0_weight 0 = .ok (.aload_n 0, 1) := by decide +kernel
theorem dX0_weight_1 : decode cX0_weight 1 = .ok (.getfield 9, 3) := by decide +kernel
theorem dX0_weight_4 : decode cX0_weight 4 = .ok (.iload_n 1, 1) := by decide +kernel
theorem dX0_weight_5 : decode cX0_weight 5 = .ok (.bipush 8, 2) := by decide +kernel
theorem dX0_weight_7 : decode cX0_weight 7 = .ok (.imul, 1) := by decide +kernel
theorem dX0_weight_8 : decode cX0_weight 8 = .ok (.iload_n 2, 1) := by decide +kernel
theorem dX0_weight_9 : decode cX0_weight 9 = .ok (.iadd, 1) := by decide +kernel
theorem dX0_weight_10 : decode cX0_weight 10 = .ok (.invokestatic 22, 3) := by decide +kernel
theorem dX0_weight_13 : decode cX0_weight 13 = .ok (.ireturn, 1) := by decide +kernel
theorem dX0_brokenBy_0 : decode cX0_brokenBy 0 = .ok (.aload_n 1, 1) := by decide +kernel
theorem dX0_brokenBy_1 : decode cX0_brokenBy 1 = .ok (.ifnonnull 5, 3) := by decide +kernel
theorem dX0_brokenBy_4 : decode cX0_brokenBy 4 = .ok (.iconst 0, 1) := by decide +kernel
theorem dX0_brokenBy_5 : decode cX0_brokenBy 5 = .ok (.ireturn, 1) := by decide +kernel
theorem dX0_brokenBy_6 : decode cX0_brokenBy 6 = .ok (.iconst 0, 1) := by decide +kernel
theorem dX0_brokenBy_7 : decode cX0_brokenBy 7 = .ok (.istore_n 2, 1) := by decide +kernel
theorem dX0_brokenBy_8 : decode cX0_brokenBy 8 = .ok (.iconst 0, 1) := by decide +kernel
theorem dX0_brokenBy_9 : decode cX0_brokenBy 9 = .ok (.istore_n 3, 1) := by decide +kernel
theorem dX0_brokenBy_10 : decode cX0_brokenBy 10 = .ok (.iload_n 3, 1) := by decide +kernel
theorem dX0_brokenBy_11 : decode cX0_brokenBy 11 = .ok (.bipush 8, 2) := by decide +kernel
theorem dX0_brokenBy_13 : decode cX0_brokenBy 13 = .ok (.if_icmp .ge 59, 3) := by decide +kernel
theorem dX0_brokenBy_16 : decode cX0_brokenBy 16 = .ok (.iconst 0, 1) := by decide +kernel
theorem dX0_brokenBy_17 : decode cX0_brokenBy 17 = .ok (.istore 4, 2) := by decide +kernel
theorem dX0_brokenBy_19 : decode cX0_brokenBy 19 = .ok (.iload 4, 2) := by decide +kernel
theorem dX0_brokenBy_21 : decode cX0_brokenBy 21 = .ok (.bipush 8, 2) := by decide +kernel
theorem dX0_brokenBy_23 : decode cX0_brokenBy 23 = .ok (.if_icmp .ge 43, 3) := by decide +kernel
theorem dX0_brokenBy_26 : decode cX0_brokenBy 26 = .ok (.aload_n 1, 1) := by decide +kernel
theorem dX0_brokenBy_27 : decode cX0_brokenBy 27 = .ok (.iload 4, 2) := by decide +kernel
theorem dX0_brokenBy_29 : decode cX0_brokenBy 29 = .ok (.invokevirtual 30, 3) := by decide +kernel
theorem dX0_brokenBy_32 : decode cX0_brokenBy 32 = .ok (.iconst (-1), 1) := by decide +kernel
theorem dX0_brokenBy_33 : decode cX0_brokenBy 33 = .ok (.if_icmp .eq 27, 3) := by decide +kernel
theorem dX0_brokenBy_36 : decode cX0_brokenBy 36 = .ok (.aload_n 1, 1) := by decide +kernel
theorem dX0_brokenBy_37 : decode cX0_brokenBy 37 = .ok (.iload_n 3, 1) := by decide +kernel
theorem dX0_brokenBy_38 : decode cX0_brokenBy 38 = .ok (.invokevirtual 30, 3) := by decide +kernel
theorem dX0_brokenBy_41 : decode cX0_brokenBy 41 = .ok (.aload_n 1, 1) := by decide +kernel
theorem dX0_brokenBy_42 : decode cX0_brokenBy 42 = .ok (.iload 4, 2) := by decide +kernel
theorem dX0_brokenBy_44 : decode cX0_brokenBy 44 = .ok (.invokevirtual 30, 3) := by decide +kernel
theorem dX0_brokenBy_47 : decode cX0_brokenBy 47 = .ok (.if_icmp .le 13, 3) := by decide +kernel
theorem dX0_brokenBy_50 : decode cX0_brokenBy 50 = .ok (.iload_n 2, 1) := by decide +kernel
theorem dX0_brokenBy_51 : decode cX0_brokenBy 51 = .ok (.aload_n 0, 1) := by decide +kernel
theorem dX0_brokenBy_52 : decode cX0_brokenBy 52 = .ok (.iload_n 3, 1) := by decide +kernel
theorem dX0_brokenBy_53 : decode cX0_brokenBy 53 = .ok (.iload 4, 2) := by decide +kernel
theorem dX0_brokenBy_55 : decode cX0_brokenBy 55 = .ok (.invokevirtual 36, 3) := by decide +kernel
theorem dX0_brokenBy_58 : decode cX0_brokenBy 58 = .ok (.iadd, 1) := by decide +kernel
theorem dX0_brokenBy_59 : decode cX0_brokenBy 59 = .ok (.istore_n 2, 1) := by decide +kernel
theorem dX0_brokenBy_60 : decode cX0_brokenBy 60 = .ok (.iinc 4 1, 3) := by decide +kernel
theorem dX0_brokenBy_63 : decode cX0_brokenBy 63 = .ok (.goto (-44), 3) := by decide +kernel
theorem dX0_brokenBy_66 : decode cX0_brokenBy 66 = .ok (.iinc 3 1, 3) := by decide +kernel
theorem dX0_brokenBy_69 : decode cX0_brokenBy 69 = .ok (.goto (-59), 3) := by decide +kernel
theorem dX0_brokenBy_72 : decode cX0_brokenBy 72 = .ok (.iload_n 2, 1) := by decide +kernel
theorem dX0_brokenBy_73 : decode cX0_brokenBy 73 = .ok (.ireturn, 1) := by decide +kernel
theorem dX0_leastQuarrel_0 : decode cX0_leastQuarrel 0 = .ok (.aload_n 0, 1) := by decide +kernel
theorem dX0_leastQuarrel_1 : decode cX0_leastQuarrel 1 = .ok (.iload_n 1, 1) := by decide +kernel
theorem dX0_leastQuarrel_2 : decode cX0_leastQuarrel 2 = .ok (.iconst (-1), 1) := by decide +kernel
theorem dX0_leastQuarrel_3 : decode cX0_leastQuarrel 3 = .ok (.iconst (-1), 1) := by decide +kernel
theorem dX0_leastQuarrel_4 : decode cX0_leastQuarrel 4 = .ok (.invokevirtual 40, 3) := by decide +kernel
theorem dX0_leastQuarrel_7 : decode cX0_leastQuarrel 7 = .ok (.ireturn, 1) := by decide +kernel
theorem dX0_bedInRow_0 : decode cX0_bedInRow 0 = .ok (.aload_n 0, 1) := by decide +kernel
theorem dX0_bedInRow_1 : decode cX0_bedInRow 1 = .ok (.iload_n 1, 1) := by decide +kernel
theorem dX0_bedInRow_2 : decode cX0_bedInRow 2 = .ok (.iconst (-1), 1) := by decide +kernel
theorem dX0_bedInRow_3 : decode cX0_bedInRow 3 = .ok (.iconst (-1), 1) := by decide +kernel
theorem dX0_bedInRow_4 : decode cX0_bedInRow 4 = .ok (.invokevirtual 40, 3) := by decide +kernel
theorem dX0_bedInRow_7 : decode cX0_bedInRow 7 = .ok (.pop, 1) := by decide +kernel
theorem dX0_bedInRow_8 : decode cX0_bedInRow 8 = .ok (.iconst 0, 1) := by decide +kernel
theorem dX0_bedInRow_9 : decode cX0_bedInRow 9 = .ok (.istore_n 3, 1) := by decide +kernel
theorem dX0_bedInRow_10 : decode cX0_bedInRow 10 = .ok (.iconst (-1), 1) := by decide +kernel
theorem dX0_bedInRow_11 : decode cX0_bedInRow 11 = .ok (.istore 4, 2) := by decide +kernel
theorem dX0_bedInRow_13 : decode cX0_bedInRow 13 = .ok (.iconst 0, 1) := by decide +kernel
theorem dX0_bedInRow_14 : decode cX0_bedInRow 14 = .ok (.istore 5, 2) := by decide +kernel
theorem dX0_bedInRow_16 : decode cX0_bedInRow 16 = .ok (.iload 5, 2) := by decide +kernel
theorem dX0_bedInRow_18 : decode cX0_bedInRow 18 = .ok (.iload_n 2, 1) := by decide +kernel
theorem dX0_bedInRow_19 : decode cX0_bedInRow 19 = .ok (.if_icmp .gt 30, 3) := by decide +kernel
theorem dX0_bedInRow_22 : decode cX0_bedInRow 22 = .ok (.iload 5, 2) := by decide +kernel
theorem dX0_bedInRow_24 : decode cX0_bedInRow 24 = .ok (.iload_n 1, 1) := by decide +kernel
theorem dX0_bedInRow_25 : decode cX0_bedInRow 25 = .ok (.if_icmp .ge 24, 3) := by decide +kernel
theorem dX0_bedInRow_28 : decode cX0_bedInRow 28 = .ok (.aload_n 0, 1) := by decide +kernel
theorem dX0_bedInRow_29 : decode cX0_bedInRow 29 = .ok (.iload_n 1, 1) := by decide +kernel
theorem dX0_bedInRow_30 : decode cX0_bedInRow 30 = .ok (.iload_n 3, 1) := by decide +kernel
theorem dX0_bedInRow_31 : decode cX0_bedInRow 31 = .ok (.invokevirtual 44, 3) := by decide +kernel
theorem dX0_bedInRow_34 : decode cX0_bedInRow 34 = .ok (.istore 4, 2) := by decide +kernel
theorem dX0_bedInRow_36 : decode cX0_bedInRow 36 = .ok (.iload_n 3, 1) := by decide +kernel
theorem dX0_bedInRow_37 : decode cX0_bedInRow 37 = .ok (.iconst 1, 1) := by decide +kernel
theorem dX0_bedInRow_38 : decode cX0_bedInRow 38 = .ok (.iload 4, 2) := by decide +kernel
theorem dX0_bedInRow_40 : decode cX0_bedInRow 40 = .ok (.ishl, 1) := by decide +kernel
theorem dX0_bedInRow_41 : decode cX0_bedInRow 41 = .ok (.ior, 1) := by decide +kernel
theorem dX0_bedInRow_42 : decode cX0_bedInRow 42 = .ok (.istore_n 3, 1) := by decide +kernel
theorem dX0_bedInRow_43 : decode cX0_bedInRow 43 = .ok (.iinc 5 1, 3) := by decide +kernel
theorem dX0_bedInRow_46 : decode cX0_bedInRow 46 = .ok (.goto (-30), 3) := by decide +kernel
theorem dX0_bedInRow_49 : decode cX0_bedInRow 49 = .ok (.iload 4, 2) := by decide +kernel
theorem dX0_bedInRow_51 : decode cX0_bedInRow 51 = .ok (.ireturn, 1) := by decide +kernel
theorem dX0_firstOfBest_0 : decode cX0_firstOfBest 0 = .ok (.iconst 0, 1) := by decide +kernel
theorem dX0_firstOfBest_1 : decode cX0_firstOfBest 1 = .ok (.istore_n 3, 1) := by decide +kernel
theorem dX0_firstOfBest_2 : decode cX0_firstOfBest 2 = .ok (.iload_n 3, 1) := by decide +kernel
theorem dX0_firstOfBest_3 : decode cX0_firstOfBest 3 = .ok (.iload_n 1, 1) := by decide +kernel
theorem dX0_firstOfBest_4 : decode cX0_firstOfBest 4 = .ok (.if_icmp .ge 50, 3) := by decide +kernel
theorem dX0_firstOfBest_7 : decode cX0_firstOfBest 7 = .ok (.iload_n 2, 1) := by decide +kernel
theorem dX0_firstOfBest_8 : decode cX0_firstOfBest 8 = .ok (.iload_n 3, 1) := by decide +kernel
theorem dX0_firstOfBest_9 : decode cX0_firstOfBest 9 = .ok (.invokestatic 47, 3) := by decide +kernel
theorem dX0_firstOfBest_12 : decode cX0_firstOfBest 12 = .ok (.ifCond .ne 36, 3) := by decide +kernel
theorem dX0_firstOfBest_15 : decode cX0_firstOfBest 15 = .ok (.aload_n 0, 1) := by decide +kernel
theorem dX0_firstOfBest_16 : decode cX0_firstOfBest 16 = .ok (.iload_n 1, 1) := by decide +kernel
theorem dX0_firstOfBest_17 : decode cX0_firstOfBest 17 = .ok (.iload_n 2, 1) := by decide +kernel
theorem dX0_firstOfBest_18 : decode cX0_firstOfBest 18 = .ok (.iload_n 3, 1) := by decide +kernel
theorem dX0_firstOfBest_19 : decode cX0_firstOfBest 19 = .ok (.invokevirtual 51, 3) := by decide +kernel
theorem dX0_firstOfBest_22 : decode cX0_firstOfBest 22 = .ok (.aload_n 0, 1) := by decide +kernel
theorem dX0_firstOfBest_23 : decode cX0_firstOfBest 23 = .ok (.getfield 15, 3) := by decide +kernel
theorem dX0_firstOfBest_26 : decode cX0_firstOfBest 26 = .ok (.iload_n 2, 1) := by decide +kernel
theorem dX0_firstOfBest_27 : decode cX0_firstOfBest 27 = .ok (.iconst 1, 1) := by decide +kernel
theorem dX0_firstOfBest_28 : decode cX0_firstOfBest 28 = .ok (.iload_n 3, 1) := by decide +kernel
theorem dX0_firstOfBest_29 : decode cX0_firstOfBest 29 = .ok (.ishl, 1) := by decide +kernel
theorem dX0_firstOfBest_30 : decode cX0_firstOfBest 30 = .ok (.ior, 1) := by decide +kernel
theorem dX0_firstOfBest_31 : decode cX0_firstOfBest 31 = .ok (.invokestatic 22, 3) := by decide +kernel
theorem dX0_firstOfBest_34 : decode cX0_firstOfBest 34 = .ok (.iadd, 1) := by decide +kernel
theorem dX0_firstOfBest_35 : decode cX0_firstOfBest 35 = .ok (.aload_n 0, 1) := by decide +kernel
theorem dX0_firstOfBest_36 : decode cX0_firstOfBest 36 = .ok (.getfield 15, 3) := by decide +kernel
theorem dX0_firstOfBest_39 : decode cX0_firstOfBest 39 = .ok (.iload_n 2, 1) := by decide +kernel
theorem dX0_firstOfBest_40 : decode cX0_firstOfBest 40 = .ok (.invokestatic 22, 3) := by decide +kernel
theorem dX0_firstOfBest_43 : decode cX0_firstOfBest 43 = .ok (.if_icmp .ne 5, 3) := by decide +kernel
theorem dX0_firstOfBest_46 : decode cX0_firstOfBest 46 = .ok (.iload_n 3, 1) := by decide +kernel
theorem dX0_firstOfBest_47 : decode cX0_firstOfBest 47 = .ok (.ireturn, 1) := by decide +kernel
theorem dX0_firstOfBest_48 : decode cX0_firstOfBest 48 = .ok (.iinc 3 1, 3) := by decide +kernel
theorem dX0_firstOfBest_51 : decode cX0_firstOfBest 51 = .ok (.goto (-49), 3) := by decide +kernel
theorem dX0_firstOfBest_54 : decode cX0_firstOfBest 54 = .ok (.iconst 0, 1) := by decide +kernel
theorem dX0_firstOfBest_55 : decode cX0_firstOfBest 55 = .ok (.ireturn, 1) := by decide +kernel
theorem dX0_surely_0 : decode cX0_surely 0 = .ok (.aload_n 0, 1) := by decide +kernel
theorem dX0_surely_1 : decode cX0_surely 1 = .ok (.iload_n 1, 1) := by decide +kernel
theorem dX0_surely_2 : decode cX0_surely 2 = .ok (.iconst (-1), 1) := by decide +kernel
theorem dX0_surely_3 : decode cX0_surely 3 = .ok (.iconst (-1), 1) := by decide +kernel
theorem dX0_surely_4 : decode cX0_surely 4 = .ok (.invokevirtual 40, 3) := by decide +kernel
theorem dX0_surely_7 : decode cX0_surely 7 = .ok (.istore 4, 2) := by decide +kernel
theorem dX0_surely_9 : decode cX0_surely 9 = .ok (.aload_n 0, 1) := by decide +kernel
theorem dX0_surely_10 : decode cX0_surely 10 = .ok (.iload_n 1, 1) := by decide +kernel
theorem dX0_surely_11 : decode cX0_surely 11 = .ok (.iload_n 3, 1) := by decide +kernel
theorem dX0_surely_12 : decode cX0_surely 12 = .ok (.iload_n 2, 1) := by decide +kernel
theorem dX0_surely_13 : decode cX0_surely 13 = .ok (.invokevirtual 40, 3) := by decide +kernel
theorem dX0_surely_16 : decode cX0_surely 16 = .ok (.iload 4, 2) := by decide +kernel
theorem dX0_surely_18 : decode cX0_surely 18 = .ok (.if_icmp .le 5, 3) := by decide +kernel
theorem dX0_surely_21 : decode cX0_surely 21 = .ok (.iconst 1, 1) := by decide +kernel
theorem dX0_surely_22 : decode cX0_surely 22 = .ok (.ireturn, 1) := by decide +kernel
theorem dX0_surely_23 : decode cX0_surely 23 = .ok (.aload_n 0, 1) := by decide +kernel
theorem dX0_surely_24 : decode cX0_surely 24 = .ok (.iload_n 1, 1) := by decide +kernel
theorem dX0_surely_25 : decode cX0_surely 25 = .ok (.iload_n 2, 1) := by decide +kernel
theorem dX0_surely_26 : decode cX0_surely 26 = .ok (.iload_n 3, 1) := by decide +kernel
theorem dX0_surely_27 : decode cX0_surely 27 = .ok (.invokevirtual 40, 3) := by decide +kernel
theorem dX0_surely_30 : decode cX0_surely 30 = .ok (.iload 4, 2) := by decide +kernel
theorem dX0_surely_32 : decode cX0_surely 32 = .ok (.if_icmp .le 7, 3) := by decide +kernel
theorem dX0_surely_35 : decode cX0_surely 35 = .ok (.iconst 2, 1) := by decide +kernel
theorem dX0_surely_36 : decode cX0_surely 36 = .ok (.goto 4, 3) := by decide +kernel
theorem dX0_surely_39 : decode cX0_surely 39 = .ok (.iconst 0, 1) := by decide +kernel
theorem dX0_surely_40 : decode cX0_surely 40 = .ok (.ireturn, 1) := by decide +kernel
theorem dX0_quarrelWith_0 : decode cX0_quarrelWith 0 = .ok (.iconst 1, 1) := by decide +kernel
theorem dX0_quarrelWith_1 : decode cX0_quarrelWith 1 = .ok (.iload_n 1, 1) := by decide +kernel
theorem dX0_quarrelWith_2 : decode cX0_quarrelWith 2 = .ok (.ishl, 1) := by decide +kernel
theorem dX0_quarrelWith_3 : decode cX0_quarrelWith 3 = .ok (.iconst 1, 1) := by decide +kernel
theorem dX0_quarrelWith_4 : decode cX0_quarrelWith 4 = .ok (.isub, 1) := by decide +kernel
theorem dX0_quarrelWith_5 : decode cX0_quarrelWith 5 = .ok (.istore 4, 2) := by decide +kernel
theorem dX0_quarrelWith_7 : decode cX0_quarrelWith 7 = .ok (.aload_n 0, 1) := by decide +kernel
theorem dX0_quarrelWith_8 : decode cX0_quarrelWith 8 = .ok (.getfield 15, 3) := by decide +kernel
theorem dX0_quarrelWith_11 : decode cX0_quarrelWith 11 = .ok (.iload 4, 2) := by decide +kernel
theorem dX0_quarrelWith_13 : decode cX0_quarrelWith 13 = .ok (.iconst 0, 1) := by decide +kernel
theorem dX0_quarrelWith_14 : decode cX0_quarrelWith 14 = .ok (.invokestatic 26, 3) := by decide +kernel
theorem dX0_quarrelWith_17 : decode cX0_quarrelWith 17 = .ok (.iload 4, 2) := by decide +kernel
theorem dX0_quarrelWith_19 : decode cX0_quarrelWith 19 = .ok (.iconst 1, 1) := by decide +kernel
theorem dX0_quarrelWith_20 : decode cX0_quarrelWith 20 = .ok (.isub, 1) := by decide +kernel
theorem dX0_quarrelWith_21 : decode cX0_quarrelWith 21 = .ok (.istore 5, 2) := by decide +kernel
theorem dX0_quarrelWith_23 : decode cX0_quarrelWith 23 = .ok (.iload 5, 2) := by decide +kernel
theorem dX0_quarrelWith_25 : decode cX0_quarrelWith 25 = .ok (.ifCond .lt 98, 3) := by decide +kernel
theorem dX0_quarrelWith_28 : decode cX0_quarrelWith 28 = .ok (.ldc 54, 2) := by decide +kernel
theorem dX0_quarrelWith_30 : decode cX0_quarrelWith 30 = .ok (.istore 6, 2) := by decide +kernel
theorem dX0_quarrelWith_32 : decode cX0_quarrelWith 32 = .ok (.iconst 0, 1) := by decide +kernel
theorem dX0_quarrelWith_33 : decode cX0_quarrelWith 33 = .ok (.istore 7, 2) := by decide +kernel
theorem dX0_quarrelWith_35 : decode cX0_quarrelWith 35 = .ok (.iload 7, 2) := by decide +kernel
theorem dX0_quarrelWith_37 : decode cX0_quarrelWith 37 = .ok (.iload_n 1, 1) := by decide +kernel
theorem dX0_quarrelWith_38 : decode cX0_quarrelWith 38 = .ok (.if_icmp .ge 68, 3) := by decide +kernel
theorem dX0_quarrelWith_41 : decode cX0_quarrelWith 41 = .ok (.iload 5, 2) := by decide +kernel
theorem dX0_quarrelWith_43 : decode cX0_quarrelWith 43 = .ok (.iload 7, 2) := by decide +kernel
theorem dX0_quarrelWith_45 : decode cX0_quarrelWith 45 = .ok (.invokestatic 47, 3) := by decide +kernel
theorem dX0_quarrelWith_48 : decode cX0_quarrelWith 48 = .ok (.ifCond .ne 52, 3) := by decide +kernel
theorem dX0_quarrelWith_51 : decode cX0_quarrelWith 51 = .ok (.iload 7, 2) := by decide +kernel
theorem dX0_quarrelWith_53 : decode cX0_quarrelWith 53 = .ok (.iload_n 3, 1) := by decide +kernel
theorem dX0_quarrelWith_54 : decode cX0_quarrelWith 54 = .ok (.if_icmp .ne 15, 3) := by decide +kernel
theorem dX0_quarrelWith_57 : decode cX0_quarrelWith 57 = .ok (.iload 5, 2) := by decide +kernel
theorem dX0_quarrelWith_59 : decode cX0_quarrelWith 59 = .ok (.iload_n 2, 1) := by decide +kernel
theorem dX0_quarrelWith_60 : decode cX0_quarrelWith 60 = .ok (.invokestatic 47, 3) := by decide +kernel
theorem dX0_quarrelWith_63 : decode cX0_quarrelWith 63 = .ok (.ifCond .ne 6, 3) := by decide +kernel
theorem dX0_quarrelWith_66 : decode cX0_quarrelWith 66 = .ok (.goto 34, 3) := by decide +kernel
theorem dX0_quarrelWith_69 : decode cX0_quarrelWith 69 = .ok (.iload 6, 2) := by decide +kernel
theorem dX0_quarrelWith_71 : decode cX0_quarrelWith 71 = .ok (.aload_n 0, 1) := by decide +kernel
theorem dX0_quarrelWith_72 : decode cX0_quarrelWith 72 = .ok (.iload_n 1, 1) := by decide +kernel
theorem dX0_quarrelWith_73 : decode cX0_quarrelWith 73 = .ok (.iload 5, 2) := by decide +kernel
theorem dX0_quarrelWith_75 : decode cX0_quarrelWith 75 = .ok (.iload 7, 2) := by decide +kernel
theorem dX0_quarrelWith_77 : decode cX0_quarrelWith 77 = .ok (.invokevirtual 51, 3) := by decide +kernel
theorem dX0_quarrelWith_80 : decode cX0_quarrelWith 80 = .ok (.aload_n 0, 1) := by decide +kernel
theorem dX0_quarrelWith_81 : decode cX0_quarrelWith 81 = .ok (.getfield 15, 3) := by decide +kernel
theorem dX0_quarrelWith_84 : decode cX0_quarrelWith 84 = .ok (.iload 5, 2) := by decide +kernel
theorem dX0_quarrelWith_86 : decode cX0_quarrelWith 86 = .ok (.iconst 1, 1) := by decide +kernel
theorem dX0_quarrelWith_87 : decode cX0_quarrelWith 87 = .ok (.iload 7, 2) := by decide +kernel
theorem dX0_quarrelWith_89 : decode cX0_quarrelWith 89 = .ok (.ishl, 1) := by decide +kernel
theorem dX0_quarrelWith_90 : decode cX0_quarrelWith 90 = .ok (.ior, 1) := by decide +kernel
theorem dX0_quarrelWith_91 : decode cX0_quarrelWith 91 = .ok (.invokestatic 22, 3) := by decide +kernel
theorem dX0_quarrelWith_94 : decode cX0_quarrelWith 94 = .ok (.iadd, 1) := by decide +kernel
theorem dX0_quarrelWith_95 : decode cX0_quarrelWith 95 = .ok (.invokestatic 55, 3) := by decide +kernel
theorem dX0_quarrelWith_98 : decode cX0_quarrelWith 98 = .ok (.istore 6, 2) := by decide +kernel
theorem dX0_quarrelWith_100 : decode cX0_quarrelWith 100 = .ok (.iinc 7 1, 3) := by decide +kernel
theorem dX0_quarrelWith_103 : decode cX0_quarrelWith 103 = .ok (.goto (-68), 3) := by decide +kernel
theorem dX0_quarrelWith_106 : decode cX0_quarrelWith 106 = .ok (.aload_n 0, 1) := by decide +kernel
theorem dX0_quarrelWith_107 : decode cX0_quarrelWith 107 = .ok (.getfield 15, 3) := by decide +kernel
theorem dX0_quarrelWith_110 : decode cX0_quarrelWith 110 = .ok (.iload 5, 2) := by decide +kernel
theorem dX0_quarrelWith_112 : decode cX0_quarrelWith 112 = .ok (.iload 6, 2) := by decide +kernel
theorem dX0_quarrelWith_114 : decode cX0_quarrelWith 114 = .ok (.invokestatic 26, 3) := by decide +kernel
theorem dX0_quarrelWith_117 : decode cX0_quarrelWith 117 = .ok (.iinc 5 (-1), 3) := by decide +kernel
theorem dX0_quarrelWith_120 : decode cX0_quarrelWith 120 = .ok (.goto (-97), 3) := by decide +kernel
theorem dX0_quarrelWith_123 : decode cX0_quarrelWith 123 = .ok (.aload_n 0, 1) := by decide +kernel
theorem dX0_quarrelWith_124 : decode cX0_quarrelWith 124 = .ok (.getfield 15, 3) := by decide +kernel
theorem dX0_quarrelWith_127 : decode cX0_quarrelWith 127 = .ok (.iconst 0, 1) := by decide +kernel
theorem dX0_quarrelWith_128 : decode cX0_quarrelWith 128 = .ok (.invokestatic 22, 3) := by decide +kernel
theorem dX0_quarrelWith_131 : decode cX0_quarrelWith 131 = .ok (.ireturn, 1) := by decide +kernel
theorem dX0_breach_0 : decode cX0_breach 0 = .ok (.iconst 0, 1) := by decide +kernel
theorem dX0_breach_1 : decode cX0_breach 1 = .ok (.istore 4, 2) := by decide +kernel
theorem dX0_breach_3 : decode cX0_breach 3 = .ok (.iconst 0, 1) := by decide +kernel
theorem dX0_breach_4 : decode cX0_breach 4 = .ok (.istore 5, 2) := by decide +kernel
theorem dX0_breach_6 : decode cX0_breach 6 = .ok (.iload 5, 2) := by decide +kernel
theorem dX0_breach_8 : decode cX0_breach 8 = .ok (.iload_n 1, 1) := by decide +kernel
theorem dX0_breach_9 : decode cX0_breach 9 = .ok (.if_icmp .ge 30, 3) := by decide +kernel
theorem dX0_breach_12 : decode cX0_breach 12 = .ok (.iload_n 2, 1) := by decide +kernel
theorem dX0_breach_13 : decode cX0_breach 13 = .ok (.iload 5, 2) := by decide +kernel
theorem dX0_breach_15 : decode cX0_breach 15 = .ok (.invokestatic 47, 3) := by decide +kernel
theorem dX0_breach_18 : decode cX0_breach 18 = .ok (.ifCond .eq 15, 3) := by decide +kernel
theorem dX0_breach_21 : decode cX0_breach 21 = .ok (.iload 4, 2) := by decide +kernel
theorem dX0_breach_23 : decode cX0_breach 23 = .ok (.aload_n 0, 1) := by decide +kernel
theorem dX0_breach_24 : decode cX0_breach 24 = .ok (.iload_n 3, 1) := by decide +kernel
theorem dX0_breach_25 : decode cX0_breach 25 = .ok (.iload 5, 2) := by decide +kernel
theorem dX0_breach_27 : decode cX0_breach 27 = .ok (.invokevirtual 36, 3) := by decide +kernel
theorem dX0_breach_30 : decode cX0_breach 30 = .ok (.iadd, 1) := by decide +kernel
theorem dX0_breach_31 : decode cX0_breach 31 = .ok (.istore 4, 2) := by decide +kernel
theorem dX0_breach_33 : decode cX0_breach 33 = .ok (.iinc 5 1, 3) := by decide +kernel
theorem dX0_breach_36 : decode cX0_breach 36 = .ok (.goto (-30), 3) := by decide +kernel
theorem dX0_breach_39 : decode cX0_breach 39 = .ok (.iload 4, 2) := by decide +kernel
theorem dX0_breach_41 : decode cX0_breach 41 = .ok (.ireturn, 1) := by decide +kernel
theorem dX0_isIn_0 : decode cX0_isIn 0 = .ok (.iload_n 0, 1) := by decide +kernel
theorem dX0_isIn_1 : decode cX0_isIn 1 = .ok (.iload_n 1, 1) := by decide +kernel
theorem dX0_isIn_2 : decode cX0_isIn 2 = .ok (.ishr, 1) := by decide +kernel
theorem dX0_isIn_3 : decode cX0_isIn 3 = .ok (.iconst 1, 1) := by decide +kernel
theorem dX0_isIn_4 : decode cX0_isIn 4 = .ok (.iand, 1) := by decide +kernel
theorem dX0_isIn_5 : decode cX0_isIn 5 = .ok (.ifCond .eq 7, 3) := by decide +kernel
theorem dX0_isIn_8 : decode cX0_isIn 8 = .ok (.iconst 1, 1) := by decide +kernel
theorem dX0_isIn_9 : decode cX0_isIn 9 = .ok (.goto 4, 3) := by decide +kernel
theorem dX0_isIn_12 : decode cX0_isIn 12 = .ok (.iconst 0, 1) := by decide +kernel
theorem dX0_isIn_13 : decode cX0_isIn 13 = .ok (.ireturn, 1) := by decide +kernel
theorem dX1_init_0 : decode cX1_init 0 = .ok (.aload_n 0, 1) := by decide +kernel
theorem dX1_init_1 : decode cX1_init 1 = .ok (.invokespecial 3, 3) := by decide +kernel
theorem dX1_init_4 : decode cX1_init 4 = .ok (.aload_n 0, 1) := by decide +kernel
theorem dX1_init_5 : decode cX1_init 5 = .ok (.bipush 80, 2) := by decide +kernel
theorem dX1_init_7 : decode cX1_init 7 = .ok (.newarray .int, 2) := by decide +kernel
theorem dX1_init_9 : decode cX1_init 9 = .ok (.putfield 9, 3) := by decide +kernel
theorem dX1_init_12 : decode cX1_init 12 = .ok (.aload_n 0, 1) := by decide +kernel
theorem dX1_init_13 : decode cX1_init 13 = .ok (.invokevirtual 15, 3) := by decide +kernel
theorem dX1_init_16 : decode cX1_init 16 = .ok (.return_, 1) := by decide +kernel
theorem dX1_become_0 : decode cX1_become 0 = .ok (.aload_n 1, 1) := by decide +kernel
theorem dX1_become_1 : decode cX1_become 1 = .ok (.ifnull 18, 3) := by decide +kernel
theorem dX1_become_4 : decode cX1_become 4 = .ok (.aload_n 1, 1) := by decide +kernel
theorem dX1_become_5 : decode cX1_become 5 = .ok (.getfield 9, 3) := by decide +kernel
theorem dX1_become_8 : decode cX1_become 8 = .ok (.iconst 0, 1) := by decide +kernel
theorem dX1_become_9 : decode cX1_become 9 = .ok (.aload_n 0, 1) := by decide +kernel
theorem dX1_become_10 : decode cX1_become 10 = .ok (.getfield 9, 3) := by decide +kernel
theorem dX1_become_13 : decode cX1_become 13 = .ok (.iconst 0, 1) := by decide +kernel
theorem dX1_become_14 : decode cX1_become 14 = .ok (.bipush 80, 2) := by decide +kernel
theorem dX1_become_16 : decode cX1_become 16 = .ok (.invokestatic 18, 3) := by decide +kernel
theorem dX1_become_19 : decode cX1_become 19 = .ok (.return_, 1) := by decide +kernel
theorem dX1_begin_0 : decode cX1_begin 0 = .ok (.aload_n 0, 1) := by decide +kernel
theorem dX1_begin_1 : decode cX1_begin 1 = .ok (.getfield 9, 3) := by decide +kernel
theorem dX1_begin_4 : decode cX1_begin 4 = .ok (.iconst 0, 1) := by decide +kernel
theorem dX1_begin_5 : decode cX1_begin 5 = .ok (.bipush 40, 2) := by decide +kernel
theorem dX1_begin_7 : decode cX1_begin 7 = .ok (.bipush 15, 2) := by decide +kernel
theorem dX1_begin_9 : decode cX1_begin 9 = .ok (.invokestatic 22, 3) := by decide +kernel
theorem dX1_begin_12 : decode cX1_begin 12 = .ok (.aload_n 0, 1) := by decide +kernel
theorem dX1_begin_13 : decode cX1_begin 13 = .ok (.getfield 9, 3) := by decide +kernel
theorem dX1_begin_16 : decode cX1_begin 16 = .ok (.bipush 40, 2) := by decide +kernel
theorem dX1_begin_18 : decode cX1_begin 18 = .ok (.bipush 80, 2) := by decide +kernel
theorem dX1_begin_20 : decode cX1_begin 20 = .ok (.iconst (-1), 1) := by decide +kernel
theorem dX1_begin_21 : decode cX1_begin 21 = .ok (.invokestatic 22, 3) := by decide +kernel
theorem dX1_begin_24 : decode cX1_begin 24 = .ok (.return_, 1) := by decide +kernel
theorem dX1_tell_0 : decode cX1_tell 0 = .ok (.aload_n 0, 1) := by decide +kernel
theorem dX1_tell_1 : decode cX1_tell 1 = .ok (.invokevirtual 15, 3) := by decide +kernel
theorem dX1_tell_4 : decode cX1_tell 4 = .ok (.iconst 0, 1) := by decide +kernel
theorem dX1_tell_5 : decode cX1_tell 5 = .ok (.istore 4, 2) := by decide +kernel
theorem dX1_tell_7 : decode cX1_tell 7 = .ok (.iload 4, 2) := by decide +kernel
theorem dX1_tell_9 : decode cX1_tell 9 = .ok (.iload_n 2, 1) := by decide +kernel
theorem dX1_tell_10 : decode cX1_tell 10 = .ok (.if_icmp .ge 17, 3) := by decide +kernel
theorem dX1_tell_13 : decode cX1_tell 13 = .ok (.aload_n 0, 1) := by decide +kernel
theorem dX1_tell_14 : decode cX1_tell 14 = .ok (.aload_n 1, 1) := by decide +kernel
theorem dX1_tell_15 : decode cX1_tell 15 = .ok (.iload 4, 2) := by decide +kernel
theorem dX1_tell_17 : decode cX1_tell 17 = .ok (.iload_n 3, 1) := by decide +kernel
theorem dX1_tell_18 : decode cX1_tell 18 = .ok (.invokevirtual 26, 3) := by decide +kernel
theorem dX1_tell_21 : decode cX1_tell 21 = .ok (.iinc 4 1, 3) := by decide +kernel
theorem dX1_tell_24 : decode cX1_tell 24 = .ok (.goto (-17), 3) := by decide +kernel
theorem dX1_tell_27 : decode cX1_tell 27 = .ok (.return_, 1) := by decide +kernel
theorem dX1_goOnFrom_0 : decode cX1_goOnFrom 0 = .ok (.aload_n 0, 1) := by decide +kernel
theorem dX1_goOnFrom_1 : decode cX1_goOnFrom 1 = .ok (.aload_n 1, 1) := by decide +kernel
theorem dX1_goOnFrom_2 : decode cX1_goOnFrom 2 = .ok (.invokevirtual 30, 3) := by decide +kernel
theorem dX1_goOnFrom_5 : decode cX1_goOnFrom 5 = .ok (.iload_n 3, 1) := by decide +kernel
theorem dX1_goOnFrom_6 : decode cX1_goOnFrom 6 = .ok (.istore 6, 2) := by decide +kernel
theorem dX1_goOnFrom_8 : decode cX1_goOnFrom 8 = .ok (.iload 6, 2) := by decide +kernel
theorem dX1_goOnFrom_10 : decode cX1_goOnFrom 10 = .ok (.iload 4, 2) := by decide +kernel
theorem dX1_goOnFrom_12 : decode cX1_goOnFrom 12 = .ok (.if_icmp .ge 18, 3) := by decide +kernel
theorem dX1_goOnFrom_15 : decode cX1_goOnFrom 15 = .ok (.aload_n 0, 1) := by decide +kernel
theorem dX1_goOnFrom_16 : decode cX1_goOnFrom 16 = .ok (.aload_n 2, 1) := by decide +kernel
theorem dX1_goOnFrom_17 : decode cX1_goOnFrom 17 = .ok (.iload 6, 2) := by decide +kernel
theorem dX1_goOnFrom_19 : decode cX1_goOnFrom 19 = .ok (.iload 5, 2) := by decide +kernel
theorem dX1_goOnFrom_21 : decode cX1_goOnFrom 21 = .ok (.invokevirtual 26, 3) := by decide +kernel
theorem dX1_goOnFrom_24 : decode cX1_goOnFrom 24 = .ok (.iinc 6 1, 3) := by decide +kernel
theorem dX1_goOnFrom_27 : decode cX1_goOnFrom 27 = .ok (.goto (-19), 3) := by decide +kernel
theorem dX1_goOnFrom_30 : decode cX1_goOnFrom 30 = .ok (.return_, 1) := by decide +kernel
theorem dX1_befall_0 : decode cX1_befall 0 = .ok (.aload_n 1, 1) := by decide +kernel
theorem dX1_befall_1 : decode cX1_befall 1 = .ok (.ifnonnull 4, 3) := by decide +kernel
theorem dX1_befall_4 : decode cX1_befall 4 = .ok (.return_, 1) := by decide +kernel
theorem dX1_befall_5 : decode cX1_befall 5 = .ok (.iload_n 3, 1) := by decide +kernel
theorem dX1_befall_6 : decode cX1_befall 6 = .ok (.invokestatic 34, 3) := by decide +kernel
theorem dX1_befall_9 : decode cX1_befall 9 = .ok (.istore 4, 2) := by decide +kernel
theorem dX1_befall_11 : decode cX1_befall 11 = .ok (.iload_n 3, 1) := by decide +kernel
theorem dX1_befall_12 : decode cX1_befall 12 = .ok (.invokestatic 38, 3) := by decide +kernel
theorem dX1_befall_15 : decode cX1_befall 15 = .ok (.istore 5, 2) := by decide +kernel
theorem dX1_befall_17 : decode cX1_befall 17 = .ok (.aload_n 1, 1) := by decide +kernel
theorem dX1_befall_18 : decode cX1_befall 18 = .ok (.iload_n 2, 1) := by decide +kernel
theorem dX1_befall_19 : decode cX1_befall 19 = .ok (.iconst 0, 1) := by decide +kernel
theorem dX1_befall_20 : decode cX1_befall 20 = .ok (.invokevirtual 41, 3) := by decide +kernel
theorem dX1_befall_23 : decode cX1_befall 23 = .ok (.istore 6, 2) := by decide +kernel
theorem dX1_befall_25 : decode cX1_befall 25 = .ok (.aload_n 1, 1) := by decide +kernel
theorem dX1_befall_26 : decode cX1_befall 26 = .ok (.iload_n 2, 1) := by decide +kernel
theorem dX1_befall_27 : decode cX1_befall 27 = .ok (.iconst 1, 1) := by decide +kernel
theorem dX1_befall_28 : decode cX1_befall 28 = .ok (.invokevirtual 41, 3) := by decide +kernel
theorem dX1_befall_31 : decode cX1_befall 31 = .ok (.istore 7, 2) := by decide +kernel
theorem dX1_befall_33 : decode cX1_befall 33 = .ok (.aload_n 1, 1) := by decide +kernel
theorem dX1_befall_34 : decode cX1_befall 34 = .ok (.iload_n 2, 1) := by decide +kernel
theorem dX1_befall_35 : decode cX1_befall 35 = .ok (.iconst 2, 1) := by decide +kernel
theorem dX1_befall_36 : decode cX1_befall 36 = .ok (.invokevirtual 41, 3) := by decide +kernel
theorem dX1_befall_39 : decode cX1_befall 39 = .ok (.istore 8, 2) := by decide +kernel
theorem dX1_befall_41 : decode cX1_befall 41 = .ok (.aload_n 1, 1) := by decide +kernel
theorem dX1_befall_42 : decode cX1_befall 42 = .ok (.iload_n 2, 1) := by decide +kernel
theorem dX1_befall_43 : decode cX1_befall 43 = .ok (.iconst 3, 1) := by decide +kernel
theorem dX1_befall_44 : decode cX1_befall 44 = .ok (.invokevirtual 41, 3) := by decide +kernel
theorem dX1_befall_47 : decode cX1_befall 47 = .ok (.istore 9, 2) := by decide +kernel
theorem dX1_befall_49 : decode cX1_befall 49 = .ok (.aload_n 1, 1) := by decide +kernel
theorem dX1_befall_50 : decode cX1_befall 50 = .ok (.iload_n 2, 1) := by decide +kernel
theorem dX1_befall_51 : decode cX1_befall 51 = .ok (.invokevirtual 47, 3) := by decide +kernel
theorem dX1_befall_54 : decode cX1_befall 54 = .ok (.iconst 5, 1) := by decide +kernel
theorem dX1_befall_55 : decode cX1_befall 55 = .ok (.if_icmp .ne 8, 3) := by decide +kernel
theorem dX1_befall_58 : decode cX1_befall 58 = .ok (.iload 7, 2) := by decide +kernel
theorem dX1_befall_60 : decode cX1_befall 60 = .ok (.goto 5, 3) := by decide +kernel
theorem dX1_befall_63 : decode cX1_befall 63 = .ok (.iload 6, 2) := by decide +kernel
theorem dX1_befall_65 : decode cX1_befall 65 = .ok (.iload 4, 2) := by decide +kernel
theorem dX1_befall_67 : decode cX1_befall 67 = .ok (.iload 5, 2) := by decide +kernel
theorem dX1_befall_69 : decode cX1_befall 69 = .ok (.invokestatic 52, 3) := by decide +kernel
theorem dX1_befall_72 : decode cX1_befall 72 = .ok (.istore 10, 2) := by decide +kernel
theorem dX1_befall_74 : decode cX1_befall 74 = .ok (.aload_n 1, 1) := by decide +kernel
theorem dX1_befall_75 : decode cX1_befall 75 = .ok (.iload_n 2, 1) := by decide +kernel
theorem dX1_befall_76 : decode cX1_befall 76 = .ok (.invokevirtual 47, 3) := by decide +kernel
theorem dX1_befall_79 : decode cX1_befall 79 = .ok (.tableswitch 174 0 5 #[37, 48, 70, 92, 121, 145], 37) := by decide +kernel
theorem dX1_befall_116 : decode cX1_befall 116 = .ok (.aload_n 0, 1) := by decide +kernel
theorem dX1_befall_117 : decode cX1_befall 117 = .ok (.iload 6, 2) := by decide +kernel
theorem dX1_befall_119 : decode cX1_befall 119 = .ok (.iload 7, 2) := by decide +kernel
theorem dX1_befall_121 : decode cX1_befall 121 = .ok (.invokevirtual 56, 3) := by decide +kernel
theorem dX1_befall_124 : decode cX1_befall 124 = .ok (.goto 129, 3) := by decide +kernel
theorem dX1_befall_127 : decode cX1_befall 127 = .ok (.aload_n 0, 1) := by decide +kernel
theorem dX1_befall_128 : decode cX1_befall 128 = .ok (.bipush (-40), 2) := by decide +kernel
theorem dX1_befall_130 : decode cX1_befall 130 = .ok (.bipush 39, 2) := by decide +kernel
theorem dX1_befall_132 : decode cX1_befall 132 = .ok (.iload 6, 2) := by decide +kernel
theorem dX1_befall_134 : decode cX1_befall 134 = .ok (.iload 7, 2) := by decide +kernel
theorem dX1_befall_136 : decode cX1_befall 136 = .ok (.iload 4, 2) := by decide +kernel
theorem dX1_befall_138 : decode cX1_befall 138 = .ok (.iload 5, 2) := by decide +kernel
theorem dX1_befall_140 : decode cX1_befall 140 = .ok (.invokestatic 60, 3) := by decide +kernel
theorem dX1_befall_143 : decode cX1_befall 143 = .ok (.invokevirtual 64, 3) := by decide +kernel
theorem dX1_befall_146 : decode cX1_befall 146 = .ok (.goto 107, 3) := by decide +kernel
theorem dX1_befall_149 : decode cX1_befall 149 = .ok (.aload_n 0, 1) := by decide +kernel
theorem dX1_befall_150 : decode cX1_befall 150 = .ok (.bipush (-40), 2) := by decide +kernel
theorem dX1_befall_152 : decode cX1_befall 152 = .ok (.bipush 39, 2) := by decide +kernel
theorem dX1_befall_154 : decode cX1_befall 154 = .ok (.iload 7, 2) := by decide +kernel
theorem dX1_befall_156 : decode cX1_befall 156 = .ok (.iload 8, 2) := by decide +kernel
theorem dX1_befall_158 : decode cX1_befall 158 = .ok (.iload 9, 2) := by decide +kernel
theorem dX1_befall_160 : decode cX1_befall 160 = .ok (.iload 10, 2) := by decide +kernel
theorem dX1_befall_162 : decode cX1_befall 162 = .ok (.invokestatic 68, 3) := by decide +kernel
theorem dX1_befall_165 : decode cX1_befall 165 = .ok (.invokevirtual 64, 3) := by decide +kernel
theorem dX1_befall_168 : decode cX1_befall 168 = .ok (.goto 85, 3) := by decide +kernel
theorem dX1_befall_171 : decode cX1_befall 171 = .ok (.aload_n 0, 1) := by decide +kernel
theorem dX1_befall_172 : decode cX1_befall 172 = .ok (.iload 7, 2) := by decide +kernel
theorem dX1_befall_174 : decode cX1_befall 174 = .ok (.iload 10, 2) := by decide +kernel
theorem dX1_befall_176 : decode cX1_befall 176 = .ok (.isub, 1) := by decide +kernel
theorem dX1_befall_177 : decode cX1_befall 177 = .ok (.iload 9, 2) := by decide +kernel
theorem dX1_befall_179 : decode cX1_befall 179 = .ok (.invokestatic 71, 3) := by decide +kernel
theorem dX1_befall_182 : decode cX1_befall 182 = .ok (.iload 7, 2) := by decide +kernel
theorem dX1_befall_184 : decode cX1_befall 184 = .ok (.iload 10, 2) := by decide +kernel
theorem dX1_befall_186 : decode cX1_befall 186 = .ok (.isub, 1) := by decide +kernel
theorem dX1_befall_187 : decode cX1_befall 187 = .ok (.iload 9, 2) := by decide +kernel
theorem dX1_befall_189 : decode cX1_befall 189 = .ok (.invokestatic 74, 3) := by decide +kernel
theorem dX1_befall_192 : decode cX1_befall 192 = .ok (.iload 8, 2) := by decide +kernel
theorem dX1_befall_194 : decode cX1_befall 194 = .ok (.invokevirtual 64, 3) := by decide +kernel
theorem dX1_befall_197 : decode cX1_befall 197 = .ok (.goto 56, 3) := by decide +kernel
theorem dX1_befall_200 : decode cX1_befall 200 = .ok (.aload_n 0, 1) := by decide +kernel
theorem dX1_befall_201 : decode cX1_befall 201 = .ok (.iload 6, 2) := by decide +kernel
theorem dX1_befall_203 : decode cX1_befall 203 = .ok (.iload 7, 2) := by decide +kernel
theorem dX1_befall_205 : decode cX1_befall 205 = .ok (.iload 8, 2) := by decide +kernel
theorem dX1_befall_207 : decode cX1_befall 207 = .ok (.iload 4, 2) := by decide +kernel
theorem dX1_befall_209 : decode cX1_befall 209 = .ok (.iload 5, 2) := by decide +kernel
theorem dX1_befall_211 : decode cX1_befall 211 = .ok (.invokestatic 60, 3) := by decide +kernel
theorem dX1_befall_214 : decode cX1_befall 214 = .ok (.iadd, 1) := by decide +kernel
theorem dX1_befall_215 : decode cX1_befall 215 = .ok (.bipush 39, 2) := by decide +kernel
theorem dX1_befall_217 : decode cX1_befall 217 = .ok (.iconst (-1), 1) := by decide +kernel
theorem dX1_befall_218 : decode cX1_befall 218 = .ok (.invokevirtual 77, 3) := by decide +kernel
theorem dX1_befall_221 : decode cX1_befall 221 = .ok (.goto 32, 3) := by decide +kernel
theorem dX1_befall_224 : decode cX1_befall 224 = .ok (.iload 10, 2) := by decide +kernel
theorem dX1_befall_226 : decode cX1_befall 226 = .ok (.iload 8, 2) := by decide +kernel
theorem dX1_befall_228 : decode cX1_befall 228 = .ok (.if_icmp .lt 25, 3) := by decide +kernel
theorem dX1_befall_231 : decode cX1_befall 231 = .ok (.iload 10, 2) := by decide +kernel
theorem dX1_befall_233 : decode cX1_befall 233 = .ok (.iload 9, 2) := by decide +kernel
theorem dX1_befall_235 : decode cX1_befall 235 = .ok (.if_icmp .gt 18, 3) := by decide +kernel
theorem dX1_befall_238 : decode cX1_befall 238 = .ok (.aload_n 0, 1) := by decide +kernel
theorem dX1_befall_239 : decode cX1_befall 239 = .ok (.iload 6, 2) := by decide +kernel
theorem dX1_befall_241 : decode cX1_befall 241 = .ok (.aload_n 1, 1) := by decide +kernel
theorem dX1_befall_242 : decode cX1_befall 242 = .ok (.iload_n 2, 1) := by decide +kernel
theorem dX1_befall_243 : decode cX1_befall 243 = .ok (.iconst 4, 1) := by decide +kernel
theorem dX1_befall_244 : decode cX1_befall 244 = .ok (.invokevirtual 41, 3) := by decide +kernel
theorem dX1_befall_247 : decode cX1_befall 247 = .ok (.invokevirtual 80, 3) := by decide +kernel
theorem dX1_befall_250 : decode cX1_befall 250 = .ok (.goto 3, 3) := by decide +kernel
theorem dX1_befall_253 : decode cX1_befall 253 = .ok (.return_, 1) := by decide +kernel
theorem dX1_stepOf_0 : decode cX1_stepOf 0 = .ok (.iload_n 0, 1) := by decide +kernel
theorem dX1_stepOf_1 : decode cX1_stepOf 1 = .ok (.ifCond .ne 7, 3) := by decide +kernel
theorem dX1_stepOf_4 : decode cX1_stepOf 4 = .ok (.iload_n 1, 1) := by decide +kernel
theorem dX1_stepOf_5 : decode cX1_stepOf 5 = .ok (.goto 4, 3) := by decide +kernel
theorem dX1_stepOf_8 : decode cX1_stepOf 8 = .ok (.iload_n 2, 1) := by decide +kernel
theorem dX1_stepOf_9 : decode cX1_stepOf 9 = .ok (.ireturn, 1) := by decide +kernel
theorem dX1_slope_0 : decode cX1_slope 0 = .ok (.iload_n 0, 1) := by decide +kernel
theorem dX1_slope_1 : decode cX1_slope 1 = .ok (.iload_n 2, 1) := by decide +kernel
theorem dX1_slope_2 : decode cX1_slope 2 = .ok (.imul, 1) := by decide +kernel
theorem dX1_slope_3 : decode cX1_slope 3 = .ok (.iload_n 1, 1) := by decide +kernel
theorem dX1_slope_4 : decode cX1_slope 4 = .ok (.iload_n 3, 1) := by decide +kernel
theorem dX1_slope_5 : decode cX1_slope 5 = .ok (.imul, 1) := by decide +kernel
theorem dX1_slope_6 : decode cX1_slope 6 = .ok (.iadd, 1) := by decide +kernel
theorem dX1_slope_7 : decode cX1_slope 7 = .ok (.iconst 4, 1) := by decide +kernel
theorem dX1_slope_8 : decode cX1_slope 8 = .ok (.invokestatic 83, 3) := by decide +kernel
theorem dX1_slope_11 : decode cX1_slope 11 = .ok (.ireturn, 1) := by decide +kernel
theorem dX1_foldRise_0 : decode cX1_foldRise 0 = .ok (.iload_n 1, 1) := by decide +kernel
theorem dX1_foldRise_1 : decode cX1_foldRise 1 = .ok (.iconst 1, 1) := by decide +kernel
theorem dX1_foldRise_2 : decode cX1_foldRise 2 = .ok (.if_icmp .ge 5, 3) := by decide +kernel
theorem dX1_foldRise_5 : decode cX1_foldRise 5 = .ok (.iconst 0, 1) := by decide +kernel
theorem dX1_foldRise_6 : decode cX1_foldRise 6 = .ok (.ireturn, 1) := by decide +kernel
theorem dX1_foldRise_7 : decode cX1_foldRise 7 = .ok (.iload_n 3, 1) := by decide +kernel
theorem dX1_foldRise_8 : decode cX1_foldRise 8 = .ok (.iload_n 2, 1) := by decide +kernel
theorem dX1_foldRise_9 : decode cX1_foldRise 9 = .ok (.iadd, 1) := by decide +kernel
theorem dX1_foldRise_10 : decode cX1_foldRise 10 = .ok (.iload_n 1, 1) := by decide +kernel
theorem dX1_foldRise_11 : decode cX1_foldRise 11 = .ok (.invokestatic 88, 3) := by decide +kernel
theorem dX1_foldRise_14 : decode cX1_foldRise 14 = .ok (.istore 4, 2) := by decide +kernel
theorem dX1_foldRise_16 : decode cX1_foldRise 16 = .ok (.iload_n 0, 1) := by decide +kernel
theorem dX1_foldRise_17 : decode cX1_foldRise 17 = .ok (.iload 4, 2) := by decide +kernel
theorem dX1_foldRise_19 : decode cX1_foldRise 19 = .ok (.iload_n 1, 1) := by decide +kernel
theorem dX1_foldRise_20 : decode cX1_foldRise 20 = .ok (.iload 4, 2) := by decide +kernel
theorem dX1_foldRise_22 : decode cX1_foldRise 22 = .ok (.isub, 1) := by decide +kernel
theorem dX1_foldRise_23 : decode cX1_foldRise 23 = .ok (.invokestatic 91, 3) := by decide +kernel
theorem dX1_foldRise_26 : decode cX1_foldRise 26 = .ok (.imul, 1) := by decide +kernel
theorem dX1_foldRise_27 : decode cX1_foldRise 27 = .ok (.iconst 2, 1) := by decide +kernel
theorem dX1_foldRise_28 : decode cX1_foldRise 28 = .ok (.invokestatic 83, 3) := by decide +kernel
theorem dX1_foldRise_31 : decode cX1_foldRise 31 = .ok (.ireturn, 1) := by decide +kernel
theorem dX1_lay_0 : decode cX1_lay 0 = .ok (.aload_n 0, 1) := by decide +kernel
theorem dX1_lay_1 : decode cX1_lay 1 = .ok (.invokevirtual 94, 3) := by decide +kernel
theorem dX1_lay_4 : decode cX1_lay 4 = .ok (.istore_n 3, 1) := by decide +kernel
theorem dX1_lay_5 : decode cX1_lay 5 = .ok (.aload_n 0, 1) := by decide +kernel
theorem dX1_lay_6 : decode cX1_lay 6 = .ok (.iload_n 3, 1) := by decide +kernel
theorem dX1_lay_7 : decode cX1_lay 7 = .ok (.iconst 1, 1) := by decide +kernel
theorem dX1_lay_8 : decode cX1_lay 8 = .ok (.iadd, 1) := by decide +kernel
theorem dX1_lay_9 : decode cX1_lay 9 = .ok (.iload_n 3, 1) := by decide +kernel
theorem dX1_lay_10 : decode cX1_lay 10 = .ok (.iload_n 2, 1) := by decide +kernel
theorem dX1_lay_11 : decode cX1_lay 11 = .ok (.iadd, 1) := by decide +kernel
theorem dX1_lay_12 : decode cX1_lay 12 = .ok (.iload_n 1, 1) := by decide +kernel
theorem dX1_lay_13 : decode cX1_lay 13 = .ok (.invokevirtual 77, 3) := by decide +kernel
theorem dX1_lay_16 : decode cX1_lay 16 = .ok (.return_, 1) := by decide +kernel
theorem dX1_firstBeyond_0 : decode cX1_firstBeyond 0 = .ok (.iload_n 1, 1) := by decide +kernel
theorem dX1_firstBeyond_1 : decode cX1_firstBeyond 1 = .ok (.ifCond .le 13, 3) := by decide +kernel
theorem dX1_firstBeyond_4 : decode cX1_firstBeyond 4 = .ok (.bipush (-4), 2) := by decide +kernel
theorem dX1_firstBeyond_6 : decode cX1_firstBeyond 6 = .ok (.iload_n 0, 1) := by decide +kernel
theorem dX1_firstBeyond_7 : decode cX1_firstBeyond 7 = .ok (.imul, 1) := by decide +kernel
theorem dX1_firstBeyond_8 : decode cX1_firstBeyond 8 = .ok (.iload_n 1, 1) := by decide +kernel
theorem dX1_firstBeyond_9 : decode cX1_firstBeyond 9 = .ok (.invokestatic 83, 3) := by decide +kernel
theorem dX1_firstBeyond_12 : decode cX1_firstBeyond 12 = .ok (.ineg, 1) := by decide +kernel
theorem dX1_firstBeyond_13 : decode cX1_firstBeyond 13 = .ok (.ireturn, 1) := by decide +kernel
theorem dX1_firstBeyond_14 : decode cX1_firstBeyond 14 = .ok (.iload_n 1, 1) := by decide +kernel
theorem dX1_firstBeyond_15 : decode cX1_firstBeyond 15 = .ok (.ifCond .ne 12, 3) := by decide +kernel
theorem dX1_firstBeyond_18 : decode cX1_firstBeyond 18 = .ok (.iload_n 0, 1) := by decide +kernel
theorem dX1_firstBeyond_19 : decode cX1_firstBeyond 19 = .ok (.ifCond .le 8, 3) := by decide +kernel
theorem dX1_firstBeyond_22 : decode cX1_firstBeyond 22 = .ok (.bipush 40, 2) := by decide +kernel
theorem dX1_firstBeyond_24 : decode cX1_firstBeyond 24 = .ok (.goto 5, 3) := by decide +kernel
theorem dX1_firstBeyond_27 : decode cX1_firstBeyond 27 = .ok (.bipush (-40), 2) := by decide +kernel
theorem dX1_firstBeyond_29 : decode cX1_firstBeyond 29 = .ok (.ireturn, 1) := by decide +kernel
theorem dX1_lastBeyond_0 : decode cX1_lastBeyond 0 = .ok (.iload_n 1, 1) := by decide +kernel
theorem dX1_lastBeyond_1 : decode cX1_lastBeyond 1 = .ok (.ifCond .ge 13, 3) := by decide +kernel
theorem dX1_lastBeyond_4 : decode cX1_lastBeyond 4 = .ok (.iconst 4, 1) := by decide +kernel
theorem dX1_lastBeyond_5 : decode cX1_lastBeyond 5 = .ok (.iload_n 0, 1) := by decide +kernel
theorem dX1_lastBeyond_6 : decode cX1_lastBeyond 6 = .ok (.imul, 1) := by decide +kernel
theorem dX1_lastBeyond_7 : decode cX1_lastBeyond 7 = .ok (.iload_n 1, 1) := by decide +kernel
theorem dX1_lastBeyond_8 : decode cX1_lastBeyond 8 = .ok (.invokestatic 83, 3) := by decide +kernel
theorem dX1_lastBeyond_11 : decode cX1_lastBeyond 11 = .ok (.goto 5, 3) := by decide +kernel
theorem dX1_lastBeyond_14 : decode cX1_lastBeyond 14 = .ok (.bipush 39, 2) := by decide +kernel
theorem dX1_lastBeyond_16 : decode cX1_lastBeyond 16 = .ok (.ireturn, 1) := by decide +kernel
theorem dX1_move_0 : decode cX1_move 0 = .ok (.iload_n 1, 1) := by decide +kernel
theorem dX1_move_1 : decode cX1_move 1 = .ok (.bipush (-40), 2) := by decide +kernel
theorem dX1_move_3 : decode cX1_move 3 = .ok (.invokestatic 98, 3) := by decide +kernel
theorem dX1_move_6 : decode cX1_move 6 = .ok (.istore 4, 2) := by decide +kernel
theorem dX1_move_8 : decode cX1_move 8 = .ok (.iload_n 2, 1) := by decide +kernel
theorem dX1_move_9 : decode cX1_move 9 = .ok (.bipush 39, 2) := by decide +kernel
theorem dX1_move_11 : decode cX1_move 11 = .ok (.invokestatic 91, 3) := by decide +kernel
theorem dX1_move_14 : decode cX1_move 14 = .ok (.istore 5, 2) := by decide +kernel
theorem dX1_move_16 : decode cX1_move 16 = .ok (.iload 4, 2) := by decide +kernel
theorem dX1_move_18 : decode cX1_move 18 = .ok (.bipush (-40), 2) := by decide +kernel
theorem dX1_move_20 : decode cX1_move 20 = .ok (.iload_n 3, 1) := by decide +kernel
theorem dX1_move_21 : decode cX1_move 21 = .ok (.iadd, 1) := by decide +kernel
theorem dX1_move_22 : decode cX1_move 22 = .ok (.invokestatic 98, 3) := by decide +kernel
theorem dX1_move_25 : decode cX1_move 25 = .ok (.istore 6, 2) := by decide +kernel
theorem dX1_move_27 : decode cX1_move 27 = .ok (.iload 5, 2) := by decide +kernel
theorem dX1_move_29 : decode cX1_move 29 = .ok (.bipush 39, 2) := by decide +kernel
theorem dX1_move_31 : decode cX1_move 31 = .ok (.iload_n 3, 1) := by decide +kernel
theorem dX1_move_32 : decode cX1_move 32 = .ok (.iadd, 1) := by decide +kernel
theorem dX1_move_33 : decode cX1_move 33 = .ok (.invokestatic 91, 3) := by decide +kernel
theorem dX1_move_36 : decode cX1_move 36 = .ok (.istore 7, 2) := by decide +kernel
theorem dX1_move_38 : decode cX1_move 38 = .ok (.aload_n 0, 1) := by decide +kernel
theorem dX1_move_39 : decode cX1_move 39 = .ok (.getfield 9, 3) := by decide +kernel
theorem dX1_move_42 : decode cX1_move 42 = .ok (.iload 6, 2) := by decide +kernel
theorem dX1_move_44 : decode cX1_move 44 = .ok (.iload_n 3, 1) := by decide +kernel
theorem dX1_move_45 : decode cX1_move 45 = .ok (.isub, 1) := by decide +kernel
theorem dX1_move_46 : decode cX1_move 46 = .ok (.bipush (-40), 2) := by decide +kernel
theorem dX1_move_48 : decode cX1_move 48 = .ok (.isub, 1) := by decide +kernel
theorem dX1_move_49 : decode cX1_move 49 = .ok (.aload_n 0, 1) := by decide +kernel
theorem dX1_move_50 : decode cX1_move 50 = .ok (.getfield 9, 3) := by decide +kernel
theorem dX1_move_53 : decode cX1_move 53 = .ok (.iload 6, 2) := by decide +kernel
theorem dX1_move_55 : decode cX1_move 55 = .ok (.bipush (-40), 2) := by decide +kernel
theorem dX1_move_57 : decode cX1_move 57 = .ok (.isub, 1) := by decide +kernel
theorem dX1_move_58 : decode cX1_move 58 = .ok (.iload 7, 2) := by decide +kernel
theorem dX1_move_60 : decode cX1_move 60 = .ok (.iload 6, 2) := by decide +kernel
theorem dX1_move_62 : decode cX1_move 62 = .ok (.isub, 1) := by decide +kernel
theorem dX1_move_63 : decode cX1_move 63 = .ok (.iconst 1, 1) := by decide +kernel
theorem dX1_move_64 : decode cX1_move 64 = .ok (.iadd, 1) := by decide +kernel
theorem dX1_move_65 : decode cX1_move 65 = .ok (.invokestatic 18, 3) := by decide +kernel
theorem dX1_move_68 : decode cX1_move 68 = .ok (.aload_n 0, 1) := by decide +kernel
theorem dX1_move_69 : decode cX1_move 69 = .ok (.iload 4, 2) := by decide +kernel
theorem dX1_move_71 : decode cX1_move 71 = .ok (.iload 5, 2) := by decide +kernel
theorem dX1_move_73 : decode cX1_move 73 = .ok (.bipush (-40), 2) := by decide +kernel
theorem dX1_move_75 : decode cX1_move 75 = .ok (.iload_n 3, 1) := by decide +kernel
theorem dX1_move_76 : decode cX1_move 76 = .ok (.iadd, 1) := by decide +kernel
theorem dX1_move_77 : decode cX1_move 77 = .ok (.iconst 1, 1) := by decide +kernel
theorem dX1_move_78 : decode cX1_move 78 = .ok (.isub, 1) := by decide +kernel
theorem dX1_move_79 : decode cX1_move 79 = .ok (.invokestatic 91, 3) := by decide +kernel
theorem dX1_move_82 : decode cX1_move 82 = .ok (.bipush 15, 2) := by decide +kernel
theorem dX1_move_84 : decode cX1_move 84 = .ok (.invokevirtual 77, 3) := by decide +kernel
theorem dX1_move_87 : decode cX1_move 87 = .ok (.aload_n 0, 1) := by decide +kernel
theorem dX1_move_88 : decode cX1_move 88 = .ok (.iload 4, 2) := by decide +kernel
theorem dX1_move_90 : decode cX1_move 90 = .ok (.bipush 39, 2) := by decide +kernel
theorem dX1_move_92 : decode cX1_move 92 = .ok (.iload_n 3, 1) := by decide +kernel
theorem dX1_move_93 : decode cX1_move 93 = .ok (.iadd, 1) := by decide +kernel
theorem dX1_move_94 : decode cX1_move 94 = .ok (.iconst 1, 1) := by decide +kernel
theorem dX1_move_95 : decode cX1_move 95 = .ok (.iadd, 1) := by decide +kernel
theorem dX1_move_96 : decode cX1_move 96 = .ok (.invokestatic 98, 3) := by decide +kernel
theorem dX1_move_99 : decode cX1_move 99 = .ok (.iload 5, 2) := by decide +kernel
theorem dX1_move_101 : decode cX1_move 101 = .ok (.iconst (-1), 1) := by decide +kernel
theorem dX1_move_102 : decode cX1_move 102 = .ok (.invokevirtual 77, 3) := by decide +kernel
theorem dX1_move_105 : decode cX1_move 105 = .ok (.return_, 1) := by decide +kernel
theorem dX1_intrude_0 : decode cX1_intrude 0 = .ok (.iconst 0, 1) := by decide +kernel
theorem dX1_intrude_1 : decode cX1_intrude 1 = .ok (.istore_n 3, 1) := by decide +kernel
theorem dX1_intrude_2 : decode cX1_intrude 2 = .ok (.iload_n 3, 1) := by decide +kernel
theorem dX1_intrude_3 : decode cX1_intrude 3 = .ok (.iload_n 2, 1) := by decide +kernel
theorem dX1_intrude_4 : decode cX1_intrude 4 = .ok (.bipush (-40), 2) := by decide +kernel
theorem dX1_intrude_6 : decode cX1_intrude 6 = .ok (.isub, 1) := by decide +kernel
theorem dX1_intrude_7 : decode cX1_intrude 7 = .ok (.if_icmp .gt 35, 3) := by decide +kernel
theorem dX1_intrude_10 : decode cX1_intrude 10 = .ok (.iload_n 3, 1) := by decide +kernel
theorem dX1_intrude_11 : decode cX1_intrude 11 = .ok (.aload_n 0, 1) := by decide +kernel
theorem dX1_intrude_12 : decode cX1_intrude 12 = .ok (.getfield 9, 3) := by decide +kernel
theorem dX1_intrude_15 : decode cX1_intrude 15 = .ok (.arraylength, 1) := by decide +kernel
theorem dX1_intrude_16 : decode cX1_intrude 16 = .ok (.if_icmp .ge 26, 3) := by decide +kernel
theorem dX1_intrude_19 : decode cX1_intrude 19 = .ok (.aload_n 0, 1) := by decide +kernel
theorem dX1_intrude_20 : decode cX1_intrude 20 = .ok (.getfield 9, 3) := by decide +kernel
theorem dX1_intrude_23 : decode cX1_intrude 23 = .ok (.iload_n 3, 1) := by decide +kernel
theorem dX1_intrude_24 : decode cX1_intrude 24 = .ok (.iaload, 1) := by decide +kernel
theorem dX1_intrude_25 : decode cX1_intrude 25 = .ok (.iconst (-1), 1) := by decide +kernel
theorem dX1_intrude_26 : decode cX1_intrude 26 = .ok (.if_icmp .eq 10, 3) := by decide +kernel
theorem dX1_intrude_29 : decode cX1_intrude 29 = .ok (.aload_n 0, 1) := by decide +kernel
theorem dX1_intrude_30 : decode cX1_intrude 30 = .ok (.getfield 9, 3) := by decide +kernel
theorem dX1_intrude_33 : decode cX1_intrude 33 = .ok (.iload_n 3, 1) := by decide +kernel
theorem dX1_intrude_34 : decode cX1_intrude 34 = .ok (.iload_n 1, 1) := by decide +kernel
theorem dX1_intrude_35 : decode cX1_intrude 35 = .ok (.iastore, 1) := by decide +kernel
theorem dX1_intrude_36 : decode cX1_intrude 36 = .ok (.iinc 3 1, 3) := by decide +kernel
theorem dX1_intrude_39 : decode cX1_intrude 39 = .ok (.goto (-37), 3) := by decide +kernel
theorem dX1_intrude_42 : decode cX1_intrude 42 = .ok (.return_, 1) := by decide +kernel
theorem dX1_fillHeights_0 : decode cX1_fillHeights 0 = .ok (.iconst 0, 1) := by decide +kernel
theorem dX1_fillHeights_1 : decode cX1_fillHeights 1 = .ok (.iload_n 1, 1) := by decide +kernel
theorem dX1_fillHeights_2 : decode cX1_fillHeights 2 = .ok (.bipush (-40), 2) := by decide +kernel
theorem dX1_fillHeights_4 : decode cX1_fillHeights 4 = .ok (.isub, 1) := by decide +kernel
theorem dX1_fillHeights_5 : decode cX1_fillHeights 5 = .ok (.invokestatic 98, 3) := by decide +kernel
theorem dX1_fillHeights_8 : decode cX1_fillHeights 8 = .ok (.istore 4, 2) := by decide +kernel
theorem dX1_fillHeights_10 : decode cX1_fillHeights 10 = .ok (.iload 4, 2) := by decide +kernel
theorem dX1_fillHeights_12 : decode cX1_fillHeights 12 = .ok (.iload_n 2, 1) := by decide +kernel
theorem dX1_fillHeights_13 : decode cX1_fillHeights 13 = .ok (.bipush (-40), 2) := by decide +kernel
theorem dX1_fillHeights_15 : decode cX1_fillHeights 15 = .ok (.isub, 1) := by decide +kernel
theorem dX1_fillHeights_16 : decode cX1_fillHeights 16 = .ok (.if_icmp .gt 27, 3) := by decide +kernel
theorem dX1_fillHeights_19 : decode cX1_fillHeights 19 = .ok (.iload 4, 2) := by decide +kernel
theorem dX1_fillHeights_21 : decode cX1_fillHeights 21 = .ok (.aload_n 0, 1) := by decide +kernel
theorem dX1_fillHeights_22 : decode cX1_fillHeights 22 = .ok (.getfield 9, 3) := by decide +kernel
theorem dX1_fillHeights_25 : decode cX1_fillHeights 25 = .ok (.arraylength, 1) := by decide +kernel
theorem dX1_fillHeights_26 : decode cX1_fillHeights 26 = .ok (.if_icmp .ge 17, 3) := by decide +kernel
theorem dX1_fillHeights_29 : decode cX1_fillHeights 29 = .ok (.aload_n 0, 1) := by decide +kernel
theorem dX1_fillHeights_30 : decode cX1_fillHeights 30 = .ok (.getfield 9, 3) := by decide +kernel
theorem dX1_fillHeights_33 : decode cX1_fillHeights 33 = .ok (.iload 4, 2) := by decide +kernel
theorem dX1_fillHeights_35 : decode cX1_fillHeights 35 = .ok (.iload_n 3, 1) := by decide +kernel
theorem dX1_fillHeights_36 : decode cX1_fillHeights 36 = .ok (.iastore, 1) := by decide +kernel
theorem dX1_fillHeights_37 : decode cX1_fillHeights 37 = .ok (.iinc 4 1, 3) := by decide +kernel
theorem dX1_fillHeights_40 : decode cX1_fillHeights 40 = .ok (.goto (-30), 3) := by decide +kernel
theorem dX1_fillHeights_43 : decode cX1_fillHeights 43 = .ok (.return_, 1) := by decide +kernel
theorem dX1_bedAt_0 : decode cX1_bedAt 0 = .ok (.aload_n 0, 1) := by decide +kernel
theorem dX1_bedAt_1 : decode cX1_bedAt 1 = .ok (.getfield 9, 3) := by decide +kernel
theorem dX1_bedAt_4 : decode cX1_bedAt 4 = .ok (.iload_n 1, 1) := by decide +kernel
theorem dX1_bedAt_5 : decode cX1_bedAt 5 = .ok (.bipush (-40), 2) := by decide +kernel
theorem dX1_bedAt_7 : decode cX1_bedAt 7 = .ok (.isub, 1) := by decide +kernel
theorem dX1_bedAt_8 : decode cX1_bedAt 8 = .ok (.invokestatic 101, 3) := by decide +kernel
theorem dX1_bedAt_11 : decode cX1_bedAt 11 = .ok (.ireturn, 1) := by decide +kernel
theorem dX1_skinHeight_0 : decode cX1_skinHeight 0 = .ok (.aload_n 0, 1) := by decide +kernel
theorem dX1_skinHeight_1 : decode cX1_skinHeight 1 = .ok (.getfield 9, 3) := by decide +kernel
theorem dX1_skinHeight_4 : decode cX1_skinHeight 4 = .ok (.arraylength, 1) := by decide +kernel
theorem dX1_skinHeight_5 : decode cX1_skinHeight 5 = .ok (.iconst 1, 1) := by decide +kernel
theorem dX1_skinHeight_6 : decode cX1_skinHeight 6 = .ok (.isub, 1) := by decide +kernel
theorem dX1_skinHeight_7 : decode cX1_skinHeight 7 = .ok (.istore_n 1, 1) := by decide +kernel
theorem dX1_skinHeight_8 : decode cX1_skinHeight 8 = .ok (.iload_n 1, 1) := by decide +kernel
theorem dX1_skinHeight_9 : decode cX1_skinHeight 9 = .ok (.ifCond .lt 24, 3) := by decide +kernel
theorem dX1_skinHeight_12 : decode cX1_skinHeight 12 = .ok (.aload_n 0, 1) := by decide +kernel
theorem dX1_skinHeight_13 : decode cX1_skinHeight 13 = .ok (.getfield 9, 3) := by decide +kernel
theorem dX1_skinHeight_16 : decode cX1_skinHeight 16 = .ok (.iload_n 1, 1) := by decide +kernel
theorem dX1_skinHeight_17 : decode cX1_skinHeight 17 = .ok (.iaload, 1) := by decide +kernel
theorem dX1_skinHeight_18 : decode cX1_skinHeight 18 = .ok (.iconst (-1), 1) := by decide +kernel
theorem dX1_skinHeight_19 : decode cX1_skinHeight 19 = .ok (.if_icmp .eq 8, 3) := by decide +kernel
theorem dX1_skinHeight_22 : decode cX1_skinHeight 22 = .ok (.iload_n 1, 1) := by decide +kernel
theorem dX1_skinHeight_23 : decode cX1_skinHeight 23 = .ok (.bipush (-40), 2) := by decide +kernel
theorem dX1_skinHeight_25 : decode cX1_skinHeight 25 = .ok (.iadd, 1) := by decide +kernel
theorem dX1_skinHeight_26 : decode cX1_skinHeight 26 = .ok (.ireturn, 1) := by decide +kernel
theorem dX1_skinHeight_27 : decode cX1_skinHeight 27 = .ok (.iinc 1 (-1), 3) := by decide +kernel
theorem dX1_skinHeight_30 : decode cX1_skinHeight 30 = .ok (.goto (-22), 3) := by decide +kernel
theorem dX1_skinHeight_33 : decode cX1_skinHeight 33 = .ok (.bipush (-41), 2) := by decide +kernel
theorem dX1_skinHeight_35 : decode cX1_skinHeight 35 = .ok (.ireturn, 1) := by decide +kernel
theorem dX1_skinBed_0 : decode cX1_skinBed 0 = .ok (.aload_n 0, 1) := by decide +kernel
theorem dX1_skinBed_1 : decode cX1_skinBed 1 = .ok (.invokevirtual 94, 3) := by decide +kernel
theorem dX1_skinBed_4 : decode cX1_skinBed 4 = .ok (.istore_n 1, 1) := by decide +kernel
theorem dX1_skinBed_5 : decode cX1_skinBed 5 = .ok (.iload_n 1, 1) := by decide +kernel
theorem dX1_skinBed_6 : decode cX1_skinBed 6 = .ok (.bipush (-41), 2) := by decide +kernel
theorem dX1_skinBed_8 : decode cX1_skinBed 8 = .ok (.if_icmp .ne 7, 3) := by decide +kernel
theorem dX1_skinBed_11 : decode cX1_skinBed 11 = .ok (.iconst (-1), 1) := by decide +kernel
theorem dX1_skinBed_12 : decode cX1_skinBed 12 = .ok (.goto 8, 3) := by decide +kernel
theorem dX1_skinBed_15 : decode cX1_skinBed 15 = .ok (.aload_n 0, 1) := by decide +kernel
theorem dX1_skinBed_16 : decode cX1_skinBed 16 = .ok (.iload_n 1, 1) := by decide +kernel
theorem dX1_skinBed_17 : decode cX1_skinBed 17 = .ok (.invokevirtual 105, 3) := by decide +kernel
theorem dX1_skinBed_20 : decode cX1_skinBed 20 = .ok (.ireturn, 1) := by decide +kernel
theorem dX1_topOf_0 : decode cX1_topOf 0 = .ok (.aload_n 0, 1) := by decide +kernel
theorem dX1_topOf_1 : decode cX1_topOf 1 = .ok (.getfield 9, 3) := by decide +kernel
theorem dX1_topOf_4 : decode cX1_topOf 4 = .ok (.arraylength, 1) := by decide +kernel
theorem dX1_topOf_5 : decode cX1_topOf 5 = .ok (.iconst 1, 1) := by decide +kernel
theorem dX1_topOf_6 : decode cX1_topOf 6 = .ok (.isub, 1) := by decide +kernel
theorem dX1_topOf_7 : decode cX1_topOf 7 = .ok (.istore_n 2, 1) := by decide +kernel
theorem dX1_topOf_8 : decode cX1_topOf 8 = .ok (.iload_n 2, 1) := by decide +kernel
theorem dX1_topOf_9 : decode cX1_topOf 9 = .ok (.ifCond .lt 24, 3) := by decide +kernel
theorem dX1_topOf_12 : decode cX1_topOf 12 = .ok (.aload_n 0, 1) := by decide +kernel
theorem dX1_topOf_13 : decode cX1_topOf 13 = .ok (.getfield 9, 3) := by decide +kernel
theorem dX1_topOf_16 : decode cX1_topOf 16 = .ok (.iload_n 2, 1) := by decide +kernel
theorem dX1_topOf_17 : decode cX1_topOf 17 = .ok (.iaload, 1) := by decide +kernel
theorem dX1_topOf_18 : decode cX1_topOf 18 = .ok (.iload_n 1, 1) := by decide +kernel
theorem dX1_topOf_19 : decode cX1_topOf 19 = .ok (.if_icmp .ne 8, 3) := by decide +kernel
theorem dX1_topOf_22 : decode cX1_topOf 22 = .ok (.iload_n 2, 1) := by decide +kernel
theorem dX1_topOf_23 : decode cX1_topOf 23 = .ok (.bipush (-40), 2) := by decide +kernel
theorem dX1_topOf_25 : decode cX1_topOf 25 = .ok (.iadd, 1) := by decide +kernel
theorem dX1_topOf_26 : decode cX1_topOf 26 = .ok (.ireturn, 1) := by decide +kernel
theorem dX1_topOf_27 : decode cX1_topOf 27 = .ok (.iinc 2 (-1), 3) := by decide +kernel
theorem dX1_topOf_30 : decode cX1_topOf 30 = .ok (.goto (-22), 3) := by decide +kernel
theorem dX1_topOf_33 : decode cX1_topOf 33 = .ok (.bipush (-41), 2) := by decide +kernel
theorem dX1_topOf_35 : decode cX1_topOf 35 = .ok (.ireturn, 1) := by decide +kernel
theorem dX1_cellsOf_0 : decode cX1_cellsOf 0 = .ok (.iconst 0, 1) := by decide +kernel
theorem dX1_cellsOf_1 : decode cX1_cellsOf 1 = .ok (.istore_n 2, 1) := by decide +kernel
theorem dX1_cellsOf_2 : decode cX1_cellsOf 2 = .ok (.iconst 0, 1) := by decide +kernel
theorem dX1_cellsOf_3 : decode cX1_cellsOf 3 = .ok (.istore_n 3, 1) := by decide +kernel
theorem dX1_cellsOf_4 : decode cX1_cellsOf 4 = .ok (.iload_n 3, 1) := by decide +kernel
theorem dX1_cellsOf_5 : decode cX1_cellsOf 5 = .ok (.aload_n 0, 1) := by decide +kernel
theorem dX1_cellsOf_6 : decode cX1_cellsOf 6 = .ok (.getfield 9, 3) := by decide +kernel
theorem dX1_cellsOf_9 : decode cX1_cellsOf 9 = .ok (.arraylength, 1) := by decide +kernel
theorem dX1_cellsOf_10 : decode cX1_cellsOf 10 = .ok (.if_icmp .ge 22, 3) := by decide +kernel
theorem dX1_cellsOf_13 : decode cX1_cellsOf 13 = .ok (.aload_n 0, 1) := by decide +kernel
theorem dX1_cellsOf_14 : decode cX1_cellsOf 14 = .ok (.getfield 9, 3) := by decide +kernel
theorem dX1_cellsOf_17 : decode cX1_cellsOf 17 = .ok (.iload_n 3, 1) := by decide +kernel
theorem dX1_cellsOf_18 : decode cX1_cellsOf 18 = .ok (.iaload, 1) := by decide +kernel
theorem dX1_cellsOf_19 : decode cX1_cellsOf 19 = .ok (.iload_n 1, 1) := by decide +kernel
theorem dX1_cellsOf_20 : decode cX1_cellsOf 20 = .ok (.if_icmp .ne 6, 3) := by decide +kernel
theorem dX1_cellsOf_23 : decode cX1_cellsOf 23 = .ok (.iinc 2 1, 3) := by decide +kernel
theorem dX1_cellsOf_26 : decode cX1_cellsOf 26 = .ok (.iinc 3 1, 3) := by decide +kernel
theorem dX1_cellsOf_29 : decode cX1_cellsOf 29 = .ok (.goto (-25), 3) := by decide +kernel
theorem dX1_cellsOf_32 : decode cX1_cellsOf 32 = .ok (.iload_n 2, 1) := by decide +kernel
theorem dX1_cellsOf_33 : decode cX1_cellsOf 33 = .ok (.ireturn, 1) := by decide +kernel
theorem dX1_isLying_0 : decode cX1_isLying 0 = .ok (.iconst 1, 1) := by decide +kernel
theorem dX1_isLying_1 : decode cX1_isLying 1 = .ok (.istore_n 3, 1) := by decide +kernel
theorem dX1_isLying_2 : decode cX1_isLying 2 = .ok (.iload_n 3, 1) := by decide +kernel
theorem dX1_isLying_3 : decode cX1_isLying 3 = .ok (.aload_n 0, 1) := by decide +kernel
theorem dX1_isLying_4 : decode cX1_isLying 4 = .ok (.getfield 9, 3) := by decide +kernel
theorem dX1_isLying_7 : decode cX1_isLying 7 = .ok (.arraylength, 1) := by decide +kernel
theorem dX1_isLying_8 : decode cX1_isLying 8 = .ok (.if_icmp .ge 33, 3) := by decide +kernel
theorem dX1_isLying_11 : decode cX1_isLying 11 = .ok (.aload_n 0, 1) := by decide +kernel
theorem dX1_isLying_12 : decode cX1_isLying 12 = .ok (.getfield 9, 3) := by decide +kernel
theorem dX1_isLying_15 : decode cX1_isLying 15 = .ok (.iload_n 3, 1) := by decide +kernel
theorem dX1_isLying_16 : decode cX1_isLying 16 = .ok (.iaload, 1) := by decide +kernel
theorem dX1_isLying_17 : decode cX1_isLying 17 = .ok (.iload_n 1, 1) := by decide +kernel
theorem dX1_isLying_18 : decode cX1_isLying 18 = .ok (.if_icmp .ne 17, 3) := by decide +kernel
theorem dX1_isLying_21 : decode cX1_isLying 21 = .ok (.aload_n 0, 1) := by decide +kernel
theorem dX1_isLying_22 : decode cX1_isLying 22 = .ok (.getfield 9, 3) := by decide +kernel
theorem dX1_isLying_25 : decode cX1_isLying 25 = .ok (.iload_n 3, 1) := by decide +kernel
theorem dX1_isLying_26 : decode cX1_isLying 26 = .ok (.iconst 1, 1) := by decide +kernel
theorem dX1_isLying_27 : decode cX1_isLying 27 = .ok (.isub, 1) := by decide +kernel
theorem dX1_isLying_28 : decode cX1_isLying 28 = .ok (.iaload, 1) := by decide +kernel
theorem dX1_isLying_29 : decode cX1_isLying 29 = .ok (.iload_n 2, 1) := by decide +kernel
theorem dX1_isLying_30 : decode cX1_isLying 30 = .ok (.if_icmp .ne 5, 3) := by decide +kernel
theorem dX1_isLying_33 : decode cX1_isLying 33 = .ok (.iconst 1, 1) := by decide +kernel
theorem dX1_isLying_34 : decode cX1_isLying 34 = .ok (.ireturn, 1) := by decide +kernel
theorem dX1_isLying_35 : decode cX1_isLying 35 = .ok (.iinc 3 1, 3) := by decide +kernel
theorem dX1_isLying_38 : decode cX1_isLying 38 = .ok (.goto (-36), 3) := by decide +kernel
theorem dX1_isLying_41 : decode cX1_isLying 41 = .ok (.iconst 0, 1) := by decide +kernel
theorem dX1_isLying_42 : decode cX1_isLying 42 = .ok (.ireturn, 1) := by decide +kernel
theorem dX1_countInto_0 : decode cX1_countInto 0 = .ok (.aload_n 1, 1) := by decide +kernel
theorem dX1_countInto_1 : decode cX1_countInto 1 = .ok (.ifnonnull 4, 3) := by decide +kernel
theorem dX1_countInto_4 : decode cX1_countInto 4 = .ok (.return_, 1) := by decide +kernel
theorem dX1_countInto_5 : decode cX1_countInto 5 = .ok (.iconst 0, 1) := by decide +kernel
theorem dX1_countInto_6 : decode cX1_countInto 6 = .ok (.istore_n 3, 1) := by decide +kernel
theorem dX1_countInto_7 : decode cX1_countInto 7 = .ok (.iload_n 3, 1) := by decide +kernel
theorem dX1_countInto_8 : decode cX1_countInto 8 = .ok (.aload_n 0, 1) := by decide +kernel
theorem dX1_countInto_9 : decode cX1_countInto 9 = .ok (.getfield 9, 3) := by decide +kernel
theorem dX1_countInto_12 : decode cX1_countInto 12 = .ok (.arraylength, 1) := by decide +kernel
theorem dX1_countInto_13 : decode cX1_countInto 13 = .ok (.if_icmp .ge 49, 3) := by decide +kernel
theorem dX1_countInto_16 : decode cX1_countInto 16 = .ok (.iload_n 2, 1) := by decide +kernel
theorem dX1_countInto_17 : decode cX1_countInto 17 = .ok (.aload_n 0, 1) := by decide +kernel
theorem dX1_countInto_18 : decode cX1_countInto 18 = .ok (.getfield 9, 3) := by decide +kernel
theorem dX1_countInto_21 : decode cX1_countInto 21 = .ok (.iload_n 3, 1) := by decide +kernel
theorem dX1_countInto_22 : decode cX1_countInto 22 = .ok (.iaload, 1) := by decide +kernel
theorem dX1_countInto_23 : decode cX1_countInto 23 = .ok (.iadd, 1) := by decide +kernel
theorem dX1_countInto_24 : decode cX1_countInto 24 = .ok (.istore 4, 2) := by decide +kernel
theorem dX1_countInto_26 : decode cX1_countInto 26 = .ok (.aload_n 0, 1) := by decide +kernel
theorem dX1_countInto_27 : decode cX1_countInto 27 = .ok (.getfield 9, 3) := by decide +kernel
theorem dX1_countInto_30 : decode cX1_countInto 30 = .ok (.iload_n 3, 1) := by decide +kernel
theorem dX1_countInto_31 : decode cX1_countInto 31 = .ok (.iaload, 1) := by decide +kernel
theorem dX1_countInto_32 : decode cX1_countInto 32 = .ok (.iconst (-1), 1) := by decide +kernel
theorem dX1_countInto_33 : decode cX1_countInto 33 = .ok (.if_icmp .eq 23, 3) := by decide +kernel
theorem dX1_countInto_36 : decode cX1_countInto 36 = .ok (.iload 4, 2) := by decide +kernel
theorem dX1_countInto_38 : decode cX1_countInto 38 = .ok (.ifCond .lt 18, 3) := by decide +kernel
theorem dX1_countInto_41 : decode cX1_countInto 41 = .ok (.iload 4, 2) := by decide +kernel
theorem dX1_countInto_43 : decode cX1_countInto 43 = .ok (.aload_n 1, 1) := by decide +kernel
theorem dX1_countInto_44 : decode cX1_countInto 44 = .ok (.arraylength, 1) := by decide +kernel
theorem dX1_countInto_45 : decode cX1_countInto 45 = .ok (.if_icmp .ge 11, 3) := by decide +kernel
theorem dX1_countInto_48 : decode cX1_countInto 48 = .ok (.aload_n 1, 1) := by decide +kernel
theorem dX1_countInto_49 : decode cX1_countInto 49 = .ok (.iload 4, 2) := by decide +kernel
theorem dX1_countInto_51 : decode cX1_countInto 51 = .ok (.dup2, 1) := by decide +kernel
theorem dX1_countInto_52 : decode cX1_countInto 52 = .ok (.iaload, 1) := by decide +kernel
theorem dX1_countInto_53 : decode cX1_countInto 53 = .ok (.iconst 1, 1) := by decide +kernel
theorem dX1_countInto_54 : decode cX1_countInto 54 = .ok (.iadd, 1) := by decide +kernel
theorem dX1_countInto_55 : decode cX1_countInto 55 = .ok (.iastore, 1) := by decide +kernel
theorem dX1_countInto_56 : decode cX1_countInto 56 = .ok (.iinc 3 1, 3) := by decide +kernel
theorem dX1_countInto_59 : decode cX1_countInto 59 = .ok (.goto (-52), 3) := by decide +kernel
theorem dX1_countInto_62 : decode cX1_countInto 62 = .ok (.return_, 1) := by decide +kernel
theorem dX1_crossings_0 : decode cX1_crossings 0 = .ok (.aload_n 1, 1) := by decide +kernel
theorem dX1_crossings_1 : decode cX1_crossings 1 = .ok (.ifnonnull 5, 3) := by decide +kernel
theorem dX1_crossings_4 : decode cX1_crossings 4 = .ok (.iconst 0, 1) := by decide +kernel
theorem dX1_crossings_5 : decode cX1_crossings 5 = .ok (.ireturn, 1) := by decide +kernel
theorem dX1_crossings_6 : decode cX1_crossings 6 = .ok (.iconst 0, 1) := by decide +kernel
theorem dX1_crossings_7 : decode cX1_crossings 7 = .ok (.istore_n 2, 1) := by decide +kernel
theorem dX1_crossings_8 : decode cX1_crossings 8 = .ok (.iconst 1, 1) := by decide +kernel
theorem dX1_crossings_9 : decode cX1_crossings 9 = .ok (.istore_n 3, 1) := by decide +kernel
theorem dX1_crossings_10 : decode cX1_crossings 10 = .ok (.iload_n 3, 1) := by decide +kernel
theorem dX1_crossings_11 : decode cX1_crossings 11 = .ok (.aload_n 0, 1) := by decide +kernel
theorem dX1_crossings_12 : decode cX1_crossings 12 = .ok (.getfield 9, 3) := by decide +kernel
theorem dX1_crossings_15 : decode cX1_crossings 15 = .ok (.arraylength, 1) := by decide +kernel
theorem dX1_crossings_16 : decode cX1_crossings 16 = .ok (.if_icmp .ge 64, 3) := by decide +kernel
theorem dX1_crossings_19 : decode cX1_crossings 19 = .ok (.aload_n 0, 1) := by decide +kernel
theorem dX1_crossings_20 : decode cX1_crossings 20 = .ok (.getfield 9, 3) := by decide +kernel
theorem dX1_crossings_23 : decode cX1_crossings 23 = .ok (.iload_n 3, 1) := by decide +kernel
theorem dX1_crossings_24 : decode cX1_crossings 24 = .ok (.iaload, 1) := by decide +kernel
theorem dX1_crossings_25 : decode cX1_crossings 25 = .ok (.istore 4, 2) := by decide +kernel
theorem dX1_crossings_27 : decode cX1_crossings 27 = .ok (.aload_n 0, 1) := by decide +kernel
theorem dX1_crossings_28 : decode cX1_crossings 28 = .ok (.getfield 9, 3) := by decide +kernel
theorem dX1_crossings_31 : decode cX1_crossings 31 = .ok (.iload_n 3, 1) := by decide +kernel
theorem dX1_crossings_32 : decode cX1_crossings 32 = .ok (.iconst 1, 1) := by decide +kernel
theorem dX1_crossings_33 : decode cX1_crossings 33 = .ok (.isub, 1) := by decide +kernel
theorem dX1_crossings_34 : decode cX1_crossings 34 = .ok (.iaload, 1) := by decide +kernel
theorem dX1_crossings_35 : decode cX1_crossings 35 = .ok (.istore 5, 2) := by decide +kernel
theorem dX1_crossings_37 : decode cX1_crossings 37 = .ok (.iload 4, 2) := by decide +kernel
theorem dX1_crossings_39 : decode cX1_crossings 39 = .ok (.iconst (-1), 1) := by decide +kernel
theorem dX1_crossings_40 : decode cX1_crossings 40 = .ok (.if_icmp .eq 34, 3) := by decide +kernel
theorem dX1_crossings_43 : decode cX1_crossings 43 = .ok (.iload 5, 2) := by decide +kernel
theorem dX1_crossings_45 : decode cX1_crossings 45 = .ok (.iconst (-1), 1) := by decide +kernel
theorem dX1_crossings_46 : decode cX1_crossings 46 = .ok (.if_icmp .eq 28, 3) := by decide +kernel
theorem dX1_crossings_49 : decode cX1_crossings 49 = .ok (.iload 4, 2) := by decide +kernel
theorem dX1_crossings_51 : decode cX1_crossings 51 = .ok (.iload 5, 2) := by decide +kernel
theorem dX1_crossings_53 : decode cX1_crossings 53 = .ok (.if_icmp .eq 21, 3) := by decide +kernel
theorem dX1_crossings_56 : decode cX1_crossings 56 = .ok (.aload_n 1, 1) := by decide +kernel
theorem dX1_crossings_57 : decode cX1_crossings 57 = .ok (.iload 4, 2) := by decide +kernel
theorem dX1_crossings_59 : decode cX1_crossings 59 = .ok (.invokevirtual 108, 3) := by decide +kernel
theorem dX1_crossings_62 : decode cX1_crossings 62 = .ok (.aload_n 1, 1) := by decide +kernel
theorem dX1_crossings_63 : decode cX1_crossings 63 = .ok (.iload 5, 2) := by decide +kernel
theorem dX1_crossings_65 : decode cX1_crossings 65 = .ok (.invokevirtual 108, 3) := by decide +kernel
theorem dX1_crossings_68 : decode cX1_crossings 68 = .ok (.if_icmp .ge 6, 3) := by decide +kernel
theorem dX1_crossings_71 : decode cX1_crossings 71 = .ok (.iinc 2 1, 3) := by decide +kernel
theorem dX1_crossings_74 : decode cX1_crossings 74 = .ok (.iinc 3 1, 3) := by decide +kernel
theorem dX1_crossings_77 : decode cX1_crossings 77 = .ok (.goto (-67), 3) := by decide +kernel
theorem dX1_crossings_80 : decode cX1_crossings 80 = .ok (.iload_n 2, 1) := by decide +kernel
theorem dX1_crossings_81 : decode cX1_crossings 81 = .ok (.ireturn, 1) := by decide +kernel
theorem dX1_unlikeCells_0 : decode cX1_unlikeCells 0 = .ok (.aload_n 1, 1) := by decide +kernel
theorem dX1_unlikeCells_1 : decode cX1_unlikeCells 1 = .ok (.ifnonnull 5, 3) := by decide +kernel
theorem dX1_unlikeCells_4 : decode cX1_unlikeCells 4 = .ok (.iconst 0, 1) := by decide +kernel
theorem dX1_unlikeCells_5 : decode cX1_unlikeCells 5 = .ok (.ireturn, 1) := by decide +kernel
theorem dX1_unlikeCells_6 : decode cX1_unlikeCells 6 = .ok (.aload_n 1, 1) := by decide +kernel
theorem dX1_unlikeCells_7 : decode cX1_unlikeCells 7 = .ok (.getfield 9, 3) := by decide +kernel
theorem dX1_unlikeCells_10 : decode cX1_unlikeCells 10 = .ok (.astore_n 2, 1) := by decide +kernel
theorem dX1_unlikeCells_11 : decode cX1_unlikeCells 11 = .ok (.iconst 0, 1) := by decide +kernel
theorem dX1_unlikeCells_12 : decode cX1_unlikeCells 12 = .ok (.istore_n 3, 1) := by decide +kernel
theorem dX1_unlikeCells_13 : decode cX1_unlikeCells 13 = .ok (.iconst 0, 1) := by decide +kernel
theorem dX1_unlikeCells_14 : decode cX1_unlikeCells 14 = .ok (.istore 4, 2) := by decide +kernel
theorem dX1_unlikeCells_16 : decode cX1_unlikeCells 16 = .ok (.iload 4, 2) := by decide +kernel
theorem dX1_unlikeCells_18 : decode cX1_unlikeCells 18 = .ok (.aload_n 0, 1) := by decide +kernel
theorem dX1_unlikeCells_19 : decode cX1_unlikeCells 19 = .ok (.getfield 9, 3) := by decide +kernel
theorem dX1_unlikeCells_22 : decode cX1_unlikeCells 22 = .ok (.arraylength, 1) := by decide +kernel
theorem dX1_unlikeCells_23 : decode cX1_unlikeCells 23 = .ok (.if_icmp .ge 33, 3) := by decide +kernel
theorem dX1_unlikeCells_26 : decode cX1_unlikeCells 26 = .ok (.iload 4, 2) := by decide +kernel
theorem dX1_unlikeCells_28 : decode cX1_unlikeCells 28 = .ok (.aload_n 2, 1) := by decide +kernel
theorem dX1_unlikeCells_29 : decode cX1_unlikeCells 29 = .ok (.arraylength, 1) := by decide +kernel
theorem dX1_unlikeCells_30 : decode cX1_unlikeCells 30 = .ok (.if_icmp .ge 26, 3) := by decide +kernel
theorem dX1_unlikeCells_33 : decode cX1_unlikeCells 33 = .ok (.aload_n 0, 1) := by decide +kernel
theorem dX1_unlikeCells_34 : decode cX1_unlikeCells 34 = .ok (.getfield 9, 3) := by decide +kernel
theorem dX1_unlikeCells_37 : decode cX1_unlikeCells 37 = .ok (.iload 4, 2) := by decide +kernel
theorem dX1_unlikeCells_39 : decode cX1_unlikeCells 39 = .ok (.iaload, 1) := by decide +kernel
theorem dX1_unlikeCells_40 : decode cX1_unlikeCells 40 = .ok (.aload_n 2, 1) := by decide +kernel
theorem dX1_unlikeCells_41 : decode cX1_unlikeCells 41 = .ok (.iload 4, 2) := by decide +kernel
theorem dX1_unlikeCells_43 : decode cX1_unlikeCells 43 = .ok (.iaload, 1) := by decide +kernel
theorem dX1_unlikeCells_44 : decode cX1_unlikeCells 44 = .ok (.if_icmp .eq 6, 3) := by decide +kernel
theorem dX1_unlikeCells_47 : decode cX1_unlikeCells 47 = .ok (.iinc 3 1, 3) := by decide +kernel
theorem dX1_unlikeCells_50 : decode cX1_unlikeCells 50 = .ok (.iinc 4 1, 3) := by decide +kernel
theorem dX1_unlikeCells_53 : decode cX1_unlikeCells 53 = .ok (.goto (-37), 3) := by decide +kernel
theorem dX1_unlikeCells_56 : decode cX1_unlikeCells 56 = .ok (.iload_n 3, 1) := by decide +kernel
theorem dX1_unlikeCells_57 : decode cX1_unlikeCells 57 = .ok (.ireturn, 1) := by decide +kernel
theorem dX1_isLike_0 : decode cX1_isLike 0 = .ok (.aload_n 1, 1) := by decide +kernel
theorem dX1_isLike_1 : decode cX1_isLike 1 = .ok (.ifnonnull 5, 3) := by decide +kernel
theorem dX1_isLike_4 : decode cX1_isLike 4 = .ok (.iconst 0, 1) := by decide +kernel
theorem dX1_isLike_5 : decode cX1_isLike 5 = .ok (.ireturn, 1) := by decide +kernel
theorem dX1_isLike_6 : decode cX1_isLike 6 = .ok (.aload_n 1, 1) := by decide +kernel
theorem dX1_isLike_7 : decode cX1_isLike 7 = .ok (.getfield 9, 3) := by decide +kernel
theorem dX1_isLike_10 : decode cX1_isLike 10 = .ok (.astore_n 2, 1) := by decide +kernel
theorem dX1_isLike_11 : decode cX1_isLike 11 = .ok (.iconst 0, 1) := by decide +kernel
theorem dX1_isLike_12 : decode cX1_isLike 12 = .ok (.istore_n 3, 1) := by decide +kernel
theorem dX1_isLike_13 : decode cX1_isLike 13 = .ok (.iload_n 3, 1) := by decide +kernel
theorem dX1_isLike_14 : decode cX1_isLike 14 = .ok (.aload_n 0, 1) := by decide +kernel
theorem dX1_isLike_15 : decode cX1_isLike 15 = .ok (.getfield 9, 3) := by decide +kernel
theorem dX1_isLike_18 : decode cX1_isLike 18 = .ok (.arraylength, 1) := by decide +kernel
theorem dX1_isLike_19 : decode cX1_isLike 19 = .ok (.if_icmp .ge 29, 3) := by decide +kernel
theorem dX1_isLike_22 : decode cX1_isLike 22 = .ok (.iload_n 3, 1) := by decide +kernel
theorem dX1_isLike_23 : decode cX1_isLike 23 = .ok (.aload_n 2, 1) := by decide +kernel
theorem dX1_isLike_24 : decode cX1_isLike 24 = .ok (.arraylength, 1) := by decide +kernel
theorem dX1_isLike_25 : decode cX1_isLike 25 = .ok (.if_icmp .ge 23, 3) := by decide +kernel
theorem dX1_isLike_28 : decode cX1_isLike 28 = .ok (.aload_n 0, 1) := by decide +kernel
theorem dX1_isLike_29 : decode cX1_isLike 29 = .ok (.getfield 9, 3) := by decide +kernel
theorem dX1_isLike_32 : decode cX1_isLike 32 = .ok (.iload_n 3, 1) := by decide +kernel
theorem dX1_isLike_33 : decode cX1_isLike 33 = .ok (.iaload, 1) := by decide +kernel
theorem dX1_isLike_34 : decode cX1_isLike 34 = .ok (.aload_n 2, 1) := by decide +kernel
theorem dX1_isLike_35 : decode cX1_isLike 35 = .ok (.iload_n 3, 1) := by decide +kernel
theorem dX1_isLike_36 : decode cX1_isLike 36 = .ok (.iaload, 1) := by decide +kernel
theorem dX1_isLike_37 : decode cX1_isLike 37 = .ok (.if_icmp .eq 5, 3) := by decide +kernel
theorem dX1_isLike_40 : decode cX1_isLike 40 = .ok (.iconst 0, 1) := by decide +kernel
theorem dX1_isLike_41 : decode cX1_isLike 41 = .ok (.ireturn, 1) := by decide +kernel
theorem dX1_isLike_42 : decode cX1_isLike 42 = .ok (.iinc 3 1, 3) := by decide +kernel
theorem dX1_isLike_45 : decode cX1_isLike 45 = .ok (.goto (-32), 3) := by decide +kernel
theorem dX1_isLike_48 : decode cX1_isLike 48 = .ok (.iconst 1, 1) := by decide +kernel
theorem dX1_isLike_49 : decode cX1_isLike 49 = .ok (.ireturn, 1) := by decide +kernel
theorem dX2_init_0 : decode cX2_init 0 = .ok (.aload_n 0, 1) := by decide +kernel
theorem dX2_init_1 : decode cX2_init 1 = .ok (.invokespecial 1, 3) := by decide +kernel
theorem dX2_init_4 : decode cX2_init 4 = .ok (.aload_n 0, 1) := by decide +kernel
theorem dX2_init_5 : decode cX2_init 5 = .ok (.new 7, 3) := by decide +kernel
theorem dX2_init_8 : decode cX2_init 8 = .ok (.dup, 1) := by decide +kernel
theorem dX2_init_9 : decode cX2_init 9 = .ok (.invokespecial 9, 3) := by decide +kernel
theorem dX2_init_12 : decode cX2_init 12 = .ok (.putfield 10, 3) := by decide +kernel
theorem dX2_init_15 : decode cX2_init 15 = .ok (.aload_n 0, 1) := by decide +kernel
theorem dX2_init_16 : decode cX2_init 16 = .ok (.iconst 0, 1) := by decide +kernel
theorem dX2_init_17 : decode cX2_init 17 = .ok (.iload_n 1, 1) := by decide +kernel
theorem dX2_init_18 : decode cX2_init 18 = .ok (.invokestatic 16, 3) := by decide +kernel
theorem dX2_init_21 : decode cX2_init 21 = .ok (.anewarray 7, 3) := by decide +kernel
theorem dX2_init_24 : decode cX2_init 24 = .ok (.putfield 22, 3) := by decide +kernel
theorem dX2_init_27 : decode cX2_init 27 = .ok (.iconst 0, 1) := by decide +kernel
theorem dX2_init_28 : decode cX2_init 28 = .ok (.istore_n 2, 1) := by decide +kernel
theorem dX2_init_29 : decode cX2_init 29 = .ok (.iload_n 2, 1) := by decide +kernel
theorem dX2_init_30 : decode cX2_init 30 = .ok (.aload_n 0, 1) := by decide +kernel
theorem dX2_init_31 : decode cX2_init 31 = .ok (.getfield 22, 3) := by decide +kernel
theorem dX2_init_34 : decode cX2_init 34 = .ok (.arraylength, 1) := by decide +kernel
theorem dX2_init_35 : decode cX2_init 35 = .ok (.if_icmp .ge 22, 3) := by decide +kernel
theorem dX2_init_38 : decode cX2_init 38 = .ok (.aload_n 0, 1) := by decide +kernel
theorem dX2_init_39 : decode cX2_init 39 = .ok (.getfield 22, 3) := by decide +kernel
theorem dX2_init_42 : decode cX2_init 42 = .ok (.iload_n 2, 1) := by decide +kernel
theorem dX2_init_43 : decode cX2_init 43 = .ok (.new 7, 3) := by decide +kernel
theorem dX2_init_46 : decode cX2_init 46 = .ok (.dup, 1) := by decide +kernel
theorem dX2_init_47 : decode cX2_init 47 = .ok (.invokespecial 9, 3) := by decide +kernel
theorem dX2_init_50 : decode cX2_init 50 = .ok (.aastore, 1) := by decide +kernel
theorem dX2_init_51 : decode cX2_init 51 = .ok (.iinc 2 1, 3) := by decide +kernel
theorem dX2_init_54 : decode cX2_init 54 = .ok (.goto (-25), 3) := by decide +kernel
theorem dX2_init_57 : decode cX2_init 57 = .ok (.return_, 1) := by decide +kernel
theorem dX2_of_0 : decode cX2_of 0 = .ok (.iload_n 1, 1) := by decide +kernel
theorem dX2_of_1 : decode cX2_of 1 = .ok (.ifCond .lt 21, 3) := by decide +kernel
theorem dX2_of_4 : decode cX2_of 4 = .ok (.iload_n 1, 1) := by decide +kernel
theorem dX2_of_5 : decode cX2_of 5 = .ok (.aload_n 0, 1) := by decide +kernel
theorem dX2_of_6 : decode cX2_of 6 = .ok (.getfield 22, 3) := by decide +kernel
theorem dX2_of_9 : decode cX2_of 9 = .ok (.arraylength, 1) := by decide +kernel
theorem dX2_of_10 : decode cX2_of 10 = .ok (.if_icmp .ge 12, 3) := by decide +kernel
theorem dX2_of_13 : decode cX2_of 13 = .ok (.aload_n 0, 1) := by decide +kernel
theorem dX2_of_14 : decode cX2_of 14 = .ok (.getfield 22, 3) := by decide +kernel
theorem dX2_of_17 : decode cX2_of 17 = .ok (.iload_n 1, 1) := by decide +kernel
theorem dX2_of_18 : decode cX2_of 18 = .ok (.aaload, 1) := by decide +kernel
theorem dX2_of_19 : decode cX2_of 19 = .ok (.ifnonnull 8, 3) := by decide +kernel
theorem dX2_of_22 : decode cX2_of 22 = .ok (.aload_n 0, 1) := by decide +kernel
theorem dX2_of_23 : decode cX2_of 23 = .ok (.getfield 10, 3) := by decide +kernel
theorem dX2_of_26 : decode cX2_of 26 = .ok (.areturn, 1) := by decide +kernel
theorem dX2_of_27 : decode cX2_of 27 = .ok (.aload_n 0, 1) := by decide +kernel
theorem dX2_of_28 : decode cX2_of 28 = .ok (.getfield 22, 3) := by decide +kernel
theorem dX2_of_31 : decode cX2_of 31 = .ok (.iload_n 1, 1) := by decide +kernel
theorem dX2_of_32 : decode cX2_of 32 = .ok (.aaload, 1) := by decide +kernel
theorem dX2_of_33 : decode cX2_of 33 = .ok (.areturn, 1) := by decide +kernel
theorem dX2_tell_0 : decode cX2_tell 0 = .ok (.iconst 0, 1) := by decide +kernel
theorem dX2_tell_1 : decode cX2_tell 1 = .ok (.istore_n 3, 1) := by decide +kernel
theorem dX2_tell_2 : decode cX2_tell 2 = .ok (.iload_n 3, 1) := by decide +kernel
theorem dX2_tell_3 : decode cX2_tell 3 = .ok (.aload_n 0, 1) := by decide +kernel
theorem dX2_tell_4 : decode cX2_tell 4 = .ok (.getfield 22, 3) := by decide +kernel
theorem dX2_tell_7 : decode cX2_tell 7 = .ok (.arraylength, 1) := by decide +kernel
theorem dX2_tell_8 : decode cX2_tell 8 = .ok (.if_icmp .ge 20, 3) := by decide +kernel
theorem dX2_tell_11 : decode cX2_tell 11 = .ok (.aload_n 0, 1) := by decide +kernel
theorem dX2_tell_12 : decode cX2_tell 12 = .ok (.iload_n 3, 1) := by decide +kernel
theorem dX2_tell_13 : decode cX2_tell 13 = .ok (.invokevirtual 26, 3) := by decide +kernel
theorem dX2_tell_16 : decode cX2_tell 16 = .ok (.aload_n 1, 1) := by decide +kernel
theorem dX2_tell_17 : decode cX2_tell 17 = .ok (.iload_n 2, 1) := by decide +kernel
theorem dX2_tell_18 : decode cX2_tell 18 = .ok (.iload_n 3, 1) := by decide +kernel
theorem dX2_tell_19 : decode cX2_tell 19 = .ok (.invokevirtual 30, 3) := by decide +kernel
theorem dX2_tell_22 : decode cX2_tell 22 = .ok (.iinc 3 1, 3) := by decide +kernel
theorem dX2_tell_25 : decode cX2_tell 25 = .ok (.goto (-23), 3) := by decide +kernel
theorem dX2_tell_28 : decode cX2_tell 28 = .ok (.return_, 1) := by decide +kernel
theorem dX2_cellsOf_0 : decode cX2_cellsOf 0 = .ok (.iconst 0, 1) := by decide +kernel
theorem dX2_cellsOf_1 : decode cX2_cellsOf 1 = .ok (.istore_n 2, 1) := by decide +kernel
theorem dX2_cellsOf_2 : decode cX2_cellsOf 2 = .ok (.iconst 0, 1) := by decide +kernel
theorem dX2_cellsOf_3 : decode cX2_cellsOf 3 = .ok (.istore_n 3, 1) := by decide +kernel
theorem dX2_cellsOf_4 : decode cX2_cellsOf 4 = .ok (.iload_n 3, 1) := by decide +kernel
theorem dX2_cellsOf_5 : decode cX2_cellsOf 5 = .ok (.aload_n 0, 1) := by decide +kernel
theorem dX2_cellsOf_6 : decode cX2_cellsOf 6 = .ok (.getfield 22, 3) := by decide +kernel
theorem dX2_cellsOf_9 : decode cX2_cellsOf 9 = .ok (.arraylength, 1) := by decide +kernel
theorem dX2_cellsOf_10 : decode cX2_cellsOf 10 = .ok (.if_icmp .ge 21, 3) := by decide +kernel
theorem dX2_cellsOf_13 : decode cX2_cellsOf 13 = .ok (.iload_n 2, 1) := by decide +kernel
theorem dX2_cellsOf_14 : decode cX2_cellsOf 14 = .ok (.aload_n 0, 1) := by decide +kernel
theorem dX2_cellsOf_15 : decode cX2_cellsOf 15 = .ok (.iload_n 3, 1) := by decide +kernel
theorem dX2_cellsOf_16 : decode cX2_cellsOf 16 = .ok (.invokevirtual 26, 3) := by decide +kernel
theorem dX2_cellsOf_19 : decode cX2_cellsOf 19 = .ok (.iload_n 1, 1) := by decide +kernel
theorem dX2_cellsOf_20 : decode cX2_cellsOf 20 = .ok (.invokevirtual 34, 3) := by decide +kernel
theorem dX2_cellsOf_23 : decode cX2_cellsOf 23 = .ok (.iadd, 1) := by decide +kernel
theorem dX2_cellsOf_24 : decode cX2_cellsOf 24 = .ok (.istore_n 2, 1) := by decide +kernel
theorem dX2_cellsOf_25 : decode cX2_cellsOf 25 = .ok (.iinc 3 1, 3) := by decide +kernel
theorem dX2_cellsOf_28 : decode cX2_cellsOf 28 = .ok (.goto (-24), 3) := by decide +kernel
theorem dX2_cellsOf_31 : decode cX2_cellsOf 31 = .ok (.iload_n 2, 1) := by decide +kernel
theorem dX2_cellsOf_32 : decode cX2_cellsOf 32 = .ok (.ireturn, 1) := by decide +kernel
theorem dX2_crossings_0 : decode cX2_crossings 0 = .ok (.iconst 0, 1) := by decide +kernel
theorem dX2_crossings_1 : decode cX2_crossings 1 = .ok (.istore_n 2, 1) := by decide +kernel
theorem dX2_crossings_2 : decode cX2_crossings 2 = .ok (.iconst 0, 1) := by decide +kernel
theorem dX2_crossings_3 : decode cX2_crossings 3 = .ok (.istore_n 3, 1) := by decide +kernel
theorem dX2_crossings_4 : decode cX2_crossings 4 = .ok (.iload_n 3, 1) := by decide +kernel
theorem dX2_crossings_5 : decode cX2_crossings 5 = .ok (.aload_n 0, 1) := by decide +kernel
theorem dX2_crossings_6 : decode cX2_crossings 6 = .ok (.getfield 22, 3) := by decide +kernel
theorem dX2_crossings_9 : decode cX2_crossings 9 = .ok (.arraylength, 1) := by decide +kernel
theorem dX2_crossings_10 : decode cX2_crossings 10 = .ok (.if_icmp .ge 21, 3) := by decide +kernel
theorem dX2_crossings_13 : decode cX2_crossings 13 = .ok (.iload_n 2, 1) := by decide +kernel
theorem dX2_crossings_14 : decode cX2_crossings 14 = .ok (.aload_n 0, 1) := by decide +kernel
theorem dX2_crossings_15 : decode cX2_crossings 15 = .ok (.iload_n 3, 1) := by decide +kernel
theorem dX2_crossings_16 : decode cX2_crossings 16 = .ok (.invokevirtual 26, 3) := by decide +kernel
theorem dX2_crossings_19 : decode cX2_crossings 19 = .ok (.aload_n 1, 1) := by decide +kernel
theorem dX2_crossings_20 : decode cX2_crossings 20 = .ok (.invokevirtual 38, 3) := by decide +kernel
theorem dX2_crossings_23 : decode cX2_crossings 23 = .ok (.iadd, 1) := by decide +kernel
theorem dX2_crossings_24 : decode cX2_crossings 24 = .ok (.istore_n 2, 1) := by decide +kernel
theorem dX2_crossings_25 : decode cX2_crossings 25 = .ok (.iinc 3 1, 3) := by decide +kernel
theorem dX2_crossings_28 : decode cX2_crossings 28 = .ok (.goto (-24), 3) := by decide +kernel
theorem dX2_crossings_31 : decode cX2_crossings 31 = .ok (.iload_n 2, 1) := by decide +kernel
theorem dX2_crossings_32 : decode cX2_crossings 32 = .ok (.ireturn, 1) := by decide +kernel
theorem dX3_init_0 : decode cX3_init 0 = .ok (.aload_n 0, 1) := by decide +kernel
theorem dX3_init_1 : decode cX3_init 1 = .ok (.invokespecial 3, 3) := by decide +kernel
theorem dX3_init_4 : decode cX3_init 4 = .ok (.aload_n 0, 1) := by decide +kernel
theorem dX3_init_5 : decode cX3_init 5 = .ok (.bipush 8, 2) := by decide +kernel
theorem dX3_init_7 : decode cX3_init 7 = .ok (.newarray .int, 2) := by decide +kernel
theorem dX3_init_9 : decode cX3_init 9 = .ok (.putfield 9, 3) := by decide +kernel
theorem dX3_init_12 : decode cX3_init 12 = .ok (.aload_n 0, 1) := by decide +kernel
theorem dX3_init_13 : decode cX3_init 13 = .ok (.bipush 8, 2) := by decide +kernel
theorem dX3_init_15 : decode cX3_init 15 = .ok (.newarray .int, 2) := by decide +kernel
theorem dX3_init_17 : decode cX3_init 17 = .ok (.putfield 15, 3) := by decide +kernel
theorem dX3_init_20 : decode cX3_init 20 = .ok (.aload_n 0, 1) := by decide +kernel
theorem dX3_init_21 : decode cX3_init 21 = .ok (.bipush 8, 2) := by decide +kernel
theorem dX3_init_23 : decode cX3_init 23 = .ok (.newarray .int, 2) := by decide +kernel
theorem dX3_init_25 : decode cX3_init 25 = .ok (.putfield 18, 3) := by decide +kernel
theorem dX3_init_28 : decode cX3_init 28 = .ok (.aload_n 0, 1) := by decide +kernel
theorem dX3_init_29 : decode cX3_init 29 = .ok (.bipush 8, 2) := by decide +kernel
theorem dX3_init_31 : decode cX3_init 31 = .ok (.newarray .int, 2) := by decide +kernel
theorem dX3_init_33 : decode cX3_init 33 = .ok (.putfield 21, 3) := by decide +kernel
theorem dX3_init_36 : decode cX3_init 36 = .ok (.aload_n 0, 1) := by decide +kernel
theorem dX3_init_37 : decode cX3_init 37 = .ok (.sipush 13448, 3) := by decide +kernel
theorem dX3_init_40 : decode cX3_init 40 = .ok (.newarray .int, 2) := by decide +kernel
theorem dX3_init_42 : decode cX3_init 42 = .ok (.putfield 24, 3) := by decide +kernel
theorem dX3_init_45 : decode cX3_init 45 = .ok (.aload_n 0, 1) := by decide +kernel
theorem dX3_init_46 : decode cX3_init 46 = .ok (.bipush 8, 2) := by decide +kernel
theorem dX3_init_48 : decode cX3_init 48 = .ok (.newarray .int, 2) := by decide +kernel
theorem dX3_init_50 : decode cX3_init 50 = .ok (.putfield 27, 3) := by decide +kernel
theorem dX3_init_53 : decode cX3_init 53 = .ok (.aload_n 0, 1) := by decide +kernel
theorem dX3_init_54 : decode cX3_init 54 = .ok (.iconst 0, 1) := by decide +kernel
theorem dX3_init_55 : decode cX3_init 55 = .ok (.putfield 30, 3) := by decide +kernel
theorem dX3_init_58 : decode cX3_init 58 = .ok (.aload_n 0, 1) := by decide +kernel
theorem dX3_init_59 : decode cX3_init 59 = .ok (.iconst 0, 1) := by decide +kernel
theorem dX3_init_60 : decode cX3_init 60 = .ok (.putfield 34, 3) := by decide +kernel
theorem dX3_init_63 : decode cX3_init 63 = .ok (.return_, 1) := by decide +kernel
theorem dX3_open_0 : decode cX3_open 0 = .ok (.aload_n 0, 1) := by decide +kernel
theorem dX3_open_1 : decode cX3_open 1 = .ok (.getfield 9, 3) := by decide +kernel
theorem dX3_open_4 : decode cX3_open 4 = .ok (.iconst 0, 1) := by decide +kernel
theorem dX3_open_5 : decode cX3_open 5 = .ok (.bipush 8, 2) := by decide +kernel
theorem dX3_open_7 : decode cX3_open 7 = .ok (.bipush (-20), 2) := by decide +kernel
theorem dX3_open_9 : decode cX3_open 9 = .ok (.invokestatic 38, 3) := by decide +kernel
theorem dX3_open_12 : decode cX3_open 12 = .ok (.aload_n 0, 1) := by decide +kernel
theorem dX3_open_13 : decode cX3_open 13 = .ok (.getfield 15, 3) := by decide +kernel
theorem dX3_open_16 : decode cX3_open 16 = .ok (.iconst 0, 1) := by decide +kernel
theorem dX3_open_17 : decode cX3_open 17 = .ok (.bipush 8, 2) := by decide +kernel
theorem dX3_open_19 : decode cX3_open 19 = .ok (.bipush 20, 2) := by decide +kernel
theorem dX3_open_21 : decode cX3_open 21 = .ok (.invokestatic 38, 3) := by decide +kernel
theorem dX3_open_24 : decode cX3_open 24 = .ok (.return_, 1) := by decide +kernel
theorem dX3_narrow_0 : decode cX3_narrow 0 = .ok (.aload_n 0, 1) := by decide +kernel
theorem dX3_narrow_1 : decode cX3_narrow 1 = .ok (.getfield 9, 3) := by decide +kernel
theorem dX3_narrow_4 : decode cX3_narrow 4 = .ok (.iload_n 1, 1) := by decide +kernel
theorem dX3_narrow_5 : decode cX3_narrow 5 = .ok (.iload_n 2, 1) := by decide +kernel
theorem dX3_narrow_6 : decode cX3_narrow 6 = .ok (.aload_n 0, 1) := by decide +kernel
theorem dX3_narrow_7 : decode cX3_narrow 7 = .ok (.getfield 9, 3) := by decide +kernel
theorem dX3_narrow_10 : decode cX3_narrow 10 = .ok (.iload_n 1, 1) := by decide +kernel
theorem dX3_narrow_11 : decode cX3_narrow 11 = .ok (.invokestatic 42, 3) := by decide +kernel
theorem dX3_narrow_14 : decode cX3_narrow 14 = .ok (.invokestatic 46, 3) := by decide +kernel
theorem dX3_narrow_17 : decode cX3_narrow 17 = .ok (.invokestatic 52, 3) := by decide +kernel
theorem dX3_narrow_20 : decode cX3_narrow 20 = .ok (.aload_n 0, 1) := by decide +kernel
theorem dX3_narrow_21 : decode cX3_narrow 21 = .ok (.getfield 15, 3) := by decide +kernel
theorem dX3_narrow_24 : decode cX3_narrow 24 = .ok (.iload_n 1, 1) := by decide +kernel
theorem dX3_narrow_25 : decode cX3_narrow 25 = .ok (.iload_n 3, 1) := by decide +kernel
theorem dX3_narrow_26 : decode cX3_narrow 26 = .ok (.aload_n 0, 1) := by decide +kernel
theorem dX3_narrow_27 : decode cX3_narrow 27 = .ok (.getfield 15, 3) := by decide +kernel
theorem dX3_narrow_30 : decode cX3_narrow 30 = .ok (.iload_n 1, 1) := by decide +kernel
theorem dX3_narrow_31 : decode cX3_narrow 31 = .ok (.invokestatic 42, 3) := by decide +kernel
theorem dX3_narrow_34 : decode cX3_narrow 34 = .ok (.invokestatic 56, 3) := by decide +kernel
theorem dX3_narrow_37 : decode cX3_narrow 37 = .ok (.invokestatic 52, 3) := by decide +kernel
theorem dX3_narrow_40 : decode cX3_narrow 40 = .ok (.return_, 1) := by decide +kernel
theorem dX3_isPossible_0 : decode cX3_isPossible 0 = .ok (.iconst 0, 1) := by decide +kernel
theorem dX3_isPossible_1 : decode cX3_isPossible 1 = .ok (.istore_n 1, 1) := by decide +kernel
theorem dX3_isPossible_2 : decode cX3_isPossible 2 = .ok (.iload_n 1, 1) := by decide +kernel
theorem dX3_isPossible_3 : decode cX3_isPossible 3 = .ok (.bipush 8, 2) := by decide +kernel
theorem dX3_isPossible_5 : decode cX3_isPossible 5 = .ok (.if_icmp .ge 30, 3) := by decide +kernel
theorem dX3_isPossible_8 : decode cX3_isPossible 8 = .ok (.aload_n 0, 1) := by decide +kernel
theorem dX3_isPossible_9 : decode cX3_isPossible 9 = .ok (.getfield 9, 3) := by decide +kernel
theorem dX3_isPossible_12 : decode cX3_isPossible 12 = .ok (.iload_n 1, 1) := by decide +kernel
theorem dX3_isPossible_13 : decode cX3_isPossible 13 = .ok (.invokestatic 42, 3) := by decide +kernel
theorem dX3_isPossible_16 : decode cX3_isPossible 16 = .ok (.aload_n 0, 1) := by decide +kernel
theorem dX3_isPossible_17 : decode cX3_isPossible 17 = .ok (.getfield 15, 3) := by decide +kernel
theorem dX3_isPossible_20 : decode cX3_isPossible 20 = .ok (.iload_n 1, 1) := by decide +kernel
theorem dX3_isPossible_21 : decode cX3_isPossible 21 = .ok (.invokestatic 42, 3) := by decide +kernel
theorem dX3_isPossible_24 : decode cX3_isPossible 24 = .ok (.if_icmp .le 5, 3) := by decide +kernel
theorem dX3_isPossible_27 : decode cX3_isPossible 27 = .ok (.iconst 0, 1) := by decide +kernel
theorem dX3_isPossible_28 : decode cX3_isPossible 28 = .ok (.ireturn, 1) := by decide +kernel
theorem dX3_isPossible_29 : decode cX3_isPossible 29 = .ok (.iinc 1 1, 3) := by decide +kernel
theorem dX3_isPossible_32 : decode cX3_isPossible 32 = .ok (.goto (-30), 3) := by decide +kernel
theorem dX3_isPossible_35 : decode cX3_isPossible 35 = .ok (.iconst 1, 1) := by decide +kernel
theorem dX3_isPossible_36 : decode cX3_isPossible 36 = .ok (.ireturn, 1) := by decide +kernel
theorem dX3_bend_0 : decode cX3_bend 0 = .ok (.aload_n 0, 1) := by decide +kernel
theorem dX3_bend_1 : decode cX3_bend 1 = .ok (.getfield 30, 3) := by decide +kernel
theorem dX3_bend_4 : decode cX3_bend 4 = .ok (.ireturn, 1) := by decide +kernel
theorem dX3_height_0 : decode cX3_height 0 = .ok (.aload_n 0, 1) := by decide +kernel
theorem dX3_height_1 : decode cX3_height 1 = .ok (.getfield 27, 3) := by decide +kernel
theorem dX3_height_4 : decode cX3_height 4 = .ok (.iload_n 1, 1) := by decide +kernel
theorem dX3_height_5 : decode cX3_height 5 = .ok (.invokestatic 42, 3) := by decide +kernel
theorem dX3_height_8 : decode cX3_height 8 = .ok (.ireturn, 1) := by decide +kernel
theorem dX3_know_0 : decode cX3_know 0 = .ok (.aload_n 0, 1) := by decide +kernel
theorem dX3_know_1 : decode cX3_know 1 = .ok (.getfield 34, 3) := by decide +kernel
theorem dX3_know_4 : decode cX3_know 4 = .ok (.ifCond .eq 11, 3) := by decide +kernel
theorem dX3_know_7 : decode cX3_know 7 = .ok (.aload_n 0, 1) := by decide +kernel
theorem dX3_know_8 : decode cX3_know 8 = .ok (.invokevirtual 59, 3) := by decide +kernel
theorem dX3_know_11 : decode cX3_know 11 = .ok (.ifCond .eq 4, 3) := by decide +kernel
theorem dX3_know_14 : decode cX3_know 14 = .ok (.return_, 1) := by decide +kernel
theorem dX3_know_15 : decode cX3_know 15 = .ok (.bipush 6, 2) := by decide +kernel
theorem dX3_know_17 : decode cX3_know 17 = .ok (.istore_n 1, 1) := by decide +kernel
theorem dX3_know_18 : decode cX3_know 18 = .ok (.iload_n 1, 1) := by decide +kernel
theorem dX3_know_19 : decode cX3_know 19 = .ok (.iconst 1, 1) := by decide +kernel
theorem dX3_know_20 : decode cX3_know 20 = .ok (.if_icmp .lt 14, 3) := by decide +kernel
theorem dX3_know_23 : decode cX3_know 23 = .ok (.aload_n 0, 1) := by decide +kernel
theorem dX3_know_24 : decode cX3_know 24 = .ok (.iload_n 1, 1) := by decide +kernel
theorem dX3_know_25 : decode cX3_know 25 = .ok (.invokevirtual 63, 3) := by decide +kernel
theorem dX3_know_28 : decode cX3_know 28 = .ok (.iinc 1 (-1), 3) := by decide +kernel
theorem dX3_know_31 : decode cX3_know 31 = .ok (.goto (-13), 3) := by decide +kernel
theorem dX3_know_34 : decode cX3_know 34 = .ok (.aload_n 0, 1) := by decide +kernel
theorem dX3_know_35 : decode cX3_know 35 = .ok (.invokevirtual 67, 3) := by decide +kernel
theorem dX3_know_38 : decode cX3_know 38 = .ok (.iconst 1, 1) := by decide +kernel
theorem dX3_know_39 : decode cX3_know 39 = .ok (.istore_n 1, 1) := by decide +kernel
theorem dX3_know_40 : decode cX3_know 40 = .ok (.iload_n 1, 1) := by decide +kernel
theorem dX3_know_41 : decode cX3_know 41 = .ok (.bipush 7, 2) := by decide +kernel
theorem dX3_know_43 : decode cX3_know 43 = .ok (.if_icmp .ge 14, 3) := by decide +kernel
theorem dX3_know_46 : decode cX3_know 46 = .ok (.aload_n 0, 1) := by decide +kernel
theorem dX3_know_47 : decode cX3_know 47 = .ok (.iload_n 1, 1) := by decide +kernel
theorem dX3_know_48 : decode cX3_know 48 = .ok (.invokevirtual 70, 3) := by decide +kernel
theorem dX3_know_51 : decode cX3_know 51 = .ok (.iinc 1 1, 3) := by decide +kernel
theorem dX3_know_54 : decode cX3_know 54 = .ok (.goto (-14), 3) := by decide +kernel
theorem dX3_know_57 : decode cX3_know 57 = .ok (.aload_n 0, 1) := by decide +kernel
theorem dX3_know_58 : decode cX3_know 58 = .ok (.getfield 9, 3) := by decide +kernel
theorem dX3_know_61 : decode cX3_know 61 = .ok (.iconst 0, 1) := by decide +kernel
theorem dX3_know_62 : decode cX3_know 62 = .ok (.aload_n 0, 1) := by decide +kernel
theorem dX3_know_63 : decode cX3_know 63 = .ok (.getfield 18, 3) := by decide +kernel
theorem dX3_know_66 : decode cX3_know 66 = .ok (.iconst 0, 1) := by decide +kernel
theorem dX3_know_67 : decode cX3_know 67 = .ok (.bipush 8, 2) := by decide +kernel
theorem dX3_know_69 : decode cX3_know 69 = .ok (.invokestatic 73, 3) := by decide +kernel
theorem dX3_know_72 : decode cX3_know 72 = .ok (.aload_n 0, 1) := by decide +kernel
theorem dX3_know_73 : decode cX3_know 73 = .ok (.getfield 15, 3) := by decide +kernel
theorem dX3_know_76 : decode cX3_know 76 = .ok (.iconst 0, 1) := by decide +kernel
theorem dX3_know_77 : decode cX3_know 77 = .ok (.aload_n 0, 1) := by decide +kernel
theorem dX3_know_78 : decode cX3_know 78 = .ok (.getfield 21, 3) := by decide +kernel
theorem dX3_know_81 : decode cX3_know 81 = .ok (.iconst 0, 1) := by decide +kernel
theorem dX3_know_82 : decode cX3_know 82 = .ok (.bipush 8, 2) := by decide +kernel
theorem dX3_know_84 : decode cX3_know 84 = .ok (.invokestatic 73, 3) := by decide +kernel
theorem dX3_know_87 : decode cX3_know 87 = .ok (.aload_n 0, 1) := by decide +kernel
theorem dX3_know_88 : decode cX3_know 88 = .ok (.iconst 1, 1) := by decide +kernel
theorem dX3_know_89 : decode cX3_know 89 = .ok (.putfield 34, 3) := by decide +kernel
theorem dX3_know_92 : decode cX3_know 92 = .ok (.return_, 1) := by decide +kernel
theorem dX3_isAsDrawn_0 : decode cX3_isAsDrawn 0 = .ok (.iconst 0, 1) := by decide +kernel
theorem dX3_isAsDrawn_1 : decode cX3_isAsDrawn 1 = .ok (.istore_n 1, 1) := by decide +kernel
theorem dX3_isAsDrawn_2 : decode cX3_isAsDrawn 2 = .ok (.iload_n 1, 1) := by decide +kernel
theorem dX3_isAsDrawn_3 : decode cX3_isAsDrawn 3 = .ok (.bipush 8, 2) := by decide +kernel
theorem dX3_isAsDrawn_5 : decode cX3_isAsDrawn 5 = .ok (.if_icmp .ge 49, 3) := by decide +kernel
theorem dX3_isAsDrawn_8 : decode cX3_isAsDrawn 8 = .ok (.aload_n 0, 1) := by decide +kernel
theorem dX3_isAsDrawn_9 : decode cX3_isAsDrawn 9 = .ok (.getfield 9, 3) := by decide +kernel
theorem dX3_isAsDrawn_12 : decode cX3_isAsDrawn 12 = .ok (.iload_n 1, 1) := by decide +kernel
theorem dX3_isAsDrawn_13 : decode cX3_isAsDrawn 13 = .ok (.invokestatic 42, 3) := by decide +kernel
theorem dX3_isAsDrawn_16 : decode cX3_isAsDrawn 16 = .ok (.aload_n 0, 1) := by decide +kernel
theorem dX3_isAsDrawn_17 : decode cX3_isAsDrawn 17 = .ok (.getfield 18, 3) := by decide +kernel
theorem dX3_isAsDrawn_20 : decode cX3_isAsDrawn 20 = .ok (.iload_n 1, 1) := by decide +kernel
theorem dX3_isAsDrawn_21 : decode cX3_isAsDrawn 21 = .ok (.invokestatic 42, 3) := by decide +kernel
theorem dX3_isAsDrawn_24 : decode cX3_isAsDrawn 24 = .ok (.if_icmp .ne 22, 3) := by decide +kernel
theorem dX3_isAsDrawn_27 : decode cX3_isAsDrawn 27 = .ok (.aload_n 0, 1) := by decide +kernel
theorem dX3_isAsDrawn_28 : decode cX3_isAsDrawn 28 = .ok (.getfield 15, 3) := by decide +kernel
theorem dX3_isAsDrawn_31 : decode cX3_isAsDrawn 31 = .ok (.iload_n 1, 1) := by decide +kernel
theorem dX3_isAsDrawn_32 : decode cX3_isAsDrawn 32 = .ok (.invokestatic 42, 3) := by decide +kernel
theorem dX3_isAsDrawn_35 : decode cX3_isAsDrawn 35 = .ok (.aload_n 0, 1) := by decide +kernel
theorem dX3_isAsDrawn_36 : decode cX3_isAsDrawn 36 = .ok (.getfield 21, 3) := by decide +kernel
theorem dX3_isAsDrawn_39 : decode cX3_isAsDrawn 39 = .ok (.iload_n 1, 1) := by decide +kernel
theorem dX3_isAsDrawn_40 : decode cX3_isAsDrawn 40 = .ok (.invokestatic 42, 3) := by decide +kernel
theorem dX3_isAsDrawn_43 : decode cX3_isAsDrawn 43 = .ok (.if_icmp .eq 5, 3) := by decide +kernel
theorem dX3_isAsDrawn_46 : decode cX3_isAsDrawn 46 = .ok (.iconst 0, 1) := by decide +kernel
theorem dX3_isAsDrawn_47 : decode cX3_isAsDrawn 47 = .ok (.ireturn, 1) := by decide +kernel
theorem dX3_isAsDrawn_48 : decode cX3_isAsDrawn 48 = .ok (.iinc 1 1, 3) := by decide +kernel
theorem dX3_isAsDrawn_51 : decode cX3_isAsDrawn 51 = .ok (.goto (-49), 3) := by decide +kernel
theorem dX3_isAsDrawn_54 : decode cX3_isAsDrawn 54 = .ok (.iconst 1, 1) := by decide +kernel
theorem dX3_isAsDrawn_55 : decode cX3_isAsDrawn 55 = .ok (.ireturn, 1) := by decide +kernel
theorem dX3_spot_0 : decode cX3_spot 0 = .ok (.iload_n 0, 1) := by decide +kernel
theorem dX3_spot_1 : decode cX3_spot 1 = .ok (.bipush 41, 2) := by decide +kernel
theorem dX3_spot_3 : decode cX3_spot 3 = .ok (.imul, 1) := by decide +kernel
theorem dX3_spot_4 : decode cX3_spot 4 = .ok (.iload_n 1, 1) := by decide +kernel
theorem dX3_spot_5 : decode cX3_spot 5 = .ok (.iadd, 1) := by decide +kernel
theorem dX3_spot_6 : decode cX3_spot 6 = .ok (.bipush 20, 2) := by decide +kernel
theorem dX3_spot_8 : decode cX3_spot 8 = .ok (.iadd, 1) := by decide +kernel
theorem dX3_spot_9 : decode cX3_spot 9 = .ok (.bipush 41, 2) := by decide +kernel
theorem dX3_spot_11 : decode cX3_spot 11 = .ok (.imul, 1) := by decide +kernel
theorem dX3_spot_12 : decode cX3_spot 12 = .ok (.iload_n 2, 1) := by decide +kernel
theorem dX3_spot_13 : decode cX3_spot 13 = .ok (.iadd, 1) := by decide +kernel
theorem dX3_spot_14 : decode cX3_spot 14 = .ok (.bipush 20, 2) := by decide +kernel
theorem dX3_spot_16 : decode cX3_spot 16 = .ok (.iadd, 1) := by decide +kernel
theorem dX3_spot_17 : decode cX3_spot 17 = .ok (.ireturn, 1) := by decide +kernel
theorem dX3_weigh_0 : decode cX3_weigh 0 = .ok (.aload_n 0, 1) := by decide +kernel
theorem dX3_weigh_1 : decode cX3_weigh 1 = .ok (.getfield 9, 3) := by decide +kernel
theorem dX3_weigh_4 : decode cX3_weigh 4 = .ok (.iload_n 1, 1) := by decide +kernel
theorem dX3_weigh_5 : decode cX3_weigh 5 = .ok (.iconst 1, 1) := by decide +kernel
theorem dX3_weigh_6 : decode cX3_weigh 6 = .ok (.isub, 1) := by decide +kernel
theorem dX3_weigh_7 : decode cX3_weigh 7 = .ok (.invokestatic 42, 3) := by decide +kernel
theorem dX3_weigh_10 : decode cX3_weigh 10 = .ok (.istore_n 2, 1) := by decide +kernel
theorem dX3_weigh_11 : decode cX3_weigh 11 = .ok (.iload_n 2, 1) := by decide +kernel
theorem dX3_weigh_12 : decode cX3_weigh 12 = .ok (.aload_n 0, 1) := by decide +kernel
theorem dX3_weigh_13 : decode cX3_weigh 13 = .ok (.getfield 15, 3) := by decide +kernel
theorem dX3_weigh_16 : decode cX3_weigh 16 = .ok (.iload_n 1, 1) := by decide +kernel
theorem dX3_weigh_17 : decode cX3_weigh 17 = .ok (.iconst 1, 1) := by decide +kernel
theorem dX3_weigh_18 : decode cX3_weigh 18 = .ok (.isub, 1) := by decide +kernel
theorem dX3_weigh_19 : decode cX3_weigh 19 = .ok (.invokestatic 42, 3) := by decide +kernel
theorem dX3_weigh_22 : decode cX3_weigh 22 = .ok (.if_icmp .gt 56, 3) := by decide +kernel
theorem dX3_weigh_25 : decode cX3_weigh 25 = .ok (.aload_n 0, 1) := by decide +kernel
theorem dX3_weigh_26 : decode cX3_weigh 26 = .ok (.getfield 9, 3) := by decide +kernel
theorem dX3_weigh_29 : decode cX3_weigh 29 = .ok (.iload_n 1, 1) := by decide +kernel
theorem dX3_weigh_30 : decode cX3_weigh 30 = .ok (.invokestatic 42, 3) := by decide +kernel
theorem dX3_weigh_33 : decode cX3_weigh 33 = .ok (.istore_n 3, 1) := by decide +kernel
theorem dX3_weigh_34 : decode cX3_weigh 34 = .ok (.iload_n 3, 1) := by decide +kernel
theorem dX3_weigh_35 : decode cX3_weigh 35 = .ok (.aload_n 0, 1) := by decide +kernel
theorem dX3_weigh_36 : decode cX3_weigh 36 = .ok (.getfield 15, 3) := by decide +kernel
theorem dX3_weigh_39 : decode cX3_weigh 39 = .ok (.iload_n 1, 1) := by decide +kernel
theorem dX3_weigh_40 : decode cX3_weigh 40 = .ok (.invokestatic 42, 3) := by decide +kernel
theorem dX3_weigh_43 : decode cX3_weigh 43 = .ok (.if_icmp .gt 29, 3) := by decide +kernel
theorem dX3_weigh_46 : decode cX3_weigh 46 = .ok (.aload_n 0, 1) := by decide +kernel
theorem dX3_weigh_47 : decode cX3_weigh 47 = .ok (.getfield 24, 3) := by decide +kernel
theorem dX3_weigh_50 : decode cX3_weigh 50 = .ok (.iload_n 1, 1) := by decide +kernel
theorem dX3_weigh_51 : decode cX3_weigh 51 = .ok (.iload_n 2, 1) := by decide +kernel
theorem dX3_weigh_52 : decode cX3_weigh 52 = .ok (.iload_n 3, 1) := by decide +kernel
theorem dX3_weigh_53 : decode cX3_weigh 53 = .ok (.invokestatic 77, 3) := by decide +kernel
theorem dX3_weigh_56 : decode cX3_weigh 56 = .ok (.aload_n 0, 1) := by decide +kernel
theorem dX3_weigh_57 : decode cX3_weigh 57 = .ok (.iload_n 1, 1) := by decide +kernel
theorem dX3_weigh_58 : decode cX3_weigh 58 = .ok (.iload_n 2, 1) := by decide +kernel
theorem dX3_weigh_59 : decode cX3_weigh 59 = .ok (.iload_n 3, 1) := by decide +kernel
theorem dX3_weigh_60 : decode cX3_weigh 60 = .ok (.invokevirtual 81, 3) := by decide +kernel
theorem dX3_weigh_63 : decode cX3_weigh 63 = .ok (.invokestatic 52, 3) := by decide +kernel
theorem dX3_weigh_66 : decode cX3_weigh 66 = .ok (.iinc 3 1, 3) := by decide +kernel
theorem dX3_weigh_69 : decode cX3_weigh 69 = .ok (.goto (-35), 3) := by decide +kernel
theorem dX3_weigh_72 : decode cX3_weigh 72 = .ok (.iinc 2 1, 3) := by decide +kernel
theorem dX3_weigh_75 : decode cX3_weigh 75 = .ok (.goto (-64), 3) := by decide +kernel
theorem dX3_weigh_78 : decode cX3_weigh 78 = .ok (.return_, 1) := by decide +kernel
theorem dX3_leastAhead_0 : decode cX3_leastAhead 0 = .ok (.aload_n 0, 1) := by decide +kernel
theorem dX3_leastAhead_1 : decode cX3_leastAhead 1 = .ok (.getfield 9, 3) := by decide +kernel
theorem dX3_leastAhead_4 : decode cX3_leastAhead 4 = .ok (.iload_n 1, 1) := by decide +kernel
theorem dX3_leastAhead_5 : decode cX3_leastAhead 5 = .ok (.iconst 1, 1) := by decide +kernel
theorem dX3_leastAhead_6 : decode cX3_leastAhead 6 = .ok (.iadd, 1) := by decide +kernel
theorem dX3_leastAhead_7 : decode cX3_leastAhead 7 = .ok (.invokestatic 42, 3) := by decide +kernel
theorem dX3_leastAhead_10 : decode cX3_leastAhead 10 = .ok (.istore 4, 2) := by decide +kernel
theorem dX3_leastAhead_12 : decode cX3_leastAhead 12 = .ok (.aload_n 0, 1) := by decide +kernel
theorem dX3_leastAhead_13 : decode cX3_leastAhead 13 = .ok (.getfield 15, 3) := by decide +kernel
theorem dX3_leastAhead_16 : decode cX3_leastAhead 16 = .ok (.iload_n 1, 1) := by decide +kernel
theorem dX3_leastAhead_17 : decode cX3_leastAhead 17 = .ok (.iconst 1, 1) := by decide +kernel
theorem dX3_leastAhead_18 : decode cX3_leastAhead 18 = .ok (.iadd, 1) := by decide +kernel
theorem dX3_leastAhead_19 : decode cX3_leastAhead 19 = .ok (.invokestatic 42, 3) := by decide +kernel
theorem dX3_leastAhead_22 : decode cX3_leastAhead 22 = .ok (.istore 5, 2) := by decide +kernel
theorem dX3_leastAhead_24 : decode cX3_leastAhead 24 = .ok (.iconst 2, 1) := by decide +kernel
theorem dX3_leastAhead_25 : decode cX3_leastAhead 25 = .ok (.iload_n 3, 1) := by decide +kernel
theorem dX3_leastAhead_26 : decode cX3_leastAhead 26 = .ok (.imul, 1) := by decide +kernel
theorem dX3_leastAhead_27 : decode cX3_leastAhead 27 = .ok (.iload_n 2, 1) := by decide +kernel
theorem dX3_leastAhead_28 : decode cX3_leastAhead 28 = .ok (.isub, 1) := by decide +kernel
theorem dX3_leastAhead_29 : decode cX3_leastAhead 29 = .ok (.istore 6, 2) := by decide +kernel
theorem dX3_leastAhead_31 : decode cX3_leastAhead 31 = .ok (.ldc 84, 2) := by decide +kernel
theorem dX3_leastAhead_33 : decode cX3_leastAhead 33 = .ok (.istore 7, 2) := by decide +kernel
theorem dX3_leastAhead_35 : decode cX3_leastAhead 35 = .ok (.iconst 0, 1) := by decide +kernel
theorem dX3_leastAhead_36 : decode cX3_leastAhead 36 = .ok (.iload 4, 2) := by decide +kernel
theorem dX3_leastAhead_38 : decode cX3_leastAhead 38 = .ok (.iload 6, 2) := by decide +kernel
theorem dX3_leastAhead_40 : decode cX3_leastAhead 40 = .ok (.isub, 1) := by decide +kernel
theorem dX3_leastAhead_41 : decode cX3_leastAhead 41 = .ok (.iload 6, 2) := by decide +kernel
theorem dX3_leastAhead_43 : decode cX3_leastAhead 43 = .ok (.iload 5, 2) := by decide +kernel
theorem dX3_leastAhead_45 : decode cX3_leastAhead 45 = .ok (.isub, 1) := by decide +kernel
theorem dX3_leastAhead_46 : decode cX3_leastAhead 46 = .ok (.invokestatic 46, 3) := by decide +kernel
theorem dX3_leastAhead_49 : decode cX3_leastAhead 49 = .ok (.invokestatic 46, 3) := by decide +kernel
theorem dX3_leastAhead_52 : decode cX3_leastAhead 52 = .ok (.istore 8, 2) := by decide +kernel
theorem dX3_leastAhead_54 : decode cX3_leastAhead 54 = .ok (.iload 8, 2) := by decide +kernel
theorem dX3_leastAhead_56 : decode cX3_leastAhead 56 = .ok (.istore 9, 2) := by decide +kernel
theorem dX3_leastAhead_58 : decode cX3_leastAhead 58 = .ok (.iload 9, 2) := by decide +kernel
theorem dX3_leastAhead_60 : decode cX3_leastAhead 60 = .ok (.bipush 80, 2) := by decide +kernel
theorem dX3_leastAhead_62 : decode cX3_leastAhead 62 = .ok (.if_icmp .gt 97, 3) := by decide +kernel
theorem dX3_leastAhead_65 : decode cX3_leastAhead 65 = .ok (.iload 9, 2) := by decide +kernel
theorem dX3_leastAhead_67 : decode cX3_leastAhead 67 = .ok (.iload 9, 2) := by decide +kernel
theorem dX3_leastAhead_69 : decode cX3_leastAhead 69 = .ok (.imul, 1) := by decide +kernel
theorem dX3_leastAhead_70 : decode cX3_leastAhead 70 = .ok (.iload 7, 2) := by decide +kernel
theorem dX3_leastAhead_72 : decode cX3_leastAhead 72 = .ok (.if_icmp .ge 87, 3) := by decide +kernel
theorem dX3_leastAhead_75 : decode cX3_leastAhead 75 = .ok (.iload 6, 2) := by decide +kernel
theorem dX3_leastAhead_77 : decode cX3_leastAhead 77 = .ok (.iload 9, 2) := by decide +kernel
theorem dX3_leastAhead_79 : decode cX3_leastAhead 79 = .ok (.isub, 1) := by decide +kernel
theorem dX3_leastAhead_80 : decode cX3_leastAhead 80 = .ok (.iload 4, 2) := by decide +kernel
theorem dX3_leastAhead_82 : decode cX3_leastAhead 82 = .ok (.if_icmp .lt 32, 3) := by decide +kernel
theorem dX3_leastAhead_85 : decode cX3_leastAhead 85 = .ok (.iload 6, 2) := by decide +kernel
theorem dX3_leastAhead_87 : decode cX3_leastAhead 87 = .ok (.iload 9, 2) := by decide +kernel
theorem dX3_leastAhead_89 : decode cX3_leastAhead 89 = .ok (.isub, 1) := by decide +kernel
theorem dX3_leastAhead_90 : decode cX3_leastAhead 90 = .ok (.iload 5, 2) := by decide +kernel
theorem dX3_leastAhead_92 : decode cX3_leastAhead 92 = .ok (.if_icmp .gt 22, 3) := by decide +kernel
theorem dX3_leastAhead_95 : decode cX3_leastAhead 95 = .ok (.iload 7, 2) := by decide +kernel
theorem dX3_leastAhead_97 : decode cX3_leastAhead 97 = .ok (.aload_n 0, 1) := by decide +kernel
theorem dX3_leastAhead_98 : decode cX3_leastAhead 98 = .ok (.iload_n 1, 1) := by decide +kernel
theorem dX3_leastAhead_99 : decode cX3_leastAhead 99 = .ok (.iload_n 2, 1) := by decide +kernel
theorem dX3_leastAhead_100 : decode cX3_leastAhead 100 = .ok (.iload_n 3, 1) := by decide +kernel
theorem dX3_leastAhead_101 : decode cX3_leastAhead 101 = .ok (.iload 6, 2) := by decide +kernel
theorem dX3_leastAhead_103 : decode cX3_leastAhead 103 = .ok (.iload 9, 2) := by decide +kernel
theorem dX3_leastAhead_105 : decode cX3_leastAhead 105 = .ok (.isub, 1) := by decide +kernel
theorem dX3_leastAhead_106 : decode cX3_leastAhead 106 = .ok (.invokevirtual 85, 3) := by decide +kernel
theorem dX3_leastAhead_109 : decode cX3_leastAhead 109 = .ok (.invokestatic 56, 3) := by decide +kernel
theorem dX3_leastAhead_112 : decode cX3_leastAhead 112 = .ok (.istore 7, 2) := by decide +kernel
theorem dX3_leastAhead_114 : decode cX3_leastAhead 114 = .ok (.iload 6, 2) := by decide +kernel
theorem dX3_leastAhead_116 : decode cX3_leastAhead 116 = .ok (.iload 9, 2) := by decide +kernel
theorem dX3_leastAhead_118 : decode cX3_leastAhead 118 = .ok (.iadd, 1) := by decide +kernel
theorem dX3_leastAhead_119 : decode cX3_leastAhead 119 = .ok (.iload 4, 2) := by decide +kernel
theorem dX3_leastAhead_121 : decode cX3_leastAhead 121 = .ok (.if_icmp .lt 32, 3) := by decide +kernel
theorem dX3_leastAhead_124 : decode cX3_leastAhead 124 = .ok (.iload 6, 2) := by decide +kernel
theorem dX3_leastAhead_126 : decode cX3_leastAhead 126 = .ok (.iload 9, 2) := by decide +kernel
theorem dX3_leastAhead_128 : decode cX3_leastAhead 128 = .ok (.iadd, 1) := by decide +kernel
theorem dX3_leastAhead_129 : decode cX3_leastAhead 129 = .ok (.iload 5, 2) := by decide +kernel
theorem dX3_leastAhead_131 : decode cX3_leastAhead 131 = .ok (.if_icmp .gt 22, 3) := by decide +kernel
theorem dX3_leastAhead_134 : decode cX3_leastAhead 134 = .ok (.iload 7, 2) := by decide +kernel
theorem dX3_leastAhead_136 : decode cX3_leastAhead 136 = .ok (.aload_n 0, 1) := by decide +kernel
theorem dX3_leastAhead_137 : decode cX3_leastAhead 137 = .ok (.iload_n 1, 1) := by decide +kernel
theorem dX3_leastAhead_138 : decode cX3_leastAhead 138 = .ok (.iload_n 2, 1) := by decide +kernel
theorem dX3_leastAhead_139 : decode cX3_leastAhead 139 = .ok (.iload_n 3, 1) := by decide +kernel
theorem dX3_leastAhead_140 : decode cX3_leastAhead 140 = .ok (.iload 6, 2) := by decide +kernel
theorem dX3_leastAhead_142 : decode cX3_leastAhead 142 = .ok (.iload 9, 2) := by decide +kernel
theorem dX3_leastAhead_144 : decode cX3_leastAhead 144 = .ok (.iadd, 1) := by decide +kernel
theorem dX3_leastAhead_145 : decode cX3_leastAhead 145 = .ok (.invokevirtual 85, 3) := by decide +kernel
theorem dX3_leastAhead_148 : decode cX3_leastAhead 148 = .ok (.invokestatic 56, 3) := by decide +kernel
theorem dX3_leastAhead_151 : decode cX3_leastAhead 151 = .ok (.istore 7, 2) := by decide +kernel
theorem dX3_leastAhead_153 : decode cX3_leastAhead 153 = .ok (.iinc 9 1, 3) := by decide +kernel
theorem dX3_leastAhead_156 : decode cX3_leastAhead 156 = .ok (.goto (-98), 3) := by decide +kernel
theorem dX3_leastAhead_159 : decode cX3_leastAhead 159 = .ok (.iload 7, 2) := by decide +kernel
theorem dX3_leastAhead_161 : decode cX3_leastAhead 161 = .ok (.ireturn, 1) := by decide +kernel
theorem dX3_bendFrom_0 : decode cX3_bendFrom 0 = .ok (.iload 4, 2) := by decide +kernel
theorem dX3_bendFrom_2 : decode cX3_bendFrom 2 = .ok (.iconst 2, 1) := by decide +kernel
theorem dX3_bendFrom_3 : decode cX3_bendFrom 3 = .ok (.iload_n 3, 1) := by decide +kernel
theorem dX3_bendFrom_4 : decode cX3_bendFrom 4 = .ok (.imul, 1) := by decide +kernel
theorem dX3_bendFrom_5 : decode cX3_bendFrom 5 = .ok (.isub, 1) := by decide +kernel
theorem dX3_bendFrom_6 : decode cX3_bendFrom 6 = .ok (.iload_n 2, 1) := by decide +kernel
theorem dX3_bendFrom_7 : decode cX3_bendFrom 7 = .ok (.iadd, 1) := by decide +kernel
theorem dX3_bendFrom_8 : decode cX3_bendFrom 8 = .ok (.istore 5, 2) := by decide +kernel
theorem dX3_bendFrom_10 : decode cX3_bendFrom 10 = .ok (.iload_n 1, 1) := by decide +kernel
theorem dX3_bendFrom_11 : decode cX3_bendFrom 11 = .ok (.iconst 1, 1) := by decide +kernel
theorem dX3_bendFrom_12 : decode cX3_bendFrom 12 = .ok (.iadd, 1) := by decide +kernel
theorem dX3_bendFrom_13 : decode cX3_bendFrom 13 = .ok (.bipush 7, 2) := by decide +kernel
theorem dX3_bendFrom_15 : decode cX3_bendFrom 15 = .ok (.if_icmp .ge 22, 3) := by decide +kernel
theorem dX3_bendFrom_18 : decode cX3_bendFrom 18 = .ok (.aload_n 0, 1) := by decide +kernel
theorem dX3_bendFrom_19 : decode cX3_bendFrom 19 = .ok (.getfield 24, 3) := by decide +kernel
theorem dX3_bendFrom_22 : decode cX3_bendFrom 22 = .ok (.iload_n 1, 1) := by decide +kernel
theorem dX3_bendFrom_23 : decode cX3_bendFrom 23 = .ok (.iconst 1, 1) := by decide +kernel
theorem dX3_bendFrom_24 : decode cX3_bendFrom 24 = .ok (.iadd, 1) := by decide +kernel
theorem dX3_bendFrom_25 : decode cX3_bendFrom 25 = .ok (.iload_n 3, 1) := by decide +kernel
theorem dX3_bendFrom_26 : decode cX3_bendFrom 26 = .ok (.iload 4, 2) := by decide +kernel
theorem dX3_bendFrom_28 : decode cX3_bendFrom 28 = .ok (.invokestatic 77, 3) := by decide +kernel
theorem dX3_bendFrom_31 : decode cX3_bendFrom 31 = .ok (.invokestatic 42, 3) := by decide +kernel
theorem dX3_bendFrom_34 : decode cX3_bendFrom 34 = .ok (.goto 4, 3) := by decide +kernel
theorem dX3_bendFrom_37 : decode cX3_bendFrom 37 = .ok (.iconst 0, 1) := by decide +kernel
theorem dX3_bendFrom_38 : decode cX3_bendFrom 38 = .ok (.istore 6, 2) := by decide +kernel
theorem dX3_bendFrom_40 : decode cX3_bendFrom 40 = .ok (.iload 5, 2) := by decide +kernel
theorem dX3_bendFrom_42 : decode cX3_bendFrom 42 = .ok (.iload 5, 2) := by decide +kernel
theorem dX3_bendFrom_44 : decode cX3_bendFrom 44 = .ok (.imul, 1) := by decide +kernel
theorem dX3_bendFrom_45 : decode cX3_bendFrom 45 = .ok (.iload 6, 2) := by decide +kernel
theorem dX3_bendFrom_47 : decode cX3_bendFrom 47 = .ok (.iadd, 1) := by decide +kernel
theorem dX3_bendFrom_48 : decode cX3_bendFrom 48 = .ok (.ireturn, 1) := by decide +kernel
theorem dX3_begin_0 : decode cX3_begin 0 = .ok (.aload_n 0, 1) := by decide +kernel
theorem dX3_begin_1 : decode cX3_begin 1 = .ok (.ldc 84, 2) := by decide +kernel
theorem dX3_begin_3 : decode cX3_begin 3 = .ok (.putfield 30, 3) := by decide +kernel
theorem dX3_begin_6 : decode cX3_begin 6 = .ok (.aload_n 0, 1) := by decide +kernel
theorem dX3_begin_7 : decode cX3_begin 7 = .ok (.getfield 9, 3) := by decide +kernel
theorem dX3_begin_10 : decode cX3_begin 10 = .ok (.iconst 0, 1) := by decide +kernel
theorem dX3_begin_11 : decode cX3_begin 11 = .ok (.invokestatic 42, 3) := by decide +kernel
theorem dX3_begin_14 : decode cX3_begin 14 = .ok (.istore_n 1, 1) := by decide +kernel
theorem dX3_begin_15 : decode cX3_begin 15 = .ok (.iload_n 1, 1) := by decide +kernel
theorem dX3_begin_16 : decode cX3_begin 16 = .ok (.aload_n 0, 1) := by decide +kernel
theorem dX3_begin_17 : decode cX3_begin 17 = .ok (.getfield 15, 3) := by decide +kernel
theorem dX3_begin_20 : decode cX3_begin 20 = .ok (.iconst 0, 1) := by decide +kernel
theorem dX3_begin_21 : decode cX3_begin 21 = .ok (.invokestatic 42, 3) := by decide +kernel
theorem dX3_begin_24 : decode cX3_begin 24 = .ok (.if_icmp .gt 84, 3) := by decide +kernel
theorem dX3_begin_27 : decode cX3_begin 27 = .ok (.aload_n 0, 1) := by decide +kernel
theorem dX3_begin_28 : decode cX3_begin 28 = .ok (.getfield 9, 3) := by decide +kernel
theorem dX3_begin_31 : decode cX3_begin 31 = .ok (.iconst 1, 1) := by decide +kernel
theorem dX3_begin_32 : decode cX3_begin 32 = .ok (.invokestatic 42, 3) := by decide +kernel
theorem dX3_begin_35 : decode cX3_begin 35 = .ok (.istore_n 2, 1) := by decide +kernel
theorem dX3_begin_36 : decode cX3_begin 36 = .ok (.iload_n 2, 1) := by decide +kernel
theorem dX3_begin_37 : decode cX3_begin 37 = .ok (.aload_n 0, 1) := by decide +kernel
theorem dX3_begin_38 : decode cX3_begin 38 = .ok (.getfield 15, 3) := by decide +kernel
theorem dX3_begin_41 : decode cX3_begin 41 = .ok (.iconst 1, 1) := by decide +kernel
theorem dX3_begin_42 : decode cX3_begin 42 = .ok (.invokestatic 42, 3) := by decide +kernel
theorem dX3_begin_45 : decode cX3_begin 45 = .ok (.if_icmp .gt 57, 3) := by decide +kernel
theorem dX3_begin_48 : decode cX3_begin 48 = .ok (.aload_n 0, 1) := by decide +kernel
theorem dX3_begin_49 : decode cX3_begin 49 = .ok (.getfield 24, 3) := by decide +kernel
theorem dX3_begin_52 : decode cX3_begin 52 = .ok (.iconst 1, 1) := by decide +kernel
theorem dX3_begin_53 : decode cX3_begin 53 = .ok (.iload_n 1, 1) := by decide +kernel
theorem dX3_begin_54 : decode cX3_begin 54 = .ok (.iload_n 2, 1) := by decide +kernel
theorem dX3_begin_55 : decode cX3_begin 55 = .ok (.invokestatic 77, 3) := by decide +kernel
theorem dX3_begin_58 : decode cX3_begin 58 = .ok (.invokestatic 42, 3) := by decide +kernel
theorem dX3_begin_61 : decode cX3_begin 61 = .ok (.istore_n 3, 1) := by decide +kernel
theorem dX3_begin_62 : decode cX3_begin 62 = .ok (.iload_n 3, 1) := by decide +kernel
theorem dX3_begin_63 : decode cX3_begin 63 = .ok (.aload_n 0, 1) := by decide +kernel
theorem dX3_begin_64 : decode cX3_begin 64 = .ok (.getfield 30, 3) := by decide +kernel
theorem dX3_begin_67 : decode cX3_begin 67 = .ok (.if_icmp .lt 6, 3) := by decide +kernel
theorem dX3_begin_70 : decode cX3_begin 70 = .ok (.goto 26, 3) := by decide +kernel
theorem dX3_begin_73 : decode cX3_begin 73 = .ok (.aload_n 0, 1) := by decide +kernel
theorem dX3_begin_74 : decode cX3_begin 74 = .ok (.iload_n 3, 1) := by decide +kernel
theorem dX3_begin_75 : decode cX3_begin 75 = .ok (.putfield 30, 3) := by decide +kernel
theorem dX3_begin_78 : decode cX3_begin 78 = .ok (.aload_n 0, 1) := by decide +kernel
theorem dX3_begin_79 : decode cX3_begin 79 = .ok (.getfield 27, 3) := by decide +kernel
theorem dX3_begin_82 : decode cX3_begin 82 = .ok (.iconst 0, 1) := by decide +kernel
theorem dX3_begin_83 : decode cX3_begin 83 = .ok (.iload_n 1, 1) := by decide +kernel
theorem dX3_begin_84 : decode cX3_begin 84 = .ok (.invokestatic 52, 3) := by decide +kernel
theorem dX3_begin_87 : decode cX3_begin 87 = .ok (.aload_n 0, 1) := by decide +kernel
theorem dX3_begin_88 : decode cX3_begin 88 = .ok (.getfield 27, 3) := by decide +kernel
theorem dX3_begin_91 : decode cX3_begin 91 = .ok (.iconst 1, 1) := by decide +kernel
theorem dX3_begin_92 : decode cX3_begin 92 = .ok (.iload_n 2, 1) := by decide +kernel
theorem dX3_begin_93 : decode cX3_begin 93 = .ok (.invokestatic 52, 3) := by decide +kernel
theorem dX3_begin_96 : decode cX3_begin 96 = .ok (.iinc 2 1, 3) := by decide +kernel
theorem dX3_begin_99 : decode cX3_begin 99 = .ok (.goto (-63), 3) := by decide +kernel
theorem dX3_begin_102 : decode cX3_begin 102 = .ok (.iinc 1 1, 3) := by decide +kernel
theorem dX3_begin_105 : decode cX3_begin 105 = .ok (.goto (-90), 3) := by decide +kernel
theorem dX3_begin_108 : decode cX3_begin 108 = .ok (.return_, 1) := by decide +kernel
theorem dX3_goOn_0 : decode cX3_goOn 0 = .ok (.aload_n 0, 1) := by decide +kernel
theorem dX3_goOn_1 : decode cX3_goOn 1 = .ok (.iload_n 1, 1) := by decide +kernel
theorem dX3_goOn_2 : decode cX3_goOn 2 = .ok (.iconst 1, 1) := by decide +kernel
theorem dX3_goOn_3 : decode cX3_goOn 3 = .ok (.isub, 1) := by decide +kernel
theorem dX3_goOn_4 : decode cX3_goOn 4 = .ok (.invokevirtual 89, 3) := by decide +kernel
theorem dX3_goOn_7 : decode cX3_goOn 7 = .ok (.istore_n 2, 1) := by decide +kernel
theorem dX3_goOn_8 : decode cX3_goOn 8 = .ok (.aload_n 0, 1) := by decide +kernel
theorem dX3_goOn_9 : decode cX3_goOn 9 = .ok (.iload_n 1, 1) := by decide +kernel
theorem dX3_goOn_10 : decode cX3_goOn 10 = .ok (.invokevirtual 89, 3) := by decide +kernel
theorem dX3_goOn_13 : decode cX3_goOn 13 = .ok (.istore_n 3, 1) := by decide +kernel
theorem dX3_goOn_14 : decode cX3_goOn 14 = .ok (.aload_n 0, 1) := by decide +kernel
theorem dX3_goOn_15 : decode cX3_goOn 15 = .ok (.getfield 24, 3) := by decide +kernel
theorem dX3_goOn_18 : decode cX3_goOn 18 = .ok (.iload_n 1, 1) := by decide +kernel
theorem dX3_goOn_19 : decode cX3_goOn 19 = .ok (.iload_n 2, 1) := by decide +kernel
theorem dX3_goOn_20 : decode cX3_goOn 20 = .ok (.iload_n 3, 1) := by decide +kernel
theorem dX3_goOn_21 : decode cX3_goOn 21 = .ok (.invokestatic 77, 3) := by decide +kernel
theorem dX3_goOn_24 : decode cX3_goOn 24 = .ok (.invokestatic 42, 3) := by decide +kernel
theorem dX3_goOn_27 : decode cX3_goOn 27 = .ok (.istore 4, 2) := by decide +kernel
theorem dX3_goOn_29 : decode cX3_goOn 29 = .ok (.aload_n 0, 1) := by decide +kernel
theorem dX3_goOn_30 : decode cX3_goOn 30 = .ok (.getfield 15, 3) := by decide +kernel
theorem dX3_goOn_33 : decode cX3_goOn 33 = .ok (.iload_n 1, 1) := by decide +kernel
theorem dX3_goOn_34 : decode cX3_goOn 34 = .ok (.iconst 1, 1) := by decide +kernel
theorem dX3_goOn_35 : decode cX3_goOn 35 = .ok (.iadd, 1) := by decide +kernel
theorem dX3_goOn_36 : decode cX3_goOn 36 = .ok (.invokestatic 42, 3) := by decide +kernel
theorem dX3_goOn_39 : decode cX3_goOn 39 = .ok (.istore 5, 2) := by decide +kernel
theorem dX3_goOn_41 : decode cX3_goOn 41 = .ok (.iload 5, 2) := by decide +kernel
theorem dX3_goOn_43 : decode cX3_goOn 43 = .ok (.aload_n 0, 1) := by decide +kernel
theorem dX3_goOn_44 : decode cX3_goOn 44 = .ok (.getfield 9, 3) := by decide +kernel
theorem dX3_goOn_47 : decode cX3_goOn 47 = .ok (.iload_n 1, 1) := by decide +kernel
theorem dX3_goOn_48 : decode cX3_goOn 48 = .ok (.iconst 1, 1) := by decide +kernel
theorem dX3_goOn_49 : decode cX3_goOn 49 = .ok (.iadd, 1) := by decide +kernel
theorem dX3_goOn_50 : decode cX3_goOn 50 = .ok (.invokestatic 42, 3) := by decide +kernel
theorem dX3_goOn_53 : decode cX3_goOn 53 = .ok (.if_icmp .lt 35, 3) := by decide +kernel
theorem dX3_goOn_56 : decode cX3_goOn 56 = .ok (.aload_n 0, 1) := by decide +kernel
theorem dX3_goOn_57 : decode cX3_goOn 57 = .ok (.iload_n 1, 1) := by decide +kernel
theorem dX3_goOn_58 : decode cX3_goOn 58 = .ok (.iload_n 2, 1) := by decide +kernel
theorem dX3_goOn_59 : decode cX3_goOn 59 = .ok (.iload_n 3, 1) := by decide +kernel
theorem dX3_goOn_60 : decode cX3_goOn 60 = .ok (.iload 5, 2) := by decide +kernel
theorem dX3_goOn_62 : decode cX3_goOn 62 = .ok (.invokevirtual 85, 3) := by decide +kernel
theorem dX3_goOn_65 : decode cX3_goOn 65 = .ok (.iload 4, 2) := by decide +kernel
theorem dX3_goOn_67 : decode cX3_goOn 67 = .ok (.if_icmp .ne 15, 3) := by decide +kernel
theorem dX3_goOn_70 : decode cX3_goOn 70 = .ok (.aload_n 0, 1) := by decide +kernel
theorem dX3_goOn_71 : decode cX3_goOn 71 = .ok (.getfield 27, 3) := by decide +kernel
theorem dX3_goOn_74 : decode cX3_goOn 74 = .ok (.iload_n 1, 1) := by decide +kernel
theorem dX3_goOn_75 : decode cX3_goOn 75 = .ok (.iconst 1, 1) := by decide +kernel
theorem dX3_goOn_76 : decode cX3_goOn 76 = .ok (.iadd, 1) := by decide +kernel
theorem dX3_goOn_77 : decode cX3_goOn 77 = .ok (.iload 5, 2) := by decide +kernel
theorem dX3_goOn_79 : decode cX3_goOn 79 = .ok (.invokestatic 52, 3) := by decide +kernel
theorem dX3_goOn_82 : decode cX3_goOn 82 = .ok (.iinc 5 (-1), 3) := by decide +kernel
theorem dX3_goOn_85 : decode cX3_goOn 85 = .ok (.goto (-44), 3) := by decide +kernel
theorem dX3_goOn_88 : decode cX3_goOn 88 = .ok (.return_, 1) := by decide +kernel
theorem dX4_init_0 : decode cX4_init 0 = .ok (.aload_n 0, 1) := by decide +kernel
theorem dX4_init_1 : decode cX4_init 1 = .ok (.invokespecial 3, 3) := by decide +kernel
theorem dX4_init_4 : decode cX4_init 4 = .ok (.aload_n 0, 1) := by decide +kernel
theorem dX4_init_5 : decode cX4_init 5 = .ok (.new 9, 3) := by decide +kernel
theorem dX4_init_8 : decode cX4_init 8 = .ok (.dup, 1) := by decide +kernel
theorem dX4_init_9 : decode cX4_init 9 = .ok (.invokespecial 11, 3) := by decide +kernel
theorem dX4_init_12 : decode cX4_init 12 = .ok (.putfield 12, 3) := by decide +kernel
theorem dX4_init_15 : decode cX4_init 15 = .ok (.aload_n 0, 1) := by decide +kernel
theorem dX4_init_16 : decode cX4_init 16 = .ok (.new 18, 3) := by decide +kernel
theorem dX4_init_19 : decode cX4_init 19 = .ok (.dup, 1) := by decide +kernel
theorem dX4_init_20 : decode cX4_init 20 = .ok (.iconst 5, 1) := by decide +kernel
theorem dX4_init_21 : decode cX4_init 21 = .ok (.invokespecial 20, 3) := by decide +kernel
theorem dX4_init_24 : decode cX4_init 24 = .ok (.putfield 23, 3) := by decide +kernel
theorem dX4_init_27 : decode cX4_init 27 = .ok (.aload_n 0, 1) := by decide +kernel
theorem dX4_init_28 : decode cX4_init 28 = .ok (.iconst 4, 1) := by decide +kernel
theorem dX4_init_29 : decode cX4_init 29 = .ok (.newarray .int, 2) := by decide +kernel
theorem dX4_init_31 : decode cX4_init 31 = .ok (.putfield 27, 3) := by decide +kernel
theorem dX4_init_34 : decode cX4_init 34 = .ok (.aload_n 0, 1) := by decide +kernel
theorem dX4_init_35 : decode cX4_init 35 = .ok (.sipush 1296, 3) := by decide +kernel
theorem dX4_init_38 : decode cX4_init 38 = .ok (.newarray .int, 2) := by decide +kernel
theorem dX4_init_40 : decode cX4_init 40 = .ok (.putfield 31, 3) := by decide +kernel
theorem dX4_init_43 : decode cX4_init 43 = .ok (.aload_n 0, 1) := by decide +kernel
theorem dX4_init_44 : decode cX4_init 44 = .ok (.bipush 16, 2) := by decide +kernel
theorem dX4_init_46 : decode cX4_init 46 = .ok (.newarray .int, 2) := by decide +kernel
theorem dX4_init_48 : decode cX4_init 48 = .ok (.putfield 34, 3) := by decide +kernel
theorem dX4_init_51 : decode cX4_init 51 = .ok (.aload_n 0, 1) := by decide +kernel
theorem dX4_init_52 : decode cX4_init 52 = .ok (.bipush 16, 2) := by decide +kernel
theorem dX4_init_54 : decode cX4_init 54 = .ok (.newarray .int, 2) := by decide +kernel
theorem dX4_init_56 : decode cX4_init 56 = .ok (.putfield 37, 3) := by decide +kernel
theorem dX4_init_59 : decode cX4_init 59 = .ok (.aload_n 0, 1) := by decide +kernel
theorem dX4_init_60 : decode cX4_init 60 = .ok (.iconst 0, 1) := by decide +kernel
theorem dX4_init_61 : decode cX4_init 61 = .ok (.putfield 40, 3) := by decide +kernel
theorem dX4_init_64 : decode cX4_init 64 = .ok (.aload_n 0, 1) := by decide +kernel
theorem dX4_init_65 : decode cX4_init 65 = .ok (.iconst 0, 1) := by decide +kernel
theorem dX4_init_66 : decode cX4_init 66 = .ok (.putfield 44, 3) := by decide +kernel
theorem dX4_init_69 : decode cX4_init 69 = .ok (.aload_n 0, 1) := by decide +kernel
theorem dX4_init_70 : decode cX4_init 70 = .ok (.iconst 0, 1) := by decide +kernel
theorem dX4_init_71 : decode cX4_init 71 = .ok (.putfield 47, 3) := by decide +kernel
theorem dX4_init_74 : decode cX4_init 74 = .ok (.return_, 1) := by decide +kernel
theorem dX4_doubt_0 : decode cX4_doubt 0 = .ok (.aload_n 0, 1) := by decide +kernel
theorem dX4_doubt_1 : decode cX4_doubt 1 = .ok (.iconst 0, 1) := by decide +kernel
theorem dX4_doubt_2 : decode cX4_doubt 2 = .ok (.putfield 47, 3) := by decide +kernel
theorem dX4_doubt_5 : decode cX4_doubt 5 = .ok (.return_, 1) := by decide +kernel
theorem dX4_least_0 : decode cX4_least 0 = .ok (.aload_n 0, 1) := by decide +kernel
theorem dX4_least_1 : decode cX4_least 1 = .ok (.getfield 34, 3) := by decide +kernel
theorem dX4_least_4 : decode cX4_least 4 = .ok (.iload_n 1, 1) := by decide +kernel
theorem dX4_least_5 : decode cX4_least 5 = .ok (.invokestatic 51, 3) := by decide +kernel
theorem dX4_least_8 : decode cX4_least 8 = .ok (.ireturn, 1) := by decide +kernel
theorem dX4_greatest_0 : decode cX4_greatest 0 = .ok (.aload_n 0, 1) := by decide +kernel
theorem dX4_greatest_1 : decode cX4_greatest 1 = .ok (.getfield 37, 3) := by decide +kernel
theorem dX4_greatest_4 : decode cX4_greatest 4 = .ok (.iload_n 1, 1) := by decide +kernel
theorem dX4_greatest_5 : decode cX4_greatest 5 = .ok (.invokestatic 51, 3) := by decide +kernel
theorem dX4_greatest_8 : decode cX4_greatest 8 = .ok (.ireturn, 1) := by decide +kernel
theorem dX4_know_0 : decode cX4_know 0 = .ok (.aload_n 0, 1) := by decide +kernel
theorem dX4_know_1 : decode cX4_know 1 = .ok (.getfield 47, 3) := by decide +kernel
theorem dX4_know_4 : decode cX4_know 4 = .ok (.ifCond .ne 7, 3) := by decide +kernel
theorem dX4_know_7 : decode cX4_know 7 = .ok (.aload_n 1, 1) := by decide +kernel
theorem dX4_know_8 : decode cX4_know 8 = .ok (.ifnonnull 4, 3) := by decide +kernel
theorem dX4_know_11 : decode cX4_know 11 = .ok (.return_, 1) := by decide +kernel
theorem dX4_know_12 : decode cX4_know 12 = .ok (.aload_n 0, 1) := by decide +kernel
theorem dX4_know_13 : decode cX4_know 13 = .ok (.getfield 12, 3) := by decide +kernel
theorem dX4_know_16 : decode cX4_know 16 = .ok (.aload_n 1, 1) := by decide +kernel
theorem dX4_know_17 : decode cX4_know 17 = .ok (.invokevirtual 55, 3) := by decide +kernel
theorem dX4_know_20 : decode cX4_know 20 = .ok (.aload_n 0, 1) := by decide +kernel
theorem dX4_know_21 : decode cX4_know 21 = .ok (.invokevirtual 59, 3) := by decide +kernel
theorem dX4_know_24 : decode cX4_know 24 = .ok (.aload_n 0, 1) := by decide +kernel
theorem dX4_know_25 : decode cX4_know 25 = .ok (.getfield 31, 3) := by decide +kernel
theorem dX4_know_28 : decode cX4_know 28 = .ok (.iconst 0, 1) := by decide +kernel
theorem dX4_know_29 : decode cX4_know 29 = .ok (.aload_n 0, 1) := by decide +kernel
theorem dX4_know_30 : decode cX4_know 30 = .ok (.getfield 31, 3) := by decide +kernel
theorem dX4_know_33 : decode cX4_know 33 = .ok (.arraylength, 1) := by decide +kernel
theorem dX4_know_34 : decode cX4_know 34 = .ok (.iconst 0, 1) := by decide +kernel
theorem dX4_know_35 : decode cX4_know 35 = .ok (.invokestatic 62, 3) := by decide +kernel
theorem dX4_know_38 : decode cX4_know 38 = .ok (.iconst 0, 1) := by decide +kernel
theorem dX4_know_39 : decode cX4_know 39 = .ok (.istore_n 2, 1) := by decide +kernel
theorem dX4_know_40 : decode cX4_know 40 = .ok (.iload_n 2, 1) := by decide +kernel
theorem dX4_know_41 : decode cX4_know 41 = .ok (.bipush 64, 2) := by decide +kernel
theorem dX4_know_43 : decode cX4_know 43 = .ok (.if_icmp .ge 41, 3) := by decide +kernel
theorem dX4_know_46 : decode cX4_know 46 = .ok (.aload_n 0, 1) := by decide +kernel
theorem dX4_know_47 : decode cX4_know 47 = .ok (.iconst 0, 1) := by decide +kernel
theorem dX4_know_48 : decode cX4_know 48 = .ok (.putfield 44, 3) := by decide +kernel
theorem dX4_know_51 : decode cX4_know 51 = .ok (.aload_n 0, 1) := by decide +kernel
theorem dX4_know_52 : decode cX4_know 52 = .ok (.getfield 23, 3) := by decide +kernel
theorem dX4_know_55 : decode cX4_know 55 = .ok (.iconst 0, 1) := by decide +kernel
theorem dX4_know_56 : decode cX4_know 56 = .ok (.invokevirtual 66, 3) := by decide +kernel
theorem dX4_know_59 : decode cX4_know 59 = .ok (.aload_n 0, 1) := by decide +kernel
theorem dX4_know_60 : decode cX4_know 60 = .ok (.getfield 12, 3) := by decide +kernel
theorem dX4_know_63 : decode cX4_know 63 = .ok (.aload_n 0, 1) := by decide +kernel
theorem dX4_know_64 : decode cX4_know 64 = .ok (.iconst 0, 1) := by decide +kernel
theorem dX4_know_65 : decode cX4_know 65 = .ok (.invokevirtual 70, 3) := by decide +kernel
theorem dX4_know_68 : decode cX4_know 68 = .ok (.iload_n 2, 1) := by decide +kernel
theorem dX4_know_69 : decode cX4_know 69 = .ok (.invokevirtual 74, 3) := by decide +kernel
theorem dX4_know_72 : decode cX4_know 72 = .ok (.aload_n 0, 1) := by decide +kernel
theorem dX4_know_73 : decode cX4_know 73 = .ok (.iconst 0, 1) := by decide +kernel
theorem dX4_know_74 : decode cX4_know 74 = .ok (.iload_n 2, 1) := by decide +kernel
theorem dX4_know_75 : decode cX4_know 75 = .ok (.invokevirtual 80, 3) := by decide +kernel
theorem dX4_know_78 : decode cX4_know 78 = .ok (.iinc 2 1, 3) := by decide +kernel
theorem dX4_know_81 : decode cX4_know 81 = .ok (.goto (-41), 3) := by decide +kernel
theorem dX4_know_84 : decode cX4_know 84 = .ok (.aload_n 0, 1) := by decide +kernel
theorem dX4_know_85 : decode cX4_know 85 = .ok (.invokevirtual 84, 3) := by decide +kernel
theorem dX4_know_88 : decode cX4_know 88 = .ok (.aload_n 0, 1) := by decide +kernel
theorem dX4_know_89 : decode cX4_know 89 = .ok (.iconst 1, 1) := by decide +kernel
theorem dX4_know_90 : decode cX4_know 90 = .ok (.putfield 47, 3) := by decide +kernel
theorem dX4_know_93 : decode cX4_know 93 = .ok (.return_, 1) := by decide +kernel
theorem dX4_findLoose_0 : decode cX4_findLoose 0 = .ok (.aload_n 0, 1) := by decide +kernel
theorem dX4_findLoose_1 : decode cX4_findLoose 1 = .ok (.iconst 0, 1) := by decide +kernel
theorem dX4_findLoose_2 : decode cX4_findLoose 2 = .ok (.putfield 40, 3) := by decide +kernel
theorem dX4_findLoose_5 : decode cX4_findLoose 5 = .ok (.iconst 0, 1) := by decide +kernel
theorem dX4_findLoose_6 : decode cX4_findLoose 6 = .ok (.istore_n 1, 1) := by decide +kernel
theorem dX4_findLoose_7 : decode cX4_findLoose 7 = .ok (.iload_n 1, 1) := by decide +kernel
theorem dX4_findLoose_8 : decode cX4_findLoose 8 = .ok (.aload_n 0, 1) := by decide +kernel
theorem dX4_findLoose_9 : decode cX4_findLoose 9 = .ok (.getfield 12, 3) := by decide +kernel
theorem dX4_findLoose_12 : decode cX4_findLoose 12 = .ok (.invokevirtual 87, 3) := by decide +kernel
theorem dX4_findLoose_15 : decode cX4_findLoose 15 = .ok (.if_icmp .ge 53, 3) := by decide +kernel
theorem dX4_findLoose_18 : decode cX4_findLoose 18 = .ok (.aload_n 0, 1) := by decide +kernel
theorem dX4_findLoose_19 : decode cX4_findLoose 19 = .ok (.getfield 12, 3) := by decide +kernel
theorem dX4_findLoose_22 : decode cX4_findLoose 22 = .ok (.iload_n 1, 1) := by decide +kernel
theorem dX4_findLoose_23 : decode cX4_findLoose 23 = .ok (.invokevirtual 91, 3) := by decide +kernel
theorem dX4_findLoose_26 : decode cX4_findLoose 26 = .ok (.ifCond .eq 36, 3) := by decide +kernel
theorem dX4_findLoose_29 : decode cX4_findLoose 29 = .ok (.aload_n 0, 1) := by decide +kernel
theorem dX4_findLoose_30 : decode cX4_findLoose 30 = .ok (.getfield 40, 3) := by decide +kernel
theorem dX4_findLoose_33 : decode cX4_findLoose 33 = .ok (.iconst 4, 1) := by decide +kernel
theorem dX4_findLoose_34 : decode cX4_findLoose 34 = .ok (.if_icmp .lt 6, 3) := by decide +kernel
theorem dX4_findLoose_37 : decode cX4_findLoose 37 = .ok (.goto 25, 3) := by decide +kernel
theorem dX4_findLoose_40 : decode cX4_findLoose 40 = .ok (.aload_n 0, 1) := by decide +kernel
theorem dX4_findLoose_41 : decode cX4_findLoose 41 = .ok (.getfield 27, 3) := by decide +kernel
theorem dX4_findLoose_44 : decode cX4_findLoose 44 = .ok (.aload_n 0, 1) := by decide +kernel
theorem dX4_findLoose_45 : decode cX4_findLoose 45 = .ok (.getfield 40, 3) := by decide +kernel
theorem dX4_findLoose_48 : decode cX4_findLoose 48 = .ok (.iload_n 1, 1) := by decide +kernel
theorem dX4_findLoose_49 : decode cX4_findLoose 49 = .ok (.invokestatic 95, 3) := by decide +kernel
theorem dX4_findLoose_52 : decode cX4_findLoose 52 = .ok (.aload_n 0, 1) := by decide +kernel
theorem dX4_findLoose_53 : decode cX4_findLoose 53 = .ok (.dup, 1) := by decide +kernel
theorem dX4_findLoose_54 : decode cX4_findLoose 54 = .ok (.getfield 40, 3) := by decide +kernel
theorem dX4_findLoose_57 : decode cX4_findLoose 57 = .ok (.iconst 1, 1) := by decide +kernel
theorem dX4_findLoose_58 : decode cX4_findLoose 58 = .ok (.iadd, 1) := by decide +kernel
theorem dX4_findLoose_59 : decode cX4_findLoose 59 = .ok (.putfield 40, 3) := by decide +kernel
theorem dX4_findLoose_62 : decode cX4_findLoose 62 = .ok (.iinc 1 1, 3) := by decide +kernel
theorem dX4_findLoose_65 : decode cX4_findLoose 65 = .ok (.goto (-58), 3) := by decide +kernel
theorem dX4_findLoose_68 : decode cX4_findLoose 68 = .ok (.return_, 1) := by decide +kernel
theorem dX4_looseIndex_0 : decode cX4_looseIndex 0 = .ok (.iload_n 1, 1) := by decide +kernel
theorem dX4_looseIndex_1 : decode cX4_looseIndex 1 = .ok (.aload_n 0, 1) := by decide +kernel
theorem dX4_looseIndex_2 : decode cX4_looseIndex 2 = .ok (.getfield 40, 3) := by decide +kernel
theorem dX4_looseIndex_5 : decode cX4_looseIndex 5 = .ok (.if_icmp .ge 14, 3) := by decide +kernel
theorem dX4_looseIndex_8 : decode cX4_looseIndex 8 = .ok (.aload_n 0, 1) := by decide +kernel
theorem dX4_looseIndex_9 : decode cX4_looseIndex 9 = .ok (.getfield 27, 3) := by decide +kernel
theorem dX4_looseIndex_12 : decode cX4_looseIndex 12 = .ok (.iload_n 1, 1) := by decide +kernel
theorem dX4_looseIndex_13 : decode cX4_looseIndex 13 = .ok (.invokestatic 51, 3) := by decide +kernel
theorem dX4_looseIndex_16 : decode cX4_looseIndex 16 = .ok (.goto 10, 3) := by decide +kernel
theorem dX4_looseIndex_19 : decode cX4_looseIndex 19 = .ok (.aload_n 0, 1) := by decide +kernel
theorem dX4_looseIndex_20 : decode cX4_looseIndex 20 = .ok (.getfield 12, 3) := by decide +kernel
theorem dX4_looseIndex_23 : decode cX4_looseIndex 23 = .ok (.invokevirtual 87, 3) := by decide +kernel
theorem dX4_looseIndex_26 : decode cX4_looseIndex 26 = .ok (.ireturn, 1) := by decide +kernel
theorem dX4_vary_0 : decode cX4_vary 0 = .ok (.iload_n 1, 1) := by decide +kernel
theorem dX4_vary_1 : decode cX4_vary 1 = .ok (.aload_n 0, 1) := by decide +kernel
theorem dX4_vary_2 : decode cX4_vary 2 = .ok (.getfield 40, 3) := by decide +kernel
theorem dX4_vary_5 : decode cX4_vary 5 = .ok (.if_icmp .ge 8, 3) := by decide +kernel
theorem dX4_vary_8 : decode cX4_vary 8 = .ok (.iload_n 1, 1) := by decide +kernel
theorem dX4_vary_9 : decode cX4_vary 9 = .ok (.iconst 4, 1) := by decide +kernel
theorem dX4_vary_10 : decode cX4_vary 10 = .ok (.if_icmp .lt 36, 3) := by decide +kernel
theorem dX4_vary_13 : decode cX4_vary 13 = .ok (.aload_n 0, 1) := by decide +kernel
theorem dX4_vary_14 : decode cX4_vary 14 = .ok (.getfield 23, 3) := by decide +kernel
theorem dX4_vary_17 : decode cX4_vary 17 = .ok (.iload_n 1, 1) := by decide +kernel
theorem dX4_vary_18 : decode cX4_vary 18 = .ok (.invokevirtual 66, 3) := by decide +kernel
theorem dX4_vary_21 : decode cX4_vary 21 = .ok (.aload_n 0, 1) := by decide +kernel
theorem dX4_vary_22 : decode cX4_vary 22 = .ok (.getfield 31, 3) := by decide +kernel
theorem dX4_vary_25 : decode cX4_vary 25 = .ok (.aload_n 0, 1) := by decide +kernel
theorem dX4_vary_26 : decode cX4_vary 26 = .ok (.getfield 44, 3) := by decide +kernel
theorem dX4_vary_29 : decode cX4_vary 29 = .ok (.bipush 16, 2) := by decide +kernel
theorem dX4_vary_31 : decode cX4_vary 31 = .ok (.imul, 1) := by decide +kernel
theorem dX4_vary_32 : decode cX4_vary 32 = .ok (.invokevirtual 99, 3) := by decide +kernel
theorem dX4_vary_35 : decode cX4_vary 35 = .ok (.aload_n 0, 1) := by decide +kernel
theorem dX4_vary_36 : decode cX4_vary 36 = .ok (.dup, 1) := by decide +kernel
theorem dX4_vary_37 : decode cX4_vary 37 = .ok (.getfield 44, 3) := by decide +kernel
theorem dX4_vary_40 : decode cX4_vary 40 = .ok (.iconst 1, 1) := by decide +kernel
theorem dX4_vary_41 : decode cX4_vary 41 = .ok (.iadd, 1) := by decide +kernel
theorem dX4_vary_42 : decode cX4_vary 42 = .ok (.putfield 44, 3) := by decide +kernel
theorem dX4_vary_45 : decode cX4_vary 45 = .ok (.return_, 1) := by decide +kernel
theorem dX4_vary_46 : decode cX4_vary 46 = .ok (.aload_n 0, 1) := by decide +kernel
theorem dX4_vary_47 : decode cX4_vary 47 = .ok (.iload_n 1, 1) := by decide +kernel
theorem dX4_vary_48 : decode cX4_vary 48 = .ok (.invokevirtual 70, 3) := by decide +kernel
theorem dX4_vary_51 : decode cX4_vary 51 = .ok (.istore_n 3, 1) := by decide +kernel
theorem dX4_vary_52 : decode cX4_vary 52 = .ok (.aload_n 0, 1) := by decide +kernel
theorem dX4_vary_53 : decode cX4_vary 53 = .ok (.getfield 12, 3) := by decide +kernel
theorem dX4_vary_56 : decode cX4_vary 56 = .ok (.iload_n 3, 1) := by decide +kernel
theorem dX4_vary_57 : decode cX4_vary 57 = .ok (.invokevirtual 103, 3) := by decide +kernel
theorem dX4_vary_60 : decode cX4_vary 60 = .ok (.istore 4, 2) := by decide +kernel
theorem dX4_vary_62 : decode cX4_vary 62 = .ok (.iload 4, 2) := by decide +kernel
theorem dX4_vary_64 : decode cX4_vary 64 = .ok (.invokestatic 106, 3) := by decide +kernel
theorem dX4_vary_67 : decode cX4_vary 67 = .ok (.istore 5, 2) := by decide +kernel
theorem dX4_vary_69 : decode cX4_vary 69 = .ok (.aload_n 0, 1) := by decide +kernel
theorem dX4_vary_70 : decode cX4_vary 70 = .ok (.getfield 12, 3) := by decide +kernel
theorem dX4_vary_73 : decode cX4_vary 73 = .ok (.iload_n 3, 1) := by decide +kernel
theorem dX4_vary_74 : decode cX4_vary 74 = .ok (.iload 5, 2) := by decide +kernel
theorem dX4_vary_76 : decode cX4_vary 76 = .ok (.invokevirtual 111, 3) := by decide +kernel
theorem dX4_vary_79 : decode cX4_vary 79 = .ok (.istore 6, 2) := by decide +kernel
theorem dX4_vary_81 : decode cX4_vary 81 = .ok (.iconst (-1), 1) := by decide +kernel
theorem dX4_vary_82 : decode cX4_vary 82 = .ok (.istore 7, 2) := by decide +kernel
theorem dX4_vary_84 : decode cX4_vary 84 = .ok (.iload 7, 2) := by decide +kernel
theorem dX4_vary_86 : decode cX4_vary 86 = .ok (.iconst 1, 1) := by decide +kernel
theorem dX4_vary_87 : decode cX4_vary 87 = .ok (.if_icmp .gt 84, 3) := by decide +kernel
theorem dX4_vary_90 : decode cX4_vary 90 = .ok (.iload 4, 2) := by decide +kernel
theorem dX4_vary_92 : decode cX4_vary 92 = .ok (.iload 5, 2) := by decide +kernel
theorem dX4_vary_94 : decode cX4_vary 94 = .ok (.iload 6, 2) := by decide +kernel
theorem dX4_vary_96 : decode cX4_vary 96 = .ok (.iload 7, 2) := by decide +kernel
theorem dX4_vary_98 : decode cX4_vary 98 = .ok (.iadd, 1) := by decide +kernel
theorem dX4_vary_99 : decode cX4_vary 99 = .ok (.invokestatic 115, 3) := by decide +kernel
theorem dX4_vary_102 : decode cX4_vary 102 = .ok (.ifCond .ne 6, 3) := by decide +kernel
theorem dX4_vary_105 : decode cX4_vary 105 = .ok (.goto 60, 3) := by decide +kernel
theorem dX4_vary_108 : decode cX4_vary 108 = .ok (.aload_n 0, 1) := by decide +kernel
theorem dX4_vary_109 : decode cX4_vary 109 = .ok (.getfield 12, 3) := by decide +kernel
theorem dX4_vary_112 : decode cX4_vary 112 = .ok (.iload_n 3, 1) := by decide +kernel
theorem dX4_vary_113 : decode cX4_vary 113 = .ok (.iload 5, 2) := by decide +kernel
theorem dX4_vary_115 : decode cX4_vary 115 = .ok (.iload 6, 2) := by decide +kernel
theorem dX4_vary_117 : decode cX4_vary 117 = .ok (.iload 7, 2) := by decide +kernel
theorem dX4_vary_119 : decode cX4_vary 119 = .ok (.iadd, 1) := by decide +kernel
theorem dX4_vary_120 : decode cX4_vary 120 = .ok (.invokevirtual 119, 3) := by decide +kernel
theorem dX4_vary_123 : decode cX4_vary 123 = .ok (.aload_n 0, 1) := by decide +kernel
theorem dX4_vary_124 : decode cX4_vary 124 = .ok (.getfield 23, 3) := by decide +kernel
theorem dX4_vary_127 : decode cX4_vary 127 = .ok (.iload_n 1, 1) := by decide +kernel
theorem dX4_vary_128 : decode cX4_vary 128 = .ok (.iconst 1, 1) := by decide +kernel
theorem dX4_vary_129 : decode cX4_vary 129 = .ok (.iadd, 1) := by decide +kernel
theorem dX4_vary_130 : decode cX4_vary 130 = .ok (.invokevirtual 66, 3) := by decide +kernel
theorem dX4_vary_133 : decode cX4_vary 133 = .ok (.aload_n 0, 1) := by decide +kernel
theorem dX4_vary_134 : decode cX4_vary 134 = .ok (.getfield 23, 3) := by decide +kernel
theorem dX4_vary_137 : decode cX4_vary 137 = .ok (.iload_n 1, 1) := by decide +kernel
theorem dX4_vary_138 : decode cX4_vary 138 = .ok (.invokevirtual 66, 3) := by decide +kernel
theorem dX4_vary_141 : decode cX4_vary 141 = .ok (.aload_n 0, 1) := by decide +kernel
theorem dX4_vary_142 : decode cX4_vary 142 = .ok (.getfield 12, 3) := by decide +kernel
theorem dX4_vary_145 : decode cX4_vary 145 = .ok (.iload_n 3, 1) := by decide +kernel
theorem dX4_vary_146 : decode cX4_vary 146 = .ok (.aload_n 0, 1) := by decide +kernel
theorem dX4_vary_147 : decode cX4_vary 147 = .ok (.iload_n 1, 1) := by decide +kernel
theorem dX4_vary_148 : decode cX4_vary 148 = .ok (.iconst 1, 1) := by decide +kernel
theorem dX4_vary_149 : decode cX4_vary 149 = .ok (.iadd, 1) := by decide +kernel
theorem dX4_vary_150 : decode cX4_vary 150 = .ok (.invokevirtual 70, 3) := by decide +kernel
theorem dX4_vary_153 : decode cX4_vary 153 = .ok (.iload_n 2, 1) := by decide +kernel
theorem dX4_vary_154 : decode cX4_vary 154 = .ok (.invokevirtual 123, 3) := by decide +kernel
theorem dX4_vary_157 : decode cX4_vary 157 = .ok (.aload_n 0, 1) := by decide +kernel
theorem dX4_vary_158 : decode cX4_vary 158 = .ok (.iload_n 1, 1) := by decide +kernel
theorem dX4_vary_159 : decode cX4_vary 159 = .ok (.iconst 1, 1) := by decide +kernel
theorem dX4_vary_160 : decode cX4_vary 160 = .ok (.iadd, 1) := by decide +kernel
theorem dX4_vary_161 : decode cX4_vary 161 = .ok (.iload_n 2, 1) := by decide +kernel
theorem dX4_vary_162 : decode cX4_vary 162 = .ok (.invokevirtual 80, 3) := by decide +kernel
theorem dX4_vary_165 : decode cX4_vary 165 = .ok (.iinc 7 1, 3) := by decide +kernel
theorem dX4_vary_168 : decode cX4_vary 168 = .ok (.goto (-84), 3) := by decide +kernel
theorem dX4_vary_171 : decode cX4_vary 171 = .ok (.aload_n 0, 1) := by decide +kernel
theorem dX4_vary_172 : decode cX4_vary 172 = .ok (.getfield 12, 3) := by decide +kernel
theorem dX4_vary_175 : decode cX4_vary 175 = .ok (.iload_n 3, 1) := by decide +kernel
theorem dX4_vary_176 : decode cX4_vary 176 = .ok (.iload 5, 2) := by decide +kernel
theorem dX4_vary_178 : decode cX4_vary 178 = .ok (.iload 6, 2) := by decide +kernel
theorem dX4_vary_180 : decode cX4_vary 180 = .ok (.invokevirtual 119, 3) := by decide +kernel
theorem dX4_vary_183 : decode cX4_vary 183 = .ok (.return_, 1) := by decide +kernel
theorem dX4_measure_0 : decode cX4_measure 0 = .ok (.iconst 0, 1) := by decide +kernel
theorem dX4_measure_1 : decode cX4_measure 1 = .ok (.istore_n 1, 1) := by decide +kernel
theorem dX4_measure_2 : decode cX4_measure 2 = .ok (.iload_n 1, 1) := by decide +kernel
theorem dX4_measure_3 : decode cX4_measure 3 = .ok (.bipush 16, 2) := by decide +kernel
theorem dX4_measure_5 : decode cX4_measure 5 = .ok (.if_icmp .ge 94, 3) := by decide +kernel
theorem dX4_measure_8 : decode cX4_measure 8 = .ok (.aload_n 0, 1) := by decide +kernel
theorem dX4_measure_9 : decode cX4_measure 9 = .ok (.getfield 31, 3) := by decide +kernel
theorem dX4_measure_12 : decode cX4_measure 12 = .ok (.iload_n 1, 1) := by decide +kernel
theorem dX4_measure_13 : decode cX4_measure 13 = .ok (.invokestatic 51, 3) := by decide +kernel
theorem dX4_measure_16 : decode cX4_measure 16 = .ok (.istore_n 2, 1) := by decide +kernel
theorem dX4_measure_17 : decode cX4_measure 17 = .ok (.iload_n 2, 1) := by decide +kernel
theorem dX4_measure_18 : decode cX4_measure 18 = .ok (.istore_n 3, 1) := by decide +kernel
theorem dX4_measure_19 : decode cX4_measure 19 = .ok (.iconst 1, 1) := by decide +kernel
theorem dX4_measure_20 : decode cX4_measure 20 = .ok (.istore 4, 2) := by decide +kernel
theorem dX4_measure_22 : decode cX4_measure 22 = .ok (.iload 4, 2) := by decide +kernel
theorem dX4_measure_24 : decode cX4_measure 24 = .ok (.aload_n 0, 1) := by decide +kernel
theorem dX4_measure_25 : decode cX4_measure 25 = .ok (.getfield 44, 3) := by decide +kernel
theorem dX4_measure_28 : decode cX4_measure 28 = .ok (.if_icmp .ge 47, 3) := by decide +kernel
theorem dX4_measure_31 : decode cX4_measure 31 = .ok (.iload_n 2, 1) := by decide +kernel
theorem dX4_measure_32 : decode cX4_measure 32 = .ok (.aload_n 0, 1) := by decide +kernel
theorem dX4_measure_33 : decode cX4_measure 33 = .ok (.getfield 31, 3) := by decide +kernel
theorem dX4_measure_36 : decode cX4_measure 36 = .ok (.iload 4, 2) := by decide +kernel
theorem dX4_measure_38 : decode cX4_measure 38 = .ok (.bipush 16, 2) := by decide +kernel
theorem dX4_measure_40 : decode cX4_measure 40 = .ok (.imul, 1) := by decide +kernel
theorem dX4_measure_41 : decode cX4_measure 41 = .ok (.iload_n 1, 1) := by decide +kernel
theorem dX4_measure_42 : decode cX4_measure 42 = .ok (.iadd, 1) := by decide +kernel
theorem dX4_measure_43 : decode cX4_measure 43 = .ok (.invokestatic 51, 3) := by decide +kernel
theorem dX4_measure_46 : decode cX4_measure 46 = .ok (.invokestatic 127, 3) := by decide +kernel
theorem dX4_measure_49 : decode cX4_measure 49 = .ok (.istore_n 2, 1) := by decide +kernel
theorem dX4_measure_50 : decode cX4_measure 50 = .ok (.iload_n 3, 1) := by decide +kernel
theorem dX4_measure_51 : decode cX4_measure 51 = .ok (.aload_n 0, 1) := by decide +kernel
theorem dX4_measure_52 : decode cX4_measure 52 = .ok (.getfield 31, 3) := by decide +kernel
theorem dX4_measure_55 : decode cX4_measure 55 = .ok (.iload 4, 2) := by decide +kernel
theorem dX4_measure_57 : decode cX4_measure 57 = .ok (.bipush 16, 2) := by decide +kernel
theorem dX4_measure_59 : decode cX4_measure 59 = .ok (.imul, 1) := by decide +kernel
theorem dX4_measure_60 : decode cX4_measure 60 = .ok (.iload_n 1, 1) := by decide +kernel
theorem dX4_measure_61 : decode cX4_measure 61 = .ok (.iadd, 1) := by decide +kernel
theorem dX4_measure_62 : decode cX4_measure 62 = .ok (.invokestatic 51, 3) := by decide +kernel
theorem dX4_measure_65 : decode cX4_measure 65 = .ok (.invokestatic 132, 3) := by decide +kernel
theorem dX4_measure_68 : decode cX4_measure 68 = .ok (.istore_n 3, 1) := by decide +kernel
theorem dX4_measure_69 : decode cX4_measure 69 = .ok (.iinc 4 1, 3) := by decide +kernel
theorem dX4_measure_72 : decode cX4_measure 72 = .ok (.goto (-50), 3) := by decide +kernel
theorem dX4_measure_75 : decode cX4_measure 75 = .ok (.aload_n 0, 1) := by decide +kernel
theorem dX4_measure_76 : decode cX4_measure 76 = .ok (.getfield 34, 3) := by decide +kernel
theorem dX4_measure_79 : decode cX4_measure 79 = .ok (.iload_n 1, 1) := by decide +kernel
theorem dX4_measure_80 : decode cX4_measure 80 = .ok (.iload_n 2, 1) := by decide +kernel
theorem dX4_measure_81 : decode cX4_measure 81 = .ok (.invokestatic 95, 3) := by decide +kernel
theorem dX4_measure_84 : decode cX4_measure 84 = .ok (.aload_n 0, 1) := by decide +kernel
theorem dX4_measure_85 : decode cX4_measure 85 = .ok (.getfield 37, 3) := by decide +kernel
theorem dX4_measure_88 : decode cX4_measure 88 = .ok (.iload_n 1, 1) := by decide +kernel
theorem dX4_measure_89 : decode cX4_measure 89 = .ok (.iload_n 3, 1) := by decide +kernel
theorem dX4_measure_90 : decode cX4_measure 90 = .ok (.invokestatic 95, 3) := by decide +kernel
theorem dX4_measure_93 : decode cX4_measure 93 = .ok (.iinc 1 1, 3) := by decide +kernel
theorem dX4_measure_96 : decode cX4_measure 96 = .ok (.goto (-94), 3) := by decide +kernel
theorem dX4_measure_99 : decode cX4_measure 99 = .ok (.return_, 1) := by decide +kernel
theorem dX5_allow_0 : decode cX5_allow 0 = .ok (.iload_n 0, 1) := by decide +kernel
theorem dX5_allow_1 : decode cX5_allow 1 = .ok (.bipush 6, 2) := by decide +kernel
theorem dX5_allow_3 : decode cX5_allow 3 = .ok (.invokestatic 9, 3) := by decide +kernel
theorem dX5_allow_6 : decode cX5_allow 6 = .ok (.ifCond .ne 5, 3) := by decide +kernel
theorem dX5_allow_9 : decode cX5_allow 9 = .ok (.iconst 0, 1) := by decide +kernel
theorem dX5_allow_10 : decode cX5_allow 10 = .ok (.ireturn, 1) := by decide +kernel
theorem dX5_allow_11 : decode cX5_allow 11 = .ok (.iload_n 0, 1) := by decide +kernel
theorem dX5_allow_12 : decode cX5_allow 12 = .ok (.iconst 5, 1) := by decide +kernel
theorem dX5_allow_13 : decode cX5_allow 13 = .ok (.if_icmp .ne 11, 3) := by decide +kernel
theorem dX5_allow_16 : decode cX5_allow 16 = .ok (.iload 4, 2) := by decide +kernel
theorem dX5_allow_18 : decode cX5_allow 18 = .ok (.iload_n 3, 1) := by decide +kernel
theorem dX5_allow_19 : decode cX5_allow 19 = .ok (.if_icmp .ge 5, 3) := by decide +kernel
theorem dX5_allow_22 : decode cX5_allow 22 = .ok (.iconst 0, 1) := by decide +kernel
theorem dX5_allow_23 : decode cX5_allow 23 = .ok (.ireturn, 1) := by decide +kernel
theorem dX5_allow_24 : decode cX5_allow 24 = .ok (.iload_n 0, 1) := by decide +kernel
theorem dX5_allow_25 : decode cX5_allow 25 = .ok (.iconst 0, 1) := by decide +kernel
theorem dX5_allow_26 : decode cX5_allow 26 = .ok (.iload_n 1, 1) := by decide +kernel
theorem dX5_allow_27 : decode cX5_allow 27 = .ok (.invokestatic 15, 3) := by decide +kernel
theorem dX5_allow_30 : decode cX5_allow 30 = .ok (.ifCond .eq 45, 3) := by decide +kernel
theorem dX5_allow_33 : decode cX5_allow 33 = .ok (.iload_n 0, 1) := by decide +kernel
theorem dX5_allow_34 : decode cX5_allow 34 = .ok (.iconst 1, 1) := by decide +kernel
theorem dX5_allow_35 : decode cX5_allow 35 = .ok (.iload_n 2, 1) := by decide +kernel
theorem dX5_allow_36 : decode cX5_allow 36 = .ok (.invokestatic 15, 3) := by decide +kernel
theorem dX5_allow_39 : decode cX5_allow 39 = .ok (.ifCond .eq 36, 3) := by decide +kernel
theorem dX5_allow_42 : decode cX5_allow 42 = .ok (.iload_n 0, 1) := by decide +kernel
theorem dX5_allow_43 : decode cX5_allow 43 = .ok (.iconst 2, 1) := by decide +kernel
theorem dX5_allow_44 : decode cX5_allow 44 = .ok (.iload_n 3, 1) := by decide +kernel
theorem dX5_allow_45 : decode cX5_allow 45 = .ok (.invokestatic 15, 3) := by decide +kernel
theorem dX5_allow_48 : decode cX5_allow 48 = .ok (.ifCond .eq 27, 3) := by decide +kernel
theorem dX5_allow_51 : decode cX5_allow 51 = .ok (.iload_n 0, 1) := by decide +kernel
theorem dX5_allow_52 : decode cX5_allow 52 = .ok (.iconst 3, 1) := by decide +kernel
theorem dX5_allow_53 : decode cX5_allow 53 = .ok (.iload 4, 2) := by decide +kernel
theorem dX5_allow_55 : decode cX5_allow 55 = .ok (.invokestatic 15, 3) := by decide +kernel
theorem dX5_allow_58 : decode cX5_allow 58 = .ok (.ifCond .eq 17, 3) := by decide +kernel
theorem dX5_allow_61 : decode cX5_allow 61 = .ok (.iload_n 0, 1) := by decide +kernel
theorem dX5_allow_62 : decode cX5_allow 62 = .ok (.iconst 4, 1) := by decide +kernel
theorem dX5_allow_63 : decode cX5_allow 63 = .ok (.iload 5, 2) := by decide +kernel
theorem dX5_allow_65 : decode cX5_allow 65 = .ok (.invokestatic 15, 3) := by decide +kernel
theorem dX5_allow_68 : decode cX5_allow 68 = .ok (.ifCond .eq 7, 3) := by decide +kernel
theorem dX5_allow_71 : decode cX5_allow 71 = .ok (.iconst 1, 1) := by decide +kernel
theorem dX5_allow_72 : decode cX5_allow 72 = .ok (.goto 4, 3) := by decide +kernel
theorem dX5_allow_75 : decode cX5_allow 75 = .ok (.iconst 0, 1) := by decide +kernel
theorem dX5_allow_76 : decode cX5_allow 76 = .ok (.ireturn, 1) := by decide +kernel
theorem dX5_suits_0 : decode cX5_suits 0 = .ok (.iload_n 1, 1) := by decide +kernel
theorem dX5_suits_1 : decode cX5_suits 1 = .ok (.iload_n 0, 1) := by decide +kernel
theorem dX5_suits_2 : decode cX5_suits 2 = .ok (.invokestatic 19, 3) := by decide +kernel
theorem dX5_suits_5 : decode cX5_suits 5 = .ok (.if_icmp .lt 5, 3) := by decide +kernel
theorem dX5_suits_8 : decode cX5_suits 8 = .ok (.iconst 1, 1) := by decide +kernel
theorem dX5_suits_9 : decode cX5_suits 9 = .ok (.ireturn, 1) := by decide +kernel
theorem dX5_suits_10 : decode cX5_suits 10 = .ok (.iload_n 0, 1) := by decide +kernel
theorem dX5_suits_11 : decode cX5_suits 11 = .ok (.iconst 5, 1) := by decide +kernel
theorem dX5_suits_12 : decode cX5_suits 12 = .ok (.imul, 1) := by decide +kernel
theorem dX5_suits_13 : decode cX5_suits 13 = .ok (.iload_n 1, 1) := by decide +kernel
theorem dX5_suits_14 : decode cX5_suits 14 = .ok (.iadd, 1) := by decide +kernel
theorem dX5_suits_15 : decode cX5_suits 15 = .ok (.istore_n 3, 1) := by decide +kernel
theorem dX5_suits_16 : decode cX5_suits 16 = .ok (.iload_n 2, 1) := by decide +kernel
theorem dX5_suits_17 : decode cX5_suits 17 = .ok (.getstatic 23, 3) := by decide +kernel
theorem dX5_suits_20 : decode cX5_suits 20 = .ok (.iload_n 3, 1) := by decide +kernel
theorem dX5_suits_21 : decode cX5_suits 21 = .ok (.invokestatic 27, 3) := by decide +kernel
theorem dX5_suits_24 : decode cX5_suits 24 = .ok (.if_icmp .lt 18, 3) := by decide +kernel
theorem dX5_suits_27 : decode cX5_suits 27 = .ok (.iload_n 2, 1) := by decide +kernel
theorem dX5_suits_28 : decode cX5_suits 28 = .ok (.getstatic 31, 3) := by decide +kernel
theorem dX5_suits_31 : decode cX5_suits 31 = .ok (.iload_n 3, 1) := by decide +kernel
theorem dX5_suits_32 : decode cX5_suits 32 = .ok (.invokestatic 27, 3) := by decide +kernel
theorem dX5_suits_35 : decode cX5_suits 35 = .ok (.if_icmp .gt 7, 3) := by decide +kernel
theorem dX5_suits_38 : decode cX5_suits 38 = .ok (.iconst 1, 1) := by decide +kernel
theorem dX5_suits_39 : decode cX5_suits 39 = .ok (.goto 4, 3) := by decide +kernel
theorem dX5_suits_42 : decode cX5_suits 42 = .ok (.iconst 0, 1) := by decide +kernel
theorem dX5_suits_43 : decode cX5_suits 43 = .ok (.ireturn, 1) := by decide +kernel
theorem dX5_numbers_0 : decode cX5_numbers 0 = .ok (.getstatic 34, 3) := by decide +kernel
theorem dX5_numbers_3 : decode cX5_numbers 3 = .ok (.iload_n 0, 1) := by decide +kernel
theorem dX5_numbers_4 : decode cX5_numbers 4 = .ok (.invokestatic 27, 3) := by decide +kernel
theorem dX5_numbers_7 : decode cX5_numbers 7 = .ok (.ireturn, 1) := by decide +kernel
theorem dX5_mainPlace_0 : decode cX5_mainPlace 0 = .ok (.getstatic 37, 3) := by decide +kernel
theorem dX5_mainPlace_3 : decode cX5_mainPlace 3 = .ok (.iload_n 0, 1) := by decide +kernel
theorem dX5_mainPlace_4 : decode cX5_mainPlace 4 = .ok (.invokestatic 27, 3) := by decide +kernel
theorem dX5_mainPlace_7 : decode cX5_mainPlace 7 = .ok (.ireturn, 1) := by decide +kernel
theorem dX5_isAxisPlace_0 : decode cX5_isAxisPlace 0 = .ok (.iload_n 0, 1) := by decide +kernel
theorem dX5_isAxisPlace_1 : decode cX5_isAxisPlace 1 = .ok (.iconst 2, 1) := by decide +kernel
theorem dX5_isAxisPlace_2 : decode cX5_isAxisPlace 2 = .ok (.if_icmp .eq 8, 3) := by decide +kernel
theorem dX5_isAxisPlace_5 : decode cX5_isAxisPlace 5 = .ok (.iload_n 0, 1) := by decide +kernel
theorem dX5_isAxisPlace_6 : decode cX5_isAxisPlace 6 = .ok (.iconst 3, 1) := by decide +kernel
theorem dX5_isAxisPlace_7 : decode cX5_isAxisPlace 7 = .ok (.if_icmp .ne 7, 3) := by decide +kernel
theorem dX5_isAxisPlace_10 : decode cX5_isAxisPlace 10 = .ok (.iload_n 1, 1) := by decide +kernel
theorem dX5_isAxisPlace_11 : decode cX5_isAxisPlace 11 = .ok (.ifCond .eq 13, 3) := by decide +kernel
theorem dX5_isAxisPlace_14 : decode cX5_isAxisPlace 14 = .ok (.iload_n 0, 1) := by decide +kernel
theorem dX5_isAxisPlace_15 : decode cX5_isAxisPlace 15 = .ok (.iconst 5, 1) := by decide +kernel
theorem dX5_isAxisPlace_16 : decode cX5_isAxisPlace 16 = .ok (.if_icmp .ne 12, 3) := by decide +kernel
theorem dX5_isAxisPlace_19 : decode cX5_isAxisPlace 19 = .ok (.iload_n 1, 1) := by decide +kernel
theorem dX5_isAxisPlace_20 : decode cX5_isAxisPlace 20 = .ok (.iconst 1, 1) := by decide +kernel
theorem dX5_isAxisPlace_21 : decode cX5_isAxisPlace 21 = .ok (.if_icmp .ne 7, 3) := by decide +kernel
theorem dX5_isAxisPlace_24 : decode cX5_isAxisPlace 24 = .ok (.iconst 1, 1) := by decide +kernel
theorem dX5_isAxisPlace_25 : decode cX5_isAxisPlace 25 = .ok (.goto 4, 3) := by decide +kernel
theorem dX5_isAxisPlace_28 : decode cX5_isAxisPlace 28 = .ok (.iconst 0, 1) := by decide +kernel
theorem dX5_isAxisPlace_29 : decode cX5_isAxisPlace 29 = .ok (.ireturn, 1) := by decide +kernel
theorem dX5_word_0 : decode cX5_word 0 = .ok (.iload_n 0, 1) := by decide +kernel
theorem dX5_word_1 : decode cX5_word 1 = .ok (.tableswitch 50 0 4 #[35, 38, 41, 44, 47], 35) := by decide +kernel
theorem dX5_word_36 : decode cX5_word 36 = .ok (.ldc 40, 2) := by decide +kernel
theorem dX5_word_38 : decode cX5_word 38 = .ok (.areturn, 1) := by decide +kernel
theorem dX5_word_39 : decode cX5_word 39 = .ok (.ldc 42, 2) := by decide +kernel
theorem dX5_word_41 : decode cX5_word 41 = .ok (.areturn, 1) := by decide +kernel
theorem dX5_word_42 : decode cX5_word 42 = .ok (.ldc 44, 2) := by decide +kernel
theorem dX5_word_44 : decode cX5_word 44 = .ok (.areturn, 1) := by decide +kernel
theorem dX5_word_45 : decode cX5_word 45 = .ok (.ldc 46, 2) := by decide +kernel
theorem dX5_word_47 : decode cX5_word 47 = .ok (.areturn, 1) := by decide +kernel
theorem dX5_word_48 : decode cX5_word 48 = .ok (.ldc 48, 2) := by decide +kernel
theorem dX5_word_50 : decode cX5_word 50 = .ok (.areturn, 1) := by decide +kernel
theorem dX5_word_51 : decode cX5_word 51 = .ok (.ldc 50, 2) := by decide +kernel
theorem dX5_word_53 : decode cX5_word 53 = .ok (.areturn, 1) := by decide +kernel
theorem dX6_init_0 : decode cX6_init 0 = .ok (.aload_n 0, 1) := by decide +kernel
theorem dX6_init_1 : decode cX6_init 1 = .ok (.invokespecial 3, 3) := by decide +kernel
theorem dX6_init_4 : decode cX6_init 4 = .ok (.aload_n 0, 1) := by decide +kernel
theorem dX6_init_5 : decode cX6_init 5 = .ok (.bipush 65, 2) := by decide +kernel
theorem dX6_init_7 : decode cX6_init 7 = .ok (.newarray .int, 2) := by decide +kernel
theorem dX6_init_9 : decode cX6_init 9 = .ok (.putfield 9, 3) := by decide +kernel
theorem dX6_init_12 : decode cX6_init 12 = .ok (.aload_n 0, 1) := by decide +kernel
theorem dX6_init_13 : decode cX6_init 13 = .ok (.bipush 65, 2) := by decide +kernel
theorem dX6_init_15 : decode cX6_init 15 = .ok (.newarray .int, 2) := by decide +kernel
theorem dX6_init_17 : decode cX6_init 17 = .ok (.putfield 15, 3) := by decide +kernel
theorem dX6_init_20 : decode cX6_init 20 = .ok (.aload_n 0, 1) := by decide +kernel
theorem dX6_init_21 : decode cX6_init 21 = .ok (.iconst 0, 1) := by decide +kernel
theorem dX6_init_22 : decode cX6_init 22 = .ok (.putfield 18, 3) := by decide +kernel
theorem dX6_init_25 : decode cX6_init 25 = .ok (.aload_n 0, 1) := by decide +kernel
theorem dX6_init_26 : decode cX6_init 26 = .ok (.iconst (-1), 1) := by decide +kernel
theorem dX6_init_27 : decode cX6_init 27 = .ok (.putfield 22, 3) := by decide +kernel
theorem dX6_init_30 : decode cX6_init 30 = .ok (.aload_n 0, 1) := by decide +kernel
theorem dX6_init_31 : decode cX6_init 31 = .ok (.iconst 0, 1) := by decide +kernel
theorem dX6_init_32 : decode cX6_init 32 = .ok (.putfield 25, 3) := by decide +kernel
theorem dX6_init_35 : decode cX6_init 35 = .ok (.aload_n 0, 1) := by decide +kernel
theorem dX6_init_36 : decode cX6_init 36 = .ok (.iconst 0, 1) := by decide +kernel
theorem dX6_init_37 : decode cX6_init 37 = .ok (.putfield 28, 3) := by decide +kernel
theorem dX6_init_40 : decode cX6_init 40 = .ok (.aload_n 0, 1) := by decide +kernel
theorem dX6_init_41 : decode cX6_init 41 = .ok (.iconst (-1), 1) := by decide +kernel
theorem dX6_init_42 : decode cX6_init 42 = .ok (.putfield 31, 3) := by decide +kernel
theorem dX6_init_45 : decode cX6_init 45 = .ok (.return_, 1) := by decide +kernel
theorem dX6_column_0 : decode cX6_column 0 = .ok (.aload_n 0, 1) := by decide +kernel
theorem dX6_column_1 : decode cX6_column 1 = .ok (.getfield 22, 3) := by decide +kernel
theorem dX6_column_4 : decode cX6_column 4 = .ok (.ireturn, 1) := by decide +kernel
theorem dX6_unlike_0 : decode cX6_unlike 0 = .ok (.aload_n 0, 1) := by decide +kernel
theorem dX6_unlike_1 : decode cX6_unlike 1 = .ok (.getfield 25, 3) := by decide +kernel
theorem dX6_unlike_4 : decode cX6_unlike 4 = .ok (.ireturn, 1) := by decide +kernel
theorem dX6_greatest_0 : decode cX6_greatest 0 = .ok (.aload_n 0, 1) := by decide +kernel
theorem dX6_greatest_1 : decode cX6_greatest 1 = .ok (.getfield 28, 3) := by decide +kernel
theorem dX6_greatest_4 : decode cX6_greatest 4 = .ok (.ireturn, 1) := by decide +kernel
theorem dX6_know_0 : decode cX6_know 0 = .ok (.aload_n 1, 1) := by decide +kernel
theorem dX6_know_1 : decode cX6_know 1 = .ok (.ifnull 14, 3) := by decide +kernel
theorem dX6_know_4 : decode cX6_know 4 = .ok (.aload_n 1, 1) := by decide +kernel
theorem dX6_know_5 : decode cX6_know 5 = .ok (.invokevirtual 34, 3) := by decide +kernel
theorem dX6_know_8 : decode cX6_know 8 = .ok (.aload_n 0, 1) := by decide +kernel
theorem dX6_know_9 : decode cX6_know 9 = .ok (.getfield 31, 3) := by decide +kernel
theorem dX6_know_12 : decode cX6_know 12 = .ok (.if_icmp .ne 4, 3) := by decide +kernel
theorem dX6_know_15 : decode cX6_know 15 = .ok (.return_, 1) := by decide +kernel
theorem dX6_know_16 : decode cX6_know 16 = .ok (.aload_n 0, 1) := by decide +kernel
theorem dX6_know_17 : decode cX6_know 17 = .ok (.iconst (-1), 1) := by decide +kernel
theorem dX6_know_18 : decode cX6_know 18 = .ok (.putfield 22, 3) := by decide +kernel
theorem dX6_know_21 : decode cX6_know 21 = .ok (.aload_n 0, 1) := by decide +kernel
theorem dX6_know_22 : decode cX6_know 22 = .ok (.iconst 0, 1) := by decide +kernel
theorem dX6_know_23 : decode cX6_know 23 = .ok (.putfield 25, 3) := by decide +kernel
theorem dX6_know_26 : decode cX6_know 26 = .ok (.aload_n 0, 1) := by decide +kernel
theorem dX6_know_27 : decode cX6_know 27 = .ok (.iconst 0, 1) := by decide +kernel
theorem dX6_know_28 : decode cX6_know 28 = .ok (.putfield 28, 3) := by decide +kernel
theorem dX6_know_31 : decode cX6_know 31 = .ok (.iconst 0, 1) := by decide +kernel
theorem dX6_know_32 : decode cX6_know 32 = .ok (.istore 4, 2) := by decide +kernel
theorem dX6_know_34 : decode cX6_know 34 = .ok (.iload 4, 2) := by decide +kernel
theorem dX6_know_36 : decode cX6_know 36 = .ok (.bipush 64, 2) := by decide +kernel
theorem dX6_know_38 : decode cX6_know 38 = .ok (.if_icmp .ge 82, 3) := by decide +kernel
theorem dX6_know_41 : decode cX6_know 41 = .ok (.aload_n 1, 1) := by decide +kernel
theorem dX6_know_42 : decode cX6_know 42 = .ok (.aload_n 2, 1) := by decide +kernel
theorem dX6_know_43 : decode cX6_know 43 = .ok (.aload_n 3, 1) := by decide +kernel
theorem dX6_know_44 : decode cX6_know 44 = .ok (.iload 4, 2) := by decide +kernel
theorem dX6_know_46 : decode cX6_know 46 = .ok (.invokevirtual 40, 3) := by decide +kernel
theorem dX6_know_49 : decode cX6_know 49 = .ok (.aload_n 0, 1) := by decide +kernel
theorem dX6_know_50 : decode cX6_know 50 = .ok (.aload_n 1, 1) := by decide +kernel
theorem dX6_know_51 : decode cX6_know 51 = .ok (.invokevirtual 44, 3) := by decide +kernel
theorem dX6_know_54 : decode cX6_know 54 = .ok (.aload_n 0, 1) := by decide +kernel
theorem dX6_know_55 : decode cX6_know 55 = .ok (.invokevirtual 48, 3) := by decide +kernel
theorem dX6_know_58 : decode cX6_know 58 = .ok (.istore 5, 2) := by decide +kernel
theorem dX6_know_60 : decode cX6_know 60 = .ok (.aload_n 0, 1) := by decide +kernel
theorem dX6_know_61 : decode cX6_know 61 = .ok (.getfield 18, 3) := by decide +kernel
theorem dX6_know_64 : decode cX6_know 64 = .ok (.aload_n 0, 1) := by decide +kernel
theorem dX6_know_65 : decode cX6_know 65 = .ok (.getfield 25, 3) := by decide +kernel
theorem dX6_know_68 : decode cX6_know 68 = .ok (.if_icmp .lt 46, 3) := by decide +kernel
theorem dX6_know_71 : decode cX6_know 71 = .ok (.aload_n 0, 1) := by decide +kernel
theorem dX6_know_72 : decode cX6_know 72 = .ok (.getfield 18, 3) := by decide +kernel
theorem dX6_know_75 : decode cX6_know 75 = .ok (.aload_n 0, 1) := by decide +kernel
theorem dX6_know_76 : decode cX6_know 76 = .ok (.getfield 25, 3) := by decide +kernel
theorem dX6_know_79 : decode cX6_know 79 = .ok (.if_icmp .ne 15, 3) := by decide +kernel
theorem dX6_know_82 : decode cX6_know 82 = .ok (.iload 5, 2) := by decide +kernel
theorem dX6_know_84 : decode cX6_know 84 = .ok (.aload_n 0, 1) := by decide +kernel
theorem dX6_know_85 : decode cX6_know 85 = .ok (.getfield 28, 3) := by decide +kernel
theorem dX6_know_88 : decode cX6_know 88 = .ok (.if_icmp .lt 6, 3) := by decide +kernel
theorem dX6_know_91 : decode cX6_know 91 = .ok (.goto 23, 3) := by decide +kernel
theorem dX6_know_94 : decode cX6_know 94 = .ok (.aload_n 0, 1) := by decide +kernel
theorem dX6_know_95 : decode cX6_know 95 = .ok (.iload 4, 2) := by decide +kernel
theorem dX6_know_97 : decode cX6_know 97 = .ok (.putfield 22, 3) := by decide +kernel
theorem dX6_know_100 : decode cX6_know 100 = .ok (.aload_n 0, 1) := by decide +kernel
theorem dX6_know_101 : decode cX6_know 101 = .ok (.aload_n 0, 1) := by decide +kernel
theorem dX6_know_102 : decode cX6_know 102 = .ok (.getfield 18, 3) := by decide +kernel
theorem dX6_know_105 : decode cX6_know 105 = .ok (.putfield 25, 3) := by decide +kernel
theorem dX6_know_108 : decode cX6_know 108 = .ok (.aload_n 0, 1) := by decide +kernel
theorem dX6_know_109 : decode cX6_know 109 = .ok (.iload 5, 2) := by decide +kernel
theorem dX6_know_111 : decode cX6_know 111 = .ok (.putfield 28, 3) := by decide +kernel
theorem dX6_know_114 : decode cX6_know 114 = .ok (.iinc 4 1, 3) := by decide +kernel
theorem dX6_know_117 : decode cX6_know 117 = .ok (.goto (-83), 3) := by decide +kernel
theorem dX6_know_120 : decode cX6_know 120 = .ok (.aload_n 0, 1) := by decide +kernel
theorem dX6_know_121 : decode cX6_know 121 = .ok (.aload_n 1, 1) := by decide +kernel
theorem dX6_know_122 : decode cX6_know 122 = .ok (.invokevirtual 34, 3) := by decide +kernel
theorem dX6_know_125 : decode cX6_know 125 = .ok (.putfield 31, 3) := by decide +kernel
theorem dX6_know_128 : decode cX6_know 128 = .ok (.return_, 1) := by decide +kernel
theorem dX6_divide_0 : decode cX6_divide 0 = .ok (.aload_n 0, 1) := by decide +kernel
theorem dX6_divide_1 : decode cX6_divide 1 = .ok (.iconst 0, 1) := by decide +kernel
theorem dX6_divide_2 : decode cX6_divide 2 = .ok (.putfield 18, 3) := by decide +kernel
theorem dX6_divide_5 : decode cX6_divide 5 = .ok (.iconst 0, 1) := by decide +kernel
theorem dX6_divide_6 : decode cX6_divide 6 = .ok (.istore_n 2, 1) := by decide +kernel
theorem dX6_divide_7 : decode cX6_divide 7 = .ok (.iload_n 2, 1) := by decide +kernel
theorem dX6_divide_8 : decode cX6_divide 8 = .ok (.aload_n 1, 1) := by decide +kernel
theorem dX6_divide_9 : decode cX6_divide 9 = .ok (.invokevirtual 51, 3) := by decide +kernel
theorem dX6_divide_12 : decode cX6_divide 12 = .ok (.if_icmp .ge 82, 3) := by decide +kernel
theorem dX6_divide_15 : decode cX6_divide 15 = .ok (.aload_n 1, 1) := by decide +kernel
theorem dX6_divide_16 : decode cX6_divide 16 = .ok (.iload_n 2, 1) := by decide +kernel
theorem dX6_divide_17 : decode cX6_divide 17 = .ok (.invokevirtual 54, 3) := by decide +kernel
theorem dX6_divide_20 : decode cX6_divide 20 = .ok (.istore_n 3, 1) := by decide +kernel
theorem dX6_divide_21 : decode cX6_divide 21 = .ok (.aload_n 0, 1) := by decide +kernel
theorem dX6_divide_22 : decode cX6_divide 22 = .ok (.aload_n 1, 1) := by decide +kernel
theorem dX6_divide_23 : decode cX6_divide 23 = .ok (.iload_n 3, 1) := by decide +kernel
theorem dX6_divide_24 : decode cX6_divide 24 = .ok (.invokevirtual 58, 3) := by decide +kernel
theorem dX6_divide_27 : decode cX6_divide 27 = .ok (.istore 4, 2) := by decide +kernel
theorem dX6_divide_29 : decode cX6_divide 29 = .ok (.iload 4, 2) := by decide +kernel
theorem dX6_divide_31 : decode cX6_divide 31 = .ok (.aload_n 0, 1) := by decide +kernel
theorem dX6_divide_32 : decode cX6_divide 32 = .ok (.getfield 18, 3) := by decide +kernel
theorem dX6_divide_35 : decode cX6_divide 35 = .ok (.if_icmp .ne 33, 3) := by decide +kernel
theorem dX6_divide_38 : decode cX6_divide 38 = .ok (.aload_n 0, 1) := by decide +kernel
theorem dX6_divide_39 : decode cX6_divide 39 = .ok (.getfield 9, 3) := by decide +kernel
theorem dX6_divide_42 : decode cX6_divide 42 = .ok (.iload 4, 2) := by decide +kernel
theorem dX6_divide_44 : decode cX6_divide 44 = .ok (.iload_n 3, 1) := by decide +kernel
theorem dX6_divide_45 : decode cX6_divide 45 = .ok (.invokestatic 62, 3) := by decide +kernel
theorem dX6_divide_48 : decode cX6_divide 48 = .ok (.aload_n 0, 1) := by decide +kernel
theorem dX6_divide_49 : decode cX6_divide 49 = .ok (.getfield 15, 3) := by decide +kernel
theorem dX6_divide_52 : decode cX6_divide 52 = .ok (.iload 4, 2) := by decide +kernel
theorem dX6_divide_54 : decode cX6_divide 54 = .ok (.iconst 0, 1) := by decide +kernel
theorem dX6_divide_55 : decode cX6_divide 55 = .ok (.invokestatic 62, 3) := by decide +kernel
theorem dX6_divide_58 : decode cX6_divide 58 = .ok (.aload_n 0, 1) := by decide +kernel
theorem dX6_divide_59 : decode cX6_divide 59 = .ok (.dup, 1) := by decide +kernel
theorem dX6_divide_60 : decode cX6_divide 60 = .ok (.getfield 18, 3) := by decide +kernel
theorem dX6_divide_63 : decode cX6_divide 63 = .ok (.iconst 1, 1) := by decide +kernel
theorem dX6_divide_64 : decode cX6_divide 64 = .ok (.iadd, 1) := by decide +kernel
theorem dX6_divide_65 : decode cX6_divide 65 = .ok (.putfield 18, 3) := by decide +kernel
theorem dX6_divide_68 : decode cX6_divide 68 = .ok (.aload_n 0, 1) := by decide +kernel
theorem dX6_divide_69 : decode cX6_divide 69 = .ok (.getfield 15, 3) := by decide +kernel
theorem dX6_divide_72 : decode cX6_divide 72 = .ok (.iload 4, 2) := by decide +kernel
theorem dX6_divide_74 : decode cX6_divide 74 = .ok (.aload_n 0, 1) := by decide +kernel
theorem dX6_divide_75 : decode cX6_divide 75 = .ok (.getfield 15, 3) := by decide +kernel
theorem dX6_divide_78 : decode cX6_divide 78 = .ok (.iload 4, 2) := by decide +kernel
theorem dX6_divide_80 : decode cX6_divide 80 = .ok (.invokestatic 66, 3) := by decide +kernel
theorem dX6_divide_83 : decode cX6_divide 83 = .ok (.iconst 1, 1) := by decide +kernel
theorem dX6_divide_84 : decode cX6_divide 84 = .ok (.iadd, 1) := by decide +kernel
theorem dX6_divide_85 : decode cX6_divide 85 = .ok (.invokestatic 62, 3) := by decide +kernel
theorem dX6_divide_88 : decode cX6_divide 88 = .ok (.iinc 2 1, 3) := by decide +kernel
theorem dX6_divide_91 : decode cX6_divide 91 = .ok (.goto (-84), 3) := by decide +kernel
theorem dX6_divide_94 : decode cX6_divide 94 = .ok (.return_, 1) := by decide +kernel
theorem dX6_setOf_0 : decode cX6_setOf 0 = .ok (.iconst 0, 1) := by decide +kernel
theorem dX6_setOf_1 : decode cX6_setOf 1 = .ok (.istore_n 3, 1) := by decide +kernel
theorem dX6_setOf_2 : decode cX6_setOf 2 = .ok (.iload_n 3, 1) := by decide +kernel
theorem dX6_setOf_3 : decode cX6_setOf 3 = .ok (.aload_n 0, 1) := by decide +kernel
theorem dX6_setOf_4 : decode cX6_setOf 4 = .ok (.getfield 18, 3) := by decide +kernel
theorem dX6_setOf_7 : decode cX6_setOf 7 = .ok (.if_icmp .ge 32, 3) := by decide +kernel
theorem dX6_setOf_10 : decode cX6_setOf 10 = .ok (.aload_n 1, 1) := by decide +kernel
theorem dX6_setOf_11 : decode cX6_setOf 11 = .ok (.aload_n 0, 1) := by decide +kernel
theorem dX6_setOf_12 : decode cX6_setOf 12 = .ok (.getfield 9, 3) := by decide +kernel
theorem dX6_setOf_15 : decode cX6_setOf 15 = .ok (.iload_n 3, 1) := by decide +kernel
theorem dX6_setOf_16 : decode cX6_setOf 16 = .ok (.invokestatic 66, 3) := by decide +kernel
theorem dX6_setOf_19 : decode cX6_setOf 19 = .ok (.invokevirtual 70, 3) := by decide +kernel
theorem dX6_setOf_22 : decode cX6_setOf 22 = .ok (.aload_n 1, 1) := by decide +kernel
theorem dX6_setOf_23 : decode cX6_setOf 23 = .ok (.iload_n 2, 1) := by decide +kernel
theorem dX6_setOf_24 : decode cX6_setOf 24 = .ok (.invokevirtual 70, 3) := by decide +kernel
theorem dX6_setOf_27 : decode cX6_setOf 27 = .ok (.invokevirtual 74, 3) := by decide +kernel
theorem dX6_setOf_30 : decode cX6_setOf 30 = .ok (.ifCond .ne 9, 3) := by decide +kernel
theorem dX6_setOf_33 : decode cX6_setOf 33 = .ok (.iinc 3 1, 3) := by decide +kernel
theorem dX6_setOf_36 : decode cX6_setOf 36 = .ok (.goto (-34), 3) := by decide +kernel
theorem dX6_setOf_39 : decode cX6_setOf 39 = .ok (.iload_n 3, 1) := by decide +kernel
theorem dX6_setOf_40 : decode cX6_setOf 40 = .ok (.ireturn, 1) := by decide +kernel
theorem dX6_mostOfSets_0 : decode cX6_mostOfSets 0 = .ok (.iconst 0, 1) := by decide +kernel
theorem dX6_mostOfSets_1 : decode cX6_mostOfSets 1 = .ok (.istore_n 1, 1) := by decide +kernel
theorem dX6_mostOfSets_2 : decode cX6_mostOfSets 2 = .ok (.iconst 0, 1) := by decide +kernel
theorem dX6_mostOfSets_3 : decode cX6_mostOfSets 3 = .ok (.istore_n 2, 1) := by decide +kernel
theorem dX6_mostOfSets_4 : decode cX6_mostOfSets 4 = .ok (.iload_n 2, 1) := by decide +kernel
theorem dX6_mostOfSets_5 : decode cX6_mostOfSets 5 = .ok (.aload_n 0, 1) := by decide +kernel
theorem dX6_mostOfSets_6 : decode cX6_mostOfSets 6 = .ok (.getfield 18, 3) := by decide +kernel
theorem dX6_mostOfSets_9 : decode cX6_mostOfSets 9 = .ok (.if_icmp .ge 22, 3) := by decide +kernel
theorem dX6_mostOfSets_12 : decode cX6_mostOfSets 12 = .ok (.iload_n 1, 1) := by decide +kernel
theorem dX6_mostOfSets_13 : decode cX6_mostOfSets 13 = .ok (.aload_n 0, 1) := by decide +kernel
theorem dX6_mostOfSets_14 : decode cX6_mostOfSets 14 = .ok (.getfield 15, 3) := by decide +kernel
theorem dX6_mostOfSets_17 : decode cX6_mostOfSets 17 = .ok (.iload_n 2, 1) := by decide +kernel
theorem dX6_mostOfSets_18 : decode cX6_mostOfSets 18 = .ok (.invokestatic 66, 3) := by decide +kernel
theorem dX6_mostOfSets_21 : decode cX6_mostOfSets 21 = .ok (.invokestatic 80, 3) := by decide +kernel
theorem dX6_mostOfSets_24 : decode cX6_mostOfSets 24 = .ok (.istore_n 1, 1) := by decide +kernel
theorem dX6_mostOfSets_25 : decode cX6_mostOfSets 25 = .ok (.iinc 2 1, 3) := by decide +kernel
theorem dX6_mostOfSets_28 : decode cX6_mostOfSets 28 = .ok (.goto (-24), 3) := by decide +kernel
theorem dX6_mostOfSets_31 : decode cX6_mostOfSets 31 = .ok (.iload_n 1, 1) := by decide +kernel
theorem dX6_mostOfSets_32 : decode cX6_mostOfSets 32 = .ok (.ireturn, 1) := by decide +kernel
theorem dX7_init_0 : decode cX7_init 0 = .ok (.aload_n 0, 1) := by decide +kernel
theorem dX7_init_1 : decode cX7_init 1 = .ok (.invokespecial 3, 3) := by decide +kernel
theorem dX7_init_4 : decode cX7_init 4 = .ok (.aload_n 0, 1) := by decide +kernel
theorem dX7_init_5 : decode cX7_init 5 = .ok (.sipush 150, 3) := by decide +kernel
theorem dX7_init_8 : decode cX7_init 8 = .ok (.newarray .int, 2) := by decide +kernel
theorem dX7_init_10 : decode cX7_init 10 = .ok (.putfield 11, 3) := by decide +kernel
theorem dX7_init_13 : decode cX7_init 13 = .ok (.aload_n 0, 1) := by decide +kernel
theorem dX7_init_14 : decode cX7_init 14 = .ok (.iconst 0, 1) := by decide +kernel
theorem dX7_init_15 : decode cX7_init 15 = .ok (.putfield 15, 3) := by decide +kernel
theorem dX7_init_18 : decode cX7_init 18 = .ok (.return_, 1) := by decide +kernel
theorem dX7_allow_0 : decode cX7_allow 0 = .ok (.iload_n 0, 1) := by decide +kernel
theorem dX7_allow_1 : decode cX7_allow 1 = .ok (.ifCond .lt 22, 3) := by decide +kernel
theorem dX7_allow_4 : decode cX7_allow 4 = .ok (.iload_n 0, 1) := by decide +kernel
theorem dX7_allow_5 : decode cX7_allow 5 = .ok (.iconst 4, 1) := by decide +kernel
theorem dX7_allow_6 : decode cX7_allow 6 = .ok (.if_icmp .gt 17, 3) := by decide +kernel
theorem dX7_allow_9 : decode cX7_allow 9 = .ok (.iload_n 1, 1) := by decide +kernel
theorem dX7_allow_10 : decode cX7_allow 10 = .ok (.invokestatic 19, 3) := by decide +kernel
theorem dX7_allow_13 : decode cX7_allow 13 = .ok (.ifCond .eq 10, 3) := by decide +kernel
theorem dX7_allow_16 : decode cX7_allow 16 = .ok (.iload_n 2, 1) := by decide +kernel
theorem dX7_allow_17 : decode cX7_allow 17 = .ok (.invokestatic 19, 3) := by decide +kernel
theorem dX7_allow_20 : decode cX7_allow 20 = .ok (.ifCond .ne 5, 3) := by decide +kernel
theorem dX7_allow_23 : decode cX7_allow 23 = .ok (.iconst 0, 1) := by decide +kernel
theorem dX7_allow_24 : decode cX7_allow 24 = .ok (.ireturn, 1) := by decide +kernel
theorem dX7_allow_25 : decode cX7_allow 25 = .ok (.iload_n 3, 1) := by decide +kernel
theorem dX7_allow_26 : decode cX7_allow 26 = .ok (.invokestatic 23, 3) := by decide +kernel
theorem dX7_allow_29 : decode cX7_allow 29 = .ok (.ifCond .ne 15, 3) := by decide +kernel
theorem dX7_allow_32 : decode cX7_allow 32 = .ok (.iload_n 3, 1) := by decide +kernel
theorem dX7_allow_33 : decode cX7_allow 33 = .ok (.iconst (-1), 1) := by decide +kernel
theorem dX7_allow_34 : decode cX7_allow 34 = .ok (.if_icmp .ne 8, 3) := by decide +kernel
theorem dX7_allow_37 : decode cX7_allow 37 = .ok (.iload_n 0, 1) := by decide +kernel
theorem dX7_allow_38 : decode cX7_allow 38 = .ok (.iconst 1, 1) := by decide +kernel
theorem dX7_allow_39 : decode cX7_allow 39 = .ok (.if_icmp .le 5, 3) := by decide +kernel
theorem dX7_allow_42 : decode cX7_allow 42 = .ok (.iconst 0, 1) := by decide +kernel
theorem dX7_allow_43 : decode cX7_allow 43 = .ok (.ireturn, 1) := by decide +kernel
theorem dX7_allow_44 : decode cX7_allow 44 = .ok (.iload_n 0, 1) := by decide +kernel
theorem dX7_allow_45 : decode cX7_allow 45 = .ok (.tableswitch 112 1 4 #[31, 37, 66, 106], 31) := by decide +kernel
theorem dX7_allow_76 : decode cX7_allow 76 = .ok (.iload 4, 2) := by decide +kernel
theorem dX7_allow_78 : decode cX7_allow 78 = .ok (.invokestatic 26, 3) := by decide +kernel
theorem dX7_allow_81 : decode cX7_allow 81 = .ok (.ireturn, 1) := by decide +kernel
theorem dX7_allow_82 : decode cX7_allow 82 = .ok (.iload 4, 2) := by decide +kernel
theorem dX7_allow_84 : decode cX7_allow 84 = .ok (.invokestatic 26, 3) := by decide +kernel
theorem dX7_allow_87 : decode cX7_allow 87 = .ok (.ifCond .eq 22, 3) := by decide +kernel
theorem dX7_allow_90 : decode cX7_allow 90 = .ok (.iload 5, 2) := by decide +kernel
theorem dX7_allow_92 : decode cX7_allow 92 = .ok (.invokestatic 26, 3) := by decide +kernel
theorem dX7_allow_95 : decode cX7_allow 95 = .ok (.ifCond .eq 14, 3) := by decide +kernel
theorem dX7_allow_98 : decode cX7_allow 98 = .ok (.iload 4, 2) := by decide +kernel
theorem dX7_allow_100 : decode cX7_allow 100 = .ok (.iload 5, 2) := by decide +kernel
theorem dX7_allow_102 : decode cX7_allow 102 = .ok (.if_icmp .gt 7, 3) := by decide +kernel
theorem dX7_allow_105 : decode cX7_allow 105 = .ok (.iconst 1, 1) := by decide +kernel
theorem dX7_allow_106 : decode cX7_allow 106 = .ok (.goto 4, 3) := by decide +kernel
theorem dX7_allow_109 : decode cX7_allow 109 = .ok (.iconst 0, 1) := by decide +kernel
theorem dX7_allow_110 : decode cX7_allow 110 = .ok (.ireturn, 1) := by decide +kernel
theorem dX7_allow_111 : decode cX7_allow 111 = .ok (.iload 4, 2) := by decide +kernel
theorem dX7_allow_113 : decode cX7_allow 113 = .ok (.invokestatic 29, 3) := by decide +kernel
theorem dX7_allow_116 : decode cX7_allow 116 = .ok (.ifCond .eq 33, 3) := by decide +kernel
theorem dX7_allow_119 : decode cX7_allow 119 = .ok (.iload 5, 2) := by decide +kernel
theorem dX7_allow_121 : decode cX7_allow 121 = .ok (.bipush (-79), 2) := by decide +kernel
theorem dX7_allow_123 : decode cX7_allow 123 = .ok (.if_icmp .lt 26, 3) := by decide +kernel
theorem dX7_allow_126 : decode cX7_allow 126 = .ok (.iload 5, 2) := by decide +kernel
theorem dX7_allow_128 : decode cX7_allow 128 = .ok (.bipush 79, 2) := by decide +kernel
theorem dX7_allow_130 : decode cX7_allow 130 = .ok (.if_icmp .gt 19, 3) := by decide +kernel
theorem dX7_allow_133 : decode cX7_allow 133 = .ok (.iload 4, 2) := by decide +kernel
theorem dX7_allow_135 : decode cX7_allow 135 = .ok (.iload_n 1, 1) := by decide +kernel
theorem dX7_allow_136 : decode cX7_allow 136 = .ok (.iload_n 2, 1) := by decide +kernel
theorem dX7_allow_137 : decode cX7_allow 137 = .ok (.invokestatic 32, 3) := by decide +kernel
theorem dX7_allow_140 : decode cX7_allow 140 = .ok (.bipush 7, 2) := by decide +kernel
theorem dX7_allow_142 : decode cX7_allow 142 = .ok (.if_icmp .ge 7, 3) := by decide +kernel
theorem dX7_allow_145 : decode cX7_allow 145 = .ok (.iconst 1, 1) := by decide +kernel
theorem dX7_allow_146 : decode cX7_allow 146 = .ok (.goto 4, 3) := by decide +kernel
theorem dX7_allow_149 : decode cX7_allow 149 = .ok (.iconst 0, 1) := by decide +kernel
theorem dX7_allow_150 : decode cX7_allow 150 = .ok (.ireturn, 1) := by decide +kernel
theorem dX7_allow_151 : decode cX7_allow 151 = .ok (.iload 4, 2) := by decide +kernel
theorem dX7_allow_153 : decode cX7_allow 153 = .ok (.invokestatic 23, 3) := by decide +kernel
theorem dX7_allow_156 : decode cX7_allow 156 = .ok (.ireturn, 1) := by decide +kernel
theorem dX7_allow_157 : decode cX7_allow 157 = .ok (.iconst 1, 1) := by decide +kernel
theorem dX7_allow_158 : decode cX7_allow 158 = .ok (.ireturn, 1) := by decide +kernel
theorem dX7_size_0 : decode cX7_size 0 = .ok (.aload_n 0, 1) := by decide +kernel
theorem dX7_size_1 : decode cX7_size 1 = .ok (.getfield 15, 3) := by decide +kernel
theorem dX7_size_4 : decode cX7_size 4 = .ok (.ireturn, 1) := by decide +kernel
theorem dX7_has_0 : decode cX7_has 0 = .ok (.iload_n 1, 1) := by decide +kernel
theorem dX7_has_1 : decode cX7_has 1 = .ok (.aload_n 0, 1) := by decide +kernel
theorem dX7_has_2 : decode cX7_has 2 = .ok (.getfield 15, 3) := by decide +kernel
theorem dX7_has_5 : decode cX7_has 5 = .ok (.invokestatic 38, 3) := by decide +kernel
theorem dX7_has_8 : decode cX7_has 8 = .ok (.ireturn, 1) := by decide +kernel
theorem dX7_add_0 : decode cX7_add 0 = .ok (.aload_n 0, 1) := by decide +kernel
theorem dX7_add_1 : decode cX7_add 1 = .ok (.getfield 15, 3) := by decide +kernel
theorem dX7_add_4 : decode cX7_add 4 = .ok (.bipush 30, 2) := by decide +kernel
theorem dX7_add_6 : decode cX7_add 6 = .ok (.if_icmp .lt 4, 3) := by decide +kernel
theorem dX7_add_9 : decode cX7_add 9 = .ok (.return_, 1) := by decide +kernel
theorem dX7_add_10 : decode cX7_add 10 = .ok (.aload_n 0, 1) := by decide +kernel
theorem dX7_add_11 : decode cX7_add 11 = .ok (.getfield 15, 3) := by decide +kernel
theorem dX7_add_14 : decode cX7_add 14 = .ok (.iconst 5, 1) := by decide +kernel
theorem dX7_add_15 : decode cX7_add 15 = .ok (.imul, 1) := by decide +kernel
theorem dX7_add_16 : decode cX7_add 16 = .ok (.istore 7, 2) := by decide +kernel
theorem dX7_add_18 : decode cX7_add 18 = .ok (.aload_n 0, 1) := by decide +kernel
theorem dX7_add_19 : decode cX7_add 19 = .ok (.getfield 11, 3) := by decide +kernel
theorem dX7_add_22 : decode cX7_add 22 = .ok (.iload 7, 2) := by decide +kernel
theorem dX7_add_24 : decode cX7_add 24 = .ok (.iload_n 1, 1) := by decide +kernel
theorem dX7_add_25 : decode cX7_add 25 = .ok (.invokestatic 42, 3) := by decide +kernel
theorem dX7_add_28 : decode cX7_add 28 = .ok (.aload_n 0, 1) := by decide +kernel
theorem dX7_add_29 : decode cX7_add 29 = .ok (.getfield 11, 3) := by decide +kernel
theorem dX7_add_32 : decode cX7_add 32 = .ok (.iload 7, 2) := by decide +kernel
theorem dX7_add_34 : decode cX7_add 34 = .ok (.iconst 1, 1) := by decide +kernel
theorem dX7_add_35 : decode cX7_add 35 = .ok (.iadd, 1) := by decide +kernel
theorem dX7_add_36 : decode cX7_add 36 = .ok (.iload_n 2, 1) := by decide +kernel
theorem dX7_add_37 : decode cX7_add 37 = .ok (.iload_n 3, 1) := by decide +kernel
theorem dX7_add_38 : decode cX7_add 38 = .ok (.invokestatic 46, 3) := by decide +kernel
theorem dX7_add_41 : decode cX7_add 41 = .ok (.invokestatic 42, 3) := by decide +kernel
theorem dX7_add_44 : decode cX7_add 44 = .ok (.aload_n 0, 1) := by decide +kernel
theorem dX7_add_45 : decode cX7_add 45 = .ok (.getfield 11, 3) := by decide +kernel
theorem dX7_add_48 : decode cX7_add 48 = .ok (.iload 7, 2) := by decide +kernel
theorem dX7_add_50 : decode cX7_add 50 = .ok (.iconst 2, 1) := by decide +kernel
theorem dX7_add_51 : decode cX7_add 51 = .ok (.iadd, 1) := by decide +kernel
theorem dX7_add_52 : decode cX7_add 52 = .ok (.iload 4, 2) := by decide +kernel
theorem dX7_add_54 : decode cX7_add 54 = .ok (.invokestatic 42, 3) := by decide +kernel
theorem dX7_add_57 : decode cX7_add 57 = .ok (.aload_n 0, 1) := by decide +kernel
theorem dX7_add_58 : decode cX7_add 58 = .ok (.getfield 11, 3) := by decide +kernel
theorem dX7_add_61 : decode cX7_add 61 = .ok (.iload 7, 2) := by decide +kernel
theorem dX7_add_63 : decode cX7_add 63 = .ok (.iconst 3, 1) := by decide +kernel
theorem dX7_add_64 : decode cX7_add 64 = .ok (.iadd, 1) := by decide +kernel
theorem dX7_add_65 : decode cX7_add 65 = .ok (.iload 5, 2) := by decide +kernel
theorem dX7_add_67 : decode cX7_add 67 = .ok (.invokestatic 42, 3) := by decide +kernel
theorem dX7_add_70 : decode cX7_add 70 = .ok (.aload_n 0, 1) := by decide +kernel
theorem dX7_add_71 : decode cX7_add 71 = .ok (.getfield 11, 3) := by decide +kernel
theorem dX7_add_74 : decode cX7_add 74 = .ok (.iload 7, 2) := by decide +kernel
theorem dX7_add_76 : decode cX7_add 76 = .ok (.iconst 4, 1) := by decide +kernel
theorem dX7_add_77 : decode cX7_add 77 = .ok (.iadd, 1) := by decide +kernel
theorem dX7_add_78 : decode cX7_add 78 = .ok (.iload 6, 2) := by decide +kernel
theorem dX7_add_80 : decode cX7_add 80 = .ok (.invokestatic 42, 3) := by decide +kernel
theorem dX7_add_83 : decode cX7_add 83 = .ok (.aload_n 0, 1) := by decide +kernel
theorem dX7_add_84 : decode cX7_add 84 = .ok (.dup, 1) := by decide +kernel
theorem dX7_add_85 : decode cX7_add 85 = .ok (.getfield 15, 3) := by decide +kernel
theorem dX7_add_88 : decode cX7_add 88 = .ok (.iconst 1, 1) := by decide +kernel
theorem dX7_add_89 : decode cX7_add 89 = .ok (.iadd, 1) := by decide +kernel
theorem dX7_add_90 : decode cX7_add 90 = .ok (.putfield 15, 3) := by decide +kernel
theorem dX7_add_93 : decode cX7_add 93 = .ok (.return_, 1) := by decide +kernel
theorem dX7_shorten_0 : decode cX7_shorten 0 = .ok (.aload_n 0, 1) := by decide +kernel
theorem dX7_shorten_1 : decode cX7_shorten 1 = .ok (.getfield 15, 3) := by decide +kernel
theorem dX7_shorten_4 : decode cX7_shorten 4 = .ok (.ifCond .le 13, 3) := by decide +kernel
theorem dX7_shorten_7 : decode cX7_shorten 7 = .ok (.aload_n 0, 1) := by decide +kernel
theorem dX7_shorten_8 : decode cX7_shorten 8 = .ok (.dup, 1) := by decide +kernel
theorem dX7_shorten_9 : decode cX7_shorten 9 = .ok (.getfield 15, 3) := by decide +kernel
theorem dX7_shorten_12 : decode cX7_shorten 12 = .ok (.iconst 1, 1) := by decide +kernel
theorem dX7_shorten_13 : decode cX7_shorten 13 = .ok (.isub, 1) := by decide +kernel
theorem dX7_shorten_14 : decode cX7_shorten 14 = .ok (.putfield 15, 3) := by decide +kernel
theorem dX7_shorten_17 : decode cX7_shorten 17 = .ok (.return_, 1) := by decide +kernel
theorem dX7_kind_0 : decode cX7_kind 0 = .ok (.aload_n 0, 1) := by decide +kernel
theorem dX7_kind_1 : decode cX7_kind 1 = .ok (.getfield 11, 3) := by decide +kernel
theorem dX7_kind_4 : decode cX7_kind 4 = .ok (.iload_n 1, 1) := by decide +kernel
theorem dX7_kind_5 : decode cX7_kind 5 = .ok (.iconst 5, 1) := by decide +kernel
theorem dX7_kind_6 : decode cX7_kind 6 = .ok (.imul, 1) := by decide +kernel
theorem dX7_kind_7 : decode cX7_kind 7 = .ok (.invokestatic 50, 3) := by decide +kernel
theorem dX7_kind_10 : decode cX7_kind 10 = .ok (.ireturn, 1) := by decide +kernel
theorem dX7_column_0 : decode cX7_column 0 = .ok (.aload_n 0, 1) := by decide +kernel
theorem dX7_column_1 : decode cX7_column 1 = .ok (.getfield 11, 3) := by decide +kernel
theorem dX7_column_4 : decode cX7_column 4 = .ok (.iload_n 1, 1) := by decide +kernel
theorem dX7_column_5 : decode cX7_column 5 = .ok (.iconst 5, 1) := by decide +kernel
theorem dX7_column_6 : decode cX7_column 6 = .ok (.imul, 1) := by decide +kernel
theorem dX7_column_7 : decode cX7_column 7 = .ok (.iconst 1, 1) := by decide +kernel
theorem dX7_column_8 : decode cX7_column 8 = .ok (.iadd, 1) := by decide +kernel
theorem dX7_column_9 : decode cX7_column 9 = .ok (.invokestatic 50, 3) := by decide +kernel
theorem dX7_column_12 : decode cX7_column 12 = .ok (.ireturn, 1) := by decide +kernel
theorem dX7_bed_0 : decode cX7_bed 0 = .ok (.aload_n 0, 1) := by decide +kernel
theorem dX7_bed_1 : decode cX7_bed 1 = .ok (.getfield 11, 3) := by decide +kernel
theorem dX7_bed_4 : decode cX7_bed 4 = .ok (.iload_n 1, 1) := by decide +kernel
theorem dX7_bed_5 : decode cX7_bed 5 = .ok (.iconst 5, 1) := by decide +kernel
theorem dX7_bed_6 : decode cX7_bed 6 = .ok (.imul, 1) := by decide +kernel
theorem dX7_bed_7 : decode cX7_bed 7 = .ok (.iconst 2, 1) := by decide +kernel
theorem dX7_bed_8 : decode cX7_bed 8 = .ok (.iadd, 1) := by decide +kernel
theorem dX7_bed_9 : decode cX7_bed 9 = .ok (.invokestatic 50, 3) := by decide +kernel
theorem dX7_bed_12 : decode cX7_bed 12 = .ok (.ireturn, 1) := by decide +kernel
theorem dX7_p_0 : decode cX7_p 0 = .ok (.aload_n 0, 1) := by decide +kernel
theorem dX7_p_1 : decode cX7_p 1 = .ok (.getfield 11, 3) := by decide +kernel
theorem dX7_p_4 : decode cX7_p 4 = .ok (.iload_n 1, 1) := by decide +kernel
theorem dX7_p_5 : decode cX7_p 5 = .ok (.iconst 5, 1) := by decide +kernel
theorem dX7_p_6 : decode cX7_p 6 = .ok (.imul, 1) := by decide +kernel
theorem dX7_p_7 : decode cX7_p 7 = .ok (.iconst 3, 1) := by decide +kernel
theorem dX7_p_8 : decode cX7_p 8 = .ok (.iadd, 1) := by decide +kernel
theorem dX7_p_9 : decode cX7_p 9 = .ok (.invokestatic 50, 3) := by decide +kernel
theorem dX7_p_12 : decode cX7_p 12 = .ok (.ireturn, 1) := by decide +kernel
theorem dX7_q_0 : decode cX7_q 0 = .ok (.aload_n 0, 1) := by decide +kernel
theorem dX7_q_1 : decode cX7_q 1 = .ok (.getfield 11, 3) := by decide +kernel
theorem dX7_q_4 : decode cX7_q 4 = .ok (.iload_n 1, 1) := by decide +kernel
theorem dX7_q_5 : decode cX7_q 5 = .ok (.iconst 5, 1) := by decide +kernel
theorem dX7_q_6 : decode cX7_q 6 = .ok (.imul, 1) := by decide +kernel
theorem dX7_q_7 : decode cX7_q 7 = .ok (.iconst 4, 1) := by decide +kernel
theorem dX7_q_8 : decode cX7_q 8 = .ok (.iadd, 1) := by decide +kernel
theorem dX7_q_9 : decode cX7_q 9 = .ok (.invokestatic 50, 3) := by decide +kernel
theorem dX7_q_12 : decode cX7_q 12 = .ok (.ireturn, 1) := by decide +kernel
theorem dX7_isDip_0 : decode cX7_isDip 0 = .ok (.aload_n 0, 1) := by decide +kernel
theorem dX7_isDip_1 : decode cX7_isDip 1 = .ok (.iload_n 1, 1) := by decide +kernel
theorem dX7_isDip_2 : decode cX7_isDip 2 = .ok (.invokevirtual 54, 3) := by decide +kernel
theorem dX7_isDip_5 : decode cX7_isDip 5 = .ok (.iconst 3, 1) := by decide +kernel
theorem dX7_isDip_6 : decode cX7_isDip 6 = .ok (.if_icmp .ne 7, 3) := by decide +kernel
theorem dX7_isDip_9 : decode cX7_isDip 9 = .ok (.iconst 1, 1) := by decide +kernel
theorem dX7_isDip_10 : decode cX7_isDip 10 = .ok (.goto 4, 3) := by decide +kernel
theorem dX7_isDip_13 : decode cX7_isDip 13 = .ok (.iconst 0, 1) := by decide +kernel
theorem dX7_isDip_14 : decode cX7_isDip 14 = .ok (.ireturn, 1) := by decide +kernel
theorem dX7_nextColumn_0 : decode cX7_nextColumn 0 = .ok (.aload_n 0, 1) := by decide +kernel
theorem dX7_nextColumn_1 : decode cX7_nextColumn 1 = .ok (.iload_n 1, 1) := by decide +kernel
theorem dX7_nextColumn_2 : decode cX7_nextColumn 2 = .ok (.invokevirtual 58, 3) := by decide +kernel
theorem dX7_nextColumn_5 : decode cX7_nextColumn 5 = .ok (.ifCond .ne 9, 3) := by decide +kernel
theorem dX7_nextColumn_8 : decode cX7_nextColumn 8 = .ok (.aload_n 0, 1) := by decide +kernel
theorem dX7_nextColumn_9 : decode cX7_nextColumn 9 = .ok (.iload_n 1, 1) := by decide +kernel
theorem dX7_nextColumn_10 : decode cX7_nextColumn 10 = .ok (.invokevirtual 61, 3) := by decide +kernel
theorem dX7_nextColumn_13 : decode cX7_nextColumn 13 = .ok (.ireturn, 1) := by decide +kernel
theorem dX7_nextColumn_14 : decode cX7_nextColumn 14 = .ok (.aload_n 0, 1) := by decide +kernel
theorem dX7_nextColumn_15 : decode cX7_nextColumn 15 = .ok (.iload_n 1, 1) := by decide +kernel
theorem dX7_nextColumn_16 : decode cX7_nextColumn 16 = .ok (.invokevirtual 61, 3) := by decide +kernel
theorem dX7_nextColumn_19 : decode cX7_nextColumn 19 = .ok (.aload_n 0, 1) := by decide +kernel
theorem dX7_nextColumn_20 : decode cX7_nextColumn 20 = .ok (.iload_n 1, 1) := by decide +kernel
theorem dX7_nextColumn_21 : decode cX7_nextColumn 21 = .ok (.invokevirtual 64, 3) := by decide +kernel
theorem dX7_nextColumn_24 : decode cX7_nextColumn 24 = .ok (.ifCond .ne 7, 3) := by decide +kernel
theorem dX7_nextColumn_27 : decode cX7_nextColumn 27 = .ok (.iconst 1, 1) := by decide +kernel
theorem dX7_nextColumn_28 : decode cX7_nextColumn 28 = .ok (.goto 5, 3) := by decide +kernel
theorem dX7_nextColumn_31 : decode cX7_nextColumn 31 = .ok (.bipush 8, 2) := by decide +kernel
theorem dX7_nextColumn_33 : decode cX7_nextColumn 33 = .ok (.iadd, 1) := by decide +kernel
theorem dX7_nextColumn_34 : decode cX7_nextColumn 34 = .ok (.ireturn, 1) := by decide +kernel
theorem dX7_isMet_0 : decode cX7_isMet 0 = .ok (.aload_n 2, 1) := by decide +kernel
theorem dX7_isMet_1 : decode cX7_isMet 1 = .ok (.ifnull 7, 3) := by decide +kernel
theorem dX7_isMet_4 : decode cX7_isMet 4 = .ok (.aload_n 3, 1) := by decide +kernel
theorem dX7_isMet_5 : decode cX7_isMet 5 = .ok (.ifnonnull 5, 3) := by decide +kernel
theorem dX7_isMet_8 : decode cX7_isMet 8 = .ok (.iconst 0, 1) := by decide +kernel
theorem dX7_isMet_9 : decode cX7_isMet 9 = .ok (.ireturn, 1) := by decide +kernel
theorem dX7_isMet_10 : decode cX7_isMet 10 = .ok (.aload_n 0, 1) := by decide +kernel
theorem dX7_isMet_11 : decode cX7_isMet 11 = .ok (.iload_n 1, 1) := by decide +kernel
theorem dX7_isMet_12 : decode cX7_isMet 12 = .ok (.invokevirtual 67, 3) := by decide +kernel
theorem dX7_isMet_15 : decode cX7_isMet 15 = .ok (.istore 4, 2) := by decide +kernel
theorem dX7_isMet_17 : decode cX7_isMet 17 = .ok (.aload_n 0, 1) := by decide +kernel
theorem dX7_isMet_18 : decode cX7_isMet 18 = .ok (.iload_n 1, 1) := by decide +kernel
theorem dX7_isMet_19 : decode cX7_isMet 19 = .ok (.invokevirtual 64, 3) := by decide +kernel
theorem dX7_isMet_22 : decode cX7_isMet 22 = .ok (.istore 5, 2) := by decide +kernel
theorem dX7_isMet_24 : decode cX7_isMet 24 = .ok (.aload_n 0, 1) := by decide +kernel
theorem dX7_isMet_25 : decode cX7_isMet 25 = .ok (.iload_n 1, 1) := by decide +kernel
theorem dX7_isMet_26 : decode cX7_isMet 26 = .ok (.invokevirtual 70, 3) := by decide +kernel
theorem dX7_isMet_29 : decode cX7_isMet 29 = .ok (.istore 6, 2) := by decide +kernel
theorem dX7_isMet_31 : decode cX7_isMet 31 = .ok (.aload_n 0, 1) := by decide +kernel
theorem dX7_isMet_32 : decode cX7_isMet 32 = .ok (.iload_n 1, 1) := by decide +kernel
theorem dX7_isMet_33 : decode cX7_isMet 33 = .ok (.invokevirtual 54, 3) := by decide +kernel
theorem dX7_isMet_36 : decode cX7_isMet 36 = .ok (.tableswitch 121 0 3 #[32, 47, 64, 103], 32) := by decide +kernel
theorem dX7_isMet_68 : decode cX7_isMet 68 = .ok (.aload_n 2, 1) := by decide +kernel
theorem dX7_isMet_69 : decode cX7_isMet 69 = .ok (.invokevirtual 73, 3) := by decide +kernel
theorem dX7_isMet_72 : decode cX7_isMet 72 = .ok (.iload 4, 2) := by decide +kernel
theorem dX7_isMet_74 : decode cX7_isMet 74 = .ok (.if_icmp .ne 7, 3) := by decide +kernel
theorem dX7_isMet_77 : decode cX7_isMet 77 = .ok (.iconst 1, 1) := by decide +kernel
theorem dX7_isMet_78 : decode cX7_isMet 78 = .ok (.goto 4, 3) := by decide +kernel
theorem dX7_isMet_81 : decode cX7_isMet 81 = .ok (.iconst 0, 1) := by decide +kernel
theorem dX7_isMet_82 : decode cX7_isMet 82 = .ok (.ireturn, 1) := by decide +kernel
theorem dX7_isMet_83 : decode cX7_isMet 83 = .ok (.aload_n 2, 1) := by decide +kernel
theorem dX7_isMet_84 : decode cX7_isMet 84 = .ok (.iload 5, 2) := by decide +kernel
theorem dX7_isMet_86 : decode cX7_isMet 86 = .ok (.invokevirtual 77, 3) := by decide +kernel
theorem dX7_isMet_89 : decode cX7_isMet 89 = .ok (.iload 4, 2) := by decide +kernel
theorem dX7_isMet_91 : decode cX7_isMet 91 = .ok (.if_icmp .ne 7, 3) := by decide +kernel
theorem dX7_isMet_94 : decode cX7_isMet 94 = .ok (.iconst 1, 1) := by decide +kernel
theorem dX7_isMet_95 : decode cX7_isMet 95 = .ok (.goto 4, 3) := by decide +kernel
theorem dX7_isMet_98 : decode cX7_isMet 98 = .ok (.iconst 0, 1) := by decide +kernel
theorem dX7_isMet_99 : decode cX7_isMet 99 = .ok (.ireturn, 1) := by decide +kernel
theorem dX7_isMet_100 : decode cX7_isMet 100 = .ok (.aload_n 2, 1) := by decide +kernel
theorem dX7_isMet_101 : decode cX7_isMet 101 = .ok (.iload 4, 2) := by decide +kernel
theorem dX7_isMet_103 : decode cX7_isMet 103 = .ok (.invokevirtual 80, 3) := by decide +kernel
theorem dX7_isMet_106 : decode cX7_isMet 106 = .ok (.bipush (-41), 2) := by decide +kernel
theorem dX7_isMet_108 : decode cX7_isMet 108 = .ok (.if_icmp .eq 29, 3) := by decide +kernel
theorem dX7_isMet_111 : decode cX7_isMet 111 = .ok (.aload_n 2, 1) := by decide +kernel
theorem dX7_isMet_112 : decode cX7_isMet 112 = .ok (.iload 4, 2) := by decide +kernel
theorem dX7_isMet_114 : decode cX7_isMet 114 = .ok (.invokevirtual 80, 3) := by decide +kernel
theorem dX7_isMet_117 : decode cX7_isMet 117 = .ok (.iload 5, 2) := by decide +kernel
theorem dX7_isMet_119 : decode cX7_isMet 119 = .ok (.if_icmp .lt 18, 3) := by decide +kernel
theorem dX7_isMet_122 : decode cX7_isMet 122 = .ok (.aload_n 2, 1) := by decide +kernel
theorem dX7_isMet_123 : decode cX7_isMet 123 = .ok (.iload 4, 2) := by decide +kernel
theorem dX7_isMet_125 : decode cX7_isMet 125 = .ok (.invokevirtual 80, 3) := by decide +kernel
theorem dX7_isMet_128 : decode cX7_isMet 128 = .ok (.iload 6, 2) := by decide +kernel
theorem dX7_isMet_130 : decode cX7_isMet 130 = .ok (.if_icmp .gt 7, 3) := by decide +kernel
theorem dX7_isMet_133 : decode cX7_isMet 133 = .ok (.iconst 1, 1) := by decide +kernel
theorem dX7_isMet_134 : decode cX7_isMet 134 = .ok (.goto 4, 3) := by decide +kernel
theorem dX7_isMet_137 : decode cX7_isMet 137 = .ok (.iconst 0, 1) := by decide +kernel
theorem dX7_isMet_138 : decode cX7_isMet 138 = .ok (.ireturn, 1) := by decide +kernel
theorem dX7_isMet_139 : decode cX7_isMet 139 = .ok (.aload_n 2, 1) := by decide +kernel
theorem dX7_isMet_140 : decode cX7_isMet 140 = .ok (.iload 4, 2) := by decide +kernel
theorem dX7_isMet_142 : decode cX7_isMet 142 = .ok (.invokevirtual 80, 3) := by decide +kernel
theorem dX7_isMet_145 : decode cX7_isMet 145 = .ok (.aload_n 3, 1) := by decide +kernel
theorem dX7_isMet_146 : decode cX7_isMet 146 = .ok (.iload 4, 2) := by decide +kernel
theorem dX7_isMet_148 : decode cX7_isMet 148 = .ok (.invokevirtual 80, 3) := by decide +kernel
theorem dX7_isMet_151 : decode cX7_isMet 151 = .ok (.iload 6, 2) := by decide +kernel
theorem dX7_isMet_153 : decode cX7_isMet 153 = .ok (.invokestatic 83, 3) := by decide +kernel
theorem dX7_isMet_156 : decode cX7_isMet 156 = .ok (.ireturn, 1) := by decide +kernel
theorem dX7_isMet_157 : decode cX7_isMet 157 = .ok (.aload_n 2, 1) := by decide +kernel
theorem dX7_isMet_158 : decode cX7_isMet 158 = .ok (.iload 4, 2) := by decide +kernel
theorem dX7_isMet_160 : decode cX7_isMet 160 = .ok (.iload 5, 2) := by decide +kernel
theorem dX7_isMet_162 : decode cX7_isMet 162 = .ok (.invokevirtual 87, 3) := by decide +kernel
theorem dX7_isMet_165 : decode cX7_isMet 165 = .ok (.ireturn, 1) := by decide +kernel
theorem dX7_isDipMet_0 : decode cX7_isDipMet 0 = .ok (.iload_n 0, 1) := by decide +kernel
theorem dX7_isDipMet_1 : decode cX7_isDipMet 1 = .ok (.bipush (-41), 2) := by decide +kernel
theorem dX7_isDipMet_3 : decode cX7_isDipMet 3 = .ok (.if_icmp .eq 20, 3) := by decide +kernel
theorem dX7_isDipMet_6 : decode cX7_isDipMet 6 = .ok (.iload_n 1, 1) := by decide +kernel
theorem dX7_isDipMet_7 : decode cX7_isDipMet 7 = .ok (.bipush (-41), 2) := by decide +kernel
theorem dX7_isDipMet_9 : decode cX7_isDipMet 9 = .ok (.if_icmp .eq 14, 3) := by decide +kernel
theorem dX7_isDipMet_12 : decode cX7_isDipMet 12 = .ok (.iload_n 1, 1) := by decide +kernel
theorem dX7_isDipMet_13 : decode cX7_isDipMet 13 = .ok (.iload_n 0, 1) := by decide +kernel
theorem dX7_isDipMet_14 : decode cX7_isDipMet 14 = .ok (.isub, 1) := by decide +kernel
theorem dX7_isDipMet_15 : decode cX7_isDipMet 15 = .ok (.iload_n 2, 1) := by decide +kernel
theorem dX7_isDipMet_16 : decode cX7_isDipMet 16 = .ok (.if_icmp .ne 7, 3) := by decide +kernel
theorem dX7_isDipMet_19 : decode cX7_isDipMet 19 = .ok (.iconst 1, 1) := by decide +kernel
theorem dX7_isDipMet_20 : decode cX7_isDipMet 20 = .ok (.goto 4, 3) := by decide +kernel
theorem dX7_isDipMet_23 : decode cX7_isDipMet 23 = .ok (.iconst 0, 1) := by decide +kernel
theorem dX7_isDipMet_24 : decode cX7_isDipMet 24 = .ok (.ireturn, 1) := by decide +kernel
theorem dX7_isMetBy_0 : decode cX7_isMetBy 0 = .ok (.aload_n 1, 1) := by decide +kernel
theorem dX7_isMetBy_1 : decode cX7_isMetBy 1 = .ok (.ifnull 33, 3) := by decide +kernel
theorem dX7_isMetBy_4 : decode cX7_isMetBy 4 = .ok (.aload_n 0, 1) := by decide +kernel
theorem dX7_isMetBy_5 : decode cX7_isMetBy 5 = .ok (.iload_n 2, 1) := by decide +kernel
theorem dX7_isMetBy_6 : decode cX7_isMetBy 6 = .ok (.aload_n 1, 1) := by decide +kernel
theorem dX7_isMetBy_7 : decode cX7_isMetBy 7 = .ok (.aload_n 0, 1) := by decide +kernel
theorem dX7_isMetBy_8 : decode cX7_isMetBy 8 = .ok (.iload_n 2, 1) := by decide +kernel
theorem dX7_isMetBy_9 : decode cX7_isMetBy 9 = .ok (.invokevirtual 61, 3) := by decide +kernel
theorem dX7_isMetBy_12 : decode cX7_isMetBy 12 = .ok (.invokevirtual 90, 3) := by decide +kernel
theorem dX7_isMetBy_15 : decode cX7_isMetBy 15 = .ok (.aload_n 1, 1) := by decide +kernel
theorem dX7_isMetBy_16 : decode cX7_isMetBy 16 = .ok (.aload_n 0, 1) := by decide +kernel
theorem dX7_isMetBy_17 : decode cX7_isMetBy 17 = .ok (.iload_n 2, 1) := by decide +kernel
theorem dX7_isMetBy_18 : decode cX7_isMetBy 18 = .ok (.invokevirtual 96, 3) := by decide +kernel
theorem dX7_isMetBy_21 : decode cX7_isMetBy 21 = .ok (.invokevirtual 90, 3) := by decide +kernel
theorem dX7_isMetBy_24 : decode cX7_isMetBy 24 = .ok (.invokevirtual 99, 3) := by decide +kernel
theorem dX7_isMetBy_27 : decode cX7_isMetBy 27 = .ok (.ifCond .eq 7, 3) := by decide +kernel
theorem dX7_isMetBy_30 : decode cX7_isMetBy 30 = .ok (.iconst 1, 1) := by decide +kernel
theorem dX7_isMetBy_31 : decode cX7_isMetBy 31 = .ok (.goto 4, 3) := by decide +kernel
theorem dX7_isMetBy_34 : decode cX7_isMetBy 34 = .ok (.iconst 0, 1) := by decide +kernel
theorem dX7_isMetBy_35 : decode cX7_isMetBy 35 = .ok (.ireturn, 1) := by decide +kernel
theorem dX7_unmetOf_0 : decode cX7_unmetOf 0 = .ok (.iconst 0, 1) := by decide +kernel
theorem dX7_unmetOf_1 : decode cX7_unmetOf 1 = .ok (.istore_n 2, 1) := by decide +kernel
theorem dX7_unmetOf_2 : decode cX7_unmetOf 2 = .ok (.iconst 0, 1) := by decide +kernel
theorem dX7_unmetOf_3 : decode cX7_unmetOf 3 = .ok (.istore_n 3, 1) := by decide +kernel
theorem dX7_unmetOf_4 : decode cX7_unmetOf 4 = .ok (.iload_n 3, 1) := by decide +kernel
theorem dX7_unmetOf_5 : decode cX7_unmetOf 5 = .ok (.aload_n 0, 1) := by decide +kernel
theorem dX7_unmetOf_6 : decode cX7_unmetOf 6 = .ok (.getfield 15, 3) := by decide +kernel
theorem dX7_unmetOf_9 : decode cX7_unmetOf 9 = .ok (.if_icmp .ge 21, 3) := by decide +kernel
theorem dX7_unmetOf_12 : decode cX7_unmetOf 12 = .ok (.aload_n 0, 1) := by decide +kernel
theorem dX7_unmetOf_13 : decode cX7_unmetOf 13 = .ok (.aload_n 1, 1) := by decide +kernel
theorem dX7_unmetOf_14 : decode cX7_unmetOf 14 = .ok (.iload_n 3, 1) := by decide +kernel
theorem dX7_unmetOf_15 : decode cX7_unmetOf 15 = .ok (.invokevirtual 103, 3) := by decide +kernel
theorem dX7_unmetOf_18 : decode cX7_unmetOf 18 = .ok (.ifCond .ne 6, 3) := by decide +kernel
theorem dX7_unmetOf_21 : decode cX7_unmetOf 21 = .ok (.iinc 2 1, 3) := by decide +kernel
theorem dX7_unmetOf_24 : decode cX7_unmetOf 24 = .ok (.iinc 3 1, 3) := by decide +kernel
theorem dX7_unmetOf_27 : decode cX7_unmetOf 27 = .ok (.goto (-23), 3) := by decide +kernel
theorem dX7_unmetOf_30 : decode cX7_unmetOf 30 = .ok (.iload_n 2, 1) := by decide +kernel
theorem dX7_unmetOf_31 : decode cX7_unmetOf 31 = .ok (.ireturn, 1) := by decide +kernel
theorem dX7_unmetAmong_0 : decode cX7_unmetAmong 0 = .ok (.iconst 0, 1) := by decide +kernel
theorem dX7_unmetAmong_1 : decode cX7_unmetAmong 1 = .ok (.istore 4, 2) := by decide +kernel
theorem dX7_unmetAmong_3 : decode cX7_unmetAmong 3 = .ok (.iconst 0, 1) := by decide +kernel
theorem dX7_unmetAmong_4 : decode cX7_unmetAmong 4 = .ok (.istore 5, 2) := by decide +kernel
theorem dX7_unmetAmong_6 : decode cX7_unmetAmong 6 = .ok (.iload 5, 2) := by decide +kernel
theorem dX7_unmetAmong_8 : decode cX7_unmetAmong 8 = .ok (.iload_n 2, 1) := by decide +kernel
theorem dX7_unmetAmong_9 : decode cX7_unmetAmong 9 = .ok (.if_icmp .ge 34, 3) := by decide +kernel
theorem dX7_unmetAmong_12 : decode cX7_unmetAmong 12 = .ok (.aload_n 0, 1) := by decide +kernel
theorem dX7_unmetAmong_13 : decode cX7_unmetAmong 13 = .ok (.aload_n 1, 1) := by decide +kernel
theorem dX7_unmetAmong_14 : decode cX7_unmetAmong 14 = .ok (.iload 5, 2) := by decide +kernel
theorem dX7_unmetAmong_16 : decode cX7_unmetAmong 16 = .ok (.invokevirtual 103, 3) := by decide +kernel
theorem dX7_unmetAmong_19 : decode cX7_unmetAmong 19 = .ok (.ifCond .eq 6, 3) := by decide +kernel
theorem dX7_unmetAmong_22 : decode cX7_unmetAmong 22 = .ok (.goto 15, 3) := by decide +kernel
theorem dX7_unmetAmong_25 : decode cX7_unmetAmong 25 = .ok (.iload 4, 2) := by decide +kernel
theorem dX7_unmetAmong_27 : decode cX7_unmetAmong 27 = .ok (.iload_n 3, 1) := by decide +kernel
theorem dX7_unmetAmong_28 : decode cX7_unmetAmong 28 = .ok (.if_icmp .ne 6, 3) := by decide +kernel
theorem dX7_unmetAmong_31 : decode cX7_unmetAmong 31 = .ok (.iload 5, 2) := by decide +kernel
theorem dX7_unmetAmong_33 : decode cX7_unmetAmong 33 = .ok (.ireturn, 1) := by decide +kernel
theorem dX7_unmetAmong_34 : decode cX7_unmetAmong 34 = .ok (.iinc 4 1, 3) := by decide +kernel
theorem dX7_unmetAmong_37 : decode cX7_unmetAmong 37 = .ok (.iinc 5 1, 3) := by decide +kernel
theorem dX7_unmetAmong_40 : decode cX7_unmetAmong 40 = .ok (.goto (-34), 3) := by decide +kernel
theorem dX7_unmetAmong_43 : decode cX7_unmetAmong 43 = .ok (.iconst (-1), 1) := by decide +kernel
theorem dX7_unmetAmong_44 : decode cX7_unmetAmong 44 = .ok (.ireturn, 1) := by decide +kernel
theorem dX7_narrow_0 : decode cX7_narrow 0 = .ok (.aload_n 1, 1) := by decide +kernel
theorem dX7_narrow_1 : decode cX7_narrow 1 = .ok (.ifnonnull 4, 3) := by decide +kernel
theorem dX7_narrow_4 : decode cX7_narrow 4 = .ok (.return_, 1) := by decide +kernel
theorem dX7_narrow_5 : decode cX7_narrow 5 = .ok (.iconst 0, 1) := by decide +kernel
theorem dX7_narrow_6 : decode cX7_narrow 6 = .ok (.istore 6, 2) := by decide +kernel
theorem dX7_narrow_8 : decode cX7_narrow 8 = .ok (.iload 6, 2) := by decide +kernel
theorem dX7_narrow_10 : decode cX7_narrow 10 = .ok (.iload 5, 2) := by decide +kernel
theorem dX7_narrow_12 : decode cX7_narrow 12 = .ok (.if_icmp .ge 93, 3) := by decide +kernel
theorem dX7_narrow_15 : decode cX7_narrow 15 = .ok (.aload_n 0, 1) := by decide +kernel
theorem dX7_narrow_16 : decode cX7_narrow 16 = .ok (.iload 6, 2) := by decide +kernel
theorem dX7_narrow_18 : decode cX7_narrow 18 = .ok (.invokevirtual 54, 3) := by decide +kernel
theorem dX7_narrow_21 : decode cX7_narrow 21 = .ok (.iconst 2, 1) := by decide +kernel
theorem dX7_narrow_22 : decode cX7_narrow 22 = .ok (.if_icmp .ne 77, 3) := by decide +kernel
theorem dX7_narrow_25 : decode cX7_narrow 25 = .ok (.aload_n 0, 1) := by decide +kernel
theorem dX7_narrow_26 : decode cX7_narrow 26 = .ok (.iload 6, 2) := by decide +kernel
theorem dX7_narrow_28 : decode cX7_narrow 28 = .ok (.invokevirtual 67, 3) := by decide +kernel
theorem dX7_narrow_31 : decode cX7_narrow 31 = .ok (.iload_n 2, 1) := by decide +kernel
theorem dX7_narrow_32 : decode cX7_narrow 32 = .ok (.if_icmp .eq 6, 3) := by decide +kernel
theorem dX7_narrow_35 : decode cX7_narrow 35 = .ok (.goto 64, 3) := by decide +kernel
theorem dX7_narrow_38 : decode cX7_narrow 38 = .ok (.aload_n 0, 1) := by decide +kernel
theorem dX7_narrow_39 : decode cX7_narrow 39 = .ok (.iload 6, 2) := by decide +kernel
theorem dX7_narrow_41 : decode cX7_narrow 41 = .ok (.invokevirtual 61, 3) := by decide +kernel
theorem dX7_narrow_44 : decode cX7_narrow 44 = .ok (.invokestatic 107, 3) := by decide +kernel
theorem dX7_narrow_47 : decode cX7_narrow 47 = .ok (.istore 7, 2) := by decide +kernel
theorem dX7_narrow_49 : decode cX7_narrow 49 = .ok (.aload_n 0, 1) := by decide +kernel
theorem dX7_narrow_50 : decode cX7_narrow 50 = .ok (.iload 6, 2) := by decide +kernel
theorem dX7_narrow_52 : decode cX7_narrow 52 = .ok (.invokevirtual 61, 3) := by decide +kernel
theorem dX7_narrow_55 : decode cX7_narrow 55 = .ok (.invokestatic 110, 3) := by decide +kernel
theorem dX7_narrow_58 : decode cX7_narrow 58 = .ok (.istore 8, 2) := by decide +kernel
theorem dX7_narrow_60 : decode cX7_narrow 60 = .ok (.iconst 1, 1) := by decide +kernel
theorem dX7_narrow_61 : decode cX7_narrow 61 = .ok (.iload_n 3, 1) := by decide +kernel
theorem dX7_narrow_62 : decode cX7_narrow 62 = .ok (.isub, 1) := by decide +kernel
theorem dX7_narrow_63 : decode cX7_narrow 63 = .ok (.iload 7, 2) := by decide +kernel
theorem dX7_narrow_65 : decode cX7_narrow 65 = .ok (.iload 8, 2) := by decide +kernel
theorem dX7_narrow_67 : decode cX7_narrow 67 = .ok (.invokestatic 32, 3) := by decide +kernel
theorem dX7_narrow_70 : decode cX7_narrow 70 = .ok (.iload 4, 2) := by decide +kernel
theorem dX7_narrow_72 : decode cX7_narrow 72 = .ok (.if_icmp .ne 27, 3) := by decide +kernel
theorem dX7_narrow_75 : decode cX7_narrow 75 = .ok (.aload_n 1, 1) := by decide +kernel
theorem dX7_narrow_76 : decode cX7_narrow 76 = .ok (.iload_n 3, 1) := by decide +kernel
theorem dX7_narrow_77 : decode cX7_narrow 77 = .ok (.iload 7, 2) := by decide +kernel
theorem dX7_narrow_79 : decode cX7_narrow 79 = .ok (.iload 8, 2) := by decide +kernel
theorem dX7_narrow_81 : decode cX7_narrow 81 = .ok (.invokestatic 32, 3) := by decide +kernel
theorem dX7_narrow_84 : decode cX7_narrow 84 = .ok (.aload_n 0, 1) := by decide +kernel
theorem dX7_narrow_85 : decode cX7_narrow 85 = .ok (.iload 6, 2) := by decide +kernel
theorem dX7_narrow_87 : decode cX7_narrow 87 = .ok (.invokevirtual 64, 3) := by decide +kernel
theorem dX7_narrow_90 : decode cX7_narrow 90 = .ok (.aload_n 0, 1) := by decide +kernel
theorem dX7_narrow_91 : decode cX7_narrow 91 = .ok (.iload 6, 2) := by decide +kernel
theorem dX7_narrow_93 : decode cX7_narrow 93 = .ok (.invokevirtual 70, 3) := by decide +kernel
theorem dX7_narrow_96 : decode cX7_narrow 96 = .ok (.invokevirtual 113, 3) := by decide +kernel
theorem dX7_narrow_99 : decode cX7_narrow 99 = .ok (.iinc 6 1, 3) := by decide +kernel
theorem dX7_narrow_102 : decode cX7_narrow 102 = .ok (.goto (-94), 3) := by decide +kernel
theorem dX7_narrow_105 : decode cX7_narrow 105 = .ok (.return_, 1) := by decide +kernel
theorem dX8_init_0 : decode cX8_init 0 = .ok (.aload_n 0, 1) := by decide +kernel
theorem dX8_init_1 : decode cX8_init 1 = .ok (.invokespecial 3, 3) := by decide +kernel
theorem dX8_init_4 : decode cX8_init 4 = .ok (.aload_n 0, 1) := by decide +kernel
theorem dX8_init_5 : decode cX8_init 5 = .ok (.bipush 112, 2) := by decide +kernel
theorem dX8_init_7 : decode cX8_init 7 = .ok (.newarray .int, 2) := by decide +kernel
theorem dX8_init_9 : decode cX8_init 9 = .ok (.putfield 11, 3) := by decide +kernel
theorem dX8_init_12 : decode cX8_init 12 = .ok (.aload_n 0, 1) := by decide +kernel
theorem dX8_init_13 : decode cX8_init 13 = .ok (.bipush 7, 2) := by decide +kernel
theorem dX8_init_15 : decode cX8_init 15 = .ok (.newarray .int, 2) := by decide +kernel
theorem dX8_init_17 : decode cX8_init 17 = .ok (.putfield 15, 3) := by decide +kernel
theorem dX8_init_20 : decode cX8_init 20 = .ok (.aload_n 0, 1) := by decide +kernel
theorem dX8_init_21 : decode cX8_init 21 = .ok (.iconst 0, 1) := by decide +kernel
theorem dX8_init_22 : decode cX8_init 22 = .ok (.putfield 18, 3) := by decide +kernel
theorem dX8_init_25 : decode cX8_init 25 = .ok (.return_, 1) := by decide +kernel
theorem dX8_size_0 : decode cX8_size 0 = .ok (.aload_n 0, 1) := by decide +kernel
theorem dX8_size_1 : decode cX8_size 1 = .ok (.getfield 18, 3) := by decide +kernel
theorem dX8_size_4 : decode cX8_size 4 = .ok (.ireturn, 1) := by decide +kernel
theorem dX8_has_0 : decode cX8_has 0 = .ok (.iload_n 1, 1) := by decide +kernel
theorem dX8_has_1 : decode cX8_has 1 = .ok (.aload_n 0, 1) := by decide +kernel
theorem dX8_has_2 : decode cX8_has 2 = .ok (.getfield 18, 3) := by decide +kernel
theorem dX8_has_5 : decode cX8_has 5 = .ok (.invokestatic 22, 3) := by decide +kernel
theorem dX8_has_8 : decode cX8_has 8 = .ok (.ireturn, 1) := by decide +kernel
theorem dX8_kind_0 : decode cX8_kind 0 = .ok (.aload_n 0, 1) := by decide +kernel
theorem dX8_kind_1 : decode cX8_kind 1 = .ok (.getfield 11, 3) := by decide +kernel
theorem dX8_kind_4 : decode cX8_kind 4 = .ok (.iload_n 1, 1) := by decide +kernel
theorem dX8_kind_5 : decode cX8_kind 5 = .ok (.bipush 7, 2) := by decide +kernel
theorem dX8_kind_7 : decode cX8_kind 7 = .ok (.imul, 1) := by decide +kernel
theorem dX8_kind_8 : decode cX8_kind 8 = .ok (.invokestatic 26, 3) := by decide +kernel
theorem dX8_kind_11 : decode cX8_kind 11 = .ok (.ireturn, 1) := by decide +kernel
theorem dX8_number_0 : decode cX8_number 0 = .ok (.aload_n 0, 1) := by decide +kernel
theorem dX8_number_1 : decode cX8_number 1 = .ok (.getfield 11, 3) := by decide +kernel
theorem dX8_number_4 : decode cX8_number 4 = .ok (.iload_n 1, 1) := by decide +kernel
theorem dX8_number_5 : decode cX8_number 5 = .ok (.bipush 7, 2) := by decide +kernel
theorem dX8_number_7 : decode cX8_number 7 = .ok (.imul, 1) := by decide +kernel
theorem dX8_number_8 : decode cX8_number 8 = .ok (.iconst 1, 1) := by decide +kernel
theorem dX8_number_9 : decode cX8_number 9 = .ok (.iadd, 1) := by decide +kernel
theorem dX8_number_10 : decode cX8_number 10 = .ok (.iload_n 2, 1) := by decide +kernel
theorem dX8_number_11 : decode cX8_number 11 = .ok (.iadd, 1) := by decide +kernel
theorem dX8_number_12 : decode cX8_number 12 = .ok (.invokestatic 26, 3) := by decide +kernel
theorem dX8_number_15 : decode cX8_number 15 = .ok (.ireturn, 1) := by decide +kernel
theorem dX8_setNumber_0 : decode cX8_setNumber 0 = .ok (.aload_n 0, 1) := by decide +kernel
theorem dX8_setNumber_1 : decode cX8_setNumber 1 = .ok (.getfield 11, 3) := by decide +kernel
theorem dX8_setNumber_4 : decode cX8_setNumber 4 = .ok (.iload_n 1, 1) := by decide +kernel
theorem dX8_setNumber_5 : decode cX8_setNumber 5 = .ok (.bipush 7, 2) := by decide +kernel
theorem dX8_setNumber_7 : decode cX8_setNumber 7 = .ok (.imul, 1) := by decide +kernel
theorem dX8_setNumber_8 : decode cX8_setNumber 8 = .ok (.iconst 1, 1) := by decide +kernel
theorem dX8_setNumber_9 : decode cX8_setNumber 9 = .ok (.iadd, 1) := by decide +kernel
theorem dX8_setNumber_10 : decode cX8_setNumber 10 = .ok (.iload_n 2, 1) := by decide +kernel
theorem dX8_setNumber_11 : decode cX8_setNumber 11 = .ok (.iadd, 1) := by decide +kernel
theorem dX8_setNumber_12 : decode cX8_setNumber 12 = .ok (.iload_n 3, 1) := by decide +kernel
theorem dX8_setNumber_13 : decode cX8_setNumber 13 = .ok (.invokestatic 30, 3) := by decide +kernel
theorem dX8_setNumber_16 : decode cX8_setNumber 16 = .ok (.return_, 1) := by decide +kernel
theorem dX8_isLoose_0 : decode cX8_isLoose 0 = .ok (.aload_n 0, 1) := by decide +kernel
theorem dX8_isLoose_1 : decode cX8_isLoose 1 = .ok (.getfield 11, 3) := by decide +kernel
theorem dX8_isLoose_4 : decode cX8_isLoose 4 = .ok (.iload_n 1, 1) := by decide +kernel
theorem dX8_isLoose_5 : decode cX8_isLoose 5 = .ok (.bipush 7, 2) := by decide +kernel
theorem dX8_isLoose_7 : decode cX8_isLoose 7 = .ok (.imul, 1) := by decide +kernel
theorem dX8_isLoose_8 : decode cX8_isLoose 8 = .ok (.bipush 6, 2) := by decide +kernel
theorem dX8_isLoose_10 : decode cX8_isLoose 10 = .ok (.iadd, 1) := by decide +kernel
theorem dX8_isLoose_11 : decode cX8_isLoose 11 = .ok (.invokestatic 26, 3) := by decide +kernel
theorem dX8_isLoose_14 : decode cX8_isLoose 14 = .ok (.ifCond .eq 7, 3) := by decide +kernel
theorem dX8_isLoose_17 : decode cX8_isLoose 17 = .ok (.iconst 1, 1) := by decide +kernel
theorem dX8_isLoose_18 : decode cX8_isLoose 18 = .ok (.goto 4, 3) := by decide +kernel
theorem dX8_isLoose_21 : decode cX8_isLoose 21 = .ok (.iconst 0, 1) := by decide +kernel
theorem dX8_isLoose_22 : decode cX8_isLoose 22 = .ok (.ireturn, 1) := by decide +kernel
theorem dX8_setLoose_0 : decode cX8_setLoose 0 = .ok (.aload_n 0, 1) := by decide +kernel
theorem dX8_setLoose_1 : decode cX8_setLoose 1 = .ok (.getfield 11, 3) := by decide +kernel
theorem dX8_setLoose_4 : decode cX8_setLoose 4 = .ok (.iload_n 1, 1) := by decide +kernel
theorem dX8_setLoose_5 : decode cX8_setLoose 5 = .ok (.bipush 7, 2) := by decide +kernel
theorem dX8_setLoose_7 : decode cX8_setLoose 7 = .ok (.imul, 1) := by decide +kernel
theorem dX8_setLoose_8 : decode cX8_setLoose 8 = .ok (.bipush 6, 2) := by decide +kernel
theorem dX8_setLoose_10 : decode cX8_setLoose 10 = .ok (.iadd, 1) := by decide +kernel
theorem dX8_setLoose_11 : decode cX8_setLoose 11 = .ok (.iload_n 2, 1) := by decide +kernel
theorem dX8_setLoose_12 : decode cX8_setLoose 12 = .ok (.invokestatic 34, 3) := by decide +kernel
theorem dX8_setLoose_15 : decode cX8_setLoose 15 = .ok (.invokestatic 30, 3) := by decide +kernel
theorem dX8_setLoose_18 : decode cX8_setLoose 18 = .ok (.return_, 1) := by decide +kernel
theorem dX8_looseOnes_0 : decode cX8_looseOnes 0 = .ok (.iconst 0, 1) := by decide +kernel
theorem dX8_looseOnes_1 : decode cX8_looseOnes 1 = .ok (.istore_n 1, 1) := by decide +kernel
theorem dX8_looseOnes_2 : decode cX8_looseOnes 2 = .ok (.iconst 0, 1) := by decide +kernel
theorem dX8_looseOnes_3 : decode cX8_looseOnes 3 = .ok (.istore_n 2, 1) := by decide +kernel
theorem dX8_looseOnes_4 : decode cX8_looseOnes 4 = .ok (.iload_n 2, 1) := by decide +kernel
theorem dX8_looseOnes_5 : decode cX8_looseOnes 5 = .ok (.aload_n 0, 1) := by decide +kernel
theorem dX8_looseOnes_6 : decode cX8_looseOnes 6 = .ok (.getfield 18, 3) := by decide +kernel
theorem dX8_looseOnes_9 : decode cX8_looseOnes 9 = .ok (.if_icmp .ge 20, 3) := by decide +kernel
theorem dX8_looseOnes_12 : decode cX8_looseOnes 12 = .ok (.aload_n 0, 1) := by decide +kernel
theorem dX8_looseOnes_13 : decode cX8_looseOnes 13 = .ok (.iload_n 2, 1) := by decide +kernel
theorem dX8_looseOnes_14 : decode cX8_looseOnes 14 = .ok (.invokevirtual 38, 3) := by decide +kernel
theorem dX8_looseOnes_17 : decode cX8_looseOnes 17 = .ok (.ifCond .eq 6, 3) := by decide +kernel
theorem dX8_looseOnes_20 : decode cX8_looseOnes 20 = .ok (.iinc 1 1, 3) := by decide +kernel
theorem dX8_looseOnes_23 : decode cX8_looseOnes 23 = .ok (.iinc 2 1, 3) := by decide +kernel
theorem dX8_looseOnes_26 : decode cX8_looseOnes 26 = .ok (.goto (-22), 3) := by decide +kernel
theorem dX8_looseOnes_29 : decode cX8_looseOnes 29 = .ok (.iload_n 1, 1) := by decide +kernel
theorem dX8_looseOnes_30 : decode cX8_looseOnes 30 = .ok (.ireturn, 1) := by decide +kernel
theorem dX8_add_0 : decode cX8_add 0 = .ok (.aload_n 0, 1) := by decide +kernel
theorem dX8_add_1 : decode cX8_add 1 = .ok (.getfield 18, 3) := by decide +kernel
theorem dX8_add_4 : decode cX8_add 4 = .ok (.bipush 16, 2) := by decide +kernel
theorem dX8_add_6 : decode cX8_add 6 = .ok (.if_icmp .lt 4, 3) := by decide +kernel
theorem dX8_add_9 : decode cX8_add 9 = .ok (.return_, 1) := by decide +kernel
theorem dX8_add_10 : decode cX8_add 10 = .ok (.iload_n 1, 1) := by decide +kernel
theorem dX8_add_11 : decode cX8_add 11 = .ok (.invokestatic 42, 3) := by decide +kernel
theorem dX8_add_14 : decode cX8_add 14 = .ok (.istore 7, 2) := by decide +kernel
theorem dX8_add_16 : decode cX8_add 16 = .ok (.aload_n 0, 1) := by decide +kernel
theorem dX8_add_17 : decode cX8_add 17 = .ok (.getfield 18, 3) := by decide +kernel
theorem dX8_add_20 : decode cX8_add 20 = .ok (.bipush 7, 2) := by decide +kernel
theorem dX8_add_22 : decode cX8_add 22 = .ok (.imul, 1) := by decide +kernel
theorem dX8_add_23 : decode cX8_add 23 = .ok (.istore 8, 2) := by decide +kernel
theorem dX8_add_25 : decode cX8_add 25 = .ok (.aload_n 0, 1) := by decide +kernel
theorem dX8_add_26 : decode cX8_add 26 = .ok (.getfield 11, 3) := by decide +kernel
theorem dX8_add_29 : decode cX8_add 29 = .ok (.iload 8, 2) := by decide +kernel
theorem dX8_add_31 : decode cX8_add 31 = .ok (.iload 8, 2) := by decide +kernel
theorem dX8_add_33 : decode cX8_add 33 = .ok (.bipush 7, 2) := by decide +kernel
theorem dX8_add_35 : decode cX8_add 35 = .ok (.iadd, 1) := by decide +kernel
theorem dX8_add_36 : decode cX8_add 36 = .ok (.iconst 0, 1) := by decide +kernel
theorem dX8_add_37 : decode cX8_add 37 = .ok (.invokestatic 48, 3) := by decide +kernel
theorem dX8_add_40 : decode cX8_add 40 = .ok (.aload_n 0, 1) := by decide +kernel
theorem dX8_add_41 : decode cX8_add 41 = .ok (.getfield 11, 3) := by decide +kernel
theorem dX8_add_44 : decode cX8_add 44 = .ok (.iload 8, 2) := by decide +kernel
theorem dX8_add_46 : decode cX8_add 46 = .ok (.iload_n 1, 1) := by decide +kernel
theorem dX8_add_47 : decode cX8_add 47 = .ok (.invokestatic 30, 3) := by decide +kernel
theorem dX8_add_50 : decode cX8_add 50 = .ok (.iload 7, 2) := by decide +kernel
theorem dX8_add_52 : decode cX8_add 52 = .ok (.ifCond .le 13, 3) := by decide +kernel
theorem dX8_add_55 : decode cX8_add 55 = .ok (.aload_n 0, 1) := by decide +kernel
theorem dX8_add_56 : decode cX8_add 56 = .ok (.aload_n 0, 1) := by decide +kernel
theorem dX8_add_57 : decode cX8_add 57 = .ok (.getfield 18, 3) := by decide +kernel
theorem dX8_add_60 : decode cX8_add 60 = .ok (.iconst 0, 1) := by decide +kernel
theorem dX8_add_61 : decode cX8_add 61 = .ok (.iload_n 2, 1) := by decide +kernel
theorem dX8_add_62 : decode cX8_add 62 = .ok (.invokevirtual 52, 3) := by decide +kernel
theorem dX8_add_65 : decode cX8_add 65 = .ok (.iload 7, 2) := by decide +kernel
theorem dX8_add_67 : decode cX8_add 67 = .ok (.iconst 1, 1) := by decide +kernel
theorem dX8_add_68 : decode cX8_add 68 = .ok (.if_icmp .le 13, 3) := by decide +kernel
theorem dX8_add_71 : decode cX8_add 71 = .ok (.aload_n 0, 1) := by decide +kernel
theorem dX8_add_72 : decode cX8_add 72 = .ok (.aload_n 0, 1) := by decide +kernel
theorem dX8_add_73 : decode cX8_add 73 = .ok (.getfield 18, 3) := by decide +kernel
theorem dX8_add_76 : decode cX8_add 76 = .ok (.iconst 1, 1) := by decide +kernel
theorem dX8_add_77 : decode cX8_add 77 = .ok (.iload_n 3, 1) := by decide +kernel
theorem dX8_add_78 : decode cX8_add 78 = .ok (.invokevirtual 52, 3) := by decide +kernel
theorem dX8_add_81 : decode cX8_add 81 = .ok (.iload 7, 2) := by decide +kernel
theorem dX8_add_83 : decode cX8_add 83 = .ok (.iconst 2, 1) := by decide +kernel
theorem dX8_add_84 : decode cX8_add 84 = .ok (.if_icmp .le 14, 3) := by decide +kernel
theorem dX8_add_87 : decode cX8_add 87 = .ok (.aload_n 0, 1) := by decide +kernel
theorem dX8_add_88 : decode cX8_add 88 = .ok (.aload_n 0, 1) := by decide +kernel
theorem dX8_add_89 : decode cX8_add 89 = .ok (.getfield 18, 3) := by decide +kernel
theorem dX8_add_92 : decode cX8_add 92 = .ok (.iconst 2, 1) := by decide +kernel
theorem dX8_add_93 : decode cX8_add 93 = .ok (.iload 4, 2) := by decide +kernel
theorem dX8_add_95 : decode cX8_add 95 = .ok (.invokevirtual 52, 3) := by decide +kernel
theorem dX8_add_98 : decode cX8_add 98 = .ok (.iload 7, 2) := by decide +kernel
theorem dX8_add_100 : decode cX8_add 100 = .ok (.iconst 3, 1) := by decide +kernel
theorem dX8_add_101 : decode cX8_add 101 = .ok (.if_icmp .le 14, 3) := by decide +kernel
theorem dX8_add_104 : decode cX8_add 104 = .ok (.aload_n 0, 1) := by decide +kernel
theorem dX8_add_105 : decode cX8_add 105 = .ok (.aload_n 0, 1) := by decide +kernel
theorem dX8_add_106 : decode cX8_add 106 = .ok (.getfield 18, 3) := by decide +kernel
theorem dX8_add_109 : decode cX8_add 109 = .ok (.iconst 3, 1) := by decide +kernel
theorem dX8_add_110 : decode cX8_add 110 = .ok (.iload 5, 2) := by decide +kernel
theorem dX8_add_112 : decode cX8_add 112 = .ok (.invokevirtual 52, 3) := by decide +kernel
theorem dX8_add_115 : decode cX8_add 115 = .ok (.iload 7, 2) := by decide +kernel
theorem dX8_add_117 : decode cX8_add 117 = .ok (.iconst 4, 1) := by decide +kernel
theorem dX8_add_118 : decode cX8_add 118 = .ok (.if_icmp .le 14, 3) := by decide +kernel
theorem dX8_add_121 : decode cX8_add 121 = .ok (.aload_n 0, 1) := by decide +kernel
theorem dX8_add_122 : decode cX8_add 122 = .ok (.aload_n 0, 1) := by decide +kernel
theorem dX8_add_123 : decode cX8_add 123 = .ok (.getfield 18, 3) := by decide +kernel
theorem dX8_add_126 : decode cX8_add 126 = .ok (.iconst 4, 1) := by decide +kernel
theorem dX8_add_127 : decode cX8_add 127 = .ok (.iload 6, 2) := by decide +kernel
theorem dX8_add_129 : decode cX8_add 129 = .ok (.invokevirtual 52, 3) := by decide +kernel
theorem dX8_add_132 : decode cX8_add 132 = .ok (.aload_n 0, 1) := by decide +kernel
theorem dX8_add_133 : decode cX8_add 133 = .ok (.dup, 1) := by decide +kernel
theorem dX8_add_134 : decode cX8_add 134 = .ok (.getfield 18, 3) := by decide +kernel
theorem dX8_add_137 : decode cX8_add 137 = .ok (.iconst 1, 1) := by decide +kernel
theorem dX8_add_138 : decode cX8_add 138 = .ok (.iadd, 1) := by decide +kernel
theorem dX8_add_139 : decode cX8_add 139 = .ok (.putfield 18, 3) := by decide +kernel
theorem dX8_add_142 : decode cX8_add 142 = .ok (.return_, 1) := by decide +kernel
theorem dX8_addFrom_0 : decode cX8_addFrom 0 = .ok (.aload_n 1, 1) := by decide +kernel
theorem dX8_addFrom_1 : decode cX8_addFrom 1 = .ok (.ifnull 11, 3) := by decide +kernel
theorem dX8_addFrom_4 : decode cX8_addFrom 4 = .ok (.aload_n 1, 1) := by decide +kernel
theorem dX8_addFrom_5 : decode cX8_addFrom 5 = .ok (.iload_n 2, 1) := by decide +kernel
theorem dX8_addFrom_6 : decode cX8_addFrom 6 = .ok (.invokevirtual 56, 3) := by decide +kernel
theorem dX8_addFrom_9 : decode cX8_addFrom 9 = .ok (.ifCond .ne 4, 3) := by decide +kernel
theorem dX8_addFrom_12 : decode cX8_addFrom 12 = .ok (.return_, 1) := by decide +kernel
theorem dX8_addFrom_13 : decode cX8_addFrom 13 = .ok (.aload_n 0, 1) := by decide +kernel
theorem dX8_addFrom_14 : decode cX8_addFrom 14 = .ok (.aload_n 1, 1) := by decide +kernel
theorem dX8_addFrom_15 : decode cX8_addFrom 15 = .ok (.iload_n 2, 1) := by decide +kernel
theorem dX8_addFrom_16 : decode cX8_addFrom 16 = .ok (.invokevirtual 59, 3) := by decide +kernel
theorem dX8_addFrom_19 : decode cX8_addFrom 19 = .ok (.aload_n 1, 1) := by decide +kernel
theorem dX8_addFrom_20 : decode cX8_addFrom 20 = .ok (.iload_n 2, 1) := by decide +kernel
theorem dX8_addFrom_21 : decode cX8_addFrom 21 = .ok (.iconst 0, 1) := by decide +kernel
theorem dX8_addFrom_22 : decode cX8_addFrom 22 = .ok (.invokevirtual 62, 3) := by decide +kernel
theorem dX8_addFrom_25 : decode cX8_addFrom 25 = .ok (.aload_n 1, 1) := by decide +kernel
theorem dX8_addFrom_26 : decode cX8_addFrom 26 = .ok (.iload_n 2, 1) := by decide +kernel
theorem dX8_addFrom_27 : decode cX8_addFrom 27 = .ok (.iconst 1, 1) := by decide +kernel
theorem dX8_addFrom_28 : decode cX8_addFrom 28 = .ok (.invokevirtual 62, 3) := by decide +kernel
theorem dX8_addFrom_31 : decode cX8_addFrom 31 = .ok (.aload_n 1, 1) := by decide +kernel
theorem dX8_addFrom_32 : decode cX8_addFrom 32 = .ok (.iload_n 2, 1) := by decide +kernel
theorem dX8_addFrom_33 : decode cX8_addFrom 33 = .ok (.iconst 2, 1) := by decide +kernel
theorem dX8_addFrom_34 : decode cX8_addFrom 34 = .ok (.invokevirtual 62, 3) := by decide +kernel
theorem dX8_addFrom_37 : decode cX8_addFrom 37 = .ok (.aload_n 1, 1) := by decide +kernel
theorem dX8_addFrom_38 : decode cX8_addFrom 38 = .ok (.iload_n 2, 1) := by decide +kernel
theorem dX8_addFrom_39 : decode cX8_addFrom 39 = .ok (.iconst 3, 1) := by decide +kernel
theorem dX8_addFrom_40 : decode cX8_addFrom 40 = .ok (.invokevirtual 62, 3) := by decide +kernel
theorem dX8_addFrom_43 : decode cX8_addFrom 43 = .ok (.aload_n 1, 1) := by decide +kernel
theorem dX8_addFrom_44 : decode cX8_addFrom 44 = .ok (.iload_n 2, 1) := by decide +kernel
theorem dX8_addFrom_45 : decode cX8_addFrom 45 = .ok (.iconst 4, 1) := by decide +kernel
theorem dX8_addFrom_46 : decode cX8_addFrom 46 = .ok (.invokevirtual 62, 3) := by decide +kernel
theorem dX8_addFrom_49 : decode cX8_addFrom 49 = .ok (.invokevirtual 66, 3) := by decide +kernel
theorem dX8_addFrom_52 : decode cX8_addFrom 52 = .ok (.return_, 1) := by decide +kernel
theorem dX8_become_0 : decode cX8_become 0 = .ok (.aload_n 1, 1) := by decide +kernel
theorem dX8_become_1 : decode cX8_become 1 = .ok (.ifnonnull 4, 3) := by decide +kernel
theorem dX8_become_4 : decode cX8_become 4 = .ok (.return_, 1) := by decide +kernel
theorem dX8_become_5 : decode cX8_become 5 = .ok (.aload_n 1, 1) := by decide +kernel
theorem dX8_become_6 : decode cX8_become 6 = .ok (.getfield 11, 3) := by decide +kernel
theorem dX8_become_9 : decode cX8_become 9 = .ok (.iconst 0, 1) := by decide +kernel
theorem dX8_become_10 : decode cX8_become 10 = .ok (.aload_n 0, 1) := by decide +kernel
theorem dX8_become_11 : decode cX8_become 11 = .ok (.getfield 11, 3) := by decide +kernel
theorem dX8_become_14 : decode cX8_become 14 = .ok (.iconst 0, 1) := by decide +kernel
theorem dX8_become_15 : decode cX8_become 15 = .ok (.aload_n 0, 1) := by decide +kernel
theorem dX8_become_16 : decode cX8_become 16 = .ok (.getfield 11, 3) := by decide +kernel
theorem dX8_become_19 : decode cX8_become 19 = .ok (.arraylength, 1) := by decide +kernel
theorem dX8_become_20 : decode cX8_become 20 = .ok (.invokestatic 70, 3) := by decide +kernel
theorem dX8_become_23 : decode cX8_become 23 = .ok (.aload_n 0, 1) := by decide +kernel
theorem dX8_become_24 : decode cX8_become 24 = .ok (.aload_n 1, 1) := by decide +kernel
theorem dX8_become_25 : decode cX8_become 25 = .ok (.getfield 18, 3) := by decide +kernel
theorem dX8_become_28 : decode cX8_become 28 = .ok (.putfield 18, 3) := by decide +kernel
theorem dX8_become_31 : decode cX8_become 31 = .ok (.return_, 1) := by decide +kernel
theorem dX8_exchange_0 : decode cX8_exchange 0 = .ok (.aload_n 0, 1) := by decide +kernel
theorem dX8_exchange_1 : decode cX8_exchange 1 = .ok (.getfield 11, 3) := by decide +kernel
theorem dX8_exchange_4 : decode cX8_exchange 4 = .ok (.iload_n 1, 1) := by decide +kernel
theorem dX8_exchange_5 : decode cX8_exchange 5 = .ok (.bipush 7, 2) := by decide +kernel
theorem dX8_exchange_7 : decode cX8_exchange 7 = .ok (.imul, 1) := by decide +kernel
theorem dX8_exchange_8 : decode cX8_exchange 8 = .ok (.aload_n 0, 1) := by decide +kernel
theorem dX8_exchange_9 : decode cX8_exchange 9 = .ok (.getfield 15, 3) := by decide +kernel
theorem dX8_exchange_12 : decode cX8_exchange 12 = .ok (.iconst 0, 1) := by decide +kernel
theorem dX8_exchange_13 : decode cX8_exchange 13 = .ok (.bipush 7, 2) := by decide +kernel
theorem dX8_exchange_15 : decode cX8_exchange 15 = .ok (.invokestatic 70, 3) := by decide +kernel
theorem dX8_exchange_18 : decode cX8_exchange 18 = .ok (.aload_n 0, 1) := by decide +kernel
theorem dX8_exchange_19 : decode cX8_exchange 19 = .ok (.getfield 11, 3) := by decide +kernel
theorem dX8_exchange_22 : decode cX8_exchange 22 = .ok (.iload_n 1, 1) := by decide +kernel
theorem dX8_exchange_23 : decode cX8_exchange 23 = .ok (.iconst 1, 1) := by decide +kernel
theorem dX8_exchange_24 : decode cX8_exchange 24 = .ok (.iadd, 1) := by decide +kernel
theorem dX8_exchange_25 : decode cX8_exchange 25 = .ok (.bipush 7, 2) := by decide +kernel
theorem dX8_exchange_27 : decode cX8_exchange 27 = .ok (.imul, 1) := by decide +kernel
theorem dX8_exchange_28 : decode cX8_exchange 28 = .ok (.aload_n 0, 1) := by decide +kernel
theorem dX8_exchange_29 : decode cX8_exchange 29 = .ok (.getfield 11, 3) := by decide +kernel
theorem dX8_exchange_32 : decode cX8_exchange 32 = .ok (.iload_n 1, 1) := by decide +kernel
theorem dX8_exchange_33 : decode cX8_exchange 33 = .ok (.bipush 7, 2) := by decide +kernel
theorem dX8_exchange_35 : decode cX8_exchange 35 = .ok (.imul, 1) := by decide +kernel
theorem dX8_exchange_36 : decode cX8_exchange 36 = .ok (.bipush 7, 2) := by decide +kernel
theorem dX8_exchange_38 : decode cX8_exchange 38 = .ok (.invokestatic 70, 3) := by decide +kernel
theorem dX8_exchange_41 : decode cX8_exchange 41 = .ok (.aload_n 0, 1) := by decide +kernel
theorem dX8_exchange_42 : decode cX8_exchange 42 = .ok (.getfield 15, 3) := by decide +kernel
theorem dX8_exchange_45 : decode cX8_exchange 45 = .ok (.iconst 0, 1) := by decide +kernel
theorem dX8_exchange_46 : decode cX8_exchange 46 = .ok (.aload_n 0, 1) := by decide +kernel
theorem dX8_exchange_47 : decode cX8_exchange 47 = .ok (.getfield 11, 3) := by decide +kernel
theorem dX8_exchange_50 : decode cX8_exchange 50 = .ok (.iload_n 1, 1) := by decide +kernel
theorem dX8_exchange_51 : decode cX8_exchange 51 = .ok (.iconst 1, 1) := by decide +kernel
theorem dX8_exchange_52 : decode cX8_exchange 52 = .ok (.iadd, 1) := by decide +kernel
theorem dX8_exchange_53 : decode cX8_exchange 53 = .ok (.bipush 7, 2) := by decide +kernel
theorem dX8_exchange_55 : decode cX8_exchange 55 = .ok (.imul, 1) := by decide +kernel
theorem dX8_exchange_56 : decode cX8_exchange 56 = .ok (.bipush 7, 2) := by decide +kernel
theorem dX8_exchange_58 : decode cX8_exchange 58 = .ok (.invokestatic 70, 3) := by decide +kernel
theorem dX8_exchange_61 : decode cX8_exchange 61 = .ok (.return_, 1) := by decide +kernel
theorem dX8_shorten_0 : decode cX8_shorten 0 = .ok (.aload_n 0, 1) := by decide +kernel
theorem dX8_shorten_1 : decode cX8_shorten 1 = .ok (.getfield 18, 3) := by decide +kernel
theorem dX8_shorten_4 : decode cX8_shorten 4 = .ok (.ifCond .le 13, 3) := by decide +kernel
theorem dX8_shorten_7 : decode cX8_shorten 7 = .ok (.aload_n 0, 1) := by decide +kernel
theorem dX8_shorten_8 : decode cX8_shorten 8 = .ok (.dup, 1) := by decide +kernel
theorem dX8_shorten_9 : decode cX8_shorten 9 = .ok (.getfield 18, 3) := by decide +kernel
theorem dX8_shorten_12 : decode cX8_shorten 12 = .ok (.iconst 1, 1) := by decide +kernel
theorem dX8_shorten_13 : decode cX8_shorten 13 = .ok (.isub, 1) := by decide +kernel
theorem dX8_shorten_14 : decode cX8_shorten 14 = .ok (.putfield 18, 3) := by decide +kernel
theorem dX8_shorten_17 : decode cX8_shorten 17 = .ok (.return_, 1) := by decide +kernel
theorem dX8_empty_0 : decode cX8_empty 0 = .ok (.aload_n 0, 1) := by decide +kernel
theorem dX8_empty_1 : decode cX8_empty 1 = .ok (.iconst 0, 1) := by decide +kernel
theorem dX8_empty_2 : decode cX8_empty 2 = .ok (.putfield 18, 3) := by decide +kernel
theorem dX8_empty_5 : decode cX8_empty 5 = .ok (.return_, 1) := by decide +kernel
theorem dX8_birthOf_0 : decode cX8_birthOf 0 = .ok (.iconst 0, 1) := by decide +kernel
theorem dX8_birthOf_1 : decode cX8_birthOf 1 = .ok (.istore_n 2, 1) := by decide +kernel
theorem dX8_birthOf_2 : decode cX8_birthOf 2 = .ok (.iload_n 2, 1) := by decide +kernel
theorem dX8_birthOf_3 : decode cX8_birthOf 3 = .ok (.aload_n 0, 1) := by decide +kernel
theorem dX8_birthOf_4 : decode cX8_birthOf 4 = .ok (.getfield 18, 3) := by decide +kernel
theorem dX8_birthOf_7 : decode cX8_birthOf 7 = .ok (.if_icmp .ge 36, 3) := by decide +kernel
theorem dX8_birthOf_10 : decode cX8_birthOf 10 = .ok (.aload_n 0, 1) := by decide +kernel
theorem dX8_birthOf_11 : decode cX8_birthOf 11 = .ok (.iload_n 2, 1) := by decide +kernel
theorem dX8_birthOf_12 : decode cX8_birthOf 12 = .ok (.invokevirtual 59, 3) := by decide +kernel
theorem dX8_birthOf_15 : decode cX8_birthOf 15 = .ok (.istore_n 3, 1) := by decide +kernel
theorem dX8_birthOf_16 : decode cX8_birthOf 16 = .ok (.iload_n 3, 1) := by decide +kernel
theorem dX8_birthOf_17 : decode cX8_birthOf 17 = .ok (.ifCond .eq 8, 3) := by decide +kernel
theorem dX8_birthOf_20 : decode cX8_birthOf 20 = .ok (.iload_n 3, 1) := by decide +kernel
theorem dX8_birthOf_21 : decode cX8_birthOf 21 = .ok (.iconst 5, 1) := by decide +kernel
theorem dX8_birthOf_22 : decode cX8_birthOf 22 = .ok (.if_icmp .ne 15, 3) := by decide +kernel
theorem dX8_birthOf_25 : decode cX8_birthOf 25 = .ok (.aload_n 0, 1) := by decide +kernel
theorem dX8_birthOf_26 : decode cX8_birthOf 26 = .ok (.iload_n 2, 1) := by decide +kernel
theorem dX8_birthOf_27 : decode cX8_birthOf 27 = .ok (.iconst 0, 1) := by decide +kernel
theorem dX8_birthOf_28 : decode cX8_birthOf 28 = .ok (.invokevirtual 62, 3) := by decide +kernel
theorem dX8_birthOf_31 : decode cX8_birthOf 31 = .ok (.iload_n 1, 1) := by decide +kernel
theorem dX8_birthOf_32 : decode cX8_birthOf 32 = .ok (.if_icmp .ne 5, 3) := by decide +kernel
theorem dX8_birthOf_35 : decode cX8_birthOf 35 = .ok (.iload_n 2, 1) := by decide +kernel
theorem dX8_birthOf_36 : decode cX8_birthOf 36 = .ok (.ireturn, 1) := by decide +kernel
theorem dX8_birthOf_37 : decode cX8_birthOf 37 = .ok (.iinc 2 1, 3) := by decide +kernel
theorem dX8_birthOf_40 : decode cX8_birthOf 40 = .ok (.goto (-38), 3) := by decide +kernel
theorem dX8_birthOf_43 : decode cX8_birthOf 43 = .ok (.iconst (-1), 1) := by decide +kernel
theorem dX8_birthOf_44 : decode cX8_birthOf 44 = .ok (.ireturn, 1) := by decide +kernel
theorem dX8_alikeAhead_0 : decode cX8_alikeAhead 0 = .ok (.aload_n 1, 1) := by decide +kernel
theorem dX8_alikeAhead_1 : decode cX8_alikeAhead 1 = .ok (.ifnonnull 5, 3) := by decide +kernel
theorem dX8_alikeAhead_4 : decode cX8_alikeAhead 4 = .ok (.iconst 0, 1) := by decide +kernel
theorem dX8_alikeAhead_5 : decode cX8_alikeAhead 5 = .ok (.ireturn, 1) := by decide +kernel
theorem dX8_alikeAhead_6 : decode cX8_alikeAhead 6 = .ok (.iconst 0, 1) := by decide +kernel
theorem dX8_alikeAhead_7 : decode cX8_alikeAhead 7 = .ok (.istore_n 2, 1) := by decide +kernel
theorem dX8_alikeAhead_8 : decode cX8_alikeAhead 8 = .ok (.iload_n 2, 1) := by decide +kernel
theorem dX8_alikeAhead_9 : decode cX8_alikeAhead 9 = .ok (.aload_n 0, 1) := by decide +kernel
theorem dX8_alikeAhead_10 : decode cX8_alikeAhead 10 = .ok (.getfield 18, 3) := by decide +kernel
theorem dX8_alikeAhead_13 : decode cX8_alikeAhead 13 = .ok (.if_icmp .ge 26, 3) := by decide +kernel
theorem dX8_alikeAhead_16 : decode cX8_alikeAhead 16 = .ok (.iload_n 2, 1) := by decide +kernel
theorem dX8_alikeAhead_17 : decode cX8_alikeAhead 17 = .ok (.aload_n 1, 1) := by decide +kernel
theorem dX8_alikeAhead_18 : decode cX8_alikeAhead 18 = .ok (.getfield 18, 3) := by decide +kernel
theorem dX8_alikeAhead_21 : decode cX8_alikeAhead 21 = .ok (.if_icmp .ge 18, 3) := by decide +kernel
theorem dX8_alikeAhead_24 : decode cX8_alikeAhead 24 = .ok (.aload_n 0, 1) := by decide +kernel
theorem dX8_alikeAhead_25 : decode cX8_alikeAhead 25 = .ok (.aload_n 1, 1) := by decide +kernel
theorem dX8_alikeAhead_26 : decode cX8_alikeAhead 26 = .ok (.iload_n 2, 1) := by decide +kernel
theorem dX8_alikeAhead_27 : decode cX8_alikeAhead 27 = .ok (.invokevirtual 74, 3) := by decide +kernel
theorem dX8_alikeAhead_30 : decode cX8_alikeAhead 30 = .ok (.ifCond .eq 9, 3) := by decide +kernel
theorem dX8_alikeAhead_33 : decode cX8_alikeAhead 33 = .ok (.iinc 2 1, 3) := by decide +kernel
theorem dX8_alikeAhead_36 : decode cX8_alikeAhead 36 = .ok (.goto (-28), 3) := by decide +kernel
theorem dX8_alikeAhead_39 : decode cX8_alikeAhead 39 = .ok (.iload_n 2, 1) := by decide +kernel
theorem dX8_alikeAhead_40 : decode cX8_alikeAhead 40 = .ok (.ireturn, 1) := by decide +kernel
theorem dX8_isAlike_0 : decode cX8_isAlike 0 = .ok (.iconst 0, 1) := by decide +kernel
theorem dX8_isAlike_1 : decode cX8_isAlike 1 = .ok (.istore_n 3, 1) := by decide +kernel
theorem dX8_isAlike_2 : decode cX8_isAlike 2 = .ok (.iload_n 3, 1) := by decide +kernel
theorem dX8_isAlike_3 : decode cX8_isAlike 3 = .ok (.bipush 6, 2) := by decide +kernel
theorem dX8_isAlike_5 : decode cX8_isAlike 5 = .ok (.if_icmp .ge 40, 3) := by decide +kernel
theorem dX8_isAlike_8 : decode cX8_isAlike 8 = .ok (.aload_n 0, 1) := by decide +kernel
theorem dX8_isAlike_9 : decode cX8_isAlike 9 = .ok (.getfield 11, 3) := by decide +kernel
theorem dX8_isAlike_12 : decode cX8_isAlike 12 = .ok (.iload_n 2, 1) := by decide +kernel
theorem dX8_isAlike_13 : decode cX8_isAlike 13 = .ok (.bipush 7, 2) := by decide +kernel
theorem dX8_isAlike_15 : decode cX8_isAlike 15 = .ok (.imul, 1) := by decide +kernel
theorem dX8_isAlike_16 : decode cX8_isAlike 16 = .ok (.iload_n 3, 1) := by decide +kernel
theorem dX8_isAlike_17 : decode cX8_isAlike 17 = .ok (.iadd, 1) := by decide +kernel
theorem dX8_isAlike_18 : decode cX8_isAlike 18 = .ok (.invokestatic 26, 3) := by decide +kernel
theorem dX8_isAlike_21 : decode cX8_isAlike 21 = .ok (.aload_n 1, 1) := by decide +kernel
theorem dX8_isAlike_22 : decode cX8_isAlike 22 = .ok (.getfield 11, 3) := by decide +kernel
theorem dX8_isAlike_25 : decode cX8_isAlike 25 = .ok (.iload_n 2, 1) := by decide +kernel
theorem dX8_isAlike_26 : decode cX8_isAlike 26 = .ok (.bipush 7, 2) := by decide +kernel
theorem dX8_isAlike_28 : decode cX8_isAlike 28 = .ok (.imul, 1) := by decide +kernel
theorem dX8_isAlike_29 : decode cX8_isAlike 29 = .ok (.iload_n 3, 1) := by decide +kernel
theorem dX8_isAlike_30 : decode cX8_isAlike 30 = .ok (.iadd, 1) := by decide +kernel
theorem dX8_isAlike_31 : decode cX8_isAlike 31 = .ok (.invokestatic 26, 3) := by decide +kernel
theorem dX8_isAlike_34 : decode cX8_isAlike 34 = .ok (.if_icmp .eq 5, 3) := by decide +kernel
theorem dX8_isAlike_37 : decode cX8_isAlike 37 = .ok (.iconst 0, 1) := by decide +kernel
theorem dX8_isAlike_38 : decode cX8_isAlike 38 = .ok (.ireturn, 1) := by decide +kernel
theorem dX8_isAlike_39 : decode cX8_isAlike 39 = .ok (.iinc 3 1, 3) := by decide +kernel
theorem dX8_isAlike_42 : decode cX8_isAlike 42 = .ok (.goto (-40), 3) := by decide +kernel
theorem dX8_isAlike_45 : decode cX8_isAlike 45 = .ok (.iconst 1, 1) := by decide +kernel
theorem dX8_isAlike_46 : decode cX8_isAlike 46 = .ok (.ireturn, 1) := by decide +kernel
theorem dX9_init_0 : decode cX9_init 0 = .ok (.aload_n 0, 1) := by decide +kernel
theorem dX9_init_1 : decode cX9_init 1 = .ok (.invokespecial 3, 3) := by decide +kernel
theorem dX9_init_4 : decode cX9_init 4 = .ok (.aload_n 0, 1) := by decide +kernel
theorem dX9_init_5 : decode cX9_init 5 = .ok (.bipush 65, 2) := by decide +kernel
theorem dX9_init_7 : decode cX9_init 7 = .ok (.newarray .int, 2) := by decide +kernel
theorem dX9_init_9 : decode cX9_init 9 = .ok (.putfield 9, 3) := by decide +kernel
theorem dX9_init_12 : decode cX9_init 12 = .ok (.aload_n 0, 1) := by decide +kernel
theorem dX9_init_13 : decode cX9_init 13 = .ok (.bipush 65, 2) := by decide +kernel
theorem dX9_init_15 : decode cX9_init 15 = .ok (.newarray .int, 2) := by decide +kernel
theorem dX9_init_17 : decode cX9_init 17 = .ok (.putfield 15, 3) := by decide +kernel
theorem dX9_init_20 : decode cX9_init 20 = .ok (.aload_n 0, 1) := by decide +kernel
theorem dX9_init_21 : decode cX9_init 21 = .ok (.bipush 65, 2) := by decide +kernel
theorem dX9_init_23 : decode cX9_init 23 = .ok (.newarray .int, 2) := by decide +kernel
theorem dX9_init_25 : decode cX9_init 25 = .ok (.putfield 18, 3) := by decide +kernel
theorem dX9_init_28 : decode cX9_init 28 = .ok (.aload_n 0, 1) := by decide +kernel
theorem dX9_init_29 : decode cX9_init 29 = .ok (.bipush 65, 2) := by decide +kernel
theorem dX9_init_31 : decode cX9_init 31 = .ok (.newarray .int, 2) := by decide +kernel
theorem dX9_init_33 : decode cX9_init 33 = .ok (.putfield 21, 3) := by decide +kernel
theorem dX9_init_36 : decode cX9_init 36 = .ok (.aload_n 0, 1) := by decide +kernel
theorem dX9_init_37 : decode cX9_init 37 = .ok (.bipush 65, 2) := by decide +kernel
theorem dX9_init_39 : decode cX9_init 39 = .ok (.newarray .int, 2) := by decide +kernel
theorem dX9_init_41 : decode cX9_init 41 = .ok (.putfield 24, 3) := by decide +kernel
theorem dX9_init_44 : decode cX9_init 44 = .ok (.aload_n 0, 1) := by decide +kernel
theorem dX9_init_45 : decode cX9_init 45 = .ok (.bipush 65, 2) := by decide +kernel
theorem dX9_init_47 : decode cX9_init 47 = .ok (.newarray .int, 2) := by decide +kernel
theorem dX9_init_49 : decode cX9_init 49 = .ok (.putfield 27, 3) := by decide +kernel
theorem dX9_init_52 : decode cX9_init 52 = .ok (.aload_n 0, 1) := by decide +kernel
theorem dX9_init_53 : decode cX9_init 53 = .ok (.new 30, 3) := by decide +kernel
theorem dX9_init_56 : decode cX9_init 56 = .ok (.dup, 1) := by decide +kernel
theorem dX9_init_57 : decode cX9_init 57 = .ok (.bipush 65, 2) := by decide +kernel
theorem dX9_init_59 : decode cX9_init 59 = .ok (.invokespecial 32, 3) := by decide +kernel
theorem dX9_init_62 : decode cX9_init 62 = .ok (.putfield 35, 3) := by decide +kernel
theorem dX9_init_65 : decode cX9_init 65 = .ok (.aload_n 0, 1) := by decide +kernel
theorem dX9_init_66 : decode cX9_init 66 = .ok (.new 30, 3) := by decide +kernel
theorem dX9_init_69 : decode cX9_init 69 = .ok (.dup, 1) := by decide +kernel
theorem dX9_init_70 : decode cX9_init 70 = .ok (.bipush 65, 2) := by decide +kernel
theorem dX9_init_72 : decode cX9_init 72 = .ok (.invokespecial 32, 3) := by decide +kernel
theorem dX9_init_75 : decode cX9_init 75 = .ok (.putfield 39, 3) := by decide +kernel
theorem dX9_init_78 : decode cX9_init 78 = .ok (.aload_n 0, 1) := by decide +kernel
theorem dX9_init_79 : decode cX9_init 79 = .ok (.iconst 0, 1) := by decide +kernel
theorem dX9_init_80 : decode cX9_init 80 = .ok (.putfield 42, 3) := by decide +kernel
theorem dX9_init_83 : decode cX9_init 83 = .ok (.aload_n 0, 1) := by decide +kernel
theorem dX9_init_84 : decode cX9_init 84 = .ok (.iconst 0, 1) := by decide +kernel
theorem dX9_init_85 : decode cX9_init 85 = .ok (.putfield 46, 3) := by decide +kernel
theorem dX9_init_88 : decode cX9_init 88 = .ok (.aload_n 0, 1) := by decide +kernel
theorem dX9_init_89 : decode cX9_init 89 = .ok (.iconst (-1), 1) := by decide +kernel
theorem dX9_init_90 : decode cX9_init 90 = .ok (.putfield 49, 3) := by decide +kernel
theorem dX9_init_93 : decode cX9_init 93 = .ok (.aload_n 0, 1) := by decide +kernel
theorem dX9_init_94 : decode cX9_init 94 = .ok (.iconst 0, 1) := by decide +kernel
theorem dX9_init_95 : decode cX9_init 95 = .ok (.putfield 52, 3) := by decide +kernel
theorem dX9_init_98 : decode cX9_init 98 = .ok (.aload_n 0, 1) := by decide +kernel
theorem dX9_init_99 : decode cX9_init 99 = .ok (.iconst 0, 1) := by decide +kernel
theorem dX9_init_100 : decode cX9_init 100 = .ok (.putfield 55, 3) := by decide +kernel
theorem dX9_init_103 : decode cX9_init 103 = .ok (.return_, 1) := by decide +kernel
theorem dX9_doubt_0 : decode cX9_doubt 0 = .ok (.aload_n 0, 1) := by decide +kernel
theorem dX9_doubt_1 : decode cX9_doubt 1 = .ok (.iconst 0, 1) := by decide +kernel
theorem dX9_doubt_2 : decode cX9_doubt 2 = .ok (.putfield 55, 3) := by decide +kernel
theorem dX9_doubt_5 : decode cX9_doubt 5 = .ok (.return_, 1) := by decide +kernel
theorem dX9_round_0 : decode cX9_round 0 = .ok (.aload_n 0, 1) := by decide +kernel
theorem dX9_round_1 : decode cX9_round 1 = .ok (.getfield 52, 3) := by decide +kernel
theorem dX9_round_4 : decode cX9_round 4 = .ok (.ireturn, 1) := by decide +kernel
theorem dX9_fits_0 : decode cX9_fits 0 = .ok (.aload_n 0, 1) := by decide +kernel
theorem dX9_fits_1 : decode cX9_fits 1 = .ok (.getfield 46, 3) := by decide +kernel
theorem dX9_fits_4 : decode cX9_fits 4 = .ok (.ireturn, 1) := by decide +kernel
theorem dX9_fitting_0 : decode cX9_fitting 0 = .ok (.aload_n 0, 1) := by decide +kernel
theorem dX9_fitting_1 : decode cX9_fitting 1 = .ok (.getfield 27, 3) := by decide +kernel
theorem dX9_fitting_4 : decode cX9_fitting 4 = .ok (.iload_n 1, 1) := by decide +kernel
theorem dX9_fitting_5 : decode cX9_fitting 5 = .ok (.invokestatic 59, 3) := by decide +kernel
theorem dX9_fitting_8 : decode cX9_fitting 8 = .ok (.ireturn, 1) := by decide +kernel
theorem dX9_length_0 : decode cX9_length 0 = .ok (.aload_n 0, 1) := by decide +kernel
theorem dX9_length_1 : decode cX9_length 1 = .ok (.getfield 21, 3) := by decide +kernel
theorem dX9_length_4 : decode cX9_length 4 = .ok (.iload_n 1, 1) := by decide +kernel
theorem dX9_length_5 : decode cX9_length 5 = .ok (.invokestatic 59, 3) := by decide +kernel
theorem dX9_length_8 : decode cX9_length 8 = .ok (.ireturn, 1) := by decide +kernel
theorem dX9_part_0 : decode cX9_part 0 = .ok (.iload_n 2, 1) := by decide +kernel
theorem dX9_part_1 : decode cX9_part 1 = .ok (.aload_n 0, 1) := by decide +kernel
theorem dX9_part_2 : decode cX9_part 2 = .ok (.iload_n 1, 1) := by decide +kernel
theorem dX9_part_3 : decode cX9_part 3 = .ok (.invokevirtual 63, 3) := by decide +kernel
theorem dX9_part_6 : decode cX9_part 6 = .ok (.invokestatic 67, 3) := by decide +kernel
theorem dX9_part_9 : decode cX9_part 9 = .ok (.ifCond .ne 5, 3) := by decide +kernel
theorem dX9_part_12 : decode cX9_part 12 = .ok (.iconst (-1), 1) := by decide +kernel
theorem dX9_part_13 : decode cX9_part 13 = .ok (.ireturn, 1) := by decide +kernel
theorem dX9_part_14 : decode cX9_part 14 = .ok (.iload_n 1, 1) := by decide +kernel
theorem dX9_part_15 : decode cX9_part 15 = .ok (.istore_n 3, 1) := by decide +kernel
theorem dX9_part_16 : decode cX9_part 16 = .ok (.aload_n 0, 1) := by decide +kernel
theorem dX9_part_17 : decode cX9_part 17 = .ok (.iload_n 1, 1) := by decide +kernel
theorem dX9_part_18 : decode cX9_part 18 = .ok (.invokevirtual 63, 3) := by decide +kernel
theorem dX9_part_21 : decode cX9_part 21 = .ok (.iconst 1, 1) := by decide +kernel
theorem dX9_part_22 : decode cX9_part 22 = .ok (.isub, 1) := by decide +kernel
theorem dX9_part_23 : decode cX9_part 23 = .ok (.istore 4, 2) := by decide +kernel
theorem dX9_part_25 : decode cX9_part 25 = .ok (.iload 4, 2) := by decide +kernel
theorem dX9_part_27 : decode cX9_part 27 = .ok (.iload_n 2, 1) := by decide +kernel
theorem dX9_part_28 : decode cX9_part 28 = .ok (.if_icmp .le 18, 3) := by decide +kernel
theorem dX9_part_31 : decode cX9_part 31 = .ok (.aload_n 0, 1) := by decide +kernel
theorem dX9_part_32 : decode cX9_part 32 = .ok (.getfield 9, 3) := by decide +kernel
theorem dX9_part_35 : decode cX9_part 35 = .ok (.iload_n 3, 1) := by decide +kernel
theorem dX9_part_36 : decode cX9_part 36 = .ok (.invokestatic 59, 3) := by decide +kernel
theorem dX9_part_39 : decode cX9_part 39 = .ok (.istore_n 3, 1) := by decide +kernel
theorem dX9_part_40 : decode cX9_part 40 = .ok (.iinc 4 (-1), 3) := by decide +kernel
theorem dX9_part_43 : decode cX9_part 43 = .ok (.goto (-18), 3) := by decide +kernel
theorem dX9_part_46 : decode cX9_part 46 = .ok (.aload_n 0, 1) := by decide +kernel
theorem dX9_part_47 : decode cX9_part 47 = .ok (.getfield 15, 3) := by decide +kernel
theorem dX9_part_50 : decode cX9_part 50 = .ok (.iload_n 3, 1) := by decide +kernel
theorem dX9_part_51 : decode cX9_part 51 = .ok (.invokestatic 59, 3) := by decide +kernel
theorem dX9_part_54 : decode cX9_part 54 = .ok (.ireturn, 1) := by decide +kernel
theorem dX9_know_0 : decode cX9_know 0 = .ok (.aload_n 1, 1) := by decide +kernel
theorem dX9_know_1 : decode cX9_know 1 = .ok (.ifnull 11, 3) := by decide +kernel
theorem dX9_know_4 : decode cX9_know 4 = .ok (.aload_n 2, 1) := by decide +kernel
theorem dX9_know_5 : decode cX9_know 5 = .ok (.ifnull 7, 3) := by decide +kernel
theorem dX9_know_8 : decode cX9_know 8 = .ok (.aload_n 3, 1) := by decide +kernel
theorem dX9_know_9 : decode cX9_know 9 = .ok (.ifnonnull 4, 3) := by decide +kernel
theorem dX9_know_12 : decode cX9_know 12 = .ok (.return_, 1) := by decide +kernel
theorem dX9_know_13 : decode cX9_know 13 = .ok (.aload_n 0, 1) := by decide +kernel
theorem dX9_know_14 : decode cX9_know 14 = .ok (.getfield 55, 3) := by decide +kernel
theorem dX9_know_17 : decode cX9_know 17 = .ok (.ifCond .eq 13, 3) := by decide +kernel
theorem dX9_know_20 : decode cX9_know 20 = .ok (.aload_n 0, 1) := by decide +kernel
theorem dX9_know_21 : decode cX9_know 21 = .ok (.getfield 49, 3) := by decide +kernel
theorem dX9_know_24 : decode cX9_know 24 = .ok (.iload 4, 2) := by decide +kernel
theorem dX9_know_26 : decode cX9_know 26 = .ok (.if_icmp .ne 4, 3) := by decide +kernel
theorem dX9_know_29 : decode cX9_know 29 = .ok (.return_, 1) := by decide +kernel
theorem dX9_know_30 : decode cX9_know 30 = .ok (.aload_n 0, 1) := by decide +kernel
theorem dX9_know_31 : decode cX9_know 31 = .ok (.aload_n 2, 1) := by decide +kernel
theorem dX9_know_32 : decode cX9_know 32 = .ok (.invokevirtual 71, 3) := by decide +kernel
theorem dX9_know_35 : decode cX9_know 35 = .ok (.invokevirtual 76, 3) := by decide +kernel
theorem dX9_know_38 : decode cX9_know 38 = .ok (.aload_n 0, 1) := by decide +kernel
theorem dX9_know_39 : decode cX9_know 39 = .ok (.getfield 24, 3) := by decide +kernel
theorem dX9_know_42 : decode cX9_know 42 = .ok (.iconst 0, 1) := by decide +kernel
theorem dX9_know_43 : decode cX9_know 43 = .ok (.bipush 65, 2) := by decide +kernel
theorem dX9_know_45 : decode cX9_know 45 = .ok (.iconst 0, 1) := by decide +kernel
theorem dX9_know_46 : decode cX9_know 46 = .ok (.invokestatic 79, 3) := by decide +kernel
theorem dX9_know_49 : decode cX9_know 49 = .ok (.iconst 0, 1) := by decide +kernel
theorem dX9_know_50 : decode cX9_know 50 = .ok (.istore 5, 2) := by decide +kernel
theorem dX9_know_52 : decode cX9_know 52 = .ok (.iload 5, 2) := by decide +kernel
theorem dX9_know_54 : decode cX9_know 54 = .ok (.iload 4, 2) := by decide +kernel
theorem dX9_know_56 : decode cX9_know 56 = .ok (.if_icmp .ge 57, 3) := by decide +kernel
theorem dX9_know_59 : decode cX9_know 59 = .ok (.aload_n 0, 1) := by decide +kernel
theorem dX9_know_60 : decode cX9_know 60 = .ok (.aload_n 0, 1) := by decide +kernel
theorem dX9_know_61 : decode cX9_know 61 = .ok (.getfield 35, 3) := by decide +kernel
theorem dX9_know_64 : decode cX9_know 64 = .ok (.aload_n 1, 1) := by decide +kernel
theorem dX9_know_65 : decode cX9_know 65 = .ok (.aload_n 2, 1) := by decide +kernel
theorem dX9_know_66 : decode cX9_know 66 = .ok (.aload_n 3, 1) := by decide +kernel
theorem dX9_know_67 : decode cX9_know 67 = .ok (.iload 5, 2) := by decide +kernel
theorem dX9_know_69 : decode cX9_know 69 = .ok (.invokevirtual 83, 3) := by decide +kernel
theorem dX9_know_72 : decode cX9_know 72 = .ok (.invokevirtual 88, 3) := by decide +kernel
theorem dX9_know_75 : decode cX9_know 75 = .ok (.aload_n 3, 1) := by decide +kernel
theorem dX9_know_76 : decode cX9_know 76 = .ok (.iload 5, 2) := by decide +kernel
theorem dX9_know_78 : decode cX9_know 78 = .ok (.invokevirtual 92, 3) := by decide +kernel
theorem dX9_know_81 : decode cX9_know 81 = .ok (.ifCond .eq 19, 3) := by decide +kernel
theorem dX9_know_84 : decode cX9_know 84 = .ok (.aload_n 0, 1) := by decide +kernel
theorem dX9_know_85 : decode cX9_know 85 = .ok (.aload_n 0, 1) := by decide +kernel
theorem dX9_know_86 : decode cX9_know 86 = .ok (.getfield 39, 3) := by decide +kernel
theorem dX9_know_89 : decode cX9_know 89 = .ok (.aload_n 1, 1) := by decide +kernel
theorem dX9_know_90 : decode cX9_know 90 = .ok (.aload_n 2, 1) := by decide +kernel
theorem dX9_know_91 : decode cX9_know 91 = .ok (.aload_n 3, 1) := by decide +kernel
theorem dX9_know_92 : decode cX9_know 92 = .ok (.iload 5, 2) := by decide +kernel
theorem dX9_know_94 : decode cX9_know 94 = .ok (.invokevirtual 96, 3) := by decide +kernel
theorem dX9_know_97 : decode cX9_know 97 = .ok (.invokevirtual 88, 3) := by decide +kernel
theorem dX9_know_100 : decode cX9_know 100 = .ok (.aload_n 0, 1) := by decide +kernel
theorem dX9_know_101 : decode cX9_know 101 = .ok (.aload_n 3, 1) := by decide +kernel
theorem dX9_know_102 : decode cX9_know 102 = .ok (.iload 5, 2) := by decide +kernel
theorem dX9_know_104 : decode cX9_know 104 = .ok (.invokevirtual 99, 3) := by decide +kernel
theorem dX9_know_107 : decode cX9_know 107 = .ok (.iinc 5 1, 3) := by decide +kernel
theorem dX9_know_110 : decode cX9_know 110 = .ok (.goto (-58), 3) := by decide +kernel
theorem dX9_know_113 : decode cX9_know 113 = .ok (.aload_n 0, 1) := by decide +kernel
theorem dX9_know_114 : decode cX9_know 114 = .ok (.invokevirtual 103, 3) := by decide +kernel
theorem dX9_know_117 : decode cX9_know 117 = .ok (.aload_n 0, 1) := by decide +kernel
theorem dX9_know_118 : decode cX9_know 118 = .ok (.iconst 1, 1) := by decide +kernel
theorem dX9_know_119 : decode cX9_know 119 = .ok (.putfield 55, 3) := by decide +kernel
theorem dX9_know_122 : decode cX9_know 122 = .ok (.aload_n 0, 1) := by decide +kernel
theorem dX9_know_123 : decode cX9_know 123 = .ok (.iload 4, 2) := by decide +kernel
theorem dX9_know_125 : decode cX9_know 125 = .ok (.putfield 49, 3) := by decide +kernel
theorem dX9_know_128 : decode cX9_know 128 = .ok (.aload_n 0, 1) := by decide +kernel
theorem dX9_know_129 : decode cX9_know 129 = .ok (.dup, 1) := by decide +kernel
theorem dX9_know_130 : decode cX9_know 130 = .ok (.getfield 52, 3) := by decide +kernel
theorem dX9_know_133 : decode cX9_know 133 = .ok (.iconst 1, 1) := by decide +kernel
theorem dX9_know_134 : decode cX9_know 134 = .ok (.iadd, 1) := by decide +kernel
theorem dX9_know_135 : decode cX9_know 135 = .ok (.putfield 52, 3) := by decide +kernel
theorem dX9_know_138 : decode cX9_know 138 = .ok (.return_, 1) := by decide +kernel
theorem dX9_order_0 : decode cX9_order 0 = .ok (.aload_n 0, 1) := by decide +kernel
theorem dX9_order_1 : decode cX9_order 1 = .ok (.iconst 0, 1) := by decide +kernel
theorem dX9_order_2 : decode cX9_order 2 = .ok (.putfield 42, 3) := by decide +kernel
theorem dX9_order_5 : decode cX9_order 5 = .ok (.aload_n 0, 1) := by decide +kernel
theorem dX9_order_6 : decode cX9_order 6 = .ok (.iconst 0, 1) := by decide +kernel
theorem dX9_order_7 : decode cX9_order 7 = .ok (.iconst (-1), 1) := by decide +kernel
theorem dX9_order_8 : decode cX9_order 8 = .ok (.iconst 0, 1) := by decide +kernel
theorem dX9_order_9 : decode cX9_order 9 = .ok (.iconst 0, 1) := by decide +kernel
theorem dX9_order_10 : decode cX9_order 10 = .ok (.invokevirtual 106, 3) := by decide +kernel
theorem dX9_order_13 : decode cX9_order 13 = .ok (.iconst 0, 1) := by decide +kernel
theorem dX9_order_14 : decode cX9_order 14 = .ok (.istore_n 2, 1) := by decide +kernel
theorem dX9_order_15 : decode cX9_order 15 = .ok (.iload_n 2, 1) := by decide +kernel
theorem dX9_order_16 : decode cX9_order 16 = .ok (.aload_n 0, 1) := by decide +kernel
theorem dX9_order_17 : decode cX9_order 17 = .ok (.getfield 42, 3) := by decide +kernel
theorem dX9_order_20 : decode cX9_order 20 = .ok (.if_icmp .ge 66, 3) := by decide +kernel
theorem dX9_order_23 : decode cX9_order 23 = .ok (.iload_n 2, 1) := by decide +kernel
theorem dX9_order_24 : decode cX9_order 24 = .ok (.bipush 65, 2) := by decide +kernel
theorem dX9_order_26 : decode cX9_order 26 = .ok (.if_icmp .ge 60, 3) := by decide +kernel
theorem dX9_order_29 : decode cX9_order 29 = .ok (.iconst 0, 1) := by decide +kernel
theorem dX9_order_30 : decode cX9_order 30 = .ok (.istore_n 3, 1) := by decide +kernel
theorem dX9_order_31 : decode cX9_order 31 = .ok (.iload_n 3, 1) := by decide +kernel
theorem dX9_order_32 : decode cX9_order 32 = .ok (.iload_n 1, 1) := by decide +kernel
theorem dX9_order_33 : decode cX9_order 33 = .ok (.if_icmp .ge 47, 3) := by decide +kernel
theorem dX9_order_36 : decode cX9_order 36 = .ok (.aload_n 0, 1) := by decide +kernel
theorem dX9_order_37 : decode cX9_order 37 = .ok (.getfield 18, 3) := by decide +kernel
theorem dX9_order_40 : decode cX9_order 40 = .ok (.iload_n 2, 1) := by decide +kernel
theorem dX9_order_41 : decode cX9_order 41 = .ok (.invokestatic 59, 3) := by decide +kernel
theorem dX9_order_44 : decode cX9_order 44 = .ok (.istore 4, 2) := by decide +kernel
theorem dX9_order_46 : decode cX9_order 46 = .ok (.iload 4, 2) := by decide +kernel
theorem dX9_order_48 : decode cX9_order 48 = .ok (.iload_n 3, 1) := by decide +kernel
theorem dX9_order_49 : decode cX9_order 49 = .ok (.ishr, 1) := by decide +kernel
theorem dX9_order_50 : decode cX9_order 50 = .ok (.iconst 1, 1) := by decide +kernel
theorem dX9_order_51 : decode cX9_order 51 = .ok (.iand, 1) := by decide +kernel
theorem dX9_order_52 : decode cX9_order 52 = .ok (.ifCond .ne 22, 3) := by decide +kernel
theorem dX9_order_55 : decode cX9_order 55 = .ok (.aload_n 0, 1) := by decide +kernel
theorem dX9_order_56 : decode cX9_order 56 = .ok (.iload_n 2, 1) := by decide +kernel
theorem dX9_order_57 : decode cX9_order 57 = .ok (.iload_n 3, 1) := by decide +kernel
theorem dX9_order_58 : decode cX9_order 58 = .ok (.iload 4, 2) := by decide +kernel
theorem dX9_order_60 : decode cX9_order 60 = .ok (.iconst 1, 1) := by decide +kernel
theorem dX9_order_61 : decode cX9_order 61 = .ok (.iload_n 3, 1) := by decide +kernel
theorem dX9_order_62 : decode cX9_order 62 = .ok (.ishl, 1) := by decide +kernel
theorem dX9_order_63 : decode cX9_order 63 = .ok (.ior, 1) := by decide +kernel
theorem dX9_order_64 : decode cX9_order 64 = .ok (.aload_n 0, 1) := by decide +kernel
theorem dX9_order_65 : decode cX9_order 65 = .ok (.iload_n 2, 1) := by decide +kernel
theorem dX9_order_66 : decode cX9_order 66 = .ok (.invokevirtual 63, 3) := by decide +kernel
theorem dX9_order_69 : decode cX9_order 69 = .ok (.iconst 1, 1) := by decide +kernel
theorem dX9_order_70 : decode cX9_order 70 = .ok (.iadd, 1) := by decide +kernel
theorem dX9_order_71 : decode cX9_order 71 = .ok (.invokevirtual 106, 3) := by decide +kernel
theorem dX9_order_74 : decode cX9_order 74 = .ok (.iinc 3 1, 3) := by decide +kernel
theorem dX9_order_77 : decode cX9_order 77 = .ok (.goto (-46), 3) := by decide +kernel
theorem dX9_order_80 : decode cX9_order 80 = .ok (.iinc 2 1, 3) := by decide +kernel
theorem dX9_order_83 : decode cX9_order 83 = .ok (.goto (-68), 3) := by decide +kernel
theorem dX9_order_86 : decode cX9_order 86 = .ok (.return_, 1) := by decide +kernel
theorem dX9_append_0 : decode cX9_append 0 = .ok (.aload_n 0, 1) := by decide +kernel
theorem dX9_append_1 : decode cX9_append 1 = .ok (.getfield 42, 3) := by decide +kernel
theorem dX9_append_4 : decode cX9_append 4 = .ok (.bipush 65, 2) := by decide +kernel
theorem dX9_append_6 : decode cX9_append 6 = .ok (.if_icmp .lt 4, 3) := by decide +kernel
theorem dX9_append_9 : decode cX9_append 9 = .ok (.return_, 1) := by decide +kernel
theorem dX9_append_10 : decode cX9_append 10 = .ok (.aload_n 0, 1) := by decide +kernel
theorem dX9_append_11 : decode cX9_append 11 = .ok (.getfield 9, 3) := by decide +kernel
theorem dX9_append_14 : decode cX9_append 14 = .ok (.aload_n 0, 1) := by decide +kernel
theorem dX9_append_15 : decode cX9_append 15 = .ok (.getfield 42, 3) := by decide +kernel
theorem dX9_append_18 : decode cX9_append 18 = .ok (.iload_n 1, 1) := by decide +kernel
theorem dX9_append_19 : decode cX9_append 19 = .ok (.invokestatic 110, 3) := by decide +kernel
theorem dX9_append_22 : decode cX9_append 22 = .ok (.aload_n 0, 1) := by decide +kernel
theorem dX9_append_23 : decode cX9_append 23 = .ok (.getfield 15, 3) := by decide +kernel
theorem dX9_append_26 : decode cX9_append 26 = .ok (.aload_n 0, 1) := by decide +kernel
theorem dX9_append_27 : decode cX9_append 27 = .ok (.getfield 42, 3) := by decide +kernel
theorem dX9_append_30 : decode cX9_append 30 = .ok (.iload_n 2, 1) := by decide +kernel
theorem dX9_append_31 : decode cX9_append 31 = .ok (.invokestatic 110, 3) := by decide +kernel
theorem dX9_append_34 : decode cX9_append 34 = .ok (.aload_n 0, 1) := by decide +kernel
theorem dX9_append_35 : decode cX9_append 35 = .ok (.getfield 18, 3) := by decide +kernel
theorem dX9_append_38 : decode cX9_append 38 = .ok (.aload_n 0, 1) := by decide +kernel
theorem dX9_append_39 : decode cX9_append 39 = .ok (.getfield 42, 3) := by decide +kernel
theorem dX9_append_42 : decode cX9_append 42 = .ok (.iload_n 3, 1) := by decide +kernel
theorem dX9_append_43 : decode cX9_append 43 = .ok (.invokestatic 110, 3) := by decide +kernel
theorem dX9_append_46 : decode cX9_append 46 = .ok (.aload_n 0, 1) := by decide +kernel
theorem dX9_append_47 : decode cX9_append 47 = .ok (.getfield 21, 3) := by decide +kernel
theorem dX9_append_50 : decode cX9_append 50 = .ok (.aload_n 0, 1) := by decide +kernel
theorem dX9_append_51 : decode cX9_append 51 = .ok (.getfield 42, 3) := by decide +kernel
theorem dX9_append_54 : decode cX9_append 54 = .ok (.iload 4, 2) := by decide +kernel
theorem dX9_append_56 : decode cX9_append 56 = .ok (.invokestatic 110, 3) := by decide +kernel
theorem dX9_append_59 : decode cX9_append 59 = .ok (.aload_n 0, 1) := by decide +kernel
theorem dX9_append_60 : decode cX9_append 60 = .ok (.dup, 1) := by decide +kernel
theorem dX9_append_61 : decode cX9_append 61 = .ok (.getfield 42, 3) := by decide +kernel
theorem dX9_append_64 : decode cX9_append 64 = .ok (.iconst 1, 1) := by decide +kernel
theorem dX9_append_65 : decode cX9_append 65 = .ok (.iadd, 1) := by decide +kernel
theorem dX9_append_66 : decode cX9_append 66 = .ok (.putfield 42, 3) := by decide +kernel
theorem dX9_append_69 : decode cX9_append 69 = .ok (.return_, 1) := by decide +kernel
theorem dX9_tellColumn_0 : decode cX9_tellColumn 0 = .ok (.aload_n 1, 1) := by decide +kernel
theorem dX9_tellColumn_1 : decode cX9_tellColumn 1 = .ok (.iconst 0, 1) := by decide +kernel
theorem dX9_tellColumn_2 : decode cX9_tellColumn 2 = .ok (.invokevirtual 114, 3) := by decide +kernel
theorem dX9_tellColumn_5 : decode cX9_tellColumn 5 = .ok (.aload_n 2, 1) := by decide +kernel
theorem dX9_tellColumn_6 : decode cX9_tellColumn 6 = .ok (.iload 4, 2) := by decide +kernel
theorem dX9_tellColumn_8 : decode cX9_tellColumn 8 = .ok (.invokevirtual 114, 3) := by decide +kernel
theorem dX9_tellColumn_11 : decode cX9_tellColumn 11 = .ok (.invokevirtual 118, 3) := by decide +kernel
theorem dX9_tellColumn_14 : decode cX9_tellColumn 14 = .ok (.iconst 1, 1) := by decide +kernel
theorem dX9_tellColumn_15 : decode cX9_tellColumn 15 = .ok (.istore 5, 2) := by decide +kernel
theorem dX9_tellColumn_17 : decode cX9_tellColumn 17 = .ok (.iload 5, 2) := by decide +kernel
theorem dX9_tellColumn_19 : decode cX9_tellColumn 19 = .ok (.aload_n 0, 1) := by decide +kernel
theorem dX9_tellColumn_20 : decode cX9_tellColumn 20 = .ok (.getfield 42, 3) := by decide +kernel
theorem dX9_tellColumn_23 : decode cX9_tellColumn 23 = .ok (.if_icmp .ge 54, 3) := by decide +kernel
theorem dX9_tellColumn_26 : decode cX9_tellColumn 26 = .ok (.aload_n 1, 1) := by decide +kernel
theorem dX9_tellColumn_27 : decode cX9_tellColumn 27 = .ok (.iload 5, 2) := by decide +kernel
theorem dX9_tellColumn_29 : decode cX9_tellColumn 29 = .ok (.invokevirtual 114, 3) := by decide +kernel
theorem dX9_tellColumn_32 : decode cX9_tellColumn 32 = .ok (.aload_n 1, 1) := by decide +kernel
theorem dX9_tellColumn_33 : decode cX9_tellColumn 33 = .ok (.aload_n 0, 1) := by decide +kernel
theorem dX9_tellColumn_34 : decode cX9_tellColumn 34 = .ok (.getfield 9, 3) := by decide +kernel
theorem dX9_tellColumn_37 : decode cX9_tellColumn 37 = .ok (.iload 5, 2) := by decide +kernel
theorem dX9_tellColumn_39 : decode cX9_tellColumn 39 = .ok (.invokestatic 59, 3) := by decide +kernel
theorem dX9_tellColumn_42 : decode cX9_tellColumn 42 = .ok (.invokevirtual 114, 3) := by decide +kernel
theorem dX9_tellColumn_45 : decode cX9_tellColumn 45 = .ok (.aload_n 3, 1) := by decide +kernel
theorem dX9_tellColumn_46 : decode cX9_tellColumn 46 = .ok (.aload_n 0, 1) := by decide +kernel
theorem dX9_tellColumn_47 : decode cX9_tellColumn 47 = .ok (.getfield 15, 3) := by decide +kernel
theorem dX9_tellColumn_50 : decode cX9_tellColumn 50 = .ok (.iload 5, 2) := by decide +kernel
theorem dX9_tellColumn_52 : decode cX9_tellColumn 52 = .ok (.invokestatic 59, 3) := by decide +kernel
theorem dX9_tellColumn_55 : decode cX9_tellColumn 55 = .ok (.aload_n 0, 1) := by decide +kernel
theorem dX9_tellColumn_56 : decode cX9_tellColumn 56 = .ok (.getfield 15, 3) := by decide +kernel
theorem dX9_tellColumn_59 : decode cX9_tellColumn 59 = .ok (.iload 5, 2) := by decide +kernel
theorem dX9_tellColumn_61 : decode cX9_tellColumn 61 = .ok (.invokestatic 59, 3) := by decide +kernel
theorem dX9_tellColumn_64 : decode cX9_tellColumn 64 = .ok (.iconst 1, 1) := by decide +kernel
theorem dX9_tellColumn_65 : decode cX9_tellColumn 65 = .ok (.iadd, 1) := by decide +kernel
theorem dX9_tellColumn_66 : decode cX9_tellColumn 66 = .ok (.iload 4, 2) := by decide +kernel
theorem dX9_tellColumn_68 : decode cX9_tellColumn 68 = .ok (.invokevirtual 124, 3) := by decide +kernel
theorem dX9_tellColumn_71 : decode cX9_tellColumn 71 = .ok (.iinc 5 1, 3) := by decide +kernel
theorem dX9_tellColumn_74 : decode cX9_tellColumn 74 = .ok (.goto (-57), 3) := by decide +kernel
theorem dX9_tellColumn_77 : decode cX9_tellColumn 77 = .ok (.return_, 1) := by decide +kernel
theorem dX9_hold_0 : decode cX9_hold 0 = .ok (.iconst 0, 1) := by decide +kernel
theorem dX9_hold_1 : decode cX9_hold 1 = .ok (.istore_n 3, 1) := by decide +kernel
theorem dX9_hold_2 : decode cX9_hold 2 = .ok (.iload_n 3, 1) := by decide +kernel
theorem dX9_hold_3 : decode cX9_hold 3 = .ok (.aload_n 0, 1) := by decide +kernel
theorem dX9_hold_4 : decode cX9_hold 4 = .ok (.getfield 42, 3) := by decide +kernel
theorem dX9_hold_7 : decode cX9_hold 7 = .ok (.if_icmp .ge 51, 3) := by decide +kernel
theorem dX9_hold_10 : decode cX9_hold 10 = .ok (.aload_n 1, 1) := by decide +kernel
theorem dX9_hold_11 : decode cX9_hold 11 = .ok (.iload_n 2, 1) := by decide +kernel
theorem dX9_hold_12 : decode cX9_hold 12 = .ok (.aload_n 0, 1) := by decide +kernel
theorem dX9_hold_13 : decode cX9_hold 13 = .ok (.getfield 35, 3) := by decide +kernel
theorem dX9_hold_16 : decode cX9_hold 16 = .ok (.iload_n 3, 1) := by decide +kernel
theorem dX9_hold_17 : decode cX9_hold 17 = .ok (.invokevirtual 114, 3) := by decide +kernel
theorem dX9_hold_20 : decode cX9_hold 20 = .ok (.aload_n 0, 1) := by decide +kernel
theorem dX9_hold_21 : decode cX9_hold 21 = .ok (.getfield 39, 3) := by decide +kernel
theorem dX9_hold_24 : decode cX9_hold 24 = .ok (.iload_n 3, 1) := by decide +kernel
theorem dX9_hold_25 : decode cX9_hold 25 = .ok (.invokevirtual 114, 3) := by decide +kernel
theorem dX9_hold_28 : decode cX9_hold 28 = .ok (.invokevirtual 128, 3) := by decide +kernel
theorem dX9_hold_31 : decode cX9_hold 31 = .ok (.ifCond .ne 21, 3) := by decide +kernel
theorem dX9_hold_34 : decode cX9_hold 34 = .ok (.aload_n 0, 1) := by decide +kernel
theorem dX9_hold_35 : decode cX9_hold 35 = .ok (.getfield 24, 3) := by decide +kernel
theorem dX9_hold_38 : decode cX9_hold 38 = .ok (.iload_n 3, 1) := by decide +kernel
theorem dX9_hold_39 : decode cX9_hold 39 = .ok (.aload_n 0, 1) := by decide +kernel
theorem dX9_hold_40 : decode cX9_hold 40 = .ok (.getfield 24, 3) := by decide +kernel
theorem dX9_hold_43 : decode cX9_hold 43 = .ok (.iload_n 3, 1) := by decide +kernel
theorem dX9_hold_44 : decode cX9_hold 44 = .ok (.invokestatic 59, 3) := by decide +kernel
theorem dX9_hold_47 : decode cX9_hold 47 = .ok (.iconst 1, 1) := by decide +kernel
theorem dX9_hold_48 : decode cX9_hold 48 = .ok (.iadd, 1) := by decide +kernel
theorem dX9_hold_49 : decode cX9_hold 49 = .ok (.invokestatic 110, 3) := by decide +kernel
theorem dX9_hold_52 : decode cX9_hold 52 = .ok (.iinc 3 1, 3) := by decide +kernel
theorem dX9_hold_55 : decode cX9_hold 55 = .ok (.goto (-53), 3) := by decide +kernel
theorem dX9_hold_58 : decode cX9_hold 58 = .ok (.return_, 1) := by decide +kernel
theorem dX9_gather_0 : decode cX9_gather 0 = .ok (.aload_n 0, 1) := by decide +kernel
theorem dX9_gather_1 : decode cX9_gather 1 = .ok (.iconst 0, 1) := by decide +kernel
theorem dX9_gather_2 : decode cX9_gather 2 = .ok (.putfield 46, 3) := by decide +kernel
theorem dX9_gather_5 : decode cX9_gather 5 = .ok (.iconst 0, 1) := by decide +kernel
theorem dX9_gather_6 : decode cX9_gather 6 = .ok (.istore_n 1, 1) := by decide +kernel
theorem dX9_gather_7 : decode cX9_gather 7 = .ok (.iload_n 1, 1) := by decide +kernel
theorem dX9_gather_8 : decode cX9_gather 8 = .ok (.aload_n 0, 1) := by decide +kernel
theorem dX9_gather_9 : decode cX9_gather 9 = .ok (.getfield 42, 3) := by decide +kernel
theorem dX9_gather_12 : decode cX9_gather 12 = .ok (.if_icmp .ge 45, 3) := by decide +kernel
theorem dX9_gather_15 : decode cX9_gather 15 = .ok (.aload_n 0, 1) := by decide +kernel
theorem dX9_gather_16 : decode cX9_gather 16 = .ok (.getfield 24, 3) := by decide +kernel
theorem dX9_gather_19 : decode cX9_gather 19 = .ok (.iload_n 1, 1) := by decide +kernel
theorem dX9_gather_20 : decode cX9_gather 20 = .ok (.invokestatic 59, 3) := by decide +kernel
theorem dX9_gather_23 : decode cX9_gather 23 = .ok (.ifCond .eq 6, 3) := by decide +kernel
theorem dX9_gather_26 : decode cX9_gather 26 = .ok (.goto 25, 3) := by decide +kernel
theorem dX9_gather_29 : decode cX9_gather 29 = .ok (.aload_n 0, 1) := by decide +kernel
theorem dX9_gather_30 : decode cX9_gather 30 = .ok (.getfield 27, 3) := by decide +kernel
theorem dX9_gather_33 : decode cX9_gather 33 = .ok (.aload_n 0, 1) := by decide +kernel
theorem dX9_gather_34 : decode cX9_gather 34 = .ok (.getfield 46, 3) := by decide +kernel
theorem dX9_gather_37 : decode cX9_gather 37 = .ok (.iload_n 1, 1) := by decide +kernel
theorem dX9_gather_38 : decode cX9_gather 38 = .ok (.invokestatic 110, 3) := by decide +kernel
theorem dX9_gather_41 : decode cX9_gather 41 = .ok (.aload_n 0, 1) := by decide +kernel
theorem dX9_gather_42 : decode cX9_gather 42 = .ok (.dup, 1) := by decide +kernel
theorem dX9_gather_43 : decode cX9_gather 43 = .ok (.getfield 46, 3) := by decide +kernel
theorem dX9_gather_46 : decode cX9_gather 46 = .ok (.iconst 1, 1) := by decide +kernel
theorem dX9_gather_47 : decode cX9_gather 47 = .ok (.iadd, 1) := by decide +kernel
theorem dX9_gather_48 : decode cX9_gather 48 = .ok (.putfield 46, 3) := by decide +kernel
theorem dX9_gather_51 : decode cX9_gather 51 = .ok (.iinc 1 1, 3) := by decide +kernel
theorem dX9_gather_54 : decode cX9_gather 54 = .ok (.goto (-47), 3) := by decide +kernel
theorem dX9_gather_57 : decode cX9_gather 57 = .ok (.return_, 1) := by decide +kernel
theorem dX9_look_0 : decode cX9_look 0 = .ok (.aload_n 1, 1) := by decide +kernel
theorem dX9_look_1 : decode cX9_look 1 = .ok (.ifnull 14, 3) := by decide +kernel
theorem dX9_look_4 : decode cX9_look 4 = .ok (.aload_n 0, 1) := by decide +kernel
theorem dX9_look_5 : decode cX9_look 5 = .ok (.aload_n 0, 1) := by decide +kernel
theorem dX9_look_6 : decode cX9_look 6 = .ok (.getfield 35, 3) := by decide +kernel
theorem dX9_look_9 : decode cX9_look 9 = .ok (.aload_n 1, 1) := by decide +kernel
theorem dX9_look_10 : decode cX9_look 10 = .ok (.aload_n 2, 1) := by decide +kernel
theorem dX9_look_11 : decode cX9_look 11 = .ok (.iload_n 3, 1) := by decide +kernel
theorem dX9_look_12 : decode cX9_look 12 = .ok (.invokevirtual 88, 3) := by decide +kernel
theorem dX9_look_15 : decode cX9_look 15 = .ok (.return_, 1) := by decide +kernel
theorem dX9_looked_0 : decode cX9_looked 0 = .ok (.aload_n 0, 1) := by decide +kernel
theorem dX9_looked_1 : decode cX9_looked 1 = .ok (.getfield 35, 3) := by decide +kernel
theorem dX9_looked_4 : decode cX9_looked 4 = .ok (.iload_n 1, 1) := by decide +kernel
theorem dX9_looked_5 : decode cX9_looked 5 = .ok (.invokevirtual 114, 3) := by decide +kernel
theorem dX9_looked_8 : decode cX9_looked 8 = .ok (.areturn, 1) := by decide +kernel
theorem dX10_init_0 : decode cX10_init 0 = .ok (.aload_n 0, 1) := by decide +kernel
theorem dX10_init_1 : decode cX10_init 1 = .ok (.invokespecial 3, 3) := by decide +kernel
theorem dX10_init_4 : decode cX10_init 4 = .ok (.aload_n 0, 1) := by decide +kernel
theorem dX10_init_5 : decode cX10_init 5 = .ok (.sipush 300, 3) := by decide +kernel
theorem dX10_init_8 : decode cX10_init 8 = .ok (.newarray .int, 2) := by decide +kernel
theorem dX10_init_10 : decode cX10_init 10 = .ok (.putfield 9, 3) := by decide +kernel
theorem dX10_init_13 : decode cX10_init 13 = .ok (.aload_n 0, 1) := by decide +kernel
theorem dX10_init_14 : decode cX10_init 14 = .ok (.iconst 5, 1) := by decide +kernel
theorem dX10_init_15 : decode cX10_init 15 = .ok (.newarray .int, 2) := by decide +kernel
theorem dX10_init_17 : decode cX10_init 17 = .ok (.putfield 17, 3) := by decide +kernel
theorem dX10_init_20 : decode cX10_init 20 = .ok (.aload_n 0, 1) := by decide +kernel
theorem dX10_init_21 : decode cX10_init 21 = .ok (.iconst 0, 1) := by decide +kernel
theorem dX10_init_22 : decode cX10_init 22 = .ok (.putfield 20, 3) := by decide +kernel
theorem dX10_init_25 : decode cX10_init 25 = .ok (.aload_n 0, 1) := by decide +kernel
theorem dX10_init_26 : decode cX10_init 26 = .ok (.iconst 0, 1) := by decide +kernel
theorem dX10_init_27 : decode cX10_init 27 = .ok (.putfield 24, 3) := by decide +kernel
theorem dX10_init_30 : decode cX10_init 30 = .ok (.aload_n 0, 1) := by decide +kernel
theorem dX10_init_31 : decode cX10_init 31 = .ok (.iconst (-1), 1) := by decide +kernel
theorem dX10_init_32 : decode cX10_init 32 = .ok (.putfield 27, 3) := by decide +kernel
theorem dX10_init_35 : decode cX10_init 35 = .ok (.aload_n 0, 1) := by decide +kernel
theorem dX10_init_36 : decode cX10_init 36 = .ok (.iconst 0, 1) := by decide +kernel
theorem dX10_init_37 : decode cX10_init 37 = .ok (.putfield 30, 3) := by decide +kernel
theorem dX10_init_40 : decode cX10_init 40 = .ok (.return_, 1) := by decide +kernel
theorem dX10_size_0 : decode cX10_size 0 = .ok (.aload_n 0, 1) := by decide +kernel
theorem dX10_size_1 : decode cX10_size 1 = .ok (.getfield 20, 3) := by decide +kernel
theorem dX10_size_4 : decode cX10_size 4 = .ok (.ireturn, 1) := by decide +kernel
theorem dX10_faultAt_0 : decode cX10_faultAt 0 = .ok (.aload_n 0, 1) := by decide +kernel
theorem dX10_faultAt_1 : decode cX10_faultAt 1 = .ok (.getfield 27, 3) := by decide +kernel
theorem dX10_faultAt_4 : decode cX10_faultAt 4 = .ok (.ireturn, 1) := by decide +kernel
theorem dX10_add_0 : decode cX10_add 0 = .ok (.aload_n 0, 1) := by decide +kernel
theorem dX10_add_1 : decode cX10_add 1 = .ok (.getfield 20, 3) := by decide +kernel
theorem dX10_add_4 : decode cX10_add 4 = .ok (.sipush 300, 3) := by decide +kernel
theorem dX10_add_7 : decode cX10_add 7 = .ok (.if_icmp .lt 4, 3) := by decide +kernel
theorem dX10_add_10 : decode cX10_add 10 = .ok (.return_, 1) := by decide +kernel
theorem dX10_add_11 : decode cX10_add 11 = .ok (.aload_n 0, 1) := by decide +kernel
theorem dX10_add_12 : decode cX10_add 12 = .ok (.getfield 9, 3) := by decide +kernel
theorem dX10_add_15 : decode cX10_add 15 = .ok (.aload_n 0, 1) := by decide +kernel
theorem dX10_add_16 : decode cX10_add 16 = .ok (.getfield 20, 3) := by decide +kernel
theorem dX10_add_19 : decode cX10_add 19 = .ok (.iload_n 1, 1) := by decide +kernel
theorem dX10_add_20 : decode cX10_add 20 = .ok (.invokestatic 33, 3) := by decide +kernel
theorem dX10_add_23 : decode cX10_add 23 = .ok (.aload_n 0, 1) := by decide +kernel
theorem dX10_add_24 : decode cX10_add 24 = .ok (.dup, 1) := by decide +kernel
theorem dX10_add_25 : decode cX10_add 25 = .ok (.getfield 20, 3) := by decide +kernel
theorem dX10_add_28 : decode cX10_add 28 = .ok (.iconst 1, 1) := by decide +kernel
theorem dX10_add_29 : decode cX10_add 29 = .ok (.iadd, 1) := by decide +kernel
theorem dX10_add_30 : decode cX10_add 30 = .ok (.putfield 20, 3) := by decide +kernel
theorem dX10_add_33 : decode cX10_add 33 = .ok (.return_, 1) := by decide +kernel
theorem dX10_empty_0 : decode cX10_empty 0 = .ok (.aload_n 0, 1) := by decide +kernel
theorem dX10_empty_1 : decode cX10_empty 1 = .ok (.iconst 0, 1) := by decide +kernel
theorem dX10_empty_2 : decode cX10_empty 2 = .ok (.putfield 20, 3) := by decide +kernel
theorem dX10_empty_5 : decode cX10_empty 5 = .ok (.return_, 1) := by decide +kernel
theorem dX10_parse_0 : decode cX10_parse 0 = .ok (.aload_n 0, 1) := by decide +kernel
theorem dX10_parse_1 : decode cX10_parse 1 = .ok (.iconst 0, 1) := by decide +kernel
theorem dX10_parse_2 : decode cX10_parse 2 = .ok (.putfield 24, 3) := by decide +kernel
theorem dX10_parse_5 : decode cX10_parse 5 = .ok (.aload_n 0, 1) := by decide +kernel
theorem dX10_parse_6 : decode cX10_parse 6 = .ok (.iconst (-1), 1) := by decide +kernel
theorem dX10_parse_7 : decode cX10_parse 7 = .ok (.putfield 27, 3) := by decide +kernel
theorem dX10_parse_10 : decode cX10_parse 10 = .ok (.aload_n 0, 1) := by decide +kernel
theorem dX10_parse_11 : decode cX10_parse 11 = .ok (.iconst 0, 1) := by decide +kernel
theorem dX10_parse_12 : decode cX10_parse 12 = .ok (.putfield 30, 3) := by decide +kernel
theorem dX10_parse_15 : decode cX10_parse 15 = .ok (.aload_n 1, 1) := by decide +kernel
theorem dX10_parse_16 : decode cX10_parse 16 = .ok (.ifnonnull 5, 3) := by decide +kernel
theorem dX10_parse_19 : decode cX10_parse 19 = .ok (.iconst 0, 1) := by decide +kernel
theorem dX10_parse_20 : decode cX10_parse 20 = .ok (.ireturn, 1) := by decide +kernel
theorem dX10_parse_21 : decode cX10_parse 21 = .ok (.aload_n 1, 1) := by decide +kernel
theorem dX10_parse_22 : decode cX10_parse 22 = .ok (.invokevirtual 37, 3) := by decide +kernel
theorem dX10_parse_25 : decode cX10_parse 25 = .ok (.iconst 0, 1) := by decide +kernel
theorem dX10_parse_26 : decode cX10_parse 26 = .ok (.istore_n 2, 1) := by decide +kernel
theorem dX10_parse_27 : decode cX10_parse 27 = .ok (.iload_n 2, 1) := by decide +kernel
theorem dX10_parse_28 : decode cX10_parse 28 = .ok (.bipush 16, 2) := by decide +kernel
theorem dX10_parse_30 : decode cX10_parse 30 = .ok (.if_icmp .gt 35, 3) := by decide +kernel
theorem dX10_parse_33 : decode cX10_parse 33 = .ok (.aload_n 0, 1) := by decide +kernel
theorem dX10_parse_34 : decode cX10_parse 34 = .ok (.invokevirtual 42, 3) := by decide +kernel
theorem dX10_parse_37 : decode cX10_parse 37 = .ok (.aload_n 0, 1) := by decide +kernel
theorem dX10_parse_38 : decode cX10_parse 38 = .ok (.getfield 24, 3) := by decide +kernel
theorem dX10_parse_41 : decode cX10_parse 41 = .ok (.aload_n 0, 1) := by decide +kernel
theorem dX10_parse_42 : decode cX10_parse 42 = .ok (.getfield 20, 3) := by decide +kernel
theorem dX10_parse_45 : decode cX10_parse 45 = .ok (.if_icmp .ge 20, 3) := by decide +kernel
theorem dX10_parse_48 : decode cX10_parse 48 = .ok (.aload_n 0, 1) := by decide +kernel
theorem dX10_parse_49 : decode cX10_parse 49 = .ok (.aload_n 1, 1) := by decide +kernel
theorem dX10_parse_50 : decode cX10_parse 50 = .ok (.invokevirtual 45, 3) := by decide +kernel
theorem dX10_parse_53 : decode cX10_parse 53 = .ok (.ifCond .ne 6, 3) := by decide +kernel
theorem dX10_parse_56 : decode cX10_parse 56 = .ok (.goto 9, 3) := by decide +kernel
theorem dX10_parse_59 : decode cX10_parse 59 = .ok (.iinc 2 1, 3) := by decide +kernel
theorem dX10_parse_62 : decode cX10_parse 62 = .ok (.goto (-35), 3) := by decide +kernel
theorem dX10_parse_65 : decode cX10_parse 65 = .ok (.aload_n 0, 1) := by decide +kernel
theorem dX10_parse_66 : decode cX10_parse 66 = .ok (.getfield 30, 3) := by decide +kernel
theorem dX10_parse_69 : decode cX10_parse 69 = .ok (.ireturn, 1) := by decide +kernel
theorem dX10_readClause_0 : decode cX10_readClause 0 = .ok (.aload_n 0, 1) := by decide +kernel
theorem dX10_readClause_1 : decode cX10_readClause 1 = .ok (.invokevirtual 49, 3) := by decide +kernel
theorem dX10_readClause_4 : decode cX10_readClause 4 = .ok (.istore_n 2, 1) := by decide +kernel
theorem dX10_readClause_5 : decode cX10_readClause 5 = .ok (.iload_n 2, 1) := by decide +kernel
theorem dX10_readClause_6 : decode cX10_readClause 6 = .ok (.iconst (-1), 1) := by decide +kernel
theorem dX10_readClause_7 : decode cX10_readClause 7 = .ok (.if_icmp .ne 13, 3) := by decide +kernel
theorem dX10_readClause_10 : decode cX10_readClause 10 = .ok (.aload_n 0, 1) := by decide +kernel
theorem dX10_readClause_11 : decode cX10_readClause 11 = .ok (.iconst 1, 1) := by decide +kernel
theorem dX10_readClause_12 : decode cX10_readClause 12 = .ok (.aload_n 0, 1) := by decide +kernel
theorem dX10_readClause_13 : decode cX10_readClause 13 = .ok (.getfield 24, 3) := by decide +kernel
theorem dX10_readClause_16 : decode cX10_readClause 16 = .ok (.invokevirtual 53, 3) := by decide +kernel
theorem dX10_readClause_19 : decode cX10_readClause 19 = .ok (.ireturn, 1) := by decide +kernel
theorem dX10_readClause_20 : decode cX10_readClause 20 = .ok (.aload_n 1, 1) := by decide +kernel
theorem dX10_readClause_21 : decode cX10_readClause 21 = .ok (.invokevirtual 57, 3) := by decide +kernel
theorem dX10_readClause_24 : decode cX10_readClause 24 = .ok (.bipush 16, 2) := by decide +kernel
theorem dX10_readClause_26 : decode cX10_readClause 26 = .ok (.if_icmp .lt 13, 3) := by decide +kernel
theorem dX10_readClause_29 : decode cX10_readClause 29 = .ok (.aload_n 0, 1) := by decide +kernel
theorem dX10_readClause_30 : decode cX10_readClause 30 = .ok (.iconst 3, 1) := by decide +kernel
theorem dX10_readClause_31 : decode cX10_readClause 31 = .ok (.aload_n 0, 1) := by decide +kernel
theorem dX10_readClause_32 : decode cX10_readClause 32 = .ok (.getfield 24, 3) := by decide +kernel
theorem dX10_readClause_35 : decode cX10_readClause 35 = .ok (.invokevirtual 53, 3) := by decide +kernel
theorem dX10_readClause_38 : decode cX10_readClause 38 = .ok (.ireturn, 1) := by decide +kernel
theorem dX10_readClause_39 : decode cX10_readClause 39 = .ok (.aload_n 0, 1) := by decide +kernel
theorem dX10_readClause_40 : decode cX10_readClause 40 = .ok (.dup, 1) := by decide +kernel
theorem dX10_readClause_41 : decode cX10_readClause 41 = .ok (.getfield 24, 3) := by decide +kernel
theorem dX10_readClause_44 : decode cX10_readClause 44 = .ok (.iload_n 2, 1) := by decide +kernel
theorem dX10_readClause_45 : decode cX10_readClause 45 = .ok (.invokestatic 59, 3) := by decide +kernel
theorem dX10_readClause_48 : decode cX10_readClause 48 = .ok (.invokevirtual 63, 3) := by decide +kernel
theorem dX10_readClause_51 : decode cX10_readClause 51 = .ok (.iadd, 1) := by decide +kernel
theorem dX10_readClause_52 : decode cX10_readClause 52 = .ok (.putfield 24, 3) := by decide +kernel
theorem dX10_readClause_55 : decode cX10_readClause 55 = .ok (.aload_n 0, 1) := by decide +kernel
theorem dX10_readClause_56 : decode cX10_readClause 56 = .ok (.getfield 17, 3) := by decide +kernel
theorem dX10_readClause_59 : decode cX10_readClause 59 = .ok (.iconst 0, 1) := by decide +kernel
theorem dX10_readClause_60 : decode cX10_readClause 60 = .ok (.aload_n 0, 1) := by decide +kernel
theorem dX10_readClause_61 : decode cX10_readClause 61 = .ok (.getfield 17, 3) := by decide +kernel
theorem dX10_readClause_64 : decode cX10_readClause 64 = .ok (.arraylength, 1) := by decide +kernel
theorem dX10_readClause_65 : decode cX10_readClause 65 = .ok (.iconst 0, 1) := by decide +kernel
theorem dX10_readClause_66 : decode cX10_readClause 66 = .ok (.invokestatic 68, 3) := by decide +kernel
theorem dX10_readClause_69 : decode cX10_readClause 69 = .ok (.iconst 0, 1) := by decide +kernel
theorem dX10_readClause_70 : decode cX10_readClause 70 = .ok (.istore_n 3, 1) := by decide +kernel
theorem dX10_readClause_71 : decode cX10_readClause 71 = .ok (.iload_n 3, 1) := by decide +kernel
theorem dX10_readClause_72 : decode cX10_readClause 72 = .ok (.iload_n 2, 1) := by decide +kernel
theorem dX10_readClause_73 : decode cX10_readClause 73 = .ok (.invokestatic 72, 3) := by decide +kernel
theorem dX10_readClause_76 : decode cX10_readClause 76 = .ok (.if_icmp .ge 43, 3) := by decide +kernel
theorem dX10_readClause_79 : decode cX10_readClause 79 = .ok (.aload_n 0, 1) := by decide +kernel
theorem dX10_readClause_80 : decode cX10_readClause 80 = .ok (.invokevirtual 42, 3) := by decide +kernel
theorem dX10_readClause_83 : decode cX10_readClause 83 = .ok (.iload_n 2, 1) := by decide +kernel
theorem dX10_readClause_84 : decode cX10_readClause 84 = .ok (.iload_n 3, 1) := by decide +kernel
theorem dX10_readClause_85 : decode cX10_readClause 85 = .ok (.invokestatic 75, 3) := by decide +kernel
theorem dX10_readClause_88 : decode cX10_readClause 88 = .ok (.ifCond .eq 14, 3) := by decide +kernel
theorem dX10_readClause_91 : decode cX10_readClause 91 = .ok (.aload_n 0, 1) := by decide +kernel
theorem dX10_readClause_92 : decode cX10_readClause 92 = .ok (.iload_n 3, 1) := by decide +kernel
theorem dX10_readClause_93 : decode cX10_readClause 93 = .ok (.invokevirtual 78, 3) := by decide +kernel
theorem dX10_readClause_96 : decode cX10_readClause 96 = .ok (.ifCond .eq 15, 3) := by decide +kernel
theorem dX10_readClause_99 : decode cX10_readClause 99 = .ok (.goto 14, 3) := by decide +kernel
theorem dX10_readClause_102 : decode cX10_readClause 102 = .ok (.aload_n 0, 1) := by decide +kernel
theorem dX10_readClause_103 : decode cX10_readClause 103 = .ok (.iload_n 2, 1) := by decide +kernel
theorem dX10_readClause_104 : decode cX10_readClause 104 = .ok (.iload_n 3, 1) := by decide +kernel
theorem dX10_readClause_105 : decode cX10_readClause 105 = .ok (.invokevirtual 82, 3) := by decide +kernel
theorem dX10_readClause_108 : decode cX10_readClause 108 = .ok (.ifCond .ne 5, 3) := by decide +kernel
theorem dX10_readClause_111 : decode cX10_readClause 111 = .ok (.iconst 0, 1) := by decide +kernel
theorem dX10_readClause_112 : decode cX10_readClause 112 = .ok (.ireturn, 1) := by decide +kernel
theorem dX10_readClause_113 : decode cX10_readClause 113 = .ok (.iinc 3 1, 3) := by decide +kernel
theorem dX10_readClause_116 : decode cX10_readClause 116 = .ok (.goto (-45), 3) := by decide +kernel
theorem dX10_readClause_119 : decode cX10_readClause 119 = .ok (.aload_n 0, 1) := by decide +kernel
theorem dX10_readClause_120 : decode cX10_readClause 120 = .ok (.invokevirtual 42, 3) := by decide +kernel
theorem dX10_readClause_123 : decode cX10_readClause 123 = .ok (.aload_n 0, 1) := by decide +kernel
theorem dX10_readClause_124 : decode cX10_readClause 124 = .ok (.aload_n 0, 1) := by decide +kernel
theorem dX10_readClause_125 : decode cX10_readClause 125 = .ok (.getfield 24, 3) := by decide +kernel
theorem dX10_readClause_128 : decode cX10_readClause 128 = .ok (.invokevirtual 85, 3) := by decide +kernel
theorem dX10_readClause_131 : decode cX10_readClause 131 = .ok (.bipush 59, 2) := by decide +kernel
theorem dX10_readClause_133 : decode cX10_readClause 133 = .ok (.if_icmp .eq 13, 3) := by decide +kernel
theorem dX10_readClause_136 : decode cX10_readClause 136 = .ok (.aload_n 0, 1) := by decide +kernel
theorem dX10_readClause_137 : decode cX10_readClause 137 = .ok (.iconst 1, 1) := by decide +kernel
theorem dX10_readClause_138 : decode cX10_readClause 138 = .ok (.aload_n 0, 1) := by decide +kernel
theorem dX10_readClause_139 : decode cX10_readClause 139 = .ok (.getfield 24, 3) := by decide +kernel
theorem dX10_readClause_142 : decode cX10_readClause 142 = .ok (.invokevirtual 53, 3) := by decide +kernel
theorem dX10_readClause_145 : decode cX10_readClause 145 = .ok (.ireturn, 1) := by decide +kernel
theorem dX10_readClause_146 : decode cX10_readClause 146 = .ok (.aload_n 0, 1) := by decide +kernel
theorem dX10_readClause_147 : decode cX10_readClause 147 = .ok (.dup, 1) := by decide +kernel
theorem dX10_readClause_148 : decode cX10_readClause 148 = .ok (.getfield 24, 3) := by decide +kernel
theorem dX10_readClause_151 : decode cX10_readClause 151 = .ok (.iconst 1, 1) := by decide +kernel
theorem dX10_readClause_152 : decode cX10_readClause 152 = .ok (.iadd, 1) := by decide +kernel
theorem dX10_readClause_153 : decode cX10_readClause 153 = .ok (.putfield 24, 3) := by decide +kernel
theorem dX10_readClause_156 : decode cX10_readClause 156 = .ok (.aload_n 1, 1) := by decide +kernel
theorem dX10_readClause_157 : decode cX10_readClause 157 = .ok (.iload_n 2, 1) := by decide +kernel
theorem dX10_readClause_158 : decode cX10_readClause 158 = .ok (.aload_n 0, 1) := by decide +kernel
theorem dX10_readClause_159 : decode cX10_readClause 159 = .ok (.getfield 17, 3) := by decide +kernel
theorem dX10_readClause_162 : decode cX10_readClause 162 = .ok (.iconst 0, 1) := by decide +kernel
theorem dX10_readClause_163 : decode cX10_readClause 163 = .ok (.invokestatic 88, 3) := by decide +kernel
theorem dX10_readClause_166 : decode cX10_readClause 166 = .ok (.aload_n 0, 1) := by decide +kernel
theorem dX10_readClause_167 : decode cX10_readClause 167 = .ok (.getfield 17, 3) := by decide +kernel
theorem dX10_readClause_170 : decode cX10_readClause 170 = .ok (.iconst 1, 1) := by decide +kernel
theorem dX10_readClause_171 : decode cX10_readClause 171 = .ok (.invokestatic 88, 3) := by decide +kernel
theorem dX10_readClause_174 : decode cX10_readClause 174 = .ok (.aload_n 0, 1) := by decide +kernel
theorem dX10_readClause_175 : decode cX10_readClause 175 = .ok (.getfield 17, 3) := by decide +kernel
theorem dX10_readClause_178 : decode cX10_readClause 178 = .ok (.iconst 2, 1) := by decide +kernel
theorem dX10_readClause_179 : decode cX10_readClause 179 = .ok (.invokestatic 88, 3) := by decide +kernel
theorem dX10_readClause_182 : decode cX10_readClause 182 = .ok (.aload_n 0, 1) := by decide +kernel
theorem dX10_readClause_183 : decode cX10_readClause 183 = .ok (.getfield 17, 3) := by decide +kernel
theorem dX10_readClause_186 : decode cX10_readClause 186 = .ok (.iconst 3, 1) := by decide +kernel
theorem dX10_readClause_187 : decode cX10_readClause 187 = .ok (.invokestatic 88, 3) := by decide +kernel
theorem dX10_readClause_190 : decode cX10_readClause 190 = .ok (.aload_n 0, 1) := by decide +kernel
theorem dX10_readClause_191 : decode cX10_readClause 191 = .ok (.getfield 17, 3) := by decide +kernel
theorem dX10_readClause_194 : decode cX10_readClause 194 = .ok (.iconst 4, 1) := by decide +kernel
theorem dX10_readClause_195 : decode cX10_readClause 195 = .ok (.invokestatic 88, 3) := by decide +kernel
theorem dX10_readClause_198 : decode cX10_readClause 198 = .ok (.invokevirtual 92, 3) := by decide +kernel
theorem dX10_readClause_201 : decode cX10_readClause 201 = .ok (.iconst 1, 1) := by decide +kernel
theorem dX10_readClause_202 : decode cX10_readClause 202 = .ok (.ireturn, 1) := by decide +kernel
theorem dX10_readAxis_0 : decode cX10_readAxis 0 = .ok (.aload_n 0, 1) := by decide +kernel
theorem dX10_readAxis_1 : decode cX10_readAxis 1 = .ok (.ldc 96, 2) := by decide +kernel
theorem dX10_readAxis_3 : decode cX10_readAxis 3 = .ok (.invokevirtual 98, 3) := by decide +kernel
theorem dX10_readAxis_6 : decode cX10_readAxis 6 = .ok (.ifCond .eq 7, 3) := by decide +kernel
theorem dX10_readAxis_9 : decode cX10_readAxis 9 = .ok (.iconst 0, 1) := by decide +kernel
theorem dX10_readAxis_10 : decode cX10_readAxis 10 = .ok (.goto 17, 3) := by decide +kernel
theorem dX10_readAxis_13 : decode cX10_readAxis 13 = .ok (.aload_n 0, 1) := by decide +kernel
theorem dX10_readAxis_14 : decode cX10_readAxis 14 = .ok (.ldc 102, 2) := by decide +kernel
theorem dX10_readAxis_16 : decode cX10_readAxis 16 = .ok (.invokevirtual 98, 3) := by decide +kernel
theorem dX10_readAxis_19 : decode cX10_readAxis 19 = .ok (.ifCond .eq 7, 3) := by decide +kernel
theorem dX10_readAxis_22 : decode cX10_readAxis 22 = .ok (.iconst 1, 1) := by decide +kernel
theorem dX10_readAxis_23 : decode cX10_readAxis 23 = .ok (.goto 4, 3) := by decide +kernel
theorem dX10_readAxis_26 : decode cX10_readAxis 26 = .ok (.iconst (-1), 1) := by decide +kernel
theorem dX10_readAxis_27 : decode cX10_readAxis 27 = .ok (.istore_n 2, 1) := by decide +kernel
theorem dX10_readAxis_28 : decode cX10_readAxis 28 = .ok (.iload_n 2, 1) := by decide +kernel
theorem dX10_readAxis_29 : decode cX10_readAxis 29 = .ok (.iconst (-1), 1) := by decide +kernel
theorem dX10_readAxis_30 : decode cX10_readAxis 30 = .ok (.if_icmp .ne 13, 3) := by decide +kernel
theorem dX10_readAxis_33 : decode cX10_readAxis 33 = .ok (.aload_n 0, 1) := by decide +kernel
theorem dX10_readAxis_34 : decode cX10_readAxis 34 = .ok (.iconst 1, 1) := by decide +kernel
theorem dX10_readAxis_35 : decode cX10_readAxis 35 = .ok (.aload_n 0, 1) := by decide +kernel
theorem dX10_readAxis_36 : decode cX10_readAxis 36 = .ok (.getfield 24, 3) := by decide +kernel
theorem dX10_readAxis_39 : decode cX10_readAxis 39 = .ok (.invokevirtual 53, 3) := by decide +kernel
theorem dX10_readAxis_42 : decode cX10_readAxis 42 = .ok (.ireturn, 1) := by decide +kernel
theorem dX10_readAxis_43 : decode cX10_readAxis 43 = .ok (.aload_n 0, 1) := by decide +kernel
theorem dX10_readAxis_44 : decode cX10_readAxis 44 = .ok (.getfield 17, 3) := by decide +kernel
theorem dX10_readAxis_47 : decode cX10_readAxis 47 = .ok (.iload_n 1, 1) := by decide +kernel
theorem dX10_readAxis_48 : decode cX10_readAxis 48 = .ok (.iload_n 2, 1) := by decide +kernel
theorem dX10_readAxis_49 : decode cX10_readAxis 49 = .ok (.invokestatic 33, 3) := by decide +kernel
theorem dX10_readAxis_52 : decode cX10_readAxis 52 = .ok (.aload_n 0, 1) := by decide +kernel
theorem dX10_readAxis_53 : decode cX10_readAxis 53 = .ok (.dup, 1) := by decide +kernel
theorem dX10_readAxis_54 : decode cX10_readAxis 54 = .ok (.getfield 24, 3) := by decide +kernel
theorem dX10_readAxis_57 : decode cX10_readAxis 57 = .ok (.iconst 1, 1) := by decide +kernel
theorem dX10_readAxis_58 : decode cX10_readAxis 58 = .ok (.iadd, 1) := by decide +kernel
theorem dX10_readAxis_59 : decode cX10_readAxis 59 = .ok (.putfield 24, 3) := by decide +kernel
theorem dX10_readAxis_62 : decode cX10_readAxis 62 = .ok (.iconst 1, 1) := by decide +kernel
theorem dX10_readAxis_63 : decode cX10_readAxis 63 = .ok (.ireturn, 1) := by decide +kernel
theorem dX10_readNumber_0 : decode cX10_readNumber 0 = .ok (.aload_n 0, 1) := by decide +kernel
theorem dX10_readNumber_1 : decode cX10_readNumber 1 = .ok (.getfield 24, 3) := by decide +kernel
theorem dX10_readNumber_4 : decode cX10_readNumber 4 = .ok (.istore_n 3, 1) := by decide +kernel
theorem dX10_readNumber_5 : decode cX10_readNumber 5 = .ok (.aload_n 0, 1) := by decide +kernel
theorem dX10_readNumber_6 : decode cX10_readNumber 6 = .ok (.aload_n 0, 1) := by decide +kernel
theorem dX10_readNumber_7 : decode cX10_readNumber 7 = .ok (.getfield 24, 3) := by decide +kernel
theorem dX10_readNumber_10 : decode cX10_readNumber 10 = .ok (.invokevirtual 85, 3) := by decide +kernel
theorem dX10_readNumber_13 : decode cX10_readNumber 13 = .ok (.bipush 45, 2) := by decide +kernel
theorem dX10_readNumber_15 : decode cX10_readNumber 15 = .ok (.if_icmp .ne 7, 3) := by decide +kernel
theorem dX10_readNumber_18 : decode cX10_readNumber 18 = .ok (.iconst 1, 1) := by decide +kernel
theorem dX10_readNumber_19 : decode cX10_readNumber 19 = .ok (.goto 4, 3) := by decide +kernel
theorem dX10_readNumber_22 : decode cX10_readNumber 22 = .ok (.iconst 0, 1) := by decide +kernel
theorem dX10_readNumber_23 : decode cX10_readNumber 23 = .ok (.istore 4, 2) := by decide +kernel
theorem dX10_readNumber_25 : decode cX10_readNumber 25 = .ok (.iload 4, 2) := by decide +kernel
theorem dX10_readNumber_27 : decode cX10_readNumber 27 = .ok (.ifCond .eq 13, 3) := by decide +kernel
theorem dX10_readNumber_30 : decode cX10_readNumber 30 = .ok (.aload_n 0, 1) := by decide +kernel
theorem dX10_readNumber_31 : decode cX10_readNumber 31 = .ok (.dup, 1) := by decide +kernel
theorem dX10_readNumber_32 : decode cX10_readNumber 32 = .ok (.getfield 24, 3) := by decide +kernel
theorem dX10_readNumber_35 : decode cX10_readNumber 35 = .ok (.iconst 1, 1) := by decide +kernel
theorem dX10_readNumber_36 : decode cX10_readNumber 36 = .ok (.iadd, 1) := by decide +kernel
theorem dX10_readNumber_37 : decode cX10_readNumber 37 = .ok (.putfield 24, 3) := by decide +kernel
theorem dX10_readNumber_40 : decode cX10_readNumber 40 = .ok (.iconst 0, 1) := by decide +kernel
theorem dX10_readNumber_41 : decode cX10_readNumber 41 = .ok (.istore 5, 2) := by decide +kernel
theorem dX10_readNumber_43 : decode cX10_readNumber 43 = .ok (.iconst 0, 1) := by decide +kernel
theorem dX10_readNumber_44 : decode cX10_readNumber 44 = .ok (.istore 6, 2) := by decide +kernel
theorem dX10_readNumber_46 : decode cX10_readNumber 46 = .ok (.aload_n 0, 1) := by decide +kernel
theorem dX10_readNumber_47 : decode cX10_readNumber 47 = .ok (.getfield 24, 3) := by decide +kernel
theorem dX10_readNumber_50 : decode cX10_readNumber 50 = .ok (.aload_n 0, 1) := by decide +kernel
theorem dX10_readNumber_51 : decode cX10_readNumber 51 = .ok (.getfield 20, 3) := by decide +kernel
theorem dX10_readNumber_54 : decode cX10_readNumber 54 = .ok (.if_icmp .ge 58, 3) := by decide +kernel
theorem dX10_readNumber_57 : decode cX10_readNumber 57 = .ok (.aload_n 0, 1) := by decide +kernel
theorem dX10_readNumber_58 : decode cX10_readNumber 58 = .ok (.aload_n 0, 1) := by decide +kernel
theorem dX10_readNumber_59 : decode cX10_readNumber 59 = .ok (.getfield 24, 3) := by decide +kernel
theorem dX10_readNumber_62 : decode cX10_readNumber 62 = .ok (.invokevirtual 85, 3) := by decide +kernel
theorem dX10_readNumber_65 : decode cX10_readNumber 65 = .ok (.invokestatic 104, 3) := by decide +kernel
theorem dX10_readNumber_68 : decode cX10_readNumber 68 = .ok (.ifCond .eq 44, 3) := by decide +kernel
theorem dX10_readNumber_71 : decode cX10_readNumber 71 = .ok (.iload 5, 2) := by decide +kernel
theorem dX10_readNumber_73 : decode cX10_readNumber 73 = .ok (.iconst 2, 1) := by decide +kernel
theorem dX10_readNumber_74 : decode cX10_readNumber 74 = .ok (.if_icmp .ge 22, 3) := by decide +kernel
theorem dX10_readNumber_77 : decode cX10_readNumber 77 = .ok (.bipush 10, 2) := by decide +kernel
theorem dX10_readNumber_79 : decode cX10_readNumber 79 = .ok (.iload 6, 2) := by decide +kernel
theorem dX10_readNumber_81 : decode cX10_readNumber 81 = .ok (.imul, 1) := by decide +kernel
theorem dX10_readNumber_82 : decode cX10_readNumber 82 = .ok (.aload_n 0, 1) := by decide +kernel
theorem dX10_readNumber_83 : decode cX10_readNumber 83 = .ok (.aload_n 0, 1) := by decide +kernel
theorem dX10_readNumber_84 : decode cX10_readNumber 84 = .ok (.getfield 24, 3) := by decide +kernel
theorem dX10_readNumber_87 : decode cX10_readNumber 87 = .ok (.invokevirtual 85, 3) := by decide +kernel
theorem dX10_readNumber_90 : decode cX10_readNumber 90 = .ok (.iadd, 1) := by decide +kernel
theorem dX10_readNumber_91 : decode cX10_readNumber 91 = .ok (.bipush 48, 2) := by decide +kernel
theorem dX10_readNumber_93 : decode cX10_readNumber 93 = .ok (.isub, 1) := by decide +kernel
theorem dX10_readNumber_94 : decode cX10_readNumber 94 = .ok (.istore 6, 2) := by decide +kernel
theorem dX10_readNumber_96 : decode cX10_readNumber 96 = .ok (.iinc 5 1, 3) := by decide +kernel
theorem dX10_readNumber_99 : decode cX10_readNumber 99 = .ok (.aload_n 0, 1) := by decide +kernel
theorem dX10_readNumber_100 : decode cX10_readNumber 100 = .ok (.dup, 1) := by decide +kernel
theorem dX10_readNumber_101 : decode cX10_readNumber 101 = .ok (.getfield 24, 3) := by decide +kernel
theorem dX10_readNumber_104 : decode cX10_readNumber 104 = .ok (.iconst 1, 1) := by decide +kernel
theorem dX10_readNumber_105 : decode cX10_readNumber 105 = .ok (.iadd, 1) := by decide +kernel
theorem dX10_readNumber_106 : decode cX10_readNumber 106 = .ok (.putfield 24, 3) := by decide +kernel
theorem dX10_readNumber_109 : decode cX10_readNumber 109 = .ok (.goto (-63), 3) := by decide +kernel
theorem dX10_readNumber_112 : decode cX10_readNumber 112 = .ok (.iload 5, 2) := by decide +kernel
theorem dX10_readNumber_114 : decode cX10_readNumber 114 = .ok (.ifCond .ne 13, 3) := by decide +kernel
theorem dX10_readNumber_117 : decode cX10_readNumber 117 = .ok (.aload_n 0, 1) := by decide +kernel
theorem dX10_readNumber_118 : decode cX10_readNumber 118 = .ok (.iconst 1, 1) := by decide +kernel
theorem dX10_readNumber_119 : decode cX10_readNumber 119 = .ok (.aload_n 0, 1) := by decide +kernel
theorem dX10_readNumber_120 : decode cX10_readNumber 120 = .ok (.getfield 24, 3) := by decide +kernel
theorem dX10_readNumber_123 : decode cX10_readNumber 123 = .ok (.invokevirtual 53, 3) := by decide +kernel
theorem dX10_readNumber_126 : decode cX10_readNumber 126 = .ok (.ireturn, 1) := by decide +kernel
theorem dX10_readNumber_127 : decode cX10_readNumber 127 = .ok (.iload 4, 2) := by decide +kernel
theorem dX10_readNumber_129 : decode cX10_readNumber 129 = .ok (.ifCond .eq 8, 3) := by decide +kernel
theorem dX10_readNumber_132 : decode cX10_readNumber 132 = .ok (.iload 6, 2) := by decide +kernel
theorem dX10_readNumber_134 : decode cX10_readNumber 134 = .ok (.ineg, 1) := by decide +kernel
theorem dX10_readNumber_135 : decode cX10_readNumber 135 = .ok (.istore 6, 2) := by decide +kernel
theorem dX10_readNumber_137 : decode cX10_readNumber 137 = .ok (.iload 5, 2) := by decide +kernel
theorem dX10_readNumber_139 : decode cX10_readNumber 139 = .ok (.iconst 2, 1) := by decide +kernel
theorem dX10_readNumber_140 : decode cX10_readNumber 140 = .ok (.if_icmp .gt 13, 3) := by decide +kernel
theorem dX10_readNumber_143 : decode cX10_readNumber 143 = .ok (.iload_n 1, 1) := by decide +kernel
theorem dX10_readNumber_144 : decode cX10_readNumber 144 = .ok (.iload_n 2, 1) := by decide +kernel
theorem dX10_readNumber_145 : decode cX10_readNumber 145 = .ok (.iload 6, 2) := by decide +kernel
theorem dX10_readNumber_147 : decode cX10_readNumber 147 = .ok (.invokestatic 107, 3) := by decide +kernel
theorem dX10_readNumber_150 : decode cX10_readNumber 150 = .ok (.ifCond .ne 10, 3) := by decide +kernel
theorem dX10_readNumber_153 : decode cX10_readNumber 153 = .ok (.aload_n 0, 1) := by decide +kernel
theorem dX10_readNumber_154 : decode cX10_readNumber 154 = .ok (.iconst 2, 1) := by decide +kernel
theorem dX10_readNumber_155 : decode cX10_readNumber 155 = .ok (.iload_n 3, 1) := by decide +kernel
theorem dX10_readNumber_156 : decode cX10_readNumber 156 = .ok (.invokevirtual 53, 3) := by decide +kernel
theorem dX10_readNumber_159 : decode cX10_readNumber 159 = .ok (.ireturn, 1) := by decide +kernel
theorem dX10_readNumber_160 : decode cX10_readNumber 160 = .ok (.iload_n 1, 1) := by decide +kernel
theorem dX10_readNumber_161 : decode cX10_readNumber 161 = .ok (.iconst 5, 1) := by decide +kernel
theorem dX10_readNumber_162 : decode cX10_readNumber 162 = .ok (.if_icmp .ne 28, 3) := by decide +kernel
theorem dX10_readNumber_165 : decode cX10_readNumber 165 = .ok (.iload_n 2, 1) := by decide +kernel
theorem dX10_readNumber_166 : decode cX10_readNumber 166 = .ok (.iconst 3, 1) := by decide +kernel
theorem dX10_readNumber_167 : decode cX10_readNumber 167 = .ok (.if_icmp .ne 23, 3) := by decide +kernel
theorem dX10_readNumber_170 : decode cX10_readNumber 170 = .ok (.iload 6, 2) := by decide +kernel
theorem dX10_readNumber_172 : decode cX10_readNumber 172 = .ok (.aload_n 0, 1) := by decide +kernel
theorem dX10_readNumber_173 : decode cX10_readNumber 173 = .ok (.getfield 17, 3) := by decide +kernel
theorem dX10_readNumber_176 : decode cX10_readNumber 176 = .ok (.iconst 2, 1) := by decide +kernel
theorem dX10_readNumber_177 : decode cX10_readNumber 177 = .ok (.invokestatic 88, 3) := by decide +kernel
theorem dX10_readNumber_180 : decode cX10_readNumber 180 = .ok (.if_icmp .ge 10, 3) := by decide +kernel
theorem dX10_readNumber_183 : decode cX10_readNumber 183 = .ok (.aload_n 0, 1) := by decide +kernel
theorem dX10_readNumber_184 : decode cX10_readNumber 184 = .ok (.iconst 2, 1) := by decide +kernel
theorem dX10_readNumber_185 : decode cX10_readNumber 185 = .ok (.iload_n 3, 1) := by decide +kernel
theorem dX10_readNumber_186 : decode cX10_readNumber 186 = .ok (.invokevirtual 53, 3) := by decide +kernel
theorem dX10_readNumber_189 : decode cX10_readNumber 189 = .ok (.ireturn, 1) := by decide +kernel
theorem dX10_readNumber_190 : decode cX10_readNumber 190 = .ok (.aload_n 0, 1) := by decide +kernel
theorem dX10_readNumber_191 : decode cX10_readNumber 191 = .ok (.getfield 17, 3) := by decide +kernel
theorem dX10_readNumber_194 : decode cX10_readNumber 194 = .ok (.iload_n 2, 1) := by decide +kernel
theorem dX10_readNumber_195 : decode cX10_readNumber 195 = .ok (.iload 6, 2) := by decide +kernel
theorem dX10_readNumber_197 : decode cX10_readNumber 197 = .ok (.invokestatic 33, 3) := by decide +kernel
theorem dX10_readNumber_200 : decode cX10_readNumber 200 = .ok (.iconst 1, 1) := by decide +kernel
theorem dX10_readNumber_201 : decode cX10_readNumber 201 = .ok (.ireturn, 1) := by decide +kernel
theorem dX10_refuse_0 : decode cX10_refuse 0 = .ok (.aload_n 0, 1) := by decide +kernel
theorem dX10_refuse_1 : decode cX10_refuse 1 = .ok (.iload_n 1, 1) := by decide +kernel
theorem dX10_refuse_2 : decode cX10_refuse 2 = .ok (.putfield 30, 3) := by decide +kernel
theorem dX10_refuse_5 : decode cX10_refuse 5 = .ok (.aload_n 0, 1) := by decide +kernel
theorem dX10_refuse_6 : decode cX10_refuse 6 = .ok (.iload_n 2, 1) := by decide +kernel
theorem dX10_refuse_7 : decode cX10_refuse 7 = .ok (.putfield 27, 3) := by decide +kernel
theorem dX10_refuse_10 : decode cX10_refuse 10 = .ok (.iconst 0, 1) := by decide +kernel
theorem dX10_refuse_11 : decode cX10_refuse 11 = .ok (.ireturn, 1) := by decide +kernel
theorem dX10_kindHere_0 : decode cX10_kindHere 0 = .ok (.iconst 0, 1) := by decide +kernel
theorem dX10_kindHere_1 : decode cX10_kindHere 1 = .ok (.istore_n 1, 1) := by decide +kernel
theorem dX10_kindHere_2 : decode cX10_kindHere 2 = .ok (.iload_n 1, 1) := by decide +kernel
theorem dX10_kindHere_3 : decode cX10_kindHere 3 = .ok (.bipush 6, 2) := by decide +kernel
theorem dX10_kindHere_5 : decode cX10_kindHere 5 = .ok (.if_icmp .ge 22, 3) := by decide +kernel
theorem dX10_kindHere_8 : decode cX10_kindHere 8 = .ok (.aload_n 0, 1) := by decide +kernel
theorem dX10_kindHere_9 : decode cX10_kindHere 9 = .ok (.iload_n 1, 1) := by decide +kernel
theorem dX10_kindHere_10 : decode cX10_kindHere 10 = .ok (.invokestatic 59, 3) := by decide +kernel
theorem dX10_kindHere_13 : decode cX10_kindHere 13 = .ok (.invokevirtual 98, 3) := by decide +kernel
theorem dX10_kindHere_16 : decode cX10_kindHere 16 = .ok (.ifCond .eq 5, 3) := by decide +kernel
theorem dX10_kindHere_19 : decode cX10_kindHere 19 = .ok (.iload_n 1, 1) := by decide +kernel
theorem dX10_kindHere_20 : decode cX10_kindHere 20 = .ok (.ireturn, 1) := by decide +kernel
theorem dX10_kindHere_21 : decode cX10_kindHere 21 = .ok (.iinc 1 1, 3) := by decide +kernel
theorem dX10_kindHere_24 : decode cX10_kindHere 24 = .ok (.goto (-22), 3) := by decide +kernel
theorem dX10_kindHere_27 : decode cX10_kindHere 27 = .ok (.iconst (-1), 1) := by decide +kernel
theorem dX10_kindHere_28 : decode cX10_kindHere 28 = .ok (.ireturn, 1) := by decide +kernel
theorem dX10_isWordHere_0 : decode cX10_isWordHere 0 = .ok (.iconst 0, 1) := by decide +kernel
theorem dX10_isWordHere_1 : decode cX10_isWordHere 1 = .ok (.istore_n 2, 1) := by decide +kernel
theorem dX10_isWordHere_2 : decode cX10_isWordHere 2 = .ok (.iload_n 2, 1) := by decide +kernel
theorem dX10_isWordHere_3 : decode cX10_isWordHere 3 = .ok (.aload_n 1, 1) := by decide +kernel
