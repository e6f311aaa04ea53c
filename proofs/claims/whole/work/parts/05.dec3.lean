theorem dX12_buildLoose_61 : decode cX12_buildLoose 61 = .ok (.iload_n 2, 1) := by decide +kernel
theorem dX12_buildLoose_62 : decode cX12_buildLoose 62 = .ok (.iconst 3, 1) := by decide +kernel
theorem dX12_buildLoose_63 : decode cX12_buildLoose 63 = .ok (.irem, 1) := by decide +kernel
theorem dX12_buildLoose_64 : decode cX12_buildLoose 64 = .ok (.iconst 1, 1) := by decide +kernel
theorem dX12_buildLoose_65 : decode cX12_buildLoose 65 = .ok (.isub, 1) := by decide +kernel
theorem dX12_buildLoose_66 : decode cX12_buildLoose 66 = .ok (.iadd, 1) := by decide +kernel
theorem dX12_buildLoose_67 : decode cX12_buildLoose 67 = .ok (.iastore, 1) := by decide +kernel
theorem dX12_buildLoose_68 : decode cX12_buildLoose 68 = .ok (.iload_n 2, 1) := by decide +kernel
theorem dX12_buildLoose_69 : decode cX12_buildLoose 69 = .ok (.iconst 3, 1) := by decide +kernel
theorem dX12_buildLoose_70 : decode cX12_buildLoose 70 = .ok (.idiv, 1) := by decide +kernel
theorem dX12_buildLoose_71 : decode cX12_buildLoose 71 = .ok (.istore_n 2, 1) := by decide +kernel
theorem dX12_buildLoose_72 : decode cX12_buildLoose 72 = .ok (.aload_n 0, 1) := by decide +kernel
theorem dX12_buildLoose_73 : decode cX12_buildLoose 73 = .ok (.getfield 16, 3) := by decide +kernel
theorem dX12_buildLoose_76 : decode cX12_buildLoose 76 = .ok (.iload 4, 2) := by decide +kernel
theorem dX12_buildLoose_78 : decode cX12_buildLoose 78 = .ok (.iaload, 1) := by decide +kernel
theorem dX12_buildLoose_79 : decode cX12_buildLoose 79 = .ok (.iload 5, 2) := by decide +kernel
theorem dX12_buildLoose_81 : decode cX12_buildLoose 81 = .ok (.aload_n 0, 1) := by decide +kernel
theorem dX12_buildLoose_82 : decode cX12_buildLoose 82 = .ok (.getfield 27, 3) := by decide +kernel
theorem dX12_buildLoose_85 : decode cX12_buildLoose 85 = .ok (.iload 5, 2) := by decide +kernel
theorem dX12_buildLoose_87 : decode cX12_buildLoose 87 = .ok (.iaload, 1) := by decide +kernel
theorem dX12_buildLoose_88 : decode cX12_buildLoose 88 = .ok (.invokestatic 144, 3) := by decide +kernel
theorem dX12_buildLoose_91 : decode cX12_buildLoose 91 = .ok (.istore_n 3, 1) := by decide +kernel
theorem dX12_buildLoose_92 : decode cX12_buildLoose 92 = .ok (.iload_n 3, 1) := by decide +kernel
theorem dX12_buildLoose_93 : decode cX12_buildLoose 93 = .ok (.ifCond .eq 15, 3) := by decide +kernel
theorem dX12_buildLoose_96 : decode cX12_buildLoose 96 = .ok (.aload_n 0, 1) := by decide +kernel
theorem dX12_buildLoose_97 : decode cX12_buildLoose 97 = .ok (.iconst 1, 1) := by decide +kernel
theorem dX12_buildLoose_98 : decode cX12_buildLoose 98 = .ok (.aload_n 0, 1) := by decide +kernel
theorem dX12_buildLoose_99 : decode cX12_buildLoose 99 = .ok (.getfield 16, 3) := by decide +kernel
theorem dX12_buildLoose_102 : decode cX12_buildLoose 102 = .ok (.iload 4, 2) := by decide +kernel
theorem dX12_buildLoose_104 : decode cX12_buildLoose 104 = .ok (.iaload, 1) := by decide +kernel
theorem dX12_buildLoose_105 : decode cX12_buildLoose 105 = .ok (.invokevirtual 181, 3) := by decide +kernel
theorem dX12_buildLoose_108 : decode cX12_buildLoose 108 = .ok (.iinc 4 1, 3) := by decide +kernel
theorem dX12_buildLoose_111 : decode cX12_buildLoose 111 = .ok (.goto (-99), 3) := by decide +kernel
theorem dX12_buildLoose_114 : decode cX12_buildLoose 114 = .ok (.iload_n 3, 1) := by decide +kernel
theorem dX12_buildLoose_115 : decode cX12_buildLoose 115 = .ok (.ireturn, 1) := by decide +kernel
theorem dX12_amount_0 : decode cX12_amount 0 = .ok (.iload_n 1, 1) := by decide +kernel
theorem dX12_amount_1 : decode cX12_amount 1 = .ok (.i2l, 1) := by decide +kernel
theorem dX12_amount_2 : decode cX12_amount 2 = .ok (.lconst 0, 1) := by decide +kernel
theorem dX12_amount_3 : decode cX12_amount 3 = .ok (.ldc2_w 310, 3) := by decide +kernel
theorem dX12_amount_6 : decode cX12_amount 6 = .ok (.invokestatic 134, 3) := by decide +kernel
theorem dX12_amount_9 : decode cX12_amount 9 = .ok (.ifCond .eq 15, 3) := by decide +kernel
theorem dX12_amount_12 : decode cX12_amount 12 = .ok (.iload_n 2, 1) := by decide +kernel
theorem dX12_amount_13 : decode cX12_amount 13 = .ok (.i2l, 1) := by decide +kernel
theorem dX12_amount_14 : decode cX12_amount 14 = .ok (.lconst 0, 1) := by decide +kernel
theorem dX12_amount_15 : decode cX12_amount 15 = .ok (.ldc2_w 321, 3) := by decide +kernel
theorem dX12_amount_18 : decode cX12_amount 18 = .ok (.invokestatic 134, 3) := by decide +kernel
theorem dX12_amount_21 : decode cX12_amount 21 = .ok (.ifCond .ne 6, 3) := by decide +kernel
theorem dX12_amount_24 : decode cX12_amount 24 = .ok (.ldc 195, 2) := by decide +kernel
theorem dX12_amount_26 : decode cX12_amount 26 = .ok (.ireturn, 1) := by decide +kernel
theorem dX12_amount_27 : decode cX12_amount 27 = .ok (.iload_n 2, 1) := by decide +kernel
theorem dX12_amount_28 : decode cX12_amount 28 = .ok (.ifCond .ne 10, 3) := by decide +kernel
theorem dX12_amount_31 : decode cX12_amount 31 = .ok (.aload_n 0, 1) := by decide +kernel
theorem dX12_amount_32 : decode cX12_amount 32 = .ok (.iconst 0, 1) := by decide +kernel
theorem dX12_amount_33 : decode cX12_amount 33 = .ok (.iload_n 1, 1) := by decide +kernel
theorem dX12_amount_34 : decode cX12_amount 34 = .ok (.invokevirtual 323, 3) := by decide +kernel
theorem dX12_amount_37 : decode cX12_amount 37 = .ok (.ireturn, 1) := by decide +kernel
theorem dX12_amount_38 : decode cX12_amount 38 = .ok (.aload_n 0, 1) := by decide +kernel
theorem dX12_amount_39 : decode cX12_amount 39 = .ok (.invokevirtual 223, 3) := by decide +kernel
theorem dX12_amount_42 : decode cX12_amount 42 = .ok (.iconst 4, 1) := by decide +kernel
theorem dX12_amount_43 : decode cX12_amount 43 = .ok (.if_icmp .le 7, 3) := by decide +kernel
theorem dX12_amount_46 : decode cX12_amount 46 = .ok (.ldc_w 326, 3) := by decide +kernel
theorem dX12_amount_49 : decode cX12_amount 49 = .ok (.ireturn, 1) := by decide +kernel
theorem dX12_amount_50 : decode cX12_amount 50 = .ok (.iconst 1, 1) := by decide +kernel
theorem dX12_amount_51 : decode cX12_amount 51 = .ok (.istore_n 3, 1) := by decide +kernel
theorem dX12_amount_52 : decode cX12_amount 52 = .ok (.iconst 0, 1) := by decide +kernel
theorem dX12_amount_53 : decode cX12_amount 53 = .ok (.istore 4, 2) := by decide +kernel
theorem dX12_amount_55 : decode cX12_amount 55 = .ok (.iload 4, 2) := by decide +kernel
theorem dX12_amount_57 : decode cX12_amount 57 = .ok (.aload_n 0, 1) := by decide +kernel
theorem dX12_amount_58 : decode cX12_amount 58 = .ok (.invokevirtual 223, 3) := by decide +kernel
theorem dX12_amount_61 : decode cX12_amount 61 = .ok (.if_icmp .ge 13, 3) := by decide +kernel
theorem dX12_amount_64 : decode cX12_amount 64 = .ok (.iload_n 3, 1) := by decide +kernel
theorem dX12_amount_65 : decode cX12_amount 65 = .ok (.iconst 3, 1) := by decide +kernel
theorem dX12_amount_66 : decode cX12_amount 66 = .ok (.imul, 1) := by decide +kernel
theorem dX12_amount_67 : decode cX12_amount 67 = .ok (.istore_n 3, 1) := by decide +kernel
theorem dX12_amount_68 : decode cX12_amount 68 = .ok (.iinc 4 1, 3) := by decide +kernel
theorem dX12_amount_71 : decode cX12_amount 71 = .ok (.goto (-16), 3) := by decide +kernel
theorem dX12_amount_74 : decode cX12_amount 74 = .ok (.iconst (-1), 1) := by decide +kernel
theorem dX12_amount_75 : decode cX12_amount 75 = .ok (.istore 4, 2) := by decide +kernel
theorem dX12_amount_77 : decode cX12_amount 77 = .ok (.iconst 0, 1) := by decide +kernel
theorem dX12_amount_78 : decode cX12_amount 78 = .ok (.istore 5, 2) := by decide +kernel
theorem dX12_amount_80 : decode cX12_amount 80 = .ok (.iload 5, 2) := by decide +kernel
theorem dX12_amount_82 : decode cX12_amount 82 = .ok (.iload_n 3, 1) := by decide +kernel
theorem dX12_amount_83 : decode cX12_amount 83 = .ok (.if_icmp .ge 62, 3) := by decide +kernel
theorem dX12_amount_86 : decode cX12_amount 86 = .ok (.aload_n 0, 1) := by decide +kernel
theorem dX12_amount_87 : decode cX12_amount 87 = .ok (.iload 5, 2) := by decide +kernel
theorem dX12_amount_89 : decode cX12_amount 89 = .ok (.invokevirtual 327, 3) := by decide +kernel
theorem dX12_amount_92 : decode cX12_amount 92 = .ok (.ifCond .eq 47, 3) := by decide +kernel
theorem dX12_amount_95 : decode cX12_amount 95 = .ok (.aload_n 0, 1) := by decide +kernel
theorem dX12_amount_96 : decode cX12_amount 96 = .ok (.iconst 1, 1) := by decide +kernel
theorem dX12_amount_97 : decode cX12_amount 97 = .ok (.iload_n 1, 1) := by decide +kernel
theorem dX12_amount_98 : decode cX12_amount 98 = .ok (.invokevirtual 323, 3) := by decide +kernel
theorem dX12_amount_101 : decode cX12_amount 101 = .ok (.istore 6, 2) := by decide +kernel
theorem dX12_amount_103 : decode cX12_amount 103 = .ok (.iload 4, 2) := by decide +kernel
theorem dX12_amount_105 : decode cX12_amount 105 = .ok (.ifCond .lt 25, 3) := by decide +kernel
theorem dX12_amount_108 : decode cX12_amount 108 = .ok (.iload_n 2, 1) := by decide +kernel
theorem dX12_amount_109 : decode cX12_amount 109 = .ok (.iconst 1, 1) := by decide +kernel
theorem dX12_amount_110 : decode cX12_amount 110 = .ok (.if_icmp .ne 13, 3) := by decide +kernel
theorem dX12_amount_113 : decode cX12_amount 113 = .ok (.iload 6, 2) := by decide +kernel
theorem dX12_amount_115 : decode cX12_amount 115 = .ok (.iload 4, 2) := by decide +kernel
theorem dX12_amount_117 : decode cX12_amount 117 = .ok (.if_icmp .ge 18, 3) := by decide +kernel
theorem dX12_amount_120 : decode cX12_amount 120 = .ok (.goto 10, 3) := by decide +kernel
theorem dX12_amount_123 : decode cX12_amount 123 = .ok (.iload 6, 2) := by decide +kernel
theorem dX12_amount_125 : decode cX12_amount 125 = .ok (.iload 4, 2) := by decide +kernel
theorem dX12_amount_127 : decode cX12_amount 127 = .ok (.if_icmp .le 8, 3) := by decide +kernel
theorem dX12_amount_130 : decode cX12_amount 130 = .ok (.iload 6, 2) := by decide +kernel
theorem dX12_amount_132 : decode cX12_amount 132 = .ok (.goto 5, 3) := by decide +kernel
theorem dX12_amount_135 : decode cX12_amount 135 = .ok (.iload 4, 2) := by decide +kernel
theorem dX12_amount_137 : decode cX12_amount 137 = .ok (.istore 4, 2) := by decide +kernel
theorem dX12_amount_139 : decode cX12_amount 139 = .ok (.iinc 5 1, 3) := by decide +kernel
theorem dX12_amount_142 : decode cX12_amount 142 = .ok (.goto (-62), 3) := by decide +kernel
theorem dX12_amount_145 : decode cX12_amount 145 = .ok (.iload 4, 2) := by decide +kernel
theorem dX12_amount_147 : decode cX12_amount 147 = .ok (.ireturn, 1) := by decide +kernel
theorem dX12_youthOf_0 : decode cX12_youthOf 0 = .ok (.iconst 0, 1) := by decide +kernel
theorem dX12_youthOf_1 : decode cX12_youthOf 1 = .ok (.istore_n 2, 1) := by decide +kernel
theorem dX12_youthOf_2 : decode cX12_youthOf 2 = .ok (.iload_n 2, 1) := by decide +kernel
theorem dX12_youthOf_3 : decode cX12_youthOf 3 = .ok (.aload_n 0, 1) := by decide +kernel
theorem dX12_youthOf_4 : decode cX12_youthOf 4 = .ok (.getfield 184, 3) := by decide +kernel
theorem dX12_youthOf_7 : decode cX12_youthOf 7 = .ok (.if_icmp .ge 42, 3) := by decide +kernel
theorem dX12_youthOf_10 : decode cX12_youthOf 10 = .ok (.aload_n 0, 1) := by decide +kernel
theorem dX12_youthOf_11 : decode cX12_youthOf 11 = .ok (.getfield 16, 3) := by decide +kernel
theorem dX12_youthOf_14 : decode cX12_youthOf 14 = .ok (.iload_n 2, 1) := by decide +kernel
theorem dX12_youthOf_15 : decode cX12_youthOf 15 = .ok (.iaload, 1) := by decide +kernel
theorem dX12_youthOf_16 : decode cX12_youthOf 16 = .ok (.ifCond .eq 13, 3) := by decide +kernel
theorem dX12_youthOf_19 : decode cX12_youthOf 19 = .ok (.aload_n 0, 1) := by decide +kernel
theorem dX12_youthOf_20 : decode cX12_youthOf 20 = .ok (.getfield 16, 3) := by decide +kernel
theorem dX12_youthOf_23 : decode cX12_youthOf 23 = .ok (.iload_n 2, 1) := by decide +kernel
theorem dX12_youthOf_24 : decode cX12_youthOf 24 = .ok (.iaload, 1) := by decide +kernel
theorem dX12_youthOf_25 : decode cX12_youthOf 25 = .ok (.iconst 5, 1) := by decide +kernel
theorem dX12_youthOf_26 : decode cX12_youthOf 26 = .ok (.if_icmp .ne 17, 3) := by decide +kernel
theorem dX12_youthOf_29 : decode cX12_youthOf 29 = .ok (.aload_n 0, 1) := by decide +kernel
theorem dX12_youthOf_30 : decode cX12_youthOf 30 = .ok (.getfield 20, 3) := by decide +kernel
theorem dX12_youthOf_33 : decode cX12_youthOf 33 = .ok (.iconst 5, 1) := by decide +kernel
theorem dX12_youthOf_34 : decode cX12_youthOf 34 = .ok (.iload_n 2, 1) := by decide +kernel
theorem dX12_youthOf_35 : decode cX12_youthOf 35 = .ok (.imul, 1) := by decide +kernel
theorem dX12_youthOf_36 : decode cX12_youthOf 36 = .ok (.iaload, 1) := by decide +kernel
theorem dX12_youthOf_37 : decode cX12_youthOf 37 = .ok (.iload_n 1, 1) := by decide +kernel
theorem dX12_youthOf_38 : decode cX12_youthOf 38 = .ok (.if_icmp .ne 5, 3) := by decide +kernel
theorem dX12_youthOf_41 : decode cX12_youthOf 41 = .ok (.iload_n 2, 1) := by decide +kernel
theorem dX12_youthOf_42 : decode cX12_youthOf 42 = .ok (.ireturn, 1) := by decide +kernel
theorem dX12_youthOf_43 : decode cX12_youthOf 43 = .ok (.iinc 2 1, 3) := by decide +kernel
theorem dX12_youthOf_46 : decode cX12_youthOf 46 = .ok (.goto (-44), 3) := by decide +kernel
theorem dX12_youthOf_49 : decode cX12_youthOf 49 = .ok (.iconst (-1), 1) := by decide +kernel
theorem dX12_youthOf_50 : decode cX12_youthOf 50 = .ok (.ireturn, 1) := by decide +kernel
theorem dX12_youth_0 : decode cX12_youth 0 = .ok (.iload_n 1, 1) := by decide +kernel
theorem dX12_youth_1 : decode cX12_youth 1 = .ok (.i2l, 1) := by decide +kernel
theorem dX12_youth_2 : decode cX12_youth 2 = .ok (.lconst 0, 1) := by decide +kernel
theorem dX12_youth_3 : decode cX12_youth 3 = .ok (.ldc2_w 330, 3) := by decide +kernel
theorem dX12_youth_6 : decode cX12_youth 6 = .ok (.invokestatic 134, 3) := by decide +kernel
theorem dX12_youth_9 : decode cX12_youth 9 = .ok (.ifCond .eq 11, 3) := by decide +kernel
theorem dX12_youth_12 : decode cX12_youth 12 = .ok (.aload_n 0, 1) := by decide +kernel
theorem dX12_youth_13 : decode cX12_youth 13 = .ok (.iload_n 1, 1) := by decide +kernel
theorem dX12_youth_14 : decode cX12_youth 14 = .ok (.invokevirtual 332, 3) := by decide +kernel
theorem dX12_youth_17 : decode cX12_youth 17 = .ok (.goto 5, 3) := by decide +kernel
theorem dX12_youth_20 : decode cX12_youth 20 = .ok (.ldc 195, 2) := by decide +kernel
theorem dX12_youth_22 : decode cX12_youth 22 = .ok (.ireturn, 1) := by decide +kernel
theorem dX12_crossings_0 : decode cX12_crossings 0 = .ok (.iconst 0, 1) := by decide +kernel
theorem dX12_crossings_1 : decode cX12_crossings 1 = .ok (.istore_n 1, 1) := by decide +kernel
theorem dX12_crossings_2 : decode cX12_crossings 2 = .ok (.iload_n 1, 1) := by decide +kernel
theorem dX12_crossings_3 : decode cX12_crossings 3 = .ok (.bipush 16, 2) := by decide +kernel
theorem dX12_crossings_5 : decode cX12_crossings 5 = .ok (.if_icmp .ge 30, 3) := by decide +kernel
theorem dX12_crossings_8 : decode cX12_crossings 8 = .ok (.aload_n 0, 1) := by decide +kernel
theorem dX12_crossings_9 : decode cX12_crossings 9 = .ok (.getfield 43, 3) := by decide +kernel
theorem dX12_crossings_12 : decode cX12_crossings 12 = .ok (.iload_n 1, 1) := by decide +kernel
theorem dX12_crossings_13 : decode cX12_crossings 13 = .ok (.iload_n 1, 1) := by decide +kernel
theorem dX12_crossings_14 : decode cX12_crossings 14 = .ok (.bipush 15, 2) := by decide +kernel
theorem dX12_crossings_16 : decode cX12_crossings 16 = .ok (.if_icmp .ne 7, 3) := by decide +kernel
theorem dX12_crossings_19 : decode cX12_crossings 19 = .ok (.iconst (-1), 1) := by decide +kernel
theorem dX12_crossings_20 : decode cX12_crossings 20 = .ok (.goto 8, 3) := by decide +kernel
theorem dX12_crossings_23 : decode cX12_crossings 23 = .ok (.aload_n 0, 1) := by decide +kernel
theorem dX12_crossings_24 : decode cX12_crossings 24 = .ok (.iload_n 1, 1) := by decide +kernel
theorem dX12_crossings_25 : decode cX12_crossings 25 = .ok (.invokevirtual 332, 3) := by decide +kernel
theorem dX12_crossings_28 : decode cX12_crossings 28 = .ok (.iastore, 1) := by decide +kernel
theorem dX12_crossings_29 : decode cX12_crossings 29 = .ok (.iinc 1 1, 3) := by decide +kernel
theorem dX12_crossings_32 : decode cX12_crossings 32 = .ok (.goto (-30), 3) := by decide +kernel
theorem dX12_crossings_35 : decode cX12_crossings 35 = .ok (.iconst 0, 1) := by decide +kernel
theorem dX12_crossings_36 : decode cX12_crossings 36 = .ok (.istore_n 1, 1) := by decide +kernel
theorem dX12_crossings_37 : decode cX12_crossings 37 = .ok (.iconst 0, 1) := by decide +kernel
theorem dX12_crossings_38 : decode cX12_crossings 38 = .ok (.istore_n 2, 1) := by decide +kernel
theorem dX12_crossings_39 : decode cX12_crossings 39 = .ok (.iload_n 2, 1) := by decide +kernel
theorem dX12_crossings_40 : decode cX12_crossings 40 = .ok (.bipush 64, 2) := by decide +kernel
theorem dX12_crossings_42 : decode cX12_crossings 42 = .ok (.if_icmp .ge 84, 3) := by decide +kernel
theorem dX12_crossings_45 : decode cX12_crossings 45 = .ok (.bipush (-39), 2) := by decide +kernel
theorem dX12_crossings_47 : decode cX12_crossings 47 = .ok (.istore_n 3, 1) := by decide +kernel
theorem dX12_crossings_48 : decode cX12_crossings 48 = .ok (.iload_n 3, 1) := by decide +kernel
theorem dX12_crossings_49 : decode cX12_crossings 49 = .ok (.bipush 40, 2) := by decide +kernel
theorem dX12_crossings_51 : decode cX12_crossings 51 = .ok (.if_icmp .ge 69, 3) := by decide +kernel
theorem dX12_crossings_54 : decode cX12_crossings 54 = .ok (.aload_n 0, 1) := by decide +kernel
theorem dX12_crossings_55 : decode cX12_crossings 55 = .ok (.iconst 0, 1) := by decide +kernel
theorem dX12_crossings_56 : decode cX12_crossings 56 = .ok (.iload_n 2, 1) := by decide +kernel
theorem dX12_crossings_57 : decode cX12_crossings 57 = .ok (.iload_n 3, 1) := by decide +kernel
theorem dX12_crossings_58 : decode cX12_crossings 58 = .ok (.iconst 1, 1) := by decide +kernel
theorem dX12_crossings_59 : decode cX12_crossings 59 = .ok (.isub, 1) := by decide +kernel
theorem dX12_crossings_60 : decode cX12_crossings 60 = .ok (.invokevirtual 127, 3) := by decide +kernel
theorem dX12_crossings_63 : decode cX12_crossings 63 = .ok (.istore 4, 2) := by decide +kernel
theorem dX12_crossings_65 : decode cX12_crossings 65 = .ok (.aload_n 0, 1) := by decide +kernel
theorem dX12_crossings_66 : decode cX12_crossings 66 = .ok (.iconst 0, 1) := by decide +kernel
theorem dX12_crossings_67 : decode cX12_crossings 67 = .ok (.iload_n 2, 1) := by decide +kernel
theorem dX12_crossings_68 : decode cX12_crossings 68 = .ok (.iload_n 3, 1) := by decide +kernel
theorem dX12_crossings_69 : decode cX12_crossings 69 = .ok (.invokevirtual 127, 3) := by decide +kernel
theorem dX12_crossings_72 : decode cX12_crossings 72 = .ok (.istore 5, 2) := by decide +kernel
theorem dX12_crossings_74 : decode cX12_crossings 74 = .ok (.iload_n 1, 1) := by decide +kernel
theorem dX12_crossings_75 : decode cX12_crossings 75 = .ok (.iload 4, 2) := by decide +kernel
theorem dX12_crossings_77 : decode cX12_crossings 77 = .ok (.iconst (-1), 1) := by decide +kernel
theorem dX12_crossings_78 : decode cX12_crossings 78 = .ok (.if_icmp .eq 30, 3) := by decide +kernel
theorem dX12_crossings_81 : decode cX12_crossings 81 = .ok (.iload 5, 2) := by decide +kernel
theorem dX12_crossings_83 : decode cX12_crossings 83 = .ok (.iconst (-1), 1) := by decide +kernel
theorem dX12_crossings_84 : decode cX12_crossings 84 = .ok (.if_icmp .eq 24, 3) := by decide +kernel
theorem dX12_crossings_87 : decode cX12_crossings 87 = .ok (.aload_n 0, 1) := by decide +kernel
theorem dX12_crossings_88 : decode cX12_crossings 88 = .ok (.getfield 43, 3) := by decide +kernel
theorem dX12_crossings_91 : decode cX12_crossings 91 = .ok (.iload 4, 2) := by decide +kernel
theorem dX12_crossings_93 : decode cX12_crossings 93 = .ok (.iaload, 1) := by decide +kernel
theorem dX12_crossings_94 : decode cX12_crossings 94 = .ok (.aload_n 0, 1) := by decide +kernel
theorem dX12_crossings_95 : decode cX12_crossings 95 = .ok (.getfield 43, 3) := by decide +kernel
theorem dX12_crossings_98 : decode cX12_crossings 98 = .ok (.iload 5, 2) := by decide +kernel
theorem dX12_crossings_100 : decode cX12_crossings 100 = .ok (.iaload, 1) := by decide +kernel
theorem dX12_crossings_101 : decode cX12_crossings 101 = .ok (.if_icmp .le 7, 3) := by decide +kernel
theorem dX12_crossings_104 : decode cX12_crossings 104 = .ok (.iconst 1, 1) := by decide +kernel
theorem dX12_crossings_105 : decode cX12_crossings 105 = .ok (.goto 4, 3) := by decide +kernel
theorem dX12_crossings_108 : decode cX12_crossings 108 = .ok (.iconst 0, 1) := by decide +kernel
theorem dX12_crossings_109 : decode cX12_crossings 109 = .ok (.invokestatic 207, 3) := by decide +kernel
theorem dX12_crossings_112 : decode cX12_crossings 112 = .ok (.iadd, 1) := by decide +kernel
theorem dX12_crossings_113 : decode cX12_crossings 113 = .ok (.istore_n 1, 1) := by decide +kernel
theorem dX12_crossings_114 : decode cX12_crossings 114 = .ok (.iinc 3 1, 3) := by decide +kernel
theorem dX12_crossings_117 : decode cX12_crossings 117 = .ok (.goto (-69), 3) := by decide +kernel
theorem dX12_crossings_120 : decode cX12_crossings 120 = .ok (.iinc 2 1, 3) := by decide +kernel
theorem dX12_crossings_123 : decode cX12_crossings 123 = .ok (.goto (-84), 3) := by decide +kernel
theorem dX12_crossings_126 : decode cX12_crossings 126 = .ok (.iload_n 1, 1) := by decide +kernel
theorem dX12_crossings_127 : decode cX12_crossings 127 = .ok (.ireturn, 1) := by decide +kernel
theorem dX12_keep_0 : decode cX12_keep 0 = .ok (.iload_n 1, 1) := by decide +kernel
theorem dX12_keep_1 : decode cX12_keep 1 = .ok (.i2l, 1) := by decide +kernel
theorem dX12_keep_2 : decode cX12_keep 2 = .ok (.lconst 0, 1) := by decide +kernel
theorem dX12_keep_3 : decode cX12_keep 3 = .ok (.ldc2_w 335, 3) := by decide +kernel
theorem dX12_keep_6 : decode cX12_keep 6 = .ok (.invokestatic 134, 3) := by decide +kernel
theorem dX12_keep_9 : decode cX12_keep 9 = .ok (.ifCond .ne 6, 3) := by decide +kernel
theorem dX12_keep_12 : decode cX12_keep 12 = .ok (.ldc 195, 2) := by decide +kernel
theorem dX12_keep_14 : decode cX12_keep 14 = .ok (.ireturn, 1) := by decide +kernel
theorem dX12_keep_15 : decode cX12_keep 15 = .ok (.aload_n 0, 1) := by decide +kernel
theorem dX12_keep_16 : decode cX12_keep 16 = .ok (.getfield 46, 3) := by decide +kernel
theorem dX12_keep_19 : decode cX12_keep 19 = .ok (.iload_n 1, 1) := by decide +kernel
theorem dX12_keep_20 : decode cX12_keep 20 = .ok (.iconst 1, 1) := by decide +kernel
theorem dX12_keep_21 : decode cX12_keep 21 = .ok (.bastore, 1) := by decide +kernel
theorem dX12_keep_22 : decode cX12_keep 22 = .ok (.aload_n 0, 1) := by decide +kernel
theorem dX12_keep_23 : decode cX12_keep 23 = .ok (.getfield 49, 3) := by decide +kernel
theorem dX12_keep_26 : decode cX12_keep 26 = .ok (.iload_n 1, 1) := by decide +kernel
theorem dX12_keep_27 : decode cX12_keep 27 = .ok (.aload_n 0, 1) := by decide +kernel
theorem dX12_keep_28 : decode cX12_keep 28 = .ok (.getfield 184, 3) := by decide +kernel
theorem dX12_keep_31 : decode cX12_keep 31 = .ok (.iastore, 1) := by decide +kernel
theorem dX12_keep_32 : decode cX12_keep 32 = .ok (.iconst 0, 1) := by decide +kernel
theorem dX12_keep_33 : decode cX12_keep 33 = .ok (.istore_n 2, 1) := by decide +kernel
theorem dX12_keep_34 : decode cX12_keep 34 = .ok (.iload_n 2, 1) := by decide +kernel
theorem dX12_keep_35 : decode cX12_keep 35 = .ok (.aload_n 0, 1) := by decide +kernel
theorem dX12_keep_36 : decode cX12_keep 36 = .ok (.getfield 184, 3) := by decide +kernel
theorem dX12_keep_39 : decode cX12_keep 39 = .ok (.if_icmp .ge 81, 3) := by decide +kernel
theorem dX12_keep_42 : decode cX12_keep 42 = .ok (.aload_n 0, 1) := by decide +kernel
theorem dX12_keep_43 : decode cX12_keep 43 = .ok (.getfield 52, 3) := by decide +kernel
theorem dX12_keep_46 : decode cX12_keep 46 = .ok (.bipush 16, 2) := by decide +kernel
theorem dX12_keep_48 : decode cX12_keep 48 = .ok (.iload_n 1, 1) := by decide +kernel
theorem dX12_keep_49 : decode cX12_keep 49 = .ok (.imul, 1) := by decide +kernel
theorem dX12_keep_50 : decode cX12_keep 50 = .ok (.iload_n 2, 1) := by decide +kernel
theorem dX12_keep_51 : decode cX12_keep 51 = .ok (.iadd, 1) := by decide +kernel
theorem dX12_keep_52 : decode cX12_keep 52 = .ok (.aload_n 0, 1) := by decide +kernel
theorem dX12_keep_53 : decode cX12_keep 53 = .ok (.getfield 16, 3) := by decide +kernel
theorem dX12_keep_56 : decode cX12_keep 56 = .ok (.iload_n 2, 1) := by decide +kernel
theorem dX12_keep_57 : decode cX12_keep 57 = .ok (.iaload, 1) := by decide +kernel
theorem dX12_keep_58 : decode cX12_keep 58 = .ok (.iastore, 1) := by decide +kernel
theorem dX12_keep_59 : decode cX12_keep 59 = .ok (.aload_n 0, 1) := by decide +kernel
theorem dX12_keep_60 : decode cX12_keep 60 = .ok (.getfield 58, 3) := by decide +kernel
theorem dX12_keep_63 : decode cX12_keep 63 = .ok (.bipush 16, 2) := by decide +kernel
theorem dX12_keep_65 : decode cX12_keep 65 = .ok (.iload_n 1, 1) := by decide +kernel
theorem dX12_keep_66 : decode cX12_keep 66 = .ok (.imul, 1) := by decide +kernel
theorem dX12_keep_67 : decode cX12_keep 67 = .ok (.iload_n 2, 1) := by decide +kernel
theorem dX12_keep_68 : decode cX12_keep 68 = .ok (.iadd, 1) := by decide +kernel
theorem dX12_keep_69 : decode cX12_keep 69 = .ok (.aload_n 0, 1) := by decide +kernel
theorem dX12_keep_70 : decode cX12_keep 70 = .ok (.getfield 23, 3) := by decide +kernel
theorem dX12_keep_73 : decode cX12_keep 73 = .ok (.iload_n 2, 1) := by decide +kernel
theorem dX12_keep_74 : decode cX12_keep 74 = .ok (.baload, 1) := by decide +kernel
theorem dX12_keep_75 : decode cX12_keep 75 = .ok (.bastore, 1) := by decide +kernel
theorem dX12_keep_76 : decode cX12_keep 76 = .ok (.iconst 0, 1) := by decide +kernel
theorem dX12_keep_77 : decode cX12_keep 77 = .ok (.istore_n 3, 1) := by decide +kernel
theorem dX12_keep_78 : decode cX12_keep 78 = .ok (.iload_n 3, 1) := by decide +kernel
theorem dX12_keep_79 : decode cX12_keep 79 = .ok (.iconst 5, 1) := by decide +kernel
theorem dX12_keep_80 : decode cX12_keep 80 = .ok (.if_icmp .ge 34, 3) := by decide +kernel
theorem dX12_keep_83 : decode cX12_keep 83 = .ok (.aload_n 0, 1) := by decide +kernel
theorem dX12_keep_84 : decode cX12_keep 84 = .ok (.getfield 55, 3) := by decide +kernel
theorem dX12_keep_87 : decode cX12_keep 87 = .ok (.iconst 5, 1) := by decide +kernel
theorem dX12_keep_88 : decode cX12_keep 88 = .ok (.bipush 16, 2) := by decide +kernel
theorem dX12_keep_90 : decode cX12_keep 90 = .ok (.iload_n 1, 1) := by decide +kernel
theorem dX12_keep_91 : decode cX12_keep 91 = .ok (.imul, 1) := by decide +kernel
theorem dX12_keep_92 : decode cX12_keep 92 = .ok (.iload_n 2, 1) := by decide +kernel
theorem dX12_keep_93 : decode cX12_keep 93 = .ok (.iadd, 1) := by decide +kernel
theorem dX12_keep_94 : decode cX12_keep 94 = .ok (.imul, 1) := by decide +kernel
theorem dX12_keep_95 : decode cX12_keep 95 = .ok (.iload_n 3, 1) := by decide +kernel
theorem dX12_keep_96 : decode cX12_keep 96 = .ok (.iadd, 1) := by decide +kernel
theorem dX12_keep_97 : decode cX12_keep 97 = .ok (.aload_n 0, 1) := by decide +kernel
theorem dX12_keep_98 : decode cX12_keep 98 = .ok (.getfield 20, 3) := by decide +kernel
theorem dX12_keep_101 : decode cX12_keep 101 = .ok (.iconst 5, 1) := by decide +kernel
theorem dX12_keep_102 : decode cX12_keep 102 = .ok (.iload_n 2, 1) := by decide +kernel
theorem dX12_keep_103 : decode cX12_keep 103 = .ok (.imul, 1) := by decide +kernel
theorem dX12_keep_104 : decode cX12_keep 104 = .ok (.iload_n 3, 1) := by decide +kernel
theorem dX12_keep_105 : decode cX12_keep 105 = .ok (.iadd, 1) := by decide +kernel
theorem dX12_keep_106 : decode cX12_keep 106 = .ok (.iaload, 1) := by decide +kernel
theorem dX12_keep_107 : decode cX12_keep 107 = .ok (.iastore, 1) := by decide +kernel
theorem dX12_keep_108 : decode cX12_keep 108 = .ok (.iinc 3 1, 3) := by decide +kernel
theorem dX12_keep_111 : decode cX12_keep 111 = .ok (.goto (-33), 3) := by decide +kernel
theorem dX12_keep_114 : decode cX12_keep 114 = .ok (.iinc 2 1, 3) := by decide +kernel
theorem dX12_keep_117 : decode cX12_keep 117 = .ok (.goto (-83), 3) := by decide +kernel
theorem dX12_keep_120 : decode cX12_keep 120 = .ok (.aload_n 0, 1) := by decide +kernel
theorem dX12_keep_121 : decode cX12_keep 121 = .ok (.getfield 184, 3) := by decide +kernel
theorem dX12_keep_124 : decode cX12_keep 124 = .ok (.ireturn, 1) := by decide +kernel
theorem dX12_noVersion_0 : decode cX12_noVersion 0 = .ok (.iload_n 1, 1) := by decide +kernel
theorem dX12_noVersion_1 : decode cX12_noVersion 1 = .ok (.i2l, 1) := by decide +kernel
theorem dX12_noVersion_2 : decode cX12_noVersion 2 = .ok (.lconst 0, 1) := by decide +kernel
theorem dX12_noVersion_3 : decode cX12_noVersion 3 = .ok (.ldc2_w 335, 3) := by decide +kernel
theorem dX12_noVersion_6 : decode cX12_noVersion 6 = .ok (.invokestatic 134, 3) := by decide +kernel
theorem dX12_noVersion_9 : decode cX12_noVersion 9 = .ok (.ifCond .eq 12, 3) := by decide +kernel
theorem dX12_noVersion_12 : decode cX12_noVersion 12 = .ok (.aload_n 0, 1) := by decide +kernel
theorem dX12_noVersion_13 : decode cX12_noVersion 13 = .ok (.getfield 46, 3) := by decide +kernel
theorem dX12_noVersion_16 : decode cX12_noVersion 16 = .ok (.iload_n 1, 1) := by decide +kernel
theorem dX12_noVersion_17 : decode cX12_noVersion 17 = .ok (.baload, 1) := by decide +kernel
theorem dX12_noVersion_18 : decode cX12_noVersion 18 = .ok (.ifCond .ne 7, 3) := by decide +kernel
theorem dX12_noVersion_21 : decode cX12_noVersion 21 = .ok (.iconst 1, 1) := by decide +kernel
theorem dX12_noVersion_22 : decode cX12_noVersion 22 = .ok (.goto 4, 3) := by decide +kernel
theorem dX12_noVersion_25 : decode cX12_noVersion 25 = .ok (.iconst 0, 1) := by decide +kernel
theorem dX12_noVersion_26 : decode cX12_noVersion 26 = .ok (.ireturn, 1) := by decide +kernel
theorem dX12_giveKept_0 : decode cX12_giveKept 0 = .ok (.iconst 0, 1) := by decide +kernel
theorem dX12_giveKept_1 : decode cX12_giveKept 1 = .ok (.istore_n 3, 1) := by decide +kernel
theorem dX12_giveKept_2 : decode cX12_giveKept 2 = .ok (.iload_n 3, 1) := by decide +kernel
theorem dX12_giveKept_3 : decode cX12_giveKept 3 = .ok (.iconst 5, 1) := by decide +kernel
theorem dX12_giveKept_4 : decode cX12_giveKept 4 = .ok (.if_icmp .ge 30, 3) := by decide +kernel
theorem dX12_giveKept_7 : decode cX12_giveKept 7 = .ok (.aload_n 0, 1) := by decide +kernel
theorem dX12_giveKept_8 : decode cX12_giveKept 8 = .ok (.getfield 27, 3) := by decide +kernel
theorem dX12_giveKept_11 : decode cX12_giveKept 11 = .ok (.iload_n 3, 1) := by decide +kernel
theorem dX12_giveKept_12 : decode cX12_giveKept 12 = .ok (.aload_n 0, 1) := by decide +kernel
theorem dX12_giveKept_13 : decode cX12_giveKept 13 = .ok (.getfield 55, 3) := by decide +kernel
theorem dX12_giveKept_16 : decode cX12_giveKept 16 = .ok (.iconst 5, 1) := by decide +kernel
theorem dX12_giveKept_17 : decode cX12_giveKept 17 = .ok (.bipush 16, 2) := by decide +kernel
theorem dX12_giveKept_19 : decode cX12_giveKept 19 = .ok (.iload_n 1, 1) := by decide +kernel
theorem dX12_giveKept_20 : decode cX12_giveKept 20 = .ok (.imul, 1) := by decide +kernel
theorem dX12_giveKept_21 : decode cX12_giveKept 21 = .ok (.iload_n 2, 1) := by decide +kernel
theorem dX12_giveKept_22 : decode cX12_giveKept 22 = .ok (.iadd, 1) := by decide +kernel
theorem dX12_giveKept_23 : decode cX12_giveKept 23 = .ok (.imul, 1) := by decide +kernel
theorem dX12_giveKept_24 : decode cX12_giveKept 24 = .ok (.iload_n 3, 1) := by decide +kernel
theorem dX12_giveKept_25 : decode cX12_giveKept 25 = .ok (.iadd, 1) := by decide +kernel
theorem dX12_giveKept_26 : decode cX12_giveKept 26 = .ok (.iaload, 1) := by decide +kernel
theorem dX12_giveKept_27 : decode cX12_giveKept 27 = .ok (.iastore, 1) := by decide +kernel
theorem dX12_giveKept_28 : decode cX12_giveKept 28 = .ok (.iinc 3 1, 3) := by decide +kernel
theorem dX12_giveKept_31 : decode cX12_giveKept 31 = .ok (.goto (-29), 3) := by decide +kernel
theorem dX12_giveKept_34 : decode cX12_giveKept 34 = .ok (.return_, 1) := by decide +kernel
theorem dX12_back_0 : decode cX12_back 0 = .ok (.aload_n 0, 1) := by decide +kernel
theorem dX12_back_1 : decode cX12_back 1 = .ok (.iload_n 1, 1) := by decide +kernel
theorem dX12_back_2 : decode cX12_back 2 = .ok (.invokevirtual 337, 3) := by decide +kernel
theorem dX12_back_5 : decode cX12_back 5 = .ok (.ifCond .eq 6, 3) := by decide +kernel
theorem dX12_back_8 : decode cX12_back 8 = .ok (.ldc 204, 2) := by decide +kernel
theorem dX12_back_10 : decode cX12_back 10 = .ok (.ireturn, 1) := by decide +kernel
theorem dX12_back_11 : decode cX12_back 11 = .ok (.aload_n 0, 1) := by decide +kernel
theorem dX12_back_12 : decode cX12_back 12 = .ok (.iconst 0, 1) := by decide +kernel
theorem dX12_back_13 : decode cX12_back 13 = .ok (.putfield 184, 3) := by decide +kernel
theorem dX12_back_16 : decode cX12_back 16 = .ok (.iconst 0, 1) := by decide +kernel
theorem dX12_back_17 : decode cX12_back 17 = .ok (.istore_n 2, 1) := by decide +kernel
theorem dX12_back_18 : decode cX12_back 18 = .ok (.iload_n 2, 1) := by decide +kernel
theorem dX12_back_19 : decode cX12_back 19 = .ok (.aload_n 0, 1) := by decide +kernel
theorem dX12_back_20 : decode cX12_back 20 = .ok (.getfield 49, 3) := by decide +kernel
theorem dX12_back_23 : decode cX12_back 23 = .ok (.iload_n 1, 1) := by decide +kernel
theorem dX12_back_24 : decode cX12_back 24 = .ok (.iaload, 1) := by decide +kernel
theorem dX12_back_25 : decode cX12_back 25 = .ok (.if_icmp .ge 47, 3) := by decide +kernel
theorem dX12_back_28 : decode cX12_back 28 = .ok (.aload_n 0, 1) := by decide +kernel
theorem dX12_back_29 : decode cX12_back 29 = .ok (.iload_n 1, 1) := by decide +kernel
theorem dX12_back_30 : decode cX12_back 30 = .ok (.iload_n 2, 1) := by decide +kernel
theorem dX12_back_31 : decode cX12_back 31 = .ok (.invokevirtual 340, 3) := by decide +kernel
theorem dX12_back_34 : decode cX12_back 34 = .ok (.aload_n 0, 1) := by decide +kernel
theorem dX12_back_35 : decode cX12_back 35 = .ok (.aload_n 0, 1) := by decide +kernel
theorem dX12_back_36 : decode cX12_back 36 = .ok (.getfield 52, 3) := by decide +kernel
theorem dX12_back_39 : decode cX12_back 39 = .ok (.bipush 16, 2) := by decide +kernel
theorem dX12_back_41 : decode cX12_back 41 = .ok (.iload_n 1, 1) := by decide +kernel
theorem dX12_back_42 : decode cX12_back 42 = .ok (.imul, 1) := by decide +kernel
theorem dX12_back_43 : decode cX12_back 43 = .ok (.iload_n 2, 1) := by decide +kernel
theorem dX12_back_44 : decode cX12_back 44 = .ok (.iadd, 1) := by decide +kernel
theorem dX12_back_45 : decode cX12_back 45 = .ok (.iaload, 1) := by decide +kernel
theorem dX12_back_46 : decode cX12_back 46 = .ok (.invokevirtual 197, 3) := by decide +kernel
theorem dX12_back_49 : decode cX12_back 49 = .ok (.aload_n 0, 1) := by decide +kernel
theorem dX12_back_50 : decode cX12_back 50 = .ok (.getfield 23, 3) := by decide +kernel
theorem dX12_back_53 : decode cX12_back 53 = .ok (.iload_n 2, 1) := by decide +kernel
theorem dX12_back_54 : decode cX12_back 54 = .ok (.aload_n 0, 1) := by decide +kernel
theorem dX12_back_55 : decode cX12_back 55 = .ok (.getfield 58, 3) := by decide +kernel
theorem dX12_back_58 : decode cX12_back 58 = .ok (.bipush 16, 2) := by decide +kernel
theorem dX12_back_60 : decode cX12_back 60 = .ok (.iload_n 1, 1) := by decide +kernel
theorem dX12_back_61 : decode cX12_back 61 = .ok (.imul, 1) := by decide +kernel
theorem dX12_back_62 : decode cX12_back 62 = .ok (.iload_n 2, 1) := by decide +kernel
theorem dX12_back_63 : decode cX12_back 63 = .ok (.iadd, 1) := by decide +kernel
theorem dX12_back_64 : decode cX12_back 64 = .ok (.baload, 1) := by decide +kernel
theorem dX12_back_65 : decode cX12_back 65 = .ok (.bastore, 1) := by decide +kernel
theorem dX12_back_66 : decode cX12_back 66 = .ok (.iinc 2 1, 3) := by decide +kernel
theorem dX12_back_69 : decode cX12_back 69 = .ok (.goto (-51), 3) := by decide +kernel
theorem dX12_back_72 : decode cX12_back 72 = .ok (.aload_n 0, 1) := by decide +kernel
theorem dX12_back_73 : decode cX12_back 73 = .ok (.aload_n 0, 1) := by decide +kernel
theorem dX12_back_74 : decode cX12_back 74 = .ok (.getfield 184, 3) := by decide +kernel
theorem dX12_back_77 : decode cX12_back 77 = .ok (.invokevirtual 119, 3) := by decide +kernel
theorem dX12_back_80 : decode cX12_back 80 = .ok (.aload_n 0, 1) := by decide +kernel
theorem dX12_back_81 : decode cX12_back 81 = .ok (.getfield 184, 3) := by decide +kernel
theorem dX12_back_84 : decode cX12_back 84 = .ok (.ireturn, 1) := by decide +kernel
theorem dX12_isSame_0 : decode cX12_isSame 0 = .ok (.iload_n 2, 1) := by decide +kernel
theorem dX12_isSame_1 : decode cX12_isSame 1 = .ok (.aload_n 0, 1) := by decide +kernel
theorem dX12_isSame_2 : decode cX12_isSame 2 = .ok (.getfield 184, 3) := by decide +kernel
theorem dX12_isSame_5 : decode cX12_isSame 5 = .ok (.if_icmp .ge 37, 3) := by decide +kernel
theorem dX12_isSame_8 : decode cX12_isSame 8 = .ok (.iload_n 2, 1) := by decide +kernel
theorem dX12_isSame_9 : decode cX12_isSame 9 = .ok (.aload_n 0, 1) := by decide +kernel
theorem dX12_isSame_10 : decode cX12_isSame 10 = .ok (.getfield 49, 3) := by decide +kernel
theorem dX12_isSame_13 : decode cX12_isSame 13 = .ok (.iload_n 1, 1) := by decide +kernel
theorem dX12_isSame_14 : decode cX12_isSame 14 = .ok (.iaload, 1) := by decide +kernel
theorem dX12_isSame_15 : decode cX12_isSame 15 = .ok (.if_icmp .ge 27, 3) := by decide +kernel
theorem dX12_isSame_18 : decode cX12_isSame 18 = .ok (.aload_n 0, 1) := by decide +kernel
theorem dX12_isSame_19 : decode cX12_isSame 19 = .ok (.getfield 16, 3) := by decide +kernel
theorem dX12_isSame_22 : decode cX12_isSame 22 = .ok (.iload_n 2, 1) := by decide +kernel
theorem dX12_isSame_23 : decode cX12_isSame 23 = .ok (.iaload, 1) := by decide +kernel
theorem dX12_isSame_24 : decode cX12_isSame 24 = .ok (.aload_n 0, 1) := by decide +kernel
theorem dX12_isSame_25 : decode cX12_isSame 25 = .ok (.getfield 52, 3) := by decide +kernel
theorem dX12_isSame_28 : decode cX12_isSame 28 = .ok (.bipush 16, 2) := by decide +kernel
theorem dX12_isSame_30 : decode cX12_isSame 30 = .ok (.iload_n 1, 1) := by decide +kernel
theorem dX12_isSame_31 : decode cX12_isSame 31 = .ok (.imul, 1) := by decide +kernel
theorem dX12_isSame_32 : decode cX12_isSame 32 = .ok (.iload_n 2, 1) := by decide +kernel
theorem dX12_isSame_33 : decode cX12_isSame 33 = .ok (.iadd, 1) := by decide +kernel
theorem dX12_isSame_34 : decode cX12_isSame 34 = .ok (.iaload, 1) := by decide +kernel
theorem dX12_isSame_35 : decode cX12_isSame 35 = .ok (.if_icmp .ne 7, 3) := by decide +kernel
theorem dX12_isSame_38 : decode cX12_isSame 38 = .ok (.iconst 1, 1) := by decide +kernel
theorem dX12_isSame_39 : decode cX12_isSame 39 = .ok (.goto 4, 3) := by decide +kernel
theorem dX12_isSame_42 : decode cX12_isSame 42 = .ok (.iconst 0, 1) := by decide +kernel
theorem dX12_isSame_43 : decode cX12_isSame 43 = .ok (.istore_n 3, 1) := by decide +kernel
theorem dX12_isSame_44 : decode cX12_isSame 44 = .ok (.iconst 0, 1) := by decide +kernel
theorem dX12_isSame_45 : decode cX12_isSame 45 = .ok (.istore 4, 2) := by decide +kernel
theorem dX12_isSame_47 : decode cX12_isSame 47 = .ok (.iload 4, 2) := by decide +kernel
theorem dX12_isSame_49 : decode cX12_isSame 49 = .ok (.iconst 5, 1) := by decide +kernel
theorem dX12_isSame_50 : decode cX12_isSame 50 = .ok (.if_icmp .ge 49, 3) := by decide +kernel
theorem dX12_isSame_53 : decode cX12_isSame 53 = .ok (.iload_n 3, 1) := by decide +kernel
theorem dX12_isSame_54 : decode cX12_isSame 54 = .ok (.ifCond .eq 45, 3) := by decide +kernel
theorem dX12_isSame_57 : decode cX12_isSame 57 = .ok (.aload_n 0, 1) := by decide +kernel
theorem dX12_isSame_58 : decode cX12_isSame 58 = .ok (.getfield 20, 3) := by decide +kernel
theorem dX12_isSame_61 : decode cX12_isSame 61 = .ok (.iconst 5, 1) := by decide +kernel
theorem dX12_isSame_62 : decode cX12_isSame 62 = .ok (.iload_n 2, 1) := by decide +kernel
theorem dX12_isSame_63 : decode cX12_isSame 63 = .ok (.imul, 1) := by decide +kernel
theorem dX12_isSame_64 : decode cX12_isSame 64 = .ok (.iload 4, 2) := by decide +kernel
theorem dX12_isSame_66 : decode cX12_isSame 66 = .ok (.iadd, 1) := by decide +kernel
theorem dX12_isSame_67 : decode cX12_isSame 67 = .ok (.iaload, 1) := by decide +kernel
theorem dX12_isSame_68 : decode cX12_isSame 68 = .ok (.aload_n 0, 1) := by decide +kernel
theorem dX12_isSame_69 : decode cX12_isSame 69 = .ok (.getfield 55, 3) := by decide +kernel
theorem dX12_isSame_72 : decode cX12_isSame 72 = .ok (.iconst 5, 1) := by decide +kernel
theorem dX12_isSame_73 : decode cX12_isSame 73 = .ok (.bipush 16, 2) := by decide +kernel
theorem dX12_isSame_75 : decode cX12_isSame 75 = .ok (.iload_n 1, 1) := by decide +kernel
theorem dX12_isSame_76 : decode cX12_isSame 76 = .ok (.imul, 1) := by decide +kernel
theorem dX12_isSame_77 : decode cX12_isSame 77 = .ok (.iload_n 2, 1) := by decide +kernel
theorem dX12_isSame_78 : decode cX12_isSame 78 = .ok (.iadd, 1) := by decide +kernel
theorem dX12_isSame_79 : decode cX12_isSame 79 = .ok (.imul, 1) := by decide +kernel
theorem dX12_isSame_80 : decode cX12_isSame 80 = .ok (.iload 4, 2) := by decide +kernel
theorem dX12_isSame_82 : decode cX12_isSame 82 = .ok (.iadd, 1) := by decide +kernel
theorem dX12_isSame_83 : decode cX12_isSame 83 = .ok (.iaload, 1) := by decide +kernel
theorem dX12_isSame_84 : decode cX12_isSame 84 = .ok (.if_icmp .ne 7, 3) := by decide +kernel
theorem dX12_isSame_87 : decode cX12_isSame 87 = .ok (.iconst 1, 1) := by decide +kernel
theorem dX12_isSame_88 : decode cX12_isSame 88 = .ok (.goto 4, 3) := by decide +kernel
theorem dX12_isSame_91 : decode cX12_isSame 91 = .ok (.iconst 0, 1) := by decide +kernel
theorem dX12_isSame_92 : decode cX12_isSame 92 = .ok (.istore_n 3, 1) := by decide +kernel
theorem dX12_isSame_93 : decode cX12_isSame 93 = .ok (.iinc 4 1, 3) := by decide +kernel
theorem dX12_isSame_96 : decode cX12_isSame 96 = .ok (.goto (-49), 3) := by decide +kernel
theorem dX12_isSame_99 : decode cX12_isSame 99 = .ok (.iload_n 3, 1) := by decide +kernel
theorem dX12_isSame_100 : decode cX12_isSame 100 = .ok (.ireturn, 1) := by decide +kernel
theorem dX12_differ_0 : decode cX12_differ 0 = .ok (.aload_n 0, 1) := by decide +kernel
theorem dX12_differ_1 : decode cX12_differ 1 = .ok (.iload_n 1, 1) := by decide +kernel
theorem dX12_differ_2 : decode cX12_differ 2 = .ok (.invokevirtual 337, 3) := by decide +kernel
theorem dX12_differ_5 : decode cX12_differ 5 = .ok (.ifCond .eq 6, 3) := by decide +kernel
theorem dX12_differ_8 : decode cX12_differ 8 = .ok (.ldc 204, 2) := by decide +kernel
theorem dX12_differ_10 : decode cX12_differ 10 = .ok (.ireturn, 1) := by decide +kernel
theorem dX12_differ_11 : decode cX12_differ 11 = .ok (.iload_n 2, 1) := by decide +kernel
theorem dX12_differ_12 : decode cX12_differ 12 = .ok (.i2l, 1) := by decide +kernel
theorem dX12_differ_13 : decode cX12_differ 13 = .ok (.lconst 0, 1) := by decide +kernel
theorem dX12_differ_14 : decode cX12_differ 14 = .ok (.ldc2_w 335, 3) := by decide +kernel
theorem dX12_differ_17 : decode cX12_differ 17 = .ok (.invokestatic 134, 3) := by decide +kernel
theorem dX12_differ_20 : decode cX12_differ 20 = .ok (.ifCond .ne 6, 3) := by decide +kernel
theorem dX12_differ_23 : decode cX12_differ 23 = .ok (.ldc 195, 2) := by decide +kernel
theorem dX12_differ_25 : decode cX12_differ 25 = .ok (.ireturn, 1) := by decide +kernel
theorem dX12_differ_26 : decode cX12_differ 26 = .ok (.iload_n 2, 1) := by decide +kernel
theorem dX12_differ_27 : decode cX12_differ 27 = .ok (.iconst 3, 1) := by decide +kernel
theorem dX12_differ_28 : decode cX12_differ 28 = .ok (.if_icmp .ne 22, 3) := by decide +kernel
theorem dX12_differ_31 : decode cX12_differ 31 = .ok (.iconst 0, 1) := by decide +kernel
theorem dX12_differ_32 : decode cX12_differ 32 = .ok (.istore_n 3, 1) := by decide +kernel
theorem dX12_differ_33 : decode cX12_differ 33 = .ok (.aload_n 0, 1) := by decide +kernel
theorem dX12_differ_34 : decode cX12_differ 34 = .ok (.iload_n 1, 1) := by decide +kernel
theorem dX12_differ_35 : decode cX12_differ 35 = .ok (.iload_n 3, 1) := by decide +kernel
theorem dX12_differ_36 : decode cX12_differ 36 = .ok (.invokevirtual 343, 3) := by decide +kernel
theorem dX12_differ_39 : decode cX12_differ 39 = .ok (.ifCond .eq 9, 3) := by decide +kernel
theorem dX12_differ_42 : decode cX12_differ 42 = .ok (.iinc 3 1, 3) := by decide +kernel
theorem dX12_differ_45 : decode cX12_differ 45 = .ok (.goto (-12), 3) := by decide +kernel
theorem dX12_differ_48 : decode cX12_differ 48 = .ok (.iload_n 3, 1) := by decide +kernel
theorem dX12_differ_49 : decode cX12_differ 49 = .ok (.ireturn, 1) := by decide +kernel
theorem dX12_differ_50 : decode cX12_differ 50 = .ok (.aload_n 0, 1) := by decide +kernel
theorem dX12_differ_51 : decode cX12_differ 51 = .ok (.iconst 1, 1) := by decide +kernel
theorem dX12_differ_52 : decode cX12_differ 52 = .ok (.invokevirtual 175, 3) := by decide +kernel
theorem dX12_differ_55 : decode cX12_differ 55 = .ok (.iconst 0, 1) := by decide +kernel
theorem dX12_differ_56 : decode cX12_differ 56 = .ok (.istore_n 3, 1) := by decide +kernel
theorem dX12_differ_57 : decode cX12_differ 57 = .ok (.iload_n 3, 1) := by decide +kernel
theorem dX12_differ_58 : decode cX12_differ 58 = .ok (.aload_n 0, 1) := by decide +kernel
theorem dX12_differ_59 : decode cX12_differ 59 = .ok (.getfield 49, 3) := by decide +kernel
theorem dX12_differ_62 : decode cX12_differ 62 = .ok (.iload_n 1, 1) := by decide +kernel
theorem dX12_differ_63 : decode cX12_differ 63 = .ok (.iaload, 1) := by decide +kernel
theorem dX12_differ_64 : decode cX12_differ 64 = .ok (.if_icmp .ge 31, 3) := by decide +kernel
theorem dX12_differ_67 : decode cX12_differ 67 = .ok (.aload_n 0, 1) := by decide +kernel
theorem dX12_differ_68 : decode cX12_differ 68 = .ok (.iload_n 1, 1) := by decide +kernel
theorem dX12_differ_69 : decode cX12_differ 69 = .ok (.iload_n 3, 1) := by decide +kernel
theorem dX12_differ_70 : decode cX12_differ 70 = .ok (.invokevirtual 340, 3) := by decide +kernel
theorem dX12_differ_73 : decode cX12_differ 73 = .ok (.aload_n 0, 1) := by decide +kernel
theorem dX12_differ_74 : decode cX12_differ 74 = .ok (.iconst 1, 1) := by decide +kernel
theorem dX12_differ_75 : decode cX12_differ 75 = .ok (.aload_n 0, 1) := by decide +kernel
theorem dX12_differ_76 : decode cX12_differ 76 = .ok (.getfield 52, 3) := by decide +kernel
theorem dX12_differ_79 : decode cX12_differ 79 = .ok (.bipush 16, 2) := by decide +kernel
theorem dX12_differ_81 : decode cX12_differ 81 = .ok (.iload_n 1, 1) := by decide +kernel
theorem dX12_differ_82 : decode cX12_differ 82 = .ok (.imul, 1) := by decide +kernel
theorem dX12_differ_83 : decode cX12_differ 83 = .ok (.iload_n 3, 1) := by decide +kernel
theorem dX12_differ_84 : decode cX12_differ 84 = .ok (.iadd, 1) := by decide +kernel
theorem dX12_differ_85 : decode cX12_differ 85 = .ok (.iaload, 1) := by decide +kernel
theorem dX12_differ_86 : decode cX12_differ 86 = .ok (.invokevirtual 181, 3) := by decide +kernel
theorem dX12_differ_89 : decode cX12_differ 89 = .ok (.iinc 3 1, 3) := by decide +kernel
theorem dX12_differ_92 : decode cX12_differ 92 = .ok (.goto (-35), 3) := by decide +kernel
theorem dX12_differ_95 : decode cX12_differ 95 = .ok (.iconst 0, 1) := by decide +kernel
theorem dX12_differ_96 : decode cX12_differ 96 = .ok (.istore_n 3, 1) := by decide +kernel
theorem dX12_differ_97 : decode cX12_differ 97 = .ok (.iconst 0, 1) := by decide +kernel
theorem dX12_differ_98 : decode cX12_differ 98 = .ok (.istore 4, 2) := by decide +kernel
theorem dX12_differ_100 : decode cX12_differ 100 = .ok (.iload 4, 2) := by decide +kernel
theorem dX12_differ_102 : decode cX12_differ 102 = .ok (.sipush 5120, 3) := by decide +kernel
theorem dX12_differ_105 : decode cX12_differ 105 = .ok (.if_icmp .ge 41, 3) := by decide +kernel
theorem dX12_differ_108 : decode cX12_differ 108 = .ok (.iload_n 3, 1) := by decide +kernel
theorem dX12_differ_109 : decode cX12_differ 109 = .ok (.aload_n 0, 1) := by decide +kernel
theorem dX12_differ_110 : decode cX12_differ 110 = .ok (.getfield 7, 3) := by decide +kernel
theorem dX12_differ_113 : decode cX12_differ 113 = .ok (.iload 4, 2) := by decide +kernel
theorem dX12_differ_115 : decode cX12_differ 115 = .ok (.baload, 1) := by decide +kernel
theorem dX12_differ_116 : decode cX12_differ 116 = .ok (.aload_n 0, 1) := by decide +kernel
theorem dX12_differ_117 : decode cX12_differ 117 = .ok (.getfield 7, 3) := by decide +kernel
theorem dX12_differ_120 : decode cX12_differ 120 = .ok (.sipush 5120, 3) := by decide +kernel
theorem dX12_differ_123 : decode cX12_differ 123 = .ok (.iload 4, 2) := by decide +kernel
theorem dX12_differ_125 : decode cX12_differ 125 = .ok (.iadd, 1) := by decide +kernel
theorem dX12_differ_126 : decode cX12_differ 126 = .ok (.baload, 1) := by decide +kernel
theorem dX12_differ_127 : decode cX12_differ 127 = .ok (.if_icmp .eq 7, 3) := by decide +kernel
theorem dX12_differ_130 : decode cX12_differ 130 = .ok (.iconst 1, 1) := by decide +kernel
theorem dX12_differ_131 : decode cX12_differ 131 = .ok (.goto 4, 3) := by decide +kernel
theorem dX12_differ_134 : decode cX12_differ 134 = .ok (.iconst 0, 1) := by decide +kernel
theorem dX12_differ_135 : decode cX12_differ 135 = .ok (.invokestatic 207, 3) := by decide +kernel
theorem dX12_differ_138 : decode cX12_differ 138 = .ok (.iadd, 1) := by decide +kernel
theorem dX12_differ_139 : decode cX12_differ 139 = .ok (.istore_n 3, 1) := by decide +kernel
theorem dX12_differ_140 : decode cX12_differ 140 = .ok (.iinc 4 1, 3) := by decide +kernel
theorem dX12_differ_143 : decode cX12_differ 143 = .ok (.goto (-43), 3) := by decide +kernel
theorem dX12_differ_146 : decode cX12_differ 146 = .ok (.iconst (-1), 1) := by decide +kernel
theorem dX12_differ_147 : decode cX12_differ 147 = .ok (.istore 4, 2) := by decide +kernel
theorem dX12_differ_149 : decode cX12_differ 149 = .ok (.bipush 63, 2) := by decide +kernel
theorem dX12_differ_151 : decode cX12_differ 151 = .ok (.istore 5, 2) := by decide +kernel
theorem dX12_differ_153 : decode cX12_differ 153 = .ok (.iload 5, 2) := by decide +kernel
theorem dX12_differ_155 : decode cX12_differ 155 = .ok (.ifCond .lt 29, 3) := by decide +kernel
theorem dX12_differ_158 : decode cX12_differ 158 = .ok (.aload_n 0, 1) := by decide +kernel
theorem dX12_differ_159 : decode cX12_differ 159 = .ok (.iconst 0, 1) := by decide +kernel
theorem dX12_differ_160 : decode cX12_differ 160 = .ok (.iconst 1, 1) := by decide +kernel
theorem dX12_differ_161 : decode cX12_differ 161 = .ok (.iload 5, 2) := by decide +kernel
theorem dX12_differ_163 : decode cX12_differ 163 = .ok (.invokevirtual 211, 3) := by decide +kernel
theorem dX12_differ_166 : decode cX12_differ 166 = .ok (.ifCond .eq 8, 3) := by decide +kernel
theorem dX12_differ_169 : decode cX12_differ 169 = .ok (.iload 4, 2) := by decide +kernel
theorem dX12_differ_171 : decode cX12_differ 171 = .ok (.goto 5, 3) := by decide +kernel
theorem dX12_differ_174 : decode cX12_differ 174 = .ok (.iload 5, 2) := by decide +kernel
theorem dX12_differ_176 : decode cX12_differ 176 = .ok (.istore 4, 2) := by decide +kernel
theorem dX12_differ_178 : decode cX12_differ 178 = .ok (.iinc 5 (-1), 3) := by decide +kernel
theorem dX12_differ_181 : decode cX12_differ 181 = .ok (.goto (-28), 3) := by decide +kernel
theorem dX12_differ_184 : decode cX12_differ 184 = .ok (.iload_n 2, 1) := by decide +kernel
theorem dX12_differ_185 : decode cX12_differ 185 = .ok (.ifCond .ne 12, 3) := by decide +kernel
theorem dX12_differ_188 : decode cX12_differ 188 = .ok (.aload_n 0, 1) := by decide +kernel
theorem dX12_differ_189 : decode cX12_differ 189 = .ok (.iconst 0, 1) := by decide +kernel
theorem dX12_differ_190 : decode cX12_differ 190 = .ok (.iconst 1, 1) := by decide +kernel
theorem dX12_differ_191 : decode cX12_differ 191 = .ok (.invokevirtual 220, 3) := by decide +kernel
theorem dX12_differ_194 : decode cX12_differ 194 = .ok (.goto 14, 3) := by decide +kernel
theorem dX12_differ_197 : decode cX12_differ 197 = .ok (.iload_n 2, 1) := by decide +kernel
theorem dX12_differ_198 : decode cX12_differ 198 = .ok (.iconst 1, 1) := by decide +kernel
theorem dX12_differ_199 : decode cX12_differ 199 = .ok (.if_icmp .ne 8, 3) := by decide +kernel
theorem dX12_differ_202 : decode cX12_differ 202 = .ok (.iload 4, 2) := by decide +kernel
theorem dX12_differ_204 : decode cX12_differ 204 = .ok (.goto 4, 3) := by decide +kernel
theorem dX12_differ_207 : decode cX12_differ 207 = .ok (.iload_n 3, 1) := by decide +kernel
theorem dX12_differ_208 : decode cX12_differ 208 = .ok (.ireturn, 1) := by decide +kernel
theorem dX12_isSight_0 : decode cX12_isSight 0 = .ok (.iload_n 1, 1) := by decide +kernel
theorem dX12_isSight_1 : decode cX12_isSight 1 = .ok (.iload_n 2, 1) := by decide +kernel
theorem dX12_isSight_2 : decode cX12_isSight 2 = .ok (.invokestatic 304, 3) := by decide +kernel
theorem dX12_isSight_5 : decode cX12_isSight 5 = .ok (.ifCond .eq 26, 3) := by decide +kernel
theorem dX12_isSight_8 : decode cX12_isSight 8 = .ok (.iload_n 3, 1) := by decide +kernel
theorem dX12_isSight_9 : decode cX12_isSight 9 = .ok (.i2l, 1) := by decide +kernel
theorem dX12_isSight_10 : decode cX12_isSight 10 = .ok (.iload_n 0, 1) := by decide +kernel
theorem dX12_isSight_11 : decode cX12_isSight 11 = .ok (.iconst 2, 1) := by decide +kernel
theorem dX12_isSight_12 : decode cX12_isSight 12 = .ok (.if_icmp .ge 9, 3) := by decide +kernel
theorem dX12_isSight_15 : decode cX12_isSight 15 = .ok (.ldc2_w 346, 3) := by decide +kernel
theorem dX12_isSight_18 : decode cX12_isSight 18 = .ok (.goto 4, 3) := by decide +kernel
theorem dX12_isSight_21 : decode cX12_isSight 21 = .ok (.lconst 0, 1) := by decide +kernel
theorem dX12_isSight_22 : decode cX12_isSight 22 = .ok (.ldc2_w 310, 3) := by decide +kernel
theorem dX12_isSight_25 : decode cX12_isSight 25 = .ok (.invokestatic 134, 3) := by decide +kernel
theorem dX12_isSight_28 : decode cX12_isSight 28 = .ok (.ifCond .ne 5, 3) := by decide +kernel
theorem dX12_isSight_31 : decode cX12_isSight 31 = .ok (.iconst 0, 1) := by decide +kernel
theorem dX12_isSight_32 : decode cX12_isSight 32 = .ok (.ireturn, 1) := by decide +kernel
theorem dX12_isSight_33 : decode cX12_isSight 33 = .ok (.iload_n 0, 1) := by decide +kernel
theorem dX12_isSight_34 : decode cX12_isSight 34 = .ok (.tableswitch 129 0 4 #[34, 36, 42, 71, 118], 34) := by decide +kernel
theorem dX12_isSight_68 : decode cX12_isSight 68 = .ok (.iconst 1, 1) := by decide +kernel
theorem dX12_isSight_69 : decode cX12_isSight 69 = .ok (.ireturn, 1) := by decide +kernel
theorem dX12_isSight_70 : decode cX12_isSight 70 = .ok (.iload 4, 2) := by decide +kernel
theorem dX12_isSight_72 : decode cX12_isSight 72 = .ok (.invokestatic 307, 3) := by decide +kernel
theorem dX12_isSight_75 : decode cX12_isSight 75 = .ok (.ireturn, 1) := by decide +kernel
theorem dX12_isSight_76 : decode cX12_isSight 76 = .ok (.iload 4, 2) := by decide +kernel
theorem dX12_isSight_78 : decode cX12_isSight 78 = .ok (.invokestatic 307, 3) := by decide +kernel
theorem dX12_isSight_81 : decode cX12_isSight 81 = .ok (.ifCond .eq 22, 3) := by decide +kernel
theorem dX12_isSight_84 : decode cX12_isSight 84 = .ok (.iload 5, 2) := by decide +kernel
theorem dX12_isSight_86 : decode cX12_isSight 86 = .ok (.invokestatic 307, 3) := by decide +kernel
theorem dX12_isSight_89 : decode cX12_isSight 89 = .ok (.ifCond .eq 14, 3) := by decide +kernel
theorem dX12_isSight_92 : decode cX12_isSight 92 = .ok (.iload 4, 2) := by decide +kernel
theorem dX12_isSight_94 : decode cX12_isSight 94 = .ok (.iload 5, 2) := by decide +kernel
theorem dX12_isSight_96 : decode cX12_isSight 96 = .ok (.if_icmp .gt 7, 3) := by decide +kernel
theorem dX12_isSight_99 : decode cX12_isSight 99 = .ok (.iconst 1, 1) := by decide +kernel
theorem dX12_isSight_100 : decode cX12_isSight 100 = .ok (.goto 4, 3) := by decide +kernel
theorem dX12_isSight_103 : decode cX12_isSight 103 = .ok (.iconst 0, 1) := by decide +kernel
theorem dX12_isSight_104 : decode cX12_isSight 104 = .ok (.ireturn, 1) := by decide +kernel
theorem dX12_isSight_105 : decode cX12_isSight 105 = .ok (.iload 4, 2) := by decide +kernel
theorem dX12_isSight_107 : decode cX12_isSight 107 = .ok (.i2l, 1) := by decide +kernel
theorem dX12_isSight_108 : decode cX12_isSight 108 = .ok (.lconst 0, 1) := by decide +kernel
theorem dX12_isSight_109 : decode cX12_isSight 109 = .ok (.lconst 1, 1) := by decide +kernel
theorem dX12_isSight_110 : decode cX12_isSight 110 = .ok (.invokestatic 134, 3) := by decide +kernel
theorem dX12_isSight_113 : decode cX12_isSight 113 = .ok (.ifCond .eq 37, 3) := by decide +kernel
theorem dX12_isSight_116 : decode cX12_isSight 116 = .ok (.iload 5, 2) := by decide +kernel
theorem dX12_isSight_118 : decode cX12_isSight 118 = .ok (.i2l, 1) := by decide +kernel
theorem dX12_isSight_119 : decode cX12_isSight 119 = .ok (.ldc2_w 348, 3) := by decide +kernel
theorem dX12_isSight_122 : decode cX12_isSight 122 = .ok (.ldc2_w 350, 3) := by decide +kernel
theorem dX12_isSight_125 : decode cX12_isSight 125 = .ok (.invokestatic 134, 3) := by decide +kernel
theorem dX12_isSight_128 : decode cX12_isSight 128 = .ok (.ifCond .eq 22, 3) := by decide +kernel
theorem dX12_isSight_131 : decode cX12_isSight 131 = .ok (.iload 4, 2) := by decide +kernel
theorem dX12_isSight_133 : decode cX12_isSight 133 = .ok (.ifCond .ne 7, 3) := by decide +kernel
theorem dX12_isSight_136 : decode cX12_isSight 136 = .ok (.iload_n 1, 1) := by decide +kernel
theorem dX12_isSight_137 : decode cX12_isSight 137 = .ok (.goto 4, 3) := by decide +kernel
theorem dX12_isSight_140 : decode cX12_isSight 140 = .ok (.iload_n 2, 1) := by decide +kernel
theorem dX12_isSight_141 : decode cX12_isSight 141 = .ok (.bipush 7, 2) := by decide +kernel
theorem dX12_isSight_143 : decode cX12_isSight 143 = .ok (.if_icmp .ge 7, 3) := by decide +kernel
theorem dX12_isSight_146 : decode cX12_isSight 146 = .ok (.iconst 1, 1) := by decide +kernel
theorem dX12_isSight_147 : decode cX12_isSight 147 = .ok (.goto 4, 3) := by decide +kernel
theorem dX12_isSight_150 : decode cX12_isSight 150 = .ok (.iconst 0, 1) := by decide +kernel
theorem dX12_isSight_151 : decode cX12_isSight 151 = .ok (.ireturn, 1) := by decide +kernel
theorem dX12_isSight_152 : decode cX12_isSight 152 = .ok (.iload 4, 2) := by decide +kernel
theorem dX12_isSight_154 : decode cX12_isSight 154 = .ok (.i2l, 1) := by decide +kernel
theorem dX12_isSight_155 : decode cX12_isSight 155 = .ok (.lconst 0, 1) := by decide +kernel
theorem dX12_isSight_156 : decode cX12_isSight 156 = .ok (.ldc2_w 310, 3) := by decide +kernel
theorem dX12_isSight_159 : decode cX12_isSight 159 = .ok (.invokestatic 134, 3) := by decide +kernel
theorem dX12_isSight_162 : decode cX12_isSight 162 = .ok (.ireturn, 1) := by decide +kernel
theorem dX12_isSight_163 : decode cX12_isSight 163 = .ok (.iconst 0, 1) := by decide +kernel
theorem dX12_isSight_164 : decode cX12_isSight 164 = .ok (.ireturn, 1) := by decide +kernel
theorem dX12_sight_0 : decode cX12_sight 0 = .ok (.iload_n 1, 1) := by decide +kernel
theorem dX12_sight_1 : decode cX12_sight 1 = .ok (.iload_n 2, 1) := by decide +kernel
theorem dX12_sight_2 : decode cX12_sight 2 = .ok (.iload_n 3, 1) := by decide +kernel
theorem dX12_sight_3 : decode cX12_sight 3 = .ok (.iload 4, 2) := by decide +kernel
theorem dX12_sight_5 : decode cX12_sight 5 = .ok (.iload 5, 2) := by decide +kernel
theorem dX12_sight_7 : decode cX12_sight 7 = .ok (.iload 6, 2) := by decide +kernel
theorem dX12_sight_9 : decode cX12_sight 9 = .ok (.invokestatic 352, 3) := by decide +kernel
theorem dX12_sight_12 : decode cX12_sight 12 = .ok (.ifCond .ne 6, 3) := by decide +kernel
theorem dX12_sight_15 : decode cX12_sight 15 = .ok (.ldc 195, 2) := by decide +kernel
theorem dX12_sight_17 : decode cX12_sight 17 = .ok (.ireturn, 1) := by decide +kernel
theorem dX12_sight_18 : decode cX12_sight 18 = .ok (.aload_n 0, 1) := by decide +kernel
theorem dX12_sight_19 : decode cX12_sight 19 = .ok (.getfield 227, 3) := by decide +kernel
theorem dX12_sight_22 : decode cX12_sight 22 = .ok (.bipush 30, 2) := by decide +kernel
theorem dX12_sight_24 : decode cX12_sight 24 = .ok (.if_icmp .ne 6, 3) := by decide +kernel
theorem dX12_sight_27 : decode cX12_sight 27 = .ok (.ldc 196, 2) := by decide +kernel
theorem dX12_sight_29 : decode cX12_sight 29 = .ok (.ireturn, 1) := by decide +kernel
theorem dX12_sight_30 : decode cX12_sight 30 = .ok (.aload_n 0, 1) := by decide +kernel
theorem dX12_sight_31 : decode cX12_sight 31 = .ok (.getfield 61, 3) := by decide +kernel
theorem dX12_sight_34 : decode cX12_sight 34 = .ok (.aload_n 0, 1) := by decide +kernel
theorem dX12_sight_35 : decode cX12_sight 35 = .ok (.getfield 227, 3) := by decide +kernel
theorem dX12_sight_38 : decode cX12_sight 38 = .ok (.iload_n 1, 1) := by decide +kernel
theorem dX12_sight_39 : decode cX12_sight 39 = .ok (.iastore, 1) := by decide +kernel
theorem dX12_sight_40 : decode cX12_sight 40 = .ok (.aload_n 0, 1) := by decide +kernel
theorem dX12_sight_41 : decode cX12_sight 41 = .ok (.getfield 64, 3) := by decide +kernel
theorem dX12_sight_44 : decode cX12_sight 44 = .ok (.aload_n 0, 1) := by decide +kernel
theorem dX12_sight_45 : decode cX12_sight 45 = .ok (.getfield 227, 3) := by decide +kernel
theorem dX12_sight_48 : decode cX12_sight 48 = .ok (.bipush 8, 2) := by decide +kernel
theorem dX12_sight_50 : decode cX12_sight 50 = .ok (.iload_n 3, 1) := by decide +kernel
theorem dX12_sight_51 : decode cX12_sight 51 = .ok (.imul, 1) := by decide +kernel
theorem dX12_sight_52 : decode cX12_sight 52 = .ok (.iload_n 2, 1) := by decide +kernel
theorem dX12_sight_53 : decode cX12_sight 53 = .ok (.iadd, 1) := by decide +kernel
theorem dX12_sight_54 : decode cX12_sight 54 = .ok (.iastore, 1) := by decide +kernel
theorem dX12_sight_55 : decode cX12_sight 55 = .ok (.aload_n 0, 1) := by decide +kernel
theorem dX12_sight_56 : decode cX12_sight 56 = .ok (.getfield 67, 3) := by decide +kernel
theorem dX12_sight_59 : decode cX12_sight 59 = .ok (.aload_n 0, 1) := by decide +kernel
theorem dX12_sight_60 : decode cX12_sight 60 = .ok (.getfield 227, 3) := by decide +kernel
theorem dX12_sight_63 : decode cX12_sight 63 = .ok (.iload 4, 2) := by decide +kernel
theorem dX12_sight_65 : decode cX12_sight 65 = .ok (.iastore, 1) := by decide +kernel
theorem dX12_sight_66 : decode cX12_sight 66 = .ok (.aload_n 0, 1) := by decide +kernel
theorem dX12_sight_67 : decode cX12_sight 67 = .ok (.getfield 70, 3) := by decide +kernel
theorem dX12_sight_70 : decode cX12_sight 70 = .ok (.aload_n 0, 1) := by decide +kernel
theorem dX12_sight_71 : decode cX12_sight 71 = .ok (.getfield 227, 3) := by decide +kernel
theorem dX12_sight_74 : decode cX12_sight 74 = .ok (.iload 5, 2) := by decide +kernel
theorem dX12_sight_76 : decode cX12_sight 76 = .ok (.iastore, 1) := by decide +kernel
theorem dX12_sight_77 : decode cX12_sight 77 = .ok (.aload_n 0, 1) := by decide +kernel
theorem dX12_sight_78 : decode cX12_sight 78 = .ok (.getfield 73, 3) := by decide +kernel
theorem dX12_sight_81 : decode cX12_sight 81 = .ok (.aload_n 0, 1) := by decide +kernel
theorem dX12_sight_82 : decode cX12_sight 82 = .ok (.getfield 227, 3) := by decide +kernel
theorem dX12_sight_85 : decode cX12_sight 85 = .ok (.iload 6, 2) := by decide +kernel
theorem dX12_sight_87 : decode cX12_sight 87 = .ok (.iastore, 1) := by decide +kernel
theorem dX12_sight_88 : decode cX12_sight 88 = .ok (.aload_n 0, 1) := by decide +kernel
theorem dX12_sight_89 : decode cX12_sight 89 = .ok (.dup, 1) := by decide +kernel
theorem dX12_sight_90 : decode cX12_sight 90 = .ok (.getfield 227, 3) := by decide +kernel
theorem dX12_sight_93 : decode cX12_sight 93 = .ok (.iconst 1, 1) := by decide +kernel
theorem dX12_sight_94 : decode cX12_sight 94 = .ok (.iadd, 1) := by decide +kernel
theorem dX12_sight_95 : decode cX12_sight 95 = .ok (.putfield 227, 3) := by decide +kernel
theorem dX12_sight_98 : decode cX12_sight 98 = .ok (.aload_n 0, 1) := by decide +kernel
theorem dX12_sight_99 : decode cX12_sight 99 = .ok (.getfield 227, 3) := by decide +kernel
theorem dX12_sight_102 : decode cX12_sight 102 = .ok (.iconst 1, 1) := by decide +kernel
theorem dX12_sight_103 : decode cX12_sight 103 = .ok (.isub, 1) := by decide +kernel
theorem dX12_sight_104 : decode cX12_sight 104 = .ok (.ireturn, 1) := by decide +kernel
theorem dX12_liesOver_0 : decode cX12_liesOver 0 = .ok (.iconst 0, 1) := by decide +kernel
theorem dX12_liesOver_1 : decode cX12_liesOver 1 = .ok (.istore 5, 2) := by decide +kernel
theorem dX12_liesOver_3 : decode cX12_liesOver 3 = .ok (.bipush (-39), 2) := by decide +kernel
theorem dX12_liesOver_5 : decode cX12_liesOver 5 = .ok (.istore 6, 2) := by decide +kernel
theorem dX12_liesOver_7 : decode cX12_liesOver 7 = .ok (.iload 6, 2) := by decide +kernel
theorem dX12_liesOver_9 : decode cX12_liesOver 9 = .ok (.bipush 40, 2) := by decide +kernel
theorem dX12_liesOver_11 : decode cX12_liesOver 11 = .ok (.if_icmp .ge 48, 3) := by decide +kernel
theorem dX12_liesOver_14 : decode cX12_liesOver 14 = .ok (.iload 5, 2) := by decide +kernel
theorem dX12_liesOver_16 : decode cX12_liesOver 16 = .ok (.ifCond .ne 43, 3) := by decide +kernel
theorem dX12_liesOver_19 : decode cX12_liesOver 19 = .ok (.aload_n 0, 1) := by decide +kernel
theorem dX12_liesOver_20 : decode cX12_liesOver 20 = .ok (.iload_n 1, 1) := by decide +kernel
theorem dX12_liesOver_21 : decode cX12_liesOver 21 = .ok (.iload_n 2, 1) := by decide +kernel
theorem dX12_liesOver_22 : decode cX12_liesOver 22 = .ok (.iload 6, 2) := by decide +kernel
theorem dX12_liesOver_24 : decode cX12_liesOver 24 = .ok (.invokevirtual 127, 3) := by decide +kernel
theorem dX12_liesOver_27 : decode cX12_liesOver 27 = .ok (.iload_n 3, 1) := by decide +kernel
theorem dX12_liesOver_28 : decode cX12_liesOver 28 = .ok (.if_icmp .ne 22, 3) := by decide +kernel
theorem dX12_liesOver_31 : decode cX12_liesOver 31 = .ok (.aload_n 0, 1) := by decide +kernel
theorem dX12_liesOver_32 : decode cX12_liesOver 32 = .ok (.iload_n 1, 1) := by decide +kernel
theorem dX12_liesOver_33 : decode cX12_liesOver 33 = .ok (.iload_n 2, 1) := by decide +kernel
theorem dX12_liesOver_34 : decode cX12_liesOver 34 = .ok (.iload 6, 2) := by decide +kernel
theorem dX12_liesOver_36 : decode cX12_liesOver 36 = .ok (.iconst 1, 1) := by decide +kernel
theorem dX12_liesOver_37 : decode cX12_liesOver 37 = .ok (.isub, 1) := by decide +kernel
theorem dX12_liesOver_38 : decode cX12_liesOver 38 = .ok (.invokevirtual 127, 3) := by decide +kernel
theorem dX12_liesOver_41 : decode cX12_liesOver 41 = .ok (.iload 4, 2) := by decide +kernel
theorem dX12_liesOver_43 : decode cX12_liesOver 43 = .ok (.if_icmp .ne 7, 3) := by decide +kernel
theorem dX12_liesOver_46 : decode cX12_liesOver 46 = .ok (.iconst 1, 1) := by decide +kernel
theorem dX12_liesOver_47 : decode cX12_liesOver 47 = .ok (.goto 4, 3) := by decide +kernel
theorem dX12_liesOver_50 : decode cX12_liesOver 50 = .ok (.iconst 0, 1) := by decide +kernel
theorem dX12_liesOver_51 : decode cX12_liesOver 51 = .ok (.istore 5, 2) := by decide +kernel
theorem dX12_liesOver_53 : decode cX12_liesOver 53 = .ok (.iinc 6 1, 3) := by decide +kernel
theorem dX12_liesOver_56 : decode cX12_liesOver 56 = .ok (.goto (-49), 3) := by decide +kernel
theorem dX12_liesOver_59 : decode cX12_liesOver 59 = .ok (.iload 5, 2) := by decide +kernel
theorem dX12_liesOver_61 : decode cX12_liesOver 61 = .ok (.ireturn, 1) := by decide +kernel
theorem dX12_isMet_0 : decode cX12_isMet 0 = .ok (.aload_n 0, 1) := by decide +kernel
theorem dX12_isMet_1 : decode cX12_isMet 1 = .ok (.getfield 64, 3) := by decide +kernel
theorem dX12_isMet_4 : decode cX12_isMet 4 = .ok (.iload_n 2, 1) := by decide +kernel
theorem dX12_isMet_5 : decode cX12_isMet 5 = .ok (.iaload, 1) := by decide +kernel
theorem dX12_isMet_6 : decode cX12_isMet 6 = .ok (.istore_n 3, 1) := by decide +kernel
theorem dX12_isMet_7 : decode cX12_isMet 7 = .ok (.aload_n 0, 1) := by decide +kernel
theorem dX12_isMet_8 : decode cX12_isMet 8 = .ok (.getfield 67, 3) := by decide +kernel
theorem dX12_isMet_11 : decode cX12_isMet 11 = .ok (.iload_n 2, 1) := by decide +kernel
theorem dX12_isMet_12 : decode cX12_isMet 12 = .ok (.iaload, 1) := by decide +kernel
theorem dX12_isMet_13 : decode cX12_isMet 13 = .ok (.istore 4, 2) := by decide +kernel
theorem dX12_isMet_15 : decode cX12_isMet 15 = .ok (.iload 4, 2) := by decide +kernel
theorem dX12_isMet_17 : decode cX12_isMet 17 = .ok (.ifCond .ge 8, 3) := by decide +kernel
theorem dX12_isMet_20 : decode cX12_isMet 20 = .ok (.bipush (-41), 2) := by decide +kernel
theorem dX12_isMet_22 : decode cX12_isMet 22 = .ok (.goto 11, 3) := by decide +kernel
theorem dX12_isMet_25 : decode cX12_isMet 25 = .ok (.aload_n 0, 1) := by decide +kernel
theorem dX12_isMet_26 : decode cX12_isMet 26 = .ok (.iload_n 1, 1) := by decide +kernel
theorem dX12_isMet_27 : decode cX12_isMet 27 = .ok (.iload 4, 2) := by decide +kernel
theorem dX12_isMet_29 : decode cX12_isMet 29 = .ok (.iload_n 3, 1) := by decide +kernel
theorem dX12_isMet_30 : decode cX12_isMet 30 = .ok (.invokevirtual 312, 3) := by decide +kernel
theorem dX12_isMet_33 : decode cX12_isMet 33 = .ok (.istore 5, 2) := by decide +kernel
theorem dX12_isMet_35 : decode cX12_isMet 35 = .ok (.aload_n 0, 1) := by decide +kernel
theorem dX12_isMet_36 : decode cX12_isMet 36 = .ok (.getfield 61, 3) := by decide +kernel
theorem dX12_isMet_39 : decode cX12_isMet 39 = .ok (.iload_n 2, 1) := by decide +kernel
theorem dX12_isMet_40 : decode cX12_isMet 40 = .ok (.iaload, 1) := by decide +kernel
theorem dX12_isMet_41 : decode cX12_isMet 41 = .ok (.tableswitch 188 0 3 #[31, 69, 92, 128], 31) := by decide +kernel
theorem dX12_isMet_72 : decode cX12_isMet 72 = .ok (.aload_n 0, 1) := by decide +kernel
theorem dX12_isMet_73 : decode cX12_isMet 73 = .ok (.iload_n 1, 1) := by decide +kernel
theorem dX12_isMet_74 : decode cX12_isMet 74 = .ok (.iload_n 3, 1) := by decide +kernel
theorem dX12_isMet_75 : decode cX12_isMet 75 = .ok (.invokevirtual 155, 3) := by decide +kernel
theorem dX12_isMet_78 : decode cX12_isMet 78 = .ok (.istore 6, 2) := by decide +kernel
theorem dX12_isMet_80 : decode cX12_isMet 80 = .ok (.iload 4, 2) := by decide +kernel
theorem dX12_isMet_82 : decode cX12_isMet 82 = .ok (.iload 6, 2) := by decide +kernel
theorem dX12_isMet_84 : decode cX12_isMet 84 = .ok (.bipush (-40), 2) := by decide +kernel
theorem dX12_isMet_86 : decode cX12_isMet 86 = .ok (.if_icmp .ge 7, 3) := by decide +kernel
theorem dX12_isMet_89 : decode cX12_isMet 89 = .ok (.iconst (-1), 1) := by decide +kernel
theorem dX12_isMet_90 : decode cX12_isMet 90 = .ok (.goto 11, 3) := by decide +kernel
theorem dX12_isMet_93 : decode cX12_isMet 93 = .ok (.aload_n 0, 1) := by decide +kernel
theorem dX12_isMet_94 : decode cX12_isMet 94 = .ok (.iload_n 1, 1) := by decide +kernel
theorem dX12_isMet_95 : decode cX12_isMet 95 = .ok (.iload_n 3, 1) := by decide +kernel
theorem dX12_isMet_96 : decode cX12_isMet 96 = .ok (.iload 6, 2) := by decide +kernel
theorem dX12_isMet_98 : decode cX12_isMet 98 = .ok (.invokevirtual 127, 3) := by decide +kernel
theorem dX12_isMet_101 : decode cX12_isMet 101 = .ok (.if_icmp .ne 7, 3) := by decide +kernel
theorem dX12_isMet_104 : decode cX12_isMet 104 = .ok (.iconst 1, 1) := by decide +kernel
theorem dX12_isMet_105 : decode cX12_isMet 105 = .ok (.goto 4, 3) := by decide +kernel
theorem dX12_isMet_108 : decode cX12_isMet 108 = .ok (.iconst 0, 1) := by decide +kernel
theorem dX12_isMet_109 : decode cX12_isMet 109 = .ok (.ireturn, 1) := by decide +kernel
theorem dX12_isMet_110 : decode cX12_isMet 110 = .ok (.aload_n 0, 1) := by decide +kernel
theorem dX12_isMet_111 : decode cX12_isMet 111 = .ok (.iload_n 1, 1) := by decide +kernel
theorem dX12_isMet_112 : decode cX12_isMet 112 = .ok (.iload_n 3, 1) := by decide +kernel
theorem dX12_isMet_113 : decode cX12_isMet 113 = .ok (.aload_n 0, 1) := by decide +kernel
theorem dX12_isMet_114 : decode cX12_isMet 114 = .ok (.getfield 70, 3) := by decide +kernel
theorem dX12_isMet_117 : decode cX12_isMet 117 = .ok (.iload_n 2, 1) := by decide +kernel
theorem dX12_isMet_118 : decode cX12_isMet 118 = .ok (.iaload, 1) := by decide +kernel
theorem dX12_isMet_119 : decode cX12_isMet 119 = .ok (.invokevirtual 127, 3) := by decide +kernel
theorem dX12_isMet_122 : decode cX12_isMet 122 = .ok (.iload 4, 2) := by decide +kernel
theorem dX12_isMet_124 : decode cX12_isMet 124 = .ok (.if_icmp .ne 7, 3) := by decide +kernel
theorem dX12_isMet_127 : decode cX12_isMet 127 = .ok (.iconst 1, 1) := by decide +kernel
theorem dX12_isMet_128 : decode cX12_isMet 128 = .ok (.goto 4, 3) := by decide +kernel
theorem dX12_isMet_131 : decode cX12_isMet 131 = .ok (.iconst 0, 1) := by decide +kernel
theorem dX12_isMet_132 : decode cX12_isMet 132 = .ok (.ireturn, 1) := by decide +kernel
theorem dX12_isMet_133 : decode cX12_isMet 133 = .ok (.iload 5, 2) := by decide +kernel
theorem dX12_isMet_135 : decode cX12_isMet 135 = .ok (.bipush (-40), 2) := by decide +kernel
theorem dX12_isMet_137 : decode cX12_isMet 137 = .ok (.if_icmp .lt 30, 3) := by decide +kernel
theorem dX12_isMet_140 : decode cX12_isMet 140 = .ok (.iload 5, 2) := by decide +kernel
theorem dX12_isMet_142 : decode cX12_isMet 142 = .ok (.i2l, 1) := by decide +kernel
theorem dX12_isMet_143 : decode cX12_isMet 143 = .ok (.aload_n 0, 1) := by decide +kernel
theorem dX12_isMet_144 : decode cX12_isMet 144 = .ok (.getfield 70, 3) := by decide +kernel
theorem dX12_isMet_147 : decode cX12_isMet 147 = .ok (.iload_n 2, 1) := by decide +kernel
theorem dX12_isMet_148 : decode cX12_isMet 148 = .ok (.iaload, 1) := by decide +kernel
theorem dX12_isMet_149 : decode cX12_isMet 149 = .ok (.i2l, 1) := by decide +kernel
theorem dX12_isMet_150 : decode cX12_isMet 150 = .ok (.aload_n 0, 1) := by decide +kernel
theorem dX12_isMet_151 : decode cX12_isMet 151 = .ok (.getfield 73, 3) := by decide +kernel
theorem dX12_isMet_154 : decode cX12_isMet 154 = .ok (.iload_n 2, 1) := by decide +kernel
theorem dX12_isMet_155 : decode cX12_isMet 155 = .ok (.iaload, 1) := by decide +kernel
theorem dX12_isMet_156 : decode cX12_isMet 156 = .ok (.i2l, 1) := by decide +kernel
theorem dX12_isMet_157 : decode cX12_isMet 157 = .ok (.invokestatic 134, 3) := by decide +kernel
theorem dX12_isMet_160 : decode cX12_isMet 160 = .ok (.ifCond .eq 7, 3) := by decide +kernel
theorem dX12_isMet_163 : decode cX12_isMet 163 = .ok (.iconst 1, 1) := by decide +kernel
theorem dX12_isMet_164 : decode cX12_isMet 164 = .ok (.goto 4, 3) := by decide +kernel
theorem dX12_isMet_167 : decode cX12_isMet 167 = .ok (.iconst 0, 1) := by decide +kernel
theorem dX12_isMet_168 : decode cX12_isMet 168 = .ok (.ireturn, 1) := by decide +kernel
theorem dX12_isMet_169 : decode cX12_isMet 169 = .ok (.aload_n 0, 1) := by decide +kernel
theorem dX12_isMet_170 : decode cX12_isMet 170 = .ok (.iload_n 1, 1) := by decide +kernel
theorem dX12_isMet_171 : decode cX12_isMet 171 = .ok (.iload 4, 2) := by decide +kernel
theorem dX12_isMet_173 : decode cX12_isMet 173 = .ok (.iload_n 3, 1) := by decide +kernel
theorem dX12_isMet_174 : decode cX12_isMet 174 = .ok (.aload_n 0, 1) := by decide +kernel
theorem dX12_isMet_175 : decode cX12_isMet 175 = .ok (.getfield 70, 3) := by decide +kernel
theorem dX12_isMet_178 : decode cX12_isMet 178 = .ok (.iload_n 2, 1) := by decide +kernel
theorem dX12_isMet_179 : decode cX12_isMet 179 = .ok (.iaload, 1) := by decide +kernel
theorem dX12_isMet_180 : decode cX12_isMet 180 = .ok (.ifCond .ne 7, 3) := by decide +kernel
theorem dX12_isMet_183 : decode cX12_isMet 183 = .ok (.iconst 1, 1) := by decide +kernel
theorem dX12_isMet_184 : decode cX12_isMet 184 = .ok (.goto 5, 3) := by decide +kernel
theorem dX12_isMet_187 : decode cX12_isMet 187 = .ok (.bipush 8, 2) := by decide +kernel
theorem dX12_isMet_189 : decode cX12_isMet 189 = .ok (.iadd, 1) := by decide +kernel
theorem dX12_isMet_190 : decode cX12_isMet 190 = .ok (.invokevirtual 312, 3) := by decide +kernel
theorem dX12_isMet_193 : decode cX12_isMet 193 = .ok (.istore 7, 2) := by decide +kernel
theorem dX12_isMet_195 : decode cX12_isMet 195 = .ok (.iload 5, 2) := by decide +kernel
theorem dX12_isMet_197 : decode cX12_isMet 197 = .ok (.bipush (-40), 2) := by decide +kernel
theorem dX12_isMet_199 : decode cX12_isMet 199 = .ok (.if_icmp .lt 28, 3) := by decide +kernel
theorem dX12_isMet_202 : decode cX12_isMet 202 = .ok (.iload 7, 2) := by decide +kernel
theorem dX12_isMet_204 : decode cX12_isMet 204 = .ok (.bipush (-40), 2) := by decide +kernel
theorem dX12_isMet_206 : decode cX12_isMet 206 = .ok (.if_icmp .lt 21, 3) := by decide +kernel
theorem dX12_isMet_209 : decode cX12_isMet 209 = .ok (.iload 7, 2) := by decide +kernel
theorem dX12_isMet_211 : decode cX12_isMet 211 = .ok (.iload 5, 2) := by decide +kernel
theorem dX12_isMet_213 : decode cX12_isMet 213 = .ok (.isub, 1) := by decide +kernel
theorem dX12_isMet_214 : decode cX12_isMet 214 = .ok (.aload_n 0, 1) := by decide +kernel
theorem dX12_isMet_215 : decode cX12_isMet 215 = .ok (.getfield 73, 3) := by decide +kernel
theorem dX12_isMet_218 : decode cX12_isMet 218 = .ok (.iload_n 2, 1) := by decide +kernel
theorem dX12_isMet_219 : decode cX12_isMet 219 = .ok (.iaload, 1) := by decide +kernel
theorem dX12_isMet_220 : decode cX12_isMet 220 = .ok (.if_icmp .ne 7, 3) := by decide +kernel
theorem dX12_isMet_223 : decode cX12_isMet 223 = .ok (.iconst 1, 1) := by decide +kernel
theorem dX12_isMet_224 : decode cX12_isMet 224 = .ok (.goto 4, 3) := by decide +kernel
theorem dX12_isMet_227 : decode cX12_isMet 227 = .ok (.iconst 0, 1) := by decide +kernel
theorem dX12_isMet_228 : decode cX12_isMet 228 = .ok (.ireturn, 1) := by decide +kernel
theorem dX12_isMet_229 : decode cX12_isMet 229 = .ok (.aload_n 0, 1) := by decide +kernel
theorem dX12_isMet_230 : decode cX12_isMet 230 = .ok (.iload_n 1, 1) := by decide +kernel
theorem dX12_isMet_231 : decode cX12_isMet 231 = .ok (.iload_n 3, 1) := by decide +kernel
theorem dX12_isMet_232 : decode cX12_isMet 232 = .ok (.iload 4, 2) := by decide +kernel
theorem dX12_isMet_234 : decode cX12_isMet 234 = .ok (.aload_n 0, 1) := by decide +kernel
theorem dX12_isMet_235 : decode cX12_isMet 235 = .ok (.getfield 70, 3) := by decide +kernel
theorem dX12_isMet_238 : decode cX12_isMet 238 = .ok (.iload_n 2, 1) := by decide +kernel
theorem dX12_isMet_239 : decode cX12_isMet 239 = .ok (.iaload, 1) := by decide +kernel
theorem dX12_isMet_240 : decode cX12_isMet 240 = .ok (.invokevirtual 355, 3) := by decide +kernel
theorem dX12_isMet_243 : decode cX12_isMet 243 = .ok (.ireturn, 1) := by decide +kernel
theorem dX12_met_0 : decode cX12_met 0 = .ok (.iload_n 1, 1) := by decide +kernel
theorem dX12_met_1 : decode cX12_met 1 = .ok (.i2l, 1) := by decide +kernel
theorem dX12_met_2 : decode cX12_met 2 = .ok (.lconst 0, 1) := by decide +kernel
theorem dX12_met_3 : decode cX12_met 3 = .ok (.aload_n 0, 1) := by decide +kernel
theorem dX12_met_4 : decode cX12_met 4 = .ok (.getfield 227, 3) := by decide +kernel
theorem dX12_met_7 : decode cX12_met 7 = .ok (.iconst 1, 1) := by decide +kernel
theorem dX12_met_8 : decode cX12_met 8 = .ok (.isub, 1) := by decide +kernel
theorem dX12_met_9 : decode cX12_met 9 = .ok (.i2l, 1) := by decide +kernel
theorem dX12_met_10 : decode cX12_met 10 = .ok (.invokestatic 134, 3) := by decide +kernel
theorem dX12_met_13 : decode cX12_met 13 = .ok (.ifCond .eq 15, 3) := by decide +kernel
theorem dX12_met_16 : decode cX12_met 16 = .ok (.aload_n 0, 1) := by decide +kernel
theorem dX12_met_17 : decode cX12_met 17 = .ok (.iconst 0, 1) := by decide +kernel
theorem dX12_met_18 : decode cX12_met 18 = .ok (.iload_n 1, 1) := by decide +kernel
theorem dX12_met_19 : decode cX12_met 19 = .ok (.invokevirtual 359, 3) := by decide +kernel
theorem dX12_met_22 : decode cX12_met 22 = .ok (.invokestatic 207, 3) := by decide +kernel
theorem dX12_met_25 : decode cX12_met 25 = .ok (.goto 5, 3) := by decide +kernel
theorem dX12_met_28 : decode cX12_met 28 = .ok (.ldc 204, 2) := by decide +kernel
theorem dX12_met_30 : decode cX12_met 30 = .ok (.ireturn, 1) := by decide +kernel
theorem dX12_unmetOf_0 : decode cX12_unmetOf 0 = .ok (.iconst 0, 1) := by decide +kernel
theorem dX12_unmetOf_1 : decode cX12_unmetOf 1 = .ok (.istore_n 3, 1) := by decide +kernel
theorem dX12_unmetOf_2 : decode cX12_unmetOf 2 = .ok (.iconst 0, 1) := by decide +kernel
theorem dX12_unmetOf_3 : decode cX12_unmetOf 3 = .ok (.istore 4, 2) := by decide +kernel
theorem dX12_unmetOf_5 : decode cX12_unmetOf 5 = .ok (.iload 4, 2) := by decide +kernel
theorem dX12_unmetOf_7 : decode cX12_unmetOf 7 = .ok (.iload_n 2, 1) := by decide +kernel
theorem dX12_unmetOf_8 : decode cX12_unmetOf 8 = .ok (.if_icmp .ge 30, 3) := by decide +kernel
theorem dX12_unmetOf_11 : decode cX12_unmetOf 11 = .ok (.iload_n 3, 1) := by decide +kernel
theorem dX12_unmetOf_12 : decode cX12_unmetOf 12 = .ok (.aload_n 0, 1) := by decide +kernel
theorem dX12_unmetOf_13 : decode cX12_unmetOf 13 = .ok (.iload_n 1, 1) := by decide +kernel
theorem dX12_unmetOf_14 : decode cX12_unmetOf 14 = .ok (.iload 4, 2) := by decide +kernel
theorem dX12_unmetOf_16 : decode cX12_unmetOf 16 = .ok (.invokevirtual 359, 3) := by decide +kernel
theorem dX12_unmetOf_19 : decode cX12_unmetOf 19 = .ok (.ifCond .ne 7, 3) := by decide +kernel
theorem dX12_unmetOf_22 : decode cX12_unmetOf 22 = .ok (.iconst 1, 1) := by decide +kernel
theorem dX12_unmetOf_23 : decode cX12_unmetOf 23 = .ok (.goto 4, 3) := by decide +kernel
theorem dX12_unmetOf_26 : decode cX12_unmetOf 26 = .ok (.iconst 0, 1) := by decide +kernel
theorem dX12_unmetOf_27 : decode cX12_unmetOf 27 = .ok (.invokestatic 207, 3) := by decide +kernel
theorem dX12_unmetOf_30 : decode cX12_unmetOf 30 = .ok (.iadd, 1) := by decide +kernel
theorem dX12_unmetOf_31 : decode cX12_unmetOf 31 = .ok (.istore_n 3, 1) := by decide +kernel
theorem dX12_unmetOf_32 : decode cX12_unmetOf 32 = .ok (.iinc 4 1, 3) := by decide +kernel
theorem dX12_unmetOf_35 : decode cX12_unmetOf 35 = .ok (.goto (-30), 3) := by decide +kernel
theorem dX12_unmetOf_38 : decode cX12_unmetOf 38 = .ok (.iload_n 3, 1) := by decide +kernel
theorem dX12_unmetOf_39 : decode cX12_unmetOf 39 = .ok (.ireturn, 1) := by decide +kernel
theorem dX12_isKnown_0 : decode cX12_isKnown 0 = .ok (.iload_n 1, 1) := by decide +kernel
theorem dX12_isKnown_1 : decode cX12_isKnown 1 = .ok (.i2l, 1) := by decide +kernel
theorem dX12_isKnown_2 : decode cX12_isKnown 2 = .ok (.ldc2_w 346, 3) := by decide +kernel
theorem dX12_isKnown_5 : decode cX12_isKnown 5 = .ok (.aload_n 0, 1) := by decide +kernel
theorem dX12_isKnown_6 : decode cX12_isKnown 6 = .ok (.getfield 227, 3) := by decide +kernel
theorem dX12_isKnown_9 : decode cX12_isKnown 9 = .ok (.i2l, 1) := by decide +kernel
theorem dX12_isKnown_10 : decode cX12_isKnown 10 = .ok (.invokestatic 134, 3) := by decide +kernel
theorem dX12_isKnown_13 : decode cX12_isKnown 13 = .ok (.ireturn, 1) := by decide +kernel
theorem dX12_first_0 : decode cX12_first 0 = .ok (.iload_n 1, 1) := by decide +kernel
theorem dX12_first_1 : decode cX12_first 1 = .ok (.ifCond .ge 10, 3) := by decide +kernel
theorem dX12_first_4 : decode cX12_first 4 = .ok (.aload_n 0, 1) := by decide +kernel
theorem dX12_first_5 : decode cX12_first 5 = .ok (.getfield 227, 3) := by decide +kernel
theorem dX12_first_8 : decode cX12_first 8 = .ok (.goto 4, 3) := by decide +kernel
theorem dX12_first_11 : decode cX12_first 11 = .ok (.iload_n 1, 1) := by decide +kernel
theorem dX12_first_12 : decode cX12_first 12 = .ok (.ireturn, 1) := by decide +kernel
theorem dX12_unmet_0 : decode cX12_unmet 0 = .ok (.aload_n 0, 1) := by decide +kernel
theorem dX12_unmet_1 : decode cX12_unmet 1 = .ok (.iload_n 1, 1) := by decide +kernel
theorem dX12_unmet_2 : decode cX12_unmet 2 = .ok (.invokevirtual 362, 3) := by decide +kernel
theorem dX12_unmet_5 : decode cX12_unmet 5 = .ok (.ifCond .ne 6, 3) := by decide +kernel
theorem dX12_unmet_8 : decode cX12_unmet 8 = .ok (.ldc 195, 2) := by decide +kernel
theorem dX12_unmet_10 : decode cX12_unmet 10 = .ok (.ireturn, 1) := by decide +kernel
theorem dX12_unmet_11 : decode cX12_unmet 11 = .ok (.iload_n 2, 1) := by decide +kernel
theorem dX12_unmet_12 : decode cX12_unmet 12 = .ok (.istore_n 3, 1) := by decide +kernel
theorem dX12_unmet_13 : decode cX12_unmet 13 = .ok (.iconst 0, 1) := by decide +kernel
theorem dX12_unmet_14 : decode cX12_unmet 14 = .ok (.istore 4, 2) := by decide +kernel
theorem dX12_unmet_16 : decode cX12_unmet 16 = .ok (.iload 4, 2) := by decide +kernel
theorem dX12_unmet_18 : decode cX12_unmet 18 = .ok (.aload_n 0, 1) := by decide +kernel
theorem dX12_unmet_19 : decode cX12_unmet 19 = .ok (.iload_n 1, 1) := by decide +kernel
theorem dX12_unmet_20 : decode cX12_unmet 20 = .ok (.invokevirtual 365, 3) := by decide +kernel
theorem dX12_unmet_23 : decode cX12_unmet 23 = .ok (.if_icmp .ge 33, 3) := by decide +kernel
theorem dX12_unmet_26 : decode cX12_unmet 26 = .ok (.iload_n 2, 1) := by decide +kernel
theorem dX12_unmet_27 : decode cX12_unmet 27 = .ok (.ifCond .lt 29, 3) := by decide +kernel
theorem dX12_unmet_30 : decode cX12_unmet 30 = .ok (.aload_n 0, 1) := by decide +kernel
theorem dX12_unmet_31 : decode cX12_unmet 31 = .ok (.iconst 0, 1) := by decide +kernel
theorem dX12_unmet_32 : decode cX12_unmet 32 = .ok (.iload 4, 2) := by decide +kernel
theorem dX12_unmet_34 : decode cX12_unmet 34 = .ok (.invokevirtual 359, 3) := by decide +kernel
theorem dX12_unmet_37 : decode cX12_unmet 37 = .ok (.ifCond .ne 13, 3) := by decide +kernel
theorem dX12_unmet_40 : decode cX12_unmet 40 = .ok (.iload_n 3, 1) := by decide +kernel
theorem dX12_unmet_41 : decode cX12_unmet 41 = .ok (.ifCond .ne 6, 3) := by decide +kernel
theorem dX12_unmet_44 : decode cX12_unmet 44 = .ok (.iload 4, 2) := by decide +kernel
theorem dX12_unmet_46 : decode cX12_unmet 46 = .ok (.ireturn, 1) := by decide +kernel
theorem dX12_unmet_47 : decode cX12_unmet 47 = .ok (.iinc 3 (-1), 3) := by decide +kernel
theorem dX12_unmet_50 : decode cX12_unmet 50 = .ok (.iinc 4 1, 3) := by decide +kernel
theorem dX12_unmet_53 : decode cX12_unmet 53 = .ok (.goto (-37), 3) := by decide +kernel
theorem dX12_unmet_56 : decode cX12_unmet 56 = .ok (.iconst (-1), 1) := by decide +kernel
theorem dX12_unmet_57 : decode cX12_unmet 57 = .ok (.ireturn, 1) := by decide +kernel
theorem dX12_forget_0 : decode cX12_forget 0 = .ok (.aload_n 0, 1) := by decide +kernel
theorem dX12_forget_1 : decode cX12_forget 1 = .ok (.getfield 227, 3) := by decide +kernel
theorem dX12_forget_4 : decode cX12_forget 4 = .ok (.ifCond .ne 6, 3) := by decide +kernel
theorem dX12_forget_7 : decode cX12_forget 7 = .ok (.ldc 200, 2) := by decide +kernel
theorem dX12_forget_9 : decode cX12_forget 9 = .ok (.ireturn, 1) := by decide +kernel
theorem dX12_forget_10 : decode cX12_forget 10 = .ok (.aload_n 0, 1) := by decide +kernel
theorem dX12_forget_11 : decode cX12_forget 11 = .ok (.dup, 1) := by decide +kernel
theorem dX12_forget_12 : decode cX12_forget 12 = .ok (.getfield 227, 3) := by decide +kernel
theorem dX12_forget_15 : decode cX12_forget 15 = .ok (.iconst 1, 1) := by decide +kernel
theorem dX12_forget_16 : decode cX12_forget 16 = .ok (.isub, 1) := by decide +kernel
theorem dX12_forget_17 : decode cX12_forget 17 = .ok (.putfield 227, 3) := by decide +kernel
theorem dX12_forget_20 : decode cX12_forget 20 = .ok (.aload_n 0, 1) := by decide +kernel
theorem dX12_forget_21 : decode cX12_forget 21 = .ok (.getfield 227, 3) := by decide +kernel
theorem dX12_forget_24 : decode cX12_forget 24 = .ok (.ireturn, 1) := by decide +kernel
theorem dX12_claim_0 : decode cX12_claim 0 = .ok (.iload_n 1, 1) := by decide +kernel
theorem dX12_claim_1 : decode cX12_claim 1 = .ok (.i2l, 1) := by decide +kernel
theorem dX12_claim_2 : decode cX12_claim 2 = .ok (.lconst 0, 1) := by decide +kernel
theorem dX12_claim_3 : decode cX12_claim 3 = .ok (.ldc2_w 298, 3) := by decide +kernel
theorem dX12_claim_6 : decode cX12_claim 6 = .ok (.invokestatic 134, 3) := by decide +kernel
theorem dX12_claim_9 : decode cX12_claim 9 = .ok (.ifCond .eq 32, 3) := by decide +kernel
theorem dX12_claim_12 : decode cX12_claim 12 = .ok (.iload_n 2, 1) := by decide +kernel
theorem dX12_claim_13 : decode cX12_claim 13 = .ok (.i2l, 1) := by decide +kernel
theorem dX12_claim_14 : decode cX12_claim 14 = .ok (.lconst 0, 1) := by decide +kernel
theorem dX12_claim_15 : decode cX12_claim 15 = .ok (.ldc2_w 298, 3) := by decide +kernel
theorem dX12_claim_18 : decode cX12_claim 18 = .ok (.invokestatic 134, 3) := by decide +kernel
theorem dX12_claim_21 : decode cX12_claim 21 = .ok (.ifCond .eq 20, 3) := by decide +kernel
theorem dX12_claim_24 : decode cX12_claim 24 = .ok (.iload_n 1, 1) := by decide +kernel
theorem dX12_claim_25 : decode cX12_claim 25 = .ok (.iload_n 2, 1) := by decide +kernel
theorem dX12_claim_26 : decode cX12_claim 26 = .ok (.if_icmp .eq 15, 3) := by decide +kernel
theorem dX12_claim_29 : decode cX12_claim 29 = .ok (.iload_n 3, 1) := by decide +kernel
theorem dX12_claim_30 : decode cX12_claim 30 = .ok (.i2l, 1) := by decide +kernel
theorem dX12_claim_31 : decode cX12_claim 31 = .ok (.lconst 1, 1) := by decide +kernel
theorem dX12_claim_32 : decode cX12_claim 32 = .ok (.ldc2_w 368, 3) := by decide +kernel
theorem dX12_claim_35 : decode cX12_claim 35 = .ok (.invokestatic 134, 3) := by decide +kernel
theorem dX12_claim_38 : decode cX12_claim 38 = .ok (.ifCond .ne 6, 3) := by decide +kernel
theorem dX12_claim_41 : decode cX12_claim 41 = .ok (.ldc 195, 2) := by decide +kernel
theorem dX12_claim_43 : decode cX12_claim 43 = .ok (.ireturn, 1) := by decide +kernel
theorem dX12_claim_44 : decode cX12_claim 44 = .ok (.aload_n 0, 1) := by decide +kernel
theorem dX12_claim_45 : decode cX12_claim 45 = .ok (.getfield 230, 3) := by decide +kernel
theorem dX12_claim_48 : decode cX12_claim 48 = .ok (.bipush 24, 2) := by decide +kernel
theorem dX12_claim_50 : decode cX12_claim 50 = .ok (.if_icmp .ne 6, 3) := by decide +kernel
theorem dX12_claim_53 : decode cX12_claim 53 = .ok (.ldc 196, 2) := by decide +kernel
theorem dX12_claim_55 : decode cX12_claim 55 = .ok (.ireturn, 1) := by decide +kernel
theorem dX12_claim_56 : decode cX12_claim 56 = .ok (.aload_n 0, 1) := by decide +kernel
theorem dX12_claim_57 : decode cX12_claim 57 = .ok (.getfield 76, 3) := by decide +kernel
theorem dX12_claim_60 : decode cX12_claim 60 = .ok (.aload_n 0, 1) := by decide +kernel
theorem dX12_claim_61 : decode cX12_claim 61 = .ok (.getfield 230, 3) := by decide +kernel
theorem dX12_claim_64 : decode cX12_claim 64 = .ok (.iload_n 1, 1) := by decide +kernel
theorem dX12_claim_65 : decode cX12_claim 65 = .ok (.iastore, 1) := by decide +kernel
theorem dX12_claim_66 : decode cX12_claim 66 = .ok (.aload_n 0, 1) := by decide +kernel
theorem dX12_claim_67 : decode cX12_claim 67 = .ok (.getfield 79, 3) := by decide +kernel
theorem dX12_claim_70 : decode cX12_claim 70 = .ok (.aload_n 0, 1) := by decide +kernel
theorem dX12_claim_71 : decode cX12_claim 71 = .ok (.getfield 230, 3) := by decide +kernel
theorem dX12_claim_74 : decode cX12_claim 74 = .ok (.iload_n 2, 1) := by decide +kernel
theorem dX12_claim_75 : decode cX12_claim 75 = .ok (.iastore, 1) := by decide +kernel
theorem dX12_claim_76 : decode cX12_claim 76 = .ok (.aload_n 0, 1) := by decide +kernel
theorem dX12_claim_77 : decode cX12_claim 77 = .ok (.getfield 82, 3) := by decide +kernel
theorem dX12_claim_80 : decode cX12_claim 80 = .ok (.aload_n 0, 1) := by decide +kernel
theorem dX12_claim_81 : decode cX12_claim 81 = .ok (.getfield 230, 3) := by decide +kernel
theorem dX12_claim_84 : decode cX12_claim 84 = .ok (.iload_n 3, 1) := by decide +kernel
theorem dX12_claim_85 : decode cX12_claim 85 = .ok (.iastore, 1) := by decide +kernel
theorem dX12_claim_86 : decode cX12_claim 86 = .ok (.aload_n 0, 1) := by decide +kernel
theorem dX12_claim_87 : decode cX12_claim 87 = .ok (.dup, 1) := by decide +kernel
theorem dX12_claim_88 : decode cX12_claim 88 = .ok (.getfield 230, 3) := by decide +kernel
theorem dX12_claim_91 : decode cX12_claim 91 = .ok (.iconst 1, 1) := by decide +kernel
theorem dX12_claim_92 : decode cX12_claim 92 = .ok (.iadd, 1) := by decide +kernel
theorem dX12_claim_93 : decode cX12_claim 93 = .ok (.putfield 230, 3) := by decide +kernel
theorem dX12_claim_96 : decode cX12_claim 96 = .ok (.aload_n 0, 1) := by decide +kernel
theorem dX12_claim_97 : decode cX12_claim 97 = .ok (.getfield 230, 3) := by decide +kernel
theorem dX12_claim_100 : decode cX12_claim 100 = .ok (.iconst 1, 1) := by decide +kernel
theorem dX12_claim_101 : decode cX12_claim 101 = .ok (.isub, 1) := by decide +kernel
theorem dX12_claim_102 : decode cX12_claim 102 = .ok (.ireturn, 1) := by decide +kernel
theorem dX12_costOf_0 : decode cX12_costOf 0 = .ok (.iconst 0, 1) := by decide +kernel
theorem dX12_costOf_1 : decode cX12_costOf 1 = .ok (.istore 4, 2) := by decide +kernel
theorem dX12_costOf_3 : decode cX12_costOf 3 = .ok (.iconst 0, 1) := by decide +kernel
theorem dX12_costOf_4 : decode cX12_costOf 4 = .ok (.istore 5, 2) := by decide +kernel
theorem dX12_costOf_6 : decode cX12_costOf 6 = .ok (.iload 5, 2) := by decide +kernel
theorem dX12_costOf_8 : decode cX12_costOf 8 = .ok (.aload_n 0, 1) := by decide +kernel
theorem dX12_costOf_9 : decode cX12_costOf 9 = .ok (.getfield 230, 3) := by decide +kernel
theorem dX12_costOf_12 : decode cX12_costOf 12 = .ok (.if_icmp .ge 73, 3) := by decide +kernel
theorem dX12_costOf_15 : decode cX12_costOf 15 = .ok (.aload_n 0, 1) := by decide +kernel
theorem dX12_costOf_16 : decode cX12_costOf 16 = .ok (.getfield 79, 3) := by decide +kernel
theorem dX12_costOf_19 : decode cX12_costOf 19 = .ok (.iload 5, 2) := by decide +kernel
theorem dX12_costOf_21 : decode cX12_costOf 21 = .ok (.iaload, 1) := by decide +kernel
theorem dX12_costOf_22 : decode cX12_costOf 22 = .ok (.iload_n 3, 1) := by decide +kernel
theorem dX12_costOf_23 : decode cX12_costOf 23 = .ok (.if_icmp .ne 32, 3) := by decide +kernel
theorem dX12_costOf_26 : decode cX12_costOf 26 = .ok (.aload_n 0, 1) := by decide +kernel
theorem dX12_costOf_27 : decode cX12_costOf 27 = .ok (.getfield 76, 3) := by decide +kernel
theorem dX12_costOf_30 : decode cX12_costOf 30 = .ok (.iload 5, 2) := by decide +kernel
theorem dX12_costOf_32 : decode cX12_costOf 32 = .ok (.iaload, 1) := by decide +kernel
theorem dX12_costOf_33 : decode cX12_costOf 33 = .ok (.iload_n 1, 1) := by decide +kernel
theorem dX12_costOf_34 : decode cX12_costOf 34 = .ok (.if_icmp .ge 21, 3) := by decide +kernel
theorem dX12_costOf_37 : decode cX12_costOf 37 = .ok (.iload_n 2, 1) := by decide +kernel
theorem dX12_costOf_38 : decode cX12_costOf 38 = .ok (.aload_n 0, 1) := by decide +kernel
theorem dX12_costOf_39 : decode cX12_costOf 39 = .ok (.getfield 76, 3) := by decide +kernel
theorem dX12_costOf_42 : decode cX12_costOf 42 = .ok (.iload 5, 2) := by decide +kernel
theorem dX12_costOf_44 : decode cX12_costOf 44 = .ok (.iaload, 1) := by decide +kernel
theorem dX12_costOf_45 : decode cX12_costOf 45 = .ok (.ishr, 1) := by decide +kernel
theorem dX12_costOf_46 : decode cX12_costOf 46 = .ok (.iconst 1, 1) := by decide +kernel
theorem dX12_costOf_47 : decode cX12_costOf 47 = .ok (.iand, 1) := by decide +kernel
theorem dX12_costOf_48 : decode cX12_costOf 48 = .ok (.ifCond .ne 7, 3) := by decide +kernel
theorem dX12_costOf_51 : decode cX12_costOf 51 = .ok (.iconst 1, 1) := by decide +kernel
theorem dX12_costOf_52 : decode cX12_costOf 52 = .ok (.goto 4, 3) := by decide +kernel
theorem dX12_costOf_55 : decode cX12_costOf 55 = .ok (.iconst 0, 1) := by decide +kernel
theorem dX12_costOf_56 : decode cX12_costOf 56 = .ok (.istore 6, 2) := by decide +kernel
theorem dX12_costOf_58 : decode cX12_costOf 58 = .ok (.iload 4, 2) := by decide +kernel
theorem dX12_costOf_60 : decode cX12_costOf 60 = .ok (.iload 6, 2) := by decide +kernel
theorem dX12_costOf_62 : decode cX12_costOf 62 = .ok (.ifCond .eq 13, 3) := by decide +kernel
theorem dX12_costOf_65 : decode cX12_costOf 65 = .ok (.aload_n 0, 1) := by decide +kernel
theorem dX12_costOf_66 : decode cX12_costOf 66 = .ok (.getfield 82, 3) := by decide +kernel
theorem dX12_costOf_69 : decode cX12_costOf 69 = .ok (.iload 5, 2) := by decide +kernel
theorem dX12_costOf_71 : decode cX12_costOf 71 = .ok (.iaload, 1) := by decide +kernel
theorem dX12_costOf_72 : decode cX12_costOf 72 = .ok (.goto 4, 3) := by decide +kernel
theorem dX12_costOf_75 : decode cX12_costOf 75 = .ok (.iconst 0, 1) := by decide +kernel
theorem dX12_costOf_76 : decode cX12_costOf 76 = .ok (.iadd, 1) := by decide +kernel
theorem dX12_costOf_77 : decode cX12_costOf 77 = .ok (.istore 4, 2) := by decide +kernel
theorem dX12_costOf_79 : decode cX12_costOf 79 = .ok (.iinc 5 1, 3) := by decide +kernel
theorem dX12_costOf_82 : decode cX12_costOf 82 = .ok (.goto (-76), 3) := by decide +kernel
theorem dX12_costOf_85 : decode cX12_costOf 85 = .ok (.iload 4, 2) := by decide +kernel
theorem dX12_costOf_87 : decode cX12_costOf 87 = .ok (.ireturn, 1) := by decide +kernel
theorem dX12_findQuarrels_0 : decode cX12_findQuarrels 0 = .ok (.iconst 1, 1) := by decide +kernel
theorem dX12_findQuarrels_1 : decode cX12_findQuarrels 1 = .ok (.iload_n 1, 1) := by decide +kernel
theorem dX12_findQuarrels_2 : decode cX12_findQuarrels 2 = .ok (.ishl, 1) := by decide +kernel
theorem dX12_findQuarrels_3 : decode cX12_findQuarrels 3 = .ok (.iconst 1, 1) := by decide +kernel
theorem dX12_findQuarrels_4 : decode cX12_findQuarrels 4 = .ok (.isub, 1) := by decide +kernel
theorem dX12_findQuarrels_5 : decode cX12_findQuarrels 5 = .ok (.istore 4, 2) := by decide +kernel
theorem dX12_findQuarrels_7 : decode cX12_findQuarrels 7 = .ok (.aload_n 0, 1) := by decide +kernel
theorem dX12_findQuarrels_8 : decode cX12_findQuarrels 8 = .ok (.getfield 85, 3) := by decide +kernel
theorem dX12_findQuarrels_11 : decode cX12_findQuarrels 11 = .ok (.iload 4, 2) := by decide +kernel
theorem dX12_findQuarrels_13 : decode cX12_findQuarrels 13 = .ok (.iconst 0, 1) := by decide +kernel
theorem dX12_findQuarrels_14 : decode cX12_findQuarrels 14 = .ok (.iastore, 1) := by decide +kernel
theorem dX12_findQuarrels_15 : decode cX12_findQuarrels 15 = .ok (.iload 4, 2) := by decide +kernel
theorem dX12_findQuarrels_17 : decode cX12_findQuarrels 17 = .ok (.iconst 1, 1) := by decide +kernel
theorem dX12_findQuarrels_18 : decode cX12_findQuarrels 18 = .ok (.isub, 1) := by decide +kernel
theorem dX12_findQuarrels_19 : decode cX12_findQuarrels 19 = .ok (.istore 5, 2) := by decide +kernel
theorem dX12_findQuarrels_21 : decode cX12_findQuarrels 21 = .ok (.iload 5, 2) := by decide +kernel
theorem dX12_findQuarrels_23 : decode cX12_findQuarrels 23 = .ok (.ifCond .lt 120, 3) := by decide +kernel
theorem dX12_findQuarrels_26 : decode cX12_findQuarrels 26 = .ok (.ldc_w 370, 3) := by decide +kernel
theorem dX12_findQuarrels_29 : decode cX12_findQuarrels 29 = .ok (.istore 6, 2) := by decide +kernel
theorem dX12_findQuarrels_31 : decode cX12_findQuarrels 31 = .ok (.iconst 0, 1) := by decide +kernel
theorem dX12_findQuarrels_32 : decode cX12_findQuarrels 32 = .ok (.istore 7, 2) := by decide +kernel
theorem dX12_findQuarrels_34 : decode cX12_findQuarrels 34 = .ok (.iload 7, 2) := by decide +kernel
theorem dX12_findQuarrels_36 : decode cX12_findQuarrels 36 = .ok (.iload_n 1, 1) := by decide +kernel
theorem dX12_findQuarrels_37 : decode cX12_findQuarrels 37 = .ok (.if_icmp .ge 91, 3) := by decide +kernel
theorem dX12_findQuarrels_40 : decode cX12_findQuarrels 40 = .ok (.iload 5, 2) := by decide +kernel
theorem dX12_findQuarrels_42 : decode cX12_findQuarrels 42 = .ok (.iload 7, 2) := by decide +kernel
theorem dX12_findQuarrels_44 : decode cX12_findQuarrels 44 = .ok (.ishr, 1) := by decide +kernel
theorem dX12_findQuarrels_45 : decode cX12_findQuarrels 45 = .ok (.iconst 1, 1) := by decide +kernel
theorem dX12_findQuarrels_46 : decode cX12_findQuarrels 46 = .ok (.iand, 1) := by decide +kernel
theorem dX12_findQuarrels_47 : decode cX12_findQuarrels 47 = .ok (.ifCond .ne 27, 3) := by decide +kernel
theorem dX12_findQuarrels_50 : decode cX12_findQuarrels 50 = .ok (.iload_n 2, 1) := by decide +kernel
theorem dX12_findQuarrels_51 : decode cX12_findQuarrels 51 = .ok (.ifCond .lt 19, 3) := by decide +kernel
theorem dX12_findQuarrels_54 : decode cX12_findQuarrels 54 = .ok (.iload 7, 2) := by decide +kernel
theorem dX12_findQuarrels_56 : decode cX12_findQuarrels 56 = .ok (.iload_n 3, 1) := by decide +kernel
theorem dX12_findQuarrels_57 : decode cX12_findQuarrels 57 = .ok (.if_icmp .ne 13, 3) := by decide +kernel
theorem dX12_findQuarrels_60 : decode cX12_findQuarrels 60 = .ok (.iload 5, 2) := by decide +kernel
theorem dX12_findQuarrels_62 : decode cX12_findQuarrels 62 = .ok (.iload_n 2, 1) := by decide +kernel
theorem dX12_findQuarrels_63 : decode cX12_findQuarrels 63 = .ok (.ishr, 1) := by decide +kernel
theorem dX12_findQuarrels_64 : decode cX12_findQuarrels 64 = .ok (.iconst 1, 1) := by decide +kernel
theorem dX12_findQuarrels_65 : decode cX12_findQuarrels 65 = .ok (.iand, 1) := by decide +kernel
theorem dX12_findQuarrels_66 : decode cX12_findQuarrels 66 = .ok (.iconst 1, 1) := by decide +kernel
theorem dX12_findQuarrels_67 : decode cX12_findQuarrels 67 = .ok (.if_icmp .ne 7, 3) := by decide +kernel
theorem dX12_findQuarrels_70 : decode cX12_findQuarrels 70 = .ok (.iconst 1, 1) := by decide +kernel
theorem dX12_findQuarrels_71 : decode cX12_findQuarrels 71 = .ok (.goto 4, 3) := by decide +kernel
theorem dX12_findQuarrels_74 : decode cX12_findQuarrels 74 = .ok (.iconst 0, 1) := by decide +kernel
theorem dX12_findQuarrels_75 : decode cX12_findQuarrels 75 = .ok (.istore 8, 2) := by decide +kernel
theorem dX12_findQuarrels_77 : decode cX12_findQuarrels 77 = .ok (.iload 8, 2) := by decide +kernel
theorem dX12_findQuarrels_79 : decode cX12_findQuarrels 79 = .ok (.ifCond .eq 43, 3) := by decide +kernel
theorem dX12_findQuarrels_82 : decode cX12_findQuarrels 82 = .ok (.aload_n 0, 1) := by decide +kernel
theorem dX12_findQuarrels_83 : decode cX12_findQuarrels 83 = .ok (.iload_n 1, 1) := by decide +kernel
theorem dX12_findQuarrels_84 : decode cX12_findQuarrels 84 = .ok (.iload 5, 2) := by decide +kernel
theorem dX12_findQuarrels_86 : decode cX12_findQuarrels 86 = .ok (.iload 7, 2) := by decide +kernel
theorem dX12_findQuarrels_88 : decode cX12_findQuarrels 88 = .ok (.invokevirtual 371, 3) := by decide +kernel
theorem dX12_findQuarrels_91 : decode cX12_findQuarrels 91 = .ok (.aload_n 0, 1) := by decide +kernel
theorem dX12_findQuarrels_92 : decode cX12_findQuarrels 92 = .ok (.getfield 85, 3) := by decide +kernel
theorem dX12_findQuarrels_95 : decode cX12_findQuarrels 95 = .ok (.iload 5, 2) := by decide +kernel
theorem dX12_findQuarrels_97 : decode cX12_findQuarrels 97 = .ok (.iconst 1, 1) := by decide +kernel
theorem dX12_findQuarrels_98 : decode cX12_findQuarrels 98 = .ok (.iload 7, 2) := by decide +kernel
theorem dX12_findQuarrels_100 : decode cX12_findQuarrels 100 = .ok (.ishl, 1) := by decide +kernel
theorem dX12_findQuarrels_101 : decode cX12_findQuarrels 101 = .ok (.ior, 1) := by decide +kernel
theorem dX12_findQuarrels_102 : decode cX12_findQuarrels 102 = .ok (.iaload, 1) := by decide +kernel
theorem dX12_findQuarrels_103 : decode cX12_findQuarrels 103 = .ok (.iadd, 1) := by decide +kernel
theorem dX12_findQuarrels_104 : decode cX12_findQuarrels 104 = .ok (.istore 9, 2) := by decide +kernel
theorem dX12_findQuarrels_106 : decode cX12_findQuarrels 106 = .ok (.iload 9, 2) := by decide +kernel
theorem dX12_findQuarrels_108 : decode cX12_findQuarrels 108 = .ok (.iload 6, 2) := by decide +kernel
theorem dX12_findQuarrels_110 : decode cX12_findQuarrels 110 = .ok (.if_icmp .ge 8, 3) := by decide +kernel
theorem dX12_findQuarrels_113 : decode cX12_findQuarrels 113 = .ok (.iload 9, 2) := by decide +kernel
theorem dX12_findQuarrels_115 : decode cX12_findQuarrels 115 = .ok (.goto 5, 3) := by decide +kernel
theorem dX12_findQuarrels_118 : decode cX12_findQuarrels 118 = .ok (.iload 6, 2) := by decide +kernel
theorem dX12_findQuarrels_120 : decode cX12_findQuarrels 120 = .ok (.istore 6, 2) := by decide +kernel
theorem dX12_findQuarrels_122 : decode cX12_findQuarrels 122 = .ok (.iinc 7 1, 3) := by decide +kernel
theorem dX12_findQuarrels_125 : decode cX12_findQuarrels 125 = .ok (.goto (-91), 3) := by decide +kernel
theorem dX12_findQuarrels_128 : decode cX12_findQuarrels 128 = .ok (.aload_n 0, 1) := by decide +kernel
theorem dX12_findQuarrels_129 : decode cX12_findQuarrels 129 = .ok (.getfield 85, 3) := by decide +kernel
theorem dX12_findQuarrels_132 : decode cX12_findQuarrels 132 = .ok (.iload 5, 2) := by decide +kernel
theorem dX12_findQuarrels_134 : decode cX12_findQuarrels 134 = .ok (.iload 6, 2) := by decide +kernel
theorem dX12_findQuarrels_136 : decode cX12_findQuarrels 136 = .ok (.iastore, 1) := by decide +kernel
theorem dX12_findQuarrels_137 : decode cX12_findQuarrels 137 = .ok (.iinc 5 (-1), 3) := by decide +kernel
theorem dX12_findQuarrels_140 : decode cX12_findQuarrels 140 = .ok (.goto (-119), 3) := by decide +kernel
theorem dX12_findQuarrels_143 : decode cX12_findQuarrels 143 = .ok (.return_, 1) := by decide +kernel
theorem dX12_row_0 : decode cX12_row 0 = .ok (.iload_n 1, 1) := by decide +kernel
theorem dX12_row_1 : decode cX12_row 1 = .ok (.i2l, 1) := by decide +kernel
theorem dX12_row_2 : decode cX12_row 2 = .ok (.ldc2_w 321, 3) := by decide +kernel
theorem dX12_row_5 : decode cX12_row 5 = .ok (.ldc2_w 245, 3) := by decide +kernel
theorem dX12_row_8 : decode cX12_row 8 = .ok (.invokestatic 134, 3) := by decide +kernel
theorem dX12_row_11 : decode cX12_row 11 = .ok (.ifCond .eq 18, 3) := by decide +kernel
theorem dX12_row_14 : decode cX12_row 14 = .ok (.iload_n 2, 1) := by decide +kernel
theorem dX12_row_15 : decode cX12_row 15 = .ok (.i2l, 1) := by decide +kernel
theorem dX12_row_16 : decode cX12_row 16 = .ok (.ldc2_w 346, 3) := by decide +kernel
theorem dX12_row_19 : decode cX12_row 19 = .ok (.iload_n 1, 1) := by decide +kernel
theorem dX12_row_20 : decode cX12_row 20 = .ok (.iconst 1, 1) := by decide +kernel
theorem dX12_row_21 : decode cX12_row 21 = .ok (.isub, 1) := by decide +kernel
theorem dX12_row_22 : decode cX12_row 22 = .ok (.i2l, 1) := by decide +kernel
theorem dX12_row_23 : decode cX12_row 23 = .ok (.invokestatic 134, 3) := by decide +kernel
theorem dX12_row_26 : decode cX12_row 26 = .ok (.ifCond .ne 6, 3) := by decide +kernel
theorem dX12_row_29 : decode cX12_row 29 = .ok (.ldc 195, 2) := by decide +kernel
theorem dX12_row_31 : decode cX12_row 31 = .ok (.ireturn, 1) := by decide +kernel
theorem dX12_row_32 : decode cX12_row 32 = .ok (.aload_n 0, 1) := by decide +kernel
theorem dX12_row_33 : decode cX12_row 33 = .ok (.iload_n 1, 1) := by decide +kernel
theorem dX12_row_34 : decode cX12_row 34 = .ok (.iconst (-1), 1) := by decide +kernel
theorem dX12_row_35 : decode cX12_row 35 = .ok (.iconst (-1), 1) := by decide +kernel
theorem dX12_row_36 : decode cX12_row 36 = .ok (.invokevirtual 374, 3) := by decide +kernel
theorem dX12_row_39 : decode cX12_row 39 = .ok (.iload_n 2, 1) := by decide +kernel
theorem dX12_row_40 : decode cX12_row 40 = .ok (.ifCond .ge 10, 3) := by decide +kernel
theorem dX12_row_43 : decode cX12_row 43 = .ok (.aload_n 0, 1) := by decide +kernel
theorem dX12_row_44 : decode cX12_row 44 = .ok (.getfield 85, 3) := by decide +kernel
theorem dX12_row_47 : decode cX12_row 47 = .ok (.iconst 0, 1) := by decide +kernel
theorem dX12_row_48 : decode cX12_row 48 = .ok (.iaload, 1) := by decide +kernel
theorem dX12_row_49 : decode cX12_row 49 = .ok (.ireturn, 1) := by decide +kernel
theorem dX12_row_50 : decode cX12_row 50 = .ok (.iconst 0, 1) := by decide +kernel
theorem dX12_row_51 : decode cX12_row 51 = .ok (.istore_n 3, 1) := by decide +kernel
theorem dX12_row_52 : decode cX12_row 52 = .ok (.iconst 0, 1) := by decide +kernel
theorem dX12_row_53 : decode cX12_row 53 = .ok (.istore 4, 2) := by decide +kernel
theorem dX12_row_55 : decode cX12_row 55 = .ok (.iconst 0, 1) := by decide +kernel
theorem dX12_row_56 : decode cX12_row 56 = .ok (.istore 5, 2) := by decide +kernel
theorem dX12_row_58 : decode cX12_row 58 = .ok (.iload 5, 2) := by decide +kernel
theorem dX12_row_60 : decode cX12_row 60 = .ok (.iload_n 2, 1) := by decide +kernel
theorem dX12_row_61 : decode cX12_row 61 = .ok (.if_icmp .gt 64, 3) := by decide +kernel
theorem dX12_row_64 : decode cX12_row 64 = .ok (.iconst 0, 1) := by decide +kernel
theorem dX12_row_65 : decode cX12_row 65 = .ok (.istore 4, 2) := by decide +kernel
theorem dX12_row_67 : decode cX12_row 67 = .ok (.iload_n 3, 1) := by decide +kernel
theorem dX12_row_68 : decode cX12_row 68 = .ok (.iload 4, 2) := by decide +kernel
theorem dX12_row_70 : decode cX12_row 70 = .ok (.ishr, 1) := by decide +kernel
theorem dX12_row_71 : decode cX12_row 71 = .ok (.iconst 1, 1) := by decide +kernel
theorem dX12_row_72 : decode cX12_row 72 = .ok (.iand, 1) := by decide +kernel
theorem dX12_row_73 : decode cX12_row 73 = .ok (.iconst 1, 1) := by decide +kernel
theorem dX12_row_74 : decode cX12_row 74 = .ok (.if_icmp .eq 32, 3) := by decide +kernel
theorem dX12_row_77 : decode cX12_row 77 = .ok (.aload_n 0, 1) := by decide +kernel
theorem dX12_row_78 : decode cX12_row 78 = .ok (.iload_n 1, 1) := by decide +kernel
theorem dX12_row_79 : decode cX12_row 79 = .ok (.iload_n 3, 1) := by decide +kernel
theorem dX12_row_80 : decode cX12_row 80 = .ok (.iload 4, 2) := by decide +kernel
theorem dX12_row_82 : decode cX12_row 82 = .ok (.invokevirtual 371, 3) := by decide +kernel
theorem dX12_row_85 : decode cX12_row 85 = .ok (.aload_n 0, 1) := by decide +kernel
theorem dX12_row_86 : decode cX12_row 86 = .ok (.getfield 85, 3) := by decide +kernel
theorem dX12_row_89 : decode cX12_row 89 = .ok (.iload_n 3, 1) := by decide +kernel
theorem dX12_row_90 : decode cX12_row 90 = .ok (.iconst 1, 1) := by decide +kernel
theorem dX12_row_91 : decode cX12_row 91 = .ok (.iload 4, 2) := by decide +kernel
theorem dX12_row_93 : decode cX12_row 93 = .ok (.ishl, 1) := by decide +kernel
theorem dX12_row_94 : decode cX12_row 94 = .ok (.ior, 1) := by decide +kernel
theorem dX12_row_95 : decode cX12_row 95 = .ok (.iaload, 1) := by decide +kernel
theorem dX12_row_96 : decode cX12_row 96 = .ok (.iadd, 1) := by decide +kernel
theorem dX12_row_97 : decode cX12_row 97 = .ok (.aload_n 0, 1) := by decide +kernel
theorem dX12_row_98 : decode cX12_row 98 = .ok (.getfield 85, 3) := by decide +kernel
theorem dX12_row_101 : decode cX12_row 101 = .ok (.iload_n 3, 1) := by decide +kernel
theorem dX12_row_102 : decode cX12_row 102 = .ok (.iaload, 1) := by decide +kernel
theorem dX12_row_103 : decode cX12_row 103 = .ok (.if_icmp .eq 9, 3) := by decide +kernel
theorem dX12_row_106 : decode cX12_row 106 = .ok (.iinc 4 1, 3) := by decide +kernel
theorem dX12_row_109 : decode cX12_row 109 = .ok (.goto (-42), 3) := by decide +kernel
theorem dX12_row_112 : decode cX12_row 112 = .ok (.iload_n 3, 1) := by decide +kernel
theorem dX12_row_113 : decode cX12_row 113 = .ok (.iconst 1, 1) := by decide +kernel
theorem dX12_row_114 : decode cX12_row 114 = .ok (.iload 4, 2) := by decide +kernel
theorem dX12_row_116 : decode cX12_row 116 = .ok (.ishl, 1) := by decide +kernel
theorem dX12_row_117 : decode cX12_row 117 = .ok (.ior, 1) := by decide +kernel
theorem dX12_row_118 : decode cX12_row 118 = .ok (.istore_n 3, 1) := by decide +kernel
theorem dX12_row_119 : decode cX12_row 119 = .ok (.iinc 5 1, 3) := by decide +kernel
theorem dX12_row_122 : decode cX12_row 122 = .ok (.goto (-64), 3) := by decide +kernel
theorem dX12_row_125 : decode cX12_row 125 = .ok (.iload 4, 2) := by decide +kernel
theorem dX12_row_127 : decode cX12_row 127 = .ok (.ireturn, 1) := by decide +kernel
theorem dX12_sure_0 : decode cX12_sure 0 = .ok (.iload_n 1, 1) := by decide +kernel
theorem dX12_sure_1 : decode cX12_sure 1 = .ok (.i2l, 1) := by decide +kernel
theorem dX12_sure_2 : decode cX12_sure 2 = .ok (.ldc2_w 321, 3) := by decide +kernel
theorem dX12_sure_5 : decode cX12_sure 5 = .ok (.ldc2_w 245, 3) := by decide +kernel
theorem dX12_sure_8 : decode cX12_sure 8 = .ok (.invokestatic 134, 3) := by decide +kernel
theorem dX12_sure_11 : decode cX12_sure 11 = .ok (.ifCond .eq 34, 3) := by decide +kernel
theorem dX12_sure_14 : decode cX12_sure 14 = .ok (.iload_n 2, 1) := by decide +kernel
theorem dX12_sure_15 : decode cX12_sure 15 = .ok (.i2l, 1) := by decide +kernel
theorem dX12_sure_16 : decode cX12_sure 16 = .ok (.lconst 0, 1) := by decide +kernel
theorem dX12_sure_17 : decode cX12_sure 17 = .ok (.iload_n 1, 1) := by decide +kernel
theorem dX12_sure_18 : decode cX12_sure 18 = .ok (.iconst 1, 1) := by decide +kernel
theorem dX12_sure_19 : decode cX12_sure 19 = .ok (.isub, 1) := by decide +kernel
theorem dX12_sure_20 : decode cX12_sure 20 = .ok (.i2l, 1) := by decide +kernel
theorem dX12_sure_21 : decode cX12_sure 21 = .ok (.invokestatic 134, 3) := by decide +kernel
theorem dX12_sure_24 : decode cX12_sure 24 = .ok (.ifCond .eq 21, 3) := by decide +kernel
theorem dX12_sure_27 : decode cX12_sure 27 = .ok (.iload_n 3, 1) := by decide +kernel
theorem dX12_sure_28 : decode cX12_sure 28 = .ok (.i2l, 1) := by decide +kernel
theorem dX12_sure_29 : decode cX12_sure 29 = .ok (.lconst 0, 1) := by decide +kernel
theorem dX12_sure_30 : decode cX12_sure 30 = .ok (.iload_n 1, 1) := by decide +kernel
theorem dX12_sure_31 : decode cX12_sure 31 = .ok (.iconst 1, 1) := by decide +kernel
theorem dX12_sure_32 : decode cX12_sure 32 = .ok (.isub, 1) := by decide +kernel
theorem dX12_sure_33 : decode cX12_sure 33 = .ok (.i2l, 1) := by decide +kernel
theorem dX12_sure_34 : decode cX12_sure 34 = .ok (.invokestatic 134, 3) := by decide +kernel
theorem dX12_sure_37 : decode cX12_sure 37 = .ok (.ifCond .eq 8, 3) := by decide +kernel
theorem dX12_sure_40 : decode cX12_sure 40 = .ok (.iload_n 2, 1) := by decide +kernel
theorem dX12_sure_41 : decode cX12_sure 41 = .ok (.iload_n 3, 1) := by decide +kernel
theorem dX12_sure_42 : decode cX12_sure 42 = .ok (.if_icmp .ne 6, 3) := by decide +kernel
theorem dX12_sure_45 : decode cX12_sure 45 = .ok (.ldc 195, 2) := by decide +kernel
theorem dX12_sure_47 : decode cX12_sure 47 = .ok (.ireturn, 1) := by decide +kernel
theorem dX12_sure_48 : decode cX12_sure 48 = .ok (.aload_n 0, 1) := by decide +kernel
theorem dX12_sure_49 : decode cX12_sure 49 = .ok (.iload_n 1, 1) := by decide +kernel
theorem dX12_sure_50 : decode cX12_sure 50 = .ok (.iload_n 2, 1) := by decide +kernel
theorem dX12_sure_51 : decode cX12_sure 51 = .ok (.iload_n 3, 1) := by decide +kernel
theorem dX12_sure_52 : decode cX12_sure 52 = .ok (.invokevirtual 374, 3) := by decide +kernel
theorem dX12_sure_55 : decode cX12_sure 55 = .ok (.aload_n 0, 1) := by decide +kernel
theorem dX12_sure_56 : decode cX12_sure 56 = .ok (.getfield 85, 3) := by decide +kernel
theorem dX12_sure_59 : decode cX12_sure 59 = .ok (.iconst 0, 1) := by decide +kernel
theorem dX12_sure_60 : decode cX12_sure 60 = .ok (.iaload, 1) := by decide +kernel
theorem dX12_sure_61 : decode cX12_sure 61 = .ok (.istore 4, 2) := by decide +kernel
theorem dX12_sure_63 : decode cX12_sure 63 = .ok (.aload_n 0, 1) := by decide +kernel
theorem dX12_sure_64 : decode cX12_sure 64 = .ok (.iload_n 1, 1) := by decide +kernel
theorem dX12_sure_65 : decode cX12_sure 65 = .ok (.iload_n 3, 1) := by decide +kernel
theorem dX12_sure_66 : decode cX12_sure 66 = .ok (.iload_n 2, 1) := by decide +kernel
theorem dX12_sure_67 : decode cX12_sure 67 = .ok (.invokevirtual 374, 3) := by decide +kernel
theorem dX12_sure_70 : decode cX12_sure 70 = .ok (.aload_n 0, 1) := by decide +kernel
theorem dX12_sure_71 : decode cX12_sure 71 = .ok (.getfield 85, 3) := by decide +kernel
theorem dX12_sure_74 : decode cX12_sure 74 = .ok (.iconst 0, 1) := by decide +kernel
theorem dX12_sure_75 : decode cX12_sure 75 = .ok (.iaload, 1) := by decide +kernel
theorem dX12_sure_76 : decode cX12_sure 76 = .ok (.istore 5, 2) := by decide +kernel
theorem dX12_sure_78 : decode cX12_sure 78 = .ok (.iload 4, 2) := by decide +kernel
theorem dX12_sure_80 : decode cX12_sure 80 = .ok (.iload 5, 2) := by decide +kernel
theorem dX12_sure_82 : decode cX12_sure 82 = .ok (.if_icmp .ge 7, 3) := by decide +kernel
theorem dX12_sure_85 : decode cX12_sure 85 = .ok (.iconst 1, 1) := by decide +kernel
theorem dX12_sure_86 : decode cX12_sure 86 = .ok (.goto 15, 3) := by decide +kernel
theorem dX12_sure_89 : decode cX12_sure 89 = .ok (.iload 5, 2) := by decide +kernel
theorem dX12_sure_91 : decode cX12_sure 91 = .ok (.iload 4, 2) := by decide +kernel
theorem dX12_sure_93 : decode cX12_sure 93 = .ok (.if_icmp .ge 7, 3) := by decide +kernel
theorem dX12_sure_96 : decode cX12_sure 96 = .ok (.iconst 2, 1) := by decide +kernel
theorem dX12_sure_97 : decode cX12_sure 97 = .ok (.goto 4, 3) := by decide +kernel
theorem dX12_sure_100 : decode cX12_sure 100 = .ok (.iconst 0, 1) := by decide +kernel
theorem dX12_sure_101 : decode cX12_sure 101 = .ok (.ireturn, 1) := by decide +kernel
theorem dX12_broken_0 : decode cX12_broken 0 = .ok (.iconst 0, 1) := by decide +kernel
theorem dX12_broken_1 : decode cX12_broken 1 = .ok (.istore_n 1, 1) := by decide +kernel
theorem dX12_broken_2 : decode cX12_broken 2 = .ok (.iconst 0, 1) := by decide +kernel
theorem dX12_broken_3 : decode cX12_broken 3 = .ok (.istore_n 2, 1) := by decide +kernel
theorem dX12_broken_4 : decode cX12_broken 4 = .ok (.iload_n 2, 1) := by decide +kernel
theorem dX12_broken_5 : decode cX12_broken 5 = .ok (.aload_n 0, 1) := by decide +kernel
theorem dX12_broken_6 : decode cX12_broken 6 = .ok (.getfield 230, 3) := by decide +kernel
theorem dX12_broken_9 : decode cX12_broken 9 = .ok (.if_icmp .ge 60, 3) := by decide +kernel
theorem dX12_broken_12 : decode cX12_broken 12 = .ok (.aload_n 0, 1) := by decide +kernel
theorem dX12_broken_13 : decode cX12_broken 13 = .ok (.aload_n 0, 1) := by decide +kernel
theorem dX12_broken_14 : decode cX12_broken 14 = .ok (.getfield 76, 3) := by decide +kernel
theorem dX12_broken_17 : decode cX12_broken 17 = .ok (.iload_n 2, 1) := by decide +kernel
theorem dX12_broken_18 : decode cX12_broken 18 = .ok (.iaload, 1) := by decide +kernel
theorem dX12_broken_19 : decode cX12_broken 19 = .ok (.invokevirtual 332, 3) := by decide +kernel
theorem dX12_broken_22 : decode cX12_broken 22 = .ok (.istore_n 3, 1) := by decide +kernel
theorem dX12_broken_23 : decode cX12_broken 23 = .ok (.aload_n 0, 1) := by decide +kernel
theorem dX12_broken_24 : decode cX12_broken 24 = .ok (.aload_n 0, 1) := by decide +kernel
theorem dX12_broken_25 : decode cX12_broken 25 = .ok (.getfield 79, 3) := by decide +kernel
theorem dX12_broken_28 : decode cX12_broken 28 = .ok (.iload_n 2, 1) := by decide +kernel
theorem dX12_broken_29 : decode cX12_broken 29 = .ok (.iaload, 1) := by decide +kernel
theorem dX12_broken_30 : decode cX12_broken 30 = .ok (.invokevirtual 332, 3) := by decide +kernel
theorem dX12_broken_33 : decode cX12_broken 33 = .ok (.istore 4, 2) := by decide +kernel
theorem dX12_broken_35 : decode cX12_broken 35 = .ok (.iload_n 1, 1) := by decide +kernel
theorem dX12_broken_36 : decode cX12_broken 36 = .ok (.iload_n 3, 1) := by decide +kernel
theorem dX12_broken_37 : decode cX12_broken 37 = .ok (.ifCond .lt 23, 3) := by decide +kernel
theorem dX12_broken_40 : decode cX12_broken 40 = .ok (.iload 4, 2) := by decide +kernel
theorem dX12_broken_42 : decode cX12_broken 42 = .ok (.ifCond .lt 18, 3) := by decide +kernel
theorem dX12_broken_45 : decode cX12_broken 45 = .ok (.iload_n 3, 1) := by decide +kernel
theorem dX12_broken_46 : decode cX12_broken 46 = .ok (.iload 4, 2) := by decide +kernel
theorem dX12_broken_48 : decode cX12_broken 48 = .ok (.if_icmp .le 12, 3) := by decide +kernel
theorem dX12_broken_51 : decode cX12_broken 51 = .ok (.aload_n 0, 1) := by decide +kernel
theorem dX12_broken_52 : decode cX12_broken 52 = .ok (.getfield 82, 3) := by decide +kernel
theorem dX12_broken_55 : decode cX12_broken 55 = .ok (.iload_n 2, 1) := by decide +kernel
theorem dX12_broken_56 : decode cX12_broken 56 = .ok (.iaload, 1) := by decide +kernel
theorem dX12_broken_57 : decode cX12_broken 57 = .ok (.goto 4, 3) := by decide +kernel
theorem dX12_broken_60 : decode cX12_broken 60 = .ok (.iconst 0, 1) := by decide +kernel
theorem dX12_broken_61 : decode cX12_broken 61 = .ok (.iadd, 1) := by decide +kernel
theorem dX12_broken_62 : decode cX12_broken 62 = .ok (.istore_n 1, 1) := by decide +kernel
theorem dX12_broken_63 : decode cX12_broken 63 = .ok (.iinc 2 1, 3) := by decide +kernel
theorem dX12_broken_66 : decode cX12_broken 66 = .ok (.goto (-62), 3) := by decide +kernel
theorem dX12_broken_69 : decode cX12_broken 69 = .ok (.iload_n 1, 1) := by decide +kernel
theorem dX12_broken_70 : decode cX12_broken 70 = .ok (.ireturn, 1) := by decide +kernel
theorem dX12_bendAt_0 : decode cX12_bendAt 0 = .ok (.sipush 1681, 3) := by decide +kernel
theorem dX12_bendAt_3 : decode cX12_bendAt 3 = .ok (.iload_n 0, 1) := by decide +kernel
theorem dX12_bendAt_4 : decode cX12_bendAt 4 = .ok (.imul, 1) := by decide +kernel
theorem dX12_bendAt_5 : decode cX12_bendAt 5 = .ok (.bipush 41, 2) := by decide +kernel
theorem dX12_bendAt_7 : decode cX12_bendAt 7 = .ok (.iload_n 1, 1) := by decide +kernel
theorem dX12_bendAt_8 : decode cX12_bendAt 8 = .ok (.imul, 1) := by decide +kernel
theorem dX12_bendAt_9 : decode cX12_bendAt 9 = .ok (.iadd, 1) := by decide +kernel
theorem dX12_bendAt_10 : decode cX12_bendAt 10 = .ok (.iload_n 2, 1) := by decide +kernel
theorem dX12_bendAt_11 : decode cX12_bendAt 11 = .ok (.iadd, 1) := by decide +kernel
theorem dX12_bendAt_12 : decode cX12_bendAt 12 = .ok (.ireturn, 1) := by decide +kernel
theorem dX12_findBounds_0 : decode cX12_findBounds 0 = .ok (.iconst 0, 1) := by decide +kernel
theorem dX12_findBounds_1 : decode cX12_findBounds 1 = .ok (.istore 5, 2) := by decide +kernel
theorem dX12_findBounds_3 : decode cX12_findBounds 3 = .ok (.iload 5, 2) := by decide +kernel
theorem dX12_findBounds_5 : decode cX12_findBounds 5 = .ok (.bipush 8, 2) := by decide +kernel
theorem dX12_findBounds_7 : decode cX12_findBounds 7 = .ok (.if_icmp .ge 182, 3) := by decide +kernel
theorem dX12_findBounds_10 : decode cX12_findBounds 10 = .ok (.aload_n 0, 1) := by decide +kernel
theorem dX12_findBounds_11 : decode cX12_findBounds 11 = .ok (.getfield 88, 3) := by decide +kernel
theorem dX12_findBounds_14 : decode cX12_findBounds 14 = .ok (.iload 5, 2) := by decide +kernel
theorem dX12_findBounds_16 : decode cX12_findBounds 16 = .ok (.bipush (-20), 2) := by decide +kernel
theorem dX12_findBounds_18 : decode cX12_findBounds 18 = .ok (.iastore, 1) := by decide +kernel
theorem dX12_findBounds_19 : decode cX12_findBounds 19 = .ok (.aload_n 0, 1) := by decide +kernel
theorem dX12_findBounds_20 : decode cX12_findBounds 20 = .ok (.getfield 91, 3) := by decide +kernel
theorem dX12_findBounds_23 : decode cX12_findBounds 23 = .ok (.iload 5, 2) := by decide +kernel
theorem dX12_findBounds_25 : decode cX12_findBounds 25 = .ok (.bipush 20, 2) := by decide +kernel
theorem dX12_findBounds_27 : decode cX12_findBounds 27 = .ok (.iastore, 1) := by decide +kernel
theorem dX12_findBounds_28 : decode cX12_findBounds 28 = .ok (.iload_n 2, 1) := by decide +kernel
theorem dX12_findBounds_29 : decode cX12_findBounds 29 = .ok (.ifCond .ne 13, 3) := by decide +kernel
theorem dX12_findBounds_32 : decode cX12_findBounds 32 = .ok (.bipush 8, 2) := by decide +kernel
theorem dX12_findBounds_34 : decode cX12_findBounds 34 = .ok (.iload_n 3, 1) := by decide +kernel
theorem dX12_findBounds_35 : decode cX12_findBounds 35 = .ok (.imul, 1) := by decide +kernel
theorem dX12_findBounds_36 : decode cX12_findBounds 36 = .ok (.iload 5, 2) := by decide +kernel
theorem dX12_findBounds_38 : decode cX12_findBounds 38 = .ok (.iadd, 1) := by decide +kernel
theorem dX12_findBounds_39 : decode cX12_findBounds 39 = .ok (.goto 10, 3) := by decide +kernel
theorem dX12_findBounds_42 : decode cX12_findBounds 42 = .ok (.bipush 8, 2) := by decide +kernel
theorem dX12_findBounds_44 : decode cX12_findBounds 44 = .ok (.iload 5, 2) := by decide +kernel
theorem dX12_findBounds_46 : decode cX12_findBounds 46 = .ok (.imul, 1) := by decide +kernel
theorem dX12_findBounds_47 : decode cX12_findBounds 47 = .ok (.iload_n 3, 1) := by decide +kernel
theorem dX12_findBounds_48 : decode cX12_findBounds 48 = .ok (.iadd, 1) := by decide +kernel
theorem dX12_findBounds_49 : decode cX12_findBounds 49 = .ok (.istore 6, 2) := by decide +kernel
theorem dX12_findBounds_51 : decode cX12_findBounds 51 = .ok (.iconst 0, 1) := by decide +kernel
theorem dX12_findBounds_52 : decode cX12_findBounds 52 = .ok (.istore 7, 2) := by decide +kernel
theorem dX12_findBounds_54 : decode cX12_findBounds 54 = .ok (.iload 7, 2) := by decide +kernel
theorem dX12_findBounds_56 : decode cX12_findBounds 56 = .ok (.iload 4, 2) := by decide +kernel
theorem dX12_findBounds_58 : decode cX12_findBounds 58 = .ok (.if_icmp .ge 125, 3) := by decide +kernel
theorem dX12_findBounds_61 : decode cX12_findBounds 61 = .ok (.aload_n 0, 1) := by decide +kernel
theorem dX12_findBounds_62 : decode cX12_findBounds 62 = .ok (.getfield 61, 3) := by decide +kernel
theorem dX12_findBounds_65 : decode cX12_findBounds 65 = .ok (.iload 7, 2) := by decide +kernel
theorem dX12_findBounds_67 : decode cX12_findBounds 67 = .ok (.iaload, 1) := by decide +kernel
theorem dX12_findBounds_68 : decode cX12_findBounds 68 = .ok (.iconst 2, 1) := by decide +kernel
theorem dX12_findBounds_69 : decode cX12_findBounds 69 = .ok (.if_icmp .ne 108, 3) := by decide +kernel
theorem dX12_findBounds_72 : decode cX12_findBounds 72 = .ok (.aload_n 0, 1) := by decide +kernel
theorem dX12_findBounds_73 : decode cX12_findBounds 73 = .ok (.getfield 67, 3) := by decide +kernel
theorem dX12_findBounds_76 : decode cX12_findBounds 76 = .ok (.iload 7, 2) := by decide +kernel
theorem dX12_findBounds_78 : decode cX12_findBounds 78 = .ok (.iaload, 1) := by decide +kernel
theorem dX12_findBounds_79 : decode cX12_findBounds 79 = .ok (.iload_n 1, 1) := by decide +kernel
theorem dX12_findBounds_80 : decode cX12_findBounds 80 = .ok (.if_icmp .ne 97, 3) := by decide +kernel
theorem dX12_findBounds_83 : decode cX12_findBounds 83 = .ok (.aload_n 0, 1) := by decide +kernel
theorem dX12_findBounds_84 : decode cX12_findBounds 84 = .ok (.getfield 64, 3) := by decide +kernel
theorem dX12_findBounds_87 : decode cX12_findBounds 87 = .ok (.iload 7, 2) := by decide +kernel
theorem dX12_findBounds_89 : decode cX12_findBounds 89 = .ok (.iaload, 1) := by decide +kernel
theorem dX12_findBounds_90 : decode cX12_findBounds 90 = .ok (.iload 6, 2) := by decide +kernel
theorem dX12_findBounds_92 : decode cX12_findBounds 92 = .ok (.if_icmp .ne 85, 3) := by decide +kernel
theorem dX12_findBounds_95 : decode cX12_findBounds 95 = .ok (.aload_n 0, 1) := by decide +kernel
theorem dX12_findBounds_96 : decode cX12_findBounds 96 = .ok (.getfield 88, 3) := by decide +kernel
theorem dX12_findBounds_99 : decode cX12_findBounds 99 = .ok (.iload 5, 2) := by decide +kernel
theorem dX12_findBounds_101 : decode cX12_findBounds 101 = .ok (.aload_n 0, 1) := by decide +kernel
theorem dX12_findBounds_102 : decode cX12_findBounds 102 = .ok (.getfield 70, 3) := by decide +kernel
theorem dX12_findBounds_105 : decode cX12_findBounds 105 = .ok (.iload 7, 2) := by decide +kernel
theorem dX12_findBounds_107 : decode cX12_findBounds 107 = .ok (.iaload, 1) := by decide +kernel
theorem dX12_findBounds_108 : decode cX12_findBounds 108 = .ok (.aload_n 0, 1) := by decide +kernel
theorem dX12_findBounds_109 : decode cX12_findBounds 109 = .ok (.getfield 88, 3) := by decide +kernel
theorem dX12_findBounds_112 : decode cX12_findBounds 112 = .ok (.iload 5, 2) := by decide +kernel
theorem dX12_findBounds_114 : decode cX12_findBounds 114 = .ok (.iaload, 1) := by decide +kernel
theorem dX12_findBounds_115 : decode cX12_findBounds 115 = .ok (.if_icmp .le 13, 3) := by decide +kernel
theorem dX12_findBounds_118 : decode cX12_findBounds 118 = .ok (.aload_n 0, 1) := by decide +kernel
theorem dX12_findBounds_119 : decode cX12_findBounds 119 = .ok (.getfield 70, 3) := by decide +kernel
theorem dX12_findBounds_122 : decode cX12_findBounds 122 = .ok (.iload 7, 2) := by decide +kernel
theorem dX12_findBounds_124 : decode cX12_findBounds 124 = .ok (.iaload, 1) := by decide +kernel
theorem dX12_findBounds_125 : decode cX12_findBounds 125 = .ok (.goto 10, 3) := by decide +kernel
theorem dX12_findBounds_128 : decode cX12_findBounds 128 = .ok (.aload_n 0, 1) := by decide +kernel
theorem dX12_findBounds_129 : decode cX12_findBounds 129 = .ok (.getfield 88, 3) := by decide +kernel
theorem dX12_findBounds_132 : decode cX12_findBounds 132 = .ok (.iload 5, 2) := by decide +kernel
theorem dX12_findBounds_134 : decode cX12_findBounds 134 = .ok (.iaload, 1) := by decide +kernel
theorem dX12_findBounds_135 : decode cX12_findBounds 135 = .ok (.iastore, 1) := by decide +kernel
theorem dX12_findBounds_136 : decode cX12_findBounds 136 = .ok (.aload_n 0, 1) := by decide +kernel
theorem dX12_findBounds_137 : decode cX12_findBounds 137 = .ok (.getfield 91, 3) := by decide +kernel
theorem dX12_findBounds_140 : decode cX12_findBounds 140 = .ok (.iload 5, 2) := by decide +kernel
theorem dX12_findBounds_142 : decode cX12_findBounds 142 = .ok (.aload_n 0, 1) := by decide +kernel
theorem dX12_findBounds_143 : decode cX12_findBounds 143 = .ok (.getfield 73, 3) := by decide +kernel
theorem dX12_findBounds_146 : decode cX12_findBounds 146 = .ok (.iload 7, 2) := by decide +kernel
theorem dX12_findBounds_148 : decode cX12_findBounds 148 = .ok (.iaload, 1) := by decide +kernel
theorem dX12_findBounds_149 : decode cX12_findBounds 149 = .ok (.aload_n 0, 1) := by decide +kernel
theorem dX12_findBounds_150 : decode cX12_findBounds 150 = .ok (.getfield 91, 3) := by decide +kernel
theorem dX12_findBounds_153 : decode cX12_findBounds 153 = .ok (.iload 5, 2) := by decide +kernel
theorem dX12_findBounds_155 : decode cX12_findBounds 155 = .ok (.iaload, 1) := by decide +kernel
theorem dX12_findBounds_156 : decode cX12_findBounds 156 = .ok (.if_icmp .ge 13, 3) := by decide +kernel
theorem dX12_findBounds_159 : decode cX12_findBounds 159 = .ok (.aload_n 0, 1) := by decide +kernel
theorem dX12_findBounds_160 : decode cX12_findBounds 160 = .ok (.getfield 73, 3) := by decide +kernel
theorem dX12_findBounds_163 : decode cX12_findBounds 163 = .ok (.iload 7, 2) := by decide +kernel
theorem dX12_findBounds_165 : decode cX12_findBounds 165 = .ok (.iaload, 1) := by decide +kernel
theorem dX12_findBounds_166 : decode cX12_findBounds 166 = .ok (.goto 10, 3) := by decide +kernel
theorem dX12_findBounds_169 : decode cX12_findBounds 169 = .ok (.aload_n 0, 1) := by decide +kernel
theorem dX12_findBounds_170 : decode cX12_findBounds 170 = .ok (.getfield 91, 3) := by decide +kernel
theorem dX12_findBounds_173 : decode cX12_findBounds 173 = .ok (.iload 5, 2) := by decide +kernel
theorem dX12_findBounds_175 : decode cX12_findBounds 175 = .ok (.iaload, 1) := by decide +kernel
theorem dX12_findBounds_176 : decode cX12_findBounds 176 = .ok (.iastore, 1) := by decide +kernel
theorem dX12_findBounds_177 : decode cX12_findBounds 177 = .ok (.iinc 7 1, 3) := by decide +kernel
theorem dX12_findBounds_180 : decode cX12_findBounds 180 = .ok (.goto (-126), 3) := by decide +kernel
theorem dX12_findBounds_183 : decode cX12_findBounds 183 = .ok (.iinc 5 1, 3) := by decide +kernel
theorem dX12_findBounds_186 : decode cX12_findBounds 186 = .ok (.goto (-183), 3) := by decide +kernel
theorem dX12_findBounds_189 : decode cX12_findBounds 189 = .ok (.return_, 1) := by decide +kernel
theorem dX12_bendFrom_0 : decode cX12_bendFrom 0 = .ok (.iload_n 1, 1) := by decide +kernel
theorem dX12_bendFrom_1 : decode cX12_bendFrom 1 = .ok (.bipush 7, 2) := by decide +kernel
theorem dX12_bendFrom_3 : decode cX12_bendFrom 3 = .ok (.if_icmp .ne 5, 3) := by decide +kernel
theorem dX12_bendFrom_6 : decode cX12_bendFrom 6 = .ok (.iconst 0, 1) := by decide +kernel
theorem dX12_bendFrom_7 : decode cX12_bendFrom 7 = .ok (.ireturn, 1) := by decide +kernel
theorem dX12_bendFrom_8 : decode cX12_bendFrom 8 = .ok (.ldc_w 370, 3) := by decide +kernel
theorem dX12_bendFrom_11 : decode cX12_bendFrom 11 = .ok (.istore 4, 2) := by decide +kernel
theorem dX12_bendFrom_13 : decode cX12_bendFrom 13 = .ok (.aload_n 0, 1) := by decide +kernel
theorem dX12_bendFrom_14 : decode cX12_bendFrom 14 = .ok (.getfield 88, 3) := by decide +kernel
theorem dX12_bendFrom_17 : decode cX12_bendFrom 17 = .ok (.iload_n 1, 1) := by decide +kernel
theorem dX12_bendFrom_18 : decode cX12_bendFrom 18 = .ok (.iconst 1, 1) := by decide +kernel
theorem dX12_bendFrom_19 : decode cX12_bendFrom 19 = .ok (.iadd, 1) := by decide +kernel
theorem dX12_bendFrom_20 : decode cX12_bendFrom 20 = .ok (.iaload, 1) := by decide +kernel
theorem dX12_bendFrom_21 : decode cX12_bendFrom 21 = .ok (.istore 5, 2) := by decide +kernel
theorem dX12_bendFrom_23 : decode cX12_bendFrom 23 = .ok (.iload 5, 2) := by decide +kernel
theorem dX12_bendFrom_25 : decode cX12_bendFrom 25 = .ok (.aload_n 0, 1) := by decide +kernel
theorem dX12_bendFrom_26 : decode cX12_bendFrom 26 = .ok (.getfield 91, 3) := by decide +kernel
theorem dX12_bendFrom_29 : decode cX12_bendFrom 29 = .ok (.iload_n 1, 1) := by decide +kernel
theorem dX12_bendFrom_30 : decode cX12_bendFrom 30 = .ok (.iconst 1, 1) := by decide +kernel
theorem dX12_bendFrom_31 : decode cX12_bendFrom 31 = .ok (.iadd, 1) := by decide +kernel
theorem dX12_bendFrom_32 : decode cX12_bendFrom 32 = .ok (.iaload, 1) := by decide +kernel
theorem dX12_bendFrom_33 : decode cX12_bendFrom 33 = .ok (.if_icmp .gt 63, 3) := by decide +kernel
theorem dX12_bendFrom_36 : decode cX12_bendFrom 36 = .ok (.iload_n 2, 1) := by decide +kernel
theorem dX12_bendFrom_37 : decode cX12_bendFrom 37 = .ok (.iconst 2, 1) := by decide +kernel
theorem dX12_bendFrom_38 : decode cX12_bendFrom 38 = .ok (.iload_n 3, 1) := by decide +kernel
theorem dX12_bendFrom_39 : decode cX12_bendFrom 39 = .ok (.imul, 1) := by decide +kernel
theorem dX12_bendFrom_40 : decode cX12_bendFrom 40 = .ok (.isub, 1) := by decide +kernel
theorem dX12_bendFrom_41 : decode cX12_bendFrom 41 = .ok (.iload 5, 2) := by decide +kernel
theorem dX12_bendFrom_43 : decode cX12_bendFrom 43 = .ok (.iadd, 1) := by decide +kernel
theorem dX12_bendFrom_44 : decode cX12_bendFrom 44 = .ok (.istore 6, 2) := by decide +kernel
theorem dX12_bendFrom_46 : decode cX12_bendFrom 46 = .ok (.iload 6, 2) := by decide +kernel
theorem dX12_bendFrom_48 : decode cX12_bendFrom 48 = .ok (.iload 6, 2) := by decide +kernel
theorem dX12_bendFrom_50 : decode cX12_bendFrom 50 = .ok (.imul, 1) := by decide +kernel
theorem dX12_bendFrom_51 : decode cX12_bendFrom 51 = .ok (.aload_n 0, 1) := by decide +kernel
theorem dX12_bendFrom_52 : decode cX12_bendFrom 52 = .ok (.getfield 94, 3) := by decide +kernel
theorem dX12_bendFrom_55 : decode cX12_bendFrom 55 = .ok (.iload_n 1, 1) := by decide +kernel
theorem dX12_bendFrom_56 : decode cX12_bendFrom 56 = .ok (.iconst 1, 1) := by decide +kernel
theorem dX12_bendFrom_57 : decode cX12_bendFrom 57 = .ok (.iadd, 1) := by decide +kernel
theorem dX12_bendFrom_58 : decode cX12_bendFrom 58 = .ok (.iload_n 3, 1) := by decide +kernel
theorem dX12_bendFrom_59 : decode cX12_bendFrom 59 = .ok (.bipush 20, 2) := by decide +kernel
theorem dX12_bendFrom_61 : decode cX12_bendFrom 61 = .ok (.iadd, 1) := by decide +kernel
theorem dX12_bendFrom_62 : decode cX12_bendFrom 62 = .ok (.iload 5, 2) := by decide +kernel
theorem dX12_bendFrom_64 : decode cX12_bendFrom 64 = .ok (.bipush 20, 2) := by decide +kernel
theorem dX12_bendFrom_66 : decode cX12_bendFrom 66 = .ok (.iadd, 1) := by decide +kernel
theorem dX12_bendFrom_67 : decode cX12_bendFrom 67 = .ok (.invokestatic 377, 3) := by decide +kernel
theorem dX12_bendFrom_70 : decode cX12_bendFrom 70 = .ok (.iaload, 1) := by decide +kernel
theorem dX12_bendFrom_71 : decode cX12_bendFrom 71 = .ok (.iadd, 1) := by decide +kernel
theorem dX12_bendFrom_72 : decode cX12_bendFrom 72 = .ok (.istore 7, 2) := by decide +kernel
theorem dX12_bendFrom_74 : decode cX12_bendFrom 74 = .ok (.iload 7, 2) := by decide +kernel
theorem dX12_bendFrom_76 : decode cX12_bendFrom 76 = .ok (.iload 4, 2) := by decide +kernel
theorem dX12_bendFrom_78 : decode cX12_bendFrom 78 = .ok (.if_icmp .ge 8, 3) := by decide +kernel
theorem dX12_bendFrom_81 : decode cX12_bendFrom 81 = .ok (.iload 7, 2) := by decide +kernel
theorem dX12_bendFrom_83 : decode cX12_bendFrom 83 = .ok (.goto 5, 3) := by decide +kernel
theorem dX12_bendFrom_86 : decode cX12_bendFrom 86 = .ok (.iload 4, 2) := by decide +kernel
theorem dX12_bendFrom_88 : decode cX12_bendFrom 88 = .ok (.istore 4, 2) := by decide +kernel
theorem dX12_bendFrom_90 : decode cX12_bendFrom 90 = .ok (.iinc 5 1, 3) := by decide +kernel
theorem dX12_bendFrom_93 : decode cX12_bendFrom 93 = .ok (.goto (-70), 3) := by decide +kernel
theorem dX12_bendFrom_96 : decode cX12_bendFrom 96 = .ok (.iload 4, 2) := by decide +kernel
theorem dX12_bendFrom_98 : decode cX12_bendFrom 98 = .ok (.ireturn, 1) := by decide +kernel
theorem dX12_findBends_0 : decode cX12_findBends 0 = .ok (.bipush 7, 2) := by decide +kernel
theorem dX12_findBends_2 : decode cX12_findBends 2 = .ok (.istore_n 1, 1) := by decide +kernel
theorem dX12_findBends_3 : decode cX12_findBends 3 = .ok (.iload_n 1, 1) := by decide +kernel
theorem dX12_findBends_4 : decode cX12_findBends 4 = .ok (.ifCond .le 83, 3) := by decide +kernel
theorem dX12_findBends_7 : decode cX12_findBends 7 = .ok (.aload_n 0, 1) := by decide +kernel
theorem dX12_findBends_8 : decode cX12_findBends 8 = .ok (.getfield 88, 3) := by decide +kernel
theorem dX12_findBends_11 : decode cX12_findBends 11 = .ok (.iload_n 1, 1) := by decide +kernel
theorem dX12_findBends_12 : decode cX12_findBends 12 = .ok (.iconst 1, 1) := by decide +kernel
theorem dX12_findBends_13 : decode cX12_findBends 13 = .ok (.isub, 1) := by decide +kernel
theorem dX12_findBends_14 : decode cX12_findBends 14 = .ok (.iaload, 1) := by decide +kernel
theorem dX12_findBends_15 : decode cX12_findBends 15 = .ok (.istore_n 2, 1) := by decide +kernel
theorem dX12_findBends_16 : decode cX12_findBends 16 = .ok (.iload_n 2, 1) := by decide +kernel
theorem dX12_findBends_17 : decode cX12_findBends 17 = .ok (.aload_n 0, 1) := by decide +kernel
theorem dX12_findBends_18 : decode cX12_findBends 18 = .ok (.getfield 91, 3) := by decide +kernel
theorem dX12_findBends_21 : decode cX12_findBends 21 = .ok (.iload_n 1, 1) := by decide +kernel
theorem dX12_findBends_22 : decode cX12_findBends 22 = .ok (.iconst 1, 1) := by decide +kernel
theorem dX12_findBends_23 : decode cX12_findBends 23 = .ok (.isub, 1) := by decide +kernel
theorem dX12_findBends_24 : decode cX12_findBends 24 = .ok (.iaload, 1) := by decide +kernel
theorem dX12_findBends_25 : decode cX12_findBends 25 = .ok (.if_icmp .gt 56, 3) := by decide +kernel
theorem dX12_findBends_28 : decode cX12_findBends 28 = .ok (.aload_n 0, 1) := by decide +kernel
theorem dX12_findBends_29 : decode cX12_findBends 29 = .ok (.getfield 88, 3) := by decide +kernel
theorem dX12_findBends_32 : decode cX12_findBends 32 = .ok (.iload_n 1, 1) := by decide +kernel
theorem dX12_findBends_33 : decode cX12_findBends 33 = .ok (.iaload, 1) := by decide +kernel
theorem dX12_findBends_34 : decode cX12_findBends 34 = .ok (.istore_n 3, 1) := by decide +kernel
theorem dX12_findBends_35 : decode cX12_findBends 35 = .ok (.iload_n 3, 1) := by decide +kernel
theorem dX12_findBends_36 : decode cX12_findBends 36 = .ok (.aload_n 0, 1) := by decide +kernel
theorem dX12_findBends_37 : decode cX12_findBends 37 = .ok (.getfield 91, 3) := by decide +kernel
theorem dX12_findBends_40 : decode cX12_findBends 40 = .ok (.iload_n 1, 1) := by decide +kernel
theorem dX12_findBends_41 : decode cX12_findBends 41 = .ok (.iaload, 1) := by decide +kernel
theorem dX12_findBends_42 : decode cX12_findBends 42 = .ok (.if_icmp .gt 33, 3) := by decide +kernel
theorem dX12_findBends_45 : decode cX12_findBends 45 = .ok (.aload_n 0, 1) := by decide +kernel
theorem dX12_findBends_46 : decode cX12_findBends 46 = .ok (.getfield 94, 3) := by decide +kernel
theorem dX12_findBends_49 : decode cX12_findBends 49 = .ok (.iload_n 1, 1) := by decide +kernel
theorem dX12_findBends_50 : decode cX12_findBends 50 = .ok (.iload_n 2, 1) := by decide +kernel
theorem dX12_findBends_51 : decode cX12_findBends 51 = .ok (.bipush 20, 2) := by decide +kernel
theorem dX12_findBends_53 : decode cX12_findBends 53 = .ok (.iadd, 1) := by decide +kernel
theorem dX12_findBends_54 : decode cX12_findBends 54 = .ok (.iload_n 3, 1) := by decide +kernel
theorem dX12_findBends_55 : decode cX12_findBends 55 = .ok (.bipush 20, 2) := by decide +kernel
theorem dX12_findBends_57 : decode cX12_findBends 57 = .ok (.iadd, 1) := by decide +kernel
theorem dX12_findBends_58 : decode cX12_findBends 58 = .ok (.invokestatic 377, 3) := by decide +kernel
theorem dX12_findBends_61 : decode cX12_findBends 61 = .ok (.aload_n 0, 1) := by decide +kernel
theorem dX12_findBends_62 : decode cX12_findBends 62 = .ok (.iload_n 1, 1) := by decide +kernel
theorem dX12_findBends_63 : decode cX12_findBends 63 = .ok (.iload_n 2, 1) := by decide +kernel
theorem dX12_findBends_64 : decode cX12_findBends 64 = .ok (.iload_n 3, 1) := by decide +kernel
theorem dX12_findBends_65 : decode cX12_findBends 65 = .ok (.invokevirtual 380, 3) := by decide +kernel
theorem dX12_findBends_68 : decode cX12_findBends 68 = .ok (.iastore, 1) := by decide +kernel
theorem dX12_findBends_69 : decode cX12_findBends 69 = .ok (.iinc 3 1, 3) := by decide +kernel
theorem dX12_findBends_72 : decode cX12_findBends 72 = .ok (.goto (-37), 3) := by decide +kernel
theorem dX12_findBends_75 : decode cX12_findBends 75 = .ok (.iinc 2 1, 3) := by decide +kernel
theorem dX12_findBends_78 : decode cX12_findBends 78 = .ok (.goto (-62), 3) := by decide +kernel
theorem dX12_findBends_81 : decode cX12_findBends 81 = .ok (.iinc 1 (-1), 3) := by decide +kernel
theorem dX12_findBends_84 : decode cX12_findBends 84 = .ok (.goto (-81), 3) := by decide +kernel
theorem dX12_findBends_87 : decode cX12_findBends 87 = .ok (.return_, 1) := by decide +kernel
theorem dX12_draw_0 : decode cX12_draw 0 = .ok (.iload_n 1, 1) := by decide +kernel
theorem dX12_draw_1 : decode cX12_draw 1 = .ok (.i2l, 1) := by decide +kernel
theorem dX12_draw_2 : decode cX12_draw 2 = .ok (.lconst 0, 1) := by decide +kernel
theorem dX12_draw_3 : decode cX12_draw 3 = .ok (.ldc2_w 310, 3) := by decide +kernel
theorem dX12_draw_6 : decode cX12_draw 6 = .ok (.invokestatic 134, 3) := by decide +kernel
theorem dX12_draw_9 : decode cX12_draw 9 = .ok (.ifCond .eq 49, 3) := by decide +kernel
theorem dX12_draw_12 : decode cX12_draw 12 = .ok (.iload_n 2, 1) := by decide +kernel
theorem dX12_draw_13 : decode cX12_draw 13 = .ok (.i2l, 1) := by decide +kernel
theorem dX12_draw_14 : decode cX12_draw 14 = .ok (.lconst 0, 1) := by decide +kernel
theorem dX12_draw_15 : decode cX12_draw 15 = .ok (.lconst 1, 1) := by decide +kernel
theorem dX12_draw_16 : decode cX12_draw 16 = .ok (.invokestatic 134, 3) := by decide +kernel
theorem dX12_draw_19 : decode cX12_draw 19 = .ok (.ifCond .eq 39, 3) := by decide +kernel
theorem dX12_draw_22 : decode cX12_draw 22 = .ok (.iload_n 3, 1) := by decide +kernel
theorem dX12_draw_23 : decode cX12_draw 23 = .ok (.i2l, 1) := by decide +kernel
theorem dX12_draw_24 : decode cX12_draw 24 = .ok (.lconst 0, 1) := by decide +kernel
theorem dX12_draw_25 : decode cX12_draw 25 = .ok (.ldc2_w 298, 3) := by decide +kernel
theorem dX12_draw_28 : decode cX12_draw 28 = .ok (.invokestatic 134, 3) := by decide +kernel
theorem dX12_draw_31 : decode cX12_draw 31 = .ok (.ifCond .eq 27, 3) := by decide +kernel
theorem dX12_draw_34 : decode cX12_draw 34 = .ok (.aload_n 0, 1) := by decide +kernel
theorem dX12_draw_35 : decode cX12_draw 35 = .ok (.iload 4, 2) := by decide +kernel
theorem dX12_draw_37 : decode cX12_draw 37 = .ok (.invokevirtual 362, 3) := by decide +kernel
theorem dX12_draw_40 : decode cX12_draw 40 = .ok (.ifCond .eq 18, 3) := by decide +kernel
theorem dX12_draw_43 : decode cX12_draw 43 = .ok (.iload 5, 2) := by decide +kernel
theorem dX12_draw_45 : decode cX12_draw 45 = .ok (.i2l, 1) := by decide +kernel
theorem dX12_draw_46 : decode cX12_draw 46 = .ok (.ldc2_w 346, 3) := by decide +kernel
theorem dX12_draw_49 : decode cX12_draw 49 = .ok (.ldc2_w 298, 3) := by decide +kernel
theorem dX12_draw_52 : decode cX12_draw 52 = .ok (.invokestatic 134, 3) := by decide +kernel
theorem dX12_draw_55 : decode cX12_draw 55 = .ok (.ifCond .ne 6, 3) := by decide +kernel
theorem dX12_draw_58 : decode cX12_draw 58 = .ok (.ldc 195, 2) := by decide +kernel
theorem dX12_draw_60 : decode cX12_draw 60 = .ok (.ireturn, 1) := by decide +kernel
theorem dX12_draw_61 : decode cX12_draw 61 = .ok (.aload_n 0, 1) := by decide +kernel
theorem dX12_draw_62 : decode cX12_draw 62 = .ok (.iload_n 1, 1) := by decide +kernel
theorem dX12_draw_63 : decode cX12_draw 63 = .ok (.iload_n 2, 1) := by decide +kernel
theorem dX12_draw_64 : decode cX12_draw 64 = .ok (.iload_n 3, 1) := by decide +kernel
theorem dX12_draw_65 : decode cX12_draw 65 = .ok (.aload_n 0, 1) := by decide +kernel
theorem dX12_draw_66 : decode cX12_draw 66 = .ok (.iload 4, 2) := by decide +kernel
theorem dX12_draw_68 : decode cX12_draw 68 = .ok (.invokevirtual 365, 3) := by decide +kernel
theorem dX12_draw_71 : decode cX12_draw 71 = .ok (.invokevirtual 383, 3) := by decide +kernel
theorem dX12_draw_74 : decode cX12_draw 74 = .ok (.iconst 0, 1) := by decide +kernel
theorem dX12_draw_75 : decode cX12_draw 75 = .ok (.istore 6, 2) := by decide +kernel
theorem dX12_draw_77 : decode cX12_draw 77 = .ok (.iload 6, 2) := by decide +kernel
theorem dX12_draw_79 : decode cX12_draw 79 = .ok (.bipush 8, 2) := by decide +kernel
theorem dX12_draw_81 : decode cX12_draw 81 = .ok (.if_icmp .ge 29, 3) := by decide +kernel
theorem dX12_draw_84 : decode cX12_draw 84 = .ok (.aload_n 0, 1) := by decide +kernel
theorem dX12_draw_85 : decode cX12_draw 85 = .ok (.getfield 88, 3) := by decide +kernel
theorem dX12_draw_88 : decode cX12_draw 88 = .ok (.iload 6, 2) := by decide +kernel
theorem dX12_draw_90 : decode cX12_draw 90 = .ok (.iaload, 1) := by decide +kernel
theorem dX12_draw_91 : decode cX12_draw 91 = .ok (.aload_n 0, 1) := by decide +kernel
theorem dX12_draw_92 : decode cX12_draw 92 = .ok (.getfield 91, 3) := by decide +kernel
theorem dX12_draw_95 : decode cX12_draw 95 = .ok (.iload 6, 2) := by decide +kernel
theorem dX12_draw_97 : decode cX12_draw 97 = .ok (.iaload, 1) := by decide +kernel
theorem dX12_draw_98 : decode cX12_draw 98 = .ok (.if_icmp .le 6, 3) := by decide +kernel
theorem dX12_draw_101 : decode cX12_draw 101 = .ok (.ldc 200, 2) := by decide +kernel
theorem dX12_draw_103 : decode cX12_draw 103 = .ok (.ireturn, 1) := by decide +kernel
theorem dX12_draw_104 : decode cX12_draw 104 = .ok (.iinc 6 1, 3) := by decide +kernel
theorem dX12_draw_107 : decode cX12_draw 107 = .ok (.goto (-30), 3) := by decide +kernel
theorem dX12_draw_110 : decode cX12_draw 110 = .ok (.aload_n 0, 1) := by decide +kernel
theorem dX12_draw_111 : decode cX12_draw 111 = .ok (.invokevirtual 387, 3) := by decide +kernel
theorem dX12_draw_114 : decode cX12_draw 114 = .ok (.ldc_w 370, 3) := by decide +kernel
theorem dX12_draw_117 : decode cX12_draw 117 = .ok (.istore 6, 2) := by decide +kernel
theorem dX12_draw_119 : decode cX12_draw 119 = .ok (.aload_n 0, 1) := by decide +kernel
theorem dX12_draw_120 : decode cX12_draw 120 = .ok (.getfield 88, 3) := by decide +kernel
theorem dX12_draw_123 : decode cX12_draw 123 = .ok (.iconst 0, 1) := by decide +kernel
theorem dX12_draw_124 : decode cX12_draw 124 = .ok (.iaload, 1) := by decide +kernel
theorem dX12_draw_125 : decode cX12_draw 125 = .ok (.istore 7, 2) := by decide +kernel
theorem dX12_draw_127 : decode cX12_draw 127 = .ok (.iload 7, 2) := by decide +kernel
theorem dX12_draw_129 : decode cX12_draw 129 = .ok (.aload_n 0, 1) := by decide +kernel
theorem dX12_draw_130 : decode cX12_draw 130 = .ok (.getfield 91, 3) := by decide +kernel
theorem dX12_draw_133 : decode cX12_draw 133 = .ok (.iconst 0, 1) := by decide +kernel
theorem dX12_draw_134 : decode cX12_draw 134 = .ok (.iaload, 1) := by decide +kernel
theorem dX12_draw_135 : decode cX12_draw 135 = .ok (.if_icmp .gt 82, 3) := by decide +kernel
theorem dX12_draw_138 : decode cX12_draw 138 = .ok (.aload_n 0, 1) := by decide +kernel
theorem dX12_draw_139 : decode cX12_draw 139 = .ok (.getfield 88, 3) := by decide +kernel
theorem dX12_draw_142 : decode cX12_draw 142 = .ok (.iconst 1, 1) := by decide +kernel
theorem dX12_draw_143 : decode cX12_draw 143 = .ok (.iaload, 1) := by decide +kernel
theorem dX12_draw_144 : decode cX12_draw 144 = .ok (.istore 8, 2) := by decide +kernel
theorem dX12_draw_146 : decode cX12_draw 146 = .ok (.iload 8, 2) := by decide +kernel
theorem dX12_draw_148 : decode cX12_draw 148 = .ok (.aload_n 0, 1) := by decide +kernel
theorem dX12_draw_149 : decode cX12_draw 149 = .ok (.getfield 91, 3) := by decide +kernel
theorem dX12_draw_152 : decode cX12_draw 152 = .ok (.iconst 1, 1) := by decide +kernel
theorem dX12_draw_153 : decode cX12_draw 153 = .ok (.iaload, 1) := by decide +kernel
theorem dX12_draw_154 : decode cX12_draw 154 = .ok (.if_icmp .gt 57, 3) := by decide +kernel
theorem dX12_draw_157 : decode cX12_draw 157 = .ok (.aload_n 0, 1) := by decide +kernel
theorem dX12_draw_158 : decode cX12_draw 158 = .ok (.getfield 94, 3) := by decide +kernel
theorem dX12_draw_161 : decode cX12_draw 161 = .ok (.iconst 1, 1) := by decide +kernel
theorem dX12_draw_162 : decode cX12_draw 162 = .ok (.iload 7, 2) := by decide +kernel
theorem dX12_draw_164 : decode cX12_draw 164 = .ok (.bipush 20, 2) := by decide +kernel
theorem dX12_draw_166 : decode cX12_draw 166 = .ok (.iadd, 1) := by decide +kernel
theorem dX12_draw_167 : decode cX12_draw 167 = .ok (.iload 8, 2) := by decide +kernel
theorem dX12_draw_169 : decode cX12_draw 169 = .ok (.bipush 20, 2) := by decide +kernel
theorem dX12_draw_171 : decode cX12_draw 171 = .ok (.iadd, 1) := by decide +kernel
theorem dX12_draw_172 : decode cX12_draw 172 = .ok (.invokestatic 377, 3) := by decide +kernel
theorem dX12_draw_175 : decode cX12_draw 175 = .ok (.iaload, 1) := by decide +kernel
theorem dX12_draw_176 : decode cX12_draw 176 = .ok (.istore 9, 2) := by decide +kernel
theorem dX12_draw_178 : decode cX12_draw 178 = .ok (.iload 9, 2) := by decide +kernel
theorem dX12_draw_180 : decode cX12_draw 180 = .ok (.iload 6, 2) := by decide +kernel
theorem dX12_draw_182 : decode cX12_draw 182 = .ok (.if_icmp .ge 23, 3) := by decide +kernel
theorem dX12_draw_185 : decode cX12_draw 185 = .ok (.iload 9, 2) := by decide +kernel
theorem dX12_draw_187 : decode cX12_draw 187 = .ok (.istore 6, 2) := by decide +kernel
theorem dX12_draw_189 : decode cX12_draw 189 = .ok (.aload_n 0, 1) := by decide +kernel
theorem dX12_draw_190 : decode cX12_draw 190 = .ok (.getfield 97, 3) := by decide +kernel
theorem dX12_draw_193 : decode cX12_draw 193 = .ok (.iconst 0, 1) := by decide +kernel
theorem dX12_draw_194 : decode cX12_draw 194 = .ok (.iload 7, 2) := by decide +kernel
theorem dX12_draw_196 : decode cX12_draw 196 = .ok (.iastore, 1) := by decide +kernel
theorem dX12_draw_197 : decode cX12_draw 197 = .ok (.aload_n 0, 1) := by decide +kernel
theorem dX12_draw_198 : decode cX12_draw 198 = .ok (.getfield 97, 3) := by decide +kernel
theorem dX12_draw_201 : decode cX12_draw 201 = .ok (.iconst 1, 1) := by decide +kernel
theorem dX12_draw_202 : decode cX12_draw 202 = .ok (.iload 8, 2) := by decide +kernel
theorem dX12_draw_204 : decode cX12_draw 204 = .ok (.iastore, 1) := by decide +kernel
theorem dX12_draw_205 : decode cX12_draw 205 = .ok (.iinc 8 1, 3) := by decide +kernel
theorem dX12_draw_208 : decode cX12_draw 208 = .ok (.goto (-62), 3) := by decide +kernel
theorem dX12_draw_211 : decode cX12_draw 211 = .ok (.iinc 7 1, 3) := by decide +kernel
theorem dX12_draw_214 : decode cX12_draw 214 = .ok (.goto (-87), 3) := by decide +kernel
theorem dX12_draw_217 : decode cX12_draw 217 = .ok (.iconst 2, 1) := by decide +kernel
theorem dX12_draw_218 : decode cX12_draw 218 = .ok (.istore 7, 2) := by decide +kernel
theorem dX12_draw_220 : decode cX12_draw 220 = .ok (.iload 7, 2) := by decide +kernel
theorem dX12_draw_222 : decode cX12_draw 222 = .ok (.bipush 8, 2) := by decide +kernel
theorem dX12_draw_224 : decode cX12_draw 224 = .ok (.if_icmp .ge 112, 3) := by decide +kernel
theorem dX12_draw_227 : decode cX12_draw 227 = .ok (.aload_n 0, 1) := by decide +kernel
theorem dX12_draw_228 : decode cX12_draw 228 = .ok (.getfield 94, 3) := by decide +kernel
theorem dX12_draw_231 : decode cX12_draw 231 = .ok (.iload 7, 2) := by decide +kernel
theorem dX12_draw_233 : decode cX12_draw 233 = .ok (.iconst 1, 1) := by decide +kernel
theorem dX12_draw_234 : decode cX12_draw 234 = .ok (.isub, 1) := by decide +kernel
theorem dX12_draw_235 : decode cX12_draw 235 = .ok (.aload_n 0, 1) := by decide +kernel
theorem dX12_draw_236 : decode cX12_draw 236 = .ok (.getfield 97, 3) := by decide +kernel
theorem dX12_draw_239 : decode cX12_draw 239 = .ok (.iload 7, 2) := by decide +kernel
theorem dX12_draw_241 : decode cX12_draw 241 = .ok (.iconst 2, 1) := by decide +kernel
theorem dX12_draw_242 : decode cX12_draw 242 = .ok (.isub, 1) := by decide +kernel
theorem dX12_draw_243 : decode cX12_draw 243 = .ok (.iaload, 1) := by decide +kernel
theorem dX12_draw_244 : decode cX12_draw 244 = .ok (.bipush 20, 2) := by decide +kernel
theorem dX12_draw_246 : decode cX12_draw 246 = .ok (.iadd, 1) := by decide +kernel
theorem dX12_draw_247 : decode cX12_draw 247 = .ok (.aload_n 0, 1) := by decide +kernel
theorem dX12_draw_248 : decode cX12_draw 248 = .ok (.getfield 97, 3) := by decide +kernel
theorem dX12_draw_251 : decode cX12_draw 251 = .ok (.iload 7, 2) := by decide +kernel
theorem dX12_draw_253 : decode cX12_draw 253 = .ok (.iconst 1, 1) := by decide +kernel
theorem dX12_draw_254 : decode cX12_draw 254 = .ok (.isub, 1) := by decide +kernel
theorem dX12_draw_255 : decode cX12_draw 255 = .ok (.iaload, 1) := by decide +kernel
theorem dX12_draw_256 : decode cX12_draw 256 = .ok (.bipush 20, 2) := by decide +kernel
theorem dX12_draw_258 : decode cX12_draw 258 = .ok (.iadd, 1) := by decide +kernel
theorem dX12_draw_259 : decode cX12_draw 259 = .ok (.invokestatic 377, 3) := by decide +kernel
theorem dX12_draw_262 : decode cX12_draw 262 = .ok (.iaload, 1) := by decide +kernel
theorem dX12_draw_263 : decode cX12_draw 263 = .ok (.istore 8, 2) := by decide +kernel
theorem dX12_draw_265 : decode cX12_draw 265 = .ok (.aload_n 0, 1) := by decide +kernel
theorem dX12_draw_266 : decode cX12_draw 266 = .ok (.getfield 88, 3) := by decide +kernel
theorem dX12_draw_269 : decode cX12_draw 269 = .ok (.iload 7, 2) := by decide +kernel
theorem dX12_draw_271 : decode cX12_draw 271 = .ok (.iaload, 1) := by decide +kernel
theorem dX12_draw_272 : decode cX12_draw 272 = .ok (.istore 9, 2) := by decide +kernel
theorem dX12_draw_274 : decode cX12_draw 274 = .ok (.aload_n 0, 1) := by decide +kernel
theorem dX12_draw_275 : decode cX12_draw 275 = .ok (.iload 7, 2) := by decide +kernel
theorem dX12_draw_277 : decode cX12_draw 277 = .ok (.iload 9, 2) := by decide +kernel
theorem dX12_draw_279 : decode cX12_draw 279 = .ok (.invokevirtual 390, 3) := by decide +kernel
theorem dX12_draw_282 : decode cX12_draw 282 = .ok (.aload_n 0, 1) := by decide +kernel
theorem dX12_draw_283 : decode cX12_draw 283 = .ok (.getfield 94, 3) := by decide +kernel
theorem dX12_draw_286 : decode cX12_draw 286 = .ok (.iload 7, 2) := by decide +kernel
theorem dX12_draw_288 : decode cX12_draw 288 = .ok (.aload_n 0, 1) := by decide +kernel
theorem dX12_draw_289 : decode cX12_draw 289 = .ok (.getfield 97, 3) := by decide +kernel
theorem dX12_draw_292 : decode cX12_draw 292 = .ok (.iload 7, 2) := by decide +kernel
theorem dX12_draw_294 : decode cX12_draw 294 = .ok (.iconst 1, 1) := by decide +kernel
theorem dX12_draw_295 : decode cX12_draw 295 = .ok (.isub, 1) := by decide +kernel
theorem dX12_draw_296 : decode cX12_draw 296 = .ok (.iaload, 1) := by decide +kernel
theorem dX12_draw_297 : decode cX12_draw 297 = .ok (.bipush 20, 2) := by decide +kernel
theorem dX12_draw_299 : decode cX12_draw 299 = .ok (.iadd, 1) := by decide +kernel
theorem dX12_draw_300 : decode cX12_draw 300 = .ok (.iload 9, 2) := by decide +kernel
theorem dX12_draw_302 : decode cX12_draw 302 = .ok (.bipush 20, 2) := by decide +kernel
theorem dX12_draw_304 : decode cX12_draw 304 = .ok (.iadd, 1) := by decide +kernel
theorem dX12_draw_305 : decode cX12_draw 305 = .ok (.invokestatic 377, 3) := by decide +kernel
theorem dX12_draw_308 : decode cX12_draw 308 = .ok (.iaload, 1) := by decide +kernel
theorem dX12_draw_309 : decode cX12_draw 309 = .ok (.iadd, 1) := by decide +kernel
theorem dX12_draw_310 : decode cX12_draw 310 = .ok (.iload 8, 2) := by decide +kernel
theorem dX12_draw_312 : decode cX12_draw 312 = .ok (.if_icmp .eq 9, 3) := by decide +kernel
theorem dX12_draw_315 : decode cX12_draw 315 = .ok (.iinc 9 1, 3) := by decide +kernel
theorem dX12_draw_318 : decode cX12_draw 318 = .ok (.goto (-44), 3) := by decide +kernel
theorem dX12_draw_321 : decode cX12_draw 321 = .ok (.aload_n 0, 1) := by decide +kernel
theorem dX12_draw_322 : decode cX12_draw 322 = .ok (.getfield 97, 3) := by decide +kernel
theorem dX12_draw_325 : decode cX12_draw 325 = .ok (.iload 7, 2) := by decide +kernel
theorem dX12_draw_327 : decode cX12_draw 327 = .ok (.iload 9, 2) := by decide +kernel
theorem dX12_draw_329 : decode cX12_draw 329 = .ok (.iastore, 1) := by decide +kernel
theorem dX12_draw_330 : decode cX12_draw 330 = .ok (.iinc 7 1, 3) := by decide +kernel
theorem dX12_draw_333 : decode cX12_draw 333 = .ok (.goto (-113), 3) := by decide +kernel
theorem dX12_draw_336 : decode cX12_draw 336 = .ok (.iload 5, 2) := by decide +kernel
theorem dX12_draw_338 : decode cX12_draw 338 = .ok (.ifCond .ge 8, 3) := by decide +kernel
theorem dX12_draw_341 : decode cX12_draw 341 = .ok (.iload 6, 2) := by decide +kernel
theorem dX12_draw_343 : decode cX12_draw 343 = .ok (.goto 10, 3) := by decide +kernel
theorem dX12_draw_346 : decode cX12_draw 346 = .ok (.aload_n 0, 1) := by decide +kernel
theorem dX12_draw_347 : decode cX12_draw 347 = .ok (.getfield 97, 3) := by decide +kernel
theorem dX12_draw_350 : decode cX12_draw 350 = .ok (.iload 5, 2) := by decide +kernel
theorem dX12_draw_352 : decode cX12_draw 352 = .ok (.iaload, 1) := by decide +kernel
theorem dX12_draw_353 : decode cX12_draw 353 = .ok (.ireturn, 1) := by decide +kernel
theorem dX12_bow_0 : decode cX12_bow 0 = .ok (.aload_n 0, 1) := by decide +kernel
theorem dX12_bow_1 : decode cX12_bow 1 = .ok (.getfield 97, 3) := by decide +kernel
theorem dX12_bow_4 : decode cX12_bow 4 = .ok (.iload_n 1, 1) := by decide +kernel
theorem dX12_bow_5 : decode cX12_bow 5 = .ok (.iconst 2, 1) := by decide +kernel
theorem dX12_bow_6 : decode cX12_bow 6 = .ok (.isub, 1) := by decide +kernel
theorem dX12_bow_7 : decode cX12_bow 7 = .ok (.iaload, 1) := by decide +kernel
theorem dX12_bow_8 : decode cX12_bow 8 = .ok (.iconst 2, 1) := by decide +kernel
theorem dX12_bow_9 : decode cX12_bow 9 = .ok (.aload_n 0, 1) := by decide +kernel
theorem dX12_bow_10 : decode cX12_bow 10 = .ok (.getfield 97, 3) := by decide +kernel
theorem dX12_bow_13 : decode cX12_bow 13 = .ok (.iload_n 1, 1) := by decide +kernel
theorem dX12_bow_14 : decode cX12_bow 14 = .ok (.iconst 1, 1) := by decide +kernel
theorem dX12_bow_15 : decode cX12_bow 15 = .ok (.isub, 1) := by decide +kernel
theorem dX12_bow_16 : decode cX12_bow 16 = .ok (.iaload, 1) := by decide +kernel
theorem dX12_bow_17 : decode cX12_bow 17 = .ok (.imul, 1) := by decide +kernel
theorem dX12_bow_18 : decode cX12_bow 18 = .ok (.isub, 1) := by decide +kernel
theorem dX12_bow_19 : decode cX12_bow 19 = .ok (.iload_n 2, 1) := by decide +kernel
theorem dX12_bow_20 : decode cX12_bow 20 = .ok (.iadd, 1) := by decide +kernel
theorem dX12_bow_21 : decode cX12_bow 21 = .ok (.istore_n 3, 1) := by decide +kernel
theorem dX12_bow_22 : decode cX12_bow 22 = .ok (.iload_n 3, 1) := by decide +kernel
theorem dX12_bow_23 : decode cX12_bow 23 = .ok (.iload_n 3, 1) := by decide +kernel
theorem dX12_bow_24 : decode cX12_bow 24 = .ok (.imul, 1) := by decide +kernel
theorem dX12_bow_25 : decode cX12_bow 25 = .ok (.ireturn, 1) := by decide +kernel
theorem dX12_maybe_0 : decode cX12_maybe 0 = .ok (.aload_n 0, 1) := by decide +kernel
theorem dX12_maybe_1 : decode cX12_maybe 1 = .ok (.iload_n 2, 1) := by decide +kernel
theorem dX12_maybe_2 : decode cX12_maybe 2 = .ok (.iload_n 3, 1) := by decide +kernel
theorem dX12_maybe_3 : decode cX12_maybe 3 = .ok (.iload 4, 2) := by decide +kernel
theorem dX12_maybe_5 : decode cX12_maybe 5 = .ok (.iload 5, 2) := by decide +kernel
theorem dX12_maybe_7 : decode cX12_maybe 7 = .ok (.iload 6, 2) := by decide +kernel
theorem dX12_maybe_9 : decode cX12_maybe 9 = .ok (.invokevirtual 187, 3) := by decide +kernel
theorem dX12_maybe_12 : decode cX12_maybe 12 = .ok (.aload_n 0, 1) := by decide +kernel
theorem dX12_maybe_13 : decode cX12_maybe 13 = .ok (.iload_n 1, 1) := by decide +kernel
theorem dX12_maybe_14 : decode cX12_maybe 14 = .ok (.invokevirtual 191, 3) := by decide +kernel
theorem dX12_maybe_17 : decode cX12_maybe 17 = .ok (.ifCond .ne 6, 3) := by decide +kernel
theorem dX12_maybe_20 : decode cX12_maybe 20 = .ok (.ldc 195, 2) := by decide +kernel
theorem dX12_maybe_22 : decode cX12_maybe 22 = .ok (.ireturn, 1) := by decide +kernel
theorem dX12_maybe_23 : decode cX12_maybe 23 = .ok (.aload_n 0, 1) := by decide +kernel
theorem dX12_maybe_24 : decode cX12_maybe 24 = .ok (.getfield 233, 3) := by decide +kernel
theorem dX12_maybe_27 : decode cX12_maybe 27 = .ok (.iconst 4, 1) := by decide +kernel
theorem dX12_maybe_28 : decode cX12_maybe 28 = .ok (.if_icmp .ne 6, 3) := by decide +kernel
theorem dX12_maybe_31 : decode cX12_maybe 31 = .ok (.ldc 196, 2) := by decide +kernel
theorem dX12_maybe_33 : decode cX12_maybe 33 = .ok (.ireturn, 1) := by decide +kernel
theorem dX12_maybe_34 : decode cX12_maybe 34 = .ok (.aload_n 0, 1) := by decide +kernel
theorem dX12_maybe_35 : decode cX12_maybe 35 = .ok (.getfield 100, 3) := by decide +kernel
theorem dX12_maybe_38 : decode cX12_maybe 38 = .ok (.aload_n 0, 1) := by decide +kernel
theorem dX12_maybe_39 : decode cX12_maybe 39 = .ok (.getfield 233, 3) := by decide +kernel
theorem dX12_maybe_42 : decode cX12_maybe 42 = .ok (.iload_n 1, 1) := by decide +kernel
theorem dX12_maybe_43 : decode cX12_maybe 43 = .ok (.iastore, 1) := by decide +kernel
theorem dX12_maybe_44 : decode cX12_maybe 44 = .ok (.iconst 0, 1) := by decide +kernel
theorem dX12_maybe_45 : decode cX12_maybe 45 = .ok (.istore 7, 2) := by decide +kernel
theorem dX12_maybe_47 : decode cX12_maybe 47 = .ok (.iload 7, 2) := by decide +kernel
theorem dX12_maybe_49 : decode cX12_maybe 49 = .ok (.iconst 5, 1) := by decide +kernel
theorem dX12_maybe_50 : decode cX12_maybe 50 = .ok (.if_icmp .ge 30, 3) := by decide +kernel
theorem dX12_maybe_53 : decode cX12_maybe 53 = .ok (.aload_n 0, 1) := by decide +kernel
theorem dX12_maybe_54 : decode cX12_maybe 54 = .ok (.getfield 103, 3) := by decide +kernel
theorem dX12_maybe_57 : decode cX12_maybe 57 = .ok (.iconst 5, 1) := by decide +kernel
theorem dX12_maybe_58 : decode cX12_maybe 58 = .ok (.aload_n 0, 1) := by decide +kernel
theorem dX12_maybe_59 : decode cX12_maybe 59 = .ok (.getfield 233, 3) := by decide +kernel
theorem dX12_maybe_62 : decode cX12_maybe 62 = .ok (.imul, 1) := by decide +kernel
theorem dX12_maybe_63 : decode cX12_maybe 63 = .ok (.iload 7, 2) := by decide +kernel
theorem dX12_maybe_65 : decode cX12_maybe 65 = .ok (.iadd, 1) := by decide +kernel
theorem dX12_maybe_66 : decode cX12_maybe 66 = .ok (.aload_n 0, 1) := by decide +kernel
theorem dX12_maybe_67 : decode cX12_maybe 67 = .ok (.getfield 27, 3) := by decide +kernel
theorem dX12_maybe_70 : decode cX12_maybe 70 = .ok (.iload 7, 2) := by decide +kernel
theorem dX12_maybe_72 : decode cX12_maybe 72 = .ok (.iaload, 1) := by decide +kernel
theorem dX12_maybe_73 : decode cX12_maybe 73 = .ok (.iastore, 1) := by decide +kernel
theorem dX12_maybe_74 : decode cX12_maybe 74 = .ok (.iinc 7 1, 3) := by decide +kernel
theorem dX12_maybe_77 : decode cX12_maybe 77 = .ok (.goto (-30), 3) := by decide +kernel
theorem dX12_maybe_80 : decode cX12_maybe 80 = .ok (.aload_n 0, 1) := by decide +kernel
theorem dX12_maybe_81 : decode cX12_maybe 81 = .ok (.dup, 1) := by decide +kernel
theorem dX12_maybe_82 : decode cX12_maybe 82 = .ok (.getfield 233, 3) := by decide +kernel
theorem dX12_maybe_85 : decode cX12_maybe 85 = .ok (.iconst 1, 1) := by decide +kernel
theorem dX12_maybe_86 : decode cX12_maybe 86 = .ok (.iadd, 1) := by decide +kernel
theorem dX12_maybe_87 : decode cX12_maybe 87 = .ok (.putfield 233, 3) := by decide +kernel
theorem dX12_maybe_90 : decode cX12_maybe 90 = .ok (.aload_n 0, 1) := by decide +kernel
theorem dX12_maybe_91 : decode cX12_maybe 91 = .ok (.getfield 233, 3) := by decide +kernel
theorem dX12_maybe_94 : decode cX12_maybe 94 = .ok (.iconst 1, 1) := by decide +kernel
theorem dX12_maybe_95 : decode cX12_maybe 95 = .ok (.isub, 1) := by decide +kernel
theorem dX12_maybe_96 : decode cX12_maybe 96 = .ok (.ireturn, 1) := by decide +kernel
theorem dX12_never_0 : decode cX12_never 0 = .ok (.aload_n 0, 1) := by decide +kernel
theorem dX12_never_1 : decode cX12_never 1 = .ok (.getfield 233, 3) := by decide +kernel
theorem dX12_never_4 : decode cX12_never 4 = .ok (.istore_n 1, 1) := by decide +kernel
theorem dX12_never_5 : decode cX12_never 5 = .ok (.aload_n 0, 1) := by decide +kernel
theorem dX12_never_6 : decode cX12_never 6 = .ok (.iconst 0, 1) := by decide +kernel
theorem dX12_never_7 : decode cX12_never 7 = .ok (.putfield 233, 3) := by decide +kernel
theorem dX12_never_10 : decode cX12_never 10 = .ok (.iload_n 1, 1) := by decide +kernel
theorem dX12_never_11 : decode cX12_never 11 = .ok (.ireturn, 1) := by decide +kernel
theorem dX12_giveMaybe_0 : decode cX12_giveMaybe 0 = .ok (.iconst 0, 1) := by decide +kernel
theorem dX12_giveMaybe_1 : decode cX12_giveMaybe 1 = .ok (.istore_n 2, 1) := by decide +kernel
theorem dX12_giveMaybe_2 : decode cX12_giveMaybe 2 = .ok (.iload_n 2, 1) := by decide +kernel
theorem dX12_giveMaybe_3 : decode cX12_giveMaybe 3 = .ok (.iconst 5, 1) := by decide +kernel
theorem dX12_giveMaybe_4 : decode cX12_giveMaybe 4 = .ok (.if_icmp .ge 25, 3) := by decide +kernel
theorem dX12_giveMaybe_7 : decode cX12_giveMaybe 7 = .ok (.aload_n 0, 1) := by decide +kernel
theorem dX12_giveMaybe_8 : decode cX12_giveMaybe 8 = .ok (.getfield 27, 3) := by decide +kernel
theorem dX12_giveMaybe_11 : decode cX12_giveMaybe 11 = .ok (.iload_n 2, 1) := by decide +kernel
theorem dX12_giveMaybe_12 : decode cX12_giveMaybe 12 = .ok (.aload_n 0, 1) := by decide +kernel
theorem dX12_giveMaybe_13 : decode cX12_giveMaybe 13 = .ok (.getfield 103, 3) := by decide +kernel
theorem dX12_giveMaybe_16 : decode cX12_giveMaybe 16 = .ok (.iconst 5, 1) := by decide +kernel
theorem dX12_giveMaybe_17 : decode cX12_giveMaybe 17 = .ok (.iload_n 1, 1) := by decide +kernel
theorem dX12_giveMaybe_18 : decode cX12_giveMaybe 18 = .ok (.imul, 1) := by decide +kernel
theorem dX12_giveMaybe_19 : decode cX12_giveMaybe 19 = .ok (.iload_n 2, 1) := by decide +kernel
theorem dX12_giveMaybe_20 : decode cX12_giveMaybe 20 = .ok (.iadd, 1) := by decide +kernel
theorem dX12_giveMaybe_21 : decode cX12_giveMaybe 21 = .ok (.iaload, 1) := by decide +kernel
theorem dX12_giveMaybe_22 : decode cX12_giveMaybe 22 = .ok (.iastore, 1) := by decide +kernel
theorem dX12_giveMaybe_23 : decode cX12_giveMaybe 23 = .ok (.iinc 2 1, 3) := by decide +kernel
theorem dX12_giveMaybe_26 : decode cX12_giveMaybe 26 = .ok (.goto (-24), 3) := by decide +kernel
theorem dX12_giveMaybe_29 : decode cX12_giveMaybe 29 = .ok (.return_, 1) := by decide +kernel
theorem dX12_layWay_0 : decode cX12_layWay 0 = .ok (.iload_n 2, 1) := by decide +kernel
theorem dX12_layWay_1 : decode cX12_layWay 1 = .ok (.istore_n 3, 1) := by decide +kernel
theorem dX12_layWay_2 : decode cX12_layWay 2 = .ok (.iconst 0, 1) := by decide +kernel
theorem dX12_layWay_3 : decode cX12_layWay 3 = .ok (.istore 4, 2) := by decide +kernel
theorem dX12_layWay_5 : decode cX12_layWay 5 = .ok (.iload_n 1, 1) := by decide +kernel
theorem dX12_layWay_6 : decode cX12_layWay 6 = .ok (.iconst 1, 1) := by decide +kernel
theorem dX12_layWay_7 : decode cX12_layWay 7 = .ok (.isub, 1) := by decide +kernel
theorem dX12_layWay_8 : decode cX12_layWay 8 = .ok (.istore 5, 2) := by decide +kernel
theorem dX12_layWay_10 : decode cX12_layWay 10 = .ok (.iload 5, 2) := by decide +kernel
theorem dX12_layWay_12 : decode cX12_layWay 12 = .ok (.ifCond .lt 43, 3) := by decide +kernel
theorem dX12_layWay_15 : decode cX12_layWay 15 = .ok (.aload_n 0, 1) := by decide +kernel
theorem dX12_layWay_16 : decode cX12_layWay 16 = .ok (.getfield 116, 3) := by decide +kernel
theorem dX12_layWay_19 : decode cX12_layWay 19 = .ok (.iload 5, 2) := by decide +kernel
theorem dX12_layWay_21 : decode cX12_layWay 21 = .ok (.iload_n 3, 1) := by decide +kernel
theorem dX12_layWay_22 : decode cX12_layWay 22 = .ok (.aload_n 0, 1) := by decide +kernel
theorem dX12_layWay_23 : decode cX12_layWay 23 = .ok (.getfield 233, 3) := by decide +kernel
theorem dX12_layWay_26 : decode cX12_layWay 26 = .ok (.irem, 1) := by decide +kernel
theorem dX12_layWay_27 : decode cX12_layWay 27 = .ok (.iastore, 1) := by decide +kernel
theorem dX12_layWay_28 : decode cX12_layWay 28 = .ok (.iload_n 3, 1) := by decide +kernel
theorem dX12_layWay_29 : decode cX12_layWay 29 = .ok (.aload_n 0, 1) := by decide +kernel
theorem dX12_layWay_30 : decode cX12_layWay 30 = .ok (.getfield 233, 3) := by decide +kernel
theorem dX12_layWay_33 : decode cX12_layWay 33 = .ok (.idiv, 1) := by decide +kernel
theorem dX12_layWay_34 : decode cX12_layWay 34 = .ok (.istore_n 3, 1) := by decide +kernel
theorem dX12_layWay_35 : decode cX12_layWay 35 = .ok (.iload 4, 2) := by decide +kernel
theorem dX12_layWay_37 : decode cX12_layWay 37 = .ok (.iconst 1, 1) := by decide +kernel
theorem dX12_layWay_38 : decode cX12_layWay 38 = .ok (.aload_n 0, 1) := by decide +kernel
theorem dX12_layWay_39 : decode cX12_layWay 39 = .ok (.getfield 116, 3) := by decide +kernel
theorem dX12_layWay_42 : decode cX12_layWay 42 = .ok (.iload 5, 2) := by decide +kernel
theorem dX12_layWay_44 : decode cX12_layWay 44 = .ok (.iaload, 1) := by decide +kernel
theorem dX12_layWay_45 : decode cX12_layWay 45 = .ok (.ishl, 1) := by decide +kernel
theorem dX12_layWay_46 : decode cX12_layWay 46 = .ok (.ior, 1) := by decide +kernel
theorem dX12_layWay_47 : decode cX12_layWay 47 = .ok (.istore 4, 2) := by decide +kernel
theorem dX12_layWay_49 : decode cX12_layWay 49 = .ok (.iinc 5 (-1), 3) := by decide +kernel
theorem dX12_layWay_52 : decode cX12_layWay 52 = .ok (.goto (-42), 3) := by decide +kernel
theorem dX12_layWay_55 : decode cX12_layWay 55 = .ok (.iconst 0, 1) := by decide +kernel
theorem dX12_layWay_56 : decode cX12_layWay 56 = .ok (.istore 5, 2) := by decide +kernel
theorem dX12_layWay_58 : decode cX12_layWay 58 = .ok (.iconst 0, 1) := by decide +kernel
theorem dX12_layWay_59 : decode cX12_layWay 59 = .ok (.istore 6, 2) := by decide +kernel
theorem dX12_layWay_61 : decode cX12_layWay 61 = .ok (.iload 6, 2) := by decide +kernel
theorem dX12_layWay_63 : decode cX12_layWay 63 = .ok (.aload_n 0, 1) := by decide +kernel
theorem dX12_layWay_64 : decode cX12_layWay 64 = .ok (.getfield 233, 3) := by decide +kernel
theorem dX12_layWay_67 : decode cX12_layWay 67 = .ok (.if_icmp .ge 21, 3) := by decide +kernel
theorem dX12_layWay_70 : decode cX12_layWay 70 = .ok (.iload 5, 2) := by decide +kernel
theorem dX12_layWay_72 : decode cX12_layWay 72 = .ok (.iload 4, 2) := by decide +kernel
theorem dX12_layWay_74 : decode cX12_layWay 74 = .ok (.iload 6, 2) := by decide +kernel
theorem dX12_layWay_76 : decode cX12_layWay 76 = .ok (.ishr, 1) := by decide +kernel
theorem dX12_layWay_77 : decode cX12_layWay 77 = .ok (.iconst 1, 1) := by decide +kernel
theorem dX12_layWay_78 : decode cX12_layWay 78 = .ok (.iand, 1) := by decide +kernel
theorem dX12_layWay_79 : decode cX12_layWay 79 = .ok (.iadd, 1) := by decide +kernel
theorem dX12_layWay_80 : decode cX12_layWay 80 = .ok (.istore 5, 2) := by decide +kernel
theorem dX12_layWay_82 : decode cX12_layWay 82 = .ok (.iinc 6 1, 3) := by decide +kernel
theorem dX12_layWay_85 : decode cX12_layWay 85 = .ok (.goto (-24), 3) := by decide +kernel
theorem dX12_layWay_88 : decode cX12_layWay 88 = .ok (.iload 5, 2) := by decide +kernel
theorem dX12_layWay_90 : decode cX12_layWay 90 = .ok (.iload_n 1, 1) := by decide +kernel
theorem dX12_layWay_91 : decode cX12_layWay 91 = .ok (.if_icmp .ne 7, 3) := by decide +kernel
theorem dX12_layWay_94 : decode cX12_layWay 94 = .ok (.iconst 1, 1) := by decide +kernel
theorem dX12_layWay_95 : decode cX12_layWay 95 = .ok (.goto 4, 3) := by decide +kernel
theorem dX12_layWay_98 : decode cX12_layWay 98 = .ok (.iconst 0, 1) := by decide +kernel
theorem dX12_layWay_99 : decode cX12_layWay 99 = .ok (.ireturn, 1) := by decide +kernel
theorem dX12_tryStory_0 : decode cX12_tryStory 0 = .ok (.aload_n 0, 1) := by decide +kernel
theorem dX12_tryStory_1 : decode cX12_tryStory 1 = .ok (.iconst 0, 1) := by decide +kernel
theorem dX12_tryStory_2 : decode cX12_tryStory 2 = .ok (.iconst 1, 1) := by decide +kernel
theorem dX12_tryStory_3 : decode cX12_tryStory 3 = .ok (.invokevirtual 214, 3) := by decide +kernel
theorem dX12_tryStory_6 : decode cX12_tryStory 6 = .ok (.iconst 0, 1) := by decide +kernel
theorem dX12_tryStory_7 : decode cX12_tryStory 7 = .ok (.istore_n 3, 1) := by decide +kernel
theorem dX12_tryStory_8 : decode cX12_tryStory 8 = .ok (.iload_n 3, 1) := by decide +kernel
theorem dX12_tryStory_9 : decode cX12_tryStory 9 = .ok (.iload_n 1, 1) := by decide +kernel
theorem dX12_tryStory_10 : decode cX12_tryStory 10 = .ok (.if_icmp .ge 35, 3) := by decide +kernel
theorem dX12_tryStory_13 : decode cX12_tryStory 13 = .ok (.aload_n 0, 1) := by decide +kernel
theorem dX12_tryStory_14 : decode cX12_tryStory 14 = .ok (.aload_n 0, 1) := by decide +kernel
theorem dX12_tryStory_15 : decode cX12_tryStory 15 = .ok (.getfield 116, 3) := by decide +kernel
theorem dX12_tryStory_18 : decode cX12_tryStory 18 = .ok (.iload_n 3, 1) := by decide +kernel
theorem dX12_tryStory_19 : decode cX12_tryStory 19 = .ok (.iaload, 1) := by decide +kernel
theorem dX12_tryStory_20 : decode cX12_tryStory 20 = .ok (.invokevirtual 393, 3) := by decide +kernel
theorem dX12_tryStory_23 : decode cX12_tryStory 23 = .ok (.aload_n 0, 1) := by decide +kernel
theorem dX12_tryStory_24 : decode cX12_tryStory 24 = .ok (.iconst 1, 1) := by decide +kernel
theorem dX12_tryStory_25 : decode cX12_tryStory 25 = .ok (.aload_n 0, 1) := by decide +kernel
theorem dX12_tryStory_26 : decode cX12_tryStory 26 = .ok (.getfield 100, 3) := by decide +kernel
theorem dX12_tryStory_29 : decode cX12_tryStory 29 = .ok (.aload_n 0, 1) := by decide +kernel
theorem dX12_tryStory_30 : decode cX12_tryStory 30 = .ok (.getfield 116, 3) := by decide +kernel
theorem dX12_tryStory_33 : decode cX12_tryStory 33 = .ok (.iload_n 3, 1) := by decide +kernel
theorem dX12_tryStory_34 : decode cX12_tryStory 34 = .ok (.iaload, 1) := by decide +kernel
theorem dX12_tryStory_35 : decode cX12_tryStory 35 = .ok (.iaload, 1) := by decide +kernel
theorem dX12_tryStory_36 : decode cX12_tryStory 36 = .ok (.invokevirtual 181, 3) := by decide +kernel
theorem dX12_tryStory_39 : decode cX12_tryStory 39 = .ok (.iinc 3 1, 3) := by decide +kernel
theorem dX12_tryStory_42 : decode cX12_tryStory 42 = .ok (.goto (-34), 3) := by decide +kernel
theorem dX12_tryStory_45 : decode cX12_tryStory 45 = .ok (.aload_n 0, 1) := by decide +kernel
theorem dX12_tryStory_46 : decode cX12_tryStory 46 = .ok (.iconst 1, 1) := by decide +kernel
theorem dX12_tryStory_47 : decode cX12_tryStory 47 = .ok (.iload_n 2, 1) := by decide +kernel
theorem dX12_tryStory_48 : decode cX12_tryStory 48 = .ok (.invokevirtual 242, 3) := by decide +kernel
theorem dX12_tryStory_51 : decode cX12_tryStory 51 = .ok (.ifCond .ne 95, 3) := by decide +kernel
theorem dX12_tryStory_54 : decode cX12_tryStory 54 = .ok (.aload_n 0, 1) := by decide +kernel
theorem dX12_tryStory_55 : decode cX12_tryStory 55 = .ok (.getfield 106, 3) := by decide +kernel
theorem dX12_tryStory_58 : decode cX12_tryStory 58 = .ok (.aload_n 0, 1) := by decide +kernel
theorem dX12_tryStory_59 : decode cX12_tryStory 59 = .ok (.getfield 396, 3) := by decide +kernel
theorem dX12_tryStory_62 : decode cX12_tryStory 62 = .ok (.iload_n 1, 1) := by decide +kernel
theorem dX12_tryStory_63 : decode cX12_tryStory 63 = .ok (.iastore, 1) := by decide +kernel
theorem dX12_tryStory_64 : decode cX12_tryStory 64 = .ok (.iconst 0, 1) := by decide +kernel
theorem dX12_tryStory_65 : decode cX12_tryStory 65 = .ok (.istore_n 3, 1) := by decide +kernel
theorem dX12_tryStory_66 : decode cX12_tryStory 66 = .ok (.iload_n 3, 1) := by decide +kernel
theorem dX12_tryStory_67 : decode cX12_tryStory 67 = .ok (.iload_n 1, 1) := by decide +kernel
theorem dX12_tryStory_68 : decode cX12_tryStory 68 = .ok (.if_icmp .ge 28, 3) := by decide +kernel
theorem dX12_tryStory_71 : decode cX12_tryStory 71 = .ok (.aload_n 0, 1) := by decide +kernel
theorem dX12_tryStory_72 : decode cX12_tryStory 72 = .ok (.getfield 109, 3) := by decide +kernel
theorem dX12_tryStory_75 : decode cX12_tryStory 75 = .ok (.iconst 4, 1) := by decide +kernel
theorem dX12_tryStory_76 : decode cX12_tryStory 76 = .ok (.aload_n 0, 1) := by decide +kernel
theorem dX12_tryStory_77 : decode cX12_tryStory 77 = .ok (.getfield 396, 3) := by decide +kernel
theorem dX12_tryStory_80 : decode cX12_tryStory 80 = .ok (.imul, 1) := by decide +kernel
theorem dX12_tryStory_81 : decode cX12_tryStory 81 = .ok (.iload_n 3, 1) := by decide +kernel
theorem dX12_tryStory_82 : decode cX12_tryStory 82 = .ok (.iadd, 1) := by decide +kernel
theorem dX12_tryStory_83 : decode cX12_tryStory 83 = .ok (.aload_n 0, 1) := by decide +kernel
theorem dX12_tryStory_84 : decode cX12_tryStory 84 = .ok (.getfield 116, 3) := by decide +kernel
theorem dX12_tryStory_87 : decode cX12_tryStory 87 = .ok (.iload_n 3, 1) := by decide +kernel
theorem dX12_tryStory_88 : decode cX12_tryStory 88 = .ok (.iaload, 1) := by decide +kernel
theorem dX12_tryStory_89 : decode cX12_tryStory 89 = .ok (.iastore, 1) := by decide +kernel
theorem dX12_tryStory_90 : decode cX12_tryStory 90 = .ok (.iinc 3 1, 3) := by decide +kernel
theorem dX12_tryStory_93 : decode cX12_tryStory 93 = .ok (.goto (-27), 3) := by decide +kernel
theorem dX12_tryStory_96 : decode cX12_tryStory 96 = .ok (.iconst 0, 1) := by decide +kernel
theorem dX12_tryStory_97 : decode cX12_tryStory 97 = .ok (.istore_n 3, 1) := by decide +kernel
theorem dX12_tryStory_98 : decode cX12_tryStory 98 = .ok (.iload_n 3, 1) := by decide +kernel
theorem dX12_tryStory_99 : decode cX12_tryStory 99 = .ok (.sipush 5120, 3) := by decide +kernel
theorem dX12_tryStory_102 : decode cX12_tryStory 102 = .ok (.if_icmp .ge 34, 3) := by decide +kernel
theorem dX12_tryStory_105 : decode cX12_tryStory 105 = .ok (.aload_n 0, 1) := by decide +kernel
theorem dX12_tryStory_106 : decode cX12_tryStory 106 = .ok (.getfield 113, 3) := by decide +kernel
theorem dX12_tryStory_109 : decode cX12_tryStory 109 = .ok (.sipush 5120, 3) := by decide +kernel
theorem dX12_tryStory_112 : decode cX12_tryStory 112 = .ok (.aload_n 0, 1) := by decide +kernel
theorem dX12_tryStory_113 : decode cX12_tryStory 113 = .ok (.getfield 396, 3) := by decide +kernel
theorem dX12_tryStory_116 : decode cX12_tryStory 116 = .ok (.imul, 1) := by decide +kernel
theorem dX12_tryStory_117 : decode cX12_tryStory 117 = .ok (.iload_n 3, 1) := by decide +kernel
theorem dX12_tryStory_118 : decode cX12_tryStory 118 = .ok (.iadd, 1) := by decide +kernel
theorem dX12_tryStory_119 : decode cX12_tryStory 119 = .ok (.aload_n 0, 1) := by decide +kernel
theorem dX12_tryStory_120 : decode cX12_tryStory 120 = .ok (.getfield 7, 3) := by decide +kernel
theorem dX12_tryStory_123 : decode cX12_tryStory 123 = .ok (.sipush 5120, 3) := by decide +kernel
theorem dX12_tryStory_126 : decode cX12_tryStory 126 = .ok (.iload_n 3, 1) := by decide +kernel
theorem dX12_tryStory_127 : decode cX12_tryStory 127 = .ok (.iadd, 1) := by decide +kernel
theorem dX12_tryStory_128 : decode cX12_tryStory 128 = .ok (.baload, 1) := by decide +kernel
theorem dX12_tryStory_129 : decode cX12_tryStory 129 = .ok (.bastore, 1) := by decide +kernel
theorem dX12_tryStory_130 : decode cX12_tryStory 130 = .ok (.iinc 3 1, 3) := by decide +kernel
theorem dX12_tryStory_133 : decode cX12_tryStory 133 = .ok (.goto (-35), 3) := by decide +kernel
theorem dX12_tryStory_136 : decode cX12_tryStory 136 = .ok (.aload_n 0, 1) := by decide +kernel
theorem dX12_tryStory_137 : decode cX12_tryStory 137 = .ok (.dup, 1) := by decide +kernel
theorem dX12_tryStory_138 : decode cX12_tryStory 138 = .ok (.getfield 396, 3) := by decide +kernel
theorem dX12_tryStory_141 : decode cX12_tryStory 141 = .ok (.iconst 1, 1) := by decide +kernel
theorem dX12_tryStory_142 : decode cX12_tryStory 142 = .ok (.iadd, 1) := by decide +kernel
theorem dX12_tryStory_143 : decode cX12_tryStory 143 = .ok (.putfield 396, 3) := by decide +kernel
theorem dX12_tryStory_146 : decode cX12_tryStory 146 = .ok (.return_, 1) := by decide +kernel
theorem dX12_findStories_0 : decode cX12_findStories 0 = .ok (.aload_n 0, 1) := by decide +kernel
theorem dX12_findStories_1 : decode cX12_findStories 1 = .ok (.iconst 0, 1) := by decide +kernel
theorem dX12_findStories_2 : decode cX12_findStories 2 = .ok (.putfield 396, 3) := by decide +kernel
theorem dX12_findStories_5 : decode cX12_findStories 5 = .ok (.iconst 0, 1) := by decide +kernel
theorem dX12_findStories_6 : decode cX12_findStories 6 = .ok (.istore_n 2, 1) := by decide +kernel
theorem dX12_findStories_7 : decode cX12_findStories 7 = .ok (.iload_n 2, 1) := by decide +kernel
theorem dX12_findStories_8 : decode cX12_findStories 8 = .ok (.aload_n 0, 1) := by decide +kernel
theorem dX12_findStories_9 : decode cX12_findStories 9 = .ok (.getfield 233, 3) := by decide +kernel
theorem dX12_findStories_12 : decode cX12_findStories 12 = .ok (.if_icmp .gt 64, 3) := by decide +kernel
theorem dX12_findStories_15 : decode cX12_findStories 15 = .ok (.iconst 1, 1) := by decide +kernel
theorem dX12_findStories_16 : decode cX12_findStories 16 = .ok (.istore_n 3, 1) := by decide +kernel
theorem dX12_findStories_17 : decode cX12_findStories 17 = .ok (.iconst 0, 1) := by decide +kernel
theorem dX12_findStories_18 : decode cX12_findStories 18 = .ok (.istore 4, 2) := by decide +kernel
theorem dX12_findStories_20 : decode cX12_findStories 20 = .ok (.iload 4, 2) := by decide +kernel
theorem dX12_findStories_22 : decode cX12_findStories 22 = .ok (.iload_n 2, 1) := by decide +kernel
theorem dX12_findStories_23 : decode cX12_findStories 23 = .ok (.if_icmp .ge 16, 3) := by decide +kernel
theorem dX12_findStories_26 : decode cX12_findStories 26 = .ok (.iload_n 3, 1) := by decide +kernel
theorem dX12_findStories_27 : decode cX12_findStories 27 = .ok (.aload_n 0, 1) := by decide +kernel
theorem dX12_findStories_28 : decode cX12_findStories 28 = .ok (.getfield 233, 3) := by decide +kernel
theorem dX12_findStories_31 : decode cX12_findStories 31 = .ok (.imul, 1) := by decide +kernel
theorem dX12_findStories_32 : decode cX12_findStories 32 = .ok (.istore_n 3, 1) := by decide +kernel
theorem dX12_findStories_33 : decode cX12_findStories 33 = .ok (.iinc 4 1, 3) := by decide +kernel
theorem dX12_findStories_36 : decode cX12_findStories 36 = .ok (.goto (-16), 3) := by decide +kernel
theorem dX12_findStories_39 : decode cX12_findStories 39 = .ok (.iconst 0, 1) := by decide +kernel
theorem dX12_findStories_40 : decode cX12_findStories 40 = .ok (.istore 4, 2) := by decide +kernel
theorem dX12_findStories_42 : decode cX12_findStories 42 = .ok (.iload 4, 2) := by decide +kernel
theorem dX12_findStories_44 : decode cX12_findStories 44 = .ok (.iload_n 3, 1) := by decide +kernel
theorem dX12_findStories_45 : decode cX12_findStories 45 = .ok (.if_icmp .ge 25, 3) := by decide +kernel
theorem dX12_findStories_48 : decode cX12_findStories 48 = .ok (.aload_n 0, 1) := by decide +kernel
theorem dX12_findStories_49 : decode cX12_findStories 49 = .ok (.iload_n 2, 1) := by decide +kernel
theorem dX12_findStories_50 : decode cX12_findStories 50 = .ok (.iload 4, 2) := by decide +kernel
theorem dX12_findStories_52 : decode cX12_findStories 52 = .ok (.invokevirtual 399, 3) := by decide +kernel
theorem dX12_findStories_55 : decode cX12_findStories 55 = .ok (.ifCond .eq 9, 3) := by decide +kernel
theorem dX12_findStories_58 : decode cX12_findStories 58 = .ok (.aload_n 0, 1) := by decide +kernel
theorem dX12_findStories_59 : decode cX12_findStories 59 = .ok (.iload_n 2, 1) := by decide +kernel
theorem dX12_findStories_60 : decode cX12_findStories 60 = .ok (.iload_n 1, 1) := by decide +kernel
theorem dX12_findStories_61 : decode cX12_findStories 61 = .ok (.invokevirtual 402, 3) := by decide +kernel
theorem dX12_findStories_64 : decode cX12_findStories 64 = .ok (.iinc 4 1, 3) := by decide +kernel
theorem dX12_findStories_67 : decode cX12_findStories 67 = .ok (.goto (-25), 3) := by decide +kernel
theorem dX12_findStories_70 : decode cX12_findStories 70 = .ok (.iinc 2 1, 3) := by decide +kernel
theorem dX12_findStories_73 : decode cX12_findStories 73 = .ok (.goto (-66), 3) := by decide +kernel
theorem dX12_findStories_76 : decode cX12_findStories 76 = .ok (.return_, 1) := by decide +kernel
theorem dX12_isTooMany_0 : decode cX12_isTooMany 0 = .ok (.aload_n 0, 1) := by decide +kernel
theorem dX12_isTooMany_1 : decode cX12_isTooMany 1 = .ok (.getfield 184, 3) := by decide +kernel
theorem dX12_isTooMany_4 : decode cX12_isTooMany 4 = .ok (.aload_n 0, 1) := by decide +kernel
theorem dX12_isTooMany_5 : decode cX12_isTooMany 5 = .ok (.getfield 233, 3) := by decide +kernel
theorem dX12_isTooMany_8 : decode cX12_isTooMany 8 = .ok (.iadd, 1) := by decide +kernel
theorem dX12_isTooMany_9 : decode cX12_isTooMany 9 = .ok (.bipush 16, 2) := by decide +kernel
theorem dX12_isTooMany_11 : decode cX12_isTooMany 11 = .ok (.if_icmp .le 7, 3) := by decide +kernel
theorem dX12_isTooMany_14 : decode cX12_isTooMany 14 = .ok (.iconst 1, 1) := by decide +kernel
theorem dX12_isTooMany_15 : decode cX12_isTooMany 15 = .ok (.goto 4, 3) := by decide +kernel
theorem dX12_isTooMany_18 : decode cX12_isTooMany 18 = .ok (.iconst 0, 1) := by decide +kernel
theorem dX12_isTooMany_19 : decode cX12_isTooMany 19 = .ok (.ireturn, 1) := by decide +kernel
theorem dX12_stories_0 : decode cX12_stories 0 = .ok (.aload_n 0, 1) := by decide +kernel
theorem dX12_stories_1 : decode cX12_stories 1 = .ok (.iload_n 1, 1) := by decide +kernel
theorem dX12_stories_2 : decode cX12_stories 2 = .ok (.invokevirtual 362, 3) := by decide +kernel
theorem dX12_stories_5 : decode cX12_stories 5 = .ok (.ifCond .ne 6, 3) := by decide +kernel
theorem dX12_stories_8 : decode cX12_stories 8 = .ok (.ldc 195, 2) := by decide +kernel
theorem dX12_stories_10 : decode cX12_stories 10 = .ok (.ireturn, 1) := by decide +kernel
theorem dX12_stories_11 : decode cX12_stories 11 = .ok (.aload_n 0, 1) := by decide +kernel
theorem dX12_stories_12 : decode cX12_stories 12 = .ok (.invokevirtual 405, 3) := by decide +kernel
theorem dX12_stories_15 : decode cX12_stories 15 = .ok (.ifCond .eq 6, 3) := by decide +kernel
theorem dX12_stories_18 : decode cX12_stories 18 = .ok (.ldc 196, 2) := by decide +kernel
theorem dX12_stories_20 : decode cX12_stories 20 = .ok (.ireturn, 1) := by decide +kernel
theorem dX12_stories_21 : decode cX12_stories 21 = .ok (.aload_n 0, 1) := by decide +kernel
theorem dX12_stories_22 : decode cX12_stories 22 = .ok (.aload_n 0, 1) := by decide +kernel
theorem dX12_stories_23 : decode cX12_stories 23 = .ok (.iload_n 1, 1) := by decide +kernel
theorem dX12_stories_24 : decode cX12_stories 24 = .ok (.invokevirtual 365, 3) := by decide +kernel
theorem dX12_stories_27 : decode cX12_stories 27 = .ok (.invokevirtual 409, 3) := by decide +kernel
theorem dX12_stories_30 : decode cX12_stories 30 = .ok (.aload_n 0, 1) := by decide +kernel
theorem dX12_stories_31 : decode cX12_stories 31 = .ok (.getfield 396, 3) := by decide +kernel
theorem dX12_stories_34 : decode cX12_stories 34 = .ok (.ireturn, 1) := by decide +kernel
theorem dX12_story_0 : decode cX12_story 0 = .ok (.aload_n 0, 1) := by decide +kernel
theorem dX12_story_1 : decode cX12_story 1 = .ok (.iload_n 1, 1) := by decide +kernel
theorem dX12_story_2 : decode cX12_story 2 = .ok (.invokevirtual 362, 3) := by decide +kernel
theorem dX12_story_5 : decode cX12_story 5 = .ok (.ifCond .ne 6, 3) := by decide +kernel
theorem dX12_story_8 : decode cX12_story 8 = .ok (.ldc 195, 2) := by decide +kernel
theorem dX12_story_10 : decode cX12_story 10 = .ok (.ireturn, 1) := by decide +kernel
theorem dX12_story_11 : decode cX12_story 11 = .ok (.aload_n 0, 1) := by decide +kernel
theorem dX12_story_12 : decode cX12_story 12 = .ok (.invokevirtual 405, 3) := by decide +kernel
theorem dX12_story_15 : decode cX12_story 15 = .ok (.ifCond .eq 6, 3) := by decide +kernel
theorem dX12_story_18 : decode cX12_story 18 = .ok (.ldc 196, 2) := by decide +kernel
theorem dX12_story_20 : decode cX12_story 20 = .ok (.ireturn, 1) := by decide +kernel
theorem dX12_story_21 : decode cX12_story 21 = .ok (.aload_n 0, 1) := by decide +kernel
theorem dX12_story_22 : decode cX12_story 22 = .ok (.aload_n 0, 1) := by decide +kernel
theorem dX12_story_23 : decode cX12_story 23 = .ok (.iload_n 1, 1) := by decide +kernel
theorem dX12_story_24 : decode cX12_story 24 = .ok (.invokevirtual 365, 3) := by decide +kernel
theorem dX12_story_27 : decode cX12_story 27 = .ok (.invokevirtual 409, 3) := by decide +kernel
theorem dX12_story_30 : decode cX12_story 30 = .ok (.iload_n 2, 1) := by decide +kernel
theorem dX12_story_31 : decode cX12_story 31 = .ok (.i2l, 1) := by decide +kernel
theorem dX12_story_32 : decode cX12_story 32 = .ok (.lconst 0, 1) := by decide +kernel
theorem dX12_story_33 : decode cX12_story 33 = .ok (.aload_n 0, 1) := by decide +kernel
theorem dX12_story_34 : decode cX12_story 34 = .ok (.getfield 396, 3) := by decide +kernel
theorem dX12_story_37 : decode cX12_story 37 = .ok (.iconst 1, 1) := by decide +kernel
theorem dX12_story_38 : decode cX12_story 38 = .ok (.isub, 1) := by decide +kernel
theorem dX12_story_39 : decode cX12_story 39 = .ok (.i2l, 1) := by decide +kernel
theorem dX12_story_40 : decode cX12_story 40 = .ok (.invokestatic 134, 3) := by decide +kernel
theorem dX12_story_43 : decode cX12_story 43 = .ok (.ifCond .ne 5, 3) := by decide +kernel
theorem dX12_story_46 : decode cX12_story 46 = .ok (.iconst (-1), 1) := by decide +kernel
theorem dX12_story_47 : decode cX12_story 47 = .ok (.ireturn, 1) := by decide +kernel
theorem dX12_story_48 : decode cX12_story 48 = .ok (.iload_n 3, 1) := by decide +kernel
theorem dX12_story_49 : decode cX12_story 49 = .ok (.iconst (-1), 1) := by decide +kernel
theorem dX12_story_50 : decode cX12_story 50 = .ok (.if_icmp .ne 12, 3) := by decide +kernel
theorem dX12_story_53 : decode cX12_story 53 = .ok (.aload_n 0, 1) := by decide +kernel
theorem dX12_story_54 : decode cX12_story 54 = .ok (.getfield 106, 3) := by decide +kernel
theorem dX12_story_57 : decode cX12_story 57 = .ok (.iload_n 2, 1) := by decide +kernel
theorem dX12_story_58 : decode cX12_story 58 = .ok (.iaload, 1) := by decide +kernel
theorem dX12_story_59 : decode cX12_story 59 = .ok (.goto 35, 3) := by decide +kernel
theorem dX12_story_62 : decode cX12_story 62 = .ok (.iload_n 3, 1) := by decide +kernel
theorem dX12_story_63 : decode cX12_story 63 = .ok (.i2l, 1) := by decide +kernel
theorem dX12_story_64 : decode cX12_story 64 = .ok (.lconst 0, 1) := by decide +kernel
theorem dX12_story_65 : decode cX12_story 65 = .ok (.aload_n 0, 1) := by decide +kernel
theorem dX12_story_66 : decode cX12_story 66 = .ok (.getfield 106, 3) := by decide +kernel
theorem dX12_story_69 : decode cX12_story 69 = .ok (.iload_n 2, 1) := by decide +kernel
theorem dX12_story_70 : decode cX12_story 70 = .ok (.iaload, 1) := by decide +kernel
theorem dX12_story_71 : decode cX12_story 71 = .ok (.iconst 1, 1) := by decide +kernel
theorem dX12_story_72 : decode cX12_story 72 = .ok (.isub, 1) := by decide +kernel
theorem dX12_story_73 : decode cX12_story 73 = .ok (.i2l, 1) := by decide +kernel
theorem dX12_story_74 : decode cX12_story 74 = .ok (.invokestatic 134, 3) := by decide +kernel
theorem dX12_story_77 : decode cX12_story 77 = .ok (.ifCond .eq 16, 3) := by decide +kernel
theorem dX12_story_80 : decode cX12_story 80 = .ok (.aload_n 0, 1) := by decide +kernel
theorem dX12_story_81 : decode cX12_story 81 = .ok (.getfield 109, 3) := by decide +kernel
theorem dX12_story_84 : decode cX12_story 84 = .ok (.iconst 4, 1) := by decide +kernel
theorem dX12_story_85 : decode cX12_story 85 = .ok (.iload_n 2, 1) := by decide +kernel
theorem dX12_story_86 : decode cX12_story 86 = .ok (.imul, 1) := by decide +kernel
theorem dX12_story_87 : decode cX12_story 87 = .ok (.iload_n 3, 1) := by decide +kernel
theorem dX12_story_88 : decode cX12_story 88 = .ok (.iadd, 1) := by decide +kernel
theorem dX12_story_89 : decode cX12_story 89 = .ok (.iaload, 1) := by decide +kernel
theorem dX12_story_90 : decode cX12_story 90 = .ok (.goto 4, 3) := by decide +kernel
theorem dX12_story_93 : decode cX12_story 93 = .ok (.iconst (-1), 1) := by decide +kernel
theorem dX12_story_94 : decode cX12_story 94 = .ok (.ireturn, 1) := by decide +kernel
theorem dX12_isLike_0 : decode cX12_isLike 0 = .ok (.iconst 1, 1) := by decide +kernel
theorem dX12_isLike_1 : decode cX12_isLike 1 = .ok (.istore 4, 2) := by decide +kernel
theorem dX12_isLike_3 : decode cX12_isLike 3 = .ok (.iconst 0, 1) := by decide +kernel
theorem dX12_isLike_4 : decode cX12_isLike 4 = .ok (.istore 5, 2) := by decide +kernel
theorem dX12_isLike_6 : decode cX12_isLike 6 = .ok (.iload 5, 2) := by decide +kernel
theorem dX12_isLike_8 : decode cX12_isLike 8 = .ok (.bipush 80, 2) := by decide +kernel
theorem dX12_isLike_10 : decode cX12_isLike 10 = .ok (.if_icmp .ge 60, 3) := by decide +kernel
theorem dX12_isLike_13 : decode cX12_isLike 13 = .ok (.iload 4, 2) := by decide +kernel
theorem dX12_isLike_15 : decode cX12_isLike 15 = .ok (.ifCond .eq 46, 3) := by decide +kernel
theorem dX12_isLike_18 : decode cX12_isLike 18 = .ok (.aload_n 0, 1) := by decide +kernel
theorem dX12_isLike_19 : decode cX12_isLike 19 = .ok (.getfield 113, 3) := by decide +kernel
theorem dX12_isLike_22 : decode cX12_isLike 22 = .ok (.sipush 5120, 3) := by decide +kernel
theorem dX12_isLike_25 : decode cX12_isLike 25 = .ok (.iload_n 1, 1) := by decide +kernel
theorem dX12_isLike_26 : decode cX12_isLike 26 = .ok (.imul, 1) := by decide +kernel
theorem dX12_isLike_27 : decode cX12_isLike 27 = .ok (.bipush 80, 2) := by decide +kernel
theorem dX12_isLike_29 : decode cX12_isLike 29 = .ok (.iload_n 3, 1) := by decide +kernel
theorem dX12_isLike_30 : decode cX12_isLike 30 = .ok (.imul, 1) := by decide +kernel
theorem dX12_isLike_31 : decode cX12_isLike 31 = .ok (.iadd, 1) := by decide +kernel
theorem dX12_isLike_32 : decode cX12_isLike 32 = .ok (.iload 5, 2) := by decide +kernel
theorem dX12_isLike_34 : decode cX12_isLike 34 = .ok (.iadd, 1) := by decide +kernel
theorem dX12_isLike_35 : decode cX12_isLike 35 = .ok (.baload, 1) := by decide +kernel
theorem dX12_isLike_36 : decode cX12_isLike 36 = .ok (.aload_n 0, 1) := by decide +kernel
theorem dX12_isLike_37 : decode cX12_isLike 37 = .ok (.getfield 113, 3) := by decide +kernel
theorem dX12_isLike_40 : decode cX12_isLike 40 = .ok (.sipush 5120, 3) := by decide +kernel
theorem dX12_isLike_43 : decode cX12_isLike 43 = .ok (.iload_n 2, 1) := by decide +kernel
theorem dX12_isLike_44 : decode cX12_isLike 44 = .ok (.imul, 1) := by decide +kernel
theorem dX12_isLike_45 : decode cX12_isLike 45 = .ok (.bipush 80, 2) := by decide +kernel
theorem dX12_isLike_47 : decode cX12_isLike 47 = .ok (.iload_n 3, 1) := by decide +kernel
theorem dX12_isLike_48 : decode cX12_isLike 48 = .ok (.imul, 1) := by decide +kernel
theorem dX12_isLike_49 : decode cX12_isLike 49 = .ok (.iadd, 1) := by decide +kernel
theorem dX12_isLike_50 : decode cX12_isLike 50 = .ok (.iload 5, 2) := by decide +kernel
theorem dX12_isLike_52 : decode cX12_isLike 52 = .ok (.iadd, 1) := by decide +kernel
theorem dX12_isLike_53 : decode cX12_isLike 53 = .ok (.baload, 1) := by decide +kernel
theorem dX12_isLike_54 : decode cX12_isLike 54 = .ok (.if_icmp .ne 7, 3) := by decide +kernel
theorem dX12_isLike_57 : decode cX12_isLike 57 = .ok (.iconst 1, 1) := by decide +kernel
theorem dX12_isLike_58 : decode cX12_isLike 58 = .ok (.goto 4, 3) := by decide +kernel
theorem dX12_isLike_61 : decode cX12_isLike 61 = .ok (.iconst 0, 1) := by decide +kernel
theorem dX12_isLike_62 : decode cX12_isLike 62 = .ok (.istore 4, 2) := by decide +kernel
theorem dX12_isLike_64 : decode cX12_isLike 64 = .ok (.iinc 5 1, 3) := by decide +kernel
theorem dX12_isLike_67 : decode cX12_isLike 67 = .ok (.goto (-61), 3) := by decide +kernel
theorem dX12_isLike_70 : decode cX12_isLike 70 = .ok (.iload 4, 2) := by decide +kernel
theorem dX12_isLike_72 : decode cX12_isLike 72 = .ok (.ireturn, 1) := by decide +kernel
theorem dX12_findContents_0 : decode cX12_findContents 0 = .ok (.aload_n 0, 1) := by decide +kernel
theorem dX12_findContents_1 : decode cX12_findContents 1 = .ok (.iconst 0, 1) := by decide +kernel
theorem dX12_findContents_2 : decode cX12_findContents 2 = .ok (.putfield 412, 3) := by decide +kernel
theorem dX12_findContents_5 : decode cX12_findContents 5 = .ok (.aload_n 0, 1) := by decide +kernel
theorem dX12_findContents_6 : decode cX12_findContents 6 = .ok (.iconst 0, 1) := by decide +kernel
theorem dX12_findContents_7 : decode cX12_findContents 7 = .ok (.putfield 415, 3) := by decide +kernel
theorem dX12_findContents_10 : decode cX12_findContents 10 = .ok (.iconst 0, 1) := by decide +kernel
theorem dX12_findContents_11 : decode cX12_findContents 11 = .ok (.istore_n 2, 1) := by decide +kernel
theorem dX12_findContents_12 : decode cX12_findContents 12 = .ok (.iload_n 2, 1) := by decide +kernel
theorem dX12_findContents_13 : decode cX12_findContents 13 = .ok (.aload_n 0, 1) := by decide +kernel
theorem dX12_findContents_14 : decode cX12_findContents 14 = .ok (.getfield 396, 3) := by decide +kernel
theorem dX12_findContents_17 : decode cX12_findContents 17 = .ok (.if_icmp .ge 107, 3) := by decide +kernel
theorem dX12_findContents_20 : decode cX12_findContents 20 = .ok (.iconst 0, 1) := by decide +kernel
theorem dX12_findContents_21 : decode cX12_findContents 21 = .ok (.istore_n 3, 1) := by decide +kernel
theorem dX12_findContents_22 : decode cX12_findContents 22 = .ok (.iconst 1, 1) := by decide +kernel
theorem dX12_findContents_23 : decode cX12_findContents 23 = .ok (.istore 4, 2) := by decide +kernel
theorem dX12_findContents_25 : decode cX12_findContents 25 = .ok (.iconst 0, 1) := by decide +kernel
theorem dX12_findContents_26 : decode cX12_findContents 26 = .ok (.istore 5, 2) := by decide +kernel
theorem dX12_findContents_28 : decode cX12_findContents 28 = .ok (.iload 5, 2) := by decide +kernel
theorem dX12_findContents_30 : decode cX12_findContents 30 = .ok (.aload_n 0, 1) := by decide +kernel
theorem dX12_findContents_31 : decode cX12_findContents 31 = .ok (.getfield 396, 3) := by decide +kernel
theorem dX12_findContents_34 : decode cX12_findContents 34 = .ok (.if_icmp .ge 50, 3) := by decide +kernel
theorem dX12_findContents_37 : decode cX12_findContents 37 = .ok (.aload_n 0, 1) := by decide +kernel
theorem dX12_findContents_38 : decode cX12_findContents 38 = .ok (.iload_n 2, 1) := by decide +kernel
theorem dX12_findContents_39 : decode cX12_findContents 39 = .ok (.iload 5, 2) := by decide +kernel
theorem dX12_findContents_41 : decode cX12_findContents 41 = .ok (.iload_n 1, 1) := by decide +kernel
theorem dX12_findContents_42 : decode cX12_findContents 42 = .ok (.invokevirtual 418, 3) := by decide +kernel
theorem dX12_findContents_45 : decode cX12_findContents 45 = .ok (.istore 6, 2) := by decide +kernel
theorem dX12_findContents_47 : decode cX12_findContents 47 = .ok (.iload_n 3, 1) := by decide +kernel
theorem dX12_findContents_48 : decode cX12_findContents 48 = .ok (.iload 6, 2) := by decide +kernel
theorem dX12_findContents_50 : decode cX12_findContents 50 = .ok (.invokestatic 207, 3) := by decide +kernel
theorem dX12_findContents_53 : decode cX12_findContents 53 = .ok (.iadd, 1) := by decide +kernel
theorem dX12_findContents_54 : decode cX12_findContents 54 = .ok (.istore_n 3, 1) := by decide +kernel
theorem dX12_findContents_55 : decode cX12_findContents 55 = .ok (.iload 4, 2) := by decide +kernel
theorem dX12_findContents_57 : decode cX12_findContents 57 = .ok (.ifCond .eq 18, 3) := by decide +kernel
theorem dX12_findContents_60 : decode cX12_findContents 60 = .ok (.iload 6, 2) := by decide +kernel
theorem dX12_findContents_62 : decode cX12_findContents 62 = .ok (.ifCond .eq 9, 3) := by decide +kernel
theorem dX12_findContents_65 : decode cX12_findContents 65 = .ok (.iload 5, 2) := by decide +kernel
theorem dX12_findContents_67 : decode cX12_findContents 67 = .ok (.iload_n 2, 1) := by decide +kernel
theorem dX12_findContents_68 : decode cX12_findContents 68 = .ok (.if_icmp .lt 7, 3) := by decide +kernel
theorem dX12_findContents_71 : decode cX12_findContents 71 = .ok (.iconst 1, 1) := by decide +kernel
theorem dX12_findContents_72 : decode cX12_findContents 72 = .ok (.goto 4, 3) := by decide +kernel
theorem dX12_findContents_75 : decode cX12_findContents 75 = .ok (.iconst 0, 1) := by decide +kernel
theorem dX12_findContents_76 : decode cX12_findContents 76 = .ok (.istore 4, 2) := by decide +kernel
theorem dX12_findContents_78 : decode cX12_findContents 78 = .ok (.iinc 5 1, 3) := by decide +kernel
theorem dX12_findContents_81 : decode cX12_findContents 81 = .ok (.goto (-53), 3) := by decide +kernel
theorem dX12_findContents_84 : decode cX12_findContents 84 = .ok (.aload_n 0, 1) := by decide +kernel
theorem dX12_findContents_85 : decode cX12_findContents 85 = .ok (.dup, 1) := by decide +kernel
theorem dX12_findContents_86 : decode cX12_findContents 86 = .ok (.getfield 412, 3) := by decide +kernel
theorem dX12_findContents_89 : decode cX12_findContents 89 = .ok (.iload 4, 2) := by decide +kernel
theorem dX12_findContents_91 : decode cX12_findContents 91 = .ok (.invokestatic 207, 3) := by decide +kernel
theorem dX12_findContents_94 : decode cX12_findContents 94 = .ok (.iadd, 1) := by decide +kernel
theorem dX12_findContents_95 : decode cX12_findContents 95 = .ok (.putfield 412, 3) := by decide +kernel
theorem dX12_findContents_98 : decode cX12_findContents 98 = .ok (.aload_n 0, 1) := by decide +kernel
theorem dX12_findContents_99 : decode cX12_findContents 99 = .ok (.iload_n 3, 1) := by decide +kernel
theorem dX12_findContents_100 : decode cX12_findContents 100 = .ok (.aload_n 0, 1) := by decide +kernel
theorem dX12_findContents_101 : decode cX12_findContents 101 = .ok (.getfield 415, 3) := by decide +kernel
theorem dX12_findContents_104 : decode cX12_findContents 104 = .ok (.if_icmp .le 7, 3) := by decide +kernel
theorem dX12_findContents_107 : decode cX12_findContents 107 = .ok (.iload_n 3, 1) := by decide +kernel
theorem dX12_findContents_108 : decode cX12_findContents 108 = .ok (.goto 7, 3) := by decide +kernel
theorem dX12_findContents_111 : decode cX12_findContents 111 = .ok (.aload_n 0, 1) := by decide +kernel
theorem dX12_findContents_112 : decode cX12_findContents 112 = .ok (.getfield 415, 3) := by decide +kernel
theorem dX12_findContents_115 : decode cX12_findContents 115 = .ok (.putfield 415, 3) := by decide +kernel
theorem dX12_findContents_118 : decode cX12_findContents 118 = .ok (.iinc 2 1, 3) := by decide +kernel
theorem dX12_findContents_121 : decode cX12_findContents 121 = .ok (.goto (-109), 3) := by decide +kernel
theorem dX12_findContents_124 : decode cX12_findContents 124 = .ok (.return_, 1) := by decide +kernel
theorem dX12_next_0 : decode cX12_next 0 = .ok (.aload_n 0, 1) := by decide +kernel
theorem dX12_next_1 : decode cX12_next 1 = .ok (.iload_n 1, 1) := by decide +kernel
theorem dX12_next_2 : decode cX12_next 2 = .ok (.invokevirtual 362, 3) := by decide +kernel
theorem dX12_next_5 : decode cX12_next 5 = .ok (.ifCond .eq 15, 3) := by decide +kernel
theorem dX12_next_8 : decode cX12_next 8 = .ok (.iload_n 2, 1) := by decide +kernel
theorem dX12_next_9 : decode cX12_next 9 = .ok (.i2l, 1) := by decide +kernel
theorem dX12_next_10 : decode cX12_next 10 = .ok (.lconst 0, 1) := by decide +kernel
theorem dX12_next_11 : decode cX12_next 11 = .ok (.ldc2_w 321, 3) := by decide +kernel
theorem dX12_next_14 : decode cX12_next 14 = .ok (.invokestatic 134, 3) := by decide +kernel
theorem dX12_next_17 : decode cX12_next 17 = .ok (.ifCond .ne 6, 3) := by decide +kernel
theorem dX12_next_20 : decode cX12_next 20 = .ok (.ldc 195, 2) := by decide +kernel
theorem dX12_next_22 : decode cX12_next 22 = .ok (.ireturn, 1) := by decide +kernel
theorem dX12_next_23 : decode cX12_next 23 = .ok (.aload_n 0, 1) := by decide +kernel
theorem dX12_next_24 : decode cX12_next 24 = .ok (.invokevirtual 405, 3) := by decide +kernel
theorem dX12_next_27 : decode cX12_next 27 = .ok (.ifCond .eq 6, 3) := by decide +kernel
theorem dX12_next_30 : decode cX12_next 30 = .ok (.ldc 196, 2) := by decide +kernel
theorem dX12_next_32 : decode cX12_next 32 = .ok (.ireturn, 1) := by decide +kernel
theorem dX12_next_33 : decode cX12_next 33 = .ok (.aload_n 0, 1) := by decide +kernel
theorem dX12_next_34 : decode cX12_next 34 = .ok (.aload_n 0, 1) := by decide +kernel
theorem dX12_next_35 : decode cX12_next 35 = .ok (.iload_n 1, 1) := by decide +kernel
theorem dX12_next_36 : decode cX12_next 36 = .ok (.invokevirtual 365, 3) := by decide +kernel
theorem dX12_next_39 : decode cX12_next 39 = .ok (.invokevirtual 409, 3) := by decide +kernel
theorem dX12_next_42 : decode cX12_next 42 = .ok (.aload_n 0, 1) := by decide +kernel
theorem dX12_next_43 : decode cX12_next 43 = .ok (.getfield 396, 3) := by decide +kernel
theorem dX12_next_46 : decode cX12_next 46 = .ok (.ifCond .ne 6, 3) := by decide +kernel
theorem dX12_next_49 : decode cX12_next 49 = .ok (.ldc 200, 2) := by decide +kernel
theorem dX12_next_51 : decode cX12_next 51 = .ok (.ireturn, 1) := by decide +kernel
theorem dX12_next_52 : decode cX12_next 52 = .ok (.iconst (-1), 1) := by decide +kernel
theorem dX12_next_53 : decode cX12_next 53 = .ok (.istore_n 3, 1) := by decide +kernel
theorem dX12_next_54 : decode cX12_next 54 = .ok (.iconst 0, 1) := by decide +kernel
theorem dX12_next_55 : decode cX12_next 55 = .ok (.istore 4, 2) := by decide +kernel
theorem dX12_next_57 : decode cX12_next 57 = .ok (.iconst 0, 1) := by decide +kernel
theorem dX12_next_58 : decode cX12_next 58 = .ok (.istore 5, 2) := by decide +kernel
theorem dX12_next_60 : decode cX12_next 60 = .ok (.iconst 0, 1) := by decide +kernel
theorem dX12_next_61 : decode cX12_next 61 = .ok (.istore 6, 2) := by decide +kernel
theorem dX12_next_63 : decode cX12_next 63 = .ok (.iload 6, 2) := by decide +kernel
theorem dX12_next_65 : decode cX12_next 65 = .ok (.bipush 64, 2) := by decide +kernel
theorem dX12_next_67 : decode cX12_next 67 = .ok (.if_icmp .ge 61, 3) := by decide +kernel
theorem dX12_next_70 : decode cX12_next 70 = .ok (.aload_n 0, 1) := by decide +kernel
theorem dX12_next_71 : decode cX12_next 71 = .ok (.iload 6, 2) := by decide +kernel
theorem dX12_next_73 : decode cX12_next 73 = .ok (.invokevirtual 421, 3) := by decide +kernel
theorem dX12_next_76 : decode cX12_next 76 = .ok (.iload_n 3, 1) := by decide +kernel
theorem dX12_next_77 : decode cX12_next 77 = .ok (.ifCond .lt 30, 3) := by decide +kernel
theorem dX12_next_80 : decode cX12_next 80 = .ok (.aload_n 0, 1) := by decide +kernel
theorem dX12_next_81 : decode cX12_next 81 = .ok (.getfield 412, 3) := by decide +kernel
theorem dX12_next_84 : decode cX12_next 84 = .ok (.iload 4, 2) := by decide +kernel
theorem dX12_next_86 : decode cX12_next 86 = .ok (.if_icmp .gt 21, 3) := by decide +kernel
theorem dX12_next_89 : decode cX12_next 89 = .ok (.aload_n 0, 1) := by decide +kernel
theorem dX12_next_90 : decode cX12_next 90 = .ok (.getfield 412, 3) := by decide +kernel
theorem dX12_next_93 : decode cX12_next 93 = .ok (.iload 4, 2) := by decide +kernel
theorem dX12_next_95 : decode cX12_next 95 = .ok (.if_icmp .ne 27, 3) := by decide +kernel
theorem dX12_next_98 : decode cX12_next 98 = .ok (.aload_n 0, 1) := by decide +kernel
theorem dX12_next_99 : decode cX12_next 99 = .ok (.getfield 415, 3) := by decide +kernel
theorem dX12_next_102 : decode cX12_next 102 = .ok (.iload 5, 2) := by decide +kernel
theorem dX12_next_104 : decode cX12_next 104 = .ok (.if_icmp .ge 18, 3) := by decide +kernel
theorem dX12_next_107 : decode cX12_next 107 = .ok (.iload 6, 2) := by decide +kernel
theorem dX12_next_109 : decode cX12_next 109 = .ok (.istore_n 3, 1) := by decide +kernel
theorem dX12_next_110 : decode cX12_next 110 = .ok (.aload_n 0, 1) := by decide +kernel
theorem dX12_next_111 : decode cX12_next 111 = .ok (.getfield 412, 3) := by decide +kernel
theorem dX12_next_114 : decode cX12_next 114 = .ok (.istore 4, 2) := by decide +kernel
theorem dX12_next_116 : decode cX12_next 116 = .ok (.aload_n 0, 1) := by decide +kernel
theorem dX12_next_117 : decode cX12_next 117 = .ok (.getfield 415, 3) := by decide +kernel
theorem dX12_next_120 : decode cX12_next 120 = .ok (.istore 5, 2) := by decide +kernel
theorem dX12_next_122 : decode cX12_next 122 = .ok (.iinc 6 1, 3) := by decide +kernel
theorem dX12_next_125 : decode cX12_next 125 = .ok (.goto (-62), 3) := by decide +kernel
theorem dX12_next_128 : decode cX12_next 128 = .ok (.iload_n 2, 1) := by decide +kernel
theorem dX12_next_129 : decode cX12_next 129 = .ok (.ifCond .ne 7, 3) := by decide +kernel
theorem dX12_next_132 : decode cX12_next 132 = .ok (.iload_n 3, 1) := by decide +kernel
theorem dX12_next_133 : decode cX12_next 133 = .ok (.goto 15, 3) := by decide +kernel
theorem dX12_next_136 : decode cX12_next 136 = .ok (.iload_n 2, 1) := by decide +kernel
theorem dX12_next_137 : decode cX12_next 137 = .ok (.iconst 1, 1) := by decide +kernel
theorem dX12_next_138 : decode cX12_next 138 = .ok (.if_icmp .ne 8, 3) := by decide +kernel
theorem dX12_next_141 : decode cX12_next 141 = .ok (.iload 4, 2) := by decide +kernel
theorem dX12_next_143 : decode cX12_next 143 = .ok (.goto 5, 3) := by decide +kernel
theorem dX12_next_146 : decode cX12_next 146 = .ok (.iload 5, 2) := by decide +kernel
theorem dX12_next_148 : decode cX12_next 148 = .ok (.ireturn, 1) := by decide +kernel
theorem dX12_take_0 : decode cX12_take 0 = .ok (.aload_n 0, 1) := by decide +kernel
theorem dX12_take_1 : decode cX12_take 1 = .ok (.iload_n 1, 1) := by decide +kernel
theorem dX12_take_2 : decode cX12_take 2 = .ok (.invokevirtual 362, 3) := by decide +kernel
theorem dX12_take_5 : decode cX12_take 5 = .ok (.ifCond .ne 6, 3) := by decide +kernel
theorem dX12_take_8 : decode cX12_take 8 = .ok (.ldc 195, 2) := by decide +kernel
theorem dX12_take_10 : decode cX12_take 10 = .ok (.ireturn, 1) := by decide +kernel
theorem dX12_take_11 : decode cX12_take 11 = .ok (.aload_n 0, 1) := by decide +kernel
theorem dX12_take_12 : decode cX12_take 12 = .ok (.invokevirtual 405, 3) := by decide +kernel
theorem dX12_take_15 : decode cX12_take 15 = .ok (.ifCond .eq 6, 3) := by decide +kernel
theorem dX12_take_18 : decode cX12_take 18 = .ok (.ldc 196, 2) := by decide +kernel
theorem dX12_take_20 : decode cX12_take 20 = .ok (.ireturn, 1) := by decide +kernel
theorem dX12_take_21 : decode cX12_take 21 = .ok (.aload_n 0, 1) := by decide +kernel
theorem dX12_take_22 : decode cX12_take 22 = .ok (.aload_n 0, 1) := by decide +kernel
theorem dX12_take_23 : decode cX12_take 23 = .ok (.iload_n 1, 1) := by decide +kernel
theorem dX12_take_24 : decode cX12_take 24 = .ok (.invokevirtual 365, 3) := by decide +kernel
theorem dX12_take_27 : decode cX12_take 27 = .ok (.invokevirtual 409, 3) := by decide +kernel
theorem dX12_take_30 : decode cX12_take 30 = .ok (.iload_n 2, 1) := by decide +kernel
theorem dX12_take_31 : decode cX12_take 31 = .ok (.i2l, 1) := by decide +kernel
theorem dX12_take_32 : decode cX12_take 32 = .ok (.lconst 0, 1) := by decide +kernel
theorem dX12_take_33 : decode cX12_take 33 = .ok (.aload_n 0, 1) := by decide +kernel
theorem dX12_take_34 : decode cX12_take 34 = .ok (.getfield 396, 3) := by decide +kernel
theorem dX12_take_37 : decode cX12_take 37 = .ok (.iconst 1, 1) := by decide +kernel
theorem dX12_take_38 : decode cX12_take 38 = .ok (.isub, 1) := by decide +kernel
theorem dX12_take_39 : decode cX12_take 39 = .ok (.i2l, 1) := by decide +kernel
theorem dX12_take_40 : decode cX12_take 40 = .ok (.invokestatic 134, 3) := by decide +kernel
theorem dX12_take_43 : decode cX12_take 43 = .ok (.ifCond .ne 6, 3) := by decide +kernel
theorem dX12_take_46 : decode cX12_take 46 = .ok (.ldc 200, 2) := by decide +kernel
theorem dX12_take_48 : decode cX12_take 48 = .ok (.ireturn, 1) := by decide +kernel
theorem dX12_take_49 : decode cX12_take 49 = .ok (.iconst 0, 1) := by decide +kernel
theorem dX12_take_50 : decode cX12_take 50 = .ok (.istore_n 3, 1) := by decide +kernel
theorem dX12_take_51 : decode cX12_take 51 = .ok (.iload_n 3, 1) := by decide +kernel
theorem dX12_take_52 : decode cX12_take 52 = .ok (.aload_n 0, 1) := by decide +kernel
theorem dX12_take_53 : decode cX12_take 53 = .ok (.getfield 106, 3) := by decide +kernel
theorem dX12_take_56 : decode cX12_take 56 = .ok (.iload_n 2, 1) := by decide +kernel
theorem dX12_take_57 : decode cX12_take 57 = .ok (.iaload, 1) := by decide +kernel
theorem dX12_take_58 : decode cX12_take 58 = .ok (.if_icmp .ge 38, 3) := by decide +kernel
theorem dX12_take_61 : decode cX12_take 61 = .ok (.aload_n 0, 1) := by decide +kernel
theorem dX12_take_62 : decode cX12_take 62 = .ok (.getfield 109, 3) := by decide +kernel
theorem dX12_take_65 : decode cX12_take 65 = .ok (.iconst 4, 1) := by decide +kernel
theorem dX12_take_66 : decode cX12_take 66 = .ok (.iload_n 2, 1) := by decide +kernel
theorem dX12_take_67 : decode cX12_take 67 = .ok (.imul, 1) := by decide +kernel
theorem dX12_take_68 : decode cX12_take 68 = .ok (.iload_n 3, 1) := by decide +kernel
theorem dX12_take_69 : decode cX12_take 69 = .ok (.iadd, 1) := by decide +kernel
theorem dX12_take_70 : decode cX12_take 70 = .ok (.iaload, 1) := by decide +kernel
theorem dX12_take_71 : decode cX12_take 71 = .ok (.istore 4, 2) := by decide +kernel
theorem dX12_take_73 : decode cX12_take 73 = .ok (.aload_n 0, 1) := by decide +kernel
theorem dX12_take_74 : decode cX12_take 74 = .ok (.iload 4, 2) := by decide +kernel
theorem dX12_take_76 : decode cX12_take 76 = .ok (.invokevirtual 393, 3) := by decide +kernel
theorem dX12_take_79 : decode cX12_take 79 = .ok (.aload_n 0, 1) := by decide +kernel
theorem dX12_take_80 : decode cX12_take 80 = .ok (.aload_n 0, 1) := by decide +kernel
theorem dX12_take_81 : decode cX12_take 81 = .ok (.getfield 100, 3) := by decide +kernel
theorem dX12_take_84 : decode cX12_take 84 = .ok (.iload 4, 2) := by decide +kernel
theorem dX12_take_86 : decode cX12_take 86 = .ok (.iaload, 1) := by decide +kernel
theorem dX12_take_87 : decode cX12_take 87 = .ok (.invokevirtual 197, 3) := by decide +kernel
theorem dX12_take_90 : decode cX12_take 90 = .ok (.iinc 3 1, 3) := by decide +kernel
theorem dX12_take_93 : decode cX12_take 93 = .ok (.goto (-42), 3) := by decide +kernel
theorem dX12_take_96 : decode cX12_take 96 = .ok (.aload_n 0, 1) := by decide +kernel
theorem dX12_take_97 : decode cX12_take 97 = .ok (.aload_n 0, 1) := by decide +kernel
theorem dX12_take_98 : decode cX12_take 98 = .ok (.getfield 184, 3) := by decide +kernel
theorem dX12_take_101 : decode cX12_take 101 = .ok (.invokevirtual 119, 3) := by decide +kernel
theorem dX12_take_104 : decode cX12_take 104 = .ok (.aload_n 0, 1) := by decide +kernel
theorem dX12_take_105 : decode cX12_take 105 = .ok (.getfield 184, 3) := by decide +kernel
theorem dX12_take_108 : decode cX12_take 108 = .ok (.ireturn, 1) := by decide +kernel
theorem dJ9_floorDiv_7cf53_0 : decode cJ9_floorDiv_7cf53 0 = .ok (.iload_n 0, 1) := by decide +kernel
theorem dJ9_floorDiv_7cf53_1 : decode cJ9_floorDiv_7cf53 1 = .ok (.iload_n 1, 1) := by decide +kernel
theorem dJ9_floorDiv_7cf53_2 : decode cJ9_floorDiv_7cf53 2 = .ok (.idiv, 1) := by decide +kernel
theorem dJ9_floorDiv_7cf53_3 : decode cJ9_floorDiv_7cf53 3 = .ok (.istore_n 2, 1) := by decide +kernel
theorem dJ9_floorDiv_7cf53_4 : decode cJ9_floorDiv_7cf53 4 = .ok (.iload_n 0, 1) := by decide +kernel
theorem dJ9_floorDiv_7cf53_5 : decode cJ9_floorDiv_7cf53 5 = .ok (.iload_n 1, 1) := by decide +kernel
theorem dJ9_floorDiv_7cf53_6 : decode cJ9_floorDiv_7cf53 6 = .ok (.ixor, 1) := by decide +kernel
theorem dJ9_floorDiv_7cf53_7 : decode cJ9_floorDiv_7cf53 7 = .ok (.ifCond .ge 14, 3) := by decide +kernel
theorem dJ9_floorDiv_7cf53_10 : decode cJ9_floorDiv_7cf53 10 = .ok (.iload_n 2, 1) := by decide +kernel
theorem dJ9_floorDiv_7cf53_11 : decode cJ9_floorDiv_7cf53 11 = .ok (.iload_n 1, 1) := by decide +kernel
theorem dJ9_floorDiv_7cf53_12 : decode cJ9_floorDiv_7cf53 12 = .ok (.imul, 1) := by decide +kernel
theorem dJ9_floorDiv_7cf53_13 : decode cJ9_floorDiv_7cf53 13 = .ok (.iload_n 0, 1) := by decide +kernel
theorem dJ9_floorDiv_7cf53_14 : decode cJ9_floorDiv_7cf53 14 = .ok (.if_icmp .eq 7, 3) := by decide +kernel
theorem dJ9_floorDiv_7cf53_17 : decode cJ9_floorDiv_7cf53 17 = .ok (.iload_n 2, 1) := by decide +kernel
theorem dJ9_floorDiv_7cf53_18 : decode cJ9_floorDiv_7cf53 18 = .ok (.iconst 1, 1) := by decide +kernel
theorem dJ9_floorDiv_7cf53_19 : decode cJ9_floorDiv_7cf53 19 = .ok (.isub, 1) := by decide +kernel
theorem dJ9_floorDiv_7cf53_20 : decode cJ9_floorDiv_7cf53 20 = .ok (.ireturn, 1) := by decide +kernel
theorem dJ9_floorDiv_7cf53_21 : decode cJ9_floorDiv_7cf53 21 = .ok (.iload_n 2, 1) := by decide +kernel
theorem dJ9_floorDiv_7cf53_22 : decode cJ9_floorDiv_7cf53 22 = .ok (.ireturn, 1) := by decide +kernel
theorem dJ9_floorMod_7cf53_0 : decode cJ9_floorMod_7cf53 0 = .ok (.iload_n 0, 1) := by decide +kernel
theorem dJ9_floorMod_7cf53_1 : decode cJ9_floorMod_7cf53 1 = .ok (.iload_n 1, 1) := by decide +kernel
theorem dJ9_floorMod_7cf53_2 : decode cJ9_floorMod_7cf53 2 = .ok (.irem, 1) := by decide +kernel
theorem dJ9_floorMod_7cf53_3 : decode cJ9_floorMod_7cf53 3 = .ok (.istore_n 2, 1) := by decide +kernel
theorem dJ9_floorMod_7cf53_4 : decode cJ9_floorMod_7cf53 4 = .ok (.iload_n 0, 1) := by decide +kernel
theorem dJ9_floorMod_7cf53_5 : decode cJ9_floorMod_7cf53 5 = .ok (.iload_n 1, 1) := by decide +kernel
theorem dJ9_floorMod_7cf53_6 : decode cJ9_floorMod_7cf53 6 = .ok (.ixor, 1) := by decide +kernel
theorem dJ9_floorMod_7cf53_7 : decode cJ9_floorMod_7cf53 7 = .ok (.ifCond .ge 11, 3) := by decide +kernel
theorem dJ9_floorMod_7cf53_10 : decode cJ9_floorMod_7cf53 10 = .ok (.iload_n 2, 1) := by decide +kernel
theorem dJ9_floorMod_7cf53_11 : decode cJ9_floorMod_7cf53 11 = .ok (.ifCond .eq 7, 3) := by decide +kernel
theorem dJ9_floorMod_7cf53_14 : decode cJ9_floorMod_7cf53 14 = .ok (.iload_n 2, 1) := by decide +kernel
theorem dJ9_floorMod_7cf53_15 : decode cJ9_floorMod_7cf53 15 = .ok (.iload_n 1, 1) := by decide +kernel
theorem dJ9_floorMod_7cf53_16 : decode cJ9_floorMod_7cf53 16 = .ok (.iadd, 1) := by decide +kernel
theorem dJ9_floorMod_7cf53_17 : decode cJ9_floorMod_7cf53 17 = .ok (.ireturn, 1) := by decide +kernel
theorem dJ9_floorMod_7cf53_18 : decode cJ9_floorMod_7cf53 18 = .ok (.iload_n 2, 1) := by decide +kernel
theorem dJ9_floorMod_7cf53_19 : decode cJ9_floorMod_7cf53 19 = .ok (.ireturn, 1) := by decide +kernel
theorem dJ9_max_7cf53_0 : decode cJ9_max_7cf53 0 = .ok (.iload_n 0, 1) := by decide +kernel
theorem dJ9_max_7cf53_1 : decode cJ9_max_7cf53 1 = .ok (.iload_n 1, 1) := by decide +kernel
theorem dJ9_max_7cf53_2 : decode cJ9_max_7cf53 2 = .ok (.if_icmp .lt 7, 3) := by decide +kernel
theorem dJ9_max_7cf53_5 : decode cJ9_max_7cf53 5 = .ok (.iload_n 0, 1) := by decide +kernel
theorem dJ9_max_7cf53_6 : decode cJ9_max_7cf53 6 = .ok (.goto 4, 3) := by decide +kernel
theorem dJ9_max_7cf53_9 : decode cJ9_max_7cf53 9 = .ok (.iload_n 1, 1) := by decide +kernel
theorem dJ9_max_7cf53_10 : decode cJ9_max_7cf53 10 = .ok (.ireturn, 1) := by decide +kernel
theorem dJ9_min_7cf53_0 : decode cJ9_min_7cf53 0 = .ok (.iload_n 0, 1) := by decide +kernel
theorem dJ9_min_7cf53_1 : decode cJ9_min_7cf53 1 = .ok (.iload_n 1, 1) := by decide +kernel
theorem dJ9_min_7cf53_2 : decode cJ9_min_7cf53 2 = .ok (.if_icmp .gt 7, 3) := by decide +kernel
theorem dJ9_min_7cf53_5 : decode cJ9_min_7cf53 5 = .ok (.iload_n 0, 1) := by decide +kernel
theorem dJ9_min_7cf53_6 : decode cJ9_min_7cf53 6 = .ok (.goto 4, 3) := by decide +kernel
theorem dJ9_min_7cf53_9 : decode cJ9_min_7cf53 9 = .ok (.iload_n 1, 1) := by decide +kernel
theorem dJ9_min_7cf53_10 : decode cJ9_min_7cf53 10 = .ok (.ireturn, 1) := by decide +kernel
theorem dJ0_length_8abf5_0 : decode cJ0_length_8abf5 0 = .ok (.aload_n 0, 1) := by decide +kernel
theorem dJ0_length_8abf5_1 : decode cJ0_length_8abf5 1 = .ok (.getfield 9, 3) := by decide +kernel
theorem dJ0_length_8abf5_4 : decode cJ0_length_8abf5 4 = .ok (.arraylength, 1) := by decide +kernel
theorem dJ0_length_8abf5_5 : decode cJ0_length_8abf5 5 = .ok (.aload_n 0, 1) := by decide +kernel
theorem dJ0_length_8abf5_6 : decode cJ0_length_8abf5 6 = .ok (.invokevirtual 335, 3) := by decide +kernel
theorem dJ0_length_8abf5_9 : decode cJ0_length_8abf5 9 = .ok (.ishr, 1) := by decide +kernel
theorem dJ0_length_8abf5_10 : decode cJ0_length_8abf5 10 = .ok (.ireturn, 1) := by decide +kernel
theorem dJ0_charAt_5068e_0 : decode cJ0_charAt_5068e 0 = .ok (.aload_n 0, 1) := by decide +kernel
theorem dJ0_charAt_5068e_1 : decode cJ0_charAt_5068e 1 = .ok (.invokevirtual 492, 3) := by decide +kernel
theorem dJ0_charAt_5068e_4 : decode cJ0_charAt_5068e 4 = .ok (.ifCond .eq 12, 3) := by decide +kernel
theorem dJ0_charAt_5068e_7 : decode cJ0_charAt_5068e 7 = .ok (.aload_n 0, 1) := by decide +kernel
theorem dJ0_charAt_5068e_8 : decode cJ0_charAt_5068e 8 = .ok (.getfield 9, 3) := by decide +kernel
theorem dJ0_charAt_5068e_11 : decode cJ0_charAt_5068e 11 = .ok (.iload_n 1, 1) := by decide +kernel
theorem dJ0_charAt_5068e_12 : decode cJ0_charAt_5068e 12 = .ok (.invokestatic 495, 3) := by decide +kernel
theorem dJ0_charAt_5068e_15 : decode cJ0_charAt_5068e 15 = .ok (.ireturn, 1) := by decide +kernel
theorem dJ0_charAt_5068e_16 : decode cJ0_charAt_5068e 16 = .ok (.aload_n 0, 1) := by decide +kernel
theorem dJ0_charAt_5068e_17 : decode cJ0_charAt_5068e 17 = .ok (.getfield 9, 3) := by decide +kernel
theorem dJ0_charAt_5068e_20 : decode cJ0_charAt_5068e 20 = .ok (.iload_n 1, 1) := by decide +kernel
theorem dJ0_charAt_5068e_21 : decode cJ0_charAt_5068e 21 = .ok (.invokestatic 498, 3) := by decide +kernel
theorem dJ0_charAt_5068e_24 : decode cJ0_charAt_5068e 24 = .ok (.ireturn, 1) := by decide +kernel
theorem dJ0_coder_7d493_0 : decode cJ0_coder_7d493 0 = .ok (.getstatic 38, 3) := by decide +kernel
theorem dJ0_coder_7d493_3 : decode cJ0_coder_7d493 3 = .ok (.ifCond .eq 10, 3) := by decide +kernel
theorem dJ0_coder_7d493_6 : decode cJ0_coder_7d493 6 = .ok (.aload_n 0, 1) := by decide +kernel
theorem dJ0_coder_7d493_7 : decode cJ0_coder_7d493 7 = .ok (.getfield 15, 3) := by decide +kernel
theorem dJ0_coder_7d493_10 : decode cJ0_coder_7d493 10 = .ok (.goto 4, 3) := by decide +kernel
theorem dJ0_coder_7d493_13 : decode cJ0_coder_7d493 13 = .ok (.iconst 1, 1) := by decide +kernel
theorem dJ0_coder_7d493_14 : decode cJ0_coder_7d493 14 = .ok (.ireturn, 1) := by decide +kernel
theorem dJ0_isLatin1_aae02_0 : decode cJ0_isLatin1_aae02 0 = .ok (.getstatic 38, 3) := by decide +kernel
theorem dJ0_isLatin1_aae02_3 : decode cJ0_isLatin1_aae02 3 = .ok (.ifCond .eq 14, 3) := by decide +kernel
theorem dJ0_isLatin1_aae02_6 : decode cJ0_isLatin1_aae02 6 = .ok (.aload_n 0, 1) := by decide +kernel
theorem dJ0_isLatin1_aae02_7 : decode cJ0_isLatin1_aae02 7 = .ok (.getfield 15, 3) := by decide +kernel
theorem dJ0_isLatin1_aae02_10 : decode cJ0_isLatin1_aae02 10 = .ok (.ifCond .ne 7, 3) := by decide +kernel
theorem dJ0_isLatin1_aae02_13 : decode cJ0_isLatin1_aae02 13 = .ok (.iconst 1, 1) := by decide +kernel
theorem dJ0_isLatin1_aae02_14 : decode cJ0_isLatin1_aae02 14 = .ok (.goto 4, 3) := by decide +kernel
theorem dJ0_isLatin1_aae02_17 : decode cJ0_isLatin1_aae02 17 = .ok (.iconst 0, 1) := by decide +kernel
theorem dJ0_isLatin1_aae02_18 : decode cJ0_isLatin1_aae02 18 = .ok (.ireturn, 1) := by decide +kernel
theorem dJ0_checkIndex_df160_0 : decode cJ0_checkIndex_df160 0 = .ok (.iload_n 0, 1) := by decide +kernel
theorem dJ0_checkIndex_df160_1 : decode cJ0_checkIndex_df160 1 = .ok (.iload_n 1, 1) := by decide +kernel
theorem dJ0_checkIndex_df160_2 : decode cJ0_checkIndex_df160 2 = .ok (.getstatic 1053, 3) := by decide +kernel
theorem dJ0_checkIndex_df160_5 : decode cJ0_checkIndex_df160 5 = .ok (.invokestatic 1059, 3) := by decide +kernel
theorem dJ0_checkIndex_df160_8 : decode cJ0_checkIndex_df160 8 = .ok (.pop, 1) := by decide +kernel
theorem dJ0_checkIndex_df160_9 : decode cJ0_checkIndex_df160 9 = .ok (.return_, 1) := by decide +kernel
theorem dJ1_charAt_3b067_0 : decode cJ1_charAt_3b067 0 = .ok (.iload_n 1, 1) := by decide +kernel
theorem dJ1_charAt_3b067_1 : decode cJ1_charAt_3b067 1 = .ok (.aload_n 0, 1) := by decide +kernel
theorem dJ1_charAt_3b067_2 : decode cJ1_charAt_3b067 2 = .ok (.arraylength, 1) := by decide +kernel
theorem dJ1_charAt_3b067_3 : decode cJ1_charAt_3b067 3 = .ok (.invokestatic 9, 3) := by decide +kernel
theorem dJ1_charAt_3b067_6 : decode cJ1_charAt_3b067 6 = .ok (.aload_n 0, 1) := by decide +kernel
theorem dJ1_charAt_3b067_7 : decode cJ1_charAt_3b067 7 = .ok (.iload_n 1, 1) := by decide +kernel
theorem dJ1_charAt_3b067_8 : decode cJ1_charAt_3b067 8 = .ok (.baload, 1) := by decide +kernel
theorem dJ1_charAt_3b067_9 : decode cJ1_charAt_3b067 9 = .ok (.sipush 255, 3) := by decide +kernel
theorem dJ1_charAt_3b067_12 : decode cJ1_charAt_3b067 12 = .ok (.iand, 1) := by decide +kernel
theorem dJ1_charAt_3b067_13 : decode cJ1_charAt_3b067 13 = .ok (.i2c, 1) := by decide +kernel
theorem dJ1_charAt_3b067_14 : decode cJ1_charAt_3b067 14 = .ok (.ireturn, 1) := by decide +kernel
theorem dJ2_getChar_3b067_0 : decode cJ2_getChar_3b067 0 = .ok (.getstatic 44, 3) := by decide +kernel
theorem dJ2_getChar_3b067_3 : decode cJ2_getChar_3b067 3 = .ok (.ifCond .ne 25, 3) := by decide +kernel
theorem dJ2_getChar_3b067_6 : decode cJ2_getChar_3b067 6 = .ok (.iload_n 1, 1) := by decide +kernel
theorem dJ2_getChar_3b067_7 : decode cJ2_getChar_3b067 7 = .ok (.ifCond .lt 11, 3) := by decide +kernel
theorem dJ2_getChar_3b067_10 : decode cJ2_getChar_3b067 10 = .ok (.iload_n 1, 1) := by decide +kernel
theorem dJ2_getChar_3b067_11 : decode cJ2_getChar_3b067 11 = .ok (.aload_n 0, 1) := by decide +kernel
theorem dJ2_getChar_3b067_12 : decode cJ2_getChar_3b067 12 = .ok (.invokestatic 48, 3) := by decide +kernel
theorem dJ2_getChar_3b067_15 : decode cJ2_getChar_3b067 15 = .ok (.if_icmp .lt 13, 3) := by decide +kernel
theorem dJ2_getChar_3b067_18 : decode cJ2_getChar_3b067 18 = .ok (.new 52, 3) := by decide +kernel
theorem dJ2_getChar_3b067_21 : decode cJ2_getChar_3b067 21 = .ok (.dup, 1) := by decide +kernel
theorem dJ2_getChar_3b067_22 : decode cJ2_getChar_3b067 22 = .ok (.ldc 54, 2) := by decide +kernel
theorem dJ2_getChar_3b067_24 : decode cJ2_getChar_3b067 24 = .ok (.invokespecial 56, 3) := by decide +kernel
theorem dJ2_getChar_3b067_27 : decode cJ2_getChar_3b067 27 = .ok (.athrow, 1) := by decide +kernel
theorem dJ2_getChar_3b067_28 : decode cJ2_getChar_3b067 28 = .ok (.iload_n 1, 1) := by decide +kernel
theorem dJ2_getChar_3b067_29 : decode cJ2_getChar_3b067 29 = .ok (.iconst 1, 1) := by decide +kernel
theorem dJ2_getChar_3b067_30 : decode cJ2_getChar_3b067 30 = .ok (.ishl, 1) := by decide +kernel
theorem dJ2_getChar_3b067_31 : decode cJ2_getChar_3b067 31 = .ok (.istore_n 1, 1) := by decide +kernel
theorem dJ2_getChar_3b067_32 : decode cJ2_getChar_3b067 32 = .ok (.aload_n 0, 1) := by decide +kernel
theorem dJ2_getChar_3b067_33 : decode cJ2_getChar_3b067 33 = .ok (.iload_n 1, 1) := by decide +kernel
theorem dJ2_getChar_3b067_34 : decode cJ2_getChar_3b067 34 = .ok (.iinc 1 1, 3) := by decide +kernel
theorem dJ2_getChar_3b067_37 : decode cJ2_getChar_3b067 37 = .ok (.baload, 1) := by decide +kernel
theorem dJ2_getChar_3b067_38 : decode cJ2_getChar_3b067 38 = .ok (.sipush 255, 3) := by decide +kernel
theorem dJ2_getChar_3b067_41 : decode cJ2_getChar_3b067 41 = .ok (.iand, 1) := by decide +kernel
theorem dJ2_getChar_3b067_42 : decode cJ2_getChar_3b067 42 = .ok (.getstatic 59, 3) := by decide +kernel
theorem dJ2_getChar_3b067_45 : decode cJ2_getChar_3b067 45 = .ok (.ishl, 1) := by decide +kernel
theorem dJ2_getChar_3b067_46 : decode cJ2_getChar_3b067 46 = .ok (.aload_n 0, 1) := by decide +kernel
theorem dJ2_getChar_3b067_47 : decode cJ2_getChar_3b067 47 = .ok (.iload_n 1, 1) := by decide +kernel
theorem dJ2_getChar_3b067_48 : decode cJ2_getChar_3b067 48 = .ok (.baload, 1) := by decide +kernel
theorem dJ2_getChar_3b067_49 : decode cJ2_getChar_3b067 49 = .ok (.sipush 255, 3) := by decide +kernel
theorem dJ2_getChar_3b067_52 : decode cJ2_getChar_3b067 52 = .ok (.iand, 1) := by decide +kernel
theorem dJ2_getChar_3b067_53 : decode cJ2_getChar_3b067 53 = .ok (.getstatic 63, 3) := by decide +kernel
theorem dJ2_getChar_3b067_56 : decode cJ2_getChar_3b067 56 = .ok (.ishl, 1) := by decide +kernel
theorem dJ2_getChar_3b067_57 : decode cJ2_getChar_3b067 57 = .ok (.ior, 1) := by decide +kernel
theorem dJ2_getChar_3b067_58 : decode cJ2_getChar_3b067 58 = .ok (.i2c, 1) := by decide +kernel
theorem dJ2_getChar_3b067_59 : decode cJ2_getChar_3b067 59 = .ok (.ireturn, 1) := by decide +kernel
theorem dJ2_length_9d52b_0 : decode cJ2_length_9d52b 0 = .ok (.aload_n 0, 1) := by decide +kernel
theorem dJ2_length_9d52b_1 : decode cJ2_length_9d52b 1 = .ok (.arraylength, 1) := by decide +kernel
theorem dJ2_length_9d52b_2 : decode cJ2_length_9d52b 2 = .ok (.iconst 1, 1) := by decide +kernel
theorem dJ2_length_9d52b_3 : decode cJ2_length_9d52b 3 = .ok (.ishr, 1) := by decide +kernel
theorem dJ2_length_9d52b_4 : decode cJ2_length_9d52b 4 = .ok (.ireturn, 1) := by decide +kernel
theorem dJ2_charAt_3b067_0 : decode cJ2_charAt_3b067 0 = .ok (.iload_n 1, 1) := by decide +kernel
theorem dJ2_charAt_3b067_1 : decode cJ2_charAt_3b067 1 = .ok (.aload_n 0, 1) := by decide +kernel
theorem dJ2_charAt_3b067_2 : decode cJ2_charAt_3b067 2 = .ok (.invokestatic 67, 3) := by decide +kernel
theorem dJ2_charAt_3b067_5 : decode cJ2_charAt_3b067 5 = .ok (.aload_n 0, 1) := by decide +kernel
theorem dJ2_charAt_3b067_6 : decode cJ2_charAt_3b067 6 = .ok (.iload_n 1, 1) := by decide +kernel
theorem dJ2_charAt_3b067_7 : decode cJ2_charAt_3b067 7 = .ok (.invokestatic 71, 3) := by decide +kernel
theorem dJ2_charAt_3b067_10 : decode cJ2_charAt_3b067 10 = .ok (.ireturn, 1) := by decide +kernel
theorem dJ2_checkIndex_2214a_0 : decode cJ2_checkIndex_2214a 0 = .ok (.iload_n 0, 1) := by decide +kernel
theorem dJ2_checkIndex_2214a_1 : decode cJ2_checkIndex_2214a 1 = .ok (.aload_n 1, 1) := by decide +kernel
theorem dJ2_checkIndex_2214a_2 : decode cJ2_checkIndex_2214a 2 = .ok (.invokestatic 48, 3) := by decide +kernel
theorem dJ2_checkIndex_2214a_5 : decode cJ2_checkIndex_2214a 5 = .ok (.invokestatic 414, 3) := by decide +kernel
theorem dJ2_checkIndex_2214a_8 : decode cJ2_checkIndex_2214a 8 = .ok (.return_, 1) := by decide +kernel
theorem dJ3_checkIndex_8e157_0 : decode cJ3_checkIndex_8e157 0 = .ok (.iload_n 0, 1) := by decide +kernel
theorem dJ3_checkIndex_8e157_1 : decode cJ3_checkIndex_8e157 1 = .ok (.ifCond .lt 8, 3) := by decide +kernel
theorem dJ3_checkIndex_8e157_4 : decode cJ3_checkIndex_8e157 4 = .ok (.iload_n 0, 1) := by decide +kernel
theorem dJ3_checkIndex_8e157_5 : decode cJ3_checkIndex_8e157 5 = .ok (.iload_n 1, 1) := by decide +kernel
theorem dJ3_checkIndex_8e157_6 : decode cJ3_checkIndex_8e157 6 = .ok (.if_icmp .lt 10, 3) := by decide +kernel
theorem dJ3_checkIndex_8e157_9 : decode cJ3_checkIndex_8e157 9 = .ok (.aload_n 2, 1) := by decide +kernel
theorem dJ3_checkIndex_8e157_10 : decode cJ3_checkIndex_8e157 10 = .ok (.iload_n 0, 1) := by decide +kernel
theorem dJ3_checkIndex_8e157_11 : decode cJ3_checkIndex_8e157 11 = .ok (.iload_n 1, 1) := by decide +kernel
theorem dJ3_checkIndex_8e157_12 : decode cJ3_checkIndex_8e157 12 = .ok (.invokestatic 95, 3) := by decide +kernel
theorem dJ3_checkIndex_8e157_15 : decode cJ3_checkIndex_8e157 15 = .ok (.athrow, 1) := by decide +kernel
theorem dJ3_checkIndex_8e157_16 : decode cJ3_checkIndex_8e157 16 = .ok (.iload_n 0, 1) := by decide +kernel
theorem dJ3_checkIndex_8e157_17 : decode cJ3_checkIndex_8e157 17 = .ok (.ireturn, 1) := by decide +kernel
theorem dL_law_0 : decode cL_law 0 = .ok (.new 7, 3) := by decide +kernel
theorem dL_law_3 : decode cL_law 3 = .ok (.dup, 1) := by decide +kernel
theorem dL_law_4 : decode cL_law 4 = .ok (.invokespecial 9, 3) := by decide +kernel
theorem dL_law_7 : decode cL_law 7 = .ok (.astore_n 1, 1) := by decide +kernel
theorem dL_law_8 : decode cL_law 8 = .ok (.new 10, 3) := by decide +kernel
theorem dL_law_11 : decode cL_law 11 = .ok (.dup, 1) := by decide +kernel
theorem dL_law_12 : decode cL_law 12 = .ok (.invokespecial 12, 3) := by decide +kernel
theorem dL_law_15 : decode cL_law 15 = .ok (.astore_n 2, 1) := by decide +kernel
theorem dL_law_16 : decode cL_law 16 = .ok (.iconst 0, 1) := by decide +kernel
theorem dL_law_17 : decode cL_law 17 = .ok (.istore_n 3, 1) := by decide +kernel
theorem dL_law_18 : decode cL_law 18 = .ok (.iload_n 3, 1) := by decide +kernel
theorem dL_law_19 : decode cL_law 19 = .ok (.aload_n 0, 1) := by decide +kernel
theorem dL_law_20 : decode cL_law 20 = .ok (.arraylength, 1) := by decide +kernel
theorem dL_law_21 : decode cL_law 21 = .ok (.bipush 7, 2) := by decide +kernel
theorem dL_law_23 : decode cL_law 23 = .ok (.isub, 1) := by decide +kernel
theorem dL_law_24 : decode cL_law 24 = .ok (.if_icmp .gt 1370, 3) := by decide +kernel
theorem dL_law_27 : decode cL_law 27 = .ok (.aload_n 0, 1) := by decide +kernel
theorem dL_law_28 : decode cL_law 28 = .ok (.iload_n 3, 1) := by decide +kernel
theorem dL_law_29 : decode cL_law 29 = .ok (.iaload, 1) := by decide +kernel
theorem dL_law_30 : decode cL_law 30 = .ok (.bipush 63, 2) := by decide +kernel
theorem dL_law_32 : decode cL_law 32 = .ok (.iand, 1) := by decide +kernel
theorem dL_law_33 : decode cL_law 33 = .ok (.tableswitch 1355 0 33 #[151, 226, 239, 252, 285, 334, 357, 380, 443, 456, 469, 512, 555, 608, 661, 694, 717, 740, 763, 796, 871, 894, 927, 940, 983, 1016, 1059, 1072, 1135, 1210, 1223, 1246, 1289, 1322], 151) := by decide +kernel
theorem dL_law_184 : decode cL_law 184 = .ok (.aload_n 1, 1) := by decide +kernel
theorem dL_law_185 : decode cL_law 185 = .ok (.aload_n 0, 1) := by decide +kernel
theorem dL_law_186 : decode cL_law 186 = .ok (.iload_n 3, 1) := by decide +kernel
theorem dL_law_187 : decode cL_law 187 = .ok (.iconst 1, 1) := by decide +kernel
theorem dL_law_188 : decode cL_law 188 = .ok (.iadd, 1) := by decide +kernel
theorem dL_law_189 : decode cL_law 189 = .ok (.iaload, 1) := by decide +kernel
theorem dL_law_190 : decode cL_law 190 = .ok (.aload_n 0, 1) := by decide +kernel
theorem dL_law_191 : decode cL_law 191 = .ok (.iload_n 3, 1) := by decide +kernel
theorem dL_law_192 : decode cL_law 192 = .ok (.iconst 2, 1) := by decide +kernel
theorem dL_law_193 : decode cL_law 193 = .ok (.iadd, 1) := by decide +kernel
theorem dL_law_194 : decode cL_law 194 = .ok (.iaload, 1) := by decide +kernel
theorem dL_law_195 : decode cL_law 195 = .ok (.aload_n 0, 1) := by decide +kernel
theorem dL_law_196 : decode cL_law 196 = .ok (.iload_n 3, 1) := by decide +kernel
theorem dL_law_197 : decode cL_law 197 = .ok (.iconst 3, 1) := by decide +kernel
theorem dL_law_198 : decode cL_law 198 = .ok (.iadd, 1) := by decide +kernel
theorem dL_law_199 : decode cL_law 199 = .ok (.iaload, 1) := by decide +kernel
theorem dL_law_200 : decode cL_law 200 = .ok (.aload_n 0, 1) := by decide +kernel
theorem dL_law_201 : decode cL_law 201 = .ok (.iload_n 3, 1) := by decide +kernel
theorem dL_law_202 : decode cL_law 202 = .ok (.iconst 4, 1) := by decide +kernel
theorem dL_law_203 : decode cL_law 203 = .ok (.iadd, 1) := by decide +kernel
theorem dL_law_204 : decode cL_law 204 = .ok (.iaload, 1) := by decide +kernel
theorem dL_law_205 : decode cL_law 205 = .ok (.aload_n 0, 1) := by decide +kernel
theorem dL_law_206 : decode cL_law 206 = .ok (.iload_n 3, 1) := by decide +kernel
theorem dL_law_207 : decode cL_law 207 = .ok (.iconst 5, 1) := by decide +kernel
theorem dL_law_208 : decode cL_law 208 = .ok (.iadd, 1) := by decide +kernel
theorem dL_law_209 : decode cL_law 209 = .ok (.iaload, 1) := by decide +kernel
theorem dL_law_210 : decode cL_law 210 = .ok (.aload_n 0, 1) := by decide +kernel
theorem dL_law_211 : decode cL_law 211 = .ok (.iload_n 3, 1) := by decide +kernel
theorem dL_law_212 : decode cL_law 212 = .ok (.bipush 6, 2) := by decide +kernel
theorem dL_law_214 : decode cL_law 214 = .ok (.iadd, 1) := by decide +kernel
theorem dL_law_215 : decode cL_law 215 = .ok (.iaload, 1) := by decide +kernel
theorem dL_law_216 : decode cL_law 216 = .ok (.invokevirtual 13, 3) := by decide +kernel
theorem dL_law_219 : decode cL_law 219 = .ok (.aload_n 2, 1) := by decide +kernel
theorem dL_law_220 : decode cL_law 220 = .ok (.aload_n 0, 1) := by decide +kernel
theorem dL_law_221 : decode cL_law 221 = .ok (.iload_n 3, 1) := by decide +kernel
theorem dL_law_222 : decode cL_law 222 = .ok (.iconst 1, 1) := by decide +kernel
theorem dL_law_223 : decode cL_law 223 = .ok (.iadd, 1) := by decide +kernel
theorem dL_law_224 : decode cL_law 224 = .ok (.iaload, 1) := by decide +kernel
theorem dL_law_225 : decode cL_law 225 = .ok (.aload_n 0, 1) := by decide +kernel
theorem dL_law_226 : decode cL_law 226 = .ok (.iload_n 3, 1) := by decide +kernel
theorem dL_law_227 : decode cL_law 227 = .ok (.iconst 2, 1) := by decide +kernel
theorem dL_law_228 : decode cL_law 228 = .ok (.iadd, 1) := by decide +kernel
theorem dL_law_229 : decode cL_law 229 = .ok (.iaload, 1) := by decide +kernel
theorem dL_law_230 : decode cL_law 230 = .ok (.aload_n 0, 1) := by decide +kernel
theorem dL_law_231 : decode cL_law 231 = .ok (.iload_n 3, 1) := by decide +kernel
theorem dL_law_232 : decode cL_law 232 = .ok (.iconst 3, 1) := by decide +kernel
theorem dL_law_233 : decode cL_law 233 = .ok (.iadd, 1) := by decide +kernel
theorem dL_law_234 : decode cL_law 234 = .ok (.iaload, 1) := by decide +kernel
theorem dL_law_235 : decode cL_law 235 = .ok (.aload_n 0, 1) := by decide +kernel
theorem dL_law_236 : decode cL_law 236 = .ok (.iload_n 3, 1) := by decide +kernel
theorem dL_law_237 : decode cL_law 237 = .ok (.iconst 4, 1) := by decide +kernel
theorem dL_law_238 : decode cL_law 238 = .ok (.iadd, 1) := by decide +kernel
theorem dL_law_239 : decode cL_law 239 = .ok (.iaload, 1) := by decide +kernel
theorem dL_law_240 : decode cL_law 240 = .ok (.aload_n 0, 1) := by decide +kernel
theorem dL_law_241 : decode cL_law 241 = .ok (.iload_n 3, 1) := by decide +kernel
theorem dL_law_242 : decode cL_law 242 = .ok (.iconst 5, 1) := by decide +kernel
theorem dL_law_243 : decode cL_law 243 = .ok (.iadd, 1) := by decide +kernel
theorem dL_law_244 : decode cL_law 244 = .ok (.iaload, 1) := by decide +kernel
theorem dL_law_245 : decode cL_law 245 = .ok (.aload_n 0, 1) := by decide +kernel
theorem dL_law_246 : decode cL_law 246 = .ok (.iload_n 3, 1) := by decide +kernel
theorem dL_law_247 : decode cL_law 247 = .ok (.bipush 6, 2) := by decide +kernel
theorem dL_law_249 : decode cL_law 249 = .ok (.iadd, 1) := by decide +kernel
theorem dL_law_250 : decode cL_law 250 = .ok (.iaload, 1) := by decide +kernel
theorem dL_law_251 : decode cL_law 251 = .ok (.invokevirtual 17, 3) := by decide +kernel
theorem dL_law_254 : decode cL_law 254 = .ok (.if_icmp .eq 1134, 3) := by decide +kernel
theorem dL_law_257 : decode cL_law 257 = .ok (.iconst 0, 1) := by decide +kernel
theorem dL_law_258 : decode cL_law 258 = .ok (.ireturn, 1) := by decide +kernel
theorem dL_law_259 : decode cL_law 259 = .ok (.aload_n 1, 1) := by decide +kernel
theorem dL_law_260 : decode cL_law 260 = .ok (.invokevirtual 18, 3) := by decide +kernel
theorem dL_law_263 : decode cL_law 263 = .ok (.aload_n 2, 1) := by decide +kernel
theorem dL_law_264 : decode cL_law 264 = .ok (.invokevirtual 22, 3) := by decide +kernel
theorem dL_law_267 : decode cL_law 267 = .ok (.if_icmp .eq 1121, 3) := by decide +kernel
theorem dL_law_270 : decode cL_law 270 = .ok (.iconst 0, 1) := by decide +kernel
theorem dL_law_271 : decode cL_law 271 = .ok (.ireturn, 1) := by decide +kernel
theorem dL_law_272 : decode cL_law 272 = .ok (.aload_n 1, 1) := by decide +kernel
theorem dL_law_273 : decode cL_law 273 = .ok (.invokevirtual 23, 3) := by decide +kernel
theorem dL_law_276 : decode cL_law 276 = .ok (.aload_n 2, 1) := by decide +kernel
theorem dL_law_277 : decode cL_law 277 = .ok (.invokevirtual 26, 3) := by decide +kernel
theorem dL_law_280 : decode cL_law 280 = .ok (.if_icmp .eq 1108, 3) := by decide +kernel
theorem dL_law_283 : decode cL_law 283 = .ok (.iconst 0, 1) := by decide +kernel
theorem dL_law_284 : decode cL_law 284 = .ok (.ireturn, 1) := by decide +kernel
theorem dL_law_285 : decode cL_law 285 = .ok (.aload_n 1, 1) := by decide +kernel
theorem dL_law_286 : decode cL_law 286 = .ok (.aload_n 0, 1) := by decide +kernel
theorem dL_law_287 : decode cL_law 287 = .ok (.iload_n 3, 1) := by decide +kernel
theorem dL_law_288 : decode cL_law 288 = .ok (.iconst 1, 1) := by decide +kernel
theorem dL_law_289 : decode cL_law 289 = .ok (.iadd, 1) := by decide +kernel
theorem dL_law_290 : decode cL_law 290 = .ok (.iaload, 1) := by decide +kernel
theorem dL_law_291 : decode cL_law 291 = .ok (.aload_n 0, 1) := by decide +kernel
theorem dL_law_292 : decode cL_law 292 = .ok (.iload_n 3, 1) := by decide +kernel
theorem dL_law_293 : decode cL_law 293 = .ok (.iconst 2, 1) := by decide +kernel
theorem dL_law_294 : decode cL_law 294 = .ok (.iadd, 1) := by decide +kernel
theorem dL_law_295 : decode cL_law 295 = .ok (.iaload, 1) := by decide +kernel
theorem dL_law_296 : decode cL_law 296 = .ok (.invokevirtual 27, 3) := by decide +kernel
theorem dL_law_299 : decode cL_law 299 = .ok (.aload_n 2, 1) := by decide +kernel
theorem dL_law_300 : decode cL_law 300 = .ok (.aload_n 0, 1) := by decide +kernel
theorem dL_law_301 : decode cL_law 301 = .ok (.iload_n 3, 1) := by decide +kernel
theorem dL_law_302 : decode cL_law 302 = .ok (.iconst 1, 1) := by decide +kernel
theorem dL_law_303 : decode cL_law 303 = .ok (.iadd, 1) := by decide +kernel
theorem dL_law_304 : decode cL_law 304 = .ok (.iaload, 1) := by decide +kernel
theorem dL_law_305 : decode cL_law 305 = .ok (.aload_n 0, 1) := by decide +kernel
theorem dL_law_306 : decode cL_law 306 = .ok (.iload_n 3, 1) := by decide +kernel
theorem dL_law_307 : decode cL_law 307 = .ok (.iconst 2, 1) := by decide +kernel
theorem dL_law_308 : decode cL_law 308 = .ok (.iadd, 1) := by decide +kernel
theorem dL_law_309 : decode cL_law 309 = .ok (.iaload, 1) := by decide +kernel
theorem dL_law_310 : decode cL_law 310 = .ok (.invokevirtual 31, 3) := by decide +kernel
theorem dL_law_313 : decode cL_law 313 = .ok (.if_icmp .eq 1075, 3) := by decide +kernel
theorem dL_law_316 : decode cL_law 316 = .ok (.iconst 0, 1) := by decide +kernel
theorem dL_law_317 : decode cL_law 317 = .ok (.ireturn, 1) := by decide +kernel
theorem dL_law_318 : decode cL_law 318 = .ok (.aload_n 1, 1) := by decide +kernel
theorem dL_law_319 : decode cL_law 319 = .ok (.aload_n 0, 1) := by decide +kernel
theorem dL_law_320 : decode cL_law 320 = .ok (.iload_n 3, 1) := by decide +kernel
theorem dL_law_321 : decode cL_law 321 = .ok (.iconst 1, 1) := by decide +kernel
theorem dL_law_322 : decode cL_law 322 = .ok (.iadd, 1) := by decide +kernel
theorem dL_law_323 : decode cL_law 323 = .ok (.iaload, 1) := by decide +kernel
theorem dL_law_324 : decode cL_law 324 = .ok (.aload_n 0, 1) := by decide +kernel
theorem dL_law_325 : decode cL_law 325 = .ok (.iload_n 3, 1) := by decide +kernel
theorem dL_law_326 : decode cL_law 326 = .ok (.iconst 2, 1) := by decide +kernel
theorem dL_law_327 : decode cL_law 327 = .ok (.iadd, 1) := by decide +kernel
theorem dL_law_328 : decode cL_law 328 = .ok (.iaload, 1) := by decide +kernel
theorem dL_law_329 : decode cL_law 329 = .ok (.ifCond .eq 7, 3) := by decide +kernel
theorem dL_law_332 : decode cL_law 332 = .ok (.iconst 1, 1) := by decide +kernel
theorem dL_law_333 : decode cL_law 333 = .ok (.goto 4, 3) := by decide +kernel
theorem dL_law_336 : decode cL_law 336 = .ok (.iconst 0, 1) := by decide +kernel
theorem dL_law_337 : decode cL_law 337 = .ok (.invokevirtual 32, 3) := by decide +kernel
theorem dL_law_340 : decode cL_law 340 = .ok (.aload_n 2, 1) := by decide +kernel
theorem dL_law_341 : decode cL_law 341 = .ok (.aload_n 0, 1) := by decide +kernel
theorem dL_law_342 : decode cL_law 342 = .ok (.iload_n 3, 1) := by decide +kernel
theorem dL_law_343 : decode cL_law 343 = .ok (.iconst 1, 1) := by decide +kernel
theorem dL_law_344 : decode cL_law 344 = .ok (.iadd, 1) := by decide +kernel
theorem dL_law_345 : decode cL_law 345 = .ok (.iaload, 1) := by decide +kernel
theorem dL_law_346 : decode cL_law 346 = .ok (.aload_n 0, 1) := by decide +kernel
theorem dL_law_347 : decode cL_law 347 = .ok (.iload_n 3, 1) := by decide +kernel
theorem dL_law_348 : decode cL_law 348 = .ok (.iconst 2, 1) := by decide +kernel
theorem dL_law_349 : decode cL_law 349 = .ok (.iadd, 1) := by decide +kernel
theorem dL_law_350 : decode cL_law 350 = .ok (.iaload, 1) := by decide +kernel
theorem dL_law_351 : decode cL_law 351 = .ok (.ifCond .eq 7, 3) := by decide +kernel
theorem dL_law_354 : decode cL_law 354 = .ok (.iconst 1, 1) := by decide +kernel
theorem dL_law_355 : decode cL_law 355 = .ok (.goto 4, 3) := by decide +kernel
theorem dL_law_358 : decode cL_law 358 = .ok (.iconst 0, 1) := by decide +kernel
theorem dL_law_359 : decode cL_law 359 = .ok (.invokevirtual 36, 3) := by decide +kernel
theorem dL_law_362 : decode cL_law 362 = .ok (.if_icmp .eq 1026, 3) := by decide +kernel
theorem dL_law_365 : decode cL_law 365 = .ok (.iconst 0, 1) := by decide +kernel
theorem dL_law_366 : decode cL_law 366 = .ok (.ireturn, 1) := by decide +kernel
theorem dL_law_367 : decode cL_law 367 = .ok (.aload_n 1, 1) := by decide +kernel
theorem dL_law_368 : decode cL_law 368 = .ok (.aload_n 0, 1) := by decide +kernel
theorem dL_law_369 : decode cL_law 369 = .ok (.iload_n 3, 1) := by decide +kernel
theorem dL_law_370 : decode cL_law 370 = .ok (.iconst 1, 1) := by decide +kernel
theorem dL_law_371 : decode cL_law 371 = .ok (.iadd, 1) := by decide +kernel
theorem dL_law_372 : decode cL_law 372 = .ok (.iaload, 1) := by decide +kernel
theorem dL_law_373 : decode cL_law 373 = .ok (.invokevirtual 37, 3) := by decide +kernel
theorem dL_law_376 : decode cL_law 376 = .ok (.aload_n 2, 1) := by decide +kernel
theorem dL_law_377 : decode cL_law 377 = .ok (.aload_n 0, 1) := by decide +kernel
theorem dL_law_378 : decode cL_law 378 = .ok (.iload_n 3, 1) := by decide +kernel
theorem dL_law_379 : decode cL_law 379 = .ok (.iconst 1, 1) := by decide +kernel
theorem dL_law_380 : decode cL_law 380 = .ok (.iadd, 1) := by decide +kernel
theorem dL_law_381 : decode cL_law 381 = .ok (.iaload, 1) := by decide +kernel
theorem dL_law_382 : decode cL_law 382 = .ok (.invokevirtual 41, 3) := by decide +kernel
theorem dL_law_385 : decode cL_law 385 = .ok (.if_icmp .eq 1003, 3) := by decide +kernel
theorem dL_law_388 : decode cL_law 388 = .ok (.iconst 0, 1) := by decide +kernel
theorem dL_law_389 : decode cL_law 389 = .ok (.ireturn, 1) := by decide +kernel
theorem dL_law_390 : decode cL_law 390 = .ok (.aload_n 1, 1) := by decide +kernel
theorem dL_law_391 : decode cL_law 391 = .ok (.aload_n 0, 1) := by decide +kernel
theorem dL_law_392 : decode cL_law 392 = .ok (.iload_n 3, 1) := by decide +kernel
theorem dL_law_393 : decode cL_law 393 = .ok (.iconst 1, 1) := by decide +kernel
theorem dL_law_394 : decode cL_law 394 = .ok (.iadd, 1) := by decide +kernel
theorem dL_law_395 : decode cL_law 395 = .ok (.iaload, 1) := by decide +kernel
theorem dL_law_396 : decode cL_law 396 = .ok (.invokevirtual 42, 3) := by decide +kernel
theorem dL_law_399 : decode cL_law 399 = .ok (.aload_n 2, 1) := by decide +kernel
theorem dL_law_400 : decode cL_law 400 = .ok (.aload_n 0, 1) := by decide +kernel
theorem dL_law_401 : decode cL_law 401 = .ok (.iload_n 3, 1) := by decide +kernel
theorem dL_law_402 : decode cL_law 402 = .ok (.iconst 1, 1) := by decide +kernel
theorem dL_law_403 : decode cL_law 403 = .ok (.iadd, 1) := by decide +kernel
theorem dL_law_404 : decode cL_law 404 = .ok (.iaload, 1) := by decide +kernel
theorem dL_law_405 : decode cL_law 405 = .ok (.invokevirtual 45, 3) := by decide +kernel
theorem dL_law_408 : decode cL_law 408 = .ok (.if_icmp .eq 980, 3) := by decide +kernel
theorem dL_law_411 : decode cL_law 411 = .ok (.iconst 0, 1) := by decide +kernel
theorem dL_law_412 : decode cL_law 412 = .ok (.ireturn, 1) := by decide +kernel
theorem dL_law_413 : decode cL_law 413 = .ok (.aload_n 1, 1) := by decide +kernel
theorem dL_law_414 : decode cL_law 414 = .ok (.aload_n 0, 1) := by decide +kernel
theorem dL_law_415 : decode cL_law 415 = .ok (.iload_n 3, 1) := by decide +kernel
theorem dL_law_416 : decode cL_law 416 = .ok (.iconst 1, 1) := by decide +kernel
theorem dL_law_417 : decode cL_law 417 = .ok (.iadd, 1) := by decide +kernel
theorem dL_law_418 : decode cL_law 418 = .ok (.iaload, 1) := by decide +kernel
theorem dL_law_419 : decode cL_law 419 = .ok (.aload_n 0, 1) := by decide +kernel
theorem dL_law_420 : decode cL_law 420 = .ok (.iload_n 3, 1) := by decide +kernel
theorem dL_law_421 : decode cL_law 421 = .ok (.iconst 2, 1) := by decide +kernel
theorem dL_law_422 : decode cL_law 422 = .ok (.iadd, 1) := by decide +kernel
theorem dL_law_423 : decode cL_law 423 = .ok (.iaload, 1) := by decide +kernel
theorem dL_law_424 : decode cL_law 424 = .ok (.i2l, 1) := by decide +kernel
theorem dL_law_425 : decode cL_law 425 = .ok (.bipush 32, 2) := by decide +kernel
theorem dL_law_427 : decode cL_law 427 = .ok (.lshl, 1) := by decide +kernel
theorem dL_law_428 : decode cL_law 428 = .ok (.aload_n 0, 1) := by decide +kernel
theorem dL_law_429 : decode cL_law 429 = .ok (.iload_n 3, 1) := by decide +kernel
theorem dL_law_430 : decode cL_law 430 = .ok (.iconst 3, 1) := by decide +kernel
theorem dL_law_431 : decode cL_law 431 = .ok (.iadd, 1) := by decide +kernel
theorem dL_law_432 : decode cL_law 432 = .ok (.iaload, 1) := by decide +kernel
theorem dL_law_433 : decode cL_law 433 = .ok (.i2l, 1) := by decide +kernel
theorem dL_law_434 : decode cL_law 434 = .ok (.ldc2_w 46, 3) := by decide +kernel
theorem dL_law_437 : decode cL_law 437 = .ok (.land, 1) := by decide +kernel
theorem dL_law_438 : decode cL_law 438 = .ok (.lor, 1) := by decide +kernel
theorem dL_law_439 : decode cL_law 439 = .ok (.invokevirtual 48, 3) := by decide +kernel
theorem dL_law_442 : decode cL_law 442 = .ok (.aload_n 2, 1) := by decide +kernel
theorem dL_law_443 : decode cL_law 443 = .ok (.aload_n 0, 1) := by decide +kernel
theorem dL_law_444 : decode cL_law 444 = .ok (.iload_n 3, 1) := by decide +kernel
theorem dL_law_445 : decode cL_law 445 = .ok (.iconst 1, 1) := by decide +kernel
theorem dL_law_446 : decode cL_law 446 = .ok (.iadd, 1) := by decide +kernel
theorem dL_law_447 : decode cL_law 447 = .ok (.iaload, 1) := by decide +kernel
theorem dL_law_448 : decode cL_law 448 = .ok (.aload_n 0, 1) := by decide +kernel
theorem dL_law_449 : decode cL_law 449 = .ok (.iload_n 3, 1) := by decide +kernel
theorem dL_law_450 : decode cL_law 450 = .ok (.iconst 2, 1) := by decide +kernel
theorem dL_law_451 : decode cL_law 451 = .ok (.iadd, 1) := by decide +kernel
theorem dL_law_452 : decode cL_law 452 = .ok (.iaload, 1) := by decide +kernel
theorem dL_law_453 : decode cL_law 453 = .ok (.i2l, 1) := by decide +kernel
theorem dL_law_454 : decode cL_law 454 = .ok (.bipush 32, 2) := by decide +kernel
theorem dL_law_456 : decode cL_law 456 = .ok (.lshl, 1) := by decide +kernel
theorem dL_law_457 : decode cL_law 457 = .ok (.aload_n 0, 1) := by decide +kernel
theorem dL_law_458 : decode cL_law 458 = .ok (.iload_n 3, 1) := by decide +kernel
theorem dL_law_459 : decode cL_law 459 = .ok (.iconst 3, 1) := by decide +kernel
theorem dL_law_460 : decode cL_law 460 = .ok (.iadd, 1) := by decide +kernel
theorem dL_law_461 : decode cL_law 461 = .ok (.iaload, 1) := by decide +kernel
theorem dL_law_462 : decode cL_law 462 = .ok (.i2l, 1) := by decide +kernel
theorem dL_law_463 : decode cL_law 463 = .ok (.ldc2_w 46, 3) := by decide +kernel
theorem dL_law_466 : decode cL_law 466 = .ok (.land, 1) := by decide +kernel
theorem dL_law_467 : decode cL_law 467 = .ok (.lor, 1) := by decide +kernel
theorem dL_law_468 : decode cL_law 468 = .ok (.invokevirtual 52, 3) := by decide +kernel
theorem dL_law_471 : decode cL_law 471 = .ok (.if_icmp .eq 917, 3) := by decide +kernel
theorem dL_law_474 : decode cL_law 474 = .ok (.iconst 0, 1) := by decide +kernel
theorem dL_law_475 : decode cL_law 475 = .ok (.ireturn, 1) := by decide +kernel
theorem dL_law_476 : decode cL_law 476 = .ok (.aload_n 1, 1) := by decide +kernel
theorem dL_law_477 : decode cL_law 477 = .ok (.invokevirtual 53, 3) := by decide +kernel
theorem dL_law_480 : decode cL_law 480 = .ok (.aload_n 2, 1) := by decide +kernel
theorem dL_law_481 : decode cL_law 481 = .ok (.invokevirtual 56, 3) := by decide +kernel
theorem dL_law_484 : decode cL_law 484 = .ok (.if_icmp .eq 904, 3) := by decide +kernel
theorem dL_law_487 : decode cL_law 487 = .ok (.iconst 0, 1) := by decide +kernel
theorem dL_law_488 : decode cL_law 488 = .ok (.ireturn, 1) := by decide +kernel
theorem dL_law_489 : decode cL_law 489 = .ok (.aload_n 1, 1) := by decide +kernel
theorem dL_law_490 : decode cL_law 490 = .ok (.invokevirtual 57, 3) := by decide +kernel
theorem dL_law_493 : decode cL_law 493 = .ok (.aload_n 2, 1) := by decide +kernel
theorem dL_law_494 : decode cL_law 494 = .ok (.invokevirtual 60, 3) := by decide +kernel
theorem dL_law_497 : decode cL_law 497 = .ok (.if_icmp .eq 891, 3) := by decide +kernel
theorem dL_law_500 : decode cL_law 500 = .ok (.iconst 0, 1) := by decide +kernel
theorem dL_law_501 : decode cL_law 501 = .ok (.ireturn, 1) := by decide +kernel
theorem dL_law_502 : decode cL_law 502 = .ok (.aload_n 1, 1) := by decide +kernel
theorem dL_law_503 : decode cL_law 503 = .ok (.aload_n 0, 1) := by decide +kernel
theorem dL_law_504 : decode cL_law 504 = .ok (.iload_n 3, 1) := by decide +kernel
theorem dL_law_505 : decode cL_law 505 = .ok (.iconst 1, 1) := by decide +kernel
theorem dL_law_506 : decode cL_law 506 = .ok (.iadd, 1) := by decide +kernel
theorem dL_law_507 : decode cL_law 507 = .ok (.iaload, 1) := by decide +kernel
theorem dL_law_508 : decode cL_law 508 = .ok (.aload_n 0, 1) := by decide +kernel
theorem dL_law_509 : decode cL_law 509 = .ok (.iload_n 3, 1) := by decide +kernel
theorem dL_law_510 : decode cL_law 510 = .ok (.iconst 2, 1) := by decide +kernel
theorem dL_law_511 : decode cL_law 511 = .ok (.iadd, 1) := by decide +kernel
theorem dL_law_512 : decode cL_law 512 = .ok (.iaload, 1) := by decide +kernel
theorem dL_law_513 : decode cL_law 513 = .ok (.aload_n 0, 1) := by decide +kernel
theorem dL_law_514 : decode cL_law 514 = .ok (.iload_n 3, 1) := by decide +kernel
theorem dL_law_515 : decode cL_law 515 = .ok (.iconst 3, 1) := by decide +kernel
theorem dL_law_516 : decode cL_law 516 = .ok (.iadd, 1) := by decide +kernel
theorem dL_law_517 : decode cL_law 517 = .ok (.iaload, 1) := by decide +kernel
theorem dL_law_518 : decode cL_law 518 = .ok (.invokevirtual 61, 3) := by decide +kernel
theorem dL_law_521 : decode cL_law 521 = .ok (.aload_n 2, 1) := by decide +kernel
theorem dL_law_522 : decode cL_law 522 = .ok (.aload_n 0, 1) := by decide +kernel
theorem dL_law_523 : decode cL_law 523 = .ok (.iload_n 3, 1) := by decide +kernel
theorem dL_law_524 : decode cL_law 524 = .ok (.iconst 1, 1) := by decide +kernel
theorem dL_law_525 : decode cL_law 525 = .ok (.iadd, 1) := by decide +kernel
theorem dL_law_526 : decode cL_law 526 = .ok (.iaload, 1) := by decide +kernel
theorem dL_law_527 : decode cL_law 527 = .ok (.aload_n 0, 1) := by decide +kernel
theorem dL_law_528 : decode cL_law 528 = .ok (.iload_n 3, 1) := by decide +kernel
theorem dL_law_529 : decode cL_law 529 = .ok (.iconst 2, 1) := by decide +kernel
theorem dL_law_530 : decode cL_law 530 = .ok (.iadd, 1) := by decide +kernel
theorem dL_law_531 : decode cL_law 531 = .ok (.iaload, 1) := by decide +kernel
theorem dL_law_532 : decode cL_law 532 = .ok (.aload_n 0, 1) := by decide +kernel
theorem dL_law_533 : decode cL_law 533 = .ok (.iload_n 3, 1) := by decide +kernel
theorem dL_law_534 : decode cL_law 534 = .ok (.iconst 3, 1) := by decide +kernel
theorem dL_law_535 : decode cL_law 535 = .ok (.iadd, 1) := by decide +kernel
theorem dL_law_536 : decode cL_law 536 = .ok (.iaload, 1) := by decide +kernel
theorem dL_law_537 : decode cL_law 537 = .ok (.invokevirtual 65, 3) := by decide +kernel
theorem dL_law_540 : decode cL_law 540 = .ok (.if_icmp .eq 848, 3) := by decide +kernel
theorem dL_law_543 : decode cL_law 543 = .ok (.iconst 0, 1) := by decide +kernel
theorem dL_law_544 : decode cL_law 544 = .ok (.ireturn, 1) := by decide +kernel
theorem dL_law_545 : decode cL_law 545 = .ok (.aload_n 1, 1) := by decide +kernel
theorem dL_law_546 : decode cL_law 546 = .ok (.aload_n 0, 1) := by decide +kernel
theorem dL_law_547 : decode cL_law 547 = .ok (.iload_n 3, 1) := by decide +kernel
theorem dL_law_548 : decode cL_law 548 = .ok (.iconst 1, 1) := by decide +kernel
theorem dL_law_549 : decode cL_law 549 = .ok (.iadd, 1) := by decide +kernel
theorem dL_law_550 : decode cL_law 550 = .ok (.iaload, 1) := by decide +kernel
theorem dL_law_551 : decode cL_law 551 = .ok (.aload_n 0, 1) := by decide +kernel
theorem dL_law_552 : decode cL_law 552 = .ok (.iload_n 3, 1) := by decide +kernel
theorem dL_law_553 : decode cL_law 553 = .ok (.iconst 2, 1) := by decide +kernel
theorem dL_law_554 : decode cL_law 554 = .ok (.iadd, 1) := by decide +kernel
theorem dL_law_555 : decode cL_law 555 = .ok (.iaload, 1) := by decide +kernel
theorem dL_law_556 : decode cL_law 556 = .ok (.aload_n 0, 1) := by decide +kernel
theorem dL_law_557 : decode cL_law 557 = .ok (.iload_n 3, 1) := by decide +kernel
theorem dL_law_558 : decode cL_law 558 = .ok (.iconst 3, 1) := by decide +kernel
theorem dL_law_559 : decode cL_law 559 = .ok (.iadd, 1) := by decide +kernel
theorem dL_law_560 : decode cL_law 560 = .ok (.iaload, 1) := by decide +kernel
theorem dL_law_561 : decode cL_law 561 = .ok (.invokevirtual 66, 3) := by decide +kernel
theorem dL_law_564 : decode cL_law 564 = .ok (.aload_n 2, 1) := by decide +kernel
theorem dL_law_565 : decode cL_law 565 = .ok (.aload_n 0, 1) := by decide +kernel
theorem dL_law_566 : decode cL_law 566 = .ok (.iload_n 3, 1) := by decide +kernel
theorem dL_law_567 : decode cL_law 567 = .ok (.iconst 1, 1) := by decide +kernel
theorem dL_law_568 : decode cL_law 568 = .ok (.iadd, 1) := by decide +kernel
theorem dL_law_569 : decode cL_law 569 = .ok (.iaload, 1) := by decide +kernel
theorem dL_law_570 : decode cL_law 570 = .ok (.aload_n 0, 1) := by decide +kernel
theorem dL_law_571 : decode cL_law 571 = .ok (.iload_n 3, 1) := by decide +kernel
theorem dL_law_572 : decode cL_law 572 = .ok (.iconst 2, 1) := by decide +kernel
theorem dL_law_573 : decode cL_law 573 = .ok (.iadd, 1) := by decide +kernel
theorem dL_law_574 : decode cL_law 574 = .ok (.iaload, 1) := by decide +kernel
theorem dL_law_575 : decode cL_law 575 = .ok (.aload_n 0, 1) := by decide +kernel
theorem dL_law_576 : decode cL_law 576 = .ok (.iload_n 3, 1) := by decide +kernel
theorem dL_law_577 : decode cL_law 577 = .ok (.iconst 3, 1) := by decide +kernel
theorem dL_law_578 : decode cL_law 578 = .ok (.iadd, 1) := by decide +kernel
theorem dL_law_579 : decode cL_law 579 = .ok (.iaload, 1) := by decide +kernel
theorem dL_law_580 : decode cL_law 580 = .ok (.invokevirtual 69, 3) := by decide +kernel
theorem dL_law_583 : decode cL_law 583 = .ok (.if_icmp .eq 805, 3) := by decide +kernel
theorem dL_law_586 : decode cL_law 586 = .ok (.iconst 0, 1) := by decide +kernel
theorem dL_law_587 : decode cL_law 587 = .ok (.ireturn, 1) := by decide +kernel
theorem dL_law_588 : decode cL_law 588 = .ok (.aload_n 1, 1) := by decide +kernel
theorem dL_law_589 : decode cL_law 589 = .ok (.aload_n 0, 1) := by decide +kernel
theorem dL_law_590 : decode cL_law 590 = .ok (.iload_n 3, 1) := by decide +kernel
theorem dL_law_591 : decode cL_law 591 = .ok (.iconst 1, 1) := by decide +kernel
theorem dL_law_592 : decode cL_law 592 = .ok (.iadd, 1) := by decide +kernel
theorem dL_law_593 : decode cL_law 593 = .ok (.iaload, 1) := by decide +kernel
theorem dL_law_594 : decode cL_law 594 = .ok (.aload_n 0, 1) := by decide +kernel
theorem dL_law_595 : decode cL_law 595 = .ok (.iload_n 3, 1) := by decide +kernel
theorem dL_law_596 : decode cL_law 596 = .ok (.iconst 2, 1) := by decide +kernel
theorem dL_law_597 : decode cL_law 597 = .ok (.iadd, 1) := by decide +kernel
theorem dL_law_598 : decode cL_law 598 = .ok (.iaload, 1) := by decide +kernel
theorem dL_law_599 : decode cL_law 599 = .ok (.aload_n 0, 1) := by decide +kernel
theorem dL_law_600 : decode cL_law 600 = .ok (.iload_n 3, 1) := by decide +kernel
theorem dL_law_601 : decode cL_law 601 = .ok (.iconst 3, 1) := by decide +kernel
theorem dL_law_602 : decode cL_law 602 = .ok (.iadd, 1) := by decide +kernel
theorem dL_law_603 : decode cL_law 603 = .ok (.iaload, 1) := by decide +kernel
theorem dL_law_604 : decode cL_law 604 = .ok (.aload_n 0, 1) := by decide +kernel
theorem dL_law_605 : decode cL_law 605 = .ok (.iload_n 3, 1) := by decide +kernel
theorem dL_law_606 : decode cL_law 606 = .ok (.iconst 4, 1) := by decide +kernel
theorem dL_law_607 : decode cL_law 607 = .ok (.iadd, 1) := by decide +kernel
theorem dL_law_608 : decode cL_law 608 = .ok (.iaload, 1) := by decide +kernel
theorem dL_law_609 : decode cL_law 609 = .ok (.invokevirtual 70, 3) := by decide +kernel
theorem dL_law_612 : decode cL_law 612 = .ok (.aload_n 2, 1) := by decide +kernel
theorem dL_law_613 : decode cL_law 613 = .ok (.aload_n 0, 1) := by decide +kernel
theorem dL_law_614 : decode cL_law 614 = .ok (.iload_n 3, 1) := by decide +kernel
theorem dL_law_615 : decode cL_law 615 = .ok (.iconst 1, 1) := by decide +kernel
theorem dL_law_616 : decode cL_law 616 = .ok (.iadd, 1) := by decide +kernel
theorem dL_law_617 : decode cL_law 617 = .ok (.iaload, 1) := by decide +kernel
theorem dL_law_618 : decode cL_law 618 = .ok (.aload_n 0, 1) := by decide +kernel
theorem dL_law_619 : decode cL_law 619 = .ok (.iload_n 3, 1) := by decide +kernel
theorem dL_law_620 : decode cL_law 620 = .ok (.iconst 2, 1) := by decide +kernel
theorem dL_law_621 : decode cL_law 621 = .ok (.iadd, 1) := by decide +kernel
theorem dL_law_622 : decode cL_law 622 = .ok (.iaload, 1) := by decide +kernel
theorem dL_law_623 : decode cL_law 623 = .ok (.aload_n 0, 1) := by decide +kernel
theorem dL_law_624 : decode cL_law 624 = .ok (.iload_n 3, 1) := by decide +kernel
theorem dL_law_625 : decode cL_law 625 = .ok (.iconst 3, 1) := by decide +kernel
theorem dL_law_626 : decode cL_law 626 = .ok (.iadd, 1) := by decide +kernel
theorem dL_law_627 : decode cL_law 627 = .ok (.iaload, 1) := by decide +kernel
theorem dL_law_628 : decode cL_law 628 = .ok (.aload_n 0, 1) := by decide +kernel
theorem dL_law_629 : decode cL_law 629 = .ok (.iload_n 3, 1) := by decide +kernel
theorem dL_law_630 : decode cL_law 630 = .ok (.iconst 4, 1) := by decide +kernel
theorem dL_law_631 : decode cL_law 631 = .ok (.iadd, 1) := by decide +kernel
theorem dL_law_632 : decode cL_law 632 = .ok (.iaload, 1) := by decide +kernel
theorem dL_law_633 : decode cL_law 633 = .ok (.invokevirtual 74, 3) := by decide +kernel
theorem dL_law_636 : decode cL_law 636 = .ok (.if_icmp .eq 752, 3) := by decide +kernel
theorem dL_law_639 : decode cL_law 639 = .ok (.iconst 0, 1) := by decide +kernel
theorem dL_law_640 : decode cL_law 640 = .ok (.ireturn, 1) := by decide +kernel
theorem dL_law_641 : decode cL_law 641 = .ok (.aload_n 1, 1) := by decide +kernel
theorem dL_law_642 : decode cL_law 642 = .ok (.aload_n 0, 1) := by decide +kernel
theorem dL_law_643 : decode cL_law 643 = .ok (.iload_n 3, 1) := by decide +kernel
theorem dL_law_644 : decode cL_law 644 = .ok (.iconst 1, 1) := by decide +kernel
theorem dL_law_645 : decode cL_law 645 = .ok (.iadd, 1) := by decide +kernel
theorem dL_law_646 : decode cL_law 646 = .ok (.iaload, 1) := by decide +kernel
theorem dL_law_647 : decode cL_law 647 = .ok (.aload_n 0, 1) := by decide +kernel
theorem dL_law_648 : decode cL_law 648 = .ok (.iload_n 3, 1) := by decide +kernel
theorem dL_law_649 : decode cL_law 649 = .ok (.iconst 2, 1) := by decide +kernel
theorem dL_law_650 : decode cL_law 650 = .ok (.iadd, 1) := by decide +kernel
theorem dL_law_651 : decode cL_law 651 = .ok (.iaload, 1) := by decide +kernel
theorem dL_law_652 : decode cL_law 652 = .ok (.aload_n 0, 1) := by decide +kernel
theorem dL_law_653 : decode cL_law 653 = .ok (.iload_n 3, 1) := by decide +kernel
theorem dL_law_654 : decode cL_law 654 = .ok (.iconst 3, 1) := by decide +kernel
theorem dL_law_655 : decode cL_law 655 = .ok (.iadd, 1) := by decide +kernel
theorem dL_law_656 : decode cL_law 656 = .ok (.iaload, 1) := by decide +kernel
theorem dL_law_657 : decode cL_law 657 = .ok (.aload_n 0, 1) := by decide +kernel
theorem dL_law_658 : decode cL_law 658 = .ok (.iload_n 3, 1) := by decide +kernel
theorem dL_law_659 : decode cL_law 659 = .ok (.iconst 4, 1) := by decide +kernel
theorem dL_law_660 : decode cL_law 660 = .ok (.iadd, 1) := by decide +kernel
theorem dL_law_661 : decode cL_law 661 = .ok (.iaload, 1) := by decide +kernel
theorem dL_law_662 : decode cL_law 662 = .ok (.invokevirtual 75, 3) := by decide +kernel
theorem dL_law_665 : decode cL_law 665 = .ok (.aload_n 2, 1) := by decide +kernel
theorem dL_law_666 : decode cL_law 666 = .ok (.aload_n 0, 1) := by decide +kernel
theorem dL_law_667 : decode cL_law 667 = .ok (.iload_n 3, 1) := by decide +kernel
theorem dL_law_668 : decode cL_law 668 = .ok (.iconst 1, 1) := by decide +kernel
theorem dL_law_669 : decode cL_law 669 = .ok (.iadd, 1) := by decide +kernel
theorem dL_law_670 : decode cL_law 670 = .ok (.iaload, 1) := by decide +kernel
theorem dL_law_671 : decode cL_law 671 = .ok (.aload_n 0, 1) := by decide +kernel
theorem dL_law_672 : decode cL_law 672 = .ok (.iload_n 3, 1) := by decide +kernel
theorem dL_law_673 : decode cL_law 673 = .ok (.iconst 2, 1) := by decide +kernel
theorem dL_law_674 : decode cL_law 674 = .ok (.iadd, 1) := by decide +kernel
theorem dL_law_675 : decode cL_law 675 = .ok (.iaload, 1) := by decide +kernel
theorem dL_law_676 : decode cL_law 676 = .ok (.aload_n 0, 1) := by decide +kernel
theorem dL_law_677 : decode cL_law 677 = .ok (.iload_n 3, 1) := by decide +kernel
theorem dL_law_678 : decode cL_law 678 = .ok (.iconst 3, 1) := by decide +kernel
theorem dL_law_679 : decode cL_law 679 = .ok (.iadd, 1) := by decide +kernel
theorem dL_law_680 : decode cL_law 680 = .ok (.iaload, 1) := by decide +kernel
theorem dL_law_681 : decode cL_law 681 = .ok (.aload_n 0, 1) := by decide +kernel
theorem dL_law_682 : decode cL_law 682 = .ok (.iload_n 3, 1) := by decide +kernel
theorem dL_law_683 : decode cL_law 683 = .ok (.iconst 4, 1) := by decide +kernel
theorem dL_law_684 : decode cL_law 684 = .ok (.iadd, 1) := by decide +kernel
theorem dL_law_685 : decode cL_law 685 = .ok (.iaload, 1) := by decide +kernel
theorem dL_law_686 : decode cL_law 686 = .ok (.invokevirtual 78, 3) := by decide +kernel
theorem dL_law_689 : decode cL_law 689 = .ok (.if_icmp .eq 699, 3) := by decide +kernel
theorem dL_law_692 : decode cL_law 692 = .ok (.iconst 0, 1) := by decide +kernel
theorem dL_law_693 : decode cL_law 693 = .ok (.ireturn, 1) := by decide +kernel
theorem dL_law_694 : decode cL_law 694 = .ok (.aload_n 1, 1) := by decide +kernel
theorem dL_law_695 : decode cL_law 695 = .ok (.aload_n 0, 1) := by decide +kernel
theorem dL_law_696 : decode cL_law 696 = .ok (.iload_n 3, 1) := by decide +kernel
theorem dL_law_697 : decode cL_law 697 = .ok (.iconst 1, 1) := by decide +kernel
theorem dL_law_698 : decode cL_law 698 = .ok (.iadd, 1) := by decide +kernel
theorem dL_law_699 : decode cL_law 699 = .ok (.iaload, 1) := by decide +kernel
theorem dL_law_700 : decode cL_law 700 = .ok (.aload_n 0, 1) := by decide +kernel
theorem dL_law_701 : decode cL_law 701 = .ok (.iload_n 3, 1) := by decide +kernel
theorem dL_law_702 : decode cL_law 702 = .ok (.iconst 2, 1) := by decide +kernel
theorem dL_law_703 : decode cL_law 703 = .ok (.iadd, 1) := by decide +kernel
theorem dL_law_704 : decode cL_law 704 = .ok (.iaload, 1) := by decide +kernel
theorem dL_law_705 : decode cL_law 705 = .ok (.invokevirtual 79, 3) := by decide +kernel
theorem dL_law_708 : decode cL_law 708 = .ok (.aload_n 2, 1) := by decide +kernel
theorem dL_law_709 : decode cL_law 709 = .ok (.aload_n 0, 1) := by decide +kernel
theorem dL_law_710 : decode cL_law 710 = .ok (.iload_n 3, 1) := by decide +kernel
theorem dL_law_711 : decode cL_law 711 = .ok (.iconst 1, 1) := by decide +kernel
theorem dL_law_712 : decode cL_law 712 = .ok (.iadd, 1) := by decide +kernel
theorem dL_law_713 : decode cL_law 713 = .ok (.iaload, 1) := by decide +kernel
theorem dL_law_714 : decode cL_law 714 = .ok (.aload_n 0, 1) := by decide +kernel
theorem dL_law_715 : decode cL_law 715 = .ok (.iload_n 3, 1) := by decide +kernel
theorem dL_law_716 : decode cL_law 716 = .ok (.iconst 2, 1) := by decide +kernel
theorem dL_law_717 : decode cL_law 717 = .ok (.iadd, 1) := by decide +kernel
theorem dL_law_718 : decode cL_law 718 = .ok (.iaload, 1) := by decide +kernel
theorem dL_law_719 : decode cL_law 719 = .ok (.invokevirtual 82, 3) := by decide +kernel
theorem dL_law_722 : decode cL_law 722 = .ok (.if_icmp .eq 666, 3) := by decide +kernel
theorem dL_law_725 : decode cL_law 725 = .ok (.iconst 0, 1) := by decide +kernel
theorem dL_law_726 : decode cL_law 726 = .ok (.ireturn, 1) := by decide +kernel
theorem dL_law_727 : decode cL_law 727 = .ok (.aload_n 1, 1) := by decide +kernel
theorem dL_law_728 : decode cL_law 728 = .ok (.aload_n 0, 1) := by decide +kernel
theorem dL_law_729 : decode cL_law 729 = .ok (.iload_n 3, 1) := by decide +kernel
theorem dL_law_730 : decode cL_law 730 = .ok (.iconst 1, 1) := by decide +kernel
theorem dL_law_731 : decode cL_law 731 = .ok (.iadd, 1) := by decide +kernel
theorem dL_law_732 : decode cL_law 732 = .ok (.iaload, 1) := by decide +kernel
theorem dL_law_733 : decode cL_law 733 = .ok (.invokevirtual 83, 3) := by decide +kernel
theorem dL_law_736 : decode cL_law 736 = .ok (.aload_n 2, 1) := by decide +kernel
theorem dL_law_737 : decode cL_law 737 = .ok (.aload_n 0, 1) := by decide +kernel
theorem dL_law_738 : decode cL_law 738 = .ok (.iload_n 3, 1) := by decide +kernel
theorem dL_law_739 : decode cL_law 739 = .ok (.iconst 1, 1) := by decide +kernel
theorem dL_law_740 : decode cL_law 740 = .ok (.iadd, 1) := by decide +kernel
theorem dL_law_741 : decode cL_law 741 = .ok (.iaload, 1) := by decide +kernel
theorem dL_law_742 : decode cL_law 742 = .ok (.invokevirtual 86, 3) := by decide +kernel
theorem dL_law_745 : decode cL_law 745 = .ok (.if_icmp .eq 643, 3) := by decide +kernel
theorem dL_law_748 : decode cL_law 748 = .ok (.iconst 0, 1) := by decide +kernel
theorem dL_law_749 : decode cL_law 749 = .ok (.ireturn, 1) := by decide +kernel
theorem dL_law_750 : decode cL_law 750 = .ok (.aload_n 1, 1) := by decide +kernel
theorem dL_law_751 : decode cL_law 751 = .ok (.aload_n 0, 1) := by decide +kernel
theorem dL_law_752 : decode cL_law 752 = .ok (.iload_n 3, 1) := by decide +kernel
theorem dL_law_753 : decode cL_law 753 = .ok (.iconst 1, 1) := by decide +kernel
theorem dL_law_754 : decode cL_law 754 = .ok (.iadd, 1) := by decide +kernel
theorem dL_law_755 : decode cL_law 755 = .ok (.iaload, 1) := by decide +kernel
theorem dL_law_756 : decode cL_law 756 = .ok (.invokevirtual 87, 3) := by decide +kernel
theorem dL_law_759 : decode cL_law 759 = .ok (.aload_n 2, 1) := by decide +kernel
theorem dL_law_760 : decode cL_law 760 = .ok (.aload_n 0, 1) := by decide +kernel
theorem dL_law_761 : decode cL_law 761 = .ok (.iload_n 3, 1) := by decide +kernel
theorem dL_law_762 : decode cL_law 762 = .ok (.iconst 1, 1) := by decide +kernel
theorem dL_law_763 : decode cL_law 763 = .ok (.iadd, 1) := by decide +kernel
theorem dL_law_764 : decode cL_law 764 = .ok (.iaload, 1) := by decide +kernel
theorem dL_law_765 : decode cL_law 765 = .ok (.invokevirtual 90, 3) := by decide +kernel
theorem dL_law_768 : decode cL_law 768 = .ok (.if_icmp .eq 620, 3) := by decide +kernel
theorem dL_law_771 : decode cL_law 771 = .ok (.iconst 0, 1) := by decide +kernel
theorem dL_law_772 : decode cL_law 772 = .ok (.ireturn, 1) := by decide +kernel
theorem dL_law_773 : decode cL_law 773 = .ok (.aload_n 1, 1) := by decide +kernel
theorem dL_law_774 : decode cL_law 774 = .ok (.aload_n 0, 1) := by decide +kernel
theorem dL_law_775 : decode cL_law 775 = .ok (.iload_n 3, 1) := by decide +kernel
theorem dL_law_776 : decode cL_law 776 = .ok (.iconst 1, 1) := by decide +kernel
theorem dL_law_777 : decode cL_law 777 = .ok (.iadd, 1) := by decide +kernel
theorem dL_law_778 : decode cL_law 778 = .ok (.iaload, 1) := by decide +kernel
theorem dL_law_779 : decode cL_law 779 = .ok (.invokevirtual 91, 3) := by decide +kernel
theorem dL_law_782 : decode cL_law 782 = .ok (.aload_n 2, 1) := by decide +kernel
theorem dL_law_783 : decode cL_law 783 = .ok (.aload_n 0, 1) := by decide +kernel
theorem dL_law_784 : decode cL_law 784 = .ok (.iload_n 3, 1) := by decide +kernel
theorem dL_law_785 : decode cL_law 785 = .ok (.iconst 1, 1) := by decide +kernel
theorem dL_law_786 : decode cL_law 786 = .ok (.iadd, 1) := by decide +kernel
theorem dL_law_787 : decode cL_law 787 = .ok (.iaload, 1) := by decide +kernel
theorem dL_law_788 : decode cL_law 788 = .ok (.invokevirtual 94, 3) := by decide +kernel
theorem dL_law_791 : decode cL_law 791 = .ok (.if_icmp .eq 597, 3) := by decide +kernel
theorem dL_law_794 : decode cL_law 794 = .ok (.iconst 0, 1) := by decide +kernel
theorem dL_law_795 : decode cL_law 795 = .ok (.ireturn, 1) := by decide +kernel
theorem dL_law_796 : decode cL_law 796 = .ok (.aload_n 1, 1) := by decide +kernel
theorem dL_law_797 : decode cL_law 797 = .ok (.aload_n 0, 1) := by decide +kernel
theorem dL_law_798 : decode cL_law 798 = .ok (.iload_n 3, 1) := by decide +kernel
theorem dL_law_799 : decode cL_law 799 = .ok (.iconst 1, 1) := by decide +kernel
theorem dL_law_800 : decode cL_law 800 = .ok (.iadd, 1) := by decide +kernel
theorem dL_law_801 : decode cL_law 801 = .ok (.iaload, 1) := by decide +kernel
theorem dL_law_802 : decode cL_law 802 = .ok (.aload_n 0, 1) := by decide +kernel
theorem dL_law_803 : decode cL_law 803 = .ok (.iload_n 3, 1) := by decide +kernel
theorem dL_law_804 : decode cL_law 804 = .ok (.iconst 2, 1) := by decide +kernel
theorem dL_law_805 : decode cL_law 805 = .ok (.iadd, 1) := by decide +kernel
theorem dL_law_806 : decode cL_law 806 = .ok (.iaload, 1) := by decide +kernel
theorem dL_law_807 : decode cL_law 807 = .ok (.invokevirtual 95, 3) := by decide +kernel
theorem dL_law_810 : decode cL_law 810 = .ok (.aload_n 2, 1) := by decide +kernel
theorem dL_law_811 : decode cL_law 811 = .ok (.aload_n 0, 1) := by decide +kernel
theorem dL_law_812 : decode cL_law 812 = .ok (.iload_n 3, 1) := by decide +kernel
theorem dL_law_813 : decode cL_law 813 = .ok (.iconst 1, 1) := by decide +kernel
theorem dL_law_814 : decode cL_law 814 = .ok (.iadd, 1) := by decide +kernel
theorem dL_law_815 : decode cL_law 815 = .ok (.iaload, 1) := by decide +kernel
theorem dL_law_816 : decode cL_law 816 = .ok (.aload_n 0, 1) := by decide +kernel
theorem dL_law_817 : decode cL_law 817 = .ok (.iload_n 3, 1) := by decide +kernel
theorem dL_law_818 : decode cL_law 818 = .ok (.iconst 2, 1) := by decide +kernel
theorem dL_law_819 : decode cL_law 819 = .ok (.iadd, 1) := by decide +kernel
theorem dL_law_820 : decode cL_law 820 = .ok (.iaload, 1) := by decide +kernel
theorem dL_law_821 : decode cL_law 821 = .ok (.invokevirtual 98, 3) := by decide +kernel
theorem dL_law_824 : decode cL_law 824 = .ok (.if_icmp .eq 564, 3) := by decide +kernel
theorem dL_law_827 : decode cL_law 827 = .ok (.iconst 0, 1) := by decide +kernel
theorem dL_law_828 : decode cL_law 828 = .ok (.ireturn, 1) := by decide +kernel
theorem dL_law_829 : decode cL_law 829 = .ok (.aload_n 1, 1) := by decide +kernel
theorem dL_law_830 : decode cL_law 830 = .ok (.aload_n 0, 1) := by decide +kernel
theorem dL_law_831 : decode cL_law 831 = .ok (.iload_n 3, 1) := by decide +kernel
theorem dL_law_832 : decode cL_law 832 = .ok (.iconst 1, 1) := by decide +kernel
theorem dL_law_833 : decode cL_law 833 = .ok (.iadd, 1) := by decide +kernel
theorem dL_law_834 : decode cL_law 834 = .ok (.iaload, 1) := by decide +kernel
theorem dL_law_835 : decode cL_law 835 = .ok (.aload_n 0, 1) := by decide +kernel
theorem dL_law_836 : decode cL_law 836 = .ok (.iload_n 3, 1) := by decide +kernel
theorem dL_law_837 : decode cL_law 837 = .ok (.iconst 2, 1) := by decide +kernel
theorem dL_law_838 : decode cL_law 838 = .ok (.iadd, 1) := by decide +kernel
theorem dL_law_839 : decode cL_law 839 = .ok (.iaload, 1) := by decide +kernel
theorem dL_law_840 : decode cL_law 840 = .ok (.aload_n 0, 1) := by decide +kernel
theorem dL_law_841 : decode cL_law 841 = .ok (.iload_n 3, 1) := by decide +kernel
theorem dL_law_842 : decode cL_law 842 = .ok (.iconst 3, 1) := by decide +kernel
theorem dL_law_843 : decode cL_law 843 = .ok (.iadd, 1) := by decide +kernel
theorem dL_law_844 : decode cL_law 844 = .ok (.iaload, 1) := by decide +kernel
theorem dL_law_845 : decode cL_law 845 = .ok (.aload_n 0, 1) := by decide +kernel
theorem dL_law_846 : decode cL_law 846 = .ok (.iload_n 3, 1) := by decide +kernel
theorem dL_law_847 : decode cL_law 847 = .ok (.iconst 4, 1) := by decide +kernel
theorem dL_law_848 : decode cL_law 848 = .ok (.iadd, 1) := by decide +kernel
theorem dL_law_849 : decode cL_law 849 = .ok (.iaload, 1) := by decide +kernel
theorem dL_law_850 : decode cL_law 850 = .ok (.aload_n 0, 1) := by decide +kernel
theorem dL_law_851 : decode cL_law 851 = .ok (.iload_n 3, 1) := by decide +kernel
theorem dL_law_852 : decode cL_law 852 = .ok (.iconst 5, 1) := by decide +kernel
theorem dL_law_853 : decode cL_law 853 = .ok (.iadd, 1) := by decide +kernel
theorem dL_law_854 : decode cL_law 854 = .ok (.iaload, 1) := by decide +kernel
theorem dL_law_855 : decode cL_law 855 = .ok (.aload_n 0, 1) := by decide +kernel
theorem dL_law_856 : decode cL_law 856 = .ok (.iload_n 3, 1) := by decide +kernel
theorem dL_law_857 : decode cL_law 857 = .ok (.bipush 6, 2) := by decide +kernel
theorem dL_law_859 : decode cL_law 859 = .ok (.iadd, 1) := by decide +kernel
theorem dL_law_860 : decode cL_law 860 = .ok (.iaload, 1) := by decide +kernel
theorem dL_law_861 : decode cL_law 861 = .ok (.invokevirtual 99, 3) := by decide +kernel
theorem dL_law_864 : decode cL_law 864 = .ok (.aload_n 2, 1) := by decide +kernel
theorem dL_law_865 : decode cL_law 865 = .ok (.aload_n 0, 1) := by decide +kernel
theorem dL_law_866 : decode cL_law 866 = .ok (.iload_n 3, 1) := by decide +kernel
theorem dL_law_867 : decode cL_law 867 = .ok (.iconst 1, 1) := by decide +kernel
theorem dL_law_868 : decode cL_law 868 = .ok (.iadd, 1) := by decide +kernel
theorem dL_law_869 : decode cL_law 869 = .ok (.iaload, 1) := by decide +kernel
theorem dL_law_870 : decode cL_law 870 = .ok (.aload_n 0, 1) := by decide +kernel
theorem dL_law_871 : decode cL_law 871 = .ok (.iload_n 3, 1) := by decide +kernel
theorem dL_law_872 : decode cL_law 872 = .ok (.iconst 2, 1) := by decide +kernel
theorem dL_law_873 : decode cL_law 873 = .ok (.iadd, 1) := by decide +kernel
theorem dL_law_874 : decode cL_law 874 = .ok (.iaload, 1) := by decide +kernel
theorem dL_law_875 : decode cL_law 875 = .ok (.aload_n 0, 1) := by decide +kernel
theorem dL_law_876 : decode cL_law 876 = .ok (.iload_n 3, 1) := by decide +kernel
theorem dL_law_877 : decode cL_law 877 = .ok (.iconst 3, 1) := by decide +kernel
theorem dL_law_878 : decode cL_law 878 = .ok (.iadd, 1) := by decide +kernel
theorem dL_law_879 : decode cL_law 879 = .ok (.iaload, 1) := by decide +kernel
theorem dL_law_880 : decode cL_law 880 = .ok (.aload_n 0, 1) := by decide +kernel
theorem dL_law_881 : decode cL_law 881 = .ok (.iload_n 3, 1) := by decide +kernel
theorem dL_law_882 : decode cL_law 882 = .ok (.iconst 4, 1) := by decide +kernel
theorem dL_law_883 : decode cL_law 883 = .ok (.iadd, 1) := by decide +kernel
theorem dL_law_884 : decode cL_law 884 = .ok (.iaload, 1) := by decide +kernel
theorem dL_law_885 : decode cL_law 885 = .ok (.aload_n 0, 1) := by decide +kernel
theorem dL_law_886 : decode cL_law 886 = .ok (.iload_n 3, 1) := by decide +kernel
theorem dL_law_887 : decode cL_law 887 = .ok (.iconst 5, 1) := by decide +kernel
theorem dL_law_888 : decode cL_law 888 = .ok (.iadd, 1) := by decide +kernel
theorem dL_law_889 : decode cL_law 889 = .ok (.iaload, 1) := by decide +kernel
theorem dL_law_890 : decode cL_law 890 = .ok (.aload_n 0, 1) := by decide +kernel
theorem dL_law_891 : decode cL_law 891 = .ok (.iload_n 3, 1) := by decide +kernel
theorem dL_law_892 : decode cL_law 892 = .ok (.bipush 6, 2) := by decide +kernel
theorem dL_law_894 : decode cL_law 894 = .ok (.iadd, 1) := by decide +kernel
theorem dL_law_895 : decode cL_law 895 = .ok (.iaload, 1) := by decide +kernel
theorem dL_law_896 : decode cL_law 896 = .ok (.invokevirtual 102, 3) := by decide +kernel
theorem dL_law_899 : decode cL_law 899 = .ok (.if_icmp .eq 489, 3) := by decide +kernel
theorem dL_law_902 : decode cL_law 902 = .ok (.iconst 0, 1) := by decide +kernel
theorem dL_law_903 : decode cL_law 903 = .ok (.ireturn, 1) := by decide +kernel
theorem dL_law_904 : decode cL_law 904 = .ok (.aload_n 1, 1) := by decide +kernel
theorem dL_law_905 : decode cL_law 905 = .ok (.aload_n 0, 1) := by decide +kernel
theorem dL_law_906 : decode cL_law 906 = .ok (.iload_n 3, 1) := by decide +kernel
theorem dL_law_907 : decode cL_law 907 = .ok (.iconst 1, 1) := by decide +kernel
theorem dL_law_908 : decode cL_law 908 = .ok (.iadd, 1) := by decide +kernel
theorem dL_law_909 : decode cL_law 909 = .ok (.iaload, 1) := by decide +kernel
theorem dL_law_910 : decode cL_law 910 = .ok (.invokevirtual 103, 3) := by decide +kernel
theorem dL_law_913 : decode cL_law 913 = .ok (.aload_n 2, 1) := by decide +kernel
theorem dL_law_914 : decode cL_law 914 = .ok (.aload_n 0, 1) := by decide +kernel
theorem dL_law_915 : decode cL_law 915 = .ok (.iload_n 3, 1) := by decide +kernel
theorem dL_law_916 : decode cL_law 916 = .ok (.iconst 1, 1) := by decide +kernel
theorem dL_law_917 : decode cL_law 917 = .ok (.iadd, 1) := by decide +kernel
theorem dL_law_918 : decode cL_law 918 = .ok (.iaload, 1) := by decide +kernel
theorem dL_law_919 : decode cL_law 919 = .ok (.invokevirtual 106, 3) := by decide +kernel
theorem dL_law_922 : decode cL_law 922 = .ok (.if_icmp .eq 466, 3) := by decide +kernel
theorem dL_law_925 : decode cL_law 925 = .ok (.iconst 0, 1) := by decide +kernel
theorem dL_law_926 : decode cL_law 926 = .ok (.ireturn, 1) := by decide +kernel
theorem dL_law_927 : decode cL_law 927 = .ok (.aload_n 1, 1) := by decide +kernel
theorem dL_law_928 : decode cL_law 928 = .ok (.aload_n 0, 1) := by decide +kernel
theorem dL_law_929 : decode cL_law 929 = .ok (.iload_n 3, 1) := by decide +kernel
theorem dL_law_930 : decode cL_law 930 = .ok (.iconst 1, 1) := by decide +kernel
theorem dL_law_931 : decode cL_law 931 = .ok (.iadd, 1) := by decide +kernel
theorem dL_law_932 : decode cL_law 932 = .ok (.iaload, 1) := by decide +kernel
theorem dL_law_933 : decode cL_law 933 = .ok (.aload_n 0, 1) := by decide +kernel
theorem dL_law_934 : decode cL_law 934 = .ok (.iload_n 3, 1) := by decide +kernel
theorem dL_law_935 : decode cL_law 935 = .ok (.iconst 2, 1) := by decide +kernel
theorem dL_law_936 : decode cL_law 936 = .ok (.iadd, 1) := by decide +kernel
theorem dL_law_937 : decode cL_law 937 = .ok (.iaload, 1) := by decide +kernel
theorem dL_law_938 : decode cL_law 938 = .ok (.invokevirtual 107, 3) := by decide +kernel
theorem dL_law_941 : decode cL_law 941 = .ok (.aload_n 2, 1) := by decide +kernel
theorem dL_law_942 : decode cL_law 942 = .ok (.aload_n 0, 1) := by decide +kernel
theorem dL_law_943 : decode cL_law 943 = .ok (.iload_n 3, 1) := by decide +kernel
theorem dL_law_944 : decode cL_law 944 = .ok (.iconst 1, 1) := by decide +kernel
theorem dL_law_945 : decode cL_law 945 = .ok (.iadd, 1) := by decide +kernel
theorem dL_law_946 : decode cL_law 946 = .ok (.iaload, 1) := by decide +kernel
theorem dL_law_947 : decode cL_law 947 = .ok (.aload_n 0, 1) := by decide +kernel
theorem dL_law_948 : decode cL_law 948 = .ok (.iload_n 3, 1) := by decide +kernel
theorem dL_law_949 : decode cL_law 949 = .ok (.iconst 2, 1) := by decide +kernel
theorem dL_law_950 : decode cL_law 950 = .ok (.iadd, 1) := by decide +kernel
theorem dL_law_951 : decode cL_law 951 = .ok (.iaload, 1) := by decide +kernel
theorem dL_law_952 : decode cL_law 952 = .ok (.invokevirtual 110, 3) := by decide +kernel
theorem dL_law_955 : decode cL_law 955 = .ok (.if_icmp .eq 433, 3) := by decide +kernel
theorem dL_law_958 : decode cL_law 958 = .ok (.iconst 0, 1) := by decide +kernel
theorem dL_law_959 : decode cL_law 959 = .ok (.ireturn, 1) := by decide +kernel
theorem dL_law_960 : decode cL_law 960 = .ok (.aload_n 1, 1) := by decide +kernel
theorem dL_law_961 : decode cL_law 961 = .ok (.invokevirtual 111, 3) := by decide +kernel
theorem dL_law_964 : decode cL_law 964 = .ok (.aload_n 2, 1) := by decide +kernel
theorem dL_law_965 : decode cL_law 965 = .ok (.invokevirtual 114, 3) := by decide +kernel
theorem dL_law_968 : decode cL_law 968 = .ok (.if_icmp .eq 420, 3) := by decide +kernel
theorem dL_law_971 : decode cL_law 971 = .ok (.iconst 0, 1) := by decide +kernel
theorem dL_law_972 : decode cL_law 972 = .ok (.ireturn, 1) := by decide +kernel
theorem dL_law_973 : decode cL_law 973 = .ok (.aload_n 1, 1) := by decide +kernel
theorem dL_law_974 : decode cL_law 974 = .ok (.aload_n 0, 1) := by decide +kernel
theorem dL_law_975 : decode cL_law 975 = .ok (.iload_n 3, 1) := by decide +kernel
theorem dL_law_976 : decode cL_law 976 = .ok (.iconst 1, 1) := by decide +kernel
theorem dL_law_977 : decode cL_law 977 = .ok (.iadd, 1) := by decide +kernel
theorem dL_law_978 : decode cL_law 978 = .ok (.iaload, 1) := by decide +kernel
theorem dL_law_979 : decode cL_law 979 = .ok (.aload_n 0, 1) := by decide +kernel
theorem dL_law_980 : decode cL_law 980 = .ok (.iload_n 3, 1) := by decide +kernel
theorem dL_law_981 : decode cL_law 981 = .ok (.iconst 2, 1) := by decide +kernel
theorem dL_law_982 : decode cL_law 982 = .ok (.iadd, 1) := by decide +kernel
theorem dL_law_983 : decode cL_law 983 = .ok (.iaload, 1) := by decide +kernel
theorem dL_law_984 : decode cL_law 984 = .ok (.aload_n 0, 1) := by decide +kernel
theorem dL_law_985 : decode cL_law 985 = .ok (.iload_n 3, 1) := by decide +kernel
theorem dL_law_986 : decode cL_law 986 = .ok (.iconst 3, 1) := by decide +kernel
theorem dL_law_987 : decode cL_law 987 = .ok (.iadd, 1) := by decide +kernel
theorem dL_law_988 : decode cL_law 988 = .ok (.iaload, 1) := by decide +kernel
theorem dL_law_989 : decode cL_law 989 = .ok (.invokevirtual 115, 3) := by decide +kernel
theorem dL_law_992 : decode cL_law 992 = .ok (.aload_n 2, 1) := by decide +kernel
theorem dL_law_993 : decode cL_law 993 = .ok (.aload_n 0, 1) := by decide +kernel
theorem dL_law_994 : decode cL_law 994 = .ok (.iload_n 3, 1) := by decide +kernel
theorem dL_law_995 : decode cL_law 995 = .ok (.iconst 1, 1) := by decide +kernel
theorem dL_law_996 : decode cL_law 996 = .ok (.iadd, 1) := by decide +kernel
theorem dL_law_997 : decode cL_law 997 = .ok (.iaload, 1) := by decide +kernel
theorem dL_law_998 : decode cL_law 998 = .ok (.aload_n 0, 1) := by decide +kernel
theorem dL_law_999 : decode cL_law 999 = .ok (.iload_n 3, 1) := by decide +kernel
theorem dL_law_1000 : decode cL_law 1000 = .ok (.iconst 2, 1) := by decide +kernel
theorem dL_law_1001 : decode cL_law 1001 = .ok (.iadd, 1) := by decide +kernel
theorem dL_law_1002 : decode cL_law 1002 = .ok (.iaload, 1) := by decide +kernel
theorem dL_law_1003 : decode cL_law 1003 = .ok (.aload_n 0, 1) := by decide +kernel
theorem dL_law_1004 : decode cL_law 1004 = .ok (.iload_n 3, 1) := by decide +kernel
theorem dL_law_1005 : decode cL_law 1005 = .ok (.iconst 3, 1) := by decide +kernel
theorem dL_law_1006 : decode cL_law 1006 = .ok (.iadd, 1) := by decide +kernel
theorem dL_law_1007 : decode cL_law 1007 = .ok (.iaload, 1) := by decide +kernel
theorem dL_law_1008 : decode cL_law 1008 = .ok (.invokevirtual 118, 3) := by decide +kernel
theorem dL_law_1011 : decode cL_law 1011 = .ok (.if_icmp .eq 377, 3) := by decide +kernel
theorem dL_law_1014 : decode cL_law 1014 = .ok (.iconst 0, 1) := by decide +kernel
theorem dL_law_1015 : decode cL_law 1015 = .ok (.ireturn, 1) := by decide +kernel
theorem dL_law_1016 : decode cL_law 1016 = .ok (.aload_n 1, 1) := by decide +kernel
theorem dL_law_1017 : decode cL_law 1017 = .ok (.aload_n 0, 1) := by decide +kernel
theorem dL_law_1018 : decode cL_law 1018 = .ok (.iload_n 3, 1) := by decide +kernel
theorem dL_law_1019 : decode cL_law 1019 = .ok (.iconst 1, 1) := by decide +kernel
theorem dL_law_1020 : decode cL_law 1020 = .ok (.iadd, 1) := by decide +kernel
theorem dL_law_1021 : decode cL_law 1021 = .ok (.iaload, 1) := by decide +kernel
theorem dL_law_1022 : decode cL_law 1022 = .ok (.aload_n 0, 1) := by decide +kernel
theorem dL_law_1023 : decode cL_law 1023 = .ok (.iload_n 3, 1) := by decide +kernel
theorem dL_law_1024 : decode cL_law 1024 = .ok (.iconst 2, 1) := by decide +kernel
theorem dL_law_1025 : decode cL_law 1025 = .ok (.iadd, 1) := by decide +kernel
theorem dL_law_1026 : decode cL_law 1026 = .ok (.iaload, 1) := by decide +kernel
theorem dL_law_1027 : decode cL_law 1027 = .ok (.invokevirtual 119, 3) := by decide +kernel
theorem dL_law_1030 : decode cL_law 1030 = .ok (.aload_n 2, 1) := by decide +kernel
theorem dL_law_1031 : decode cL_law 1031 = .ok (.aload_n 0, 1) := by decide +kernel
theorem dL_law_1032 : decode cL_law 1032 = .ok (.iload_n 3, 1) := by decide +kernel
theorem dL_law_1033 : decode cL_law 1033 = .ok (.iconst 1, 1) := by decide +kernel
theorem dL_law_1034 : decode cL_law 1034 = .ok (.iadd, 1) := by decide +kernel
theorem dL_law_1035 : decode cL_law 1035 = .ok (.iaload, 1) := by decide +kernel
theorem dL_law_1036 : decode cL_law 1036 = .ok (.aload_n 0, 1) := by decide +kernel
theorem dL_law_1037 : decode cL_law 1037 = .ok (.iload_n 3, 1) := by decide +kernel
theorem dL_law_1038 : decode cL_law 1038 = .ok (.iconst 2, 1) := by decide +kernel
theorem dL_law_1039 : decode cL_law 1039 = .ok (.iadd, 1) := by decide +kernel
theorem dL_law_1040 : decode cL_law 1040 = .ok (.iaload, 1) := by decide +kernel
theorem dL_law_1041 : decode cL_law 1041 = .ok (.invokevirtual 122, 3) := by decide +kernel
theorem dL_law_1044 : decode cL_law 1044 = .ok (.if_icmp .eq 344, 3) := by decide +kernel
theorem dL_law_1047 : decode cL_law 1047 = .ok (.iconst 0, 1) := by decide +kernel
theorem dL_law_1048 : decode cL_law 1048 = .ok (.ireturn, 1) := by decide +kernel
theorem dL_law_1049 : decode cL_law 1049 = .ok (.aload_n 1, 1) := by decide +kernel
theorem dL_law_1050 : decode cL_law 1050 = .ok (.aload_n 0, 1) := by decide +kernel
theorem dL_law_1051 : decode cL_law 1051 = .ok (.iload_n 3, 1) := by decide +kernel
theorem dL_law_1052 : decode cL_law 1052 = .ok (.iconst 1, 1) := by decide +kernel
theorem dL_law_1053 : decode cL_law 1053 = .ok (.iadd, 1) := by decide +kernel
theorem dL_law_1054 : decode cL_law 1054 = .ok (.iaload, 1) := by decide +kernel
theorem dL_law_1055 : decode cL_law 1055 = .ok (.aload_n 0, 1) := by decide +kernel
theorem dL_law_1056 : decode cL_law 1056 = .ok (.iload_n 3, 1) := by decide +kernel
theorem dL_law_1057 : decode cL_law 1057 = .ok (.iconst 2, 1) := by decide +kernel
theorem dL_law_1058 : decode cL_law 1058 = .ok (.iadd, 1) := by decide +kernel
theorem dL_law_1059 : decode cL_law 1059 = .ok (.iaload, 1) := by decide +kernel
theorem dL_law_1060 : decode cL_law 1060 = .ok (.aload_n 0, 1) := by decide +kernel
theorem dL_law_1061 : decode cL_law 1061 = .ok (.iload_n 3, 1) := by decide +kernel
theorem dL_law_1062 : decode cL_law 1062 = .ok (.iconst 3, 1) := by decide +kernel
theorem dL_law_1063 : decode cL_law 1063 = .ok (.iadd, 1) := by decide +kernel
theorem dL_law_1064 : decode cL_law 1064 = .ok (.iaload, 1) := by decide +kernel
theorem dL_law_1065 : decode cL_law 1065 = .ok (.invokevirtual 123, 3) := by decide +kernel
theorem dL_law_1068 : decode cL_law 1068 = .ok (.aload_n 2, 1) := by decide +kernel
theorem dL_law_1069 : decode cL_law 1069 = .ok (.aload_n 0, 1) := by decide +kernel
theorem dL_law_1070 : decode cL_law 1070 = .ok (.iload_n 3, 1) := by decide +kernel
theorem dL_law_1071 : decode cL_law 1071 = .ok (.iconst 1, 1) := by decide +kernel
theorem dL_law_1072 : decode cL_law 1072 = .ok (.iadd, 1) := by decide +kernel
theorem dL_law_1073 : decode cL_law 1073 = .ok (.iaload, 1) := by decide +kernel
theorem dL_law_1074 : decode cL_law 1074 = .ok (.aload_n 0, 1) := by decide +kernel
theorem dL_law_1075 : decode cL_law 1075 = .ok (.iload_n 3, 1) := by decide +kernel
theorem dL_law_1076 : decode cL_law 1076 = .ok (.iconst 2, 1) := by decide +kernel
theorem dL_law_1077 : decode cL_law 1077 = .ok (.iadd, 1) := by decide +kernel
theorem dL_law_1078 : decode cL_law 1078 = .ok (.iaload, 1) := by decide +kernel
theorem dL_law_1079 : decode cL_law 1079 = .ok (.aload_n 0, 1) := by decide +kernel
theorem dL_law_1080 : decode cL_law 1080 = .ok (.iload_n 3, 1) := by decide +kernel
theorem dL_law_1081 : decode cL_law 1081 = .ok (.iconst 3, 1) := by decide +kernel
theorem dL_law_1082 : decode cL_law 1082 = .ok (.iadd, 1) := by decide +kernel
theorem dL_law_1083 : decode cL_law 1083 = .ok (.iaload, 1) := by decide +kernel
theorem dL_law_1084 : decode cL_law 1084 = .ok (.invokevirtual 126, 3) := by decide +kernel
theorem dL_law_1087 : decode cL_law 1087 = .ok (.if_icmp .eq 301, 3) := by decide +kernel
theorem dL_law_1090 : decode cL_law 1090 = .ok (.iconst 0, 1) := by decide +kernel
theorem dL_law_1091 : decode cL_law 1091 = .ok (.ireturn, 1) := by decide +kernel
theorem dL_law_1092 : decode cL_law 1092 = .ok (.aload_n 1, 1) := by decide +kernel
theorem dL_law_1093 : decode cL_law 1093 = .ok (.invokevirtual 127, 3) := by decide +kernel
theorem dL_law_1096 : decode cL_law 1096 = .ok (.aload_n 2, 1) := by decide +kernel
theorem dL_law_1097 : decode cL_law 1097 = .ok (.invokevirtual 130, 3) := by decide +kernel
theorem dL_law_1100 : decode cL_law 1100 = .ok (.if_icmp .eq 288, 3) := by decide +kernel
theorem dL_law_1103 : decode cL_law 1103 = .ok (.iconst 0, 1) := by decide +kernel
theorem dL_law_1104 : decode cL_law 1104 = .ok (.ireturn, 1) := by decide +kernel
theorem dL_law_1105 : decode cL_law 1105 = .ok (.aload_n 1, 1) := by decide +kernel
theorem dL_law_1106 : decode cL_law 1106 = .ok (.aload_n 0, 1) := by decide +kernel
theorem dL_law_1107 : decode cL_law 1107 = .ok (.iload_n 3, 1) := by decide +kernel
theorem dL_law_1108 : decode cL_law 1108 = .ok (.iconst 1, 1) := by decide +kernel
theorem dL_law_1109 : decode cL_law 1109 = .ok (.iadd, 1) := by decide +kernel
theorem dL_law_1110 : decode cL_law 1110 = .ok (.iaload, 1) := by decide +kernel
theorem dL_law_1111 : decode cL_law 1111 = .ok (.aload_n 0, 1) := by decide +kernel
theorem dL_law_1112 : decode cL_law 1112 = .ok (.iload_n 3, 1) := by decide +kernel
theorem dL_law_1113 : decode cL_law 1113 = .ok (.iconst 2, 1) := by decide +kernel
theorem dL_law_1114 : decode cL_law 1114 = .ok (.iadd, 1) := by decide +kernel
theorem dL_law_1115 : decode cL_law 1115 = .ok (.iaload, 1) := by decide +kernel
theorem dL_law_1116 : decode cL_law 1116 = .ok (.aload_n 0, 1) := by decide +kernel
theorem dL_law_1117 : decode cL_law 1117 = .ok (.iload_n 3, 1) := by decide +kernel
theorem dL_law_1118 : decode cL_law 1118 = .ok (.iconst 3, 1) := by decide +kernel
theorem dL_law_1119 : decode cL_law 1119 = .ok (.iadd, 1) := by decide +kernel
theorem dL_law_1120 : decode cL_law 1120 = .ok (.iaload, 1) := by decide +kernel
theorem dL_law_1121 : decode cL_law 1121 = .ok (.aload_n 0, 1) := by decide +kernel
theorem dL_law_1122 : decode cL_law 1122 = .ok (.iload_n 3, 1) := by decide +kernel
theorem dL_law_1123 : decode cL_law 1123 = .ok (.iconst 4, 1) := by decide +kernel
theorem dL_law_1124 : decode cL_law 1124 = .ok (.iadd, 1) := by decide +kernel
theorem dL_law_1125 : decode cL_law 1125 = .ok (.iaload, 1) := by decide +kernel
theorem dL_law_1126 : decode cL_law 1126 = .ok (.aload_n 0, 1) := by decide +kernel
theorem dL_law_1127 : decode cL_law 1127 = .ok (.iload_n 3, 1) := by decide +kernel
theorem dL_law_1128 : decode cL_law 1128 = .ok (.iconst 5, 1) := by decide +kernel
theorem dL_law_1129 : decode cL_law 1129 = .ok (.iadd, 1) := by decide +kernel
theorem dL_law_1130 : decode cL_law 1130 = .ok (.iaload, 1) := by decide +kernel
theorem dL_law_1131 : decode cL_law 1131 = .ok (.invokevirtual 131, 3) := by decide +kernel
theorem dL_law_1134 : decode cL_law 1134 = .ok (.aload_n 2, 1) := by decide +kernel
theorem dL_law_1135 : decode cL_law 1135 = .ok (.aload_n 0, 1) := by decide +kernel
theorem dL_law_1136 : decode cL_law 1136 = .ok (.iload_n 3, 1) := by decide +kernel
theorem dL_law_1137 : decode cL_law 1137 = .ok (.iconst 1, 1) := by decide +kernel
theorem dL_law_1138 : decode cL_law 1138 = .ok (.iadd, 1) := by decide +kernel
theorem dL_law_1139 : decode cL_law 1139 = .ok (.iaload, 1) := by decide +kernel
theorem dL_law_1140 : decode cL_law 1140 = .ok (.aload_n 0, 1) := by decide +kernel
theorem dL_law_1141 : decode cL_law 1141 = .ok (.iload_n 3, 1) := by decide +kernel
theorem dL_law_1142 : decode cL_law 1142 = .ok (.iconst 2, 1) := by decide +kernel
theorem dL_law_1143 : decode cL_law 1143 = .ok (.iadd, 1) := by decide +kernel
theorem dL_law_1144 : decode cL_law 1144 = .ok (.iaload, 1) := by decide +kernel
theorem dL_law_1145 : decode cL_law 1145 = .ok (.aload_n 0, 1) := by decide +kernel
theorem dL_law_1146 : decode cL_law 1146 = .ok (.iload_n 3, 1) := by decide +kernel
theorem dL_law_1147 : decode cL_law 1147 = .ok (.iconst 3, 1) := by decide +kernel
theorem dL_law_1148 : decode cL_law 1148 = .ok (.iadd, 1) := by decide +kernel
theorem dL_law_1149 : decode cL_law 1149 = .ok (.iaload, 1) := by decide +kernel
theorem dL_law_1150 : decode cL_law 1150 = .ok (.aload_n 0, 1) := by decide +kernel
theorem dL_law_1151 : decode cL_law 1151 = .ok (.iload_n 3, 1) := by decide +kernel
theorem dL_law_1152 : decode cL_law 1152 = .ok (.iconst 4, 1) := by decide +kernel
theorem dL_law_1153 : decode cL_law 1153 = .ok (.iadd, 1) := by decide +kernel
theorem dL_law_1154 : decode cL_law 1154 = .ok (.iaload, 1) := by decide +kernel
theorem dL_law_1155 : decode cL_law 1155 = .ok (.aload_n 0, 1) := by decide +kernel
theorem dL_law_1156 : decode cL_law 1156 = .ok (.iload_n 3, 1) := by decide +kernel
theorem dL_law_1157 : decode cL_law 1157 = .ok (.iconst 5, 1) := by decide +kernel
theorem dL_law_1158 : decode cL_law 1158 = .ok (.iadd, 1) := by decide +kernel
theorem dL_law_1159 : decode cL_law 1159 = .ok (.iaload, 1) := by decide +kernel
theorem dL_law_1160 : decode cL_law 1160 = .ok (.invokevirtual 135, 3) := by decide +kernel
theorem dL_law_1163 : decode cL_law 1163 = .ok (.if_icmp .eq 225, 3) := by decide +kernel
theorem dL_law_1166 : decode cL_law 1166 = .ok (.iconst 0, 1) := by decide +kernel
theorem dL_law_1167 : decode cL_law 1167 = .ok (.ireturn, 1) := by decide +kernel
theorem dL_law_1168 : decode cL_law 1168 = .ok (.aload_n 1, 1) := by decide +kernel
theorem dL_law_1169 : decode cL_law 1169 = .ok (.aload_n 0, 1) := by decide +kernel
theorem dL_law_1170 : decode cL_law 1170 = .ok (.iload_n 3, 1) := by decide +kernel
theorem dL_law_1171 : decode cL_law 1171 = .ok (.iconst 1, 1) := by decide +kernel
theorem dL_law_1172 : decode cL_law 1172 = .ok (.iadd, 1) := by decide +kernel
theorem dL_law_1173 : decode cL_law 1173 = .ok (.iaload, 1) := by decide +kernel
theorem dL_law_1174 : decode cL_law 1174 = .ok (.aload_n 0, 1) := by decide +kernel
theorem dL_law_1175 : decode cL_law 1175 = .ok (.iload_n 3, 1) := by decide +kernel
theorem dL_law_1176 : decode cL_law 1176 = .ok (.iconst 2, 1) := by decide +kernel
theorem dL_law_1177 : decode cL_law 1177 = .ok (.iadd, 1) := by decide +kernel
theorem dL_law_1178 : decode cL_law 1178 = .ok (.iaload, 1) := by decide +kernel
theorem dL_law_1179 : decode cL_law 1179 = .ok (.aload_n 0, 1) := by decide +kernel
theorem dL_law_1180 : decode cL_law 1180 = .ok (.iload_n 3, 1) := by decide +kernel
theorem dL_law_1181 : decode cL_law 1181 = .ok (.iconst 3, 1) := by decide +kernel
theorem dL_law_1182 : decode cL_law 1182 = .ok (.iadd, 1) := by decide +kernel
theorem dL_law_1183 : decode cL_law 1183 = .ok (.iaload, 1) := by decide +kernel
theorem dL_law_1184 : decode cL_law 1184 = .ok (.aload_n 0, 1) := by decide +kernel
theorem dL_law_1185 : decode cL_law 1185 = .ok (.iload_n 3, 1) := by decide +kernel
theorem dL_law_1186 : decode cL_law 1186 = .ok (.iconst 4, 1) := by decide +kernel
theorem dL_law_1187 : decode cL_law 1187 = .ok (.iadd, 1) := by decide +kernel
theorem dL_law_1188 : decode cL_law 1188 = .ok (.iaload, 1) := by decide +kernel
theorem dL_law_1189 : decode cL_law 1189 = .ok (.aload_n 0, 1) := by decide +kernel
theorem dL_law_1190 : decode cL_law 1190 = .ok (.iload_n 3, 1) := by decide +kernel
theorem dL_law_1191 : decode cL_law 1191 = .ok (.iconst 5, 1) := by decide +kernel
theorem dL_law_1192 : decode cL_law 1192 = .ok (.iadd, 1) := by decide +kernel
theorem dL_law_1193 : decode cL_law 1193 = .ok (.iaload, 1) := by decide +kernel
theorem dL_law_1194 : decode cL_law 1194 = .ok (.aload_n 0, 1) := by decide +kernel
theorem dL_law_1195 : decode cL_law 1195 = .ok (.iload_n 3, 1) := by decide +kernel
theorem dL_law_1196 : decode cL_law 1196 = .ok (.bipush 6, 2) := by decide +kernel
theorem dL_law_1198 : decode cL_law 1198 = .ok (.iadd, 1) := by decide +kernel
theorem dL_law_1199 : decode cL_law 1199 = .ok (.iaload, 1) := by decide +kernel
theorem dL_law_1200 : decode cL_law 1200 = .ok (.invokevirtual 136, 3) := by decide +kernel
theorem dL_law_1203 : decode cL_law 1203 = .ok (.aload_n 2, 1) := by decide +kernel
theorem dL_law_1204 : decode cL_law 1204 = .ok (.aload_n 0, 1) := by decide +kernel
theorem dL_law_1205 : decode cL_law 1205 = .ok (.iload_n 3, 1) := by decide +kernel
theorem dL_law_1206 : decode cL_law 1206 = .ok (.iconst 1, 1) := by decide +kernel
theorem dL_law_1207 : decode cL_law 1207 = .ok (.iadd, 1) := by decide +kernel
theorem dL_law_1208 : decode cL_law 1208 = .ok (.iaload, 1) := by decide +kernel
theorem dL_law_1209 : decode cL_law 1209 = .ok (.aload_n 0, 1) := by decide +kernel
theorem dL_law_1210 : decode cL_law 1210 = .ok (.iload_n 3, 1) := by decide +kernel
theorem dL_law_1211 : decode cL_law 1211 = .ok (.iconst 2, 1) := by decide +kernel
theorem dL_law_1212 : decode cL_law 1212 = .ok (.iadd, 1) := by decide +kernel
theorem dL_law_1213 : decode cL_law 1213 = .ok (.iaload, 1) := by decide +kernel
theorem dL_law_1214 : decode cL_law 1214 = .ok (.aload_n 0, 1) := by decide +kernel
theorem dL_law_1215 : decode cL_law 1215 = .ok (.iload_n 3, 1) := by decide +kernel
theorem dL_law_1216 : decode cL_law 1216 = .ok (.iconst 3, 1) := by decide +kernel
theorem dL_law_1217 : decode cL_law 1217 = .ok (.iadd, 1) := by decide +kernel
theorem dL_law_1218 : decode cL_law 1218 = .ok (.iaload, 1) := by decide +kernel
theorem dL_law_1219 : decode cL_law 1219 = .ok (.aload_n 0, 1) := by decide +kernel
theorem dL_law_1220 : decode cL_law 1220 = .ok (.iload_n 3, 1) := by decide +kernel
theorem dL_law_1221 : decode cL_law 1221 = .ok (.iconst 4, 1) := by decide +kernel
theorem dL_law_1222 : decode cL_law 1222 = .ok (.iadd, 1) := by decide +kernel
theorem dL_law_1223 : decode cL_law 1223 = .ok (.iaload, 1) := by decide +kernel
theorem dL_law_1224 : decode cL_law 1224 = .ok (.aload_n 0, 1) := by decide +kernel
theorem dL_law_1225 : decode cL_law 1225 = .ok (.iload_n 3, 1) := by decide +kernel
theorem dL_law_1226 : decode cL_law 1226 = .ok (.iconst 5, 1) := by decide +kernel
theorem dL_law_1227 : decode cL_law 1227 = .ok (.iadd, 1) := by decide +kernel
theorem dL_law_1228 : decode cL_law 1228 = .ok (.iaload, 1) := by decide +kernel
theorem dL_law_1229 : decode cL_law 1229 = .ok (.aload_n 0, 1) := by decide +kernel
theorem dL_law_1230 : decode cL_law 1230 = .ok (.iload_n 3, 1) := by decide +kernel
theorem dL_law_1231 : decode cL_law 1231 = .ok (.bipush 6, 2) := by decide +kernel
theorem dL_law_1233 : decode cL_law 1233 = .ok (.iadd, 1) := by decide +kernel
theorem dL_law_1234 : decode cL_law 1234 = .ok (.iaload, 1) := by decide +kernel
theorem dL_law_1235 : decode cL_law 1235 = .ok (.invokevirtual 139, 3) := by decide +kernel
theorem dL_law_1238 : decode cL_law 1238 = .ok (.if_icmp .eq 150, 3) := by decide +kernel
theorem dL_law_1241 : decode cL_law 1241 = .ok (.iconst 0, 1) := by decide +kernel
theorem dL_law_1242 : decode cL_law 1242 = .ok (.ireturn, 1) := by decide +kernel
theorem dL_law_1243 : decode cL_law 1243 = .ok (.aload_n 1, 1) := by decide +kernel
theorem dL_law_1244 : decode cL_law 1244 = .ok (.invokevirtual 140, 3) := by decide +kernel
theorem dL_law_1247 : decode cL_law 1247 = .ok (.aload_n 2, 1) := by decide +kernel
theorem dL_law_1248 : decode cL_law 1248 = .ok (.invokevirtual 143, 3) := by decide +kernel
theorem dL_law_1251 : decode cL_law 1251 = .ok (.if_icmp .eq 137, 3) := by decide +kernel
theorem dL_law_1254 : decode cL_law 1254 = .ok (.iconst 0, 1) := by decide +kernel
theorem dL_law_1255 : decode cL_law 1255 = .ok (.ireturn, 1) := by decide +kernel
theorem dL_law_1256 : decode cL_law 1256 = .ok (.aload_n 1, 1) := by decide +kernel
theorem dL_law_1257 : decode cL_law 1257 = .ok (.aload_n 0, 1) := by decide +kernel
theorem dL_law_1258 : decode cL_law 1258 = .ok (.iload_n 3, 1) := by decide +kernel
theorem dL_law_1259 : decode cL_law 1259 = .ok (.iconst 1, 1) := by decide +kernel
theorem dL_law_1260 : decode cL_law 1260 = .ok (.iadd, 1) := by decide +kernel
theorem dL_law_1261 : decode cL_law 1261 = .ok (.iaload, 1) := by decide +kernel
theorem dL_law_1262 : decode cL_law 1262 = .ok (.invokevirtual 144, 3) := by decide +kernel
theorem dL_law_1265 : decode cL_law 1265 = .ok (.aload_n 2, 1) := by decide +kernel
theorem dL_law_1266 : decode cL_law 1266 = .ok (.aload_n 0, 1) := by decide +kernel
theorem dL_law_1267 : decode cL_law 1267 = .ok (.iload_n 3, 1) := by decide +kernel
theorem dL_law_1268 : decode cL_law 1268 = .ok (.iconst 1, 1) := by decide +kernel
theorem dL_law_1269 : decode cL_law 1269 = .ok (.iadd, 1) := by decide +kernel
theorem dL_law_1270 : decode cL_law 1270 = .ok (.iaload, 1) := by decide +kernel
theorem dL_law_1271 : decode cL_law 1271 = .ok (.invokevirtual 147, 3) := by decide +kernel
theorem dL_law_1274 : decode cL_law 1274 = .ok (.if_icmp .eq 114, 3) := by decide +kernel
theorem dL_law_1277 : decode cL_law 1277 = .ok (.iconst 0, 1) := by decide +kernel
theorem dL_law_1278 : decode cL_law 1278 = .ok (.ireturn, 1) := by decide +kernel
theorem dL_law_1279 : decode cL_law 1279 = .ok (.aload_n 1, 1) := by decide +kernel
theorem dL_law_1280 : decode cL_law 1280 = .ok (.aload_n 0, 1) := by decide +kernel
theorem dL_law_1281 : decode cL_law 1281 = .ok (.iload_n 3, 1) := by decide +kernel
theorem dL_law_1282 : decode cL_law 1282 = .ok (.iconst 1, 1) := by decide +kernel
theorem dL_law_1283 : decode cL_law 1283 = .ok (.iadd, 1) := by decide +kernel
theorem dL_law_1284 : decode cL_law 1284 = .ok (.iaload, 1) := by decide +kernel
theorem dL_law_1285 : decode cL_law 1285 = .ok (.aload_n 0, 1) := by decide +kernel
theorem dL_law_1286 : decode cL_law 1286 = .ok (.iload_n 3, 1) := by decide +kernel
theorem dL_law_1287 : decode cL_law 1287 = .ok (.iconst 2, 1) := by decide +kernel
theorem dL_law_1288 : decode cL_law 1288 = .ok (.iadd, 1) := by decide +kernel
theorem dL_law_1289 : decode cL_law 1289 = .ok (.iaload, 1) := by decide +kernel
theorem dL_law_1290 : decode cL_law 1290 = .ok (.aload_n 0, 1) := by decide +kernel
theorem dL_law_1291 : decode cL_law 1291 = .ok (.iload_n 3, 1) := by decide +kernel
theorem dL_law_1292 : decode cL_law 1292 = .ok (.iconst 3, 1) := by decide +kernel
theorem dL_law_1293 : decode cL_law 1293 = .ok (.iadd, 1) := by decide +kernel
theorem dL_law_1294 : decode cL_law 1294 = .ok (.iaload, 1) := by decide +kernel
theorem dL_law_1295 : decode cL_law 1295 = .ok (.invokevirtual 148, 3) := by decide +kernel
theorem dL_law_1298 : decode cL_law 1298 = .ok (.aload_n 2, 1) := by decide +kernel
theorem dL_law_1299 : decode cL_law 1299 = .ok (.aload_n 0, 1) := by decide +kernel
theorem dL_law_1300 : decode cL_law 1300 = .ok (.iload_n 3, 1) := by decide +kernel
theorem dL_law_1301 : decode cL_law 1301 = .ok (.iconst 1, 1) := by decide +kernel
theorem dL_law_1302 : decode cL_law 1302 = .ok (.iadd, 1) := by decide +kernel
theorem dL_law_1303 : decode cL_law 1303 = .ok (.iaload, 1) := by decide +kernel
theorem dL_law_1304 : decode cL_law 1304 = .ok (.aload_n 0, 1) := by decide +kernel
theorem dL_law_1305 : decode cL_law 1305 = .ok (.iload_n 3, 1) := by decide +kernel
theorem dL_law_1306 : decode cL_law 1306 = .ok (.iconst 2, 1) := by decide +kernel
theorem dL_law_1307 : decode cL_law 1307 = .ok (.iadd, 1) := by decide +kernel
theorem dL_law_1308 : decode cL_law 1308 = .ok (.iaload, 1) := by decide +kernel
theorem dL_law_1309 : decode cL_law 1309 = .ok (.aload_n 0, 1) := by decide +kernel
theorem dL_law_1310 : decode cL_law 1310 = .ok (.iload_n 3, 1) := by decide +kernel
theorem dL_law_1311 : decode cL_law 1311 = .ok (.iconst 3, 1) := by decide +kernel
theorem dL_law_1312 : decode cL_law 1312 = .ok (.iadd, 1) := by decide +kernel
theorem dL_law_1313 : decode cL_law 1313 = .ok (.iaload, 1) := by decide +kernel
theorem dL_law_1314 : decode cL_law 1314 = .ok (.invokevirtual 151, 3) := by decide +kernel
theorem dL_law_1317 : decode cL_law 1317 = .ok (.if_icmp .eq 71, 3) := by decide +kernel
theorem dL_law_1320 : decode cL_law 1320 = .ok (.iconst 0, 1) := by decide +kernel
theorem dL_law_1321 : decode cL_law 1321 = .ok (.ireturn, 1) := by decide +kernel
theorem dL_law_1322 : decode cL_law 1322 = .ok (.aload_n 1, 1) := by decide +kernel
theorem dL_law_1323 : decode cL_law 1323 = .ok (.aload_n 0, 1) := by decide +kernel
theorem dL_law_1324 : decode cL_law 1324 = .ok (.iload_n 3, 1) := by decide +kernel
theorem dL_law_1325 : decode cL_law 1325 = .ok (.iconst 1, 1) := by decide +kernel
theorem dL_law_1326 : decode cL_law 1326 = .ok (.iadd, 1) := by decide +kernel
theorem dL_law_1327 : decode cL_law 1327 = .ok (.iaload, 1) := by decide +kernel
theorem dL_law_1328 : decode cL_law 1328 = .ok (.aload_n 0, 1) := by decide +kernel
theorem dL_law_1329 : decode cL_law 1329 = .ok (.iload_n 3, 1) := by decide +kernel
theorem dL_law_1330 : decode cL_law 1330 = .ok (.iconst 2, 1) := by decide +kernel
theorem dL_law_1331 : decode cL_law 1331 = .ok (.iadd, 1) := by decide +kernel
theorem dL_law_1332 : decode cL_law 1332 = .ok (.iaload, 1) := by decide +kernel
theorem dL_law_1333 : decode cL_law 1333 = .ok (.invokevirtual 152, 3) := by decide +kernel
theorem dL_law_1336 : decode cL_law 1336 = .ok (.aload_n 2, 1) := by decide +kernel
theorem dL_law_1337 : decode cL_law 1337 = .ok (.aload_n 0, 1) := by decide +kernel
theorem dL_law_1338 : decode cL_law 1338 = .ok (.iload_n 3, 1) := by decide +kernel
theorem dL_law_1339 : decode cL_law 1339 = .ok (.iconst 1, 1) := by decide +kernel
theorem dL_law_1340 : decode cL_law 1340 = .ok (.iadd, 1) := by decide +kernel
theorem dL_law_1341 : decode cL_law 1341 = .ok (.iaload, 1) := by decide +kernel
theorem dL_law_1342 : decode cL_law 1342 = .ok (.aload_n 0, 1) := by decide +kernel
theorem dL_law_1343 : decode cL_law 1343 = .ok (.iload_n 3, 1) := by decide +kernel
theorem dL_law_1344 : decode cL_law 1344 = .ok (.iconst 2, 1) := by decide +kernel
theorem dL_law_1345 : decode cL_law 1345 = .ok (.iadd, 1) := by decide +kernel
theorem dL_law_1346 : decode cL_law 1346 = .ok (.iaload, 1) := by decide +kernel
theorem dL_law_1347 : decode cL_law 1347 = .ok (.invokevirtual 155, 3) := by decide +kernel
theorem dL_law_1350 : decode cL_law 1350 = .ok (.if_icmp .eq 38, 3) := by decide +kernel
theorem dL_law_1353 : decode cL_law 1353 = .ok (.iconst 0, 1) := by decide +kernel
theorem dL_law_1354 : decode cL_law 1354 = .ok (.ireturn, 1) := by decide +kernel
theorem dL_law_1355 : decode cL_law 1355 = .ok (.aload_n 1, 1) := by decide +kernel
theorem dL_law_1356 : decode cL_law 1356 = .ok (.aload_n 0, 1) := by decide +kernel
theorem dL_law_1357 : decode cL_law 1357 = .ok (.iload_n 3, 1) := by decide +kernel
theorem dL_law_1358 : decode cL_law 1358 = .ok (.iconst 1, 1) := by decide +kernel
theorem dL_law_1359 : decode cL_law 1359 = .ok (.iadd, 1) := by decide +kernel
theorem dL_law_1360 : decode cL_law 1360 = .ok (.iaload, 1) := by decide +kernel
theorem dL_law_1361 : decode cL_law 1361 = .ok (.aload_n 0, 1) := by decide +kernel
theorem dL_law_1362 : decode cL_law 1362 = .ok (.iload_n 3, 1) := by decide +kernel
theorem dL_law_1363 : decode cL_law 1363 = .ok (.iconst 2, 1) := by decide +kernel
theorem dL_law_1364 : decode cL_law 1364 = .ok (.iadd, 1) := by decide +kernel
theorem dL_law_1365 : decode cL_law 1365 = .ok (.iaload, 1) := by decide +kernel
theorem dL_law_1366 : decode cL_law 1366 = .ok (.invokevirtual 156, 3) := by decide +kernel
theorem dL_law_1369 : decode cL_law 1369 = .ok (.aload_n 2, 1) := by decide +kernel
theorem dL_law_1370 : decode cL_law 1370 = .ok (.aload_n 0, 1) := by decide +kernel
theorem dL_law_1371 : decode cL_law 1371 = .ok (.iload_n 3, 1) := by decide +kernel
theorem dL_law_1372 : decode cL_law 1372 = .ok (.iconst 1, 1) := by decide +kernel
theorem dL_law_1373 : decode cL_law 1373 = .ok (.iadd, 1) := by decide +kernel
theorem dL_law_1374 : decode cL_law 1374 = .ok (.iaload, 1) := by decide +kernel
theorem dL_law_1375 : decode cL_law 1375 = .ok (.aload_n 0, 1) := by decide +kernel
theorem dL_law_1376 : decode cL_law 1376 = .ok (.iload_n 3, 1) := by decide +kernel
theorem dL_law_1377 : decode cL_law 1377 = .ok (.iconst 2, 1) := by decide +kernel
theorem dL_law_1378 : decode cL_law 1378 = .ok (.iadd, 1) := by decide +kernel
theorem dL_law_1379 : decode cL_law 1379 = .ok (.iaload, 1) := by decide +kernel
theorem dL_law_1380 : decode cL_law 1380 = .ok (.invokevirtual 159, 3) := by decide +kernel
theorem dL_law_1383 : decode cL_law 1383 = .ok (.if_icmp .eq 5, 3) := by decide +kernel
theorem dL_law_1386 : decode cL_law 1386 = .ok (.iconst 0, 1) := by decide +kernel
theorem dL_law_1387 : decode cL_law 1387 = .ok (.ireturn, 1) := by decide +kernel
theorem dL_law_1388 : decode cL_law 1388 = .ok (.iinc 3 7, 3) := by decide +kernel
theorem dL_law_1391 : decode cL_law 1391 = .ok (.goto (-1373), 3) := by decide +kernel
theorem dL_law_1394 : decode cL_law 1394 = .ok (.iconst 1, 1) := by decide +kernel
theorem dL_law_1395 : decode cL_law 1395 = .ok (.ireturn, 1) := by decide +kernel
