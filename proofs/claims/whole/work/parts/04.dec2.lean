theorem dX10_isWordHere_4 : decode cX10_isWordHere 4 = .ok (.invokevirtual 63, 3) := by decide +kernel
theorem dX10_isWordHere_7 : decode cX10_isWordHere 7 = .ok (.if_icmp .ge 29, 3) := by decide +kernel
theorem dX10_isWordHere_10 : decode cX10_isWordHere 10 = .ok (.aload_n 0, 1) := by decide +kernel
theorem dX10_isWordHere_11 : decode cX10_isWordHere 11 = .ok (.aload_n 0, 1) := by decide +kernel
theorem dX10_isWordHere_12 : decode cX10_isWordHere 12 = .ok (.getfield 24, 3) := by decide +kernel
theorem dX10_isWordHere_15 : decode cX10_isWordHere 15 = .ok (.iload_n 2, 1) := by decide +kernel
theorem dX10_isWordHere_16 : decode cX10_isWordHere 16 = .ok (.iadd, 1) := by decide +kernel
theorem dX10_isWordHere_17 : decode cX10_isWordHere 17 = .ok (.invokevirtual 85, 3) := by decide +kernel
theorem dX10_isWordHere_20 : decode cX10_isWordHere 20 = .ok (.aload_n 1, 1) := by decide +kernel
theorem dX10_isWordHere_21 : decode cX10_isWordHere 21 = .ok (.iload_n 2, 1) := by decide +kernel
theorem dX10_isWordHere_22 : decode cX10_isWordHere 22 = .ok (.invokevirtual 111, 3) := by decide +kernel
theorem dX10_isWordHere_25 : decode cX10_isWordHere 25 = .ok (.if_icmp .eq 5, 3) := by decide +kernel
theorem dX10_isWordHere_28 : decode cX10_isWordHere 28 = .ok (.iconst 0, 1) := by decide +kernel
theorem dX10_isWordHere_29 : decode cX10_isWordHere 29 = .ok (.ireturn, 1) := by decide +kernel
theorem dX10_isWordHere_30 : decode cX10_isWordHere 30 = .ok (.iinc 2 1, 3) := by decide +kernel
theorem dX10_isWordHere_33 : decode cX10_isWordHere 33 = .ok (.goto (-31), 3) := by decide +kernel
theorem dX10_isWordHere_36 : decode cX10_isWordHere 36 = .ok (.aload_n 0, 1) := by decide +kernel
theorem dX10_isWordHere_37 : decode cX10_isWordHere 37 = .ok (.aload_n 0, 1) := by decide +kernel
theorem dX10_isWordHere_38 : decode cX10_isWordHere 38 = .ok (.getfield 24, 3) := by decide +kernel
theorem dX10_isWordHere_41 : decode cX10_isWordHere 41 = .ok (.aload_n 1, 1) := by decide +kernel
theorem dX10_isWordHere_42 : decode cX10_isWordHere 42 = .ok (.invokevirtual 63, 3) := by decide +kernel
theorem dX10_isWordHere_45 : decode cX10_isWordHere 45 = .ok (.iadd, 1) := by decide +kernel
theorem dX10_isWordHere_46 : decode cX10_isWordHere 46 = .ok (.invokevirtual 85, 3) := by decide +kernel
theorem dX10_isWordHere_49 : decode cX10_isWordHere 49 = .ok (.invokestatic 115, 3) := by decide +kernel
theorem dX10_isWordHere_52 : decode cX10_isWordHere 52 = .ok (.ifCond .ne 7, 3) := by decide +kernel
theorem dX10_isWordHere_55 : decode cX10_isWordHere 55 = .ok (.iconst 1, 1) := by decide +kernel
theorem dX10_isWordHere_56 : decode cX10_isWordHere 56 = .ok (.goto 4, 3) := by decide +kernel
theorem dX10_isWordHere_59 : decode cX10_isWordHere 59 = .ok (.iconst 0, 1) := by decide +kernel
theorem dX10_isWordHere_60 : decode cX10_isWordHere 60 = .ok (.ireturn, 1) := by decide +kernel
theorem dX10_skipBlanks_0 : decode cX10_skipBlanks 0 = .ok (.aload_n 0, 1) := by decide +kernel
theorem dX10_skipBlanks_1 : decode cX10_skipBlanks 1 = .ok (.getfield 24, 3) := by decide +kernel
theorem dX10_skipBlanks_4 : decode cX10_skipBlanks 4 = .ok (.aload_n 0, 1) := by decide +kernel
theorem dX10_skipBlanks_5 : decode cX10_skipBlanks 5 = .ok (.getfield 20, 3) := by decide +kernel
theorem dX10_skipBlanks_8 : decode cX10_skipBlanks 8 = .ok (.if_icmp .ge 29, 3) := by decide +kernel
theorem dX10_skipBlanks_11 : decode cX10_skipBlanks 11 = .ok (.aload_n 0, 1) := by decide +kernel
theorem dX10_skipBlanks_12 : decode cX10_skipBlanks 12 = .ok (.aload_n 0, 1) := by decide +kernel
theorem dX10_skipBlanks_13 : decode cX10_skipBlanks 13 = .ok (.getfield 24, 3) := by decide +kernel
theorem dX10_skipBlanks_16 : decode cX10_skipBlanks 16 = .ok (.invokevirtual 85, 3) := by decide +kernel
theorem dX10_skipBlanks_19 : decode cX10_skipBlanks 19 = .ok (.bipush 32, 2) := by decide +kernel
theorem dX10_skipBlanks_21 : decode cX10_skipBlanks 21 = .ok (.if_icmp .ne 16, 3) := by decide +kernel
theorem dX10_skipBlanks_24 : decode cX10_skipBlanks 24 = .ok (.aload_n 0, 1) := by decide +kernel
theorem dX10_skipBlanks_25 : decode cX10_skipBlanks 25 = .ok (.dup, 1) := by decide +kernel
theorem dX10_skipBlanks_26 : decode cX10_skipBlanks 26 = .ok (.getfield 24, 3) := by decide +kernel
theorem dX10_skipBlanks_29 : decode cX10_skipBlanks 29 = .ok (.iconst 1, 1) := by decide +kernel
theorem dX10_skipBlanks_30 : decode cX10_skipBlanks 30 = .ok (.iadd, 1) := by decide +kernel
theorem dX10_skipBlanks_31 : decode cX10_skipBlanks 31 = .ok (.putfield 24, 3) := by decide +kernel
theorem dX10_skipBlanks_34 : decode cX10_skipBlanks 34 = .ok (.goto (-34), 3) := by decide +kernel
theorem dX10_skipBlanks_37 : decode cX10_skipBlanks 37 = .ok (.return_, 1) := by decide +kernel
theorem dX10_byteAt_0 : decode cX10_byteAt 0 = .ok (.iload_n 1, 1) := by decide +kernel
theorem dX10_byteAt_1 : decode cX10_byteAt 1 = .ok (.aload_n 0, 1) := by decide +kernel
theorem dX10_byteAt_2 : decode cX10_byteAt 2 = .ok (.getfield 20, 3) := by decide +kernel
theorem dX10_byteAt_5 : decode cX10_byteAt 5 = .ok (.invokestatic 118, 3) := by decide +kernel
theorem dX10_byteAt_8 : decode cX10_byteAt 8 = .ok (.ifCond .eq 14, 3) := by decide +kernel
theorem dX10_byteAt_11 : decode cX10_byteAt 11 = .ok (.aload_n 0, 1) := by decide +kernel
theorem dX10_byteAt_12 : decode cX10_byteAt 12 = .ok (.getfield 9, 3) := by decide +kernel
theorem dX10_byteAt_15 : decode cX10_byteAt 15 = .ok (.iload_n 1, 1) := by decide +kernel
theorem dX10_byteAt_16 : decode cX10_byteAt 16 = .ok (.invokestatic 88, 3) := by decide +kernel
theorem dX10_byteAt_19 : decode cX10_byteAt 19 = .ok (.goto 4, 3) := by decide +kernel
theorem dX10_byteAt_22 : decode cX10_byteAt 22 = .ok (.iconst (-1), 1) := by decide +kernel
theorem dX10_byteAt_23 : decode cX10_byteAt 23 = .ok (.ireturn, 1) := by decide +kernel
theorem dX10_isLetter_0 : decode cX10_isLetter 0 = .ok (.iload_n 0, 1) := by decide +kernel
theorem dX10_isLetter_1 : decode cX10_isLetter 1 = .ok (.bipush 97, 2) := by decide +kernel
theorem dX10_isLetter_3 : decode cX10_isLetter 3 = .ok (.if_icmp .lt 13, 3) := by decide +kernel
theorem dX10_isLetter_6 : decode cX10_isLetter 6 = .ok (.iload_n 0, 1) := by decide +kernel
theorem dX10_isLetter_7 : decode cX10_isLetter 7 = .ok (.bipush 122, 2) := by decide +kernel
theorem dX10_isLetter_9 : decode cX10_isLetter 9 = .ok (.if_icmp .gt 7, 3) := by decide +kernel
theorem dX10_isLetter_12 : decode cX10_isLetter 12 = .ok (.iconst 1, 1) := by decide +kernel
theorem dX10_isLetter_13 : decode cX10_isLetter 13 = .ok (.goto 4, 3) := by decide +kernel
theorem dX10_isLetter_16 : decode cX10_isLetter 16 = .ok (.iconst 0, 1) := by decide +kernel
theorem dX10_isLetter_17 : decode cX10_isLetter 17 = .ok (.ireturn, 1) := by decide +kernel
theorem dX10_isFigure_0 : decode cX10_isFigure 0 = .ok (.iload_n 0, 1) := by decide +kernel
theorem dX10_isFigure_1 : decode cX10_isFigure 1 = .ok (.bipush 48, 2) := by decide +kernel
theorem dX10_isFigure_3 : decode cX10_isFigure 3 = .ok (.if_icmp .lt 13, 3) := by decide +kernel
theorem dX10_isFigure_6 : decode cX10_isFigure 6 = .ok (.iload_n 0, 1) := by decide +kernel
theorem dX10_isFigure_7 : decode cX10_isFigure 7 = .ok (.bipush 57, 2) := by decide +kernel
theorem dX10_isFigure_9 : decode cX10_isFigure 9 = .ok (.if_icmp .gt 7, 3) := by decide +kernel
theorem dX10_isFigure_12 : decode cX10_isFigure 12 = .ok (.iconst 1, 1) := by decide +kernel
theorem dX10_isFigure_13 : decode cX10_isFigure 13 = .ok (.goto 4, 3) := by decide +kernel
theorem dX10_isFigure_16 : decode cX10_isFigure 16 = .ok (.iconst 0, 1) := by decide +kernel
theorem dX10_isFigure_17 : decode cX10_isFigure 17 = .ok (.ireturn, 1) := by decide +kernel
theorem dX11_init_0 : decode cX11_init 0 = .ok (.aload_n 0, 1) := by decide +kernel
theorem dX11_init_1 : decode cX11_init 1 = .ok (.invokespecial 1, 3) := by decide +kernel
theorem dX11_init_4 : decode cX11_init 4 = .ok (.aload_n 0, 1) := by decide +kernel
theorem dX11_init_5 : decode cX11_init 5 = .ok (.new 7, 3) := by decide +kernel
theorem dX11_init_8 : decode cX11_init 8 = .ok (.dup, 1) := by decide +kernel
theorem dX11_init_9 : decode cX11_init 9 = .ok (.invokespecial 9, 3) := by decide +kernel
theorem dX11_init_12 : decode cX11_init 12 = .ok (.putfield 10, 3) := by decide +kernel
theorem dX11_init_15 : decode cX11_init 15 = .ok (.aload_n 0, 1) := by decide +kernel
theorem dX11_init_16 : decode cX11_init 16 = .ok (.new 7, 3) := by decide +kernel
theorem dX11_init_19 : decode cX11_init 19 = .ok (.dup, 1) := by decide +kernel
theorem dX11_init_20 : decode cX11_init 20 = .ok (.invokespecial 9, 3) := by decide +kernel
theorem dX11_init_23 : decode cX11_init 23 = .ok (.putfield 16, 3) := by decide +kernel
theorem dX11_init_26 : decode cX11_init 26 = .ok (.aload_n 0, 1) := by decide +kernel
theorem dX11_init_27 : decode cX11_init 27 = .ok (.new 7, 3) := by decide +kernel
theorem dX11_init_30 : decode cX11_init 30 = .ok (.dup, 1) := by decide +kernel
theorem dX11_init_31 : decode cX11_init 31 = .ok (.invokespecial 9, 3) := by decide +kernel
theorem dX11_init_34 : decode cX11_init 34 = .ok (.putfield 19, 3) := by decide +kernel
theorem dX11_init_37 : decode cX11_init 37 = .ok (.aload_n 0, 1) := by decide +kernel
theorem dX11_init_38 : decode cX11_init 38 = .ok (.iconst 4, 1) := by decide +kernel
theorem dX11_init_39 : decode cX11_init 39 = .ok (.anewarray 7, 3) := by decide +kernel
theorem dX11_init_42 : decode cX11_init 42 = .ok (.putfield 22, 3) := by decide +kernel
theorem dX11_init_45 : decode cX11_init 45 = .ok (.aload_n 0, 1) := by decide +kernel
theorem dX11_init_46 : decode cX11_init 46 = .ok (.iconst 4, 1) := by decide +kernel
theorem dX11_init_47 : decode cX11_init 47 = .ok (.newarray .boolean, 2) := by decide +kernel
theorem dX11_init_49 : decode cX11_init 49 = .ok (.putfield 26, 3) := by decide +kernel
theorem dX11_init_52 : decode cX11_init 52 = .ok (.aload_n 0, 1) := by decide +kernel
theorem dX11_init_53 : decode cX11_init 53 = .ok (.new 30, 3) := by decide +kernel
theorem dX11_init_56 : decode cX11_init 56 = .ok (.dup, 1) := by decide +kernel
theorem dX11_init_57 : decode cX11_init 57 = .ok (.invokespecial 32, 3) := by decide +kernel
theorem dX11_init_60 : decode cX11_init 60 = .ok (.putfield 33, 3) := by decide +kernel
theorem dX11_init_63 : decode cX11_init 63 = .ok (.aload_n 0, 1) := by decide +kernel
theorem dX11_init_64 : decode cX11_init 64 = .ok (.new 37, 3) := by decide +kernel
theorem dX11_init_67 : decode cX11_init 67 = .ok (.dup, 1) := by decide +kernel
theorem dX11_init_68 : decode cX11_init 68 = .ok (.bipush 64, 2) := by decide +kernel
theorem dX11_init_70 : decode cX11_init 70 = .ok (.invokespecial 39, 3) := by decide +kernel
theorem dX11_init_73 : decode cX11_init 73 = .ok (.putfield 42, 3) := by decide +kernel
theorem dX11_init_76 : decode cX11_init 76 = .ok (.aload_n 0, 1) := by decide +kernel
theorem dX11_init_77 : decode cX11_init 77 = .ok (.new 46, 3) := by decide +kernel
theorem dX11_init_80 : decode cX11_init 80 = .ok (.dup, 1) := by decide +kernel
theorem dX11_init_81 : decode cX11_init 81 = .ok (.invokespecial 48, 3) := by decide +kernel
theorem dX11_init_84 : decode cX11_init 84 = .ok (.putfield 49, 3) := by decide +kernel
theorem dX11_init_87 : decode cX11_init 87 = .ok (.aload_n 0, 1) := by decide +kernel
theorem dX11_init_88 : decode cX11_init 88 = .ok (.new 53, 3) := by decide +kernel
theorem dX11_init_91 : decode cX11_init 91 = .ok (.dup, 1) := by decide +kernel
theorem dX11_init_92 : decode cX11_init 92 = .ok (.invokespecial 55, 3) := by decide +kernel
theorem dX11_init_95 : decode cX11_init 95 = .ok (.putfield 56, 3) := by decide +kernel
theorem dX11_init_98 : decode cX11_init 98 = .ok (.aload_n 0, 1) := by decide +kernel
theorem dX11_init_99 : decode cX11_init 99 = .ok (.new 60, 3) := by decide +kernel
theorem dX11_init_102 : decode cX11_init 102 = .ok (.dup, 1) := by decide +kernel
theorem dX11_init_103 : decode cX11_init 103 = .ok (.invokespecial 62, 3) := by decide +kernel
theorem dX11_init_106 : decode cX11_init 106 = .ok (.putfield 63, 3) := by decide +kernel
theorem dX11_init_109 : decode cX11_init 109 = .ok (.aload_n 0, 1) := by decide +kernel
theorem dX11_init_110 : decode cX11_init 110 = .ok (.new 67, 3) := by decide +kernel
theorem dX11_init_113 : decode cX11_init 113 = .ok (.dup, 1) := by decide +kernel
theorem dX11_init_114 : decode cX11_init 114 = .ok (.invokespecial 69, 3) := by decide +kernel
theorem dX11_init_117 : decode cX11_init 117 = .ok (.putfield 70, 3) := by decide +kernel
theorem dX11_init_120 : decode cX11_init 120 = .ok (.aload_n 0, 1) := by decide +kernel
theorem dX11_init_121 : decode cX11_init 121 = .ok (.new 74, 3) := by decide +kernel
theorem dX11_init_124 : decode cX11_init 124 = .ok (.dup, 1) := by decide +kernel
theorem dX11_init_125 : decode cX11_init 125 = .ok (.invokespecial 76, 3) := by decide +kernel
theorem dX11_init_128 : decode cX11_init 128 = .ok (.putfield 77, 3) := by decide +kernel
theorem dX11_init_131 : decode cX11_init 131 = .ok (.aload_n 0, 1) := by decide +kernel
theorem dX11_init_132 : decode cX11_init 132 = .ok (.new 81, 3) := by decide +kernel
theorem dX11_init_135 : decode cX11_init 135 = .ok (.dup, 1) := by decide +kernel
theorem dX11_init_136 : decode cX11_init 136 = .ok (.invokespecial 83, 3) := by decide +kernel
theorem dX11_init_139 : decode cX11_init 139 = .ok (.putfield 84, 3) := by decide +kernel
theorem dX11_init_142 : decode cX11_init 142 = .ok (.aload_n 0, 1) := by decide +kernel
theorem dX11_init_143 : decode cX11_init 143 = .ok (.new 88, 3) := by decide +kernel
theorem dX11_init_146 : decode cX11_init 146 = .ok (.dup, 1) := by decide +kernel
theorem dX11_init_147 : decode cX11_init 147 = .ok (.invokespecial 90, 3) := by decide +kernel
theorem dX11_init_150 : decode cX11_init 150 = .ok (.putfield 91, 3) := by decide +kernel
theorem dX11_init_153 : decode cX11_init 153 = .ok (.iconst 0, 1) := by decide +kernel
theorem dX11_init_154 : decode cX11_init 154 = .ok (.istore_n 1, 1) := by decide +kernel
theorem dX11_init_155 : decode cX11_init 155 = .ok (.iload_n 1, 1) := by decide +kernel
theorem dX11_init_156 : decode cX11_init 156 = .ok (.aload_n 0, 1) := by decide +kernel
theorem dX11_init_157 : decode cX11_init 157 = .ok (.getfield 22, 3) := by decide +kernel
theorem dX11_init_160 : decode cX11_init 160 = .ok (.arraylength, 1) := by decide +kernel
theorem dX11_init_161 : decode cX11_init 161 = .ok (.if_icmp .ge 22, 3) := by decide +kernel
theorem dX11_init_164 : decode cX11_init 164 = .ok (.aload_n 0, 1) := by decide +kernel
theorem dX11_init_165 : decode cX11_init 165 = .ok (.getfield 22, 3) := by decide +kernel
theorem dX11_init_168 : decode cX11_init 168 = .ok (.iload_n 1, 1) := by decide +kernel
theorem dX11_init_169 : decode cX11_init 169 = .ok (.new 7, 3) := by decide +kernel
theorem dX11_init_172 : decode cX11_init 172 = .ok (.dup, 1) := by decide +kernel
theorem dX11_init_173 : decode cX11_init 173 = .ok (.invokespecial 9, 3) := by decide +kernel
theorem dX11_init_176 : decode cX11_init 176 = .ok (.aastore, 1) := by decide +kernel
theorem dX11_init_177 : decode cX11_init 177 = .ok (.iinc 1 1, 3) := by decide +kernel
theorem dX11_init_180 : decode cX11_init 180 = .ok (.goto (-25), 3) := by decide +kernel
theorem dX11_init_183 : decode cX11_init 183 = .ok (.return_, 1) := by decide +kernel
theorem dX11_event_0 : decode cX11_event 0 = .ok (.iload_n 1, 1) := by decide +kernel
theorem dX11_event_1 : decode cX11_event 1 = .ok (.iload_n 2, 1) := by decide +kernel
theorem dX11_event_2 : decode cX11_event 2 = .ok (.iload_n 3, 1) := by decide +kernel
theorem dX11_event_3 : decode cX11_event 3 = .ok (.iload 4, 2) := by decide +kernel
theorem dX11_event_5 : decode cX11_event 5 = .ok (.iload 5, 2) := by decide +kernel
theorem dX11_event_7 : decode cX11_event 7 = .ok (.iload 6, 2) := by decide +kernel
theorem dX11_event_9 : decode cX11_event 9 = .ok (.invokestatic 95, 3) := by decide +kernel
theorem dX11_event_12 : decode cX11_event 12 = .ok (.ifCond .ne 6, 3) := by decide +kernel
theorem dX11_event_15 : decode cX11_event 15 = .ok (.ldc 101, 2) := by decide +kernel
theorem dX11_event_17 : decode cX11_event 17 = .ok (.ireturn, 1) := by decide +kernel
theorem dX11_event_18 : decode cX11_event 18 = .ok (.aload_n 0, 1) := by decide +kernel
theorem dX11_event_19 : decode cX11_event 19 = .ok (.getfield 10, 3) := by decide +kernel
theorem dX11_event_22 : decode cX11_event 22 = .ok (.invokevirtual 102, 3) := by decide +kernel
theorem dX11_event_25 : decode cX11_event 25 = .ok (.bipush 16, 2) := by decide +kernel
theorem dX11_event_27 : decode cX11_event 27 = .ok (.if_icmp .lt 6, 3) := by decide +kernel
theorem dX11_event_30 : decode cX11_event 30 = .ok (.ldc 106, 2) := by decide +kernel
theorem dX11_event_32 : decode cX11_event 32 = .ok (.ireturn, 1) := by decide +kernel
theorem dX11_event_33 : decode cX11_event 33 = .ok (.aload_n 0, 1) := by decide +kernel
theorem dX11_event_34 : decode cX11_event 34 = .ok (.getfield 10, 3) := by decide +kernel
theorem dX11_event_37 : decode cX11_event 37 = .ok (.iload_n 1, 1) := by decide +kernel
theorem dX11_event_38 : decode cX11_event 38 = .ok (.iload_n 2, 1) := by decide +kernel
theorem dX11_event_39 : decode cX11_event 39 = .ok (.iload_n 3, 1) := by decide +kernel
theorem dX11_event_40 : decode cX11_event 40 = .ok (.iload 4, 2) := by decide +kernel
theorem dX11_event_42 : decode cX11_event 42 = .ok (.iload 5, 2) := by decide +kernel
theorem dX11_event_44 : decode cX11_event 44 = .ok (.iload 6, 2) := by decide +kernel
theorem dX11_event_46 : decode cX11_event 46 = .ok (.invokevirtual 107, 3) := by decide +kernel
theorem dX11_event_49 : decode cX11_event 49 = .ok (.aload_n 0, 1) := by decide +kernel
theorem dX11_event_50 : decode cX11_event 50 = .ok (.invokevirtual 111, 3) := by decide +kernel
theorem dX11_event_53 : decode cX11_event 53 = .ok (.aload_n 0, 1) := by decide +kernel
theorem dX11_event_54 : decode cX11_event 54 = .ok (.getfield 10, 3) := by decide +kernel
theorem dX11_event_57 : decode cX11_event 57 = .ok (.invokevirtual 102, 3) := by decide +kernel
theorem dX11_event_60 : decode cX11_event 60 = .ok (.iconst 1, 1) := by decide +kernel
theorem dX11_event_61 : decode cX11_event 61 = .ok (.isub, 1) := by decide +kernel
theorem dX11_event_62 : decode cX11_event 62 = .ok (.ireturn, 1) := by decide +kernel
theorem dX11_undo_0 : decode cX11_undo 0 = .ok (.aload_n 0, 1) := by decide +kernel
theorem dX11_undo_1 : decode cX11_undo 1 = .ok (.getfield 10, 3) := by decide +kernel
theorem dX11_undo_4 : decode cX11_undo 4 = .ok (.invokevirtual 102, 3) := by decide +kernel
theorem dX11_undo_7 : decode cX11_undo 7 = .ok (.ifCond .ne 6, 3) := by decide +kernel
theorem dX11_undo_10 : decode cX11_undo 10 = .ok (.ldc 114, 2) := by decide +kernel
theorem dX11_undo_12 : decode cX11_undo 12 = .ok (.ireturn, 1) := by decide +kernel
theorem dX11_undo_13 : decode cX11_undo 13 = .ok (.aload_n 0, 1) := by decide +kernel
theorem dX11_undo_14 : decode cX11_undo 14 = .ok (.getfield 10, 3) := by decide +kernel
theorem dX11_undo_17 : decode cX11_undo 17 = .ok (.invokevirtual 115, 3) := by decide +kernel
theorem dX11_undo_20 : decode cX11_undo 20 = .ok (.aload_n 0, 1) := by decide +kernel
theorem dX11_undo_21 : decode cX11_undo 21 = .ok (.invokevirtual 111, 3) := by decide +kernel
theorem dX11_undo_24 : decode cX11_undo 24 = .ok (.aload_n 0, 1) := by decide +kernel
theorem dX11_undo_25 : decode cX11_undo 25 = .ok (.getfield 10, 3) := by decide +kernel
theorem dX11_undo_28 : decode cX11_undo 28 = .ok (.invokevirtual 102, 3) := by decide +kernel
theorem dX11_undo_31 : decode cX11_undo 31 = .ok (.ireturn, 1) := by decide +kernel
theorem dX11_clear_0 : decode cX11_clear 0 = .ok (.aload_n 0, 1) := by decide +kernel
theorem dX11_clear_1 : decode cX11_clear 1 = .ok (.getfield 10, 3) := by decide +kernel
theorem dX11_clear_4 : decode cX11_clear 4 = .ok (.invokevirtual 102, 3) := by decide +kernel
theorem dX11_clear_7 : decode cX11_clear 7 = .ok (.istore_n 1, 1) := by decide +kernel
theorem dX11_clear_8 : decode cX11_clear 8 = .ok (.aload_n 0, 1) := by decide +kernel
theorem dX11_clear_9 : decode cX11_clear 9 = .ok (.getfield 10, 3) := by decide +kernel
theorem dX11_clear_12 : decode cX11_clear 12 = .ok (.invokevirtual 118, 3) := by decide +kernel
theorem dX11_clear_15 : decode cX11_clear 15 = .ok (.aload_n 0, 1) := by decide +kernel
theorem dX11_clear_16 : decode cX11_clear 16 = .ok (.invokevirtual 111, 3) := by decide +kernel
theorem dX11_clear_19 : decode cX11_clear 19 = .ok (.iload_n 1, 1) := by decide +kernel
theorem dX11_clear_20 : decode cX11_clear 20 = .ok (.ireturn, 1) := by decide +kernel
theorem dX11_told_0 : decode cX11_told 0 = .ok (.aload_n 0, 1) := by decide +kernel
theorem dX11_told_1 : decode cX11_told 1 = .ok (.getfield 10, 3) := by decide +kernel
theorem dX11_told_4 : decode cX11_told 4 = .ok (.iload_n 1, 1) := by decide +kernel
theorem dX11_told_5 : decode cX11_told 5 = .ok (.invokevirtual 121, 3) := by decide +kernel
theorem dX11_told_8 : decode cX11_told 8 = .ok (.ifCond .ne 6, 3) := by decide +kernel
theorem dX11_told_11 : decode cX11_told 11 = .ok (.ldc 125, 2) := by decide +kernel
theorem dX11_told_13 : decode cX11_told 13 = .ok (.ireturn, 1) := by decide +kernel
theorem dX11_told_14 : decode cX11_told 14 = .ok (.iload_n 2, 1) := by decide +kernel
theorem dX11_told_15 : decode cX11_told 15 = .ok (.ifCond .lt 9, 3) := by decide +kernel
theorem dX11_told_18 : decode cX11_told 18 = .ok (.iload_n 2, 1) := by decide +kernel
theorem dX11_told_19 : decode cX11_told 19 = .ok (.bipush 6, 2) := by decide +kernel
theorem dX11_told_21 : decode cX11_told 21 = .ok (.if_icmp .le 6, 3) := by decide +kernel
theorem dX11_told_24 : decode cX11_told 24 = .ok (.ldc 101, 2) := by decide +kernel
theorem dX11_told_26 : decode cX11_told 26 = .ok (.ireturn, 1) := by decide +kernel
theorem dX11_told_27 : decode cX11_told 27 = .ok (.iload_n 2, 1) := by decide +kernel
theorem dX11_told_28 : decode cX11_told 28 = .ok (.ifCond .ne 12, 3) := by decide +kernel
theorem dX11_told_31 : decode cX11_told 31 = .ok (.aload_n 0, 1) := by decide +kernel
theorem dX11_told_32 : decode cX11_told 32 = .ok (.getfield 10, 3) := by decide +kernel
theorem dX11_told_35 : decode cX11_told 35 = .ok (.iload_n 1, 1) := by decide +kernel
theorem dX11_told_36 : decode cX11_told 36 = .ok (.invokevirtual 126, 3) := by decide +kernel
theorem dX11_told_39 : decode cX11_told 39 = .ok (.ireturn, 1) := by decide +kernel
theorem dX11_told_40 : decode cX11_told 40 = .ok (.iload_n 2, 1) := by decide +kernel
theorem dX11_told_41 : decode cX11_told 41 = .ok (.bipush 6, 2) := by decide +kernel
theorem dX11_told_43 : decode cX11_told 43 = .ok (.if_icmp .ne 17, 3) := by decide +kernel
theorem dX11_told_46 : decode cX11_told 46 = .ok (.aload_n 0, 1) := by decide +kernel
theorem dX11_told_47 : decode cX11_told 47 = .ok (.getfield 10, 3) := by decide +kernel
theorem dX11_told_50 : decode cX11_told 50 = .ok (.iload_n 1, 1) := by decide +kernel
theorem dX11_told_51 : decode cX11_told 51 = .ok (.invokevirtual 130, 3) := by decide +kernel
theorem dX11_told_54 : decode cX11_told 54 = .ok (.invokestatic 133, 3) := by decide +kernel
theorem dX11_told_57 : decode cX11_told 57 = .ok (.goto 14, 3) := by decide +kernel
theorem dX11_told_60 : decode cX11_told 60 = .ok (.aload_n 0, 1) := by decide +kernel
theorem dX11_told_61 : decode cX11_told 61 = .ok (.getfield 10, 3) := by decide +kernel
theorem dX11_told_64 : decode cX11_told 64 = .ok (.iload_n 1, 1) := by decide +kernel
theorem dX11_told_65 : decode cX11_told 65 = .ok (.iload_n 2, 1) := by decide +kernel
theorem dX11_told_66 : decode cX11_told 66 = .ok (.iconst 1, 1) := by decide +kernel
theorem dX11_told_67 : decode cX11_told 67 = .ok (.isub, 1) := by decide +kernel
theorem dX11_told_68 : decode cX11_told 68 = .ok (.invokevirtual 137, 3) := by decide +kernel
theorem dX11_told_71 : decode cX11_told 71 = .ok (.ireturn, 1) := by decide +kernel
theorem dX11_loose_0 : decode cX11_loose 0 = .ok (.aload_n 0, 1) := by decide +kernel
theorem dX11_loose_1 : decode cX11_loose 1 = .ok (.getfield 10, 3) := by decide +kernel
theorem dX11_loose_4 : decode cX11_loose 4 = .ok (.iload_n 1, 1) := by decide +kernel
theorem dX11_loose_5 : decode cX11_loose 5 = .ok (.invokevirtual 121, 3) := by decide +kernel
theorem dX11_loose_8 : decode cX11_loose 8 = .ok (.ifCond .ne 6, 3) := by decide +kernel
theorem dX11_loose_11 : decode cX11_loose 11 = .ok (.ldc 125, 2) := by decide +kernel
theorem dX11_loose_13 : decode cX11_loose 13 = .ok (.ireturn, 1) := by decide +kernel
theorem dX11_loose_14 : decode cX11_loose 14 = .ok (.aload_n 0, 1) := by decide +kernel
theorem dX11_loose_15 : decode cX11_loose 15 = .ok (.getfield 10, 3) := by decide +kernel
theorem dX11_loose_18 : decode cX11_loose 18 = .ok (.iload_n 1, 1) := by decide +kernel
theorem dX11_loose_19 : decode cX11_loose 19 = .ok (.invokevirtual 130, 3) := by decide +kernel
theorem dX11_loose_22 : decode cX11_loose 22 = .ok (.invokestatic 133, 3) := by decide +kernel
theorem dX11_loose_25 : decode cX11_loose 25 = .ok (.istore_n 3, 1) := by decide +kernel
theorem dX11_loose_26 : decode cX11_loose 26 = .ok (.aload_n 0, 1) := by decide +kernel
theorem dX11_loose_27 : decode cX11_loose 27 = .ok (.getfield 10, 3) := by decide +kernel
theorem dX11_loose_30 : decode cX11_loose 30 = .ok (.iload_n 1, 1) := by decide +kernel
theorem dX11_loose_31 : decode cX11_loose 31 = .ok (.iload_n 2, 1) := by decide +kernel
theorem dX11_loose_32 : decode cX11_loose 32 = .ok (.invokevirtual 141, 3) := by decide +kernel
theorem dX11_loose_35 : decode cX11_loose 35 = .ok (.aload_n 0, 1) := by decide +kernel
theorem dX11_loose_36 : decode cX11_loose 36 = .ok (.getfield 56, 3) := by decide +kernel
theorem dX11_loose_39 : decode cX11_loose 39 = .ok (.invokevirtual 145, 3) := by decide +kernel
theorem dX11_loose_42 : decode cX11_loose 42 = .ok (.iload_n 3, 1) := by decide +kernel
theorem dX11_loose_43 : decode cX11_loose 43 = .ok (.ireturn, 1) := by decide +kernel
theorem dX11_swap_0 : decode cX11_swap 0 = .ok (.iload_n 1, 1) := by decide +kernel
theorem dX11_swap_1 : decode cX11_swap 1 = .ok (.ifCond .lt 16, 3) := by decide +kernel
theorem dX11_swap_4 : decode cX11_swap 4 = .ok (.iload_n 1, 1) := by decide +kernel
theorem dX11_swap_5 : decode cX11_swap 5 = .ok (.aload_n 0, 1) := by decide +kernel
theorem dX11_swap_6 : decode cX11_swap 6 = .ok (.getfield 10, 3) := by decide +kernel
theorem dX11_swap_9 : decode cX11_swap 9 = .ok (.invokevirtual 102, 3) := by decide +kernel
theorem dX11_swap_12 : decode cX11_swap 12 = .ok (.iconst 1, 1) := by decide +kernel
theorem dX11_swap_13 : decode cX11_swap 13 = .ok (.isub, 1) := by decide +kernel
theorem dX11_swap_14 : decode cX11_swap 14 = .ok (.if_icmp .lt 6, 3) := by decide +kernel
theorem dX11_swap_17 : decode cX11_swap 17 = .ok (.ldc 125, 2) := by decide +kernel
theorem dX11_swap_19 : decode cX11_swap 19 = .ok (.ireturn, 1) := by decide +kernel
theorem dX11_swap_20 : decode cX11_swap 20 = .ok (.aload_n 0, 1) := by decide +kernel
theorem dX11_swap_21 : decode cX11_swap 21 = .ok (.getfield 10, 3) := by decide +kernel
theorem dX11_swap_24 : decode cX11_swap 24 = .ok (.iload_n 1, 1) := by decide +kernel
theorem dX11_swap_25 : decode cX11_swap 25 = .ok (.invokevirtual 148, 3) := by decide +kernel
theorem dX11_swap_28 : decode cX11_swap 28 = .ok (.aload_n 0, 1) := by decide +kernel
theorem dX11_swap_29 : decode cX11_swap 29 = .ok (.aload_n 0, 1) := by decide +kernel
theorem dX11_swap_30 : decode cX11_swap 30 = .ok (.getfield 10, 3) := by decide +kernel
theorem dX11_swap_33 : decode cX11_swap 33 = .ok (.invokevirtual 151, 3) := by decide +kernel
theorem dX11_swap_36 : decode cX11_swap 36 = .ok (.istore_n 2, 1) := by decide +kernel
theorem dX11_swap_37 : decode cX11_swap 37 = .ok (.aload_n 0, 1) := by decide +kernel
theorem dX11_swap_38 : decode cX11_swap 38 = .ok (.invokevirtual 111, 3) := by decide +kernel
theorem dX11_swap_41 : decode cX11_swap 41 = .ok (.iload_n 2, 1) := by decide +kernel
theorem dX11_swap_42 : decode cX11_swap 42 = .ok (.ireturn, 1) := by decide +kernel
theorem dX11_count_0 : decode cX11_count 0 = .ok (.iload_n 1, 1) := by decide +kernel
theorem dX11_count_1 : decode cX11_count 1 = .ok (.tableswitch 128 0 8 #[51, 59, 67, 75, 83, 91, 96, 104, 116], 51) := by decide +kernel
theorem dX11_count_52 : decode cX11_count 52 = .ok (.aload_n 0, 1) := by decide +kernel
theorem dX11_count_53 : decode cX11_count 53 = .ok (.getfield 10, 3) := by decide +kernel
theorem dX11_count_56 : decode cX11_count 56 = .ok (.invokevirtual 102, 3) := by decide +kernel
theorem dX11_count_59 : decode cX11_count 59 = .ok (.ireturn, 1) := by decide +kernel
theorem dX11_count_60 : decode cX11_count 60 = .ok (.aload_n 0, 1) := by decide +kernel
theorem dX11_count_61 : decode cX11_count 61 = .ok (.getfield 10, 3) := by decide +kernel
theorem dX11_count_64 : decode cX11_count 64 = .ok (.invokevirtual 155, 3) := by decide +kernel
theorem dX11_count_67 : decode cX11_count 67 = .ok (.ireturn, 1) := by decide +kernel
theorem dX11_count_68 : decode cX11_count 68 = .ok (.aload_n 0, 1) := by decide +kernel
theorem dX11_count_69 : decode cX11_count 69 = .ok (.getfield 63, 3) := by decide +kernel
theorem dX11_count_72 : decode cX11_count 72 = .ok (.invokevirtual 158, 3) := by decide +kernel
theorem dX11_count_75 : decode cX11_count 75 = .ok (.ireturn, 1) := by decide +kernel
theorem dX11_count_76 : decode cX11_count 76 = .ok (.aload_n 0, 1) := by decide +kernel
theorem dX11_count_77 : decode cX11_count 77 = .ok (.getfield 70, 3) := by decide +kernel
theorem dX11_count_80 : decode cX11_count 80 = .ok (.invokevirtual 159, 3) := by decide +kernel
theorem dX11_count_83 : decode cX11_count 83 = .ok (.ireturn, 1) := by decide +kernel
theorem dX11_count_84 : decode cX11_count 84 = .ok (.aload_n 0, 1) := by decide +kernel
theorem dX11_count_85 : decode cX11_count 85 = .ok (.getfield 16, 3) := by decide +kernel
theorem dX11_count_88 : decode cX11_count 88 = .ok (.invokevirtual 102, 3) := by decide +kernel
theorem dX11_count_91 : decode cX11_count 91 = .ok (.ireturn, 1) := by decide +kernel
theorem dX11_count_92 : decode cX11_count 92 = .ok (.aload_n 0, 1) := by decide +kernel
theorem dX11_count_93 : decode cX11_count 93 = .ok (.invokevirtual 162, 3) := by decide +kernel
theorem dX11_count_96 : decode cX11_count 96 = .ok (.ireturn, 1) := by decide +kernel
theorem dX11_count_97 : decode cX11_count 97 = .ok (.aload_n 0, 1) := by decide +kernel
theorem dX11_count_98 : decode cX11_count 98 = .ok (.getfield 33, 3) := by decide +kernel
theorem dX11_count_101 : decode cX11_count 101 = .ok (.invokevirtual 165, 3) := by decide +kernel
theorem dX11_count_104 : decode cX11_count 104 = .ok (.ireturn, 1) := by decide +kernel
theorem dX11_count_105 : decode cX11_count 105 = .ok (.aload_n 0, 1) := by decide +kernel
theorem dX11_count_106 : decode cX11_count 106 = .ok (.getfield 42, 3) := by decide +kernel
theorem dX11_count_109 : decode cX11_count 109 = .ok (.aload_n 0, 1) := by decide +kernel
theorem dX11_count_110 : decode cX11_count 110 = .ok (.getfield 10, 3) := by decide +kernel
theorem dX11_count_113 : decode cX11_count 113 = .ok (.invokevirtual 166, 3) := by decide +kernel
theorem dX11_count_116 : decode cX11_count 116 = .ok (.ireturn, 1) := by decide +kernel
theorem dX11_count_117 : decode cX11_count 117 = .ok (.aload_n 0, 1) := by decide +kernel
theorem dX11_count_118 : decode cX11_count 118 = .ok (.getfield 63, 3) := by decide +kernel
theorem dX11_count_121 : decode cX11_count 121 = .ok (.aload_n 0, 1) := by decide +kernel
theorem dX11_count_122 : decode cX11_count 122 = .ok (.getfield 42, 3) := by decide +kernel
theorem dX11_count_125 : decode cX11_count 125 = .ok (.invokevirtual 169, 3) := by decide +kernel
theorem dX11_count_128 : decode cX11_count 128 = .ok (.ireturn, 1) := by decide +kernel
theorem dX11_count_129 : decode cX11_count 129 = .ok (.ldc 101, 2) := by decide +kernel
theorem dX11_count_131 : decode cX11_count 131 = .ok (.ireturn, 1) := by decide +kernel
theorem dX11_feed_0 : decode cX11_feed 0 = .ok (.iload_n 1, 1) := by decide +kernel
theorem dX11_feed_1 : decode cX11_feed 1 = .ok (.iconst 1, 1) := by decide +kernel
theorem dX11_feed_2 : decode cX11_feed 2 = .ok (.if_icmp .lt 9, 3) := by decide +kernel
theorem dX11_feed_5 : decode cX11_feed 5 = .ok (.iload_n 1, 1) := by decide +kernel
theorem dX11_feed_6 : decode cX11_feed 6 = .ok (.bipush 8, 2) := by decide +kernel
theorem dX11_feed_8 : decode cX11_feed 8 = .ok (.if_icmp .le 6, 3) := by decide +kernel
theorem dX11_feed_11 : decode cX11_feed 11 = .ok (.ldc 101, 2) := by decide +kernel
theorem dX11_feed_13 : decode cX11_feed 13 = .ok (.ireturn, 1) := by decide +kernel
theorem dX11_feed_14 : decode cX11_feed 14 = .ok (.aload_n 0, 1) := by decide +kernel
theorem dX11_feed_15 : decode cX11_feed 15 = .ok (.getfield 33, 3) := by decide +kernel
theorem dX11_feed_18 : decode cX11_feed 18 = .ok (.invokevirtual 165, 3) := by decide +kernel
theorem dX11_feed_21 : decode cX11_feed 21 = .ok (.sipush 300, 3) := by decide +kernel
theorem dX11_feed_24 : decode cX11_feed 24 = .ok (.iload_n 1, 1) := by decide +kernel
theorem dX11_feed_25 : decode cX11_feed 25 = .ok (.isub, 1) := by decide +kernel
theorem dX11_feed_26 : decode cX11_feed 26 = .ok (.if_icmp .le 6, 3) := by decide +kernel
theorem dX11_feed_29 : decode cX11_feed 29 = .ok (.ldc 106, 2) := by decide +kernel
theorem dX11_feed_31 : decode cX11_feed 31 = .ok (.ireturn, 1) := by decide +kernel
theorem dX11_feed_32 : decode cX11_feed 32 = .ok (.iload_n 1, 1) := by decide +kernel
theorem dX11_feed_33 : decode cX11_feed 33 = .ok (.iconst 1, 1) := by decide +kernel
theorem dX11_feed_34 : decode cX11_feed 34 = .ok (.isub, 1) := by decide +kernel
theorem dX11_feed_35 : decode cX11_feed 35 = .ok (.istore 4, 2) := by decide +kernel
theorem dX11_feed_37 : decode cX11_feed 37 = .ok (.iload 4, 2) := by decide +kernel
theorem dX11_feed_39 : decode cX11_feed 39 = .ok (.ifCond .lt 28, 3) := by decide +kernel
theorem dX11_feed_42 : decode cX11_feed 42 = .ok (.aload_n 0, 1) := by decide +kernel
theorem dX11_feed_43 : decode cX11_feed 43 = .ok (.getfield 33, 3) := by decide +kernel
theorem dX11_feed_46 : decode cX11_feed 46 = .ok (.lload_n 2, 1) := by decide +kernel
theorem dX11_feed_47 : decode cX11_feed 47 = .ok (.bipush 8, 2) := by decide +kernel
theorem dX11_feed_49 : decode cX11_feed 49 = .ok (.iload 4, 2) := by decide +kernel
theorem dX11_feed_51 : decode cX11_feed 51 = .ok (.imul, 1) := by decide +kernel
theorem dX11_feed_52 : decode cX11_feed 52 = .ok (.lushr, 1) := by decide +kernel
theorem dX11_feed_53 : decode cX11_feed 53 = .ok (.l2i, 1) := by decide +kernel
theorem dX11_feed_54 : decode cX11_feed 54 = .ok (.sipush 255, 3) := by decide +kernel
theorem dX11_feed_57 : decode cX11_feed 57 = .ok (.iand, 1) := by decide +kernel
theorem dX11_feed_58 : decode cX11_feed 58 = .ok (.invokevirtual 173, 3) := by decide +kernel
theorem dX11_feed_61 : decode cX11_feed 61 = .ok (.iinc 4 (-1), 3) := by decide +kernel
theorem dX11_feed_64 : decode cX11_feed 64 = .ok (.goto (-27), 3) := by decide +kernel
theorem dX11_feed_67 : decode cX11_feed 67 = .ok (.aload_n 0, 1) := by decide +kernel
theorem dX11_feed_68 : decode cX11_feed 68 = .ok (.getfield 33, 3) := by decide +kernel
theorem dX11_feed_71 : decode cX11_feed 71 = .ok (.invokevirtual 165, 3) := by decide +kernel
theorem dX11_feed_74 : decode cX11_feed 74 = .ok (.ireturn, 1) := by decide +kernel
theorem dX11_read_0 : decode cX11_read 0 = .ok (.aload_n 0, 1) := by decide +kernel
theorem dX11_read_1 : decode cX11_read 1 = .ok (.getfield 33, 3) := by decide +kernel
theorem dX11_read_4 : decode cX11_read 4 = .ok (.aload_n 0, 1) := by decide +kernel
theorem dX11_read_5 : decode cX11_read 5 = .ok (.getfield 19, 3) := by decide +kernel
theorem dX11_read_8 : decode cX11_read 8 = .ok (.invokevirtual 175, 3) := by decide +kernel
theorem dX11_read_11 : decode cX11_read 11 = .ok (.istore_n 1, 1) := by decide +kernel
theorem dX11_read_12 : decode cX11_read 12 = .ok (.aload_n 0, 1) := by decide +kernel
theorem dX11_read_13 : decode cX11_read 13 = .ok (.getfield 33, 3) := by decide +kernel
theorem dX11_read_16 : decode cX11_read 16 = .ok (.invokevirtual 178, 3) := by decide +kernel
theorem dX11_read_19 : decode cX11_read 19 = .ok (.iload_n 1, 1) := by decide +kernel
theorem dX11_read_20 : decode cX11_read 20 = .ok (.ifCond .eq 8, 3) := by decide +kernel
theorem dX11_read_23 : decode cX11_read 23 = .ok (.bipush (-10), 2) := by decide +kernel
theorem dX11_read_25 : decode cX11_read 25 = .ok (.iload_n 1, 1) := by decide +kernel
theorem dX11_read_26 : decode cX11_read 26 = .ok (.isub, 1) := by decide +kernel
theorem dX11_read_27 : decode cX11_read 27 = .ok (.ireturn, 1) := by decide +kernel
theorem dX11_read_28 : decode cX11_read 28 = .ok (.aload_n 0, 1) := by decide +kernel
theorem dX11_read_29 : decode cX11_read 29 = .ok (.getfield 10, 3) := by decide +kernel
theorem dX11_read_32 : decode cX11_read 32 = .ok (.aload_n 0, 1) := by decide +kernel
theorem dX11_read_33 : decode cX11_read 33 = .ok (.getfield 19, 3) := by decide +kernel
theorem dX11_read_36 : decode cX11_read 36 = .ok (.invokevirtual 179, 3) := by decide +kernel
theorem dX11_read_39 : decode cX11_read 39 = .ok (.aload_n 0, 1) := by decide +kernel
theorem dX11_read_40 : decode cX11_read 40 = .ok (.invokevirtual 111, 3) := by decide +kernel
theorem dX11_read_43 : decode cX11_read 43 = .ok (.aload_n 0, 1) := by decide +kernel
theorem dX11_read_44 : decode cX11_read 44 = .ok (.getfield 10, 3) := by decide +kernel
theorem dX11_read_47 : decode cX11_read 47 = .ok (.invokevirtual 102, 3) := by decide +kernel
theorem dX11_read_50 : decode cX11_read 50 = .ok (.ireturn, 1) := by decide +kernel
theorem dX11_fault_0 : decode cX11_fault 0 = .ok (.aload_n 0, 1) := by decide +kernel
theorem dX11_fault_1 : decode cX11_fault 1 = .ok (.getfield 33, 3) := by decide +kernel
theorem dX11_fault_4 : decode cX11_fault 4 = .ok (.invokevirtual 183, 3) := by decide +kernel
theorem dX11_fault_7 : decode cX11_fault 7 = .ok (.ireturn, 1) := by decide +kernel
theorem dX11_at_0 : decode cX11_at 0 = .ok (.iload_n 1, 1) := by decide +kernel
theorem dX11_at_1 : decode cX11_at 1 = .ok (.invokestatic 186, 3) := by decide +kernel
theorem dX11_at_4 : decode cX11_at 4 = .ok (.ifCond .eq 17, 3) := by decide +kernel
theorem dX11_at_7 : decode cX11_at 7 = .ok (.iload_n 2, 1) := by decide +kernel
theorem dX11_at_8 : decode cX11_at 8 = .ok (.invokestatic 186, 3) := by decide +kernel
theorem dX11_at_11 : decode cX11_at 11 = .ok (.ifCond .eq 10, 3) := by decide +kernel
theorem dX11_at_14 : decode cX11_at 14 = .ok (.iload_n 3, 1) := by decide +kernel
theorem dX11_at_15 : decode cX11_at 15 = .ok (.invokestatic 189, 3) := by decide +kernel
theorem dX11_at_18 : decode cX11_at 18 = .ok (.ifCond .ne 6, 3) := by decide +kernel
theorem dX11_at_21 : decode cX11_at 21 = .ok (.ldc 101, 2) := by decide +kernel
theorem dX11_at_23 : decode cX11_at 23 = .ok (.ireturn, 1) := by decide +kernel
theorem dX11_at_24 : decode cX11_at 24 = .ok (.aload_n 0, 1) := by decide +kernel
theorem dX11_at_25 : decode cX11_at 25 = .ok (.getfield 42, 3) := by decide +kernel
theorem dX11_at_28 : decode cX11_at 28 = .ok (.iload_n 1, 1) := by decide +kernel
theorem dX11_at_29 : decode cX11_at 29 = .ok (.iload_n 2, 1) := by decide +kernel
theorem dX11_at_30 : decode cX11_at 30 = .ok (.invokestatic 192, 3) := by decide +kernel
theorem dX11_at_33 : decode cX11_at 33 = .ok (.invokevirtual 195, 3) := by decide +kernel
theorem dX11_at_36 : decode cX11_at 36 = .ok (.iload_n 3, 1) := by decide +kernel
theorem dX11_at_37 : decode cX11_at 37 = .ok (.invokevirtual 199, 3) := by decide +kernel
theorem dX11_at_40 : decode cX11_at 40 = .ok (.ireturn, 1) := by decide +kernel
theorem dX11_skin_0 : decode cX11_skin 0 = .ok (.iload_n 1, 1) := by decide +kernel
theorem dX11_skin_1 : decode cX11_skin 1 = .ok (.invokestatic 186, 3) := by decide +kernel
theorem dX11_skin_4 : decode cX11_skin 4 = .ok (.ifCond .eq 19, 3) := by decide +kernel
theorem dX11_skin_7 : decode cX11_skin 7 = .ok (.iload_n 2, 1) := by decide +kernel
theorem dX11_skin_8 : decode cX11_skin 8 = .ok (.invokestatic 186, 3) := by decide +kernel
theorem dX11_skin_11 : decode cX11_skin 11 = .ok (.ifCond .eq 12, 3) := by decide +kernel
theorem dX11_skin_14 : decode cX11_skin 14 = .ok (.iload_n 3, 1) := by decide +kernel
theorem dX11_skin_15 : decode cX11_skin 15 = .ok (.ifCond .lt 8, 3) := by decide +kernel
theorem dX11_skin_18 : decode cX11_skin 18 = .ok (.iload_n 3, 1) := by decide +kernel
theorem dX11_skin_19 : decode cX11_skin 19 = .ok (.iconst 1, 1) := by decide +kernel
theorem dX11_skin_20 : decode cX11_skin 20 = .ok (.if_icmp .le 6, 3) := by decide +kernel
theorem dX11_skin_23 : decode cX11_skin 23 = .ok (.ldc 101, 2) := by decide +kernel
theorem dX11_skin_25 : decode cX11_skin 25 = .ok (.ireturn, 1) := by decide +kernel
theorem dX11_skin_26 : decode cX11_skin 26 = .ok (.aload_n 0, 1) := by decide +kernel
theorem dX11_skin_27 : decode cX11_skin 27 = .ok (.getfield 42, 3) := by decide +kernel
theorem dX11_skin_30 : decode cX11_skin 30 = .ok (.iload_n 1, 1) := by decide +kernel
theorem dX11_skin_31 : decode cX11_skin 31 = .ok (.iload_n 2, 1) := by decide +kernel
theorem dX11_skin_32 : decode cX11_skin 32 = .ok (.invokestatic 192, 3) := by decide +kernel
theorem dX11_skin_35 : decode cX11_skin 35 = .ok (.invokevirtual 195, 3) := by decide +kernel
theorem dX11_skin_38 : decode cX11_skin 38 = .ok (.astore 4, 2) := by decide +kernel
theorem dX11_skin_40 : decode cX11_skin 40 = .ok (.iload_n 3, 1) := by decide +kernel
theorem dX11_skin_41 : decode cX11_skin 41 = .ok (.ifCond .ne 11, 3) := by decide +kernel
theorem dX11_skin_44 : decode cX11_skin 44 = .ok (.aload 4, 2) := by decide +kernel
theorem dX11_skin_46 : decode cX11_skin 46 = .ok (.invokevirtual 202, 3) := by decide +kernel
theorem dX11_skin_49 : decode cX11_skin 49 = .ok (.goto 8, 3) := by decide +kernel
theorem dX11_skin_52 : decode cX11_skin 52 = .ok (.aload 4, 2) := by decide +kernel
theorem dX11_skin_54 : decode cX11_skin 54 = .ok (.invokevirtual 205, 3) := by decide +kernel
theorem dX11_skin_57 : decode cX11_skin 57 = .ok (.ireturn, 1) := by decide +kernel
theorem dX11_top_0 : decode cX11_top 0 = .ok (.iload_n 1, 1) := by decide +kernel
theorem dX11_top_1 : decode cX11_top 1 = .ok (.invokestatic 208, 3) := by decide +kernel
theorem dX11_top_4 : decode cX11_top 4 = .ok (.ifCond .eq 28, 3) := by decide +kernel
theorem dX11_top_7 : decode cX11_top 7 = .ok (.iload_n 2, 1) := by decide +kernel
theorem dX11_top_8 : decode cX11_top 8 = .ok (.invokestatic 186, 3) := by decide +kernel
theorem dX11_top_11 : decode cX11_top 11 = .ok (.ifCond .eq 21, 3) := by decide +kernel
theorem dX11_top_14 : decode cX11_top 14 = .ok (.iload_n 3, 1) := by decide +kernel
theorem dX11_top_15 : decode cX11_top 15 = .ok (.invokestatic 186, 3) := by decide +kernel
theorem dX11_top_18 : decode cX11_top 18 = .ok (.ifCond .eq 14, 3) := by decide +kernel
theorem dX11_top_21 : decode cX11_top 21 = .ok (.iload 4, 2) := by decide +kernel
theorem dX11_top_23 : decode cX11_top 23 = .ok (.ifCond .lt 9, 3) := by decide +kernel
theorem dX11_top_26 : decode cX11_top 26 = .ok (.iload 4, 2) := by decide +kernel
theorem dX11_top_28 : decode cX11_top 28 = .ok (.iconst 1, 1) := by decide +kernel
theorem dX11_top_29 : decode cX11_top 29 = .ok (.if_icmp .le 6, 3) := by decide +kernel
theorem dX11_top_32 : decode cX11_top 32 = .ok (.ldc 101, 2) := by decide +kernel
theorem dX11_top_34 : decode cX11_top 34 = .ok (.ireturn, 1) := by decide +kernel
theorem dX11_top_35 : decode cX11_top 35 = .ok (.aload_n 0, 1) := by decide +kernel
theorem dX11_top_36 : decode cX11_top 36 = .ok (.getfield 42, 3) := by decide +kernel
theorem dX11_top_39 : decode cX11_top 39 = .ok (.iload_n 2, 1) := by decide +kernel
theorem dX11_top_40 : decode cX11_top 40 = .ok (.iload_n 3, 1) := by decide +kernel
theorem dX11_top_41 : decode cX11_top 41 = .ok (.invokestatic 192, 3) := by decide +kernel
theorem dX11_top_44 : decode cX11_top 44 = .ok (.invokevirtual 195, 3) := by decide +kernel
theorem dX11_top_47 : decode cX11_top 47 = .ok (.astore 5, 2) := by decide +kernel
theorem dX11_top_49 : decode cX11_top 49 = .ok (.iload 4, 2) := by decide +kernel
theorem dX11_top_51 : decode cX11_top 51 = .ok (.ifCond .ne 12, 3) := by decide +kernel
theorem dX11_top_54 : decode cX11_top 54 = .ok (.aload 5, 2) := by decide +kernel
theorem dX11_top_56 : decode cX11_top 56 = .ok (.iload_n 1, 1) := by decide +kernel
theorem dX11_top_57 : decode cX11_top 57 = .ok (.invokevirtual 211, 3) := by decide +kernel
theorem dX11_top_60 : decode cX11_top 60 = .ok (.goto 9, 3) := by decide +kernel
theorem dX11_top_63 : decode cX11_top 63 = .ok (.aload 5, 2) := by decide +kernel
theorem dX11_top_65 : decode cX11_top 65 = .ok (.iload_n 1, 1) := by decide +kernel
theorem dX11_top_66 : decode cX11_top 66 = .ok (.invokevirtual 214, 3) := by decide +kernel
theorem dX11_top_69 : decode cX11_top 69 = .ok (.ireturn, 1) := by decide +kernel
theorem dX11_was_0 : decode cX11_was 0 = .ok (.iload_n 1, 1) := by decide +kernel
theorem dX11_was_1 : decode cX11_was 1 = .ok (.ifCond .lt 36, 3) := by decide +kernel
theorem dX11_was_4 : decode cX11_was 4 = .ok (.iload_n 1, 1) := by decide +kernel
theorem dX11_was_5 : decode cX11_was 5 = .ok (.aload_n 0, 1) := by decide +kernel
theorem dX11_was_6 : decode cX11_was 6 = .ok (.getfield 10, 3) := by decide +kernel
theorem dX11_was_9 : decode cX11_was 9 = .ok (.invokevirtual 102, 3) := by decide +kernel
theorem dX11_was_12 : decode cX11_was 12 = .ok (.if_icmp .gt 25, 3) := by decide +kernel
theorem dX11_was_15 : decode cX11_was 15 = .ok (.iload_n 2, 1) := by decide +kernel
theorem dX11_was_16 : decode cX11_was 16 = .ok (.invokestatic 186, 3) := by decide +kernel
theorem dX11_was_19 : decode cX11_was 19 = .ok (.ifCond .eq 18, 3) := by decide +kernel
theorem dX11_was_22 : decode cX11_was 22 = .ok (.iload_n 3, 1) := by decide +kernel
theorem dX11_was_23 : decode cX11_was 23 = .ok (.invokestatic 186, 3) := by decide +kernel
theorem dX11_was_26 : decode cX11_was 26 = .ok (.ifCond .eq 11, 3) := by decide +kernel
theorem dX11_was_29 : decode cX11_was 29 = .ok (.iload 4, 2) := by decide +kernel
theorem dX11_was_31 : decode cX11_was 31 = .ok (.invokestatic 189, 3) := by decide +kernel
theorem dX11_was_34 : decode cX11_was 34 = .ok (.ifCond .ne 6, 3) := by decide +kernel
theorem dX11_was_37 : decode cX11_was 37 = .ok (.ldc 101, 2) := by decide +kernel
theorem dX11_was_39 : decode cX11_was 39 = .ok (.ireturn, 1) := by decide +kernel
theorem dX11_was_40 : decode cX11_was 40 = .ok (.aload_n 0, 1) := by decide +kernel
theorem dX11_was_41 : decode cX11_was 41 = .ok (.getfield 49, 3) := by decide +kernel
theorem dX11_was_44 : decode cX11_was 44 = .ok (.aload_n 0, 1) := by decide +kernel
theorem dX11_was_45 : decode cX11_was 45 = .ok (.getfield 10, 3) := by decide +kernel
theorem dX11_was_48 : decode cX11_was 48 = .ok (.iload_n 1, 1) := by decide +kernel
theorem dX11_was_49 : decode cX11_was 49 = .ok (.iload_n 2, 1) := by decide +kernel
theorem dX11_was_50 : decode cX11_was 50 = .ok (.iload_n 3, 1) := by decide +kernel
theorem dX11_was_51 : decode cX11_was 51 = .ok (.invokestatic 192, 3) := by decide +kernel
theorem dX11_was_54 : decode cX11_was 54 = .ok (.invokevirtual 217, 3) := by decide +kernel
theorem dX11_was_57 : decode cX11_was 57 = .ok (.aload_n 0, 1) := by decide +kernel
theorem dX11_was_58 : decode cX11_was 58 = .ok (.getfield 49, 3) := by decide +kernel
theorem dX11_was_61 : decode cX11_was 61 = .ok (.iload 4, 2) := by decide +kernel
theorem dX11_was_63 : decode cX11_was 63 = .ok (.invokevirtual 199, 3) := by decide +kernel
theorem dX11_was_66 : decode cX11_was 66 = .ok (.ireturn, 1) := by decide +kernel
theorem dX11_amount_0 : decode cX11_amount 0 = .ok (.iload_n 1, 1) := by decide +kernel
theorem dX11_amount_1 : decode cX11_amount 1 = .ok (.invokestatic 208, 3) := by decide +kernel
theorem dX11_amount_4 : decode cX11_amount 4 = .ok (.ifCond .eq 12, 3) := by decide +kernel
theorem dX11_amount_7 : decode cX11_amount 7 = .ok (.iload_n 2, 1) := by decide +kernel
theorem dX11_amount_8 : decode cX11_amount 8 = .ok (.ifCond .lt 8, 3) := by decide +kernel
theorem dX11_amount_11 : decode cX11_amount 11 = .ok (.iload_n 2, 1) := by decide +kernel
theorem dX11_amount_12 : decode cX11_amount 12 = .ok (.iconst 2, 1) := by decide +kernel
theorem dX11_amount_13 : decode cX11_amount 13 = .ok (.if_icmp .le 6, 3) := by decide +kernel
theorem dX11_amount_16 : decode cX11_amount 16 = .ok (.ldc 101, 2) := by decide +kernel
theorem dX11_amount_18 : decode cX11_amount 18 = .ok (.ireturn, 1) := by decide +kernel
theorem dX11_amount_19 : decode cX11_amount 19 = .ok (.iload_n 2, 1) := by decide +kernel
theorem dX11_amount_20 : decode cX11_amount 20 = .ok (.ifCond .ne 12, 3) := by decide +kernel
theorem dX11_amount_23 : decode cX11_amount 23 = .ok (.aload_n 0, 1) := by decide +kernel
theorem dX11_amount_24 : decode cX11_amount 24 = .ok (.getfield 42, 3) := by decide +kernel
theorem dX11_amount_27 : decode cX11_amount 27 = .ok (.iload_n 1, 1) := by decide +kernel
theorem dX11_amount_28 : decode cX11_amount 28 = .ok (.invokevirtual 221, 3) := by decide +kernel
theorem dX11_amount_31 : decode cX11_amount 31 = .ok (.ireturn, 1) := by decide +kernel
theorem dX11_amount_32 : decode cX11_amount 32 = .ok (.aload_n 0, 1) := by decide +kernel
theorem dX11_amount_33 : decode cX11_amount 33 = .ok (.getfield 10, 3) := by decide +kernel
theorem dX11_amount_36 : decode cX11_amount 36 = .ok (.invokevirtual 155, 3) := by decide +kernel
theorem dX11_amount_39 : decode cX11_amount 39 = .ok (.iconst 4, 1) := by decide +kernel
theorem dX11_amount_40 : decode cX11_amount 40 = .ok (.if_icmp .le 6, 3) := by decide +kernel
theorem dX11_amount_43 : decode cX11_amount 43 = .ok (.ldc 222, 2) := by decide +kernel
theorem dX11_amount_45 : decode cX11_amount 45 = .ok (.ireturn, 1) := by decide +kernel
theorem dX11_amount_46 : decode cX11_amount 46 = .ok (.aload_n 0, 1) := by decide +kernel
theorem dX11_amount_47 : decode cX11_amount 47 = .ok (.getfield 56, 3) := by decide +kernel
theorem dX11_amount_50 : decode cX11_amount 50 = .ok (.aload_n 0, 1) := by decide +kernel
theorem dX11_amount_51 : decode cX11_amount 51 = .ok (.getfield 10, 3) := by decide +kernel
theorem dX11_amount_54 : decode cX11_amount 54 = .ok (.invokevirtual 223, 3) := by decide +kernel
theorem dX11_amount_57 : decode cX11_amount 57 = .ok (.iload_n 2, 1) := by decide +kernel
theorem dX11_amount_58 : decode cX11_amount 58 = .ok (.iconst 1, 1) := by decide +kernel
theorem dX11_amount_59 : decode cX11_amount 59 = .ok (.if_icmp .ne 14, 3) := by decide +kernel
theorem dX11_amount_62 : decode cX11_amount 62 = .ok (.aload_n 0, 1) := by decide +kernel
theorem dX11_amount_63 : decode cX11_amount 63 = .ok (.getfield 56, 3) := by decide +kernel
theorem dX11_amount_66 : decode cX11_amount 66 = .ok (.iload_n 1, 1) := by decide +kernel
theorem dX11_amount_67 : decode cX11_amount 67 = .ok (.invokevirtual 226, 3) := by decide +kernel
theorem dX11_amount_70 : decode cX11_amount 70 = .ok (.goto 11, 3) := by decide +kernel
theorem dX11_amount_73 : decode cX11_amount 73 = .ok (.aload_n 0, 1) := by decide +kernel
theorem dX11_amount_74 : decode cX11_amount 74 = .ok (.getfield 56, 3) := by decide +kernel
theorem dX11_amount_77 : decode cX11_amount 77 = .ok (.iload_n 1, 1) := by decide +kernel
theorem dX11_amount_78 : decode cX11_amount 78 = .ok (.invokevirtual 229, 3) := by decide +kernel
theorem dX11_amount_81 : decode cX11_amount 81 = .ok (.ireturn, 1) := by decide +kernel
theorem dX11_youth_0 : decode cX11_youth 0 = .ok (.iload_n 1, 1) := by decide +kernel
theorem dX11_youth_1 : decode cX11_youth 1 = .ok (.ifCond .lt 9, 3) := by decide +kernel
theorem dX11_youth_4 : decode cX11_youth 4 = .ok (.iload_n 1, 1) := by decide +kernel
theorem dX11_youth_5 : decode cX11_youth 5 = .ok (.bipush 15, 2) := by decide +kernel
theorem dX11_youth_7 : decode cX11_youth 7 = .ok (.if_icmp .lt 6, 3) := by decide +kernel
theorem dX11_youth_10 : decode cX11_youth 10 = .ok (.ldc 101, 2) := by decide +kernel
theorem dX11_youth_12 : decode cX11_youth 12 = .ok (.ireturn, 1) := by decide +kernel
theorem dX11_youth_13 : decode cX11_youth 13 = .ok (.aload_n 0, 1) := by decide +kernel
theorem dX11_youth_14 : decode cX11_youth 14 = .ok (.getfield 10, 3) := by decide +kernel
theorem dX11_youth_17 : decode cX11_youth 17 = .ok (.iload_n 1, 1) := by decide +kernel
theorem dX11_youth_18 : decode cX11_youth 18 = .ok (.invokevirtual 232, 3) := by decide +kernel
theorem dX11_youth_21 : decode cX11_youth 21 = .ok (.ireturn, 1) := by decide +kernel
theorem dX11_keep_0 : decode cX11_keep 0 = .ok (.iload_n 1, 1) := by decide +kernel
theorem dX11_keep_1 : decode cX11_keep 1 = .ok (.ifCond .lt 8, 3) := by decide +kernel
theorem dX11_keep_4 : decode cX11_keep 4 = .ok (.iload_n 1, 1) := by decide +kernel
theorem dX11_keep_5 : decode cX11_keep 5 = .ok (.iconst 4, 1) := by decide +kernel
theorem dX11_keep_6 : decode cX11_keep 6 = .ok (.if_icmp .lt 6, 3) := by decide +kernel
theorem dX11_keep_9 : decode cX11_keep 9 = .ok (.ldc 101, 2) := by decide +kernel
theorem dX11_keep_11 : decode cX11_keep 11 = .ok (.ireturn, 1) := by decide +kernel
theorem dX11_keep_12 : decode cX11_keep 12 = .ok (.aload_n 0, 1) := by decide +kernel
theorem dX11_keep_13 : decode cX11_keep 13 = .ok (.iload_n 1, 1) := by decide +kernel
theorem dX11_keep_14 : decode cX11_keep 14 = .ok (.invokevirtual 235, 3) := by decide +kernel
theorem dX11_keep_17 : decode cX11_keep 17 = .ok (.aload_n 0, 1) := by decide +kernel
theorem dX11_keep_18 : decode cX11_keep 18 = .ok (.getfield 10, 3) := by decide +kernel
theorem dX11_keep_21 : decode cX11_keep 21 = .ok (.invokevirtual 179, 3) := by decide +kernel
theorem dX11_keep_24 : decode cX11_keep 24 = .ok (.iload_n 1, 1) := by decide +kernel
theorem dX11_keep_25 : decode cX11_keep 25 = .ok (.aload_n 0, 1) := by decide +kernel
theorem dX11_keep_26 : decode cX11_keep 26 = .ok (.getfield 26, 3) := by decide +kernel
theorem dX11_keep_29 : decode cX11_keep 29 = .ok (.arraylength, 1) := by decide +kernel
theorem dX11_keep_30 : decode cX11_keep 30 = .ok (.if_icmp .ge 10, 3) := by decide +kernel
theorem dX11_keep_33 : decode cX11_keep 33 = .ok (.aload_n 0, 1) := by decide +kernel
theorem dX11_keep_34 : decode cX11_keep 34 = .ok (.getfield 26, 3) := by decide +kernel
theorem dX11_keep_37 : decode cX11_keep 37 = .ok (.iload_n 1, 1) := by decide +kernel
theorem dX11_keep_38 : decode cX11_keep 38 = .ok (.iconst 1, 1) := by decide +kernel
theorem dX11_keep_39 : decode cX11_keep 39 = .ok (.bastore, 1) := by decide +kernel
theorem dX11_keep_40 : decode cX11_keep 40 = .ok (.aload_n 0, 1) := by decide +kernel
theorem dX11_keep_41 : decode cX11_keep 41 = .ok (.getfield 10, 3) := by decide +kernel
theorem dX11_keep_44 : decode cX11_keep 44 = .ok (.invokevirtual 102, 3) := by decide +kernel
theorem dX11_keep_47 : decode cX11_keep 47 = .ok (.ireturn, 1) := by decide +kernel
theorem dX11_back_0 : decode cX11_back 0 = .ok (.aload_n 0, 1) := by decide +kernel
theorem dX11_back_1 : decode cX11_back 1 = .ok (.iload_n 1, 1) := by decide +kernel
theorem dX11_back_2 : decode cX11_back 2 = .ok (.invokevirtual 239, 3) := by decide +kernel
theorem dX11_back_5 : decode cX11_back 5 = .ok (.ifCond .ne 6, 3) := by decide +kernel
theorem dX11_back_8 : decode cX11_back 8 = .ok (.ldc 125, 2) := by decide +kernel
theorem dX11_back_10 : decode cX11_back 10 = .ok (.ireturn, 1) := by decide +kernel
theorem dX11_back_11 : decode cX11_back 11 = .ok (.aload_n 0, 1) := by decide +kernel
theorem dX11_back_12 : decode cX11_back 12 = .ok (.getfield 10, 3) := by decide +kernel
theorem dX11_back_15 : decode cX11_back 15 = .ok (.aload_n 0, 1) := by decide +kernel
theorem dX11_back_16 : decode cX11_back 16 = .ok (.iload_n 1, 1) := by decide +kernel
theorem dX11_back_17 : decode cX11_back 17 = .ok (.invokevirtual 235, 3) := by decide +kernel
theorem dX11_back_20 : decode cX11_back 20 = .ok (.invokevirtual 179, 3) := by decide +kernel
theorem dX11_back_23 : decode cX11_back 23 = .ok (.aload_n 0, 1) := by decide +kernel
theorem dX11_back_24 : decode cX11_back 24 = .ok (.invokevirtual 111, 3) := by decide +kernel
theorem dX11_back_27 : decode cX11_back 27 = .ok (.aload_n 0, 1) := by decide +kernel
theorem dX11_back_28 : decode cX11_back 28 = .ok (.getfield 10, 3) := by decide +kernel
theorem dX11_back_31 : decode cX11_back 31 = .ok (.invokevirtual 102, 3) := by decide +kernel
theorem dX11_back_34 : decode cX11_back 34 = .ok (.ireturn, 1) := by decide +kernel
theorem dX11_differ_0 : decode cX11_differ 0 = .ok (.aload_n 0, 1) := by decide +kernel
theorem dX11_differ_1 : decode cX11_differ 1 = .ok (.iload_n 1, 1) := by decide +kernel
theorem dX11_differ_2 : decode cX11_differ 2 = .ok (.invokevirtual 239, 3) := by decide +kernel
theorem dX11_differ_5 : decode cX11_differ 5 = .ok (.ifCond .ne 6, 3) := by decide +kernel
theorem dX11_differ_8 : decode cX11_differ 8 = .ok (.ldc 125, 2) := by decide +kernel
theorem dX11_differ_10 : decode cX11_differ 10 = .ok (.ireturn, 1) := by decide +kernel
theorem dX11_differ_11 : decode cX11_differ 11 = .ok (.iload_n 2, 1) := by decide +kernel
theorem dX11_differ_12 : decode cX11_differ 12 = .ok (.tableswitch 75 0 3 #[32, 42, 52, 62], 32) := by decide +kernel
theorem dX11_differ_44 : decode cX11_differ 44 = .ok (.aload_n 0, 1) := by decide +kernel
theorem dX11_differ_45 : decode cX11_differ 45 = .ok (.aload_n 0, 1) := by decide +kernel
theorem dX11_differ_46 : decode cX11_differ 46 = .ok (.iload_n 1, 1) := by decide +kernel
theorem dX11_differ_47 : decode cX11_differ 47 = .ok (.invokevirtual 235, 3) := by decide +kernel
theorem dX11_differ_50 : decode cX11_differ 50 = .ok (.invokevirtual 151, 3) := by decide +kernel
theorem dX11_differ_53 : decode cX11_differ 53 = .ok (.ireturn, 1) := by decide +kernel
theorem dX11_differ_54 : decode cX11_differ 54 = .ok (.aload_n 0, 1) := by decide +kernel
theorem dX11_differ_55 : decode cX11_differ 55 = .ok (.aload_n 0, 1) := by decide +kernel
theorem dX11_differ_56 : decode cX11_differ 56 = .ok (.iload_n 1, 1) := by decide +kernel
theorem dX11_differ_57 : decode cX11_differ 57 = .ok (.invokevirtual 235, 3) := by decide +kernel
theorem dX11_differ_60 : decode cX11_differ 60 = .ok (.invokevirtual 242, 3) := by decide +kernel
theorem dX11_differ_63 : decode cX11_differ 63 = .ok (.ireturn, 1) := by decide +kernel
theorem dX11_differ_64 : decode cX11_differ 64 = .ok (.aload_n 0, 1) := by decide +kernel
theorem dX11_differ_65 : decode cX11_differ 65 = .ok (.aload_n 0, 1) := by decide +kernel
theorem dX11_differ_66 : decode cX11_differ 66 = .ok (.iload_n 1, 1) := by decide +kernel
theorem dX11_differ_67 : decode cX11_differ 67 = .ok (.invokevirtual 235, 3) := by decide +kernel
theorem dX11_differ_70 : decode cX11_differ 70 = .ok (.invokevirtual 245, 3) := by decide +kernel
theorem dX11_differ_73 : decode cX11_differ 73 = .ok (.ireturn, 1) := by decide +kernel
theorem dX11_differ_74 : decode cX11_differ 74 = .ok (.aload_n 0, 1) := by decide +kernel
theorem dX11_differ_75 : decode cX11_differ 75 = .ok (.getfield 10, 3) := by decide +kernel
theorem dX11_differ_78 : decode cX11_differ 78 = .ok (.aload_n 0, 1) := by decide +kernel
theorem dX11_differ_79 : decode cX11_differ 79 = .ok (.iload_n 1, 1) := by decide +kernel
theorem dX11_differ_80 : decode cX11_differ 80 = .ok (.invokevirtual 235, 3) := by decide +kernel
theorem dX11_differ_83 : decode cX11_differ 83 = .ok (.invokevirtual 248, 3) := by decide +kernel
theorem dX11_differ_86 : decode cX11_differ 86 = .ok (.ireturn, 1) := by decide +kernel
theorem dX11_differ_87 : decode cX11_differ 87 = .ok (.ldc 101, 2) := by decide +kernel
theorem dX11_differ_89 : decode cX11_differ 89 = .ok (.ireturn, 1) := by decide +kernel
theorem dX11_sight_0 : decode cX11_sight 0 = .ok (.iload_n 1, 1) := by decide +kernel
theorem dX11_sight_1 : decode cX11_sight 1 = .ok (.iload_n 2, 1) := by decide +kernel
theorem dX11_sight_2 : decode cX11_sight 2 = .ok (.iload_n 3, 1) := by decide +kernel
theorem dX11_sight_3 : decode cX11_sight 3 = .ok (.iload 4, 2) := by decide +kernel
theorem dX11_sight_5 : decode cX11_sight 5 = .ok (.iload 5, 2) := by decide +kernel
theorem dX11_sight_7 : decode cX11_sight 7 = .ok (.iload 6, 2) := by decide +kernel
theorem dX11_sight_9 : decode cX11_sight 9 = .ok (.invokestatic 251, 3) := by decide +kernel
theorem dX11_sight_12 : decode cX11_sight 12 = .ok (.ifCond .ne 6, 3) := by decide +kernel
theorem dX11_sight_15 : decode cX11_sight 15 = .ok (.ldc 101, 2) := by decide +kernel
theorem dX11_sight_17 : decode cX11_sight 17 = .ok (.ireturn, 1) := by decide +kernel
theorem dX11_sight_18 : decode cX11_sight 18 = .ok (.aload_n 0, 1) := by decide +kernel
theorem dX11_sight_19 : decode cX11_sight 19 = .ok (.getfield 63, 3) := by decide +kernel
theorem dX11_sight_22 : decode cX11_sight 22 = .ok (.invokevirtual 158, 3) := by decide +kernel
theorem dX11_sight_25 : decode cX11_sight 25 = .ok (.bipush 30, 2) := by decide +kernel
theorem dX11_sight_27 : decode cX11_sight 27 = .ok (.if_icmp .lt 6, 3) := by decide +kernel
theorem dX11_sight_30 : decode cX11_sight 30 = .ok (.ldc 106, 2) := by decide +kernel
theorem dX11_sight_32 : decode cX11_sight 32 = .ok (.ireturn, 1) := by decide +kernel
theorem dX11_sight_33 : decode cX11_sight 33 = .ok (.aload_n 0, 1) := by decide +kernel
theorem dX11_sight_34 : decode cX11_sight 34 = .ok (.getfield 63, 3) := by decide +kernel
theorem dX11_sight_37 : decode cX11_sight 37 = .ok (.iload_n 1, 1) := by decide +kernel
theorem dX11_sight_38 : decode cX11_sight 38 = .ok (.iload_n 2, 1) := by decide +kernel
theorem dX11_sight_39 : decode cX11_sight 39 = .ok (.iload_n 3, 1) := by decide +kernel
theorem dX11_sight_40 : decode cX11_sight 40 = .ok (.iload 4, 2) := by decide +kernel
theorem dX11_sight_42 : decode cX11_sight 42 = .ok (.iload 5, 2) := by decide +kernel
theorem dX11_sight_44 : decode cX11_sight 44 = .ok (.iload 6, 2) := by decide +kernel
theorem dX11_sight_46 : decode cX11_sight 46 = .ok (.invokevirtual 252, 3) := by decide +kernel
theorem dX11_sight_49 : decode cX11_sight 49 = .ok (.aload_n 0, 1) := by decide +kernel
theorem dX11_sight_50 : decode cX11_sight 50 = .ok (.getfield 84, 3) := by decide +kernel
theorem dX11_sight_53 : decode cX11_sight 53 = .ok (.invokevirtual 253, 3) := by decide +kernel
theorem dX11_sight_56 : decode cX11_sight 56 = .ok (.aload_n 0, 1) := by decide +kernel
theorem dX11_sight_57 : decode cX11_sight 57 = .ok (.getfield 63, 3) := by decide +kernel
theorem dX11_sight_60 : decode cX11_sight 60 = .ok (.invokevirtual 158, 3) := by decide +kernel
theorem dX11_sight_63 : decode cX11_sight 63 = .ok (.iconst 1, 1) := by decide +kernel
theorem dX11_sight_64 : decode cX11_sight 64 = .ok (.isub, 1) := by decide +kernel
theorem dX11_sight_65 : decode cX11_sight 65 = .ok (.ireturn, 1) := by decide +kernel
theorem dX11_met_0 : decode cX11_met 0 = .ok (.aload_n 0, 1) := by decide +kernel
theorem dX11_met_1 : decode cX11_met 1 = .ok (.getfield 63, 3) := by decide +kernel
theorem dX11_met_4 : decode cX11_met 4 = .ok (.iload_n 1, 1) := by decide +kernel
theorem dX11_met_5 : decode cX11_met 5 = .ok (.invokevirtual 254, 3) := by decide +kernel
theorem dX11_met_8 : decode cX11_met 8 = .ok (.ifCond .ne 6, 3) := by decide +kernel
theorem dX11_met_11 : decode cX11_met 11 = .ok (.ldc 125, 2) := by decide +kernel
theorem dX11_met_13 : decode cX11_met 13 = .ok (.ireturn, 1) := by decide +kernel
theorem dX11_met_14 : decode cX11_met 14 = .ok (.aload_n 0, 1) := by decide +kernel
theorem dX11_met_15 : decode cX11_met 15 = .ok (.getfield 63, 3) := by decide +kernel
theorem dX11_met_18 : decode cX11_met 18 = .ok (.aload_n 0, 1) := by decide +kernel
theorem dX11_met_19 : decode cX11_met 19 = .ok (.getfield 42, 3) := by decide +kernel
theorem dX11_met_22 : decode cX11_met 22 = .ok (.iload_n 1, 1) := by decide +kernel
theorem dX11_met_23 : decode cX11_met 23 = .ok (.invokevirtual 255, 3) := by decide +kernel
theorem dX11_met_26 : decode cX11_met 26 = .ok (.invokestatic 133, 3) := by decide +kernel
theorem dX11_met_29 : decode cX11_met 29 = .ok (.ireturn, 1) := by decide +kernel
theorem dX11_unmet_0 : decode cX11_unmet 0 = .ok (.aload_n 0, 1) := by decide +kernel
theorem dX11_unmet_1 : decode cX11_unmet 1 = .ok (.iload_n 1, 1) := by decide +kernel
theorem dX11_unmet_2 : decode cX11_unmet 2 = .ok (.invokevirtual 259, 3) := by decide +kernel
theorem dX11_unmet_5 : decode cX11_unmet 5 = .ok (.ifCond .ne 6, 3) := by decide +kernel
theorem dX11_unmet_8 : decode cX11_unmet 8 = .ok (.ldc 101, 2) := by decide +kernel
theorem dX11_unmet_10 : decode cX11_unmet 10 = .ok (.ireturn, 1) := by decide +kernel
theorem dX11_unmet_11 : decode cX11_unmet 11 = .ok (.aload_n 0, 1) := by decide +kernel
theorem dX11_unmet_12 : decode cX11_unmet 12 = .ok (.getfield 63, 3) := by decide +kernel
theorem dX11_unmet_15 : decode cX11_unmet 15 = .ok (.aload_n 0, 1) := by decide +kernel
theorem dX11_unmet_16 : decode cX11_unmet 16 = .ok (.getfield 42, 3) := by decide +kernel
theorem dX11_unmet_19 : decode cX11_unmet 19 = .ok (.aload_n 0, 1) := by decide +kernel
theorem dX11_unmet_20 : decode cX11_unmet 20 = .ok (.iload_n 1, 1) := by decide +kernel
theorem dX11_unmet_21 : decode cX11_unmet 21 = .ok (.invokevirtual 262, 3) := by decide +kernel
theorem dX11_unmet_24 : decode cX11_unmet 24 = .ok (.iload_n 2, 1) := by decide +kernel
theorem dX11_unmet_25 : decode cX11_unmet 25 = .ok (.invokevirtual 265, 3) := by decide +kernel
theorem dX11_unmet_28 : decode cX11_unmet 28 = .ok (.ireturn, 1) := by decide +kernel
theorem dX11_forget_0 : decode cX11_forget 0 = .ok (.aload_n 0, 1) := by decide +kernel
theorem dX11_forget_1 : decode cX11_forget 1 = .ok (.getfield 63, 3) := by decide +kernel
theorem dX11_forget_4 : decode cX11_forget 4 = .ok (.invokevirtual 158, 3) := by decide +kernel
theorem dX11_forget_7 : decode cX11_forget 7 = .ok (.ifCond .ne 6, 3) := by decide +kernel
theorem dX11_forget_10 : decode cX11_forget 10 = .ok (.ldc 114, 2) := by decide +kernel
theorem dX11_forget_12 : decode cX11_forget 12 = .ok (.ireturn, 1) := by decide +kernel
theorem dX11_forget_13 : decode cX11_forget 13 = .ok (.aload_n 0, 1) := by decide +kernel
theorem dX11_forget_14 : decode cX11_forget 14 = .ok (.getfield 63, 3) := by decide +kernel
theorem dX11_forget_17 : decode cX11_forget 17 = .ok (.invokevirtual 269, 3) := by decide +kernel
theorem dX11_forget_20 : decode cX11_forget 20 = .ok (.aload_n 0, 1) := by decide +kernel
theorem dX11_forget_21 : decode cX11_forget 21 = .ok (.getfield 84, 3) := by decide +kernel
theorem dX11_forget_24 : decode cX11_forget 24 = .ok (.invokevirtual 253, 3) := by decide +kernel
theorem dX11_forget_27 : decode cX11_forget 27 = .ok (.aload_n 0, 1) := by decide +kernel
theorem dX11_forget_28 : decode cX11_forget 28 = .ok (.getfield 63, 3) := by decide +kernel
theorem dX11_forget_31 : decode cX11_forget 31 = .ok (.invokevirtual 158, 3) := by decide +kernel
theorem dX11_forget_34 : decode cX11_forget 34 = .ok (.ireturn, 1) := by decide +kernel
theorem dX11_claim_0 : decode cX11_claim 0 = .ok (.iload_n 1, 1) := by decide +kernel
theorem dX11_claim_1 : decode cX11_claim 1 = .ok (.bipush 8, 2) := by decide +kernel
theorem dX11_claim_3 : decode cX11_claim 3 = .ok (.invokestatic 270, 3) := by decide +kernel
theorem dX11_claim_6 : decode cX11_claim 6 = .ok (.ifCond .eq 28, 3) := by decide +kernel
theorem dX11_claim_9 : decode cX11_claim 9 = .ok (.iload_n 2, 1) := by decide +kernel
theorem dX11_claim_10 : decode cX11_claim 10 = .ok (.bipush 8, 2) := by decide +kernel
theorem dX11_claim_12 : decode cX11_claim 12 = .ok (.invokestatic 270, 3) := by decide +kernel
theorem dX11_claim_15 : decode cX11_claim 15 = .ok (.ifCond .eq 19, 3) := by decide +kernel
theorem dX11_claim_18 : decode cX11_claim 18 = .ok (.iload_n 1, 1) := by decide +kernel
theorem dX11_claim_19 : decode cX11_claim 19 = .ok (.iload_n 2, 1) := by decide +kernel
theorem dX11_claim_20 : decode cX11_claim 20 = .ok (.if_icmp .eq 14, 3) := by decide +kernel
theorem dX11_claim_23 : decode cX11_claim 23 = .ok (.iload_n 3, 1) := by decide +kernel
theorem dX11_claim_24 : decode cX11_claim 24 = .ok (.iconst 1, 1) := by decide +kernel
theorem dX11_claim_25 : decode cX11_claim 25 = .ok (.if_icmp .lt 9, 3) := by decide +kernel
theorem dX11_claim_28 : decode cX11_claim 28 = .ok (.iload_n 3, 1) := by decide +kernel
theorem dX11_claim_29 : decode cX11_claim 29 = .ok (.bipush 99, 2) := by decide +kernel
theorem dX11_claim_31 : decode cX11_claim 31 = .ok (.if_icmp .le 6, 3) := by decide +kernel
theorem dX11_claim_34 : decode cX11_claim 34 = .ok (.ldc 101, 2) := by decide +kernel
theorem dX11_claim_36 : decode cX11_claim 36 = .ok (.ireturn, 1) := by decide +kernel
theorem dX11_claim_37 : decode cX11_claim 37 = .ok (.aload_n 0, 1) := by decide +kernel
theorem dX11_claim_38 : decode cX11_claim 38 = .ok (.getfield 70, 3) := by decide +kernel
theorem dX11_claim_41 : decode cX11_claim 41 = .ok (.invokevirtual 159, 3) := by decide +kernel
theorem dX11_claim_44 : decode cX11_claim 44 = .ok (.bipush 24, 2) := by decide +kernel
theorem dX11_claim_46 : decode cX11_claim 46 = .ok (.if_icmp .lt 6, 3) := by decide +kernel
theorem dX11_claim_49 : decode cX11_claim 49 = .ok (.ldc 106, 2) := by decide +kernel
theorem dX11_claim_51 : decode cX11_claim 51 = .ok (.ireturn, 1) := by decide +kernel
theorem dX11_claim_52 : decode cX11_claim 52 = .ok (.aload_n 0, 1) := by decide +kernel
theorem dX11_claim_53 : decode cX11_claim 53 = .ok (.getfield 70, 3) := by decide +kernel
theorem dX11_claim_56 : decode cX11_claim 56 = .ok (.iload_n 1, 1) := by decide +kernel
theorem dX11_claim_57 : decode cX11_claim 57 = .ok (.iload_n 2, 1) := by decide +kernel
theorem dX11_claim_58 : decode cX11_claim 58 = .ok (.iload_n 3, 1) := by decide +kernel
theorem dX11_claim_59 : decode cX11_claim 59 = .ok (.invokevirtual 274, 3) := by decide +kernel
theorem dX11_claim_62 : decode cX11_claim 62 = .ok (.aload_n 0, 1) := by decide +kernel
theorem dX11_claim_63 : decode cX11_claim 63 = .ok (.getfield 70, 3) := by decide +kernel
theorem dX11_claim_66 : decode cX11_claim 66 = .ok (.invokevirtual 159, 3) := by decide +kernel
theorem dX11_claim_69 : decode cX11_claim 69 = .ok (.iconst 1, 1) := by decide +kernel
theorem dX11_claim_70 : decode cX11_claim 70 = .ok (.isub, 1) := by decide +kernel
theorem dX11_claim_71 : decode cX11_claim 71 = .ok (.ireturn, 1) := by decide +kernel
theorem dX11_row_0 : decode cX11_row 0 = .ok (.iload_n 1, 1) := by decide +kernel
theorem dX11_row_1 : decode cX11_row 1 = .ok (.iconst 2, 1) := by decide +kernel
theorem dX11_row_2 : decode cX11_row 2 = .ok (.if_icmp .lt 22, 3) := by decide +kernel
theorem dX11_row_5 : decode cX11_row 5 = .ok (.iload_n 1, 1) := by decide +kernel
theorem dX11_row_6 : decode cX11_row 6 = .ok (.bipush 8, 2) := by decide +kernel
theorem dX11_row_8 : decode cX11_row 8 = .ok (.if_icmp .gt 16, 3) := by decide +kernel
theorem dX11_row_11 : decode cX11_row 11 = .ok (.iload_n 2, 1) := by decide +kernel
theorem dX11_row_12 : decode cX11_row 12 = .ok (.iconst (-1), 1) := by decide +kernel
theorem dX11_row_13 : decode cX11_row 13 = .ok (.if_icmp .eq 14, 3) := by decide +kernel
theorem dX11_row_16 : decode cX11_row 16 = .ok (.iload_n 2, 1) := by decide +kernel
theorem dX11_row_17 : decode cX11_row 17 = .ok (.iload_n 1, 1) := by decide +kernel
theorem dX11_row_18 : decode cX11_row 18 = .ok (.invokestatic 270, 3) := by decide +kernel
theorem dX11_row_21 : decode cX11_row 21 = .ok (.ifCond .ne 6, 3) := by decide +kernel
theorem dX11_row_24 : decode cX11_row 24 = .ok (.ldc 101, 2) := by decide +kernel
theorem dX11_row_26 : decode cX11_row 26 = .ok (.ireturn, 1) := by decide +kernel
theorem dX11_row_27 : decode cX11_row 27 = .ok (.iload_n 2, 1) := by decide +kernel
theorem dX11_row_28 : decode cX11_row 28 = .ok (.iconst (-1), 1) := by decide +kernel
theorem dX11_row_29 : decode cX11_row 29 = .ok (.if_icmp .ne 14, 3) := by decide +kernel
theorem dX11_row_32 : decode cX11_row 32 = .ok (.aload_n 0, 1) := by decide +kernel
theorem dX11_row_33 : decode cX11_row 33 = .ok (.getfield 70, 3) := by decide +kernel
theorem dX11_row_36 : decode cX11_row 36 = .ok (.iload_n 1, 1) := by decide +kernel
theorem dX11_row_37 : decode cX11_row 37 = .ok (.invokevirtual 277, 3) := by decide +kernel
theorem dX11_row_40 : decode cX11_row 40 = .ok (.goto 12, 3) := by decide +kernel
theorem dX11_row_43 : decode cX11_row 43 = .ok (.aload_n 0, 1) := by decide +kernel
theorem dX11_row_44 : decode cX11_row 44 = .ok (.getfield 70, 3) := by decide +kernel
theorem dX11_row_47 : decode cX11_row 47 = .ok (.iload_n 1, 1) := by decide +kernel
theorem dX11_row_48 : decode cX11_row 48 = .ok (.iload_n 2, 1) := by decide +kernel
theorem dX11_row_49 : decode cX11_row 49 = .ok (.invokevirtual 280, 3) := by decide +kernel
theorem dX11_row_52 : decode cX11_row 52 = .ok (.ireturn, 1) := by decide +kernel
theorem dX11_sure_0 : decode cX11_sure 0 = .ok (.iload_n 1, 1) := by decide +kernel
theorem dX11_sure_1 : decode cX11_sure 1 = .ok (.iconst 2, 1) := by decide +kernel
theorem dX11_sure_2 : decode cX11_sure 2 = .ok (.if_icmp .lt 30, 3) := by decide +kernel
theorem dX11_sure_5 : decode cX11_sure 5 = .ok (.iload_n 1, 1) := by decide +kernel
theorem dX11_sure_6 : decode cX11_sure 6 = .ok (.bipush 8, 2) := by decide +kernel
theorem dX11_sure_8 : decode cX11_sure 8 = .ok (.if_icmp .gt 24, 3) := by decide +kernel
theorem dX11_sure_11 : decode cX11_sure 11 = .ok (.iload_n 2, 1) := by decide +kernel
theorem dX11_sure_12 : decode cX11_sure 12 = .ok (.iload_n 1, 1) := by decide +kernel
theorem dX11_sure_13 : decode cX11_sure 13 = .ok (.invokestatic 270, 3) := by decide +kernel
theorem dX11_sure_16 : decode cX11_sure 16 = .ok (.ifCond .eq 16, 3) := by decide +kernel
theorem dX11_sure_19 : decode cX11_sure 19 = .ok (.iload_n 3, 1) := by decide +kernel
theorem dX11_sure_20 : decode cX11_sure 20 = .ok (.iload_n 1, 1) := by decide +kernel
theorem dX11_sure_21 : decode cX11_sure 21 = .ok (.invokestatic 270, 3) := by decide +kernel
theorem dX11_sure_24 : decode cX11_sure 24 = .ok (.ifCond .eq 8, 3) := by decide +kernel
theorem dX11_sure_27 : decode cX11_sure 27 = .ok (.iload_n 2, 1) := by decide +kernel
theorem dX11_sure_28 : decode cX11_sure 28 = .ok (.iload_n 3, 1) := by decide +kernel
theorem dX11_sure_29 : decode cX11_sure 29 = .ok (.if_icmp .ne 6, 3) := by decide +kernel
theorem dX11_sure_32 : decode cX11_sure 32 = .ok (.ldc 101, 2) := by decide +kernel
theorem dX11_sure_34 : decode cX11_sure 34 = .ok (.ireturn, 1) := by decide +kernel
theorem dX11_sure_35 : decode cX11_sure 35 = .ok (.aload_n 0, 1) := by decide +kernel
theorem dX11_sure_36 : decode cX11_sure 36 = .ok (.getfield 70, 3) := by decide +kernel
theorem dX11_sure_39 : decode cX11_sure 39 = .ok (.iload_n 1, 1) := by decide +kernel
theorem dX11_sure_40 : decode cX11_sure 40 = .ok (.iload_n 2, 1) := by decide +kernel
theorem dX11_sure_41 : decode cX11_sure 41 = .ok (.iload_n 3, 1) := by decide +kernel
theorem dX11_sure_42 : decode cX11_sure 42 = .ok (.invokevirtual 283, 3) := by decide +kernel
theorem dX11_sure_45 : decode cX11_sure 45 = .ok (.ireturn, 1) := by decide +kernel
theorem dX11_broken_0 : decode cX11_broken 0 = .ok (.aload_n 0, 1) := by decide +kernel
theorem dX11_broken_1 : decode cX11_broken 1 = .ok (.getfield 70, 3) := by decide +kernel
theorem dX11_broken_4 : decode cX11_broken 4 = .ok (.aload_n 0, 1) := by decide +kernel
theorem dX11_broken_5 : decode cX11_broken 5 = .ok (.getfield 10, 3) := by decide +kernel
theorem dX11_broken_8 : decode cX11_broken 8 = .ok (.invokevirtual 287, 3) := by decide +kernel
theorem dX11_broken_11 : decode cX11_broken 11 = .ok (.ireturn, 1) := by decide +kernel
theorem dX11_draw_0 : decode cX11_draw 0 = .ok (.iload_n 1, 1) := by decide +kernel
theorem dX11_draw_1 : decode cX11_draw 1 = .ok (.invokestatic 208, 3) := by decide +kernel
theorem dX11_draw_4 : decode cX11_draw 4 = .ok (.ifCond .eq 26, 3) := by decide +kernel
theorem dX11_draw_7 : decode cX11_draw 7 = .ok (.iload_n 2, 1) := by decide +kernel
theorem dX11_draw_8 : decode cX11_draw 8 = .ok (.invokestatic 290, 3) := by decide +kernel
theorem dX11_draw_11 : decode cX11_draw 11 = .ok (.ifCond .eq 19, 3) := by decide +kernel
theorem dX11_draw_14 : decode cX11_draw 14 = .ok (.iload_n 3, 1) := by decide +kernel
theorem dX11_draw_15 : decode cX11_draw 15 = .ok (.invokestatic 186, 3) := by decide +kernel
theorem dX11_draw_18 : decode cX11_draw 18 = .ok (.ifCond .eq 12, 3) := by decide +kernel
theorem dX11_draw_21 : decode cX11_draw 21 = .ok (.aload_n 0, 1) := by decide +kernel
theorem dX11_draw_22 : decode cX11_draw 22 = .ok (.iload 4, 2) := by decide +kernel
theorem dX11_draw_24 : decode cX11_draw 24 = .ok (.invokevirtual 259, 3) := by decide +kernel
theorem dX11_draw_27 : decode cX11_draw 27 = .ok (.ifCond .ne 6, 3) := by decide +kernel
theorem dX11_draw_30 : decode cX11_draw 30 = .ok (.ldc 101, 2) := by decide +kernel
theorem dX11_draw_32 : decode cX11_draw 32 = .ok (.ireturn, 1) := by decide +kernel
theorem dX11_draw_33 : decode cX11_draw 33 = .ok (.iload 5, 2) := by decide +kernel
theorem dX11_draw_35 : decode cX11_draw 35 = .ok (.iconst (-1), 1) := by decide +kernel
theorem dX11_draw_36 : decode cX11_draw 36 = .ok (.if_icmp .eq 14, 3) := by decide +kernel
theorem dX11_draw_39 : decode cX11_draw 39 = .ok (.iload 5, 2) := by decide +kernel
theorem dX11_draw_41 : decode cX11_draw 41 = .ok (.invokestatic 186, 3) := by decide +kernel
theorem dX11_draw_44 : decode cX11_draw 44 = .ok (.ifCond .ne 6, 3) := by decide +kernel
theorem dX11_draw_47 : decode cX11_draw 47 = .ok (.ldc 101, 2) := by decide +kernel
theorem dX11_draw_49 : decode cX11_draw 49 = .ok (.ireturn, 1) := by decide +kernel
theorem dX11_draw_50 : decode cX11_draw 50 = .ok (.aload_n 0, 1) := by decide +kernel
theorem dX11_draw_51 : decode cX11_draw 51 = .ok (.getfield 77, 3) := by decide +kernel
theorem dX11_draw_54 : decode cX11_draw 54 = .ok (.invokevirtual 293, 3) := by decide +kernel
theorem dX11_draw_57 : decode cX11_draw 57 = .ok (.aload_n 0, 1) := by decide +kernel
theorem dX11_draw_58 : decode cX11_draw 58 = .ok (.getfield 63, 3) := by decide +kernel
theorem dX11_draw_61 : decode cX11_draw 61 = .ok (.aload_n 0, 1) := by decide +kernel
theorem dX11_draw_62 : decode cX11_draw 62 = .ok (.getfield 77, 3) := by decide +kernel
theorem dX11_draw_65 : decode cX11_draw 65 = .ok (.iload_n 1, 1) := by decide +kernel
theorem dX11_draw_66 : decode cX11_draw 66 = .ok (.iload_n 2, 1) := by decide +kernel
theorem dX11_draw_67 : decode cX11_draw 67 = .ok (.iload_n 3, 1) := by decide +kernel
theorem dX11_draw_68 : decode cX11_draw 68 = .ok (.aload_n 0, 1) := by decide +kernel
theorem dX11_draw_69 : decode cX11_draw 69 = .ok (.iload 4, 2) := by decide +kernel
theorem dX11_draw_71 : decode cX11_draw 71 = .ok (.invokevirtual 262, 3) := by decide +kernel
theorem dX11_draw_74 : decode cX11_draw 74 = .ok (.invokevirtual 296, 3) := by decide +kernel
theorem dX11_draw_77 : decode cX11_draw 77 = .ok (.aload_n 0, 1) := by decide +kernel
theorem dX11_draw_78 : decode cX11_draw 78 = .ok (.getfield 77, 3) := by decide +kernel
theorem dX11_draw_81 : decode cX11_draw 81 = .ok (.invokevirtual 300, 3) := by decide +kernel
theorem dX11_draw_84 : decode cX11_draw 84 = .ok (.ifCond .ne 6, 3) := by decide +kernel
theorem dX11_draw_87 : decode cX11_draw 87 = .ok (.ldc 114, 2) := by decide +kernel
theorem dX11_draw_89 : decode cX11_draw 89 = .ok (.ireturn, 1) := by decide +kernel
theorem dX11_draw_90 : decode cX11_draw 90 = .ok (.aload_n 0, 1) := by decide +kernel
theorem dX11_draw_91 : decode cX11_draw 91 = .ok (.getfield 77, 3) := by decide +kernel
theorem dX11_draw_94 : decode cX11_draw 94 = .ok (.invokevirtual 304, 3) := by decide +kernel
theorem dX11_draw_97 : decode cX11_draw 97 = .ok (.iload 5, 2) := by decide +kernel
theorem dX11_draw_99 : decode cX11_draw 99 = .ok (.iconst (-1), 1) := by decide +kernel
theorem dX11_draw_100 : decode cX11_draw 100 = .ok (.if_icmp .ne 13, 3) := by decide +kernel
theorem dX11_draw_103 : decode cX11_draw 103 = .ok (.aload_n 0, 1) := by decide +kernel
theorem dX11_draw_104 : decode cX11_draw 104 = .ok (.getfield 77, 3) := by decide +kernel
theorem dX11_draw_107 : decode cX11_draw 107 = .ok (.invokevirtual 306, 3) := by decide +kernel
theorem dX11_draw_110 : decode cX11_draw 110 = .ok (.goto 12, 3) := by decide +kernel
theorem dX11_draw_113 : decode cX11_draw 113 = .ok (.aload_n 0, 1) := by decide +kernel
theorem dX11_draw_114 : decode cX11_draw 114 = .ok (.getfield 77, 3) := by decide +kernel
theorem dX11_draw_117 : decode cX11_draw 117 = .ok (.iload 5, 2) := by decide +kernel
theorem dX11_draw_119 : decode cX11_draw 119 = .ok (.invokevirtual 309, 3) := by decide +kernel
theorem dX11_draw_122 : decode cX11_draw 122 = .ok (.ireturn, 1) := by decide +kernel
theorem dX11_maybe_0 : decode cX11_maybe 0 = .ok (.iload_n 1, 1) := by decide +kernel
theorem dX11_maybe_1 : decode cX11_maybe 1 = .ok (.iload_n 2, 1) := by decide +kernel
theorem dX11_maybe_2 : decode cX11_maybe 2 = .ok (.iload_n 3, 1) := by decide +kernel
theorem dX11_maybe_3 : decode cX11_maybe 3 = .ok (.iload 4, 2) := by decide +kernel
theorem dX11_maybe_5 : decode cX11_maybe 5 = .ok (.iload 5, 2) := by decide +kernel
theorem dX11_maybe_7 : decode cX11_maybe 7 = .ok (.iload 6, 2) := by decide +kernel
theorem dX11_maybe_9 : decode cX11_maybe 9 = .ok (.invokestatic 95, 3) := by decide +kernel
theorem dX11_maybe_12 : decode cX11_maybe 12 = .ok (.ifCond .ne 6, 3) := by decide +kernel
theorem dX11_maybe_15 : decode cX11_maybe 15 = .ok (.ldc 101, 2) := by decide +kernel
theorem dX11_maybe_17 : decode cX11_maybe 17 = .ok (.ireturn, 1) := by decide +kernel
theorem dX11_maybe_18 : decode cX11_maybe 18 = .ok (.aload_n 0, 1) := by decide +kernel
theorem dX11_maybe_19 : decode cX11_maybe 19 = .ok (.getfield 16, 3) := by decide +kernel
theorem dX11_maybe_22 : decode cX11_maybe 22 = .ok (.invokevirtual 102, 3) := by decide +kernel
theorem dX11_maybe_25 : decode cX11_maybe 25 = .ok (.iconst 4, 1) := by decide +kernel
theorem dX11_maybe_26 : decode cX11_maybe 26 = .ok (.if_icmp .lt 6, 3) := by decide +kernel
theorem dX11_maybe_29 : decode cX11_maybe 29 = .ok (.ldc 106, 2) := by decide +kernel
theorem dX11_maybe_31 : decode cX11_maybe 31 = .ok (.ireturn, 1) := by decide +kernel
theorem dX11_maybe_32 : decode cX11_maybe 32 = .ok (.aload_n 0, 1) := by decide +kernel
theorem dX11_maybe_33 : decode cX11_maybe 33 = .ok (.getfield 16, 3) := by decide +kernel
theorem dX11_maybe_36 : decode cX11_maybe 36 = .ok (.iload_n 1, 1) := by decide +kernel
theorem dX11_maybe_37 : decode cX11_maybe 37 = .ok (.iload_n 2, 1) := by decide +kernel
theorem dX11_maybe_38 : decode cX11_maybe 38 = .ok (.iload_n 3, 1) := by decide +kernel
theorem dX11_maybe_39 : decode cX11_maybe 39 = .ok (.iload 4, 2) := by decide +kernel
theorem dX11_maybe_41 : decode cX11_maybe 41 = .ok (.iload 5, 2) := by decide +kernel
theorem dX11_maybe_43 : decode cX11_maybe 43 = .ok (.iload 6, 2) := by decide +kernel
theorem dX11_maybe_45 : decode cX11_maybe 45 = .ok (.invokevirtual 107, 3) := by decide +kernel
theorem dX11_maybe_48 : decode cX11_maybe 48 = .ok (.aload_n 0, 1) := by decide +kernel
theorem dX11_maybe_49 : decode cX11_maybe 49 = .ok (.getfield 84, 3) := by decide +kernel
theorem dX11_maybe_52 : decode cX11_maybe 52 = .ok (.invokevirtual 253, 3) := by decide +kernel
theorem dX11_maybe_55 : decode cX11_maybe 55 = .ok (.aload_n 0, 1) := by decide +kernel
theorem dX11_maybe_56 : decode cX11_maybe 56 = .ok (.getfield 16, 3) := by decide +kernel
theorem dX11_maybe_59 : decode cX11_maybe 59 = .ok (.invokevirtual 102, 3) := by decide +kernel
theorem dX11_maybe_62 : decode cX11_maybe 62 = .ok (.iconst 1, 1) := by decide +kernel
theorem dX11_maybe_63 : decode cX11_maybe 63 = .ok (.isub, 1) := by decide +kernel
theorem dX11_maybe_64 : decode cX11_maybe 64 = .ok (.ireturn, 1) := by decide +kernel
theorem dX11_never_0 : decode cX11_never 0 = .ok (.aload_n 0, 1) := by decide +kernel
theorem dX11_never_1 : decode cX11_never 1 = .ok (.getfield 16, 3) := by decide +kernel
theorem dX11_never_4 : decode cX11_never 4 = .ok (.invokevirtual 102, 3) := by decide +kernel
theorem dX11_never_7 : decode cX11_never 7 = .ok (.istore_n 1, 1) := by decide +kernel
theorem dX11_never_8 : decode cX11_never 8 = .ok (.aload_n 0, 1) := by decide +kernel
theorem dX11_never_9 : decode cX11_never 9 = .ok (.getfield 16, 3) := by decide +kernel
theorem dX11_never_12 : decode cX11_never 12 = .ok (.invokevirtual 118, 3) := by decide +kernel
theorem dX11_never_15 : decode cX11_never 15 = .ok (.aload_n 0, 1) := by decide +kernel
theorem dX11_never_16 : decode cX11_never 16 = .ok (.getfield 84, 3) := by decide +kernel
theorem dX11_never_19 : decode cX11_never 19 = .ok (.invokevirtual 253, 3) := by decide +kernel
theorem dX11_never_22 : decode cX11_never 22 = .ok (.iload_n 1, 1) := by decide +kernel
theorem dX11_never_23 : decode cX11_never 23 = .ok (.ireturn, 1) := by decide +kernel
theorem dX11_stories_0 : decode cX11_stories 0 = .ok (.aload_n 0, 1) := by decide +kernel
theorem dX11_stories_1 : decode cX11_stories 1 = .ok (.iload_n 1, 1) := by decide +kernel
theorem dX11_stories_2 : decode cX11_stories 2 = .ok (.invokevirtual 312, 3) := by decide +kernel
theorem dX11_stories_5 : decode cX11_stories 5 = .ok (.istore_n 2, 1) := by decide +kernel
theorem dX11_stories_6 : decode cX11_stories 6 = .ok (.iload_n 2, 1) := by decide +kernel
theorem dX11_stories_7 : decode cX11_stories 7 = .ok (.ifCond .eq 7, 3) := by decide +kernel
theorem dX11_stories_10 : decode cX11_stories 10 = .ok (.iload_n 2, 1) := by decide +kernel
theorem dX11_stories_11 : decode cX11_stories 11 = .ok (.goto 10, 3) := by decide +kernel
theorem dX11_stories_14 : decode cX11_stories 14 = .ok (.aload_n 0, 1) := by decide +kernel
theorem dX11_stories_15 : decode cX11_stories 15 = .ok (.getfield 84, 3) := by decide +kernel
theorem dX11_stories_18 : decode cX11_stories 18 = .ok (.invokevirtual 315, 3) := by decide +kernel
theorem dX11_stories_21 : decode cX11_stories 21 = .ok (.ireturn, 1) := by decide +kernel
theorem dX11_story_0 : decode cX11_story 0 = .ok (.aload_n 0, 1) := by decide +kernel
theorem dX11_story_1 : decode cX11_story 1 = .ok (.iload_n 1, 1) := by decide +kernel
theorem dX11_story_2 : decode cX11_story 2 = .ok (.invokevirtual 312, 3) := by decide +kernel
theorem dX11_story_5 : decode cX11_story 5 = .ok (.istore 4, 2) := by decide +kernel
theorem dX11_story_7 : decode cX11_story 7 = .ok (.iload 4, 2) := by decide +kernel
theorem dX11_story_9 : decode cX11_story 9 = .ok (.ifCond .eq 6, 3) := by decide +kernel
theorem dX11_story_12 : decode cX11_story 12 = .ok (.iload 4, 2) := by decide +kernel
theorem dX11_story_14 : decode cX11_story 14 = .ok (.ireturn, 1) := by decide +kernel
theorem dX11_story_15 : decode cX11_story 15 = .ok (.iload_n 2, 1) := by decide +kernel
theorem dX11_story_16 : decode cX11_story 16 = .ok (.aload_n 0, 1) := by decide +kernel
theorem dX11_story_17 : decode cX11_story 17 = .ok (.getfield 84, 3) := by decide +kernel
theorem dX11_story_20 : decode cX11_story 20 = .ok (.invokevirtual 315, 3) := by decide +kernel
theorem dX11_story_23 : decode cX11_story 23 = .ok (.invokestatic 270, 3) := by decide +kernel
theorem dX11_story_26 : decode cX11_story 26 = .ok (.ifCond .ne 5, 3) := by decide +kernel
theorem dX11_story_29 : decode cX11_story 29 = .ok (.iconst (-1), 1) := by decide +kernel
theorem dX11_story_30 : decode cX11_story 30 = .ok (.ireturn, 1) := by decide +kernel
theorem dX11_story_31 : decode cX11_story 31 = .ok (.iload_n 3, 1) := by decide +kernel
theorem dX11_story_32 : decode cX11_story 32 = .ok (.iconst (-1), 1) := by decide +kernel
theorem dX11_story_33 : decode cX11_story 33 = .ok (.if_icmp .ne 21, 3) := by decide +kernel
theorem dX11_story_36 : decode cX11_story 36 = .ok (.aload_n 0, 1) := by decide +kernel
theorem dX11_story_37 : decode cX11_story 37 = .ok (.getfield 84, 3) := by decide +kernel
theorem dX11_story_40 : decode cX11_story 40 = .ok (.aload_n 0, 1) := by decide +kernel
theorem dX11_story_41 : decode cX11_story 41 = .ok (.getfield 84, 3) := by decide +kernel
theorem dX11_story_44 : decode cX11_story 44 = .ok (.iload_n 2, 1) := by decide +kernel
theorem dX11_story_45 : decode cX11_story 45 = .ok (.invokevirtual 318, 3) := by decide +kernel
theorem dX11_story_48 : decode cX11_story 48 = .ok (.invokevirtual 321, 3) := by decide +kernel
theorem dX11_story_51 : decode cX11_story 51 = .ok (.goto 19, 3) := by decide +kernel
theorem dX11_story_54 : decode cX11_story 54 = .ok (.aload_n 0, 1) := by decide +kernel
theorem dX11_story_55 : decode cX11_story 55 = .ok (.getfield 84, 3) := by decide +kernel
theorem dX11_story_58 : decode cX11_story 58 = .ok (.aload_n 0, 1) := by decide +kernel
theorem dX11_story_59 : decode cX11_story 59 = .ok (.getfield 84, 3) := by decide +kernel
theorem dX11_story_62 : decode cX11_story 62 = .ok (.iload_n 2, 1) := by decide +kernel
theorem dX11_story_63 : decode cX11_story 63 = .ok (.invokevirtual 318, 3) := by decide +kernel
theorem dX11_story_66 : decode cX11_story 66 = .ok (.iload_n 3, 1) := by decide +kernel
theorem dX11_story_67 : decode cX11_story 67 = .ok (.invokevirtual 324, 3) := by decide +kernel
theorem dX11_story_70 : decode cX11_story 70 = .ok (.ireturn, 1) := by decide +kernel
theorem dX11_next_0 : decode cX11_next 0 = .ok (.iload_n 2, 1) := by decide +kernel
theorem dX11_next_1 : decode cX11_next 1 = .ok (.ifCond .lt 8, 3) := by decide +kernel
theorem dX11_next_4 : decode cX11_next 4 = .ok (.iload_n 2, 1) := by decide +kernel
theorem dX11_next_5 : decode cX11_next 5 = .ok (.iconst 2, 1) := by decide +kernel
theorem dX11_next_6 : decode cX11_next 6 = .ok (.if_icmp .le 6, 3) := by decide +kernel
theorem dX11_next_9 : decode cX11_next 9 = .ok (.ldc 101, 2) := by decide +kernel
theorem dX11_next_11 : decode cX11_next 11 = .ok (.ireturn, 1) := by decide +kernel
theorem dX11_next_12 : decode cX11_next 12 = .ok (.aload_n 0, 1) := by decide +kernel
theorem dX11_next_13 : decode cX11_next 13 = .ok (.iload_n 1, 1) := by decide +kernel
theorem dX11_next_14 : decode cX11_next 14 = .ok (.invokevirtual 312, 3) := by decide +kernel
theorem dX11_next_17 : decode cX11_next 17 = .ok (.istore_n 3, 1) := by decide +kernel
theorem dX11_next_18 : decode cX11_next 18 = .ok (.iload_n 3, 1) := by decide +kernel
theorem dX11_next_19 : decode cX11_next 19 = .ok (.ifCond .eq 5, 3) := by decide +kernel
theorem dX11_next_22 : decode cX11_next 22 = .ok (.iload_n 3, 1) := by decide +kernel
theorem dX11_next_23 : decode cX11_next 23 = .ok (.ireturn, 1) := by decide +kernel
theorem dX11_next_24 : decode cX11_next 24 = .ok (.aload_n 0, 1) := by decide +kernel
theorem dX11_next_25 : decode cX11_next 25 = .ok (.getfield 84, 3) := by decide +kernel
theorem dX11_next_28 : decode cX11_next 28 = .ok (.invokevirtual 315, 3) := by decide +kernel
theorem dX11_next_31 : decode cX11_next 31 = .ok (.ifCond .ne 6, 3) := by decide +kernel
theorem dX11_next_34 : decode cX11_next 34 = .ok (.ldc 114, 2) := by decide +kernel
theorem dX11_next_36 : decode cX11_next 36 = .ok (.ireturn, 1) := by decide +kernel
theorem dX11_next_37 : decode cX11_next 37 = .ok (.aload_n 0, 1) := by decide +kernel
theorem dX11_next_38 : decode cX11_next 38 = .ok (.getfield 91, 3) := by decide +kernel
theorem dX11_next_41 : decode cX11_next 41 = .ok (.aload_n 0, 1) := by decide +kernel
theorem dX11_next_42 : decode cX11_next 42 = .ok (.getfield 84, 3) := by decide +kernel
theorem dX11_next_45 : decode cX11_next 45 = .ok (.aload_n 0, 1) := by decide +kernel
theorem dX11_next_46 : decode cX11_next 46 = .ok (.getfield 42, 3) := by decide +kernel
theorem dX11_next_49 : decode cX11_next 49 = .ok (.aload_n 0, 1) := by decide +kernel
theorem dX11_next_50 : decode cX11_next 50 = .ok (.getfield 16, 3) := by decide +kernel
theorem dX11_next_53 : decode cX11_next 53 = .ok (.invokevirtual 327, 3) := by decide +kernel
theorem dX11_next_56 : decode cX11_next 56 = .ok (.iload_n 2, 1) := by decide +kernel
theorem dX11_next_57 : decode cX11_next 57 = .ok (.ifCond .ne 11, 3) := by decide +kernel
theorem dX11_next_60 : decode cX11_next 60 = .ok (.aload_n 0, 1) := by decide +kernel
theorem dX11_next_61 : decode cX11_next 61 = .ok (.getfield 91, 3) := by decide +kernel
theorem dX11_next_64 : decode cX11_next 64 = .ok (.invokevirtual 330, 3) := by decide +kernel
theorem dX11_next_67 : decode cX11_next 67 = .ok (.ireturn, 1) := by decide +kernel
theorem dX11_next_68 : decode cX11_next 68 = .ok (.iload_n 2, 1) := by decide +kernel
theorem dX11_next_69 : decode cX11_next 69 = .ok (.iconst 1, 1) := by decide +kernel
theorem dX11_next_70 : decode cX11_next 70 = .ok (.if_icmp .ne 13, 3) := by decide +kernel
theorem dX11_next_73 : decode cX11_next 73 = .ok (.aload_n 0, 1) := by decide +kernel
theorem dX11_next_74 : decode cX11_next 74 = .ok (.getfield 91, 3) := by decide +kernel
theorem dX11_next_77 : decode cX11_next 77 = .ok (.invokevirtual 333, 3) := by decide +kernel
theorem dX11_next_80 : decode cX11_next 80 = .ok (.goto 10, 3) := by decide +kernel
theorem dX11_next_83 : decode cX11_next 83 = .ok (.aload_n 0, 1) := by decide +kernel
theorem dX11_next_84 : decode cX11_next 84 = .ok (.getfield 91, 3) := by decide +kernel
theorem dX11_next_87 : decode cX11_next 87 = .ok (.invokevirtual 336, 3) := by decide +kernel
theorem dX11_next_90 : decode cX11_next 90 = .ok (.ireturn, 1) := by decide +kernel
theorem dX11_take_0 : decode cX11_take 0 = .ok (.aload_n 0, 1) := by decide +kernel
theorem dX11_take_1 : decode cX11_take 1 = .ok (.iload_n 1, 1) := by decide +kernel
theorem dX11_take_2 : decode cX11_take 2 = .ok (.invokevirtual 312, 3) := by decide +kernel
theorem dX11_take_5 : decode cX11_take 5 = .ok (.istore_n 3, 1) := by decide +kernel
theorem dX11_take_6 : decode cX11_take 6 = .ok (.iload_n 3, 1) := by decide +kernel
theorem dX11_take_7 : decode cX11_take 7 = .ok (.ifCond .eq 5, 3) := by decide +kernel
theorem dX11_take_10 : decode cX11_take 10 = .ok (.iload_n 3, 1) := by decide +kernel
theorem dX11_take_11 : decode cX11_take 11 = .ok (.ireturn, 1) := by decide +kernel
theorem dX11_take_12 : decode cX11_take 12 = .ok (.iload_n 2, 1) := by decide +kernel
theorem dX11_take_13 : decode cX11_take 13 = .ok (.aload_n 0, 1) := by decide +kernel
theorem dX11_take_14 : decode cX11_take 14 = .ok (.getfield 84, 3) := by decide +kernel
theorem dX11_take_17 : decode cX11_take 17 = .ok (.invokevirtual 315, 3) := by decide +kernel
theorem dX11_take_20 : decode cX11_take 20 = .ok (.invokestatic 270, 3) := by decide +kernel
theorem dX11_take_23 : decode cX11_take 23 = .ok (.ifCond .ne 6, 3) := by decide +kernel
theorem dX11_take_26 : decode cX11_take 26 = .ok (.ldc 114, 2) := by decide +kernel
theorem dX11_take_28 : decode cX11_take 28 = .ok (.ireturn, 1) := by decide +kernel
theorem dX11_take_29 : decode cX11_take 29 = .ok (.aload_n 0, 1) := by decide +kernel
theorem dX11_take_30 : decode cX11_take 30 = .ok (.getfield 84, 3) := by decide +kernel
theorem dX11_take_33 : decode cX11_take 33 = .ok (.iload_n 2, 1) := by decide +kernel
theorem dX11_take_34 : decode cX11_take 34 = .ok (.invokevirtual 318, 3) := by decide +kernel
theorem dX11_take_37 : decode cX11_take 37 = .ok (.istore 4, 2) := by decide +kernel
theorem dX11_take_39 : decode cX11_take 39 = .ok (.iconst 0, 1) := by decide +kernel
theorem dX11_take_40 : decode cX11_take 40 = .ok (.istore 5, 2) := by decide +kernel
theorem dX11_take_42 : decode cX11_take 42 = .ok (.iload 5, 2) := by decide +kernel
theorem dX11_take_44 : decode cX11_take 44 = .ok (.aload_n 0, 1) := by decide +kernel
theorem dX11_take_45 : decode cX11_take 45 = .ok (.getfield 84, 3) := by decide +kernel
theorem dX11_take_48 : decode cX11_take 48 = .ok (.iload 4, 2) := by decide +kernel
theorem dX11_take_50 : decode cX11_take 50 = .ok (.invokevirtual 321, 3) := by decide +kernel
theorem dX11_take_53 : decode cX11_take 53 = .ok (.if_icmp .ge 31, 3) := by decide +kernel
theorem dX11_take_56 : decode cX11_take 56 = .ok (.aload_n 0, 1) := by decide +kernel
theorem dX11_take_57 : decode cX11_take 57 = .ok (.getfield 10, 3) := by decide +kernel
theorem dX11_take_60 : decode cX11_take 60 = .ok (.aload_n 0, 1) := by decide +kernel
theorem dX11_take_61 : decode cX11_take 61 = .ok (.getfield 16, 3) := by decide +kernel
theorem dX11_take_64 : decode cX11_take 64 = .ok (.aload_n 0, 1) := by decide +kernel
theorem dX11_take_65 : decode cX11_take 65 = .ok (.getfield 84, 3) := by decide +kernel
theorem dX11_take_68 : decode cX11_take 68 = .ok (.iload 4, 2) := by decide +kernel
theorem dX11_take_70 : decode cX11_take 70 = .ok (.iload 5, 2) := by decide +kernel
theorem dX11_take_72 : decode cX11_take 72 = .ok (.invokevirtual 324, 3) := by decide +kernel
theorem dX11_take_75 : decode cX11_take 75 = .ok (.invokevirtual 338, 3) := by decide +kernel
theorem dX11_take_78 : decode cX11_take 78 = .ok (.iinc 5 1, 3) := by decide +kernel
theorem dX11_take_81 : decode cX11_take 81 = .ok (.goto (-39), 3) := by decide +kernel
theorem dX11_take_84 : decode cX11_take 84 = .ok (.aload_n 0, 1) := by decide +kernel
theorem dX11_take_85 : decode cX11_take 85 = .ok (.invokevirtual 111, 3) := by decide +kernel
theorem dX11_take_88 : decode cX11_take 88 = .ok (.aload_n 0, 1) := by decide +kernel
theorem dX11_take_89 : decode cX11_take 89 = .ok (.getfield 10, 3) := by decide +kernel
theorem dX11_take_92 : decode cX11_take 92 = .ok (.invokevirtual 102, 3) := by decide +kernel
theorem dX11_take_95 : decode cX11_take 95 = .ok (.ireturn, 1) := by decide +kernel
theorem dX11_renew_0 : decode cX11_renew 0 = .ok (.aload_n 0, 1) := by decide +kernel
theorem dX11_renew_1 : decode cX11_renew 1 = .ok (.getfield 42, 3) := by decide +kernel
theorem dX11_renew_4 : decode cX11_renew 4 = .ok (.aload_n 0, 1) := by decide +kernel
theorem dX11_renew_5 : decode cX11_renew 5 = .ok (.getfield 10, 3) := by decide +kernel
theorem dX11_renew_8 : decode cX11_renew 8 = .ok (.aload_n 0, 1) := by decide +kernel
theorem dX11_renew_9 : decode cX11_renew 9 = .ok (.getfield 10, 3) := by decide +kernel
theorem dX11_renew_12 : decode cX11_renew 12 = .ok (.invokevirtual 102, 3) := by decide +kernel
theorem dX11_renew_15 : decode cX11_renew 15 = .ok (.invokevirtual 342, 3) := by decide +kernel
theorem dX11_renew_18 : decode cX11_renew 18 = .ok (.aload_n 0, 1) := by decide +kernel
theorem dX11_renew_19 : decode cX11_renew 19 = .ok (.getfield 56, 3) := by decide +kernel
theorem dX11_renew_22 : decode cX11_renew 22 = .ok (.invokevirtual 145, 3) := by decide +kernel
theorem dX11_renew_25 : decode cX11_renew 25 = .ok (.aload_n 0, 1) := by decide +kernel
theorem dX11_renew_26 : decode cX11_renew 26 = .ok (.getfield 84, 3) := by decide +kernel
theorem dX11_renew_29 : decode cX11_renew 29 = .ok (.invokevirtual 253, 3) := by decide +kernel
theorem dX11_renew_32 : decode cX11_renew 32 = .ok (.return_, 1) := by decide +kernel
theorem dX11_tellStories_0 : decode cX11_tellStories 0 = .ok (.aload_n 0, 1) := by decide +kernel
theorem dX11_tellStories_1 : decode cX11_tellStories 1 = .ok (.iload_n 1, 1) := by decide +kernel
theorem dX11_tellStories_2 : decode cX11_tellStories 2 = .ok (.invokevirtual 259, 3) := by decide +kernel
theorem dX11_tellStories_5 : decode cX11_tellStories 5 = .ok (.ifCond .ne 6, 3) := by decide +kernel
theorem dX11_tellStories_8 : decode cX11_tellStories 8 = .ok (.ldc 101, 2) := by decide +kernel
theorem dX11_tellStories_10 : decode cX11_tellStories 10 = .ok (.ireturn, 1) := by decide +kernel
theorem dX11_tellStories_11 : decode cX11_tellStories 11 = .ok (.aload_n 0, 1) := by decide +kernel
theorem dX11_tellStories_12 : decode cX11_tellStories 12 = .ok (.getfield 10, 3) := by decide +kernel
theorem dX11_tellStories_15 : decode cX11_tellStories 15 = .ok (.invokevirtual 102, 3) := by decide +kernel
theorem dX11_tellStories_18 : decode cX11_tellStories 18 = .ok (.aload_n 0, 1) := by decide +kernel
theorem dX11_tellStories_19 : decode cX11_tellStories 19 = .ok (.getfield 16, 3) := by decide +kernel
theorem dX11_tellStories_22 : decode cX11_tellStories 22 = .ok (.invokevirtual 102, 3) := by decide +kernel
theorem dX11_tellStories_25 : decode cX11_tellStories 25 = .ok (.iadd, 1) := by decide +kernel
theorem dX11_tellStories_26 : decode cX11_tellStories 26 = .ok (.bipush 16, 2) := by decide +kernel
theorem dX11_tellStories_28 : decode cX11_tellStories 28 = .ok (.if_icmp .le 6, 3) := by decide +kernel
theorem dX11_tellStories_31 : decode cX11_tellStories 31 = .ok (.ldc 106, 2) := by decide +kernel
theorem dX11_tellStories_33 : decode cX11_tellStories 33 = .ok (.ireturn, 1) := by decide +kernel
theorem dX11_tellStories_34 : decode cX11_tellStories 34 = .ok (.aload_n 0, 1) := by decide +kernel
theorem dX11_tellStories_35 : decode cX11_tellStories 35 = .ok (.getfield 84, 3) := by decide +kernel
theorem dX11_tellStories_38 : decode cX11_tellStories 38 = .ok (.aload_n 0, 1) := by decide +kernel
theorem dX11_tellStories_39 : decode cX11_tellStories 39 = .ok (.getfield 42, 3) := by decide +kernel
theorem dX11_tellStories_42 : decode cX11_tellStories 42 = .ok (.aload_n 0, 1) := by decide +kernel
theorem dX11_tellStories_43 : decode cX11_tellStories 43 = .ok (.getfield 16, 3) := by decide +kernel
theorem dX11_tellStories_46 : decode cX11_tellStories 46 = .ok (.aload_n 0, 1) := by decide +kernel
theorem dX11_tellStories_47 : decode cX11_tellStories 47 = .ok (.getfield 63, 3) := by decide +kernel
theorem dX11_tellStories_50 : decode cX11_tellStories 50 = .ok (.aload_n 0, 1) := by decide +kernel
theorem dX11_tellStories_51 : decode cX11_tellStories 51 = .ok (.iload_n 1, 1) := by decide +kernel
theorem dX11_tellStories_52 : decode cX11_tellStories 52 = .ok (.invokevirtual 262, 3) := by decide +kernel
theorem dX11_tellStories_55 : decode cX11_tellStories 55 = .ok (.invokevirtual 344, 3) := by decide +kernel
theorem dX11_tellStories_58 : decode cX11_tellStories 58 = .ok (.iconst 0, 1) := by decide +kernel
theorem dX11_tellStories_59 : decode cX11_tellStories 59 = .ok (.ireturn, 1) := by decide +kernel
theorem dX11_isKnown_0 : decode cX11_isKnown 0 = .ok (.iload_n 1, 1) := by decide +kernel
theorem dX11_isKnown_1 : decode cX11_isKnown 1 = .ok (.iconst (-1), 1) := by decide +kernel
theorem dX11_isKnown_2 : decode cX11_isKnown 2 = .ok (.if_icmp .lt 18, 3) := by decide +kernel
theorem dX11_isKnown_5 : decode cX11_isKnown 5 = .ok (.iload_n 1, 1) := by decide +kernel
theorem dX11_isKnown_6 : decode cX11_isKnown 6 = .ok (.aload_n 0, 1) := by decide +kernel
theorem dX11_isKnown_7 : decode cX11_isKnown 7 = .ok (.getfield 63, 3) := by decide +kernel
theorem dX11_isKnown_10 : decode cX11_isKnown 10 = .ok (.invokevirtual 158, 3) := by decide +kernel
theorem dX11_isKnown_13 : decode cX11_isKnown 13 = .ok (.if_icmp .gt 7, 3) := by decide +kernel
theorem dX11_isKnown_16 : decode cX11_isKnown 16 = .ok (.iconst 1, 1) := by decide +kernel
theorem dX11_isKnown_17 : decode cX11_isKnown 17 = .ok (.goto 4, 3) := by decide +kernel
theorem dX11_isKnown_20 : decode cX11_isKnown 20 = .ok (.iconst 0, 1) := by decide +kernel
theorem dX11_isKnown_21 : decode cX11_isKnown 21 = .ok (.ireturn, 1) := by decide +kernel
theorem dX11_knownOf_0 : decode cX11_knownOf 0 = .ok (.iload_n 1, 1) := by decide +kernel
theorem dX11_knownOf_1 : decode cX11_knownOf 1 = .ok (.iconst (-1), 1) := by decide +kernel
theorem dX11_knownOf_2 : decode cX11_knownOf 2 = .ok (.if_icmp .ne 13, 3) := by decide +kernel
theorem dX11_knownOf_5 : decode cX11_knownOf 5 = .ok (.aload_n 0, 1) := by decide +kernel
theorem dX11_knownOf_6 : decode cX11_knownOf 6 = .ok (.getfield 63, 3) := by decide +kernel
theorem dX11_knownOf_9 : decode cX11_knownOf 9 = .ok (.invokevirtual 158, 3) := by decide +kernel
theorem dX11_knownOf_12 : decode cX11_knownOf 12 = .ok (.goto 4, 3) := by decide +kernel
theorem dX11_knownOf_15 : decode cX11_knownOf 15 = .ok (.iload_n 1, 1) := by decide +kernel
theorem dX11_knownOf_16 : decode cX11_knownOf 16 = .ok (.ireturn, 1) := by decide +kernel
theorem dX11_hasVersion_0 : decode cX11_hasVersion 0 = .ok (.iload_n 1, 1) := by decide +kernel
theorem dX11_hasVersion_1 : decode cX11_hasVersion 1 = .ok (.ifCond .lt 25, 3) := by decide +kernel
theorem dX11_hasVersion_4 : decode cX11_hasVersion 4 = .ok (.iload_n 1, 1) := by decide +kernel
theorem dX11_hasVersion_5 : decode cX11_hasVersion 5 = .ok (.aload_n 0, 1) := by decide +kernel
theorem dX11_hasVersion_6 : decode cX11_hasVersion 6 = .ok (.getfield 26, 3) := by decide +kernel
theorem dX11_hasVersion_9 : decode cX11_hasVersion 9 = .ok (.arraylength, 1) := by decide +kernel
theorem dX11_hasVersion_10 : decode cX11_hasVersion 10 = .ok (.if_icmp .ge 16, 3) := by decide +kernel
theorem dX11_hasVersion_13 : decode cX11_hasVersion 13 = .ok (.aload_n 0, 1) := by decide +kernel
theorem dX11_hasVersion_14 : decode cX11_hasVersion 14 = .ok (.getfield 26, 3) := by decide +kernel
theorem dX11_hasVersion_17 : decode cX11_hasVersion 17 = .ok (.iload_n 1, 1) := by decide +kernel
theorem dX11_hasVersion_18 : decode cX11_hasVersion 18 = .ok (.baload, 1) := by decide +kernel
theorem dX11_hasVersion_19 : decode cX11_hasVersion 19 = .ok (.ifCond .eq 7, 3) := by decide +kernel
theorem dX11_hasVersion_22 : decode cX11_hasVersion 22 = .ok (.iconst 1, 1) := by decide +kernel
theorem dX11_hasVersion_23 : decode cX11_hasVersion 23 = .ok (.goto 4, 3) := by decide +kernel
theorem dX11_hasVersion_26 : decode cX11_hasVersion 26 = .ok (.iconst 0, 1) := by decide +kernel
theorem dX11_hasVersion_27 : decode cX11_hasVersion 27 = .ok (.ireturn, 1) := by decide +kernel
theorem dX11_version_0 : decode cX11_version 0 = .ok (.iload_n 1, 1) := by decide +kernel
theorem dX11_version_1 : decode cX11_version 1 = .ok (.ifCond .lt 21, 3) := by decide +kernel
theorem dX11_version_4 : decode cX11_version 4 = .ok (.iload_n 1, 1) := by decide +kernel
theorem dX11_version_5 : decode cX11_version 5 = .ok (.aload_n 0, 1) := by decide +kernel
theorem dX11_version_6 : decode cX11_version 6 = .ok (.getfield 22, 3) := by decide +kernel
theorem dX11_version_9 : decode cX11_version 9 = .ok (.arraylength, 1) := by decide +kernel
theorem dX11_version_10 : decode cX11_version 10 = .ok (.if_icmp .ge 12, 3) := by decide +kernel
theorem dX11_version_13 : decode cX11_version 13 = .ok (.aload_n 0, 1) := by decide +kernel
theorem dX11_version_14 : decode cX11_version 14 = .ok (.getfield 22, 3) := by decide +kernel
theorem dX11_version_17 : decode cX11_version 17 = .ok (.iload_n 1, 1) := by decide +kernel
theorem dX11_version_18 : decode cX11_version 18 = .ok (.aaload, 1) := by decide +kernel
theorem dX11_version_19 : decode cX11_version 19 = .ok (.ifnonnull 8, 3) := by decide +kernel
theorem dX11_version_22 : decode cX11_version 22 = .ok (.aload_n 0, 1) := by decide +kernel
theorem dX11_version_23 : decode cX11_version 23 = .ok (.getfield 19, 3) := by decide +kernel
theorem dX11_version_26 : decode cX11_version 26 = .ok (.areturn, 1) := by decide +kernel
theorem dX11_version_27 : decode cX11_version 27 = .ok (.aload_n 0, 1) := by decide +kernel
theorem dX11_version_28 : decode cX11_version 28 = .ok (.getfield 22, 3) := by decide +kernel
theorem dX11_version_31 : decode cX11_version 31 = .ok (.iload_n 1, 1) := by decide +kernel
theorem dX11_version_32 : decode cX11_version 32 = .ok (.aaload, 1) := by decide +kernel
theorem dX11_version_33 : decode cX11_version 33 = .ok (.areturn, 1) := by decide +kernel
theorem dX11_keptVersions_0 : decode cX11_keptVersions 0 = .ok (.iconst 0, 1) := by decide +kernel
theorem dX11_keptVersions_1 : decode cX11_keptVersions 1 = .ok (.istore_n 1, 1) := by decide +kernel
theorem dX11_keptVersions_2 : decode cX11_keptVersions 2 = .ok (.iconst 0, 1) := by decide +kernel
theorem dX11_keptVersions_3 : decode cX11_keptVersions 3 = .ok (.istore_n 2, 1) := by decide +kernel
theorem dX11_keptVersions_4 : decode cX11_keptVersions 4 = .ok (.iload_n 2, 1) := by decide +kernel
theorem dX11_keptVersions_5 : decode cX11_keptVersions 5 = .ok (.aload_n 0, 1) := by decide +kernel
theorem dX11_keptVersions_6 : decode cX11_keptVersions 6 = .ok (.getfield 26, 3) := by decide +kernel
theorem dX11_keptVersions_9 : decode cX11_keptVersions 9 = .ok (.arraylength, 1) := by decide +kernel
theorem dX11_keptVersions_10 : decode cX11_keptVersions 10 = .ok (.if_icmp .ge 21, 3) := by decide +kernel
theorem dX11_keptVersions_13 : decode cX11_keptVersions 13 = .ok (.aload_n 0, 1) := by decide +kernel
theorem dX11_keptVersions_14 : decode cX11_keptVersions 14 = .ok (.getfield 26, 3) := by decide +kernel
theorem dX11_keptVersions_17 : decode cX11_keptVersions 17 = .ok (.iload_n 2, 1) := by decide +kernel
theorem dX11_keptVersions_18 : decode cX11_keptVersions 18 = .ok (.baload, 1) := by decide +kernel
theorem dX11_keptVersions_19 : decode cX11_keptVersions 19 = .ok (.ifCond .eq 6, 3) := by decide +kernel
theorem dX11_keptVersions_22 : decode cX11_keptVersions 22 = .ok (.iinc 1 1, 3) := by decide +kernel
theorem dX11_keptVersions_25 : decode cX11_keptVersions 25 = .ok (.iinc 2 1, 3) := by decide +kernel
theorem dX11_keptVersions_28 : decode cX11_keptVersions 28 = .ok (.goto (-24), 3) := by decide +kernel
theorem dX11_keptVersions_31 : decode cX11_keptVersions 31 = .ok (.iload_n 1, 1) := by decide +kernel
theorem dX11_keptVersions_32 : decode cX11_keptVersions 32 = .ok (.ireturn, 1) := by decide +kernel
theorem dX11_unlikeColumns_0 : decode cX11_unlikeColumns 0 = .ok (.iconst 0, 1) := by decide +kernel
theorem dX11_unlikeColumns_1 : decode cX11_unlikeColumns 1 = .ok (.istore_n 2, 1) := by decide +kernel
theorem dX11_unlikeColumns_2 : decode cX11_unlikeColumns 2 = .ok (.iconst 0, 1) := by decide +kernel
theorem dX11_unlikeColumns_3 : decode cX11_unlikeColumns 3 = .ok (.istore_n 3, 1) := by decide +kernel
theorem dX11_unlikeColumns_4 : decode cX11_unlikeColumns 4 = .ok (.iload_n 3, 1) := by decide +kernel
theorem dX11_unlikeColumns_5 : decode cX11_unlikeColumns 5 = .ok (.bipush 64, 2) := by decide +kernel
theorem dX11_unlikeColumns_7 : decode cX11_unlikeColumns 7 = .ok (.if_icmp .ge 21, 3) := by decide +kernel
theorem dX11_unlikeColumns_10 : decode cX11_unlikeColumns 10 = .ok (.aload_n 0, 1) := by decide +kernel
theorem dX11_unlikeColumns_11 : decode cX11_unlikeColumns 11 = .ok (.aload_n 1, 1) := by decide +kernel
theorem dX11_unlikeColumns_12 : decode cX11_unlikeColumns 12 = .ok (.iload_n 3, 1) := by decide +kernel
theorem dX11_unlikeColumns_13 : decode cX11_unlikeColumns 13 = .ok (.invokevirtual 347, 3) := by decide +kernel
theorem dX11_unlikeColumns_16 : decode cX11_unlikeColumns 16 = .ok (.ifCond .le 6, 3) := by decide +kernel
theorem dX11_unlikeColumns_19 : decode cX11_unlikeColumns 19 = .ok (.iinc 2 1, 3) := by decide +kernel
theorem dX11_unlikeColumns_22 : decode cX11_unlikeColumns 22 = .ok (.iinc 3 1, 3) := by decide +kernel
theorem dX11_unlikeColumns_25 : decode cX11_unlikeColumns 25 = .ok (.goto (-21), 3) := by decide +kernel
theorem dX11_unlikeColumns_28 : decode cX11_unlikeColumns 28 = .ok (.iload_n 2, 1) := by decide +kernel
theorem dX11_unlikeColumns_29 : decode cX11_unlikeColumns 29 = .ok (.ireturn, 1) := by decide +kernel
theorem dX11_firstUnlikeColumn_0 : decode cX11_firstUnlikeColumn 0 = .ok (.iconst 0, 1) := by decide +kernel
theorem dX11_firstUnlikeColumn_1 : decode cX11_firstUnlikeColumn 1 = .ok (.istore_n 2, 1) := by decide +kernel
theorem dX11_firstUnlikeColumn_2 : decode cX11_firstUnlikeColumn 2 = .ok (.iload_n 2, 1) := by decide +kernel
theorem dX11_firstUnlikeColumn_3 : decode cX11_firstUnlikeColumn 3 = .ok (.bipush 64, 2) := by decide +kernel
theorem dX11_firstUnlikeColumn_5 : decode cX11_firstUnlikeColumn 5 = .ok (.if_icmp .ge 20, 3) := by decide +kernel
theorem dX11_firstUnlikeColumn_8 : decode cX11_firstUnlikeColumn 8 = .ok (.aload_n 0, 1) := by decide +kernel
theorem dX11_firstUnlikeColumn_9 : decode cX11_firstUnlikeColumn 9 = .ok (.aload_n 1, 1) := by decide +kernel
theorem dX11_firstUnlikeColumn_10 : decode cX11_firstUnlikeColumn 10 = .ok (.iload_n 2, 1) := by decide +kernel
theorem dX11_firstUnlikeColumn_11 : decode cX11_firstUnlikeColumn 11 = .ok (.invokevirtual 347, 3) := by decide +kernel
theorem dX11_firstUnlikeColumn_14 : decode cX11_firstUnlikeColumn 14 = .ok (.ifCond .le 5, 3) := by decide +kernel
theorem dX11_firstUnlikeColumn_17 : decode cX11_firstUnlikeColumn 17 = .ok (.iload_n 2, 1) := by decide +kernel
theorem dX11_firstUnlikeColumn_18 : decode cX11_firstUnlikeColumn 18 = .ok (.ireturn, 1) := by decide +kernel
theorem dX11_firstUnlikeColumn_19 : decode cX11_firstUnlikeColumn 19 = .ok (.iinc 2 1, 3) := by decide +kernel
theorem dX11_firstUnlikeColumn_22 : decode cX11_firstUnlikeColumn 22 = .ok (.goto (-20), 3) := by decide +kernel
theorem dX11_firstUnlikeColumn_25 : decode cX11_firstUnlikeColumn 25 = .ok (.iconst (-1), 1) := by decide +kernel
theorem dX11_firstUnlikeColumn_26 : decode cX11_firstUnlikeColumn 26 = .ok (.ireturn, 1) := by decide +kernel
theorem dX11_unlikeCells_0 : decode cX11_unlikeCells 0 = .ok (.iconst 0, 1) := by decide +kernel
theorem dX11_unlikeCells_1 : decode cX11_unlikeCells 1 = .ok (.istore_n 2, 1) := by decide +kernel
theorem dX11_unlikeCells_2 : decode cX11_unlikeCells 2 = .ok (.iconst 0, 1) := by decide +kernel
theorem dX11_unlikeCells_3 : decode cX11_unlikeCells 3 = .ok (.istore_n 3, 1) := by decide +kernel
theorem dX11_unlikeCells_4 : decode cX11_unlikeCells 4 = .ok (.iload_n 3, 1) := by decide +kernel
theorem dX11_unlikeCells_5 : decode cX11_unlikeCells 5 = .ok (.bipush 64, 2) := by decide +kernel
theorem dX11_unlikeCells_7 : decode cX11_unlikeCells 7 = .ok (.if_icmp .ge 18, 3) := by decide +kernel
theorem dX11_unlikeCells_10 : decode cX11_unlikeCells 10 = .ok (.iload_n 2, 1) := by decide +kernel
theorem dX11_unlikeCells_11 : decode cX11_unlikeCells 11 = .ok (.aload_n 0, 1) := by decide +kernel
theorem dX11_unlikeCells_12 : decode cX11_unlikeCells 12 = .ok (.aload_n 1, 1) := by decide +kernel
theorem dX11_unlikeCells_13 : decode cX11_unlikeCells 13 = .ok (.iload_n 3, 1) := by decide +kernel
theorem dX11_unlikeCells_14 : decode cX11_unlikeCells 14 = .ok (.invokevirtual 347, 3) := by decide +kernel
theorem dX11_unlikeCells_17 : decode cX11_unlikeCells 17 = .ok (.iadd, 1) := by decide +kernel
theorem dX11_unlikeCells_18 : decode cX11_unlikeCells 18 = .ok (.istore_n 2, 1) := by decide +kernel
theorem dX11_unlikeCells_19 : decode cX11_unlikeCells 19 = .ok (.iinc 3 1, 3) := by decide +kernel
theorem dX11_unlikeCells_22 : decode cX11_unlikeCells 22 = .ok (.goto (-18), 3) := by decide +kernel
theorem dX11_unlikeCells_25 : decode cX11_unlikeCells 25 = .ok (.iload_n 2, 1) := by decide +kernel
theorem dX11_unlikeCells_26 : decode cX11_unlikeCells 26 = .ok (.ireturn, 1) := by decide +kernel
theorem dX11_unlikeCellsAt_0 : decode cX11_unlikeCellsAt 0 = .ok (.aload_n 0, 1) := by decide +kernel
theorem dX11_unlikeCellsAt_1 : decode cX11_unlikeCellsAt 1 = .ok (.getfield 49, 3) := by decide +kernel
theorem dX11_unlikeCellsAt_4 : decode cX11_unlikeCellsAt 4 = .ok (.aload_n 1, 1) := by decide +kernel
theorem dX11_unlikeCellsAt_5 : decode cX11_unlikeCellsAt 5 = .ok (.aload_n 1, 1) := by decide +kernel
theorem dX11_unlikeCellsAt_6 : decode cX11_unlikeCellsAt 6 = .ok (.invokevirtual 102, 3) := by decide +kernel
theorem dX11_unlikeCellsAt_9 : decode cX11_unlikeCellsAt 9 = .ok (.iload_n 2, 1) := by decide +kernel
theorem dX11_unlikeCellsAt_10 : decode cX11_unlikeCellsAt 10 = .ok (.invokevirtual 217, 3) := by decide +kernel
theorem dX11_unlikeCellsAt_13 : decode cX11_unlikeCellsAt 13 = .ok (.aload_n 0, 1) := by decide +kernel
theorem dX11_unlikeCellsAt_14 : decode cX11_unlikeCellsAt 14 = .ok (.getfield 49, 3) := by decide +kernel
theorem dX11_unlikeCellsAt_17 : decode cX11_unlikeCellsAt 17 = .ok (.aload_n 0, 1) := by decide +kernel
theorem dX11_unlikeCellsAt_18 : decode cX11_unlikeCellsAt 18 = .ok (.getfield 42, 3) := by decide +kernel
theorem dX11_unlikeCellsAt_21 : decode cX11_unlikeCellsAt 21 = .ok (.iload_n 2, 1) := by decide +kernel
theorem dX11_unlikeCellsAt_22 : decode cX11_unlikeCellsAt 22 = .ok (.invokevirtual 195, 3) := by decide +kernel
theorem dX11_unlikeCellsAt_25 : decode cX11_unlikeCellsAt 25 = .ok (.invokevirtual 351, 3) := by decide +kernel
theorem dX11_unlikeCellsAt_28 : decode cX11_unlikeCellsAt 28 = .ok (.ireturn, 1) := by decide +kernel
theorem dX11_flag_0 : decode cX11_flag 0 = .ok (.iload_n 0, 1) := by decide +kernel
theorem dX11_flag_1 : decode cX11_flag 1 = .ok (.ifCond .eq 7, 3) := by decide +kernel
theorem dX11_flag_4 : decode cX11_flag 4 = .ok (.iconst 1, 1) := by decide +kernel
theorem dX11_flag_5 : decode cX11_flag 5 = .ok (.goto 4, 3) := by decide +kernel
theorem dX11_flag_8 : decode cX11_flag 8 = .ok (.iconst 0, 1) := by decide +kernel
theorem dX11_flag_9 : decode cX11_flag 9 = .ok (.ireturn, 1) := by decide +kernel
theorem dX11_isBelow_0 : decode cX11_isBelow 0 = .ok (.iload_n 0, 1) := by decide +kernel
theorem dX11_isBelow_1 : decode cX11_isBelow 1 = .ok (.ifCond .lt 12, 3) := by decide +kernel
theorem dX11_isBelow_4 : decode cX11_isBelow 4 = .ok (.iload_n 0, 1) := by decide +kernel
theorem dX11_isBelow_5 : decode cX11_isBelow 5 = .ok (.iload_n 1, 1) := by decide +kernel
theorem dX11_isBelow_6 : decode cX11_isBelow 6 = .ok (.if_icmp .ge 7, 3) := by decide +kernel
theorem dX11_isBelow_9 : decode cX11_isBelow 9 = .ok (.iconst 1, 1) := by decide +kernel
theorem dX11_isBelow_10 : decode cX11_isBelow 10 = .ok (.goto 4, 3) := by decide +kernel
theorem dX11_isBelow_13 : decode cX11_isBelow 13 = .ok (.iconst 0, 1) := by decide +kernel
theorem dX11_isBelow_14 : decode cX11_isBelow 14 = .ok (.ireturn, 1) := by decide +kernel
theorem dX11_isStep_0 : decode cX11_isStep 0 = .ok (.iload_n 0, 1) := by decide +kernel
theorem dX11_isStep_1 : decode cX11_isStep 1 = .ok (.bipush 8, 2) := by decide +kernel
theorem dX11_isStep_3 : decode cX11_isStep 3 = .ok (.invokestatic 270, 3) := by decide +kernel
theorem dX11_isStep_6 : decode cX11_isStep 6 = .ok (.ireturn, 1) := by decide +kernel
theorem dX11_isBed_0 : decode cX11_isBed 0 = .ok (.iload_n 0, 1) := by decide +kernel
theorem dX11_isBed_1 : decode cX11_isBed 1 = .ok (.bipush 16, 2) := by decide +kernel
theorem dX11_isBed_3 : decode cX11_isBed 3 = .ok (.invokestatic 270, 3) := by decide +kernel
theorem dX11_isBed_6 : decode cX11_isBed 6 = .ok (.ireturn, 1) := by decide +kernel
theorem dX11_isAxis_0 : decode cX11_isAxis 0 = .ok (.iload_n 0, 1) := by decide +kernel
theorem dX11_isAxis_1 : decode cX11_isAxis 1 = .ok (.ifCond .eq 8, 3) := by decide +kernel
theorem dX11_isAxis_4 : decode cX11_isAxis 4 = .ok (.iload_n 0, 1) := by decide +kernel
theorem dX11_isAxis_5 : decode cX11_isAxis 5 = .ok (.iconst 1, 1) := by decide +kernel
theorem dX11_isAxis_6 : decode cX11_isAxis 6 = .ok (.if_icmp .ne 7, 3) := by decide +kernel
theorem dX11_isAxis_9 : decode cX11_isAxis 9 = .ok (.iconst 1, 1) := by decide +kernel
theorem dX11_isAxis_10 : decode cX11_isAxis 10 = .ok (.goto 4, 3) := by decide +kernel
theorem dX11_isAxis_13 : decode cX11_isAxis 13 = .ok (.iconst 0, 1) := by decide +kernel
theorem dX11_isAxis_14 : decode cX11_isAxis 14 = .ok (.ireturn, 1) := by decide +kernel
theorem dX11_isHeight_0 : decode cX11_isHeight 0 = .ok (.iload_n 0, 1) := by decide +kernel
theorem dX11_isHeight_1 : decode cX11_isHeight 1 = .ok (.bipush (-40), 2) := by decide +kernel
theorem dX11_isHeight_3 : decode cX11_isHeight 3 = .ok (.if_icmp .lt 13, 3) := by decide +kernel
theorem dX11_isHeight_6 : decode cX11_isHeight 6 = .ok (.iload_n 0, 1) := by decide +kernel
theorem dX11_isHeight_7 : decode cX11_isHeight 7 = .ok (.bipush 39, 2) := by decide +kernel
theorem dX11_isHeight_9 : decode cX11_isHeight 9 = .ok (.if_icmp .gt 7, 3) := by decide +kernel
theorem dX11_isHeight_12 : decode cX11_isHeight 12 = .ok (.iconst 1, 1) := by decide +kernel
theorem dX11_isHeight_13 : decode cX11_isHeight 13 = .ok (.goto 4, 3) := by decide +kernel
theorem dX11_isHeight_16 : decode cX11_isHeight 16 = .ok (.iconst 0, 1) := by decide +kernel
theorem dX11_isHeight_17 : decode cX11_isHeight 17 = .ok (.ireturn, 1) := by decide +kernel
theorem dX11_columnNumber_0 : decode cX11_columnNumber 0 = .ok (.bipush 8, 2) := by decide +kernel
theorem dX11_columnNumber_2 : decode cX11_columnNumber 2 = .ok (.iload_n 1, 1) := by decide +kernel
theorem dX11_columnNumber_3 : decode cX11_columnNumber 3 = .ok (.imul, 1) := by decide +kernel
theorem dX11_columnNumber_4 : decode cX11_columnNumber 4 = .ok (.iload_n 0, 1) := by decide +kernel
theorem dX11_columnNumber_5 : decode cX11_columnNumber 5 = .ok (.iadd, 1) := by decide +kernel
theorem dX11_columnNumber_6 : decode cX11_columnNumber 6 = .ok (.ireturn, 1) := by decide +kernel
theorem dX11_columnX_0 : decode cX11_columnX 0 = .ok (.iload_n 0, 1) := by decide +kernel
theorem dX11_columnX_1 : decode cX11_columnX 1 = .ok (.bipush 8, 2) := by decide +kernel
theorem dX11_columnX_3 : decode cX11_columnX 3 = .ok (.invokestatic 354, 3) := by decide +kernel
theorem dX11_columnX_6 : decode cX11_columnX 6 = .ok (.ireturn, 1) := by decide +kernel
theorem dX11_columnY_0 : decode cX11_columnY 0 = .ok (.iload_n 0, 1) := by decide +kernel
theorem dX11_columnY_1 : decode cX11_columnY 1 = .ok (.bipush 8, 2) := by decide +kernel
theorem dX11_columnY_3 : decode cX11_columnY 3 = .ok (.invokestatic 359, 3) := by decide +kernel
theorem dX11_columnY_6 : decode cX11_columnY 6 = .ok (.ireturn, 1) := by decide +kernel
theorem dX11_get_0 : decode cX11_get 0 = .ok (.aload_n 0, 1) := by decide +kernel
theorem dX11_get_1 : decode cX11_get 1 = .ok (.ifnull 13, 3) := by decide +kernel
theorem dX11_get_4 : decode cX11_get 4 = .ok (.iload_n 1, 1) := by decide +kernel
theorem dX11_get_5 : decode cX11_get 5 = .ok (.ifCond .lt 9, 3) := by decide +kernel
theorem dX11_get_8 : decode cX11_get 8 = .ok (.iload_n 1, 1) := by decide +kernel
theorem dX11_get_9 : decode cX11_get 9 = .ok (.aload_n 0, 1) := by decide +kernel
theorem dX11_get_10 : decode cX11_get 10 = .ok (.arraylength, 1) := by decide +kernel
theorem dX11_get_11 : decode cX11_get 11 = .ok (.if_icmp .lt 5, 3) := by decide +kernel
theorem dX11_get_14 : decode cX11_get 14 = .ok (.iconst 0, 1) := by decide +kernel
theorem dX11_get_15 : decode cX11_get 15 = .ok (.ireturn, 1) := by decide +kernel
theorem dX11_get_16 : decode cX11_get 16 = .ok (.aload_n 0, 1) := by decide +kernel
theorem dX11_get_17 : decode cX11_get 17 = .ok (.iload_n 1, 1) := by decide +kernel
theorem dX11_get_18 : decode cX11_get 18 = .ok (.iaload, 1) := by decide +kernel
theorem dX11_get_19 : decode cX11_get 19 = .ok (.ireturn, 1) := by decide +kernel
theorem dX11_put_0 : decode cX11_put 0 = .ok (.aload_n 0, 1) := by decide +kernel
theorem dX11_put_1 : decode cX11_put 1 = .ok (.ifnull 17, 3) := by decide +kernel
theorem dX11_put_4 : decode cX11_put 4 = .ok (.iload_n 1, 1) := by decide +kernel
theorem dX11_put_5 : decode cX11_put 5 = .ok (.ifCond .lt 13, 3) := by decide +kernel
theorem dX11_put_8 : decode cX11_put 8 = .ok (.iload_n 1, 1) := by decide +kernel
theorem dX11_put_9 : decode cX11_put 9 = .ok (.aload_n 0, 1) := by decide +kernel
theorem dX11_put_10 : decode cX11_put 10 = .ok (.arraylength, 1) := by decide +kernel
theorem dX11_put_11 : decode cX11_put 11 = .ok (.if_icmp .ge 7, 3) := by decide +kernel
theorem dX11_put_14 : decode cX11_put 14 = .ok (.aload_n 0, 1) := by decide +kernel
theorem dX11_put_15 : decode cX11_put 15 = .ok (.iload_n 1, 1) := by decide +kernel
theorem dX11_put_16 : decode cX11_put 16 = .ok (.iload_n 2, 1) := by decide +kernel
theorem dX11_put_17 : decode cX11_put 17 = .ok (.iastore, 1) := by decide +kernel
theorem dX11_put_18 : decode cX11_put 18 = .ok (.return_, 1) := by decide +kernel
theorem dX11_fill_0 : decode cX11_fill 0 = .ok (.aload_n 0, 1) := by decide +kernel
theorem dX11_fill_1 : decode cX11_fill 1 = .ok (.ifnonnull 4, 3) := by decide +kernel
theorem dX11_fill_4 : decode cX11_fill 4 = .ok (.return_, 1) := by decide +kernel
theorem dX11_fill_5 : decode cX11_fill 5 = .ok (.iconst 0, 1) := by decide +kernel
theorem dX11_fill_6 : decode cX11_fill 6 = .ok (.iload_n 1, 1) := by decide +kernel
theorem dX11_fill_7 : decode cX11_fill 7 = .ok (.invokestatic 362, 3) := by decide +kernel
theorem dX11_fill_10 : decode cX11_fill 10 = .ok (.istore 4, 2) := by decide +kernel
theorem dX11_fill_12 : decode cX11_fill 12 = .ok (.iload 4, 2) := by decide +kernel
theorem dX11_fill_14 : decode cX11_fill 14 = .ok (.iload_n 2, 1) := by decide +kernel
theorem dX11_fill_15 : decode cX11_fill 15 = .ok (.if_icmp .ge 21, 3) := by decide +kernel
theorem dX11_fill_18 : decode cX11_fill 18 = .ok (.iload 4, 2) := by decide +kernel
theorem dX11_fill_20 : decode cX11_fill 20 = .ok (.aload_n 0, 1) := by decide +kernel
theorem dX11_fill_21 : decode cX11_fill 21 = .ok (.arraylength, 1) := by decide +kernel
theorem dX11_fill_22 : decode cX11_fill 22 = .ok (.if_icmp .ge 14, 3) := by decide +kernel
theorem dX11_fill_25 : decode cX11_fill 25 = .ok (.aload_n 0, 1) := by decide +kernel
theorem dX11_fill_26 : decode cX11_fill 26 = .ok (.iload 4, 2) := by decide +kernel
theorem dX11_fill_28 : decode cX11_fill 28 = .ok (.iload_n 3, 1) := by decide +kernel
theorem dX11_fill_29 : decode cX11_fill 29 = .ok (.iastore, 1) := by decide +kernel
theorem dX11_fill_30 : decode cX11_fill 30 = .ok (.iinc 4 1, 3) := by decide +kernel
theorem dX11_fill_33 : decode cX11_fill 33 = .ok (.goto (-21), 3) := by decide +kernel
theorem dX11_fill_36 : decode cX11_fill 36 = .ok (.return_, 1) := by decide +kernel
theorem dX11_copy_0 : decode cX11_copy 0 = .ok (.aload_n 0, 1) := by decide +kernel
theorem dX11_copy_1 : decode cX11_copy 1 = .ok (.ifnull 20, 3) := by decide +kernel
theorem dX11_copy_4 : decode cX11_copy 4 = .ok (.aload_n 2, 1) := by decide +kernel
theorem dX11_copy_5 : decode cX11_copy 5 = .ok (.ifnull 16, 3) := by decide +kernel
theorem dX11_copy_8 : decode cX11_copy 8 = .ok (.iload_n 1, 1) := by decide +kernel
theorem dX11_copy_9 : decode cX11_copy 9 = .ok (.ifCond .lt 12, 3) := by decide +kernel
theorem dX11_copy_12 : decode cX11_copy 12 = .ok (.iload_n 3, 1) := by decide +kernel
theorem dX11_copy_13 : decode cX11_copy 13 = .ok (.ifCond .lt 8, 3) := by decide +kernel
theorem dX11_copy_16 : decode cX11_copy 16 = .ok (.iload 4, 2) := by decide +kernel
theorem dX11_copy_18 : decode cX11_copy 18 = .ok (.ifCond .gt 4, 3) := by decide +kernel
theorem dX11_copy_21 : decode cX11_copy 21 = .ok (.return_, 1) := by decide +kernel
theorem dX11_copy_22 : decode cX11_copy 22 = .ok (.iload_n 1, 1) := by decide +kernel
theorem dX11_copy_23 : decode cX11_copy 23 = .ok (.aload_n 0, 1) := by decide +kernel
theorem dX11_copy_24 : decode cX11_copy 24 = .ok (.arraylength, 1) := by decide +kernel
theorem dX11_copy_25 : decode cX11_copy 25 = .ok (.iload 4, 2) := by decide +kernel
theorem dX11_copy_27 : decode cX11_copy 27 = .ok (.isub, 1) := by decide +kernel
theorem dX11_copy_28 : decode cX11_copy 28 = .ok (.if_icmp .gt 12, 3) := by decide +kernel
theorem dX11_copy_31 : decode cX11_copy 31 = .ok (.iload_n 3, 1) := by decide +kernel
theorem dX11_copy_32 : decode cX11_copy 32 = .ok (.aload_n 2, 1) := by decide +kernel
theorem dX11_copy_33 : decode cX11_copy 33 = .ok (.arraylength, 1) := by decide +kernel
theorem dX11_copy_34 : decode cX11_copy 34 = .ok (.iload 4, 2) := by decide +kernel
theorem dX11_copy_36 : decode cX11_copy 36 = .ok (.isub, 1) := by decide +kernel
theorem dX11_copy_37 : decode cX11_copy 37 = .ok (.if_icmp .le 4, 3) := by decide +kernel
theorem dX11_copy_40 : decode cX11_copy 40 = .ok (.return_, 1) := by decide +kernel
theorem dX11_copy_41 : decode cX11_copy 41 = .ok (.aload_n 0, 1) := by decide +kernel
theorem dX11_copy_42 : decode cX11_copy 42 = .ok (.iload_n 1, 1) := by decide +kernel
theorem dX11_copy_43 : decode cX11_copy 43 = .ok (.aload_n 2, 1) := by decide +kernel
theorem dX11_copy_44 : decode cX11_copy 44 = .ok (.iload_n 3, 1) := by decide +kernel
theorem dX11_copy_45 : decode cX11_copy 45 = .ok (.iload 4, 2) := by decide +kernel
theorem dX11_copy_47 : decode cX11_copy 47 = .ok (.invokestatic 365, 3) := by decide +kernel
theorem dX11_copy_50 : decode cX11_copy 50 = .ok (.return_, 1) := by decide +kernel
theorem dX12_init_0 : decode cX12_init 0 = .ok (.aload_n 0, 1) := by decide +kernel
theorem dX12_init_1 : decode cX12_init 1 = .ok (.invokespecial 1, 3) := by decide +kernel
theorem dX12_init_4 : decode cX12_init 4 = .ok (.aload_n 0, 1) := by decide +kernel
theorem dX12_init_5 : decode cX12_init 5 = .ok (.sipush 15360, 3) := by decide +kernel
theorem dX12_init_8 : decode cX12_init 8 = .ok (.newarray .byte, 2) := by decide +kernel
theorem dX12_init_10 : decode cX12_init 10 = .ok (.putfield 7, 3) := by decide +kernel
theorem dX12_init_13 : decode cX12_init 13 = .ok (.aload_n 0, 1) := by decide +kernel
theorem dX12_init_14 : decode cX12_init 14 = .ok (.bipush 80, 2) := by decide +kernel
theorem dX12_init_16 : decode cX12_init 16 = .ok (.newarray .byte, 2) := by decide +kernel
theorem dX12_init_18 : decode cX12_init 18 = .ok (.putfield 13, 3) := by decide +kernel
theorem dX12_init_21 : decode cX12_init 21 = .ok (.aload_n 0, 1) := by decide +kernel
theorem dX12_init_22 : decode cX12_init 22 = .ok (.bipush 16, 2) := by decide +kernel
theorem dX12_init_24 : decode cX12_init 24 = .ok (.newarray .int, 2) := by decide +kernel
theorem dX12_init_26 : decode cX12_init 26 = .ok (.putfield 16, 3) := by decide +kernel
theorem dX12_init_29 : decode cX12_init 29 = .ok (.aload_n 0, 1) := by decide +kernel
theorem dX12_init_30 : decode cX12_init 30 = .ok (.bipush 80, 2) := by decide +kernel
theorem dX12_init_32 : decode cX12_init 32 = .ok (.newarray .int, 2) := by decide +kernel
theorem dX12_init_34 : decode cX12_init 34 = .ok (.putfield 20, 3) := by decide +kernel
theorem dX12_init_37 : decode cX12_init 37 = .ok (.aload_n 0, 1) := by decide +kernel
theorem dX12_init_38 : decode cX12_init 38 = .ok (.bipush 16, 2) := by decide +kernel
theorem dX12_init_40 : decode cX12_init 40 = .ok (.newarray .boolean, 2) := by decide +kernel
theorem dX12_init_42 : decode cX12_init 42 = .ok (.putfield 23, 3) := by decide +kernel
theorem dX12_init_45 : decode cX12_init 45 = .ok (.aload_n 0, 1) := by decide +kernel
theorem dX12_init_46 : decode cX12_init 46 = .ok (.iconst 5, 1) := by decide +kernel
theorem dX12_init_47 : decode cX12_init 47 = .ok (.newarray .int, 2) := by decide +kernel
theorem dX12_init_49 : decode cX12_init 49 = .ok (.putfield 27, 3) := by decide +kernel
theorem dX12_init_52 : decode cX12_init 52 = .ok (.aload_n 0, 1) := by decide +kernel
theorem dX12_init_53 : decode cX12_init 53 = .ok (.sipush 300, 3) := by decide +kernel
theorem dX12_init_56 : decode cX12_init 56 = .ok (.newarray .int, 2) := by decide +kernel
theorem dX12_init_58 : decode cX12_init 58 = .ok (.putfield 30, 3) := by decide +kernel
theorem dX12_init_61 : decode cX12_init 61 = .ok (.aload_n 0, 1) := by decide +kernel
theorem dX12_init_62 : decode cX12_init 62 = .ok (.iconst (-1), 1) := by decide +kernel
theorem dX12_init_63 : decode cX12_init 63 = .ok (.putfield 33, 3) := by decide +kernel
theorem dX12_init_66 : decode cX12_init 66 = .ok (.aload_n 0, 1) := by decide +kernel
theorem dX12_init_67 : decode cX12_init 67 = .ok (.bipush 16, 2) := by decide +kernel
theorem dX12_init_69 : decode cX12_init 69 = .ok (.newarray .int, 2) := by decide +kernel
theorem dX12_init_71 : decode cX12_init 71 = .ok (.putfield 37, 3) := by decide +kernel
theorem dX12_init_74 : decode cX12_init 74 = .ok (.aload_n 0, 1) := by decide +kernel
theorem dX12_init_75 : decode cX12_init 75 = .ok (.bipush 80, 2) := by decide +kernel
theorem dX12_init_77 : decode cX12_init 77 = .ok (.newarray .int, 2) := by decide +kernel
theorem dX12_init_79 : decode cX12_init 79 = .ok (.putfield 40, 3) := by decide +kernel
theorem dX12_init_82 : decode cX12_init 82 = .ok (.aload_n 0, 1) := by decide +kernel
theorem dX12_init_83 : decode cX12_init 83 = .ok (.bipush 16, 2) := by decide +kernel
theorem dX12_init_85 : decode cX12_init 85 = .ok (.newarray .int, 2) := by decide +kernel
theorem dX12_init_87 : decode cX12_init 87 = .ok (.putfield 43, 3) := by decide +kernel
theorem dX12_init_90 : decode cX12_init 90 = .ok (.aload_n 0, 1) := by decide +kernel
theorem dX12_init_91 : decode cX12_init 91 = .ok (.iconst 4, 1) := by decide +kernel
theorem dX12_init_92 : decode cX12_init 92 = .ok (.newarray .boolean, 2) := by decide +kernel
theorem dX12_init_94 : decode cX12_init 94 = .ok (.putfield 46, 3) := by decide +kernel
theorem dX12_init_97 : decode cX12_init 97 = .ok (.aload_n 0, 1) := by decide +kernel
theorem dX12_init_98 : decode cX12_init 98 = .ok (.iconst 4, 1) := by decide +kernel
theorem dX12_init_99 : decode cX12_init 99 = .ok (.newarray .int, 2) := by decide +kernel
theorem dX12_init_101 : decode cX12_init 101 = .ok (.putfield 49, 3) := by decide +kernel
theorem dX12_init_104 : decode cX12_init 104 = .ok (.aload_n 0, 1) := by decide +kernel
theorem dX12_init_105 : decode cX12_init 105 = .ok (.bipush 64, 2) := by decide +kernel
theorem dX12_init_107 : decode cX12_init 107 = .ok (.newarray .int, 2) := by decide +kernel
theorem dX12_init_109 : decode cX12_init 109 = .ok (.putfield 52, 3) := by decide +kernel
theorem dX12_init_112 : decode cX12_init 112 = .ok (.aload_n 0, 1) := by decide +kernel
theorem dX12_init_113 : decode cX12_init 113 = .ok (.sipush 320, 3) := by decide +kernel
theorem dX12_init_116 : decode cX12_init 116 = .ok (.newarray .int, 2) := by decide +kernel
theorem dX12_init_118 : decode cX12_init 118 = .ok (.putfield 55, 3) := by decide +kernel
theorem dX12_init_121 : decode cX12_init 121 = .ok (.aload_n 0, 1) := by decide +kernel
theorem dX12_init_122 : decode cX12_init 122 = .ok (.bipush 64, 2) := by decide +kernel
theorem dX12_init_124 : decode cX12_init 124 = .ok (.newarray .boolean, 2) := by decide +kernel
theorem dX12_init_126 : decode cX12_init 126 = .ok (.putfield 58, 3) := by decide +kernel
theorem dX12_init_129 : decode cX12_init 129 = .ok (.aload_n 0, 1) := by decide +kernel
theorem dX12_init_130 : decode cX12_init 130 = .ok (.bipush 30, 2) := by decide +kernel
theorem dX12_init_132 : decode cX12_init 132 = .ok (.newarray .int, 2) := by decide +kernel
theorem dX12_init_134 : decode cX12_init 134 = .ok (.putfield 61, 3) := by decide +kernel
theorem dX12_init_137 : decode cX12_init 137 = .ok (.aload_n 0, 1) := by decide +kernel
theorem dX12_init_138 : decode cX12_init 138 = .ok (.bipush 30, 2) := by decide +kernel
theorem dX12_init_140 : decode cX12_init 140 = .ok (.newarray .int, 2) := by decide +kernel
theorem dX12_init_142 : decode cX12_init 142 = .ok (.putfield 64, 3) := by decide +kernel
theorem dX12_init_145 : decode cX12_init 145 = .ok (.aload_n 0, 1) := by decide +kernel
theorem dX12_init_146 : decode cX12_init 146 = .ok (.bipush 30, 2) := by decide +kernel
theorem dX12_init_148 : decode cX12_init 148 = .ok (.newarray .int, 2) := by decide +kernel
theorem dX12_init_150 : decode cX12_init 150 = .ok (.putfield 67, 3) := by decide +kernel
theorem dX12_init_153 : decode cX12_init 153 = .ok (.aload_n 0, 1) := by decide +kernel
theorem dX12_init_154 : decode cX12_init 154 = .ok (.bipush 30, 2) := by decide +kernel
theorem dX12_init_156 : decode cX12_init 156 = .ok (.newarray .int, 2) := by decide +kernel
theorem dX12_init_158 : decode cX12_init 158 = .ok (.putfield 70, 3) := by decide +kernel
theorem dX12_init_161 : decode cX12_init 161 = .ok (.aload_n 0, 1) := by decide +kernel
theorem dX12_init_162 : decode cX12_init 162 = .ok (.bipush 30, 2) := by decide +kernel
theorem dX12_init_164 : decode cX12_init 164 = .ok (.newarray .int, 2) := by decide +kernel
theorem dX12_init_166 : decode cX12_init 166 = .ok (.putfield 73, 3) := by decide +kernel
theorem dX12_init_169 : decode cX12_init 169 = .ok (.aload_n 0, 1) := by decide +kernel
theorem dX12_init_170 : decode cX12_init 170 = .ok (.bipush 24, 2) := by decide +kernel
theorem dX12_init_172 : decode cX12_init 172 = .ok (.newarray .int, 2) := by decide +kernel
theorem dX12_init_174 : decode cX12_init 174 = .ok (.putfield 76, 3) := by decide +kernel
theorem dX12_init_177 : decode cX12_init 177 = .ok (.aload_n 0, 1) := by decide +kernel
theorem dX12_init_178 : decode cX12_init 178 = .ok (.bipush 24, 2) := by decide +kernel
theorem dX12_init_180 : decode cX12_init 180 = .ok (.newarray .int, 2) := by decide +kernel
theorem dX12_init_182 : decode cX12_init 182 = .ok (.putfield 79, 3) := by decide +kernel
theorem dX12_init_185 : decode cX12_init 185 = .ok (.aload_n 0, 1) := by decide +kernel
theorem dX12_init_186 : decode cX12_init 186 = .ok (.bipush 24, 2) := by decide +kernel
theorem dX12_init_188 : decode cX12_init 188 = .ok (.newarray .int, 2) := by decide +kernel
theorem dX12_init_190 : decode cX12_init 190 = .ok (.putfield 82, 3) := by decide +kernel
theorem dX12_init_193 : decode cX12_init 193 = .ok (.aload_n 0, 1) := by decide +kernel
theorem dX12_init_194 : decode cX12_init 194 = .ok (.sipush 256, 3) := by decide +kernel
theorem dX12_init_197 : decode cX12_init 197 = .ok (.newarray .int, 2) := by decide +kernel
theorem dX12_init_199 : decode cX12_init 199 = .ok (.putfield 85, 3) := by decide +kernel
theorem dX12_init_202 : decode cX12_init 202 = .ok (.aload_n 0, 1) := by decide +kernel
theorem dX12_init_203 : decode cX12_init 203 = .ok (.bipush 8, 2) := by decide +kernel
theorem dX12_init_205 : decode cX12_init 205 = .ok (.newarray .int, 2) := by decide +kernel
theorem dX12_init_207 : decode cX12_init 207 = .ok (.putfield 88, 3) := by decide +kernel
theorem dX12_init_210 : decode cX12_init 210 = .ok (.aload_n 0, 1) := by decide +kernel
theorem dX12_init_211 : decode cX12_init 211 = .ok (.bipush 8, 2) := by decide +kernel
theorem dX12_init_213 : decode cX12_init 213 = .ok (.newarray .int, 2) := by decide +kernel
theorem dX12_init_215 : decode cX12_init 215 = .ok (.putfield 91, 3) := by decide +kernel
theorem dX12_init_218 : decode cX12_init 218 = .ok (.aload_n 0, 1) := by decide +kernel
theorem dX12_init_219 : decode cX12_init 219 = .ok (.sipush 13448, 3) := by decide +kernel
theorem dX12_init_222 : decode cX12_init 222 = .ok (.newarray .int, 2) := by decide +kernel
theorem dX12_init_224 : decode cX12_init 224 = .ok (.putfield 94, 3) := by decide +kernel
theorem dX12_init_227 : decode cX12_init 227 = .ok (.aload_n 0, 1) := by decide +kernel
theorem dX12_init_228 : decode cX12_init 228 = .ok (.bipush 8, 2) := by decide +kernel
theorem dX12_init_230 : decode cX12_init 230 = .ok (.newarray .int, 2) := by decide +kernel
theorem dX12_init_232 : decode cX12_init 232 = .ok (.putfield 97, 3) := by decide +kernel
theorem dX12_init_235 : decode cX12_init 235 = .ok (.aload_n 0, 1) := by decide +kernel
theorem dX12_init_236 : decode cX12_init 236 = .ok (.iconst 4, 1) := by decide +kernel
theorem dX12_init_237 : decode cX12_init 237 = .ok (.newarray .int, 2) := by decide +kernel
theorem dX12_init_239 : decode cX12_init 239 = .ok (.putfield 100, 3) := by decide +kernel
theorem dX12_init_242 : decode cX12_init 242 = .ok (.aload_n 0, 1) := by decide +kernel
theorem dX12_init_243 : decode cX12_init 243 = .ok (.bipush 20, 2) := by decide +kernel
theorem dX12_init_245 : decode cX12_init 245 = .ok (.newarray .int, 2) := by decide +kernel
theorem dX12_init_247 : decode cX12_init 247 = .ok (.putfield 103, 3) := by decide +kernel
theorem dX12_init_250 : decode cX12_init 250 = .ok (.aload_n 0, 1) := by decide +kernel
theorem dX12_init_251 : decode cX12_init 251 = .ok (.bipush 65, 2) := by decide +kernel
theorem dX12_init_253 : decode cX12_init 253 = .ok (.newarray .int, 2) := by decide +kernel
theorem dX12_init_255 : decode cX12_init 255 = .ok (.putfield 106, 3) := by decide +kernel
theorem dX12_init_258 : decode cX12_init 258 = .ok (.aload_n 0, 1) := by decide +kernel
theorem dX12_init_259 : decode cX12_init 259 = .ok (.sipush 260, 3) := by decide +kernel
theorem dX12_init_262 : decode cX12_init 262 = .ok (.newarray .int, 2) := by decide +kernel
theorem dX12_init_264 : decode cX12_init 264 = .ok (.putfield 109, 3) := by decide +kernel
theorem dX12_init_267 : decode cX12_init 267 = .ok (.aload_n 0, 1) := by decide +kernel
theorem dX12_init_268 : decode cX12_init 268 = .ok (.ldc 112, 2) := by decide +kernel
theorem dX12_init_270 : decode cX12_init 270 = .ok (.newarray .byte, 2) := by decide +kernel
theorem dX12_init_272 : decode cX12_init 272 = .ok (.putfield 113, 3) := by decide +kernel
theorem dX12_init_275 : decode cX12_init 275 = .ok (.aload_n 0, 1) := by decide +kernel
theorem dX12_init_276 : decode cX12_init 276 = .ok (.iconst 4, 1) := by decide +kernel
theorem dX12_init_277 : decode cX12_init 277 = .ok (.newarray .int, 2) := by decide +kernel
theorem dX12_init_279 : decode cX12_init 279 = .ok (.putfield 116, 3) := by decide +kernel
theorem dX12_init_282 : decode cX12_init 282 = .ok (.aload_n 0, 1) := by decide +kernel
theorem dX12_init_283 : decode cX12_init 283 = .ok (.iconst 0, 1) := by decide +kernel
theorem dX12_init_284 : decode cX12_init 284 = .ok (.invokevirtual 119, 3) := by decide +kernel
theorem dX12_init_287 : decode cX12_init 287 = .ok (.return_, 1) := by decide +kernel
theorem dX12_in_0 : decode cX12_in 0 = .ok (.lload_n 0, 1) := by decide +kernel
theorem dX12_in_1 : decode cX12_in 1 = .ok (.lload_n 2, 1) := by decide +kernel
theorem dX12_in_2 : decode cX12_in 2 = .ok (.lcmp, 1) := by decide +kernel
theorem dX12_in_3 : decode cX12_in 3 = .ok (.ifCond .lt 14, 3) := by decide +kernel
theorem dX12_in_6 : decode cX12_in 6 = .ok (.lload_n 0, 1) := by decide +kernel
theorem dX12_in_7 : decode cX12_in 7 = .ok (.lload 4, 2) := by decide +kernel
theorem dX12_in_9 : decode cX12_in 9 = .ok (.lcmp, 1) := by decide +kernel
theorem dX12_in_10 : decode cX12_in 10 = .ok (.ifCond .gt 7, 3) := by decide +kernel
theorem dX12_in_13 : decode cX12_in 13 = .ok (.iconst 1, 1) := by decide +kernel
theorem dX12_in_14 : decode cX12_in 14 = .ok (.goto 4, 3) := by decide +kernel
theorem dX12_in_17 : decode cX12_in 17 = .ok (.iconst 0, 1) := by decide +kernel
theorem dX12_in_18 : decode cX12_in 18 = .ok (.ireturn, 1) := by decide +kernel
theorem dX12_bit_0 : decode cX12_bit 0 = .ok (.iload_n 0, 1) := by decide +kernel
theorem dX12_bit_1 : decode cX12_bit 1 = .ok (.ifCond .eq 7, 3) := by decide +kernel
theorem dX12_bit_4 : decode cX12_bit 4 = .ok (.iconst 1, 1) := by decide +kernel
theorem dX12_bit_5 : decode cX12_bit 5 = .ok (.goto 4, 3) := by decide +kernel
theorem dX12_bit_8 : decode cX12_bit 8 = .ok (.iconst 0, 1) := by decide +kernel
theorem dX12_bit_9 : decode cX12_bit 9 = .ok (.ireturn, 1) := by decide +kernel
theorem dX12_floor_0 : decode cX12_floor 0 = .ok (.iload_n 0, 1) := by decide +kernel
theorem dX12_floor_1 : decode cX12_floor 1 = .ok (.ifCond .lt 9, 3) := by decide +kernel
theorem dX12_floor_4 : decode cX12_floor 4 = .ok (.iload_n 0, 1) := by decide +kernel
theorem dX12_floor_5 : decode cX12_floor 5 = .ok (.iload_n 1, 1) := by decide +kernel
theorem dX12_floor_6 : decode cX12_floor 6 = .ok (.idiv, 1) := by decide +kernel
theorem dX12_floor_7 : decode cX12_floor 7 = .ok (.goto 12, 3) := by decide +kernel
theorem dX12_floor_10 : decode cX12_floor 10 = .ok (.iconst 0, 1) := by decide +kernel
theorem dX12_floor_11 : decode cX12_floor 11 = .ok (.iload_n 1, 1) := by decide +kernel
theorem dX12_floor_12 : decode cX12_floor 12 = .ok (.iconst 1, 1) := by decide +kernel
theorem dX12_floor_13 : decode cX12_floor 13 = .ok (.isub, 1) := by decide +kernel
theorem dX12_floor_14 : decode cX12_floor 14 = .ok (.iload_n 0, 1) := by decide +kernel
theorem dX12_floor_15 : decode cX12_floor 15 = .ok (.isub, 1) := by decide +kernel
theorem dX12_floor_16 : decode cX12_floor 16 = .ok (.iload_n 1, 1) := by decide +kernel
theorem dX12_floor_17 : decode cX12_floor 17 = .ok (.idiv, 1) := by decide +kernel
theorem dX12_floor_18 : decode cX12_floor 18 = .ok (.isub, 1) := by decide +kernel
theorem dX12_floor_19 : decode cX12_floor 19 = .ok (.ireturn, 1) := by decide +kernel
theorem dX12_cellAt_0 : decode cX12_cellAt 0 = .ok (.sipush 5120, 3) := by decide +kernel
theorem dX12_cellAt_3 : decode cX12_cellAt 3 = .ok (.iload_n 0, 1) := by decide +kernel
theorem dX12_cellAt_4 : decode cX12_cellAt 4 = .ok (.imul, 1) := by decide +kernel
theorem dX12_cellAt_5 : decode cX12_cellAt 5 = .ok (.bipush 80, 2) := by decide +kernel
theorem dX12_cellAt_7 : decode cX12_cellAt 7 = .ok (.iload_n 1, 1) := by decide +kernel
theorem dX12_cellAt_8 : decode cX12_cellAt 8 = .ok (.imul, 1) := by decide +kernel
theorem dX12_cellAt_9 : decode cX12_cellAt 9 = .ok (.iadd, 1) := by decide +kernel
theorem dX12_cellAt_10 : decode cX12_cellAt 10 = .ok (.iload_n 2, 1) := by decide +kernel
theorem dX12_cellAt_11 : decode cX12_cellAt 11 = .ok (.iadd, 1) := by decide +kernel
theorem dX12_cellAt_12 : decode cX12_cellAt 12 = .ok (.bipush 40, 2) := by decide +kernel
theorem dX12_cellAt_14 : decode cX12_cellAt 14 = .ok (.iadd, 1) := by decide +kernel
theorem dX12_cellAt_15 : decode cX12_cellAt 15 = .ok (.ireturn, 1) := by decide +kernel
theorem dX12_get_0 : decode cX12_get 0 = .ok (.iload_n 3, 1) := by decide +kernel
theorem dX12_get_1 : decode cX12_get 1 = .ok (.bipush (-40), 2) := by decide +kernel
theorem dX12_get_3 : decode cX12_get 3 = .ok (.if_icmp .ge 8, 3) := by decide +kernel
theorem dX12_get_6 : decode cX12_get 6 = .ok (.bipush 15, 2) := by decide +kernel
theorem dX12_get_8 : decode cX12_get 8 = .ok (.goto 24, 3) := by decide +kernel
theorem dX12_get_11 : decode cX12_get 11 = .ok (.iload_n 3, 1) := by decide +kernel
theorem dX12_get_12 : decode cX12_get 12 = .ok (.bipush 39, 2) := by decide +kernel
theorem dX12_get_14 : decode cX12_get 14 = .ok (.if_icmp .le 7, 3) := by decide +kernel
theorem dX12_get_17 : decode cX12_get 17 = .ok (.iconst (-1), 1) := by decide +kernel
theorem dX12_get_18 : decode cX12_get 18 = .ok (.goto 14, 3) := by decide +kernel
theorem dX12_get_21 : decode cX12_get 21 = .ok (.aload_n 0, 1) := by decide +kernel
theorem dX12_get_22 : decode cX12_get 22 = .ok (.getfield 7, 3) := by decide +kernel
theorem dX12_get_25 : decode cX12_get 25 = .ok (.iload_n 1, 1) := by decide +kernel
theorem dX12_get_26 : decode cX12_get 26 = .ok (.iload_n 2, 1) := by decide +kernel
theorem dX12_get_27 : decode cX12_get 27 = .ok (.iload_n 3, 1) := by decide +kernel
theorem dX12_get_28 : decode cX12_get 28 = .ok (.invokestatic 123, 3) := by decide +kernel
theorem dX12_get_31 : decode cX12_get 31 = .ok (.baload, 1) := by decide +kernel
theorem dX12_get_32 : decode cX12_get 32 = .ok (.ireturn, 1) := by decide +kernel
theorem dX12_start_0 : decode cX12_start 0 = .ok (.iconst 0, 1) := by decide +kernel
theorem dX12_start_1 : decode cX12_start 1 = .ok (.istore_n 2, 1) := by decide +kernel
theorem dX12_start_2 : decode cX12_start 2 = .ok (.iload_n 2, 1) := by decide +kernel
theorem dX12_start_3 : decode cX12_start 3 = .ok (.bipush 64, 2) := by decide +kernel
theorem dX12_start_5 : decode cX12_start 5 = .ok (.if_icmp .ge 46, 3) := by decide +kernel
theorem dX12_start_8 : decode cX12_start 8 = .ok (.bipush (-40), 2) := by decide +kernel
theorem dX12_start_10 : decode cX12_start 10 = .ok (.istore_n 3, 1) := by decide +kernel
theorem dX12_start_11 : decode cX12_start 11 = .ok (.iload_n 3, 1) := by decide +kernel
theorem dX12_start_12 : decode cX12_start 12 = .ok (.bipush 40, 2) := by decide +kernel
theorem dX12_start_14 : decode cX12_start 14 = .ok (.if_icmp .ge 31, 3) := by decide +kernel
theorem dX12_start_17 : decode cX12_start 17 = .ok (.aload_n 0, 1) := by decide +kernel
theorem dX12_start_18 : decode cX12_start 18 = .ok (.getfield 7, 3) := by decide +kernel
theorem dX12_start_21 : decode cX12_start 21 = .ok (.iload_n 1, 1) := by decide +kernel
theorem dX12_start_22 : decode cX12_start 22 = .ok (.iload_n 2, 1) := by decide +kernel
theorem dX12_start_23 : decode cX12_start 23 = .ok (.iload_n 3, 1) := by decide +kernel
theorem dX12_start_24 : decode cX12_start 24 = .ok (.invokestatic 123, 3) := by decide +kernel
theorem dX12_start_27 : decode cX12_start 27 = .ok (.iload_n 3, 1) := by decide +kernel
theorem dX12_start_28 : decode cX12_start 28 = .ok (.ifCond .ge 8, 3) := by decide +kernel
theorem dX12_start_31 : decode cX12_start 31 = .ok (.bipush 15, 2) := by decide +kernel
theorem dX12_start_33 : decode cX12_start 33 = .ok (.goto 4, 3) := by decide +kernel
theorem dX12_start_36 : decode cX12_start 36 = .ok (.iconst (-1), 1) := by decide +kernel
theorem dX12_start_37 : decode cX12_start 37 = .ok (.i2b, 1) := by decide +kernel
theorem dX12_start_38 : decode cX12_start 38 = .ok (.bastore, 1) := by decide +kernel
theorem dX12_start_39 : decode cX12_start 39 = .ok (.iinc 3 1, 3) := by decide +kernel
theorem dX12_start_42 : decode cX12_start 42 = .ok (.goto (-31), 3) := by decide +kernel
theorem dX12_start_45 : decode cX12_start 45 = .ok (.iinc 2 1, 3) := by decide +kernel
theorem dX12_start_48 : decode cX12_start 48 = .ok (.goto (-46), 3) := by decide +kernel
theorem dX12_start_51 : decode cX12_start 51 = .ok (.return_, 1) := by decide +kernel
theorem dX12_carry_0 : decode cX12_carry 0 = .ok (.iconst 0, 1) := by decide +kernel
theorem dX12_carry_1 : decode cX12_carry 1 = .ok (.istore_n 3, 1) := by decide +kernel
theorem dX12_carry_2 : decode cX12_carry 2 = .ok (.iload_n 3, 1) := by decide +kernel
theorem dX12_carry_3 : decode cX12_carry 3 = .ok (.sipush 5120, 3) := by decide +kernel
theorem dX12_carry_6 : decode cX12_carry 6 = .ok (.if_icmp .ge 33, 3) := by decide +kernel
theorem dX12_carry_9 : decode cX12_carry 9 = .ok (.aload_n 0, 1) := by decide +kernel
theorem dX12_carry_10 : decode cX12_carry 10 = .ok (.getfield 7, 3) := by decide +kernel
theorem dX12_carry_13 : decode cX12_carry 13 = .ok (.sipush 5120, 3) := by decide +kernel
theorem dX12_carry_16 : decode cX12_carry 16 = .ok (.iload_n 2, 1) := by decide +kernel
theorem dX12_carry_17 : decode cX12_carry 17 = .ok (.imul, 1) := by decide +kernel
theorem dX12_carry_18 : decode cX12_carry 18 = .ok (.iload_n 3, 1) := by decide +kernel
theorem dX12_carry_19 : decode cX12_carry 19 = .ok (.iadd, 1) := by decide +kernel
theorem dX12_carry_20 : decode cX12_carry 20 = .ok (.aload_n 0, 1) := by decide +kernel
theorem dX12_carry_21 : decode cX12_carry 21 = .ok (.getfield 7, 3) := by decide +kernel
theorem dX12_carry_24 : decode cX12_carry 24 = .ok (.sipush 5120, 3) := by decide +kernel
theorem dX12_carry_27 : decode cX12_carry 27 = .ok (.iload_n 1, 1) := by decide +kernel
theorem dX12_carry_28 : decode cX12_carry 28 = .ok (.imul, 1) := by decide +kernel
theorem dX12_carry_29 : decode cX12_carry 29 = .ok (.iload_n 3, 1) := by decide +kernel
theorem dX12_carry_30 : decode cX12_carry 30 = .ok (.iadd, 1) := by decide +kernel
theorem dX12_carry_31 : decode cX12_carry 31 = .ok (.baload, 1) := by decide +kernel
theorem dX12_carry_32 : decode cX12_carry 32 = .ok (.bastore, 1) := by decide +kernel
theorem dX12_carry_33 : decode cX12_carry 33 = .ok (.iinc 3 1, 3) := by decide +kernel
theorem dX12_carry_36 : decode cX12_carry 36 = .ok (.goto (-34), 3) := by decide +kernel
theorem dX12_carry_39 : decode cX12_carry 39 = .ok (.return_, 1) := by decide +kernel
theorem dX12_skinOf_0 : decode cX12_skinOf 0 = .ok (.bipush 39, 2) := by decide +kernel
theorem dX12_skinOf_2 : decode cX12_skinOf 2 = .ok (.istore_n 3, 1) := by decide +kernel
theorem dX12_skinOf_3 : decode cX12_skinOf 3 = .ok (.iload_n 3, 1) := by decide +kernel
theorem dX12_skinOf_4 : decode cX12_skinOf 4 = .ok (.bipush (-40), 2) := by decide +kernel
theorem dX12_skinOf_6 : decode cX12_skinOf 6 = .ok (.if_icmp .lt 20, 3) := by decide +kernel
theorem dX12_skinOf_9 : decode cX12_skinOf 9 = .ok (.aload_n 0, 1) := by decide +kernel
theorem dX12_skinOf_10 : decode cX12_skinOf 10 = .ok (.iload_n 1, 1) := by decide +kernel
theorem dX12_skinOf_11 : decode cX12_skinOf 11 = .ok (.iload_n 2, 1) := by decide +kernel
theorem dX12_skinOf_12 : decode cX12_skinOf 12 = .ok (.iload_n 3, 1) := by decide +kernel
theorem dX12_skinOf_13 : decode cX12_skinOf 13 = .ok (.invokevirtual 127, 3) := by decide +kernel
theorem dX12_skinOf_16 : decode cX12_skinOf 16 = .ok (.iconst (-1), 1) := by decide +kernel
theorem dX12_skinOf_17 : decode cX12_skinOf 17 = .ok (.if_icmp .ne 9, 3) := by decide +kernel
theorem dX12_skinOf_20 : decode cX12_skinOf 20 = .ok (.iinc 3 (-1), 3) := by decide +kernel
theorem dX12_skinOf_23 : decode cX12_skinOf 23 = .ok (.goto (-20), 3) := by decide +kernel
theorem dX12_skinOf_26 : decode cX12_skinOf 26 = .ok (.iload_n 3, 1) := by decide +kernel
theorem dX12_skinOf_27 : decode cX12_skinOf 27 = .ok (.ireturn, 1) := by decide +kernel
theorem dX12_step_0 : decode cX12_step 0 = .ok (.iload_n 0, 1) := by decide +kernel
theorem dX12_step_1 : decode cX12_step 1 = .ok (.ifCond .ne 10, 3) := by decide +kernel
theorem dX12_step_4 : decode cX12_step 4 = .ok (.iload_n 1, 1) := by decide +kernel
theorem dX12_step_5 : decode cX12_step 5 = .ok (.bipush 8, 2) := by decide +kernel
theorem dX12_step_7 : decode cX12_step 7 = .ok (.irem, 1) := by decide +kernel
theorem dX12_step_8 : decode cX12_step 8 = .ok (.goto 7, 3) := by decide +kernel
theorem dX12_step_11 : decode cX12_step 11 = .ok (.iload_n 1, 1) := by decide +kernel
theorem dX12_step_12 : decode cX12_step 12 = .ok (.bipush 8, 2) := by decide +kernel
theorem dX12_step_14 : decode cX12_step 14 = .ok (.idiv, 1) := by decide +kernel
theorem dX12_step_15 : decode cX12_step 15 = .ok (.ireturn, 1) := by decide +kernel
theorem dX12_many_0 : decode cX12_many 0 = .ok (.iload_n 0, 1) := by decide +kernel
theorem dX12_many_1 : decode cX12_many 1 = .ok (.ifCond .eq 8, 3) := by decide +kernel
theorem dX12_many_4 : decode cX12_many 4 = .ok (.iload_n 0, 1) := by decide +kernel
theorem dX12_many_5 : decode cX12_many 5 = .ok (.iconst 1, 1) := by decide +kernel
theorem dX12_many_6 : decode cX12_many 6 = .ok (.if_icmp .ne 7, 3) := by decide +kernel
theorem dX12_many_9 : decode cX12_many 9 = .ok (.iconst 2, 1) := by decide +kernel
theorem dX12_many_10 : decode cX12_many 10 = .ok (.goto 22, 3) := by decide +kernel
theorem dX12_many_13 : decode cX12_many 13 = .ok (.iload_n 0, 1) := by decide +kernel
theorem dX12_many_14 : decode cX12_many 14 = .ok (.iconst 4, 1) := by decide +kernel
theorem dX12_many_15 : decode cX12_many 15 = .ok (.if_icmp .ne 7, 3) := by decide +kernel
theorem dX12_many_18 : decode cX12_many 18 = .ok (.iconst 3, 1) := by decide +kernel
theorem dX12_many_19 : decode cX12_many 19 = .ok (.goto 13, 3) := by decide +kernel
theorem dX12_many_22 : decode cX12_many 22 = .ok (.iload_n 0, 1) := by decide +kernel
theorem dX12_many_23 : decode cX12_many 23 = .ok (.iconst 5, 1) := by decide +kernel
theorem dX12_many_24 : decode cX12_many 24 = .ok (.if_icmp .ne 7, 3) := by decide +kernel
theorem dX12_many_27 : decode cX12_many 27 = .ok (.iconst 5, 1) := by decide +kernel
theorem dX12_many_28 : decode cX12_many 28 = .ok (.goto 4, 3) := by decide +kernel
theorem dX12_many_31 : decode cX12_many 31 = .ok (.iconst 4, 1) := by decide +kernel
theorem dX12_many_32 : decode cX12_many 32 = .ok (.ireturn, 1) := by decide +kernel
theorem dX12_bound_0 : decode cX12_bound 0 = .ok (.bipush 10, 2) := by decide +kernel
theorem dX12_bound_2 : decode cX12_bound 2 = .ok (.iload_n 0, 1) := by decide +kernel
theorem dX12_bound_3 : decode cX12_bound 3 = .ok (.imul, 1) := by decide +kernel
theorem dX12_bound_4 : decode cX12_bound 4 = .ok (.iload_n 1, 1) := by decide +kernel
theorem dX12_bound_5 : decode cX12_bound 5 = .ok (.iadd, 1) := by decide +kernel
theorem dX12_bound_6 : decode cX12_bound 6 = .ok (.tableswitch 335 0 54 #[234, 245, 335, 335, 335, 335, 335, 335, 335, 335, 335, 335, 335, 335, 335, 335, 335, 335, 335, 335, 256, 335, 266, 277, 335, 335, 335, 335, 335, 335, 256, 277, 288, 300, 335, 335, 335, 335, 335, 335, 311, 335, 335, 335, 335, 335, 335, 335, 335, 335, 234, 256, 277, 277, 323], 234) := by decide +kernel
theorem dX12_bound_240 : decode cX12_bound 240 = .ok (.iload_n 2, 1) := by decide +kernel
theorem dX12_bound_241 : decode cX12_bound 241 = .ok (.ifCond .eq 7, 3) := by decide +kernel
theorem dX12_bound_244 : decode cX12_bound 244 = .ok (.iconst 0, 1) := by decide +kernel
theorem dX12_bound_245 : decode cX12_bound 245 = .ok (.goto 5, 3) := by decide +kernel
theorem dX12_bound_248 : decode cX12_bound 248 = .ok (.bipush 14, 2) := by decide +kernel
theorem dX12_bound_250 : decode cX12_bound 250 = .ok (.ireturn, 1) := by decide +kernel
theorem dX12_bound_251 : decode cX12_bound 251 = .ok (.iload_n 2, 1) := by decide +kernel
theorem dX12_bound_252 : decode cX12_bound 252 = .ok (.ifCond .eq 7, 3) := by decide +kernel
theorem dX12_bound_255 : decode cX12_bound 255 = .ok (.iconst 1, 1) := by decide +kernel
theorem dX12_bound_256 : decode cX12_bound 256 = .ok (.goto 5, 3) := by decide +kernel
theorem dX12_bound_259 : decode cX12_bound 259 = .ok (.bipush 8, 2) := by decide +kernel
theorem dX12_bound_261 : decode cX12_bound 261 = .ok (.ireturn, 1) := by decide +kernel
theorem dX12_bound_262 : decode cX12_bound 262 = .ok (.iload_n 2, 1) := by decide +kernel
theorem dX12_bound_263 : decode cX12_bound 263 = .ok (.ifCond .eq 7, 3) := by decide +kernel
theorem dX12_bound_266 : decode cX12_bound 266 = .ok (.iconst 0, 1) := by decide +kernel
theorem dX12_bound_267 : decode cX12_bound 267 = .ok (.goto 4, 3) := by decide +kernel
theorem dX12_bound_270 : decode cX12_bound 270 = .ok (.iconst 1, 1) := by decide +kernel
theorem dX12_bound_271 : decode cX12_bound 271 = .ok (.ireturn, 1) := by decide +kernel
theorem dX12_bound_272 : decode cX12_bound 272 = .ok (.iload_n 2, 1) := by decide +kernel
theorem dX12_bound_273 : decode cX12_bound 273 = .ok (.ifCond .eq 7, 3) := by decide +kernel
theorem dX12_bound_276 : decode cX12_bound 276 = .ok (.iconst 2, 1) := by decide +kernel
theorem dX12_bound_277 : decode cX12_bound 277 = .ok (.goto 5, 3) := by decide +kernel
theorem dX12_bound_280 : decode cX12_bound 280 = .ok (.bipush 8, 2) := by decide +kernel
theorem dX12_bound_282 : decode cX12_bound 282 = .ok (.ireturn, 1) := by decide +kernel
theorem dX12_bound_283 : decode cX12_bound 283 = .ok (.iload_n 2, 1) := by decide +kernel
theorem dX12_bound_284 : decode cX12_bound 284 = .ok (.ifCond .eq 7, 3) := by decide +kernel
theorem dX12_bound_287 : decode cX12_bound 287 = .ok (.iconst 0, 1) := by decide +kernel
theorem dX12_bound_288 : decode cX12_bound 288 = .ok (.goto 5, 3) := by decide +kernel
theorem dX12_bound_291 : decode cX12_bound 291 = .ok (.bipush 7, 2) := by decide +kernel
theorem dX12_bound_293 : decode cX12_bound 293 = .ok (.ireturn, 1) := by decide +kernel
theorem dX12_bound_294 : decode cX12_bound 294 = .ok (.iload_n 2, 1) := by decide +kernel
theorem dX12_bound_295 : decode cX12_bound 295 = .ok (.ifCond .eq 8, 3) := by decide +kernel
theorem dX12_bound_298 : decode cX12_bound 298 = .ok (.bipush (-16), 2) := by decide +kernel
theorem dX12_bound_300 : decode cX12_bound 300 = .ok (.goto 5, 3) := by decide +kernel
theorem dX12_bound_303 : decode cX12_bound 303 = .ok (.bipush 16, 2) := by decide +kernel
theorem dX12_bound_305 : decode cX12_bound 305 = .ok (.ireturn, 1) := by decide +kernel
theorem dX12_bound_306 : decode cX12_bound 306 = .ok (.iload_n 2, 1) := by decide +kernel
theorem dX12_bound_307 : decode cX12_bound 307 = .ok (.ifCond .eq 8, 3) := by decide +kernel
theorem dX12_bound_310 : decode cX12_bound 310 = .ok (.bipush (-2), 2) := by decide +kernel
theorem dX12_bound_312 : decode cX12_bound 312 = .ok (.goto 4, 3) := by decide +kernel
theorem dX12_bound_315 : decode cX12_bound 315 = .ok (.iconst 2, 1) := by decide +kernel
theorem dX12_bound_316 : decode cX12_bound 316 = .ok (.ireturn, 1) := by decide +kernel
theorem dX12_bound_317 : decode cX12_bound 317 = .ok (.iload_n 2, 1) := by decide +kernel
theorem dX12_bound_318 : decode cX12_bound 318 = .ok (.ifCond .eq 8, 3) := by decide +kernel
theorem dX12_bound_321 : decode cX12_bound 321 = .ok (.bipush (-30), 2) := by decide +kernel
theorem dX12_bound_323 : decode cX12_bound 323 = .ok (.goto 5, 3) := by decide +kernel
theorem dX12_bound_326 : decode cX12_bound 326 = .ok (.bipush 39, 2) := by decide +kernel
theorem dX12_bound_328 : decode cX12_bound 328 = .ok (.ireturn, 1) := by decide +kernel
theorem dX12_bound_329 : decode cX12_bound 329 = .ok (.iload_n 2, 1) := by decide +kernel
theorem dX12_bound_330 : decode cX12_bound 330 = .ok (.ifCond .eq 8, 3) := by decide +kernel
theorem dX12_bound_333 : decode cX12_bound 333 = .ok (.bipush (-40), 2) := by decide +kernel
theorem dX12_bound_335 : decode cX12_bound 335 = .ok (.goto 5, 3) := by decide +kernel
theorem dX12_bound_338 : decode cX12_bound 338 = .ok (.bipush 39, 2) := by decide +kernel
theorem dX12_bound_340 : decode cX12_bound 340 = .ok (.ireturn, 1) := by decide +kernel
theorem dX12_bound_341 : decode cX12_bound 341 = .ok (.iload_n 2, 1) := by decide +kernel
theorem dX12_bound_342 : decode cX12_bound 342 = .ok (.ifCond .eq 8, 3) := by decide +kernel
theorem dX12_bound_345 : decode cX12_bound 345 = .ok (.bipush (-8), 2) := by decide +kernel
theorem dX12_bound_347 : decode cX12_bound 347 = .ok (.goto 5, 3) := by decide +kernel
theorem dX12_bound_350 : decode cX12_bound 350 = .ok (.bipush 8, 2) := by decide +kernel
theorem dX12_bound_352 : decode cX12_bound 352 = .ok (.ireturn, 1) := by decide +kernel
theorem dX12_isNumber_0 : decode cX12_isNumber 0 = .ok (.iload_n 2, 1) := by decide +kernel
theorem dX12_isNumber_1 : decode cX12_isNumber 1 = .ok (.i2l, 1) := by decide +kernel
theorem dX12_isNumber_2 : decode cX12_isNumber 2 = .ok (.iload_n 0, 1) := by decide +kernel
theorem dX12_isNumber_3 : decode cX12_isNumber 3 = .ok (.iload_n 1, 1) := by decide +kernel
theorem dX12_isNumber_4 : decode cX12_isNumber 4 = .ok (.iconst 1, 1) := by decide +kernel
theorem dX12_isNumber_5 : decode cX12_isNumber 5 = .ok (.invokestatic 130, 3) := by decide +kernel
theorem dX12_isNumber_8 : decode cX12_isNumber 8 = .ok (.i2l, 1) := by decide +kernel
theorem dX12_isNumber_9 : decode cX12_isNumber 9 = .ok (.iload_n 0, 1) := by decide +kernel
theorem dX12_isNumber_10 : decode cX12_isNumber 10 = .ok (.iload_n 1, 1) := by decide +kernel
theorem dX12_isNumber_11 : decode cX12_isNumber 11 = .ok (.iconst 0, 1) := by decide +kernel
theorem dX12_isNumber_12 : decode cX12_isNumber 12 = .ok (.invokestatic 130, 3) := by decide +kernel
theorem dX12_isNumber_15 : decode cX12_isNumber 15 = .ok (.i2l, 1) := by decide +kernel
theorem dX12_isNumber_16 : decode cX12_isNumber 16 = .ok (.invokestatic 134, 3) := by decide +kernel
theorem dX12_isNumber_19 : decode cX12_isNumber 19 = .ok (.ireturn, 1) := by decide +kernel
theorem dX12_give_0 : decode cX12_give 0 = .ok (.aload_n 0, 1) := by decide +kernel
theorem dX12_give_1 : decode cX12_give 1 = .ok (.getfield 27, 3) := by decide +kernel
theorem dX12_give_4 : decode cX12_give 4 = .ok (.iconst 0, 1) := by decide +kernel
theorem dX12_give_5 : decode cX12_give 5 = .ok (.iload_n 1, 1) := by decide +kernel
theorem dX12_give_6 : decode cX12_give 6 = .ok (.iastore, 1) := by decide +kernel
theorem dX12_give_7 : decode cX12_give 7 = .ok (.aload_n 0, 1) := by decide +kernel
theorem dX12_give_8 : decode cX12_give 8 = .ok (.getfield 27, 3) := by decide +kernel
theorem dX12_give_11 : decode cX12_give 11 = .ok (.iconst 1, 1) := by decide +kernel
theorem dX12_give_12 : decode cX12_give 12 = .ok (.iload_n 2, 1) := by decide +kernel
theorem dX12_give_13 : decode cX12_give 13 = .ok (.iastore, 1) := by decide +kernel
theorem dX12_give_14 : decode cX12_give 14 = .ok (.aload_n 0, 1) := by decide +kernel
theorem dX12_give_15 : decode cX12_give 15 = .ok (.getfield 27, 3) := by decide +kernel
theorem dX12_give_18 : decode cX12_give 18 = .ok (.iconst 2, 1) := by decide +kernel
theorem dX12_give_19 : decode cX12_give 19 = .ok (.iload_n 3, 1) := by decide +kernel
theorem dX12_give_20 : decode cX12_give 20 = .ok (.iastore, 1) := by decide +kernel
theorem dX12_give_21 : decode cX12_give 21 = .ok (.aload_n 0, 1) := by decide +kernel
theorem dX12_give_22 : decode cX12_give 22 = .ok (.getfield 27, 3) := by decide +kernel
theorem dX12_give_25 : decode cX12_give 25 = .ok (.iconst 3, 1) := by decide +kernel
theorem dX12_give_26 : decode cX12_give 26 = .ok (.iload 4, 2) := by decide +kernel
theorem dX12_give_28 : decode cX12_give 28 = .ok (.iastore, 1) := by decide +kernel
theorem dX12_give_29 : decode cX12_give 29 = .ok (.aload_n 0, 1) := by decide +kernel
theorem dX12_give_30 : decode cX12_give 30 = .ok (.getfield 27, 3) := by decide +kernel
theorem dX12_give_33 : decode cX12_give 33 = .ok (.iconst 4, 1) := by decide +kernel
theorem dX12_give_34 : decode cX12_give 34 = .ok (.iload 5, 2) := by decide +kernel
theorem dX12_give_36 : decode cX12_give 36 = .ok (.iastore, 1) := by decide +kernel
theorem dX12_give_37 : decode cX12_give 37 = .ok (.return_, 1) := by decide +kernel
theorem dX12_isEvent_0 : decode cX12_isEvent 0 = .ok (.iload_n 1, 1) := by decide +kernel
theorem dX12_isEvent_1 : decode cX12_isEvent 1 = .ok (.i2l, 1) := by decide +kernel
theorem dX12_isEvent_2 : decode cX12_isEvent 2 = .ok (.lconst 0, 1) := by decide +kernel
theorem dX12_isEvent_3 : decode cX12_isEvent 3 = .ok (.ldc2_w 138, 3) := by decide +kernel
theorem dX12_isEvent_6 : decode cX12_isEvent 6 = .ok (.invokestatic 134, 3) := by decide +kernel
theorem dX12_isEvent_9 : decode cX12_isEvent 9 = .ok (.ifCond .ne 5, 3) := by decide +kernel
theorem dX12_isEvent_12 : decode cX12_isEvent 12 = .ok (.iconst 0, 1) := by decide +kernel
theorem dX12_isEvent_13 : decode cX12_isEvent 13 = .ok (.ireturn, 1) := by decide +kernel
theorem dX12_isEvent_14 : decode cX12_isEvent 14 = .ok (.iconst 1, 1) := by decide +kernel
theorem dX12_isEvent_15 : decode cX12_isEvent 15 = .ok (.istore_n 2, 1) := by decide +kernel
theorem dX12_isEvent_16 : decode cX12_isEvent 16 = .ok (.iconst 0, 1) := by decide +kernel
theorem dX12_isEvent_17 : decode cX12_isEvent 17 = .ok (.istore_n 3, 1) := by decide +kernel
theorem dX12_isEvent_18 : decode cX12_isEvent 18 = .ok (.iload_n 3, 1) := by decide +kernel
theorem dX12_isEvent_19 : decode cX12_isEvent 19 = .ok (.iconst 5, 1) := by decide +kernel
theorem dX12_isEvent_20 : decode cX12_isEvent 20 = .ok (.if_icmp .ge 65, 3) := by decide +kernel
theorem dX12_isEvent_23 : decode cX12_isEvent 23 = .ok (.aload_n 0, 1) := by decide +kernel
theorem dX12_isEvent_24 : decode cX12_isEvent 24 = .ok (.getfield 27, 3) := by decide +kernel
theorem dX12_isEvent_27 : decode cX12_isEvent 27 = .ok (.iload_n 3, 1) := by decide +kernel
theorem dX12_isEvent_28 : decode cX12_isEvent 28 = .ok (.iload_n 3, 1) := by decide +kernel
theorem dX12_isEvent_29 : decode cX12_isEvent 29 = .ok (.iload_n 1, 1) := by decide +kernel
theorem dX12_isEvent_30 : decode cX12_isEvent 30 = .ok (.invokestatic 140, 3) := by decide +kernel
theorem dX12_isEvent_33 : decode cX12_isEvent 33 = .ok (.if_icmp .ge 12, 3) := by decide +kernel
theorem dX12_isEvent_36 : decode cX12_isEvent 36 = .ok (.aload_n 0, 1) := by decide +kernel
theorem dX12_isEvent_37 : decode cX12_isEvent 37 = .ok (.getfield 27, 3) := by decide +kernel
theorem dX12_isEvent_40 : decode cX12_isEvent 40 = .ok (.iload_n 3, 1) := by decide +kernel
theorem dX12_isEvent_41 : decode cX12_isEvent 41 = .ok (.iaload, 1) := by decide +kernel
theorem dX12_isEvent_42 : decode cX12_isEvent 42 = .ok (.goto 4, 3) := by decide +kernel
theorem dX12_isEvent_45 : decode cX12_isEvent 45 = .ok (.iconst 0, 1) := by decide +kernel
theorem dX12_isEvent_46 : decode cX12_isEvent 46 = .ok (.iastore, 1) := by decide +kernel
theorem dX12_isEvent_47 : decode cX12_isEvent 47 = .ok (.iload_n 2, 1) := by decide +kernel
theorem dX12_isEvent_48 : decode cX12_isEvent 48 = .ok (.ifCond .eq 29, 3) := by decide +kernel
theorem dX12_isEvent_51 : decode cX12_isEvent 51 = .ok (.iload_n 3, 1) := by decide +kernel
theorem dX12_isEvent_52 : decode cX12_isEvent 52 = .ok (.iload_n 1, 1) := by decide +kernel
theorem dX12_isEvent_53 : decode cX12_isEvent 53 = .ok (.invokestatic 140, 3) := by decide +kernel
theorem dX12_isEvent_56 : decode cX12_isEvent 56 = .ok (.if_icmp .ge 17, 3) := by decide +kernel
theorem dX12_isEvent_59 : decode cX12_isEvent 59 = .ok (.iload_n 1, 1) := by decide +kernel
theorem dX12_isEvent_60 : decode cX12_isEvent 60 = .ok (.iload_n 3, 1) := by decide +kernel
theorem dX12_isEvent_61 : decode cX12_isEvent 61 = .ok (.aload_n 0, 1) := by decide +kernel
theorem dX12_isEvent_62 : decode cX12_isEvent 62 = .ok (.getfield 27, 3) := by decide +kernel
theorem dX12_isEvent_65 : decode cX12_isEvent 65 = .ok (.iload_n 3, 1) := by decide +kernel
theorem dX12_isEvent_66 : decode cX12_isEvent 66 = .ok (.iaload, 1) := by decide +kernel
theorem dX12_isEvent_67 : decode cX12_isEvent 67 = .ok (.invokestatic 144, 3) := by decide +kernel
theorem dX12_isEvent_70 : decode cX12_isEvent 70 = .ok (.ifCond .eq 7, 3) := by decide +kernel
theorem dX12_isEvent_73 : decode cX12_isEvent 73 = .ok (.iconst 1, 1) := by decide +kernel
theorem dX12_isEvent_74 : decode cX12_isEvent 74 = .ok (.goto 4, 3) := by decide +kernel
theorem dX12_isEvent_77 : decode cX12_isEvent 77 = .ok (.iconst 0, 1) := by decide +kernel
theorem dX12_isEvent_78 : decode cX12_isEvent 78 = .ok (.istore_n 2, 1) := by decide +kernel
theorem dX12_isEvent_79 : decode cX12_isEvent 79 = .ok (.iinc 3 1, 3) := by decide +kernel
theorem dX12_isEvent_82 : decode cX12_isEvent 82 = .ok (.goto (-64), 3) := by decide +kernel
theorem dX12_isEvent_85 : decode cX12_isEvent 85 = .ok (.iload_n 2, 1) := by decide +kernel
theorem dX12_isEvent_86 : decode cX12_isEvent 86 = .ok (.ifCond .eq 27, 3) := by decide +kernel
theorem dX12_isEvent_89 : decode cX12_isEvent 89 = .ok (.iload_n 1, 1) := by decide +kernel
theorem dX12_isEvent_90 : decode cX12_isEvent 90 = .ok (.iconst 5, 1) := by decide +kernel
theorem dX12_isEvent_91 : decode cX12_isEvent 91 = .ok (.if_icmp .ne 18, 3) := by decide +kernel
theorem dX12_isEvent_94 : decode cX12_isEvent 94 = .ok (.aload_n 0, 1) := by decide +kernel
theorem dX12_isEvent_95 : decode cX12_isEvent 95 = .ok (.getfield 27, 3) := by decide +kernel
theorem dX12_isEvent_98 : decode cX12_isEvent 98 = .ok (.iconst 3, 1) := by decide +kernel
theorem dX12_isEvent_99 : decode cX12_isEvent 99 = .ok (.iaload, 1) := by decide +kernel
theorem dX12_isEvent_100 : decode cX12_isEvent 100 = .ok (.aload_n 0, 1) := by decide +kernel
theorem dX12_isEvent_101 : decode cX12_isEvent 101 = .ok (.getfield 27, 3) := by decide +kernel
theorem dX12_isEvent_104 : decode cX12_isEvent 104 = .ok (.iconst 2, 1) := by decide +kernel
theorem dX12_isEvent_105 : decode cX12_isEvent 105 = .ok (.iaload, 1) := by decide +kernel
theorem dX12_isEvent_106 : decode cX12_isEvent 106 = .ok (.if_icmp .lt 7, 3) := by decide +kernel
theorem dX12_isEvent_109 : decode cX12_isEvent 109 = .ok (.iconst 1, 1) := by decide +kernel
theorem dX12_isEvent_110 : decode cX12_isEvent 110 = .ok (.goto 4, 3) := by decide +kernel
theorem dX12_isEvent_113 : decode cX12_isEvent 113 = .ok (.iconst 0, 1) := by decide +kernel
theorem dX12_isEvent_114 : decode cX12_isEvent 114 = .ok (.ireturn, 1) := by decide +kernel
theorem dX12_rise_0 : decode cX12_rise 0 = .ok (.iload_n 1, 1) := by decide +kernel
theorem dX12_rise_1 : decode cX12_rise 1 = .ok (.iconst 1, 1) := by decide +kernel
theorem dX12_rise_2 : decode cX12_rise 2 = .ok (.if_icmp .ne 31, 3) := by decide +kernel
theorem dX12_rise_5 : decode cX12_rise 5 = .ok (.aload_n 0, 1) := by decide +kernel
theorem dX12_rise_6 : decode cX12_rise 6 = .ok (.getfield 27, 3) := by decide +kernel
theorem dX12_rise_9 : decode cX12_rise 9 = .ok (.iconst 0, 1) := by decide +kernel
theorem dX12_rise_10 : decode cX12_rise 10 = .ok (.iaload, 1) := by decide +kernel
theorem dX12_rise_11 : decode cX12_rise 11 = .ok (.iload_n 2, 1) := by decide +kernel
theorem dX12_rise_12 : decode cX12_rise 12 = .ok (.bipush 8, 2) := by decide +kernel
theorem dX12_rise_14 : decode cX12_rise 14 = .ok (.irem, 1) := by decide +kernel
theorem dX12_rise_15 : decode cX12_rise 15 = .ok (.imul, 1) := by decide +kernel
theorem dX12_rise_16 : decode cX12_rise 16 = .ok (.aload_n 0, 1) := by decide +kernel
theorem dX12_rise_17 : decode cX12_rise 17 = .ok (.getfield 27, 3) := by decide +kernel
theorem dX12_rise_20 : decode cX12_rise 20 = .ok (.iconst 1, 1) := by decide +kernel
theorem dX12_rise_21 : decode cX12_rise 21 = .ok (.iaload, 1) := by decide +kernel
theorem dX12_rise_22 : decode cX12_rise 22 = .ok (.iload_n 2, 1) := by decide +kernel
theorem dX12_rise_23 : decode cX12_rise 23 = .ok (.bipush 8, 2) := by decide +kernel
theorem dX12_rise_25 : decode cX12_rise 25 = .ok (.idiv, 1) := by decide +kernel
theorem dX12_rise_26 : decode cX12_rise 26 = .ok (.imul, 1) := by decide +kernel
theorem dX12_rise_27 : decode cX12_rise 27 = .ok (.iadd, 1) := by decide +kernel
theorem dX12_rise_28 : decode cX12_rise 28 = .ok (.iconst 4, 1) := by decide +kernel
theorem dX12_rise_29 : decode cX12_rise 29 = .ok (.invokestatic 148, 3) := by decide +kernel
theorem dX12_rise_32 : decode cX12_rise 32 = .ok (.ireturn, 1) := by decide +kernel
theorem dX12_rise_33 : decode cX12_rise 33 = .ok (.aload_n 0, 1) := by decide +kernel
theorem dX12_rise_34 : decode cX12_rise 34 = .ok (.getfield 27, 3) := by decide +kernel
theorem dX12_rise_37 : decode cX12_rise 37 = .ok (.iconst 0, 1) := by decide +kernel
theorem dX12_rise_38 : decode cX12_rise 38 = .ok (.iaload, 1) := by decide +kernel
theorem dX12_rise_39 : decode cX12_rise 39 = .ok (.iload_n 2, 1) := by decide +kernel
theorem dX12_rise_40 : decode cX12_rise 40 = .ok (.invokestatic 152, 3) := by decide +kernel
theorem dX12_rise_43 : decode cX12_rise 43 = .ok (.aload_n 0, 1) := by decide +kernel
theorem dX12_rise_44 : decode cX12_rise 44 = .ok (.getfield 27, 3) := by decide +kernel
theorem dX12_rise_47 : decode cX12_rise 47 = .ok (.iconst 3, 1) := by decide +kernel
theorem dX12_rise_48 : decode cX12_rise 48 = .ok (.iaload, 1) := by decide +kernel
theorem dX12_rise_49 : decode cX12_rise 49 = .ok (.iadd, 1) := by decide +kernel
theorem dX12_rise_50 : decode cX12_rise 50 = .ok (.aload_n 0, 1) := by decide +kernel
theorem dX12_rise_51 : decode cX12_rise 51 = .ok (.getfield 27, 3) := by decide +kernel
theorem dX12_rise_54 : decode cX12_rise 54 = .ok (.iconst 2, 1) := by decide +kernel
theorem dX12_rise_55 : decode cX12_rise 55 = .ok (.iaload, 1) := by decide +kernel
theorem dX12_rise_56 : decode cX12_rise 56 = .ok (.irem, 1) := by decide +kernel
theorem dX12_rise_57 : decode cX12_rise 57 = .ok (.istore_n 3, 1) := by decide +kernel
theorem dX12_rise_58 : decode cX12_rise 58 = .ok (.iload_n 3, 1) := by decide +kernel
theorem dX12_rise_59 : decode cX12_rise 59 = .ok (.aload_n 0, 1) := by decide +kernel
theorem dX12_rise_60 : decode cX12_rise 60 = .ok (.getfield 27, 3) := by decide +kernel
theorem dX12_rise_63 : decode cX12_rise 63 = .ok (.iconst 2, 1) := by decide +kernel
theorem dX12_rise_64 : decode cX12_rise 64 = .ok (.iaload, 1) := by decide +kernel
theorem dX12_rise_65 : decode cX12_rise 65 = .ok (.iload_n 3, 1) := by decide +kernel
theorem dX12_rise_66 : decode cX12_rise 66 = .ok (.isub, 1) := by decide +kernel
theorem dX12_rise_67 : decode cX12_rise 67 = .ok (.if_icmp .ge 7, 3) := by decide +kernel
theorem dX12_rise_70 : decode cX12_rise 70 = .ok (.iload_n 3, 1) := by decide +kernel
theorem dX12_rise_71 : decode cX12_rise 71 = .ok (.goto 11, 3) := by decide +kernel
theorem dX12_rise_74 : decode cX12_rise 74 = .ok (.aload_n 0, 1) := by decide +kernel
theorem dX12_rise_75 : decode cX12_rise 75 = .ok (.getfield 27, 3) := by decide +kernel
theorem dX12_rise_78 : decode cX12_rise 78 = .ok (.iconst 2, 1) := by decide +kernel
theorem dX12_rise_79 : decode cX12_rise 79 = .ok (.iaload, 1) := by decide +kernel
theorem dX12_rise_80 : decode cX12_rise 80 = .ok (.iload_n 3, 1) := by decide +kernel
theorem dX12_rise_81 : decode cX12_rise 81 = .ok (.isub, 1) := by decide +kernel
theorem dX12_rise_82 : decode cX12_rise 82 = .ok (.istore 4, 2) := by decide +kernel
theorem dX12_rise_84 : decode cX12_rise 84 = .ok (.aload_n 0, 1) := by decide +kernel
theorem dX12_rise_85 : decode cX12_rise 85 = .ok (.getfield 27, 3) := by decide +kernel
theorem dX12_rise_88 : decode cX12_rise 88 = .ok (.iconst 1, 1) := by decide +kernel
theorem dX12_rise_89 : decode cX12_rise 89 = .ok (.iaload, 1) := by decide +kernel
theorem dX12_rise_90 : decode cX12_rise 90 = .ok (.iload 4, 2) := by decide +kernel
theorem dX12_rise_92 : decode cX12_rise 92 = .ok (.imul, 1) := by decide +kernel
theorem dX12_rise_93 : decode cX12_rise 93 = .ok (.iconst 2, 1) := by decide +kernel
theorem dX12_rise_94 : decode cX12_rise 94 = .ok (.invokestatic 148, 3) := by decide +kernel
theorem dX12_rise_97 : decode cX12_rise 97 = .ok (.ireturn, 1) := by decide +kernel
theorem dX12_layBed_0 : decode cX12_layBed 0 = .ok (.aload_n 0, 1) := by decide +kernel
theorem dX12_layBed_1 : decode cX12_layBed 1 = .ok (.iload_n 1, 1) := by decide +kernel
theorem dX12_layBed_2 : decode cX12_layBed 2 = .ok (.iload_n 2, 1) := by decide +kernel
theorem dX12_layBed_3 : decode cX12_layBed 3 = .ok (.invokevirtual 155, 3) := by decide +kernel
theorem dX12_layBed_6 : decode cX12_layBed 6 = .ok (.iconst 1, 1) := by decide +kernel
theorem dX12_layBed_7 : decode cX12_layBed 7 = .ok (.iadd, 1) := by decide +kernel
theorem dX12_layBed_8 : decode cX12_layBed 8 = .ok (.istore_n 3, 1) := by decide +kernel
theorem dX12_layBed_9 : decode cX12_layBed 9 = .ok (.iconst 0, 1) := by decide +kernel
theorem dX12_layBed_10 : decode cX12_layBed 10 = .ok (.istore 4, 2) := by decide +kernel
theorem dX12_layBed_12 : decode cX12_layBed 12 = .ok (.iload 4, 2) := by decide +kernel
theorem dX12_layBed_14 : decode cX12_layBed 14 = .ok (.aload_n 0, 1) := by decide +kernel
theorem dX12_layBed_15 : decode cX12_layBed 15 = .ok (.getfield 27, 3) := by decide +kernel
theorem dX12_layBed_18 : decode cX12_layBed 18 = .ok (.iconst 1, 1) := by decide +kernel
theorem dX12_layBed_19 : decode cX12_layBed 19 = .ok (.iaload, 1) := by decide +kernel
theorem dX12_layBed_20 : decode cX12_layBed 20 = .ok (.if_icmp .ge 39, 3) := by decide +kernel
theorem dX12_layBed_23 : decode cX12_layBed 23 = .ok (.iload_n 3, 1) := by decide +kernel
theorem dX12_layBed_24 : decode cX12_layBed 24 = .ok (.iload 4, 2) := by decide +kernel
theorem dX12_layBed_26 : decode cX12_layBed 26 = .ok (.iadd, 1) := by decide +kernel
theorem dX12_layBed_27 : decode cX12_layBed 27 = .ok (.bipush 40, 2) := by decide +kernel
theorem dX12_layBed_29 : decode cX12_layBed 29 = .ok (.if_icmp .ge 30, 3) := by decide +kernel
theorem dX12_layBed_32 : decode cX12_layBed 32 = .ok (.aload_n 0, 1) := by decide +kernel
theorem dX12_layBed_33 : decode cX12_layBed 33 = .ok (.getfield 7, 3) := by decide +kernel
theorem dX12_layBed_36 : decode cX12_layBed 36 = .ok (.iload_n 1, 1) := by decide +kernel
theorem dX12_layBed_37 : decode cX12_layBed 37 = .ok (.iload_n 2, 1) := by decide +kernel
theorem dX12_layBed_38 : decode cX12_layBed 38 = .ok (.iload_n 3, 1) := by decide +kernel
theorem dX12_layBed_39 : decode cX12_layBed 39 = .ok (.iload 4, 2) := by decide +kernel
theorem dX12_layBed_41 : decode cX12_layBed 41 = .ok (.iadd, 1) := by decide +kernel
theorem dX12_layBed_42 : decode cX12_layBed 42 = .ok (.invokestatic 123, 3) := by decide +kernel
theorem dX12_layBed_45 : decode cX12_layBed 45 = .ok (.aload_n 0, 1) := by decide +kernel
theorem dX12_layBed_46 : decode cX12_layBed 46 = .ok (.getfield 27, 3) := by decide +kernel
theorem dX12_layBed_49 : decode cX12_layBed 49 = .ok (.iconst 0, 1) := by decide +kernel
theorem dX12_layBed_50 : decode cX12_layBed 50 = .ok (.iaload, 1) := by decide +kernel
theorem dX12_layBed_51 : decode cX12_layBed 51 = .ok (.i2b, 1) := by decide +kernel
theorem dX12_layBed_52 : decode cX12_layBed 52 = .ok (.bastore, 1) := by decide +kernel
theorem dX12_layBed_53 : decode cX12_layBed 53 = .ok (.iinc 4 1, 3) := by decide +kernel
theorem dX12_layBed_56 : decode cX12_layBed 56 = .ok (.goto (-44), 3) := by decide +kernel
theorem dX12_layBed_59 : decode cX12_layBed 59 = .ok (.return_, 1) := by decide +kernel
theorem dX12_move_0 : decode cX12_move 0 = .ok (.bipush (-40), 2) := by decide +kernel
theorem dX12_move_2 : decode cX12_move 2 = .ok (.istore 4, 2) := by decide +kernel
theorem dX12_move_4 : decode cX12_move 4 = .ok (.iload 4, 2) := by decide +kernel
theorem dX12_move_6 : decode cX12_move 6 = .ok (.bipush 40, 2) := by decide +kernel
theorem dX12_move_8 : decode cX12_move 8 = .ok (.if_icmp .ge 108, 3) := by decide +kernel
theorem dX12_move_11 : decode cX12_move 11 = .ok (.iload_n 2, 1) := by decide +kernel
theorem dX12_move_12 : decode cX12_move 12 = .ok (.iconst 3, 1) := by decide +kernel
theorem dX12_move_13 : decode cX12_move 13 = .ok (.if_icmp .ne 36, 3) := by decide +kernel
theorem dX12_move_16 : decode cX12_move 16 = .ok (.iconst 4, 1) := by decide +kernel
theorem dX12_move_17 : decode cX12_move 17 = .ok (.aload_n 0, 1) := by decide +kernel
theorem dX12_move_18 : decode cX12_move 18 = .ok (.getfield 27, 3) := by decide +kernel
theorem dX12_move_21 : decode cX12_move 21 = .ok (.iconst 0, 1) := by decide +kernel
theorem dX12_move_22 : decode cX12_move 22 = .ok (.iaload, 1) := by decide +kernel
theorem dX12_move_23 : decode cX12_move 23 = .ok (.iload_n 3, 1) := by decide +kernel
theorem dX12_move_24 : decode cX12_move 24 = .ok (.invokestatic 152, 3) := by decide +kernel
theorem dX12_move_27 : decode cX12_move 27 = .ok (.imul, 1) := by decide +kernel
theorem dX12_move_28 : decode cX12_move 28 = .ok (.aload_n 0, 1) := by decide +kernel
theorem dX12_move_29 : decode cX12_move 29 = .ok (.getfield 27, 3) := by decide +kernel
theorem dX12_move_32 : decode cX12_move 32 = .ok (.iconst 3, 1) := by decide +kernel
theorem dX12_move_33 : decode cX12_move 33 = .ok (.iaload, 1) := by decide +kernel
theorem dX12_move_34 : decode cX12_move 34 = .ok (.iload 4, 2) := by decide +kernel
theorem dX12_move_36 : decode cX12_move 36 = .ok (.imul, 1) := by decide +kernel
theorem dX12_move_37 : decode cX12_move 37 = .ok (.iadd, 1) := by decide +kernel
theorem dX12_move_38 : decode cX12_move 38 = .ok (.iconst 4, 1) := by decide +kernel
theorem dX12_move_39 : decode cX12_move 39 = .ok (.aload_n 0, 1) := by decide +kernel
theorem dX12_move_40 : decode cX12_move 40 = .ok (.getfield 27, 3) := by decide +kernel
theorem dX12_move_43 : decode cX12_move 43 = .ok (.iconst 1, 1) := by decide +kernel
theorem dX12_move_44 : decode cX12_move 44 = .ok (.iaload, 1) := by decide +kernel
theorem dX12_move_45 : decode cX12_move 45 = .ok (.imul, 1) := by decide +kernel
theorem dX12_move_46 : decode cX12_move 46 = .ok (.if_icmp .lt 7, 3) := by decide +kernel
theorem dX12_move_49 : decode cX12_move 49 = .ok (.iconst 1, 1) := by decide +kernel
theorem dX12_move_50 : decode cX12_move 50 = .ok (.goto 4, 3) := by decide +kernel
theorem dX12_move_53 : decode cX12_move 53 = .ok (.iconst 0, 1) := by decide +kernel
theorem dX12_move_54 : decode cX12_move 54 = .ok (.istore 5, 2) := by decide +kernel
theorem dX12_move_56 : decode cX12_move 56 = .ok (.iload_n 2, 1) := by decide +kernel
theorem dX12_move_57 : decode cX12_move 57 = .ok (.iconst 3, 1) := by decide +kernel
theorem dX12_move_58 : decode cX12_move 58 = .ok (.if_icmp .ne 12, 3) := by decide +kernel
theorem dX12_move_61 : decode cX12_move 61 = .ok (.aload_n 0, 1) := by decide +kernel
theorem dX12_move_62 : decode cX12_move 62 = .ok (.getfield 27, 3) := by decide +kernel
theorem dX12_move_65 : decode cX12_move 65 = .ok (.iconst 2, 1) := by decide +kernel
theorem dX12_move_66 : decode cX12_move 66 = .ok (.iaload, 1) := by decide +kernel
theorem dX12_move_67 : decode cX12_move 67 = .ok (.goto 9, 3) := by decide +kernel
theorem dX12_move_70 : decode cX12_move 70 = .ok (.aload_n 0, 1) := by decide +kernel
theorem dX12_move_71 : decode cX12_move 71 = .ok (.iload_n 2, 1) := by decide +kernel
theorem dX12_move_72 : decode cX12_move 72 = .ok (.iload_n 3, 1) := by decide +kernel
theorem dX12_move_73 : decode cX12_move 73 = .ok (.invokevirtual 158, 3) := by decide +kernel
theorem dX12_move_76 : decode cX12_move 76 = .ok (.istore 6, 2) := by decide +kernel
theorem dX12_move_78 : decode cX12_move 78 = .ok (.aload_n 0, 1) := by decide +kernel
theorem dX12_move_79 : decode cX12_move 79 = .ok (.getfield 13, 3) := by decide +kernel
theorem dX12_move_82 : decode cX12_move 82 = .ok (.iload 4, 2) := by decide +kernel
theorem dX12_move_84 : decode cX12_move 84 = .ok (.bipush 40, 2) := by decide +kernel
theorem dX12_move_86 : decode cX12_move 86 = .ok (.iadd, 1) := by decide +kernel
theorem dX12_move_87 : decode cX12_move 87 = .ok (.aload_n 0, 1) := by decide +kernel
theorem dX12_move_88 : decode cX12_move 88 = .ok (.iload_n 1, 1) := by decide +kernel
theorem dX12_move_89 : decode cX12_move 89 = .ok (.iload_n 3, 1) := by decide +kernel
theorem dX12_move_90 : decode cX12_move 90 = .ok (.iload 5, 2) := by decide +kernel
theorem dX12_move_92 : decode cX12_move 92 = .ok (.ifCond .eq 11, 3) := by decide +kernel
theorem dX12_move_95 : decode cX12_move 95 = .ok (.iload 4, 2) := by decide +kernel
theorem dX12_move_97 : decode cX12_move 97 = .ok (.iload 6, 2) := by decide +kernel
theorem dX12_move_99 : decode cX12_move 99 = .ok (.isub, 1) := by decide +kernel
theorem dX12_move_100 : decode cX12_move 100 = .ok (.goto 5, 3) := by decide +kernel
theorem dX12_move_103 : decode cX12_move 103 = .ok (.iload 4, 2) := by decide +kernel
theorem dX12_move_105 : decode cX12_move 105 = .ok (.invokevirtual 127, 3) := by decide +kernel
theorem dX12_move_108 : decode cX12_move 108 = .ok (.i2b, 1) := by decide +kernel
theorem dX12_move_109 : decode cX12_move 109 = .ok (.bastore, 1) := by decide +kernel
theorem dX12_move_110 : decode cX12_move 110 = .ok (.iinc 4 1, 3) := by decide +kernel
theorem dX12_move_113 : decode cX12_move 113 = .ok (.goto (-109), 3) := by decide +kernel
theorem dX12_move_116 : decode cX12_move 116 = .ok (.bipush (-40), 2) := by decide +kernel
theorem dX12_move_118 : decode cX12_move 118 = .ok (.istore 4, 2) := by decide +kernel
theorem dX12_move_120 : decode cX12_move 120 = .ok (.iload 4, 2) := by decide +kernel
theorem dX12_move_122 : decode cX12_move 122 = .ok (.bipush 40, 2) := by decide +kernel
theorem dX12_move_124 : decode cX12_move 124 = .ok (.if_icmp .ge 31, 3) := by decide +kernel
theorem dX12_move_127 : decode cX12_move 127 = .ok (.aload_n 0, 1) := by decide +kernel
theorem dX12_move_128 : decode cX12_move 128 = .ok (.getfield 7, 3) := by decide +kernel
theorem dX12_move_131 : decode cX12_move 131 = .ok (.iload_n 1, 1) := by decide +kernel
theorem dX12_move_132 : decode cX12_move 132 = .ok (.iload_n 3, 1) := by decide +kernel
theorem dX12_move_133 : decode cX12_move 133 = .ok (.iload 4, 2) := by decide +kernel
theorem dX12_move_135 : decode cX12_move 135 = .ok (.invokestatic 123, 3) := by decide +kernel
theorem dX12_move_138 : decode cX12_move 138 = .ok (.aload_n 0, 1) := by decide +kernel
theorem dX12_move_139 : decode cX12_move 139 = .ok (.getfield 13, 3) := by decide +kernel
theorem dX12_move_142 : decode cX12_move 142 = .ok (.iload 4, 2) := by decide +kernel
theorem dX12_move_144 : decode cX12_move 144 = .ok (.bipush 40, 2) := by decide +kernel
theorem dX12_move_146 : decode cX12_move 146 = .ok (.iadd, 1) := by decide +kernel
theorem dX12_move_147 : decode cX12_move 147 = .ok (.baload, 1) := by decide +kernel
theorem dX12_move_148 : decode cX12_move 148 = .ok (.bastore, 1) := by decide +kernel
theorem dX12_move_149 : decode cX12_move 149 = .ok (.iinc 4 1, 3) := by decide +kernel
theorem dX12_move_152 : decode cX12_move 152 = .ok (.goto (-32), 3) := by decide +kernel
theorem dX12_move_155 : decode cX12_move 155 = .ok (.return_, 1) := by decide +kernel
theorem dX12_cutDown_0 : decode cX12_cutDown 0 = .ok (.aload_n 0, 1) := by decide +kernel
theorem dX12_cutDown_1 : decode cX12_cutDown 1 = .ok (.getfield 27, 3) := by decide +kernel
theorem dX12_cutDown_4 : decode cX12_cutDown 4 = .ok (.iconst 0, 1) := by decide +kernel
theorem dX12_cutDown_5 : decode cX12_cutDown 5 = .ok (.iaload, 1) := by decide +kernel
theorem dX12_cutDown_6 : decode cX12_cutDown 6 = .ok (.aload_n 0, 1) := by decide +kernel
theorem dX12_cutDown_7 : decode cX12_cutDown 7 = .ok (.getfield 27, 3) := by decide +kernel
theorem dX12_cutDown_10 : decode cX12_cutDown 10 = .ok (.iconst 1, 1) := by decide +kernel
theorem dX12_cutDown_11 : decode cX12_cutDown 11 = .ok (.iaload, 1) := by decide +kernel
theorem dX12_cutDown_12 : decode cX12_cutDown 12 = .ok (.iload_n 2, 1) := by decide +kernel
theorem dX12_cutDown_13 : decode cX12_cutDown 13 = .ok (.bipush 8, 2) := by decide +kernel
theorem dX12_cutDown_15 : decode cX12_cutDown 15 = .ok (.irem, 1) := by decide +kernel
theorem dX12_cutDown_16 : decode cX12_cutDown 16 = .ok (.imul, 1) := by decide +kernel
theorem dX12_cutDown_17 : decode cX12_cutDown 17 = .ok (.aload_n 0, 1) := by decide +kernel
theorem dX12_cutDown_18 : decode cX12_cutDown 18 = .ok (.getfield 27, 3) := by decide +kernel
theorem dX12_cutDown_21 : decode cX12_cutDown 21 = .ok (.iconst 2, 1) := by decide +kernel
theorem dX12_cutDown_22 : decode cX12_cutDown 22 = .ok (.iaload, 1) := by decide +kernel
theorem dX12_cutDown_23 : decode cX12_cutDown 23 = .ok (.iload_n 2, 1) := by decide +kernel
theorem dX12_cutDown_24 : decode cX12_cutDown 24 = .ok (.bipush 8, 2) := by decide +kernel
theorem dX12_cutDown_26 : decode cX12_cutDown 26 = .ok (.idiv, 1) := by decide +kernel
theorem dX12_cutDown_27 : decode cX12_cutDown 27 = .ok (.imul, 1) := by decide +kernel
theorem dX12_cutDown_28 : decode cX12_cutDown 28 = .ok (.iadd, 1) := by decide +kernel
theorem dX12_cutDown_29 : decode cX12_cutDown 29 = .ok (.iconst 4, 1) := by decide +kernel
theorem dX12_cutDown_30 : decode cX12_cutDown 30 = .ok (.invokestatic 148, 3) := by decide +kernel
theorem dX12_cutDown_33 : decode cX12_cutDown 33 = .ok (.iadd, 1) := by decide +kernel
theorem dX12_cutDown_34 : decode cX12_cutDown 34 = .ok (.istore_n 3, 1) := by decide +kernel
theorem dX12_cutDown_35 : decode cX12_cutDown 35 = .ok (.iload_n 3, 1) := by decide +kernel
theorem dX12_cutDown_36 : decode cX12_cutDown 36 = .ok (.bipush (-40), 2) := by decide +kernel
theorem dX12_cutDown_38 : decode cX12_cutDown 38 = .ok (.if_icmp .ge 8, 3) := by decide +kernel
theorem dX12_cutDown_41 : decode cX12_cutDown 41 = .ok (.bipush (-40), 2) := by decide +kernel
theorem dX12_cutDown_43 : decode cX12_cutDown 43 = .ok (.goto 4, 3) := by decide +kernel
theorem dX12_cutDown_46 : decode cX12_cutDown 46 = .ok (.iload_n 3, 1) := by decide +kernel
theorem dX12_cutDown_47 : decode cX12_cutDown 47 = .ok (.istore 4, 2) := by decide +kernel
theorem dX12_cutDown_49 : decode cX12_cutDown 49 = .ok (.iload 4, 2) := by decide +kernel
theorem dX12_cutDown_51 : decode cX12_cutDown 51 = .ok (.bipush 40, 2) := by decide +kernel
theorem dX12_cutDown_53 : decode cX12_cutDown 53 = .ok (.if_icmp .ge 22, 3) := by decide +kernel
theorem dX12_cutDown_56 : decode cX12_cutDown 56 = .ok (.aload_n 0, 1) := by decide +kernel
theorem dX12_cutDown_57 : decode cX12_cutDown 57 = .ok (.getfield 7, 3) := by decide +kernel
theorem dX12_cutDown_60 : decode cX12_cutDown 60 = .ok (.iload_n 1, 1) := by decide +kernel
theorem dX12_cutDown_61 : decode cX12_cutDown 61 = .ok (.iload_n 2, 1) := by decide +kernel
theorem dX12_cutDown_62 : decode cX12_cutDown 62 = .ok (.iload 4, 2) := by decide +kernel
theorem dX12_cutDown_64 : decode cX12_cutDown 64 = .ok (.invokestatic 123, 3) := by decide +kernel
theorem dX12_cutDown_67 : decode cX12_cutDown 67 = .ok (.iconst (-1), 1) := by decide +kernel
theorem dX12_cutDown_68 : decode cX12_cutDown 68 = .ok (.bastore, 1) := by decide +kernel
theorem dX12_cutDown_69 : decode cX12_cutDown 69 = .ok (.iinc 4 1, 3) := by decide +kernel
theorem dX12_cutDown_72 : decode cX12_cutDown 72 = .ok (.goto (-23), 3) := by decide +kernel
theorem dX12_cutDown_75 : decode cX12_cutDown 75 = .ok (.return_, 1) := by decide +kernel
theorem dX12_runThrough_0 : decode cX12_runThrough 0 = .ok (.aload_n 0, 1) := by decide +kernel
theorem dX12_runThrough_1 : decode cX12_runThrough 1 = .ok (.getfield 27, 3) := by decide +kernel
theorem dX12_runThrough_4 : decode cX12_runThrough 4 = .ok (.iconst 1, 1) := by decide +kernel
theorem dX12_runThrough_5 : decode cX12_runThrough 5 = .ok (.iaload, 1) := by decide +kernel
theorem dX12_runThrough_6 : decode cX12_runThrough 6 = .ok (.iload_n 2, 1) := by decide +kernel
theorem dX12_runThrough_7 : decode cX12_runThrough 7 = .ok (.invokestatic 152, 3) := by decide +kernel
theorem dX12_runThrough_10 : decode cX12_runThrough 10 = .ok (.i2l, 1) := by decide +kernel
theorem dX12_runThrough_11 : decode cX12_runThrough 11 = .ok (.aload_n 0, 1) := by decide +kernel
theorem dX12_runThrough_12 : decode cX12_runThrough 12 = .ok (.getfield 27, 3) := by decide +kernel
theorem dX12_runThrough_15 : decode cX12_runThrough 15 = .ok (.iconst 2, 1) := by decide +kernel
theorem dX12_runThrough_16 : decode cX12_runThrough 16 = .ok (.iaload, 1) := by decide +kernel
theorem dX12_runThrough_17 : decode cX12_runThrough 17 = .ok (.i2l, 1) := by decide +kernel
theorem dX12_runThrough_18 : decode cX12_runThrough 18 = .ok (.aload_n 0, 1) := by decide +kernel
theorem dX12_runThrough_19 : decode cX12_runThrough 19 = .ok (.getfield 27, 3) := by decide +kernel
theorem dX12_runThrough_22 : decode cX12_runThrough 22 = .ok (.iconst 3, 1) := by decide +kernel
theorem dX12_runThrough_23 : decode cX12_runThrough 23 = .ok (.iaload, 1) := by decide +kernel
theorem dX12_runThrough_24 : decode cX12_runThrough 24 = .ok (.i2l, 1) := by decide +kernel
theorem dX12_runThrough_25 : decode cX12_runThrough 25 = .ok (.invokestatic 134, 3) := by decide +kernel
theorem dX12_runThrough_28 : decode cX12_runThrough 28 = .ok (.istore_n 3, 1) := by decide +kernel
theorem dX12_runThrough_29 : decode cX12_runThrough 29 = .ok (.bipush (-40), 2) := by decide +kernel
theorem dX12_runThrough_31 : decode cX12_runThrough 31 = .ok (.istore 4, 2) := by decide +kernel
theorem dX12_runThrough_33 : decode cX12_runThrough 33 = .ok (.iload 4, 2) := by decide +kernel
theorem dX12_runThrough_35 : decode cX12_runThrough 35 = .ok (.aload_n 0, 1) := by decide +kernel
theorem dX12_runThrough_36 : decode cX12_runThrough 36 = .ok (.getfield 27, 3) := by decide +kernel
theorem dX12_runThrough_39 : decode cX12_runThrough 39 = .ok (.iconst 4, 1) := by decide +kernel
theorem dX12_runThrough_40 : decode cX12_runThrough 40 = .ok (.iaload, 1) := by decide +kernel
theorem dX12_runThrough_41 : decode cX12_runThrough 41 = .ok (.if_icmp .gt 51, 3) := by decide +kernel
theorem dX12_runThrough_44 : decode cX12_runThrough 44 = .ok (.iload_n 3, 1) := by decide +kernel
theorem dX12_runThrough_45 : decode cX12_runThrough 45 = .ok (.ifCond .eq 47, 3) := by decide +kernel
theorem dX12_runThrough_48 : decode cX12_runThrough 48 = .ok (.iload_n 1, 1) := by decide +kernel
theorem dX12_runThrough_49 : decode cX12_runThrough 49 = .ok (.iload_n 2, 1) := by decide +kernel
theorem dX12_runThrough_50 : decode cX12_runThrough 50 = .ok (.iload 4, 2) := by decide +kernel
theorem dX12_runThrough_52 : decode cX12_runThrough 52 = .ok (.invokestatic 123, 3) := by decide +kernel
theorem dX12_runThrough_55 : decode cX12_runThrough 55 = .ok (.istore 5, 2) := by decide +kernel
theorem dX12_runThrough_57 : decode cX12_runThrough 57 = .ok (.aload_n 0, 1) := by decide +kernel
theorem dX12_runThrough_58 : decode cX12_runThrough 58 = .ok (.getfield 7, 3) := by decide +kernel
theorem dX12_runThrough_61 : decode cX12_runThrough 61 = .ok (.iload 5, 2) := by decide +kernel
theorem dX12_runThrough_63 : decode cX12_runThrough 63 = .ok (.aload_n 0, 1) := by decide +kernel
theorem dX12_runThrough_64 : decode cX12_runThrough 64 = .ok (.getfield 7, 3) := by decide +kernel
theorem dX12_runThrough_67 : decode cX12_runThrough 67 = .ok (.iload 5, 2) := by decide +kernel
theorem dX12_runThrough_69 : decode cX12_runThrough 69 = .ok (.baload, 1) := by decide +kernel
theorem dX12_runThrough_70 : decode cX12_runThrough 70 = .ok (.iconst (-1), 1) := by decide +kernel
theorem dX12_runThrough_71 : decode cX12_runThrough 71 = .ok (.if_icmp .ne 7, 3) := by decide +kernel
theorem dX12_runThrough_74 : decode cX12_runThrough 74 = .ok (.iconst (-1), 1) := by decide +kernel
theorem dX12_runThrough_75 : decode cX12_runThrough 75 = .ok (.goto 10, 3) := by decide +kernel
theorem dX12_runThrough_78 : decode cX12_runThrough 78 = .ok (.aload_n 0, 1) := by decide +kernel
theorem dX12_runThrough_79 : decode cX12_runThrough 79 = .ok (.getfield 27, 3) := by decide +kernel
theorem dX12_runThrough_82 : decode cX12_runThrough 82 = .ok (.iconst 0, 1) := by decide +kernel
theorem dX12_runThrough_83 : decode cX12_runThrough 83 = .ok (.iaload, 1) := by decide +kernel
theorem dX12_runThrough_84 : decode cX12_runThrough 84 = .ok (.i2b, 1) := by decide +kernel
theorem dX12_runThrough_85 : decode cX12_runThrough 85 = .ok (.bastore, 1) := by decide +kernel
theorem dX12_runThrough_86 : decode cX12_runThrough 86 = .ok (.iinc 4 1, 3) := by decide +kernel
theorem dX12_runThrough_89 : decode cX12_runThrough 89 = .ok (.goto (-56), 3) := by decide +kernel
theorem dX12_runThrough_92 : decode cX12_runThrough 92 = .ok (.return_, 1) := by decide +kernel
theorem dX12_befall_0 : decode cX12_befall 0 = .ok (.iconst 0, 1) := by decide +kernel
theorem dX12_befall_1 : decode cX12_befall 1 = .ok (.istore_n 3, 1) := by decide +kernel
theorem dX12_befall_2 : decode cX12_befall 2 = .ok (.iload_n 3, 1) := by decide +kernel
theorem dX12_befall_3 : decode cX12_befall 3 = .ok (.bipush 64, 2) := by decide +kernel
theorem dX12_befall_5 : decode cX12_befall 5 = .ok (.if_icmp .ge 57, 3) := by decide +kernel
theorem dX12_befall_8 : decode cX12_befall 8 = .ok (.iload_n 2, 1) := by decide +kernel
theorem dX12_befall_9 : decode cX12_befall 9 = .ok (.ifCond .ne 12, 3) := by decide +kernel
theorem dX12_befall_12 : decode cX12_befall 12 = .ok (.aload_n 0, 1) := by decide +kernel
theorem dX12_befall_13 : decode cX12_befall 13 = .ok (.iload_n 1, 1) := by decide +kernel
theorem dX12_befall_14 : decode cX12_befall 14 = .ok (.iload_n 3, 1) := by decide +kernel
theorem dX12_befall_15 : decode cX12_befall 15 = .ok (.invokevirtual 161, 3) := by decide +kernel
theorem dX12_befall_18 : decode cX12_befall 18 = .ok (.goto 38, 3) := by decide +kernel
theorem dX12_befall_21 : decode cX12_befall 21 = .ok (.iload_n 2, 1) := by decide +kernel
theorem dX12_befall_22 : decode cX12_befall 22 = .ok (.iconst 4, 1) := by decide +kernel
theorem dX12_befall_23 : decode cX12_befall 23 = .ok (.if_icmp .ne 12, 3) := by decide +kernel
theorem dX12_befall_26 : decode cX12_befall 26 = .ok (.aload_n 0, 1) := by decide +kernel
theorem dX12_befall_27 : decode cX12_befall 27 = .ok (.iload_n 1, 1) := by decide +kernel
theorem dX12_befall_28 : decode cX12_befall 28 = .ok (.iload_n 3, 1) := by decide +kernel
theorem dX12_befall_29 : decode cX12_befall 29 = .ok (.invokevirtual 165, 3) := by decide +kernel
theorem dX12_befall_32 : decode cX12_befall 32 = .ok (.goto 24, 3) := by decide +kernel
theorem dX12_befall_35 : decode cX12_befall 35 = .ok (.iload_n 2, 1) := by decide +kernel
theorem dX12_befall_36 : decode cX12_befall 36 = .ok (.iconst 5, 1) := by decide +kernel
theorem dX12_befall_37 : decode cX12_befall 37 = .ok (.if_icmp .ne 12, 3) := by decide +kernel
theorem dX12_befall_40 : decode cX12_befall 40 = .ok (.aload_n 0, 1) := by decide +kernel
theorem dX12_befall_41 : decode cX12_befall 41 = .ok (.iload_n 1, 1) := by decide +kernel
theorem dX12_befall_42 : decode cX12_befall 42 = .ok (.iload_n 3, 1) := by decide +kernel
theorem dX12_befall_43 : decode cX12_befall 43 = .ok (.invokevirtual 168, 3) := by decide +kernel
theorem dX12_befall_46 : decode cX12_befall 46 = .ok (.goto 10, 3) := by decide +kernel
theorem dX12_befall_49 : decode cX12_befall 49 = .ok (.aload_n 0, 1) := by decide +kernel
theorem dX12_befall_50 : decode cX12_befall 50 = .ok (.iload_n 1, 1) := by decide +kernel
theorem dX12_befall_51 : decode cX12_befall 51 = .ok (.iload_n 2, 1) := by decide +kernel
theorem dX12_befall_52 : decode cX12_befall 52 = .ok (.iload_n 3, 1) := by decide +kernel
theorem dX12_befall_53 : decode cX12_befall 53 = .ok (.invokevirtual 171, 3) := by decide +kernel
theorem dX12_befall_56 : decode cX12_befall 56 = .ok (.iinc 3 1, 3) := by decide +kernel
theorem dX12_befall_59 : decode cX12_befall 59 = .ok (.goto (-57), 3) := by decide +kernel
theorem dX12_befall_62 : decode cX12_befall 62 = .ok (.return_, 1) := by decide +kernel
theorem dX12_giveEvent_0 : decode cX12_giveEvent 0 = .ok (.iconst 0, 1) := by decide +kernel
theorem dX12_giveEvent_1 : decode cX12_giveEvent 1 = .ok (.istore_n 2, 1) := by decide +kernel
theorem dX12_giveEvent_2 : decode cX12_giveEvent 2 = .ok (.iload_n 2, 1) := by decide +kernel
theorem dX12_giveEvent_3 : decode cX12_giveEvent 3 = .ok (.iconst 5, 1) := by decide +kernel
theorem dX12_giveEvent_4 : decode cX12_giveEvent 4 = .ok (.if_icmp .ge 25, 3) := by decide +kernel
theorem dX12_giveEvent_7 : decode cX12_giveEvent 7 = .ok (.aload_n 0, 1) := by decide +kernel
theorem dX12_giveEvent_8 : decode cX12_giveEvent 8 = .ok (.getfield 27, 3) := by decide +kernel
theorem dX12_giveEvent_11 : decode cX12_giveEvent 11 = .ok (.iload_n 2, 1) := by decide +kernel
theorem dX12_giveEvent_12 : decode cX12_giveEvent 12 = .ok (.aload_n 0, 1) := by decide +kernel
theorem dX12_giveEvent_13 : decode cX12_giveEvent 13 = .ok (.getfield 20, 3) := by decide +kernel
theorem dX12_giveEvent_16 : decode cX12_giveEvent 16 = .ok (.iconst 5, 1) := by decide +kernel
theorem dX12_giveEvent_17 : decode cX12_giveEvent 17 = .ok (.iload_n 1, 1) := by decide +kernel
theorem dX12_giveEvent_18 : decode cX12_giveEvent 18 = .ok (.imul, 1) := by decide +kernel
theorem dX12_giveEvent_19 : decode cX12_giveEvent 19 = .ok (.iload_n 2, 1) := by decide +kernel
theorem dX12_giveEvent_20 : decode cX12_giveEvent 20 = .ok (.iadd, 1) := by decide +kernel
theorem dX12_giveEvent_21 : decode cX12_giveEvent 21 = .ok (.iaload, 1) := by decide +kernel
theorem dX12_giveEvent_22 : decode cX12_giveEvent 22 = .ok (.iastore, 1) := by decide +kernel
theorem dX12_giveEvent_23 : decode cX12_giveEvent 23 = .ok (.iinc 2 1, 3) := by decide +kernel
theorem dX12_giveEvent_26 : decode cX12_giveEvent 26 = .ok (.goto (-24), 3) := by decide +kernel
theorem dX12_giveEvent_29 : decode cX12_giveEvent 29 = .ok (.return_, 1) := by decide +kernel
theorem dX12_build_0 : decode cX12_build 0 = .ok (.aload_n 0, 1) := by decide +kernel
theorem dX12_build_1 : decode cX12_build 1 = .ok (.iload_n 1, 1) := by decide +kernel
theorem dX12_build_2 : decode cX12_build 2 = .ok (.invokevirtual 175, 3) := by decide +kernel
theorem dX12_build_5 : decode cX12_build 5 = .ok (.iconst 0, 1) := by decide +kernel
theorem dX12_build_6 : decode cX12_build 6 = .ok (.istore_n 3, 1) := by decide +kernel
theorem dX12_build_7 : decode cX12_build 7 = .ok (.iload_n 3, 1) := by decide +kernel
theorem dX12_build_8 : decode cX12_build 8 = .ok (.iload_n 2, 1) := by decide +kernel
theorem dX12_build_9 : decode cX12_build 9 = .ok (.if_icmp .ge 25, 3) := by decide +kernel
theorem dX12_build_12 : decode cX12_build 12 = .ok (.aload_n 0, 1) := by decide +kernel
theorem dX12_build_13 : decode cX12_build 13 = .ok (.iload_n 3, 1) := by decide +kernel
theorem dX12_build_14 : decode cX12_build 14 = .ok (.invokevirtual 178, 3) := by decide +kernel
theorem dX12_build_17 : decode cX12_build 17 = .ok (.aload_n 0, 1) := by decide +kernel
theorem dX12_build_18 : decode cX12_build 18 = .ok (.iload_n 1, 1) := by decide +kernel
theorem dX12_build_19 : decode cX12_build 19 = .ok (.aload_n 0, 1) := by decide +kernel
theorem dX12_build_20 : decode cX12_build 20 = .ok (.getfield 16, 3) := by decide +kernel
theorem dX12_build_23 : decode cX12_build 23 = .ok (.iload_n 3, 1) := by decide +kernel
theorem dX12_build_24 : decode cX12_build 24 = .ok (.iaload, 1) := by decide +kernel
theorem dX12_build_25 : decode cX12_build 25 = .ok (.invokevirtual 181, 3) := by decide +kernel
theorem dX12_build_28 : decode cX12_build 28 = .ok (.iinc 3 1, 3) := by decide +kernel
theorem dX12_build_31 : decode cX12_build 31 = .ok (.goto (-24), 3) := by decide +kernel
theorem dX12_build_34 : decode cX12_build 34 = .ok (.return_, 1) := by decide +kernel
theorem dX12_buildAll_0 : decode cX12_buildAll 0 = .ok (.aload_n 0, 1) := by decide +kernel
theorem dX12_buildAll_1 : decode cX12_buildAll 1 = .ok (.iconst 0, 1) := by decide +kernel
theorem dX12_buildAll_2 : decode cX12_buildAll 2 = .ok (.invokevirtual 175, 3) := by decide +kernel
theorem dX12_buildAll_5 : decode cX12_buildAll 5 = .ok (.iconst 0, 1) := by decide +kernel
theorem dX12_buildAll_6 : decode cX12_buildAll 6 = .ok (.istore_n 2, 1) := by decide +kernel
theorem dX12_buildAll_7 : decode cX12_buildAll 7 = .ok (.iload_n 2, 1) := by decide +kernel
theorem dX12_buildAll_8 : decode cX12_buildAll 8 = .ok (.iload_n 1, 1) := by decide +kernel
theorem dX12_buildAll_9 : decode cX12_buildAll 9 = .ok (.if_icmp .ge 25, 3) := by decide +kernel
theorem dX12_buildAll_12 : decode cX12_buildAll 12 = .ok (.aload_n 0, 1) := by decide +kernel
theorem dX12_buildAll_13 : decode cX12_buildAll 13 = .ok (.iload_n 2, 1) := by decide +kernel
theorem dX12_buildAll_14 : decode cX12_buildAll 14 = .ok (.invokevirtual 178, 3) := by decide +kernel
theorem dX12_buildAll_17 : decode cX12_buildAll 17 = .ok (.aload_n 0, 1) := by decide +kernel
theorem dX12_buildAll_18 : decode cX12_buildAll 18 = .ok (.iconst 0, 1) := by decide +kernel
theorem dX12_buildAll_19 : decode cX12_buildAll 19 = .ok (.aload_n 0, 1) := by decide +kernel
theorem dX12_buildAll_20 : decode cX12_buildAll 20 = .ok (.getfield 16, 3) := by decide +kernel
theorem dX12_buildAll_23 : decode cX12_buildAll 23 = .ok (.iload_n 2, 1) := by decide +kernel
theorem dX12_buildAll_24 : decode cX12_buildAll 24 = .ok (.iaload, 1) := by decide +kernel
theorem dX12_buildAll_25 : decode cX12_buildAll 25 = .ok (.invokevirtual 181, 3) := by decide +kernel
theorem dX12_buildAll_28 : decode cX12_buildAll 28 = .ok (.iinc 2 1, 3) := by decide +kernel
theorem dX12_buildAll_31 : decode cX12_buildAll 31 = .ok (.goto (-24), 3) := by decide +kernel
theorem dX12_buildAll_34 : decode cX12_buildAll 34 = .ok (.return_, 1) := by decide +kernel
theorem dX12_add_0 : decode cX12_add 0 = .ok (.aload_n 0, 1) := by decide +kernel
theorem dX12_add_1 : decode cX12_add 1 = .ok (.getfield 16, 3) := by decide +kernel
theorem dX12_add_4 : decode cX12_add 4 = .ok (.aload_n 0, 1) := by decide +kernel
theorem dX12_add_5 : decode cX12_add 5 = .ok (.getfield 184, 3) := by decide +kernel
theorem dX12_add_8 : decode cX12_add 8 = .ok (.iload_n 1, 1) := by decide +kernel
theorem dX12_add_9 : decode cX12_add 9 = .ok (.iastore, 1) := by decide +kernel
theorem dX12_add_10 : decode cX12_add 10 = .ok (.iconst 0, 1) := by decide +kernel
theorem dX12_add_11 : decode cX12_add 11 = .ok (.istore_n 2, 1) := by decide +kernel
theorem dX12_add_12 : decode cX12_add 12 = .ok (.iload_n 2, 1) := by decide +kernel
theorem dX12_add_13 : decode cX12_add 13 = .ok (.iconst 5, 1) := by decide +kernel
theorem dX12_add_14 : decode cX12_add 14 = .ok (.if_icmp .ge 28, 3) := by decide +kernel
theorem dX12_add_17 : decode cX12_add 17 = .ok (.aload_n 0, 1) := by decide +kernel
theorem dX12_add_18 : decode cX12_add 18 = .ok (.getfield 20, 3) := by decide +kernel
theorem dX12_add_21 : decode cX12_add 21 = .ok (.iconst 5, 1) := by decide +kernel
theorem dX12_add_22 : decode cX12_add 22 = .ok (.aload_n 0, 1) := by decide +kernel
theorem dX12_add_23 : decode cX12_add 23 = .ok (.getfield 184, 3) := by decide +kernel
theorem dX12_add_26 : decode cX12_add 26 = .ok (.imul, 1) := by decide +kernel
theorem dX12_add_27 : decode cX12_add 27 = .ok (.iload_n 2, 1) := by decide +kernel
theorem dX12_add_28 : decode cX12_add 28 = .ok (.iadd, 1) := by decide +kernel
theorem dX12_add_29 : decode cX12_add 29 = .ok (.aload_n 0, 1) := by decide +kernel
theorem dX12_add_30 : decode cX12_add 30 = .ok (.getfield 27, 3) := by decide +kernel
theorem dX12_add_33 : decode cX12_add 33 = .ok (.iload_n 2, 1) := by decide +kernel
theorem dX12_add_34 : decode cX12_add 34 = .ok (.iaload, 1) := by decide +kernel
theorem dX12_add_35 : decode cX12_add 35 = .ok (.iastore, 1) := by decide +kernel
theorem dX12_add_36 : decode cX12_add 36 = .ok (.iinc 2 1, 3) := by decide +kernel
theorem dX12_add_39 : decode cX12_add 39 = .ok (.goto (-27), 3) := by decide +kernel
theorem dX12_add_42 : decode cX12_add 42 = .ok (.aload_n 0, 1) := by decide +kernel
theorem dX12_add_43 : decode cX12_add 43 = .ok (.getfield 23, 3) := by decide +kernel
theorem dX12_add_46 : decode cX12_add 46 = .ok (.aload_n 0, 1) := by decide +kernel
theorem dX12_add_47 : decode cX12_add 47 = .ok (.getfield 184, 3) := by decide +kernel
theorem dX12_add_50 : decode cX12_add 50 = .ok (.iconst 0, 1) := by decide +kernel
theorem dX12_add_51 : decode cX12_add 51 = .ok (.bastore, 1) := by decide +kernel
theorem dX12_add_52 : decode cX12_add 52 = .ok (.aload_n 0, 1) := by decide +kernel
theorem dX12_add_53 : decode cX12_add 53 = .ok (.dup, 1) := by decide +kernel
theorem dX12_add_54 : decode cX12_add 54 = .ok (.getfield 184, 3) := by decide +kernel
theorem dX12_add_57 : decode cX12_add 57 = .ok (.iconst 1, 1) := by decide +kernel
theorem dX12_add_58 : decode cX12_add 58 = .ok (.iadd, 1) := by decide +kernel
theorem dX12_add_59 : decode cX12_add 59 = .ok (.putfield 184, 3) := by decide +kernel
theorem dX12_add_62 : decode cX12_add 62 = .ok (.return_, 1) := by decide +kernel
theorem dX12_event_0 : decode cX12_event 0 = .ok (.aload_n 0, 1) := by decide +kernel
theorem dX12_event_1 : decode cX12_event 1 = .ok (.iload_n 2, 1) := by decide +kernel
theorem dX12_event_2 : decode cX12_event 2 = .ok (.iload_n 3, 1) := by decide +kernel
theorem dX12_event_3 : decode cX12_event 3 = .ok (.iload 4, 2) := by decide +kernel
theorem dX12_event_5 : decode cX12_event 5 = .ok (.iload 5, 2) := by decide +kernel
theorem dX12_event_7 : decode cX12_event 7 = .ok (.iload 6, 2) := by decide +kernel
theorem dX12_event_9 : decode cX12_event 9 = .ok (.invokevirtual 187, 3) := by decide +kernel
theorem dX12_event_12 : decode cX12_event 12 = .ok (.aload_n 0, 1) := by decide +kernel
theorem dX12_event_13 : decode cX12_event 13 = .ok (.iload_n 1, 1) := by decide +kernel
theorem dX12_event_14 : decode cX12_event 14 = .ok (.invokevirtual 191, 3) := by decide +kernel
theorem dX12_event_17 : decode cX12_event 17 = .ok (.ifCond .ne 6, 3) := by decide +kernel
theorem dX12_event_20 : decode cX12_event 20 = .ok (.ldc 195, 2) := by decide +kernel
theorem dX12_event_22 : decode cX12_event 22 = .ok (.ireturn, 1) := by decide +kernel
theorem dX12_event_23 : decode cX12_event 23 = .ok (.aload_n 0, 1) := by decide +kernel
theorem dX12_event_24 : decode cX12_event 24 = .ok (.getfield 184, 3) := by decide +kernel
theorem dX12_event_27 : decode cX12_event 27 = .ok (.bipush 16, 2) := by decide +kernel
theorem dX12_event_29 : decode cX12_event 29 = .ok (.if_icmp .ne 6, 3) := by decide +kernel
theorem dX12_event_32 : decode cX12_event 32 = .ok (.ldc 196, 2) := by decide +kernel
theorem dX12_event_34 : decode cX12_event 34 = .ok (.ireturn, 1) := by decide +kernel
theorem dX12_event_35 : decode cX12_event 35 = .ok (.aload_n 0, 1) := by decide +kernel
theorem dX12_event_36 : decode cX12_event 36 = .ok (.iload_n 1, 1) := by decide +kernel
theorem dX12_event_37 : decode cX12_event 37 = .ok (.invokevirtual 197, 3) := by decide +kernel
theorem dX12_event_40 : decode cX12_event 40 = .ok (.aload_n 0, 1) := by decide +kernel
theorem dX12_event_41 : decode cX12_event 41 = .ok (.aload_n 0, 1) := by decide +kernel
theorem dX12_event_42 : decode cX12_event 42 = .ok (.getfield 184, 3) := by decide +kernel
theorem dX12_event_45 : decode cX12_event 45 = .ok (.invokevirtual 119, 3) := by decide +kernel
theorem dX12_event_48 : decode cX12_event 48 = .ok (.aload_n 0, 1) := by decide +kernel
theorem dX12_event_49 : decode cX12_event 49 = .ok (.getfield 184, 3) := by decide +kernel
theorem dX12_event_52 : decode cX12_event 52 = .ok (.iconst 1, 1) := by decide +kernel
theorem dX12_event_53 : decode cX12_event 53 = .ok (.isub, 1) := by decide +kernel
theorem dX12_event_54 : decode cX12_event 54 = .ok (.ireturn, 1) := by decide +kernel
theorem dX12_undo_0 : decode cX12_undo 0 = .ok (.aload_n 0, 1) := by decide +kernel
theorem dX12_undo_1 : decode cX12_undo 1 = .ok (.getfield 184, 3) := by decide +kernel
theorem dX12_undo_4 : decode cX12_undo 4 = .ok (.ifCond .ne 6, 3) := by decide +kernel
theorem dX12_undo_7 : decode cX12_undo 7 = .ok (.ldc 200, 2) := by decide +kernel
theorem dX12_undo_9 : decode cX12_undo 9 = .ok (.ireturn, 1) := by decide +kernel
theorem dX12_undo_10 : decode cX12_undo 10 = .ok (.aload_n 0, 1) := by decide +kernel
theorem dX12_undo_11 : decode cX12_undo 11 = .ok (.dup, 1) := by decide +kernel
theorem dX12_undo_12 : decode cX12_undo 12 = .ok (.getfield 184, 3) := by decide +kernel
theorem dX12_undo_15 : decode cX12_undo 15 = .ok (.iconst 1, 1) := by decide +kernel
theorem dX12_undo_16 : decode cX12_undo 16 = .ok (.isub, 1) := by decide +kernel
theorem dX12_undo_17 : decode cX12_undo 17 = .ok (.putfield 184, 3) := by decide +kernel
theorem dX12_undo_20 : decode cX12_undo 20 = .ok (.aload_n 0, 1) := by decide +kernel
theorem dX12_undo_21 : decode cX12_undo 21 = .ok (.aload_n 0, 1) := by decide +kernel
theorem dX12_undo_22 : decode cX12_undo 22 = .ok (.getfield 184, 3) := by decide +kernel
theorem dX12_undo_25 : decode cX12_undo 25 = .ok (.invokevirtual 119, 3) := by decide +kernel
theorem dX12_undo_28 : decode cX12_undo 28 = .ok (.aload_n 0, 1) := by decide +kernel
theorem dX12_undo_29 : decode cX12_undo 29 = .ok (.getfield 184, 3) := by decide +kernel
theorem dX12_undo_32 : decode cX12_undo 32 = .ok (.ireturn, 1) := by decide +kernel
theorem dX12_clear_0 : decode cX12_clear 0 = .ok (.aload_n 0, 1) := by decide +kernel
theorem dX12_clear_1 : decode cX12_clear 1 = .ok (.getfield 184, 3) := by decide +kernel
theorem dX12_clear_4 : decode cX12_clear 4 = .ok (.istore_n 1, 1) := by decide +kernel
theorem dX12_clear_5 : decode cX12_clear 5 = .ok (.aload_n 0, 1) := by decide +kernel
theorem dX12_clear_6 : decode cX12_clear 6 = .ok (.iconst 0, 1) := by decide +kernel
theorem dX12_clear_7 : decode cX12_clear 7 = .ok (.putfield 184, 3) := by decide +kernel
theorem dX12_clear_10 : decode cX12_clear 10 = .ok (.aload_n 0, 1) := by decide +kernel
theorem dX12_clear_11 : decode cX12_clear 11 = .ok (.iconst 0, 1) := by decide +kernel
theorem dX12_clear_12 : decode cX12_clear 12 = .ok (.invokevirtual 119, 3) := by decide +kernel
theorem dX12_clear_15 : decode cX12_clear 15 = .ok (.iload_n 1, 1) := by decide +kernel
theorem dX12_clear_16 : decode cX12_clear 16 = .ok (.ireturn, 1) := by decide +kernel
theorem dX12_noEvent_0 : decode cX12_noEvent 0 = .ok (.iload_n 1, 1) := by decide +kernel
theorem dX12_noEvent_1 : decode cX12_noEvent 1 = .ok (.i2l, 1) := by decide +kernel
theorem dX12_noEvent_2 : decode cX12_noEvent 2 = .ok (.lconst 0, 1) := by decide +kernel
theorem dX12_noEvent_3 : decode cX12_noEvent 3 = .ok (.aload_n 0, 1) := by decide +kernel
theorem dX12_noEvent_4 : decode cX12_noEvent 4 = .ok (.getfield 184, 3) := by decide +kernel
theorem dX12_noEvent_7 : decode cX12_noEvent 7 = .ok (.iconst 1, 1) := by decide +kernel
theorem dX12_noEvent_8 : decode cX12_noEvent 8 = .ok (.isub, 1) := by decide +kernel
theorem dX12_noEvent_9 : decode cX12_noEvent 9 = .ok (.i2l, 1) := by decide +kernel
theorem dX12_noEvent_10 : decode cX12_noEvent 10 = .ok (.invokestatic 134, 3) := by decide +kernel
theorem dX12_noEvent_13 : decode cX12_noEvent 13 = .ok (.ifCond .ne 7, 3) := by decide +kernel
theorem dX12_noEvent_16 : decode cX12_noEvent 16 = .ok (.iconst 1, 1) := by decide +kernel
theorem dX12_noEvent_17 : decode cX12_noEvent 17 = .ok (.goto 4, 3) := by decide +kernel
theorem dX12_noEvent_20 : decode cX12_noEvent 20 = .ok (.iconst 0, 1) := by decide +kernel
theorem dX12_noEvent_21 : decode cX12_noEvent 21 = .ok (.ireturn, 1) := by decide +kernel
theorem dX12_told_0 : decode cX12_told 0 = .ok (.aload_n 0, 1) := by decide +kernel
theorem dX12_told_1 : decode cX12_told 1 = .ok (.iload_n 1, 1) := by decide +kernel
theorem dX12_told_2 : decode cX12_told 2 = .ok (.invokevirtual 201, 3) := by decide +kernel
theorem dX12_told_5 : decode cX12_told 5 = .ok (.ifCond .eq 6, 3) := by decide +kernel
theorem dX12_told_8 : decode cX12_told 8 = .ok (.ldc 204, 2) := by decide +kernel
theorem dX12_told_10 : decode cX12_told 10 = .ok (.ireturn, 1) := by decide +kernel
theorem dX12_told_11 : decode cX12_told 11 = .ok (.iload_n 2, 1) := by decide +kernel
theorem dX12_told_12 : decode cX12_told 12 = .ok (.i2l, 1) := by decide +kernel
theorem dX12_told_13 : decode cX12_told 13 = .ok (.lconst 0, 1) := by decide +kernel
theorem dX12_told_14 : decode cX12_told 14 = .ok (.ldc2_w 205, 3) := by decide +kernel
theorem dX12_told_17 : decode cX12_told 17 = .ok (.invokestatic 134, 3) := by decide +kernel
theorem dX12_told_20 : decode cX12_told 20 = .ok (.ifCond .ne 6, 3) := by decide +kernel
theorem dX12_told_23 : decode cX12_told 23 = .ok (.ldc 195, 2) := by decide +kernel
theorem dX12_told_25 : decode cX12_told 25 = .ok (.ireturn, 1) := by decide +kernel
theorem dX12_told_26 : decode cX12_told 26 = .ok (.iload_n 2, 1) := by decide +kernel
theorem dX12_told_27 : decode cX12_told 27 = .ok (.ifCond .ne 12, 3) := by decide +kernel
theorem dX12_told_30 : decode cX12_told 30 = .ok (.aload_n 0, 1) := by decide +kernel
theorem dX12_told_31 : decode cX12_told 31 = .ok (.getfield 16, 3) := by decide +kernel
theorem dX12_told_34 : decode cX12_told 34 = .ok (.iload_n 1, 1) := by decide +kernel
theorem dX12_told_35 : decode cX12_told 35 = .ok (.iaload, 1) := by decide +kernel
theorem dX12_told_36 : decode cX12_told 36 = .ok (.goto 33, 3) := by decide +kernel
theorem dX12_told_39 : decode cX12_told 39 = .ok (.iload_n 2, 1) := by decide +kernel
theorem dX12_told_40 : decode cX12_told 40 = .ok (.bipush 6, 2) := by decide +kernel
theorem dX12_told_42 : decode cX12_told 42 = .ok (.if_icmp .ne 15, 3) := by decide +kernel
theorem dX12_told_45 : decode cX12_told 45 = .ok (.aload_n 0, 1) := by decide +kernel
theorem dX12_told_46 : decode cX12_told 46 = .ok (.getfield 23, 3) := by decide +kernel
theorem dX12_told_49 : decode cX12_told 49 = .ok (.iload_n 1, 1) := by decide +kernel
theorem dX12_told_50 : decode cX12_told 50 = .ok (.baload, 1) := by decide +kernel
theorem dX12_told_51 : decode cX12_told 51 = .ok (.invokestatic 207, 3) := by decide +kernel
theorem dX12_told_54 : decode cX12_told 54 = .ok (.goto 15, 3) := by decide +kernel
theorem dX12_told_57 : decode cX12_told 57 = .ok (.aload_n 0, 1) := by decide +kernel
theorem dX12_told_58 : decode cX12_told 58 = .ok (.getfield 20, 3) := by decide +kernel
theorem dX12_told_61 : decode cX12_told 61 = .ok (.iconst 5, 1) := by decide +kernel
theorem dX12_told_62 : decode cX12_told 62 = .ok (.iload_n 1, 1) := by decide +kernel
theorem dX12_told_63 : decode cX12_told 63 = .ok (.imul, 1) := by decide +kernel
theorem dX12_told_64 : decode cX12_told 64 = .ok (.iload_n 2, 1) := by decide +kernel
theorem dX12_told_65 : decode cX12_told 65 = .ok (.iadd, 1) := by decide +kernel
theorem dX12_told_66 : decode cX12_told 66 = .ok (.iconst 1, 1) := by decide +kernel
theorem dX12_told_67 : decode cX12_told 67 = .ok (.isub, 1) := by decide +kernel
theorem dX12_told_68 : decode cX12_told 68 = .ok (.iaload, 1) := by decide +kernel
theorem dX12_told_69 : decode cX12_told 69 = .ok (.ireturn, 1) := by decide +kernel
theorem dX12_loose_0 : decode cX12_loose 0 = .ok (.aload_n 0, 1) := by decide +kernel
theorem dX12_loose_1 : decode cX12_loose 1 = .ok (.iload_n 1, 1) := by decide +kernel
theorem dX12_loose_2 : decode cX12_loose 2 = .ok (.invokevirtual 201, 3) := by decide +kernel
theorem dX12_loose_5 : decode cX12_loose 5 = .ok (.ifCond .eq 6, 3) := by decide +kernel
theorem dX12_loose_8 : decode cX12_loose 8 = .ok (.ldc 204, 2) := by decide +kernel
theorem dX12_loose_10 : decode cX12_loose 10 = .ok (.ireturn, 1) := by decide +kernel
theorem dX12_loose_11 : decode cX12_loose 11 = .ok (.aload_n 0, 1) := by decide +kernel
theorem dX12_loose_12 : decode cX12_loose 12 = .ok (.getfield 23, 3) := by decide +kernel
theorem dX12_loose_15 : decode cX12_loose 15 = .ok (.iload_n 1, 1) := by decide +kernel
theorem dX12_loose_16 : decode cX12_loose 16 = .ok (.baload, 1) := by decide +kernel
theorem dX12_loose_17 : decode cX12_loose 17 = .ok (.invokestatic 207, 3) := by decide +kernel
theorem dX12_loose_20 : decode cX12_loose 20 = .ok (.istore_n 3, 1) := by decide +kernel
theorem dX12_loose_21 : decode cX12_loose 21 = .ok (.aload_n 0, 1) := by decide +kernel
theorem dX12_loose_22 : decode cX12_loose 22 = .ok (.getfield 23, 3) := by decide +kernel
theorem dX12_loose_25 : decode cX12_loose 25 = .ok (.iload_n 1, 1) := by decide +kernel
theorem dX12_loose_26 : decode cX12_loose 26 = .ok (.iload_n 2, 1) := by decide +kernel
theorem dX12_loose_27 : decode cX12_loose 27 = .ok (.bastore, 1) := by decide +kernel
theorem dX12_loose_28 : decode cX12_loose 28 = .ok (.iload_n 3, 1) := by decide +kernel
theorem dX12_loose_29 : decode cX12_loose 29 = .ok (.ireturn, 1) := by decide +kernel
theorem dX12_change_0 : decode cX12_change 0 = .ok (.aload_n 0, 1) := by decide +kernel
theorem dX12_change_1 : decode cX12_change 1 = .ok (.getfield 16, 3) := by decide +kernel
theorem dX12_change_4 : decode cX12_change 4 = .ok (.iload_n 1, 1) := by decide +kernel
theorem dX12_change_5 : decode cX12_change 5 = .ok (.iaload, 1) := by decide +kernel
theorem dX12_change_6 : decode cX12_change 6 = .ok (.istore_n 3, 1) := by decide +kernel
theorem dX12_change_7 : decode cX12_change 7 = .ok (.aload_n 0, 1) := by decide +kernel
theorem dX12_change_8 : decode cX12_change 8 = .ok (.getfield 16, 3) := by decide +kernel
theorem dX12_change_11 : decode cX12_change 11 = .ok (.iload_n 1, 1) := by decide +kernel
theorem dX12_change_12 : decode cX12_change 12 = .ok (.aload_n 0, 1) := by decide +kernel
theorem dX12_change_13 : decode cX12_change 13 = .ok (.getfield 16, 3) := by decide +kernel
theorem dX12_change_16 : decode cX12_change 16 = .ok (.iload_n 2, 1) := by decide +kernel
theorem dX12_change_17 : decode cX12_change 17 = .ok (.iaload, 1) := by decide +kernel
theorem dX12_change_18 : decode cX12_change 18 = .ok (.iastore, 1) := by decide +kernel
theorem dX12_change_19 : decode cX12_change 19 = .ok (.aload_n 0, 1) := by decide +kernel
theorem dX12_change_20 : decode cX12_change 20 = .ok (.getfield 16, 3) := by decide +kernel
theorem dX12_change_23 : decode cX12_change 23 = .ok (.iload_n 2, 1) := by decide +kernel
theorem dX12_change_24 : decode cX12_change 24 = .ok (.iload_n 3, 1) := by decide +kernel
theorem dX12_change_25 : decode cX12_change 25 = .ok (.iastore, 1) := by decide +kernel
theorem dX12_change_26 : decode cX12_change 26 = .ok (.aload_n 0, 1) := by decide +kernel
theorem dX12_change_27 : decode cX12_change 27 = .ok (.getfield 23, 3) := by decide +kernel
theorem dX12_change_30 : decode cX12_change 30 = .ok (.iload_n 1, 1) := by decide +kernel
theorem dX12_change_31 : decode cX12_change 31 = .ok (.baload, 1) := by decide +kernel
theorem dX12_change_32 : decode cX12_change 32 = .ok (.istore 4, 2) := by decide +kernel
theorem dX12_change_34 : decode cX12_change 34 = .ok (.aload_n 0, 1) := by decide +kernel
theorem dX12_change_35 : decode cX12_change 35 = .ok (.getfield 23, 3) := by decide +kernel
theorem dX12_change_38 : decode cX12_change 38 = .ok (.iload_n 1, 1) := by decide +kernel
theorem dX12_change_39 : decode cX12_change 39 = .ok (.aload_n 0, 1) := by decide +kernel
theorem dX12_change_40 : decode cX12_change 40 = .ok (.getfield 23, 3) := by decide +kernel
theorem dX12_change_43 : decode cX12_change 43 = .ok (.iload_n 2, 1) := by decide +kernel
theorem dX12_change_44 : decode cX12_change 44 = .ok (.baload, 1) := by decide +kernel
theorem dX12_change_45 : decode cX12_change 45 = .ok (.bastore, 1) := by decide +kernel
theorem dX12_change_46 : decode cX12_change 46 = .ok (.aload_n 0, 1) := by decide +kernel
theorem dX12_change_47 : decode cX12_change 47 = .ok (.getfield 23, 3) := by decide +kernel
theorem dX12_change_50 : decode cX12_change 50 = .ok (.iload_n 2, 1) := by decide +kernel
theorem dX12_change_51 : decode cX12_change 51 = .ok (.iload 4, 2) := by decide +kernel
theorem dX12_change_53 : decode cX12_change 53 = .ok (.bastore, 1) := by decide +kernel
theorem dX12_change_54 : decode cX12_change 54 = .ok (.iconst 0, 1) := by decide +kernel
theorem dX12_change_55 : decode cX12_change 55 = .ok (.istore 5, 2) := by decide +kernel
theorem dX12_change_57 : decode cX12_change 57 = .ok (.iload 5, 2) := by decide +kernel
theorem dX12_change_59 : decode cX12_change 59 = .ok (.iconst 5, 1) := by decide +kernel
theorem dX12_change_60 : decode cX12_change 60 = .ok (.if_icmp .ge 57, 3) := by decide +kernel
theorem dX12_change_63 : decode cX12_change 63 = .ok (.aload_n 0, 1) := by decide +kernel
theorem dX12_change_64 : decode cX12_change 64 = .ok (.getfield 20, 3) := by decide +kernel
theorem dX12_change_67 : decode cX12_change 67 = .ok (.iconst 5, 1) := by decide +kernel
theorem dX12_change_68 : decode cX12_change 68 = .ok (.iload_n 1, 1) := by decide +kernel
theorem dX12_change_69 : decode cX12_change 69 = .ok (.imul, 1) := by decide +kernel
theorem dX12_change_70 : decode cX12_change 70 = .ok (.iload 5, 2) := by decide +kernel
theorem dX12_change_72 : decode cX12_change 72 = .ok (.iadd, 1) := by decide +kernel
theorem dX12_change_73 : decode cX12_change 73 = .ok (.iaload, 1) := by decide +kernel
theorem dX12_change_74 : decode cX12_change 74 = .ok (.istore 6, 2) := by decide +kernel
theorem dX12_change_76 : decode cX12_change 76 = .ok (.aload_n 0, 1) := by decide +kernel
theorem dX12_change_77 : decode cX12_change 77 = .ok (.getfield 20, 3) := by decide +kernel
theorem dX12_change_80 : decode cX12_change 80 = .ok (.iconst 5, 1) := by decide +kernel
theorem dX12_change_81 : decode cX12_change 81 = .ok (.iload_n 1, 1) := by decide +kernel
theorem dX12_change_82 : decode cX12_change 82 = .ok (.imul, 1) := by decide +kernel
theorem dX12_change_83 : decode cX12_change 83 = .ok (.iload 5, 2) := by decide +kernel
theorem dX12_change_85 : decode cX12_change 85 = .ok (.iadd, 1) := by decide +kernel
theorem dX12_change_86 : decode cX12_change 86 = .ok (.aload_n 0, 1) := by decide +kernel
theorem dX12_change_87 : decode cX12_change 87 = .ok (.getfield 20, 3) := by decide +kernel
theorem dX12_change_90 : decode cX12_change 90 = .ok (.iconst 5, 1) := by decide +kernel
theorem dX12_change_91 : decode cX12_change 91 = .ok (.iload_n 2, 1) := by decide +kernel
theorem dX12_change_92 : decode cX12_change 92 = .ok (.imul, 1) := by decide +kernel
theorem dX12_change_93 : decode cX12_change 93 = .ok (.iload 5, 2) := by decide +kernel
theorem dX12_change_95 : decode cX12_change 95 = .ok (.iadd, 1) := by decide +kernel
theorem dX12_change_96 : decode cX12_change 96 = .ok (.iaload, 1) := by decide +kernel
theorem dX12_change_97 : decode cX12_change 97 = .ok (.iastore, 1) := by decide +kernel
theorem dX12_change_98 : decode cX12_change 98 = .ok (.aload_n 0, 1) := by decide +kernel
theorem dX12_change_99 : decode cX12_change 99 = .ok (.getfield 20, 3) := by decide +kernel
theorem dX12_change_102 : decode cX12_change 102 = .ok (.iconst 5, 1) := by decide +kernel
theorem dX12_change_103 : decode cX12_change 103 = .ok (.iload_n 2, 1) := by decide +kernel
theorem dX12_change_104 : decode cX12_change 104 = .ok (.imul, 1) := by decide +kernel
theorem dX12_change_105 : decode cX12_change 105 = .ok (.iload 5, 2) := by decide +kernel
theorem dX12_change_107 : decode cX12_change 107 = .ok (.iadd, 1) := by decide +kernel
theorem dX12_change_108 : decode cX12_change 108 = .ok (.iload 6, 2) := by decide +kernel
theorem dX12_change_110 : decode cX12_change 110 = .ok (.iastore, 1) := by decide +kernel
theorem dX12_change_111 : decode cX12_change 111 = .ok (.iinc 5 1, 3) := by decide +kernel
theorem dX12_change_114 : decode cX12_change 114 = .ok (.goto (-57), 3) := by decide +kernel
theorem dX12_change_117 : decode cX12_change 117 = .ok (.return_, 1) := by decide +kernel
theorem dX12_isAlike_0 : decode cX12_isAlike 0 = .ok (.iconst 1, 1) := by decide +kernel
theorem dX12_isAlike_1 : decode cX12_isAlike 1 = .ok (.istore 4, 2) := by decide +kernel
theorem dX12_isAlike_3 : decode cX12_isAlike 3 = .ok (.bipush (-40), 2) := by decide +kernel
theorem dX12_isAlike_5 : decode cX12_isAlike 5 = .ok (.istore 5, 2) := by decide +kernel
theorem dX12_isAlike_7 : decode cX12_isAlike 7 = .ok (.iload 5, 2) := by decide +kernel
theorem dX12_isAlike_9 : decode cX12_isAlike 9 = .ok (.bipush 40, 2) := by decide +kernel
theorem dX12_isAlike_11 : decode cX12_isAlike 11 = .ok (.if_icmp .ge 40, 3) := by decide +kernel
theorem dX12_isAlike_14 : decode cX12_isAlike 14 = .ok (.iload 4, 2) := by decide +kernel
theorem dX12_isAlike_16 : decode cX12_isAlike 16 = .ok (.ifCond .eq 26, 3) := by decide +kernel
theorem dX12_isAlike_19 : decode cX12_isAlike 19 = .ok (.aload_n 0, 1) := by decide +kernel
theorem dX12_isAlike_20 : decode cX12_isAlike 20 = .ok (.iload_n 1, 1) := by decide +kernel
theorem dX12_isAlike_21 : decode cX12_isAlike 21 = .ok (.iload_n 3, 1) := by decide +kernel
theorem dX12_isAlike_22 : decode cX12_isAlike 22 = .ok (.iload 5, 2) := by decide +kernel
theorem dX12_isAlike_24 : decode cX12_isAlike 24 = .ok (.invokevirtual 127, 3) := by decide +kernel
theorem dX12_isAlike_27 : decode cX12_isAlike 27 = .ok (.aload_n 0, 1) := by decide +kernel
theorem dX12_isAlike_28 : decode cX12_isAlike 28 = .ok (.iload_n 2, 1) := by decide +kernel
theorem dX12_isAlike_29 : decode cX12_isAlike 29 = .ok (.iload_n 3, 1) := by decide +kernel
theorem dX12_isAlike_30 : decode cX12_isAlike 30 = .ok (.iload 5, 2) := by decide +kernel
theorem dX12_isAlike_32 : decode cX12_isAlike 32 = .ok (.invokevirtual 127, 3) := by decide +kernel
theorem dX12_isAlike_35 : decode cX12_isAlike 35 = .ok (.if_icmp .ne 7, 3) := by decide +kernel
theorem dX12_isAlike_38 : decode cX12_isAlike 38 = .ok (.iconst 1, 1) := by decide +kernel
theorem dX12_isAlike_39 : decode cX12_isAlike 39 = .ok (.goto 4, 3) := by decide +kernel
theorem dX12_isAlike_42 : decode cX12_isAlike 42 = .ok (.iconst 0, 1) := by decide +kernel
theorem dX12_isAlike_43 : decode cX12_isAlike 43 = .ok (.istore 4, 2) := by decide +kernel
theorem dX12_isAlike_45 : decode cX12_isAlike 45 = .ok (.iinc 5 1, 3) := by decide +kernel
theorem dX12_isAlike_48 : decode cX12_isAlike 48 = .ok (.goto (-41), 3) := by decide +kernel
theorem dX12_isAlike_51 : decode cX12_isAlike 51 = .ok (.iload 4, 2) := by decide +kernel
theorem dX12_isAlike_53 : decode cX12_isAlike 53 = .ok (.ireturn, 1) := by decide +kernel
theorem dX12_unlikeColumns_0 : decode cX12_unlikeColumns 0 = .ok (.iconst 0, 1) := by decide +kernel
theorem dX12_unlikeColumns_1 : decode cX12_unlikeColumns 1 = .ok (.istore_n 3, 1) := by decide +kernel
theorem dX12_unlikeColumns_2 : decode cX12_unlikeColumns 2 = .ok (.iconst 0, 1) := by decide +kernel
theorem dX12_unlikeColumns_3 : decode cX12_unlikeColumns 3 = .ok (.istore 4, 2) := by decide +kernel
theorem dX12_unlikeColumns_5 : decode cX12_unlikeColumns 5 = .ok (.iload 4, 2) := by decide +kernel
theorem dX12_unlikeColumns_7 : decode cX12_unlikeColumns 7 = .ok (.bipush 64, 2) := by decide +kernel
theorem dX12_unlikeColumns_9 : decode cX12_unlikeColumns 9 = .ok (.if_icmp .ge 31, 3) := by decide +kernel
theorem dX12_unlikeColumns_12 : decode cX12_unlikeColumns 12 = .ok (.iload_n 3, 1) := by decide +kernel
theorem dX12_unlikeColumns_13 : decode cX12_unlikeColumns 13 = .ok (.aload_n 0, 1) := by decide +kernel
theorem dX12_unlikeColumns_14 : decode cX12_unlikeColumns 14 = .ok (.iload_n 1, 1) := by decide +kernel
theorem dX12_unlikeColumns_15 : decode cX12_unlikeColumns 15 = .ok (.iload_n 2, 1) := by decide +kernel
theorem dX12_unlikeColumns_16 : decode cX12_unlikeColumns 16 = .ok (.iload 4, 2) := by decide +kernel
theorem dX12_unlikeColumns_18 : decode cX12_unlikeColumns 18 = .ok (.invokevirtual 211, 3) := by decide +kernel
theorem dX12_unlikeColumns_21 : decode cX12_unlikeColumns 21 = .ok (.ifCond .ne 7, 3) := by decide +kernel
theorem dX12_unlikeColumns_24 : decode cX12_unlikeColumns 24 = .ok (.iconst 1, 1) := by decide +kernel
theorem dX12_unlikeColumns_25 : decode cX12_unlikeColumns 25 = .ok (.goto 4, 3) := by decide +kernel
theorem dX12_unlikeColumns_28 : decode cX12_unlikeColumns 28 = .ok (.iconst 0, 1) := by decide +kernel
theorem dX12_unlikeColumns_29 : decode cX12_unlikeColumns 29 = .ok (.invokestatic 207, 3) := by decide +kernel
theorem dX12_unlikeColumns_32 : decode cX12_unlikeColumns 32 = .ok (.iadd, 1) := by decide +kernel
theorem dX12_unlikeColumns_33 : decode cX12_unlikeColumns 33 = .ok (.istore_n 3, 1) := by decide +kernel
theorem dX12_unlikeColumns_34 : decode cX12_unlikeColumns 34 = .ok (.iinc 4 1, 3) := by decide +kernel
theorem dX12_unlikeColumns_37 : decode cX12_unlikeColumns 37 = .ok (.goto (-32), 3) := by decide +kernel
theorem dX12_unlikeColumns_40 : decode cX12_unlikeColumns 40 = .ok (.iload_n 3, 1) := by decide +kernel
theorem dX12_unlikeColumns_41 : decode cX12_unlikeColumns 41 = .ok (.ireturn, 1) := by decide +kernel
theorem dX12_swap_0 : decode cX12_swap 0 = .ok (.aload_n 0, 1) := by decide +kernel
theorem dX12_swap_1 : decode cX12_swap 1 = .ok (.iload_n 1, 1) := by decide +kernel
theorem dX12_swap_2 : decode cX12_swap 2 = .ok (.invokevirtual 201, 3) := by decide +kernel
theorem dX12_swap_5 : decode cX12_swap 5 = .ok (.ifCond .ne 13, 3) := by decide +kernel
theorem dX12_swap_8 : decode cX12_swap 8 = .ok (.aload_n 0, 1) := by decide +kernel
theorem dX12_swap_9 : decode cX12_swap 9 = .ok (.iload_n 1, 1) := by decide +kernel
theorem dX12_swap_10 : decode cX12_swap 10 = .ok (.iconst 1, 1) := by decide +kernel
theorem dX12_swap_11 : decode cX12_swap 11 = .ok (.iadd, 1) := by decide +kernel
theorem dX12_swap_12 : decode cX12_swap 12 = .ok (.invokevirtual 201, 3) := by decide +kernel
theorem dX12_swap_15 : decode cX12_swap 15 = .ok (.ifCond .eq 6, 3) := by decide +kernel
theorem dX12_swap_18 : decode cX12_swap 18 = .ok (.ldc 204, 2) := by decide +kernel
theorem dX12_swap_20 : decode cX12_swap 20 = .ok (.ireturn, 1) := by decide +kernel
theorem dX12_swap_21 : decode cX12_swap 21 = .ok (.aload_n 0, 1) := by decide +kernel
theorem dX12_swap_22 : decode cX12_swap 22 = .ok (.iconst 0, 1) := by decide +kernel
theorem dX12_swap_23 : decode cX12_swap 23 = .ok (.iconst 2, 1) := by decide +kernel
theorem dX12_swap_24 : decode cX12_swap 24 = .ok (.invokevirtual 214, 3) := by decide +kernel
theorem dX12_swap_27 : decode cX12_swap 27 = .ok (.aload_n 0, 1) := by decide +kernel
theorem dX12_swap_28 : decode cX12_swap 28 = .ok (.iload_n 1, 1) := by decide +kernel
theorem dX12_swap_29 : decode cX12_swap 29 = .ok (.iload_n 1, 1) := by decide +kernel
theorem dX12_swap_30 : decode cX12_swap 30 = .ok (.iconst 1, 1) := by decide +kernel
theorem dX12_swap_31 : decode cX12_swap 31 = .ok (.iadd, 1) := by decide +kernel
theorem dX12_swap_32 : decode cX12_swap 32 = .ok (.invokevirtual 217, 3) := by decide +kernel
theorem dX12_swap_35 : decode cX12_swap 35 = .ok (.aload_n 0, 1) := by decide +kernel
theorem dX12_swap_36 : decode cX12_swap 36 = .ok (.aload_n 0, 1) := by decide +kernel
theorem dX12_swap_37 : decode cX12_swap 37 = .ok (.getfield 184, 3) := by decide +kernel
theorem dX12_swap_40 : decode cX12_swap 40 = .ok (.invokevirtual 119, 3) := by decide +kernel
theorem dX12_swap_43 : decode cX12_swap 43 = .ok (.aload_n 0, 1) := by decide +kernel
theorem dX12_swap_44 : decode cX12_swap 44 = .ok (.iconst 0, 1) := by decide +kernel
theorem dX12_swap_45 : decode cX12_swap 45 = .ok (.iconst 2, 1) := by decide +kernel
theorem dX12_swap_46 : decode cX12_swap 46 = .ok (.invokevirtual 220, 3) := by decide +kernel
theorem dX12_swap_49 : decode cX12_swap 49 = .ok (.ireturn, 1) := by decide +kernel
theorem dX12_looseOnes_0 : decode cX12_looseOnes 0 = .ok (.iconst 0, 1) := by decide +kernel
theorem dX12_looseOnes_1 : decode cX12_looseOnes 1 = .ok (.istore_n 1, 1) := by decide +kernel
theorem dX12_looseOnes_2 : decode cX12_looseOnes 2 = .ok (.iconst 0, 1) := by decide +kernel
theorem dX12_looseOnes_3 : decode cX12_looseOnes 3 = .ok (.istore_n 2, 1) := by decide +kernel
theorem dX12_looseOnes_4 : decode cX12_looseOnes 4 = .ok (.iload_n 2, 1) := by decide +kernel
theorem dX12_looseOnes_5 : decode cX12_looseOnes 5 = .ok (.aload_n 0, 1) := by decide +kernel
theorem dX12_looseOnes_6 : decode cX12_looseOnes 6 = .ok (.getfield 184, 3) := by decide +kernel
theorem dX12_looseOnes_9 : decode cX12_looseOnes 9 = .ok (.if_icmp .ge 21, 3) := by decide +kernel
theorem dX12_looseOnes_12 : decode cX12_looseOnes 12 = .ok (.iload_n 1, 1) := by decide +kernel
theorem dX12_looseOnes_13 : decode cX12_looseOnes 13 = .ok (.aload_n 0, 1) := by decide +kernel
theorem dX12_looseOnes_14 : decode cX12_looseOnes 14 = .ok (.getfield 23, 3) := by decide +kernel
theorem dX12_looseOnes_17 : decode cX12_looseOnes 17 = .ok (.iload_n 2, 1) := by decide +kernel
theorem dX12_looseOnes_18 : decode cX12_looseOnes 18 = .ok (.baload, 1) := by decide +kernel
theorem dX12_looseOnes_19 : decode cX12_looseOnes 19 = .ok (.invokestatic 207, 3) := by decide +kernel
theorem dX12_looseOnes_22 : decode cX12_looseOnes 22 = .ok (.iadd, 1) := by decide +kernel
theorem dX12_looseOnes_23 : decode cX12_looseOnes 23 = .ok (.istore_n 1, 1) := by decide +kernel
theorem dX12_looseOnes_24 : decode cX12_looseOnes 24 = .ok (.iinc 2 1, 3) := by decide +kernel
theorem dX12_looseOnes_27 : decode cX12_looseOnes 27 = .ok (.goto (-23), 3) := by decide +kernel
theorem dX12_looseOnes_30 : decode cX12_looseOnes 30 = .ok (.iload_n 1, 1) := by decide +kernel
theorem dX12_looseOnes_31 : decode cX12_looseOnes 31 = .ok (.ireturn, 1) := by decide +kernel
theorem dX12_count_0 : decode cX12_count 0 = .ok (.iload_n 1, 1) := by decide +kernel
theorem dX12_count_1 : decode cX12_count 1 = .ok (.tableswitch 136 0 8 #[51, 56, 61, 66, 71, 76, 116, 121, 126], 51) := by decide +kernel
theorem dX12_count_52 : decode cX12_count 52 = .ok (.aload_n 0, 1) := by decide +kernel
theorem dX12_count_53 : decode cX12_count 53 = .ok (.getfield 184, 3) := by decide +kernel
theorem dX12_count_56 : decode cX12_count 56 = .ok (.ireturn, 1) := by decide +kernel
theorem dX12_count_57 : decode cX12_count 57 = .ok (.aload_n 0, 1) := by decide +kernel
theorem dX12_count_58 : decode cX12_count 58 = .ok (.invokevirtual 223, 3) := by decide +kernel
theorem dX12_count_61 : decode cX12_count 61 = .ok (.ireturn, 1) := by decide +kernel
theorem dX12_count_62 : decode cX12_count 62 = .ok (.aload_n 0, 1) := by decide +kernel
theorem dX12_count_63 : decode cX12_count 63 = .ok (.getfield 227, 3) := by decide +kernel
theorem dX12_count_66 : decode cX12_count 66 = .ok (.ireturn, 1) := by decide +kernel
theorem dX12_count_67 : decode cX12_count 67 = .ok (.aload_n 0, 1) := by decide +kernel
theorem dX12_count_68 : decode cX12_count 68 = .ok (.getfield 230, 3) := by decide +kernel
theorem dX12_count_71 : decode cX12_count 71 = .ok (.ireturn, 1) := by decide +kernel
theorem dX12_count_72 : decode cX12_count 72 = .ok (.aload_n 0, 1) := by decide +kernel
theorem dX12_count_73 : decode cX12_count 73 = .ok (.getfield 233, 3) := by decide +kernel
theorem dX12_count_76 : decode cX12_count 76 = .ok (.ireturn, 1) := by decide +kernel
theorem dX12_count_77 : decode cX12_count 77 = .ok (.aload_n 0, 1) := by decide +kernel
theorem dX12_count_78 : decode cX12_count 78 = .ok (.getfield 46, 3) := by decide +kernel
theorem dX12_count_81 : decode cX12_count 81 = .ok (.iconst 0, 1) := by decide +kernel
theorem dX12_count_82 : decode cX12_count 82 = .ok (.baload, 1) := by decide +kernel
theorem dX12_count_83 : decode cX12_count 83 = .ok (.invokestatic 207, 3) := by decide +kernel
theorem dX12_count_86 : decode cX12_count 86 = .ok (.aload_n 0, 1) := by decide +kernel
theorem dX12_count_87 : decode cX12_count 87 = .ok (.getfield 46, 3) := by decide +kernel
theorem dX12_count_90 : decode cX12_count 90 = .ok (.iconst 1, 1) := by decide +kernel
theorem dX12_count_91 : decode cX12_count 91 = .ok (.baload, 1) := by decide +kernel
theorem dX12_count_92 : decode cX12_count 92 = .ok (.invokestatic 207, 3) := by decide +kernel
theorem dX12_count_95 : decode cX12_count 95 = .ok (.iadd, 1) := by decide +kernel
theorem dX12_count_96 : decode cX12_count 96 = .ok (.aload_n 0, 1) := by decide +kernel
theorem dX12_count_97 : decode cX12_count 97 = .ok (.getfield 46, 3) := by decide +kernel
theorem dX12_count_100 : decode cX12_count 100 = .ok (.iconst 2, 1) := by decide +kernel
theorem dX12_count_101 : decode cX12_count 101 = .ok (.baload, 1) := by decide +kernel
theorem dX12_count_102 : decode cX12_count 102 = .ok (.invokestatic 207, 3) := by decide +kernel
theorem dX12_count_105 : decode cX12_count 105 = .ok (.iadd, 1) := by decide +kernel
theorem dX12_count_106 : decode cX12_count 106 = .ok (.aload_n 0, 1) := by decide +kernel
theorem dX12_count_107 : decode cX12_count 107 = .ok (.getfield 46, 3) := by decide +kernel
theorem dX12_count_110 : decode cX12_count 110 = .ok (.iconst 3, 1) := by decide +kernel
theorem dX12_count_111 : decode cX12_count 111 = .ok (.baload, 1) := by decide +kernel
theorem dX12_count_112 : decode cX12_count 112 = .ok (.invokestatic 207, 3) := by decide +kernel
theorem dX12_count_115 : decode cX12_count 115 = .ok (.iadd, 1) := by decide +kernel
theorem dX12_count_116 : decode cX12_count 116 = .ok (.ireturn, 1) := by decide +kernel
theorem dX12_count_117 : decode cX12_count 117 = .ok (.aload_n 0, 1) := by decide +kernel
theorem dX12_count_118 : decode cX12_count 118 = .ok (.getfield 236, 3) := by decide +kernel
theorem dX12_count_121 : decode cX12_count 121 = .ok (.ireturn, 1) := by decide +kernel
theorem dX12_count_122 : decode cX12_count 122 = .ok (.aload_n 0, 1) := by decide +kernel
theorem dX12_count_123 : decode cX12_count 123 = .ok (.invokevirtual 239, 3) := by decide +kernel
theorem dX12_count_126 : decode cX12_count 126 = .ok (.ireturn, 1) := by decide +kernel
theorem dX12_count_127 : decode cX12_count 127 = .ok (.aload_n 0, 1) := by decide +kernel
theorem dX12_count_128 : decode cX12_count 128 = .ok (.iconst 0, 1) := by decide +kernel
theorem dX12_count_129 : decode cX12_count 129 = .ok (.aload_n 0, 1) := by decide +kernel
theorem dX12_count_130 : decode cX12_count 130 = .ok (.getfield 227, 3) := by decide +kernel
theorem dX12_count_133 : decode cX12_count 133 = .ok (.invokevirtual 242, 3) := by decide +kernel
theorem dX12_count_136 : decode cX12_count 136 = .ok (.ireturn, 1) := by decide +kernel
theorem dX12_count_137 : decode cX12_count 137 = .ok (.ldc 195, 2) := by decide +kernel
theorem dX12_count_139 : decode cX12_count 139 = .ok (.ireturn, 1) := by decide +kernel
theorem dX12_feed_0 : decode cX12_feed 0 = .ok (.iload_n 1, 1) := by decide +kernel
theorem dX12_feed_1 : decode cX12_feed 1 = .ok (.i2l, 1) := by decide +kernel
theorem dX12_feed_2 : decode cX12_feed 2 = .ok (.lconst 1, 1) := by decide +kernel
theorem dX12_feed_3 : decode cX12_feed 3 = .ok (.ldc2_w 245, 3) := by decide +kernel
theorem dX12_feed_6 : decode cX12_feed 6 = .ok (.invokestatic 134, 3) := by decide +kernel
theorem dX12_feed_9 : decode cX12_feed 9 = .ok (.ifCond .ne 6, 3) := by decide +kernel
theorem dX12_feed_12 : decode cX12_feed 12 = .ok (.ldc 195, 2) := by decide +kernel
theorem dX12_feed_14 : decode cX12_feed 14 = .ok (.ireturn, 1) := by decide +kernel
theorem dX12_feed_15 : decode cX12_feed 15 = .ok (.aload_n 0, 1) := by decide +kernel
theorem dX12_feed_16 : decode cX12_feed 16 = .ok (.getfield 236, 3) := by decide +kernel
theorem dX12_feed_19 : decode cX12_feed 19 = .ok (.iload_n 1, 1) := by decide +kernel
theorem dX12_feed_20 : decode cX12_feed 20 = .ok (.iadd, 1) := by decide +kernel
theorem dX12_feed_21 : decode cX12_feed 21 = .ok (.sipush 300, 3) := by decide +kernel
theorem dX12_feed_24 : decode cX12_feed 24 = .ok (.if_icmp .le 6, 3) := by decide +kernel
theorem dX12_feed_27 : decode cX12_feed 27 = .ok (.ldc 196, 2) := by decide +kernel
theorem dX12_feed_29 : decode cX12_feed 29 = .ok (.ireturn, 1) := by decide +kernel
theorem dX12_feed_30 : decode cX12_feed 30 = .ok (.iload_n 1, 1) := by decide +kernel
theorem dX12_feed_31 : decode cX12_feed 31 = .ok (.iconst 1, 1) := by decide +kernel
theorem dX12_feed_32 : decode cX12_feed 32 = .ok (.isub, 1) := by decide +kernel
theorem dX12_feed_33 : decode cX12_feed 33 = .ok (.istore 4, 2) := by decide +kernel
theorem dX12_feed_35 : decode cX12_feed 35 = .ok (.iload 4, 2) := by decide +kernel
theorem dX12_feed_37 : decode cX12_feed 37 = .ok (.ifCond .lt 40, 3) := by decide +kernel
theorem dX12_feed_40 : decode cX12_feed 40 = .ok (.aload_n 0, 1) := by decide +kernel
theorem dX12_feed_41 : decode cX12_feed 41 = .ok (.getfield 30, 3) := by decide +kernel
theorem dX12_feed_44 : decode cX12_feed 44 = .ok (.aload_n 0, 1) := by decide +kernel
theorem dX12_feed_45 : decode cX12_feed 45 = .ok (.getfield 236, 3) := by decide +kernel
theorem dX12_feed_48 : decode cX12_feed 48 = .ok (.lload_n 2, 1) := by decide +kernel
theorem dX12_feed_49 : decode cX12_feed 49 = .ok (.bipush 8, 2) := by decide +kernel
theorem dX12_feed_51 : decode cX12_feed 51 = .ok (.iload 4, 2) := by decide +kernel
theorem dX12_feed_53 : decode cX12_feed 53 = .ok (.imul, 1) := by decide +kernel
theorem dX12_feed_54 : decode cX12_feed 54 = .ok (.lshr, 1) := by decide +kernel
theorem dX12_feed_55 : decode cX12_feed 55 = .ok (.ldc2_w 247, 3) := by decide +kernel
theorem dX12_feed_58 : decode cX12_feed 58 = .ok (.land, 1) := by decide +kernel
theorem dX12_feed_59 : decode cX12_feed 59 = .ok (.l2i, 1) := by decide +kernel
theorem dX12_feed_60 : decode cX12_feed 60 = .ok (.iastore, 1) := by decide +kernel
theorem dX12_feed_61 : decode cX12_feed 61 = .ok (.aload_n 0, 1) := by decide +kernel
theorem dX12_feed_62 : decode cX12_feed 62 = .ok (.dup, 1) := by decide +kernel
theorem dX12_feed_63 : decode cX12_feed 63 = .ok (.getfield 236, 3) := by decide +kernel
theorem dX12_feed_66 : decode cX12_feed 66 = .ok (.iconst 1, 1) := by decide +kernel
theorem dX12_feed_67 : decode cX12_feed 67 = .ok (.iadd, 1) := by decide +kernel
theorem dX12_feed_68 : decode cX12_feed 68 = .ok (.putfield 236, 3) := by decide +kernel
theorem dX12_feed_71 : decode cX12_feed 71 = .ok (.iinc 4 (-1), 3) := by decide +kernel
theorem dX12_feed_74 : decode cX12_feed 74 = .ok (.goto (-39), 3) := by decide +kernel
theorem dX12_feed_77 : decode cX12_feed 77 = .ok (.aload_n 0, 1) := by decide +kernel
theorem dX12_feed_78 : decode cX12_feed 78 = .ok (.getfield 236, 3) := by decide +kernel
theorem dX12_feed_81 : decode cX12_feed 81 = .ok (.ireturn, 1) := by decide +kernel
theorem dX12_here_0 : decode cX12_here 0 = .ok (.aload_n 0, 1) := by decide +kernel
theorem dX12_here_1 : decode cX12_here 1 = .ok (.getfield 249, 3) := by decide +kernel
theorem dX12_here_4 : decode cX12_here 4 = .ok (.aload_n 0, 1) := by decide +kernel
theorem dX12_here_5 : decode cX12_here 5 = .ok (.getfield 236, 3) := by decide +kernel
theorem dX12_here_8 : decode cX12_here 8 = .ok (.if_icmp .ge 30, 3) := by decide +kernel
theorem dX12_here_11 : decode cX12_here 11 = .ok (.aload_n 0, 1) := by decide +kernel
theorem dX12_here_12 : decode cX12_here 12 = .ok (.getfield 30, 3) := by decide +kernel
theorem dX12_here_15 : decode cX12_here 15 = .ok (.aload_n 0, 1) := by decide +kernel
theorem dX12_here_16 : decode cX12_here 16 = .ok (.getfield 249, 3) := by decide +kernel
theorem dX12_here_19 : decode cX12_here 19 = .ok (.iaload, 1) := by decide +kernel
theorem dX12_here_20 : decode cX12_here 20 = .ok (.bipush 32, 2) := by decide +kernel
theorem dX12_here_22 : decode cX12_here 22 = .ok (.if_icmp .ne 16, 3) := by decide +kernel
theorem dX12_here_25 : decode cX12_here 25 = .ok (.aload_n 0, 1) := by decide +kernel
theorem dX12_here_26 : decode cX12_here 26 = .ok (.dup, 1) := by decide +kernel
theorem dX12_here_27 : decode cX12_here 27 = .ok (.getfield 249, 3) := by decide +kernel
theorem dX12_here_30 : decode cX12_here 30 = .ok (.iconst 1, 1) := by decide +kernel
theorem dX12_here_31 : decode cX12_here 31 = .ok (.iadd, 1) := by decide +kernel
theorem dX12_here_32 : decode cX12_here 32 = .ok (.putfield 249, 3) := by decide +kernel
theorem dX12_here_35 : decode cX12_here 35 = .ok (.goto (-35), 3) := by decide +kernel
theorem dX12_here_38 : decode cX12_here 38 = .ok (.aload_n 0, 1) := by decide +kernel
theorem dX12_here_39 : decode cX12_here 39 = .ok (.getfield 249, 3) := by decide +kernel
theorem dX12_here_42 : decode cX12_here 42 = .ok (.aload_n 0, 1) := by decide +kernel
theorem dX12_here_43 : decode cX12_here 43 = .ok (.getfield 236, 3) := by decide +kernel
theorem dX12_here_46 : decode cX12_here 46 = .ok (.if_icmp .ge 15, 3) := by decide +kernel
theorem dX12_here_49 : decode cX12_here 49 = .ok (.aload_n 0, 1) := by decide +kernel
theorem dX12_here_50 : decode cX12_here 50 = .ok (.getfield 30, 3) := by decide +kernel
theorem dX12_here_53 : decode cX12_here 53 = .ok (.aload_n 0, 1) := by decide +kernel
theorem dX12_here_54 : decode cX12_here 54 = .ok (.getfield 249, 3) := by decide +kernel
theorem dX12_here_57 : decode cX12_here 57 = .ok (.iaload, 1) := by decide +kernel
theorem dX12_here_58 : decode cX12_here 58 = .ok (.goto 4, 3) := by decide +kernel
theorem dX12_here_61 : decode cX12_here 61 = .ok (.iconst (-1), 1) := by decide +kernel
theorem dX12_here_62 : decode cX12_here 62 = .ok (.ireturn, 1) := by decide +kernel
theorem dX12_want_0 : decode cX12_want 0 = .ok (.iload_n 1, 1) := by decide +kernel
theorem dX12_want_1 : decode cX12_want 1 = .ok (.ifCond .ne 20, 3) := by decide +kernel
theorem dX12_want_4 : decode cX12_want 4 = .ok (.aload_n 0, 1) := by decide +kernel
theorem dX12_want_5 : decode cX12_want 5 = .ok (.getfield 252, 3) := by decide +kernel
theorem dX12_want_8 : decode cX12_want 8 = .ok (.ifCond .ne 13, 3) := by decide +kernel
theorem dX12_want_11 : decode cX12_want 11 = .ok (.aload_n 0, 1) := by decide +kernel
theorem dX12_want_12 : decode cX12_want 12 = .ok (.iload_n 2, 1) := by decide +kernel
theorem dX12_want_13 : decode cX12_want 13 = .ok (.putfield 252, 3) := by decide +kernel
theorem dX12_want_16 : decode cX12_want 16 = .ok (.aload_n 0, 1) := by decide +kernel
theorem dX12_want_17 : decode cX12_want 17 = .ok (.iload_n 3, 1) := by decide +kernel
theorem dX12_want_18 : decode cX12_want 18 = .ok (.putfield 33, 3) := by decide +kernel
theorem dX12_want_21 : decode cX12_want 21 = .ok (.aload_n 0, 1) := by decide +kernel
theorem dX12_want_22 : decode cX12_want 22 = .ok (.getfield 252, 3) := by decide +kernel
theorem dX12_want_25 : decode cX12_want 25 = .ok (.ifCond .ne 7, 3) := by decide +kernel
theorem dX12_want_28 : decode cX12_want 28 = .ok (.iconst 1, 1) := by decide +kernel
theorem dX12_want_29 : decode cX12_want 29 = .ok (.goto 4, 3) := by decide +kernel
theorem dX12_want_32 : decode cX12_want 32 = .ok (.iconst 0, 1) := by decide +kernel
theorem dX12_want_33 : decode cX12_want 33 = .ok (.ireturn, 1) := by decide +kernel
theorem dX12_takeWord_0 : decode cX12_takeWord 0 = .ok (.aload_n 0, 1) := by decide +kernel
theorem dX12_takeWord_1 : decode cX12_takeWord 1 = .ok (.invokevirtual 255, 3) := by decide +kernel
theorem dX12_takeWord_4 : decode cX12_takeWord 4 = .ok (.istore_n 1, 1) := by decide +kernel
theorem dX12_takeWord_5 : decode cX12_takeWord 5 = .ok (.aload_n 0, 1) := by decide +kernel
theorem dX12_takeWord_6 : decode cX12_takeWord 6 = .ok (.aload_n 0, 1) := by decide +kernel
theorem dX12_takeWord_7 : decode cX12_takeWord 7 = .ok (.getfield 249, 3) := by decide +kernel
theorem dX12_takeWord_10 : decode cX12_takeWord 10 = .ok (.putfield 258, 3) := by decide +kernel
theorem dX12_takeWord_13 : decode cX12_takeWord 13 = .ok (.aload_n 0, 1) := by decide +kernel
theorem dX12_takeWord_14 : decode cX12_takeWord 14 = .ok (.getfield 249, 3) := by decide +kernel
theorem dX12_takeWord_17 : decode cX12_takeWord 17 = .ok (.aload_n 0, 1) := by decide +kernel
theorem dX12_takeWord_18 : decode cX12_takeWord 18 = .ok (.getfield 236, 3) := by decide +kernel
theorem dX12_takeWord_21 : decode cX12_takeWord 21 = .ok (.if_icmp .ge 38, 3) := by decide +kernel
theorem dX12_takeWord_24 : decode cX12_takeWord 24 = .ok (.aload_n 0, 1) := by decide +kernel
theorem dX12_takeWord_25 : decode cX12_takeWord 25 = .ok (.getfield 30, 3) := by decide +kernel
theorem dX12_takeWord_28 : decode cX12_takeWord 28 = .ok (.aload_n 0, 1) := by decide +kernel
theorem dX12_takeWord_29 : decode cX12_takeWord 29 = .ok (.getfield 249, 3) := by decide +kernel
theorem dX12_takeWord_32 : decode cX12_takeWord 32 = .ok (.iaload, 1) := by decide +kernel
theorem dX12_takeWord_33 : decode cX12_takeWord 33 = .ok (.i2l, 1) := by decide +kernel
theorem dX12_takeWord_34 : decode cX12_takeWord 34 = .ok (.ldc2_w 261, 3) := by decide +kernel
theorem dX12_takeWord_37 : decode cX12_takeWord 37 = .ok (.ldc2_w 263, 3) := by decide +kernel
theorem dX12_takeWord_40 : decode cX12_takeWord 40 = .ok (.invokestatic 134, 3) := by decide +kernel
theorem dX12_takeWord_43 : decode cX12_takeWord 43 = .ok (.ifCond .eq 16, 3) := by decide +kernel
theorem dX12_takeWord_46 : decode cX12_takeWord 46 = .ok (.aload_n 0, 1) := by decide +kernel
theorem dX12_takeWord_47 : decode cX12_takeWord 47 = .ok (.dup, 1) := by decide +kernel
theorem dX12_takeWord_48 : decode cX12_takeWord 48 = .ok (.getfield 249, 3) := by decide +kernel
theorem dX12_takeWord_51 : decode cX12_takeWord 51 = .ok (.iconst 1, 1) := by decide +kernel
theorem dX12_takeWord_52 : decode cX12_takeWord 52 = .ok (.iadd, 1) := by decide +kernel
theorem dX12_takeWord_53 : decode cX12_takeWord 53 = .ok (.putfield 249, 3) := by decide +kernel
theorem dX12_takeWord_56 : decode cX12_takeWord 56 = .ok (.goto (-43), 3) := by decide +kernel
theorem dX12_takeWord_59 : decode cX12_takeWord 59 = .ok (.aload_n 0, 1) := by decide +kernel
theorem dX12_takeWord_60 : decode cX12_takeWord 60 = .ok (.aload_n 0, 1) := by decide +kernel
theorem dX12_takeWord_61 : decode cX12_takeWord 61 = .ok (.getfield 249, 3) := by decide +kernel
theorem dX12_takeWord_64 : decode cX12_takeWord 64 = .ok (.aload_n 0, 1) := by decide +kernel
theorem dX12_takeWord_65 : decode cX12_takeWord 65 = .ok (.getfield 258, 3) := by decide +kernel
theorem dX12_takeWord_68 : decode cX12_takeWord 68 = .ok (.isub, 1) := by decide +kernel
theorem dX12_takeWord_69 : decode cX12_takeWord 69 = .ok (.putfield 265, 3) := by decide +kernel
theorem dX12_takeWord_72 : decode cX12_takeWord 72 = .ok (.return_, 1) := by decide +kernel
theorem dX12_isWord_0 : decode cX12_isWord 0 = .ok (.aload_n 0, 1) := by decide +kernel
theorem dX12_isWord_1 : decode cX12_isWord 1 = .ok (.getfield 265, 3) := by decide +kernel
theorem dX12_isWord_4 : decode cX12_isWord 4 = .ok (.iload_n 1, 1) := by decide +kernel
theorem dX12_isWord_5 : decode cX12_isWord 5 = .ok (.if_icmp .ne 7, 3) := by decide +kernel
theorem dX12_isWord_8 : decode cX12_isWord 8 = .ok (.iconst 1, 1) := by decide +kernel
theorem dX12_isWord_9 : decode cX12_isWord 9 = .ok (.goto 4, 3) := by decide +kernel
theorem dX12_isWord_12 : decode cX12_isWord 12 = .ok (.iconst 0, 1) := by decide +kernel
theorem dX12_isWord_13 : decode cX12_isWord 13 = .ok (.istore 7, 2) := by decide +kernel
theorem dX12_isWord_15 : decode cX12_isWord 15 = .ok (.iconst 0, 1) := by decide +kernel
theorem dX12_isWord_16 : decode cX12_isWord 16 = .ok (.istore 8, 2) := by decide +kernel
theorem dX12_isWord_18 : decode cX12_isWord 18 = .ok (.iload 8, 2) := by decide +kernel
theorem dX12_isWord_20 : decode cX12_isWord 20 = .ok (.iload_n 1, 1) := by decide +kernel
theorem dX12_isWord_21 : decode cX12_isWord 21 = .ok (.if_icmp .ge 79, 3) := by decide +kernel
theorem dX12_isWord_24 : decode cX12_isWord 24 = .ok (.iload 7, 2) := by decide +kernel
theorem dX12_isWord_26 : decode cX12_isWord 26 = .ok (.ifCond .eq 74, 3) := by decide +kernel
theorem dX12_isWord_29 : decode cX12_isWord 29 = .ok (.aload_n 0, 1) := by decide +kernel
theorem dX12_isWord_30 : decode cX12_isWord 30 = .ok (.getfield 30, 3) := by decide +kernel
theorem dX12_isWord_33 : decode cX12_isWord 33 = .ok (.aload_n 0, 1) := by decide +kernel
theorem dX12_isWord_34 : decode cX12_isWord 34 = .ok (.getfield 258, 3) := by decide +kernel
theorem dX12_isWord_37 : decode cX12_isWord 37 = .ok (.iload 8, 2) := by decide +kernel
theorem dX12_isWord_39 : decode cX12_isWord 39 = .ok (.iadd, 1) := by decide +kernel
theorem dX12_isWord_40 : decode cX12_isWord 40 = .ok (.iaload, 1) := by decide +kernel
theorem dX12_isWord_41 : decode cX12_isWord 41 = .ok (.iload 8, 2) := by decide +kernel
theorem dX12_isWord_43 : decode cX12_isWord 43 = .ok (.ifCond .ne 7, 3) := by decide +kernel
theorem dX12_isWord_46 : decode cX12_isWord 46 = .ok (.iload_n 2, 1) := by decide +kernel
theorem dX12_isWord_47 : decode cX12_isWord 47 = .ok (.goto 37, 3) := by decide +kernel
theorem dX12_isWord_50 : decode cX12_isWord 50 = .ok (.iload 8, 2) := by decide +kernel
theorem dX12_isWord_52 : decode cX12_isWord 52 = .ok (.iconst 1, 1) := by decide +kernel
theorem dX12_isWord_53 : decode cX12_isWord 53 = .ok (.if_icmp .ne 7, 3) := by decide +kernel
theorem dX12_isWord_56 : decode cX12_isWord 56 = .ok (.iload_n 3, 1) := by decide +kernel
theorem dX12_isWord_57 : decode cX12_isWord 57 = .ok (.goto 27, 3) := by decide +kernel
theorem dX12_isWord_60 : decode cX12_isWord 60 = .ok (.iload 8, 2) := by decide +kernel
theorem dX12_isWord_62 : decode cX12_isWord 62 = .ok (.iconst 2, 1) := by decide +kernel
theorem dX12_isWord_63 : decode cX12_isWord 63 = .ok (.if_icmp .ne 8, 3) := by decide +kernel
theorem dX12_isWord_66 : decode cX12_isWord 66 = .ok (.iload 4, 2) := by decide +kernel
theorem dX12_isWord_68 : decode cX12_isWord 68 = .ok (.goto 16, 3) := by decide +kernel
theorem dX12_isWord_71 : decode cX12_isWord 71 = .ok (.iload 8, 2) := by decide +kernel
theorem dX12_isWord_73 : decode cX12_isWord 73 = .ok (.iconst 3, 1) := by decide +kernel
theorem dX12_isWord_74 : decode cX12_isWord 74 = .ok (.if_icmp .ne 8, 3) := by decide +kernel
theorem dX12_isWord_77 : decode cX12_isWord 77 = .ok (.iload 5, 2) := by decide +kernel
theorem dX12_isWord_79 : decode cX12_isWord 79 = .ok (.goto 5, 3) := by decide +kernel
theorem dX12_isWord_82 : decode cX12_isWord 82 = .ok (.iload 6, 2) := by decide +kernel
theorem dX12_isWord_84 : decode cX12_isWord 84 = .ok (.if_icmp .ne 7, 3) := by decide +kernel
theorem dX12_isWord_87 : decode cX12_isWord 87 = .ok (.iconst 1, 1) := by decide +kernel
theorem dX12_isWord_88 : decode cX12_isWord 88 = .ok (.goto 4, 3) := by decide +kernel
theorem dX12_isWord_91 : decode cX12_isWord 91 = .ok (.iconst 0, 1) := by decide +kernel
theorem dX12_isWord_92 : decode cX12_isWord 92 = .ok (.istore 7, 2) := by decide +kernel
theorem dX12_isWord_94 : decode cX12_isWord 94 = .ok (.iinc 8 1, 3) := by decide +kernel
theorem dX12_isWord_97 : decode cX12_isWord 97 = .ok (.goto (-79), 3) := by decide +kernel
theorem dX12_isWord_100 : decode cX12_isWord 100 = .ok (.iload 7, 2) := by decide +kernel
theorem dX12_isWord_102 : decode cX12_isWord 102 = .ok (.ireturn, 1) := by decide +kernel
theorem dX12_kindOf_0 : decode cX12_kindOf 0 = .ok (.aload_n 0, 1) := by decide +kernel
theorem dX12_kindOf_1 : decode cX12_kindOf 1 = .ok (.iconst 3, 1) := by decide +kernel
theorem dX12_kindOf_2 : decode cX12_kindOf 2 = .ok (.bipush 108, 2) := by decide +kernel
theorem dX12_kindOf_4 : decode cX12_kindOf 4 = .ok (.bipush 97, 2) := by decide +kernel
theorem dX12_kindOf_6 : decode cX12_kindOf 6 = .ok (.bipush 121, 2) := by decide +kernel
theorem dX12_kindOf_8 : decode cX12_kindOf 8 = .ok (.iconst 0, 1) := by decide +kernel
theorem dX12_kindOf_9 : decode cX12_kindOf 9 = .ok (.iconst 0, 1) := by decide +kernel
theorem dX12_kindOf_10 : decode cX12_kindOf 10 = .ok (.invokevirtual 268, 3) := by decide +kernel
theorem dX12_kindOf_13 : decode cX12_kindOf 13 = .ok (.ifCond .eq 5, 3) := by decide +kernel
theorem dX12_kindOf_16 : decode cX12_kindOf 16 = .ok (.iconst 0, 1) := by decide +kernel
theorem dX12_kindOf_17 : decode cX12_kindOf 17 = .ok (.ireturn, 1) := by decide +kernel
theorem dX12_kindOf_18 : decode cX12_kindOf 18 = .ok (.aload_n 0, 1) := by decide +kernel
theorem dX12_kindOf_19 : decode cX12_kindOf 19 = .ok (.iconst 4, 1) := by decide +kernel
theorem dX12_kindOf_20 : decode cX12_kindOf 20 = .ok (.bipush 116, 2) := by decide +kernel
theorem dX12_kindOf_22 : decode cX12_kindOf 22 = .ok (.bipush 105, 2) := by decide +kernel
theorem dX12_kindOf_24 : decode cX12_kindOf 24 = .ok (.bipush 108, 2) := by decide +kernel
theorem dX12_kindOf_26 : decode cX12_kindOf 26 = .ok (.bipush 116, 2) := by decide +kernel
theorem dX12_kindOf_28 : decode cX12_kindOf 28 = .ok (.iconst 0, 1) := by decide +kernel
theorem dX12_kindOf_29 : decode cX12_kindOf 29 = .ok (.invokevirtual 268, 3) := by decide +kernel
theorem dX12_kindOf_32 : decode cX12_kindOf 32 = .ok (.ifCond .eq 5, 3) := by decide +kernel
theorem dX12_kindOf_35 : decode cX12_kindOf 35 = .ok (.iconst 1, 1) := by decide +kernel
theorem dX12_kindOf_36 : decode cX12_kindOf 36 = .ok (.ireturn, 1) := by decide +kernel
theorem dX12_kindOf_37 : decode cX12_kindOf 37 = .ok (.aload_n 0, 1) := by decide +kernel
theorem dX12_kindOf_38 : decode cX12_kindOf 38 = .ok (.iconst 4, 1) := by decide +kernel
theorem dX12_kindOf_39 : decode cX12_kindOf 39 = .ok (.bipush 102, 2) := by decide +kernel
theorem dX12_kindOf_41 : decode cX12_kindOf 41 = .ok (.bipush 111, 2) := by decide +kernel
theorem dX12_kindOf_43 : decode cX12_kindOf 43 = .ok (.bipush 108, 2) := by decide +kernel
theorem dX12_kindOf_45 : decode cX12_kindOf 45 = .ok (.bipush 100, 2) := by decide +kernel
theorem dX12_kindOf_47 : decode cX12_kindOf 47 = .ok (.iconst 0, 1) := by decide +kernel
theorem dX12_kindOf_48 : decode cX12_kindOf 48 = .ok (.invokevirtual 268, 3) := by decide +kernel
theorem dX12_kindOf_51 : decode cX12_kindOf 51 = .ok (.ifCond .eq 5, 3) := by decide +kernel
theorem dX12_kindOf_54 : decode cX12_kindOf 54 = .ok (.iconst 2, 1) := by decide +kernel
theorem dX12_kindOf_55 : decode cX12_kindOf 55 = .ok (.ireturn, 1) := by decide +kernel
theorem dX12_kindOf_56 : decode cX12_kindOf 56 = .ok (.aload_n 0, 1) := by decide +kernel
theorem dX12_kindOf_57 : decode cX12_kindOf 57 = .ok (.iconst 5, 1) := by decide +kernel
theorem dX12_kindOf_58 : decode cX12_kindOf 58 = .ok (.bipush 98, 2) := by decide +kernel
theorem dX12_kindOf_60 : decode cX12_kindOf 60 = .ok (.bipush 114, 2) := by decide +kernel
theorem dX12_kindOf_62 : decode cX12_kindOf 62 = .ok (.bipush 101, 2) := by decide +kernel
theorem dX12_kindOf_64 : decode cX12_kindOf 64 = .ok (.bipush 97, 2) := by decide +kernel
theorem dX12_kindOf_66 : decode cX12_kindOf 66 = .ok (.bipush 107, 2) := by decide +kernel
theorem dX12_kindOf_68 : decode cX12_kindOf 68 = .ok (.invokevirtual 268, 3) := by decide +kernel
theorem dX12_kindOf_71 : decode cX12_kindOf 71 = .ok (.ifCond .eq 5, 3) := by decide +kernel
theorem dX12_kindOf_74 : decode cX12_kindOf 74 = .ok (.iconst 3, 1) := by decide +kernel
theorem dX12_kindOf_75 : decode cX12_kindOf 75 = .ok (.ireturn, 1) := by decide +kernel
theorem dX12_kindOf_76 : decode cX12_kindOf 76 = .ok (.aload_n 0, 1) := by decide +kernel
theorem dX12_kindOf_77 : decode cX12_kindOf 77 = .ok (.iconst 3, 1) := by decide +kernel
theorem dX12_kindOf_78 : decode cX12_kindOf 78 = .ok (.bipush 99, 2) := by decide +kernel
theorem dX12_kindOf_80 : decode cX12_kindOf 80 = .ok (.bipush 117, 2) := by decide +kernel
theorem dX12_kindOf_82 : decode cX12_kindOf 82 = .ok (.bipush 116, 2) := by decide +kernel
theorem dX12_kindOf_84 : decode cX12_kindOf 84 = .ok (.iconst 0, 1) := by decide +kernel
theorem dX12_kindOf_85 : decode cX12_kindOf 85 = .ok (.iconst 0, 1) := by decide +kernel
theorem dX12_kindOf_86 : decode cX12_kindOf 86 = .ok (.invokevirtual 268, 3) := by decide +kernel
theorem dX12_kindOf_89 : decode cX12_kindOf 89 = .ok (.ifCond .eq 5, 3) := by decide +kernel
theorem dX12_kindOf_92 : decode cX12_kindOf 92 = .ok (.iconst 4, 1) := by decide +kernel
theorem dX12_kindOf_93 : decode cX12_kindOf 93 = .ok (.ireturn, 1) := by decide +kernel
theorem dX12_kindOf_94 : decode cX12_kindOf 94 = .ok (.aload_n 0, 1) := by decide +kernel
theorem dX12_kindOf_95 : decode cX12_kindOf 95 = .ok (.iconst 4, 1) := by decide +kernel
theorem dX12_kindOf_96 : decode cX12_kindOf 96 = .ok (.bipush 100, 2) := by decide +kernel
theorem dX12_kindOf_98 : decode cX12_kindOf 98 = .ok (.bipush 121, 2) := by decide +kernel
theorem dX12_kindOf_100 : decode cX12_kindOf 100 = .ok (.bipush 107, 2) := by decide +kernel
theorem dX12_kindOf_102 : decode cX12_kindOf 102 = .ok (.bipush 101, 2) := by decide +kernel
theorem dX12_kindOf_104 : decode cX12_kindOf 104 = .ok (.iconst 0, 1) := by decide +kernel
theorem dX12_kindOf_105 : decode cX12_kindOf 105 = .ok (.invokevirtual 268, 3) := by decide +kernel
theorem dX12_kindOf_108 : decode cX12_kindOf 108 = .ok (.ifCond .eq 7, 3) := by decide +kernel
theorem dX12_kindOf_111 : decode cX12_kindOf 111 = .ok (.iconst 5, 1) := by decide +kernel
theorem dX12_kindOf_112 : decode cX12_kindOf 112 = .ok (.goto 4, 3) := by decide +kernel
theorem dX12_kindOf_115 : decode cX12_kindOf 115 = .ok (.iconst (-1), 1) := by decide +kernel
theorem dX12_kindOf_116 : decode cX12_kindOf 116 = .ok (.ireturn, 1) := by decide +kernel
theorem dX12_isAxis_0 : decode cX12_isAxis 0 = .ok (.iload_n 0, 1) := by decide +kernel
theorem dX12_isAxis_1 : decode cX12_isAxis 1 = .ok (.iconst 2, 1) := by decide +kernel
theorem dX12_isAxis_2 : decode cX12_isAxis 2 = .ok (.if_icmp .eq 8, 3) := by decide +kernel
theorem dX12_isAxis_5 : decode cX12_isAxis 5 = .ok (.iload_n 0, 1) := by decide +kernel
theorem dX12_isAxis_6 : decode cX12_isAxis 6 = .ok (.iconst 3, 1) := by decide +kernel
theorem dX12_isAxis_7 : decode cX12_isAxis 7 = .ok (.if_icmp .ne 7, 3) := by decide +kernel
theorem dX12_isAxis_10 : decode cX12_isAxis 10 = .ok (.iload_n 1, 1) := by decide +kernel
theorem dX12_isAxis_11 : decode cX12_isAxis 11 = .ok (.ifCond .eq 13, 3) := by decide +kernel
theorem dX12_isAxis_14 : decode cX12_isAxis 14 = .ok (.iload_n 0, 1) := by decide +kernel
theorem dX12_isAxis_15 : decode cX12_isAxis 15 = .ok (.iconst 5, 1) := by decide +kernel
theorem dX12_isAxis_16 : decode cX12_isAxis 16 = .ok (.if_icmp .ne 12, 3) := by decide +kernel
theorem dX12_isAxis_19 : decode cX12_isAxis 19 = .ok (.iload_n 1, 1) := by decide +kernel
theorem dX12_isAxis_20 : decode cX12_isAxis 20 = .ok (.iconst 1, 1) := by decide +kernel
theorem dX12_isAxis_21 : decode cX12_isAxis 21 = .ok (.if_icmp .ne 7, 3) := by decide +kernel
theorem dX12_isAxis_24 : decode cX12_isAxis 24 = .ok (.iconst 1, 1) := by decide +kernel
theorem dX12_isAxis_25 : decode cX12_isAxis 25 = .ok (.goto 4, 3) := by decide +kernel
theorem dX12_isAxis_28 : decode cX12_isAxis 28 = .ok (.iconst 0, 1) := by decide +kernel
theorem dX12_isAxis_29 : decode cX12_isAxis 29 = .ok (.ireturn, 1) := by decide +kernel
theorem dX12_readNumber_0 : decode cX12_readNumber 0 = .ok (.iload_n 1, 1) := by decide +kernel
theorem dX12_readNumber_1 : decode cX12_readNumber 1 = .ok (.iload_n 2, 1) := by decide +kernel
theorem dX12_readNumber_2 : decode cX12_readNumber 2 = .ok (.invokestatic 272, 3) := by decide +kernel
theorem dX12_readNumber_5 : decode cX12_readNumber 5 = .ok (.ifCond .eq 69, 3) := by decide +kernel
theorem dX12_readNumber_8 : decode cX12_readNumber 8 = .ok (.aload_n 0, 1) := by decide +kernel
theorem dX12_readNumber_9 : decode cX12_readNumber 9 = .ok (.invokevirtual 276, 3) := by decide +kernel
theorem dX12_readNumber_12 : decode cX12_readNumber 12 = .ok (.aload_n 0, 1) := by decide +kernel
theorem dX12_readNumber_13 : decode cX12_readNumber 13 = .ok (.iconst 1, 1) := by decide +kernel
theorem dX12_readNumber_14 : decode cX12_readNumber 14 = .ok (.bipush 120, 2) := by decide +kernel
theorem dX12_readNumber_16 : decode cX12_readNumber 16 = .ok (.iconst 0, 1) := by decide +kernel
theorem dX12_readNumber_17 : decode cX12_readNumber 17 = .ok (.iconst 0, 1) := by decide +kernel
theorem dX12_readNumber_18 : decode cX12_readNumber 18 = .ok (.iconst 0, 1) := by decide +kernel
theorem dX12_readNumber_19 : decode cX12_readNumber 19 = .ok (.iconst 0, 1) := by decide +kernel
theorem dX12_readNumber_20 : decode cX12_readNumber 20 = .ok (.invokevirtual 268, 3) := by decide +kernel
theorem dX12_readNumber_23 : decode cX12_readNumber 23 = .ok (.istore_n 3, 1) := by decide +kernel
theorem dX12_readNumber_24 : decode cX12_readNumber 24 = .ok (.aload_n 0, 1) := by decide +kernel
theorem dX12_readNumber_25 : decode cX12_readNumber 25 = .ok (.iconst 1, 1) := by decide +kernel
theorem dX12_readNumber_26 : decode cX12_readNumber 26 = .ok (.bipush 121, 2) := by decide +kernel
theorem dX12_readNumber_28 : decode cX12_readNumber 28 = .ok (.iconst 0, 1) := by decide +kernel
theorem dX12_readNumber_29 : decode cX12_readNumber 29 = .ok (.iconst 0, 1) := by decide +kernel
theorem dX12_readNumber_30 : decode cX12_readNumber 30 = .ok (.iconst 0, 1) := by decide +kernel
theorem dX12_readNumber_31 : decode cX12_readNumber 31 = .ok (.iconst 0, 1) := by decide +kernel
theorem dX12_readNumber_32 : decode cX12_readNumber 32 = .ok (.invokevirtual 268, 3) := by decide +kernel
theorem dX12_readNumber_35 : decode cX12_readNumber 35 = .ok (.istore 4, 2) := by decide +kernel
theorem dX12_readNumber_37 : decode cX12_readNumber 37 = .ok (.aload_n 0, 1) := by decide +kernel
theorem dX12_readNumber_38 : decode cX12_readNumber 38 = .ok (.iload_n 3, 1) := by decide +kernel
theorem dX12_readNumber_39 : decode cX12_readNumber 39 = .ok (.ifCond .ne 8, 3) := by decide +kernel
theorem dX12_readNumber_42 : decode cX12_readNumber 42 = .ok (.iload 4, 2) := by decide +kernel
theorem dX12_readNumber_44 : decode cX12_readNumber 44 = .ok (.ifCond .eq 7, 3) := by decide +kernel
theorem dX12_readNumber_47 : decode cX12_readNumber 47 = .ok (.iconst 1, 1) := by decide +kernel
theorem dX12_readNumber_48 : decode cX12_readNumber 48 = .ok (.goto 4, 3) := by decide +kernel
theorem dX12_readNumber_51 : decode cX12_readNumber 51 = .ok (.iconst 0, 1) := by decide +kernel
theorem dX12_readNumber_52 : decode cX12_readNumber 52 = .ok (.iconst 1, 1) := by decide +kernel
theorem dX12_readNumber_53 : decode cX12_readNumber 53 = .ok (.aload_n 0, 1) := by decide +kernel
theorem dX12_readNumber_54 : decode cX12_readNumber 54 = .ok (.getfield 258, 3) := by decide +kernel
theorem dX12_readNumber_57 : decode cX12_readNumber 57 = .ok (.invokevirtual 279, 3) := by decide +kernel
theorem dX12_readNumber_60 : decode cX12_readNumber 60 = .ok (.istore 5, 2) := by decide +kernel
theorem dX12_readNumber_62 : decode cX12_readNumber 62 = .ok (.aload_n 0, 1) := by decide +kernel
theorem dX12_readNumber_63 : decode cX12_readNumber 63 = .ok (.getfield 27, 3) := by decide +kernel
theorem dX12_readNumber_66 : decode cX12_readNumber 66 = .ok (.iload_n 2, 1) := by decide +kernel
theorem dX12_readNumber_67 : decode cX12_readNumber 67 = .ok (.iload 4, 2) := by decide +kernel
theorem dX12_readNumber_69 : decode cX12_readNumber 69 = .ok (.invokestatic 207, 3) := by decide +kernel
theorem dX12_readNumber_72 : decode cX12_readNumber 72 = .ok (.iastore, 1) := by decide +kernel
theorem dX12_readNumber_73 : decode cX12_readNumber 73 = .ok (.return_, 1) := by decide +kernel
theorem dX12_readNumber_74 : decode cX12_readNumber 74 = .ok (.aload_n 0, 1) := by decide +kernel
theorem dX12_readNumber_75 : decode cX12_readNumber 75 = .ok (.invokevirtual 255, 3) := by decide +kernel
theorem dX12_readNumber_78 : decode cX12_readNumber 78 = .ok (.istore_n 3, 1) := by decide +kernel
theorem dX12_readNumber_79 : decode cX12_readNumber 79 = .ok (.aload_n 0, 1) := by decide +kernel
theorem dX12_readNumber_80 : decode cX12_readNumber 80 = .ok (.getfield 249, 3) := by decide +kernel
theorem dX12_readNumber_83 : decode cX12_readNumber 83 = .ok (.istore 4, 2) := by decide +kernel
theorem dX12_readNumber_85 : decode cX12_readNumber 85 = .ok (.iload_n 3, 1) := by decide +kernel
theorem dX12_readNumber_86 : decode cX12_readNumber 86 = .ok (.bipush 45, 2) := by decide +kernel
theorem dX12_readNumber_88 : decode cX12_readNumber 88 = .ok (.if_icmp .ne 7, 3) := by decide +kernel
theorem dX12_readNumber_91 : decode cX12_readNumber 91 = .ok (.iconst 1, 1) := by decide +kernel
theorem dX12_readNumber_92 : decode cX12_readNumber 92 = .ok (.goto 4, 3) := by decide +kernel
theorem dX12_readNumber_95 : decode cX12_readNumber 95 = .ok (.iconst 0, 1) := by decide +kernel
theorem dX12_readNumber_96 : decode cX12_readNumber 96 = .ok (.istore 5, 2) := by decide +kernel
theorem dX12_readNumber_98 : decode cX12_readNumber 98 = .ok (.aload_n 0, 1) := by decide +kernel
theorem dX12_readNumber_99 : decode cX12_readNumber 99 = .ok (.dup, 1) := by decide +kernel
theorem dX12_readNumber_100 : decode cX12_readNumber 100 = .ok (.getfield 249, 3) := by decide +kernel
theorem dX12_readNumber_103 : decode cX12_readNumber 103 = .ok (.iload 5, 2) := by decide +kernel
theorem dX12_readNumber_105 : decode cX12_readNumber 105 = .ok (.invokestatic 207, 3) := by decide +kernel
theorem dX12_readNumber_108 : decode cX12_readNumber 108 = .ok (.iadd, 1) := by decide +kernel
theorem dX12_readNumber_109 : decode cX12_readNumber 109 = .ok (.putfield 249, 3) := by decide +kernel
theorem dX12_readNumber_112 : decode cX12_readNumber 112 = .ok (.aload_n 0, 1) := by decide +kernel
theorem dX12_readNumber_113 : decode cX12_readNumber 113 = .ok (.aload_n 0, 1) := by decide +kernel
theorem dX12_readNumber_114 : decode cX12_readNumber 114 = .ok (.getfield 249, 3) := by decide +kernel
theorem dX12_readNumber_117 : decode cX12_readNumber 117 = .ok (.aload_n 0, 1) := by decide +kernel
theorem dX12_readNumber_118 : decode cX12_readNumber 118 = .ok (.getfield 236, 3) := by decide +kernel
theorem dX12_readNumber_121 : decode cX12_readNumber 121 = .ok (.if_icmp .ge 29, 3) := by decide +kernel
theorem dX12_readNumber_124 : decode cX12_readNumber 124 = .ok (.aload_n 0, 1) := by decide +kernel
theorem dX12_readNumber_125 : decode cX12_readNumber 125 = .ok (.getfield 30, 3) := by decide +kernel
theorem dX12_readNumber_128 : decode cX12_readNumber 128 = .ok (.aload_n 0, 1) := by decide +kernel
theorem dX12_readNumber_129 : decode cX12_readNumber 129 = .ok (.getfield 249, 3) := by decide +kernel
theorem dX12_readNumber_132 : decode cX12_readNumber 132 = .ok (.iaload, 1) := by decide +kernel
theorem dX12_readNumber_133 : decode cX12_readNumber 133 = .ok (.i2l, 1) := by decide +kernel
theorem dX12_readNumber_134 : decode cX12_readNumber 134 = .ok (.ldc2_w 283, 3) := by decide +kernel
theorem dX12_readNumber_137 : decode cX12_readNumber 137 = .ok (.ldc2_w 285, 3) := by decide +kernel
theorem dX12_readNumber_140 : decode cX12_readNumber 140 = .ok (.invokestatic 134, 3) := by decide +kernel
theorem dX12_readNumber_143 : decode cX12_readNumber 143 = .ok (.ifCond .eq 7, 3) := by decide +kernel
theorem dX12_readNumber_146 : decode cX12_readNumber 146 = .ok (.iconst 1, 1) := by decide +kernel
theorem dX12_readNumber_147 : decode cX12_readNumber 147 = .ok (.goto 4, 3) := by decide +kernel
theorem dX12_readNumber_150 : decode cX12_readNumber 150 = .ok (.iconst 0, 1) := by decide +kernel
theorem dX12_readNumber_151 : decode cX12_readNumber 151 = .ok (.iconst 1, 1) := by decide +kernel
theorem dX12_readNumber_152 : decode cX12_readNumber 152 = .ok (.aload_n 0, 1) := by decide +kernel
theorem dX12_readNumber_153 : decode cX12_readNumber 153 = .ok (.getfield 249, 3) := by decide +kernel
theorem dX12_readNumber_156 : decode cX12_readNumber 156 = .ok (.invokevirtual 279, 3) := by decide +kernel
theorem dX12_readNumber_159 : decode cX12_readNumber 159 = .ok (.ifCond .ne 4, 3) := by decide +kernel
theorem dX12_readNumber_162 : decode cX12_readNumber 162 = .ok (.return_, 1) := by decide +kernel
theorem dX12_readNumber_163 : decode cX12_readNumber 163 = .ok (.aload_n 0, 1) := by decide +kernel
theorem dX12_readNumber_164 : decode cX12_readNumber 164 = .ok (.getfield 249, 3) := by decide +kernel
theorem dX12_readNumber_167 : decode cX12_readNumber 167 = .ok (.istore 6, 2) := by decide +kernel
theorem dX12_readNumber_169 : decode cX12_readNumber 169 = .ok (.iconst 0, 1) := by decide +kernel
theorem dX12_readNumber_170 : decode cX12_readNumber 170 = .ok (.istore 7, 2) := by decide +kernel
theorem dX12_readNumber_172 : decode cX12_readNumber 172 = .ok (.aload_n 0, 1) := by decide +kernel
theorem dX12_readNumber_173 : decode cX12_readNumber 173 = .ok (.getfield 249, 3) := by decide +kernel
theorem dX12_readNumber_176 : decode cX12_readNumber 176 = .ok (.aload_n 0, 1) := by decide +kernel
theorem dX12_readNumber_177 : decode cX12_readNumber 177 = .ok (.getfield 236, 3) := by decide +kernel
theorem dX12_readNumber_180 : decode cX12_readNumber 180 = .ok (.if_icmp .ge 71, 3) := by decide +kernel
theorem dX12_readNumber_183 : decode cX12_readNumber 183 = .ok (.aload_n 0, 1) := by decide +kernel
theorem dX12_readNumber_184 : decode cX12_readNumber 184 = .ok (.getfield 30, 3) := by decide +kernel
theorem dX12_readNumber_187 : decode cX12_readNumber 187 = .ok (.aload_n 0, 1) := by decide +kernel
theorem dX12_readNumber_188 : decode cX12_readNumber 188 = .ok (.getfield 249, 3) := by decide +kernel
theorem dX12_readNumber_191 : decode cX12_readNumber 191 = .ok (.iaload, 1) := by decide +kernel
theorem dX12_readNumber_192 : decode cX12_readNumber 192 = .ok (.i2l, 1) := by decide +kernel
theorem dX12_readNumber_193 : decode cX12_readNumber 193 = .ok (.ldc2_w 283, 3) := by decide +kernel
theorem dX12_readNumber_196 : decode cX12_readNumber 196 = .ok (.ldc2_w 285, 3) := by decide +kernel
theorem dX12_readNumber_199 : decode cX12_readNumber 199 = .ok (.invokestatic 134, 3) := by decide +kernel
theorem dX12_readNumber_202 : decode cX12_readNumber 202 = .ok (.ifCond .eq 49, 3) := by decide +kernel
theorem dX12_readNumber_205 : decode cX12_readNumber 205 = .ok (.iload 7, 2) := by decide +kernel
theorem dX12_readNumber_207 : decode cX12_readNumber 207 = .ok (.sipush 999, 3) := by decide +kernel
theorem dX12_readNumber_210 : decode cX12_readNumber 210 = .ok (.if_icmp .le 8, 3) := by decide +kernel
theorem dX12_readNumber_213 : decode cX12_readNumber 213 = .ok (.iload 7, 2) := by decide +kernel
theorem dX12_readNumber_215 : decode cX12_readNumber 215 = .ok (.goto 21, 3) := by decide +kernel
theorem dX12_readNumber_218 : decode cX12_readNumber 218 = .ok (.bipush 10, 2) := by decide +kernel
theorem dX12_readNumber_220 : decode cX12_readNumber 220 = .ok (.iload 7, 2) := by decide +kernel
theorem dX12_readNumber_222 : decode cX12_readNumber 222 = .ok (.imul, 1) := by decide +kernel
theorem dX12_readNumber_223 : decode cX12_readNumber 223 = .ok (.aload_n 0, 1) := by decide +kernel
theorem dX12_readNumber_224 : decode cX12_readNumber 224 = .ok (.getfield 30, 3) := by decide +kernel
theorem dX12_readNumber_227 : decode cX12_readNumber 227 = .ok (.aload_n 0, 1) := by decide +kernel
theorem dX12_readNumber_228 : decode cX12_readNumber 228 = .ok (.getfield 249, 3) := by decide +kernel
theorem dX12_readNumber_231 : decode cX12_readNumber 231 = .ok (.iaload, 1) := by decide +kernel
theorem dX12_readNumber_232 : decode cX12_readNumber 232 = .ok (.iadd, 1) := by decide +kernel
theorem dX12_readNumber_233 : decode cX12_readNumber 233 = .ok (.bipush 48, 2) := by decide +kernel
theorem dX12_readNumber_235 : decode cX12_readNumber 235 = .ok (.isub, 1) := by decide +kernel
theorem dX12_readNumber_236 : decode cX12_readNumber 236 = .ok (.istore 7, 2) := by decide +kernel
theorem dX12_readNumber_238 : decode cX12_readNumber 238 = .ok (.aload_n 0, 1) := by decide +kernel
theorem dX12_readNumber_239 : decode cX12_readNumber 239 = .ok (.dup, 1) := by decide +kernel
theorem dX12_readNumber_240 : decode cX12_readNumber 240 = .ok (.getfield 249, 3) := by decide +kernel
theorem dX12_readNumber_243 : decode cX12_readNumber 243 = .ok (.iconst 1, 1) := by decide +kernel
theorem dX12_readNumber_244 : decode cX12_readNumber 244 = .ok (.iadd, 1) := by decide +kernel
theorem dX12_readNumber_245 : decode cX12_readNumber 245 = .ok (.putfield 249, 3) := by decide +kernel
theorem dX12_readNumber_248 : decode cX12_readNumber 248 = .ok (.goto (-76), 3) := by decide +kernel
theorem dX12_readNumber_251 : decode cX12_readNumber 251 = .ok (.aload_n 0, 1) := by decide +kernel
theorem dX12_readNumber_252 : decode cX12_readNumber 252 = .ok (.getfield 27, 3) := by decide +kernel
theorem dX12_readNumber_255 : decode cX12_readNumber 255 = .ok (.iload_n 2, 1) := by decide +kernel
theorem dX12_readNumber_256 : decode cX12_readNumber 256 = .ok (.iload 5, 2) := by decide +kernel
theorem dX12_readNumber_258 : decode cX12_readNumber 258 = .ok (.ifCond .eq 10, 3) := by decide +kernel
theorem dX12_readNumber_261 : decode cX12_readNumber 261 = .ok (.iconst 0, 1) := by decide +kernel
theorem dX12_readNumber_262 : decode cX12_readNumber 262 = .ok (.iload 7, 2) := by decide +kernel
theorem dX12_readNumber_264 : decode cX12_readNumber 264 = .ok (.isub, 1) := by decide +kernel
theorem dX12_readNumber_265 : decode cX12_readNumber 265 = .ok (.goto 5, 3) := by decide +kernel
theorem dX12_readNumber_268 : decode cX12_readNumber 268 = .ok (.iload 7, 2) := by decide +kernel
theorem dX12_readNumber_270 : decode cX12_readNumber 270 = .ok (.iastore, 1) := by decide +kernel
theorem dX12_readNumber_271 : decode cX12_readNumber 271 = .ok (.aload_n 0, 1) := by decide +kernel
theorem dX12_readNumber_272 : decode cX12_readNumber 272 = .ok (.getfield 249, 3) := by decide +kernel
theorem dX12_readNumber_275 : decode cX12_readNumber 275 = .ok (.iload 6, 2) := by decide +kernel
theorem dX12_readNumber_277 : decode cX12_readNumber 277 = .ok (.isub, 1) := by decide +kernel
theorem dX12_readNumber_278 : decode cX12_readNumber 278 = .ok (.iconst 3, 1) := by decide +kernel
theorem dX12_readNumber_279 : decode cX12_readNumber 279 = .ok (.if_icmp .ge 46, 3) := by decide +kernel
theorem dX12_readNumber_282 : decode cX12_readNumber 282 = .ok (.iload_n 1, 1) := by decide +kernel
theorem dX12_readNumber_283 : decode cX12_readNumber 283 = .ok (.iload_n 2, 1) := by decide +kernel
theorem dX12_readNumber_284 : decode cX12_readNumber 284 = .ok (.aload_n 0, 1) := by decide +kernel
theorem dX12_readNumber_285 : decode cX12_readNumber 285 = .ok (.getfield 27, 3) := by decide +kernel
theorem dX12_readNumber_288 : decode cX12_readNumber 288 = .ok (.iload_n 2, 1) := by decide +kernel
theorem dX12_readNumber_289 : decode cX12_readNumber 289 = .ok (.iaload, 1) := by decide +kernel
theorem dX12_readNumber_290 : decode cX12_readNumber 290 = .ok (.invokestatic 144, 3) := by decide +kernel
theorem dX12_readNumber_293 : decode cX12_readNumber 293 = .ok (.ifCond .eq 32, 3) := by decide +kernel
theorem dX12_readNumber_296 : decode cX12_readNumber 296 = .ok (.iload_n 1, 1) := by decide +kernel
theorem dX12_readNumber_297 : decode cX12_readNumber 297 = .ok (.iconst 5, 1) := by decide +kernel
theorem dX12_readNumber_298 : decode cX12_readNumber 298 = .ok (.if_icmp .ne 23, 3) := by decide +kernel
theorem dX12_readNumber_301 : decode cX12_readNumber 301 = .ok (.iload_n 2, 1) := by decide +kernel
theorem dX12_readNumber_302 : decode cX12_readNumber 302 = .ok (.iconst 3, 1) := by decide +kernel
theorem dX12_readNumber_303 : decode cX12_readNumber 303 = .ok (.if_icmp .ne 18, 3) := by decide +kernel
theorem dX12_readNumber_306 : decode cX12_readNumber 306 = .ok (.aload_n 0, 1) := by decide +kernel
theorem dX12_readNumber_307 : decode cX12_readNumber 307 = .ok (.getfield 27, 3) := by decide +kernel
theorem dX12_readNumber_310 : decode cX12_readNumber 310 = .ok (.iconst 3, 1) := by decide +kernel
theorem dX12_readNumber_311 : decode cX12_readNumber 311 = .ok (.iaload, 1) := by decide +kernel
theorem dX12_readNumber_312 : decode cX12_readNumber 312 = .ok (.aload_n 0, 1) := by decide +kernel
theorem dX12_readNumber_313 : decode cX12_readNumber 313 = .ok (.getfield 27, 3) := by decide +kernel
theorem dX12_readNumber_316 : decode cX12_readNumber 316 = .ok (.iconst 2, 1) := by decide +kernel
theorem dX12_readNumber_317 : decode cX12_readNumber 317 = .ok (.iaload, 1) := by decide +kernel
theorem dX12_readNumber_318 : decode cX12_readNumber 318 = .ok (.if_icmp .lt 7, 3) := by decide +kernel
theorem dX12_readNumber_321 : decode cX12_readNumber 321 = .ok (.iconst 1, 1) := by decide +kernel
theorem dX12_readNumber_322 : decode cX12_readNumber 322 = .ok (.goto 4, 3) := by decide +kernel
theorem dX12_readNumber_325 : decode cX12_readNumber 325 = .ok (.iconst 0, 1) := by decide +kernel
theorem dX12_readNumber_326 : decode cX12_readNumber 326 = .ok (.istore 8, 2) := by decide +kernel
theorem dX12_readNumber_328 : decode cX12_readNumber 328 = .ok (.aload_n 0, 1) := by decide +kernel
theorem dX12_readNumber_329 : decode cX12_readNumber 329 = .ok (.iload 8, 2) := by decide +kernel
theorem dX12_readNumber_331 : decode cX12_readNumber 331 = .ok (.iconst 2, 1) := by decide +kernel
theorem dX12_readNumber_332 : decode cX12_readNumber 332 = .ok (.iload 4, 2) := by decide +kernel
theorem dX12_readNumber_334 : decode cX12_readNumber 334 = .ok (.invokevirtual 279, 3) := by decide +kernel
theorem dX12_readNumber_337 : decode cX12_readNumber 337 = .ok (.istore 9, 2) := by decide +kernel
theorem dX12_readNumber_339 : decode cX12_readNumber 339 = .ok (.return_, 1) := by decide +kernel
theorem dX12_readClause_0 : decode cX12_readClause 0 = .ok (.aload_n 0, 1) := by decide +kernel
theorem dX12_readClause_1 : decode cX12_readClause 1 = .ok (.invokevirtual 276, 3) := by decide +kernel
theorem dX12_readClause_4 : decode cX12_readClause 4 = .ok (.aload_n 0, 1) := by decide +kernel
theorem dX12_readClause_5 : decode cX12_readClause 5 = .ok (.invokevirtual 287, 3) := by decide +kernel
theorem dX12_readClause_8 : decode cX12_readClause 8 = .ok (.istore_n 1, 1) := by decide +kernel
theorem dX12_readClause_9 : decode cX12_readClause 9 = .ok (.aload_n 0, 1) := by decide +kernel
theorem dX12_readClause_10 : decode cX12_readClause 10 = .ok (.iload_n 1, 1) := by decide +kernel
theorem dX12_readClause_11 : decode cX12_readClause 11 = .ok (.ifCond .lt 7, 3) := by decide +kernel
theorem dX12_readClause_14 : decode cX12_readClause 14 = .ok (.iconst 1, 1) := by decide +kernel
theorem dX12_readClause_15 : decode cX12_readClause 15 = .ok (.goto 4, 3) := by decide +kernel
theorem dX12_readClause_18 : decode cX12_readClause 18 = .ok (.iconst 0, 1) := by decide +kernel
theorem dX12_readClause_19 : decode cX12_readClause 19 = .ok (.iconst 1, 1) := by decide +kernel
theorem dX12_readClause_20 : decode cX12_readClause 20 = .ok (.aload_n 0, 1) := by decide +kernel
theorem dX12_readClause_21 : decode cX12_readClause 21 = .ok (.getfield 258, 3) := by decide +kernel
theorem dX12_readClause_24 : decode cX12_readClause 24 = .ok (.invokevirtual 279, 3) := by decide +kernel
theorem dX12_readClause_27 : decode cX12_readClause 27 = .ok (.ifCond .eq 29, 3) := by decide +kernel
theorem dX12_readClause_30 : decode cX12_readClause 30 = .ok (.aload_n 0, 1) := by decide +kernel
theorem dX12_readClause_31 : decode cX12_readClause 31 = .ok (.aload_n 0, 1) := by decide +kernel
theorem dX12_readClause_32 : decode cX12_readClause 32 = .ok (.getfield 290, 3) := by decide +kernel
theorem dX12_readClause_35 : decode cX12_readClause 35 = .ok (.bipush 16, 2) := by decide +kernel
theorem dX12_readClause_37 : decode cX12_readClause 37 = .ok (.if_icmp .ge 7, 3) := by decide +kernel
theorem dX12_readClause_40 : decode cX12_readClause 40 = .ok (.iconst 1, 1) := by decide +kernel
theorem dX12_readClause_41 : decode cX12_readClause 41 = .ok (.goto 4, 3) := by decide +kernel
theorem dX12_readClause_44 : decode cX12_readClause 44 = .ok (.iconst 0, 1) := by decide +kernel
theorem dX12_readClause_45 : decode cX12_readClause 45 = .ok (.iconst 3, 1) := by decide +kernel
theorem dX12_readClause_46 : decode cX12_readClause 46 = .ok (.aload_n 0, 1) := by decide +kernel
theorem dX12_readClause_47 : decode cX12_readClause 47 = .ok (.getfield 258, 3) := by decide +kernel
theorem dX12_readClause_50 : decode cX12_readClause 50 = .ok (.invokevirtual 279, 3) := by decide +kernel
theorem dX12_readClause_53 : decode cX12_readClause 53 = .ok (.ifCond .ne 4, 3) := by decide +kernel
theorem dX12_readClause_56 : decode cX12_readClause 56 = .ok (.return_, 1) := by decide +kernel
theorem dX12_readClause_57 : decode cX12_readClause 57 = .ok (.aload_n 0, 1) := by decide +kernel
theorem dX12_readClause_58 : decode cX12_readClause 58 = .ok (.iconst 0, 1) := by decide +kernel
theorem dX12_readClause_59 : decode cX12_readClause 59 = .ok (.iconst 0, 1) := by decide +kernel
theorem dX12_readClause_60 : decode cX12_readClause 60 = .ok (.iconst 0, 1) := by decide +kernel
theorem dX12_readClause_61 : decode cX12_readClause 61 = .ok (.iconst 0, 1) := by decide +kernel
theorem dX12_readClause_62 : decode cX12_readClause 62 = .ok (.iconst 0, 1) := by decide +kernel
theorem dX12_readClause_63 : decode cX12_readClause 63 = .ok (.invokevirtual 187, 3) := by decide +kernel
theorem dX12_readClause_66 : decode cX12_readClause 66 = .ok (.iconst 0, 1) := by decide +kernel
theorem dX12_readClause_67 : decode cX12_readClause 67 = .ok (.istore_n 2, 1) := by decide +kernel
theorem dX12_readClause_68 : decode cX12_readClause 68 = .ok (.iload_n 2, 1) := by decide +kernel
theorem dX12_readClause_69 : decode cX12_readClause 69 = .ok (.iload_n 1, 1) := by decide +kernel
theorem dX12_readClause_70 : decode cX12_readClause 70 = .ok (.invokestatic 140, 3) := by decide +kernel
theorem dX12_readClause_73 : decode cX12_readClause 73 = .ok (.if_icmp .ge 22, 3) := by decide +kernel
theorem dX12_readClause_76 : decode cX12_readClause 76 = .ok (.aload_n 0, 1) := by decide +kernel
theorem dX12_readClause_77 : decode cX12_readClause 77 = .ok (.getfield 252, 3) := by decide +kernel
theorem dX12_readClause_80 : decode cX12_readClause 80 = .ok (.ifCond .ne 15, 3) := by decide +kernel
theorem dX12_readClause_83 : decode cX12_readClause 83 = .ok (.aload_n 0, 1) := by decide +kernel
theorem dX12_readClause_84 : decode cX12_readClause 84 = .ok (.iload_n 1, 1) := by decide +kernel
theorem dX12_readClause_85 : decode cX12_readClause 85 = .ok (.iload_n 2, 1) := by decide +kernel
theorem dX12_readClause_86 : decode cX12_readClause 86 = .ok (.invokevirtual 293, 3) := by decide +kernel
theorem dX12_readClause_89 : decode cX12_readClause 89 = .ok (.iinc 2 1, 3) := by decide +kernel
theorem dX12_readClause_92 : decode cX12_readClause 92 = .ok (.goto (-24), 3) := by decide +kernel
theorem dX12_readClause_95 : decode cX12_readClause 95 = .ok (.aload_n 0, 1) := by decide +kernel
theorem dX12_readClause_96 : decode cX12_readClause 96 = .ok (.invokevirtual 255, 3) := by decide +kernel
theorem dX12_readClause_99 : decode cX12_readClause 99 = .ok (.istore_n 2, 1) := by decide +kernel
theorem dX12_readClause_100 : decode cX12_readClause 100 = .ok (.aload_n 0, 1) := by decide +kernel
theorem dX12_readClause_101 : decode cX12_readClause 101 = .ok (.getfield 252, 3) := by decide +kernel
theorem dX12_readClause_104 : decode cX12_readClause 104 = .ok (.ifCond .gt 26, 3) := by decide +kernel
theorem dX12_readClause_107 : decode cX12_readClause 107 = .ok (.aload_n 0, 1) := by decide +kernel
theorem dX12_readClause_108 : decode cX12_readClause 108 = .ok (.iload_n 2, 1) := by decide +kernel
theorem dX12_readClause_109 : decode cX12_readClause 109 = .ok (.bipush 59, 2) := by decide +kernel
theorem dX12_readClause_111 : decode cX12_readClause 111 = .ok (.if_icmp .ne 7, 3) := by decide +kernel
theorem dX12_readClause_114 : decode cX12_readClause 114 = .ok (.iconst 1, 1) := by decide +kernel
theorem dX12_readClause_115 : decode cX12_readClause 115 = .ok (.goto 4, 3) := by decide +kernel
theorem dX12_readClause_118 : decode cX12_readClause 118 = .ok (.iconst 0, 1) := by decide +kernel
theorem dX12_readClause_119 : decode cX12_readClause 119 = .ok (.iconst 1, 1) := by decide +kernel
theorem dX12_readClause_120 : decode cX12_readClause 120 = .ok (.aload_n 0, 1) := by decide +kernel
theorem dX12_readClause_121 : decode cX12_readClause 121 = .ok (.getfield 249, 3) := by decide +kernel
theorem dX12_readClause_124 : decode cX12_readClause 124 = .ok (.invokevirtual 279, 3) := by decide +kernel
theorem dX12_readClause_127 : decode cX12_readClause 127 = .ok (.ifCond .ne 4, 3) := by decide +kernel
theorem dX12_readClause_130 : decode cX12_readClause 130 = .ok (.return_, 1) := by decide +kernel
theorem dX12_readClause_131 : decode cX12_readClause 131 = .ok (.aload_n 0, 1) := by decide +kernel
theorem dX12_readClause_132 : decode cX12_readClause 132 = .ok (.dup, 1) := by decide +kernel
theorem dX12_readClause_133 : decode cX12_readClause 133 = .ok (.getfield 249, 3) := by decide +kernel
theorem dX12_readClause_136 : decode cX12_readClause 136 = .ok (.iconst 1, 1) := by decide +kernel
theorem dX12_readClause_137 : decode cX12_readClause 137 = .ok (.iadd, 1) := by decide +kernel
theorem dX12_readClause_138 : decode cX12_readClause 138 = .ok (.putfield 249, 3) := by decide +kernel
theorem dX12_readClause_141 : decode cX12_readClause 141 = .ok (.aload_n 0, 1) := by decide +kernel
theorem dX12_readClause_142 : decode cX12_readClause 142 = .ok (.getfield 37, 3) := by decide +kernel
theorem dX12_readClause_145 : decode cX12_readClause 145 = .ok (.aload_n 0, 1) := by decide +kernel
theorem dX12_readClause_146 : decode cX12_readClause 146 = .ok (.getfield 290, 3) := by decide +kernel
theorem dX12_readClause_149 : decode cX12_readClause 149 = .ok (.iload_n 1, 1) := by decide +kernel
theorem dX12_readClause_150 : decode cX12_readClause 150 = .ok (.iastore, 1) := by decide +kernel
theorem dX12_readClause_151 : decode cX12_readClause 151 = .ok (.iconst 0, 1) := by decide +kernel
theorem dX12_readClause_152 : decode cX12_readClause 152 = .ok (.istore_n 3, 1) := by decide +kernel
theorem dX12_readClause_153 : decode cX12_readClause 153 = .ok (.iload_n 3, 1) := by decide +kernel
theorem dX12_readClause_154 : decode cX12_readClause 154 = .ok (.iconst 5, 1) := by decide +kernel
theorem dX12_readClause_155 : decode cX12_readClause 155 = .ok (.if_icmp .ge 28, 3) := by decide +kernel
theorem dX12_readClause_158 : decode cX12_readClause 158 = .ok (.aload_n 0, 1) := by decide +kernel
theorem dX12_readClause_159 : decode cX12_readClause 159 = .ok (.getfield 40, 3) := by decide +kernel
theorem dX12_readClause_162 : decode cX12_readClause 162 = .ok (.iconst 5, 1) := by decide +kernel
theorem dX12_readClause_163 : decode cX12_readClause 163 = .ok (.aload_n 0, 1) := by decide +kernel
theorem dX12_readClause_164 : decode cX12_readClause 164 = .ok (.getfield 290, 3) := by decide +kernel
theorem dX12_readClause_167 : decode cX12_readClause 167 = .ok (.imul, 1) := by decide +kernel
theorem dX12_readClause_168 : decode cX12_readClause 168 = .ok (.iload_n 3, 1) := by decide +kernel
theorem dX12_readClause_169 : decode cX12_readClause 169 = .ok (.iadd, 1) := by decide +kernel
theorem dX12_readClause_170 : decode cX12_readClause 170 = .ok (.aload_n 0, 1) := by decide +kernel
theorem dX12_readClause_171 : decode cX12_readClause 171 = .ok (.getfield 27, 3) := by decide +kernel
theorem dX12_readClause_174 : decode cX12_readClause 174 = .ok (.iload_n 3, 1) := by decide +kernel
theorem dX12_readClause_175 : decode cX12_readClause 175 = .ok (.iaload, 1) := by decide +kernel
theorem dX12_readClause_176 : decode cX12_readClause 176 = .ok (.iastore, 1) := by decide +kernel
theorem dX12_readClause_177 : decode cX12_readClause 177 = .ok (.iinc 3 1, 3) := by decide +kernel
theorem dX12_readClause_180 : decode cX12_readClause 180 = .ok (.goto (-27), 3) := by decide +kernel
theorem dX12_readClause_183 : decode cX12_readClause 183 = .ok (.aload_n 0, 1) := by decide +kernel
theorem dX12_readClause_184 : decode cX12_readClause 184 = .ok (.dup, 1) := by decide +kernel
theorem dX12_readClause_185 : decode cX12_readClause 185 = .ok (.getfield 290, 3) := by decide +kernel
theorem dX12_readClause_188 : decode cX12_readClause 188 = .ok (.iconst 1, 1) := by decide +kernel
theorem dX12_readClause_189 : decode cX12_readClause 189 = .ok (.iadd, 1) := by decide +kernel
theorem dX12_readClause_190 : decode cX12_readClause 190 = .ok (.putfield 290, 3) := by decide +kernel
theorem dX12_readClause_193 : decode cX12_readClause 193 = .ok (.return_, 1) := by decide +kernel
theorem dX12_read_0 : decode cX12_read 0 = .ok (.aload_n 0, 1) := by decide +kernel
theorem dX12_read_1 : decode cX12_read 1 = .ok (.iconst 0, 1) := by decide +kernel
theorem dX12_read_2 : decode cX12_read 2 = .ok (.putfield 249, 3) := by decide +kernel
theorem dX12_read_5 : decode cX12_read 5 = .ok (.aload_n 0, 1) := by decide +kernel
theorem dX12_read_6 : decode cX12_read 6 = .ok (.iconst 0, 1) := by decide +kernel
theorem dX12_read_7 : decode cX12_read 7 = .ok (.putfield 252, 3) := by decide +kernel
theorem dX12_read_10 : decode cX12_read 10 = .ok (.aload_n 0, 1) := by decide +kernel
theorem dX12_read_11 : decode cX12_read 11 = .ok (.iconst (-1), 1) := by decide +kernel
theorem dX12_read_12 : decode cX12_read 12 = .ok (.putfield 33, 3) := by decide +kernel
theorem dX12_read_15 : decode cX12_read 15 = .ok (.aload_n 0, 1) := by decide +kernel
theorem dX12_read_16 : decode cX12_read 16 = .ok (.iconst 0, 1) := by decide +kernel
theorem dX12_read_17 : decode cX12_read 17 = .ok (.putfield 290, 3) := by decide +kernel
theorem dX12_read_20 : decode cX12_read 20 = .ok (.aload_n 0, 1) := by decide +kernel
theorem dX12_read_21 : decode cX12_read 21 = .ok (.getfield 252, 3) := by decide +kernel
theorem dX12_read_24 : decode cX12_read 24 = .ok (.ifCond .ne 17, 3) := by decide +kernel
theorem dX12_read_27 : decode cX12_read 27 = .ok (.aload_n 0, 1) := by decide +kernel
theorem dX12_read_28 : decode cX12_read 28 = .ok (.invokevirtual 255, 3) := by decide +kernel
theorem dX12_read_31 : decode cX12_read 31 = .ok (.ifCond .lt 10, 3) := by decide +kernel
theorem dX12_read_34 : decode cX12_read 34 = .ok (.aload_n 0, 1) := by decide +kernel
theorem dX12_read_35 : decode cX12_read 35 = .ok (.invokevirtual 295, 3) := by decide +kernel
theorem dX12_read_38 : decode cX12_read 38 = .ok (.goto (-18), 3) := by decide +kernel
theorem dX12_read_41 : decode cX12_read 41 = .ok (.aload_n 0, 1) := by decide +kernel
theorem dX12_read_42 : decode cX12_read 42 = .ok (.iconst 0, 1) := by decide +kernel
theorem dX12_read_43 : decode cX12_read 43 = .ok (.putfield 236, 3) := by decide +kernel
theorem dX12_read_46 : decode cX12_read 46 = .ok (.aload_n 0, 1) := by decide +kernel
theorem dX12_read_47 : decode cX12_read 47 = .ok (.getfield 252, 3) := by decide +kernel
theorem dX12_read_50 : decode cX12_read 50 = .ok (.ifCond .le 11, 3) := by decide +kernel
theorem dX12_read_53 : decode cX12_read 53 = .ok (.bipush (-10), 2) := by decide +kernel
theorem dX12_read_55 : decode cX12_read 55 = .ok (.aload_n 0, 1) := by decide +kernel
theorem dX12_read_56 : decode cX12_read 56 = .ok (.getfield 252, 3) := by decide +kernel
theorem dX12_read_59 : decode cX12_read 59 = .ok (.isub, 1) := by decide +kernel
theorem dX12_read_60 : decode cX12_read 60 = .ok (.ireturn, 1) := by decide +kernel
theorem dX12_read_61 : decode cX12_read 61 = .ok (.aload_n 0, 1) := by decide +kernel
theorem dX12_read_62 : decode cX12_read 62 = .ok (.iconst 0, 1) := by decide +kernel
theorem dX12_read_63 : decode cX12_read 63 = .ok (.putfield 184, 3) := by decide +kernel
theorem dX12_read_66 : decode cX12_read 66 = .ok (.iconst 0, 1) := by decide +kernel
theorem dX12_read_67 : decode cX12_read 67 = .ok (.istore_n 1, 1) := by decide +kernel
theorem dX12_read_68 : decode cX12_read 68 = .ok (.iload_n 1, 1) := by decide +kernel
theorem dX12_read_69 : decode cX12_read 69 = .ok (.aload_n 0, 1) := by decide +kernel
theorem dX12_read_70 : decode cX12_read 70 = .ok (.getfield 290, 3) := by decide +kernel
theorem dX12_read_73 : decode cX12_read 73 = .ok (.if_icmp .ge 48, 3) := by decide +kernel
theorem dX12_read_76 : decode cX12_read 76 = .ok (.iconst 0, 1) := by decide +kernel
theorem dX12_read_77 : decode cX12_read 77 = .ok (.istore_n 2, 1) := by decide +kernel
theorem dX12_read_78 : decode cX12_read 78 = .ok (.iload_n 2, 1) := by decide +kernel
theorem dX12_read_79 : decode cX12_read 79 = .ok (.iconst 5, 1) := by decide +kernel
theorem dX12_read_80 : decode cX12_read 80 = .ok (.if_icmp .ge 25, 3) := by decide +kernel
theorem dX12_read_83 : decode cX12_read 83 = .ok (.aload_n 0, 1) := by decide +kernel
theorem dX12_read_84 : decode cX12_read 84 = .ok (.getfield 27, 3) := by decide +kernel
theorem dX12_read_87 : decode cX12_read 87 = .ok (.iload_n 2, 1) := by decide +kernel
theorem dX12_read_88 : decode cX12_read 88 = .ok (.aload_n 0, 1) := by decide +kernel
theorem dX12_read_89 : decode cX12_read 89 = .ok (.getfield 40, 3) := by decide +kernel
theorem dX12_read_92 : decode cX12_read 92 = .ok (.iconst 5, 1) := by decide +kernel
theorem dX12_read_93 : decode cX12_read 93 = .ok (.iload_n 1, 1) := by decide +kernel
theorem dX12_read_94 : decode cX12_read 94 = .ok (.imul, 1) := by decide +kernel
theorem dX12_read_95 : decode cX12_read 95 = .ok (.iload_n 2, 1) := by decide +kernel
theorem dX12_read_96 : decode cX12_read 96 = .ok (.iadd, 1) := by decide +kernel
theorem dX12_read_97 : decode cX12_read 97 = .ok (.iaload, 1) := by decide +kernel
theorem dX12_read_98 : decode cX12_read 98 = .ok (.iastore, 1) := by decide +kernel
theorem dX12_read_99 : decode cX12_read 99 = .ok (.iinc 2 1, 3) := by decide +kernel
theorem dX12_read_102 : decode cX12_read 102 = .ok (.goto (-24), 3) := by decide +kernel
theorem dX12_read_105 : decode cX12_read 105 = .ok (.aload_n 0, 1) := by decide +kernel
theorem dX12_read_106 : decode cX12_read 106 = .ok (.aload_n 0, 1) := by decide +kernel
theorem dX12_read_107 : decode cX12_read 107 = .ok (.getfield 37, 3) := by decide +kernel
theorem dX12_read_110 : decode cX12_read 110 = .ok (.iload_n 1, 1) := by decide +kernel
theorem dX12_read_111 : decode cX12_read 111 = .ok (.iaload, 1) := by decide +kernel
theorem dX12_read_112 : decode cX12_read 112 = .ok (.invokevirtual 197, 3) := by decide +kernel
theorem dX12_read_115 : decode cX12_read 115 = .ok (.iinc 1 1, 3) := by decide +kernel
theorem dX12_read_118 : decode cX12_read 118 = .ok (.goto (-50), 3) := by decide +kernel
theorem dX12_read_121 : decode cX12_read 121 = .ok (.aload_n 0, 1) := by decide +kernel
theorem dX12_read_122 : decode cX12_read 122 = .ok (.aload_n 0, 1) := by decide +kernel
theorem dX12_read_123 : decode cX12_read 123 = .ok (.getfield 184, 3) := by decide +kernel
theorem dX12_read_126 : decode cX12_read 126 = .ok (.invokevirtual 119, 3) := by decide +kernel
theorem dX12_read_129 : decode cX12_read 129 = .ok (.aload_n 0, 1) := by decide +kernel
theorem dX12_read_130 : decode cX12_read 130 = .ok (.getfield 184, 3) := by decide +kernel
theorem dX12_read_133 : decode cX12_read 133 = .ok (.ireturn, 1) := by decide +kernel
theorem dX12_fault_0 : decode cX12_fault 0 = .ok (.aload_n 0, 1) := by decide +kernel
theorem dX12_fault_1 : decode cX12_fault 1 = .ok (.getfield 33, 3) := by decide +kernel
theorem dX12_fault_4 : decode cX12_fault 4 = .ok (.ireturn, 1) := by decide +kernel
theorem dX12_isPlace_0 : decode cX12_isPlace 0 = .ok (.iload_n 0, 1) := by decide +kernel
theorem dX12_isPlace_1 : decode cX12_isPlace 1 = .ok (.i2l, 1) := by decide +kernel
theorem dX12_isPlace_2 : decode cX12_isPlace 2 = .ok (.lconst 0, 1) := by decide +kernel
theorem dX12_isPlace_3 : decode cX12_isPlace 3 = .ok (.ldc2_w 298, 3) := by decide +kernel
theorem dX12_isPlace_6 : decode cX12_isPlace 6 = .ok (.invokestatic 134, 3) := by decide +kernel
theorem dX12_isPlace_9 : decode cX12_isPlace 9 = .ok (.ifCond .eq 19, 3) := by decide +kernel
theorem dX12_isPlace_12 : decode cX12_isPlace 12 = .ok (.iload_n 1, 1) := by decide +kernel
theorem dX12_isPlace_13 : decode cX12_isPlace 13 = .ok (.i2l, 1) := by decide +kernel
theorem dX12_isPlace_14 : decode cX12_isPlace 14 = .ok (.lconst 0, 1) := by decide +kernel
theorem dX12_isPlace_15 : decode cX12_isPlace 15 = .ok (.ldc2_w 298, 3) := by decide +kernel
theorem dX12_isPlace_18 : decode cX12_isPlace 18 = .ok (.invokestatic 134, 3) := by decide +kernel
theorem dX12_isPlace_21 : decode cX12_isPlace 21 = .ok (.ifCond .eq 7, 3) := by decide +kernel
theorem dX12_isPlace_24 : decode cX12_isPlace 24 = .ok (.iconst 1, 1) := by decide +kernel
theorem dX12_isPlace_25 : decode cX12_isPlace 25 = .ok (.goto 4, 3) := by decide +kernel
theorem dX12_isPlace_28 : decode cX12_isPlace 28 = .ok (.iconst 0, 1) := by decide +kernel
theorem dX12_isPlace_29 : decode cX12_isPlace 29 = .ok (.ireturn, 1) := by decide +kernel
theorem dX12_isHeight_0 : decode cX12_isHeight 0 = .ok (.iload_n 0, 1) := by decide +kernel
theorem dX12_isHeight_1 : decode cX12_isHeight 1 = .ok (.i2l, 1) := by decide +kernel
theorem dX12_isHeight_2 : decode cX12_isHeight 2 = .ok (.ldc2_w 300, 3) := by decide +kernel
theorem dX12_isHeight_5 : decode cX12_isHeight 5 = .ok (.ldc2_w 302, 3) := by decide +kernel
theorem dX12_isHeight_8 : decode cX12_isHeight 8 = .ok (.invokestatic 134, 3) := by decide +kernel
theorem dX12_isHeight_11 : decode cX12_isHeight 11 = .ok (.ireturn, 1) := by decide +kernel
theorem dX12_at_0 : decode cX12_at 0 = .ok (.iload_n 1, 1) := by decide +kernel
theorem dX12_at_1 : decode cX12_at 1 = .ok (.iload_n 2, 1) := by decide +kernel
theorem dX12_at_2 : decode cX12_at 2 = .ok (.invokestatic 304, 3) := by decide +kernel
theorem dX12_at_5 : decode cX12_at 5 = .ok (.ifCond .eq 25, 3) := by decide +kernel
theorem dX12_at_8 : decode cX12_at 8 = .ok (.iload_n 3, 1) := by decide +kernel
theorem dX12_at_9 : decode cX12_at 9 = .ok (.invokestatic 307, 3) := by decide +kernel
theorem dX12_at_12 : decode cX12_at 12 = .ok (.ifCond .eq 18, 3) := by decide +kernel
theorem dX12_at_15 : decode cX12_at 15 = .ok (.aload_n 0, 1) := by decide +kernel
theorem dX12_at_16 : decode cX12_at 16 = .ok (.iconst 0, 1) := by decide +kernel
theorem dX12_at_17 : decode cX12_at 17 = .ok (.bipush 8, 2) := by decide +kernel
theorem dX12_at_19 : decode cX12_at 19 = .ok (.iload_n 2, 1) := by decide +kernel
theorem dX12_at_20 : decode cX12_at 20 = .ok (.imul, 1) := by decide +kernel
theorem dX12_at_21 : decode cX12_at 21 = .ok (.iload_n 1, 1) := by decide +kernel
theorem dX12_at_22 : decode cX12_at 22 = .ok (.iadd, 1) := by decide +kernel
theorem dX12_at_23 : decode cX12_at 23 = .ok (.iload_n 3, 1) := by decide +kernel
theorem dX12_at_24 : decode cX12_at 24 = .ok (.invokevirtual 127, 3) := by decide +kernel
theorem dX12_at_27 : decode cX12_at 27 = .ok (.goto 5, 3) := by decide +kernel
theorem dX12_at_30 : decode cX12_at 30 = .ok (.ldc 195, 2) := by decide +kernel
theorem dX12_at_32 : decode cX12_at 32 = .ok (.ireturn, 1) := by decide +kernel
theorem dX12_skin_0 : decode cX12_skin 0 = .ok (.iload_n 1, 1) := by decide +kernel
theorem dX12_skin_1 : decode cX12_skin 1 = .ok (.iload_n 2, 1) := by decide +kernel
theorem dX12_skin_2 : decode cX12_skin 2 = .ok (.invokestatic 304, 3) := by decide +kernel
theorem dX12_skin_5 : decode cX12_skin 5 = .ok (.ifCond .eq 13, 3) := by decide +kernel
theorem dX12_skin_8 : decode cX12_skin 8 = .ok (.iload_n 3, 1) := by decide +kernel
theorem dX12_skin_9 : decode cX12_skin 9 = .ok (.i2l, 1) := by decide +kernel
theorem dX12_skin_10 : decode cX12_skin 10 = .ok (.lconst 0, 1) := by decide +kernel
theorem dX12_skin_11 : decode cX12_skin 11 = .ok (.lconst 1, 1) := by decide +kernel
theorem dX12_skin_12 : decode cX12_skin 12 = .ok (.invokestatic 134, 3) := by decide +kernel
theorem dX12_skin_15 : decode cX12_skin 15 = .ok (.ifCond .ne 6, 3) := by decide +kernel
theorem dX12_skin_18 : decode cX12_skin 18 = .ok (.ldc 195, 2) := by decide +kernel
theorem dX12_skin_20 : decode cX12_skin 20 = .ok (.ireturn, 1) := by decide +kernel
theorem dX12_skin_21 : decode cX12_skin 21 = .ok (.aload_n 0, 1) := by decide +kernel
theorem dX12_skin_22 : decode cX12_skin 22 = .ok (.iconst 0, 1) := by decide +kernel
theorem dX12_skin_23 : decode cX12_skin 23 = .ok (.bipush 8, 2) := by decide +kernel
theorem dX12_skin_25 : decode cX12_skin 25 = .ok (.iload_n 2, 1) := by decide +kernel
theorem dX12_skin_26 : decode cX12_skin 26 = .ok (.imul, 1) := by decide +kernel
theorem dX12_skin_27 : decode cX12_skin 27 = .ok (.iload_n 1, 1) := by decide +kernel
theorem dX12_skin_28 : decode cX12_skin 28 = .ok (.iadd, 1) := by decide +kernel
theorem dX12_skin_29 : decode cX12_skin 29 = .ok (.invokevirtual 155, 3) := by decide +kernel
theorem dX12_skin_32 : decode cX12_skin 32 = .ok (.istore 4, 2) := by decide +kernel
theorem dX12_skin_34 : decode cX12_skin 34 = .ok (.iload_n 3, 1) := by decide +kernel
theorem dX12_skin_35 : decode cX12_skin 35 = .ok (.ifCond .ne 8, 3) := by decide +kernel
theorem dX12_skin_38 : decode cX12_skin 38 = .ok (.iload 4, 2) := by decide +kernel
theorem dX12_skin_40 : decode cX12_skin 40 = .ok (.goto 27, 3) := by decide +kernel
theorem dX12_skin_43 : decode cX12_skin 43 = .ok (.iload 4, 2) := by decide +kernel
theorem dX12_skin_45 : decode cX12_skin 45 = .ok (.bipush (-40), 2) := by decide +kernel
theorem dX12_skin_47 : decode cX12_skin 47 = .ok (.if_icmp .ge 7, 3) := by decide +kernel
theorem dX12_skin_50 : decode cX12_skin 50 = .ok (.iconst (-1), 1) := by decide +kernel
theorem dX12_skin_51 : decode cX12_skin 51 = .ok (.goto 16, 3) := by decide +kernel
theorem dX12_skin_54 : decode cX12_skin 54 = .ok (.aload_n 0, 1) := by decide +kernel
theorem dX12_skin_55 : decode cX12_skin 55 = .ok (.iconst 0, 1) := by decide +kernel
theorem dX12_skin_56 : decode cX12_skin 56 = .ok (.bipush 8, 2) := by decide +kernel
theorem dX12_skin_58 : decode cX12_skin 58 = .ok (.iload_n 2, 1) := by decide +kernel
theorem dX12_skin_59 : decode cX12_skin 59 = .ok (.imul, 1) := by decide +kernel
theorem dX12_skin_60 : decode cX12_skin 60 = .ok (.iload_n 1, 1) := by decide +kernel
theorem dX12_skin_61 : decode cX12_skin 61 = .ok (.iadd, 1) := by decide +kernel
theorem dX12_skin_62 : decode cX12_skin 62 = .ok (.iload 4, 2) := by decide +kernel
theorem dX12_skin_64 : decode cX12_skin 64 = .ok (.invokevirtual 127, 3) := by decide +kernel
theorem dX12_skin_67 : decode cX12_skin 67 = .ok (.ireturn, 1) := by decide +kernel
theorem dX12_topOf_0 : decode cX12_topOf 0 = .ok (.bipush 39, 2) := by decide +kernel
theorem dX12_topOf_2 : decode cX12_topOf 2 = .ok (.istore 4, 2) := by decide +kernel
theorem dX12_topOf_4 : decode cX12_topOf 4 = .ok (.iload 4, 2) := by decide +kernel
theorem dX12_topOf_6 : decode cX12_topOf 6 = .ok (.bipush (-40), 2) := by decide +kernel
theorem dX12_topOf_8 : decode cX12_topOf 8 = .ok (.if_icmp .lt 21, 3) := by decide +kernel
theorem dX12_topOf_11 : decode cX12_topOf 11 = .ok (.aload_n 0, 1) := by decide +kernel
theorem dX12_topOf_12 : decode cX12_topOf 12 = .ok (.iload_n 1, 1) := by decide +kernel
theorem dX12_topOf_13 : decode cX12_topOf 13 = .ok (.iload_n 3, 1) := by decide +kernel
theorem dX12_topOf_14 : decode cX12_topOf 14 = .ok (.iload 4, 2) := by decide +kernel
theorem dX12_topOf_16 : decode cX12_topOf 16 = .ok (.invokevirtual 127, 3) := by decide +kernel
theorem dX12_topOf_19 : decode cX12_topOf 19 = .ok (.iload_n 2, 1) := by decide +kernel
theorem dX12_topOf_20 : decode cX12_topOf 20 = .ok (.if_icmp .eq 9, 3) := by decide +kernel
theorem dX12_topOf_23 : decode cX12_topOf 23 = .ok (.iinc 4 (-1), 3) := by decide +kernel
theorem dX12_topOf_26 : decode cX12_topOf 26 = .ok (.goto (-22), 3) := by decide +kernel
theorem dX12_topOf_29 : decode cX12_topOf 29 = .ok (.iload 4, 2) := by decide +kernel
theorem dX12_topOf_31 : decode cX12_topOf 31 = .ok (.ireturn, 1) := by decide +kernel
theorem dX12_top_0 : decode cX12_top 0 = .ok (.iload_n 1, 1) := by decide +kernel
theorem dX12_top_1 : decode cX12_top 1 = .ok (.i2l, 1) := by decide +kernel
theorem dX12_top_2 : decode cX12_top 2 = .ok (.lconst 0, 1) := by decide +kernel
theorem dX12_top_3 : decode cX12_top 3 = .ok (.ldc2_w 310, 3) := by decide +kernel
theorem dX12_top_6 : decode cX12_top 6 = .ok (.invokestatic 134, 3) := by decide +kernel
theorem dX12_top_9 : decode cX12_top 9 = .ok (.ifCond .eq 22, 3) := by decide +kernel
theorem dX12_top_12 : decode cX12_top 12 = .ok (.iload_n 2, 1) := by decide +kernel
theorem dX12_top_13 : decode cX12_top 13 = .ok (.iload_n 3, 1) := by decide +kernel
theorem dX12_top_14 : decode cX12_top 14 = .ok (.invokestatic 304, 3) := by decide +kernel
theorem dX12_top_17 : decode cX12_top 17 = .ok (.ifCond .eq 14, 3) := by decide +kernel
theorem dX12_top_20 : decode cX12_top 20 = .ok (.iload 4, 2) := by decide +kernel
theorem dX12_top_22 : decode cX12_top 22 = .ok (.i2l, 1) := by decide +kernel
theorem dX12_top_23 : decode cX12_top 23 = .ok (.lconst 0, 1) := by decide +kernel
theorem dX12_top_24 : decode cX12_top 24 = .ok (.lconst 1, 1) := by decide +kernel
theorem dX12_top_25 : decode cX12_top 25 = .ok (.invokestatic 134, 3) := by decide +kernel
theorem dX12_top_28 : decode cX12_top 28 = .ok (.ifCond .ne 6, 3) := by decide +kernel
theorem dX12_top_31 : decode cX12_top 31 = .ok (.ldc 195, 2) := by decide +kernel
theorem dX12_top_33 : decode cX12_top 33 = .ok (.ireturn, 1) := by decide +kernel
theorem dX12_top_34 : decode cX12_top 34 = .ok (.bipush 8, 2) := by decide +kernel
theorem dX12_top_36 : decode cX12_top 36 = .ok (.iload_n 3, 1) := by decide +kernel
theorem dX12_top_37 : decode cX12_top 37 = .ok (.imul, 1) := by decide +kernel
theorem dX12_top_38 : decode cX12_top 38 = .ok (.iload_n 2, 1) := by decide +kernel
theorem dX12_top_39 : decode cX12_top 39 = .ok (.iadd, 1) := by decide +kernel
theorem dX12_top_40 : decode cX12_top 40 = .ok (.istore 5, 2) := by decide +kernel
theorem dX12_top_42 : decode cX12_top 42 = .ok (.iconst 0, 1) := by decide +kernel
theorem dX12_top_43 : decode cX12_top 43 = .ok (.istore 6, 2) := by decide +kernel
theorem dX12_top_45 : decode cX12_top 45 = .ok (.bipush (-40), 2) := by decide +kernel
theorem dX12_top_47 : decode cX12_top 47 = .ok (.istore 7, 2) := by decide +kernel
theorem dX12_top_49 : decode cX12_top 49 = .ok (.iload 7, 2) := by decide +kernel
theorem dX12_top_51 : decode cX12_top 51 = .ok (.bipush 40, 2) := by decide +kernel
theorem dX12_top_53 : decode cX12_top 53 = .ok (.if_icmp .ge 35, 3) := by decide +kernel
theorem dX12_top_56 : decode cX12_top 56 = .ok (.iload 6, 2) := by decide +kernel
theorem dX12_top_58 : decode cX12_top 58 = .ok (.aload_n 0, 1) := by decide +kernel
theorem dX12_top_59 : decode cX12_top 59 = .ok (.iconst 0, 1) := by decide +kernel
theorem dX12_top_60 : decode cX12_top 60 = .ok (.iload 5, 2) := by decide +kernel
theorem dX12_top_62 : decode cX12_top 62 = .ok (.iload 7, 2) := by decide +kernel
theorem dX12_top_64 : decode cX12_top 64 = .ok (.invokevirtual 127, 3) := by decide +kernel
theorem dX12_top_67 : decode cX12_top 67 = .ok (.iload_n 1, 1) := by decide +kernel
theorem dX12_top_68 : decode cX12_top 68 = .ok (.if_icmp .ne 7, 3) := by decide +kernel
theorem dX12_top_71 : decode cX12_top 71 = .ok (.iconst 1, 1) := by decide +kernel
theorem dX12_top_72 : decode cX12_top 72 = .ok (.goto 4, 3) := by decide +kernel
theorem dX12_top_75 : decode cX12_top 75 = .ok (.iconst 0, 1) := by decide +kernel
theorem dX12_top_76 : decode cX12_top 76 = .ok (.invokestatic 207, 3) := by decide +kernel
theorem dX12_top_79 : decode cX12_top 79 = .ok (.iadd, 1) := by decide +kernel
theorem dX12_top_80 : decode cX12_top 80 = .ok (.istore 6, 2) := by decide +kernel
theorem dX12_top_82 : decode cX12_top 82 = .ok (.iinc 7 1, 3) := by decide +kernel
theorem dX12_top_85 : decode cX12_top 85 = .ok (.goto (-36), 3) := by decide +kernel
theorem dX12_top_88 : decode cX12_top 88 = .ok (.iload 4, 2) := by decide +kernel
theorem dX12_top_90 : decode cX12_top 90 = .ok (.ifCond .ne 14, 3) := by decide +kernel
theorem dX12_top_93 : decode cX12_top 93 = .ok (.aload_n 0, 1) := by decide +kernel
theorem dX12_top_94 : decode cX12_top 94 = .ok (.iconst 0, 1) := by decide +kernel
theorem dX12_top_95 : decode cX12_top 95 = .ok (.iload_n 1, 1) := by decide +kernel
theorem dX12_top_96 : decode cX12_top 96 = .ok (.iload 5, 2) := by decide +kernel
theorem dX12_top_98 : decode cX12_top 98 = .ok (.invokevirtual 312, 3) := by decide +kernel
theorem dX12_top_101 : decode cX12_top 101 = .ok (.goto 5, 3) := by decide +kernel
theorem dX12_top_104 : decode cX12_top 104 = .ok (.iload 6, 2) := by decide +kernel
theorem dX12_top_106 : decode cX12_top 106 = .ok (.ireturn, 1) := by decide +kernel
theorem dX12_was_0 : decode cX12_was 0 = .ok (.iload_n 1, 1) := by decide +kernel
theorem dX12_was_1 : decode cX12_was 1 = .ok (.i2l, 1) := by decide +kernel
theorem dX12_was_2 : decode cX12_was 2 = .ok (.lconst 0, 1) := by decide +kernel
theorem dX12_was_3 : decode cX12_was 3 = .ok (.aload_n 0, 1) := by decide +kernel
theorem dX12_was_4 : decode cX12_was 4 = .ok (.getfield 184, 3) := by decide +kernel
theorem dX12_was_7 : decode cX12_was 7 = .ok (.i2l, 1) := by decide +kernel
theorem dX12_was_8 : decode cX12_was 8 = .ok (.invokestatic 134, 3) := by decide +kernel
theorem dX12_was_11 : decode cX12_was 11 = .ok (.ifCond .eq 19, 3) := by decide +kernel
theorem dX12_was_14 : decode cX12_was 14 = .ok (.iload_n 2, 1) := by decide +kernel
theorem dX12_was_15 : decode cX12_was 15 = .ok (.iload_n 3, 1) := by decide +kernel
theorem dX12_was_16 : decode cX12_was 16 = .ok (.invokestatic 304, 3) := by decide +kernel
theorem dX12_was_19 : decode cX12_was 19 = .ok (.ifCond .eq 11, 3) := by decide +kernel
theorem dX12_was_22 : decode cX12_was 22 = .ok (.iload 4, 2) := by decide +kernel
theorem dX12_was_24 : decode cX12_was 24 = .ok (.invokestatic 307, 3) := by decide +kernel
theorem dX12_was_27 : decode cX12_was 27 = .ok (.ifCond .ne 6, 3) := by decide +kernel
theorem dX12_was_30 : decode cX12_was 30 = .ok (.ldc 195, 2) := by decide +kernel
theorem dX12_was_32 : decode cX12_was 32 = .ok (.ireturn, 1) := by decide +kernel
theorem dX12_was_33 : decode cX12_was 33 = .ok (.aload_n 0, 1) := by decide +kernel
theorem dX12_was_34 : decode cX12_was 34 = .ok (.iconst 1, 1) := by decide +kernel
theorem dX12_was_35 : decode cX12_was 35 = .ok (.iload_n 1, 1) := by decide +kernel
theorem dX12_was_36 : decode cX12_was 36 = .ok (.invokevirtual 315, 3) := by decide +kernel
theorem dX12_was_39 : decode cX12_was 39 = .ok (.aload_n 0, 1) := by decide +kernel
theorem dX12_was_40 : decode cX12_was 40 = .ok (.iconst 1, 1) := by decide +kernel
theorem dX12_was_41 : decode cX12_was 41 = .ok (.bipush 8, 2) := by decide +kernel
theorem dX12_was_43 : decode cX12_was 43 = .ok (.iload_n 3, 1) := by decide +kernel
theorem dX12_was_44 : decode cX12_was 44 = .ok (.imul, 1) := by decide +kernel
theorem dX12_was_45 : decode cX12_was 45 = .ok (.iload_n 2, 1) := by decide +kernel
theorem dX12_was_46 : decode cX12_was 46 = .ok (.iadd, 1) := by decide +kernel
theorem dX12_was_47 : decode cX12_was 47 = .ok (.iload 4, 2) := by decide +kernel
theorem dX12_was_49 : decode cX12_was 49 = .ok (.invokevirtual 127, 3) := by decide +kernel
theorem dX12_was_52 : decode cX12_was 52 = .ok (.ireturn, 1) := by decide +kernel
theorem dX12_amountOf_0 : decode cX12_amountOf 0 = .ok (.iconst 0, 1) := by decide +kernel
theorem dX12_amountOf_1 : decode cX12_amountOf 1 = .ok (.istore_n 3, 1) := by decide +kernel
theorem dX12_amountOf_2 : decode cX12_amountOf 2 = .ok (.iconst 0, 1) := by decide +kernel
theorem dX12_amountOf_3 : decode cX12_amountOf 3 = .ok (.istore 4, 2) := by decide +kernel
theorem dX12_amountOf_5 : decode cX12_amountOf 5 = .ok (.iload 4, 2) := by decide +kernel
theorem dX12_amountOf_7 : decode cX12_amountOf 7 = .ok (.sipush 5120, 3) := by decide +kernel
theorem dX12_amountOf_10 : decode cX12_amountOf 10 = .ok (.if_icmp .ge 37, 3) := by decide +kernel
theorem dX12_amountOf_13 : decode cX12_amountOf 13 = .ok (.iload_n 3, 1) := by decide +kernel
theorem dX12_amountOf_14 : decode cX12_amountOf 14 = .ok (.aload_n 0, 1) := by decide +kernel
theorem dX12_amountOf_15 : decode cX12_amountOf 15 = .ok (.getfield 7, 3) := by decide +kernel
theorem dX12_amountOf_18 : decode cX12_amountOf 18 = .ok (.sipush 5120, 3) := by decide +kernel
theorem dX12_amountOf_21 : decode cX12_amountOf 21 = .ok (.iload_n 1, 1) := by decide +kernel
theorem dX12_amountOf_22 : decode cX12_amountOf 22 = .ok (.imul, 1) := by decide +kernel
theorem dX12_amountOf_23 : decode cX12_amountOf 23 = .ok (.iload 4, 2) := by decide +kernel
theorem dX12_amountOf_25 : decode cX12_amountOf 25 = .ok (.iadd, 1) := by decide +kernel
theorem dX12_amountOf_26 : decode cX12_amountOf 26 = .ok (.baload, 1) := by decide +kernel
theorem dX12_amountOf_27 : decode cX12_amountOf 27 = .ok (.iload_n 2, 1) := by decide +kernel
theorem dX12_amountOf_28 : decode cX12_amountOf 28 = .ok (.if_icmp .ne 7, 3) := by decide +kernel
theorem dX12_amountOf_31 : decode cX12_amountOf 31 = .ok (.iconst 1, 1) := by decide +kernel
theorem dX12_amountOf_32 : decode cX12_amountOf 32 = .ok (.goto 4, 3) := by decide +kernel
theorem dX12_amountOf_35 : decode cX12_amountOf 35 = .ok (.iconst 0, 1) := by decide +kernel
theorem dX12_amountOf_36 : decode cX12_amountOf 36 = .ok (.invokestatic 207, 3) := by decide +kernel
theorem dX12_amountOf_39 : decode cX12_amountOf 39 = .ok (.iadd, 1) := by decide +kernel
theorem dX12_amountOf_40 : decode cX12_amountOf 40 = .ok (.istore_n 3, 1) := by decide +kernel
theorem dX12_amountOf_41 : decode cX12_amountOf 41 = .ok (.iinc 4 1, 3) := by decide +kernel
theorem dX12_amountOf_44 : decode cX12_amountOf 44 = .ok (.goto (-39), 3) := by decide +kernel
theorem dX12_amountOf_47 : decode cX12_amountOf 47 = .ok (.iload_n 3, 1) := by decide +kernel
theorem dX12_amountOf_48 : decode cX12_amountOf 48 = .ok (.ireturn, 1) := by decide +kernel
theorem dX12_mainNumber_0 : decode cX12_mainNumber 0 = .ok (.iload_n 0, 1) := by decide +kernel
theorem dX12_mainNumber_1 : decode cX12_mainNumber 1 = .ok (.tableswitch 45 0 5 #[39, 45, 39, 41, 45, 43], 39) := by decide +kernel
theorem dX12_mainNumber_40 : decode cX12_mainNumber 40 = .ok (.iconst 1, 1) := by decide +kernel
theorem dX12_mainNumber_41 : decode cX12_mainNumber 41 = .ok (.ireturn, 1) := by decide +kernel
theorem dX12_mainNumber_42 : decode cX12_mainNumber 42 = .ok (.iconst 2, 1) := by decide +kernel
theorem dX12_mainNumber_43 : decode cX12_mainNumber 43 = .ok (.ireturn, 1) := by decide +kernel
theorem dX12_mainNumber_44 : decode cX12_mainNumber 44 = .ok (.iconst 4, 1) := by decide +kernel
theorem dX12_mainNumber_45 : decode cX12_mainNumber 45 = .ok (.ireturn, 1) := by decide +kernel
theorem dX12_mainNumber_46 : decode cX12_mainNumber 46 = .ok (.iconst 0, 1) := by decide +kernel
theorem dX12_mainNumber_47 : decode cX12_mainNumber 47 = .ok (.ireturn, 1) := by decide +kernel
theorem dX12_buildLoose_0 : decode cX12_buildLoose 0 = .ok (.iload_n 1, 1) := by decide +kernel
theorem dX12_buildLoose_1 : decode cX12_buildLoose 1 = .ok (.istore_n 2, 1) := by decide +kernel
theorem dX12_buildLoose_2 : decode cX12_buildLoose 2 = .ok (.iconst 1, 1) := by decide +kernel
theorem dX12_buildLoose_3 : decode cX12_buildLoose 3 = .ok (.istore_n 3, 1) := by decide +kernel
theorem dX12_buildLoose_4 : decode cX12_buildLoose 4 = .ok (.aload_n 0, 1) := by decide +kernel
theorem dX12_buildLoose_5 : decode cX12_buildLoose 5 = .ok (.iconst 1, 1) := by decide +kernel
theorem dX12_buildLoose_6 : decode cX12_buildLoose 6 = .ok (.invokevirtual 175, 3) := by decide +kernel
theorem dX12_buildLoose_9 : decode cX12_buildLoose 9 = .ok (.iconst 0, 1) := by decide +kernel
theorem dX12_buildLoose_10 : decode cX12_buildLoose 10 = .ok (.istore 4, 2) := by decide +kernel
theorem dX12_buildLoose_12 : decode cX12_buildLoose 12 = .ok (.iload 4, 2) := by decide +kernel
theorem dX12_buildLoose_14 : decode cX12_buildLoose 14 = .ok (.aload_n 0, 1) := by decide +kernel
theorem dX12_buildLoose_15 : decode cX12_buildLoose 15 = .ok (.getfield 184, 3) := by decide +kernel
theorem dX12_buildLoose_18 : decode cX12_buildLoose 18 = .ok (.if_icmp .ge 96, 3) := by decide +kernel
theorem dX12_buildLoose_21 : decode cX12_buildLoose 21 = .ok (.iload_n 3, 1) := by decide +kernel
theorem dX12_buildLoose_22 : decode cX12_buildLoose 22 = .ok (.ifCond .eq 92, 3) := by decide +kernel
theorem dX12_buildLoose_25 : decode cX12_buildLoose 25 = .ok (.aload_n 0, 1) := by decide +kernel
theorem dX12_buildLoose_26 : decode cX12_buildLoose 26 = .ok (.iload 4, 2) := by decide +kernel
theorem dX12_buildLoose_28 : decode cX12_buildLoose 28 = .ok (.invokevirtual 178, 3) := by decide +kernel
theorem dX12_buildLoose_31 : decode cX12_buildLoose 31 = .ok (.aload_n 0, 1) := by decide +kernel
theorem dX12_buildLoose_32 : decode cX12_buildLoose 32 = .ok (.getfield 23, 3) := by decide +kernel
theorem dX12_buildLoose_35 : decode cX12_buildLoose 35 = .ok (.iload 4, 2) := by decide +kernel
theorem dX12_buildLoose_37 : decode cX12_buildLoose 37 = .ok (.baload, 1) := by decide +kernel
theorem dX12_buildLoose_38 : decode cX12_buildLoose 38 = .ok (.ifCond .eq 54, 3) := by decide +kernel
theorem dX12_buildLoose_41 : decode cX12_buildLoose 41 = .ok (.aload_n 0, 1) := by decide +kernel
theorem dX12_buildLoose_42 : decode cX12_buildLoose 42 = .ok (.getfield 16, 3) := by decide +kernel
theorem dX12_buildLoose_45 : decode cX12_buildLoose 45 = .ok (.iload 4, 2) := by decide +kernel
theorem dX12_buildLoose_47 : decode cX12_buildLoose 47 = .ok (.iaload, 1) := by decide +kernel
theorem dX12_buildLoose_48 : decode cX12_buildLoose 48 = .ok (.invokestatic 318, 3) := by decide +kernel
theorem dX12_buildLoose_51 : decode cX12_buildLoose 51 = .ok (.istore 5, 2) := by decide +kernel
theorem dX12_buildLoose_53 : decode cX12_buildLoose 53 = .ok (.aload_n 0, 1) := by decide +kernel
theorem dX12_buildLoose_54 : decode cX12_buildLoose 54 = .ok (.getfield 27, 3) := by decide +kernel
theorem dX12_buildLoose_57 : decode cX12_buildLoose 57 = .ok (.iload 5, 2) := by decide +kernel
theorem dX12_buildLoose_59 : decode cX12_buildLoose 59 = .ok (.dup2, 1) := by decide +kernel
theorem dX12_buildLoose_60 : decode cX12_buildLoose 60 = .ok (.iaload, 1) := by decide +kernel
