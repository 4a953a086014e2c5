theorem dX9_init_0 : decode cX9_init 0 = .ok (.aload_n 0, 1) := by decide +kernel
theorem dX9_init_1 : decode cX9_init 1 = .ok (.invokespecial 1, 3) := by decide +kernel
theorem dX9_init_4 : decode cX9_init 4 = .ok (.aload_n 0, 1) := by decide +kernel
theorem dX9_init_5 : decode cX9_init 5 = .ok (.bipush 60, 2) := by decide +kernel
theorem dX9_init_7 : decode cX9_init 7 = .ok (.newarray .int, 2) := by decide +kernel
theorem dX9_init_9 : decode cX9_init 9 = .ok (.putfield 7, 3) := by decide +kernel
theorem dX9_init_12 : decode cX9_init 12 = .ok (.aload_n 0, 1) := by decide +kernel
theorem dX9_init_13 : decode cX9_init 13 = .ok (.bipush 60, 2) := by decide +kernel
theorem dX9_init_15 : decode cX9_init 15 = .ok (.newarray .long, 2) := by decide +kernel
theorem dX9_init_17 : decode cX9_init 17 = .ok (.putfield 13, 3) := by decide +kernel
theorem dX9_init_20 : decode cX9_init 20 = .ok (.aload_n 0, 1) := by decide +kernel
theorem dX9_init_21 : decode cX9_init 21 = .ok (.bipush 60, 2) := by decide +kernel
theorem dX9_init_23 : decode cX9_init 23 = .ok (.newarray .long, 2) := by decide +kernel
theorem dX9_init_25 : decode cX9_init 25 = .ok (.putfield 17, 3) := by decide +kernel
theorem dX9_init_28 : decode cX9_init 28 = .ok (.aload_n 0, 1) := by decide +kernel
theorem dX9_init_29 : decode cX9_init 29 = .ok (.bipush 60, 2) := by decide +kernel
theorem dX9_init_31 : decode cX9_init 31 = .ok (.newarray .int, 2) := by decide +kernel
theorem dX9_init_33 : decode cX9_init 33 = .ok (.putfield 20, 3) := by decide +kernel
theorem dX9_init_36 : decode cX9_init 36 = .ok (.aload_n 0, 1) := by decide +kernel
theorem dX9_init_37 : decode cX9_init 37 = .ok (.bipush 60, 2) := by decide +kernel
theorem dX9_init_39 : decode cX9_init 39 = .ok (.newarray .int, 2) := by decide +kernel
theorem dX9_init_41 : decode cX9_init 41 = .ok (.putfield 23, 3) := by decide +kernel
theorem dX9_init_44 : decode cX9_init 44 = .ok (.aload_n 0, 1) := by decide +kernel
theorem dX9_init_45 : decode cX9_init 45 = .ok (.bipush 60, 2) := by decide +kernel
theorem dX9_init_47 : decode cX9_init 47 = .ok (.newarray .long, 2) := by decide +kernel
theorem dX9_init_49 : decode cX9_init 49 = .ok (.putfield 26, 3) := by decide +kernel
theorem dX9_init_52 : decode cX9_init 52 = .ok (.aload_n 0, 1) := by decide +kernel
theorem dX9_init_53 : decode cX9_init 53 = .ok (.bipush 60, 2) := by decide +kernel
theorem dX9_init_55 : decode cX9_init 55 = .ok (.newarray .boolean, 2) := by decide +kernel
theorem dX9_init_57 : decode cX9_init 57 = .ok (.putfield 29, 3) := by decide +kernel
theorem dX9_init_60 : decode cX9_init 60 = .ok (.aload_n 0, 1) := by decide +kernel
theorem dX9_init_61 : decode cX9_init 61 = .ok (.bipush 60, 2) := by decide +kernel
theorem dX9_init_63 : decode cX9_init 63 = .ok (.newarray .boolean, 2) := by decide +kernel
theorem dX9_init_65 : decode cX9_init 65 = .ok (.putfield 33, 3) := by decide +kernel
theorem dX9_init_68 : decode cX9_init 68 = .ok (.aload_n 0, 1) := by decide +kernel
theorem dX9_init_69 : decode cX9_init 69 = .ok (.bipush 60, 2) := by decide +kernel
theorem dX9_init_71 : decode cX9_init 71 = .ok (.newarray .boolean, 2) := by decide +kernel
theorem dX9_init_73 : decode cX9_init 73 = .ok (.putfield 36, 3) := by decide +kernel
theorem dX9_init_76 : decode cX9_init 76 = .ok (.aload_n 0, 1) := by decide +kernel
theorem dX9_init_77 : decode cX9_init 77 = .ok (.bipush 60, 2) := by decide +kernel
theorem dX9_init_79 : decode cX9_init 79 = .ok (.newarray .long, 2) := by decide +kernel
theorem dX9_init_81 : decode cX9_init 81 = .ok (.putfield 39, 3) := by decide +kernel
theorem dX9_init_84 : decode cX9_init 84 = .ok (.aload_n 0, 1) := by decide +kernel
theorem dX9_init_85 : decode cX9_init 85 = .ok (.bipush 60, 2) := by decide +kernel
theorem dX9_init_87 : decode cX9_init 87 = .ok (.newarray .int, 2) := by decide +kernel
theorem dX9_init_89 : decode cX9_init 89 = .ok (.putfield 42, 3) := by decide +kernel
theorem dX9_init_92 : decode cX9_init 92 = .ok (.aload_n 0, 1) := by decide +kernel
theorem dX9_init_93 : decode cX9_init 93 = .ok (.bipush 30, 2) := by decide +kernel
theorem dX9_init_95 : decode cX9_init 95 = .ok (.newarray .long, 2) := by decide +kernel
theorem dX9_init_97 : decode cX9_init 97 = .ok (.putfield 45, 3) := by decide +kernel
theorem dX9_init_100 : decode cX9_init 100 = .ok (.aload_n 0, 1) := by decide +kernel
theorem dX9_init_101 : decode cX9_init 101 = .ok (.bipush 30, 2) := by decide +kernel
theorem dX9_init_103 : decode cX9_init 103 = .ok (.newarray .long, 2) := by decide +kernel
theorem dX9_init_105 : decode cX9_init 105 = .ok (.putfield 48, 3) := by decide +kernel
theorem dX9_init_108 : decode cX9_init 108 = .ok (.aload_n 0, 1) := by decide +kernel
theorem dX9_init_109 : decode cX9_init 109 = .ok (.bipush 30, 2) := by decide +kernel
theorem dX9_init_111 : decode cX9_init 111 = .ok (.newarray .long, 2) := by decide +kernel
theorem dX9_init_113 : decode cX9_init 113 = .ok (.putfield 51, 3) := by decide +kernel
theorem dX9_init_116 : decode cX9_init 116 = .ok (.aload_n 0, 1) := by decide +kernel
theorem dX9_init_117 : decode cX9_init 117 = .ok (.iconst (-1), 1) := by decide +kernel
theorem dX9_init_118 : decode cX9_init 118 = .ok (.putfield 54, 3) := by decide +kernel
theorem dX9_init_121 : decode cX9_init 121 = .ok (.aload_n 0, 1) := by decide +kernel
theorem dX9_init_122 : decode cX9_init 122 = .ok (.bipush 18, 2) := by decide +kernel
theorem dX9_init_124 : decode cX9_init 124 = .ok (.newarray .int, 2) := by decide +kernel
theorem dX9_init_126 : decode cX9_init 126 = .ok (.putfield 58, 3) := by decide +kernel
theorem dX9_init_129 : decode cX9_init 129 = .ok (.aload_n 0, 1) := by decide +kernel
theorem dX9_init_130 : decode cX9_init 130 = .ok (.bipush 18, 2) := by decide +kernel
theorem dX9_init_132 : decode cX9_init 132 = .ok (.newarray .long, 2) := by decide +kernel
theorem dX9_init_134 : decode cX9_init 134 = .ok (.putfield 61, 3) := by decide +kernel
theorem dX9_init_137 : decode cX9_init 137 = .ok (.aload_n 0, 1) := by decide +kernel
theorem dX9_init_138 : decode cX9_init 138 = .ok (.bipush 18, 2) := by decide +kernel
theorem dX9_init_140 : decode cX9_init 140 = .ok (.newarray .long, 2) := by decide +kernel
theorem dX9_init_142 : decode cX9_init 142 = .ok (.putfield 64, 3) := by decide +kernel
theorem dX9_init_145 : decode cX9_init 145 = .ok (.aload_n 0, 1) := by decide +kernel
theorem dX9_init_146 : decode cX9_init 146 = .ok (.sipush 1024, 3) := by decide +kernel
theorem dX9_init_149 : decode cX9_init 149 = .ok (.newarray .int, 2) := by decide +kernel
theorem dX9_init_151 : decode cX9_init 151 = .ok (.putfield 67, 3) := by decide +kernel
theorem dX9_init_154 : decode cX9_init 154 = .ok (.aload_n 0, 1) := by decide +kernel
theorem dX9_init_155 : decode cX9_init 155 = .ok (.sipush 1024, 3) := by decide +kernel
theorem dX9_init_158 : decode cX9_init 158 = .ok (.newarray .int, 2) := by decide +kernel
theorem dX9_init_160 : decode cX9_init 160 = .ok (.putfield 70, 3) := by decide +kernel
theorem dX9_init_163 : decode cX9_init 163 = .ok (.aload_n 0, 1) := by decide +kernel
theorem dX9_init_164 : decode cX9_init 164 = .ok (.sipush 1024, 3) := by decide +kernel
theorem dX9_init_167 : decode cX9_init 167 = .ok (.newarray .int, 2) := by decide +kernel
theorem dX9_init_169 : decode cX9_init 169 = .ok (.putfield 73, 3) := by decide +kernel
theorem dX9_init_172 : decode cX9_init 172 = .ok (.aload_n 0, 1) := by decide +kernel
theorem dX9_init_173 : decode cX9_init 173 = .ok (.sipush 1024, 3) := by decide +kernel
theorem dX9_init_176 : decode cX9_init 176 = .ok (.newarray .long, 2) := by decide +kernel
theorem dX9_init_178 : decode cX9_init 178 = .ok (.putfield 76, 3) := by decide +kernel
theorem dX9_init_181 : decode cX9_init 181 = .ok (.aload_n 0, 1) := by decide +kernel
theorem dX9_init_182 : decode cX9_init 182 = .ok (.sipush 1024, 3) := by decide +kernel
theorem dX9_init_185 : decode cX9_init 185 = .ok (.newarray .int, 2) := by decide +kernel
theorem dX9_init_187 : decode cX9_init 187 = .ok (.putfield 79, 3) := by decide +kernel
theorem dX9_init_190 : decode cX9_init 190 = .ok (.return_, 1) := by decide +kernel
theorem dX9_isLot_0 : decode cX9_isLot 0 = .ok (.iload_n 1, 1) := by decide +kernel
theorem dX9_isLot_1 : decode cX9_isLot 1 = .ok (.ifCond .lt 15, 3) := by decide +kernel
theorem dX9_isLot_4 : decode cX9_isLot 4 = .ok (.iload_n 1, 1) := by decide +kernel
theorem dX9_isLot_5 : decode cX9_isLot 5 = .ok (.aload_n 0, 1) := by decide +kernel
theorem dX9_isLot_6 : decode cX9_isLot 6 = .ok (.getfield 82, 3) := by decide +kernel
theorem dX9_isLot_9 : decode cX9_isLot 9 = .ok (.if_icmp .ge 7, 3) := by decide +kernel
theorem dX9_isLot_12 : decode cX9_isLot 12 = .ok (.iconst 1, 1) := by decide +kernel
theorem dX9_isLot_13 : decode cX9_isLot 13 = .ok (.goto 4, 3) := by decide +kernel
theorem dX9_isLot_16 : decode cX9_isLot 16 = .ok (.iconst 0, 1) := by decide +kernel
theorem dX9_isLot_17 : decode cX9_isLot 17 = .ok (.ireturn, 1) := by decide +kernel
theorem dX9_isBuyer_0 : decode cX9_isBuyer 0 = .ok (.iload_n 1, 1) := by decide +kernel
theorem dX9_isBuyer_1 : decode cX9_isBuyer 1 = .ok (.ifCond .lt 15, 3) := by decide +kernel
theorem dX9_isBuyer_4 : decode cX9_isBuyer 4 = .ok (.iload_n 1, 1) := by decide +kernel
theorem dX9_isBuyer_5 : decode cX9_isBuyer 5 = .ok (.aload_n 0, 1) := by decide +kernel
theorem dX9_isBuyer_6 : decode cX9_isBuyer 6 = .ok (.getfield 85, 3) := by decide +kernel
theorem dX9_isBuyer_9 : decode cX9_isBuyer 9 = .ok (.if_icmp .ge 7, 3) := by decide +kernel
theorem dX9_isBuyer_12 : decode cX9_isBuyer 12 = .ok (.iconst 1, 1) := by decide +kernel
theorem dX9_isBuyer_13 : decode cX9_isBuyer 13 = .ok (.goto 4, 3) := by decide +kernel
theorem dX9_isBuyer_16 : decode cX9_isBuyer 16 = .ok (.iconst 0, 1) := by decide +kernel
theorem dX9_isBuyer_17 : decode cX9_isBuyer 17 = .ok (.ireturn, 1) := by decide +kernel
theorem dX9_next_0 : decode cX9_next 0 = .ok (.ldc2_w 88, 3) := by decide +kernel
theorem dX9_next_3 : decode cX9_next 3 = .ok (.iload_n 1, 1) := by decide +kernel
theorem dX9_next_4 : decode cX9_next 4 = .ok (.i2l, 1) := by decide +kernel
theorem dX9_next_5 : decode cX9_next 5 = .ok (.lmul, 1) := by decide +kernel
theorem dX9_next_6 : decode cX9_next 6 = .ok (.ldc2_w 90, 3) := by decide +kernel
theorem dX9_next_9 : decode cX9_next 9 = .ok (.iload_n 2, 1) := by decide +kernel
theorem dX9_next_10 : decode cX9_next 10 = .ok (.i2l, 1) := by decide +kernel
theorem dX9_next_11 : decode cX9_next 11 = .ok (.lmul, 1) := by decide +kernel
theorem dX9_next_12 : decode cX9_next 12 = .ok (.ladd, 1) := by decide +kernel
theorem dX9_next_13 : decode cX9_next 13 = .ok (.ldc2_w 92, 3) := by decide +kernel
theorem dX9_next_16 : decode cX9_next 16 = .ok (.iload_n 3, 1) := by decide +kernel
theorem dX9_next_17 : decode cX9_next 17 = .ok (.i2l, 1) := by decide +kernel
theorem dX9_next_18 : decode cX9_next 18 = .ok (.lmul, 1) := by decide +kernel
theorem dX9_next_19 : decode cX9_next 19 = .ok (.ladd, 1) := by decide +kernel
theorem dX9_next_20 : decode cX9_next 20 = .ok (.ldc2_w 94, 3) := by decide +kernel
theorem dX9_next_23 : decode cX9_next 23 = .ok (.iload 4, 2) := by decide +kernel
theorem dX9_next_25 : decode cX9_next 25 = .ok (.iconst 1, 1) := by decide +kernel
theorem dX9_next_26 : decode cX9_next 26 = .ok (.iadd, 1) := by decide +kernel
theorem dX9_next_27 : decode cX9_next 27 = .ok (.i2l, 1) := by decide +kernel
theorem dX9_next_28 : decode cX9_next 28 = .ok (.lmul, 1) := by decide +kernel
theorem dX9_next_29 : decode cX9_next 29 = .ok (.ladd, 1) := by decide +kernel
theorem dX9_next_30 : decode cX9_next 30 = .ok (.lload 5, 2) := by decide +kernel
theorem dX9_next_32 : decode cX9_next 32 = .ok (.ladd, 1) := by decide +kernel
theorem dX9_next_33 : decode cX9_next 33 = .ok (.ldc2_w 96, 3) := by decide +kernel
theorem dX9_next_36 : decode cX9_next 36 = .ok (.lrem, 1) := by decide +kernel
theorem dX9_next_37 : decode cX9_next 37 = .ok (.l2i, 1) := by decide +kernel
theorem dX9_next_38 : decode cX9_next 38 = .ok (.ireturn, 1) := by decide +kernel
theorem dX9_note_0 : decode cX9_note 0 = .ok (.aload_n 0, 1) := by decide +kernel
theorem dX9_note_1 : decode cX9_note 1 = .ok (.getfield 67, 3) := by decide +kernel
theorem dX9_note_4 : decode cX9_note 4 = .ok (.aload_n 0, 1) := by decide +kernel
theorem dX9_note_5 : decode cX9_note 5 = .ok (.getfield 98, 3) := by decide +kernel
theorem dX9_note_8 : decode cX9_note 8 = .ok (.iload_n 1, 1) := by decide +kernel
theorem dX9_note_9 : decode cX9_note 9 = .ok (.iastore, 1) := by decide +kernel
theorem dX9_note_10 : decode cX9_note 10 = .ok (.aload_n 0, 1) := by decide +kernel
theorem dX9_note_11 : decode cX9_note 11 = .ok (.getfield 70, 3) := by decide +kernel
theorem dX9_note_14 : decode cX9_note 14 = .ok (.aload_n 0, 1) := by decide +kernel
theorem dX9_note_15 : decode cX9_note 15 = .ok (.getfield 98, 3) := by decide +kernel
theorem dX9_note_18 : decode cX9_note 18 = .ok (.iload_n 2, 1) := by decide +kernel
theorem dX9_note_19 : decode cX9_note 19 = .ok (.iastore, 1) := by decide +kernel
theorem dX9_note_20 : decode cX9_note 20 = .ok (.aload_n 0, 1) := by decide +kernel
theorem dX9_note_21 : decode cX9_note 21 = .ok (.getfield 73, 3) := by decide +kernel
theorem dX9_note_24 : decode cX9_note 24 = .ok (.aload_n 0, 1) := by decide +kernel
theorem dX9_note_25 : decode cX9_note 25 = .ok (.getfield 98, 3) := by decide +kernel
theorem dX9_note_28 : decode cX9_note 28 = .ok (.iload_n 3, 1) := by decide +kernel
theorem dX9_note_29 : decode cX9_note 29 = .ok (.iastore, 1) := by decide +kernel
theorem dX9_note_30 : decode cX9_note 30 = .ok (.aload_n 0, 1) := by decide +kernel
theorem dX9_note_31 : decode cX9_note 31 = .ok (.getfield 76, 3) := by decide +kernel
theorem dX9_note_34 : decode cX9_note 34 = .ok (.aload_n 0, 1) := by decide +kernel
theorem dX9_note_35 : decode cX9_note 35 = .ok (.getfield 98, 3) := by decide +kernel
theorem dX9_note_38 : decode cX9_note 38 = .ok (.lload 4, 2) := by decide +kernel
theorem dX9_note_40 : decode cX9_note 40 = .ok (.lastore, 1) := by decide +kernel
theorem dX9_note_41 : decode cX9_note 41 = .ok (.aload_n 0, 1) := by decide +kernel
theorem dX9_note_42 : decode cX9_note 42 = .ok (.getfield 79, 3) := by decide +kernel
theorem dX9_note_45 : decode cX9_note 45 = .ok (.aload_n 0, 1) := by decide +kernel
theorem dX9_note_46 : decode cX9_note 46 = .ok (.getfield 98, 3) := by decide +kernel
theorem dX9_note_49 : decode cX9_note 49 = .ok (.aload_n 0, 1) := by decide +kernel
theorem dX9_note_50 : decode cX9_note 50 = .ok (.aload_n 0, 1) := by decide +kernel
theorem dX9_note_51 : decode cX9_note 51 = .ok (.getfield 98, 3) := by decide +kernel
theorem dX9_note_54 : decode cX9_note 54 = .ok (.ifCond .ne 7, 3) := by decide +kernel
theorem dX9_note_57 : decode cX9_note 57 = .ok (.iconst 1, 1) := by decide +kernel
theorem dX9_note_58 : decode cX9_note 58 = .ok (.goto 14, 3) := by decide +kernel
theorem dX9_note_61 : decode cX9_note 61 = .ok (.aload_n 0, 1) := by decide +kernel
theorem dX9_note_62 : decode cX9_note 62 = .ok (.getfield 79, 3) := by decide +kernel
theorem dX9_note_65 : decode cX9_note 65 = .ok (.aload_n 0, 1) := by decide +kernel
theorem dX9_note_66 : decode cX9_note 66 = .ok (.getfield 98, 3) := by decide +kernel
theorem dX9_note_69 : decode cX9_note 69 = .ok (.iconst 1, 1) := by decide +kernel
theorem dX9_note_70 : decode cX9_note 70 = .ok (.isub, 1) := by decide +kernel
theorem dX9_note_71 : decode cX9_note 71 = .ok (.iaload, 1) := by decide +kernel
theorem dX9_note_72 : decode cX9_note 72 = .ok (.iload_n 1, 1) := by decide +kernel
theorem dX9_note_73 : decode cX9_note 73 = .ok (.iload_n 2, 1) := by decide +kernel
theorem dX9_note_74 : decode cX9_note 74 = .ok (.iload_n 3, 1) := by decide +kernel
theorem dX9_note_75 : decode cX9_note 75 = .ok (.lload 4, 2) := by decide +kernel
theorem dX9_note_77 : decode cX9_note 77 = .ok (.invokevirtual 101, 3) := by decide +kernel
theorem dX9_note_80 : decode cX9_note 80 = .ok (.iastore, 1) := by decide +kernel
theorem dX9_note_81 : decode cX9_note 81 = .ok (.aload_n 0, 1) := by decide +kernel
theorem dX9_note_82 : decode cX9_note 82 = .ok (.dup, 1) := by decide +kernel
theorem dX9_note_83 : decode cX9_note 83 = .ok (.getfield 98, 3) := by decide +kernel
theorem dX9_note_86 : decode cX9_note 86 = .ok (.iconst 1, 1) := by decide +kernel
theorem dX9_note_87 : decode cX9_note 87 = .ok (.iadd, 1) := by decide +kernel
theorem dX9_note_88 : decode cX9_note 88 = .ok (.putfield 98, 3) := by decide +kernel
theorem dX9_note_91 : decode cX9_note 91 = .ok (.return_, 1) := by decide +kernel
theorem dX9_heldBy_0 : decode cX9_heldBy 0 = .ok (.lconst 0, 1) := by decide +kernel
theorem dX9_heldBy_1 : decode cX9_heldBy 1 = .ok (.lstore_n 2, 1) := by decide +kernel
theorem dX9_heldBy_2 : decode cX9_heldBy 2 = .ok (.iconst 0, 1) := by decide +kernel
theorem dX9_heldBy_3 : decode cX9_heldBy 3 = .ok (.istore 4, 2) := by decide +kernel
theorem dX9_heldBy_5 : decode cX9_heldBy 5 = .ok (.iload 4, 2) := by decide +kernel
theorem dX9_heldBy_7 : decode cX9_heldBy 7 = .ok (.aload_n 0, 1) := by decide +kernel
theorem dX9_heldBy_8 : decode cX9_heldBy 8 = .ok (.getfield 82, 3) := by decide +kernel
theorem dX9_heldBy_11 : decode cX9_heldBy 11 = .ok (.if_icmp .ge 56, 3) := by decide +kernel
theorem dX9_heldBy_14 : decode cX9_heldBy 14 = .ok (.lload_n 2, 1) := by decide +kernel
theorem dX9_heldBy_15 : decode cX9_heldBy 15 = .ok (.aload_n 0, 1) := by decide +kernel
theorem dX9_heldBy_16 : decode cX9_heldBy 16 = .ok (.getfield 20, 3) := by decide +kernel
theorem dX9_heldBy_19 : decode cX9_heldBy 19 = .ok (.iload 4, 2) := by decide +kernel
theorem dX9_heldBy_21 : decode cX9_heldBy 21 = .ok (.iaload, 1) := by decide +kernel
theorem dX9_heldBy_22 : decode cX9_heldBy 22 = .ok (.iconst 3, 1) := by decide +kernel
theorem dX9_heldBy_23 : decode cX9_heldBy 23 = .ok (.if_icmp .eq 14, 3) := by decide +kernel
theorem dX9_heldBy_26 : decode cX9_heldBy 26 = .ok (.aload_n 0, 1) := by decide +kernel
theorem dX9_heldBy_27 : decode cX9_heldBy 27 = .ok (.getfield 20, 3) := by decide +kernel
theorem dX9_heldBy_30 : decode cX9_heldBy 30 = .ok (.iload 4, 2) := by decide +kernel
theorem dX9_heldBy_32 : decode cX9_heldBy 32 = .ok (.iaload, 1) := by decide +kernel
theorem dX9_heldBy_33 : decode cX9_heldBy 33 = .ok (.iconst 2, 1) := by decide +kernel
theorem dX9_heldBy_34 : decode cX9_heldBy 34 = .ok (.if_icmp .ne 24, 3) := by decide +kernel
theorem dX9_heldBy_37 : decode cX9_heldBy 37 = .ok (.aload_n 0, 1) := by decide +kernel
theorem dX9_heldBy_38 : decode cX9_heldBy 38 = .ok (.getfield 23, 3) := by decide +kernel
theorem dX9_heldBy_41 : decode cX9_heldBy 41 = .ok (.iload 4, 2) := by decide +kernel
theorem dX9_heldBy_43 : decode cX9_heldBy 43 = .ok (.iaload, 1) := by decide +kernel
theorem dX9_heldBy_44 : decode cX9_heldBy 44 = .ok (.iload_n 1, 1) := by decide +kernel
theorem dX9_heldBy_45 : decode cX9_heldBy 45 = .ok (.if_icmp .ne 13, 3) := by decide +kernel
theorem dX9_heldBy_48 : decode cX9_heldBy 48 = .ok (.aload_n 0, 1) := by decide +kernel
theorem dX9_heldBy_49 : decode cX9_heldBy 49 = .ok (.getfield 26, 3) := by decide +kernel
theorem dX9_heldBy_52 : decode cX9_heldBy 52 = .ok (.iload 4, 2) := by decide +kernel
theorem dX9_heldBy_54 : decode cX9_heldBy 54 = .ok (.laload, 1) := by decide +kernel
theorem dX9_heldBy_55 : decode cX9_heldBy 55 = .ok (.goto 4, 3) := by decide +kernel
theorem dX9_heldBy_58 : decode cX9_heldBy 58 = .ok (.lconst 0, 1) := by decide +kernel
theorem dX9_heldBy_59 : decode cX9_heldBy 59 = .ok (.ladd, 1) := by decide +kernel
theorem dX9_heldBy_60 : decode cX9_heldBy 60 = .ok (.lstore_n 2, 1) := by decide +kernel
theorem dX9_heldBy_61 : decode cX9_heldBy 61 = .ok (.iinc 4 1, 3) := by decide +kernel
theorem dX9_heldBy_64 : decode cX9_heldBy 64 = .ok (.goto (-59), 3) := by decide +kernel
theorem dX9_heldBy_67 : decode cX9_heldBy 67 = .ok (.lload_n 2, 1) := by decide +kernel
theorem dX9_heldBy_68 : decode cX9_heldBy 68 = .ok (.lreturn, 1) := by decide +kernel
theorem dX9_free_0 : decode cX9_free 0 = .ok (.aload_n 0, 1) := by decide +kernel
theorem dX9_free_1 : decode cX9_free 1 = .ok (.getfield 45, 3) := by decide +kernel
theorem dX9_free_4 : decode cX9_free 4 = .ok (.iload_n 1, 1) := by decide +kernel
theorem dX9_free_5 : decode cX9_free 5 = .ok (.laload, 1) := by decide +kernel
theorem dX9_free_6 : decode cX9_free 6 = .ok (.aload_n 0, 1) := by decide +kernel
theorem dX9_free_7 : decode cX9_free 7 = .ok (.iload_n 1, 1) := by decide +kernel
theorem dX9_free_8 : decode cX9_free 8 = .ok (.invokevirtual 105, 3) := by decide +kernel
theorem dX9_free_11 : decode cX9_free 11 = .ok (.lsub, 1) := by decide +kernel
theorem dX9_free_12 : decode cX9_free 12 = .ok (.lreturn, 1) := by decide +kernel
theorem dX9_up_0 : decode cX9_up 0 = .ok (.lload_n 0, 1) := by decide +kernel
theorem dX9_up_1 : decode cX9_up 1 = .ok (.lload_n 2, 1) := by decide +kernel
theorem dX9_up_2 : decode cX9_up 2 = .ok (.ladd, 1) := by decide +kernel
theorem dX9_up_3 : decode cX9_up 3 = .ok (.lconst 1, 1) := by decide +kernel
theorem dX9_up_4 : decode cX9_up 4 = .ok (.lsub, 1) := by decide +kernel
theorem dX9_up_5 : decode cX9_up 5 = .ok (.lload_n 2, 1) := by decide +kernel
theorem dX9_up_6 : decode cX9_up 6 = .ok (.ldiv, 1) := by decide +kernel
theorem dX9_up_7 : decode cX9_up 7 = .ok (.lreturn, 1) := by decide +kernel
theorem dX9_add_0 : decode cX9_add 0 = .ok (.aload_n 0, 1) := by decide +kernel
theorem dX9_add_1 : decode cX9_add 1 = .ok (.getfield 7, 3) := by decide +kernel
theorem dX9_add_4 : decode cX9_add 4 = .ok (.aload_n 0, 1) := by decide +kernel
theorem dX9_add_5 : decode cX9_add 5 = .ok (.getfield 82, 3) := by decide +kernel
theorem dX9_add_8 : decode cX9_add 8 = .ok (.iload_n 1, 1) := by decide +kernel
theorem dX9_add_9 : decode cX9_add 9 = .ok (.iastore, 1) := by decide +kernel
theorem dX9_add_10 : decode cX9_add 10 = .ok (.aload_n 0, 1) := by decide +kernel
theorem dX9_add_11 : decode cX9_add 11 = .ok (.getfield 13, 3) := by decide +kernel
theorem dX9_add_14 : decode cX9_add 14 = .ok (.aload_n 0, 1) := by decide +kernel
theorem dX9_add_15 : decode cX9_add 15 = .ok (.getfield 82, 3) := by decide +kernel
theorem dX9_add_18 : decode cX9_add 18 = .ok (.lload_n 2, 1) := by decide +kernel
theorem dX9_add_19 : decode cX9_add 19 = .ok (.lastore, 1) := by decide +kernel
theorem dX9_add_20 : decode cX9_add 20 = .ok (.aload_n 0, 1) := by decide +kernel
theorem dX9_add_21 : decode cX9_add 21 = .ok (.getfield 17, 3) := by decide +kernel
theorem dX9_add_24 : decode cX9_add 24 = .ok (.aload_n 0, 1) := by decide +kernel
theorem dX9_add_25 : decode cX9_add 25 = .ok (.getfield 82, 3) := by decide +kernel
theorem dX9_add_28 : decode cX9_add 28 = .ok (.lload 4, 2) := by decide +kernel
theorem dX9_add_30 : decode cX9_add 30 = .ok (.lastore, 1) := by decide +kernel
theorem dX9_add_31 : decode cX9_add 31 = .ok (.aload_n 0, 1) := by decide +kernel
theorem dX9_add_32 : decode cX9_add 32 = .ok (.getfield 20, 3) := by decide +kernel
theorem dX9_add_35 : decode cX9_add 35 = .ok (.aload_n 0, 1) := by decide +kernel
theorem dX9_add_36 : decode cX9_add 36 = .ok (.getfield 82, 3) := by decide +kernel
theorem dX9_add_39 : decode cX9_add 39 = .ok (.iconst 0, 1) := by decide +kernel
theorem dX9_add_40 : decode cX9_add 40 = .ok (.iastore, 1) := by decide +kernel
theorem dX9_add_41 : decode cX9_add 41 = .ok (.aload_n 0, 1) := by decide +kernel
theorem dX9_add_42 : decode cX9_add 42 = .ok (.dup, 1) := by decide +kernel
theorem dX9_add_43 : decode cX9_add 43 = .ok (.getfield 82, 3) := by decide +kernel
theorem dX9_add_46 : decode cX9_add 46 = .ok (.iconst 1, 1) := by decide +kernel
theorem dX9_add_47 : decode cX9_add 47 = .ok (.iadd, 1) := by decide +kernel
theorem dX9_add_48 : decode cX9_add 48 = .ok (.putfield 82, 3) := by decide +kernel
theorem dX9_add_51 : decode cX9_add 51 = .ok (.aload_n 0, 1) := by decide +kernel
theorem dX9_add_52 : decode cX9_add 52 = .ok (.getfield 82, 3) := by decide +kernel
theorem dX9_add_55 : decode cX9_add 55 = .ok (.iconst 1, 1) := by decide +kernel
theorem dX9_add_56 : decode cX9_add 56 = .ok (.isub, 1) := by decide +kernel
theorem dX9_add_57 : decode cX9_add 57 = .ok (.ireturn, 1) := by decide +kernel
theorem dX9_lot_0 : decode cX9_lot 0 = .ok (.aload_n 0, 1) := by decide +kernel
theorem dX9_lot_1 : decode cX9_lot 1 = .ok (.getfield 82, 3) := by decide +kernel
theorem dX9_lot_4 : decode cX9_lot 4 = .ok (.bipush 60, 2) := by decide +kernel
theorem dX9_lot_6 : decode cX9_lot 6 = .ok (.if_icmp .eq 43, 3) := by decide +kernel
theorem dX9_lot_9 : decode cX9_lot 9 = .ok (.iload_n 1, 1) := by decide +kernel
theorem dX9_lot_10 : decode cX9_lot 10 = .ok (.ifCond .lt 39, 3) := by decide +kernel
theorem dX9_lot_13 : decode cX9_lot 13 = .ok (.iload_n 1, 1) := by decide +kernel
theorem dX9_lot_14 : decode cX9_lot 14 = .ok (.bipush 9, 2) := by decide +kernel
theorem dX9_lot_16 : decode cX9_lot 16 = .ok (.if_icmp .gt 33, 3) := by decide +kernel
theorem dX9_lot_19 : decode cX9_lot 19 = .ok (.lload_n 2, 1) := by decide +kernel
theorem dX9_lot_20 : decode cX9_lot 20 = .ok (.lconst 1, 1) := by decide +kernel
theorem dX9_lot_21 : decode cX9_lot 21 = .ok (.lcmp, 1) := by decide +kernel
theorem dX9_lot_22 : decode cX9_lot 22 = .ok (.ifCond .lt 27, 3) := by decide +kernel
theorem dX9_lot_25 : decode cX9_lot 25 = .ok (.lload_n 2, 1) := by decide +kernel
theorem dX9_lot_26 : decode cX9_lot 26 = .ok (.ldc2_w 109, 3) := by decide +kernel
theorem dX9_lot_29 : decode cX9_lot 29 = .ok (.lcmp, 1) := by decide +kernel
theorem dX9_lot_30 : decode cX9_lot 30 = .ok (.ifCond .gt 19, 3) := by decide +kernel
theorem dX9_lot_33 : decode cX9_lot 33 = .ok (.lload 4, 2) := by decide +kernel
theorem dX9_lot_35 : decode cX9_lot 35 = .ok (.lconst 0, 1) := by decide +kernel
theorem dX9_lot_36 : decode cX9_lot 36 = .ok (.lcmp, 1) := by decide +kernel
theorem dX9_lot_37 : decode cX9_lot 37 = .ok (.ifCond .lt 12, 3) := by decide +kernel
theorem dX9_lot_40 : decode cX9_lot 40 = .ok (.lload 4, 2) := by decide +kernel
theorem dX9_lot_42 : decode cX9_lot 42 = .ok (.ldc2_w 109, 3) := by decide +kernel
theorem dX9_lot_45 : decode cX9_lot 45 = .ok (.lcmp, 1) := by decide +kernel
theorem dX9_lot_46 : decode cX9_lot 46 = .ok (.ifCond .le 7, 3) := by decide +kernel
theorem dX9_lot_49 : decode cX9_lot 49 = .ok (.iconst (-1), 1) := by decide +kernel
theorem dX9_lot_50 : decode cX9_lot 50 = .ok (.goto 11, 3) := by decide +kernel
theorem dX9_lot_53 : decode cX9_lot 53 = .ok (.aload_n 0, 1) := by decide +kernel
theorem dX9_lot_54 : decode cX9_lot 54 = .ok (.iload_n 1, 1) := by decide +kernel
theorem dX9_lot_55 : decode cX9_lot 55 = .ok (.lload_n 2, 1) := by decide +kernel
theorem dX9_lot_56 : decode cX9_lot 56 = .ok (.lload 4, 2) := by decide +kernel
theorem dX9_lot_58 : decode cX9_lot 58 = .ok (.invokevirtual 111, 3) := by decide +kernel
theorem dX9_lot_61 : decode cX9_lot 61 = .ok (.ireturn, 1) := by decide +kernel
theorem dX9_buyer_0 : decode cX9_buyer 0 = .ok (.aload_n 0, 1) := by decide +kernel
theorem dX9_buyer_1 : decode cX9_buyer 1 = .ok (.getfield 85, 3) := by decide +kernel
theorem dX9_buyer_4 : decode cX9_buyer 4 = .ok (.bipush 30, 2) := by decide +kernel
theorem dX9_buyer_6 : decode cX9_buyer 6 = .ok (.if_icmp .eq 17, 3) := by decide +kernel
theorem dX9_buyer_9 : decode cX9_buyer 9 = .ok (.lload_n 1, 1) := by decide +kernel
theorem dX9_buyer_10 : decode cX9_buyer 10 = .ok (.lconst 0, 1) := by decide +kernel
theorem dX9_buyer_11 : decode cX9_buyer 11 = .ok (.lcmp, 1) := by decide +kernel
theorem dX9_buyer_12 : decode cX9_buyer 12 = .ok (.ifCond .lt 11, 3) := by decide +kernel
theorem dX9_buyer_15 : decode cX9_buyer 15 = .ok (.lload_n 1, 1) := by decide +kernel
theorem dX9_buyer_16 : decode cX9_buyer 16 = .ok (.ldc2_w 115, 3) := by decide +kernel
theorem dX9_buyer_19 : decode cX9_buyer 19 = .ok (.lcmp, 1) := by decide +kernel
theorem dX9_buyer_20 : decode cX9_buyer 20 = .ok (.ifCond .le 5, 3) := by decide +kernel
theorem dX9_buyer_23 : decode cX9_buyer 23 = .ok (.iconst (-1), 1) := by decide +kernel
theorem dX9_buyer_24 : decode cX9_buyer 24 = .ok (.ireturn, 1) := by decide +kernel
theorem dX9_buyer_25 : decode cX9_buyer 25 = .ok (.aload_n 0, 1) := by decide +kernel
theorem dX9_buyer_26 : decode cX9_buyer 26 = .ok (.getfield 45, 3) := by decide +kernel
theorem dX9_buyer_29 : decode cX9_buyer 29 = .ok (.aload_n 0, 1) := by decide +kernel
theorem dX9_buyer_30 : decode cX9_buyer 30 = .ok (.getfield 85, 3) := by decide +kernel
theorem dX9_buyer_33 : decode cX9_buyer 33 = .ok (.lload_n 1, 1) := by decide +kernel
theorem dX9_buyer_34 : decode cX9_buyer 34 = .ok (.lastore, 1) := by decide +kernel
theorem dX9_buyer_35 : decode cX9_buyer 35 = .ok (.aload_n 0, 1) := by decide +kernel
theorem dX9_buyer_36 : decode cX9_buyer 36 = .ok (.getfield 51, 3) := by decide +kernel
theorem dX9_buyer_39 : decode cX9_buyer 39 = .ok (.aload_n 0, 1) := by decide +kernel
theorem dX9_buyer_40 : decode cX9_buyer 40 = .ok (.getfield 85, 3) := by decide +kernel
theorem dX9_buyer_43 : decode cX9_buyer 43 = .ok (.ldc2_w 117, 3) := by decide +kernel
theorem dX9_buyer_46 : decode cX9_buyer 46 = .ok (.lastore, 1) := by decide +kernel
theorem dX9_buyer_47 : decode cX9_buyer 47 = .ok (.aload_n 0, 1) := by decide +kernel
theorem dX9_buyer_48 : decode cX9_buyer 48 = .ok (.dup, 1) := by decide +kernel
theorem dX9_buyer_49 : decode cX9_buyer 49 = .ok (.getfield 85, 3) := by decide +kernel
theorem dX9_buyer_52 : decode cX9_buyer 52 = .ok (.iconst 1, 1) := by decide +kernel
theorem dX9_buyer_53 : decode cX9_buyer 53 = .ok (.iadd, 1) := by decide +kernel
theorem dX9_buyer_54 : decode cX9_buyer 54 = .ok (.putfield 85, 3) := by decide +kernel
theorem dX9_buyer_57 : decode cX9_buyer 57 = .ok (.aload_n 0, 1) := by decide +kernel
theorem dX9_buyer_58 : decode cX9_buyer 58 = .ok (.getfield 85, 3) := by decide +kernel
theorem dX9_buyer_61 : decode cX9_buyer 61 = .ok (.iconst 1, 1) := by decide +kernel
theorem dX9_buyer_62 : decode cX9_buyer 62 = .ok (.isub, 1) := by decide +kernel
theorem dX9_buyer_63 : decode cX9_buyer 63 = .ok (.ireturn, 1) := by decide +kernel
theorem dX9_start_0 : decode cX9_start 0 = .ok (.aload_n 0, 1) := by decide +kernel
theorem dX9_start_1 : decode cX9_start 1 = .ok (.iload_n 1, 1) := by decide +kernel
theorem dX9_start_2 : decode cX9_start 2 = .ok (.invokevirtual 119, 3) := by decide +kernel
theorem dX9_start_5 : decode cX9_start 5 = .ok (.ifCond .eq 55, 3) := by decide +kernel
theorem dX9_start_8 : decode cX9_start 8 = .ok (.aload_n 0, 1) := by decide +kernel
theorem dX9_start_9 : decode cX9_start 9 = .ok (.getfield 20, 3) := by decide +kernel
theorem dX9_start_12 : decode cX9_start 12 = .ok (.iload_n 1, 1) := by decide +kernel
theorem dX9_start_13 : decode cX9_start 13 = .ok (.iaload, 1) := by decide +kernel
theorem dX9_start_14 : decode cX9_start 14 = .ok (.ifCond .ne 46, 3) := by decide +kernel
theorem dX9_start_17 : decode cX9_start 17 = .ok (.aload_n 0, 1) := by decide +kernel
theorem dX9_start_18 : decode cX9_start 18 = .ok (.getfield 54, 3) := by decide +kernel
theorem dX9_start_21 : decode cX9_start 21 = .ok (.iconst (-1), 1) := by decide +kernel
theorem dX9_start_22 : decode cX9_start 22 = .ok (.if_icmp .ne 38, 3) := by decide +kernel
theorem dX9_start_25 : decode cX9_start 25 = .ok (.lload_n 2, 1) := by decide +kernel
theorem dX9_start_26 : decode cX9_start 26 = .ok (.aload_n 0, 1) := by decide +kernel
theorem dX9_start_27 : decode cX9_start 27 = .ok (.getfield 17, 3) := by decide +kernel
theorem dX9_start_30 : decode cX9_start 30 = .ok (.iload_n 1, 1) := by decide +kernel
theorem dX9_start_31 : decode cX9_start 31 = .ok (.laload, 1) := by decide +kernel
theorem dX9_start_32 : decode cX9_start 32 = .ok (.lcmp, 1) := by decide +kernel
theorem dX9_start_33 : decode cX9_start 33 = .ok (.ifCond .lt 27, 3) := by decide +kernel
theorem dX9_start_36 : decode cX9_start 36 = .ok (.lload_n 2, 1) := by decide +kernel
theorem dX9_start_37 : decode cX9_start 37 = .ok (.ldc2_w 109, 3) := by decide +kernel
theorem dX9_start_40 : decode cX9_start 40 = .ok (.lcmp, 1) := by decide +kernel
theorem dX9_start_41 : decode cX9_start 41 = .ok (.ifCond .gt 19, 3) := by decide +kernel
theorem dX9_start_44 : decode cX9_start 44 = .ok (.lload 4, 2) := by decide +kernel
theorem dX9_start_46 : decode cX9_start 46 = .ok (.lconst 1, 1) := by decide +kernel
theorem dX9_start_47 : decode cX9_start 47 = .ok (.lcmp, 1) := by decide +kernel
theorem dX9_start_48 : decode cX9_start 48 = .ok (.ifCond .lt 12, 3) := by decide +kernel
theorem dX9_start_51 : decode cX9_start 51 = .ok (.lload 4, 2) := by decide +kernel
theorem dX9_start_53 : decode cX9_start 53 = .ok (.ldc2_w 123, 3) := by decide +kernel
theorem dX9_start_56 : decode cX9_start 56 = .ok (.lcmp, 1) := by decide +kernel
theorem dX9_start_57 : decode cX9_start 57 = .ok (.ifCond .le 5, 3) := by decide +kernel
theorem dX9_start_60 : decode cX9_start 60 = .ok (.iconst (-1), 1) := by decide +kernel
theorem dX9_start_61 : decode cX9_start 61 = .ok (.ireturn, 1) := by decide +kernel
theorem dX9_start_62 : decode cX9_start 62 = .ok (.ldc2_w 125, 3) := by decide +kernel
theorem dX9_start_65 : decode cX9_start 65 = .ok (.lload_n 2, 1) := by decide +kernel
theorem dX9_start_66 : decode cX9_start 66 = .ok (.aload_n 0, 1) := by decide +kernel
theorem dX9_start_67 : decode cX9_start 67 = .ok (.getfield 17, 3) := by decide +kernel
theorem dX9_start_70 : decode cX9_start 70 = .ok (.iload_n 1, 1) := by decide +kernel
theorem dX9_start_71 : decode cX9_start 71 = .ok (.laload, 1) := by decide +kernel
theorem dX9_start_72 : decode cX9_start 72 = .ok (.lsub, 1) := by decide +kernel
theorem dX9_start_73 : decode cX9_start 73 = .ok (.lload 4, 2) := by decide +kernel
theorem dX9_start_75 : decode cX9_start 75 = .ok (.ldiv, 1) := by decide +kernel
theorem dX9_start_76 : decode cX9_start 76 = .ok (.lconst 1, 1) := by decide +kernel
theorem dX9_start_77 : decode cX9_start 77 = .ok (.ladd, 1) := by decide +kernel
theorem dX9_start_78 : decode cX9_start 78 = .ok (.lmul, 1) := by decide +kernel
theorem dX9_start_79 : decode cX9_start 79 = .ok (.lstore 6, 2) := by decide +kernel
theorem dX9_start_81 : decode cX9_start 81 = .ok (.lload 6, 2) := by decide +kernel
theorem dX9_start_83 : decode cX9_start 83 = .ok (.ldc2_w 127, 3) := by decide +kernel
theorem dX9_start_86 : decode cX9_start 86 = .ok (.lcmp, 1) := by decide +kernel
theorem dX9_start_87 : decode cX9_start 87 = .ok (.ifCond .le 5, 3) := by decide +kernel
theorem dX9_start_90 : decode cX9_start 90 = .ok (.iconst (-1), 1) := by decide +kernel
theorem dX9_start_91 : decode cX9_start 91 = .ok (.ireturn, 1) := by decide +kernel
theorem dX9_start_92 : decode cX9_start 92 = .ok (.aload_n 0, 1) := by decide +kernel
theorem dX9_start_93 : decode cX9_start 93 = .ok (.iload_n 1, 1) := by decide +kernel
theorem dX9_start_94 : decode cX9_start 94 = .ok (.putfield 54, 3) := by decide +kernel
theorem dX9_start_97 : decode cX9_start 97 = .ok (.aload_n 0, 1) := by decide +kernel
theorem dX9_start_98 : decode cX9_start 98 = .ok (.getfield 20, 3) := by decide +kernel
theorem dX9_start_101 : decode cX9_start 101 = .ok (.iload_n 1, 1) := by decide +kernel
theorem dX9_start_102 : decode cX9_start 102 = .ok (.iconst 1, 1) := by decide +kernel
theorem dX9_start_103 : decode cX9_start 103 = .ok (.iastore, 1) := by decide +kernel
theorem dX9_start_104 : decode cX9_start 104 = .ok (.aload_n 0, 1) := by decide +kernel
theorem dX9_start_105 : decode cX9_start 105 = .ok (.lconst 0, 1) := by decide +kernel
theorem dX9_start_106 : decode cX9_start 106 = .ok (.putfield 129, 3) := by decide +kernel
theorem dX9_start_109 : decode cX9_start 109 = .ok (.aload_n 0, 1) := by decide +kernel
theorem dX9_start_110 : decode cX9_start 110 = .ok (.lload 6, 2) := by decide +kernel
theorem dX9_start_112 : decode cX9_start 112 = .ok (.putfield 133, 3) := by decide +kernel
theorem dX9_start_115 : decode cX9_start 115 = .ok (.aload_n 0, 1) := by decide +kernel
theorem dX9_start_116 : decode cX9_start 116 = .ok (.lload_n 2, 1) := by decide +kernel
theorem dX9_start_117 : decode cX9_start 117 = .ok (.putfield 136, 3) := by decide +kernel
theorem dX9_start_120 : decode cX9_start 120 = .ok (.aload_n 0, 1) := by decide +kernel
theorem dX9_start_121 : decode cX9_start 121 = .ok (.lload 4, 2) := by decide +kernel
theorem dX9_start_123 : decode cX9_start 123 = .ok (.putfield 139, 3) := by decide +kernel
theorem dX9_start_126 : decode cX9_start 126 = .ok (.aload_n 0, 1) := by decide +kernel
theorem dX9_start_127 : decode cX9_start 127 = .ok (.iconst 0, 1) := by decide +kernel
theorem dX9_start_128 : decode cX9_start 128 = .ok (.putfield 142, 3) := by decide +kernel
theorem dX9_start_131 : decode cX9_start 131 = .ok (.iconst 0, 1) := by decide +kernel
theorem dX9_start_132 : decode cX9_start 132 = .ok (.istore 8, 2) := by decide +kernel
theorem dX9_start_134 : decode cX9_start 134 = .ok (.iload 8, 2) := by decide +kernel
theorem dX9_start_136 : decode cX9_start 136 = .ok (.bipush 30, 2) := by decide +kernel
theorem dX9_start_138 : decode cX9_start 138 = .ok (.if_icmp .ge 19, 3) := by decide +kernel
theorem dX9_start_141 : decode cX9_start 141 = .ok (.aload_n 0, 1) := by decide +kernel
theorem dX9_start_142 : decode cX9_start 142 = .ok (.getfield 51, 3) := by decide +kernel
theorem dX9_start_145 : decode cX9_start 145 = .ok (.iload 8, 2) := by decide +kernel
theorem dX9_start_147 : decode cX9_start 147 = .ok (.ldc2_w 117, 3) := by decide +kernel
theorem dX9_start_150 : decode cX9_start 150 = .ok (.lastore, 1) := by decide +kernel
theorem dX9_start_151 : decode cX9_start 151 = .ok (.iinc 8 1, 3) := by decide +kernel
theorem dX9_start_154 : decode cX9_start 154 = .ok (.goto (-20), 3) := by decide +kernel
theorem dX9_start_157 : decode cX9_start 157 = .ok (.lload 6, 2) := by decide +kernel
theorem dX9_start_159 : decode cX9_start 159 = .ok (.l2i, 1) := by decide +kernel
theorem dX9_start_160 : decode cX9_start 160 = .ok (.ireturn, 1) := by decide +kernel
theorem dX9_priceAt_0 : decode cX9_priceAt 0 = .ok (.aload_n 0, 1) := by decide +kernel
theorem dX9_priceAt_1 : decode cX9_priceAt 1 = .ok (.getfield 136, 3) := by decide +kernel
theorem dX9_priceAt_4 : decode cX9_priceAt 4 = .ok (.aload_n 0, 1) := by decide +kernel
theorem dX9_priceAt_5 : decode cX9_priceAt 5 = .ok (.getfield 139, 3) := by decide +kernel
theorem dX9_priceAt_8 : decode cX9_priceAt 8 = .ok (.lload_n 1, 1) := by decide +kernel
theorem dX9_priceAt_9 : decode cX9_priceAt 9 = .ok (.ldc2_w 125, 3) := by decide +kernel
theorem dX9_priceAt_12 : decode cX9_priceAt 12 = .ok (.ldiv, 1) := by decide +kernel
theorem dX9_priceAt_13 : decode cX9_priceAt 13 = .ok (.lmul, 1) := by decide +kernel
theorem dX9_priceAt_14 : decode cX9_priceAt 14 = .ok (.lsub, 1) := by decide +kernel
theorem dX9_priceAt_15 : decode cX9_priceAt 15 = .ok (.lreturn, 1) := by decide +kernel
theorem dX9_clock_0 : decode cX9_clock 0 = .ok (.aload_n 0, 1) := by decide +kernel
theorem dX9_clock_1 : decode cX9_clock 1 = .ok (.getfield 54, 3) := by decide +kernel
theorem dX9_clock_4 : decode cX9_clock 4 = .ok (.iconst (-1), 1) := by decide +kernel
theorem dX9_clock_5 : decode cX9_clock 5 = .ok (.if_icmp .ne 9, 3) := by decide +kernel
theorem dX9_clock_8 : decode cX9_clock 8 = .ok (.ldc2_w 117, 3) := by decide +kernel
theorem dX9_clock_11 : decode cX9_clock 11 = .ok (.goto 11, 3) := by decide +kernel
theorem dX9_clock_14 : decode cX9_clock 14 = .ok (.aload_n 0, 1) := by decide +kernel
theorem dX9_clock_15 : decode cX9_clock 15 = .ok (.aload_n 0, 1) := by decide +kernel
theorem dX9_clock_16 : decode cX9_clock 16 = .ok (.getfield 129, 3) := by decide +kernel
theorem dX9_clock_19 : decode cX9_clock 19 = .ok (.invokevirtual 146, 3) := by decide +kernel
theorem dX9_clock_22 : decode cX9_clock 22 = .ok (.lreturn, 1) := by decide +kernel
theorem dX9_press_0 : decode cX9_press 0 = .ok (.aload_n 0, 1) := by decide +kernel
theorem dX9_press_1 : decode cX9_press 1 = .ok (.iload_n 1, 1) := by decide +kernel
theorem dX9_press_2 : decode cX9_press 2 = .ok (.invokevirtual 150, 3) := by decide +kernel
theorem dX9_press_5 : decode cX9_press 5 = .ok (.ifCond .eq 32, 3) := by decide +kernel
theorem dX9_press_8 : decode cX9_press 8 = .ok (.aload_n 0, 1) := by decide +kernel
theorem dX9_press_9 : decode cX9_press 9 = .ok (.getfield 54, 3) := by decide +kernel
theorem dX9_press_12 : decode cX9_press 12 = .ok (.iconst (-1), 1) := by decide +kernel
theorem dX9_press_13 : decode cX9_press 13 = .ok (.if_icmp .eq 24, 3) := by decide +kernel
theorem dX9_press_16 : decode cX9_press 16 = .ok (.aload_n 0, 1) := by decide +kernel
theorem dX9_press_17 : decode cX9_press 17 = .ok (.getfield 142, 3) := by decide +kernel
theorem dX9_press_20 : decode cX9_press 20 = .ok (.ifCond .ne 17, 3) := by decide +kernel
theorem dX9_press_23 : decode cX9_press 23 = .ok (.lload_n 2, 1) := by decide +kernel
theorem dX9_press_24 : decode cX9_press 24 = .ok (.lconst 0, 1) := by decide +kernel
theorem dX9_press_25 : decode cX9_press 25 = .ok (.lcmp, 1) := by decide +kernel
theorem dX9_press_26 : decode cX9_press 26 = .ok (.ifCond .lt 11, 3) := by decide +kernel
theorem dX9_press_29 : decode cX9_press 29 = .ok (.lload_n 2, 1) := by decide +kernel
theorem dX9_press_30 : decode cX9_press 30 = .ok (.ldc2_w 153, 3) := by decide +kernel
theorem dX9_press_33 : decode cX9_press 33 = .ok (.lcmp, 1) := by decide +kernel
theorem dX9_press_34 : decode cX9_press 34 = .ok (.ifCond .le 5, 3) := by decide +kernel
theorem dX9_press_37 : decode cX9_press 37 = .ok (.iconst 0, 1) := by decide +kernel
theorem dX9_press_38 : decode cX9_press 38 = .ok (.ireturn, 1) := by decide +kernel
theorem dX9_press_39 : decode cX9_press 39 = .ok (.lload_n 2, 1) := by decide +kernel
theorem dX9_press_40 : decode cX9_press 40 = .ok (.aload_n 0, 1) := by decide +kernel
theorem dX9_press_41 : decode cX9_press 41 = .ok (.getfield 48, 3) := by decide +kernel
theorem dX9_press_44 : decode cX9_press 44 = .ok (.iload_n 1, 1) := by decide +kernel
theorem dX9_press_45 : decode cX9_press 45 = .ok (.laload, 1) := by decide +kernel
theorem dX9_press_46 : decode cX9_press 46 = .ok (.lcmp, 1) := by decide +kernel
theorem dX9_press_47 : decode cX9_press 47 = .ok (.ifCond .le 14, 3) := by decide +kernel
theorem dX9_press_50 : decode cX9_press 50 = .ok (.lload_n 2, 1) := by decide +kernel
theorem dX9_press_51 : decode cX9_press 51 = .ok (.aload_n 0, 1) := by decide +kernel
theorem dX9_press_52 : decode cX9_press 52 = .ok (.getfield 48, 3) := by decide +kernel
theorem dX9_press_55 : decode cX9_press 55 = .ok (.iload_n 1, 1) := by decide +kernel
theorem dX9_press_56 : decode cX9_press 56 = .ok (.laload, 1) := by decide +kernel
theorem dX9_press_57 : decode cX9_press 57 = .ok (.lsub, 1) := by decide +kernel
theorem dX9_press_58 : decode cX9_press 58 = .ok (.goto 4, 3) := by decide +kernel
theorem dX9_press_61 : decode cX9_press 61 = .ok (.lconst 0, 1) := by decide +kernel
theorem dX9_press_62 : decode cX9_press 62 = .ok (.lstore 4, 2) := by decide +kernel
theorem dX9_press_64 : decode cX9_press 64 = .ok (.lload 4, 2) := by decide +kernel
theorem dX9_press_66 : decode cX9_press 66 = .ok (.aload_n 0, 1) := by decide +kernel
theorem dX9_press_67 : decode cX9_press 67 = .ok (.getfield 133, 3) := by decide +kernel
theorem dX9_press_70 : decode cX9_press 70 = .ok (.lcmp, 1) := by decide +kernel
theorem dX9_press_71 : decode cX9_press 71 = .ok (.ifCond .ge 28, 3) := by decide +kernel
theorem dX9_press_74 : decode cX9_press 74 = .ok (.aload_n 0, 1) := by decide +kernel
theorem dX9_press_75 : decode cX9_press 75 = .ok (.getfield 51, 3) := by decide +kernel
theorem dX9_press_78 : decode cX9_press 78 = .ok (.iload_n 1, 1) := by decide +kernel
theorem dX9_press_79 : decode cX9_press 79 = .ok (.laload, 1) := by decide +kernel
theorem dX9_press_80 : decode cX9_press 80 = .ok (.ldc2_w 117, 3) := by decide +kernel
theorem dX9_press_83 : decode cX9_press 83 = .ok (.lcmp, 1) := by decide +kernel
theorem dX9_press_84 : decode cX9_press 84 = .ok (.ifCond .eq 17, 3) := by decide +kernel
theorem dX9_press_87 : decode cX9_press 87 = .ok (.aload_n 0, 1) := by decide +kernel
theorem dX9_press_88 : decode cX9_press 88 = .ok (.getfield 51, 3) := by decide +kernel
theorem dX9_press_91 : decode cX9_press 91 = .ok (.iload_n 1, 1) := by decide +kernel
theorem dX9_press_92 : decode cX9_press 92 = .ok (.laload, 1) := by decide +kernel
theorem dX9_press_93 : decode cX9_press 93 = .ok (.lload 4, 2) := by decide +kernel
theorem dX9_press_95 : decode cX9_press 95 = .ok (.lcmp, 1) := by decide +kernel
theorem dX9_press_96 : decode cX9_press 96 = .ok (.ifCond .gt 5, 3) := by decide +kernel
theorem dX9_press_99 : decode cX9_press 99 = .ok (.iconst 0, 1) := by decide +kernel
theorem dX9_press_100 : decode cX9_press 100 = .ok (.ireturn, 1) := by decide +kernel
theorem dX9_press_101 : decode cX9_press 101 = .ok (.aload_n 0, 1) := by decide +kernel
theorem dX9_press_102 : decode cX9_press 102 = .ok (.getfield 51, 3) := by decide +kernel
theorem dX9_press_105 : decode cX9_press 105 = .ok (.iload_n 1, 1) := by decide +kernel
theorem dX9_press_106 : decode cX9_press 106 = .ok (.lload 4, 2) := by decide +kernel
theorem dX9_press_108 : decode cX9_press 108 = .ok (.lastore, 1) := by decide +kernel
theorem dX9_press_109 : decode cX9_press 109 = .ok (.iconst 1, 1) := by decide +kernel
theorem dX9_press_110 : decode cX9_press 110 = .ok (.ireturn, 1) := by decide +kernel
theorem dX9_delay_0 : decode cX9_delay 0 = .ok (.aload_n 0, 1) := by decide +kernel
theorem dX9_delay_1 : decode cX9_delay 1 = .ok (.iload_n 1, 1) := by decide +kernel
theorem dX9_delay_2 : decode cX9_delay 2 = .ok (.invokevirtual 150, 3) := by decide +kernel
theorem dX9_delay_5 : decode cX9_delay 5 = .ok (.ifCond .eq 17, 3) := by decide +kernel
theorem dX9_delay_8 : decode cX9_delay 8 = .ok (.lload_n 2, 1) := by decide +kernel
theorem dX9_delay_9 : decode cX9_delay 9 = .ok (.lconst 0, 1) := by decide +kernel
theorem dX9_delay_10 : decode cX9_delay 10 = .ok (.lcmp, 1) := by decide +kernel
theorem dX9_delay_11 : decode cX9_delay 11 = .ok (.ifCond .lt 11, 3) := by decide +kernel
theorem dX9_delay_14 : decode cX9_delay 14 = .ok (.lload_n 2, 1) := by decide +kernel
theorem dX9_delay_15 : decode cX9_delay 15 = .ok (.ldc2_w 155, 3) := by decide +kernel
theorem dX9_delay_18 : decode cX9_delay 18 = .ok (.lcmp, 1) := by decide +kernel
theorem dX9_delay_19 : decode cX9_delay 19 = .ok (.ifCond .le 5, 3) := by decide +kernel
theorem dX9_delay_22 : decode cX9_delay 22 = .ok (.iconst 0, 1) := by decide +kernel
theorem dX9_delay_23 : decode cX9_delay 23 = .ok (.ireturn, 1) := by decide +kernel
theorem dX9_delay_24 : decode cX9_delay 24 = .ok (.aload_n 0, 1) := by decide +kernel
theorem dX9_delay_25 : decode cX9_delay 25 = .ok (.getfield 48, 3) := by decide +kernel
theorem dX9_delay_28 : decode cX9_delay 28 = .ok (.iload_n 1, 1) := by decide +kernel
theorem dX9_delay_29 : decode cX9_delay 29 = .ok (.lload_n 2, 1) := by decide +kernel
theorem dX9_delay_30 : decode cX9_delay 30 = .ok (.lastore, 1) := by decide +kernel
theorem dX9_delay_31 : decode cX9_delay 31 = .ok (.iconst 1, 1) := by decide +kernel
theorem dX9_delay_32 : decode cX9_delay 32 = .ok (.ireturn, 1) := by decide +kernel
theorem dX9_outage_0 : decode cX9_outage 0 = .ok (.aload_n 0, 1) := by decide +kernel
theorem dX9_outage_1 : decode cX9_outage 1 = .ok (.getfield 54, 3) := by decide +kernel
theorem dX9_outage_4 : decode cX9_outage 4 = .ok (.iconst (-1), 1) := by decide +kernel
theorem dX9_outage_5 : decode cX9_outage 5 = .ok (.if_icmp .eq 34, 3) := by decide +kernel
theorem dX9_outage_8 : decode cX9_outage 8 = .ok (.aload_n 0, 1) := by decide +kernel
theorem dX9_outage_9 : decode cX9_outage 9 = .ok (.getfield 142, 3) := by decide +kernel
theorem dX9_outage_12 : decode cX9_outage 12 = .ok (.iload_n 3, 1) := by decide +kernel
theorem dX9_outage_13 : decode cX9_outage 13 = .ok (.if_icmp .eq 26, 3) := by decide +kernel
theorem dX9_outage_16 : decode cX9_outage 16 = .ok (.lload_n 1, 1) := by decide +kernel
theorem dX9_outage_17 : decode cX9_outage 17 = .ok (.lconst 0, 1) := by decide +kernel
theorem dX9_outage_18 : decode cX9_outage 18 = .ok (.lcmp, 1) := by decide +kernel
theorem dX9_outage_19 : decode cX9_outage 19 = .ok (.ifCond .lt 20, 3) := by decide +kernel
theorem dX9_outage_22 : decode cX9_outage 22 = .ok (.lload_n 1, 1) := by decide +kernel
theorem dX9_outage_23 : decode cX9_outage 23 = .ok (.iload_n 3, 1) := by decide +kernel
theorem dX9_outage_24 : decode cX9_outage 24 = .ok (.ifCond .eq 10, 3) := by decide +kernel
theorem dX9_outage_27 : decode cX9_outage 27 = .ok (.aload_n 0, 1) := by decide +kernel
theorem dX9_outage_28 : decode cX9_outage 28 = .ok (.getfield 129, 3) := by decide +kernel
theorem dX9_outage_31 : decode cX9_outage 31 = .ok (.goto 4, 3) := by decide +kernel
theorem dX9_outage_34 : decode cX9_outage 34 = .ok (.lconst 0, 1) := by decide +kernel
theorem dX9_outage_35 : decode cX9_outage 35 = .ok (.lcmp, 1) := by decide +kernel
theorem dX9_outage_36 : decode cX9_outage 36 = .ok (.ifCond .le 5, 3) := by decide +kernel
theorem dX9_outage_39 : decode cX9_outage 39 = .ok (.iconst 0, 1) := by decide +kernel
theorem dX9_outage_40 : decode cX9_outage 40 = .ok (.ireturn, 1) := by decide +kernel
theorem dX9_outage_41 : decode cX9_outage 41 = .ok (.aload_n 0, 1) := by decide +kernel
theorem dX9_outage_42 : decode cX9_outage 42 = .ok (.iload_n 3, 1) := by decide +kernel
theorem dX9_outage_43 : decode cX9_outage 43 = .ok (.putfield 142, 3) := by decide +kernel
theorem dX9_outage_46 : decode cX9_outage 46 = .ok (.iload_n 3, 1) := by decide +kernel
theorem dX9_outage_47 : decode cX9_outage 47 = .ok (.ifCond .eq 74, 3) := by decide +kernel
theorem dX9_outage_50 : decode cX9_outage 50 = .ok (.aload_n 0, 1) := by decide +kernel
theorem dX9_outage_51 : decode cX9_outage 51 = .ok (.aload_n 0, 1) := by decide +kernel
theorem dX9_outage_52 : decode cX9_outage 52 = .ok (.getfield 129, 3) := by decide +kernel
theorem dX9_outage_55 : decode cX9_outage 55 = .ok (.lload_n 1, 1) := by decide +kernel
theorem dX9_outage_56 : decode cX9_outage 56 = .ok (.lsub, 1) := by decide +kernel
theorem dX9_outage_57 : decode cX9_outage 57 = .ok (.ldc2_w 125, 3) := by decide +kernel
theorem dX9_outage_60 : decode cX9_outage 60 = .ok (.ldiv, 1) := by decide +kernel
theorem dX9_outage_61 : decode cX9_outage 61 = .ok (.ldc2_w 125, 3) := by decide +kernel
theorem dX9_outage_64 : decode cX9_outage 64 = .ok (.lmul, 1) := by decide +kernel
theorem dX9_outage_65 : decode cX9_outage 65 = .ok (.putfield 129, 3) := by decide +kernel
theorem dX9_outage_68 : decode cX9_outage 68 = .ok (.iconst 0, 1) := by decide +kernel
theorem dX9_outage_69 : decode cX9_outage 69 = .ok (.istore 4, 2) := by decide +kernel
theorem dX9_outage_71 : decode cX9_outage 71 = .ok (.iload 4, 2) := by decide +kernel
theorem dX9_outage_73 : decode cX9_outage 73 = .ok (.aload_n 0, 1) := by decide +kernel
theorem dX9_outage_74 : decode cX9_outage 74 = .ok (.getfield 85, 3) := by decide +kernel
theorem dX9_outage_77 : decode cX9_outage 77 = .ok (.if_icmp .ge 44, 3) := by decide +kernel
theorem dX9_outage_80 : decode cX9_outage 80 = .ok (.aload_n 0, 1) := by decide +kernel
theorem dX9_outage_81 : decode cX9_outage 81 = .ok (.getfield 51, 3) := by decide +kernel
theorem dX9_outage_84 : decode cX9_outage 84 = .ok (.iload 4, 2) := by decide +kernel
theorem dX9_outage_86 : decode cX9_outage 86 = .ok (.aload_n 0, 1) := by decide +kernel
theorem dX9_outage_87 : decode cX9_outage 87 = .ok (.getfield 51, 3) := by decide +kernel
theorem dX9_outage_90 : decode cX9_outage 90 = .ok (.iload 4, 2) := by decide +kernel
theorem dX9_outage_92 : decode cX9_outage 92 = .ok (.laload, 1) := by decide +kernel
theorem dX9_outage_93 : decode cX9_outage 93 = .ok (.aload_n 0, 1) := by decide +kernel
theorem dX9_outage_94 : decode cX9_outage 94 = .ok (.getfield 129, 3) := by decide +kernel
theorem dX9_outage_97 : decode cX9_outage 97 = .ok (.lcmp, 1) := by decide +kernel
theorem dX9_outage_98 : decode cX9_outage 98 = .ok (.ifCond .lt 9, 3) := by decide +kernel
theorem dX9_outage_101 : decode cX9_outage 101 = .ok (.ldc2_w 117, 3) := by decide +kernel
theorem dX9_outage_104 : decode cX9_outage 104 = .ok (.goto 10, 3) := by decide +kernel
theorem dX9_outage_107 : decode cX9_outage 107 = .ok (.aload_n 0, 1) := by decide +kernel
theorem dX9_outage_108 : decode cX9_outage 108 = .ok (.getfield 51, 3) := by decide +kernel
theorem dX9_outage_111 : decode cX9_outage 111 = .ok (.iload 4, 2) := by decide +kernel
theorem dX9_outage_113 : decode cX9_outage 113 = .ok (.laload, 1) := by decide +kernel
theorem dX9_outage_114 : decode cX9_outage 114 = .ok (.lastore, 1) := by decide +kernel
theorem dX9_outage_115 : decode cX9_outage 115 = .ok (.iinc 4 1, 3) := by decide +kernel
theorem dX9_outage_118 : decode cX9_outage 118 = .ok (.goto (-47), 3) := by decide +kernel
theorem dX9_outage_121 : decode cX9_outage 121 = .ok (.iconst 1, 1) := by decide +kernel
theorem dX9_outage_122 : decode cX9_outage 122 = .ok (.ireturn, 1) := by decide +kernel
theorem dX9_earliest_0 : decode cX9_earliest 0 = .ok (.iconst (-1), 1) := by decide +kernel
theorem dX9_earliest_1 : decode cX9_earliest 1 = .ok (.istore_n 1, 1) := by decide +kernel
theorem dX9_earliest_2 : decode cX9_earliest 2 = .ok (.iconst 0, 1) := by decide +kernel
theorem dX9_earliest_3 : decode cX9_earliest 3 = .ok (.istore_n 2, 1) := by decide +kernel
theorem dX9_earliest_4 : decode cX9_earliest 4 = .ok (.iload_n 2, 1) := by decide +kernel
theorem dX9_earliest_5 : decode cX9_earliest 5 = .ok (.aload_n 0, 1) := by decide +kernel
theorem dX9_earliest_6 : decode cX9_earliest 6 = .ok (.getfield 85, 3) := by decide +kernel
theorem dX9_earliest_9 : decode cX9_earliest 9 = .ok (.if_icmp .ge 59, 3) := by decide +kernel
theorem dX9_earliest_12 : decode cX9_earliest 12 = .ok (.aload_n 0, 1) := by decide +kernel
theorem dX9_earliest_13 : decode cX9_earliest 13 = .ok (.getfield 51, 3) := by decide +kernel
theorem dX9_earliest_16 : decode cX9_earliest 16 = .ok (.iload_n 2, 1) := by decide +kernel
theorem dX9_earliest_17 : decode cX9_earliest 17 = .ok (.laload, 1) := by decide +kernel
theorem dX9_earliest_18 : decode cX9_earliest 18 = .ok (.ldc2_w 117, 3) := by decide +kernel
theorem dX9_earliest_21 : decode cX9_earliest 21 = .ok (.lcmp, 1) := by decide +kernel
theorem dX9_earliest_22 : decode cX9_earliest 22 = .ok (.ifCond .eq 40, 3) := by decide +kernel
theorem dX9_earliest_25 : decode cX9_earliest 25 = .ok (.aload_n 0, 1) := by decide +kernel
theorem dX9_earliest_26 : decode cX9_earliest 26 = .ok (.getfield 51, 3) := by decide +kernel
theorem dX9_earliest_29 : decode cX9_earliest 29 = .ok (.iload_n 2, 1) := by decide +kernel
theorem dX9_earliest_30 : decode cX9_earliest 30 = .ok (.laload, 1) := by decide +kernel
theorem dX9_earliest_31 : decode cX9_earliest 31 = .ok (.aload_n 0, 1) := by decide +kernel
theorem dX9_earliest_32 : decode cX9_earliest 32 = .ok (.getfield 129, 3) := by decide +kernel
theorem dX9_earliest_35 : decode cX9_earliest 35 = .ok (.lcmp, 1) := by decide +kernel
theorem dX9_earliest_36 : decode cX9_earliest 36 = .ok (.ifCond .gt 26, 3) := by decide +kernel
theorem dX9_earliest_39 : decode cX9_earliest 39 = .ok (.iload_n 1, 1) := by decide +kernel
theorem dX9_earliest_40 : decode cX9_earliest 40 = .ok (.iconst (-1), 1) := by decide +kernel
theorem dX9_earliest_41 : decode cX9_earliest 41 = .ok (.if_icmp .eq 19, 3) := by decide +kernel
theorem dX9_earliest_44 : decode cX9_earliest 44 = .ok (.aload_n 0, 1) := by decide +kernel
theorem dX9_earliest_45 : decode cX9_earliest 45 = .ok (.getfield 51, 3) := by decide +kernel
theorem dX9_earliest_48 : decode cX9_earliest 48 = .ok (.iload_n 2, 1) := by decide +kernel
theorem dX9_earliest_49 : decode cX9_earliest 49 = .ok (.laload, 1) := by decide +kernel
theorem dX9_earliest_50 : decode cX9_earliest 50 = .ok (.aload_n 0, 1) := by decide +kernel
theorem dX9_earliest_51 : decode cX9_earliest 51 = .ok (.getfield 51, 3) := by decide +kernel
theorem dX9_earliest_54 : decode cX9_earliest 54 = .ok (.iload_n 1, 1) := by decide +kernel
theorem dX9_earliest_55 : decode cX9_earliest 55 = .ok (.laload, 1) := by decide +kernel
theorem dX9_earliest_56 : decode cX9_earliest 56 = .ok (.lcmp, 1) := by decide +kernel
theorem dX9_earliest_57 : decode cX9_earliest 57 = .ok (.ifCond .ge 5, 3) := by decide +kernel
theorem dX9_earliest_60 : decode cX9_earliest 60 = .ok (.iload_n 2, 1) := by decide +kernel
theorem dX9_earliest_61 : decode cX9_earliest 61 = .ok (.istore_n 1, 1) := by decide +kernel
theorem dX9_earliest_62 : decode cX9_earliest 62 = .ok (.iinc 2 1, 3) := by decide +kernel
theorem dX9_earliest_65 : decode cX9_earliest 65 = .ok (.goto (-61), 3) := by decide +kernel
theorem dX9_earliest_68 : decode cX9_earliest 68 = .ok (.iload_n 1, 1) := by decide +kernel
theorem dX9_earliest_69 : decode cX9_earliest 69 = .ok (.ireturn, 1) := by decide +kernel
theorem dX9_sell_0 : decode cX9_sell 0 = .ok (.aload_n 0, 1) := by decide +kernel
theorem dX9_sell_1 : decode cX9_sell 1 = .ok (.getfield 51, 3) := by decide +kernel
theorem dX9_sell_4 : decode cX9_sell 4 = .ok (.iload_n 1, 1) := by decide +kernel
theorem dX9_sell_5 : decode cX9_sell 5 = .ok (.laload, 1) := by decide +kernel
theorem dX9_sell_6 : decode cX9_sell 6 = .ok (.lstore_n 2, 1) := by decide +kernel
theorem dX9_sell_7 : decode cX9_sell 7 = .ok (.aload_n 0, 1) := by decide +kernel
theorem dX9_sell_8 : decode cX9_sell 8 = .ok (.lload_n 2, 1) := by decide +kernel
theorem dX9_sell_9 : decode cX9_sell 9 = .ok (.invokevirtual 146, 3) := by decide +kernel
theorem dX9_sell_12 : decode cX9_sell 12 = .ok (.lstore 4, 2) := by decide +kernel
theorem dX9_sell_14 : decode cX9_sell 14 = .ok (.aload_n 0, 1) := by decide +kernel
theorem dX9_sell_15 : decode cX9_sell 15 = .ok (.getfield 54, 3) := by decide +kernel
theorem dX9_sell_18 : decode cX9_sell 18 = .ok (.istore 6, 2) := by decide +kernel
theorem dX9_sell_20 : decode cX9_sell 20 = .ok (.aload_n 0, 1) := by decide +kernel
theorem dX9_sell_21 : decode cX9_sell 21 = .ok (.getfield 42, 3) := by decide +kernel
theorem dX9_sell_24 : decode cX9_sell 24 = .ok (.iload 6, 2) := by decide +kernel
theorem dX9_sell_26 : decode cX9_sell 26 = .ok (.iconst 0, 1) := by decide +kernel
theorem dX9_sell_27 : decode cX9_sell 27 = .ok (.iastore, 1) := by decide +kernel
theorem dX9_sell_28 : decode cX9_sell 28 = .ok (.iconst 0, 1) := by decide +kernel
theorem dX9_sell_29 : decode cX9_sell 29 = .ok (.istore 7, 2) := by decide +kernel
theorem dX9_sell_31 : decode cX9_sell 31 = .ok (.iload 7, 2) := by decide +kernel
theorem dX9_sell_33 : decode cX9_sell 33 = .ok (.aload_n 0, 1) := by decide +kernel
theorem dX9_sell_34 : decode cX9_sell 34 = .ok (.getfield 85, 3) := by decide +kernel
theorem dX9_sell_37 : decode cX9_sell 37 = .ok (.if_icmp .ge 68, 3) := by decide +kernel
theorem dX9_sell_40 : decode cX9_sell 40 = .ok (.aload_n 0, 1) := by decide +kernel
theorem dX9_sell_41 : decode cX9_sell 41 = .ok (.getfield 42, 3) := by decide +kernel
theorem dX9_sell_44 : decode cX9_sell 44 = .ok (.iload 6, 2) := by decide +kernel
theorem dX9_sell_46 : decode cX9_sell 46 = .ok (.iload 7, 2) := by decide +kernel
theorem dX9_sell_48 : decode cX9_sell 48 = .ok (.iload_n 1, 1) := by decide +kernel
theorem dX9_sell_49 : decode cX9_sell 49 = .ok (.if_icmp .eq 42, 3) := by decide +kernel
theorem dX9_sell_52 : decode cX9_sell 52 = .ok (.aload_n 0, 1) := by decide +kernel
theorem dX9_sell_53 : decode cX9_sell 53 = .ok (.getfield 51, 3) := by decide +kernel
theorem dX9_sell_56 : decode cX9_sell 56 = .ok (.iload 7, 2) := by decide +kernel
theorem dX9_sell_58 : decode cX9_sell 58 = .ok (.laload, 1) := by decide +kernel
theorem dX9_sell_59 : decode cX9_sell 59 = .ok (.lload_n 2, 1) := by decide +kernel
theorem dX9_sell_60 : decode cX9_sell 60 = .ok (.lcmp, 1) := by decide +kernel
theorem dX9_sell_61 : decode cX9_sell 61 = .ok (.ifCond .ne 30, 3) := by decide +kernel
theorem dX9_sell_64 : decode cX9_sell 64 = .ok (.aload_n 0, 1) := by decide +kernel
theorem dX9_sell_65 : decode cX9_sell 65 = .ok (.iload 7, 2) := by decide +kernel
theorem dX9_sell_67 : decode cX9_sell 67 = .ok (.invokevirtual 157, 3) := by decide +kernel
theorem dX9_sell_70 : decode cX9_sell 70 = .ok (.lload 4, 2) := by decide +kernel
theorem dX9_sell_72 : decode cX9_sell 72 = .ok (.lcmp, 1) := by decide +kernel
theorem dX9_sell_73 : decode cX9_sell 73 = .ok (.ifCond .lt 18, 3) := by decide +kernel
theorem dX9_sell_76 : decode cX9_sell 76 = .ok (.aload_n 0, 1) := by decide +kernel
theorem dX9_sell_77 : decode cX9_sell 77 = .ok (.getfield 42, 3) := by decide +kernel
theorem dX9_sell_80 : decode cX9_sell 80 = .ok (.iload 6, 2) := by decide +kernel
theorem dX9_sell_82 : decode cX9_sell 82 = .ok (.iaload, 1) := by decide +kernel
theorem dX9_sell_83 : decode cX9_sell 83 = .ok (.iconst 1, 1) := by decide +kernel
theorem dX9_sell_84 : decode cX9_sell 84 = .ok (.iload 7, 2) := by decide +kernel
theorem dX9_sell_86 : decode cX9_sell 86 = .ok (.ishl, 1) := by decide +kernel
theorem dX9_sell_87 : decode cX9_sell 87 = .ok (.ior, 1) := by decide +kernel
theorem dX9_sell_88 : decode cX9_sell 88 = .ok (.goto 10, 3) := by decide +kernel
theorem dX9_sell_91 : decode cX9_sell 91 = .ok (.aload_n 0, 1) := by decide +kernel
theorem dX9_sell_92 : decode cX9_sell 92 = .ok (.getfield 42, 3) := by decide +kernel
theorem dX9_sell_95 : decode cX9_sell 95 = .ok (.iload 6, 2) := by decide +kernel
theorem dX9_sell_97 : decode cX9_sell 97 = .ok (.iaload, 1) := by decide +kernel
theorem dX9_sell_98 : decode cX9_sell 98 = .ok (.iastore, 1) := by decide +kernel
theorem dX9_sell_99 : decode cX9_sell 99 = .ok (.iinc 7 1, 3) := by decide +kernel
theorem dX9_sell_102 : decode cX9_sell 102 = .ok (.goto (-71), 3) := by decide +kernel
theorem dX9_sell_105 : decode cX9_sell 105 = .ok (.aload_n 0, 1) := by decide +kernel
theorem dX9_sell_106 : decode cX9_sell 106 = .ok (.getfield 20, 3) := by decide +kernel
theorem dX9_sell_109 : decode cX9_sell 109 = .ok (.iload 6, 2) := by decide +kernel
theorem dX9_sell_111 : decode cX9_sell 111 = .ok (.iconst 3, 1) := by decide +kernel
theorem dX9_sell_112 : decode cX9_sell 112 = .ok (.iastore, 1) := by decide +kernel
theorem dX9_sell_113 : decode cX9_sell 113 = .ok (.aload_n 0, 1) := by decide +kernel
theorem dX9_sell_114 : decode cX9_sell 114 = .ok (.getfield 23, 3) := by decide +kernel
theorem dX9_sell_117 : decode cX9_sell 117 = .ok (.iload 6, 2) := by decide +kernel
theorem dX9_sell_119 : decode cX9_sell 119 = .ok (.iload_n 1, 1) := by decide +kernel
theorem dX9_sell_120 : decode cX9_sell 120 = .ok (.iastore, 1) := by decide +kernel
theorem dX9_sell_121 : decode cX9_sell 121 = .ok (.aload_n 0, 1) := by decide +kernel
theorem dX9_sell_122 : decode cX9_sell 122 = .ok (.getfield 26, 3) := by decide +kernel
theorem dX9_sell_125 : decode cX9_sell 125 = .ok (.iload 6, 2) := by decide +kernel
theorem dX9_sell_127 : decode cX9_sell 127 = .ok (.lload 4, 2) := by decide +kernel
theorem dX9_sell_129 : decode cX9_sell 129 = .ok (.lastore, 1) := by decide +kernel
theorem dX9_sell_130 : decode cX9_sell 130 = .ok (.aload_n 0, 1) := by decide +kernel
theorem dX9_sell_131 : decode cX9_sell 131 = .ok (.getfield 29, 3) := by decide +kernel
theorem dX9_sell_134 : decode cX9_sell 134 = .ok (.iload 6, 2) := by decide +kernel
theorem dX9_sell_136 : decode cX9_sell 136 = .ok (.iconst 1, 1) := by decide +kernel
theorem dX9_sell_137 : decode cX9_sell 137 = .ok (.bastore, 1) := by decide +kernel
theorem dX9_sell_138 : decode cX9_sell 138 = .ok (.aload_n 0, 1) := by decide +kernel
theorem dX9_sell_139 : decode cX9_sell 139 = .ok (.iconst (-1), 1) := by decide +kernel
theorem dX9_sell_140 : decode cX9_sell 140 = .ok (.putfield 54, 3) := by decide +kernel
theorem dX9_sell_143 : decode cX9_sell 143 = .ok (.aload_n 0, 1) := by decide +kernel
theorem dX9_sell_144 : decode cX9_sell 144 = .ok (.iconst 1, 1) := by decide +kernel
theorem dX9_sell_145 : decode cX9_sell 145 = .ok (.iload 6, 2) := by decide +kernel
theorem dX9_sell_147 : decode cX9_sell 147 = .ok (.iload_n 1, 1) := by decide +kernel
theorem dX9_sell_148 : decode cX9_sell 148 = .ok (.lload 4, 2) := by decide +kernel
theorem dX9_sell_150 : decode cX9_sell 150 = .ok (.invokevirtual 160, 3) := by decide +kernel
theorem dX9_sell_153 : decode cX9_sell 153 = .ok (.return_, 1) := by decide +kernel
theorem dX9_goOn_0 : decode cX9_goOn 0 = .ok (.aload_n 0, 1) := by decide +kernel
theorem dX9_goOn_1 : decode cX9_goOn 1 = .ok (.getfield 54, 3) := by decide +kernel
theorem dX9_goOn_4 : decode cX9_goOn 4 = .ok (.iconst (-1), 1) := by decide +kernel
theorem dX9_goOn_5 : decode cX9_goOn 5 = .ok (.if_icmp .ne 5, 3) := by decide +kernel
theorem dX9_goOn_8 : decode cX9_goOn 8 = .ok (.iconst (-1), 1) := by decide +kernel
theorem dX9_goOn_9 : decode cX9_goOn 9 = .ok (.ireturn, 1) := by decide +kernel
theorem dX9_goOn_10 : decode cX9_goOn 10 = .ok (.aload_n 0, 1) := by decide +kernel
theorem dX9_goOn_11 : decode cX9_goOn 11 = .ok (.getfield 142, 3) := by decide +kernel
theorem dX9_goOn_14 : decode cX9_goOn 14 = .ok (.ifCond .eq 5, 3) := by decide +kernel
theorem dX9_goOn_17 : decode cX9_goOn 17 = .ok (.iconst 0, 1) := by decide +kernel
theorem dX9_goOn_18 : decode cX9_goOn 18 = .ok (.ireturn, 1) := by decide +kernel
theorem dX9_goOn_19 : decode cX9_goOn 19 = .ok (.aload_n 0, 1) := by decide +kernel
theorem dX9_goOn_20 : decode cX9_goOn 20 = .ok (.aload_n 0, 1) := by decide +kernel
theorem dX9_goOn_21 : decode cX9_goOn 21 = .ok (.getfield 129, 3) := by decide +kernel
theorem dX9_goOn_24 : decode cX9_goOn 24 = .ok (.lload_n 1, 1) := by decide +kernel
theorem dX9_goOn_25 : decode cX9_goOn 25 = .ok (.ladd, 1) := by decide +kernel
theorem dX9_goOn_26 : decode cX9_goOn 26 = .ok (.aload_n 0, 1) := by decide +kernel
theorem dX9_goOn_27 : decode cX9_goOn 27 = .ok (.getfield 133, 3) := by decide +kernel
theorem dX9_goOn_30 : decode cX9_goOn 30 = .ok (.lcmp, 1) := by decide +kernel
theorem dX9_goOn_31 : decode cX9_goOn 31 = .ok (.ifCond .ge 12, 3) := by decide +kernel
theorem dX9_goOn_34 : decode cX9_goOn 34 = .ok (.aload_n 0, 1) := by decide +kernel
theorem dX9_goOn_35 : decode cX9_goOn 35 = .ok (.getfield 129, 3) := by decide +kernel
theorem dX9_goOn_38 : decode cX9_goOn 38 = .ok (.lload_n 1, 1) := by decide +kernel
theorem dX9_goOn_39 : decode cX9_goOn 39 = .ok (.ladd, 1) := by decide +kernel
theorem dX9_goOn_40 : decode cX9_goOn 40 = .ok (.goto 7, 3) := by decide +kernel
theorem dX9_goOn_43 : decode cX9_goOn 43 = .ok (.aload_n 0, 1) := by decide +kernel
theorem dX9_goOn_44 : decode cX9_goOn 44 = .ok (.getfield 133, 3) := by decide +kernel
theorem dX9_goOn_47 : decode cX9_goOn 47 = .ok (.putfield 129, 3) := by decide +kernel
theorem dX9_goOn_50 : decode cX9_goOn 50 = .ok (.aload_n 0, 1) := by decide +kernel
theorem dX9_goOn_51 : decode cX9_goOn 51 = .ok (.invokevirtual 164, 3) := by decide +kernel
theorem dX9_goOn_54 : decode cX9_goOn 54 = .ok (.istore_n 3, 1) := by decide +kernel
theorem dX9_goOn_55 : decode cX9_goOn 55 = .ok (.iload_n 3, 1) := by decide +kernel
theorem dX9_goOn_56 : decode cX9_goOn 56 = .ok (.iconst (-1), 1) := by decide +kernel
theorem dX9_goOn_57 : decode cX9_goOn 57 = .ok (.if_icmp .eq 46, 3) := by decide +kernel
theorem dX9_goOn_60 : decode cX9_goOn 60 = .ok (.aload_n 0, 1) := by decide +kernel
theorem dX9_goOn_61 : decode cX9_goOn 61 = .ok (.aload_n 0, 1) := by decide +kernel
theorem dX9_goOn_62 : decode cX9_goOn 62 = .ok (.getfield 51, 3) := by decide +kernel
theorem dX9_goOn_65 : decode cX9_goOn 65 = .ok (.iload_n 3, 1) := by decide +kernel
theorem dX9_goOn_66 : decode cX9_goOn 66 = .ok (.laload, 1) := by decide +kernel
theorem dX9_goOn_67 : decode cX9_goOn 67 = .ok (.invokevirtual 146, 3) := by decide +kernel
theorem dX9_goOn_70 : decode cX9_goOn 70 = .ok (.aload_n 0, 1) := by decide +kernel
theorem dX9_goOn_71 : decode cX9_goOn 71 = .ok (.iload_n 3, 1) := by decide +kernel
theorem dX9_goOn_72 : decode cX9_goOn 72 = .ok (.invokevirtual 157, 3) := by decide +kernel
theorem dX9_goOn_75 : decode cX9_goOn 75 = .ok (.lcmp, 1) := by decide +kernel
theorem dX9_goOn_76 : decode cX9_goOn 76 = .ok (.ifCond .gt 10, 3) := by decide +kernel
theorem dX9_goOn_79 : decode cX9_goOn 79 = .ok (.aload_n 0, 1) := by decide +kernel
theorem dX9_goOn_80 : decode cX9_goOn 80 = .ok (.iload_n 3, 1) := by decide +kernel
theorem dX9_goOn_81 : decode cX9_goOn 81 = .ok (.invokevirtual 168, 3) := by decide +kernel
theorem dX9_goOn_84 : decode cX9_goOn 84 = .ok (.iconst 1, 1) := by decide +kernel
theorem dX9_goOn_85 : decode cX9_goOn 85 = .ok (.ireturn, 1) := by decide +kernel
theorem dX9_goOn_86 : decode cX9_goOn 86 = .ok (.aload_n 0, 1) := by decide +kernel
theorem dX9_goOn_87 : decode cX9_goOn 87 = .ok (.getfield 51, 3) := by decide +kernel
theorem dX9_goOn_90 : decode cX9_goOn 90 = .ok (.iload_n 3, 1) := by decide +kernel
theorem dX9_goOn_91 : decode cX9_goOn 91 = .ok (.ldc2_w 117, 3) := by decide +kernel
theorem dX9_goOn_94 : decode cX9_goOn 94 = .ok (.lastore, 1) := by decide +kernel
theorem dX9_goOn_95 : decode cX9_goOn 95 = .ok (.aload_n 0, 1) := by decide +kernel
theorem dX9_goOn_96 : decode cX9_goOn 96 = .ok (.invokevirtual 164, 3) := by decide +kernel
theorem dX9_goOn_99 : decode cX9_goOn 99 = .ok (.istore_n 3, 1) := by decide +kernel
theorem dX9_goOn_100 : decode cX9_goOn 100 = .ok (.goto (-45), 3) := by decide +kernel
theorem dX9_goOn_103 : decode cX9_goOn 103 = .ok (.aload_n 0, 1) := by decide +kernel
theorem dX9_goOn_104 : decode cX9_goOn 104 = .ok (.getfield 129, 3) := by decide +kernel
theorem dX9_goOn_107 : decode cX9_goOn 107 = .ok (.aload_n 0, 1) := by decide +kernel
theorem dX9_goOn_108 : decode cX9_goOn 108 = .ok (.getfield 133, 3) := by decide +kernel
theorem dX9_goOn_111 : decode cX9_goOn 111 = .ok (.lcmp, 1) := by decide +kernel
theorem dX9_goOn_112 : decode cX9_goOn 112 = .ok (.ifCond .ge 5, 3) := by decide +kernel
theorem dX9_goOn_115 : decode cX9_goOn 115 = .ok (.iconst 0, 1) := by decide +kernel
theorem dX9_goOn_116 : decode cX9_goOn 116 = .ok (.ireturn, 1) := by decide +kernel
theorem dX9_goOn_117 : decode cX9_goOn 117 = .ok (.aload_n 0, 1) := by decide +kernel
theorem dX9_goOn_118 : decode cX9_goOn 118 = .ok (.getfield 20, 3) := by decide +kernel
theorem dX9_goOn_121 : decode cX9_goOn 121 = .ok (.aload_n 0, 1) := by decide +kernel
theorem dX9_goOn_122 : decode cX9_goOn 122 = .ok (.getfield 54, 3) := by decide +kernel
theorem dX9_goOn_125 : decode cX9_goOn 125 = .ok (.iconst 4, 1) := by decide +kernel
theorem dX9_goOn_126 : decode cX9_goOn 126 = .ok (.iastore, 1) := by decide +kernel
theorem dX9_goOn_127 : decode cX9_goOn 127 = .ok (.aload_n 0, 1) := by decide +kernel
theorem dX9_goOn_128 : decode cX9_goOn 128 = .ok (.iconst 2, 1) := by decide +kernel
theorem dX9_goOn_129 : decode cX9_goOn 129 = .ok (.aload_n 0, 1) := by decide +kernel
theorem dX9_goOn_130 : decode cX9_goOn 130 = .ok (.getfield 54, 3) := by decide +kernel
theorem dX9_goOn_133 : decode cX9_goOn 133 = .ok (.iconst (-1), 1) := by decide +kernel
theorem dX9_goOn_134 : decode cX9_goOn 134 = .ok (.lconst 0, 1) := by decide +kernel
theorem dX9_goOn_135 : decode cX9_goOn 135 = .ok (.invokevirtual 160, 3) := by decide +kernel
theorem dX9_goOn_138 : decode cX9_goOn 138 = .ok (.aload_n 0, 1) := by decide +kernel
theorem dX9_goOn_139 : decode cX9_goOn 139 = .ok (.iconst (-1), 1) := by decide +kernel
theorem dX9_goOn_140 : decode cX9_goOn 140 = .ok (.putfield 54, 3) := by decide +kernel
theorem dX9_goOn_143 : decode cX9_goOn 143 = .ok (.iconst 2, 1) := by decide +kernel
theorem dX9_goOn_144 : decode cX9_goOn 144 = .ok (.ireturn, 1) := by decide +kernel
theorem dX9_tick_0 : decode cX9_tick 0 = .ok (.lload_n 1, 1) := by decide +kernel
theorem dX9_tick_1 : decode cX9_tick 1 = .ok (.lconst 1, 1) := by decide +kernel
theorem dX9_tick_2 : decode cX9_tick 2 = .ok (.lcmp, 1) := by decide +kernel
theorem dX9_tick_3 : decode cX9_tick 3 = .ok (.ifCond .lt 11, 3) := by decide +kernel
theorem dX9_tick_6 : decode cX9_tick 6 = .ok (.lload_n 1, 1) := by decide +kernel
theorem dX9_tick_7 : decode cX9_tick 7 = .ok (.ldc2_w 123, 3) := by decide +kernel
theorem dX9_tick_10 : decode cX9_tick 10 = .ok (.lcmp, 1) := by decide +kernel
theorem dX9_tick_11 : decode cX9_tick 11 = .ok (.ifCond .le 5, 3) := by decide +kernel
theorem dX9_tick_14 : decode cX9_tick 14 = .ok (.iconst (-1), 1) := by decide +kernel
theorem dX9_tick_15 : decode cX9_tick 15 = .ok (.ireturn, 1) := by decide +kernel
theorem dX9_tick_16 : decode cX9_tick 16 = .ok (.aload_n 0, 1) := by decide +kernel
theorem dX9_tick_17 : decode cX9_tick 17 = .ok (.dup, 1) := by decide +kernel
theorem dX9_tick_18 : decode cX9_tick 18 = .ok (.getfield 172, 3) := by decide +kernel
theorem dX9_tick_21 : decode cX9_tick 21 = .ok (.lload_n 1, 1) := by decide +kernel
theorem dX9_tick_22 : decode cX9_tick 22 = .ok (.ladd, 1) := by decide +kernel
theorem dX9_tick_23 : decode cX9_tick 23 = .ok (.putfield 172, 3) := by decide +kernel
theorem dX9_tick_26 : decode cX9_tick 26 = .ok (.aload_n 0, 1) := by decide +kernel
theorem dX9_tick_27 : decode cX9_tick 27 = .ok (.lload_n 1, 1) := by decide +kernel
theorem dX9_tick_28 : decode cX9_tick 28 = .ok (.invokevirtual 175, 3) := by decide +kernel
theorem dX9_tick_31 : decode cX9_tick 31 = .ok (.istore_n 3, 1) := by decide +kernel
theorem dX9_tick_32 : decode cX9_tick 32 = .ok (.iconst 0, 1) := by decide +kernel
theorem dX9_tick_33 : decode cX9_tick 33 = .ok (.istore 4, 2) := by decide +kernel
theorem dX9_tick_35 : decode cX9_tick 35 = .ok (.iload 4, 2) := by decide +kernel
theorem dX9_tick_37 : decode cX9_tick 37 = .ok (.aload_n 0, 1) := by decide +kernel
theorem dX9_tick_38 : decode cX9_tick 38 = .ok (.getfield 82, 3) := by decide +kernel
theorem dX9_tick_41 : decode cX9_tick 41 = .ok (.if_icmp .ge 68, 3) := by decide +kernel
theorem dX9_tick_44 : decode cX9_tick 44 = .ok (.aload_n 0, 1) := by decide +kernel
theorem dX9_tick_45 : decode cX9_tick 45 = .ok (.getfield 20, 3) := by decide +kernel
theorem dX9_tick_48 : decode cX9_tick 48 = .ok (.iload 4, 2) := by decide +kernel
theorem dX9_tick_50 : decode cX9_tick 50 = .ok (.iaload, 1) := by decide +kernel
theorem dX9_tick_51 : decode cX9_tick 51 = .ok (.iconst 2, 1) := by decide +kernel
theorem dX9_tick_52 : decode cX9_tick 52 = .ok (.if_icmp .ne 51, 3) := by decide +kernel
theorem dX9_tick_55 : decode cX9_tick 55 = .ok (.aload_n 0, 1) := by decide +kernel
theorem dX9_tick_56 : decode cX9_tick 56 = .ok (.getfield 172, 3) := by decide +kernel
theorem dX9_tick_59 : decode cX9_tick 59 = .ok (.aload_n 0, 1) := by decide +kernel
theorem dX9_tick_60 : decode cX9_tick 60 = .ok (.getfield 39, 3) := by decide +kernel
theorem dX9_tick_63 : decode cX9_tick 63 = .ok (.iload 4, 2) := by decide +kernel
theorem dX9_tick_65 : decode cX9_tick 65 = .ok (.laload, 1) := by decide +kernel
theorem dX9_tick_66 : decode cX9_tick 66 = .ok (.lsub, 1) := by decide +kernel
theorem dX9_tick_67 : decode cX9_tick 67 = .ok (.ldc2_w 179, 3) := by decide +kernel
theorem dX9_tick_70 : decode cX9_tick 70 = .ok (.lcmp, 1) := by decide +kernel
theorem dX9_tick_71 : decode cX9_tick 71 = .ok (.ifCond .lt 32, 3) := by decide +kernel
theorem dX9_tick_74 : decode cX9_tick 74 = .ok (.aload_n 0, 1) := by decide +kernel
theorem dX9_tick_75 : decode cX9_tick 75 = .ok (.getfield 20, 3) := by decide +kernel
theorem dX9_tick_78 : decode cX9_tick 78 = .ok (.iload 4, 2) := by decide +kernel
theorem dX9_tick_80 : decode cX9_tick 80 = .ok (.iconst 3, 1) := by decide +kernel
theorem dX9_tick_81 : decode cX9_tick 81 = .ok (.iastore, 1) := by decide +kernel
theorem dX9_tick_82 : decode cX9_tick 82 = .ok (.aload_n 0, 1) := by decide +kernel
theorem dX9_tick_83 : decode cX9_tick 83 = .ok (.iconst 3, 1) := by decide +kernel
theorem dX9_tick_84 : decode cX9_tick 84 = .ok (.iload 4, 2) := by decide +kernel
theorem dX9_tick_86 : decode cX9_tick 86 = .ok (.aload_n 0, 1) := by decide +kernel
theorem dX9_tick_87 : decode cX9_tick 87 = .ok (.getfield 23, 3) := by decide +kernel
theorem dX9_tick_90 : decode cX9_tick 90 = .ok (.iload 4, 2) := by decide +kernel
theorem dX9_tick_92 : decode cX9_tick 92 = .ok (.iaload, 1) := by decide +kernel
theorem dX9_tick_93 : decode cX9_tick 93 = .ok (.aload_n 0, 1) := by decide +kernel
theorem dX9_tick_94 : decode cX9_tick 94 = .ok (.getfield 26, 3) := by decide +kernel
theorem dX9_tick_97 : decode cX9_tick 97 = .ok (.iload 4, 2) := by decide +kernel
theorem dX9_tick_99 : decode cX9_tick 99 = .ok (.laload, 1) := by decide +kernel
theorem dX9_tick_100 : decode cX9_tick 100 = .ok (.invokevirtual 160, 3) := by decide +kernel
theorem dX9_tick_103 : decode cX9_tick 103 = .ok (.iinc 4 1, 3) := by decide +kernel
theorem dX9_tick_106 : decode cX9_tick 106 = .ok (.goto (-71), 3) := by decide +kernel
theorem dX9_tick_109 : decode cX9_tick 109 = .ok (.iload_n 3, 1) := by decide +kernel
theorem dX9_tick_110 : decode cX9_tick 110 = .ok (.ireturn, 1) := by decide +kernel
theorem dX9_tie_0 : decode cX9_tie 0 = .ok (.aload_n 0, 1) := by decide +kernel
theorem dX9_tie_1 : decode cX9_tie 1 = .ok (.iload_n 1, 1) := by decide +kernel
theorem dX9_tie_2 : decode cX9_tie 2 = .ok (.invokevirtual 119, 3) := by decide +kernel
theorem dX9_tie_5 : decode cX9_tie 5 = .ok (.ifCond .eq 7, 3) := by decide +kernel
theorem dX9_tie_8 : decode cX9_tie 8 = .ok (.iload_n 2, 1) := by decide +kernel
theorem dX9_tie_9 : decode cX9_tie 9 = .ok (.ifCond .ge 5, 3) := by decide +kernel
theorem dX9_tie_12 : decode cX9_tie 12 = .ok (.iconst (-1), 1) := by decide +kernel
theorem dX9_tie_13 : decode cX9_tie 13 = .ok (.ireturn, 1) := by decide +kernel
theorem dX9_tie_14 : decode cX9_tie 14 = .ok (.iload_n 2, 1) := by decide +kernel
theorem dX9_tie_15 : decode cX9_tie 15 = .ok (.istore_n 3, 1) := by decide +kernel
theorem dX9_tie_16 : decode cX9_tie 16 = .ok (.iconst 0, 1) := by decide +kernel
theorem dX9_tie_17 : decode cX9_tie 17 = .ok (.istore 4, 2) := by decide +kernel
theorem dX9_tie_19 : decode cX9_tie 19 = .ok (.iload 4, 2) := by decide +kernel
theorem dX9_tie_21 : decode cX9_tie 21 = .ok (.aload_n 0, 1) := by decide +kernel
theorem dX9_tie_22 : decode cX9_tie 22 = .ok (.getfield 85, 3) := by decide +kernel
theorem dX9_tie_25 : decode cX9_tie 25 = .ok (.if_icmp .ge 34, 3) := by decide +kernel
theorem dX9_tie_28 : decode cX9_tie 28 = .ok (.aload_n 0, 1) := by decide +kernel
theorem dX9_tie_29 : decode cX9_tie 29 = .ok (.getfield 42, 3) := by decide +kernel
theorem dX9_tie_32 : decode cX9_tie 32 = .ok (.iload_n 1, 1) := by decide +kernel
theorem dX9_tie_33 : decode cX9_tie 33 = .ok (.iaload, 1) := by decide +kernel
theorem dX9_tie_34 : decode cX9_tie 34 = .ok (.iload 4, 2) := by decide +kernel
theorem dX9_tie_36 : decode cX9_tie 36 = .ok (.ishr, 1) := by decide +kernel
theorem dX9_tie_37 : decode cX9_tie 37 = .ok (.iconst 1, 1) := by decide +kernel
theorem dX9_tie_38 : decode cX9_tie 38 = .ok (.iand, 1) := by decide +kernel
theorem dX9_tie_39 : decode cX9_tie 39 = .ok (.iconst 1, 1) := by decide +kernel
theorem dX9_tie_40 : decode cX9_tie 40 = .ok (.if_icmp .ne 13, 3) := by decide +kernel
theorem dX9_tie_43 : decode cX9_tie 43 = .ok (.iload_n 3, 1) := by decide +kernel
theorem dX9_tie_44 : decode cX9_tie 44 = .ok (.ifCond .ne 6, 3) := by decide +kernel
theorem dX9_tie_47 : decode cX9_tie 47 = .ok (.iload 4, 2) := by decide +kernel
theorem dX9_tie_49 : decode cX9_tie 49 = .ok (.ireturn, 1) := by decide +kernel
theorem dX9_tie_50 : decode cX9_tie 50 = .ok (.iinc 3 (-1), 3) := by decide +kernel
theorem dX9_tie_53 : decode cX9_tie 53 = .ok (.iinc 4 1, 3) := by decide +kernel
theorem dX9_tie_56 : decode cX9_tie 56 = .ok (.goto (-37), 3) := by decide +kernel
theorem dX9_tie_59 : decode cX9_tie 59 = .ok (.iconst (-1), 1) := by decide +kernel
theorem dX9_tie_60 : decode cX9_tie 60 = .ok (.ireturn, 1) := by decide +kernel
theorem dX9_isBought_0 : decode cX9_isBought 0 = .ok (.aload_n 0, 1) := by decide +kernel
theorem dX9_isBought_1 : decode cX9_isBought 1 = .ok (.iload_n 1, 1) := by decide +kernel
theorem dX9_isBought_2 : decode cX9_isBought 2 = .ok (.invokevirtual 119, 3) := by decide +kernel
theorem dX9_isBought_5 : decode cX9_isBought 5 = .ok (.ifCond .eq 27, 3) := by decide +kernel
theorem dX9_isBought_8 : decode cX9_isBought 8 = .ok (.aload_n 0, 1) := by decide +kernel
theorem dX9_isBought_9 : decode cX9_isBought 9 = .ok (.getfield 20, 3) := by decide +kernel
theorem dX9_isBought_12 : decode cX9_isBought 12 = .ok (.iload_n 1, 1) := by decide +kernel
theorem dX9_isBought_13 : decode cX9_isBought 13 = .ok (.iaload, 1) := by decide +kernel
theorem dX9_isBought_14 : decode cX9_isBought 14 = .ok (.iconst 3, 1) := by decide +kernel
theorem dX9_isBought_15 : decode cX9_isBought 15 = .ok (.if_icmp .eq 13, 3) := by decide +kernel
theorem dX9_isBought_18 : decode cX9_isBought 18 = .ok (.aload_n 0, 1) := by decide +kernel
theorem dX9_isBought_19 : decode cX9_isBought 19 = .ok (.getfield 20, 3) := by decide +kernel
theorem dX9_isBought_22 : decode cX9_isBought 22 = .ok (.iload_n 1, 1) := by decide +kernel
theorem dX9_isBought_23 : decode cX9_isBought 23 = .ok (.iaload, 1) := by decide +kernel
theorem dX9_isBought_24 : decode cX9_isBought 24 = .ok (.iconst 2, 1) := by decide +kernel
theorem dX9_isBought_25 : decode cX9_isBought 25 = .ok (.if_icmp .ne 7, 3) := by decide +kernel
theorem dX9_isBought_28 : decode cX9_isBought 28 = .ok (.iconst 1, 1) := by decide +kernel
theorem dX9_isBought_29 : decode cX9_isBought 29 = .ok (.goto 4, 3) := by decide +kernel
theorem dX9_isBought_32 : decode cX9_isBought 32 = .ok (.iconst 0, 1) := by decide +kernel
theorem dX9_isBought_33 : decode cX9_isBought 33 = .ok (.ireturn, 1) := by decide +kernel
theorem dX9_winner_0 : decode cX9_winner 0 = .ok (.aload_n 0, 1) := by decide +kernel
theorem dX9_winner_1 : decode cX9_winner 1 = .ok (.iload_n 1, 1) := by decide +kernel
theorem dX9_winner_2 : decode cX9_winner 2 = .ok (.invokevirtual 181, 3) := by decide +kernel
theorem dX9_winner_5 : decode cX9_winner 5 = .ok (.ifCond .eq 12, 3) := by decide +kernel
theorem dX9_winner_8 : decode cX9_winner 8 = .ok (.aload_n 0, 1) := by decide +kernel
theorem dX9_winner_9 : decode cX9_winner 9 = .ok (.getfield 23, 3) := by decide +kernel
theorem dX9_winner_12 : decode cX9_winner 12 = .ok (.iload_n 1, 1) := by decide +kernel
theorem dX9_winner_13 : decode cX9_winner 13 = .ok (.iaload, 1) := by decide +kernel
theorem dX9_winner_14 : decode cX9_winner 14 = .ok (.goto 4, 3) := by decide +kernel
theorem dX9_winner_17 : decode cX9_winner 17 = .ok (.iconst (-1), 1) := by decide +kernel
theorem dX9_winner_18 : decode cX9_winner 18 = .ok (.ireturn, 1) := by decide +kernel
theorem dX9_price_0 : decode cX9_price 0 = .ok (.aload_n 0, 1) := by decide +kernel
theorem dX9_price_1 : decode cX9_price 1 = .ok (.iload_n 1, 1) := by decide +kernel
theorem dX9_price_2 : decode cX9_price 2 = .ok (.invokevirtual 181, 3) := by decide +kernel
theorem dX9_price_5 : decode cX9_price 5 = .ok (.ifCond .eq 12, 3) := by decide +kernel
theorem dX9_price_8 : decode cX9_price 8 = .ok (.aload_n 0, 1) := by decide +kernel
theorem dX9_price_9 : decode cX9_price 9 = .ok (.getfield 26, 3) := by decide +kernel
theorem dX9_price_12 : decode cX9_price 12 = .ok (.iload_n 1, 1) := by decide +kernel
theorem dX9_price_13 : decode cX9_price 13 = .ok (.laload, 1) := by decide +kernel
theorem dX9_price_14 : decode cX9_price 14 = .ok (.goto 6, 3) := by decide +kernel
theorem dX9_price_17 : decode cX9_price 17 = .ok (.ldc2_w 117, 3) := by decide +kernel
theorem dX9_price_20 : decode cX9_price 20 = .ok (.lreturn, 1) := by decide +kernel
theorem dX9_part_0 : decode cX9_part 0 = .ok (.aload_n 0, 1) := by decide +kernel
theorem dX9_part_1 : decode cX9_part 1 = .ok (.iload_n 1, 1) := by decide +kernel
theorem dX9_part_2 : decode cX9_part 2 = .ok (.invokevirtual 119, 3) := by decide +kernel
theorem dX9_part_5 : decode cX9_part 5 = .ok (.ifCond .eq 57, 3) := by decide +kernel
theorem dX9_part_8 : decode cX9_part 8 = .ok (.aload_n 0, 1) := by decide +kernel
theorem dX9_part_9 : decode cX9_part 9 = .ok (.getfield 20, 3) := by decide +kernel
theorem dX9_part_12 : decode cX9_part 12 = .ok (.iload_n 1, 1) := by decide +kernel
theorem dX9_part_13 : decode cX9_part 13 = .ok (.iaload, 1) := by decide +kernel
theorem dX9_part_14 : decode cX9_part 14 = .ok (.iconst 3, 1) := by decide +kernel
theorem dX9_part_15 : decode cX9_part 15 = .ok (.if_icmp .ne 47, 3) := by decide +kernel
theorem dX9_part_18 : decode cX9_part 18 = .ok (.aload_n 0, 1) := by decide +kernel
theorem dX9_part_19 : decode cX9_part 19 = .ok (.getfield 29, 3) := by decide +kernel
theorem dX9_part_22 : decode cX9_part 22 = .ok (.iload_n 1, 1) := by decide +kernel
theorem dX9_part_23 : decode cX9_part 23 = .ok (.baload, 1) := by decide +kernel
theorem dX9_part_24 : decode cX9_part 24 = .ok (.ifCond .eq 38, 3) := by decide +kernel
theorem dX9_part_27 : decode cX9_part 27 = .ok (.aload_n 0, 1) := by decide +kernel
theorem dX9_part_28 : decode cX9_part 28 = .ok (.getfield 33, 3) := by decide +kernel
theorem dX9_part_31 : decode cX9_part 31 = .ok (.iload_n 1, 1) := by decide +kernel
theorem dX9_part_32 : decode cX9_part 32 = .ok (.baload, 1) := by decide +kernel
theorem dX9_part_33 : decode cX9_part 33 = .ok (.ifCond .ne 29, 3) := by decide +kernel
theorem dX9_part_36 : decode cX9_part 36 = .ok (.lload_n 2, 1) := by decide +kernel
theorem dX9_part_37 : decode cX9_part 37 = .ok (.lconst 1, 1) := by decide +kernel
theorem dX9_part_38 : decode cX9_part 38 = .ok (.lcmp, 1) := by decide +kernel
theorem dX9_part_39 : decode cX9_part 39 = .ok (.ifCond .lt 23, 3) := by decide +kernel
theorem dX9_part_42 : decode cX9_part 42 = .ok (.lload_n 2, 1) := by decide +kernel
theorem dX9_part_43 : decode cX9_part 43 = .ok (.aload_n 0, 1) := by decide +kernel
theorem dX9_part_44 : decode cX9_part 44 = .ok (.getfield 13, 3) := by decide +kernel
theorem dX9_part_47 : decode cX9_part 47 = .ok (.iload_n 1, 1) := by decide +kernel
theorem dX9_part_48 : decode cX9_part 48 = .ok (.laload, 1) := by decide +kernel
theorem dX9_part_49 : decode cX9_part 49 = .ok (.lcmp, 1) := by decide +kernel
theorem dX9_part_50 : decode cX9_part 50 = .ok (.ifCond .ge 12, 3) := by decide +kernel
theorem dX9_part_53 : decode cX9_part 53 = .ok (.aload_n 0, 1) := by decide +kernel
theorem dX9_part_54 : decode cX9_part 54 = .ok (.getfield 82, 3) := by decide +kernel
theorem dX9_part_57 : decode cX9_part 57 = .ok (.bipush 60, 2) := by decide +kernel
theorem dX9_part_59 : decode cX9_part 59 = .ok (.if_icmp .ne 5, 3) := by decide +kernel
theorem dX9_part_62 : decode cX9_part 62 = .ok (.iconst (-1), 1) := by decide +kernel
theorem dX9_part_63 : decode cX9_part 63 = .ok (.ireturn, 1) := by decide +kernel
theorem dX9_part_64 : decode cX9_part 64 = .ok (.aload_n 0, 1) := by decide +kernel
theorem dX9_part_65 : decode cX9_part 65 = .ok (.getfield 13, 3) := by decide +kernel
theorem dX9_part_68 : decode cX9_part 68 = .ok (.iload_n 1, 1) := by decide +kernel
theorem dX9_part_69 : decode cX9_part 69 = .ok (.laload, 1) := by decide +kernel
theorem dX9_part_70 : decode cX9_part 70 = .ok (.lstore 4, 2) := by decide +kernel
theorem dX9_part_72 : decode cX9_part 72 = .ok (.aload_n 0, 1) := by decide +kernel
theorem dX9_part_73 : decode cX9_part 73 = .ok (.aload_n 0, 1) := by decide +kernel
theorem dX9_part_74 : decode cX9_part 74 = .ok (.getfield 7, 3) := by decide +kernel
theorem dX9_part_77 : decode cX9_part 77 = .ok (.iload_n 1, 1) := by decide +kernel
theorem dX9_part_78 : decode cX9_part 78 = .ok (.iaload, 1) := by decide +kernel
theorem dX9_part_79 : decode cX9_part 79 = .ok (.lload 4, 2) := by decide +kernel
theorem dX9_part_81 : decode cX9_part 81 = .ok (.lload_n 2, 1) := by decide +kernel
theorem dX9_part_82 : decode cX9_part 82 = .ok (.lsub, 1) := by decide +kernel
theorem dX9_part_83 : decode cX9_part 83 = .ok (.aload_n 0, 1) := by decide +kernel
theorem dX9_part_84 : decode cX9_part 84 = .ok (.getfield 17, 3) := by decide +kernel
theorem dX9_part_87 : decode cX9_part 87 = .ok (.iload_n 1, 1) := by decide +kernel
theorem dX9_part_88 : decode cX9_part 88 = .ok (.laload, 1) := by decide +kernel
theorem dX9_part_89 : decode cX9_part 89 = .ok (.lload 4, 2) := by decide +kernel
theorem dX9_part_91 : decode cX9_part 91 = .ok (.lload_n 2, 1) := by decide +kernel
theorem dX9_part_92 : decode cX9_part 92 = .ok (.lsub, 1) := by decide +kernel
theorem dX9_part_93 : decode cX9_part 93 = .ok (.lmul, 1) := by decide +kernel
theorem dX9_part_94 : decode cX9_part 94 = .ok (.lload 4, 2) := by decide +kernel
theorem dX9_part_96 : decode cX9_part 96 = .ok (.invokestatic 184, 3) := by decide +kernel
theorem dX9_part_99 : decode cX9_part 99 = .ok (.invokevirtual 111, 3) := by decide +kernel
theorem dX9_part_102 : decode cX9_part 102 = .ok (.istore 6, 2) := by decide +kernel
theorem dX9_part_104 : decode cX9_part 104 = .ok (.aload_n 0, 1) := by decide +kernel
theorem dX9_part_105 : decode cX9_part 105 = .ok (.getfield 26, 3) := by decide +kernel
theorem dX9_part_108 : decode cX9_part 108 = .ok (.iload_n 1, 1) := by decide +kernel
theorem dX9_part_109 : decode cX9_part 109 = .ok (.aload_n 0, 1) := by decide +kernel
theorem dX9_part_110 : decode cX9_part 110 = .ok (.getfield 26, 3) := by decide +kernel
theorem dX9_part_113 : decode cX9_part 113 = .ok (.iload_n 1, 1) := by decide +kernel
theorem dX9_part_114 : decode cX9_part 114 = .ok (.laload, 1) := by decide +kernel
theorem dX9_part_115 : decode cX9_part 115 = .ok (.lload_n 2, 1) := by decide +kernel
theorem dX9_part_116 : decode cX9_part 116 = .ok (.lmul, 1) := by decide +kernel
theorem dX9_part_117 : decode cX9_part 117 = .ok (.lload 4, 2) := by decide +kernel
theorem dX9_part_119 : decode cX9_part 119 = .ok (.invokestatic 184, 3) := by decide +kernel
theorem dX9_part_122 : decode cX9_part 122 = .ok (.lastore, 1) := by decide +kernel
theorem dX9_part_123 : decode cX9_part 123 = .ok (.aload_n 0, 1) := by decide +kernel
theorem dX9_part_124 : decode cX9_part 124 = .ok (.getfield 13, 3) := by decide +kernel
theorem dX9_part_127 : decode cX9_part 127 = .ok (.iload_n 1, 1) := by decide +kernel
theorem dX9_part_128 : decode cX9_part 128 = .ok (.lload_n 2, 1) := by decide +kernel
theorem dX9_part_129 : decode cX9_part 129 = .ok (.lastore, 1) := by decide +kernel
theorem dX9_part_130 : decode cX9_part 130 = .ok (.aload_n 0, 1) := by decide +kernel
theorem dX9_part_131 : decode cX9_part 131 = .ok (.getfield 33, 3) := by decide +kernel
theorem dX9_part_134 : decode cX9_part 134 = .ok (.iload_n 1, 1) := by decide +kernel
theorem dX9_part_135 : decode cX9_part 135 = .ok (.iconst 1, 1) := by decide +kernel
theorem dX9_part_136 : decode cX9_part 136 = .ok (.bastore, 1) := by decide +kernel
theorem dX9_part_137 : decode cX9_part 137 = .ok (.aload_n 0, 1) := by decide +kernel
theorem dX9_part_138 : decode cX9_part 138 = .ok (.iconst 5, 1) := by decide +kernel
theorem dX9_part_139 : decode cX9_part 139 = .ok (.iload_n 1, 1) := by decide +kernel
theorem dX9_part_140 : decode cX9_part 140 = .ok (.aload_n 0, 1) := by decide +kernel
theorem dX9_part_141 : decode cX9_part 141 = .ok (.getfield 23, 3) := by decide +kernel
theorem dX9_part_144 : decode cX9_part 144 = .ok (.iload_n 1, 1) := by decide +kernel
theorem dX9_part_145 : decode cX9_part 145 = .ok (.iaload, 1) := by decide +kernel
theorem dX9_part_146 : decode cX9_part 146 = .ok (.aload_n 0, 1) := by decide +kernel
theorem dX9_part_147 : decode cX9_part 147 = .ok (.getfield 26, 3) := by decide +kernel
theorem dX9_part_150 : decode cX9_part 150 = .ok (.iload_n 1, 1) := by decide +kernel
theorem dX9_part_151 : decode cX9_part 151 = .ok (.laload, 1) := by decide +kernel
theorem dX9_part_152 : decode cX9_part 152 = .ok (.invokevirtual 160, 3) := by decide +kernel
theorem dX9_part_155 : decode cX9_part 155 = .ok (.iload 6, 2) := by decide +kernel
theorem dX9_part_157 : decode cX9_part 157 = .ok (.ireturn, 1) := by decide +kernel
theorem dX9_left_0 : decode cX9_left 0 = .ok (.aload_n 0, 1) := by decide +kernel
theorem dX9_left_1 : decode cX9_left 1 = .ok (.iload_n 1, 1) := by decide +kernel
theorem dX9_left_2 : decode cX9_left 2 = .ok (.invokevirtual 119, 3) := by decide +kernel
theorem dX9_left_5 : decode cX9_left 5 = .ok (.ifCond .eq 12, 3) := by decide +kernel
theorem dX9_left_8 : decode cX9_left 8 = .ok (.aload_n 0, 1) := by decide +kernel
theorem dX9_left_9 : decode cX9_left 9 = .ok (.getfield 13, 3) := by decide +kernel
theorem dX9_left_12 : decode cX9_left 12 = .ok (.iload_n 1, 1) := by decide +kernel
theorem dX9_left_13 : decode cX9_left 13 = .ok (.laload, 1) := by decide +kernel
theorem dX9_left_14 : decode cX9_left 14 = .ok (.goto 6, 3) := by decide +kernel
theorem dX9_left_17 : decode cX9_left 17 = .ok (.ldc2_w 117, 3) := by decide +kernel
theorem dX9_left_20 : decode cX9_left 20 = .ok (.lreturn, 1) := by decide +kernel
theorem dX9_again_0 : decode cX9_again 0 = .ok (.aload_n 0, 1) := by decide +kernel
theorem dX9_again_1 : decode cX9_again 1 = .ok (.iload_n 1, 1) := by decide +kernel
theorem dX9_again_2 : decode cX9_again 2 = .ok (.invokevirtual 119, 3) := by decide +kernel
theorem dX9_again_5 : decode cX9_again 5 = .ok (.ifCond .eq 22, 3) := by decide +kernel
theorem dX9_again_8 : decode cX9_again 8 = .ok (.aload_n 0, 1) := by decide +kernel
theorem dX9_again_9 : decode cX9_again 9 = .ok (.getfield 20, 3) := by decide +kernel
theorem dX9_again_12 : decode cX9_again 12 = .ok (.iload_n 1, 1) := by decide +kernel
theorem dX9_again_13 : decode cX9_again 13 = .ok (.iaload, 1) := by decide +kernel
theorem dX9_again_14 : decode cX9_again 14 = .ok (.iconst 4, 1) := by decide +kernel
theorem dX9_again_15 : decode cX9_again 15 = .ok (.if_icmp .ne 12, 3) := by decide +kernel
theorem dX9_again_18 : decode cX9_again 18 = .ok (.aload_n 0, 1) := by decide +kernel
theorem dX9_again_19 : decode cX9_again 19 = .ok (.getfield 36, 3) := by decide +kernel
theorem dX9_again_22 : decode cX9_again 22 = .ok (.iload_n 1, 1) := by decide +kernel
theorem dX9_again_23 : decode cX9_again 23 = .ok (.baload, 1) := by decide +kernel
theorem dX9_again_24 : decode cX9_again 24 = .ok (.ifCond .eq 5, 3) := by decide +kernel
theorem dX9_again_27 : decode cX9_again 27 = .ok (.iconst (-1), 1) := by decide +kernel
theorem dX9_again_28 : decode cX9_again 28 = .ok (.ireturn, 1) := by decide +kernel
theorem dX9_again_29 : decode cX9_again 29 = .ok (.aload_n 0, 1) := by decide +kernel
theorem dX9_again_30 : decode cX9_again 30 = .ok (.getfield 36, 3) := by decide +kernel
theorem dX9_again_33 : decode cX9_again 33 = .ok (.iload_n 1, 1) := by decide +kernel
theorem dX9_again_34 : decode cX9_again 34 = .ok (.iconst 1, 1) := by decide +kernel
theorem dX9_again_35 : decode cX9_again 35 = .ok (.bastore, 1) := by decide +kernel
theorem dX9_again_36 : decode cX9_again 36 = .ok (.aload_n 0, 1) := by decide +kernel
theorem dX9_again_37 : decode cX9_again 37 = .ok (.getfield 20, 3) := by decide +kernel
theorem dX9_again_40 : decode cX9_again 40 = .ok (.iload_n 1, 1) := by decide +kernel
theorem dX9_again_41 : decode cX9_again 41 = .ok (.iconst 0, 1) := by decide +kernel
theorem dX9_again_42 : decode cX9_again 42 = .ok (.iastore, 1) := by decide +kernel
theorem dX9_again_43 : decode cX9_again 43 = .ok (.aload_n 0, 1) := by decide +kernel
theorem dX9_again_44 : decode cX9_again 44 = .ok (.getfield 17, 3) := by decide +kernel
theorem dX9_again_47 : decode cX9_again 47 = .ok (.iload_n 1, 1) := by decide +kernel
theorem dX9_again_48 : decode cX9_again 48 = .ok (.aload_n 0, 1) := by decide +kernel
theorem dX9_again_49 : decode cX9_again 49 = .ok (.getfield 17, 3) := by decide +kernel
theorem dX9_again_52 : decode cX9_again 52 = .ok (.iload_n 1, 1) := by decide +kernel
theorem dX9_again_53 : decode cX9_again 53 = .ok (.laload, 1) := by decide +kernel
theorem dX9_again_54 : decode cX9_again 54 = .ok (.aload_n 0, 1) := by decide +kernel
theorem dX9_again_55 : decode cX9_again 55 = .ok (.getfield 17, 3) := by decide +kernel
theorem dX9_again_58 : decode cX9_again 58 = .ok (.iload_n 1, 1) := by decide +kernel
theorem dX9_again_59 : decode cX9_again 59 = .ok (.laload, 1) := by decide +kernel
theorem dX9_again_60 : decode cX9_again 60 = .ok (.ldc2_w 188, 3) := by decide +kernel
theorem dX9_again_63 : decode cX9_again 63 = .ok (.ldiv, 1) := by decide +kernel
theorem dX9_again_64 : decode cX9_again 64 = .ok (.lsub, 1) := by decide +kernel
theorem dX9_again_65 : decode cX9_again 65 = .ok (.lastore, 1) := by decide +kernel
theorem dX9_again_66 : decode cX9_again 66 = .ok (.aload_n 0, 1) := by decide +kernel
theorem dX9_again_67 : decode cX9_again 67 = .ok (.bipush 6, 2) := by decide +kernel
theorem dX9_again_69 : decode cX9_again 69 = .ok (.iload_n 1, 1) := by decide +kernel
theorem dX9_again_70 : decode cX9_again 70 = .ok (.iconst (-1), 1) := by decide +kernel
theorem dX9_again_71 : decode cX9_again 71 = .ok (.aload_n 0, 1) := by decide +kernel
theorem dX9_again_72 : decode cX9_again 72 = .ok (.getfield 17, 3) := by decide +kernel
theorem dX9_again_75 : decode cX9_again 75 = .ok (.iload_n 1, 1) := by decide +kernel
theorem dX9_again_76 : decode cX9_again 76 = .ok (.laload, 1) := by decide +kernel
theorem dX9_again_77 : decode cX9_again 77 = .ok (.invokevirtual 160, 3) := by decide +kernel
theorem dX9_again_80 : decode cX9_again 80 = .ok (.iconst 1, 1) := by decide +kernel
theorem dX9_again_81 : decode cX9_again 81 = .ok (.ireturn, 1) := by decide +kernel
theorem dX9_back_0 : decode cX9_back 0 = .ok (.aload_n 0, 1) := by decide +kernel
theorem dX9_back_1 : decode cX9_back 1 = .ok (.iload_n 1, 1) := by decide +kernel
theorem dX9_back_2 : decode cX9_back 2 = .ok (.invokevirtual 119, 3) := by decide +kernel
theorem dX9_back_5 : decode cX9_back 5 = .ok (.ifCond .eq 32, 3) := by decide +kernel
theorem dX9_back_8 : decode cX9_back 8 = .ok (.aload_n 0, 1) := by decide +kernel
theorem dX9_back_9 : decode cX9_back 9 = .ok (.getfield 20, 3) := by decide +kernel
theorem dX9_back_12 : decode cX9_back 12 = .ok (.iload_n 1, 1) := by decide +kernel
theorem dX9_back_13 : decode cX9_back 13 = .ok (.iaload, 1) := by decide +kernel
theorem dX9_back_14 : decode cX9_back 14 = .ok (.ifCond .eq 25, 3) := by decide +kernel
theorem dX9_back_17 : decode cX9_back 17 = .ok (.aload_n 0, 1) := by decide +kernel
theorem dX9_back_18 : decode cX9_back 18 = .ok (.getfield 20, 3) := by decide +kernel
theorem dX9_back_21 : decode cX9_back 21 = .ok (.iload_n 1, 1) := by decide +kernel
theorem dX9_back_22 : decode cX9_back 22 = .ok (.iaload, 1) := by decide +kernel
theorem dX9_back_23 : decode cX9_back 23 = .ok (.iconst 2, 1) := by decide +kernel
theorem dX9_back_24 : decode cX9_back 24 = .ok (.if_icmp .eq 15, 3) := by decide +kernel
theorem dX9_back_27 : decode cX9_back 27 = .ok (.aload_n 0, 1) := by decide +kernel
theorem dX9_back_28 : decode cX9_back 28 = .ok (.getfield 20, 3) := by decide +kernel
theorem dX9_back_31 : decode cX9_back 31 = .ok (.iload_n 1, 1) := by decide +kernel
theorem dX9_back_32 : decode cX9_back 32 = .ok (.iaload, 1) := by decide +kernel
theorem dX9_back_33 : decode cX9_back 33 = .ok (.iconst 4, 1) := by decide +kernel
theorem dX9_back_34 : decode cX9_back 34 = .ok (.if_icmp .eq 5, 3) := by decide +kernel
theorem dX9_back_37 : decode cX9_back 37 = .ok (.iconst (-1), 1) := by decide +kernel
theorem dX9_back_38 : decode cX9_back 38 = .ok (.ireturn, 1) := by decide +kernel
theorem dX9_back_39 : decode cX9_back 39 = .ok (.aload_n 0, 1) := by decide +kernel
theorem dX9_back_40 : decode cX9_back 40 = .ok (.getfield 20, 3) := by decide +kernel
theorem dX9_back_43 : decode cX9_back 43 = .ok (.iload_n 1, 1) := by decide +kernel
theorem dX9_back_44 : decode cX9_back 44 = .ok (.iconst 5, 1) := by decide +kernel
theorem dX9_back_45 : decode cX9_back 45 = .ok (.iastore, 1) := by decide +kernel
theorem dX9_back_46 : decode cX9_back 46 = .ok (.aload_n 0, 1) := by decide +kernel
theorem dX9_back_47 : decode cX9_back 47 = .ok (.bipush 7, 2) := by decide +kernel
theorem dX9_back_49 : decode cX9_back 49 = .ok (.iload_n 1, 1) := by decide +kernel
theorem dX9_back_50 : decode cX9_back 50 = .ok (.iconst (-1), 1) := by decide +kernel
theorem dX9_back_51 : decode cX9_back 51 = .ok (.lconst 0, 1) := by decide +kernel
theorem dX9_back_52 : decode cX9_back 52 = .ok (.invokevirtual 160, 3) := by decide +kernel
theorem dX9_back_55 : decode cX9_back 55 = .ok (.iconst 1, 1) := by decide +kernel
theorem dX9_back_56 : decode cX9_back 56 = .ok (.ireturn, 1) := by decide +kernel
theorem dX9_fee_0 : decode cX9_fee 0 = .ok (.aload_n 0, 1) := by decide +kernel
theorem dX9_fee_1 : decode cX9_fee 1 = .ok (.iload_n 1, 1) := by decide +kernel
theorem dX9_fee_2 : decode cX9_fee 2 = .ok (.invokevirtual 119, 3) := by decide +kernel
theorem dX9_fee_5 : decode cX9_fee 5 = .ok (.ifCond .eq 32, 3) := by decide +kernel
theorem dX9_fee_8 : decode cX9_fee 8 = .ok (.aload_n 0, 1) := by decide +kernel
theorem dX9_fee_9 : decode cX9_fee 9 = .ok (.getfield 20, 3) := by decide +kernel
theorem dX9_fee_12 : decode cX9_fee 12 = .ok (.iload_n 1, 1) := by decide +kernel
theorem dX9_fee_13 : decode cX9_fee 13 = .ok (.iaload, 1) := by decide +kernel
theorem dX9_fee_14 : decode cX9_fee 14 = .ok (.iconst 3, 1) := by decide +kernel
theorem dX9_fee_15 : decode cX9_fee 15 = .ok (.if_icmp .ne 22, 3) := by decide +kernel
theorem dX9_fee_18 : decode cX9_fee 18 = .ok (.aload_n 0, 1) := by decide +kernel
theorem dX9_fee_19 : decode cX9_fee 19 = .ok (.getfield 26, 3) := by decide +kernel
theorem dX9_fee_22 : decode cX9_fee 22 = .ok (.iload_n 1, 1) := by decide +kernel
theorem dX9_fee_23 : decode cX9_fee 23 = .ok (.laload, 1) := by decide +kernel
theorem dX9_fee_24 : decode cX9_fee 24 = .ok (.ldc2_w 190, 3) := by decide +kernel
theorem dX9_fee_27 : decode cX9_fee 27 = .ok (.invokestatic 184, 3) := by decide +kernel
theorem dX9_fee_30 : decode cX9_fee 30 = .ok (.ldc2_w 192, 3) := by decide +kernel
theorem dX9_fee_33 : decode cX9_fee 33 = .ok (.ladd, 1) := by decide +kernel
theorem dX9_fee_34 : decode cX9_fee 34 = .ok (.goto 6, 3) := by decide +kernel
theorem dX9_fee_37 : decode cX9_fee 37 = .ok (.ldc2_w 117, 3) := by decide +kernel
theorem dX9_fee_40 : decode cX9_fee 40 = .ok (.lreturn, 1) := by decide +kernel
theorem dX9_order_0 : decode cX9_order 0 = .ok (.iload_n 2, 1) := by decide +kernel
theorem dX9_order_1 : decode cX9_order 1 = .ok (.ifCond .ge 5, 3) := by decide +kernel
theorem dX9_order_4 : decode cX9_order 4 = .ok (.iconst (-1), 1) := by decide +kernel
theorem dX9_order_5 : decode cX9_order 5 = .ok (.ireturn, 1) := by decide +kernel
theorem dX9_order_6 : decode cX9_order 6 = .ok (.iconst (-1), 1) := by decide +kernel
theorem dX9_order_7 : decode cX9_order 7 = .ok (.istore_n 3, 1) := by decide +kernel
theorem dX9_order_8 : decode cX9_order 8 = .ok (.iconst 0, 1) := by decide +kernel
theorem dX9_order_9 : decode cX9_order 9 = .ok (.istore 4, 2) := by decide +kernel
theorem dX9_order_11 : decode cX9_order 11 = .ok (.iload 4, 2) := by decide +kernel
theorem dX9_order_13 : decode cX9_order 13 = .ok (.iload_n 2, 1) := by decide +kernel
theorem dX9_order_14 : decode cX9_order 14 = .ok (.if_icmp .gt 147, 3) := by decide +kernel
theorem dX9_order_17 : decode cX9_order 17 = .ok (.iconst (-1), 1) := by decide +kernel
theorem dX9_order_18 : decode cX9_order 18 = .ok (.istore 5, 2) := by decide +kernel
theorem dX9_order_20 : decode cX9_order 20 = .ok (.iconst 0, 1) := by decide +kernel
theorem dX9_order_21 : decode cX9_order 21 = .ok (.istore 6, 2) := by decide +kernel
theorem dX9_order_23 : decode cX9_order 23 = .ok (.iload 6, 2) := by decide +kernel
theorem dX9_order_25 : decode cX9_order 25 = .ok (.aload_n 0, 1) := by decide +kernel
theorem dX9_order_26 : decode cX9_order 26 = .ok (.getfield 82, 3) := by decide +kernel
theorem dX9_order_29 : decode cX9_order 29 = .ok (.if_icmp .ge 115, 3) := by decide +kernel
theorem dX9_order_32 : decode cX9_order 32 = .ok (.iload_n 3, 1) := by decide +kernel
theorem dX9_order_33 : decode cX9_order 33 = .ok (.iconst (-1), 1) := by decide +kernel
theorem dX9_order_34 : decode cX9_order 34 = .ok (.if_icmp .eq 43, 3) := by decide +kernel
theorem dX9_order_37 : decode cX9_order 37 = .ok (.aload_n 0, 1) := by decide +kernel
theorem dX9_order_38 : decode cX9_order 38 = .ok (.getfield 13, 3) := by decide +kernel
theorem dX9_order_41 : decode cX9_order 41 = .ok (.iload 6, 2) := by decide +kernel
theorem dX9_order_43 : decode cX9_order 43 = .ok (.laload, 1) := by decide +kernel
theorem dX9_order_44 : decode cX9_order 44 = .ok (.aload_n 0, 1) := by decide +kernel
theorem dX9_order_45 : decode cX9_order 45 = .ok (.getfield 13, 3) := by decide +kernel
theorem dX9_order_48 : decode cX9_order 48 = .ok (.iload_n 3, 1) := by decide +kernel
theorem dX9_order_49 : decode cX9_order 49 = .ok (.laload, 1) := by decide +kernel
theorem dX9_order_50 : decode cX9_order 50 = .ok (.lcmp, 1) := by decide +kernel
theorem dX9_order_51 : decode cX9_order 51 = .ok (.ifCond .lt 26, 3) := by decide +kernel
theorem dX9_order_54 : decode cX9_order 54 = .ok (.aload_n 0, 1) := by decide +kernel
theorem dX9_order_55 : decode cX9_order 55 = .ok (.getfield 13, 3) := by decide +kernel
theorem dX9_order_58 : decode cX9_order 58 = .ok (.iload 6, 2) := by decide +kernel
theorem dX9_order_60 : decode cX9_order 60 = .ok (.laload, 1) := by decide +kernel
theorem dX9_order_61 : decode cX9_order 61 = .ok (.aload_n 0, 1) := by decide +kernel
theorem dX9_order_62 : decode cX9_order 62 = .ok (.getfield 13, 3) := by decide +kernel
theorem dX9_order_65 : decode cX9_order 65 = .ok (.iload_n 3, 1) := by decide +kernel
theorem dX9_order_66 : decode cX9_order 66 = .ok (.laload, 1) := by decide +kernel
theorem dX9_order_67 : decode cX9_order 67 = .ok (.lcmp, 1) := by decide +kernel
theorem dX9_order_68 : decode cX9_order 68 = .ok (.ifCond .ne 13, 3) := by decide +kernel
theorem dX9_order_71 : decode cX9_order 71 = .ok (.iload 6, 2) := by decide +kernel
theorem dX9_order_73 : decode cX9_order 73 = .ok (.iload_n 3, 1) := by decide +kernel
theorem dX9_order_74 : decode cX9_order 74 = .ok (.if_icmp .le 7, 3) := by decide +kernel
theorem dX9_order_77 : decode cX9_order 77 = .ok (.iconst 1, 1) := by decide +kernel
theorem dX9_order_78 : decode cX9_order 78 = .ok (.goto 4, 3) := by decide +kernel
theorem dX9_order_81 : decode cX9_order 81 = .ok (.iconst 0, 1) := by decide +kernel
theorem dX9_order_82 : decode cX9_order 82 = .ok (.istore 7, 2) := by decide +kernel
theorem dX9_order_84 : decode cX9_order 84 = .ok (.aload_n 0, 1) := by decide +kernel
theorem dX9_order_85 : decode cX9_order 85 = .ok (.getfield 20, 3) := by decide +kernel
theorem dX9_order_88 : decode cX9_order 88 = .ok (.iload 6, 2) := by decide +kernel
theorem dX9_order_90 : decode cX9_order 90 = .ok (.iaload, 1) := by decide +kernel
theorem dX9_order_91 : decode cX9_order 91 = .ok (.ifCond .ne 47, 3) := by decide +kernel
theorem dX9_order_94 : decode cX9_order 94 = .ok (.aload_n 0, 1) := by decide +kernel
theorem dX9_order_95 : decode cX9_order 95 = .ok (.getfield 7, 3) := by decide +kernel
theorem dX9_order_98 : decode cX9_order 98 = .ok (.iload 6, 2) := by decide +kernel
theorem dX9_order_100 : decode cX9_order 100 = .ok (.iaload, 1) := by decide +kernel
theorem dX9_order_101 : decode cX9_order 101 = .ok (.iload_n 1, 1) := by decide +kernel
theorem dX9_order_102 : decode cX9_order 102 = .ok (.if_icmp .ne 36, 3) := by decide +kernel
theorem dX9_order_105 : decode cX9_order 105 = .ok (.iload 7, 2) := by decide +kernel
theorem dX9_order_107 : decode cX9_order 107 = .ok (.ifCond .eq 31, 3) := by decide +kernel
theorem dX9_order_110 : decode cX9_order 110 = .ok (.iload 5, 2) := by decide +kernel
theorem dX9_order_112 : decode cX9_order 112 = .ok (.iconst (-1), 1) := by decide +kernel
theorem dX9_order_113 : decode cX9_order 113 = .ok (.if_icmp .eq 21, 3) := by decide +kernel
theorem dX9_order_116 : decode cX9_order 116 = .ok (.aload_n 0, 1) := by decide +kernel
theorem dX9_order_117 : decode cX9_order 117 = .ok (.getfield 13, 3) := by decide +kernel
theorem dX9_order_120 : decode cX9_order 120 = .ok (.iload 6, 2) := by decide +kernel
theorem dX9_order_122 : decode cX9_order 122 = .ok (.laload, 1) := by decide +kernel
theorem dX9_order_123 : decode cX9_order 123 = .ok (.aload_n 0, 1) := by decide +kernel
theorem dX9_order_124 : decode cX9_order 124 = .ok (.getfield 13, 3) := by decide +kernel
theorem dX9_order_127 : decode cX9_order 127 = .ok (.iload 5, 2) := by decide +kernel
theorem dX9_order_129 : decode cX9_order 129 = .ok (.laload, 1) := by decide +kernel
theorem dX9_order_130 : decode cX9_order 130 = .ok (.lcmp, 1) := by decide +kernel
theorem dX9_order_131 : decode cX9_order 131 = .ok (.ifCond .le 7, 3) := by decide +kernel
theorem dX9_order_134 : decode cX9_order 134 = .ok (.iload 6, 2) := by decide +kernel
theorem dX9_order_136 : decode cX9_order 136 = .ok (.istore 5, 2) := by decide +kernel
theorem dX9_order_138 : decode cX9_order 138 = .ok (.iinc 6 1, 3) := by decide +kernel
theorem dX9_order_141 : decode cX9_order 141 = .ok (.goto (-118), 3) := by decide +kernel
theorem dX9_order_144 : decode cX9_order 144 = .ok (.iload 5, 2) := by decide +kernel
theorem dX9_order_146 : decode cX9_order 146 = .ok (.iconst (-1), 1) := by decide +kernel
theorem dX9_order_147 : decode cX9_order 147 = .ok (.if_icmp .ne 5, 3) := by decide +kernel
theorem dX9_order_150 : decode cX9_order 150 = .ok (.iconst (-1), 1) := by decide +kernel
theorem dX9_order_151 : decode cX9_order 151 = .ok (.ireturn, 1) := by decide +kernel
theorem dX9_order_152 : decode cX9_order 152 = .ok (.iload 5, 2) := by decide +kernel
theorem dX9_order_154 : decode cX9_order 154 = .ok (.istore_n 3, 1) := by decide +kernel
theorem dX9_order_155 : decode cX9_order 155 = .ok (.iinc 4 1, 3) := by decide +kernel
theorem dX9_order_158 : decode cX9_order 158 = .ok (.goto (-147), 3) := by decide +kernel
theorem dX9_order_161 : decode cX9_order 161 = .ok (.iload_n 3, 1) := by decide +kernel
theorem dX9_order_162 : decode cX9_order 162 = .ok (.ireturn, 1) := by decide +kernel
theorem dX9_held_0 : decode cX9_held 0 = .ok (.aload_n 0, 1) := by decide +kernel
theorem dX9_held_1 : decode cX9_held 1 = .ok (.iload_n 1, 1) := by decide +kernel
theorem dX9_held_2 : decode cX9_held 2 = .ok (.invokevirtual 150, 3) := by decide +kernel
theorem dX9_held_5 : decode cX9_held 5 = .ok (.ifCond .eq 11, 3) := by decide +kernel
theorem dX9_held_8 : decode cX9_held 8 = .ok (.aload_n 0, 1) := by decide +kernel
theorem dX9_held_9 : decode cX9_held 9 = .ok (.iload_n 1, 1) := by decide +kernel
theorem dX9_held_10 : decode cX9_held 10 = .ok (.invokevirtual 105, 3) := by decide +kernel
theorem dX9_held_13 : decode cX9_held 13 = .ok (.goto 6, 3) := by decide +kernel
theorem dX9_held_16 : decode cX9_held 16 = .ok (.ldc2_w 117, 3) := by decide +kernel
theorem dX9_held_19 : decode cX9_held 19 = .ok (.lreturn, 1) := by decide +kernel
theorem dX9_rise_0 : decode cX9_rise 0 = .ok (.aload_n 0, 1) := by decide +kernel
theorem dX9_rise_1 : decode cX9_rise 1 = .ok (.iload_n 1, 1) := by decide +kernel
theorem dX9_rise_2 : decode cX9_rise 2 = .ok (.invokevirtual 119, 3) := by decide +kernel
theorem dX9_rise_5 : decode cX9_rise 5 = .ok (.ifCond .eq 11, 3) := by decide +kernel
theorem dX9_rise_8 : decode cX9_rise 8 = .ok (.aload_n 0, 1) := by decide +kernel
theorem dX9_rise_9 : decode cX9_rise 9 = .ok (.iload_n 2, 1) := by decide +kernel
theorem dX9_rise_10 : decode cX9_rise 10 = .ok (.invokevirtual 150, 3) := by decide +kernel
theorem dX9_rise_13 : decode cX9_rise 13 = .ok (.ifCond .ne 5, 3) := by decide +kernel
theorem dX9_rise_16 : decode cX9_rise 16 = .ok (.iconst 1, 1) := by decide +kernel
theorem dX9_rise_17 : decode cX9_rise 17 = .ok (.ireturn, 1) := by decide +kernel
theorem dX9_rise_18 : decode cX9_rise 18 = .ok (.aload_n 0, 1) := by decide +kernel
theorem dX9_rise_19 : decode cX9_rise 19 = .ok (.getfield 20, 3) := by decide +kernel
theorem dX9_rise_22 : decode cX9_rise 22 = .ok (.iload_n 1, 1) := by decide +kernel
theorem dX9_rise_23 : decode cX9_rise 23 = .ok (.iaload, 1) := by decide +kernel
theorem dX9_rise_24 : decode cX9_rise 24 = .ok (.ifCond .eq 15, 3) := by decide +kernel
theorem dX9_rise_27 : decode cX9_rise 27 = .ok (.aload_n 0, 1) := by decide +kernel
theorem dX9_rise_28 : decode cX9_rise 28 = .ok (.getfield 20, 3) := by decide +kernel
theorem dX9_rise_31 : decode cX9_rise 31 = .ok (.iload_n 1, 1) := by decide +kernel
theorem dX9_rise_32 : decode cX9_rise 32 = .ok (.iaload, 1) := by decide +kernel
theorem dX9_rise_33 : decode cX9_rise 33 = .ok (.iconst 2, 1) := by decide +kernel
theorem dX9_rise_34 : decode cX9_rise 34 = .ok (.if_icmp .eq 5, 3) := by decide +kernel
theorem dX9_rise_37 : decode cX9_rise 37 = .ok (.iconst 2, 1) := by decide +kernel
theorem dX9_rise_38 : decode cX9_rise 38 = .ok (.ireturn, 1) := by decide +kernel
theorem dX9_rise_39 : decode cX9_rise 39 = .ok (.aload_n 0, 1) := by decide +kernel
theorem dX9_rise_40 : decode cX9_rise 40 = .ok (.getfield 17, 3) := by decide +kernel
theorem dX9_rise_43 : decode cX9_rise 43 = .ok (.iload_n 1, 1) := by decide +kernel
theorem dX9_rise_44 : decode cX9_rise 44 = .ok (.laload, 1) := by decide +kernel
theorem dX9_rise_45 : decode cX9_rise 45 = .ok (.lstore 5, 2) := by decide +kernel
theorem dX9_rise_47 : decode cX9_rise 47 = .ok (.lconst 0, 1) := by decide +kernel
theorem dX9_rise_48 : decode cX9_rise 48 = .ok (.lstore 7, 2) := by decide +kernel
theorem dX9_rise_50 : decode cX9_rise 50 = .ok (.aload_n 0, 1) := by decide +kernel
theorem dX9_rise_51 : decode cX9_rise 51 = .ok (.getfield 20, 3) := by decide +kernel
theorem dX9_rise_54 : decode cX9_rise 54 = .ok (.iload_n 1, 1) := by decide +kernel
theorem dX9_rise_55 : decode cX9_rise 55 = .ok (.iaload, 1) := by decide +kernel
theorem dX9_rise_56 : decode cX9_rise 56 = .ok (.iconst 2, 1) := by decide +kernel
theorem dX9_rise_57 : decode cX9_rise 57 = .ok (.if_icmp .ne 59, 3) := by decide +kernel
theorem dX9_rise_60 : decode cX9_rise 60 = .ok (.aload_n 0, 1) := by decide +kernel
theorem dX9_rise_61 : decode cX9_rise 61 = .ok (.getfield 26, 3) := by decide +kernel
theorem dX9_rise_64 : decode cX9_rise 64 = .ok (.iload_n 1, 1) := by decide +kernel
theorem dX9_rise_65 : decode cX9_rise 65 = .ok (.laload, 1) := by decide +kernel
theorem dX9_rise_66 : decode cX9_rise 66 = .ok (.ldc2_w 194, 3) := by decide +kernel
theorem dX9_rise_69 : decode cX9_rise 69 = .ok (.ldiv, 1) := by decide +kernel
theorem dX9_rise_70 : decode cX9_rise 70 = .ok (.lstore 9, 2) := by decide +kernel
theorem dX9_rise_72 : decode cX9_rise 72 = .ok (.aload_n 0, 1) := by decide +kernel
theorem dX9_rise_73 : decode cX9_rise 73 = .ok (.getfield 26, 3) := by decide +kernel
theorem dX9_rise_76 : decode cX9_rise 76 = .ok (.iload_n 1, 1) := by decide +kernel
theorem dX9_rise_77 : decode cX9_rise 77 = .ok (.laload, 1) := by decide +kernel
theorem dX9_rise_78 : decode cX9_rise 78 = .ok (.lload 9, 2) := by decide +kernel
theorem dX9_rise_80 : decode cX9_rise 80 = .ok (.lconst 1, 1) := by decide +kernel
theorem dX9_rise_81 : decode cX9_rise 81 = .ok (.lcmp, 1) := by decide +kernel
theorem dX9_rise_82 : decode cX9_rise 82 = .ok (.ifCond .ge 7, 3) := by decide +kernel
theorem dX9_rise_85 : decode cX9_rise 85 = .ok (.lconst 1, 1) := by decide +kernel
theorem dX9_rise_86 : decode cX9_rise 86 = .ok (.goto 5, 3) := by decide +kernel
theorem dX9_rise_89 : decode cX9_rise 89 = .ok (.lload 9, 2) := by decide +kernel
theorem dX9_rise_91 : decode cX9_rise 91 = .ok (.ladd, 1) := by decide +kernel
theorem dX9_rise_92 : decode cX9_rise 92 = .ok (.lstore 5, 2) := by decide +kernel
theorem dX9_rise_94 : decode cX9_rise 94 = .ok (.aload_n 0, 1) := by decide +kernel
theorem dX9_rise_95 : decode cX9_rise 95 = .ok (.getfield 23, 3) := by decide +kernel
theorem dX9_rise_98 : decode cX9_rise 98 = .ok (.iload_n 1, 1) := by decide +kernel
theorem dX9_rise_99 : decode cX9_rise 99 = .ok (.iaload, 1) := by decide +kernel
theorem dX9_rise_100 : decode cX9_rise 100 = .ok (.iload_n 2, 1) := by decide +kernel
theorem dX9_rise_101 : decode cX9_rise 101 = .ok (.if_icmp .ne 12, 3) := by decide +kernel
theorem dX9_rise_104 : decode cX9_rise 104 = .ok (.aload_n 0, 1) := by decide +kernel
theorem dX9_rise_105 : decode cX9_rise 105 = .ok (.getfield 26, 3) := by decide +kernel
theorem dX9_rise_108 : decode cX9_rise 108 = .ok (.iload_n 1, 1) := by decide +kernel
theorem dX9_rise_109 : decode cX9_rise 109 = .ok (.laload, 1) := by decide +kernel
theorem dX9_rise_110 : decode cX9_rise 110 = .ok (.goto 4, 3) := by decide +kernel
theorem dX9_rise_113 : decode cX9_rise 113 = .ok (.lconst 0, 1) := by decide +kernel
theorem dX9_rise_114 : decode cX9_rise 114 = .ok (.lstore 7, 2) := by decide +kernel
theorem dX9_rise_116 : decode cX9_rise 116 = .ok (.lload_n 3, 1) := by decide +kernel
theorem dX9_rise_117 : decode cX9_rise 117 = .ok (.lload 5, 2) := by decide +kernel
theorem dX9_rise_119 : decode cX9_rise 119 = .ok (.lcmp, 1) := by decide +kernel
theorem dX9_rise_120 : decode cX9_rise 120 = .ok (.ifCond .ge 5, 3) := by decide +kernel
theorem dX9_rise_123 : decode cX9_rise 123 = .ok (.iconst 3, 1) := by decide +kernel
theorem dX9_rise_124 : decode cX9_rise 124 = .ok (.ireturn, 1) := by decide +kernel
theorem dX9_rise_125 : decode cX9_rise 125 = .ok (.lload_n 3, 1) := by decide +kernel
theorem dX9_rise_126 : decode cX9_rise 126 = .ok (.aload_n 0, 1) := by decide +kernel
theorem dX9_rise_127 : decode cX9_rise 127 = .ok (.iload_n 2, 1) := by decide +kernel
theorem dX9_rise_128 : decode cX9_rise 128 = .ok (.invokevirtual 157, 3) := by decide +kernel
theorem dX9_rise_131 : decode cX9_rise 131 = .ok (.lload 7, 2) := by decide +kernel
theorem dX9_rise_133 : decode cX9_rise 133 = .ok (.ladd, 1) := by decide +kernel
theorem dX9_rise_134 : decode cX9_rise 134 = .ok (.lcmp, 1) := by decide +kernel
theorem dX9_rise_135 : decode cX9_rise 135 = .ok (.ifCond .le 5, 3) := by decide +kernel
theorem dX9_rise_138 : decode cX9_rise 138 = .ok (.iconst 4, 1) := by decide +kernel
theorem dX9_rise_139 : decode cX9_rise 139 = .ok (.ireturn, 1) := by decide +kernel
theorem dX9_rise_140 : decode cX9_rise 140 = .ok (.aload_n 0, 1) := by decide +kernel
theorem dX9_rise_141 : decode cX9_rise 141 = .ok (.getfield 20, 3) := by decide +kernel
theorem dX9_rise_144 : decode cX9_rise 144 = .ok (.iload_n 1, 1) := by decide +kernel
theorem dX9_rise_145 : decode cX9_rise 145 = .ok (.iconst 2, 1) := by decide +kernel
theorem dX9_rise_146 : decode cX9_rise 146 = .ok (.iastore, 1) := by decide +kernel
theorem dX9_rise_147 : decode cX9_rise 147 = .ok (.aload_n 0, 1) := by decide +kernel
theorem dX9_rise_148 : decode cX9_rise 148 = .ok (.getfield 23, 3) := by decide +kernel
theorem dX9_rise_151 : decode cX9_rise 151 = .ok (.iload_n 1, 1) := by decide +kernel
theorem dX9_rise_152 : decode cX9_rise 152 = .ok (.iload_n 2, 1) := by decide +kernel
theorem dX9_rise_153 : decode cX9_rise 153 = .ok (.iastore, 1) := by decide +kernel
theorem dX9_rise_154 : decode cX9_rise 154 = .ok (.aload_n 0, 1) := by decide +kernel
theorem dX9_rise_155 : decode cX9_rise 155 = .ok (.getfield 26, 3) := by decide +kernel
theorem dX9_rise_158 : decode cX9_rise 158 = .ok (.iload_n 1, 1) := by decide +kernel
theorem dX9_rise_159 : decode cX9_rise 159 = .ok (.lload_n 3, 1) := by decide +kernel
theorem dX9_rise_160 : decode cX9_rise 160 = .ok (.lastore, 1) := by decide +kernel
theorem dX9_rise_161 : decode cX9_rise 161 = .ok (.aload_n 0, 1) := by decide +kernel
theorem dX9_rise_162 : decode cX9_rise 162 = .ok (.getfield 39, 3) := by decide +kernel
theorem dX9_rise_165 : decode cX9_rise 165 = .ok (.iload_n 1, 1) := by decide +kernel
theorem dX9_rise_166 : decode cX9_rise 166 = .ok (.aload_n 0, 1) := by decide +kernel
theorem dX9_rise_167 : decode cX9_rise 167 = .ok (.getfield 172, 3) := by decide +kernel
theorem dX9_rise_170 : decode cX9_rise 170 = .ok (.lastore, 1) := by decide +kernel
theorem dX9_rise_171 : decode cX9_rise 171 = .ok (.iconst 0, 1) := by decide +kernel
theorem dX9_rise_172 : decode cX9_rise 172 = .ok (.ireturn, 1) := by decide +kernel
theorem dX9_bid_0 : decode cX9_bid 0 = .ok (.aload_n 0, 1) := by decide +kernel
theorem dX9_bid_1 : decode cX9_bid 1 = .ok (.iload_n 1, 1) := by decide +kernel
theorem dX9_bid_2 : decode cX9_bid 2 = .ok (.invokevirtual 150, 3) := by decide +kernel
theorem dX9_bid_5 : decode cX9_bid 5 = .ok (.ifCond .eq 26, 3) := by decide +kernel
theorem dX9_bid_8 : decode cX9_bid 8 = .ok (.aload_n 0, 1) := by decide +kernel
theorem dX9_bid_9 : decode cX9_bid 9 = .ok (.getfield 196, 3) := by decide +kernel
theorem dX9_bid_12 : decode cX9_bid 12 = .ok (.bipush 18, 2) := by decide +kernel
theorem dX9_bid_14 : decode cX9_bid 14 = .ok (.if_icmp .eq 17, 3) := by decide +kernel
theorem dX9_bid_17 : decode cX9_bid 17 = .ok (.lload_n 2, 1) := by decide +kernel
theorem dX9_bid_18 : decode cX9_bid 18 = .ok (.lconst 0, 1) := by decide +kernel
theorem dX9_bid_19 : decode cX9_bid 19 = .ok (.lcmp, 1) := by decide +kernel
theorem dX9_bid_20 : decode cX9_bid 20 = .ok (.ifCond .lt 11, 3) := by decide +kernel
theorem dX9_bid_23 : decode cX9_bid 23 = .ok (.lload_n 2, 1) := by decide +kernel
theorem dX9_bid_24 : decode cX9_bid 24 = .ok (.ldc2_w 115, 3) := by decide +kernel
theorem dX9_bid_27 : decode cX9_bid 27 = .ok (.lcmp, 1) := by decide +kernel
theorem dX9_bid_28 : decode cX9_bid 28 = .ok (.ifCond .le 5, 3) := by decide +kernel
theorem dX9_bid_31 : decode cX9_bid 31 = .ok (.iconst (-1), 1) := by decide +kernel
theorem dX9_bid_32 : decode cX9_bid 32 = .ok (.ireturn, 1) := by decide +kernel
theorem dX9_bid_33 : decode cX9_bid 33 = .ok (.aload_n 0, 1) := by decide +kernel
theorem dX9_bid_34 : decode cX9_bid 34 = .ok (.getfield 58, 3) := by decide +kernel
theorem dX9_bid_37 : decode cX9_bid 37 = .ok (.aload_n 0, 1) := by decide +kernel
theorem dX9_bid_38 : decode cX9_bid 38 = .ok (.getfield 196, 3) := by decide +kernel
theorem dX9_bid_41 : decode cX9_bid 41 = .ok (.iload_n 1, 1) := by decide +kernel
theorem dX9_bid_42 : decode cX9_bid 42 = .ok (.iastore, 1) := by decide +kernel
theorem dX9_bid_43 : decode cX9_bid 43 = .ok (.aload_n 0, 1) := by decide +kernel
theorem dX9_bid_44 : decode cX9_bid 44 = .ok (.getfield 61, 3) := by decide +kernel
theorem dX9_bid_47 : decode cX9_bid 47 = .ok (.aload_n 0, 1) := by decide +kernel
theorem dX9_bid_48 : decode cX9_bid 48 = .ok (.getfield 196, 3) := by decide +kernel
theorem dX9_bid_51 : decode cX9_bid 51 = .ok (.lload_n 2, 1) := by decide +kernel
theorem dX9_bid_52 : decode cX9_bid 52 = .ok (.lastore, 1) := by decide +kernel
theorem dX9_bid_53 : decode cX9_bid 53 = .ok (.aload_n 0, 1) := by decide +kernel
theorem dX9_bid_54 : decode cX9_bid 54 = .ok (.getfield 64, 3) := by decide +kernel
theorem dX9_bid_57 : decode cX9_bid 57 = .ok (.aload_n 0, 1) := by decide +kernel
theorem dX9_bid_58 : decode cX9_bid 58 = .ok (.getfield 196, 3) := by decide +kernel
theorem dX9_bid_61 : decode cX9_bid 61 = .ok (.lconst 0, 1) := by decide +kernel
theorem dX9_bid_62 : decode cX9_bid 62 = .ok (.lastore, 1) := by decide +kernel
theorem dX9_bid_63 : decode cX9_bid 63 = .ok (.aload_n 0, 1) := by decide +kernel
theorem dX9_bid_64 : decode cX9_bid 64 = .ok (.dup, 1) := by decide +kernel
theorem dX9_bid_65 : decode cX9_bid 65 = .ok (.getfield 196, 3) := by decide +kernel
theorem dX9_bid_68 : decode cX9_bid 68 = .ok (.iconst 1, 1) := by decide +kernel
theorem dX9_bid_69 : decode cX9_bid 69 = .ok (.iadd, 1) := by decide +kernel
theorem dX9_bid_70 : decode cX9_bid 70 = .ok (.putfield 196, 3) := by decide +kernel
theorem dX9_bid_73 : decode cX9_bid 73 = .ok (.aload_n 0, 1) := by decide +kernel
theorem dX9_bid_74 : decode cX9_bid 74 = .ok (.getfield 196, 3) := by decide +kernel
theorem dX9_bid_77 : decode cX9_bid 77 = .ok (.iconst 1, 1) := by decide +kernel
theorem dX9_bid_78 : decode cX9_bid 78 = .ok (.isub, 1) := by decide +kernel
theorem dX9_bid_79 : decode cX9_bid 79 = .ok (.ireturn, 1) := by decide +kernel
theorem dX9_on_0 : decode cX9_on 0 = .ok (.iload_n 1, 1) := by decide +kernel
theorem dX9_on_1 : decode cX9_on 1 = .ok (.ifCond .lt 43, 3) := by decide +kernel
theorem dX9_on_4 : decode cX9_on 4 = .ok (.iload_n 1, 1) := by decide +kernel
theorem dX9_on_5 : decode cX9_on 5 = .ok (.aload_n 0, 1) := by decide +kernel
theorem dX9_on_6 : decode cX9_on 6 = .ok (.getfield 196, 3) := by decide +kernel
theorem dX9_on_9 : decode cX9_on 9 = .ok (.if_icmp .ge 35, 3) := by decide +kernel
theorem dX9_on_12 : decode cX9_on 12 = .ok (.aload_n 0, 1) := by decide +kernel
theorem dX9_on_13 : decode cX9_on 13 = .ok (.iload_n 2, 1) := by decide +kernel
theorem dX9_on_14 : decode cX9_on 14 = .ok (.invokevirtual 119, 3) := by decide +kernel
theorem dX9_on_17 : decode cX9_on 17 = .ok (.ifCond .eq 27, 3) := by decide +kernel
theorem dX9_on_20 : decode cX9_on 20 = .ok (.aload_n 0, 1) := by decide +kernel
theorem dX9_on_21 : decode cX9_on 21 = .ok (.getfield 64, 3) := by decide +kernel
theorem dX9_on_24 : decode cX9_on 24 = .ok (.iload_n 1, 1) := by decide +kernel
theorem dX9_on_25 : decode cX9_on 25 = .ok (.laload, 1) := by decide +kernel
theorem dX9_on_26 : decode cX9_on 26 = .ok (.iload_n 2, 1) := by decide +kernel
theorem dX9_on_27 : decode cX9_on 27 = .ok (.lshr, 1) := by decide +kernel
theorem dX9_on_28 : decode cX9_on 28 = .ok (.lconst 1, 1) := by decide +kernel
theorem dX9_on_29 : decode cX9_on 29 = .ok (.land, 1) := by decide +kernel
theorem dX9_on_30 : decode cX9_on 30 = .ok (.lconst 1, 1) := by decide +kernel
theorem dX9_on_31 : decode cX9_on 31 = .ok (.lcmp, 1) := by decide +kernel
theorem dX9_on_32 : decode cX9_on 32 = .ok (.ifCond .eq 12, 3) := by decide +kernel
theorem dX9_on_35 : decode cX9_on 35 = .ok (.aload_n 0, 1) := by decide +kernel
theorem dX9_on_36 : decode cX9_on 36 = .ok (.getfield 20, 3) := by decide +kernel
theorem dX9_on_39 : decode cX9_on 39 = .ok (.iload_n 2, 1) := by decide +kernel
theorem dX9_on_40 : decode cX9_on 40 = .ok (.iaload, 1) := by decide +kernel
theorem dX9_on_41 : decode cX9_on 41 = .ok (.ifCond .eq 5, 3) := by decide +kernel
theorem dX9_on_44 : decode cX9_on 44 = .ok (.iconst 0, 1) := by decide +kernel
theorem dX9_on_45 : decode cX9_on 45 = .ok (.ireturn, 1) := by decide +kernel
theorem dX9_on_46 : decode cX9_on 46 = .ok (.aload_n 0, 1) := by decide +kernel
theorem dX9_on_47 : decode cX9_on 47 = .ok (.getfield 64, 3) := by decide +kernel
theorem dX9_on_50 : decode cX9_on 50 = .ok (.iload_n 1, 1) := by decide +kernel
theorem dX9_on_51 : decode cX9_on 51 = .ok (.aload_n 0, 1) := by decide +kernel
theorem dX9_on_52 : decode cX9_on 52 = .ok (.getfield 64, 3) := by decide +kernel
theorem dX9_on_55 : decode cX9_on 55 = .ok (.iload_n 1, 1) := by decide +kernel
theorem dX9_on_56 : decode cX9_on 56 = .ok (.laload, 1) := by decide +kernel
theorem dX9_on_57 : decode cX9_on 57 = .ok (.lconst 1, 1) := by decide +kernel
theorem dX9_on_58 : decode cX9_on 58 = .ok (.iload_n 2, 1) := by decide +kernel
theorem dX9_on_59 : decode cX9_on 59 = .ok (.lshl, 1) := by decide +kernel
theorem dX9_on_60 : decode cX9_on 60 = .ok (.lor, 1) := by decide +kernel
theorem dX9_on_61 : decode cX9_on 61 = .ok (.lastore, 1) := by decide +kernel
theorem dX9_on_62 : decode cX9_on 62 = .ok (.iconst 1, 1) := by decide +kernel
theorem dX9_on_63 : decode cX9_on 63 = .ok (.ireturn, 1) := by decide +kernel
theorem dX9_isGood_0 : decode cX9_isGood 0 = .ok (.aload_n 0, 1) := by decide +kernel
theorem dX9_isGood_1 : decode cX9_isGood 1 = .ok (.getfield 64, 3) := by decide +kernel
theorem dX9_isGood_4 : decode cX9_isGood 4 = .ok (.iload_n 1, 1) := by decide +kernel
theorem dX9_isGood_5 : decode cX9_isGood 5 = .ok (.laload, 1) := by decide +kernel
theorem dX9_isGood_6 : decode cX9_isGood 6 = .ok (.lconst 0, 1) := by decide +kernel
theorem dX9_isGood_7 : decode cX9_isGood 7 = .ok (.lcmp, 1) := by decide +kernel
theorem dX9_isGood_8 : decode cX9_isGood 8 = .ok (.ifCond .eq 7, 3) := by decide +kernel
theorem dX9_isGood_11 : decode cX9_isGood 11 = .ok (.iconst 1, 1) := by decide +kernel
theorem dX9_isGood_12 : decode cX9_isGood 12 = .ok (.goto 4, 3) := by decide +kernel
theorem dX9_isGood_15 : decode cX9_isGood 15 = .ok (.iconst 0, 1) := by decide +kernel
theorem dX9_isGood_16 : decode cX9_isGood 16 = .ok (.istore_n 2, 1) := by decide +kernel
theorem dX9_isGood_17 : decode cX9_isGood 17 = .ok (.lconst 0, 1) := by decide +kernel
theorem dX9_isGood_18 : decode cX9_isGood 18 = .ok (.lstore_n 3, 1) := by decide +kernel
theorem dX9_isGood_19 : decode cX9_isGood 19 = .ok (.iconst 0, 1) := by decide +kernel
theorem dX9_isGood_20 : decode cX9_isGood 20 = .ok (.istore 5, 2) := by decide +kernel
theorem dX9_isGood_22 : decode cX9_isGood 22 = .ok (.iload 5, 2) := by decide +kernel
theorem dX9_isGood_24 : decode cX9_isGood 24 = .ok (.aload_n 0, 1) := by decide +kernel
theorem dX9_isGood_25 : decode cX9_isGood 25 = .ok (.getfield 82, 3) := by decide +kernel
theorem dX9_isGood_28 : decode cX9_isGood 28 = .ok (.if_icmp .ge 55, 3) := by decide +kernel
theorem dX9_isGood_31 : decode cX9_isGood 31 = .ok (.aload_n 0, 1) := by decide +kernel
theorem dX9_isGood_32 : decode cX9_isGood 32 = .ok (.getfield 64, 3) := by decide +kernel
theorem dX9_isGood_35 : decode cX9_isGood 35 = .ok (.iload_n 1, 1) := by decide +kernel
theorem dX9_isGood_36 : decode cX9_isGood 36 = .ok (.laload, 1) := by decide +kernel
theorem dX9_isGood_37 : decode cX9_isGood 37 = .ok (.iload 5, 2) := by decide +kernel
theorem dX9_isGood_39 : decode cX9_isGood 39 = .ok (.lshr, 1) := by decide +kernel
theorem dX9_isGood_40 : decode cX9_isGood 40 = .ok (.lconst 1, 1) := by decide +kernel
theorem dX9_isGood_41 : decode cX9_isGood 41 = .ok (.land, 1) := by decide +kernel
theorem dX9_isGood_42 : decode cX9_isGood 42 = .ok (.lconst 1, 1) := by decide +kernel
theorem dX9_isGood_43 : decode cX9_isGood 43 = .ok (.lcmp, 1) := by decide +kernel
theorem dX9_isGood_44 : decode cX9_isGood 44 = .ok (.ifCond .ne 33, 3) := by decide +kernel
theorem dX9_isGood_47 : decode cX9_isGood 47 = .ok (.iload_n 2, 1) := by decide +kernel
theorem dX9_isGood_48 : decode cX9_isGood 48 = .ok (.ifCond .eq 17, 3) := by decide +kernel
theorem dX9_isGood_51 : decode cX9_isGood 51 = .ok (.aload_n 0, 1) := by decide +kernel
theorem dX9_isGood_52 : decode cX9_isGood 52 = .ok (.getfield 20, 3) := by decide +kernel
theorem dX9_isGood_55 : decode cX9_isGood 55 = .ok (.iload 5, 2) := by decide +kernel
theorem dX9_isGood_57 : decode cX9_isGood 57 = .ok (.iaload, 1) := by decide +kernel
theorem dX9_isGood_58 : decode cX9_isGood 58 = .ok (.ifCond .ne 7, 3) := by decide +kernel
theorem dX9_isGood_61 : decode cX9_isGood 61 = .ok (.iconst 1, 1) := by decide +kernel
theorem dX9_isGood_62 : decode cX9_isGood 62 = .ok (.goto 4, 3) := by decide +kernel
theorem dX9_isGood_65 : decode cX9_isGood 65 = .ok (.iconst 0, 1) := by decide +kernel
theorem dX9_isGood_66 : decode cX9_isGood 66 = .ok (.istore_n 2, 1) := by decide +kernel
theorem dX9_isGood_67 : decode cX9_isGood 67 = .ok (.lload_n 3, 1) := by decide +kernel
theorem dX9_isGood_68 : decode cX9_isGood 68 = .ok (.aload_n 0, 1) := by decide +kernel
theorem dX9_isGood_69 : decode cX9_isGood 69 = .ok (.getfield 17, 3) := by decide +kernel
theorem dX9_isGood_72 : decode cX9_isGood 72 = .ok (.iload 5, 2) := by decide +kernel
theorem dX9_isGood_74 : decode cX9_isGood 74 = .ok (.laload, 1) := by decide +kernel
theorem dX9_isGood_75 : decode cX9_isGood 75 = .ok (.ladd, 1) := by decide +kernel
theorem dX9_isGood_76 : decode cX9_isGood 76 = .ok (.lstore_n 3, 1) := by decide +kernel
theorem dX9_isGood_77 : decode cX9_isGood 77 = .ok (.iinc 5 1, 3) := by decide +kernel
theorem dX9_isGood_80 : decode cX9_isGood 80 = .ok (.goto (-58), 3) := by decide +kernel
theorem dX9_isGood_83 : decode cX9_isGood 83 = .ok (.iload_n 2, 1) := by decide +kernel
theorem dX9_isGood_84 : decode cX9_isGood 84 = .ok (.ifCond .eq 18, 3) := by decide +kernel
theorem dX9_isGood_87 : decode cX9_isGood 87 = .ok (.aload_n 0, 1) := by decide +kernel
theorem dX9_isGood_88 : decode cX9_isGood 88 = .ok (.getfield 61, 3) := by decide +kernel
theorem dX9_isGood_91 : decode cX9_isGood 91 = .ok (.iload_n 1, 1) := by decide +kernel
theorem dX9_isGood_92 : decode cX9_isGood 92 = .ok (.laload, 1) := by decide +kernel
theorem dX9_isGood_93 : decode cX9_isGood 93 = .ok (.lload_n 3, 1) := by decide +kernel
theorem dX9_isGood_94 : decode cX9_isGood 94 = .ok (.lcmp, 1) := by decide +kernel
theorem dX9_isGood_95 : decode cX9_isGood 95 = .ok (.ifCond .lt 7, 3) := by decide +kernel
theorem dX9_isGood_98 : decode cX9_isGood 98 = .ok (.iconst 1, 1) := by decide +kernel
theorem dX9_isGood_99 : decode cX9_isGood 99 = .ok (.goto 4, 3) := by decide +kernel
theorem dX9_isGood_102 : decode cX9_isGood 102 = .ok (.iconst 0, 1) := by decide +kernel
theorem dX9_isGood_103 : decode cX9_isGood 103 = .ok (.ireturn, 1) := by decide +kernel
theorem dX9_sumOf_0 : decode cX9_sumOf 0 = .ok (.lconst 0, 1) := by decide +kernel
theorem dX9_sumOf_1 : decode cX9_sumOf 1 = .ok (.lstore_n 2, 1) := by decide +kernel
theorem dX9_sumOf_2 : decode cX9_sumOf 2 = .ok (.lconst 0, 1) := by decide +kernel
theorem dX9_sumOf_3 : decode cX9_sumOf 3 = .ok (.lstore 4, 2) := by decide +kernel
theorem dX9_sumOf_5 : decode cX9_sumOf 5 = .ok (.iconst 0, 1) := by decide +kernel
theorem dX9_sumOf_6 : decode cX9_sumOf 6 = .ok (.istore 6, 2) := by decide +kernel
theorem dX9_sumOf_8 : decode cX9_sumOf 8 = .ok (.iload 6, 2) := by decide +kernel
theorem dX9_sumOf_10 : decode cX9_sumOf 10 = .ok (.aload_n 0, 1) := by decide +kernel
theorem dX9_sumOf_11 : decode cX9_sumOf 11 = .ok (.getfield 196, 3) := by decide +kernel
theorem dX9_sumOf_14 : decode cX9_sumOf 14 = .ok (.if_icmp .ge 59, 3) := by decide +kernel
theorem dX9_sumOf_17 : decode cX9_sumOf 17 = .ok (.iload_n 1, 1) := by decide +kernel
theorem dX9_sumOf_18 : decode cX9_sumOf 18 = .ok (.iload 6, 2) := by decide +kernel
theorem dX9_sumOf_20 : decode cX9_sumOf 20 = .ok (.ishr, 1) := by decide +kernel
theorem dX9_sumOf_21 : decode cX9_sumOf 21 = .ok (.iconst 1, 1) := by decide +kernel
theorem dX9_sumOf_22 : decode cX9_sumOf 22 = .ok (.iand, 1) := by decide +kernel
theorem dX9_sumOf_23 : decode cX9_sumOf 23 = .ok (.iconst 1, 1) := by decide +kernel
theorem dX9_sumOf_24 : decode cX9_sumOf 24 = .ok (.if_icmp .ne 43, 3) := by decide +kernel
theorem dX9_sumOf_27 : decode cX9_sumOf 27 = .ok (.lload_n 2, 1) := by decide +kernel
theorem dX9_sumOf_28 : decode cX9_sumOf 28 = .ok (.aload_n 0, 1) := by decide +kernel
theorem dX9_sumOf_29 : decode cX9_sumOf 29 = .ok (.getfield 64, 3) := by decide +kernel
theorem dX9_sumOf_32 : decode cX9_sumOf 32 = .ok (.iload 6, 2) := by decide +kernel
theorem dX9_sumOf_34 : decode cX9_sumOf 34 = .ok (.laload, 1) := by decide +kernel
theorem dX9_sumOf_35 : decode cX9_sumOf 35 = .ok (.land, 1) := by decide +kernel
theorem dX9_sumOf_36 : decode cX9_sumOf 36 = .ok (.lconst 0, 1) := by decide +kernel
theorem dX9_sumOf_37 : decode cX9_sumOf 37 = .ok (.lcmp, 1) := by decide +kernel
theorem dX9_sumOf_38 : decode cX9_sumOf 38 = .ok (.ifCond .eq 7, 3) := by decide +kernel
theorem dX9_sumOf_41 : decode cX9_sumOf 41 = .ok (.ldc2_w 117, 3) := by decide +kernel
theorem dX9_sumOf_44 : decode cX9_sumOf 44 = .ok (.lreturn, 1) := by decide +kernel
theorem dX9_sumOf_45 : decode cX9_sumOf 45 = .ok (.lload_n 2, 1) := by decide +kernel
theorem dX9_sumOf_46 : decode cX9_sumOf 46 = .ok (.aload_n 0, 1) := by decide +kernel
theorem dX9_sumOf_47 : decode cX9_sumOf 47 = .ok (.getfield 64, 3) := by decide +kernel
theorem dX9_sumOf_50 : decode cX9_sumOf 50 = .ok (.iload 6, 2) := by decide +kernel
theorem dX9_sumOf_52 : decode cX9_sumOf 52 = .ok (.laload, 1) := by decide +kernel
theorem dX9_sumOf_53 : decode cX9_sumOf 53 = .ok (.lor, 1) := by decide +kernel
theorem dX9_sumOf_54 : decode cX9_sumOf 54 = .ok (.lstore_n 2, 1) := by decide +kernel
theorem dX9_sumOf_55 : decode cX9_sumOf 55 = .ok (.lload 4, 2) := by decide +kernel
theorem dX9_sumOf_57 : decode cX9_sumOf 57 = .ok (.aload_n 0, 1) := by decide +kernel
theorem dX9_sumOf_58 : decode cX9_sumOf 58 = .ok (.getfield 61, 3) := by decide +kernel
theorem dX9_sumOf_61 : decode cX9_sumOf 61 = .ok (.iload 6, 2) := by decide +kernel
theorem dX9_sumOf_63 : decode cX9_sumOf 63 = .ok (.laload, 1) := by decide +kernel
theorem dX9_sumOf_64 : decode cX9_sumOf 64 = .ok (.ladd, 1) := by decide +kernel
theorem dX9_sumOf_65 : decode cX9_sumOf 65 = .ok (.lstore 4, 2) := by decide +kernel
theorem dX9_sumOf_67 : decode cX9_sumOf 67 = .ok (.iinc 6 1, 3) := by decide +kernel
theorem dX9_sumOf_70 : decode cX9_sumOf 70 = .ok (.goto (-62), 3) := by decide +kernel
theorem dX9_sumOf_73 : decode cX9_sumOf 73 = .ok (.iconst 0, 1) := by decide +kernel
theorem dX9_sumOf_74 : decode cX9_sumOf 74 = .ok (.istore 6, 2) := by decide +kernel
theorem dX9_sumOf_76 : decode cX9_sumOf 76 = .ok (.iload 6, 2) := by decide +kernel
theorem dX9_sumOf_78 : decode cX9_sumOf 78 = .ok (.aload_n 0, 1) := by decide +kernel
theorem dX9_sumOf_79 : decode cX9_sumOf 79 = .ok (.getfield 85, 3) := by decide +kernel
theorem dX9_sumOf_82 : decode cX9_sumOf 82 = .ok (.if_icmp .ge 91, 3) := by decide +kernel
theorem dX9_sumOf_85 : decode cX9_sumOf 85 = .ok (.lconst 0, 1) := by decide +kernel
theorem dX9_sumOf_86 : decode cX9_sumOf 86 = .ok (.lstore 7, 2) := by decide +kernel
theorem dX9_sumOf_88 : decode cX9_sumOf 88 = .ok (.iconst 0, 1) := by decide +kernel
theorem dX9_sumOf_89 : decode cX9_sumOf 89 = .ok (.istore 9, 2) := by decide +kernel
theorem dX9_sumOf_91 : decode cX9_sumOf 91 = .ok (.iload 9, 2) := by decide +kernel
theorem dX9_sumOf_93 : decode cX9_sumOf 93 = .ok (.aload_n 0, 1) := by decide +kernel
theorem dX9_sumOf_94 : decode cX9_sumOf 94 = .ok (.getfield 196, 3) := by decide +kernel
theorem dX9_sumOf_97 : decode cX9_sumOf 97 = .ok (.if_icmp .ge 47, 3) := by decide +kernel
theorem dX9_sumOf_100 : decode cX9_sumOf 100 = .ok (.lload 7, 2) := by decide +kernel
theorem dX9_sumOf_102 : decode cX9_sumOf 102 = .ok (.iload_n 1, 1) := by decide +kernel
theorem dX9_sumOf_103 : decode cX9_sumOf 103 = .ok (.iload 9, 2) := by decide +kernel
theorem dX9_sumOf_105 : decode cX9_sumOf 105 = .ok (.ishr, 1) := by decide +kernel
theorem dX9_sumOf_106 : decode cX9_sumOf 106 = .ok (.iconst 1, 1) := by decide +kernel
theorem dX9_sumOf_107 : decode cX9_sumOf 107 = .ok (.iand, 1) := by decide +kernel
theorem dX9_sumOf_108 : decode cX9_sumOf 108 = .ok (.iconst 1, 1) := by decide +kernel
theorem dX9_sumOf_109 : decode cX9_sumOf 109 = .ok (.if_icmp .ne 25, 3) := by decide +kernel
theorem dX9_sumOf_112 : decode cX9_sumOf 112 = .ok (.aload_n 0, 1) := by decide +kernel
theorem dX9_sumOf_113 : decode cX9_sumOf 113 = .ok (.getfield 58, 3) := by decide +kernel
theorem dX9_sumOf_116 : decode cX9_sumOf 116 = .ok (.iload 9, 2) := by decide +kernel
theorem dX9_sumOf_118 : decode cX9_sumOf 118 = .ok (.iaload, 1) := by decide +kernel
theorem dX9_sumOf_119 : decode cX9_sumOf 119 = .ok (.iload 6, 2) := by decide +kernel
theorem dX9_sumOf_121 : decode cX9_sumOf 121 = .ok (.if_icmp .ne 13, 3) := by decide +kernel
theorem dX9_sumOf_124 : decode cX9_sumOf 124 = .ok (.aload_n 0, 1) := by decide +kernel
theorem dX9_sumOf_125 : decode cX9_sumOf 125 = .ok (.getfield 61, 3) := by decide +kernel
theorem dX9_sumOf_128 : decode cX9_sumOf 128 = .ok (.iload 9, 2) := by decide +kernel
theorem dX9_sumOf_130 : decode cX9_sumOf 130 = .ok (.laload, 1) := by decide +kernel
theorem dX9_sumOf_131 : decode cX9_sumOf 131 = .ok (.goto 4, 3) := by decide +kernel
theorem dX9_sumOf_134 : decode cX9_sumOf 134 = .ok (.lconst 0, 1) := by decide +kernel
theorem dX9_sumOf_135 : decode cX9_sumOf 135 = .ok (.ladd, 1) := by decide +kernel
theorem dX9_sumOf_136 : decode cX9_sumOf 136 = .ok (.lstore 7, 2) := by decide +kernel
theorem dX9_sumOf_138 : decode cX9_sumOf 138 = .ok (.iinc 9 1, 3) := by decide +kernel
theorem dX9_sumOf_141 : decode cX9_sumOf 141 = .ok (.goto (-50), 3) := by decide +kernel
theorem dX9_sumOf_144 : decode cX9_sumOf 144 = .ok (.lload 7, 2) := by decide +kernel
theorem dX9_sumOf_146 : decode cX9_sumOf 146 = .ok (.lconst 0, 1) := by decide +kernel
theorem dX9_sumOf_147 : decode cX9_sumOf 147 = .ok (.lcmp, 1) := by decide +kernel
theorem dX9_sumOf_148 : decode cX9_sumOf 148 = .ok (.ifCond .le 19, 3) := by decide +kernel
theorem dX9_sumOf_151 : decode cX9_sumOf 151 = .ok (.lload 7, 2) := by decide +kernel
theorem dX9_sumOf_153 : decode cX9_sumOf 153 = .ok (.aload_n 0, 1) := by decide +kernel
theorem dX9_sumOf_154 : decode cX9_sumOf 154 = .ok (.iload 6, 2) := by decide +kernel
theorem dX9_sumOf_156 : decode cX9_sumOf 156 = .ok (.invokevirtual 157, 3) := by decide +kernel
theorem dX9_sumOf_159 : decode cX9_sumOf 159 = .ok (.lcmp, 1) := by decide +kernel
theorem dX9_sumOf_160 : decode cX9_sumOf 160 = .ok (.ifCond .le 7, 3) := by decide +kernel
theorem dX9_sumOf_163 : decode cX9_sumOf 163 = .ok (.ldc2_w 117, 3) := by decide +kernel
theorem dX9_sumOf_166 : decode cX9_sumOf 166 = .ok (.lreturn, 1) := by decide +kernel
theorem dX9_sumOf_167 : decode cX9_sumOf 167 = .ok (.iinc 6 1, 3) := by decide +kernel
theorem dX9_sumOf_170 : decode cX9_sumOf 170 = .ok (.goto (-94), 3) := by decide +kernel
theorem dX9_sumOf_173 : decode cX9_sumOf 173 = .ok (.lload 4, 2) := by decide +kernel
theorem dX9_sumOf_175 : decode cX9_sumOf 175 = .ok (.lreturn, 1) := by decide +kernel
theorem dX9_size_0 : decode cX9_size 0 = .ok (.iconst 0, 1) := by decide +kernel
theorem dX9_size_1 : decode cX9_size 1 = .ok (.istore_n 1, 1) := by decide +kernel
theorem dX9_size_2 : decode cX9_size 2 = .ok (.iconst 0, 1) := by decide +kernel
theorem dX9_size_3 : decode cX9_size 3 = .ok (.istore_n 2, 1) := by decide +kernel
theorem dX9_size_4 : decode cX9_size 4 = .ok (.iload_n 2, 1) := by decide +kernel
theorem dX9_size_5 : decode cX9_size 5 = .ok (.bipush 18, 2) := by decide +kernel
theorem dX9_size_7 : decode cX9_size 7 = .ok (.if_icmp .ge 17, 3) := by decide +kernel
theorem dX9_size_10 : decode cX9_size 10 = .ok (.iload_n 1, 1) := by decide +kernel
theorem dX9_size_11 : decode cX9_size 11 = .ok (.iload_n 0, 1) := by decide +kernel
theorem dX9_size_12 : decode cX9_size 12 = .ok (.iload_n 2, 1) := by decide +kernel
theorem dX9_size_13 : decode cX9_size 13 = .ok (.ishr, 1) := by decide +kernel
theorem dX9_size_14 : decode cX9_size 14 = .ok (.iconst 1, 1) := by decide +kernel
theorem dX9_size_15 : decode cX9_size 15 = .ok (.iand, 1) := by decide +kernel
theorem dX9_size_16 : decode cX9_size 16 = .ok (.iadd, 1) := by decide +kernel
theorem dX9_size_17 : decode cX9_size 17 = .ok (.istore_n 1, 1) := by decide +kernel
theorem dX9_size_18 : decode cX9_size 18 = .ok (.iinc 2 1, 3) := by decide +kernel
theorem dX9_size_21 : decode cX9_size 21 = .ok (.goto (-17), 3) := by decide +kernel
theorem dX9_size_24 : decode cX9_size 24 = .ok (.iload_n 1, 1) := by decide +kernel
theorem dX9_size_25 : decode cX9_size 25 = .ok (.ireturn, 1) := by decide +kernel
theorem dX9_isFirst_0 : decode cX9_isFirst 0 = .ok (.iload_n 0, 1) := by decide +kernel
theorem dX9_isFirst_1 : decode cX9_isFirst 1 = .ok (.iload_n 1, 1) := by decide +kernel
theorem dX9_isFirst_2 : decode cX9_isFirst 2 = .ok (.ixor, 1) := by decide +kernel
theorem dX9_isFirst_3 : decode cX9_isFirst 3 = .ok (.istore_n 2, 1) := by decide +kernel
theorem dX9_isFirst_4 : decode cX9_isFirst 4 = .ok (.iload_n 2, 1) := by decide +kernel
theorem dX9_isFirst_5 : decode cX9_isFirst 5 = .ok (.ifCond .eq 16, 3) := by decide +kernel
theorem dX9_isFirst_8 : decode cX9_isFirst 8 = .ok (.iload_n 0, 1) := by decide +kernel
theorem dX9_isFirst_9 : decode cX9_isFirst 9 = .ok (.iload_n 2, 1) := by decide +kernel
theorem dX9_isFirst_10 : decode cX9_isFirst 10 = .ok (.iand, 1) := by decide +kernel
theorem dX9_isFirst_11 : decode cX9_isFirst 11 = .ok (.iload_n 2, 1) := by decide +kernel
theorem dX9_isFirst_12 : decode cX9_isFirst 12 = .ok (.ineg, 1) := by decide +kernel
theorem dX9_isFirst_13 : decode cX9_isFirst 13 = .ok (.iand, 1) := by decide +kernel
theorem dX9_isFirst_14 : decode cX9_isFirst 14 = .ok (.ifCond .eq 7, 3) := by decide +kernel
theorem dX9_isFirst_17 : decode cX9_isFirst 17 = .ok (.iconst 1, 1) := by decide +kernel
theorem dX9_isFirst_18 : decode cX9_isFirst 18 = .ok (.goto 4, 3) := by decide +kernel
theorem dX9_isFirst_21 : decode cX9_isFirst 21 = .ok (.iconst 0, 1) := by decide +kernel
theorem dX9_isFirst_22 : decode cX9_isFirst 22 = .ok (.ireturn, 1) := by decide +kernel
theorem dX9_sets_0 : decode cX9_sets 0 = .ok (.aload_n 0, 1) := by decide +kernel
theorem dX9_sets_1 : decode cX9_sets 1 = .ok (.iconst 0, 1) := by decide +kernel
theorem dX9_sets_2 : decode cX9_sets 2 = .ok (.putfield 199, 3) := by decide +kernel
theorem dX9_sets_5 : decode cX9_sets 5 = .ok (.aload_n 0, 1) := by decide +kernel
theorem dX9_sets_6 : decode cX9_sets 6 = .ok (.getfield 196, 3) := by decide +kernel
theorem dX9_sets_9 : decode cX9_sets 9 = .ok (.ifCond .eq 14, 3) := by decide +kernel
theorem dX9_sets_12 : decode cX9_sets 12 = .ok (.lconst 1, 1) := by decide +kernel
theorem dX9_sets_13 : decode cX9_sets 13 = .ok (.aload_n 0, 1) := by decide +kernel
theorem dX9_sets_14 : decode cX9_sets 14 = .ok (.getfield 196, 3) := by decide +kernel
theorem dX9_sets_17 : decode cX9_sets 17 = .ok (.lshl, 1) := by decide +kernel
theorem dX9_sets_18 : decode cX9_sets 18 = .ok (.lload_n 1, 1) := by decide +kernel
theorem dX9_sets_19 : decode cX9_sets 19 = .ok (.lcmp, 1) := by decide +kernel
theorem dX9_sets_20 : decode cX9_sets 20 = .ok (.ifCond .le 5, 3) := by decide +kernel
theorem dX9_sets_23 : decode cX9_sets 23 = .ok (.iconst (-1), 1) := by decide +kernel
theorem dX9_sets_24 : decode cX9_sets 24 = .ok (.ireturn, 1) := by decide +kernel
theorem dX9_sets_25 : decode cX9_sets 25 = .ok (.iconst 0, 1) := by decide +kernel
theorem dX9_sets_26 : decode cX9_sets 26 = .ok (.istore_n 3, 1) := by decide +kernel
theorem dX9_sets_27 : decode cX9_sets 27 = .ok (.iconst 0, 1) := by decide +kernel
theorem dX9_sets_28 : decode cX9_sets 28 = .ok (.istore 4, 2) := by decide +kernel
theorem dX9_sets_30 : decode cX9_sets 30 = .ok (.iload 4, 2) := by decide +kernel
theorem dX9_sets_32 : decode cX9_sets 32 = .ok (.aload_n 0, 1) := by decide +kernel
theorem dX9_sets_33 : decode cX9_sets 33 = .ok (.getfield 196, 3) := by decide +kernel
theorem dX9_sets_36 : decode cX9_sets 36 = .ok (.if_icmp .ge 29, 3) := by decide +kernel
theorem dX9_sets_39 : decode cX9_sets 39 = .ok (.aload_n 0, 1) := by decide +kernel
theorem dX9_sets_40 : decode cX9_sets 40 = .ok (.iload 4, 2) := by decide +kernel
theorem dX9_sets_42 : decode cX9_sets 42 = .ok (.invokevirtual 202, 3) := by decide +kernel
theorem dX9_sets_45 : decode cX9_sets 45 = .ok (.ifCond .eq 12, 3) := by decide +kernel
theorem dX9_sets_48 : decode cX9_sets 48 = .ok (.iload_n 3, 1) := by decide +kernel
theorem dX9_sets_49 : decode cX9_sets 49 = .ok (.iconst 1, 1) := by decide +kernel
theorem dX9_sets_50 : decode cX9_sets 50 = .ok (.iload 4, 2) := by decide +kernel
theorem dX9_sets_52 : decode cX9_sets 52 = .ok (.ishl, 1) := by decide +kernel
theorem dX9_sets_53 : decode cX9_sets 53 = .ok (.ior, 1) := by decide +kernel
theorem dX9_sets_54 : decode cX9_sets 54 = .ok (.goto 4, 3) := by decide +kernel
theorem dX9_sets_57 : decode cX9_sets 57 = .ok (.iload_n 3, 1) := by decide +kernel
theorem dX9_sets_58 : decode cX9_sets 58 = .ok (.istore_n 3, 1) := by decide +kernel
theorem dX9_sets_59 : decode cX9_sets 59 = .ok (.iinc 4 1, 3) := by decide +kernel
theorem dX9_sets_62 : decode cX9_sets 62 = .ok (.goto (-32), 3) := by decide +kernel
theorem dX9_sets_65 : decode cX9_sets 65 = .ok (.iconst 0, 1) := by decide +kernel
theorem dX9_sets_66 : decode cX9_sets 66 = .ok (.istore 4, 2) := by decide +kernel
theorem dX9_sets_68 : decode cX9_sets 68 = .ok (.lconst 0, 1) := by decide +kernel
theorem dX9_sets_69 : decode cX9_sets 69 = .ok (.lstore 5, 2) := by decide +kernel
theorem dX9_sets_71 : decode cX9_sets 71 = .ok (.iconst 1, 1) := by decide +kernel
theorem dX9_sets_72 : decode cX9_sets 72 = .ok (.istore 7, 2) := by decide +kernel
theorem dX9_sets_74 : decode cX9_sets 74 = .ok (.iload 7, 2) := by decide +kernel
theorem dX9_sets_76 : decode cX9_sets 76 = .ok (.iconst 1, 1) := by decide +kernel
theorem dX9_sets_77 : decode cX9_sets 77 = .ok (.aload_n 0, 1) := by decide +kernel
theorem dX9_sets_78 : decode cX9_sets 78 = .ok (.getfield 196, 3) := by decide +kernel
theorem dX9_sets_81 : decode cX9_sets 81 = .ok (.ishl, 1) := by decide +kernel
theorem dX9_sets_82 : decode cX9_sets 82 = .ok (.if_icmp .ge 95, 3) := by decide +kernel
theorem dX9_sets_85 : decode cX9_sets 85 = .ok (.iload 7, 2) := by decide +kernel
theorem dX9_sets_87 : decode cX9_sets 87 = .ok (.iload_n 3, 1) := by decide +kernel
theorem dX9_sets_88 : decode cX9_sets 88 = .ok (.iconst (-1), 1) := by decide +kernel
theorem dX9_sets_89 : decode cX9_sets 89 = .ok (.ixor, 1) := by decide +kernel
theorem dX9_sets_90 : decode cX9_sets 90 = .ok (.iand, 1) := by decide +kernel
theorem dX9_sets_91 : decode cX9_sets 91 = .ok (.ifCond .ne 80, 3) := by decide +kernel
theorem dX9_sets_94 : decode cX9_sets 94 = .ok (.aload_n 0, 1) := by decide +kernel
theorem dX9_sets_95 : decode cX9_sets 95 = .ok (.iload 7, 2) := by decide +kernel
theorem dX9_sets_97 : decode cX9_sets 97 = .ok (.invokevirtual 205, 3) := by decide +kernel
theorem dX9_sets_100 : decode cX9_sets 100 = .ok (.lstore 8, 2) := by decide +kernel
theorem dX9_sets_102 : decode cX9_sets 102 = .ok (.lload 8, 2) := by decide +kernel
theorem dX9_sets_104 : decode cX9_sets 104 = .ok (.lload 5, 2) := by decide +kernel
theorem dX9_sets_106 : decode cX9_sets 106 = .ok (.lcmp, 1) := by decide +kernel
theorem dX9_sets_107 : decode cX9_sets 107 = .ok (.ifCond .gt 56, 3) := by decide +kernel
theorem dX9_sets_110 : decode cX9_sets 110 = .ok (.lload 8, 2) := by decide +kernel
theorem dX9_sets_112 : decode cX9_sets 112 = .ok (.lload 5, 2) := by decide +kernel
theorem dX9_sets_114 : decode cX9_sets 114 = .ok (.lcmp, 1) := by decide +kernel
theorem dX9_sets_115 : decode cX9_sets 115 = .ok (.ifCond .ne 56, 3) := by decide +kernel
theorem dX9_sets_118 : decode cX9_sets 118 = .ok (.lload 8, 2) := by decide +kernel
theorem dX9_sets_120 : decode cX9_sets 120 = .ok (.ldc2_w 117, 3) := by decide +kernel
theorem dX9_sets_123 : decode cX9_sets 123 = .ok (.lcmp, 1) := by decide +kernel
theorem dX9_sets_124 : decode cX9_sets 124 = .ok (.ifCond .eq 47, 3) := by decide +kernel
theorem dX9_sets_127 : decode cX9_sets 127 = .ok (.iload 7, 2) := by decide +kernel
theorem dX9_sets_129 : decode cX9_sets 129 = .ok (.invokestatic 208, 3) := by decide +kernel
theorem dX9_sets_132 : decode cX9_sets 132 = .ok (.iload 4, 2) := by decide +kernel
theorem dX9_sets_134 : decode cX9_sets 134 = .ok (.invokestatic 208, 3) := by decide +kernel
theorem dX9_sets_137 : decode cX9_sets 137 = .ok (.if_icmp .lt 26, 3) := by decide +kernel
theorem dX9_sets_140 : decode cX9_sets 140 = .ok (.iload 7, 2) := by decide +kernel
theorem dX9_sets_142 : decode cX9_sets 142 = .ok (.invokestatic 208, 3) := by decide +kernel
theorem dX9_sets_145 : decode cX9_sets 145 = .ok (.iload 4, 2) := by decide +kernel
theorem dX9_sets_147 : decode cX9_sets 147 = .ok (.invokestatic 208, 3) := by decide +kernel
theorem dX9_sets_150 : decode cX9_sets 150 = .ok (.if_icmp .ne 21, 3) := by decide +kernel
theorem dX9_sets_153 : decode cX9_sets 153 = .ok (.iload 7, 2) := by decide +kernel
theorem dX9_sets_155 : decode cX9_sets 155 = .ok (.iload 4, 2) := by decide +kernel
theorem dX9_sets_157 : decode cX9_sets 157 = .ok (.invokestatic 212, 3) := by decide +kernel
theorem dX9_sets_160 : decode cX9_sets 160 = .ok (.ifCond .eq 11, 3) := by decide +kernel
theorem dX9_sets_163 : decode cX9_sets 163 = .ok (.iload 7, 2) := by decide +kernel
theorem dX9_sets_165 : decode cX9_sets 165 = .ok (.istore 4, 2) := by decide +kernel
theorem dX9_sets_167 : decode cX9_sets 167 = .ok (.lload 8, 2) := by decide +kernel
theorem dX9_sets_169 : decode cX9_sets 169 = .ok (.lstore 5, 2) := by decide +kernel
theorem dX9_sets_171 : decode cX9_sets 171 = .ok (.iinc 7 1, 3) := by decide +kernel
theorem dX9_sets_174 : decode cX9_sets 174 = .ok (.goto (-100), 3) := by decide +kernel
theorem dX9_sets_177 : decode cX9_sets 177 = .ok (.iconst 0, 1) := by decide +kernel
theorem dX9_sets_178 : decode cX9_sets 178 = .ok (.istore 7, 2) := by decide +kernel
theorem dX9_sets_180 : decode cX9_sets 180 = .ok (.iload 7, 2) := by decide +kernel
theorem dX9_sets_182 : decode cX9_sets 182 = .ok (.aload_n 0, 1) := by decide +kernel
theorem dX9_sets_183 : decode cX9_sets 183 = .ok (.getfield 196, 3) := by decide +kernel
theorem dX9_sets_186 : decode cX9_sets 186 = .ok (.if_icmp .ge 114, 3) := by decide +kernel
theorem dX9_sets_189 : decode cX9_sets 189 = .ok (.iload 4, 2) := by decide +kernel
theorem dX9_sets_191 : decode cX9_sets 191 = .ok (.iload 7, 2) := by decide +kernel
theorem dX9_sets_193 : decode cX9_sets 193 = .ok (.ishr, 1) := by decide +kernel
theorem dX9_sets_194 : decode cX9_sets 194 = .ok (.iconst 1, 1) := by decide +kernel
theorem dX9_sets_195 : decode cX9_sets 195 = .ok (.iand, 1) := by decide +kernel
theorem dX9_sets_196 : decode cX9_sets 196 = .ok (.iconst 1, 1) := by decide +kernel
theorem dX9_sets_197 : decode cX9_sets 197 = .ok (.if_icmp .ne 97, 3) := by decide +kernel
theorem dX9_sets_200 : decode cX9_sets 200 = .ok (.aload_n 0, 1) := by decide +kernel
theorem dX9_sets_201 : decode cX9_sets 201 = .ok (.getfield 61, 3) := by decide +kernel
theorem dX9_sets_204 : decode cX9_sets 204 = .ok (.iload 7, 2) := by decide +kernel
theorem dX9_sets_206 : decode cX9_sets 206 = .ok (.laload, 1) := by decide +kernel
theorem dX9_sets_207 : decode cX9_sets 207 = .ok (.lstore 8, 2) := by decide +kernel
theorem dX9_sets_209 : decode cX9_sets 209 = .ok (.iconst 0, 1) := by decide +kernel
theorem dX9_sets_210 : decode cX9_sets 210 = .ok (.istore 10, 2) := by decide +kernel
theorem dX9_sets_212 : decode cX9_sets 212 = .ok (.iload 10, 2) := by decide +kernel
theorem dX9_sets_214 : decode cX9_sets 214 = .ok (.aload_n 0, 1) := by decide +kernel
theorem dX9_sets_215 : decode cX9_sets 215 = .ok (.getfield 82, 3) := by decide +kernel
theorem dX9_sets_218 : decode cX9_sets 218 = .ok (.if_icmp .ge 76, 3) := by decide +kernel
theorem dX9_sets_221 : decode cX9_sets 221 = .ok (.aload_n 0, 1) := by decide +kernel
theorem dX9_sets_222 : decode cX9_sets 222 = .ok (.getfield 64, 3) := by decide +kernel
theorem dX9_sets_225 : decode cX9_sets 225 = .ok (.iload 7, 2) := by decide +kernel
theorem dX9_sets_227 : decode cX9_sets 227 = .ok (.laload, 1) := by decide +kernel
theorem dX9_sets_228 : decode cX9_sets 228 = .ok (.iload 10, 2) := by decide +kernel
theorem dX9_sets_230 : decode cX9_sets 230 = .ok (.lshr, 1) := by decide +kernel
theorem dX9_sets_231 : decode cX9_sets 231 = .ok (.lconst 1, 1) := by decide +kernel
theorem dX9_sets_232 : decode cX9_sets 232 = .ok (.land, 1) := by decide +kernel
theorem dX9_sets_233 : decode cX9_sets 233 = .ok (.lconst 1, 1) := by decide +kernel
theorem dX9_sets_234 : decode cX9_sets 234 = .ok (.lcmp, 1) := by decide +kernel
theorem dX9_sets_235 : decode cX9_sets 235 = .ok (.ifCond .ne 53, 3) := by decide +kernel
theorem dX9_sets_238 : decode cX9_sets 238 = .ok (.aload_n 0, 1) := by decide +kernel
theorem dX9_sets_239 : decode cX9_sets 239 = .ok (.getfield 20, 3) := by decide +kernel
theorem dX9_sets_242 : decode cX9_sets 242 = .ok (.iload 10, 2) := by decide +kernel
theorem dX9_sets_244 : decode cX9_sets 244 = .ok (.iconst 3, 1) := by decide +kernel
theorem dX9_sets_245 : decode cX9_sets 245 = .ok (.iastore, 1) := by decide +kernel
theorem dX9_sets_246 : decode cX9_sets 246 = .ok (.aload_n 0, 1) := by decide +kernel
theorem dX9_sets_247 : decode cX9_sets 247 = .ok (.getfield 23, 3) := by decide +kernel
theorem dX9_sets_250 : decode cX9_sets 250 = .ok (.iload 10, 2) := by decide +kernel
theorem dX9_sets_252 : decode cX9_sets 252 = .ok (.aload_n 0, 1) := by decide +kernel
theorem dX9_sets_253 : decode cX9_sets 253 = .ok (.getfield 58, 3) := by decide +kernel
theorem dX9_sets_256 : decode cX9_sets 256 = .ok (.iload 7, 2) := by decide +kernel
theorem dX9_sets_258 : decode cX9_sets 258 = .ok (.iaload, 1) := by decide +kernel
theorem dX9_sets_259 : decode cX9_sets 259 = .ok (.iastore, 1) := by decide +kernel
theorem dX9_sets_260 : decode cX9_sets 260 = .ok (.aload_n 0, 1) := by decide +kernel
theorem dX9_sets_261 : decode cX9_sets 261 = .ok (.getfield 26, 3) := by decide +kernel
theorem dX9_sets_264 : decode cX9_sets 264 = .ok (.iload 10, 2) := by decide +kernel
theorem dX9_sets_266 : decode cX9_sets 266 = .ok (.lload 8, 2) := by decide +kernel
theorem dX9_sets_268 : decode cX9_sets 268 = .ok (.lastore, 1) := by decide +kernel
theorem dX9_sets_269 : decode cX9_sets 269 = .ok (.aload_n 0, 1) := by decide +kernel
theorem dX9_sets_270 : decode cX9_sets 270 = .ok (.iconst 4, 1) := by decide +kernel
theorem dX9_sets_271 : decode cX9_sets 271 = .ok (.iload 10, 2) := by decide +kernel
theorem dX9_sets_273 : decode cX9_sets 273 = .ok (.aload_n 0, 1) := by decide +kernel
theorem dX9_sets_274 : decode cX9_sets 274 = .ok (.getfield 58, 3) := by decide +kernel
theorem dX9_sets_277 : decode cX9_sets 277 = .ok (.iload 7, 2) := by decide +kernel
theorem dX9_sets_279 : decode cX9_sets 279 = .ok (.iaload, 1) := by decide +kernel
theorem dX9_sets_280 : decode cX9_sets 280 = .ok (.lload 8, 2) := by decide +kernel
theorem dX9_sets_282 : decode cX9_sets 282 = .ok (.invokevirtual 160, 3) := by decide +kernel
theorem dX9_sets_285 : decode cX9_sets 285 = .ok (.lconst 0, 1) := by decide +kernel
theorem dX9_sets_286 : decode cX9_sets 286 = .ok (.lstore 8, 2) := by decide +kernel
theorem dX9_sets_288 : decode cX9_sets 288 = .ok (.iinc 10 1, 3) := by decide +kernel
theorem dX9_sets_291 : decode cX9_sets 291 = .ok (.goto (-79), 3) := by decide +kernel
theorem dX9_sets_294 : decode cX9_sets 294 = .ok (.iinc 7 1, 3) := by decide +kernel
theorem dX9_sets_297 : decode cX9_sets 297 = .ok (.goto (-117), 3) := by decide +kernel
theorem dX9_sets_300 : decode cX9_sets 300 = .ok (.aload_n 0, 1) := by decide +kernel
theorem dX9_sets_301 : decode cX9_sets 301 = .ok (.iload 4, 2) := by decide +kernel
theorem dX9_sets_303 : decode cX9_sets 303 = .ok (.putfield 216, 3) := by decide +kernel
theorem dX9_sets_306 : decode cX9_sets 306 = .ok (.aload_n 0, 1) := by decide +kernel
theorem dX9_sets_307 : decode cX9_sets 307 = .ok (.lload 5, 2) := by decide +kernel
theorem dX9_sets_309 : decode cX9_sets 309 = .ok (.putfield 219, 3) := by decide +kernel
theorem dX9_sets_312 : decode cX9_sets 312 = .ok (.aload_n 0, 1) := by decide +kernel
theorem dX9_sets_313 : decode cX9_sets 313 = .ok (.iconst 1, 1) := by decide +kernel
theorem dX9_sets_314 : decode cX9_sets 314 = .ok (.putfield 199, 3) := by decide +kernel
theorem dX9_sets_317 : decode cX9_sets 317 = .ok (.aload_n 0, 1) := by decide +kernel
theorem dX9_sets_318 : decode cX9_sets 318 = .ok (.iconst 0, 1) := by decide +kernel
theorem dX9_sets_319 : decode cX9_sets 319 = .ok (.putfield 196, 3) := by decide +kernel
theorem dX9_sets_322 : decode cX9_sets 322 = .ok (.iload 4, 2) := by decide +kernel
theorem dX9_sets_324 : decode cX9_sets 324 = .ok (.invokestatic 208, 3) := by decide +kernel
theorem dX9_sets_327 : decode cX9_sets 327 = .ok (.ireturn, 1) := by decide +kernel
theorem dX9_wins_0 : decode cX9_wins 0 = .ok (.iload_n 1, 1) := by decide +kernel
theorem dX9_wins_1 : decode cX9_wins 1 = .ok (.ifCond .lt 25, 3) := by decide +kernel
theorem dX9_wins_4 : decode cX9_wins 4 = .ok (.iload_n 1, 1) := by decide +kernel
theorem dX9_wins_5 : decode cX9_wins 5 = .ok (.bipush 18, 2) := by decide +kernel
theorem dX9_wins_7 : decode cX9_wins 7 = .ok (.if_icmp .ge 19, 3) := by decide +kernel
theorem dX9_wins_10 : decode cX9_wins 10 = .ok (.aload_n 0, 1) := by decide +kernel
theorem dX9_wins_11 : decode cX9_wins 11 = .ok (.getfield 216, 3) := by decide +kernel
theorem dX9_wins_14 : decode cX9_wins 14 = .ok (.iload_n 1, 1) := by decide +kernel
theorem dX9_wins_15 : decode cX9_wins 15 = .ok (.ishr, 1) := by decide +kernel
theorem dX9_wins_16 : decode cX9_wins 16 = .ok (.iconst 1, 1) := by decide +kernel
theorem dX9_wins_17 : decode cX9_wins 17 = .ok (.iand, 1) := by decide +kernel
theorem dX9_wins_18 : decode cX9_wins 18 = .ok (.iconst 1, 1) := by decide +kernel
theorem dX9_wins_19 : decode cX9_wins 19 = .ok (.if_icmp .ne 7, 3) := by decide +kernel
theorem dX9_wins_22 : decode cX9_wins 22 = .ok (.iconst 1, 1) := by decide +kernel
theorem dX9_wins_23 : decode cX9_wins 23 = .ok (.goto 4, 3) := by decide +kernel
theorem dX9_wins_26 : decode cX9_wins 26 = .ok (.iconst 0, 1) := by decide +kernel
theorem dX9_wins_27 : decode cX9_wins 27 = .ok (.ireturn, 1) := by decide +kernel
theorem dX9_sum_0 : decode cX9_sum 0 = .ok (.aload_n 0, 1) := by decide +kernel
theorem dX9_sum_1 : decode cX9_sum 1 = .ok (.getfield 219, 3) := by decide +kernel
theorem dX9_sum_4 : decode cX9_sum 4 = .ok (.lreturn, 1) := by decide +kernel
theorem dX9_proved_0 : decode cX9_proved 0 = .ok (.aload_n 0, 1) := by decide +kernel
theorem dX9_proved_1 : decode cX9_proved 1 = .ok (.getfield 199, 3) := by decide +kernel
theorem dX9_proved_4 : decode cX9_proved 4 = .ok (.ireturn, 1) := by decide +kernel
theorem dX9_record_0 : decode cX9_record 0 = .ok (.iload_n 1, 1) := by decide +kernel
theorem dX9_record_1 : decode cX9_record 1 = .ok (.ifCond .lt 11, 3) := by decide +kernel
theorem dX9_record_4 : decode cX9_record 4 = .ok (.iload_n 1, 1) := by decide +kernel
theorem dX9_record_5 : decode cX9_record 5 = .ok (.aload_n 0, 1) := by decide +kernel
theorem dX9_record_6 : decode cX9_record 6 = .ok (.getfield 98, 3) := by decide +kernel
theorem dX9_record_9 : decode cX9_record 9 = .ok (.if_icmp .lt 5, 3) := by decide +kernel
theorem dX9_record_12 : decode cX9_record 12 = .ok (.iconst (-1), 1) := by decide +kernel
theorem dX9_record_13 : decode cX9_record 13 = .ok (.ireturn, 1) := by decide +kernel
theorem dX9_record_14 : decode cX9_record 14 = .ok (.iload_n 2, 1) := by decide +kernel
theorem dX9_record_15 : decode cX9_record 15 = .ok (.ifCond .ne 12, 3) := by decide +kernel
theorem dX9_record_18 : decode cX9_record 18 = .ok (.aload_n 0, 1) := by decide +kernel
theorem dX9_record_19 : decode cX9_record 19 = .ok (.getfield 67, 3) := by decide +kernel
theorem dX9_record_22 : decode cX9_record 22 = .ok (.iload_n 1, 1) := by decide +kernel
theorem dX9_record_23 : decode cX9_record 23 = .ok (.iaload, 1) := by decide +kernel
theorem dX9_record_24 : decode cX9_record 24 = .ok (.goto 65, 3) := by decide +kernel
theorem dX9_record_27 : decode cX9_record 27 = .ok (.iload_n 2, 1) := by decide +kernel
theorem dX9_record_28 : decode cX9_record 28 = .ok (.iconst 1, 1) := by decide +kernel
theorem dX9_record_29 : decode cX9_record 29 = .ok (.if_icmp .ne 12, 3) := by decide +kernel
theorem dX9_record_32 : decode cX9_record 32 = .ok (.aload_n 0, 1) := by decide +kernel
theorem dX9_record_33 : decode cX9_record 33 = .ok (.getfield 70, 3) := by decide +kernel
theorem dX9_record_36 : decode cX9_record 36 = .ok (.iload_n 1, 1) := by decide +kernel
theorem dX9_record_37 : decode cX9_record 37 = .ok (.iaload, 1) := by decide +kernel
theorem dX9_record_38 : decode cX9_record 38 = .ok (.goto 51, 3) := by decide +kernel
theorem dX9_record_41 : decode cX9_record 41 = .ok (.iload_n 2, 1) := by decide +kernel
theorem dX9_record_42 : decode cX9_record 42 = .ok (.iconst 2, 1) := by decide +kernel
theorem dX9_record_43 : decode cX9_record 43 = .ok (.if_icmp .ne 12, 3) := by decide +kernel
theorem dX9_record_46 : decode cX9_record 46 = .ok (.aload_n 0, 1) := by decide +kernel
theorem dX9_record_47 : decode cX9_record 47 = .ok (.getfield 73, 3) := by decide +kernel
theorem dX9_record_50 : decode cX9_record 50 = .ok (.iload_n 1, 1) := by decide +kernel
theorem dX9_record_51 : decode cX9_record 51 = .ok (.iaload, 1) := by decide +kernel
theorem dX9_record_52 : decode cX9_record 52 = .ok (.goto 37, 3) := by decide +kernel
theorem dX9_record_55 : decode cX9_record 55 = .ok (.iload_n 2, 1) := by decide +kernel
theorem dX9_record_56 : decode cX9_record 56 = .ok (.iconst 3, 1) := by decide +kernel
theorem dX9_record_57 : decode cX9_record 57 = .ok (.if_icmp .ne 17, 3) := by decide +kernel
theorem dX9_record_60 : decode cX9_record 60 = .ok (.aload_n 0, 1) := by decide +kernel
theorem dX9_record_61 : decode cX9_record 61 = .ok (.getfield 76, 3) := by decide +kernel
theorem dX9_record_64 : decode cX9_record 64 = .ok (.iload_n 1, 1) := by decide +kernel
theorem dX9_record_65 : decode cX9_record 65 = .ok (.laload, 1) := by decide +kernel
theorem dX9_record_66 : decode cX9_record 66 = .ok (.ldc2_w 109, 3) := by decide +kernel
theorem dX9_record_69 : decode cX9_record 69 = .ok (.lrem, 1) := by decide +kernel
theorem dX9_record_70 : decode cX9_record 70 = .ok (.l2i, 1) := by decide +kernel
theorem dX9_record_71 : decode cX9_record 71 = .ok (.goto 18, 3) := by decide +kernel
theorem dX9_record_74 : decode cX9_record 74 = .ok (.iload_n 2, 1) := by decide +kernel
theorem dX9_record_75 : decode cX9_record 75 = .ok (.iconst 4, 1) := by decide +kernel
theorem dX9_record_76 : decode cX9_record 76 = .ok (.if_icmp .ne 12, 3) := by decide +kernel
theorem dX9_record_79 : decode cX9_record 79 = .ok (.aload_n 0, 1) := by decide +kernel
theorem dX9_record_80 : decode cX9_record 80 = .ok (.getfield 79, 3) := by decide +kernel
theorem dX9_record_83 : decode cX9_record 83 = .ok (.iload_n 1, 1) := by decide +kernel
theorem dX9_record_84 : decode cX9_record 84 = .ok (.iaload, 1) := by decide +kernel
theorem dX9_record_85 : decode cX9_record 85 = .ok (.goto 4, 3) := by decide +kernel
theorem dX9_record_88 : decode cX9_record 88 = .ok (.iconst (-1), 1) := by decide +kernel
theorem dX9_record_89 : decode cX9_record 89 = .ok (.ireturn, 1) := by decide +kernel
theorem dX9_chained_0 : decode cX9_chained 0 = .ok (.iconst 1, 1) := by decide +kernel
theorem dX9_chained_1 : decode cX9_chained 1 = .ok (.istore_n 1, 1) := by decide +kernel
theorem dX9_chained_2 : decode cX9_chained 2 = .ok (.iconst 1, 1) := by decide +kernel
theorem dX9_chained_3 : decode cX9_chained 3 = .ok (.istore_n 2, 1) := by decide +kernel
theorem dX9_chained_4 : decode cX9_chained 4 = .ok (.iconst 0, 1) := by decide +kernel
theorem dX9_chained_5 : decode cX9_chained 5 = .ok (.istore_n 3, 1) := by decide +kernel
theorem dX9_chained_6 : decode cX9_chained 6 = .ok (.iload_n 3, 1) := by decide +kernel
theorem dX9_chained_7 : decode cX9_chained 7 = .ok (.aload_n 0, 1) := by decide +kernel
theorem dX9_chained_8 : decode cX9_chained 8 = .ok (.getfield 98, 3) := by decide +kernel
theorem dX9_chained_11 : decode cX9_chained 11 = .ok (.if_icmp .ge 59, 3) := by decide +kernel
theorem dX9_chained_14 : decode cX9_chained 14 = .ok (.aload_n 0, 1) := by decide +kernel
theorem dX9_chained_15 : decode cX9_chained 15 = .ok (.iload_n 2, 1) := by decide +kernel
theorem dX9_chained_16 : decode cX9_chained 16 = .ok (.aload_n 0, 1) := by decide +kernel
theorem dX9_chained_17 : decode cX9_chained 17 = .ok (.getfield 67, 3) := by decide +kernel
theorem dX9_chained_20 : decode cX9_chained 20 = .ok (.iload_n 3, 1) := by decide +kernel
theorem dX9_chained_21 : decode cX9_chained 21 = .ok (.iaload, 1) := by decide +kernel
theorem dX9_chained_22 : decode cX9_chained 22 = .ok (.aload_n 0, 1) := by decide +kernel
theorem dX9_chained_23 : decode cX9_chained 23 = .ok (.getfield 70, 3) := by decide +kernel
theorem dX9_chained_26 : decode cX9_chained 26 = .ok (.iload_n 3, 1) := by decide +kernel
theorem dX9_chained_27 : decode cX9_chained 27 = .ok (.iaload, 1) := by decide +kernel
theorem dX9_chained_28 : decode cX9_chained 28 = .ok (.aload_n 0, 1) := by decide +kernel
theorem dX9_chained_29 : decode cX9_chained 29 = .ok (.getfield 73, 3) := by decide +kernel
theorem dX9_chained_32 : decode cX9_chained 32 = .ok (.iload_n 3, 1) := by decide +kernel
theorem dX9_chained_33 : decode cX9_chained 33 = .ok (.iaload, 1) := by decide +kernel
theorem dX9_chained_34 : decode cX9_chained 34 = .ok (.aload_n 0, 1) := by decide +kernel
theorem dX9_chained_35 : decode cX9_chained 35 = .ok (.getfield 76, 3) := by decide +kernel
theorem dX9_chained_38 : decode cX9_chained 38 = .ok (.iload_n 3, 1) := by decide +kernel
theorem dX9_chained_39 : decode cX9_chained 39 = .ok (.laload, 1) := by decide +kernel
theorem dX9_chained_40 : decode cX9_chained 40 = .ok (.invokevirtual 101, 3) := by decide +kernel
theorem dX9_chained_43 : decode cX9_chained 43 = .ok (.istore_n 2, 1) := by decide +kernel
theorem dX9_chained_44 : decode cX9_chained 44 = .ok (.iload_n 1, 1) := by decide +kernel
theorem dX9_chained_45 : decode cX9_chained 45 = .ok (.ifCond .eq 17, 3) := by decide +kernel
theorem dX9_chained_48 : decode cX9_chained 48 = .ok (.aload_n 0, 1) := by decide +kernel
theorem dX9_chained_49 : decode cX9_chained 49 = .ok (.getfield 79, 3) := by decide +kernel
theorem dX9_chained_52 : decode cX9_chained 52 = .ok (.iload_n 3, 1) := by decide +kernel
theorem dX9_chained_53 : decode cX9_chained 53 = .ok (.iaload, 1) := by decide +kernel
theorem dX9_chained_54 : decode cX9_chained 54 = .ok (.iload_n 2, 1) := by decide +kernel
theorem dX9_chained_55 : decode cX9_chained 55 = .ok (.if_icmp .ne 7, 3) := by decide +kernel
theorem dX9_chained_58 : decode cX9_chained 58 = .ok (.iconst 1, 1) := by decide +kernel
theorem dX9_chained_59 : decode cX9_chained 59 = .ok (.goto 4, 3) := by decide +kernel
theorem dX9_chained_62 : decode cX9_chained 62 = .ok (.iconst 0, 1) := by decide +kernel
theorem dX9_chained_63 : decode cX9_chained 63 = .ok (.istore_n 1, 1) := by decide +kernel
theorem dX9_chained_64 : decode cX9_chained 64 = .ok (.iinc 3 1, 3) := by decide +kernel
theorem dX9_chained_67 : decode cX9_chained 67 = .ok (.goto (-61), 3) := by decide +kernel
theorem dX9_chained_70 : decode cX9_chained 70 = .ok (.iload_n 1, 1) := by decide +kernel
theorem dX9_chained_71 : decode cX9_chained 71 = .ok (.ireturn, 1) := by decide +kernel
theorem dX9_turn_0 : decode cX9_turn 0 = .ok (.lload_n 1, 1) := by decide +kernel
theorem dX9_turn_1 : decode cX9_turn 1 = .ok (.ldc2_w 222, 3) := by decide +kernel
theorem dX9_turn_4 : decode cX9_turn 4 = .ok (.ldiv, 1) := by decide +kernel
theorem dX9_turn_5 : decode cX9_turn 5 = .ok (.ldc2_w 224, 3) := by decide +kernel
theorem dX9_turn_8 : decode cX9_turn 8 = .ok (.lrem, 1) := by decide +kernel
theorem dX9_turn_9 : decode cX9_turn 9 = .ok (.l2i, 1) := by decide +kernel
theorem dX9_turn_10 : decode cX9_turn 10 = .ok (.istore_n 3, 1) := by decide +kernel
theorem dX9_turn_11 : decode cX9_turn 11 = .ok (.lload_n 1, 1) := by decide +kernel
theorem dX9_turn_12 : decode cX9_turn 12 = .ok (.ldc2_w 226, 3) := by decide +kernel
theorem dX9_turn_15 : decode cX9_turn 15 = .ok (.ldiv, 1) := by decide +kernel
theorem dX9_turn_16 : decode cX9_turn 16 = .ok (.ldc2_w 228, 3) := by decide +kernel
theorem dX9_turn_19 : decode cX9_turn 19 = .ok (.lrem, 1) := by decide +kernel
theorem dX9_turn_20 : decode cX9_turn 20 = .ok (.lstore 4, 2) := by decide +kernel
theorem dX9_turn_22 : decode cX9_turn 22 = .ok (.lload_n 1, 1) := by decide +kernel
theorem dX9_turn_23 : decode cX9_turn 23 = .ok (.ldc2_w 222, 3) := by decide +kernel
theorem dX9_turn_26 : decode cX9_turn 26 = .ok (.lrem, 1) := by decide +kernel
theorem dX9_turn_27 : decode cX9_turn 27 = .ok (.l2i, 1) := by decide +kernel
theorem dX9_turn_28 : decode cX9_turn 28 = .ok (.istore 6, 2) := by decide +kernel
theorem dX9_turn_30 : decode cX9_turn 30 = .ok (.iload 6, 2) := by decide +kernel
theorem dX9_turn_32 : decode cX9_turn 32 = .ok (.ifCond .ne 22, 3) := by decide +kernel
theorem dX9_turn_35 : decode cX9_turn 35 = .ok (.aload_n 0, 1) := by decide +kernel
theorem dX9_turn_36 : decode cX9_turn 36 = .ok (.iload_n 3, 1) := by decide +kernel
theorem dX9_turn_37 : decode cX9_turn 37 = .ok (.bipush 32, 2) := by decide +kernel
theorem dX9_turn_39 : decode cX9_turn 39 = .ok (.irem, 1) := by decide +kernel
theorem dX9_turn_40 : decode cX9_turn 40 = .ok (.lload 4, 2) := by decide +kernel
theorem dX9_turn_42 : decode cX9_turn 42 = .ok (.ldc2_w 230, 3) := by decide +kernel
theorem dX9_turn_45 : decode cX9_turn 45 = .ok (.lrem, 1) := by decide +kernel
theorem dX9_turn_46 : decode cX9_turn 46 = .ok (.invokevirtual 232, 3) := by decide +kernel
theorem dX9_turn_49 : decode cX9_turn 49 = .ok (.istore 7, 2) := by decide +kernel
theorem dX9_turn_51 : decode cX9_turn 51 = .ok (.goto 122, 3) := by decide +kernel
theorem dX9_turn_54 : decode cX9_turn 54 = .ok (.iload 6, 2) := by decide +kernel
theorem dX9_turn_56 : decode cX9_turn 56 = .ok (.iconst 1, 1) := by decide +kernel
theorem dX9_turn_57 : decode cX9_turn 57 = .ok (.if_icmp .ne 20, 3) := by decide +kernel
theorem dX9_turn_60 : decode cX9_turn 60 = .ok (.aload_n 0, 1) := by decide +kernel
theorem dX9_turn_61 : decode cX9_turn 61 = .ok (.lconst 1, 1) := by decide +kernel
theorem dX9_turn_62 : decode cX9_turn 62 = .ok (.lload 4, 2) := by decide +kernel
theorem dX9_turn_64 : decode cX9_turn 64 = .ok (.ldc2_w 236, 3) := by decide +kernel
theorem dX9_turn_67 : decode cX9_turn 67 = .ok (.lrem, 1) := by decide +kernel
theorem dX9_turn_68 : decode cX9_turn 68 = .ok (.ladd, 1) := by decide +kernel
theorem dX9_turn_69 : decode cX9_turn 69 = .ok (.invokevirtual 238, 3) := by decide +kernel
theorem dX9_turn_72 : decode cX9_turn 72 = .ok (.istore 7, 2) := by decide +kernel
theorem dX9_turn_74 : decode cX9_turn 74 = .ok (.goto 99, 3) := by decide +kernel
theorem dX9_turn_77 : decode cX9_turn 77 = .ok (.iload 6, 2) := by decide +kernel
theorem dX9_turn_79 : decode cX9_turn 79 = .ok (.iconst 2, 1) := by decide +kernel
theorem dX9_turn_80 : decode cX9_turn 80 = .ok (.if_icmp .ne 27, 3) := by decide +kernel
theorem dX9_turn_83 : decode cX9_turn 83 = .ok (.aload_n 0, 1) := by decide +kernel
theorem dX9_turn_84 : decode cX9_turn 84 = .ok (.iload_n 3, 1) := by decide +kernel
theorem dX9_turn_85 : decode cX9_turn 85 = .ok (.lload 4, 2) := by decide +kernel
theorem dX9_turn_87 : decode cX9_turn 87 = .ok (.lconst 1, 1) := by decide +kernel
theorem dX9_turn_88 : decode cX9_turn 88 = .ok (.lload 4, 2) := by decide +kernel
theorem dX9_turn_90 : decode cX9_turn 90 = .ok (.ldc2_w 241, 3) := by decide +kernel
theorem dX9_turn_93 : decode cX9_turn 93 = .ok (.lrem, 1) := by decide +kernel
theorem dX9_turn_94 : decode cX9_turn 94 = .ok (.ldc2_w 92, 3) := by decide +kernel
theorem dX9_turn_97 : decode cX9_turn 97 = .ok (.lmul, 1) := by decide +kernel
theorem dX9_turn_98 : decode cX9_turn 98 = .ok (.ladd, 1) := by decide +kernel
theorem dX9_turn_99 : decode cX9_turn 99 = .ok (.invokevirtual 243, 3) := by decide +kernel
theorem dX9_turn_102 : decode cX9_turn 102 = .ok (.istore 7, 2) := by decide +kernel
theorem dX9_turn_104 : decode cX9_turn 104 = .ok (.goto 69, 3) := by decide +kernel
theorem dX9_turn_107 : decode cX9_turn 107 = .ok (.iload 6, 2) := by decide +kernel
theorem dX9_turn_109 : decode cX9_turn 109 = .ok (.iconst 3, 1) := by decide +kernel
theorem dX9_turn_110 : decode cX9_turn 110 = .ok (.if_icmp .ne 22, 3) := by decide +kernel
theorem dX9_turn_113 : decode cX9_turn 113 = .ok (.aload_n 0, 1) := by decide +kernel
theorem dX9_turn_114 : decode cX9_turn 114 = .ok (.iload_n 3, 1) := by decide +kernel
theorem dX9_turn_115 : decode cX9_turn 115 = .ok (.lload 4, 2) := by decide +kernel
theorem dX9_turn_117 : decode cX9_turn 117 = .ok (.ldc2_w 246, 3) := by decide +kernel
theorem dX9_turn_120 : decode cX9_turn 120 = .ok (.lrem, 1) := by decide +kernel
theorem dX9_turn_121 : decode cX9_turn 121 = .ok (.l2i, 1) := by decide +kernel
theorem dX9_turn_122 : decode cX9_turn 122 = .ok (.lload 4, 2) := by decide +kernel
theorem dX9_turn_124 : decode cX9_turn 124 = .ok (.invokevirtual 248, 3) := by decide +kernel
theorem dX9_turn_127 : decode cX9_turn 127 = .ok (.istore 7, 2) := by decide +kernel
theorem dX9_turn_129 : decode cX9_turn 129 = .ok (.goto 44, 3) := by decide +kernel
theorem dX9_turn_132 : decode cX9_turn 132 = .ok (.iload 6, 2) := by decide +kernel
theorem dX9_turn_134 : decode cX9_turn 134 = .ok (.iconst 4, 1) := by decide +kernel
theorem dX9_turn_135 : decode cX9_turn 135 = .ok (.if_icmp .ne 31, 3) := by decide +kernel
theorem dX9_turn_138 : decode cX9_turn 138 = .ok (.aload_n 0, 1) := by decide +kernel
theorem dX9_turn_139 : decode cX9_turn 139 = .ok (.lconst 0, 1) := by decide +kernel
theorem dX9_turn_140 : decode cX9_turn 140 = .ok (.iconst 1, 1) := by decide +kernel
theorem dX9_turn_141 : decode cX9_turn 141 = .ok (.invokevirtual 252, 3) := by decide +kernel
theorem dX9_turn_144 : decode cX9_turn 144 = .ok (.ifCond .ne 12, 3) := by decide +kernel
theorem dX9_turn_147 : decode cX9_turn 147 = .ok (.aload_n 0, 1) := by decide +kernel
theorem dX9_turn_148 : decode cX9_turn 148 = .ok (.lconst 0, 1) := by decide +kernel
theorem dX9_turn_149 : decode cX9_turn 149 = .ok (.iconst 0, 1) := by decide +kernel
theorem dX9_turn_150 : decode cX9_turn 150 = .ok (.invokevirtual 252, 3) := by decide +kernel
theorem dX9_turn_153 : decode cX9_turn 153 = .ok (.ifCond .eq 7, 3) := by decide +kernel
theorem dX9_turn_156 : decode cX9_turn 156 = .ok (.iconst 1, 1) := by decide +kernel
theorem dX9_turn_157 : decode cX9_turn 157 = .ok (.goto 4, 3) := by decide +kernel
theorem dX9_turn_160 : decode cX9_turn 160 = .ok (.iconst 0, 1) := by decide +kernel
theorem dX9_turn_161 : decode cX9_turn 161 = .ok (.istore 7, 2) := by decide +kernel
theorem dX9_turn_163 : decode cX9_turn 163 = .ok (.goto 10, 3) := by decide +kernel
theorem dX9_turn_166 : decode cX9_turn 166 = .ok (.aload_n 0, 1) := by decide +kernel
theorem dX9_turn_167 : decode cX9_turn 167 = .ok (.iload_n 3, 1) := by decide +kernel
theorem dX9_turn_168 : decode cX9_turn 168 = .ok (.invokevirtual 256, 3) := by decide +kernel
theorem dX9_turn_171 : decode cX9_turn 171 = .ok (.istore 7, 2) := by decide +kernel
theorem dX9_turn_173 : decode cX9_turn 173 = .ok (.return_, 1) := by decide +kernel
theorem dX9_play_0 : decode cX9_play 0 = .ok (.iload_n 3, 1) := by decide +kernel
theorem dX9_play_1 : decode cX9_play 1 = .ok (.iconst 1, 1) := by decide +kernel
theorem dX9_play_2 : decode cX9_play 2 = .ok (.if_icmp .lt 10, 3) := by decide +kernel
theorem dX9_play_5 : decode cX9_play 5 = .ok (.iload_n 3, 1) := by decide +kernel
theorem dX9_play_6 : decode cX9_play 6 = .ok (.sipush 200, 3) := by decide +kernel
theorem dX9_play_9 : decode cX9_play 9 = .ok (.if_icmp .le 5, 3) := by decide +kernel
theorem dX9_play_12 : decode cX9_play 12 = .ok (.iconst (-1), 1) := by decide +kernel
theorem dX9_play_13 : decode cX9_play 13 = .ok (.ireturn, 1) := by decide +kernel
theorem dX9_play_14 : decode cX9_play 14 = .ok (.lload_n 1, 1) := by decide +kernel
theorem dX9_play_15 : decode cX9_play 15 = .ok (.lconst 0, 1) := by decide +kernel
theorem dX9_play_16 : decode cX9_play 16 = .ok (.lcmp, 1) := by decide +kernel
theorem dX9_play_17 : decode cX9_play 17 = .ok (.ifCond .ne 9, 3) := by decide +kernel
theorem dX9_play_20 : decode cX9_play 20 = .ok (.ldc2_w 259, 3) := by decide +kernel
theorem dX9_play_23 : decode cX9_play 23 = .ok (.goto 4, 3) := by decide +kernel
theorem dX9_play_26 : decode cX9_play 26 = .ok (.lload_n 1, 1) := by decide +kernel
theorem dX9_play_27 : decode cX9_play 27 = .ok (.lstore 4, 2) := by decide +kernel
theorem dX9_play_29 : decode cX9_play 29 = .ok (.iconst 0, 1) := by decide +kernel
theorem dX9_play_30 : decode cX9_play 30 = .ok (.istore 6, 2) := by decide +kernel
theorem dX9_play_32 : decode cX9_play 32 = .ok (.iload 6, 2) := by decide +kernel
theorem dX9_play_34 : decode cX9_play 34 = .ok (.iload_n 3, 1) := by decide +kernel
theorem dX9_play_35 : decode cX9_play 35 = .ok (.if_icmp .ge 47, 3) := by decide +kernel
theorem dX9_play_38 : decode cX9_play 38 = .ok (.lload 4, 2) := by decide +kernel
theorem dX9_play_40 : decode cX9_play 40 = .ok (.lload 4, 2) := by decide +kernel
theorem dX9_play_42 : decode cX9_play 42 = .ok (.bipush 13, 2) := by decide +kernel
theorem dX9_play_44 : decode cX9_play 44 = .ok (.lshl, 1) := by decide +kernel
theorem dX9_play_45 : decode cX9_play 45 = .ok (.lxor, 1) := by decide +kernel
theorem dX9_play_46 : decode cX9_play 46 = .ok (.lstore 4, 2) := by decide +kernel
theorem dX9_play_48 : decode cX9_play 48 = .ok (.lload 4, 2) := by decide +kernel
theorem dX9_play_50 : decode cX9_play 50 = .ok (.lload 4, 2) := by decide +kernel
theorem dX9_play_52 : decode cX9_play 52 = .ok (.bipush 7, 2) := by decide +kernel
theorem dX9_play_54 : decode cX9_play 54 = .ok (.lushr, 1) := by decide +kernel
theorem dX9_play_55 : decode cX9_play 55 = .ok (.lxor, 1) := by decide +kernel
theorem dX9_play_56 : decode cX9_play 56 = .ok (.lstore 4, 2) := by decide +kernel
theorem dX9_play_58 : decode cX9_play 58 = .ok (.lload 4, 2) := by decide +kernel
theorem dX9_play_60 : decode cX9_play 60 = .ok (.lload 4, 2) := by decide +kernel
theorem dX9_play_62 : decode cX9_play 62 = .ok (.bipush 17, 2) := by decide +kernel
theorem dX9_play_64 : decode cX9_play 64 = .ok (.lshl, 1) := by decide +kernel
theorem dX9_play_65 : decode cX9_play 65 = .ok (.lxor, 1) := by decide +kernel
theorem dX9_play_66 : decode cX9_play 66 = .ok (.lstore 4, 2) := by decide +kernel
theorem dX9_play_68 : decode cX9_play 68 = .ok (.aload_n 0, 1) := by decide +kernel
theorem dX9_play_69 : decode cX9_play 69 = .ok (.lload 4, 2) := by decide +kernel
theorem dX9_play_71 : decode cX9_play 71 = .ok (.iconst 1, 1) := by decide +kernel
theorem dX9_play_72 : decode cX9_play 72 = .ok (.lushr, 1) := by decide +kernel
theorem dX9_play_73 : decode cX9_play 73 = .ok (.invokevirtual 261, 3) := by decide +kernel
theorem dX9_play_76 : decode cX9_play 76 = .ok (.iinc 6 1, 3) := by decide +kernel
theorem dX9_play_79 : decode cX9_play 79 = .ok (.goto (-47), 3) := by decide +kernel
theorem dX9_play_82 : decode cX9_play 82 = .ok (.iconst 0, 1) := by decide +kernel
theorem dX9_play_83 : decode cX9_play 83 = .ok (.istore 6, 2) := by decide +kernel
theorem dX9_play_85 : decode cX9_play 85 = .ok (.iconst 0, 1) := by decide +kernel
theorem dX9_play_86 : decode cX9_play 86 = .ok (.istore 7, 2) := by decide +kernel
theorem dX9_play_88 : decode cX9_play 88 = .ok (.iload 7, 2) := by decide +kernel
theorem dX9_play_90 : decode cX9_play 90 = .ok (.aload_n 0, 1) := by decide +kernel
theorem dX9_play_91 : decode cX9_play 91 = .ok (.getfield 82, 3) := by decide +kernel
theorem dX9_play_94 : decode cX9_play 94 = .ok (.if_icmp .ge 30, 3) := by decide +kernel
theorem dX9_play_97 : decode cX9_play 97 = .ok (.iload 6, 2) := by decide +kernel
theorem dX9_play_99 : decode cX9_play 99 = .ok (.aload_n 0, 1) := by decide +kernel
theorem dX9_play_100 : decode cX9_play 100 = .ok (.getfield 20, 3) := by decide +kernel
theorem dX9_play_103 : decode cX9_play 103 = .ok (.iload 7, 2) := by decide +kernel
theorem dX9_play_105 : decode cX9_play 105 = .ok (.iaload, 1) := by decide +kernel
theorem dX9_play_106 : decode cX9_play 106 = .ok (.iconst 3, 1) := by decide +kernel
theorem dX9_play_107 : decode cX9_play 107 = .ok (.if_icmp .ne 7, 3) := by decide +kernel
theorem dX9_play_110 : decode cX9_play 110 = .ok (.iconst 1, 1) := by decide +kernel
theorem dX9_play_111 : decode cX9_play 111 = .ok (.goto 4, 3) := by decide +kernel
theorem dX9_play_114 : decode cX9_play 114 = .ok (.iconst 0, 1) := by decide +kernel
theorem dX9_play_115 : decode cX9_play 115 = .ok (.iadd, 1) := by decide +kernel
theorem dX9_play_116 : decode cX9_play 116 = .ok (.istore 6, 2) := by decide +kernel
theorem dX9_play_118 : decode cX9_play 118 = .ok (.iinc 7 1, 3) := by decide +kernel
theorem dX9_play_121 : decode cX9_play 121 = .ok (.goto (-33), 3) := by decide +kernel
theorem dX9_play_124 : decode cX9_play 124 = .ok (.iload 6, 2) := by decide +kernel
theorem dX9_play_126 : decode cX9_play 126 = .ok (.ireturn, 1) := by decide +kernel
