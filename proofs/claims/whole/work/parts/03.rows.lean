theorem dX0_init_0 : decode cX0_init 0 = .ok (.aload_n 0, 1) := by decide +kernel
theorem dX0_init_1 : decode cX0_init 1 = .ok (.invokespecial 1, 3) := by decide +kernel
theorem dX0_init_4 : decode cX0_init 4 = .ok (.aload_n 0, 1) := by decide +kernel
theorem dX0_init_5 : decode cX0_init 5 = .ok (.iload_n 1, 1) := by decide +kernel
theorem dX0_init_6 : decode cX0_init 6 = .ok (.putfield 7, 3) := by decide +kernel
theorem dX0_init_9 : decode cX0_init 9 = .ok (.aload_n 0, 1) := by decide +kernel
theorem dX0_init_10 : decode cX0_init 10 = .ok (.iload_n 2, 1) := by decide +kernel
theorem dX0_init_11 : decode cX0_init 11 = .ok (.putfield 13, 3) := by decide +kernel
theorem dX0_init_14 : decode cX0_init 14 = .ok (.aload_n 0, 1) := by decide +kernel
theorem dX0_init_15 : decode cX0_init 15 = .ok (.iload_n 3, 1) := by decide +kernel
theorem dX0_init_16 : decode cX0_init 16 = .ok (.putfield 16, 3) := by decide +kernel
theorem dX0_init_19 : decode cX0_init 19 = .ok (.return_, 1) := by decide +kernel
theorem dX1_init_0 : decode cX1_init 0 = .ok (.aload_n 0, 1) := by decide +kernel
theorem dX1_init_1 : decode cX1_init 1 = .ok (.invokespecial 1, 3) := by decide +kernel
theorem dX1_init_4 : decode cX1_init 4 = .ok (.aload_n 0, 1) := by decide +kernel
theorem dX1_init_5 : decode cX1_init 5 = .ok (.aload_n 1, 1) := by decide +kernel
theorem dX1_init_6 : decode cX1_init 6 = .ok (.putfield 7, 3) := by decide +kernel
theorem dX1_init_9 : decode cX1_init 9 = .ok (.aload_n 0, 1) := by decide +kernel
theorem dX1_init_10 : decode cX1_init 10 = .ok (.iload_n 2, 1) := by decide +kernel
theorem dX1_init_11 : decode cX1_init 11 = .ok (.putfield 13, 3) := by decide +kernel
theorem dX1_init_14 : decode cX1_init 14 = .ok (.return_, 1) := by decide +kernel
theorem dX2_init_0 : decode cX2_init 0 = .ok (.aload_n 0, 1) := by decide +kernel
theorem dX2_init_1 : decode cX2_init 1 = .ok (.invokespecial 1, 3) := by decide +kernel
theorem dX2_init_4 : decode cX2_init 4 = .ok (.return_, 1) := by decide +kernel
theorem dX2_isOfBegins_0 : decode cX2_isOfBegins 0 = .ok (.aload_n 0, 1) := by decide +kernel
theorem dX2_isOfBegins_1 : decode cX2_isOfBegins 1 = .ok (.aload_n 1, 1) := by decide +kernel
theorem dX2_isOfBegins_2 : decode cX2_isOfBegins 2 = .ok (.getfield 7, 3) := by decide +kernel
theorem dX2_isOfBegins_5 : decode cX2_isOfBegins 5 = .ok (.aload_n 1, 1) := by decide +kernel
theorem dX2_isOfBegins_6 : decode cX2_isOfBegins 6 = .ok (.getfield 13, 3) := by decide +kernel
theorem dX2_isOfBegins_9 : decode cX2_isOfBegins 9 = .ok (.aload_n 1, 1) := by decide +kernel
theorem dX2_isOfBegins_10 : decode cX2_isOfBegins 10 = .ok (.getfield 17, 3) := by decide +kernel
theorem dX2_isOfBegins_13 : decode cX2_isOfBegins 13 = .ok (.aload_n 2, 1) := by decide +kernel
theorem dX2_isOfBegins_14 : decode cX2_isOfBegins 14 = .ok (.getfield 7, 3) := by decide +kernel
theorem dX2_isOfBegins_17 : decode cX2_isOfBegins 17 = .ok (.aload_n 2, 1) := by decide +kernel
theorem dX2_isOfBegins_18 : decode cX2_isOfBegins 18 = .ok (.getfield 13, 3) := by decide +kernel
theorem dX2_isOfBegins_21 : decode cX2_isOfBegins 21 = .ok (.aload_n 2, 1) := by decide +kernel
theorem dX2_isOfBegins_22 : decode cX2_isOfBegins 22 = .ok (.getfield 17, 3) := by decide +kernel
theorem dX2_isOfBegins_25 : decode cX2_isOfBegins 25 = .ok (.invokevirtual 20, 3) := by decide +kernel
theorem dX2_isOfBegins_28 : decode cX2_isOfBegins 28 = .ok (.ireturn, 1) := by decide +kernel
theorem dX2_isOfEnds_0 : decode cX2_isOfEnds 0 = .ok (.aload_n 0, 1) := by decide +kernel
theorem dX2_isOfEnds_1 : decode cX2_isOfEnds 1 = .ok (.aload_n 1, 1) := by decide +kernel
theorem dX2_isOfEnds_2 : decode cX2_isOfEnds 2 = .ok (.getfield 7, 3) := by decide +kernel
theorem dX2_isOfEnds_5 : decode cX2_isOfEnds 5 = .ok (.aload_n 1, 1) := by decide +kernel
theorem dX2_isOfEnds_6 : decode cX2_isOfEnds 6 = .ok (.getfield 26, 3) := by decide +kernel
theorem dX2_isOfEnds_9 : decode cX2_isOfEnds 9 = .ok (.aload_n 1, 1) := by decide +kernel
theorem dX2_isOfEnds_10 : decode cX2_isOfEnds 10 = .ok (.getfield 29, 3) := by decide +kernel
theorem dX2_isOfEnds_13 : decode cX2_isOfEnds 13 = .ok (.aload_n 2, 1) := by decide +kernel
theorem dX2_isOfEnds_14 : decode cX2_isOfEnds 14 = .ok (.getfield 7, 3) := by decide +kernel
theorem dX2_isOfEnds_17 : decode cX2_isOfEnds 17 = .ok (.aload_n 2, 1) := by decide +kernel
theorem dX2_isOfEnds_18 : decode cX2_isOfEnds 18 = .ok (.getfield 26, 3) := by decide +kernel
theorem dX2_isOfEnds_21 : decode cX2_isOfEnds 21 = .ok (.aload_n 2, 1) := by decide +kernel
theorem dX2_isOfEnds_22 : decode cX2_isOfEnds 22 = .ok (.getfield 29, 3) := by decide +kernel
theorem dX2_isOfEnds_25 : decode cX2_isOfEnds 25 = .ok (.invokevirtual 20, 3) := by decide +kernel
theorem dX2_isOfEnds_28 : decode cX2_isOfEnds 28 = .ok (.ireturn, 1) := by decide +kernel
theorem dX2_isOf_0 : decode cX2_isOf 0 = .ok (.iload_n 2, 1) := by decide +kernel
theorem dX2_isOf_1 : decode cX2_isOf 1 = .ok (.i2l, 1) := by decide +kernel
theorem dX2_isOf_2 : decode cX2_isOf 2 = .ok (.iload 6, 2) := by decide +kernel
theorem dX2_isOf_4 : decode cX2_isOf 4 = .ok (.i2l, 1) := by decide +kernel
theorem dX2_isOf_5 : decode cX2_isOf 5 = .ok (.lmul, 1) := by decide +kernel
theorem dX2_isOf_6 : decode cX2_isOf 6 = .ok (.iload_n 3, 1) := by decide +kernel
theorem dX2_isOf_7 : decode cX2_isOf 7 = .ok (.i2l, 1) := by decide +kernel
theorem dX2_isOf_8 : decode cX2_isOf 8 = .ok (.iload 5, 2) := by decide +kernel
theorem dX2_isOf_10 : decode cX2_isOf 10 = .ok (.i2l, 1) := by decide +kernel
theorem dX2_isOf_11 : decode cX2_isOf 11 = .ok (.lmul, 1) := by decide +kernel
theorem dX2_isOf_12 : decode cX2_isOf 12 = .ok (.lsub, 1) := by decide +kernel
theorem dX2_isOf_13 : decode cX2_isOf 13 = .ok (.lstore 7, 2) := by decide +kernel
theorem dX2_isOf_15 : decode cX2_isOf 15 = .ok (.aload 4, 2) := by decide +kernel
theorem dX2_isOf_17 : decode cX2_isOf 17 = .ok (.getfield 32, 3) := by decide +kernel
theorem dX2_isOf_20 : decode cX2_isOf 20 = .ok (.aload_n 1, 1) := by decide +kernel
theorem dX2_isOf_21 : decode cX2_isOf 21 = .ok (.getfield 32, 3) := by decide +kernel
theorem dX2_isOf_24 : decode cX2_isOf 24 = .ok (.isub, 1) := by decide +kernel
theorem dX2_isOf_25 : decode cX2_isOf 25 = .ok (.i2l, 1) := by decide +kernel
theorem dX2_isOf_26 : decode cX2_isOf 26 = .ok (.lstore 9, 2) := by decide +kernel
theorem dX2_isOf_28 : decode cX2_isOf 28 = .ok (.aload 4, 2) := by decide +kernel
theorem dX2_isOf_30 : decode cX2_isOf 30 = .ok (.getfield 37, 3) := by decide +kernel
theorem dX2_isOf_33 : decode cX2_isOf 33 = .ok (.aload_n 1, 1) := by decide +kernel
theorem dX2_isOf_34 : decode cX2_isOf 34 = .ok (.getfield 37, 3) := by decide +kernel
theorem dX2_isOf_37 : decode cX2_isOf 37 = .ok (.isub, 1) := by decide +kernel
theorem dX2_isOf_38 : decode cX2_isOf 38 = .ok (.i2l, 1) := by decide +kernel
theorem dX2_isOf_39 : decode cX2_isOf 39 = .ok (.lstore 11, 2) := by decide +kernel
theorem dX2_isOf_41 : decode cX2_isOf 41 = .ok (.lload 9, 2) := by decide +kernel
theorem dX2_isOf_43 : decode cX2_isOf 43 = .ok (.iload 6, 2) := by decide +kernel
theorem dX2_isOf_45 : decode cX2_isOf 45 = .ok (.i2l, 1) := by decide +kernel
theorem dX2_isOf_46 : decode cX2_isOf 46 = .ok (.lmul, 1) := by decide +kernel
theorem dX2_isOf_47 : decode cX2_isOf 47 = .ok (.lload 11, 2) := by decide +kernel
theorem dX2_isOf_49 : decode cX2_isOf 49 = .ok (.iload 5, 2) := by decide +kernel
theorem dX2_isOf_51 : decode cX2_isOf 51 = .ok (.i2l, 1) := by decide +kernel
theorem dX2_isOf_52 : decode cX2_isOf 52 = .ok (.lmul, 1) := by decide +kernel
theorem dX2_isOf_53 : decode cX2_isOf 53 = .ok (.lsub, 1) := by decide +kernel
theorem dX2_isOf_54 : decode cX2_isOf 54 = .ok (.lstore 13, 2) := by decide +kernel
theorem dX2_isOf_56 : decode cX2_isOf 56 = .ok (.lload 9, 2) := by decide +kernel
theorem dX2_isOf_58 : decode cX2_isOf 58 = .ok (.iload_n 3, 1) := by decide +kernel
theorem dX2_isOf_59 : decode cX2_isOf 59 = .ok (.i2l, 1) := by decide +kernel
theorem dX2_isOf_60 : decode cX2_isOf 60 = .ok (.lmul, 1) := by decide +kernel
theorem dX2_isOf_61 : decode cX2_isOf 61 = .ok (.lload 11, 2) := by decide +kernel
theorem dX2_isOf_63 : decode cX2_isOf 63 = .ok (.iload_n 2, 1) := by decide +kernel
theorem dX2_isOf_64 : decode cX2_isOf 64 = .ok (.i2l, 1) := by decide +kernel
theorem dX2_isOf_65 : decode cX2_isOf 65 = .ok (.lmul, 1) := by decide +kernel
theorem dX2_isOf_66 : decode cX2_isOf 66 = .ok (.lsub, 1) := by decide +kernel
theorem dX2_isOf_67 : decode cX2_isOf 67 = .ok (.lstore 15, 2) := by decide +kernel
theorem dX2_isOf_69 : decode cX2_isOf 69 = .ok (.lload 7, 2) := by decide +kernel
theorem dX2_isOf_71 : decode cX2_isOf 71 = .ok (.lconst 0, 1) := by decide +kernel
theorem dX2_isOf_72 : decode cX2_isOf 72 = .ok (.lcmp, 1) := by decide +kernel
theorem dX2_isOf_73 : decode cX2_isOf 73 = .ok (.ifCond .ge 18, 3) := by decide +kernel
theorem dX2_isOf_76 : decode cX2_isOf 76 = .ok (.lload 7, 2) := by decide +kernel
theorem dX2_isOf_78 : decode cX2_isOf 78 = .ok (.lneg, 1) := by decide +kernel
theorem dX2_isOf_79 : decode cX2_isOf 79 = .ok (.lstore 7, 2) := by decide +kernel
theorem dX2_isOf_81 : decode cX2_isOf 81 = .ok (.lload 13, 2) := by decide +kernel
theorem dX2_isOf_83 : decode cX2_isOf 83 = .ok (.lneg, 1) := by decide +kernel
theorem dX2_isOf_84 : decode cX2_isOf 84 = .ok (.lstore 13, 2) := by decide +kernel
theorem dX2_isOf_86 : decode cX2_isOf 86 = .ok (.lload 15, 2) := by decide +kernel
theorem dX2_isOf_88 : decode cX2_isOf 88 = .ok (.lneg, 1) := by decide +kernel
theorem dX2_isOf_89 : decode cX2_isOf 89 = .ok (.lstore 15, 2) := by decide +kernel
theorem dX2_isOf_91 : decode cX2_isOf 91 = .ok (.lload 7, 2) := by decide +kernel
theorem dX2_isOf_93 : decode cX2_isOf 93 = .ok (.lconst 0, 1) := by decide +kernel
theorem dX2_isOf_94 : decode cX2_isOf 94 = .ok (.lcmp, 1) := by decide +kernel
theorem dX2_isOf_95 : decode cX2_isOf 95 = .ok (.ifCond .eq 17, 3) := by decide +kernel
theorem dX2_isOf_98 : decode cX2_isOf 98 = .ok (.lload 13, 2) := by decide +kernel
theorem dX2_isOf_100 : decode cX2_isOf 100 = .ok (.lconst 0, 1) := by decide +kernel
theorem dX2_isOf_101 : decode cX2_isOf 101 = .ok (.lcmp, 1) := by decide +kernel
theorem dX2_isOf_102 : decode cX2_isOf 102 = .ok (.ifCond .le 10, 3) := by decide +kernel
theorem dX2_isOf_105 : decode cX2_isOf 105 = .ok (.lload 15, 2) := by decide +kernel
theorem dX2_isOf_107 : decode cX2_isOf 107 = .ok (.lconst 0, 1) := by decide +kernel
theorem dX2_isOf_108 : decode cX2_isOf 108 = .ok (.lcmp, 1) := by decide +kernel
theorem dX2_isOf_109 : decode cX2_isOf 109 = .ok (.ifCond .gt 5, 3) := by decide +kernel
theorem dX2_isOf_112 : decode cX2_isOf 112 = .ok (.iconst 0, 1) := by decide +kernel
theorem dX2_isOf_113 : decode cX2_isOf 113 = .ok (.ireturn, 1) := by decide +kernel
theorem dX2_isOf_114 : decode cX2_isOf 114 = .ok (.aload_n 0, 1) := by decide +kernel
theorem dX2_isOf_115 : decode cX2_isOf 115 = .ok (.ldc2_w 40, 3) := by decide +kernel
theorem dX2_isOf_118 : decode cX2_isOf 118 = .ok (.aload_n 1, 1) := by decide +kernel
theorem dX2_isOf_119 : decode cX2_isOf 119 = .ok (.getfield 32, 3) := by decide +kernel
theorem dX2_isOf_122 : decode cX2_isOf 122 = .ok (.i2l, 1) := by decide +kernel
theorem dX2_isOf_123 : decode cX2_isOf 123 = .ok (.lload 7, 2) := by decide +kernel
theorem dX2_isOf_125 : decode cX2_isOf 125 = .ok (.lmul, 1) := by decide +kernel
theorem dX2_isOf_126 : decode cX2_isOf 126 = .ok (.lload 13, 2) := by decide +kernel
theorem dX2_isOf_128 : decode cX2_isOf 128 = .ok (.iload_n 2, 1) := by decide +kernel
theorem dX2_isOf_129 : decode cX2_isOf 129 = .ok (.i2l, 1) := by decide +kernel
theorem dX2_isOf_130 : decode cX2_isOf 130 = .ok (.lmul, 1) := by decide +kernel
theorem dX2_isOf_131 : decode cX2_isOf 131 = .ok (.ladd, 1) := by decide +kernel
theorem dX2_isOf_132 : decode cX2_isOf 132 = .ok (.lmul, 1) := by decide +kernel
theorem dX2_isOf_133 : decode cX2_isOf 133 = .ok (.lload 7, 2) := by decide +kernel
theorem dX2_isOf_135 : decode cX2_isOf 135 = .ok (.invokestatic 42, 3) := by decide +kernel
theorem dX2_isOf_138 : decode cX2_isOf 138 = .ok (.putfield 48, 3) := by decide +kernel
theorem dX2_isOf_141 : decode cX2_isOf 141 = .ok (.aload_n 0, 1) := by decide +kernel
theorem dX2_isOf_142 : decode cX2_isOf 142 = .ok (.ldc2_w 40, 3) := by decide +kernel
theorem dX2_isOf_145 : decode cX2_isOf 145 = .ok (.aload_n 1, 1) := by decide +kernel
theorem dX2_isOf_146 : decode cX2_isOf 146 = .ok (.getfield 37, 3) := by decide +kernel
theorem dX2_isOf_149 : decode cX2_isOf 149 = .ok (.i2l, 1) := by decide +kernel
theorem dX2_isOf_150 : decode cX2_isOf 150 = .ok (.lload 7, 2) := by decide +kernel
theorem dX2_isOf_152 : decode cX2_isOf 152 = .ok (.lmul, 1) := by decide +kernel
theorem dX2_isOf_153 : decode cX2_isOf 153 = .ok (.lload 13, 2) := by decide +kernel
theorem dX2_isOf_155 : decode cX2_isOf 155 = .ok (.iload_n 3, 1) := by decide +kernel
theorem dX2_isOf_156 : decode cX2_isOf 156 = .ok (.i2l, 1) := by decide +kernel
theorem dX2_isOf_157 : decode cX2_isOf 157 = .ok (.lmul, 1) := by decide +kernel
theorem dX2_isOf_158 : decode cX2_isOf 158 = .ok (.ladd, 1) := by decide +kernel
theorem dX2_isOf_159 : decode cX2_isOf 159 = .ok (.lmul, 1) := by decide +kernel
theorem dX2_isOf_160 : decode cX2_isOf 160 = .ok (.lload 7, 2) := by decide +kernel
theorem dX2_isOf_162 : decode cX2_isOf 162 = .ok (.invokestatic 42, 3) := by decide +kernel
theorem dX2_isOf_165 : decode cX2_isOf 165 = .ok (.putfield 51, 3) := by decide +kernel
theorem dX2_isOf_168 : decode cX2_isOf 168 = .ok (.iconst 1, 1) := by decide +kernel
theorem dX2_isOf_169 : decode cX2_isOf 169 = .ok (.ireturn, 1) := by decide +kernel
theorem dX3_init_0 : decode cX3_init 0 = .ok (.aload_n 0, 1) := by decide +kernel
theorem dX3_init_1 : decode cX3_init 1 = .ok (.invokespecial 3, 3) := by decide +kernel
theorem dX3_init_4 : decode cX3_init 4 = .ok (.return_, 1) := by decide +kernel
theorem dX3_scatter_0 : decode cX3_scatter 0 = .ok (.aload_n 0, 1) := by decide +kernel
theorem dX3_scatter_1 : decode cX3_scatter 1 = .ok (.aload_n 1, 1) := by decide +kernel
theorem dX3_scatter_2 : decode cX3_scatter 2 = .ok (.getfield 9, 3) := by decide +kernel
theorem dX3_scatter_5 : decode cX3_scatter 5 = .ok (.putfield 15, 3) := by decide +kernel
theorem dX3_scatter_8 : decode cX3_scatter 8 = .ok (.aload_n 0, 1) := by decide +kernel
theorem dX3_scatter_9 : decode cX3_scatter 9 = .ok (.aload_n 1, 1) := by decide +kernel
theorem dX3_scatter_10 : decode cX3_scatter 10 = .ok (.getfield 18, 3) := by decide +kernel
theorem dX3_scatter_13 : decode cX3_scatter 13 = .ok (.putfield 21, 3) := by decide +kernel
theorem dX3_scatter_16 : decode cX3_scatter 16 = .ok (.aload_n 0, 1) := by decide +kernel
theorem dX3_scatter_17 : decode cX3_scatter 17 = .ok (.iload_n 2, 1) := by decide +kernel
theorem dX3_scatter_18 : decode cX3_scatter 18 = .ok (.putfield 22, 3) := by decide +kernel
theorem dX3_scatter_21 : decode cX3_scatter 21 = .ok (.aload_n 0, 1) := by decide +kernel
theorem dX3_scatter_22 : decode cX3_scatter 22 = .ok (.iload_n 3, 1) := by decide +kernel
theorem dX3_scatter_23 : decode cX3_scatter 23 = .ok (.putfield 26, 3) := by decide +kernel
theorem dX3_scatter_26 : decode cX3_scatter 26 = .ok (.return_, 1) := by decide +kernel
theorem dX3_pieceX_0 : decode cX3_pieceX 0 = .ok (.aload_n 0, 1) := by decide +kernel
theorem dX3_pieceX_1 : decode cX3_pieceX 1 = .ok (.getfield 15, 3) := by decide +kernel
theorem dX3_pieceX_4 : decode cX3_pieceX 4 = .ok (.aload_n 0, 1) := by decide +kernel
theorem dX3_pieceX_5 : decode cX3_pieceX 5 = .ok (.getfield 22, 3) := by decide +kernel
theorem dX3_pieceX_8 : decode cX3_pieceX 8 = .ok (.bipush 20, 2) := by decide +kernel
theorem dX3_pieceX_10 : decode cX3_pieceX 10 = .ok (.imul, 1) := by decide +kernel
theorem dX3_pieceX_11 : decode cX3_pieceX 11 = .ok (.bipush 6, 2) := by decide +kernel
theorem dX3_pieceX_13 : decode cX3_pieceX 13 = .ok (.iload_n 1, 1) := by decide +kernel
theorem dX3_pieceX_14 : decode cX3_pieceX 14 = .ok (.isub, 1) := by decide +kernel
theorem dX3_pieceX_15 : decode cX3_pieceX 15 = .ok (.imul, 1) := by decide +kernel
theorem dX3_pieceX_16 : decode cX3_pieceX 16 = .ok (.i2l, 1) := by decide +kernel
theorem dX3_pieceX_17 : decode cX3_pieceX 17 = .ok (.ladd, 1) := by decide +kernel
theorem dX3_pieceX_18 : decode cX3_pieceX 18 = .ok (.ldc2_w 29, 3) := by decide +kernel
theorem dX3_pieceX_21 : decode cX3_pieceX 21 = .ok (.invokestatic 31, 3) := by decide +kernel
theorem dX3_pieceX_24 : decode cX3_pieceX 24 = .ok (.lreturn, 1) := by decide +kernel
theorem dX3_pieceY_0 : decode cX3_pieceY 0 = .ok (.aload_n 0, 1) := by decide +kernel
theorem dX3_pieceY_1 : decode cX3_pieceY 1 = .ok (.getfield 21, 3) := by decide +kernel
theorem dX3_pieceY_4 : decode cX3_pieceY 4 = .ok (.aload_n 0, 1) := by decide +kernel
theorem dX3_pieceY_5 : decode cX3_pieceY 5 = .ok (.getfield 26, 3) := by decide +kernel
theorem dX3_pieceY_8 : decode cX3_pieceY 8 = .ok (.bipush 20, 2) := by decide +kernel
theorem dX3_pieceY_10 : decode cX3_pieceY 10 = .ok (.imul, 1) := by decide +kernel
theorem dX3_pieceY_11 : decode cX3_pieceY 11 = .ok (.bipush 6, 2) := by decide +kernel
theorem dX3_pieceY_13 : decode cX3_pieceY 13 = .ok (.iload_n 1, 1) := by decide +kernel
theorem dX3_pieceY_14 : decode cX3_pieceY 14 = .ok (.isub, 1) := by decide +kernel
theorem dX3_pieceY_15 : decode cX3_pieceY 15 = .ok (.imul, 1) := by decide +kernel
theorem dX3_pieceY_16 : decode cX3_pieceY 16 = .ok (.i2l, 1) := by decide +kernel
theorem dX3_pieceY_17 : decode cX3_pieceY 17 = .ok (.ladd, 1) := by decide +kernel
theorem dX3_pieceY_18 : decode cX3_pieceY 18 = .ok (.ldc2_w 29, 3) := by decide +kernel
theorem dX3_pieceY_21 : decode cX3_pieceY 21 = .ok (.invokestatic 31, 3) := by decide +kernel
theorem dX3_pieceY_24 : decode cX3_pieceY 24 = .ok (.lreturn, 1) := by decide +kernel
theorem dX3_weight_0 : decode cX3_weight 0 = .ok (.lconst 0, 1) := by decide +kernel
theorem dX3_weight_1 : decode cX3_weight 1 = .ok (.lstore_n 3, 1) := by decide +kernel
theorem dX3_weight_2 : decode cX3_weight 2 = .ok (.iconst 1, 1) := by decide +kernel
theorem dX3_weight_3 : decode cX3_weight 3 = .ok (.istore 5, 2) := by decide +kernel
theorem dX3_weight_5 : decode cX3_weight 5 = .ok (.iload 5, 2) := by decide +kernel
theorem dX3_weight_7 : decode cX3_weight 7 = .ok (.iconst 5, 1) := by decide +kernel
theorem dX3_weight_8 : decode cX3_weight 8 = .ok (.if_icmp .gt 51, 3) := by decide +kernel
theorem dX3_weight_11 : decode cX3_weight 11 = .ok (.iload_n 1, 1) := by decide +kernel
theorem dX3_weight_12 : decode cX3_weight 12 = .ok (.i2l, 1) := by decide +kernel
theorem dX3_weight_13 : decode cX3_weight 13 = .ok (.aload_n 0, 1) := by decide +kernel
theorem dX3_weight_14 : decode cX3_weight 14 = .ok (.iload 5, 2) := by decide +kernel
theorem dX3_weight_16 : decode cX3_weight 16 = .ok (.invokevirtual 37, 3) := by decide +kernel
theorem dX3_weight_19 : decode cX3_weight 19 = .ok (.lsub, 1) := by decide +kernel
theorem dX3_weight_20 : decode cX3_weight 20 = .ok (.invokestatic 41, 3) := by decide +kernel
theorem dX3_weight_23 : decode cX3_weight 23 = .ok (.iload_n 2, 1) := by decide +kernel
theorem dX3_weight_24 : decode cX3_weight 24 = .ok (.i2l, 1) := by decide +kernel
theorem dX3_weight_25 : decode cX3_weight 25 = .ok (.aload_n 0, 1) := by decide +kernel
theorem dX3_weight_26 : decode cX3_weight 26 = .ok (.iload 5, 2) := by decide +kernel
theorem dX3_weight_28 : decode cX3_weight 28 = .ok (.invokevirtual 45, 3) := by decide +kernel
theorem dX3_weight_31 : decode cX3_weight 31 = .ok (.lsub, 1) := by decide +kernel
theorem dX3_weight_32 : decode cX3_weight 32 = .ok (.invokestatic 41, 3) := by decide +kernel
theorem dX3_weight_35 : decode cX3_weight 35 = .ok (.invokestatic 48, 3) := by decide +kernel
theorem dX3_weight_38 : decode cX3_weight 38 = .ok (.lstore 6, 2) := by decide +kernel
theorem dX3_weight_40 : decode cX3_weight 40 = .ok (.lload_n 3, 1) := by decide +kernel
theorem dX3_weight_41 : decode cX3_weight 41 = .ok (.lconst 0, 1) := by decide +kernel
theorem dX3_weight_42 : decode cX3_weight 42 = .ok (.ldc2_w 51, 3) := by decide +kernel
theorem dX3_weight_45 : decode cX3_weight 45 = .ok (.lload 6, 2) := by decide +kernel
theorem dX3_weight_47 : decode cX3_weight 47 = .ok (.lsub, 1) := by decide +kernel
theorem dX3_weight_48 : decode cX3_weight 48 = .ok (.invokestatic 48, 3) := by decide +kernel
theorem dX3_weight_51 : decode cX3_weight 51 = .ok (.ladd, 1) := by decide +kernel
theorem dX3_weight_52 : decode cX3_weight 52 = .ok (.lstore_n 3, 1) := by decide +kernel
theorem dX3_weight_53 : decode cX3_weight 53 = .ok (.iinc 5 1, 3) := by decide +kernel
theorem dX3_weight_56 : decode cX3_weight 56 = .ok (.goto (-51), 3) := by decide +kernel
theorem dX3_weight_59 : decode cX3_weight 59 = .ok (.ldc2_w 53, 3) := by decide +kernel
theorem dX3_weight_62 : decode cX3_weight 62 = .ok (.lload_n 3, 1) := by decide +kernel
theorem dX3_weight_63 : decode cX3_weight 63 = .ok (.lmul, 1) := by decide +kernel
theorem dX3_weight_64 : decode cX3_weight 64 = .ok (.lreturn, 1) := by decide +kernel
theorem dX3_weightOfGround_0 : decode cX3_weightOfGround 0 = .ok (.lconst 0, 1) := by decide +kernel
theorem dX3_weightOfGround_1 : decode cX3_weightOfGround 1 = .ok (.lstore_n 1, 1) := by decide +kernel
theorem dX3_weightOfGround_2 : decode cX3_weightOfGround 2 = .ok (.iconst 1, 1) := by decide +kernel
theorem dX3_weightOfGround_3 : decode cX3_weightOfGround 3 = .ok (.istore_n 3, 1) := by decide +kernel
theorem dX3_weightOfGround_4 : decode cX3_weightOfGround 4 = .ok (.iload_n 3, 1) := by decide +kernel
theorem dX3_weightOfGround_5 : decode cX3_weightOfGround 5 = .ok (.iconst 5, 1) := by decide +kernel
theorem dX3_weightOfGround_6 : decode cX3_weightOfGround 6 = .ok (.if_icmp .gt 57, 3) := by decide +kernel
theorem dX3_weightOfGround_9 : decode cX3_weightOfGround 9 = .ok (.aload_n 0, 1) := by decide +kernel
theorem dX3_weightOfGround_10 : decode cX3_weightOfGround 10 = .ok (.iload_n 3, 1) := by decide +kernel
theorem dX3_weightOfGround_11 : decode cX3_weightOfGround 11 = .ok (.invokevirtual 37, 3) := by decide +kernel
theorem dX3_weightOfGround_14 : decode cX3_weightOfGround 14 = .ok (.lstore 4, 2) := by decide +kernel
theorem dX3_weightOfGround_16 : decode cX3_weightOfGround 16 = .ok (.aload_n 0, 1) := by decide +kernel
theorem dX3_weightOfGround_17 : decode cX3_weightOfGround 17 = .ok (.iload_n 3, 1) := by decide +kernel
theorem dX3_weightOfGround_18 : decode cX3_weightOfGround 18 = .ok (.invokevirtual 45, 3) := by decide +kernel
theorem dX3_weightOfGround_21 : decode cX3_weightOfGround 21 = .ok (.lstore 6, 2) := by decide +kernel
theorem dX3_weightOfGround_23 : decode cX3_weightOfGround 23 = .ok (.iconst 0, 1) := by decide +kernel
theorem dX3_weightOfGround_24 : decode cX3_weightOfGround 24 = .ok (.istore 8, 2) := by decide +kernel
theorem dX3_weightOfGround_26 : decode cX3_weightOfGround 26 = .ok (.iload 8, 2) := by decide +kernel
theorem dX3_weightOfGround_28 : decode cX3_weightOfGround 28 = .ok (.bipush 8, 2) := by decide +kernel
theorem dX3_weightOfGround_30 : decode cX3_weightOfGround 30 = .ok (.if_icmp .ge 27, 3) := by decide +kernel
theorem dX3_weightOfGround_33 : decode cX3_weightOfGround 33 = .ok (.lload_n 1, 1) := by decide +kernel
theorem dX3_weightOfGround_34 : decode cX3_weightOfGround 34 = .ok (.lload 4, 2) := by decide +kernel
theorem dX3_weightOfGround_36 : decode cX3_weightOfGround 36 = .ok (.iload 8, 2) := by decide +kernel
theorem dX3_weightOfGround_38 : decode cX3_weightOfGround 38 = .ok (.invokestatic 55, 3) := by decide +kernel
theorem dX3_weightOfGround_41 : decode cX3_weightOfGround 41 = .ok (.lload 6, 2) := by decide +kernel
theorem dX3_weightOfGround_43 : decode cX3_weightOfGround 43 = .ok (.iload 8, 2) := by decide +kernel
theorem dX3_weightOfGround_45 : decode cX3_weightOfGround 45 = .ok (.invokestatic 55, 3) := by decide +kernel
theorem dX3_weightOfGround_48 : decode cX3_weightOfGround 48 = .ok (.lmul, 1) := by decide +kernel
theorem dX3_weightOfGround_49 : decode cX3_weightOfGround 49 = .ok (.ladd, 1) := by decide +kernel
theorem dX3_weightOfGround_50 : decode cX3_weightOfGround 50 = .ok (.lstore_n 1, 1) := by decide +kernel
theorem dX3_weightOfGround_51 : decode cX3_weightOfGround 51 = .ok (.iinc 8 1, 3) := by decide +kernel
theorem dX3_weightOfGround_54 : decode cX3_weightOfGround 54 = .ok (.goto (-28), 3) := by decide +kernel
theorem dX3_weightOfGround_57 : decode cX3_weightOfGround 57 = .ok (.iinc 3 1, 3) := by decide +kernel
theorem dX3_weightOfGround_60 : decode cX3_weightOfGround 60 = .ok (.goto (-56), 3) := by decide +kernel
theorem dX3_weightOfGround_63 : decode cX3_weightOfGround 63 = .ok (.ldc2_w 53, 3) := by decide +kernel
theorem dX3_weightOfGround_66 : decode cX3_weightOfGround 66 = .ok (.lload_n 1, 1) := by decide +kernel
theorem dX3_weightOfGround_67 : decode cX3_weightOfGround 67 = .ok (.lmul, 1) := by decide +kernel
theorem dX3_weightOfGround_68 : decode cX3_weightOfGround 68 = .ok (.lreturn, 1) := by decide +kernel
theorem dX3_cellsWithin_0 : decode cX3_cellsWithin 0 = .ok (.lconst 0, 1) := by decide +kernel
theorem dX3_cellsWithin_1 : decode cX3_cellsWithin 1 = .ok (.lload_n 0, 1) := by decide +kernel
theorem dX3_cellsWithin_2 : decode cX3_cellsWithin 2 = .ok (.iload_n 2, 1) := by decide +kernel
theorem dX3_cellsWithin_3 : decode cX3_cellsWithin 3 = .ok (.i2l, 1) := by decide +kernel
theorem dX3_cellsWithin_4 : decode cX3_cellsWithin 4 = .ok (.lsub, 1) := by decide +kernel
theorem dX3_cellsWithin_5 : decode cX3_cellsWithin 5 = .ok (.invokestatic 48, 3) := by decide +kernel
theorem dX3_cellsWithin_8 : decode cX3_cellsWithin 8 = .ok (.lstore_n 3, 1) := by decide +kernel
theorem dX3_cellsWithin_9 : decode cX3_cellsWithin 9 = .ok (.ldc2_w 59, 3) := by decide +kernel
theorem dX3_cellsWithin_12 : decode cX3_cellsWithin 12 = .ok (.lload_n 0, 1) := by decide +kernel
theorem dX3_cellsWithin_13 : decode cX3_cellsWithin 13 = .ok (.iload_n 2, 1) := by decide +kernel
theorem dX3_cellsWithin_14 : decode cX3_cellsWithin 14 = .ok (.i2l, 1) := by decide +kernel
theorem dX3_cellsWithin_15 : decode cX3_cellsWithin 15 = .ok (.ladd, 1) := by decide +kernel
theorem dX3_cellsWithin_16 : decode cX3_cellsWithin 16 = .ok (.invokestatic 61, 3) := by decide +kernel
theorem dX3_cellsWithin_19 : decode cX3_cellsWithin 19 = .ok (.lstore 5, 2) := by decide +kernel
theorem dX3_cellsWithin_21 : decode cX3_cellsWithin 21 = .ok (.lconst 0, 1) := by decide +kernel
theorem dX3_cellsWithin_22 : decode cX3_cellsWithin 22 = .ok (.lload 5, 2) := by decide +kernel
theorem dX3_cellsWithin_24 : decode cX3_cellsWithin 24 = .ok (.lload_n 3, 1) := by decide +kernel
theorem dX3_cellsWithin_25 : decode cX3_cellsWithin 25 = .ok (.lsub, 1) := by decide +kernel
theorem dX3_cellsWithin_26 : decode cX3_cellsWithin 26 = .ok (.lconst 1, 1) := by decide +kernel
theorem dX3_cellsWithin_27 : decode cX3_cellsWithin 27 = .ok (.ladd, 1) := by decide +kernel
theorem dX3_cellsWithin_28 : decode cX3_cellsWithin 28 = .ok (.invokestatic 48, 3) := by decide +kernel
theorem dX3_cellsWithin_31 : decode cX3_cellsWithin 31 = .ok (.lreturn, 1) := by decide +kernel
theorem dX4_init_0 : decode cX4_init 0 = .ok (.aload_n 0, 1) := by decide +kernel
theorem dX4_init_1 : decode cX4_init 1 = .ok (.invokespecial 1, 3) := by decide +kernel
theorem dX4_init_4 : decode cX4_init 4 = .ok (.return_, 1) := by decide +kernel
theorem dX4_exists_0 : decode cX4_exists 0 = .ok (.aload_n 0, 1) := by decide +kernel
theorem dX4_exists_1 : decode cX4_exists 1 = .ok (.getfield 7, 3) := by decide +kernel
theorem dX4_exists_4 : decode cX4_exists 4 = .ok (.ifCond .le 7, 3) := by decide +kernel
theorem dX4_exists_7 : decode cX4_exists 7 = .ok (.iconst 1, 1) := by decide +kernel
theorem dX4_exists_8 : decode cX4_exists 8 = .ok (.goto 4, 3) := by decide +kernel
theorem dX4_exists_11 : decode cX4_exists 11 = .ok (.iconst 0, 1) := by decide +kernel
theorem dX4_exists_12 : decode cX4_exists 12 = .ok (.ireturn, 1) := by decide +kernel
theorem dX4_clear_0 : decode cX4_clear 0 = .ok (.aload_n 0, 1) := by decide +kernel
theorem dX4_clear_1 : decode cX4_clear 1 = .ok (.iconst 0, 1) := by decide +kernel
theorem dX4_clear_2 : decode cX4_clear 2 = .ok (.putfield 7, 3) := by decide +kernel
theorem dX4_clear_5 : decode cX4_clear 5 = .ok (.aload_n 0, 1) := by decide +kernel
theorem dX4_clear_6 : decode cX4_clear 6 = .ok (.iconst 0, 1) := by decide +kernel
theorem dX4_clear_7 : decode cX4_clear 7 = .ok (.putfield 13, 3) := by decide +kernel
theorem dX4_clear_10 : decode cX4_clear 10 = .ok (.aload_n 0, 1) := by decide +kernel
theorem dX4_clear_11 : decode cX4_clear 11 = .ok (.lconst 0, 1) := by decide +kernel
theorem dX4_clear_12 : decode cX4_clear 12 = .ok (.putfield 16, 3) := by decide +kernel
theorem dX4_clear_15 : decode cX4_clear 15 = .ok (.aload_n 0, 1) := by decide +kernel
theorem dX4_clear_16 : decode cX4_clear 16 = .ok (.lconst 0, 1) := by decide +kernel
theorem dX4_clear_17 : decode cX4_clear 17 = .ok (.putfield 20, 3) := by decide +kernel
theorem dX4_clear_20 : decode cX4_clear 20 = .ok (.aload_n 0, 1) := by decide +kernel
theorem dX4_clear_21 : decode cX4_clear 21 = .ok (.lconst 0, 1) := by decide +kernel
theorem dX4_clear_22 : decode cX4_clear 22 = .ok (.putfield 23, 3) := by decide +kernel
theorem dX4_clear_25 : decode cX4_clear 25 = .ok (.aload_n 0, 1) := by decide +kernel
theorem dX4_clear_26 : decode cX4_clear 26 = .ok (.lconst 0, 1) := by decide +kernel
theorem dX4_clear_27 : decode cX4_clear 27 = .ok (.putfield 26, 3) := by decide +kernel
theorem dX4_clear_30 : decode cX4_clear 30 = .ok (.aload_n 0, 1) := by decide +kernel
theorem dX4_clear_31 : decode cX4_clear 31 = .ok (.lconst 0, 1) := by decide +kernel
theorem dX4_clear_32 : decode cX4_clear 32 = .ok (.putfield 29, 3) := by decide +kernel
theorem dX4_clear_35 : decode cX4_clear 35 = .ok (.aload_n 0, 1) := by decide +kernel
theorem dX4_clear_36 : decode cX4_clear 36 = .ok (.lconst 0, 1) := by decide +kernel
theorem dX4_clear_37 : decode cX4_clear 37 = .ok (.putfield 32, 3) := by decide +kernel
theorem dX4_clear_40 : decode cX4_clear 40 = .ok (.aload_n 0, 1) := by decide +kernel
theorem dX4_clear_41 : decode cX4_clear 41 = .ok (.lconst 0, 1) := by decide +kernel
theorem dX4_clear_42 : decode cX4_clear 42 = .ok (.putfield 35, 3) := by decide +kernel
theorem dX4_clear_45 : decode cX4_clear 45 = .ok (.return_, 1) := by decide +kernel
theorem dX4_add_0 : decode cX4_add 0 = .ok (.aload_n 0, 1) := by decide +kernel
theorem dX4_add_1 : decode cX4_add 1 = .ok (.aload_n 1, 1) := by decide +kernel
theorem dX4_add_2 : decode cX4_add 2 = .ok (.getfield 38, 3) := by decide +kernel
theorem dX4_add_5 : decode cX4_add 5 = .ok (.putfield 43, 3) := by decide +kernel
theorem dX4_add_8 : decode cX4_add 8 = .ok (.aload_n 0, 1) := by decide +kernel
theorem dX4_add_9 : decode cX4_add 9 = .ok (.dup, 1) := by decide +kernel
theorem dX4_add_10 : decode cX4_add 10 = .ok (.getfield 7, 3) := by decide +kernel
theorem dX4_add_13 : decode cX4_add 13 = .ok (.iconst 1, 1) := by decide +kernel
theorem dX4_add_14 : decode cX4_add 14 = .ok (.iadd, 1) := by decide +kernel
theorem dX4_add_15 : decode cX4_add 15 = .ok (.putfield 7, 3) := by decide +kernel
theorem dX4_add_18 : decode cX4_add 18 = .ok (.aload_n 0, 1) := by decide +kernel
theorem dX4_add_19 : decode cX4_add 19 = .ok (.dup, 1) := by decide +kernel
theorem dX4_add_20 : decode cX4_add 20 = .ok (.getfield 16, 3) := by decide +kernel
theorem dX4_add_23 : decode cX4_add 23 = .ok (.aload_n 1, 1) := by decide +kernel
theorem dX4_add_24 : decode cX4_add 24 = .ok (.getfield 44, 3) := by decide +kernel
theorem dX4_add_27 : decode cX4_add 27 = .ok (.i2l, 1) := by decide +kernel
theorem dX4_add_28 : decode cX4_add 28 = .ok (.ladd, 1) := by decide +kernel
theorem dX4_add_29 : decode cX4_add 29 = .ok (.putfield 16, 3) := by decide +kernel
theorem dX4_add_32 : decode cX4_add 32 = .ok (.aload_n 0, 1) := by decide +kernel
theorem dX4_add_33 : decode cX4_add 33 = .ok (.dup, 1) := by decide +kernel
theorem dX4_add_34 : decode cX4_add 34 = .ok (.getfield 20, 3) := by decide +kernel
theorem dX4_add_37 : decode cX4_add 37 = .ok (.aload_n 1, 1) := by decide +kernel
theorem dX4_add_38 : decode cX4_add 38 = .ok (.getfield 47, 3) := by decide +kernel
theorem dX4_add_41 : decode cX4_add 41 = .ok (.i2l, 1) := by decide +kernel
theorem dX4_add_42 : decode cX4_add 42 = .ok (.aload_n 1, 1) := by decide +kernel
theorem dX4_add_43 : decode cX4_add 43 = .ok (.getfield 44, 3) := by decide +kernel
theorem dX4_add_46 : decode cX4_add 46 = .ok (.i2l, 1) := by decide +kernel
theorem dX4_add_47 : decode cX4_add 47 = .ok (.lmul, 1) := by decide +kernel
theorem dX4_add_48 : decode cX4_add 48 = .ok (.ladd, 1) := by decide +kernel
theorem dX4_add_49 : decode cX4_add 49 = .ok (.putfield 20, 3) := by decide +kernel
theorem dX4_add_52 : decode cX4_add 52 = .ok (.aload_n 0, 1) := by decide +kernel
theorem dX4_add_53 : decode cX4_add 53 = .ok (.aload_n 0, 1) := by decide +kernel
theorem dX4_add_54 : decode cX4_add 54 = .ok (.getfield 23, 3) := by decide +kernel
theorem dX4_add_57 : decode cX4_add 57 = .ok (.aload_n 1, 1) := by decide +kernel
theorem dX4_add_58 : decode cX4_add 58 = .ok (.getfield 47, 3) := by decide +kernel
theorem dX4_add_61 : decode cX4_add 61 = .ok (.i2l, 1) := by decide +kernel
theorem dX4_add_62 : decode cX4_add 62 = .ok (.invokestatic 50, 3) := by decide +kernel
theorem dX4_add_65 : decode cX4_add 65 = .ok (.putfield 23, 3) := by decide +kernel
theorem dX4_add_68 : decode cX4_add 68 = .ok (.return_, 1) := by decide +kernel
theorem dX4_addPair_0 : decode cX4_addPair 0 = .ok (.aload_n 0, 1) := by decide +kernel
theorem dX4_addPair_1 : decode cX4_addPair 1 = .ok (.dup, 1) := by decide +kernel
theorem dX4_addPair_2 : decode cX4_addPair 2 = .ok (.getfield 13, 3) := by decide +kernel
theorem dX4_addPair_5 : decode cX4_addPair 5 = .ok (.iconst 1, 1) := by decide +kernel
theorem dX4_addPair_6 : decode cX4_addPair 6 = .ok (.iadd, 1) := by decide +kernel
theorem dX4_addPair_7 : decode cX4_addPair 7 = .ok (.putfield 13, 3) := by decide +kernel
theorem dX4_addPair_10 : decode cX4_addPair 10 = .ok (.aload_n 0, 1) := by decide +kernel
theorem dX4_addPair_11 : decode cX4_addPair 11 = .ok (.dup, 1) := by decide +kernel
theorem dX4_addPair_12 : decode cX4_addPair 12 = .ok (.getfield 26, 3) := by decide +kernel
theorem dX4_addPair_15 : decode cX4_addPair 15 = .ok (.aload_n 1, 1) := by decide +kernel
theorem dX4_addPair_16 : decode cX4_addPair 16 = .ok (.getfield 56, 3) := by decide +kernel
theorem dX4_addPair_19 : decode cX4_addPair 19 = .ok (.ladd, 1) := by decide +kernel
theorem dX4_addPair_20 : decode cX4_addPair 20 = .ok (.putfield 26, 3) := by decide +kernel
theorem dX4_addPair_23 : decode cX4_addPair 23 = .ok (.aload_n 0, 1) := by decide +kernel
theorem dX4_addPair_24 : decode cX4_addPair 24 = .ok (.dup, 1) := by decide +kernel
theorem dX4_addPair_25 : decode cX4_addPair 25 = .ok (.getfield 29, 3) := by decide +kernel
theorem dX4_addPair_28 : decode cX4_addPair 28 = .ok (.aload_n 1, 1) := by decide +kernel
theorem dX4_addPair_29 : decode cX4_addPair 29 = .ok (.getfield 61, 3) := by decide +kernel
theorem dX4_addPair_32 : decode cX4_addPair 32 = .ok (.ladd, 1) := by decide +kernel
theorem dX4_addPair_33 : decode cX4_addPair 33 = .ok (.putfield 29, 3) := by decide +kernel
theorem dX4_addPair_36 : decode cX4_addPair 36 = .ok (.aload_n 0, 1) := by decide +kernel
theorem dX4_addPair_37 : decode cX4_addPair 37 = .ok (.dup, 1) := by decide +kernel
theorem dX4_addPair_38 : decode cX4_addPair 38 = .ok (.getfield 32, 3) := by decide +kernel
theorem dX4_addPair_41 : decode cX4_addPair 41 = .ok (.aload_n 2, 1) := by decide +kernel
theorem dX4_addPair_42 : decode cX4_addPair 42 = .ok (.getfield 56, 3) := by decide +kernel
theorem dX4_addPair_45 : decode cX4_addPair 45 = .ok (.ladd, 1) := by decide +kernel
theorem dX4_addPair_46 : decode cX4_addPair 46 = .ok (.putfield 32, 3) := by decide +kernel
theorem dX4_addPair_49 : decode cX4_addPair 49 = .ok (.aload_n 0, 1) := by decide +kernel
theorem dX4_addPair_50 : decode cX4_addPair 50 = .ok (.dup, 1) := by decide +kernel
theorem dX4_addPair_51 : decode cX4_addPair 51 = .ok (.getfield 35, 3) := by decide +kernel
theorem dX4_addPair_54 : decode cX4_addPair 54 = .ok (.aload_n 2, 1) := by decide +kernel
theorem dX4_addPair_55 : decode cX4_addPair 55 = .ok (.getfield 61, 3) := by decide +kernel
theorem dX4_addPair_58 : decode cX4_addPair 58 = .ok (.ladd, 1) := by decide +kernel
theorem dX4_addPair_59 : decode cX4_addPair 59 = .ok (.putfield 35, 3) := by decide +kernel
theorem dX4_addPair_62 : decode cX4_addPair 62 = .ok (.return_, 1) := by decide +kernel
theorem dX4_settle_0 : decode cX4_settle 0 = .ok (.aload_n 0, 1) := by decide +kernel
theorem dX4_settle_1 : decode cX4_settle 1 = .ok (.aload_n 0, 1) := by decide +kernel
theorem dX4_settle_2 : decode cX4_settle 2 = .ok (.getfield 26, 3) := by decide +kernel
theorem dX4_settle_5 : decode cX4_settle 5 = .ok (.aload_n 0, 1) := by decide +kernel
theorem dX4_settle_6 : decode cX4_settle 6 = .ok (.getfield 13, 3) := by decide +kernel
theorem dX4_settle_9 : decode cX4_settle 9 = .ok (.i2l, 1) := by decide +kernel
theorem dX4_settle_10 : decode cX4_settle 10 = .ok (.invokestatic 64, 3) := by decide +kernel
theorem dX4_settle_13 : decode cX4_settle 13 = .ok (.putfield 26, 3) := by decide +kernel
theorem dX4_settle_16 : decode cX4_settle 16 = .ok (.aload_n 0, 1) := by decide +kernel
theorem dX4_settle_17 : decode cX4_settle 17 = .ok (.aload_n 0, 1) := by decide +kernel
theorem dX4_settle_18 : decode cX4_settle 18 = .ok (.getfield 29, 3) := by decide +kernel
theorem dX4_settle_21 : decode cX4_settle 21 = .ok (.aload_n 0, 1) := by decide +kernel
theorem dX4_settle_22 : decode cX4_settle 22 = .ok (.getfield 13, 3) := by decide +kernel
theorem dX4_settle_25 : decode cX4_settle 25 = .ok (.i2l, 1) := by decide +kernel
theorem dX4_settle_26 : decode cX4_settle 26 = .ok (.invokestatic 64, 3) := by decide +kernel
theorem dX4_settle_29 : decode cX4_settle 29 = .ok (.putfield 29, 3) := by decide +kernel
theorem dX4_settle_32 : decode cX4_settle 32 = .ok (.aload_n 0, 1) := by decide +kernel
theorem dX4_settle_33 : decode cX4_settle 33 = .ok (.aload_n 0, 1) := by decide +kernel
theorem dX4_settle_34 : decode cX4_settle 34 = .ok (.getfield 32, 3) := by decide +kernel
theorem dX4_settle_37 : decode cX4_settle 37 = .ok (.aload_n 0, 1) := by decide +kernel
theorem dX4_settle_38 : decode cX4_settle 38 = .ok (.getfield 13, 3) := by decide +kernel
theorem dX4_settle_41 : decode cX4_settle 41 = .ok (.i2l, 1) := by decide +kernel
theorem dX4_settle_42 : decode cX4_settle 42 = .ok (.invokestatic 64, 3) := by decide +kernel
theorem dX4_settle_45 : decode cX4_settle 45 = .ok (.putfield 32, 3) := by decide +kernel
theorem dX4_settle_48 : decode cX4_settle 48 = .ok (.aload_n 0, 1) := by decide +kernel
theorem dX4_settle_49 : decode cX4_settle 49 = .ok (.aload_n 0, 1) := by decide +kernel
theorem dX4_settle_50 : decode cX4_settle 50 = .ok (.getfield 35, 3) := by decide +kernel
theorem dX4_settle_53 : decode cX4_settle 53 = .ok (.aload_n 0, 1) := by decide +kernel
theorem dX4_settle_54 : decode cX4_settle 54 = .ok (.getfield 13, 3) := by decide +kernel
theorem dX4_settle_57 : decode cX4_settle 57 = .ok (.i2l, 1) := by decide +kernel
theorem dX4_settle_58 : decode cX4_settle 58 = .ok (.invokestatic 64, 3) := by decide +kernel
theorem dX4_settle_61 : decode cX4_settle 61 = .ok (.putfield 35, 3) := by decide +kernel
theorem dX4_settle_64 : decode cX4_settle 64 = .ok (.aload_n 0, 1) := by decide +kernel
theorem dX4_settle_65 : decode cX4_settle 65 = .ok (.invokevirtual 69, 3) := by decide +kernel
theorem dX4_settle_68 : decode cX4_settle 68 = .ok (.aload_n 0, 1) := by decide +kernel
theorem dX4_settle_69 : decode cX4_settle 69 = .ok (.invokevirtual 69, 3) := by decide +kernel
theorem dX4_settle_72 : decode cX4_settle 72 = .ok (.lmul, 1) := by decide +kernel
theorem dX4_settle_73 : decode cX4_settle 73 = .ok (.aload_n 0, 1) := by decide +kernel
theorem dX4_settle_74 : decode cX4_settle 74 = .ok (.invokevirtual 73, 3) := by decide +kernel
theorem dX4_settle_77 : decode cX4_settle 77 = .ok (.aload_n 0, 1) := by decide +kernel
theorem dX4_settle_78 : decode cX4_settle 78 = .ok (.invokevirtual 73, 3) := by decide +kernel
theorem dX4_settle_81 : decode cX4_settle 81 = .ok (.lmul, 1) := by decide +kernel
theorem dX4_settle_82 : decode cX4_settle 82 = .ok (.ladd, 1) := by decide +kernel
theorem dX4_settle_83 : decode cX4_settle 83 = .ok (.invokestatic 76, 3) := by decide +kernel
theorem dX4_settle_86 : decode cX4_settle 86 = .ok (.lstore_n 1, 1) := by decide +kernel
theorem dX4_settle_87 : decode cX4_settle 87 = .ok (.aload_n 0, 1) := by decide +kernel
theorem dX4_settle_88 : decode cX4_settle 88 = .ok (.ldc2_w 80, 3) := by decide +kernel
theorem dX4_settle_91 : decode cX4_settle 91 = .ok (.lload_n 1, 1) := by decide +kernel
theorem dX4_settle_92 : decode cX4_settle 92 = .ok (.lmul, 1) := by decide +kernel
theorem dX4_settle_93 : decode cX4_settle 93 = .ok (.aload_n 0, 1) := by decide +kernel
theorem dX4_settle_94 : decode cX4_settle 94 = .ok (.getfield 7, 3) := by decide +kernel
theorem dX4_settle_97 : decode cX4_settle 97 = .ok (.i2l, 1) := by decide +kernel
theorem dX4_settle_98 : decode cX4_settle 98 = .ok (.lmul, 1) := by decide +kernel
theorem dX4_settle_99 : decode cX4_settle 99 = .ok (.aload_n 0, 1) := by decide +kernel
theorem dX4_settle_100 : decode cX4_settle 100 = .ok (.getfield 16, 3) := by decide +kernel
theorem dX4_settle_103 : decode cX4_settle 103 = .ok (.invokestatic 64, 3) := by decide +kernel
theorem dX4_settle_106 : decode cX4_settle 106 = .ok (.putfield 82, 3) := by decide +kernel
theorem dX4_settle_109 : decode cX4_settle 109 = .ok (.aload_n 0, 1) := by decide +kernel
theorem dX4_settle_110 : decode cX4_settle 110 = .ok (.aload_n 0, 1) := by decide +kernel
theorem dX4_settle_111 : decode cX4_settle 111 = .ok (.getfield 20, 3) := by decide +kernel
theorem dX4_settle_114 : decode cX4_settle 114 = .ok (.aload_n 0, 1) := by decide +kernel
theorem dX4_settle_115 : decode cX4_settle 115 = .ok (.getfield 7, 3) := by decide +kernel
theorem dX4_settle_118 : decode cX4_settle 118 = .ok (.i2l, 1) := by decide +kernel
theorem dX4_settle_119 : decode cX4_settle 119 = .ok (.invokestatic 64, 3) := by decide +kernel
theorem dX4_settle_122 : decode cX4_settle 122 = .ok (.putfield 85, 3) := by decide +kernel
theorem dX4_settle_125 : decode cX4_settle 125 = .ok (.aload_n 0, 1) := by decide +kernel
theorem dX4_settle_126 : decode cX4_settle 126 = .ok (.ldc2_w 88, 3) := by decide +kernel
theorem dX4_settle_129 : decode cX4_settle 129 = .ok (.aload_n 0, 1) := by decide +kernel
theorem dX4_settle_130 : decode cX4_settle 130 = .ok (.getfield 23, 3) := by decide +kernel
theorem dX4_settle_133 : decode cX4_settle 133 = .ok (.lmul, 1) := by decide +kernel
theorem dX4_settle_134 : decode cX4_settle 134 = .ok (.aload_n 0, 1) := by decide +kernel
theorem dX4_settle_135 : decode cX4_settle 135 = .ok (.getfield 82, 3) := by decide +kernel
theorem dX4_settle_138 : decode cX4_settle 138 = .ok (.lconst 1, 1) := by decide +kernel
theorem dX4_settle_139 : decode cX4_settle 139 = .ok (.ladd, 1) := by decide +kernel
theorem dX4_settle_140 : decode cX4_settle 140 = .ok (.invokestatic 64, 3) := by decide +kernel
theorem dX4_settle_143 : decode cX4_settle 143 = .ok (.putfield 90, 3) := by decide +kernel
theorem dX4_settle_146 : decode cX4_settle 146 = .ok (.return_, 1) := by decide +kernel
theorem dX4_flightX_0 : decode cX4_flightX 0 = .ok (.aload_n 0, 1) := by decide +kernel
theorem dX4_flightX_1 : decode cX4_flightX 1 = .ok (.getfield 32, 3) := by decide +kernel
theorem dX4_flightX_4 : decode cX4_flightX 4 = .ok (.aload_n 0, 1) := by decide +kernel
theorem dX4_flightX_5 : decode cX4_flightX 5 = .ok (.getfield 26, 3) := by decide +kernel
theorem dX4_flightX_8 : decode cX4_flightX 8 = .ok (.lsub, 1) := by decide +kernel
theorem dX4_flightX_9 : decode cX4_flightX 9 = .ok (.lreturn, 1) := by decide +kernel
theorem dX4_flightY_0 : decode cX4_flightY 0 = .ok (.aload_n 0, 1) := by decide +kernel
theorem dX4_flightY_1 : decode cX4_flightY 1 = .ok (.getfield 35, 3) := by decide +kernel
theorem dX4_flightY_4 : decode cX4_flightY 4 = .ok (.aload_n 0, 1) := by decide +kernel
theorem dX4_flightY_5 : decode cX4_flightY 5 = .ok (.getfield 29, 3) := by decide +kernel
theorem dX4_flightY_8 : decode cX4_flightY 8 = .ok (.lsub, 1) := by decide +kernel
theorem dX4_flightY_9 : decode cX4_flightY 9 = .ok (.lreturn, 1) := by decide +kernel
theorem dX4_number_0 : decode cX4_number 0 = .ok (.iload_n 1, 1) := by decide +kernel
theorem dX4_number_1 : decode cX4_number 1 = .ok (.tableswitch 79 0 6 #[43, 49, 54, 59, 64, 69, 74], 43) := by decide +kernel
theorem dX4_number_44 : decode cX4_number 44 = .ok (.aload_n 0, 1) := by decide +kernel
theorem dX4_number_45 : decode cX4_number 45 = .ok (.getfield 7, 3) := by decide +kernel
theorem dX4_number_48 : decode cX4_number 48 = .ok (.i2l, 1) := by decide +kernel
theorem dX4_number_49 : decode cX4_number 49 = .ok (.lreturn, 1) := by decide +kernel
theorem dX4_number_50 : decode cX4_number 50 = .ok (.aload_n 0, 1) := by decide +kernel
theorem dX4_number_51 : decode cX4_number 51 = .ok (.getfield 26, 3) := by decide +kernel
theorem dX4_number_54 : decode cX4_number 54 = .ok (.lreturn, 1) := by decide +kernel
theorem dX4_number_55 : decode cX4_number 55 = .ok (.aload_n 0, 1) := by decide +kernel
theorem dX4_number_56 : decode cX4_number 56 = .ok (.getfield 29, 3) := by decide +kernel
theorem dX4_number_59 : decode cX4_number 59 = .ok (.lreturn, 1) := by decide +kernel
theorem dX4_number_60 : decode cX4_number 60 = .ok (.aload_n 0, 1) := by decide +kernel
theorem dX4_number_61 : decode cX4_number 61 = .ok (.getfield 32, 3) := by decide +kernel
theorem dX4_number_64 : decode cX4_number 64 = .ok (.lreturn, 1) := by decide +kernel
theorem dX4_number_65 : decode cX4_number 65 = .ok (.aload_n 0, 1) := by decide +kernel
theorem dX4_number_66 : decode cX4_number 66 = .ok (.getfield 35, 3) := by decide +kernel
theorem dX4_number_69 : decode cX4_number 69 = .ok (.lreturn, 1) := by decide +kernel
theorem dX4_number_70 : decode cX4_number 70 = .ok (.aload_n 0, 1) := by decide +kernel
theorem dX4_number_71 : decode cX4_number 71 = .ok (.getfield 82, 3) := by decide +kernel
theorem dX4_number_74 : decode cX4_number 74 = .ok (.lreturn, 1) := by decide +kernel
theorem dX4_number_75 : decode cX4_number 75 = .ok (.aload_n 0, 1) := by decide +kernel
theorem dX4_number_76 : decode cX4_number 76 = .ok (.getfield 85, 3) := by decide +kernel
theorem dX4_number_79 : decode cX4_number 79 = .ok (.lreturn, 1) := by decide +kernel
theorem dX4_number_80 : decode cX4_number 80 = .ok (.aload_n 0, 1) := by decide +kernel
theorem dX4_number_81 : decode cX4_number 81 = .ok (.getfield 90, 3) := by decide +kernel
theorem dX4_number_84 : decode cX4_number 84 = .ok (.lreturn, 1) := by decide +kernel
theorem dX4_isAsFastAs_0 : decode cX4_isAsFastAs 0 = .ok (.ldc2_w 80, 3) := by decide +kernel
theorem dX4_isAsFastAs_3 : decode cX4_isAsFastAs 3 = .ok (.aload_n 0, 1) := by decide +kernel
theorem dX4_isAsFastAs_4 : decode cX4_isAsFastAs 4 = .ok (.getfield 82, 3) := by decide +kernel
theorem dX4_isAsFastAs_7 : decode cX4_isAsFastAs 7 = .ok (.aload_n 1, 1) := by decide +kernel
theorem dX4_isAsFastAs_8 : decode cX4_isAsFastAs 8 = .ok (.getfield 82, 3) := by decide +kernel
theorem dX4_isAsFastAs_11 : decode cX4_isAsFastAs 11 = .ok (.lsub, 1) := by decide +kernel
theorem dX4_isAsFastAs_12 : decode cX4_isAsFastAs 12 = .ok (.invokestatic 93, 3) := by decide +kernel
theorem dX4_isAsFastAs_15 : decode cX4_isAsFastAs 15 = .ok (.lmul, 1) := by decide +kernel
theorem dX4_isAsFastAs_16 : decode cX4_isAsFastAs 16 = .ok (.aload_n 0, 1) := by decide +kernel
theorem dX4_isAsFastAs_17 : decode cX4_isAsFastAs 17 = .ok (.getfield 82, 3) := by decide +kernel
theorem dX4_isAsFastAs_20 : decode cX4_isAsFastAs 20 = .ok (.aload_n 1, 1) := by decide +kernel
theorem dX4_isAsFastAs_21 : decode cX4_isAsFastAs 21 = .ok (.getfield 82, 3) := by decide +kernel
theorem dX4_isAsFastAs_24 : decode cX4_isAsFastAs 24 = .ok (.invokestatic 50, 3) := by decide +kernel
theorem dX4_isAsFastAs_27 : decode cX4_isAsFastAs 27 = .ok (.lcmp, 1) := by decide +kernel
theorem dX4_isAsFastAs_28 : decode cX4_isAsFastAs 28 = .ok (.ifCond .gt 7, 3) := by decide +kernel
theorem dX4_isAsFastAs_31 : decode cX4_isAsFastAs 31 = .ok (.iconst 1, 1) := by decide +kernel
theorem dX4_isAsFastAs_32 : decode cX4_isAsFastAs 32 = .ok (.goto 4, 3) := by decide +kernel
theorem dX4_isAsFastAs_35 : decode cX4_isAsFastAs 35 = .ok (.iconst 0, 1) := by decide +kernel
theorem dX4_isAsFastAs_36 : decode cX4_isAsFastAs 36 = .ok (.ireturn, 1) := by decide +kernel
theorem dX4_fliesLike_0 : decode cX4_fliesLike 0 = .ok (.aload_n 0, 1) := by decide +kernel
theorem dX4_fliesLike_1 : decode cX4_fliesLike 1 = .ok (.invokevirtual 69, 3) := by decide +kernel
theorem dX4_fliesLike_4 : decode cX4_fliesLike 4 = .ok (.aload_n 1, 1) := by decide +kernel
theorem dX4_fliesLike_5 : decode cX4_fliesLike 5 = .ok (.invokevirtual 73, 3) := by decide +kernel
theorem dX4_fliesLike_8 : decode cX4_fliesLike 8 = .ok (.lmul, 1) := by decide +kernel
theorem dX4_fliesLike_9 : decode cX4_fliesLike 9 = .ok (.aload_n 0, 1) := by decide +kernel
theorem dX4_fliesLike_10 : decode cX4_fliesLike 10 = .ok (.invokevirtual 73, 3) := by decide +kernel
theorem dX4_fliesLike_13 : decode cX4_fliesLike 13 = .ok (.aload_n 1, 1) := by decide +kernel
theorem dX4_fliesLike_14 : decode cX4_fliesLike 14 = .ok (.invokevirtual 69, 3) := by decide +kernel
theorem dX4_fliesLike_17 : decode cX4_fliesLike 17 = .ok (.lmul, 1) := by decide +kernel
theorem dX4_fliesLike_18 : decode cX4_fliesLike 18 = .ok (.lsub, 1) := by decide +kernel
theorem dX4_fliesLike_19 : decode cX4_fliesLike 19 = .ok (.lstore_n 2, 1) := by decide +kernel
theorem dX4_fliesLike_20 : decode cX4_fliesLike 20 = .ok (.aload_n 0, 1) := by decide +kernel
theorem dX4_fliesLike_21 : decode cX4_fliesLike 21 = .ok (.invokevirtual 69, 3) := by decide +kernel
theorem dX4_fliesLike_24 : decode cX4_fliesLike 24 = .ok (.aload_n 1, 1) := by decide +kernel
theorem dX4_fliesLike_25 : decode cX4_fliesLike 25 = .ok (.invokevirtual 69, 3) := by decide +kernel
theorem dX4_fliesLike_28 : decode cX4_fliesLike 28 = .ok (.lmul, 1) := by decide +kernel
theorem dX4_fliesLike_29 : decode cX4_fliesLike 29 = .ok (.aload_n 0, 1) := by decide +kernel
theorem dX4_fliesLike_30 : decode cX4_fliesLike 30 = .ok (.invokevirtual 73, 3) := by decide +kernel
theorem dX4_fliesLike_33 : decode cX4_fliesLike 33 = .ok (.aload_n 1, 1) := by decide +kernel
theorem dX4_fliesLike_34 : decode cX4_fliesLike 34 = .ok (.invokevirtual 73, 3) := by decide +kernel
theorem dX4_fliesLike_37 : decode cX4_fliesLike 37 = .ok (.lmul, 1) := by decide +kernel
theorem dX4_fliesLike_38 : decode cX4_fliesLike 38 = .ok (.ladd, 1) := by decide +kernel
theorem dX4_fliesLike_39 : decode cX4_fliesLike 39 = .ok (.lstore 4, 2) := by decide +kernel
theorem dX4_fliesLike_41 : decode cX4_fliesLike 41 = .ok (.lload 4, 2) := by decide +kernel
theorem dX4_fliesLike_43 : decode cX4_fliesLike 43 = .ok (.lconst 0, 1) := by decide +kernel
theorem dX4_fliesLike_44 : decode cX4_fliesLike 44 = .ok (.lcmp, 1) := by decide +kernel
theorem dX4_fliesLike_45 : decode cX4_fliesLike 45 = .ok (.ifCond .le 21, 3) := by decide +kernel
theorem dX4_fliesLike_48 : decode cX4_fliesLike 48 = .ok (.ldc2_w 80, 3) := by decide +kernel
theorem dX4_fliesLike_51 : decode cX4_fliesLike 51 = .ok (.lload_n 2, 1) := by decide +kernel
theorem dX4_fliesLike_52 : decode cX4_fliesLike 52 = .ok (.invokestatic 93, 3) := by decide +kernel
theorem dX4_fliesLike_55 : decode cX4_fliesLike 55 = .ok (.lmul, 1) := by decide +kernel
theorem dX4_fliesLike_56 : decode cX4_fliesLike 56 = .ok (.lload 4, 2) := by decide +kernel
theorem dX4_fliesLike_58 : decode cX4_fliesLike 58 = .ok (.lcmp, 1) := by decide +kernel
theorem dX4_fliesLike_59 : decode cX4_fliesLike 59 = .ok (.ifCond .gt 7, 3) := by decide +kernel
theorem dX4_fliesLike_62 : decode cX4_fliesLike 62 = .ok (.iconst 1, 1) := by decide +kernel
theorem dX4_fliesLike_63 : decode cX4_fliesLike 63 = .ok (.goto 4, 3) := by decide +kernel
theorem dX4_fliesLike_66 : decode cX4_fliesLike 66 = .ok (.iconst 0, 1) := by decide +kernel
theorem dX4_fliesLike_67 : decode cX4_fliesLike 67 = .ok (.ireturn, 1) := by decide +kernel
theorem dX5_init_0 : decode cX5_init 0 = .ok (.aload_n 0, 1) := by decide +kernel
theorem dX5_init_1 : decode cX5_init 1 = .ok (.invokespecial 1, 3) := by decide +kernel
theorem dX5_init_4 : decode cX5_init 4 = .ok (.aload_n 0, 1) := by decide +kernel
theorem dX5_init_5 : decode cX5_init 5 = .ok (.iload_n 1, 1) := by decide +kernel
theorem dX5_init_6 : decode cX5_init 6 = .ok (.putfield 7, 3) := by decide +kernel
theorem dX5_init_9 : decode cX5_init 9 = .ok (.aload_n 0, 1) := by decide +kernel
theorem dX5_init_10 : decode cX5_init 10 = .ok (.iload_n 2, 1) := by decide +kernel
theorem dX5_init_11 : decode cX5_init 11 = .ok (.putfield 13, 3) := by decide +kernel
theorem dX5_init_14 : decode cX5_init 14 = .ok (.return_, 1) := by decide +kernel
theorem dX5_groupOf_0 : decode cX5_groupOf 0 = .ok (.iload_n 1, 1) := by decide +kernel
theorem dX5_groupOf_1 : decode cX5_groupOf 1 = .ok (.aload_n 0, 1) := by decide +kernel
theorem dX5_groupOf_2 : decode cX5_groupOf 2 = .ok (.getfield 7, 3) := by decide +kernel
theorem dX5_groupOf_5 : decode cX5_groupOf 5 = .ok (.if_icmp .lt 6, 3) := by decide +kernel
theorem dX5_groupOf_8 : decode cX5_groupOf 8 = .ok (.bipush 100, 2) := by decide +kernel
theorem dX5_groupOf_10 : decode cX5_groupOf 10 = .ok (.ireturn, 1) := by decide +kernel
theorem dX5_groupOf_11 : decode cX5_groupOf 11 = .ok (.iload_n 1, 1) := by decide +kernel
theorem dX5_groupOf_12 : decode cX5_groupOf 12 = .ok (.aload_n 0, 1) := by decide +kernel
theorem dX5_groupOf_13 : decode cX5_groupOf 13 = .ok (.getfield 13, 3) := by decide +kernel
theorem dX5_groupOf_16 : decode cX5_groupOf 16 = .ok (.if_icmp .lt 9, 3) := by decide +kernel
theorem dX5_groupOf_19 : decode cX5_groupOf 19 = .ok (.sipush 200, 3) := by decide +kernel
theorem dX5_groupOf_22 : decode cX5_groupOf 22 = .ok (.goto 6, 3) := by decide +kernel
theorem dX5_groupOf_25 : decode cX5_groupOf 25 = .ok (.sipush 300, 3) := by decide +kernel
theorem dX5_groupOf_28 : decode cX5_groupOf 28 = .ok (.ireturn, 1) := by decide +kernel
theorem dX6_init_0 : decode cX6_init 0 = .ok (.aload_n 0, 1) := by decide +kernel
theorem dX6_init_1 : decode cX6_init 1 = .ok (.invokespecial 3, 3) := by decide +kernel
theorem dX6_init_4 : decode cX6_init 4 = .ok (.aload_n 0, 1) := by decide +kernel
theorem dX6_init_5 : decode cX6_init 5 = .ok (.iconst (-1), 1) := by decide +kernel
theorem dX6_init_6 : decode cX6_init 6 = .ok (.putfield 9, 3) := by decide +kernel
theorem dX6_init_9 : decode cX6_init 9 = .ok (.aload_n 0, 1) := by decide +kernel
theorem dX6_init_10 : decode cX6_init 10 = .ok (.aload_n 1, 1) := by decide +kernel
theorem dX6_init_11 : decode cX6_init 11 = .ok (.putfield 15, 3) := by decide +kernel
theorem dX6_init_14 : decode cX6_init 14 = .ok (.aload_n 0, 1) := by decide +kernel
theorem dX6_init_15 : decode cX6_init 15 = .ok (.iload_n 2, 1) := by decide +kernel
theorem dX6_init_16 : decode cX6_init 16 = .ok (.putfield 19, 3) := by decide +kernel
theorem dX6_init_19 : decode cX6_init 19 = .ok (.aload_n 0, 1) := by decide +kernel
theorem dX6_init_20 : decode cX6_init 20 = .ok (.iload_n 3, 1) := by decide +kernel
theorem dX6_init_21 : decode cX6_init 21 = .ok (.putfield 22, 3) := by decide +kernel
theorem dX6_init_24 : decode cX6_init 24 = .ok (.aload_n 0, 1) := by decide +kernel
theorem dX6_init_25 : decode cX6_init 25 = .ok (.iload 4, 2) := by decide +kernel
theorem dX6_init_27 : decode cX6_init 27 = .ok (.putfield 25, 3) := by decide +kernel
theorem dX6_init_30 : decode cX6_init 30 = .ok (.aload_n 0, 1) := by decide +kernel
theorem dX6_init_31 : decode cX6_init 31 = .ok (.iload 5, 2) := by decide +kernel
theorem dX6_init_33 : decode cX6_init 33 = .ok (.putfield 28, 3) := by decide +kernel
theorem dX6_init_36 : decode cX6_init 36 = .ok (.return_, 1) := by decide +kernel
theorem dX6_counts_0 : decode cX6_counts 0 = .ok (.aload_n 0, 1) := by decide +kernel
theorem dX6_counts_1 : decode cX6_counts 1 = .ok (.getfield 25, 3) := by decide +kernel
theorem dX6_counts_4 : decode cX6_counts 4 = .ok (.bipush 30, 2) := by decide +kernel
theorem dX6_counts_6 : decode cX6_counts 6 = .ok (.if_icmp .gt 16, 3) := by decide +kernel
theorem dX6_counts_9 : decode cX6_counts 9 = .ok (.aload_n 0, 1) := by decide +kernel
theorem dX6_counts_10 : decode cX6_counts 10 = .ok (.getfield 28, 3) := by decide +kernel
theorem dX6_counts_13 : decode cX6_counts 13 = .ok (.bipush 50, 2) := by decide +kernel
theorem dX6_counts_15 : decode cX6_counts 15 = .ok (.if_icmp .lt 7, 3) := by decide +kernel
theorem dX6_counts_18 : decode cX6_counts 18 = .ok (.iconst 1, 1) := by decide +kernel
theorem dX6_counts_19 : decode cX6_counts 19 = .ok (.goto 4, 3) := by decide +kernel
theorem dX6_counts_22 : decode cX6_counts 22 = .ok (.iconst 0, 1) := by decide +kernel
theorem dX6_counts_23 : decode cX6_counts 23 = .ok (.ireturn, 1) := by decide +kernel
theorem dX6_rightSecond_0 : decode cX6_rightSecond 0 = .ok (.aload_n 0, 1) := by decide +kernel
theorem dX6_rightSecond_1 : decode cX6_rightSecond 1 = .ok (.getfield 22, 3) := by decide +kernel
theorem dX6_rightSecond_4 : decode cX6_rightSecond 4 = .ok (.aload_n 0, 1) := by decide +kernel
theorem dX6_rightSecond_5 : decode cX6_rightSecond 5 = .ok (.getfield 15, 3) := by decide +kernel
theorem dX6_rightSecond_8 : decode cX6_rightSecond 8 = .ok (.getfield 31, 3) := by decide +kernel
theorem dX6_rightSecond_11 : decode cX6_rightSecond 11 = .ok (.isub, 1) := by decide +kernel
theorem dX6_rightSecond_12 : decode cX6_rightSecond 12 = .ok (.ireturn, 1) := by decide +kernel
theorem dX6_mayJoin_0 : decode cX6_mayJoin 0 = .ok (.aload_n 0, 1) := by decide +kernel
theorem dX6_mayJoin_1 : decode cX6_mayJoin 1 = .ok (.getfield 19, 3) := by decide +kernel
theorem dX6_mayJoin_4 : decode cX6_mayJoin 4 = .ok (.aload_n 1, 1) := by decide +kernel
theorem dX6_mayJoin_5 : decode cX6_mayJoin 5 = .ok (.getfield 19, 3) := by decide +kernel
theorem dX6_mayJoin_8 : decode cX6_mayJoin 8 = .ok (.if_icmp .ne 48, 3) := by decide +kernel
theorem dX6_mayJoin_11 : decode cX6_mayJoin 11 = .ok (.aload_n 0, 1) := by decide +kernel
theorem dX6_mayJoin_12 : decode cX6_mayJoin 12 = .ok (.getfield 15, 3) := by decide +kernel
theorem dX6_mayJoin_15 : decode cX6_mayJoin 15 = .ok (.aload_n 1, 1) := by decide +kernel
theorem dX6_mayJoin_16 : decode cX6_mayJoin 16 = .ok (.getfield 15, 3) := by decide +kernel
theorem dX6_mayJoin_19 : decode cX6_mayJoin 19 = .ok (.if_acmp .eq 37, 3) := by decide +kernel
theorem dX6_mayJoin_22 : decode cX6_mayJoin 22 = .ok (.aload_n 0, 1) := by decide +kernel
theorem dX6_mayJoin_23 : decode cX6_mayJoin 23 = .ok (.invokevirtual 36, 3) := by decide +kernel
theorem dX6_mayJoin_26 : decode cX6_mayJoin 26 = .ok (.ifCond .eq 30, 3) := by decide +kernel
theorem dX6_mayJoin_29 : decode cX6_mayJoin 29 = .ok (.aload_n 1, 1) := by decide +kernel
theorem dX6_mayJoin_30 : decode cX6_mayJoin 30 = .ok (.invokevirtual 36, 3) := by decide +kernel
theorem dX6_mayJoin_33 : decode cX6_mayJoin 33 = .ok (.ifCond .eq 23, 3) := by decide +kernel
theorem dX6_mayJoin_36 : decode cX6_mayJoin 36 = .ok (.aload_n 0, 1) := by decide +kernel
theorem dX6_mayJoin_37 : decode cX6_mayJoin 37 = .ok (.invokevirtual 40, 3) := by decide +kernel
theorem dX6_mayJoin_40 : decode cX6_mayJoin 40 = .ok (.aload_n 1, 1) := by decide +kernel
theorem dX6_mayJoin_41 : decode cX6_mayJoin 41 = .ok (.invokevirtual 40, 3) := by decide +kernel
theorem dX6_mayJoin_44 : decode cX6_mayJoin 44 = .ok (.isub, 1) := by decide +kernel
theorem dX6_mayJoin_45 : decode cX6_mayJoin 45 = .ok (.invokestatic 44, 3) := by decide +kernel
theorem dX6_mayJoin_48 : decode cX6_mayJoin 48 = .ok (.iconst 5, 1) := by decide +kernel
theorem dX6_mayJoin_49 : decode cX6_mayJoin 49 = .ok (.if_icmp .gt 7, 3) := by decide +kernel
theorem dX6_mayJoin_52 : decode cX6_mayJoin 52 = .ok (.iconst 1, 1) := by decide +kernel
theorem dX6_mayJoin_53 : decode cX6_mayJoin 53 = .ok (.goto 4, 3) := by decide +kernel
theorem dX6_mayJoin_56 : decode cX6_mayJoin 56 = .ok (.iconst 0, 1) := by decide +kernel
theorem dX6_mayJoin_57 : decode cX6_mayJoin 57 = .ok (.ireturn, 1) := by decide +kernel
theorem dX7_init_0 : decode cX7_init 0 = .ok (.aload_n 0, 1) := by decide +kernel
theorem dX7_init_1 : decode cX7_init 1 = .ok (.invokespecial 3, 3) := by decide +kernel
theorem dX7_init_4 : decode cX7_init 4 = .ok (.aload_n 0, 1) := by decide +kernel
theorem dX7_init_5 : decode cX7_init 5 = .ok (.iconst 0, 1) := by decide +kernel
theorem dX7_init_6 : decode cX7_init 6 = .ok (.putfield 9, 3) := by decide +kernel
theorem dX7_init_9 : decode cX7_init 9 = .ok (.aload_n 0, 1) := by decide +kernel
theorem dX7_init_10 : decode cX7_init 10 = .ok (.iconst (-1), 1) := by decide +kernel
theorem dX7_init_11 : decode cX7_init 11 = .ok (.putfield 15, 3) := by decide +kernel
theorem dX7_init_14 : decode cX7_init 14 = .ok (.aload_n 0, 1) := by decide +kernel
theorem dX7_init_15 : decode cX7_init 15 = .ok (.iconst (-1), 1) := by decide +kernel
theorem dX7_init_16 : decode cX7_init 16 = .ok (.putfield 18, 3) := by decide +kernel
theorem dX7_init_19 : decode cX7_init 19 = .ok (.aload_n 0, 1) := by decide +kernel
theorem dX7_init_20 : decode cX7_init 20 = .ok (.iconst (-1), 1) := by decide +kernel
theorem dX7_init_21 : decode cX7_init 21 = .ok (.putfield 21, 3) := by decide +kernel
theorem dX7_init_24 : decode cX7_init 24 = .ok (.aload_n 0, 1) := by decide +kernel
theorem dX7_init_25 : decode cX7_init 25 = .ok (.iload_n 1, 1) := by decide +kernel
theorem dX7_init_26 : decode cX7_init 26 = .ok (.putfield 24, 3) := by decide +kernel
theorem dX7_init_29 : decode cX7_init 29 = .ok (.aload_n 0, 1) := by decide +kernel
theorem dX7_init_30 : decode cX7_init 30 = .ok (.iload_n 2, 1) := by decide +kernel
theorem dX7_init_31 : decode cX7_init 31 = .ok (.putfield 27, 3) := by decide +kernel
theorem dX7_init_34 : decode cX7_init 34 = .ok (.aload_n 0, 1) := by decide +kernel
theorem dX7_init_35 : decode cX7_init 35 = .ok (.iload_n 3, 1) := by decide +kernel
theorem dX7_init_36 : decode cX7_init 36 = .ok (.putfield 30, 3) := by decide +kernel
theorem dX7_init_39 : decode cX7_init 39 = .ok (.aload_n 0, 1) := by decide +kernel
theorem dX7_init_40 : decode cX7_init 40 = .ok (.iload 4, 2) := by decide +kernel
theorem dX7_init_42 : decode cX7_init 42 = .ok (.putfield 33, 3) := by decide +kernel
theorem dX7_init_45 : decode cX7_init 45 = .ok (.aload_n 0, 1) := by decide +kernel
theorem dX7_init_46 : decode cX7_init 46 = .ok (.iload 5, 2) := by decide +kernel
theorem dX7_init_48 : decode cX7_init 48 = .ok (.putfield 36, 3) := by decide +kernel
theorem dX7_init_51 : decode cX7_init 51 = .ok (.aload_n 0, 1) := by decide +kernel
theorem dX7_init_52 : decode cX7_init 52 = .ok (.iload 6, 2) := by decide +kernel
theorem dX7_init_54 : decode cX7_init 54 = .ok (.putfield 39, 3) := by decide +kernel
theorem dX7_init_57 : decode cX7_init 57 = .ok (.aload_n 0, 1) := by decide +kernel
theorem dX7_init_58 : decode cX7_init 58 = .ok (.aload 7, 2) := by decide +kernel
theorem dX7_init_60 : decode cX7_init 60 = .ok (.putfield 42, 3) := by decide +kernel
theorem dX7_init_63 : decode cX7_init 63 = .ok (.return_, 1) := by decide +kernel
theorem dX7_pieceOf_0 : decode cX7_pieceOf 0 = .ok (.new 10, 3) := by decide +kernel
theorem dX7_pieceOf_3 : decode cX7_pieceOf 3 = .ok (.dup, 1) := by decide +kernel
theorem dX7_pieceOf_4 : decode cX7_pieceOf 4 = .ok (.iload_n 1, 1) := by decide +kernel
theorem dX7_pieceOf_5 : decode cX7_pieceOf 5 = .ok (.aload_n 0, 1) := by decide +kernel
theorem dX7_pieceOf_6 : decode cX7_pieceOf 6 = .ok (.getfield 27, 3) := by decide +kernel
theorem dX7_pieceOf_9 : decode cX7_pieceOf 9 = .ok (.aload_n 0, 1) := by decide +kernel
theorem dX7_pieceOf_10 : decode cX7_pieceOf 10 = .ok (.getfield 30, 3) := by decide +kernel
theorem dX7_pieceOf_13 : decode cX7_pieceOf 13 = .ok (.aload_n 0, 1) := by decide +kernel
theorem dX7_pieceOf_14 : decode cX7_pieceOf 14 = .ok (.getfield 33, 3) := by decide +kernel
theorem dX7_pieceOf_17 : decode cX7_pieceOf 17 = .ok (.iload_n 2, 1) := by decide +kernel
theorem dX7_pieceOf_18 : decode cX7_pieceOf 18 = .ok (.aload_n 0, 1) := by decide +kernel
theorem dX7_pieceOf_19 : decode cX7_pieceOf 19 = .ok (.getfield 39, 3) := by decide +kernel
theorem dX7_pieceOf_22 : decode cX7_pieceOf 22 = .ok (.aload_n 0, 1) := by decide +kernel
theorem dX7_pieceOf_23 : decode cX7_pieceOf 23 = .ok (.invokespecial 46, 3) := by decide +kernel
theorem dX7_pieceOf_26 : decode cX7_pieceOf 26 = .ok (.astore_n 3, 1) := by decide +kernel
theorem dX7_pieceOf_27 : decode cX7_pieceOf 27 = .ok (.aload_n 3, 1) := by decide +kernel
theorem dX7_pieceOf_28 : decode cX7_pieceOf 28 = .ok (.aload_n 0, 1) := by decide +kernel
theorem dX7_pieceOf_29 : decode cX7_pieceOf 29 = .ok (.getfield 18, 3) := by decide +kernel
theorem dX7_pieceOf_32 : decode cX7_pieceOf 32 = .ok (.putfield 18, 3) := by decide +kernel
theorem dX7_pieceOf_35 : decode cX7_pieceOf 35 = .ok (.aload_n 3, 1) := by decide +kernel
theorem dX7_pieceOf_36 : decode cX7_pieceOf 36 = .ok (.aload_n 0, 1) := by decide +kernel
theorem dX7_pieceOf_37 : decode cX7_pieceOf 37 = .ok (.getfield 49, 3) := by decide +kernel
theorem dX7_pieceOf_40 : decode cX7_pieceOf 40 = .ok (.putfield 49, 3) := by decide +kernel
theorem dX7_pieceOf_43 : decode cX7_pieceOf 43 = .ok (.aload_n 3, 1) := by decide +kernel
theorem dX7_pieceOf_44 : decode cX7_pieceOf 44 = .ok (.aload_n 0, 1) := by decide +kernel
theorem dX7_pieceOf_45 : decode cX7_pieceOf 45 = .ok (.getfield 52, 3) := by decide +kernel
theorem dX7_pieceOf_48 : decode cX7_pieceOf 48 = .ok (.putfield 52, 3) := by decide +kernel
theorem dX7_pieceOf_51 : decode cX7_pieceOf 51 = .ok (.aload_n 3, 1) := by decide +kernel
theorem dX7_pieceOf_52 : decode cX7_pieceOf 52 = .ok (.areturn, 1) := by decide +kernel
theorem dX7_isNear_0 : decode cX7_isNear 0 = .ok (.aload_n 0, 1) := by decide +kernel
theorem dX7_isNear_1 : decode cX7_isNear 1 = .ok (.getfield 27, 3) := by decide +kernel
theorem dX7_isNear_4 : decode cX7_isNear 4 = .ok (.aload_n 1, 1) := by decide +kernel
theorem dX7_isNear_5 : decode cX7_isNear 5 = .ok (.getfield 27, 3) := by decide +kernel
theorem dX7_isNear_8 : decode cX7_isNear 8 = .ok (.isub, 1) := by decide +kernel
theorem dX7_isNear_9 : decode cX7_isNear 9 = .ok (.invokestatic 55, 3) := by decide +kernel
theorem dX7_isNear_12 : decode cX7_isNear 12 = .ok (.bipush 10, 2) := by decide +kernel
theorem dX7_isNear_14 : decode cX7_isNear 14 = .ok (.if_icmp .gt 24, 3) := by decide +kernel
theorem dX7_isNear_17 : decode cX7_isNear 17 = .ok (.aload_n 0, 1) := by decide +kernel
theorem dX7_isNear_18 : decode cX7_isNear 18 = .ok (.getfield 30, 3) := by decide +kernel
theorem dX7_isNear_21 : decode cX7_isNear 21 = .ok (.aload_n 1, 1) := by decide +kernel
theorem dX7_isNear_22 : decode cX7_isNear 22 = .ok (.getfield 30, 3) := by decide +kernel
theorem dX7_isNear_25 : decode cX7_isNear 25 = .ok (.isub, 1) := by decide +kernel
theorem dX7_isNear_26 : decode cX7_isNear 26 = .ok (.invokestatic 55, 3) := by decide +kernel
theorem dX7_isNear_29 : decode cX7_isNear 29 = .ok (.bipush 10, 2) := by decide +kernel
theorem dX7_isNear_31 : decode cX7_isNear 31 = .ok (.if_icmp .gt 7, 3) := by decide +kernel
theorem dX7_isNear_34 : decode cX7_isNear 34 = .ok (.iconst 1, 1) := by decide +kernel
theorem dX7_isNear_35 : decode cX7_isNear 35 = .ok (.goto 4, 3) := by decide +kernel
theorem dX7_isNear_38 : decode cX7_isNear 38 = .ok (.iconst 0, 1) := by decide +kernel
theorem dX7_isNear_39 : decode cX7_isNear 39 = .ok (.ireturn, 1) := by decide +kernel
theorem dX7_isPartOf_0 : decode cX7_isPartOf 0 = .ok (.aload_n 0, 1) := by decide +kernel
theorem dX7_isPartOf_1 : decode cX7_isPartOf 1 = .ok (.astore_n 2, 1) := by decide +kernel
theorem dX7_isPartOf_2 : decode cX7_isPartOf 2 = .ok (.aload_n 2, 1) := by decide +kernel
theorem dX7_isPartOf_3 : decode cX7_isPartOf 3 = .ok (.ifnull 18, 3) := by decide +kernel
theorem dX7_isPartOf_6 : decode cX7_isPartOf 6 = .ok (.aload_n 2, 1) := by decide +kernel
theorem dX7_isPartOf_7 : decode cX7_isPartOf 7 = .ok (.aload_n 1, 1) := by decide +kernel
theorem dX7_isPartOf_8 : decode cX7_isPartOf 8 = .ok (.if_acmp .ne 5, 3) := by decide +kernel
theorem dX7_isPartOf_11 : decode cX7_isPartOf 11 = .ok (.iconst 1, 1) := by decide +kernel
theorem dX7_isPartOf_12 : decode cX7_isPartOf 12 = .ok (.ireturn, 1) := by decide +kernel
theorem dX7_isPartOf_13 : decode cX7_isPartOf 13 = .ok (.aload_n 2, 1) := by decide +kernel
theorem dX7_isPartOf_14 : decode cX7_isPartOf 14 = .ok (.getfield 42, 3) := by decide +kernel
theorem dX7_isPartOf_17 : decode cX7_isPartOf 17 = .ok (.astore_n 2, 1) := by decide +kernel
theorem dX7_isPartOf_18 : decode cX7_isPartOf 18 = .ok (.goto (-16), 3) := by decide +kernel
theorem dX7_isPartOf_21 : decode cX7_isPartOf 21 = .ok (.iconst 0, 1) := by decide +kernel
theorem dX7_isPartOf_22 : decode cX7_isPartOf 22 = .ok (.ireturn, 1) := by decide +kernel
theorem dX7_hasOwnName_0 : decode cX7_hasOwnName 0 = .ok (.aload_n 0, 1) := by decide +kernel
theorem dX7_hasOwnName_1 : decode cX7_hasOwnName 1 = .ok (.getfield 21, 3) := by decide +kernel
theorem dX7_hasOwnName_4 : decode cX7_hasOwnName 4 = .ok (.iconst (-1), 1) := by decide +kernel
theorem dX7_hasOwnName_5 : decode cX7_hasOwnName 5 = .ok (.if_icmp .eq 7, 3) := by decide +kernel
theorem dX7_hasOwnName_8 : decode cX7_hasOwnName 8 = .ok (.iconst 1, 1) := by decide +kernel
theorem dX7_hasOwnName_9 : decode cX7_hasOwnName 9 = .ok (.goto 4, 3) := by decide +kernel
theorem dX7_hasOwnName_12 : decode cX7_hasOwnName 12 = .ok (.iconst 0, 1) := by decide +kernel
theorem dX7_hasOwnName_13 : decode cX7_hasOwnName 13 = .ok (.ireturn, 1) := by decide +kernel
theorem dX7_namesake_0 : decode cX7_namesake 0 = .ok (.aload_n 0, 1) := by decide +kernel
theorem dX7_namesake_1 : decode cX7_namesake 1 = .ok (.astore_n 1, 1) := by decide +kernel
theorem dX7_namesake_2 : decode cX7_namesake 2 = .ok (.aload_n 1, 1) := by decide +kernel
theorem dX7_namesake_3 : decode cX7_namesake 3 = .ok (.ifnull 20, 3) := by decide +kernel
theorem dX7_namesake_6 : decode cX7_namesake 6 = .ok (.aload_n 1, 1) := by decide +kernel
theorem dX7_namesake_7 : decode cX7_namesake 7 = .ok (.invokevirtual 61, 3) := by decide +kernel
theorem dX7_namesake_10 : decode cX7_namesake 10 = .ok (.ifCond .eq 5, 3) := by decide +kernel
theorem dX7_namesake_13 : decode cX7_namesake 13 = .ok (.aload_n 1, 1) := by decide +kernel
theorem dX7_namesake_14 : decode cX7_namesake 14 = .ok (.areturn, 1) := by decide +kernel
theorem dX7_namesake_15 : decode cX7_namesake 15 = .ok (.aload_n 1, 1) := by decide +kernel
theorem dX7_namesake_16 : decode cX7_namesake 16 = .ok (.getfield 42, 3) := by decide +kernel
theorem dX7_namesake_19 : decode cX7_namesake 19 = .ok (.astore_n 1, 1) := by decide +kernel
theorem dX7_namesake_20 : decode cX7_namesake 20 = .ok (.goto (-18), 3) := by decide +kernel
theorem dX7_namesake_23 : decode cX7_namesake 23 = .ok (.aconst_null, 1) := by decide +kernel
theorem dX7_namesake_24 : decode cX7_namesake 24 = .ok (.areturn, 1) := by decide +kernel
theorem dX7_number_0 : decode cX7_number 0 = .ok (.iload_n 1, 1) := by decide +kernel
theorem dX7_number_1 : decode cX7_number 1 = .ok (.tableswitch 100 0 6 #[43, 48, 53, 58, 63, 82, 87], 43) := by decide +kernel
theorem dX7_number_44 : decode cX7_number 44 = .ok (.aload_n 0, 1) := by decide +kernel
theorem dX7_number_45 : decode cX7_number 45 = .ok (.getfield 36, 3) := by decide +kernel
theorem dX7_number_48 : decode cX7_number 48 = .ok (.ireturn, 1) := by decide +kernel
theorem dX7_number_49 : decode cX7_number 49 = .ok (.aload_n 0, 1) := by decide +kernel
theorem dX7_number_50 : decode cX7_number 50 = .ok (.getfield 39, 3) := by decide +kernel
theorem dX7_number_53 : decode cX7_number 53 = .ok (.ireturn, 1) := by decide +kernel
theorem dX7_number_54 : decode cX7_number 54 = .ok (.aload_n 0, 1) := by decide +kernel
theorem dX7_number_55 : decode cX7_number 55 = .ok (.getfield 9, 3) := by decide +kernel
theorem dX7_number_58 : decode cX7_number 58 = .ok (.ireturn, 1) := by decide +kernel
theorem dX7_number_59 : decode cX7_number 59 = .ok (.aload_n 0, 1) := by decide +kernel
theorem dX7_number_60 : decode cX7_number 60 = .ok (.getfield 15, 3) := by decide +kernel
theorem dX7_number_63 : decode cX7_number 63 = .ok (.ireturn, 1) := by decide +kernel
theorem dX7_number_64 : decode cX7_number 64 = .ok (.aload_n 0, 1) := by decide +kernel
theorem dX7_number_65 : decode cX7_number 65 = .ok (.getfield 42, 3) := by decide +kernel
theorem dX7_number_68 : decode cX7_number 68 = .ok (.ifnonnull 7, 3) := by decide +kernel
theorem dX7_number_71 : decode cX7_number 71 = .ok (.iconst (-1), 1) := by decide +kernel
theorem dX7_number_72 : decode cX7_number 72 = .ok (.goto 10, 3) := by decide +kernel
theorem dX7_number_75 : decode cX7_number 75 = .ok (.aload_n 0, 1) := by decide +kernel
theorem dX7_number_76 : decode cX7_number 76 = .ok (.getfield 42, 3) := by decide +kernel
theorem dX7_number_79 : decode cX7_number 79 = .ok (.getfield 24, 3) := by decide +kernel
theorem dX7_number_82 : decode cX7_number 82 = .ok (.ireturn, 1) := by decide +kernel
theorem dX7_number_83 : decode cX7_number 83 = .ok (.aload_n 0, 1) := by decide +kernel
theorem dX7_number_84 : decode cX7_number 84 = .ok (.invokevirtual 65, 3) := by decide +kernel
theorem dX7_number_87 : decode cX7_number 87 = .ok (.ireturn, 1) := by decide +kernel
theorem dX7_number_88 : decode cX7_number 88 = .ok (.aload_n 0, 1) := by decide +kernel
theorem dX7_number_89 : decode cX7_number 89 = .ok (.invokevirtual 69, 3) := by decide +kernel
theorem dX7_number_92 : decode cX7_number 92 = .ok (.ifCond .eq 7, 3) := by decide +kernel
theorem dX7_number_95 : decode cX7_number 95 = .ok (.iconst 1, 1) := by decide +kernel
theorem dX7_number_96 : decode cX7_number 96 = .ok (.goto 4, 3) := by decide +kernel
theorem dX7_number_99 : decode cX7_number 99 = .ok (.iconst 0, 1) := by decide +kernel
theorem dX7_number_100 : decode cX7_number 100 = .ok (.ireturn, 1) := by decide +kernel
theorem dX7_number_101 : decode cX7_number 101 = .ok (.aload_n 0, 1) := by decide +kernel
theorem dX7_number_102 : decode cX7_number 102 = .ok (.getfield 72, 3) := by decide +kernel
theorem dX7_number_105 : decode cX7_number 105 = .ok (.ireturn, 1) := by decide +kernel
theorem dX7_fullName_0 : decode cX7_fullName 0 = .ok (.aload_n 0, 1) := by decide +kernel
theorem dX7_fullName_1 : decode cX7_fullName 1 = .ok (.invokevirtual 75, 3) := by decide +kernel
theorem dX7_fullName_4 : decode cX7_fullName 4 = .ok (.astore_n 1, 1) := by decide +kernel
theorem dX7_fullName_5 : decode cX7_fullName 5 = .ok (.aload_n 1, 1) := by decide +kernel
theorem dX7_fullName_6 : decode cX7_fullName 6 = .ok (.ifnonnull 7, 3) := by decide +kernel
theorem dX7_fullName_9 : decode cX7_fullName 9 = .ok (.iconst (-1), 1) := by decide +kernel
theorem dX7_fullName_10 : decode cX7_fullName 10 = .ok (.goto 15, 3) := by decide +kernel
theorem dX7_fullName_13 : decode cX7_fullName 13 = .ok (.bipush 100, 2) := by decide +kernel
theorem dX7_fullName_15 : decode cX7_fullName 15 = .ok (.aload_n 1, 1) := by decide +kernel
theorem dX7_fullName_16 : decode cX7_fullName 16 = .ok (.getfield 21, 3) := by decide +kernel
theorem dX7_fullName_19 : decode cX7_fullName 19 = .ok (.imul, 1) := by decide +kernel
theorem dX7_fullName_20 : decode cX7_fullName 20 = .ok (.aload_n 1, 1) := by decide +kernel
theorem dX7_fullName_21 : decode cX7_fullName 21 = .ok (.getfield 79, 3) := by decide +kernel
theorem dX7_fullName_24 : decode cX7_fullName 24 = .ok (.iadd, 1) := by decide +kernel
theorem dX7_fullName_25 : decode cX7_fullName 25 = .ok (.ireturn, 1) := by decide +kernel
theorem dX7_isDoubtful_0 : decode cX7_isDoubtful 0 = .ok (.aload_n 0, 1) := by decide +kernel
theorem dX7_isDoubtful_1 : decode cX7_isDoubtful 1 = .ok (.invokevirtual 75, 3) := by decide +kernel
theorem dX7_isDoubtful_4 : decode cX7_isDoubtful 4 = .ok (.astore_n 1, 1) := by decide +kernel
theorem dX7_isDoubtful_5 : decode cX7_isDoubtful 5 = .ok (.aload_n 1, 1) := by decide +kernel
theorem dX7_isDoubtful_6 : decode cX7_isDoubtful 6 = .ok (.ifnull 14, 3) := by decide +kernel
theorem dX7_isDoubtful_9 : decode cX7_isDoubtful 9 = .ok (.aload_n 1, 1) := by decide +kernel
theorem dX7_isDoubtful_10 : decode cX7_isDoubtful 10 = .ok (.getfield 82, 3) := by decide +kernel
theorem dX7_isDoubtful_13 : decode cX7_isDoubtful 13 = .ok (.ifCond .eq 7, 3) := by decide +kernel
theorem dX7_isDoubtful_16 : decode cX7_isDoubtful 16 = .ok (.iconst 1, 1) := by decide +kernel
theorem dX7_isDoubtful_17 : decode cX7_isDoubtful 17 = .ok (.goto 4, 3) := by decide +kernel
theorem dX7_isDoubtful_20 : decode cX7_isDoubtful 20 = .ok (.iconst 0, 1) := by decide +kernel
theorem dX7_isDoubtful_21 : decode cX7_isDoubtful 21 = .ok (.ireturn, 1) := by decide +kernel
theorem dX8_init_0 : decode cX8_init 0 = .ok (.aload_n 0, 1) := by decide +kernel
theorem dX8_init_1 : decode cX8_init 1 = .ok (.invokespecial 1, 3) := by decide +kernel
theorem dX8_init_4 : decode cX8_init 4 = .ok (.aload_n 0, 1) := by decide +kernel
theorem dX8_init_5 : decode cX8_init 5 = .ok (.iload_n 1, 1) := by decide +kernel
theorem dX8_init_6 : decode cX8_init 6 = .ok (.putfield 7, 3) := by decide +kernel
theorem dX8_init_9 : decode cX8_init 9 = .ok (.aload_n 0, 1) := by decide +kernel
theorem dX8_init_10 : decode cX8_init 10 = .ok (.iload_n 2, 1) := by decide +kernel
theorem dX8_init_11 : decode cX8_init 11 = .ok (.putfield 13, 3) := by decide +kernel
theorem dX8_init_14 : decode cX8_init 14 = .ok (.aload_n 0, 1) := by decide +kernel
theorem dX8_init_15 : decode cX8_init 15 = .ok (.iload_n 3, 1) := by decide +kernel
theorem dX8_init_16 : decode cX8_init 16 = .ok (.putfield 16, 3) := by decide +kernel
theorem dX8_init_19 : decode cX8_init 19 = .ok (.aload_n 0, 1) := by decide +kernel
theorem dX8_init_20 : decode cX8_init 20 = .ok (.iload 4, 2) := by decide +kernel
theorem dX8_init_22 : decode cX8_init 22 = .ok (.putfield 19, 3) := by decide +kernel
theorem dX8_init_25 : decode cX8_init 25 = .ok (.aload_n 0, 1) := by decide +kernel
theorem dX8_init_26 : decode cX8_init 26 = .ok (.iload 5, 2) := by decide +kernel
theorem dX8_init_28 : decode cX8_init 28 = .ok (.putfield 22, 3) := by decide +kernel
theorem dX8_init_31 : decode cX8_init 31 = .ok (.return_, 1) := by decide +kernel
theorem dX8_isThrough_0 : decode cX8_isThrough 0 = .ok (.aload_n 0, 1) := by decide +kernel
theorem dX8_isThrough_1 : decode cX8_isThrough 1 = .ok (.getfield 7, 3) := by decide +kernel
theorem dX8_isThrough_4 : decode cX8_isThrough 4 = .ok (.iload_n 1, 1) := by decide +kernel
theorem dX8_isThrough_5 : decode cX8_isThrough 5 = .ok (.if_icmp .ne 23, 3) := by decide +kernel
theorem dX8_isThrough_8 : decode cX8_isThrough 8 = .ok (.aload_n 0, 1) := by decide +kernel
theorem dX8_isThrough_9 : decode cX8_isThrough 9 = .ok (.getfield 13, 3) := by decide +kernel
theorem dX8_isThrough_12 : decode cX8_isThrough 12 = .ok (.iload_n 2, 1) := by decide +kernel
theorem dX8_isThrough_13 : decode cX8_isThrough 13 = .ok (.if_icmp .ne 15, 3) := by decide +kernel
theorem dX8_isThrough_16 : decode cX8_isThrough 16 = .ok (.aload_n 0, 1) := by decide +kernel
theorem dX8_isThrough_17 : decode cX8_isThrough 17 = .ok (.getfield 16, 3) := by decide +kernel
theorem dX8_isThrough_20 : decode cX8_isThrough 20 = .ok (.iload_n 3, 1) := by decide +kernel
theorem dX8_isThrough_21 : decode cX8_isThrough 21 = .ok (.if_icmp .ne 7, 3) := by decide +kernel
theorem dX8_isThrough_24 : decode cX8_isThrough 24 = .ok (.iconst 1, 1) := by decide +kernel
theorem dX8_isThrough_25 : decode cX8_isThrough 25 = .ok (.goto 4, 3) := by decide +kernel
theorem dX8_isThrough_28 : decode cX8_isThrough 28 = .ok (.iconst 0, 1) := by decide +kernel
theorem dX8_isThrough_29 : decode cX8_isThrough 29 = .ok (.ireturn, 1) := by decide +kernel
theorem dX9_init_0 : decode cX9_init 0 = .ok (.aload_n 0, 1) := by decide +kernel
theorem dX9_init_1 : decode cX9_init 1 = .ok (.invokespecial 1, 3) := by decide +kernel
theorem dX9_init_4 : decode cX9_init 4 = .ok (.aload_n 0, 1) := by decide +kernel
theorem dX9_init_5 : decode cX9_init 5 = .ok (.iload_n 1, 1) := by decide +kernel
theorem dX9_init_6 : decode cX9_init 6 = .ok (.putfield 7, 3) := by decide +kernel
theorem dX9_init_9 : decode cX9_init 9 = .ok (.return_, 1) := by decide +kernel
theorem dX10_init_0 : decode cX10_init 0 = .ok (.aload_n 0, 1) := by decide +kernel
theorem dX10_init_1 : decode cX10_init 1 = .ok (.invokespecial 1, 3) := by decide +kernel
theorem dX10_init_4 : decode cX10_init 4 = .ok (.aload_n 0, 1) := by decide +kernel
theorem dX10_init_5 : decode cX10_init 5 = .ok (.new 7, 3) := by decide +kernel
theorem dX10_init_8 : decode cX10_init 8 = .ok (.dup, 1) := by decide +kernel
theorem dX10_init_9 : decode cX10_init 9 = .ok (.invokespecial 9, 3) := by decide +kernel
theorem dX10_init_12 : decode cX10_init 12 = .ok (.putfield 10, 3) := by decide +kernel
theorem dX10_init_15 : decode cX10_init 15 = .ok (.aload_n 0, 1) := by decide +kernel
theorem dX10_init_16 : decode cX10_init 16 = .ok (.new 7, 3) := by decide +kernel
theorem dX10_init_19 : decode cX10_init 19 = .ok (.dup, 1) := by decide +kernel
theorem dX10_init_20 : decode cX10_init 20 = .ok (.invokespecial 9, 3) := by decide +kernel
theorem dX10_init_23 : decode cX10_init 23 = .ok (.putfield 16, 3) := by decide +kernel
theorem dX10_init_26 : decode cX10_init 26 = .ok (.aload_n 0, 1) := by decide +kernel
theorem dX10_init_27 : decode cX10_init 27 = .ok (.new 7, 3) := by decide +kernel
theorem dX10_init_30 : decode cX10_init 30 = .ok (.dup, 1) := by decide +kernel
theorem dX10_init_31 : decode cX10_init 31 = .ok (.invokespecial 9, 3) := by decide +kernel
theorem dX10_init_34 : decode cX10_init 34 = .ok (.putfield 19, 3) := by decide +kernel
theorem dX10_init_37 : decode cX10_init 37 = .ok (.aload_n 0, 1) := by decide +kernel
theorem dX10_init_38 : decode cX10_init 38 = .ok (.aconst_null, 1) := by decide +kernel
theorem dX10_init_39 : decode cX10_init 39 = .ok (.putfield 22, 3) := by decide +kernel
theorem dX10_init_42 : decode cX10_init 42 = .ok (.aload_n 0, 1) := by decide +kernel
theorem dX10_init_43 : decode cX10_init 43 = .ok (.new 7, 3) := by decide +kernel
theorem dX10_init_46 : decode cX10_init 46 = .ok (.dup, 1) := by decide +kernel
theorem dX10_init_47 : decode cX10_init 47 = .ok (.invokespecial 9, 3) := by decide +kernel
theorem dX10_init_50 : decode cX10_init 50 = .ok (.putfield 26, 3) := by decide +kernel
theorem dX10_init_53 : decode cX10_init 53 = .ok (.aload_n 0, 1) := by decide +kernel
theorem dX10_init_54 : decode cX10_init 54 = .ok (.new 29, 3) := by decide +kernel
theorem dX10_init_57 : decode cX10_init 57 = .ok (.dup, 1) := by decide +kernel
theorem dX10_init_58 : decode cX10_init 58 = .ok (.invokespecial 31, 3) := by decide +kernel
theorem dX10_init_61 : decode cX10_init 61 = .ok (.putfield 32, 3) := by decide +kernel
theorem dX10_init_64 : decode cX10_init 64 = .ok (.aload_n 0, 1) := by decide +kernel
theorem dX10_init_65 : decode cX10_init 65 = .ok (.new 29, 3) := by decide +kernel
theorem dX10_init_68 : decode cX10_init 68 = .ok (.dup, 1) := by decide +kernel
theorem dX10_init_69 : decode cX10_init 69 = .ok (.invokespecial 31, 3) := by decide +kernel
theorem dX10_init_72 : decode cX10_init 72 = .ok (.putfield 36, 3) := by decide +kernel
theorem dX10_init_75 : decode cX10_init 75 = .ok (.aload_n 0, 1) := by decide +kernel
theorem dX10_init_76 : decode cX10_init 76 = .ok (.new 7, 3) := by decide +kernel
theorem dX10_init_79 : decode cX10_init 79 = .ok (.dup, 1) := by decide +kernel
theorem dX10_init_80 : decode cX10_init 80 = .ok (.invokespecial 9, 3) := by decide +kernel
theorem dX10_init_83 : decode cX10_init 83 = .ok (.putfield 39, 3) := by decide +kernel
theorem dX10_init_86 : decode cX10_init 86 = .ok (.aload_n 0, 1) := by decide +kernel
theorem dX10_init_87 : decode cX10_init 87 = .ok (.new 7, 3) := by decide +kernel
theorem dX10_init_90 : decode cX10_init 90 = .ok (.dup, 1) := by decide +kernel
theorem dX10_init_91 : decode cX10_init 91 = .ok (.invokespecial 9, 3) := by decide +kernel
theorem dX10_init_94 : decode cX10_init 94 = .ok (.putfield 42, 3) := by decide +kernel
theorem dX10_init_97 : decode cX10_init 97 = .ok (.aload_n 0, 1) := by decide +kernel
theorem dX10_init_98 : decode cX10_init 98 = .ok (.new 45, 3) := by decide +kernel
theorem dX10_init_101 : decode cX10_init 101 = .ok (.dup, 1) := by decide +kernel
theorem dX10_init_102 : decode cX10_init 102 = .ok (.invokespecial 47, 3) := by decide +kernel
theorem dX10_init_105 : decode cX10_init 105 = .ok (.putfield 48, 3) := by decide +kernel
theorem dX10_init_108 : decode cX10_init 108 = .ok (.aload_n 0, 1) := by decide +kernel
theorem dX10_init_109 : decode cX10_init 109 = .ok (.new 7, 3) := by decide +kernel
theorem dX10_init_112 : decode cX10_init 112 = .ok (.dup, 1) := by decide +kernel
theorem dX10_init_113 : decode cX10_init 113 = .ok (.invokespecial 9, 3) := by decide +kernel
theorem dX10_init_116 : decode cX10_init 116 = .ok (.putfield 52, 3) := by decide +kernel
theorem dX10_init_119 : decode cX10_init 119 = .ok (.aload_n 0, 1) := by decide +kernel
theorem dX10_init_120 : decode cX10_init 120 = .ok (.bipush 10, 2) := by decide +kernel
theorem dX10_init_122 : decode cX10_init 122 = .ok (.anewarray 55, 3) := by decide +kernel
theorem dX10_init_125 : decode cX10_init 125 = .ok (.putfield 57, 3) := by decide +kernel
theorem dX10_init_128 : decode cX10_init 128 = .ok (.aload_n 0, 1) := by decide +kernel
theorem dX10_init_129 : decode cX10_init 129 = .ok (.iconst 4, 1) := by decide +kernel
theorem dX10_init_130 : decode cX10_init 130 = .ok (.newarray .int, 2) := by decide +kernel
theorem dX10_init_132 : decode cX10_init 132 = .ok (.putfield 61, 3) := by decide +kernel
theorem dX10_init_135 : decode cX10_init 135 = .ok (.aload_n 0, 1) := by decide +kernel
theorem dX10_init_136 : decode cX10_init 136 = .ok (.bipush 10, 2) := by decide +kernel
theorem dX10_init_138 : decode cX10_init 138 = .ok (.newarray .int, 2) := by decide +kernel
theorem dX10_init_140 : decode cX10_init 140 = .ok (.putfield 65, 3) := by decide +kernel
theorem dX10_init_143 : decode cX10_init 143 = .ok (.iconst 0, 1) := by decide +kernel
theorem dX10_init_144 : decode cX10_init 144 = .ok (.istore_n 1, 1) := by decide +kernel
theorem dX10_init_145 : decode cX10_init 145 = .ok (.iload_n 1, 1) := by decide +kernel
theorem dX10_init_146 : decode cX10_init 146 = .ok (.bipush 60, 2) := by decide +kernel
theorem dX10_init_148 : decode cX10_init 148 = .ok (.if_icmp .ge 26, 3) := by decide +kernel
theorem dX10_init_151 : decode cX10_init 151 = .ok (.aload_n 0, 1) := by decide +kernel
theorem dX10_init_152 : decode cX10_init 152 = .ok (.getfield 26, 3) := by decide +kernel
theorem dX10_init_155 : decode cX10_init 155 = .ok (.new 68, 3) := by decide +kernel
theorem dX10_init_158 : decode cX10_init 158 = .ok (.dup, 1) := by decide +kernel
theorem dX10_init_159 : decode cX10_init 159 = .ok (.invokespecial 70, 3) := by decide +kernel
theorem dX10_init_162 : decode cX10_init 162 = .ok (.invokeinterface 71 2, 5) := by decide +kernel
theorem dX10_init_167 : decode cX10_init 167 = .ok (.pop, 1) := by decide +kernel
theorem dX10_init_168 : decode cX10_init 168 = .ok (.iinc 1 1, 3) := by decide +kernel
theorem dX10_init_171 : decode cX10_init 171 = .ok (.goto (-26), 3) := by decide +kernel
theorem dX10_init_174 : decode cX10_init 174 = .ok (.return_, 1) := by decide +kernel
theorem dX10_camera_0 : decode cX10_camera 0 = .ok (.iload_n 1, 1) := by decide +kernel
theorem dX10_camera_1 : decode cX10_camera 1 = .ok (.iload_n 2, 1) := by decide +kernel
theorem dX10_camera_2 : decode cX10_camera 2 = .ok (.invokestatic 77, 3) := by decide +kernel
theorem dX10_camera_5 : decode cX10_camera 5 = .ok (.iload_n 3, 1) := by decide +kernel
theorem dX10_camera_6 : decode cX10_camera 6 = .ok (.bipush (-99), 2) := by decide +kernel
theorem dX10_camera_8 : decode cX10_camera 8 = .ok (.bipush 99, 2) := by decide +kernel
theorem dX10_camera_10 : decode cX10_camera 10 = .ok (.invokestatic 81, 3) := by decide +kernel
theorem dX10_camera_13 : decode cX10_camera 13 = .ok (.aload_n 0, 1) := by decide +kernel
theorem dX10_camera_14 : decode cX10_camera 14 = .ok (.getfield 10, 3) := by decide +kernel
theorem dX10_camera_17 : decode cX10_camera 17 = .ok (.invokeinterface 85 1, 5) := by decide +kernel
theorem dX10_camera_22 : decode cX10_camera 22 = .ok (.bipush 10, 2) := by decide +kernel
theorem dX10_camera_24 : decode cX10_camera 24 = .ok (.if_icmp .lt 13, 3) := by decide +kernel
theorem dX10_camera_27 : decode cX10_camera 27 = .ok (.new 89, 3) := by decide +kernel
theorem dX10_camera_30 : decode cX10_camera 30 = .ok (.dup, 1) := by decide +kernel
theorem dX10_camera_31 : decode cX10_camera 31 = .ok (.ldc 91, 2) := by decide +kernel
theorem dX10_camera_33 : decode cX10_camera 33 = .ok (.invokespecial 93, 3) := by decide +kernel
theorem dX10_camera_36 : decode cX10_camera 36 = .ok (.athrow, 1) := by decide +kernel
theorem dX10_camera_37 : decode cX10_camera 37 = .ok (.aload_n 0, 1) := by decide +kernel
theorem dX10_camera_38 : decode cX10_camera 38 = .ok (.getfield 10, 3) := by decide +kernel
theorem dX10_camera_41 : decode cX10_camera 41 = .ok (.new 96, 3) := by decide +kernel
theorem dX10_camera_44 : decode cX10_camera 44 = .ok (.dup, 1) := by decide +kernel
theorem dX10_camera_45 : decode cX10_camera 45 = .ok (.iload_n 1, 1) := by decide +kernel
theorem dX10_camera_46 : decode cX10_camera 46 = .ok (.iload_n 2, 1) := by decide +kernel
theorem dX10_camera_47 : decode cX10_camera 47 = .ok (.iload_n 3, 1) := by decide +kernel
theorem dX10_camera_48 : decode cX10_camera 48 = .ok (.invokespecial 98, 3) := by decide +kernel
theorem dX10_camera_51 : decode cX10_camera 51 = .ok (.invokeinterface 71 2, 5) := by decide +kernel
theorem dX10_camera_56 : decode cX10_camera 56 = .ok (.pop, 1) := by decide +kernel
theorem dX10_camera_57 : decode cX10_camera 57 = .ok (.aload_n 0, 1) := by decide +kernel
theorem dX10_camera_58 : decode cX10_camera 58 = .ok (.getfield 10, 3) := by decide +kernel
theorem dX10_camera_61 : decode cX10_camera 61 = .ok (.invokeinterface 85 1, 5) := by decide +kernel
theorem dX10_camera_66 : decode cX10_camera 66 = .ok (.iconst 1, 1) := by decide +kernel
theorem dX10_camera_67 : decode cX10_camera 67 = .ok (.isub, 1) := by decide +kernel
theorem dX10_camera_68 : decode cX10_camera 68 = .ok (.ireturn, 1) := by decide +kernel
theorem dX10_clock_0 : decode cX10_clock 0 = .ok (.aload_n 0, 1) := by decide +kernel
theorem dX10_clock_1 : decode cX10_clock 1 = .ok (.iload_n 1, 1) := by decide +kernel
theorem dX10_clock_2 : decode cX10_clock 2 = .ok (.invokevirtual 100, 3) := by decide +kernel
theorem dX10_clock_5 : decode cX10_clock 5 = .ok (.astore_n 3, 1) := by decide +kernel
theorem dX10_clock_6 : decode cX10_clock 6 = .ok (.iload_n 2, 1) := by decide +kernel
theorem dX10_clock_7 : decode cX10_clock 7 = .ok (.bipush (-99), 2) := by decide +kernel
theorem dX10_clock_9 : decode cX10_clock 9 = .ok (.bipush 99, 2) := by decide +kernel
theorem dX10_clock_11 : decode cX10_clock 11 = .ok (.invokestatic 81, 3) := by decide +kernel
theorem dX10_clock_14 : decode cX10_clock 14 = .ok (.aload_n 3, 1) := by decide +kernel
theorem dX10_clock_15 : decode cX10_clock 15 = .ok (.getfield 104, 3) := by decide +kernel
theorem dX10_clock_18 : decode cX10_clock 18 = .ok (.istore 4, 2) := by decide +kernel
theorem dX10_clock_20 : decode cX10_clock 20 = .ok (.aload_n 3, 1) := by decide +kernel
theorem dX10_clock_21 : decode cX10_clock 21 = .ok (.iload_n 2, 1) := by decide +kernel
theorem dX10_clock_22 : decode cX10_clock 22 = .ok (.putfield 104, 3) := by decide +kernel
theorem dX10_clock_25 : decode cX10_clock 25 = .ok (.aload_n 0, 1) := by decide +kernel
theorem dX10_clock_26 : decode cX10_clock 26 = .ok (.invokevirtual 108, 3) := by decide +kernel
theorem dX10_clock_29 : decode cX10_clock 29 = .ok (.iload 4, 2) := by decide +kernel
theorem dX10_clock_31 : decode cX10_clock 31 = .ok (.ireturn, 1) := by decide +kernel
theorem dX10_cloud_0 : decode cX10_cloud 0 = .ok (.aload_n 0, 1) := by decide +kernel
theorem dX10_cloud_1 : decode cX10_cloud 1 = .ok (.iload_n 1, 1) := by decide +kernel
theorem dX10_cloud_2 : decode cX10_cloud 2 = .ok (.invokevirtual 100, 3) := by decide +kernel
theorem dX10_cloud_5 : decode cX10_cloud 5 = .ok (.astore_n 3, 1) := by decide +kernel
theorem dX10_cloud_6 : decode cX10_cloud 6 = .ok (.iload_n 2, 1) := by decide +kernel
theorem dX10_cloud_7 : decode cX10_cloud 7 = .ok (.invokestatic 111, 3) := by decide +kernel
theorem dX10_cloud_10 : decode cX10_cloud 10 = .ok (.aload_n 0, 1) := by decide +kernel
theorem dX10_cloud_11 : decode cX10_cloud 11 = .ok (.aload_n 3, 1) := by decide +kernel
theorem dX10_cloud_12 : decode cX10_cloud 12 = .ok (.iload_n 2, 1) := by decide +kernel
theorem dX10_cloud_13 : decode cX10_cloud 13 = .ok (.invokevirtual 115, 3) := by decide +kernel
theorem dX10_cloud_16 : decode cX10_cloud 16 = .ok (.ifCond .eq 13, 3) := by decide +kernel
theorem dX10_cloud_19 : decode cX10_cloud 19 = .ok (.new 89, 3) := by decide +kernel
theorem dX10_cloud_22 : decode cX10_cloud 22 = .ok (.dup, 1) := by decide +kernel
theorem dX10_cloud_23 : decode cX10_cloud 23 = .ok (.ldc 119, 2) := by decide +kernel
theorem dX10_cloud_25 : decode cX10_cloud 25 = .ok (.invokespecial 93, 3) := by decide +kernel
theorem dX10_cloud_28 : decode cX10_cloud 28 = .ok (.athrow, 1) := by decide +kernel
theorem dX10_cloud_29 : decode cX10_cloud 29 = .ok (.aload_n 0, 1) := by decide +kernel
theorem dX10_cloud_30 : decode cX10_cloud 30 = .ok (.aload_n 3, 1) := by decide +kernel
theorem dX10_cloud_31 : decode cX10_cloud 31 = .ok (.iload_n 2, 1) := by decide +kernel
theorem dX10_cloud_32 : decode cX10_cloud 32 = .ok (.invokevirtual 121, 3) := by decide +kernel
theorem dX10_cloud_35 : decode cX10_cloud 35 = .ok (.ifCond .eq 13, 3) := by decide +kernel
theorem dX10_cloud_38 : decode cX10_cloud 38 = .ok (.new 89, 3) := by decide +kernel
theorem dX10_cloud_41 : decode cX10_cloud 41 = .ok (.dup, 1) := by decide +kernel
theorem dX10_cloud_42 : decode cX10_cloud 42 = .ok (.ldc 124, 2) := by decide +kernel
theorem dX10_cloud_44 : decode cX10_cloud 44 = .ok (.invokespecial 93, 3) := by decide +kernel
theorem dX10_cloud_47 : decode cX10_cloud 47 = .ok (.athrow, 1) := by decide +kernel
theorem dX10_cloud_48 : decode cX10_cloud 48 = .ok (.aload_n 0, 1) := by decide +kernel
theorem dX10_cloud_49 : decode cX10_cloud 49 = .ok (.getfield 16, 3) := by decide +kernel
theorem dX10_cloud_52 : decode cX10_cloud 52 = .ok (.invokeinterface 85 1, 5) := by decide +kernel
theorem dX10_cloud_57 : decode cX10_cloud 57 = .ok (.bipush 50, 2) := by decide +kernel
theorem dX10_cloud_59 : decode cX10_cloud 59 = .ok (.if_icmp .lt 13, 3) := by decide +kernel
theorem dX10_cloud_62 : decode cX10_cloud 62 = .ok (.new 89, 3) := by decide +kernel
theorem dX10_cloud_65 : decode cX10_cloud 65 = .ok (.dup, 1) := by decide +kernel
theorem dX10_cloud_66 : decode cX10_cloud 66 = .ok (.ldc 126, 2) := by decide +kernel
theorem dX10_cloud_68 : decode cX10_cloud 68 = .ok (.invokespecial 93, 3) := by decide +kernel
theorem dX10_cloud_71 : decode cX10_cloud 71 = .ok (.athrow, 1) := by decide +kernel
theorem dX10_cloud_72 : decode cX10_cloud 72 = .ok (.aload_n 0, 1) := by decide +kernel
theorem dX10_cloud_73 : decode cX10_cloud 73 = .ok (.getfield 16, 3) := by decide +kernel
theorem dX10_cloud_76 : decode cX10_cloud 76 = .ok (.new 128, 3) := by decide +kernel
theorem dX10_cloud_79 : decode cX10_cloud 79 = .ok (.dup, 1) := by decide +kernel
theorem dX10_cloud_80 : decode cX10_cloud 80 = .ok (.aload_n 3, 1) := by decide +kernel
theorem dX10_cloud_81 : decode cX10_cloud 81 = .ok (.iload_n 2, 1) := by decide +kernel
theorem dX10_cloud_82 : decode cX10_cloud 82 = .ok (.invokespecial 130, 3) := by decide +kernel
theorem dX10_cloud_85 : decode cX10_cloud 85 = .ok (.invokeinterface 71 2, 5) := by decide +kernel
theorem dX10_cloud_90 : decode cX10_cloud 90 = .ok (.pop, 1) := by decide +kernel
theorem dX10_cloud_91 : decode cX10_cloud 91 = .ok (.aload_n 0, 1) := by decide +kernel
theorem dX10_cloud_92 : decode cX10_cloud 92 = .ok (.aload_n 3, 1) := by decide +kernel
theorem dX10_cloud_93 : decode cX10_cloud 93 = .ok (.iconst 0, 1) := by decide +kernel
theorem dX10_cloud_94 : decode cX10_cloud 94 = .ok (.sipush 3649, 3) := by decide +kernel
theorem dX10_cloud_97 : decode cX10_cloud 97 = .ok (.invokevirtual 133, 3) := by decide +kernel
theorem dX10_cloud_100 : decode cX10_cloud 100 = .ok (.ireturn, 1) := by decide +kernel
theorem dX10_begin_0 : decode cX10_begin 0 = .ok (.aload_n 0, 1) := by decide +kernel
theorem dX10_begin_1 : decode cX10_begin 1 = .ok (.iload_n 1, 1) := by decide +kernel
theorem dX10_begin_2 : decode cX10_begin 2 = .ok (.invokevirtual 100, 3) := by decide +kernel
theorem dX10_begin_5 : decode cX10_begin 5 = .ok (.astore 6, 2) := by decide +kernel
theorem dX10_begin_7 : decode cX10_begin 7 = .ok (.iload_n 2, 1) := by decide +kernel
theorem dX10_begin_8 : decode cX10_begin 8 = .ok (.invokestatic 111, 3) := by decide +kernel
theorem dX10_begin_11 : decode cX10_begin 11 = .ok (.iload_n 3, 1) := by decide +kernel
theorem dX10_begin_12 : decode cX10_begin 12 = .ok (.iconst 0, 1) := by decide +kernel
theorem dX10_begin_13 : decode cX10_begin 13 = .ok (.ldc 137, 2) := by decide +kernel
theorem dX10_begin_15 : decode cX10_begin 15 = .ok (.invokestatic 81, 3) := by decide +kernel
theorem dX10_begin_18 : decode cX10_begin 18 = .ok (.iload 4, 2) := by decide +kernel
theorem dX10_begin_20 : decode cX10_begin 20 = .ok (.iconst 1, 1) := by decide +kernel
theorem dX10_begin_21 : decode cX10_begin 21 = .ok (.bipush 60, 2) := by decide +kernel
theorem dX10_begin_23 : decode cX10_begin 23 = .ok (.invokestatic 81, 3) := by decide +kernel
theorem dX10_begin_26 : decode cX10_begin 26 = .ok (.iload 5, 2) := by decide +kernel
theorem dX10_begin_28 : decode cX10_begin 28 = .ok (.iconst 1, 1) := by decide +kernel
theorem dX10_begin_29 : decode cX10_begin 29 = .ok (.sipush 1000, 3) := by decide +kernel
theorem dX10_begin_32 : decode cX10_begin 32 = .ok (.invokestatic 81, 3) := by decide +kernel
theorem dX10_begin_35 : decode cX10_begin 35 = .ok (.aload_n 0, 1) := by decide +kernel
theorem dX10_begin_36 : decode cX10_begin 36 = .ok (.aload 6, 2) := by decide +kernel
theorem dX10_begin_38 : decode cX10_begin 38 = .ok (.iload_n 2, 1) := by decide +kernel
theorem dX10_begin_39 : decode cX10_begin 39 = .ok (.invokevirtual 115, 3) := by decide +kernel
theorem dX10_begin_42 : decode cX10_begin 42 = .ok (.ifCond .eq 13, 3) := by decide +kernel
theorem dX10_begin_45 : decode cX10_begin 45 = .ok (.new 89, 3) := by decide +kernel
theorem dX10_begin_48 : decode cX10_begin 48 = .ok (.dup, 1) := by decide +kernel
theorem dX10_begin_49 : decode cX10_begin 49 = .ok (.ldc 138, 2) := by decide +kernel
theorem dX10_begin_51 : decode cX10_begin 51 = .ok (.invokespecial 93, 3) := by decide +kernel
theorem dX10_begin_54 : decode cX10_begin 54 = .ok (.athrow, 1) := by decide +kernel
theorem dX10_begin_55 : decode cX10_begin 55 = .ok (.aload_n 0, 1) := by decide +kernel
theorem dX10_begin_56 : decode cX10_begin 56 = .ok (.new 140, 3) := by decide +kernel
theorem dX10_begin_59 : decode cX10_begin 59 = .ok (.dup, 1) := by decide +kernel
theorem dX10_begin_60 : decode cX10_begin 60 = .ok (.aload 6, 2) := by decide +kernel
theorem dX10_begin_62 : decode cX10_begin 62 = .ok (.iload_n 2, 1) := by decide +kernel
theorem dX10_begin_63 : decode cX10_begin 63 = .ok (.iload_n 3, 1) := by decide +kernel
theorem dX10_begin_64 : decode cX10_begin 64 = .ok (.iload 4, 2) := by decide +kernel
theorem dX10_begin_66 : decode cX10_begin 66 = .ok (.iload 5, 2) := by decide +kernel
theorem dX10_begin_68 : decode cX10_begin 68 = .ok (.invokespecial 142, 3) := by decide +kernel
theorem dX10_begin_71 : decode cX10_begin 71 = .ok (.putfield 22, 3) := by decide +kernel
theorem dX10_begin_74 : decode cX10_begin 74 = .ok (.return_, 1) := by decide +kernel
theorem dX10_end_0 : decode cX10_end 0 = .ok (.iload_n 1, 1) := by decide +kernel
theorem dX10_end_1 : decode cX10_end 1 = .ok (.iload_n 2, 1) := by decide +kernel
theorem dX10_end_2 : decode cX10_end 2 = .ok (.invokestatic 145, 3) := by decide +kernel
theorem dX10_end_5 : decode cX10_end 5 = .ok (.iload_n 3, 1) := by decide +kernel
theorem dX10_end_6 : decode cX10_end 6 = .ok (.iload 4, 2) := by decide +kernel
theorem dX10_end_8 : decode cX10_end 8 = .ok (.invokestatic 145, 3) := by decide +kernel
theorem dX10_end_11 : decode cX10_end 11 = .ok (.aload_n 0, 1) := by decide +kernel
theorem dX10_end_12 : decode cX10_end 12 = .ok (.getfield 22, 3) := by decide +kernel
theorem dX10_end_15 : decode cX10_end 15 = .ok (.astore 5, 2) := by decide +kernel
theorem dX10_end_17 : decode cX10_end 17 = .ok (.aload 5, 2) := by decide +kernel
theorem dX10_end_19 : decode cX10_end 19 = .ok (.ifnonnull 13, 3) := by decide +kernel
theorem dX10_end_22 : decode cX10_end 22 = .ok (.new 89, 3) := by decide +kernel
theorem dX10_end_25 : decode cX10_end 25 = .ok (.dup, 1) := by decide +kernel
theorem dX10_end_26 : decode cX10_end 26 = .ok (.ldc 148, 2) := by decide +kernel
theorem dX10_end_28 : decode cX10_end 28 = .ok (.invokespecial 93, 3) := by decide +kernel
theorem dX10_end_31 : decode cX10_end 31 = .ok (.athrow, 1) := by decide +kernel
theorem dX10_end_32 : decode cX10_end 32 = .ok (.aload_n 0, 1) := by decide +kernel
theorem dX10_end_33 : decode cX10_end 33 = .ok (.aload 5, 2) := by decide +kernel
theorem dX10_end_35 : decode cX10_end 35 = .ok (.getfield 150, 3) := by decide +kernel
theorem dX10_end_38 : decode cX10_end 38 = .ok (.aload 5, 2) := by decide +kernel
theorem dX10_end_40 : decode cX10_end 40 = .ok (.getfield 154, 3) := by decide +kernel
theorem dX10_end_43 : decode cX10_end 43 = .ok (.invokevirtual 115, 3) := by decide +kernel
theorem dX10_end_46 : decode cX10_end 46 = .ok (.ifCond .eq 13, 3) := by decide +kernel
theorem dX10_end_49 : decode cX10_end 49 = .ok (.new 89, 3) := by decide +kernel
theorem dX10_end_52 : decode cX10_end 52 = .ok (.dup, 1) := by decide +kernel
theorem dX10_end_53 : decode cX10_end 53 = .ok (.ldc 157, 2) := by decide +kernel
theorem dX10_end_55 : decode cX10_end 55 = .ok (.invokespecial 93, 3) := by decide +kernel
theorem dX10_end_58 : decode cX10_end 58 = .ok (.athrow, 1) := by decide +kernel
theorem dX10_end_59 : decode cX10_end 59 = .ok (.aload_n 0, 1) := by decide +kernel
theorem dX10_end_60 : decode cX10_end 60 = .ok (.getfield 19, 3) := by decide +kernel
theorem dX10_end_63 : decode cX10_end 63 = .ok (.invokeinterface 85 1, 5) := by decide +kernel
theorem dX10_end_68 : decode cX10_end 68 = .ok (.bipush 60, 2) := by decide +kernel
theorem dX10_end_70 : decode cX10_end 70 = .ok (.if_icmp .lt 13, 3) := by decide +kernel
theorem dX10_end_73 : decode cX10_end 73 = .ok (.new 89, 3) := by decide +kernel
theorem dX10_end_76 : decode cX10_end 76 = .ok (.dup, 1) := by decide +kernel
theorem dX10_end_77 : decode cX10_end 77 = .ok (.ldc 159, 2) := by decide +kernel
theorem dX10_end_79 : decode cX10_end 79 = .ok (.invokespecial 93, 3) := by decide +kernel
theorem dX10_end_82 : decode cX10_end 82 = .ok (.athrow, 1) := by decide +kernel
theorem dX10_end_83 : decode cX10_end 83 = .ok (.aload 5, 2) := by decide +kernel
theorem dX10_end_85 : decode cX10_end 85 = .ok (.iload_n 1, 1) := by decide +kernel
theorem dX10_end_86 : decode cX10_end 86 = .ok (.putfield 161, 3) := by decide +kernel
theorem dX10_end_89 : decode cX10_end 89 = .ok (.aload 5, 2) := by decide +kernel
theorem dX10_end_91 : decode cX10_end 91 = .ok (.iload_n 2, 1) := by decide +kernel
theorem dX10_end_92 : decode cX10_end 92 = .ok (.putfield 164, 3) := by decide +kernel
theorem dX10_end_95 : decode cX10_end 95 = .ok (.aload 5, 2) := by decide +kernel
theorem dX10_end_97 : decode cX10_end 97 = .ok (.iload_n 3, 1) := by decide +kernel
theorem dX10_end_98 : decode cX10_end 98 = .ok (.putfield 167, 3) := by decide +kernel
theorem dX10_end_101 : decode cX10_end 101 = .ok (.aload 5, 2) := by decide +kernel
theorem dX10_end_103 : decode cX10_end 103 = .ok (.iload 4, 2) := by decide +kernel
theorem dX10_end_105 : decode cX10_end 105 = .ok (.putfield 170, 3) := by decide +kernel
theorem dX10_end_108 : decode cX10_end 108 = .ok (.aload_n 0, 1) := by decide +kernel
theorem dX10_end_109 : decode cX10_end 109 = .ok (.getfield 19, 3) := by decide +kernel
theorem dX10_end_112 : decode cX10_end 112 = .ok (.aload 5, 2) := by decide +kernel
theorem dX10_end_114 : decode cX10_end 114 = .ok (.invokeinterface 71 2, 5) := by decide +kernel
theorem dX10_end_119 : decode cX10_end 119 = .ok (.pop, 1) := by decide +kernel
theorem dX10_end_120 : decode cX10_end 120 = .ok (.aload_n 0, 1) := by decide +kernel
theorem dX10_end_121 : decode cX10_end 121 = .ok (.aconst_null, 1) := by decide +kernel
theorem dX10_end_122 : decode cX10_end 122 = .ok (.putfield 22, 3) := by decide +kernel
theorem dX10_end_125 : decode cX10_end 125 = .ok (.aload_n 0, 1) := by decide +kernel
theorem dX10_end_126 : decode cX10_end 126 = .ok (.invokevirtual 108, 3) := by decide +kernel
theorem dX10_end_129 : decode cX10_end 129 = .ok (.aload_n 0, 1) := by decide +kernel
theorem dX10_end_130 : decode cX10_end 130 = .ok (.getfield 19, 3) := by decide +kernel
theorem dX10_end_133 : decode cX10_end 133 = .ok (.invokeinterface 85 1, 5) := by decide +kernel
theorem dX10_end_138 : decode cX10_end 138 = .ok (.iconst 1, 1) := by decide +kernel
theorem dX10_end_139 : decode cX10_end 139 = .ok (.isub, 1) := by decide +kernel
theorem dX10_end_140 : decode cX10_end 140 = .ok (.ireturn, 1) := by decide +kernel
theorem dX10_fireball_0 : decode cX10_fireball 0 = .ok (.aload_n 0, 1) := by decide +kernel
theorem dX10_fireball_1 : decode cX10_fireball 1 = .ok (.iload_n 1, 1) := by decide +kernel
theorem dX10_fireball_2 : decode cX10_fireball 2 = .ok (.invokevirtual 173, 3) := by decide +kernel
theorem dX10_fireball_5 : decode cX10_fireball 5 = .ok (.getfield 177, 3) := by decide +kernel
theorem dX10_fireball_8 : decode cX10_fireball 8 = .ok (.ireturn, 1) := by decide +kernel
theorem dX10_fireballAnew_0 : decode cX10_fireballAnew 0 = .ok (.aload_n 0, 1) := by decide +kernel
theorem dX10_fireballAnew_1 : decode cX10_fireballAnew 1 = .ok (.iload_n 1, 1) := by decide +kernel
theorem dX10_fireballAnew_2 : decode cX10_fireballAnew 2 = .ok (.invokevirtual 173, 3) := by decide +kernel
theorem dX10_fireballAnew_5 : decode cX10_fireballAnew 5 = .ok (.astore_n 2, 1) := by decide +kernel
theorem dX10_fireballAnew_6 : decode cX10_fireballAnew 6 = .ok (.aload_n 2, 1) := by decide +kernel
theorem dX10_fireballAnew_7 : decode cX10_fireballAnew 7 = .ok (.getfield 180, 3) := by decide +kernel
theorem dX10_fireballAnew_10 : decode cX10_fireballAnew 10 = .ok (.lconst 0, 1) := by decide +kernel
theorem dX10_fireballAnew_11 : decode cX10_fireballAnew 11 = .ok (.lcmp, 1) := by decide +kernel
theorem dX10_fireballAnew_12 : decode cX10_fireballAnew 12 = .ok (.ifCond .ne 5, 3) := by decide +kernel
theorem dX10_fireballAnew_15 : decode cX10_fireballAnew 15 = .ok (.iconst (-1), 1) := by decide +kernel
theorem dX10_fireballAnew_16 : decode cX10_fireballAnew 16 = .ok (.ireturn, 1) := by decide +kernel
theorem dX10_fireballAnew_17 : decode cX10_fireballAnew 17 = .ok (.iconst 0, 1) := by decide +kernel
theorem dX10_fireballAnew_18 : decode cX10_fireballAnew 18 = .ok (.istore_n 3, 1) := by decide +kernel
theorem dX10_fireballAnew_19 : decode cX10_fireballAnew 19 = .ok (.iload_n 3, 1) := by decide +kernel
theorem dX10_fireballAnew_20 : decode cX10_fireballAnew 20 = .ok (.aload_n 0, 1) := by decide +kernel
theorem dX10_fireballAnew_21 : decode cX10_fireballAnew 21 = .ok (.getfield 19, 3) := by decide +kernel
theorem dX10_fireballAnew_24 : decode cX10_fireballAnew 24 = .ok (.invokeinterface 85 1, 5) := by decide +kernel
theorem dX10_fireballAnew_29 : decode cX10_fireballAnew 29 = .ok (.if_icmp .ge 26, 3) := by decide +kernel
theorem dX10_fireballAnew_32 : decode cX10_fireballAnew 32 = .ok (.aload_n 0, 1) := by decide +kernel
theorem dX10_fireballAnew_33 : decode cX10_fireballAnew 33 = .ok (.getfield 19, 3) := by decide +kernel
theorem dX10_fireballAnew_36 : decode cX10_fireballAnew 36 = .ok (.iload_n 3, 1) := by decide +kernel
theorem dX10_fireballAnew_37 : decode cX10_fireballAnew 37 = .ok (.invokeinterface 184 2, 5) := by decide +kernel
theorem dX10_fireballAnew_42 : decode cX10_fireballAnew 42 = .ok (.checkcast 140, 3) := by decide +kernel
theorem dX10_fireballAnew_45 : decode cX10_fireballAnew 45 = .ok (.iload_n 3, 1) := by decide +kernel
theorem dX10_fireballAnew_46 : decode cX10_fireballAnew 46 = .ok (.putfield 188, 3) := by decide +kernel
theorem dX10_fireballAnew_49 : decode cX10_fireballAnew 49 = .ok (.iinc 3 1, 3) := by decide +kernel
theorem dX10_fireballAnew_52 : decode cX10_fireballAnew 52 = .ok (.goto (-33), 3) := by decide +kernel
theorem dX10_fireballAnew_55 : decode cX10_fireballAnew 55 = .ok (.iconst 1, 1) := by decide +kernel
theorem dX10_fireballAnew_56 : decode cX10_fireballAnew 56 = .ok (.istore_n 3, 1) := by decide +kernel
theorem dX10_fireballAnew_57 : decode cX10_fireballAnew 57 = .ok (.iconst 0, 1) := by decide +kernel
theorem dX10_fireballAnew_58 : decode cX10_fireballAnew 58 = .ok (.istore 4, 2) := by decide +kernel
theorem dX10_fireballAnew_60 : decode cX10_fireballAnew 60 = .ok (.iload_n 3, 1) := by decide +kernel
theorem dX10_fireballAnew_61 : decode cX10_fireballAnew 61 = .ok (.ifCond .eq 28, 3) := by decide +kernel
theorem dX10_fireballAnew_64 : decode cX10_fireballAnew 64 = .ok (.iload 4, 2) := by decide +kernel
theorem dX10_fireballAnew_66 : decode cX10_fireballAnew 66 = .ok (.aload_n 0, 1) := by decide +kernel
theorem dX10_fireballAnew_67 : decode cX10_fireballAnew 67 = .ok (.getfield 19, 3) := by decide +kernel
theorem dX10_fireballAnew_70 : decode cX10_fireballAnew 70 = .ok (.invokeinterface 85 1, 5) := by decide +kernel
theorem dX10_fireballAnew_75 : decode cX10_fireballAnew 75 = .ok (.if_icmp .ge 14, 3) := by decide +kernel
theorem dX10_fireballAnew_78 : decode cX10_fireballAnew 78 = .ok (.aload_n 0, 1) := by decide +kernel
theorem dX10_fireballAnew_79 : decode cX10_fireballAnew 79 = .ok (.invokevirtual 191, 3) := by decide +kernel
theorem dX10_fireballAnew_82 : decode cX10_fireballAnew 82 = .ok (.istore_n 3, 1) := by decide +kernel
theorem dX10_fireballAnew_83 : decode cX10_fireballAnew 83 = .ok (.iinc 4 1, 3) := by decide +kernel
theorem dX10_fireballAnew_86 : decode cX10_fireballAnew 86 = .ok (.goto (-26), 3) := by decide +kernel
theorem dX10_fireballAnew_89 : decode cX10_fireballAnew 89 = .ok (.aload_n 2, 1) := by decide +kernel
theorem dX10_fireballAnew_90 : decode cX10_fireballAnew 90 = .ok (.getfield 188, 3) := by decide +kernel
theorem dX10_fireballAnew_93 : decode cX10_fireballAnew 93 = .ok (.ireturn, 1) := by decide +kernel
theorem dX10_fireballs_0 : decode cX10_fireballs 0 = .ok (.iload_n 1, 1) := by decide +kernel
theorem dX10_fireballs_1 : decode cX10_fireballs 1 = .ok (.invokestatic 111, 3) := by decide +kernel
theorem dX10_fireballs_4 : decode cX10_fireballs 4 = .ok (.aload_n 0, 1) := by decide +kernel
theorem dX10_fireballs_5 : decode cX10_fireballs 5 = .ok (.iload_n 1, 1) := by decide +kernel
theorem dX10_fireballs_6 : decode cX10_fireballs 6 = .ok (.iload_n 1, 1) := by decide +kernel
theorem dX10_fireballs_7 : decode cX10_fireballs 7 = .ok (.iconst 0, 1) := by decide +kernel
theorem dX10_fireballs_8 : decode cX10_fireballs 8 = .ok (.invokevirtual 195, 3) := by decide +kernel
theorem dX10_fireballs_11 : decode cX10_fireballs 11 = .ok (.ireturn, 1) := by decide +kernel
theorem dX10_told_0 : decode cX10_told 0 = .ok (.aload_n 0, 1) := by decide +kernel
theorem dX10_told_1 : decode cX10_told 1 = .ok (.iload_n 1, 1) := by decide +kernel
theorem dX10_told_2 : decode cX10_told 2 = .ok (.invokevirtual 199, 3) := by decide +kernel
theorem dX10_told_5 : decode cX10_told 5 = .ok (.astore_n 3, 1) := by decide +kernel
theorem dX10_told_6 : decode cX10_told 6 = .ok (.iload_n 2, 1) := by decide +kernel
theorem dX10_told_7 : decode cX10_told 7 = .ok (.iconst 0, 1) := by decide +kernel
theorem dX10_told_8 : decode cX10_told 8 = .ok (.bipush 7, 2) := by decide +kernel
theorem dX10_told_10 : decode cX10_told 10 = .ok (.invokestatic 81, 3) := by decide +kernel
theorem dX10_told_13 : decode cX10_told 13 = .ok (.aload_n 3, 1) := by decide +kernel
theorem dX10_told_14 : decode cX10_told 14 = .ok (.iload_n 2, 1) := by decide +kernel
theorem dX10_told_15 : decode cX10_told 15 = .ok (.invokevirtual 203, 3) := by decide +kernel
theorem dX10_told_18 : decode cX10_told 18 = .ok (.lreturn, 1) := by decide +kernel
theorem dX10_stream_0 : decode cX10_stream 0 = .ok (.aload_n 0, 1) := by decide +kernel
theorem dX10_stream_1 : decode cX10_stream 1 = .ok (.iload_n 1, 1) := by decide +kernel
theorem dX10_stream_2 : decode cX10_stream 2 = .ok (.invokevirtual 199, 3) := by decide +kernel
theorem dX10_stream_5 : decode cX10_stream 5 = .ok (.astore_n 3, 1) := by decide +kernel
theorem dX10_stream_6 : decode cX10_stream 6 = .ok (.aload_n 0, 1) := by decide +kernel
theorem dX10_stream_7 : decode cX10_stream 7 = .ok (.iload_n 2, 1) := by decide +kernel
theorem dX10_stream_8 : decode cX10_stream 8 = .ok (.invokevirtual 199, 3) := by decide +kernel
theorem dX10_stream_11 : decode cX10_stream 11 = .ok (.astore 4, 2) := by decide +kernel
theorem dX10_stream_13 : decode cX10_stream 13 = .ok (.aload_n 3, 1) := by decide +kernel
theorem dX10_stream_14 : decode cX10_stream 14 = .ok (.aload 4, 2) := by decide +kernel
theorem dX10_stream_16 : decode cX10_stream 16 = .ok (.invokevirtual 207, 3) := by decide +kernel
theorem dX10_stream_19 : decode cX10_stream 19 = .ok (.ifCond .eq 16, 3) := by decide +kernel
theorem dX10_stream_22 : decode cX10_stream 22 = .ok (.aload_n 3, 1) := by decide +kernel
theorem dX10_stream_23 : decode cX10_stream 23 = .ok (.aload 4, 2) := by decide +kernel
theorem dX10_stream_25 : decode cX10_stream 25 = .ok (.invokevirtual 211, 3) := by decide +kernel
theorem dX10_stream_28 : decode cX10_stream 28 = .ok (.ifCond .eq 7, 3) := by decide +kernel
theorem dX10_stream_31 : decode cX10_stream 31 = .ok (.iconst 1, 1) := by decide +kernel
theorem dX10_stream_32 : decode cX10_stream 32 = .ok (.goto 4, 3) := by decide +kernel
theorem dX10_stream_35 : decode cX10_stream 35 = .ok (.iconst 0, 1) := by decide +kernel
theorem dX10_stream_36 : decode cX10_stream 36 = .ok (.ireturn, 1) := by decide +kernel
theorem dX10_flux_0 : decode cX10_flux 0 = .ok (.iload_n 1, 1) := by decide +kernel
theorem dX10_flux_1 : decode cX10_flux 1 = .ok (.invokestatic 111, 3) := by decide +kernel
theorem dX10_flux_4 : decode cX10_flux 4 = .ok (.iload_n 2, 1) := by decide +kernel
theorem dX10_flux_5 : decode cX10_flux 5 = .ok (.iload_n 1, 1) := by decide +kernel
theorem dX10_flux_6 : decode cX10_flux 6 = .ok (.sipush 3649, 3) := by decide +kernel
theorem dX10_flux_9 : decode cX10_flux 9 = .ok (.invokestatic 81, 3) := by decide +kernel
theorem dX10_flux_12 : decode cX10_flux 12 = .ok (.iload_n 3, 1) := by decide +kernel
theorem dX10_flux_13 : decode cX10_flux 13 = .ok (.iconst 0, 1) := by decide +kernel
theorem dX10_flux_14 : decode cX10_flux 14 = .ok (.ldc 214, 2) := by decide +kernel
theorem dX10_flux_16 : decode cX10_flux 16 = .ok (.invokestatic 81, 3) := by decide +kernel
theorem dX10_flux_19 : decode cX10_flux 19 = .ok (.iconst 0, 1) := by decide +kernel
theorem dX10_flux_20 : decode cX10_flux 20 = .ok (.istore 4, 2) := by decide +kernel
theorem dX10_flux_22 : decode cX10_flux 22 = .ok (.iconst 0, 1) := by decide +kernel
theorem dX10_flux_23 : decode cX10_flux 23 = .ok (.istore 5, 2) := by decide +kernel
theorem dX10_flux_25 : decode cX10_flux 25 = .ok (.iload 5, 2) := by decide +kernel
theorem dX10_flux_27 : decode cX10_flux 27 = .ok (.aload_n 0, 1) := by decide +kernel
theorem dX10_flux_28 : decode cX10_flux 28 = .ok (.getfield 10, 3) := by decide +kernel
theorem dX10_flux_31 : decode cX10_flux 31 = .ok (.invokeinterface 85 1, 5) := by decide +kernel
theorem dX10_flux_36 : decode cX10_flux 36 = .ok (.if_icmp .ge 40, 3) := by decide +kernel
theorem dX10_flux_39 : decode cX10_flux 39 = .ok (.iload 4, 2) := by decide +kernel
theorem dX10_flux_41 : decode cX10_flux 41 = .ok (.iload_n 2, 1) := by decide +kernel
theorem dX10_flux_42 : decode cX10_flux 42 = .ok (.iload_n 1, 1) := by decide +kernel
theorem dX10_flux_43 : decode cX10_flux 43 = .ok (.isub, 1) := by decide +kernel
theorem dX10_flux_44 : decode cX10_flux 44 = .ok (.iconst 1, 1) := by decide +kernel
theorem dX10_flux_45 : decode cX10_flux 45 = .ok (.iadd, 1) := by decide +kernel
theorem dX10_flux_46 : decode cX10_flux 46 = .ok (.aload_n 0, 1) := by decide +kernel
theorem dX10_flux_47 : decode cX10_flux 47 = .ok (.aload_n 0, 1) := by decide +kernel
theorem dX10_flux_48 : decode cX10_flux 48 = .ok (.getfield 10, 3) := by decide +kernel
theorem dX10_flux_51 : decode cX10_flux 51 = .ok (.iload 5, 2) := by decide +kernel
theorem dX10_flux_53 : decode cX10_flux 53 = .ok (.invokeinterface 184 2, 5) := by decide +kernel
theorem dX10_flux_58 : decode cX10_flux 58 = .ok (.checkcast 96, 3) := by decide +kernel
theorem dX10_flux_61 : decode cX10_flux 61 = .ok (.iload_n 1, 1) := by decide +kernel
theorem dX10_flux_62 : decode cX10_flux 62 = .ok (.iload_n 2, 1) := by decide +kernel
theorem dX10_flux_63 : decode cX10_flux 63 = .ok (.invokevirtual 133, 3) := by decide +kernel
theorem dX10_flux_66 : decode cX10_flux 66 = .ok (.isub, 1) := by decide +kernel
theorem dX10_flux_67 : decode cX10_flux 67 = .ok (.iadd, 1) := by decide +kernel
theorem dX10_flux_68 : decode cX10_flux 68 = .ok (.istore 4, 2) := by decide +kernel
theorem dX10_flux_70 : decode cX10_flux 70 = .ok (.iinc 5 1, 3) := by decide +kernel
theorem dX10_flux_73 : decode cX10_flux 73 = .ok (.goto (-48), 3) := by decide +kernel
theorem dX10_flux_76 : decode cX10_flux 76 = .ok (.iload 4, 2) := by decide +kernel
theorem dX10_flux_78 : decode cX10_flux 78 = .ok (.ifCond .gt 5, 3) := by decide +kernel
theorem dX10_flux_81 : decode cX10_flux 81 = .ok (.iconst 0, 1) := by decide +kernel
theorem dX10_flux_82 : decode cX10_flux 82 = .ok (.ireturn, 1) := by decide +kernel
theorem dX10_flux_83 : decode cX10_flux 83 = .ok (.aload_n 0, 1) := by decide +kernel
theorem dX10_flux_84 : decode cX10_flux 84 = .ok (.iload_n 1, 1) := by decide +kernel
theorem dX10_flux_85 : decode cX10_flux 85 = .ok (.iload_n 2, 1) := by decide +kernel
theorem dX10_flux_86 : decode cX10_flux 86 = .ok (.iload_n 3, 1) := by decide +kernel
theorem dX10_flux_87 : decode cX10_flux 87 = .ok (.invokevirtual 195, 3) := by decide +kernel
theorem dX10_flux_90 : decode cX10_flux 90 = .ok (.sipush 1000, 3) := by decide +kernel
theorem dX10_flux_93 : decode cX10_flux 93 = .ok (.imul, 1) := by decide +kernel
theorem dX10_flux_94 : decode cX10_flux 94 = .ok (.iload 4, 2) := by decide +kernel
theorem dX10_flux_96 : decode cX10_flux 96 = .ok (.idiv, 1) := by decide +kernel
theorem dX10_flux_97 : decode cX10_flux 97 = .ok (.ireturn, 1) := by decide +kernel
theorem dX10_wind_0 : decode cX10_wind 0 = .ok (.iload_n 1, 1) := by decide +kernel
theorem dX10_wind_1 : decode cX10_wind 1 = .ok (.invokestatic 111, 3) := by decide +kernel
theorem dX10_wind_4 : decode cX10_wind 4 = .ok (.iload_n 2, 1) := by decide +kernel
theorem dX10_wind_5 : decode cX10_wind 5 = .ok (.bipush (-20), 2) := by decide +kernel
theorem dX10_wind_7 : decode cX10_wind 7 = .ok (.bipush 20, 2) := by decide +kernel
theorem dX10_wind_9 : decode cX10_wind 9 = .ok (.invokestatic 81, 3) := by decide +kernel
theorem dX10_wind_12 : decode cX10_wind 12 = .ok (.iload_n 3, 1) := by decide +kernel
theorem dX10_wind_13 : decode cX10_wind 13 = .ok (.bipush (-20), 2) := by decide +kernel
theorem dX10_wind_15 : decode cX10_wind 15 = .ok (.bipush 20, 2) := by decide +kernel
theorem dX10_wind_17 : decode cX10_wind 17 = .ok (.invokestatic 81, 3) := by decide +kernel
theorem dX10_wind_20 : decode cX10_wind 20 = .ok (.aload_n 0, 1) := by decide +kernel
theorem dX10_wind_21 : decode cX10_wind 21 = .ok (.iload_n 1, 1) := by decide +kernel
theorem dX10_wind_22 : decode cX10_wind 22 = .ok (.invokevirtual 215, 3) := by decide +kernel
theorem dX10_wind_25 : decode cX10_wind 25 = .ok (.astore 4, 2) := by decide +kernel
theorem dX10_wind_27 : decode cX10_wind 27 = .ok (.aload 4, 2) := by decide +kernel
theorem dX10_wind_29 : decode cX10_wind 29 = .ok (.ifnonnull 49, 3) := by decide +kernel
theorem dX10_wind_32 : decode cX10_wind 32 = .ok (.aload_n 0, 1) := by decide +kernel
theorem dX10_wind_33 : decode cX10_wind 33 = .ok (.getfield 39, 3) := by decide +kernel
theorem dX10_wind_36 : decode cX10_wind 36 = .ok (.invokeinterface 85 1, 5) := by decide +kernel
theorem dX10_wind_41 : decode cX10_wind 41 = .ok (.bipush 50, 2) := by decide +kernel
theorem dX10_wind_43 : decode cX10_wind 43 = .ok (.if_icmp .lt 13, 3) := by decide +kernel
theorem dX10_wind_46 : decode cX10_wind 46 = .ok (.new 89, 3) := by decide +kernel
theorem dX10_wind_49 : decode cX10_wind 49 = .ok (.dup, 1) := by decide +kernel
theorem dX10_wind_50 : decode cX10_wind 50 = .ok (.ldc 219, 2) := by decide +kernel
theorem dX10_wind_52 : decode cX10_wind 52 = .ok (.invokespecial 93, 3) := by decide +kernel
theorem dX10_wind_55 : decode cX10_wind 55 = .ok (.athrow, 1) := by decide +kernel
theorem dX10_wind_56 : decode cX10_wind 56 = .ok (.new 221, 3) := by decide +kernel
theorem dX10_wind_59 : decode cX10_wind 59 = .ok (.dup, 1) := by decide +kernel
theorem dX10_wind_60 : decode cX10_wind 60 = .ok (.iload_n 1, 1) := by decide +kernel
theorem dX10_wind_61 : decode cX10_wind 61 = .ok (.invokespecial 223, 3) := by decide +kernel
theorem dX10_wind_64 : decode cX10_wind 64 = .ok (.astore 4, 2) := by decide +kernel
theorem dX10_wind_66 : decode cX10_wind 66 = .ok (.aload_n 0, 1) := by decide +kernel
theorem dX10_wind_67 : decode cX10_wind 67 = .ok (.getfield 39, 3) := by decide +kernel
theorem dX10_wind_70 : decode cX10_wind 70 = .ok (.aload 4, 2) := by decide +kernel
theorem dX10_wind_72 : decode cX10_wind 72 = .ok (.invokeinterface 71 2, 5) := by decide +kernel
theorem dX10_wind_77 : decode cX10_wind 77 = .ok (.pop, 1) := by decide +kernel
theorem dX10_wind_78 : decode cX10_wind 78 = .ok (.aload 4, 2) := by decide +kernel
theorem dX10_wind_80 : decode cX10_wind 80 = .ok (.iload_n 2, 1) := by decide +kernel
theorem dX10_wind_81 : decode cX10_wind 81 = .ok (.putfield 225, 3) := by decide +kernel
theorem dX10_wind_84 : decode cX10_wind 84 = .ok (.aload 4, 2) := by decide +kernel
theorem dX10_wind_86 : decode cX10_wind 86 = .ok (.iload_n 3, 1) := by decide +kernel
theorem dX10_wind_87 : decode cX10_wind 87 = .ok (.putfield 228, 3) := by decide +kernel
theorem dX10_wind_90 : decode cX10_wind 90 = .ok (.return_, 1) := by decide +kernel
theorem dX10_walk_0 : decode cX10_walk 0 = .ok (.aload_n 0, 1) := by decide +kernel
theorem dX10_walk_1 : decode cX10_walk 1 = .ok (.iload_n 1, 1) := by decide +kernel
theorem dX10_walk_2 : decode cX10_walk 2 = .ok (.invokevirtual 199, 3) := by decide +kernel
theorem dX10_walk_5 : decode cX10_walk 5 = .ok (.astore 5, 2) := by decide +kernel
theorem dX10_walk_7 : decode cX10_walk 7 = .ok (.iload_n 2, 1) := by decide +kernel
theorem dX10_walk_8 : decode cX10_walk 8 = .ok (.iload_n 3, 1) := by decide +kernel
theorem dX10_walk_9 : decode cX10_walk 9 = .ok (.invokestatic 77, 3) := by decide +kernel
theorem dX10_walk_12 : decode cX10_walk 12 = .ok (.iload 4, 2) := by decide +kernel
theorem dX10_walk_14 : decode cX10_walk 14 = .ok (.iconst 1, 1) := by decide +kernel
theorem dX10_walk_15 : decode cX10_walk 15 = .ok (.bipush 100, 2) := by decide +kernel
theorem dX10_walk_17 : decode cX10_walk 17 = .ok (.invokestatic 81, 3) := by decide +kernel
theorem dX10_walk_20 : decode cX10_walk 20 = .ok (.aload_n 0, 1) := by decide +kernel
theorem dX10_walk_21 : decode cX10_walk 21 = .ok (.getfield 42, 3) := by decide +kernel
theorem dX10_walk_24 : decode cX10_walk 24 = .ok (.invokeinterface 85 1, 5) := by decide +kernel
theorem dX10_walk_29 : decode cX10_walk 29 = .ok (.bipush 60, 2) := by decide +kernel
theorem dX10_walk_31 : decode cX10_walk 31 = .ok (.if_icmp .lt 13, 3) := by decide +kernel
theorem dX10_walk_34 : decode cX10_walk 34 = .ok (.new 89, 3) := by decide +kernel
theorem dX10_walk_37 : decode cX10_walk 37 = .ok (.dup, 1) := by decide +kernel
theorem dX10_walk_38 : decode cX10_walk 38 = .ok (.ldc 231, 2) := by decide +kernel
theorem dX10_walk_40 : decode cX10_walk 40 = .ok (.invokespecial 93, 3) := by decide +kernel
theorem dX10_walk_43 : decode cX10_walk 43 = .ok (.athrow, 1) := by decide +kernel
theorem dX10_walk_44 : decode cX10_walk 44 = .ok (.aload_n 0, 1) := by decide +kernel
theorem dX10_walk_45 : decode cX10_walk 45 = .ok (.getfield 42, 3) := by decide +kernel
theorem dX10_walk_48 : decode cX10_walk 48 = .ok (.new 233, 3) := by decide +kernel
theorem dX10_walk_51 : decode cX10_walk 51 = .ok (.dup, 1) := by decide +kernel
theorem dX10_walk_52 : decode cX10_walk 52 = .ok (.iload_n 1, 1) := by decide +kernel
theorem dX10_walk_53 : decode cX10_walk 53 = .ok (.iload_n 2, 1) := by decide +kernel
theorem dX10_walk_54 : decode cX10_walk 54 = .ok (.iload_n 3, 1) := by decide +kernel
theorem dX10_walk_55 : decode cX10_walk 55 = .ok (.iload 4, 2) := by decide +kernel
theorem dX10_walk_57 : decode cX10_walk 57 = .ok (.aload_n 0, 1) := by decide +kernel
theorem dX10_walk_58 : decode cX10_walk 58 = .ok (.iload_n 1, 1) := by decide +kernel
theorem dX10_walk_59 : decode cX10_walk 59 = .ok (.iload_n 2, 1) := by decide +kernel
theorem dX10_walk_60 : decode cX10_walk 60 = .ok (.iload_n 3, 1) := by decide +kernel
theorem dX10_walk_61 : decode cX10_walk 61 = .ok (.invokevirtual 235, 3) := by decide +kernel
theorem dX10_walk_64 : decode cX10_walk 64 = .ok (.ifCond .ne 7, 3) := by decide +kernel
theorem dX10_walk_67 : decode cX10_walk 67 = .ok (.iconst 1, 1) := by decide +kernel
theorem dX10_walk_68 : decode cX10_walk 68 = .ok (.goto 4, 3) := by decide +kernel
theorem dX10_walk_71 : decode cX10_walk 71 = .ok (.iconst 0, 1) := by decide +kernel
theorem dX10_walk_72 : decode cX10_walk 72 = .ok (.invokespecial 239, 3) := by decide +kernel
theorem dX10_walk_75 : decode cX10_walk 75 = .ok (.invokeinterface 71 2, 5) := by decide +kernel
theorem dX10_walk_80 : decode cX10_walk 80 = .ok (.pop, 1) := by decide +kernel
theorem dX10_walk_81 : decode cX10_walk 81 = .ok (.aload_n 0, 1) := by decide +kernel
theorem dX10_walk_82 : decode cX10_walk 82 = .ok (.aload 5, 2) := by decide +kernel
theorem dX10_walk_84 : decode cX10_walk 84 = .ok (.iload_n 1, 1) := by decide +kernel
theorem dX10_walk_85 : decode cX10_walk 85 = .ok (.iload_n 2, 1) := by decide +kernel
theorem dX10_walk_86 : decode cX10_walk 86 = .ok (.iload_n 3, 1) := by decide +kernel
theorem dX10_walk_87 : decode cX10_walk 87 = .ok (.invokevirtual 242, 3) := by decide +kernel
theorem dX10_walk_90 : decode cX10_walk 90 = .ok (.lreturn, 1) := by decide +kernel
theorem dX10_chance_0 : decode cX10_chance 0 = .ok (.aload_n 0, 1) := by decide +kernel
theorem dX10_chance_1 : decode cX10_chance 1 = .ok (.iload_n 1, 1) := by decide +kernel
theorem dX10_chance_2 : decode cX10_chance 2 = .ok (.invokevirtual 199, 3) := by decide +kernel
theorem dX10_chance_5 : decode cX10_chance 5 = .ok (.astore 4, 2) := by decide +kernel
theorem dX10_chance_7 : decode cX10_chance 7 = .ok (.iload_n 2, 1) := by decide +kernel
theorem dX10_chance_8 : decode cX10_chance 8 = .ok (.iload_n 3, 1) := by decide +kernel
theorem dX10_chance_9 : decode cX10_chance 9 = .ok (.invokestatic 77, 3) := by decide +kernel
theorem dX10_chance_12 : decode cX10_chance 12 = .ok (.aload_n 0, 1) := by decide +kernel
theorem dX10_chance_13 : decode cX10_chance 13 = .ok (.aload 4, 2) := by decide +kernel
theorem dX10_chance_15 : decode cX10_chance 15 = .ok (.iload_n 1, 1) := by decide +kernel
theorem dX10_chance_16 : decode cX10_chance 16 = .ok (.iload_n 2, 1) := by decide +kernel
theorem dX10_chance_17 : decode cX10_chance 17 = .ok (.iload_n 3, 1) := by decide +kernel
theorem dX10_chance_18 : decode cX10_chance 18 = .ok (.invokevirtual 242, 3) := by decide +kernel
theorem dX10_chance_21 : decode cX10_chance 21 = .ok (.lreturn, 1) := by decide +kernel
theorem dX10_find_0 : decode cX10_find 0 = .ok (.iload_n 1, 1) := by decide +kernel
theorem dX10_find_1 : decode cX10_find 1 = .ok (.iload_n 2, 1) := by decide +kernel
theorem dX10_find_2 : decode cX10_find 2 = .ok (.invokestatic 77, 3) := by decide +kernel
theorem dX10_find_5 : decode cX10_find 5 = .ok (.iload_n 3, 1) := by decide +kernel
theorem dX10_find_6 : decode cX10_find 6 = .ok (.invokestatic 111, 3) := by decide +kernel
theorem dX10_find_9 : decode cX10_find 9 = .ok (.iload 4, 2) := by decide +kernel
theorem dX10_find_11 : decode cX10_find 11 = .ok (.iconst 1, 1) := by decide +kernel
theorem dX10_find_12 : decode cX10_find 12 = .ok (.ldc 246, 2) := by decide +kernel
theorem dX10_find_14 : decode cX10_find 14 = .ok (.invokestatic 81, 3) := by decide +kernel
theorem dX10_find_17 : decode cX10_find 17 = .ok (.iload 5, 2) := by decide +kernel
theorem dX10_find_19 : decode cX10_find 19 = .ok (.iconst 0, 1) := by decide +kernel
theorem dX10_find_20 : decode cX10_find 20 = .ok (.iconst 5, 1) := by decide +kernel
theorem dX10_find_21 : decode cX10_find 21 = .ok (.invokestatic 81, 3) := by decide +kernel
theorem dX10_find_24 : decode cX10_find 24 = .ok (.aload_n 0, 1) := by decide +kernel
theorem dX10_find_25 : decode cX10_find 25 = .ok (.getfield 52, 3) := by decide +kernel
theorem dX10_find_28 : decode cX10_find 28 = .ok (.invokeinterface 85 1, 5) := by decide +kernel
theorem dX10_find_33 : decode cX10_find 33 = .ok (.bipush 40, 2) := by decide +kernel
theorem dX10_find_35 : decode cX10_find 35 = .ok (.if_icmp .lt 13, 3) := by decide +kernel
theorem dX10_find_38 : decode cX10_find 38 = .ok (.new 89, 3) := by decide +kernel
theorem dX10_find_41 : decode cX10_find 41 = .ok (.dup, 1) := by decide +kernel
theorem dX10_find_42 : decode cX10_find 42 = .ok (.ldc 247, 2) := by decide +kernel
theorem dX10_find_44 : decode cX10_find 44 = .ok (.invokespecial 93, 3) := by decide +kernel
theorem dX10_find_47 : decode cX10_find 47 = .ok (.athrow, 1) := by decide +kernel
theorem dX10_find_48 : decode cX10_find 48 = .ok (.iload_n 1, 1) := by decide +kernel
theorem dX10_find_49 : decode cX10_find 49 = .ok (.iload_n 2, 1) := by decide +kernel
theorem dX10_find_50 : decode cX10_find 50 = .ok (.invokestatic 249, 3) := by decide +kernel
theorem dX10_find_53 : decode cX10_find 53 = .ok (.istore 6, 2) := by decide +kernel
theorem dX10_find_55 : decode cX10_find 55 = .ok (.aload_n 0, 1) := by decide +kernel
theorem dX10_find_56 : decode cX10_find 56 = .ok (.iload 6, 2) := by decide +kernel
theorem dX10_find_58 : decode cX10_find 58 = .ok (.invokevirtual 253, 3) := by decide +kernel
theorem dX10_find_61 : decode cX10_find 61 = .ok (.iconst 1, 1) := by decide +kernel
theorem dX10_find_62 : decode cX10_find 62 = .ok (.if_icmp .ne 11, 3) := by decide +kernel
theorem dX10_find_65 : decode cX10_find 65 = .ok (.bipush 10, 2) := by decide +kernel
theorem dX10_find_67 : decode cX10_find 67 = .ok (.iload 6, 2) := by decide +kernel
theorem dX10_find_69 : decode cX10_find 69 = .ok (.iadd, 1) := by decide +kernel
theorem dX10_find_70 : decode cX10_find 70 = .ok (.goto 5, 3) := by decide +kernel
theorem dX10_find_73 : decode cX10_find 73 = .ok (.iload 5, 2) := by decide +kernel
theorem dX10_find_75 : decode cX10_find 75 = .ok (.istore 7, 2) := by decide +kernel
theorem dX10_find_77 : decode cX10_find 77 = .ok (.new 257, 3) := by decide +kernel
theorem dX10_find_80 : decode cX10_find 80 = .ok (.dup, 1) := by decide +kernel
theorem dX10_find_81 : decode cX10_find 81 = .ok (.aload_n 0, 1) := by decide +kernel
theorem dX10_find_82 : decode cX10_find 82 = .ok (.getfield 52, 3) := by decide +kernel
theorem dX10_find_85 : decode cX10_find 85 = .ok (.invokeinterface 85 1, 5) := by decide +kernel
theorem dX10_find_90 : decode cX10_find 90 = .ok (.iload_n 1, 1) := by decide +kernel
theorem dX10_find_91 : decode cX10_find 91 = .ok (.iload_n 2, 1) := by decide +kernel
theorem dX10_find_92 : decode cX10_find 92 = .ok (.iload_n 3, 1) := by decide +kernel
theorem dX10_find_93 : decode cX10_find 93 = .ok (.iload 4, 2) := by decide +kernel
theorem dX10_find_95 : decode cX10_find 95 = .ok (.iload 7, 2) := by decide +kernel
theorem dX10_find_97 : decode cX10_find 97 = .ok (.aconst_null, 1) := by decide +kernel
theorem dX10_find_98 : decode cX10_find 98 = .ok (.invokespecial 259, 3) := by decide +kernel
theorem dX10_find_101 : decode cX10_find 101 = .ok (.astore 8, 2) := by decide +kernel
theorem dX10_find_103 : decode cX10_find 103 = .ok (.aload_n 0, 1) := by decide +kernel
theorem dX10_find_104 : decode cX10_find 104 = .ok (.getfield 52, 3) := by decide +kernel
theorem dX10_find_107 : decode cX10_find 107 = .ok (.aload 8, 2) := by decide +kernel
theorem dX10_find_109 : decode cX10_find 109 = .ok (.invokeinterface 71 2, 5) := by decide +kernel
theorem dX10_find_114 : decode cX10_find 114 = .ok (.pop, 1) := by decide +kernel
theorem dX10_find_115 : decode cX10_find 115 = .ok (.aload 8, 2) := by decide +kernel
theorem dX10_find_117 : decode cX10_find 117 = .ok (.getfield 262, 3) := by decide +kernel
theorem dX10_find_120 : decode cX10_find 120 = .ok (.ireturn, 1) := by decide +kernel
theorem dX10_fall_0 : decode cX10_fall 0 = .ok (.aload_n 0, 1) := by decide +kernel
theorem dX10_fall_1 : decode cX10_fall 1 = .ok (.aload_n 0, 1) := by decide +kernel
theorem dX10_fall_2 : decode cX10_fall 2 = .ok (.iload_n 1, 1) := by decide +kernel
theorem dX10_fall_3 : decode cX10_fall 3 = .ok (.invokevirtual 264, 3) := by decide +kernel
theorem dX10_fall_6 : decode cX10_fall 6 = .ok (.invokevirtual 268, 3) := by decide +kernel
theorem dX10_fall_9 : decode cX10_fall 9 = .ok (.ireturn, 1) := by decide +kernel
theorem dX10_minerals_0 : decode cX10_minerals 0 = .ok (.aload_n 0, 1) := by decide +kernel
theorem dX10_minerals_1 : decode cX10_minerals 1 = .ok (.iload_n 1, 1) := by decide +kernel
theorem dX10_minerals_2 : decode cX10_minerals 2 = .ok (.invokevirtual 264, 3) := by decide +kernel
theorem dX10_minerals_5 : decode cX10_minerals 5 = .ok (.astore 5, 2) := by decide +kernel
theorem dX10_minerals_7 : decode cX10_minerals 7 = .ok (.iload_n 2, 1) := by decide +kernel
theorem dX10_minerals_8 : decode cX10_minerals 8 = .ok (.iconst 0, 1) := by decide +kernel
theorem dX10_minerals_9 : decode cX10_minerals 9 = .ok (.sipush 1000, 3) := by decide +kernel
theorem dX10_minerals_12 : decode cX10_minerals 12 = .ok (.invokestatic 81, 3) := by decide +kernel
theorem dX10_minerals_15 : decode cX10_minerals 15 = .ok (.iload_n 3, 1) := by decide +kernel
theorem dX10_minerals_16 : decode cX10_minerals 16 = .ok (.iconst 0, 1) := by decide +kernel
theorem dX10_minerals_17 : decode cX10_minerals 17 = .ok (.bipush 9, 2) := by decide +kernel
theorem dX10_minerals_19 : decode cX10_minerals 19 = .ok (.invokestatic 81, 3) := by decide +kernel
theorem dX10_minerals_22 : decode cX10_minerals 22 = .ok (.iload 4, 2) := by decide +kernel
theorem dX10_minerals_24 : decode cX10_minerals 24 = .ok (.iconst 0, 1) := by decide +kernel
theorem dX10_minerals_25 : decode cX10_minerals 25 = .ok (.bipush 9, 2) := by decide +kernel
theorem dX10_minerals_27 : decode cX10_minerals 27 = .ok (.invokestatic 81, 3) := by decide +kernel
theorem dX10_minerals_30 : decode cX10_minerals 30 = .ok (.aload 5, 2) := by decide +kernel
theorem dX10_minerals_32 : decode cX10_minerals 32 = .ok (.iload_n 2, 1) := by decide +kernel
theorem dX10_minerals_33 : decode cX10_minerals 33 = .ok (.putfield 272, 3) := by decide +kernel
theorem dX10_minerals_36 : decode cX10_minerals 36 = .ok (.aload 5, 2) := by decide +kernel
theorem dX10_minerals_38 : decode cX10_minerals 38 = .ok (.iload_n 3, 1) := by decide +kernel
theorem dX10_minerals_39 : decode cX10_minerals 39 = .ok (.putfield 275, 3) := by decide +kernel
theorem dX10_minerals_42 : decode cX10_minerals 42 = .ok (.aload 5, 2) := by decide +kernel
theorem dX10_minerals_44 : decode cX10_minerals 44 = .ok (.iload 4, 2) := by decide +kernel
theorem dX10_minerals_46 : decode cX10_minerals 46 = .ok (.putfield 278, 3) := by decide +kernel
theorem dX10_minerals_49 : decode cX10_minerals 49 = .ok (.return_, 1) := by decide +kernel
theorem dX10_rule_0 : decode cX10_rule 0 = .ok (.iload_n 1, 1) := by decide +kernel
theorem dX10_rule_1 : decode cX10_rule 1 = .ok (.iconst 0, 1) := by decide +kernel
theorem dX10_rule_2 : decode cX10_rule 2 = .ok (.bipush 9, 2) := by decide +kernel
theorem dX10_rule_4 : decode cX10_rule 4 = .ok (.invokestatic 81, 3) := by decide +kernel
theorem dX10_rule_7 : decode cX10_rule 7 = .ok (.iload_n 2, 1) := by decide +kernel
theorem dX10_rule_8 : decode cX10_rule 8 = .ok (.iconst 0, 1) := by decide +kernel
theorem dX10_rule_9 : decode cX10_rule 9 = .ok (.sipush 1000, 3) := by decide +kernel
theorem dX10_rule_12 : decode cX10_rule 12 = .ok (.invokestatic 81, 3) := by decide +kernel
theorem dX10_rule_15 : decode cX10_rule 15 = .ok (.iload_n 3, 1) := by decide +kernel
theorem dX10_rule_16 : decode cX10_rule 16 = .ok (.iconst 0, 1) := by decide +kernel
theorem dX10_rule_17 : decode cX10_rule 17 = .ok (.iload_n 2, 1) := by decide +kernel
theorem dX10_rule_18 : decode cX10_rule 18 = .ok (.invokestatic 81, 3) := by decide +kernel
theorem dX10_rule_21 : decode cX10_rule 21 = .ok (.iload_n 1, 1) := by decide +kernel
theorem dX10_rule_22 : decode cX10_rule 22 = .ok (.ifCond .lt 27, 3) := by decide +kernel
theorem dX10_rule_25 : decode cX10_rule 25 = .ok (.iload_n 1, 1) := by decide +kernel
theorem dX10_rule_26 : decode cX10_rule 26 = .ok (.aload_n 0, 1) := by decide +kernel
theorem dX10_rule_27 : decode cX10_rule 27 = .ok (.getfield 57, 3) := by decide +kernel
theorem dX10_rule_30 : decode cX10_rule 30 = .ok (.arraylength, 1) := by decide +kernel
theorem dX10_rule_31 : decode cX10_rule 31 = .ok (.if_icmp .ge 18, 3) := by decide +kernel
theorem dX10_rule_34 : decode cX10_rule 34 = .ok (.aload_n 0, 1) := by decide +kernel
theorem dX10_rule_35 : decode cX10_rule 35 = .ok (.getfield 57, 3) := by decide +kernel
theorem dX10_rule_38 : decode cX10_rule 38 = .ok (.iload_n 1, 1) := by decide +kernel
theorem dX10_rule_39 : decode cX10_rule 39 = .ok (.new 55, 3) := by decide +kernel
theorem dX10_rule_42 : decode cX10_rule 42 = .ok (.dup, 1) := by decide +kernel
theorem dX10_rule_43 : decode cX10_rule 43 = .ok (.iload_n 2, 1) := by decide +kernel
theorem dX10_rule_44 : decode cX10_rule 44 = .ok (.iload_n 3, 1) := by decide +kernel
theorem dX10_rule_45 : decode cX10_rule 45 = .ok (.invokespecial 281, 3) := by decide +kernel
theorem dX10_rule_48 : decode cX10_rule 48 = .ok (.aastore, 1) := by decide +kernel
theorem dX10_rule_49 : decode cX10_rule 49 = .ok (.return_, 1) := by decide +kernel
theorem dX10_classOf_0 : decode cX10_classOf 0 = .ok (.aload_n 0, 1) := by decide +kernel
theorem dX10_classOf_1 : decode cX10_classOf 1 = .ok (.iload_n 1, 1) := by decide +kernel
theorem dX10_classOf_2 : decode cX10_classOf 2 = .ok (.invokevirtual 264, 3) := by decide +kernel
theorem dX10_classOf_5 : decode cX10_classOf 5 = .ok (.astore_n 3, 1) := by decide +kernel
theorem dX10_classOf_6 : decode cX10_classOf 6 = .ok (.iload_n 2, 1) := by decide +kernel
theorem dX10_classOf_7 : decode cX10_classOf 7 = .ok (.iconst 0, 1) := by decide +kernel
theorem dX10_classOf_8 : decode cX10_classOf 8 = .ok (.bipush 9, 2) := by decide +kernel
theorem dX10_classOf_10 : decode cX10_classOf 10 = .ok (.invokestatic 81, 3) := by decide +kernel
theorem dX10_classOf_13 : decode cX10_classOf 13 = .ok (.aload_n 0, 1) := by decide +kernel
theorem dX10_classOf_14 : decode cX10_classOf 14 = .ok (.aload_n 3, 1) := by decide +kernel
theorem dX10_classOf_15 : decode cX10_classOf 15 = .ok (.iload_n 2, 1) := by decide +kernel
theorem dX10_classOf_16 : decode cX10_classOf 16 = .ok (.invokevirtual 283, 3) := by decide +kernel
theorem dX10_classOf_19 : decode cX10_classOf 19 = .ok (.ireturn, 1) := by decide +kernel
theorem dX10_pair_0 : decode cX10_pair 0 = .ok (.aload_n 0, 1) := by decide +kernel
theorem dX10_pair_1 : decode cX10_pair 1 = .ok (.iload_n 1, 1) := by decide +kernel
theorem dX10_pair_2 : decode cX10_pair 2 = .ok (.invokevirtual 264, 3) := by decide +kernel
theorem dX10_pair_5 : decode cX10_pair 5 = .ok (.astore 4, 2) := by decide +kernel
theorem dX10_pair_7 : decode cX10_pair 7 = .ok (.aload_n 0, 1) := by decide +kernel
theorem dX10_pair_8 : decode cX10_pair 8 = .ok (.iload_n 2, 1) := by decide +kernel
theorem dX10_pair_9 : decode cX10_pair 9 = .ok (.invokevirtual 264, 3) := by decide +kernel
theorem dX10_pair_12 : decode cX10_pair 12 = .ok (.astore 5, 2) := by decide +kernel
theorem dX10_pair_14 : decode cX10_pair 14 = .ok (.iload_n 3, 1) := by decide +kernel
theorem dX10_pair_15 : decode cX10_pair 15 = .ok (.iconst 0, 1) := by decide +kernel
theorem dX10_pair_16 : decode cX10_pair 16 = .ok (.bipush 9, 2) := by decide +kernel
theorem dX10_pair_18 : decode cX10_pair 18 = .ok (.invokestatic 81, 3) := by decide +kernel
theorem dX10_pair_21 : decode cX10_pair 21 = .ok (.iload_n 1, 1) := by decide +kernel
theorem dX10_pair_22 : decode cX10_pair 22 = .ok (.iload_n 2, 1) := by decide +kernel
theorem dX10_pair_23 : decode cX10_pair 23 = .ok (.if_icmp .ne 14, 3) := by decide +kernel
theorem dX10_pair_26 : decode cX10_pair 26 = .ok (.new 287, 3) := by decide +kernel
theorem dX10_pair_29 : decode cX10_pair 29 = .ok (.dup, 1) := by decide +kernel
theorem dX10_pair_30 : decode cX10_pair 30 = .ok (.ldc_w 289, 3) := by decide +kernel
theorem dX10_pair_33 : decode cX10_pair 33 = .ok (.invokespecial 291, 3) := by decide +kernel
theorem dX10_pair_36 : decode cX10_pair 36 = .ok (.athrow, 1) := by decide +kernel
theorem dX10_pair_37 : decode cX10_pair 37 = .ok (.aload_n 0, 1) := by decide +kernel
theorem dX10_pair_38 : decode cX10_pair 38 = .ok (.aload 4, 2) := by decide +kernel
theorem dX10_pair_40 : decode cX10_pair 40 = .ok (.iload_n 3, 1) := by decide +kernel
theorem dX10_pair_41 : decode cX10_pair 41 = .ok (.invokevirtual 283, 3) := by decide +kernel
theorem dX10_pair_44 : decode cX10_pair 44 = .ok (.istore 6, 2) := by decide +kernel
theorem dX10_pair_46 : decode cX10_pair 46 = .ok (.iload 6, 2) := by decide +kernel
theorem dX10_pair_48 : decode cX10_pair 48 = .ok (.ifCond .eq 25, 3) := by decide +kernel
theorem dX10_pair_51 : decode cX10_pair 51 = .ok (.iload 6, 2) := by decide +kernel
theorem dX10_pair_53 : decode cX10_pair 53 = .ok (.aload_n 0, 1) := by decide +kernel
theorem dX10_pair_54 : decode cX10_pair 54 = .ok (.aload 5, 2) := by decide +kernel
theorem dX10_pair_56 : decode cX10_pair 56 = .ok (.iload_n 3, 1) := by decide +kernel
theorem dX10_pair_57 : decode cX10_pair 57 = .ok (.invokevirtual 283, 3) := by decide +kernel
theorem dX10_pair_60 : decode cX10_pair 60 = .ok (.if_icmp .ne 13, 3) := by decide +kernel
theorem dX10_pair_63 : decode cX10_pair 63 = .ok (.aload 4, 2) := by decide +kernel
theorem dX10_pair_65 : decode cX10_pair 65 = .ok (.aload 5, 2) := by decide +kernel
theorem dX10_pair_67 : decode cX10_pair 67 = .ok (.invokevirtual 292, 3) := by decide +kernel
theorem dX10_pair_70 : decode cX10_pair 70 = .ok (.ifCond .ne 5, 3) := by decide +kernel
theorem dX10_pair_73 : decode cX10_pair 73 = .ok (.iconst 0, 1) := by decide +kernel
theorem dX10_pair_74 : decode cX10_pair 74 = .ok (.ireturn, 1) := by decide +kernel
theorem dX10_pair_75 : decode cX10_pair 75 = .ok (.aload_n 0, 1) := by decide +kernel
theorem dX10_pair_76 : decode cX10_pair 76 = .ok (.aload 4, 2) := by decide +kernel
theorem dX10_pair_78 : decode cX10_pair 78 = .ok (.invokevirtual 268, 3) := by decide +kernel
theorem dX10_pair_81 : decode cX10_pair 81 = .ok (.istore 7, 2) := by decide +kernel
theorem dX10_pair_83 : decode cX10_pair 83 = .ok (.aload_n 0, 1) := by decide +kernel
theorem dX10_pair_84 : decode cX10_pair 84 = .ok (.aload 5, 2) := by decide +kernel
theorem dX10_pair_86 : decode cX10_pair 86 = .ok (.invokevirtual 268, 3) := by decide +kernel
theorem dX10_pair_89 : decode cX10_pair 89 = .ok (.istore 8, 2) := by decide +kernel
theorem dX10_pair_91 : decode cX10_pair 91 = .ok (.iload 7, 2) := by decide +kernel
theorem dX10_pair_93 : decode cX10_pair 93 = .ok (.iload 8, 2) := by decide +kernel
theorem dX10_pair_95 : decode cX10_pair 95 = .ok (.if_icmp .eq 15, 3) := by decide +kernel
theorem dX10_pair_98 : decode cX10_pair 98 = .ok (.iload 7, 2) := by decide +kernel
theorem dX10_pair_100 : decode cX10_pair 100 = .ok (.iconst (-1), 1) := by decide +kernel
theorem dX10_pair_101 : decode cX10_pair 101 = .ok (.if_icmp .eq 9, 3) := by decide +kernel
theorem dX10_pair_104 : decode cX10_pair 104 = .ok (.iload 8, 2) := by decide +kernel
theorem dX10_pair_106 : decode cX10_pair 106 = .ok (.iconst (-1), 1) := by decide +kernel
theorem dX10_pair_107 : decode cX10_pair 107 = .ok (.if_icmp .ne 7, 3) := by decide +kernel
theorem dX10_pair_110 : decode cX10_pair 110 = .ok (.iconst 1, 1) := by decide +kernel
theorem dX10_pair_111 : decode cX10_pair 111 = .ok (.goto 4, 3) := by decide +kernel
theorem dX10_pair_114 : decode cX10_pair 114 = .ok (.iconst 0, 1) := by decide +kernel
theorem dX10_pair_115 : decode cX10_pair 115 = .ok (.ireturn, 1) := by decide +kernel
theorem dX10_cut_0 : decode cX10_cut 0 = .ok (.aload_n 0, 1) := by decide +kernel
theorem dX10_cut_1 : decode cX10_cut 1 = .ok (.iload_n 1, 1) := by decide +kernel
theorem dX10_cut_2 : decode cX10_cut 2 = .ok (.invokevirtual 264, 3) := by decide +kernel
theorem dX10_cut_5 : decode cX10_cut 5 = .ok (.astore 4, 2) := by decide +kernel
theorem dX10_cut_7 : decode cX10_cut 7 = .ok (.iload_n 2, 1) := by decide +kernel
theorem dX10_cut_8 : decode cX10_cut 8 = .ok (.iconst 1, 1) := by decide +kernel
theorem dX10_cut_9 : decode cX10_cut 9 = .ok (.ldc 246, 2) := by decide +kernel
theorem dX10_cut_11 : decode cX10_cut 11 = .ok (.invokestatic 81, 3) := by decide +kernel
theorem dX10_cut_14 : decode cX10_cut 14 = .ok (.iload_n 3, 1) := by decide +kernel
theorem dX10_cut_15 : decode cX10_cut 15 = .ok (.iconst 0, 1) := by decide +kernel
theorem dX10_cut_16 : decode cX10_cut 16 = .ok (.sipush 1000, 3) := by decide +kernel
theorem dX10_cut_19 : decode cX10_cut 19 = .ok (.invokestatic 81, 3) := by decide +kernel
theorem dX10_cut_22 : decode cX10_cut 22 = .ok (.aload 4, 2) := by decide +kernel
theorem dX10_cut_24 : decode cX10_cut 24 = .ok (.getfield 296, 3) := by decide +kernel
theorem dX10_cut_27 : decode cX10_cut 27 = .ok (.iconst 2, 1) := by decide +kernel
theorem dX10_cut_28 : decode cX10_cut 28 = .ok (.if_icmp .ne 14, 3) := by decide +kernel
theorem dX10_cut_31 : decode cX10_cut 31 = .ok (.new 89, 3) := by decide +kernel
theorem dX10_cut_34 : decode cX10_cut 34 = .ok (.dup, 1) := by decide +kernel
theorem dX10_cut_35 : decode cX10_cut 35 = .ok (.ldc_w 299, 3) := by decide +kernel
theorem dX10_cut_38 : decode cX10_cut 38 = .ok (.invokespecial 93, 3) := by decide +kernel
theorem dX10_cut_41 : decode cX10_cut 41 = .ok (.athrow, 1) := by decide +kernel
theorem dX10_cut_42 : decode cX10_cut 42 = .ok (.aload 4, 2) := by decide +kernel
theorem dX10_cut_44 : decode cX10_cut 44 = .ok (.getfield 301, 3) := by decide +kernel
theorem dX10_cut_47 : decode cX10_cut 47 = .ok (.iload_n 2, 1) := by decide +kernel
theorem dX10_cut_48 : decode cX10_cut 48 = .ok (.isub, 1) := by decide +kernel
theorem dX10_cut_49 : decode cX10_cut 49 = .ok (.iload_n 3, 1) := by decide +kernel
theorem dX10_cut_50 : decode cX10_cut 50 = .ok (.isub, 1) := by decide +kernel
theorem dX10_cut_51 : decode cX10_cut 51 = .ok (.iconst 1, 1) := by decide +kernel
theorem dX10_cut_52 : decode cX10_cut 52 = .ok (.if_icmp .ge 14, 3) := by decide +kernel
theorem dX10_cut_55 : decode cX10_cut 55 = .ok (.new 89, 3) := by decide +kernel
theorem dX10_cut_58 : decode cX10_cut 58 = .ok (.dup, 1) := by decide +kernel
theorem dX10_cut_59 : decode cX10_cut 59 = .ok (.ldc_w 304, 3) := by decide +kernel
theorem dX10_cut_62 : decode cX10_cut 62 = .ok (.invokespecial 93, 3) := by decide +kernel
theorem dX10_cut_65 : decode cX10_cut 65 = .ok (.athrow, 1) := by decide +kernel
theorem dX10_cut_66 : decode cX10_cut 66 = .ok (.aload_n 0, 1) := by decide +kernel
theorem dX10_cut_67 : decode cX10_cut 67 = .ok (.getfield 52, 3) := by decide +kernel
theorem dX10_cut_70 : decode cX10_cut 70 = .ok (.invokeinterface 85 1, 5) := by decide +kernel
theorem dX10_cut_75 : decode cX10_cut 75 = .ok (.bipush 40, 2) := by decide +kernel
theorem dX10_cut_77 : decode cX10_cut 77 = .ok (.if_icmp .lt 13, 3) := by decide +kernel
theorem dX10_cut_80 : decode cX10_cut 80 = .ok (.new 89, 3) := by decide +kernel
theorem dX10_cut_83 : decode cX10_cut 83 = .ok (.dup, 1) := by decide +kernel
theorem dX10_cut_84 : decode cX10_cut 84 = .ok (.ldc 247, 2) := by decide +kernel
theorem dX10_cut_86 : decode cX10_cut 86 = .ok (.invokespecial 93, 3) := by decide +kernel
theorem dX10_cut_89 : decode cX10_cut 89 = .ok (.athrow, 1) := by decide +kernel
theorem dX10_cut_90 : decode cX10_cut 90 = .ok (.aload 4, 2) := by decide +kernel
theorem dX10_cut_92 : decode cX10_cut 92 = .ok (.aload_n 0, 1) := by decide +kernel
theorem dX10_cut_93 : decode cX10_cut 93 = .ok (.getfield 52, 3) := by decide +kernel
theorem dX10_cut_96 : decode cX10_cut 96 = .ok (.invokeinterface 85 1, 5) := by decide +kernel
theorem dX10_cut_101 : decode cX10_cut 101 = .ok (.iload_n 2, 1) := by decide +kernel
theorem dX10_cut_102 : decode cX10_cut 102 = .ok (.invokevirtual 306, 3) := by decide +kernel
theorem dX10_cut_105 : decode cX10_cut 105 = .ok (.astore 5, 2) := by decide +kernel
theorem dX10_cut_107 : decode cX10_cut 107 = .ok (.aload 4, 2) := by decide +kernel
theorem dX10_cut_109 : decode cX10_cut 109 = .ok (.dup, 1) := by decide +kernel
theorem dX10_cut_110 : decode cX10_cut 110 = .ok (.getfield 301, 3) := by decide +kernel
theorem dX10_cut_113 : decode cX10_cut 113 = .ok (.iload_n 2, 1) := by decide +kernel
theorem dX10_cut_114 : decode cX10_cut 114 = .ok (.iload_n 3, 1) := by decide +kernel
theorem dX10_cut_115 : decode cX10_cut 115 = .ok (.iadd, 1) := by decide +kernel
theorem dX10_cut_116 : decode cX10_cut 116 = .ok (.isub, 1) := by decide +kernel
theorem dX10_cut_117 : decode cX10_cut 117 = .ok (.putfield 301, 3) := by decide +kernel
theorem dX10_cut_120 : decode cX10_cut 120 = .ok (.aload 4, 2) := by decide +kernel
theorem dX10_cut_122 : decode cX10_cut 122 = .ok (.dup, 1) := by decide +kernel
theorem dX10_cut_123 : decode cX10_cut 123 = .ok (.getfield 310, 3) := by decide +kernel
theorem dX10_cut_126 : decode cX10_cut 126 = .ok (.iload_n 3, 1) := by decide +kernel
theorem dX10_cut_127 : decode cX10_cut 127 = .ok (.iadd, 1) := by decide +kernel
theorem dX10_cut_128 : decode cX10_cut 128 = .ok (.putfield 310, 3) := by decide +kernel
theorem dX10_cut_131 : decode cX10_cut 131 = .ok (.aload_n 0, 1) := by decide +kernel
theorem dX10_cut_132 : decode cX10_cut 132 = .ok (.getfield 52, 3) := by decide +kernel
theorem dX10_cut_135 : decode cX10_cut 135 = .ok (.aload 5, 2) := by decide +kernel
theorem dX10_cut_137 : decode cX10_cut 137 = .ok (.invokeinterface 71 2, 5) := by decide +kernel
theorem dX10_cut_142 : decode cX10_cut 142 = .ok (.pop, 1) := by decide +kernel
theorem dX10_cut_143 : decode cX10_cut 143 = .ok (.aload 5, 2) := by decide +kernel
theorem dX10_cut_145 : decode cX10_cut 145 = .ok (.getfield 262, 3) := by decide +kernel
theorem dX10_cut_148 : decode cX10_cut 148 = .ok (.ireturn, 1) := by decide +kernel
theorem dX10_lend_0 : decode cX10_lend 0 = .ok (.aload_n 0, 1) := by decide +kernel
theorem dX10_lend_1 : decode cX10_lend 1 = .ok (.iload_n 1, 1) := by decide +kernel
theorem dX10_lend_2 : decode cX10_lend 2 = .ok (.invokevirtual 264, 3) := by decide +kernel
theorem dX10_lend_5 : decode cX10_lend 5 = .ok (.astore_n 3, 1) := by decide +kernel
theorem dX10_lend_6 : decode cX10_lend 6 = .ok (.iload_n 2, 1) := by decide +kernel
theorem dX10_lend_7 : decode cX10_lend 7 = .ok (.iconst (-1), 1) := by decide +kernel
theorem dX10_lend_8 : decode cX10_lend 8 = .ok (.iconst 3, 1) := by decide +kernel
theorem dX10_lend_9 : decode cX10_lend 9 = .ok (.invokestatic 81, 3) := by decide +kernel
theorem dX10_lend_12 : decode cX10_lend 12 = .ok (.aload_n 3, 1) := by decide +kernel
theorem dX10_lend_13 : decode cX10_lend 13 = .ok (.getfield 296, 3) := by decide +kernel
theorem dX10_lend_16 : decode cX10_lend 16 = .ok (.ifCond .ne 7, 3) := by decide +kernel
theorem dX10_lend_19 : decode cX10_lend 19 = .ok (.iconst 1, 1) := by decide +kernel
theorem dX10_lend_20 : decode cX10_lend 20 = .ok (.goto 4, 3) := by decide +kernel
theorem dX10_lend_23 : decode cX10_lend 23 = .ok (.iconst 0, 1) := by decide +kernel
theorem dX10_lend_24 : decode cX10_lend 24 = .ok (.istore 4, 2) := by decide +kernel
theorem dX10_lend_26 : decode cX10_lend 26 = .ok (.iload_n 2, 1) := by decide +kernel
theorem dX10_lend_27 : decode cX10_lend 27 = .ok (.iconst (-1), 1) := by decide +kernel
theorem dX10_lend_28 : decode cX10_lend 28 = .ok (.if_icmp .ne 7, 3) := by decide +kernel
theorem dX10_lend_31 : decode cX10_lend 31 = .ok (.iconst 1, 1) := by decide +kernel
theorem dX10_lend_32 : decode cX10_lend 32 = .ok (.goto 4, 3) := by decide +kernel
theorem dX10_lend_35 : decode cX10_lend 35 = .ok (.iconst 0, 1) := by decide +kernel
theorem dX10_lend_36 : decode cX10_lend 36 = .ok (.istore 5, 2) := by decide +kernel
theorem dX10_lend_38 : decode cX10_lend 38 = .ok (.iload 4, 2) := by decide +kernel
theorem dX10_lend_40 : decode cX10_lend 40 = .ok (.iload 5, 2) := by decide +kernel
theorem dX10_lend_42 : decode cX10_lend 42 = .ok (.if_icmp .ne 14, 3) := by decide +kernel
theorem dX10_lend_45 : decode cX10_lend 45 = .ok (.new 89, 3) := by decide +kernel
theorem dX10_lend_48 : decode cX10_lend 48 = .ok (.dup, 1) := by decide +kernel
theorem dX10_lend_49 : decode cX10_lend 49 = .ok (.ldc_w 313, 3) := by decide +kernel
theorem dX10_lend_52 : decode cX10_lend 52 = .ok (.invokespecial 93, 3) := by decide +kernel
theorem dX10_lend_55 : decode cX10_lend 55 = .ok (.athrow, 1) := by decide +kernel
theorem dX10_lend_56 : decode cX10_lend 56 = .ok (.aload_n 3, 1) := by decide +kernel
theorem dX10_lend_57 : decode cX10_lend 57 = .ok (.iload 5, 2) := by decide +kernel
theorem dX10_lend_59 : decode cX10_lend 59 = .ok (.ifCond .eq 7, 3) := by decide +kernel
theorem dX10_lend_62 : decode cX10_lend 62 = .ok (.iconst 0, 1) := by decide +kernel
theorem dX10_lend_63 : decode cX10_lend 63 = .ok (.goto 4, 3) := by decide +kernel
theorem dX10_lend_66 : decode cX10_lend 66 = .ok (.iconst 1, 1) := by decide +kernel
theorem dX10_lend_67 : decode cX10_lend 67 = .ok (.putfield 296, 3) := by decide +kernel
theorem dX10_lend_70 : decode cX10_lend 70 = .ok (.aload_n 3, 1) := by decide +kernel
theorem dX10_lend_71 : decode cX10_lend 71 = .ok (.iload_n 2, 1) := by decide +kernel
theorem dX10_lend_72 : decode cX10_lend 72 = .ok (.putfield 315, 3) := by decide +kernel
theorem dX10_lend_75 : decode cX10_lend 75 = .ok (.return_, 1) := by decide +kernel
theorem dX10_steal_0 : decode cX10_steal 0 = .ok (.aload_n 0, 1) := by decide +kernel
theorem dX10_steal_1 : decode cX10_steal 1 = .ok (.iload_n 1, 1) := by decide +kernel
theorem dX10_steal_2 : decode cX10_steal 2 = .ok (.invokevirtual 264, 3) := by decide +kernel
theorem dX10_steal_5 : decode cX10_steal 5 = .ok (.astore_n 2, 1) := by decide +kernel
theorem dX10_steal_6 : decode cX10_steal 6 = .ok (.aload_n 2, 1) := by decide +kernel
theorem dX10_steal_7 : decode cX10_steal 7 = .ok (.getfield 296, 3) := by decide +kernel
theorem dX10_steal_10 : decode cX10_steal 10 = .ok (.iconst 2, 1) := by decide +kernel
theorem dX10_steal_11 : decode cX10_steal 11 = .ok (.if_icmp .ne 14, 3) := by decide +kernel
theorem dX10_steal_14 : decode cX10_steal 14 = .ok (.new 89, 3) := by decide +kernel
theorem dX10_steal_17 : decode cX10_steal 17 = .ok (.dup, 1) := by decide +kernel
theorem dX10_steal_18 : decode cX10_steal 18 = .ok (.ldc_w 299, 3) := by decide +kernel
theorem dX10_steal_21 : decode cX10_steal 21 = .ok (.invokespecial 93, 3) := by decide +kernel
theorem dX10_steal_24 : decode cX10_steal 24 = .ok (.athrow, 1) := by decide +kernel
theorem dX10_steal_25 : decode cX10_steal 25 = .ok (.aload_n 2, 1) := by decide +kernel
theorem dX10_steal_26 : decode cX10_steal 26 = .ok (.iconst 2, 1) := by decide +kernel
theorem dX10_steal_27 : decode cX10_steal 27 = .ok (.putfield 296, 3) := by decide +kernel
theorem dX10_steal_30 : decode cX10_steal 30 = .ok (.aload_n 2, 1) := by decide +kernel
theorem dX10_steal_31 : decode cX10_steal 31 = .ok (.iconst (-1), 1) := by decide +kernel
theorem dX10_steal_32 : decode cX10_steal 32 = .ok (.putfield 315, 3) := by decide +kernel
theorem dX10_steal_35 : decode cX10_steal 35 = .ok (.return_, 1) := by decide +kernel
theorem dX10_law_0 : decode cX10_law 0 = .ok (.iload_n 1, 1) := by decide +kernel
theorem dX10_law_1 : decode cX10_law 1 = .ok (.iconst 0, 1) := by decide +kernel
theorem dX10_law_2 : decode cX10_law 2 = .ok (.iconst 3, 1) := by decide +kernel
theorem dX10_law_3 : decode cX10_law 3 = .ok (.invokestatic 81, 3) := by decide +kernel
theorem dX10_law_6 : decode cX10_law 6 = .ok (.iload_n 2, 1) := by decide +kernel
theorem dX10_law_7 : decode cX10_law 7 = .ok (.iconst 0, 1) := by decide +kernel
theorem dX10_law_8 : decode cX10_law 8 = .ok (.iconst 2, 1) := by decide +kernel
theorem dX10_law_9 : decode cX10_law 9 = .ok (.invokestatic 81, 3) := by decide +kernel
theorem dX10_law_12 : decode cX10_law 12 = .ok (.aload_n 0, 1) := by decide +kernel
theorem dX10_law_13 : decode cX10_law 13 = .ok (.iload_n 1, 1) := by decide +kernel
theorem dX10_law_14 : decode cX10_law 14 = .ok (.invokevirtual 253, 3) := by decide +kernel
theorem dX10_law_17 : decode cX10_law 17 = .ok (.istore_n 3, 1) := by decide +kernel
theorem dX10_law_18 : decode cX10_law 18 = .ok (.iload_n 1, 1) := by decide +kernel
theorem dX10_law_19 : decode cX10_law 19 = .ok (.ifCond .lt 19, 3) := by decide +kernel
theorem dX10_law_22 : decode cX10_law 22 = .ok (.iload_n 1, 1) := by decide +kernel
theorem dX10_law_23 : decode cX10_law 23 = .ok (.aload_n 0, 1) := by decide +kernel
theorem dX10_law_24 : decode cX10_law 24 = .ok (.getfield 61, 3) := by decide +kernel
theorem dX10_law_27 : decode cX10_law 27 = .ok (.arraylength, 1) := by decide +kernel
theorem dX10_law_28 : decode cX10_law 28 = .ok (.if_icmp .ge 10, 3) := by decide +kernel
theorem dX10_law_31 : decode cX10_law 31 = .ok (.aload_n 0, 1) := by decide +kernel
theorem dX10_law_32 : decode cX10_law 32 = .ok (.getfield 61, 3) := by decide +kernel
theorem dX10_law_35 : decode cX10_law 35 = .ok (.iload_n 1, 1) := by decide +kernel
theorem dX10_law_36 : decode cX10_law 36 = .ok (.iload_n 2, 1) := by decide +kernel
theorem dX10_law_37 : decode cX10_law 37 = .ok (.iastore, 1) := by decide +kernel
theorem dX10_law_38 : decode cX10_law 38 = .ok (.iload_n 3, 1) := by decide +kernel
theorem dX10_law_39 : decode cX10_law 39 = .ok (.ireturn, 1) := by decide +kernel
theorem dX10_give_0 : decode cX10_give 0 = .ok (.aload_n 0, 1) := by decide +kernel
theorem dX10_give_1 : decode cX10_give 1 = .ok (.iload_n 1, 1) := by decide +kernel
theorem dX10_give_2 : decode cX10_give 2 = .ok (.invokevirtual 264, 3) := by decide +kernel
theorem dX10_give_5 : decode cX10_give 5 = .ok (.astore_n 3, 1) := by decide +kernel
theorem dX10_give_6 : decode cX10_give 6 = .ok (.iload_n 2, 1) := by decide +kernel
theorem dX10_give_7 : decode cX10_give 7 = .ok (.iconst 0, 1) := by decide +kernel
theorem dX10_give_8 : decode cX10_give 8 = .ok (.iconst 5, 1) := by decide +kernel
theorem dX10_give_9 : decode cX10_give 9 = .ok (.invokestatic 81, 3) := by decide +kernel
theorem dX10_give_12 : decode cX10_give 12 = .ok (.aload_n 3, 1) := by decide +kernel
theorem dX10_give_13 : decode cX10_give 13 = .ok (.getfield 296, 3) := by decide +kernel
theorem dX10_give_16 : decode cX10_give 16 = .ok (.ifCond .eq 14, 3) := by decide +kernel
theorem dX10_give_19 : decode cX10_give 19 = .ok (.new 89, 3) := by decide +kernel
theorem dX10_give_22 : decode cX10_give 22 = .ok (.dup, 1) := by decide +kernel
theorem dX10_give_23 : decode cX10_give 23 = .ok (.ldc_w 318, 3) := by decide +kernel
theorem dX10_give_26 : decode cX10_give 26 = .ok (.invokespecial 93, 3) := by decide +kernel
theorem dX10_give_29 : decode cX10_give 29 = .ok (.athrow, 1) := by decide +kernel
theorem dX10_give_30 : decode cX10_give 30 = .ok (.aload_n 3, 1) := by decide +kernel
theorem dX10_give_31 : decode cX10_give 31 = .ok (.getfield 320, 3) := by decide +kernel
theorem dX10_give_34 : decode cX10_give 34 = .ok (.iload_n 2, 1) := by decide +kernel
theorem dX10_give_35 : decode cX10_give 35 = .ok (.if_icmp .ne 14, 3) := by decide +kernel
theorem dX10_give_38 : decode cX10_give 38 = .ok (.new 89, 3) := by decide +kernel
theorem dX10_give_41 : decode cX10_give 41 = .ok (.dup, 1) := by decide +kernel
theorem dX10_give_42 : decode cX10_give 42 = .ok (.ldc_w 323, 3) := by decide +kernel
theorem dX10_give_45 : decode cX10_give 45 = .ok (.invokespecial 93, 3) := by decide +kernel
theorem dX10_give_48 : decode cX10_give 48 = .ok (.athrow, 1) := by decide +kernel
theorem dX10_give_49 : decode cX10_give 49 = .ok (.aload_n 3, 1) := by decide +kernel
theorem dX10_give_50 : decode cX10_give 50 = .ok (.getfield 325, 3) := by decide +kernel
theorem dX10_give_53 : decode cX10_give 53 = .ok (.aload_n 3, 1) := by decide +kernel
theorem dX10_give_54 : decode cX10_give 54 = .ok (.getfield 326, 3) := by decide +kernel
theorem dX10_give_57 : decode cX10_give 57 = .ok (.invokestatic 249, 3) := by decide +kernel
theorem dX10_give_60 : decode cX10_give 60 = .ok (.istore 4, 2) := by decide +kernel
theorem dX10_give_62 : decode cX10_give 62 = .ok (.aload_n 0, 1) := by decide +kernel
theorem dX10_give_63 : decode cX10_give 63 = .ok (.iload 4, 2) := by decide +kernel
theorem dX10_give_65 : decode cX10_give 65 = .ok (.invokevirtual 253, 3) := by decide +kernel
theorem dX10_give_68 : decode cX10_give 68 = .ok (.iconst 2, 1) := by decide +kernel
theorem dX10_give_69 : decode cX10_give 69 = .ok (.if_icmp .ne 22, 3) := by decide +kernel
theorem dX10_give_72 : decode cX10_give 72 = .ok (.iload_n 2, 1) := by decide +kernel
theorem dX10_give_73 : decode cX10_give 73 = .ok (.iconst 4, 1) := by decide +kernel
theorem dX10_give_74 : decode cX10_give 74 = .ok (.irem, 1) := by decide +kernel
theorem dX10_give_75 : decode cX10_give 75 = .ok (.iload 4, 2) := by decide +kernel
theorem dX10_give_77 : decode cX10_give 77 = .ok (.if_icmp .eq 14, 3) := by decide +kernel
theorem dX10_give_80 : decode cX10_give 80 = .ok (.new 89, 3) := by decide +kernel
theorem dX10_give_83 : decode cX10_give 83 = .ok (.dup, 1) := by decide +kernel
theorem dX10_give_84 : decode cX10_give 84 = .ok (.ldc_w 327, 3) := by decide +kernel
theorem dX10_give_87 : decode cX10_give 87 = .ok (.invokespecial 93, 3) := by decide +kernel
theorem dX10_give_90 : decode cX10_give 90 = .ok (.athrow, 1) := by decide +kernel
theorem dX10_give_91 : decode cX10_give 91 = .ok (.aload_n 3, 1) := by decide +kernel
theorem dX10_give_92 : decode cX10_give 92 = .ok (.getfield 320, 3) := by decide +kernel
theorem dX10_give_95 : decode cX10_give 95 = .ok (.istore 5, 2) := by decide +kernel
theorem dX10_give_97 : decode cX10_give 97 = .ok (.aload_n 3, 1) := by decide +kernel
theorem dX10_give_98 : decode cX10_give 98 = .ok (.iload_n 2, 1) := by decide +kernel
theorem dX10_give_99 : decode cX10_give 99 = .ok (.putfield 320, 3) := by decide +kernel
theorem dX10_give_102 : decode cX10_give 102 = .ok (.iload 5, 2) := by decide +kernel
theorem dX10_give_104 : decode cX10_give 104 = .ok (.ireturn, 1) := by decide +kernel
theorem dX10_name_0 : decode cX10_name 0 = .ok (.aload_n 0, 1) := by decide +kernel
theorem dX10_name_1 : decode cX10_name 1 = .ok (.iload_n 1, 1) := by decide +kernel
theorem dX10_name_2 : decode cX10_name 2 = .ok (.invokevirtual 264, 3) := by decide +kernel
theorem dX10_name_5 : decode cX10_name 5 = .ok (.astore_n 3, 1) := by decide +kernel
theorem dX10_name_6 : decode cX10_name 6 = .ok (.iload_n 2, 1) := by decide +kernel
theorem dX10_name_7 : decode cX10_name 7 = .ok (.iconst 0, 1) := by decide +kernel
theorem dX10_name_8 : decode cX10_name 8 = .ok (.bipush 9, 2) := by decide +kernel
theorem dX10_name_10 : decode cX10_name 10 = .ok (.invokestatic 81, 3) := by decide +kernel
theorem dX10_name_13 : decode cX10_name 13 = .ok (.aload_n 3, 1) := by decide +kernel
theorem dX10_name_14 : decode cX10_name 14 = .ok (.invokevirtual 329, 3) := by decide +kernel
theorem dX10_name_17 : decode cX10_name 17 = .ok (.ifCond .eq 14, 3) := by decide +kernel
theorem dX10_name_20 : decode cX10_name 20 = .ok (.new 89, 3) := by decide +kernel
theorem dX10_name_23 : decode cX10_name 23 = .ok (.dup, 1) := by decide +kernel
theorem dX10_name_24 : decode cX10_name 24 = .ok (.ldc_w 332, 3) := by decide +kernel
theorem dX10_name_27 : decode cX10_name 27 = .ok (.invokespecial 93, 3) := by decide +kernel
theorem dX10_name_30 : decode cX10_name 30 = .ok (.athrow, 1) := by decide +kernel
theorem dX10_name_31 : decode cX10_name 31 = .ok (.aload_n 3, 1) := by decide +kernel
theorem dX10_name_32 : decode cX10_name 32 = .ok (.iload_n 2, 1) := by decide +kernel
theorem dX10_name_33 : decode cX10_name 33 = .ok (.putfield 334, 3) := by decide +kernel
theorem dX10_name_36 : decode cX10_name 36 = .ok (.aload_n 3, 1) := by decide +kernel
theorem dX10_name_37 : decode cX10_name 37 = .ok (.aload_n 0, 1) := by decide +kernel
theorem dX10_name_38 : decode cX10_name 38 = .ok (.iload_n 2, 1) := by decide +kernel
theorem dX10_name_39 : decode cX10_name 39 = .ok (.invokevirtual 337, 3) := by decide +kernel
theorem dX10_name_42 : decode cX10_name 42 = .ok (.putfield 340, 3) := by decide +kernel
theorem dX10_name_45 : decode cX10_name 45 = .ok (.aload_n 3, 1) := by decide +kernel
theorem dX10_name_46 : decode cX10_name 46 = .ok (.getfield 340, 3) := by decide +kernel
theorem dX10_name_49 : decode cX10_name 49 = .ok (.ireturn, 1) := by decide +kernel
theorem dX10_doubt_0 : decode cX10_doubt 0 = .ok (.aload_n 0, 1) := by decide +kernel
theorem dX10_doubt_1 : decode cX10_doubt 1 = .ok (.iload_n 1, 1) := by decide +kernel
theorem dX10_doubt_2 : decode cX10_doubt 2 = .ok (.invokevirtual 264, 3) := by decide +kernel
theorem dX10_doubt_5 : decode cX10_doubt 5 = .ok (.astore_n 3, 1) := by decide +kernel
theorem dX10_doubt_6 : decode cX10_doubt 6 = .ok (.aload_n 3, 1) := by decide +kernel
theorem dX10_doubt_7 : decode cX10_doubt 7 = .ok (.invokevirtual 329, 3) := by decide +kernel
theorem dX10_doubt_10 : decode cX10_doubt 10 = .ok (.ifCond .ne 14, 3) := by decide +kernel
theorem dX10_doubt_13 : decode cX10_doubt 13 = .ok (.new 89, 3) := by decide +kernel
theorem dX10_doubt_16 : decode cX10_doubt 16 = .ok (.dup, 1) := by decide +kernel
theorem dX10_doubt_17 : decode cX10_doubt 17 = .ok (.ldc_w 343, 3) := by decide +kernel
theorem dX10_doubt_20 : decode cX10_doubt 20 = .ok (.invokespecial 93, 3) := by decide +kernel
theorem dX10_doubt_23 : decode cX10_doubt 23 = .ok (.athrow, 1) := by decide +kernel
theorem dX10_doubt_24 : decode cX10_doubt 24 = .ok (.aload_n 3, 1) := by decide +kernel
theorem dX10_doubt_25 : decode cX10_doubt 25 = .ok (.getfield 345, 3) := by decide +kernel
theorem dX10_doubt_28 : decode cX10_doubt 28 = .ok (.istore 4, 2) := by decide +kernel
theorem dX10_doubt_30 : decode cX10_doubt 30 = .ok (.aload_n 3, 1) := by decide +kernel
theorem dX10_doubt_31 : decode cX10_doubt 31 = .ok (.iload_n 2, 1) := by decide +kernel
theorem dX10_doubt_32 : decode cX10_doubt 32 = .ok (.putfield 345, 3) := by decide +kernel
theorem dX10_doubt_35 : decode cX10_doubt 35 = .ok (.iload 4, 2) := by decide +kernel
theorem dX10_doubt_37 : decode cX10_doubt 37 = .ok (.ireturn, 1) := by decide +kernel
theorem dX10_stone_0 : decode cX10_stone 0 = .ok (.aload_n 0, 1) := by decide +kernel
theorem dX10_stone_1 : decode cX10_stone 1 = .ok (.iload_n 1, 1) := by decide +kernel
theorem dX10_stone_2 : decode cX10_stone 2 = .ok (.invokevirtual 264, 3) := by decide +kernel
theorem dX10_stone_5 : decode cX10_stone 5 = .ok (.astore_n 3, 1) := by decide +kernel
theorem dX10_stone_6 : decode cX10_stone 6 = .ok (.iload_n 2, 1) := by decide +kernel
theorem dX10_stone_7 : decode cX10_stone 7 = .ok (.iconst 0, 1) := by decide +kernel
theorem dX10_stone_8 : decode cX10_stone 8 = .ok (.bipush 7, 2) := by decide +kernel
theorem dX10_stone_10 : decode cX10_stone 10 = .ok (.invokestatic 81, 3) := by decide +kernel
theorem dX10_stone_13 : decode cX10_stone 13 = .ok (.aload_n 3, 1) := by decide +kernel
theorem dX10_stone_14 : decode cX10_stone 14 = .ok (.iload_n 2, 1) := by decide +kernel
theorem dX10_stone_15 : decode cX10_stone 15 = .ok (.invokevirtual 349, 3) := by decide +kernel
theorem dX10_stone_18 : decode cX10_stone 18 = .ok (.ireturn, 1) := by decide +kernel
theorem dX10_whole_0 : decode cX10_whole 0 = .ok (.aload_n 0, 1) := by decide +kernel
theorem dX10_whole_1 : decode cX10_whole 1 = .ok (.iload_n 1, 1) := by decide +kernel
theorem dX10_whole_2 : decode cX10_whole 2 = .ok (.invokevirtual 264, 3) := by decide +kernel
theorem dX10_whole_5 : decode cX10_whole 5 = .ok (.astore_n 2, 1) := by decide +kernel
theorem dX10_whole_6 : decode cX10_whole 6 = .ok (.iconst 0, 1) := by decide +kernel
theorem dX10_whole_7 : decode cX10_whole 7 = .ok (.istore_n 3, 1) := by decide +kernel
theorem dX10_whole_8 : decode cX10_whole 8 = .ok (.iconst 0, 1) := by decide +kernel
theorem dX10_whole_9 : decode cX10_whole 9 = .ok (.istore 4, 2) := by decide +kernel
theorem dX10_whole_11 : decode cX10_whole 11 = .ok (.iload 4, 2) := by decide +kernel
theorem dX10_whole_13 : decode cX10_whole 13 = .ok (.aload_n 0, 1) := by decide +kernel
theorem dX10_whole_14 : decode cX10_whole 14 = .ok (.getfield 52, 3) := by decide +kernel
theorem dX10_whole_17 : decode cX10_whole 17 = .ok (.invokeinterface 85 1, 5) := by decide +kernel
theorem dX10_whole_22 : decode cX10_whole 22 = .ok (.if_icmp .ge 48, 3) := by decide +kernel
theorem dX10_whole_25 : decode cX10_whole 25 = .ok (.aload_n 0, 1) := by decide +kernel
theorem dX10_whole_26 : decode cX10_whole 26 = .ok (.getfield 52, 3) := by decide +kernel
theorem dX10_whole_29 : decode cX10_whole 29 = .ok (.iload 4, 2) := by decide +kernel
theorem dX10_whole_31 : decode cX10_whole 31 = .ok (.invokeinterface 184 2, 5) := by decide +kernel
theorem dX10_whole_36 : decode cX10_whole 36 = .ok (.checkcast 257, 3) := by decide +kernel
theorem dX10_whole_39 : decode cX10_whole 39 = .ok (.astore 5, 2) := by decide +kernel
theorem dX10_whole_41 : decode cX10_whole 41 = .ok (.aload 5, 2) := by decide +kernel
theorem dX10_whole_43 : decode cX10_whole 43 = .ok (.aload_n 2, 1) := by decide +kernel
theorem dX10_whole_44 : decode cX10_whole 44 = .ok (.invokevirtual 351, 3) := by decide +kernel
theorem dX10_whole_47 : decode cX10_whole 47 = .ok (.ifCond .eq 17, 3) := by decide +kernel
theorem dX10_whole_50 : decode cX10_whole 50 = .ok (.iload_n 3, 1) := by decide +kernel
theorem dX10_whole_51 : decode cX10_whole 51 = .ok (.aload 5, 2) := by decide +kernel
theorem dX10_whole_53 : decode cX10_whole 53 = .ok (.getfield 301, 3) := by decide +kernel
theorem dX10_whole_56 : decode cX10_whole 56 = .ok (.aload 5, 2) := by decide +kernel
theorem dX10_whole_58 : decode cX10_whole 58 = .ok (.getfield 310, 3) := by decide +kernel
theorem dX10_whole_61 : decode cX10_whole 61 = .ok (.iadd, 1) := by decide +kernel
theorem dX10_whole_62 : decode cX10_whole 62 = .ok (.iadd, 1) := by decide +kernel
theorem dX10_whole_63 : decode cX10_whole 63 = .ok (.istore_n 3, 1) := by decide +kernel
theorem dX10_whole_64 : decode cX10_whole 64 = .ok (.iinc 4 1, 3) := by decide +kernel
theorem dX10_whole_67 : decode cX10_whole 67 = .ok (.goto (-56), 3) := by decide +kernel
theorem dX10_whole_70 : decode cX10_whole 70 = .ok (.iload_n 3, 1) := by decide +kernel
theorem dX10_whole_71 : decode cX10_whole 71 = .ok (.ireturn, 1) := by decide +kernel
theorem dX10_requireRange_0 : decode cX10_requireRange 0 = .ok (.iload_n 0, 1) := by decide +kernel
theorem dX10_requireRange_1 : decode cX10_requireRange 1 = .ok (.iload_n 1, 1) := by decide +kernel
theorem dX10_requireRange_2 : decode cX10_requireRange 2 = .ok (.if_icmp .lt 8, 3) := by decide +kernel
theorem dX10_requireRange_5 : decode cX10_requireRange 5 = .ok (.iload_n 0, 1) := by decide +kernel
theorem dX10_requireRange_6 : decode cX10_requireRange 6 = .ok (.iload_n 2, 1) := by decide +kernel
theorem dX10_requireRange_7 : decode cX10_requireRange 7 = .ok (.if_icmp .le 14, 3) := by decide +kernel
theorem dX10_requireRange_10 : decode cX10_requireRange 10 = .ok (.new 287, 3) := by decide +kernel
theorem dX10_requireRange_13 : decode cX10_requireRange 13 = .ok (.dup, 1) := by decide +kernel
theorem dX10_requireRange_14 : decode cX10_requireRange 14 = .ok (.ldc_w 354, 3) := by decide +kernel
theorem dX10_requireRange_17 : decode cX10_requireRange 17 = .ok (.invokespecial 291, 3) := by decide +kernel
theorem dX10_requireRange_20 : decode cX10_requireRange 20 = .ok (.athrow, 1) := by decide +kernel
theorem dX10_requireRange_21 : decode cX10_requireRange 21 = .ok (.return_, 1) := by decide +kernel
theorem dX10_requireCell_0 : decode cX10_requireCell 0 = .ok (.iload_n 0, 1) := by decide +kernel
theorem dX10_requireCell_1 : decode cX10_requireCell 1 = .ok (.iconst 0, 1) := by decide +kernel
theorem dX10_requireCell_2 : decode cX10_requireCell 2 = .ok (.bipush 99, 2) := by decide +kernel
theorem dX10_requireCell_4 : decode cX10_requireCell 4 = .ok (.invokestatic 81, 3) := by decide +kernel
theorem dX10_requireCell_7 : decode cX10_requireCell 7 = .ok (.iload_n 1, 1) := by decide +kernel
theorem dX10_requireCell_8 : decode cX10_requireCell 8 = .ok (.iconst 0, 1) := by decide +kernel
theorem dX10_requireCell_9 : decode cX10_requireCell 9 = .ok (.bipush 99, 2) := by decide +kernel
theorem dX10_requireCell_11 : decode cX10_requireCell 11 = .ok (.invokestatic 81, 3) := by decide +kernel
theorem dX10_requireCell_14 : decode cX10_requireCell 14 = .ok (.return_, 1) := by decide +kernel
theorem dX10_requireNight_0 : decode cX10_requireNight 0 = .ok (.iload_n 0, 1) := by decide +kernel
theorem dX10_requireNight_1 : decode cX10_requireNight 1 = .ok (.iconst 0, 1) := by decide +kernel
theorem dX10_requireNight_2 : decode cX10_requireNight 2 = .ok (.sipush 3649, 3) := by decide +kernel
theorem dX10_requireNight_5 : decode cX10_requireNight 5 = .ok (.invokestatic 81, 3) := by decide +kernel
theorem dX10_requireNight_8 : decode cX10_requireNight 8 = .ok (.return_, 1) := by decide +kernel
theorem dX10_requireDirection_0 : decode cX10_requireDirection 0 = .ok (.iload_n 0, 1) := by decide +kernel
theorem dX10_requireDirection_1 : decode cX10_requireDirection 1 = .ok (.bipush (-100), 2) := by decide +kernel
theorem dX10_requireDirection_3 : decode cX10_requireDirection 3 = .ok (.bipush 100, 2) := by decide +kernel
theorem dX10_requireDirection_5 : decode cX10_requireDirection 5 = .ok (.invokestatic 81, 3) := by decide +kernel
theorem dX10_requireDirection_8 : decode cX10_requireDirection 8 = .ok (.iload_n 1, 1) := by decide +kernel
theorem dX10_requireDirection_9 : decode cX10_requireDirection 9 = .ok (.bipush (-100), 2) := by decide +kernel
theorem dX10_requireDirection_11 : decode cX10_requireDirection 11 = .ok (.bipush 100, 2) := by decide +kernel
theorem dX10_requireDirection_13 : decode cX10_requireDirection 13 = .ok (.invokestatic 81, 3) := by decide +kernel
theorem dX10_requireDirection_16 : decode cX10_requireDirection 16 = .ok (.iload_n 0, 1) := by decide +kernel
theorem dX10_requireDirection_17 : decode cX10_requireDirection 17 = .ok (.ifCond .ne 18, 3) := by decide +kernel
theorem dX10_requireDirection_20 : decode cX10_requireDirection 20 = .ok (.iload_n 1, 1) := by decide +kernel
theorem dX10_requireDirection_21 : decode cX10_requireDirection 21 = .ok (.ifCond .ne 14, 3) := by decide +kernel
theorem dX10_requireDirection_24 : decode cX10_requireDirection 24 = .ok (.new 287, 3) := by decide +kernel
theorem dX10_requireDirection_27 : decode cX10_requireDirection 27 = .ok (.dup, 1) := by decide +kernel
theorem dX10_requireDirection_28 : decode cX10_requireDirection 28 = .ok (.ldc_w 356, 3) := by decide +kernel
theorem dX10_requireDirection_31 : decode cX10_requireDirection 31 = .ok (.invokespecial 291, 3) := by decide +kernel
theorem dX10_requireDirection_34 : decode cX10_requireDirection 34 = .ok (.athrow, 1) := by decide +kernel
theorem dX10_requireDirection_35 : decode cX10_requireDirection 35 = .ok (.return_, 1) := by decide +kernel
theorem dX10_existingCamera_0 : decode cX10_existingCamera 0 = .ok (.iload_n 1, 1) := by decide +kernel
theorem dX10_existingCamera_1 : decode cX10_existingCamera 1 = .ok (.ifCond .lt 16, 3) := by decide +kernel
theorem dX10_existingCamera_4 : decode cX10_existingCamera 4 = .ok (.iload_n 1, 1) := by decide +kernel
theorem dX10_existingCamera_5 : decode cX10_existingCamera 5 = .ok (.aload_n 0, 1) := by decide +kernel
theorem dX10_existingCamera_6 : decode cX10_existingCamera 6 = .ok (.getfield 10, 3) := by decide +kernel
theorem dX10_existingCamera_9 : decode cX10_existingCamera 9 = .ok (.invokeinterface 85 1, 5) := by decide +kernel
theorem dX10_existingCamera_14 : decode cX10_existingCamera 14 = .ok (.if_icmp .lt 14, 3) := by decide +kernel
theorem dX10_existingCamera_17 : decode cX10_existingCamera 17 = .ok (.new 358, 3) := by decide +kernel
theorem dX10_existingCamera_20 : decode cX10_existingCamera 20 = .ok (.dup, 1) := by decide +kernel
theorem dX10_existingCamera_21 : decode cX10_existingCamera 21 = .ok (.ldc_w 360, 3) := by decide +kernel
theorem dX10_existingCamera_24 : decode cX10_existingCamera 24 = .ok (.invokespecial 362, 3) := by decide +kernel
theorem dX10_existingCamera_27 : decode cX10_existingCamera 27 = .ok (.athrow, 1) := by decide +kernel
theorem dX10_existingCamera_28 : decode cX10_existingCamera 28 = .ok (.aload_n 0, 1) := by decide +kernel
theorem dX10_existingCamera_29 : decode cX10_existingCamera 29 = .ok (.getfield 10, 3) := by decide +kernel
theorem dX10_existingCamera_32 : decode cX10_existingCamera 32 = .ok (.iload_n 1, 1) := by decide +kernel
theorem dX10_existingCamera_33 : decode cX10_existingCamera 33 = .ok (.invokeinterface 184 2, 5) := by decide +kernel
theorem dX10_existingCamera_38 : decode cX10_existingCamera 38 = .ok (.checkcast 96, 3) := by decide +kernel
theorem dX10_existingCamera_41 : decode cX10_existingCamera 41 = .ok (.areturn, 1) := by decide +kernel
theorem dX10_existingSighting_0 : decode cX10_existingSighting 0 = .ok (.iload_n 1, 1) := by decide +kernel
theorem dX10_existingSighting_1 : decode cX10_existingSighting 1 = .ok (.ifCond .lt 16, 3) := by decide +kernel
theorem dX10_existingSighting_4 : decode cX10_existingSighting 4 = .ok (.iload_n 1, 1) := by decide +kernel
theorem dX10_existingSighting_5 : decode cX10_existingSighting 5 = .ok (.aload_n 0, 1) := by decide +kernel
theorem dX10_existingSighting_6 : decode cX10_existingSighting 6 = .ok (.getfield 19, 3) := by decide +kernel
theorem dX10_existingSighting_9 : decode cX10_existingSighting 9 = .ok (.invokeinterface 85 1, 5) := by decide +kernel
theorem dX10_existingSighting_14 : decode cX10_existingSighting 14 = .ok (.if_icmp .lt 14, 3) := by decide +kernel
theorem dX10_existingSighting_17 : decode cX10_existingSighting 17 = .ok (.new 358, 3) := by decide +kernel
theorem dX10_existingSighting_20 : decode cX10_existingSighting 20 = .ok (.dup, 1) := by decide +kernel
theorem dX10_existingSighting_21 : decode cX10_existingSighting 21 = .ok (.ldc_w 363, 3) := by decide +kernel
theorem dX10_existingSighting_24 : decode cX10_existingSighting 24 = .ok (.invokespecial 362, 3) := by decide +kernel
theorem dX10_existingSighting_27 : decode cX10_existingSighting 27 = .ok (.athrow, 1) := by decide +kernel
theorem dX10_existingSighting_28 : decode cX10_existingSighting 28 = .ok (.aload_n 0, 1) := by decide +kernel
theorem dX10_existingSighting_29 : decode cX10_existingSighting 29 = .ok (.getfield 19, 3) := by decide +kernel
theorem dX10_existingSighting_32 : decode cX10_existingSighting 32 = .ok (.iload_n 1, 1) := by decide +kernel
theorem dX10_existingSighting_33 : decode cX10_existingSighting 33 = .ok (.invokeinterface 184 2, 5) := by decide +kernel
theorem dX10_existingSighting_38 : decode cX10_existingSighting 38 = .ok (.checkcast 140, 3) := by decide +kernel
theorem dX10_existingSighting_41 : decode cX10_existingSighting 41 = .ok (.areturn, 1) := by decide +kernel
theorem dX10_existingFireball_0 : decode cX10_existingFireball 0 = .ok (.iload_n 1, 1) := by decide +kernel
theorem dX10_existingFireball_1 : decode cX10_existingFireball 1 = .ok (.ifCond .lt 35, 3) := by decide +kernel
theorem dX10_existingFireball_4 : decode cX10_existingFireball 4 = .ok (.iload_n 1, 1) := by decide +kernel
theorem dX10_existingFireball_5 : decode cX10_existingFireball 5 = .ok (.aload_n 0, 1) := by decide +kernel
theorem dX10_existingFireball_6 : decode cX10_existingFireball 6 = .ok (.getfield 26, 3) := by decide +kernel
theorem dX10_existingFireball_9 : decode cX10_existingFireball 9 = .ok (.invokeinterface 85 1, 5) := by decide +kernel
theorem dX10_existingFireball_14 : decode cX10_existingFireball 14 = .ok (.if_icmp .ge 22, 3) := by decide +kernel
theorem dX10_existingFireball_17 : decode cX10_existingFireball 17 = .ok (.aload_n 0, 1) := by decide +kernel
theorem dX10_existingFireball_18 : decode cX10_existingFireball 18 = .ok (.getfield 26, 3) := by decide +kernel
theorem dX10_existingFireball_21 : decode cX10_existingFireball 21 = .ok (.iload_n 1, 1) := by decide +kernel
theorem dX10_existingFireball_22 : decode cX10_existingFireball 22 = .ok (.invokeinterface 184 2, 5) := by decide +kernel
theorem dX10_existingFireball_27 : decode cX10_existingFireball 27 = .ok (.checkcast 68, 3) := by decide +kernel
theorem dX10_existingFireball_30 : decode cX10_existingFireball 30 = .ok (.invokevirtual 365, 3) := by decide +kernel
theorem dX10_existingFireball_33 : decode cX10_existingFireball 33 = .ok (.ifCond .ne 14, 3) := by decide +kernel
theorem dX10_existingFireball_36 : decode cX10_existingFireball 36 = .ok (.new 358, 3) := by decide +kernel
theorem dX10_existingFireball_39 : decode cX10_existingFireball 39 = .ok (.dup, 1) := by decide +kernel
theorem dX10_existingFireball_40 : decode cX10_existingFireball 40 = .ok (.ldc_w 368, 3) := by decide +kernel
theorem dX10_existingFireball_43 : decode cX10_existingFireball 43 = .ok (.invokespecial 362, 3) := by decide +kernel
theorem dX10_existingFireball_46 : decode cX10_existingFireball 46 = .ok (.athrow, 1) := by decide +kernel
theorem dX10_existingFireball_47 : decode cX10_existingFireball 47 = .ok (.aload_n 0, 1) := by decide +kernel
theorem dX10_existingFireball_48 : decode cX10_existingFireball 48 = .ok (.getfield 26, 3) := by decide +kernel
theorem dX10_existingFireball_51 : decode cX10_existingFireball 51 = .ok (.iload_n 1, 1) := by decide +kernel
theorem dX10_existingFireball_52 : decode cX10_existingFireball 52 = .ok (.invokeinterface 184 2, 5) := by decide +kernel
theorem dX10_existingFireball_57 : decode cX10_existingFireball 57 = .ok (.checkcast 68, 3) := by decide +kernel
theorem dX10_existingFireball_60 : decode cX10_existingFireball 60 = .ok (.areturn, 1) := by decide +kernel
theorem dX10_existingStone_0 : decode cX10_existingStone 0 = .ok (.iload_n 1, 1) := by decide +kernel
theorem dX10_existingStone_1 : decode cX10_existingStone 1 = .ok (.ifCond .lt 16, 3) := by decide +kernel
theorem dX10_existingStone_4 : decode cX10_existingStone 4 = .ok (.iload_n 1, 1) := by decide +kernel
theorem dX10_existingStone_5 : decode cX10_existingStone 5 = .ok (.aload_n 0, 1) := by decide +kernel
theorem dX10_existingStone_6 : decode cX10_existingStone 6 = .ok (.getfield 52, 3) := by decide +kernel
theorem dX10_existingStone_9 : decode cX10_existingStone 9 = .ok (.invokeinterface 85 1, 5) := by decide +kernel
theorem dX10_existingStone_14 : decode cX10_existingStone 14 = .ok (.if_icmp .lt 14, 3) := by decide +kernel
theorem dX10_existingStone_17 : decode cX10_existingStone 17 = .ok (.new 358, 3) := by decide +kernel
theorem dX10_existingStone_20 : decode cX10_existingStone 20 = .ok (.dup, 1) := by decide +kernel
theorem dX10_existingStone_21 : decode cX10_existingStone 21 = .ok (.ldc_w 370, 3) := by decide +kernel
theorem dX10_existingStone_24 : decode cX10_existingStone 24 = .ok (.invokespecial 362, 3) := by decide +kernel
theorem dX10_existingStone_27 : decode cX10_existingStone 27 = .ok (.athrow, 1) := by decide +kernel
theorem dX10_existingStone_28 : decode cX10_existingStone 28 = .ok (.aload_n 0, 1) := by decide +kernel
theorem dX10_existingStone_29 : decode cX10_existingStone 29 = .ok (.getfield 52, 3) := by decide +kernel
theorem dX10_existingStone_32 : decode cX10_existingStone 32 = .ok (.iload_n 1, 1) := by decide +kernel
theorem dX10_existingStone_33 : decode cX10_existingStone 33 = .ok (.invokeinterface 184 2, 5) := by decide +kernel
theorem dX10_existingStone_38 : decode cX10_existingStone 38 = .ok (.checkcast 257, 3) := by decide +kernel
theorem dX10_existingStone_41 : decode cX10_existingStone 41 = .ok (.areturn, 1) := by decide +kernel
theorem dX10_cloudyNights_0 : decode cX10_cloudyNights 0 = .ok (.iconst 0, 1) := by decide +kernel
theorem dX10_cloudyNights_1 : decode cX10_cloudyNights 1 = .ok (.istore 4, 2) := by decide +kernel
theorem dX10_cloudyNights_3 : decode cX10_cloudyNights 3 = .ok (.iconst 0, 1) := by decide +kernel
theorem dX10_cloudyNights_4 : decode cX10_cloudyNights 4 = .ok (.istore 5, 2) := by decide +kernel
theorem dX10_cloudyNights_6 : decode cX10_cloudyNights 6 = .ok (.iload 5, 2) := by decide +kernel
theorem dX10_cloudyNights_8 : decode cX10_cloudyNights 8 = .ok (.aload_n 0, 1) := by decide +kernel
theorem dX10_cloudyNights_9 : decode cX10_cloudyNights 9 = .ok (.getfield 16, 3) := by decide +kernel
theorem dX10_cloudyNights_12 : decode cX10_cloudyNights 12 = .ok (.invokeinterface 85 1, 5) := by decide +kernel
theorem dX10_cloudyNights_17 : decode cX10_cloudyNights 17 = .ok (.if_icmp .ge 55, 3) := by decide +kernel
theorem dX10_cloudyNights_20 : decode cX10_cloudyNights 20 = .ok (.aload_n 0, 1) := by decide +kernel
theorem dX10_cloudyNights_21 : decode cX10_cloudyNights 21 = .ok (.getfield 16, 3) := by decide +kernel
theorem dX10_cloudyNights_24 : decode cX10_cloudyNights 24 = .ok (.iload 5, 2) := by decide +kernel
theorem dX10_cloudyNights_26 : decode cX10_cloudyNights 26 = .ok (.invokeinterface 184 2, 5) := by decide +kernel
theorem dX10_cloudyNights_31 : decode cX10_cloudyNights 31 = .ok (.checkcast 128, 3) := by decide +kernel
theorem dX10_cloudyNights_34 : decode cX10_cloudyNights 34 = .ok (.astore 6, 2) := by decide +kernel
theorem dX10_cloudyNights_36 : decode cX10_cloudyNights 36 = .ok (.aload 6, 2) := by decide +kernel
theorem dX10_cloudyNights_38 : decode cX10_cloudyNights 38 = .ok (.getfield 372, 3) := by decide +kernel
theorem dX10_cloudyNights_41 : decode cX10_cloudyNights 41 = .ok (.aload_n 1, 1) := by decide +kernel
theorem dX10_cloudyNights_42 : decode cX10_cloudyNights 42 = .ok (.if_acmp .ne 24, 3) := by decide +kernel
theorem dX10_cloudyNights_45 : decode cX10_cloudyNights 45 = .ok (.aload 6, 2) := by decide +kernel
theorem dX10_cloudyNights_47 : decode cX10_cloudyNights 47 = .ok (.getfield 373, 3) := by decide +kernel
theorem dX10_cloudyNights_50 : decode cX10_cloudyNights 50 = .ok (.iload_n 2, 1) := by decide +kernel
theorem dX10_cloudyNights_51 : decode cX10_cloudyNights 51 = .ok (.if_icmp .lt 15, 3) := by decide +kernel
theorem dX10_cloudyNights_54 : decode cX10_cloudyNights 54 = .ok (.aload 6, 2) := by decide +kernel
theorem dX10_cloudyNights_56 : decode cX10_cloudyNights 56 = .ok (.getfield 373, 3) := by decide +kernel
theorem dX10_cloudyNights_59 : decode cX10_cloudyNights 59 = .ok (.iload_n 3, 1) := by decide +kernel
theorem dX10_cloudyNights_60 : decode cX10_cloudyNights 60 = .ok (.if_icmp .gt 6, 3) := by decide +kernel
theorem dX10_cloudyNights_63 : decode cX10_cloudyNights 63 = .ok (.iinc 4 1, 3) := by decide +kernel
theorem dX10_cloudyNights_66 : decode cX10_cloudyNights 66 = .ok (.iinc 5 1, 3) := by decide +kernel
theorem dX10_cloudyNights_69 : decode cX10_cloudyNights 69 = .ok (.goto (-63), 3) := by decide +kernel
theorem dX10_cloudyNights_72 : decode cX10_cloudyNights 72 = .ok (.iload 4, 2) := by decide +kernel
theorem dX10_cloudyNights_74 : decode cX10_cloudyNights 74 = .ok (.ireturn, 1) := by decide +kernel
theorem dX10_isCloudy_0 : decode cX10_isCloudy 0 = .ok (.aload_n 0, 1) := by decide +kernel
theorem dX10_isCloudy_1 : decode cX10_isCloudy 1 = .ok (.aload_n 1, 1) := by decide +kernel
theorem dX10_isCloudy_2 : decode cX10_isCloudy 2 = .ok (.iload_n 2, 1) := by decide +kernel
theorem dX10_isCloudy_3 : decode cX10_isCloudy 3 = .ok (.iload_n 2, 1) := by decide +kernel
theorem dX10_isCloudy_4 : decode cX10_isCloudy 4 = .ok (.invokevirtual 133, 3) := by decide +kernel
theorem dX10_isCloudy_7 : decode cX10_isCloudy 7 = .ok (.ifCond .le 7, 3) := by decide +kernel
theorem dX10_isCloudy_10 : decode cX10_isCloudy 10 = .ok (.iconst 1, 1) := by decide +kernel
theorem dX10_isCloudy_11 : decode cX10_isCloudy 11 = .ok (.goto 4, 3) := by decide +kernel
theorem dX10_isCloudy_14 : decode cX10_isCloudy 14 = .ok (.iconst 0, 1) := by decide +kernel
theorem dX10_isCloudy_15 : decode cX10_isCloudy 15 = .ok (.ireturn, 1) := by decide +kernel
theorem dX10_hasSighting_0 : decode cX10_hasSighting 0 = .ok (.iconst 0, 1) := by decide +kernel
theorem dX10_hasSighting_1 : decode cX10_hasSighting 1 = .ok (.istore_n 3, 1) := by decide +kernel
theorem dX10_hasSighting_2 : decode cX10_hasSighting 2 = .ok (.iload_n 3, 1) := by decide +kernel
theorem dX10_hasSighting_3 : decode cX10_hasSighting 3 = .ok (.aload_n 0, 1) := by decide +kernel
theorem dX10_hasSighting_4 : decode cX10_hasSighting 4 = .ok (.getfield 19, 3) := by decide +kernel
theorem dX10_hasSighting_7 : decode cX10_hasSighting 7 = .ok (.invokeinterface 85 1, 5) := by decide +kernel
theorem dX10_hasSighting_12 : decode cX10_hasSighting 12 = .ok (.if_icmp .ge 44, 3) := by decide +kernel
theorem dX10_hasSighting_15 : decode cX10_hasSighting 15 = .ok (.aload_n 0, 1) := by decide +kernel
theorem dX10_hasSighting_16 : decode cX10_hasSighting 16 = .ok (.getfield 19, 3) := by decide +kernel
theorem dX10_hasSighting_19 : decode cX10_hasSighting 19 = .ok (.iload_n 3, 1) := by decide +kernel
theorem dX10_hasSighting_20 : decode cX10_hasSighting 20 = .ok (.invokeinterface 184 2, 5) := by decide +kernel
theorem dX10_hasSighting_25 : decode cX10_hasSighting 25 = .ok (.checkcast 140, 3) := by decide +kernel
theorem dX10_hasSighting_28 : decode cX10_hasSighting 28 = .ok (.astore 4, 2) := by decide +kernel
theorem dX10_hasSighting_30 : decode cX10_hasSighting 30 = .ok (.aload 4, 2) := by decide +kernel
theorem dX10_hasSighting_32 : decode cX10_hasSighting 32 = .ok (.getfield 150, 3) := by decide +kernel
theorem dX10_hasSighting_35 : decode cX10_hasSighting 35 = .ok (.aload_n 1, 1) := by decide +kernel
theorem dX10_hasSighting_36 : decode cX10_hasSighting 36 = .ok (.if_acmp .ne 14, 3) := by decide +kernel
theorem dX10_hasSighting_39 : decode cX10_hasSighting 39 = .ok (.aload 4, 2) := by decide +kernel
theorem dX10_hasSighting_41 : decode cX10_hasSighting 41 = .ok (.getfield 154, 3) := by decide +kernel
theorem dX10_hasSighting_44 : decode cX10_hasSighting 44 = .ok (.iload_n 2, 1) := by decide +kernel
theorem dX10_hasSighting_45 : decode cX10_hasSighting 45 = .ok (.if_icmp .ne 5, 3) := by decide +kernel
theorem dX10_hasSighting_48 : decode cX10_hasSighting 48 = .ok (.iconst 1, 1) := by decide +kernel
theorem dX10_hasSighting_49 : decode cX10_hasSighting 49 = .ok (.ireturn, 1) := by decide +kernel
theorem dX10_hasSighting_50 : decode cX10_hasSighting 50 = .ok (.iinc 3 1, 3) := by decide +kernel
theorem dX10_hasSighting_53 : decode cX10_hasSighting 53 = .ok (.goto (-51), 3) := by decide +kernel
theorem dX10_hasSighting_56 : decode cX10_hasSighting 56 = .ok (.iconst 0, 1) := by decide +kernel
theorem dX10_hasSighting_57 : decode cX10_hasSighting 57 = .ok (.ireturn, 1) := by decide +kernel
theorem dX10_gatherFireballs_0 : decode cX10_gatherFireballs 0 = .ok (.iconst 0, 1) := by decide +kernel
theorem dX10_gatherFireballs_1 : decode cX10_gatherFireballs 1 = .ok (.istore_n 1, 1) := by decide +kernel
theorem dX10_gatherFireballs_2 : decode cX10_gatherFireballs 2 = .ok (.iload_n 1, 1) := by decide +kernel
theorem dX10_gatherFireballs_3 : decode cX10_gatherFireballs 3 = .ok (.aload_n 0, 1) := by decide +kernel
theorem dX10_gatherFireballs_4 : decode cX10_gatherFireballs 4 = .ok (.getfield 26, 3) := by decide +kernel
theorem dX10_gatherFireballs_7 : decode cX10_gatherFireballs 7 = .ok (.invokeinterface 85 1, 5) := by decide +kernel
theorem dX10_gatherFireballs_12 : decode cX10_gatherFireballs 12 = .ok (.if_icmp .ge 25, 3) := by decide +kernel
theorem dX10_gatherFireballs_15 : decode cX10_gatherFireballs 15 = .ok (.aload_n 0, 1) := by decide +kernel
theorem dX10_gatherFireballs_16 : decode cX10_gatherFireballs 16 = .ok (.getfield 26, 3) := by decide +kernel
theorem dX10_gatherFireballs_19 : decode cX10_gatherFireballs 19 = .ok (.iload_n 1, 1) := by decide +kernel
theorem dX10_gatherFireballs_20 : decode cX10_gatherFireballs 20 = .ok (.invokeinterface 184 2, 5) := by decide +kernel
theorem dX10_gatherFireballs_25 : decode cX10_gatherFireballs 25 = .ok (.checkcast 68, 3) := by decide +kernel
theorem dX10_gatherFireballs_28 : decode cX10_gatherFireballs 28 = .ok (.invokevirtual 374, 3) := by decide +kernel
theorem dX10_gatherFireballs_31 : decode cX10_gatherFireballs 31 = .ok (.iinc 1 1, 3) := by decide +kernel
theorem dX10_gatherFireballs_34 : decode cX10_gatherFireballs 34 = .ok (.goto (-32), 3) := by decide +kernel
theorem dX10_gatherFireballs_37 : decode cX10_gatherFireballs 37 = .ok (.aload_n 0, 1) := by decide +kernel
theorem dX10_gatherFireballs_38 : decode cX10_gatherFireballs 38 = .ok (.invokevirtual 377, 3) := by decide +kernel
theorem dX10_gatherFireballs_41 : decode cX10_gatherFireballs 41 = .ok (.iconst 0, 1) := by decide +kernel
theorem dX10_gatherFireballs_42 : decode cX10_gatherFireballs 42 = .ok (.istore_n 1, 1) := by decide +kernel
theorem dX10_gatherFireballs_43 : decode cX10_gatherFireballs 43 = .ok (.iload_n 1, 1) := by decide +kernel
theorem dX10_gatherFireballs_44 : decode cX10_gatherFireballs 44 = .ok (.aload_n 0, 1) := by decide +kernel
theorem dX10_gatherFireballs_45 : decode cX10_gatherFireballs 45 = .ok (.getfield 19, 3) := by decide +kernel
theorem dX10_gatherFireballs_48 : decode cX10_gatherFireballs 48 = .ok (.invokeinterface 85 1, 5) := by decide +kernel
theorem dX10_gatherFireballs_53 : decode cX10_gatherFireballs 53 = .ok (.if_icmp .ge 71, 3) := by decide +kernel
theorem dX10_gatherFireballs_56 : decode cX10_gatherFireballs 56 = .ok (.aload_n 0, 1) := by decide +kernel
theorem dX10_gatherFireballs_57 : decode cX10_gatherFireballs 57 = .ok (.getfield 19, 3) := by decide +kernel
theorem dX10_gatherFireballs_60 : decode cX10_gatherFireballs 60 = .ok (.iload_n 1, 1) := by decide +kernel
theorem dX10_gatherFireballs_61 : decode cX10_gatherFireballs 61 = .ok (.invokeinterface 184 2, 5) := by decide +kernel
theorem dX10_gatherFireballs_66 : decode cX10_gatherFireballs 66 = .ok (.checkcast 140, 3) := by decide +kernel
theorem dX10_gatherFireballs_69 : decode cX10_gatherFireballs 69 = .ok (.astore_n 2, 1) := by decide +kernel
theorem dX10_gatherFireballs_70 : decode cX10_gatherFireballs 70 = .ok (.aload_n 2, 1) := by decide +kernel
theorem dX10_gatherFireballs_71 : decode cX10_gatherFireballs 71 = .ok (.getfield 180, 3) := by decide +kernel
theorem dX10_gatherFireballs_74 : decode cX10_gatherFireballs 74 = .ok (.lconst 0, 1) := by decide +kernel
theorem dX10_gatherFireballs_75 : decode cX10_gatherFireballs 75 = .ok (.lcmp, 1) := by decide +kernel
theorem dX10_gatherFireballs_76 : decode cX10_gatherFireballs 76 = .ok (.ifCond .eq 42, 3) := by decide +kernel
theorem dX10_gatherFireballs_79 : decode cX10_gatherFireballs 79 = .ok (.aload_n 2, 1) := by decide +kernel
theorem dX10_gatherFireballs_80 : decode cX10_gatherFireballs 80 = .ok (.getfield 177, 3) := by decide +kernel
theorem dX10_gatherFireballs_83 : decode cX10_gatherFireballs 83 = .ok (.iconst (-1), 1) := by decide +kernel
theorem dX10_gatherFireballs_84 : decode cX10_gatherFireballs 84 = .ok (.if_icmp .ne 34, 3) := by decide +kernel
theorem dX10_gatherFireballs_87 : decode cX10_gatherFireballs 87 = .ok (.iload_n 1, 1) := by decide +kernel
theorem dX10_gatherFireballs_88 : decode cX10_gatherFireballs 88 = .ok (.aload_n 0, 1) := by decide +kernel
theorem dX10_gatherFireballs_89 : decode cX10_gatherFireballs 89 = .ok (.getfield 26, 3) := by decide +kernel
theorem dX10_gatherFireballs_92 : decode cX10_gatherFireballs 92 = .ok (.invokeinterface 85 1, 5) := by decide +kernel
theorem dX10_gatherFireballs_97 : decode cX10_gatherFireballs 97 = .ok (.if_icmp .ge 21, 3) := by decide +kernel
theorem dX10_gatherFireballs_100 : decode cX10_gatherFireballs 100 = .ok (.aload_n 0, 1) := by decide +kernel
theorem dX10_gatherFireballs_101 : decode cX10_gatherFireballs 101 = .ok (.aload_n 0, 1) := by decide +kernel
theorem dX10_gatherFireballs_102 : decode cX10_gatherFireballs 102 = .ok (.getfield 26, 3) := by decide +kernel
theorem dX10_gatherFireballs_105 : decode cX10_gatherFireballs 105 = .ok (.iload_n 1, 1) := by decide +kernel
theorem dX10_gatherFireballs_106 : decode cX10_gatherFireballs 106 = .ok (.invokeinterface 184 2, 5) := by decide +kernel
theorem dX10_gatherFireballs_111 : decode cX10_gatherFireballs 111 = .ok (.checkcast 68, 3) := by decide +kernel
theorem dX10_gatherFireballs_114 : decode cX10_gatherFireballs 114 = .ok (.iload_n 1, 1) := by decide +kernel
theorem dX10_gatherFireballs_115 : decode cX10_gatherFireballs 115 = .ok (.invokevirtual 380, 3) := by decide +kernel
theorem dX10_gatherFireballs_118 : decode cX10_gatherFireballs 118 = .ok (.iinc 1 1, 3) := by decide +kernel
theorem dX10_gatherFireballs_121 : decode cX10_gatherFireballs 121 = .ok (.goto (-78), 3) := by decide +kernel
theorem dX10_gatherFireballs_124 : decode cX10_gatherFireballs 124 = .ok (.return_, 1) := by decide +kernel
theorem dX10_joinSightings_0 : decode cX10_joinSightings 0 = .ok (.iconst 0, 1) := by decide +kernel
theorem dX10_joinSightings_1 : decode cX10_joinSightings 1 = .ok (.istore_n 1, 1) := by decide +kernel
theorem dX10_joinSightings_2 : decode cX10_joinSightings 2 = .ok (.iload_n 1, 1) := by decide +kernel
theorem dX10_joinSightings_3 : decode cX10_joinSightings 3 = .ok (.aload_n 0, 1) := by decide +kernel
theorem dX10_joinSightings_4 : decode cX10_joinSightings 4 = .ok (.getfield 19, 3) := by decide +kernel
theorem dX10_joinSightings_7 : decode cX10_joinSightings 7 = .ok (.invokeinterface 85 1, 5) := by decide +kernel
theorem dX10_joinSightings_12 : decode cX10_joinSightings 12 = .ok (.if_icmp .ge 96, 3) := by decide +kernel
theorem dX10_joinSightings_15 : decode cX10_joinSightings 15 = .ok (.aload_n 0, 1) := by decide +kernel
theorem dX10_joinSightings_16 : decode cX10_joinSightings 16 = .ok (.getfield 19, 3) := by decide +kernel
theorem dX10_joinSightings_19 : decode cX10_joinSightings 19 = .ok (.iload_n 1, 1) := by decide +kernel
theorem dX10_joinSightings_20 : decode cX10_joinSightings 20 = .ok (.invokeinterface 184 2, 5) := by decide +kernel
theorem dX10_joinSightings_25 : decode cX10_joinSightings 25 = .ok (.checkcast 140, 3) := by decide +kernel
theorem dX10_joinSightings_28 : decode cX10_joinSightings 28 = .ok (.astore_n 2, 1) := by decide +kernel
theorem dX10_joinSightings_29 : decode cX10_joinSightings 29 = .ok (.aload_n 2, 1) := by decide +kernel
theorem dX10_joinSightings_30 : decode cX10_joinSightings 30 = .ok (.lconst 0, 1) := by decide +kernel
theorem dX10_joinSightings_31 : decode cX10_joinSightings 31 = .ok (.putfield 180, 3) := by decide +kernel
theorem dX10_joinSightings_34 : decode cX10_joinSightings 34 = .ok (.aload_n 2, 1) := by decide +kernel
theorem dX10_joinSightings_35 : decode cX10_joinSightings 35 = .ok (.iconst (-1), 1) := by decide +kernel
theorem dX10_joinSightings_36 : decode cX10_joinSightings 36 = .ok (.putfield 177, 3) := by decide +kernel
theorem dX10_joinSightings_39 : decode cX10_joinSightings 39 = .ok (.iconst 0, 1) := by decide +kernel
theorem dX10_joinSightings_40 : decode cX10_joinSightings 40 = .ok (.istore_n 3, 1) := by decide +kernel
theorem dX10_joinSightings_41 : decode cX10_joinSightings 41 = .ok (.iload_n 3, 1) := by decide +kernel
theorem dX10_joinSightings_42 : decode cX10_joinSightings 42 = .ok (.iload_n 1, 1) := by decide +kernel
theorem dX10_joinSightings_43 : decode cX10_joinSightings 43 = .ok (.if_icmp .ge 59, 3) := by decide +kernel
theorem dX10_joinSightings_46 : decode cX10_joinSightings 46 = .ok (.aload_n 0, 1) := by decide +kernel
theorem dX10_joinSightings_47 : decode cX10_joinSightings 47 = .ok (.getfield 19, 3) := by decide +kernel
theorem dX10_joinSightings_50 : decode cX10_joinSightings 50 = .ok (.iload_n 3, 1) := by decide +kernel
theorem dX10_joinSightings_51 : decode cX10_joinSightings 51 = .ok (.invokeinterface 184 2, 5) := by decide +kernel
theorem dX10_joinSightings_56 : decode cX10_joinSightings 56 = .ok (.checkcast 140, 3) := by decide +kernel
theorem dX10_joinSightings_59 : decode cX10_joinSightings 59 = .ok (.astore 4, 2) := by decide +kernel
theorem dX10_joinSightings_61 : decode cX10_joinSightings 61 = .ok (.aload_n 0, 1) := by decide +kernel
theorem dX10_joinSightings_62 : decode cX10_joinSightings 62 = .ok (.aload_n 2, 1) := by decide +kernel
theorem dX10_joinSightings_63 : decode cX10_joinSightings 63 = .ok (.aload 4, 2) := by decide +kernel
theorem dX10_joinSightings_65 : decode cX10_joinSightings 65 = .ok (.invokevirtual 384, 3) := by decide +kernel
theorem dX10_joinSightings_68 : decode cX10_joinSightings 68 = .ok (.ifCond .eq 28, 3) := by decide +kernel
theorem dX10_joinSightings_71 : decode cX10_joinSightings 71 = .ok (.aload_n 2, 1) := by decide +kernel
theorem dX10_joinSightings_72 : decode cX10_joinSightings 72 = .ok (.dup, 1) := by decide +kernel
theorem dX10_joinSightings_73 : decode cX10_joinSightings 73 = .ok (.getfield 180, 3) := by decide +kernel
theorem dX10_joinSightings_76 : decode cX10_joinSightings 76 = .ok (.lconst 1, 1) := by decide +kernel
theorem dX10_joinSightings_77 : decode cX10_joinSightings 77 = .ok (.iload_n 3, 1) := by decide +kernel
theorem dX10_joinSightings_78 : decode cX10_joinSightings 78 = .ok (.lshl, 1) := by decide +kernel
theorem dX10_joinSightings_79 : decode cX10_joinSightings 79 = .ok (.lor, 1) := by decide +kernel
theorem dX10_joinSightings_80 : decode cX10_joinSightings 80 = .ok (.putfield 180, 3) := by decide +kernel
theorem dX10_joinSightings_83 : decode cX10_joinSightings 83 = .ok (.aload 4, 2) := by decide +kernel
theorem dX10_joinSightings_85 : decode cX10_joinSightings 85 = .ok (.dup, 1) := by decide +kernel
theorem dX10_joinSightings_86 : decode cX10_joinSightings 86 = .ok (.getfield 180, 3) := by decide +kernel
theorem dX10_joinSightings_89 : decode cX10_joinSightings 89 = .ok (.lconst 1, 1) := by decide +kernel
theorem dX10_joinSightings_90 : decode cX10_joinSightings 90 = .ok (.iload_n 1, 1) := by decide +kernel
theorem dX10_joinSightings_91 : decode cX10_joinSightings 91 = .ok (.lshl, 1) := by decide +kernel
theorem dX10_joinSightings_92 : decode cX10_joinSightings 92 = .ok (.lor, 1) := by decide +kernel
theorem dX10_joinSightings_93 : decode cX10_joinSightings 93 = .ok (.putfield 180, 3) := by decide +kernel
theorem dX10_joinSightings_96 : decode cX10_joinSightings 96 = .ok (.iinc 3 1, 3) := by decide +kernel
theorem dX10_joinSightings_99 : decode cX10_joinSightings 99 = .ok (.goto (-58), 3) := by decide +kernel
theorem dX10_joinSightings_102 : decode cX10_joinSightings 102 = .ok (.iinc 1 1, 3) := by decide +kernel
theorem dX10_joinSightings_105 : decode cX10_joinSightings 105 = .ok (.goto (-103), 3) := by decide +kernel
theorem dX10_joinSightings_108 : decode cX10_joinSightings 108 = .ok (.return_, 1) := by decide +kernel
theorem dX10_doJoin_0 : decode cX10_doJoin 0 = .ok (.aload_n 1, 1) := by decide +kernel
theorem dX10_doJoin_1 : decode cX10_doJoin 1 = .ok (.aload_n 2, 1) := by decide +kernel
theorem dX10_doJoin_2 : decode cX10_doJoin 2 = .ok (.invokevirtual 388, 3) := by decide +kernel
theorem dX10_doJoin_5 : decode cX10_doJoin 5 = .ok (.ifCond .eq 31, 3) := by decide +kernel
theorem dX10_doJoin_8 : decode cX10_doJoin 8 = .ok (.aload_n 0, 1) := by decide +kernel
theorem dX10_doJoin_9 : decode cX10_doJoin 9 = .ok (.getfield 32, 3) := by decide +kernel
theorem dX10_doJoin_12 : decode cX10_doJoin 12 = .ok (.aload_n 1, 1) := by decide +kernel
theorem dX10_doJoin_13 : decode cX10_doJoin 13 = .ok (.aload_n 2, 1) := by decide +kernel
theorem dX10_doJoin_14 : decode cX10_doJoin 14 = .ok (.invokevirtual 392, 3) := by decide +kernel
theorem dX10_doJoin_17 : decode cX10_doJoin 17 = .ok (.ifCond .eq 19, 3) := by decide +kernel
theorem dX10_doJoin_20 : decode cX10_doJoin 20 = .ok (.aload_n 0, 1) := by decide +kernel
theorem dX10_doJoin_21 : decode cX10_doJoin 21 = .ok (.getfield 36, 3) := by decide +kernel
theorem dX10_doJoin_24 : decode cX10_doJoin 24 = .ok (.aload_n 1, 1) := by decide +kernel
theorem dX10_doJoin_25 : decode cX10_doJoin 25 = .ok (.aload_n 2, 1) := by decide +kernel
theorem dX10_doJoin_26 : decode cX10_doJoin 26 = .ok (.invokevirtual 395, 3) := by decide +kernel
theorem dX10_doJoin_29 : decode cX10_doJoin 29 = .ok (.ifCond .eq 7, 3) := by decide +kernel
theorem dX10_doJoin_32 : decode cX10_doJoin 32 = .ok (.iconst 1, 1) := by decide +kernel
theorem dX10_doJoin_33 : decode cX10_doJoin 33 = .ok (.goto 4, 3) := by decide +kernel
theorem dX10_doJoin_36 : decode cX10_doJoin 36 = .ok (.iconst 0, 1) := by decide +kernel
theorem dX10_doJoin_37 : decode cX10_doJoin 37 = .ok (.ireturn, 1) := by decide +kernel
theorem dX10_gatherInto_0 : decode cX10_gatherInto 0 = .ok (.aload_n 0, 1) := by decide +kernel
theorem dX10_gatherInto_1 : decode cX10_gatherInto 1 = .ok (.iload_n 2, 1) := by decide +kernel
theorem dX10_gatherInto_2 : decode cX10_gatherInto 2 = .ok (.invokevirtual 398, 3) := by decide +kernel
theorem dX10_gatherInto_5 : decode cX10_gatherInto 5 = .ok (.lstore_n 3, 1) := by decide +kernel
theorem dX10_gatherInto_6 : decode cX10_gatherInto 6 = .ok (.iconst 0, 1) := by decide +kernel
theorem dX10_gatherInto_7 : decode cX10_gatherInto 7 = .ok (.istore 5, 2) := by decide +kernel
theorem dX10_gatherInto_9 : decode cX10_gatherInto 9 = .ok (.iload 5, 2) := by decide +kernel
theorem dX10_gatherInto_11 : decode cX10_gatherInto 11 = .ok (.aload_n 0, 1) := by decide +kernel
theorem dX10_gatherInto_12 : decode cX10_gatherInto 12 = .ok (.getfield 19, 3) := by decide +kernel
theorem dX10_gatherInto_15 : decode cX10_gatherInto 15 = .ok (.invokeinterface 85 1, 5) := by decide +kernel
theorem dX10_gatherInto_20 : decode cX10_gatherInto 20 = .ok (.if_icmp .ge 55, 3) := by decide +kernel
theorem dX10_gatherInto_23 : decode cX10_gatherInto 23 = .ok (.lload_n 3, 1) := by decide +kernel
theorem dX10_gatherInto_24 : decode cX10_gatherInto 24 = .ok (.iload 5, 2) := by decide +kernel
theorem dX10_gatherInto_26 : decode cX10_gatherInto 26 = .ok (.invokestatic 401, 3) := by decide +kernel
theorem dX10_gatherInto_29 : decode cX10_gatherInto 29 = .ok (.ifCond .eq 40, 3) := by decide +kernel
theorem dX10_gatherInto_32 : decode cX10_gatherInto 32 = .ok (.aload_n 0, 1) := by decide +kernel
theorem dX10_gatherInto_33 : decode cX10_gatherInto 33 = .ok (.getfield 19, 3) := by decide +kernel
theorem dX10_gatherInto_36 : decode cX10_gatherInto 36 = .ok (.iload 5, 2) := by decide +kernel
theorem dX10_gatherInto_38 : decode cX10_gatherInto 38 = .ok (.invokeinterface 184 2, 5) := by decide +kernel
theorem dX10_gatherInto_43 : decode cX10_gatherInto 43 = .ok (.checkcast 140, 3) := by decide +kernel
theorem dX10_gatherInto_46 : decode cX10_gatherInto 46 = .ok (.astore 6, 2) := by decide +kernel
theorem dX10_gatherInto_48 : decode cX10_gatherInto 48 = .ok (.aload 6, 2) := by decide +kernel
theorem dX10_gatherInto_50 : decode cX10_gatherInto 50 = .ok (.iload_n 2, 1) := by decide +kernel
theorem dX10_gatherInto_51 : decode cX10_gatherInto 51 = .ok (.putfield 177, 3) := by decide +kernel
theorem dX10_gatherInto_54 : decode cX10_gatherInto 54 = .ok (.aload_n 1, 1) := by decide +kernel
theorem dX10_gatherInto_55 : decode cX10_gatherInto 55 = .ok (.aload 6, 2) := by decide +kernel
theorem dX10_gatherInto_57 : decode cX10_gatherInto 57 = .ok (.invokevirtual 405, 3) := by decide +kernel
theorem dX10_gatherInto_60 : decode cX10_gatherInto 60 = .ok (.aload_n 0, 1) := by decide +kernel
theorem dX10_gatherInto_61 : decode cX10_gatherInto 61 = .ok (.aload_n 1, 1) := by decide +kernel
theorem dX10_gatherInto_62 : decode cX10_gatherInto 62 = .ok (.aload 6, 2) := by decide +kernel
theorem dX10_gatherInto_64 : decode cX10_gatherInto 64 = .ok (.iload 5, 2) := by decide +kernel
theorem dX10_gatherInto_66 : decode cX10_gatherInto 66 = .ok (.invokevirtual 408, 3) := by decide +kernel
theorem dX10_gatherInto_69 : decode cX10_gatherInto 69 = .ok (.iinc 5 1, 3) := by decide +kernel
theorem dX10_gatherInto_72 : decode cX10_gatherInto 72 = .ok (.goto (-63), 3) := by decide +kernel
theorem dX10_gatherInto_75 : decode cX10_gatherInto 75 = .ok (.aload_n 1, 1) := by decide +kernel
theorem dX10_gatherInto_76 : decode cX10_gatherInto 76 = .ok (.invokevirtual 412, 3) := by decide +kernel
theorem dX10_gatherInto_79 : decode cX10_gatherInto 79 = .ok (.return_, 1) := by decide +kernel
theorem dX10_addPlaces_0 : decode cX10_addPlaces 0 = .ok (.iconst 0, 1) := by decide +kernel
theorem dX10_addPlaces_1 : decode cX10_addPlaces 1 = .ok (.istore 4, 2) := by decide +kernel
theorem dX10_addPlaces_3 : decode cX10_addPlaces 3 = .ok (.iload 4, 2) := by decide +kernel
theorem dX10_addPlaces_5 : decode cX10_addPlaces 5 = .ok (.iload_n 3, 1) := by decide +kernel
theorem dX10_addPlaces_6 : decode cX10_addPlaces 6 = .ok (.if_icmp .ge 89, 3) := by decide +kernel
theorem dX10_addPlaces_9 : decode cX10_addPlaces 9 = .ok (.iload 4, 2) := by decide +kernel
theorem dX10_addPlaces_11 : decode cX10_addPlaces 11 = .ok (.aload_n 0, 1) := by decide +kernel
theorem dX10_addPlaces_12 : decode cX10_addPlaces 12 = .ok (.getfield 19, 3) := by decide +kernel
theorem dX10_addPlaces_15 : decode cX10_addPlaces 15 = .ok (.invokeinterface 85 1, 5) := by decide +kernel
theorem dX10_addPlaces_20 : decode cX10_addPlaces 20 = .ok (.if_icmp .ge 75, 3) := by decide +kernel
theorem dX10_addPlaces_23 : decode cX10_addPlaces 23 = .ok (.aload_n 0, 1) := by decide +kernel
theorem dX10_addPlaces_24 : decode cX10_addPlaces 24 = .ok (.getfield 19, 3) := by decide +kernel
theorem dX10_addPlaces_27 : decode cX10_addPlaces 27 = .ok (.iload 4, 2) := by decide +kernel
theorem dX10_addPlaces_29 : decode cX10_addPlaces 29 = .ok (.invokeinterface 184 2, 5) := by decide +kernel
theorem dX10_addPlaces_34 : decode cX10_addPlaces 34 = .ok (.checkcast 140, 3) := by decide +kernel
theorem dX10_addPlaces_37 : decode cX10_addPlaces 37 = .ok (.astore 5, 2) := by decide +kernel
theorem dX10_addPlaces_39 : decode cX10_addPlaces 39 = .ok (.aload_n 2, 1) := by decide +kernel
theorem dX10_addPlaces_40 : decode cX10_addPlaces 40 = .ok (.getfield 180, 3) := by decide +kernel
theorem dX10_addPlaces_43 : decode cX10_addPlaces 43 = .ok (.iload 4, 2) := by decide +kernel
theorem dX10_addPlaces_45 : decode cX10_addPlaces 45 = .ok (.invokestatic 401, 3) := by decide +kernel
theorem dX10_addPlaces_48 : decode cX10_addPlaces 48 = .ok (.ifCond .eq 41, 3) := by decide +kernel
theorem dX10_addPlaces_51 : decode cX10_addPlaces 51 = .ok (.aload_n 0, 1) := by decide +kernel
theorem dX10_addPlaces_52 : decode cX10_addPlaces 52 = .ok (.getfield 32, 3) := by decide +kernel
theorem dX10_addPlaces_55 : decode cX10_addPlaces 55 = .ok (.aload_n 2, 1) := by decide +kernel
theorem dX10_addPlaces_56 : decode cX10_addPlaces 56 = .ok (.aload 5, 2) := by decide +kernel
theorem dX10_addPlaces_58 : decode cX10_addPlaces 58 = .ok (.invokevirtual 392, 3) := by decide +kernel
theorem dX10_addPlaces_61 : decode cX10_addPlaces 61 = .ok (.ifCond .eq 28, 3) := by decide +kernel
theorem dX10_addPlaces_64 : decode cX10_addPlaces 64 = .ok (.aload_n 0, 1) := by decide +kernel
theorem dX10_addPlaces_65 : decode cX10_addPlaces 65 = .ok (.getfield 36, 3) := by decide +kernel
theorem dX10_addPlaces_68 : decode cX10_addPlaces 68 = .ok (.aload_n 2, 1) := by decide +kernel
theorem dX10_addPlaces_69 : decode cX10_addPlaces 69 = .ok (.aload 5, 2) := by decide +kernel
theorem dX10_addPlaces_71 : decode cX10_addPlaces 71 = .ok (.invokevirtual 395, 3) := by decide +kernel
theorem dX10_addPlaces_74 : decode cX10_addPlaces 74 = .ok (.ifCond .eq 15, 3) := by decide +kernel
theorem dX10_addPlaces_77 : decode cX10_addPlaces 77 = .ok (.aload_n 1, 1) := by decide +kernel
theorem dX10_addPlaces_78 : decode cX10_addPlaces 78 = .ok (.aload_n 0, 1) := by decide +kernel
theorem dX10_addPlaces_79 : decode cX10_addPlaces 79 = .ok (.getfield 32, 3) := by decide +kernel
theorem dX10_addPlaces_82 : decode cX10_addPlaces 82 = .ok (.aload_n 0, 1) := by decide +kernel
theorem dX10_addPlaces_83 : decode cX10_addPlaces 83 = .ok (.getfield 36, 3) := by decide +kernel
theorem dX10_addPlaces_86 : decode cX10_addPlaces 86 = .ok (.invokevirtual 415, 3) := by decide +kernel
theorem dX10_addPlaces_89 : decode cX10_addPlaces 89 = .ok (.iinc 4 1, 3) := by decide +kernel
theorem dX10_addPlaces_92 : decode cX10_addPlaces 92 = .ok (.goto (-89), 3) := by decide +kernel
theorem dX10_addPlaces_95 : decode cX10_addPlaces 95 = .ok (.return_, 1) := by decide +kernel
theorem dX10_groupOf_0 : decode cX10_groupOf 0 = .ok (.lconst 1, 1) := by decide +kernel
theorem dX10_groupOf_1 : decode cX10_groupOf 1 = .ok (.iload_n 1, 1) := by decide +kernel
theorem dX10_groupOf_2 : decode cX10_groupOf 2 = .ok (.lshl, 1) := by decide +kernel
theorem dX10_groupOf_3 : decode cX10_groupOf 3 = .ok (.lstore_n 2, 1) := by decide +kernel
theorem dX10_groupOf_4 : decode cX10_groupOf 4 = .ok (.iconst 1, 1) := by decide +kernel
theorem dX10_groupOf_5 : decode cX10_groupOf 5 = .ok (.istore 4, 2) := by decide +kernel
theorem dX10_groupOf_7 : decode cX10_groupOf 7 = .ok (.iconst 0, 1) := by decide +kernel
theorem dX10_groupOf_8 : decode cX10_groupOf 8 = .ok (.istore 5, 2) := by decide +kernel
theorem dX10_groupOf_10 : decode cX10_groupOf 10 = .ok (.iload 4, 2) := by decide +kernel
theorem dX10_groupOf_12 : decode cX10_groupOf 12 = .ok (.ifCond .eq 92, 3) := by decide +kernel
theorem dX10_groupOf_15 : decode cX10_groupOf 15 = .ok (.iload 5, 2) := by decide +kernel
theorem dX10_groupOf_17 : decode cX10_groupOf 17 = .ok (.aload_n 0, 1) := by decide +kernel
theorem dX10_groupOf_18 : decode cX10_groupOf 18 = .ok (.getfield 19, 3) := by decide +kernel
theorem dX10_groupOf_21 : decode cX10_groupOf 21 = .ok (.invokeinterface 85 1, 5) := by decide +kernel
theorem dX10_groupOf_26 : decode cX10_groupOf 26 = .ok (.if_icmp .ge 78, 3) := by decide +kernel
theorem dX10_groupOf_29 : decode cX10_groupOf 29 = .ok (.lload_n 2, 1) := by decide +kernel
theorem dX10_groupOf_30 : decode cX10_groupOf 30 = .ok (.lstore 6, 2) := by decide +kernel
theorem dX10_groupOf_32 : decode cX10_groupOf 32 = .ok (.iconst 0, 1) := by decide +kernel
theorem dX10_groupOf_33 : decode cX10_groupOf 33 = .ok (.istore 8, 2) := by decide +kernel
theorem dX10_groupOf_35 : decode cX10_groupOf 35 = .ok (.iload 8, 2) := by decide +kernel
theorem dX10_groupOf_37 : decode cX10_groupOf 37 = .ok (.aload_n 0, 1) := by decide +kernel
theorem dX10_groupOf_38 : decode cX10_groupOf 38 = .ok (.getfield 19, 3) := by decide +kernel
theorem dX10_groupOf_41 : decode cX10_groupOf 41 = .ok (.invokeinterface 85 1, 5) := by decide +kernel
theorem dX10_groupOf_46 : decode cX10_groupOf 46 = .ok (.if_icmp .ge 38, 3) := by decide +kernel
theorem dX10_groupOf_49 : decode cX10_groupOf 49 = .ok (.lload_n 2, 1) := by decide +kernel
theorem dX10_groupOf_50 : decode cX10_groupOf 50 = .ok (.iload 8, 2) := by decide +kernel
theorem dX10_groupOf_52 : decode cX10_groupOf 52 = .ok (.invokestatic 401, 3) := by decide +kernel
theorem dX10_groupOf_55 : decode cX10_groupOf 55 = .ok (.ifCond .eq 23, 3) := by decide +kernel
theorem dX10_groupOf_58 : decode cX10_groupOf 58 = .ok (.lload_n 2, 1) := by decide +kernel
theorem dX10_groupOf_59 : decode cX10_groupOf 59 = .ok (.aload_n 0, 1) := by decide +kernel
theorem dX10_groupOf_60 : decode cX10_groupOf 60 = .ok (.getfield 19, 3) := by decide +kernel
theorem dX10_groupOf_63 : decode cX10_groupOf 63 = .ok (.iload 8, 2) := by decide +kernel
theorem dX10_groupOf_65 : decode cX10_groupOf 65 = .ok (.invokeinterface 184 2, 5) := by decide +kernel
theorem dX10_groupOf_70 : decode cX10_groupOf 70 = .ok (.checkcast 140, 3) := by decide +kernel
theorem dX10_groupOf_73 : decode cX10_groupOf 73 = .ok (.getfield 180, 3) := by decide +kernel
theorem dX10_groupOf_76 : decode cX10_groupOf 76 = .ok (.lor, 1) := by decide +kernel
theorem dX10_groupOf_77 : decode cX10_groupOf 77 = .ok (.lstore_n 2, 1) := by decide +kernel
theorem dX10_groupOf_78 : decode cX10_groupOf 78 = .ok (.iinc 8 1, 3) := by decide +kernel
theorem dX10_groupOf_81 : decode cX10_groupOf 81 = .ok (.goto (-46), 3) := by decide +kernel
theorem dX10_groupOf_84 : decode cX10_groupOf 84 = .ok (.lload_n 2, 1) := by decide +kernel
theorem dX10_groupOf_85 : decode cX10_groupOf 85 = .ok (.lload 6, 2) := by decide +kernel
theorem dX10_groupOf_87 : decode cX10_groupOf 87 = .ok (.lcmp, 1) := by decide +kernel
theorem dX10_groupOf_88 : decode cX10_groupOf 88 = .ok (.ifCond .eq 7, 3) := by decide +kernel
theorem dX10_groupOf_91 : decode cX10_groupOf 91 = .ok (.iconst 1, 1) := by decide +kernel
theorem dX10_groupOf_92 : decode cX10_groupOf 92 = .ok (.goto 4, 3) := by decide +kernel
theorem dX10_groupOf_95 : decode cX10_groupOf 95 = .ok (.iconst 0, 1) := by decide +kernel
theorem dX10_groupOf_96 : decode cX10_groupOf 96 = .ok (.istore 4, 2) := by decide +kernel
theorem dX10_groupOf_98 : decode cX10_groupOf 98 = .ok (.iinc 5 1, 3) := by decide +kernel
theorem dX10_groupOf_101 : decode cX10_groupOf 101 = .ok (.goto (-91), 3) := by decide +kernel
theorem dX10_groupOf_104 : decode cX10_groupOf 104 = .ok (.lload_n 2, 1) := by decide +kernel
theorem dX10_groupOf_105 : decode cX10_groupOf 105 = .ok (.lreturn, 1) := by decide +kernel
theorem dX10_holds_0 : decode cX10_holds 0 = .ok (.lload_n 0, 1) := by decide +kernel
theorem dX10_holds_1 : decode cX10_holds 1 = .ok (.iload_n 2, 1) := by decide +kernel
theorem dX10_holds_2 : decode cX10_holds 2 = .ok (.lshr, 1) := by decide +kernel
theorem dX10_holds_3 : decode cX10_holds 3 = .ok (.lconst 1, 1) := by decide +kernel
theorem dX10_holds_4 : decode cX10_holds 4 = .ok (.land, 1) := by decide +kernel
theorem dX10_holds_5 : decode cX10_holds 5 = .ok (.lconst 0, 1) := by decide +kernel
theorem dX10_holds_6 : decode cX10_holds 6 = .ok (.lcmp, 1) := by decide +kernel
theorem dX10_holds_7 : decode cX10_holds 7 = .ok (.ifCond .eq 7, 3) := by decide +kernel
theorem dX10_holds_10 : decode cX10_holds 10 = .ok (.iconst 1, 1) := by decide +kernel
theorem dX10_holds_11 : decode cX10_holds 11 = .ok (.goto 4, 3) := by decide +kernel
theorem dX10_holds_14 : decode cX10_holds 14 = .ok (.iconst 0, 1) := by decide +kernel
theorem dX10_holds_15 : decode cX10_holds 15 = .ok (.ireturn, 1) := by decide +kernel
theorem dX10_spreadLowest_0 : decode cX10_spreadLowest 0 = .ok (.iconst 0, 1) := by decide +kernel
theorem dX10_spreadLowest_1 : decode cX10_spreadLowest 1 = .ok (.istore_n 1, 1) := by decide +kernel
theorem dX10_spreadLowest_2 : decode cX10_spreadLowest 2 = .ok (.iconst 0, 1) := by decide +kernel
theorem dX10_spreadLowest_3 : decode cX10_spreadLowest 3 = .ok (.istore_n 2, 1) := by decide +kernel
theorem dX10_spreadLowest_4 : decode cX10_spreadLowest 4 = .ok (.iload_n 2, 1) := by decide +kernel
theorem dX10_spreadLowest_5 : decode cX10_spreadLowest 5 = .ok (.aload_n 0, 1) := by decide +kernel
theorem dX10_spreadLowest_6 : decode cX10_spreadLowest 6 = .ok (.getfield 19, 3) := by decide +kernel
theorem dX10_spreadLowest_9 : decode cX10_spreadLowest 9 = .ok (.invokeinterface 85 1, 5) := by decide +kernel
theorem dX10_spreadLowest_14 : decode cX10_spreadLowest 14 = .ok (.if_icmp .ge 97, 3) := by decide +kernel
theorem dX10_spreadLowest_17 : decode cX10_spreadLowest 17 = .ok (.aload_n 0, 1) := by decide +kernel
theorem dX10_spreadLowest_18 : decode cX10_spreadLowest 18 = .ok (.getfield 19, 3) := by decide +kernel
theorem dX10_spreadLowest_21 : decode cX10_spreadLowest 21 = .ok (.iload_n 2, 1) := by decide +kernel
theorem dX10_spreadLowest_22 : decode cX10_spreadLowest 22 = .ok (.invokeinterface 184 2, 5) := by decide +kernel
theorem dX10_spreadLowest_27 : decode cX10_spreadLowest 27 = .ok (.checkcast 140, 3) := by decide +kernel
theorem dX10_spreadLowest_30 : decode cX10_spreadLowest 30 = .ok (.astore_n 3, 1) := by decide +kernel
theorem dX10_spreadLowest_31 : decode cX10_spreadLowest 31 = .ok (.iconst 0, 1) := by decide +kernel
theorem dX10_spreadLowest_32 : decode cX10_spreadLowest 32 = .ok (.istore 4, 2) := by decide +kernel
theorem dX10_spreadLowest_34 : decode cX10_spreadLowest 34 = .ok (.iload 4, 2) := by decide +kernel
theorem dX10_spreadLowest_36 : decode cX10_spreadLowest 36 = .ok (.aload_n 0, 1) := by decide +kernel
theorem dX10_spreadLowest_37 : decode cX10_spreadLowest 37 = .ok (.getfield 19, 3) := by decide +kernel
theorem dX10_spreadLowest_40 : decode cX10_spreadLowest 40 = .ok (.invokeinterface 85 1, 5) := by decide +kernel
theorem dX10_spreadLowest_45 : decode cX10_spreadLowest 45 = .ok (.if_icmp .ge 60, 3) := by decide +kernel
theorem dX10_spreadLowest_48 : decode cX10_spreadLowest 48 = .ok (.aload_n 0, 1) := by decide +kernel
theorem dX10_spreadLowest_49 : decode cX10_spreadLowest 49 = .ok (.getfield 19, 3) := by decide +kernel
theorem dX10_spreadLowest_52 : decode cX10_spreadLowest 52 = .ok (.iload 4, 2) := by decide +kernel
theorem dX10_spreadLowest_54 : decode cX10_spreadLowest 54 = .ok (.invokeinterface 184 2, 5) := by decide +kernel
theorem dX10_spreadLowest_59 : decode cX10_spreadLowest 59 = .ok (.checkcast 140, 3) := by decide +kernel
theorem dX10_spreadLowest_62 : decode cX10_spreadLowest 62 = .ok (.astore 5, 2) := by decide +kernel
theorem dX10_spreadLowest_64 : decode cX10_spreadLowest 64 = .ok (.aload_n 3, 1) := by decide +kernel
theorem dX10_spreadLowest_65 : decode cX10_spreadLowest 65 = .ok (.getfield 180, 3) := by decide +kernel
theorem dX10_spreadLowest_68 : decode cX10_spreadLowest 68 = .ok (.iload 4, 2) := by decide +kernel
theorem dX10_spreadLowest_70 : decode cX10_spreadLowest 70 = .ok (.invokestatic 401, 3) := by decide +kernel
theorem dX10_spreadLowest_73 : decode cX10_spreadLowest 73 = .ok (.ifCond .eq 26, 3) := by decide +kernel
theorem dX10_spreadLowest_76 : decode cX10_spreadLowest 76 = .ok (.aload 5, 2) := by decide +kernel
theorem dX10_spreadLowest_78 : decode cX10_spreadLowest 78 = .ok (.getfield 188, 3) := by decide +kernel
theorem dX10_spreadLowest_81 : decode cX10_spreadLowest 81 = .ok (.aload_n 3, 1) := by decide +kernel
theorem dX10_spreadLowest_82 : decode cX10_spreadLowest 82 = .ok (.getfield 188, 3) := by decide +kernel
theorem dX10_spreadLowest_85 : decode cX10_spreadLowest 85 = .ok (.if_icmp .ge 14, 3) := by decide +kernel
theorem dX10_spreadLowest_88 : decode cX10_spreadLowest 88 = .ok (.aload_n 3, 1) := by decide +kernel
theorem dX10_spreadLowest_89 : decode cX10_spreadLowest 89 = .ok (.aload 5, 2) := by decide +kernel
theorem dX10_spreadLowest_91 : decode cX10_spreadLowest 91 = .ok (.getfield 188, 3) := by decide +kernel
theorem dX10_spreadLowest_94 : decode cX10_spreadLowest 94 = .ok (.putfield 188, 3) := by decide +kernel
theorem dX10_spreadLowest_97 : decode cX10_spreadLowest 97 = .ok (.iconst 1, 1) := by decide +kernel
theorem dX10_spreadLowest_98 : decode cX10_spreadLowest 98 = .ok (.istore_n 1, 1) := by decide +kernel
theorem dX10_spreadLowest_99 : decode cX10_spreadLowest 99 = .ok (.iinc 4 1, 3) := by decide +kernel
theorem dX10_spreadLowest_102 : decode cX10_spreadLowest 102 = .ok (.goto (-68), 3) := by decide +kernel
theorem dX10_spreadLowest_105 : decode cX10_spreadLowest 105 = .ok (.iinc 2 1, 3) := by decide +kernel
theorem dX10_spreadLowest_108 : decode cX10_spreadLowest 108 = .ok (.goto (-104), 3) := by decide +kernel
theorem dX10_spreadLowest_111 : decode cX10_spreadLowest 111 = .ok (.iload_n 1, 1) := by decide +kernel
theorem dX10_spreadLowest_112 : decode cX10_spreadLowest 112 = .ok (.ireturn, 1) := by decide +kernel
theorem dX10_countFireballs_0 : decode cX10_countFireballs 0 = .ok (.iconst 0, 1) := by decide +kernel
theorem dX10_countFireballs_1 : decode cX10_countFireballs 1 = .ok (.istore 4, 2) := by decide +kernel
theorem dX10_countFireballs_3 : decode cX10_countFireballs 3 = .ok (.iconst 0, 1) := by decide +kernel
theorem dX10_countFireballs_4 : decode cX10_countFireballs 4 = .ok (.istore 5, 2) := by decide +kernel
theorem dX10_countFireballs_6 : decode cX10_countFireballs 6 = .ok (.iload 5, 2) := by decide +kernel
theorem dX10_countFireballs_8 : decode cX10_countFireballs 8 = .ok (.aload_n 0, 1) := by decide +kernel
theorem dX10_countFireballs_9 : decode cX10_countFireballs 9 = .ok (.getfield 26, 3) := by decide +kernel
theorem dX10_countFireballs_12 : decode cX10_countFireballs 12 = .ok (.invokeinterface 85 1, 5) := by decide +kernel
theorem dX10_countFireballs_17 : decode cX10_countFireballs 17 = .ok (.if_icmp .ge 65, 3) := by decide +kernel
theorem dX10_countFireballs_20 : decode cX10_countFireballs 20 = .ok (.aload_n 0, 1) := by decide +kernel
theorem dX10_countFireballs_21 : decode cX10_countFireballs 21 = .ok (.getfield 26, 3) := by decide +kernel
theorem dX10_countFireballs_24 : decode cX10_countFireballs 24 = .ok (.iload 5, 2) := by decide +kernel
theorem dX10_countFireballs_26 : decode cX10_countFireballs 26 = .ok (.invokeinterface 184 2, 5) := by decide +kernel
theorem dX10_countFireballs_31 : decode cX10_countFireballs 31 = .ok (.checkcast 68, 3) := by decide +kernel
theorem dX10_countFireballs_34 : decode cX10_countFireballs 34 = .ok (.astore 6, 2) := by decide +kernel
theorem dX10_countFireballs_36 : decode cX10_countFireballs 36 = .ok (.aload 6, 2) := by decide +kernel
theorem dX10_countFireballs_38 : decode cX10_countFireballs 38 = .ok (.invokevirtual 365, 3) := by decide +kernel
theorem dX10_countFireballs_41 : decode cX10_countFireballs 41 = .ok (.ifCond .eq 35, 3) := by decide +kernel
theorem dX10_countFireballs_44 : decode cX10_countFireballs 44 = .ok (.aload 6, 2) := by decide +kernel
theorem dX10_countFireballs_46 : decode cX10_countFireballs 46 = .ok (.getfield 419, 3) := by decide +kernel
theorem dX10_countFireballs_49 : decode cX10_countFireballs 49 = .ok (.iload_n 1, 1) := by decide +kernel
theorem dX10_countFireballs_50 : decode cX10_countFireballs 50 = .ok (.if_icmp .lt 26, 3) := by decide +kernel
theorem dX10_countFireballs_53 : decode cX10_countFireballs 53 = .ok (.aload 6, 2) := by decide +kernel
theorem dX10_countFireballs_55 : decode cX10_countFireballs 55 = .ok (.getfield 419, 3) := by decide +kernel
theorem dX10_countFireballs_58 : decode cX10_countFireballs 58 = .ok (.iload_n 2, 1) := by decide +kernel
theorem dX10_countFireballs_59 : decode cX10_countFireballs 59 = .ok (.if_icmp .gt 17, 3) := by decide +kernel
theorem dX10_countFireballs_62 : decode cX10_countFireballs 62 = .ok (.aload 6, 2) := by decide +kernel
theorem dX10_countFireballs_64 : decode cX10_countFireballs 64 = .ok (.getfield 420, 3) := by decide +kernel
theorem dX10_countFireballs_67 : decode cX10_countFireballs 67 = .ok (.iload_n 3, 1) := by decide +kernel
theorem dX10_countFireballs_68 : decode cX10_countFireballs 68 = .ok (.i2l, 1) := by decide +kernel
theorem dX10_countFireballs_69 : decode cX10_countFireballs 69 = .ok (.lcmp, 1) := by decide +kernel
theorem dX10_countFireballs_70 : decode cX10_countFireballs 70 = .ok (.ifCond .lt 6, 3) := by decide +kernel
theorem dX10_countFireballs_73 : decode cX10_countFireballs 73 = .ok (.iinc 4 1, 3) := by decide +kernel
theorem dX10_countFireballs_76 : decode cX10_countFireballs 76 = .ok (.iinc 5 1, 3) := by decide +kernel
theorem dX10_countFireballs_79 : decode cX10_countFireballs 79 = .ok (.goto (-73), 3) := by decide +kernel
theorem dX10_countFireballs_82 : decode cX10_countFireballs 82 = .ok (.iload 4, 2) := by decide +kernel
theorem dX10_countFireballs_84 : decode cX10_countFireballs 84 = .ok (.ireturn, 1) := by decide +kernel
theorem dX10_windOf_0 : decode cX10_windOf 0 = .ok (.iconst 0, 1) := by decide +kernel
theorem dX10_windOf_1 : decode cX10_windOf 1 = .ok (.istore_n 2, 1) := by decide +kernel
theorem dX10_windOf_2 : decode cX10_windOf 2 = .ok (.iload_n 2, 1) := by decide +kernel
theorem dX10_windOf_3 : decode cX10_windOf 3 = .ok (.aload_n 0, 1) := by decide +kernel
theorem dX10_windOf_4 : decode cX10_windOf 4 = .ok (.getfield 39, 3) := by decide +kernel
theorem dX10_windOf_7 : decode cX10_windOf 7 = .ok (.invokeinterface 85 1, 5) := by decide +kernel
theorem dX10_windOf_12 : decode cX10_windOf 12 = .ok (.if_icmp .ge 43, 3) := by decide +kernel
theorem dX10_windOf_15 : decode cX10_windOf 15 = .ok (.aload_n 0, 1) := by decide +kernel
theorem dX10_windOf_16 : decode cX10_windOf 16 = .ok (.getfield 39, 3) := by decide +kernel
theorem dX10_windOf_19 : decode cX10_windOf 19 = .ok (.iload_n 2, 1) := by decide +kernel
theorem dX10_windOf_20 : decode cX10_windOf 20 = .ok (.invokeinterface 184 2, 5) := by decide +kernel
theorem dX10_windOf_25 : decode cX10_windOf 25 = .ok (.checkcast 221, 3) := by decide +kernel
theorem dX10_windOf_28 : decode cX10_windOf 28 = .ok (.getfield 423, 3) := by decide +kernel
theorem dX10_windOf_31 : decode cX10_windOf 31 = .ok (.iload_n 1, 1) := by decide +kernel
theorem dX10_windOf_32 : decode cX10_windOf 32 = .ok (.if_icmp .ne 17, 3) := by decide +kernel
theorem dX10_windOf_35 : decode cX10_windOf 35 = .ok (.aload_n 0, 1) := by decide +kernel
theorem dX10_windOf_36 : decode cX10_windOf 36 = .ok (.getfield 39, 3) := by decide +kernel
theorem dX10_windOf_39 : decode cX10_windOf 39 = .ok (.iload_n 2, 1) := by decide +kernel
theorem dX10_windOf_40 : decode cX10_windOf 40 = .ok (.invokeinterface 184 2, 5) := by decide +kernel
theorem dX10_windOf_45 : decode cX10_windOf 45 = .ok (.checkcast 221, 3) := by decide +kernel
theorem dX10_windOf_48 : decode cX10_windOf 48 = .ok (.areturn, 1) := by decide +kernel
theorem dX10_windOf_49 : decode cX10_windOf 49 = .ok (.iinc 2 1, 3) := by decide +kernel
theorem dX10_windOf_52 : decode cX10_windOf 52 = .ok (.goto (-50), 3) := by decide +kernel
theorem dX10_windOf_55 : decode cX10_windOf 55 = .ok (.aconst_null, 1) := by decide +kernel
theorem dX10_windOf_56 : decode cX10_windOf 56 = .ok (.areturn, 1) := by decide +kernel
theorem dX10_wasWalked_0 : decode cX10_wasWalked 0 = .ok (.iconst 0, 1) := by decide +kernel
theorem dX10_wasWalked_1 : decode cX10_wasWalked 1 = .ok (.istore 4, 2) := by decide +kernel
theorem dX10_wasWalked_3 : decode cX10_wasWalked 3 = .ok (.iload 4, 2) := by decide +kernel
theorem dX10_wasWalked_5 : decode cX10_wasWalked 5 = .ok (.aload_n 0, 1) := by decide +kernel
theorem dX10_wasWalked_6 : decode cX10_wasWalked 6 = .ok (.getfield 42, 3) := by decide +kernel
theorem dX10_wasWalked_9 : decode cX10_wasWalked 9 = .ok (.invokeinterface 85 1, 5) := by decide +kernel
theorem dX10_wasWalked_14 : decode cX10_wasWalked 14 = .ok (.if_icmp .ge 34, 3) := by decide +kernel
theorem dX10_wasWalked_17 : decode cX10_wasWalked 17 = .ok (.aload_n 0, 1) := by decide +kernel
theorem dX10_wasWalked_18 : decode cX10_wasWalked 18 = .ok (.getfield 42, 3) := by decide +kernel
theorem dX10_wasWalked_21 : decode cX10_wasWalked 21 = .ok (.iload 4, 2) := by decide +kernel
theorem dX10_wasWalked_23 : decode cX10_wasWalked 23 = .ok (.invokeinterface 184 2, 5) := by decide +kernel
theorem dX10_wasWalked_28 : decode cX10_wasWalked 28 = .ok (.checkcast 233, 3) := by decide +kernel
theorem dX10_wasWalked_31 : decode cX10_wasWalked 31 = .ok (.iload_n 1, 1) := by decide +kernel
theorem dX10_wasWalked_32 : decode cX10_wasWalked 32 = .ok (.iload_n 2, 1) := by decide +kernel
theorem dX10_wasWalked_33 : decode cX10_wasWalked 33 = .ok (.iload_n 3, 1) := by decide +kernel
theorem dX10_wasWalked_34 : decode cX10_wasWalked 34 = .ok (.invokevirtual 424, 3) := by decide +kernel
theorem dX10_wasWalked_37 : decode cX10_wasWalked 37 = .ok (.ifCond .eq 5, 3) := by decide +kernel
theorem dX10_wasWalked_40 : decode cX10_wasWalked 40 = .ok (.iconst 1, 1) := by decide +kernel
theorem dX10_wasWalked_41 : decode cX10_wasWalked 41 = .ok (.ireturn, 1) := by decide +kernel
theorem dX10_wasWalked_42 : decode cX10_wasWalked 42 = .ok (.iinc 4 1, 3) := by decide +kernel
theorem dX10_wasWalked_45 : decode cX10_wasWalked 45 = .ok (.goto (-42), 3) := by decide +kernel
theorem dX10_wasWalked_48 : decode cX10_wasWalked 48 = .ok (.iconst 0, 1) := by decide +kernel
theorem dX10_wasWalked_49 : decode cX10_wasWalked 49 = .ok (.ireturn, 1) := by decide +kernel
theorem dX10_chanceIn_0 : decode cX10_chanceIn 0 = .ok (.aload_n 0, 1) := by decide +kernel
theorem dX10_chanceIn_1 : decode cX10_chanceIn 1 = .ok (.aload_n 1, 1) := by decide +kernel
theorem dX10_chanceIn_2 : decode cX10_chanceIn 2 = .ok (.getfield 419, 3) := by decide +kernel
theorem dX10_chanceIn_5 : decode cX10_chanceIn 5 = .ok (.invokevirtual 215, 3) := by decide +kernel
theorem dX10_chanceIn_8 : decode cX10_chanceIn 8 = .ok (.astore 5, 2) := by decide +kernel
theorem dX10_chanceIn_10 : decode cX10_chanceIn 10 = .ok (.aload 5, 2) := by decide +kernel
theorem dX10_chanceIn_12 : decode cX10_chanceIn 12 = .ok (.ifnonnull 16, 3) := by decide +kernel
theorem dX10_chanceIn_15 : decode cX10_chanceIn 15 = .ok (.aload_n 0, 1) := by decide +kernel
theorem dX10_chanceIn_16 : decode cX10_chanceIn 16 = .ok (.getfield 48, 3) := by decide +kernel
theorem dX10_chanceIn_19 : decode cX10_chanceIn 19 = .ok (.aload_n 1, 1) := by decide +kernel
theorem dX10_chanceIn_20 : decode cX10_chanceIn 20 = .ok (.iconst 0, 1) := by decide +kernel
theorem dX10_chanceIn_21 : decode cX10_chanceIn 21 = .ok (.iconst 0, 1) := by decide +kernel
theorem dX10_chanceIn_22 : decode cX10_chanceIn 22 = .ok (.invokevirtual 427, 3) := by decide +kernel
theorem dX10_chanceIn_25 : decode cX10_chanceIn 25 = .ok (.goto 21, 3) := by decide +kernel
theorem dX10_chanceIn_28 : decode cX10_chanceIn 28 = .ok (.aload_n 0, 1) := by decide +kernel
theorem dX10_chanceIn_29 : decode cX10_chanceIn 29 = .ok (.getfield 48, 3) := by decide +kernel
theorem dX10_chanceIn_32 : decode cX10_chanceIn 32 = .ok (.aload_n 1, 1) := by decide +kernel
theorem dX10_chanceIn_33 : decode cX10_chanceIn 33 = .ok (.aload 5, 2) := by decide +kernel
theorem dX10_chanceIn_35 : decode cX10_chanceIn 35 = .ok (.getfield 225, 3) := by decide +kernel
theorem dX10_chanceIn_38 : decode cX10_chanceIn 38 = .ok (.aload 5, 2) := by decide +kernel
theorem dX10_chanceIn_40 : decode cX10_chanceIn 40 = .ok (.getfield 228, 3) := by decide +kernel
theorem dX10_chanceIn_43 : decode cX10_chanceIn 43 = .ok (.invokevirtual 427, 3) := by decide +kernel
theorem dX10_chanceIn_46 : decode cX10_chanceIn 46 = .ok (.aload_n 0, 1) := by decide +kernel
theorem dX10_chanceIn_47 : decode cX10_chanceIn 47 = .ok (.aload_n 0, 1) := by decide +kernel
theorem dX10_chanceIn_48 : decode cX10_chanceIn 48 = .ok (.getfield 48, 3) := by decide +kernel
theorem dX10_chanceIn_51 : decode cX10_chanceIn 51 = .ok (.iload_n 3, 1) := by decide +kernel
theorem dX10_chanceIn_52 : decode cX10_chanceIn 52 = .ok (.iload 4, 2) := by decide +kernel
theorem dX10_chanceIn_54 : decode cX10_chanceIn 54 = .ok (.invokevirtual 431, 3) := by decide +kernel
theorem dX10_chanceIn_57 : decode cX10_chanceIn 57 = .ok (.iload_n 2, 1) := by decide +kernel
theorem dX10_chanceIn_58 : decode cX10_chanceIn 58 = .ok (.iload_n 3, 1) := by decide +kernel
theorem dX10_chanceIn_59 : decode cX10_chanceIn 59 = .ok (.iload 4, 2) := by decide +kernel
theorem dX10_chanceIn_61 : decode cX10_chanceIn 61 = .ok (.invokevirtual 435, 3) := by decide +kernel
theorem dX10_chanceIn_64 : decode cX10_chanceIn 64 = .ok (.ldc2_w 439, 3) := by decide +kernel
theorem dX10_chanceIn_67 : decode cX10_chanceIn 67 = .ok (.lmul, 1) := by decide +kernel
theorem dX10_chanceIn_68 : decode cX10_chanceIn 68 = .ok (.aload_n 0, 1) := by decide +kernel
theorem dX10_chanceIn_69 : decode cX10_chanceIn 69 = .ok (.iload_n 2, 1) := by decide +kernel
theorem dX10_chanceIn_70 : decode cX10_chanceIn 70 = .ok (.invokevirtual 441, 3) := by decide +kernel
theorem dX10_chanceIn_73 : decode cX10_chanceIn 73 = .ok (.invokestatic 444, 3) := by decide +kernel
theorem dX10_chanceIn_76 : decode cX10_chanceIn 76 = .ok (.lreturn, 1) := by decide +kernel
theorem dX10_weightLeft_0 : decode cX10_weightLeft 0 = .ok (.lload_n 1, 1) := by decide +kernel
theorem dX10_weightLeft_1 : decode cX10_weightLeft 1 = .ok (.lstore 6, 2) := by decide +kernel
theorem dX10_weightLeft_3 : decode cX10_weightLeft 3 = .ok (.iconst 0, 1) := by decide +kernel
theorem dX10_weightLeft_4 : decode cX10_weightLeft 4 = .ok (.istore 8, 2) := by decide +kernel
theorem dX10_weightLeft_6 : decode cX10_weightLeft 6 = .ok (.iload 8, 2) := by decide +kernel
theorem dX10_weightLeft_8 : decode cX10_weightLeft 8 = .ok (.aload_n 0, 1) := by decide +kernel
theorem dX10_weightLeft_9 : decode cX10_weightLeft 9 = .ok (.getfield 42, 3) := by decide +kernel
theorem dX10_weightLeft_12 : decode cX10_weightLeft 12 = .ok (.invokeinterface 85 1, 5) := by decide +kernel
theorem dX10_weightLeft_17 : decode cX10_weightLeft 17 = .ok (.if_icmp .ge 56, 3) := by decide +kernel
theorem dX10_weightLeft_20 : decode cX10_weightLeft 20 = .ok (.aload_n 0, 1) := by decide +kernel
theorem dX10_weightLeft_21 : decode cX10_weightLeft 21 = .ok (.getfield 42, 3) := by decide +kernel
theorem dX10_weightLeft_24 : decode cX10_weightLeft 24 = .ok (.iload 8, 2) := by decide +kernel
theorem dX10_weightLeft_26 : decode cX10_weightLeft 26 = .ok (.invokeinterface 184 2, 5) := by decide +kernel
theorem dX10_weightLeft_31 : decode cX10_weightLeft 31 = .ok (.checkcast 233, 3) := by decide +kernel
theorem dX10_weightLeft_34 : decode cX10_weightLeft 34 = .ok (.astore 9, 2) := by decide +kernel
theorem dX10_weightLeft_36 : decode cX10_weightLeft 36 = .ok (.aload 9, 2) := by decide +kernel
theorem dX10_weightLeft_38 : decode cX10_weightLeft 38 = .ok (.iload_n 3, 1) := by decide +kernel
theorem dX10_weightLeft_39 : decode cX10_weightLeft 39 = .ok (.iload 4, 2) := by decide +kernel
theorem dX10_weightLeft_41 : decode cX10_weightLeft 41 = .ok (.iload 5, 2) := by decide +kernel
theorem dX10_weightLeft_43 : decode cX10_weightLeft 43 = .ok (.invokevirtual 424, 3) := by decide +kernel
theorem dX10_weightLeft_46 : decode cX10_weightLeft 46 = .ok (.ifCond .eq 21, 3) := by decide +kernel
theorem dX10_weightLeft_49 : decode cX10_weightLeft 49 = .ok (.lload 6, 2) := by decide +kernel
theorem dX10_weightLeft_51 : decode cX10_weightLeft 51 = .ok (.bipush 100, 2) := by decide +kernel
theorem dX10_weightLeft_53 : decode cX10_weightLeft 53 = .ok (.aload 9, 2) := by decide +kernel
theorem dX10_weightLeft_55 : decode cX10_weightLeft 55 = .ok (.getfield 448, 3) := by decide +kernel
theorem dX10_weightLeft_58 : decode cX10_weightLeft 58 = .ok (.isub, 1) := by decide +kernel
theorem dX10_weightLeft_59 : decode cX10_weightLeft 59 = .ok (.i2l, 1) := by decide +kernel
theorem dX10_weightLeft_60 : decode cX10_weightLeft 60 = .ok (.lmul, 1) := by decide +kernel
theorem dX10_weightLeft_61 : decode cX10_weightLeft 61 = .ok (.ldc2_w 451, 3) := by decide +kernel
theorem dX10_weightLeft_64 : decode cX10_weightLeft 64 = .ok (.ldiv, 1) := by decide +kernel
theorem dX10_weightLeft_65 : decode cX10_weightLeft 65 = .ok (.lstore 6, 2) := by decide +kernel
theorem dX10_weightLeft_67 : decode cX10_weightLeft 67 = .ok (.iinc 8 1, 3) := by decide +kernel
theorem dX10_weightLeft_70 : decode cX10_weightLeft 70 = .ok (.goto (-64), 3) := by decide +kernel
theorem dX10_weightLeft_73 : decode cX10_weightLeft 73 = .ok (.lload 6, 2) := by decide +kernel
theorem dX10_weightLeft_75 : decode cX10_weightLeft 75 = .ok (.lreturn, 1) := by decide +kernel
theorem dX10_weightOfGround_0 : decode cX10_weightOfGround 0 = .ok (.aload_n 0, 1) := by decide +kernel
theorem dX10_weightOfGround_1 : decode cX10_weightOfGround 1 = .ok (.getfield 48, 3) := by decide +kernel
theorem dX10_weightOfGround_4 : decode cX10_weightOfGround 4 = .ok (.invokevirtual 453, 3) := by decide +kernel
theorem dX10_weightOfGround_7 : decode cX10_weightOfGround 7 = .ok (.lstore_n 2, 1) := by decide +kernel
theorem dX10_weightOfGround_8 : decode cX10_weightOfGround 8 = .ok (.iconst 0, 1) := by decide +kernel
theorem dX10_weightOfGround_9 : decode cX10_weightOfGround 9 = .ok (.istore 4, 2) := by decide +kernel
theorem dX10_weightOfGround_11 : decode cX10_weightOfGround 11 = .ok (.iload 4, 2) := by decide +kernel
theorem dX10_weightOfGround_13 : decode cX10_weightOfGround 13 = .ok (.aload_n 0, 1) := by decide +kernel
theorem dX10_weightOfGround_14 : decode cX10_weightOfGround 14 = .ok (.getfield 42, 3) := by decide +kernel
theorem dX10_weightOfGround_17 : decode cX10_weightOfGround 17 = .ok (.invokeinterface 85 1, 5) := by decide +kernel
theorem dX10_weightOfGround_22 : decode cX10_weightOfGround 22 = .ok (.if_icmp .ge 84, 3) := by decide +kernel
theorem dX10_weightOfGround_25 : decode cX10_weightOfGround 25 = .ok (.aload_n 0, 1) := by decide +kernel
theorem dX10_weightOfGround_26 : decode cX10_weightOfGround 26 = .ok (.getfield 42, 3) := by decide +kernel
theorem dX10_weightOfGround_29 : decode cX10_weightOfGround 29 = .ok (.iload 4, 2) := by decide +kernel
theorem dX10_weightOfGround_31 : decode cX10_weightOfGround 31 = .ok (.invokeinterface 184 2, 5) := by decide +kernel
theorem dX10_weightOfGround_36 : decode cX10_weightOfGround 36 = .ok (.checkcast 233, 3) := by decide +kernel
theorem dX10_weightOfGround_39 : decode cX10_weightOfGround 39 = .ok (.astore 5, 2) := by decide +kernel
theorem dX10_weightOfGround_41 : decode cX10_weightOfGround 41 = .ok (.aload 5, 2) := by decide +kernel
theorem dX10_weightOfGround_43 : decode cX10_weightOfGround 43 = .ok (.getfield 456, 3) := by decide +kernel
theorem dX10_weightOfGround_46 : decode cX10_weightOfGround 46 = .ok (.ifCond .eq 54, 3) := by decide +kernel
theorem dX10_weightOfGround_49 : decode cX10_weightOfGround 49 = .ok (.aload 5, 2) := by decide +kernel
theorem dX10_weightOfGround_51 : decode cX10_weightOfGround 51 = .ok (.getfield 459, 3) := by decide +kernel
theorem dX10_weightOfGround_54 : decode cX10_weightOfGround 54 = .ok (.iload_n 1, 1) := by decide +kernel
theorem dX10_weightOfGround_55 : decode cX10_weightOfGround 55 = .ok (.if_icmp .ne 45, 3) := by decide +kernel
theorem dX10_weightOfGround_58 : decode cX10_weightOfGround 58 = .ok (.aload_n 0, 1) := by decide +kernel
theorem dX10_weightOfGround_59 : decode cX10_weightOfGround 59 = .ok (.getfield 48, 3) := by decide +kernel
theorem dX10_weightOfGround_62 : decode cX10_weightOfGround 62 = .ok (.aload 5, 2) := by decide +kernel
theorem dX10_weightOfGround_64 : decode cX10_weightOfGround 64 = .ok (.getfield 460, 3) := by decide +kernel
theorem dX10_weightOfGround_67 : decode cX10_weightOfGround 67 = .ok (.aload 5, 2) := by decide +kernel
theorem dX10_weightOfGround_69 : decode cX10_weightOfGround 69 = .ok (.getfield 461, 3) := by decide +kernel
theorem dX10_weightOfGround_72 : decode cX10_weightOfGround 72 = .ok (.invokevirtual 431, 3) := by decide +kernel
theorem dX10_weightOfGround_75 : decode cX10_weightOfGround 75 = .ok (.lstore 6, 2) := by decide +kernel
theorem dX10_weightOfGround_77 : decode cX10_weightOfGround 77 = .ok (.lload_n 2, 1) := by decide +kernel
theorem dX10_weightOfGround_78 : decode cX10_weightOfGround 78 = .ok (.aload_n 0, 1) := by decide +kernel
theorem dX10_weightOfGround_79 : decode cX10_weightOfGround 79 = .ok (.lload 6, 2) := by decide +kernel
theorem dX10_weightOfGround_81 : decode cX10_weightOfGround 81 = .ok (.iload_n 1, 1) := by decide +kernel
theorem dX10_weightOfGround_82 : decode cX10_weightOfGround 82 = .ok (.aload 5, 2) := by decide +kernel
theorem dX10_weightOfGround_84 : decode cX10_weightOfGround 84 = .ok (.getfield 460, 3) := by decide +kernel
theorem dX10_weightOfGround_87 : decode cX10_weightOfGround 87 = .ok (.aload 5, 2) := by decide +kernel
theorem dX10_weightOfGround_89 : decode cX10_weightOfGround 89 = .ok (.getfield 461, 3) := by decide +kernel
theorem dX10_weightOfGround_92 : decode cX10_weightOfGround 92 = .ok (.invokevirtual 435, 3) := by decide +kernel
theorem dX10_weightOfGround_95 : decode cX10_weightOfGround 95 = .ok (.lload 6, 2) := by decide +kernel
theorem dX10_weightOfGround_97 : decode cX10_weightOfGround 97 = .ok (.lsub, 1) := by decide +kernel
theorem dX10_weightOfGround_98 : decode cX10_weightOfGround 98 = .ok (.ladd, 1) := by decide +kernel
theorem dX10_weightOfGround_99 : decode cX10_weightOfGround 99 = .ok (.lstore_n 2, 1) := by decide +kernel
theorem dX10_weightOfGround_100 : decode cX10_weightOfGround 100 = .ok (.iinc 4 1, 3) := by decide +kernel
theorem dX10_weightOfGround_103 : decode cX10_weightOfGround 103 = .ok (.goto (-92), 3) := by decide +kernel
theorem dX10_weightOfGround_106 : decode cX10_weightOfGround 106 = .ok (.lload_n 2, 1) := by decide +kernel
theorem dX10_weightOfGround_107 : decode cX10_weightOfGround 107 = .ok (.lreturn, 1) := by decide +kernel
theorem dX10_fallOf_0 : decode cX10_fallOf 0 = .ok (.iconst (-1), 1) := by decide +kernel
theorem dX10_fallOf_1 : decode cX10_fallOf 1 = .ok (.istore_n 2, 1) := by decide +kernel
theorem dX10_fallOf_2 : decode cX10_fallOf 2 = .ok (.lconst 0, 1) := by decide +kernel
theorem dX10_fallOf_3 : decode cX10_fallOf 3 = .ok (.lstore_n 3, 1) := by decide +kernel
theorem dX10_fallOf_4 : decode cX10_fallOf 4 = .ok (.iconst 0, 1) := by decide +kernel
theorem dX10_fallOf_5 : decode cX10_fallOf 5 = .ok (.istore 5, 2) := by decide +kernel
theorem dX10_fallOf_7 : decode cX10_fallOf 7 = .ok (.iload 5, 2) := by decide +kernel
theorem dX10_fallOf_9 : decode cX10_fallOf 9 = .ok (.aload_n 0, 1) := by decide +kernel
theorem dX10_fallOf_10 : decode cX10_fallOf 10 = .ok (.getfield 26, 3) := by decide +kernel
theorem dX10_fallOf_13 : decode cX10_fallOf 13 = .ok (.invokeinterface 85 1, 5) := by decide +kernel
theorem dX10_fallOf_18 : decode cX10_fallOf 18 = .ok (.if_icmp .ge 76, 3) := by decide +kernel
theorem dX10_fallOf_21 : decode cX10_fallOf 21 = .ok (.aload_n 0, 1) := by decide +kernel
theorem dX10_fallOf_22 : decode cX10_fallOf 22 = .ok (.getfield 26, 3) := by decide +kernel
theorem dX10_fallOf_25 : decode cX10_fallOf 25 = .ok (.iload 5, 2) := by decide +kernel
theorem dX10_fallOf_27 : decode cX10_fallOf 27 = .ok (.invokeinterface 184 2, 5) := by decide +kernel
theorem dX10_fallOf_32 : decode cX10_fallOf 32 = .ok (.checkcast 68, 3) := by decide +kernel
theorem dX10_fallOf_35 : decode cX10_fallOf 35 = .ok (.astore 6, 2) := by decide +kernel
theorem dX10_fallOf_37 : decode cX10_fallOf 37 = .ok (.aload 6, 2) := by decide +kernel
theorem dX10_fallOf_39 : decode cX10_fallOf 39 = .ok (.invokevirtual 365, 3) := by decide +kernel
theorem dX10_fallOf_42 : decode cX10_fallOf 42 = .ok (.ifCond .eq 46, 3) := by decide +kernel
theorem dX10_fallOf_45 : decode cX10_fallOf 45 = .ok (.aload 6, 2) := by decide +kernel
theorem dX10_fallOf_47 : decode cX10_fallOf 47 = .ok (.getfield 419, 3) := by decide +kernel
theorem dX10_fallOf_50 : decode cX10_fallOf 50 = .ok (.aload_n 1, 1) := by decide +kernel
theorem dX10_fallOf_51 : decode cX10_fallOf 51 = .ok (.getfield 462, 3) := by decide +kernel
theorem dX10_fallOf_54 : decode cX10_fallOf 54 = .ok (.if_icmp .gt 34, 3) := by decide +kernel
theorem dX10_fallOf_57 : decode cX10_fallOf 57 = .ok (.aload_n 0, 1) := by decide +kernel
theorem dX10_fallOf_58 : decode cX10_fallOf 58 = .ok (.aload 6, 2) := by decide +kernel
theorem dX10_fallOf_60 : decode cX10_fallOf 60 = .ok (.iload 5, 2) := by decide +kernel
theorem dX10_fallOf_62 : decode cX10_fallOf 62 = .ok (.aload_n 1, 1) := by decide +kernel
theorem dX10_fallOf_63 : decode cX10_fallOf 63 = .ok (.getfield 325, 3) := by decide +kernel
theorem dX10_fallOf_66 : decode cX10_fallOf 66 = .ok (.aload_n 1, 1) := by decide +kernel
theorem dX10_fallOf_67 : decode cX10_fallOf 67 = .ok (.getfield 326, 3) := by decide +kernel
theorem dX10_fallOf_70 : decode cX10_fallOf 70 = .ok (.invokevirtual 242, 3) := by decide +kernel
theorem dX10_fallOf_73 : decode cX10_fallOf 73 = .ok (.lstore 7, 2) := by decide +kernel
theorem dX10_fallOf_75 : decode cX10_fallOf 75 = .ok (.lload 7, 2) := by decide +kernel
theorem dX10_fallOf_77 : decode cX10_fallOf 77 = .ok (.lload_n 3, 1) := by decide +kernel
theorem dX10_fallOf_78 : decode cX10_fallOf 78 = .ok (.lcmp, 1) := by decide +kernel
theorem dX10_fallOf_79 : decode cX10_fallOf 79 = .ok (.ifCond .le 9, 3) := by decide +kernel
theorem dX10_fallOf_82 : decode cX10_fallOf 82 = .ok (.lload 7, 2) := by decide +kernel
theorem dX10_fallOf_84 : decode cX10_fallOf 84 = .ok (.lstore_n 3, 1) := by decide +kernel
theorem dX10_fallOf_85 : decode cX10_fallOf 85 = .ok (.iload 5, 2) := by decide +kernel
theorem dX10_fallOf_87 : decode cX10_fallOf 87 = .ok (.istore_n 2, 1) := by decide +kernel
theorem dX10_fallOf_88 : decode cX10_fallOf 88 = .ok (.iinc 5 1, 3) := by decide +kernel
theorem dX10_fallOf_91 : decode cX10_fallOf 91 = .ok (.goto (-84), 3) := by decide +kernel
theorem dX10_fallOf_94 : decode cX10_fallOf 94 = .ok (.iload_n 2, 1) := by decide +kernel
theorem dX10_fallOf_95 : decode cX10_fallOf 95 = .ok (.ireturn, 1) := by decide +kernel
theorem dX10_classIn_0 : decode cX10_classIn 0 = .ok (.aload_n 0, 1) := by decide +kernel
theorem dX10_classIn_1 : decode cX10_classIn 1 = .ok (.iload_n 2, 1) := by decide +kernel
theorem dX10_classIn_2 : decode cX10_classIn 2 = .ok (.invokevirtual 463, 3) := by decide +kernel
theorem dX10_classIn_5 : decode cX10_classIn 5 = .ok (.astore_n 3, 1) := by decide +kernel
theorem dX10_classIn_6 : decode cX10_classIn 6 = .ok (.aload_n 3, 1) := by decide +kernel
theorem dX10_classIn_7 : decode cX10_classIn 7 = .ok (.ifnull 11, 3) := by decide +kernel
theorem dX10_classIn_10 : decode cX10_classIn 10 = .ok (.aload_n 1, 1) := by decide +kernel
theorem dX10_classIn_11 : decode cX10_classIn 11 = .ok (.getfield 272, 3) := by decide +kernel
theorem dX10_classIn_14 : decode cX10_classIn 14 = .ok (.iconst (-1), 1) := by decide +kernel
theorem dX10_classIn_15 : decode cX10_classIn 15 = .ok (.if_icmp .ne 5, 3) := by decide +kernel
theorem dX10_classIn_18 : decode cX10_classIn 18 = .ok (.iconst 0, 1) := by decide +kernel
theorem dX10_classIn_19 : decode cX10_classIn 19 = .ok (.ireturn, 1) := by decide +kernel
theorem dX10_classIn_20 : decode cX10_classIn 20 = .ok (.aload_n 3, 1) := by decide +kernel
theorem dX10_classIn_21 : decode cX10_classIn 21 = .ok (.aload_n 1, 1) := by decide +kernel
theorem dX10_classIn_22 : decode cX10_classIn 22 = .ok (.getfield 272, 3) := by decide +kernel
theorem dX10_classIn_25 : decode cX10_classIn 25 = .ok (.invokevirtual 467, 3) := by decide +kernel
theorem dX10_classIn_28 : decode cX10_classIn 28 = .ok (.bipush 10, 2) := by decide +kernel
theorem dX10_classIn_30 : decode cX10_classIn 30 = .ok (.aload_n 1, 1) := by decide +kernel
theorem dX10_classIn_31 : decode cX10_classIn 31 = .ok (.getfield 275, 3) := by decide +kernel
theorem dX10_classIn_34 : decode cX10_classIn 34 = .ok (.imul, 1) := by decide +kernel
theorem dX10_classIn_35 : decode cX10_classIn 35 = .ok (.iadd, 1) := by decide +kernel
theorem dX10_classIn_36 : decode cX10_classIn 36 = .ok (.aload_n 1, 1) := by decide +kernel
theorem dX10_classIn_37 : decode cX10_classIn 37 = .ok (.getfield 278, 3) := by decide +kernel
theorem dX10_classIn_40 : decode cX10_classIn 40 = .ok (.iadd, 1) := by decide +kernel
theorem dX10_classIn_41 : decode cX10_classIn 41 = .ok (.ireturn, 1) := by decide +kernel
theorem dX10_latestRule_0 : decode cX10_latestRule 0 = .ok (.aconst_null, 1) := by decide +kernel
theorem dX10_latestRule_1 : decode cX10_latestRule 1 = .ok (.astore_n 2, 1) := by decide +kernel
theorem dX10_latestRule_2 : decode cX10_latestRule 2 = .ok (.iconst 0, 1) := by decide +kernel
theorem dX10_latestRule_3 : decode cX10_latestRule 3 = .ok (.istore_n 3, 1) := by decide +kernel
theorem dX10_latestRule_4 : decode cX10_latestRule 4 = .ok (.iload_n 3, 1) := by decide +kernel
theorem dX10_latestRule_5 : decode cX10_latestRule 5 = .ok (.iload_n 1, 1) := by decide +kernel
theorem dX10_latestRule_6 : decode cX10_latestRule 6 = .ok (.if_icmp .gt 34, 3) := by decide +kernel
theorem dX10_latestRule_9 : decode cX10_latestRule 9 = .ok (.iload_n 3, 1) := by decide +kernel
theorem dX10_latestRule_10 : decode cX10_latestRule 10 = .ok (.aload_n 0, 1) := by decide +kernel
theorem dX10_latestRule_11 : decode cX10_latestRule 11 = .ok (.getfield 57, 3) := by decide +kernel
theorem dX10_latestRule_14 : decode cX10_latestRule 14 = .ok (.arraylength, 1) := by decide +kernel
theorem dX10_latestRule_15 : decode cX10_latestRule 15 = .ok (.if_icmp .ge 25, 3) := by decide +kernel
theorem dX10_latestRule_18 : decode cX10_latestRule 18 = .ok (.aload_n 0, 1) := by decide +kernel
theorem dX10_latestRule_19 : decode cX10_latestRule 19 = .ok (.getfield 57, 3) := by decide +kernel
theorem dX10_latestRule_22 : decode cX10_latestRule 22 = .ok (.iload_n 3, 1) := by decide +kernel
theorem dX10_latestRule_23 : decode cX10_latestRule 23 = .ok (.aaload, 1) := by decide +kernel
theorem dX10_latestRule_24 : decode cX10_latestRule 24 = .ok (.ifnull 10, 3) := by decide +kernel
theorem dX10_latestRule_27 : decode cX10_latestRule 27 = .ok (.aload_n 0, 1) := by decide +kernel
theorem dX10_latestRule_28 : decode cX10_latestRule 28 = .ok (.getfield 57, 3) := by decide +kernel
theorem dX10_latestRule_31 : decode cX10_latestRule 31 = .ok (.iload_n 3, 1) := by decide +kernel
theorem dX10_latestRule_32 : decode cX10_latestRule 32 = .ok (.aaload, 1) := by decide +kernel
theorem dX10_latestRule_33 : decode cX10_latestRule 33 = .ok (.astore_n 2, 1) := by decide +kernel
theorem dX10_latestRule_34 : decode cX10_latestRule 34 = .ok (.iinc 3 1, 3) := by decide +kernel
theorem dX10_latestRule_37 : decode cX10_latestRule 37 = .ok (.goto (-33), 3) := by decide +kernel
theorem dX10_latestRule_40 : decode cX10_latestRule 40 = .ok (.aload_n 2, 1) := by decide +kernel
theorem dX10_latestRule_41 : decode cX10_latestRule 41 = .ok (.areturn, 1) := by decide +kernel
theorem dX10_landOf_0 : decode cX10_landOf 0 = .ok (.iload_n 0, 1) := by decide +kernel
theorem dX10_landOf_1 : decode cX10_landOf 1 = .ok (.bipush 50, 2) := by decide +kernel
theorem dX10_landOf_3 : decode cX10_landOf 3 = .ok (.if_icmp .ge 7, 3) := by decide +kernel
theorem dX10_landOf_6 : decode cX10_landOf 6 = .ok (.iconst 0, 1) := by decide +kernel
theorem dX10_landOf_7 : decode cX10_landOf 7 = .ok (.goto 4, 3) := by decide +kernel
theorem dX10_landOf_10 : decode cX10_landOf 10 = .ok (.iconst 1, 1) := by decide +kernel
theorem dX10_landOf_11 : decode cX10_landOf 11 = .ok (.iload_n 1, 1) := by decide +kernel
theorem dX10_landOf_12 : decode cX10_landOf 12 = .ok (.bipush 50, 2) := by decide +kernel
theorem dX10_landOf_14 : decode cX10_landOf 14 = .ok (.if_icmp .ge 7, 3) := by decide +kernel
theorem dX10_landOf_17 : decode cX10_landOf 17 = .ok (.iconst 0, 1) := by decide +kernel
theorem dX10_landOf_18 : decode cX10_landOf 18 = .ok (.goto 4, 3) := by decide +kernel
theorem dX10_landOf_21 : decode cX10_landOf 21 = .ok (.iconst 2, 1) := by decide +kernel
theorem dX10_landOf_22 : decode cX10_landOf 22 = .ok (.iadd, 1) := by decide +kernel
theorem dX10_landOf_23 : decode cX10_landOf 23 = .ok (.ireturn, 1) := by decide +kernel
theorem dX10_lawIn_0 : decode cX10_lawIn 0 = .ok (.iload_n 1, 1) := by decide +kernel
theorem dX10_lawIn_1 : decode cX10_lawIn 1 = .ok (.ifCond .lt 21, 3) := by decide +kernel
theorem dX10_lawIn_4 : decode cX10_lawIn 4 = .ok (.iload_n 1, 1) := by decide +kernel
theorem dX10_lawIn_5 : decode cX10_lawIn 5 = .ok (.aload_n 0, 1) := by decide +kernel
theorem dX10_lawIn_6 : decode cX10_lawIn 6 = .ok (.getfield 61, 3) := by decide +kernel
theorem dX10_lawIn_9 : decode cX10_lawIn 9 = .ok (.arraylength, 1) := by decide +kernel
theorem dX10_lawIn_10 : decode cX10_lawIn 10 = .ok (.if_icmp .ge 12, 3) := by decide +kernel
theorem dX10_lawIn_13 : decode cX10_lawIn 13 = .ok (.aload_n 0, 1) := by decide +kernel
theorem dX10_lawIn_14 : decode cX10_lawIn 14 = .ok (.getfield 61, 3) := by decide +kernel
theorem dX10_lawIn_17 : decode cX10_lawIn 17 = .ok (.iload_n 1, 1) := by decide +kernel
theorem dX10_lawIn_18 : decode cX10_lawIn 18 = .ok (.iaload, 1) := by decide +kernel
theorem dX10_lawIn_19 : decode cX10_lawIn 19 = .ok (.goto 4, 3) := by decide +kernel
theorem dX10_lawIn_22 : decode cX10_lawIn 22 = .ok (.iconst 0, 1) := by decide +kernel
theorem dX10_lawIn_23 : decode cX10_lawIn 23 = .ok (.ireturn, 1) := by decide +kernel
theorem dX10_nextNumberOf_0 : decode cX10_nextNumberOf 0 = .ok (.iload_n 1, 1) := by decide +kernel
theorem dX10_nextNumberOf_1 : decode cX10_nextNumberOf 1 = .ok (.ifCond .lt 12, 3) := by decide +kernel
theorem dX10_nextNumberOf_4 : decode cX10_nextNumberOf 4 = .ok (.iload_n 1, 1) := by decide +kernel
theorem dX10_nextNumberOf_5 : decode cX10_nextNumberOf 5 = .ok (.aload_n 0, 1) := by decide +kernel
theorem dX10_nextNumberOf_6 : decode cX10_nextNumberOf 6 = .ok (.getfield 65, 3) := by decide +kernel
theorem dX10_nextNumberOf_9 : decode cX10_nextNumberOf 9 = .ok (.arraylength, 1) := by decide +kernel
theorem dX10_nextNumberOf_10 : decode cX10_nextNumberOf 10 = .ok (.if_icmp .lt 5, 3) := by decide +kernel
theorem dX10_nextNumberOf_13 : decode cX10_nextNumberOf 13 = .ok (.iconst 0, 1) := by decide +kernel
theorem dX10_nextNumberOf_14 : decode cX10_nextNumberOf 14 = .ok (.ireturn, 1) := by decide +kernel
theorem dX10_nextNumberOf_15 : decode cX10_nextNumberOf 15 = .ok (.aload_n 0, 1) := by decide +kernel
theorem dX10_nextNumberOf_16 : decode cX10_nextNumberOf 16 = .ok (.getfield 65, 3) := by decide +kernel
theorem dX10_nextNumberOf_19 : decode cX10_nextNumberOf 19 = .ok (.iload_n 1, 1) := by decide +kernel
theorem dX10_nextNumberOf_20 : decode cX10_nextNumberOf 20 = .ok (.dup2, 1) := by decide +kernel
theorem dX10_nextNumberOf_21 : decode cX10_nextNumberOf 21 = .ok (.iaload, 1) := by decide +kernel
theorem dX10_nextNumberOf_22 : decode cX10_nextNumberOf 22 = .ok (.iconst 1, 1) := by decide +kernel
theorem dX10_nextNumberOf_23 : decode cX10_nextNumberOf 23 = .ok (.iadd, 1) := by decide +kernel
theorem dX10_nextNumberOf_24 : decode cX10_nextNumberOf 24 = .ok (.iastore, 1) := by decide +kernel
theorem dX10_nextNumberOf_25 : decode cX10_nextNumberOf 25 = .ok (.aload_n 0, 1) := by decide +kernel
theorem dX10_nextNumberOf_26 : decode cX10_nextNumberOf 26 = .ok (.getfield 65, 3) := by decide +kernel
theorem dX10_nextNumberOf_29 : decode cX10_nextNumberOf 29 = .ok (.iload_n 1, 1) := by decide +kernel
theorem dX10_nextNumberOf_30 : decode cX10_nextNumberOf 30 = .ok (.iaload, 1) := by decide +kernel
theorem dX10_nextNumberOf_31 : decode cX10_nextNumberOf 31 = .ok (.ireturn, 1) := by decide +kernel
theorem dX10_divided_0 : decode cX10_divided 0 = .ok (.lload_n 2, 1) := by decide +kernel
theorem dX10_divided_1 : decode cX10_divided 1 = .ok (.lconst 0, 1) := by decide +kernel
theorem dX10_divided_2 : decode cX10_divided 2 = .ok (.lcmp, 1) := by decide +kernel
theorem dX10_divided_3 : decode cX10_divided 3 = .ok (.ifCond .ne 7, 3) := by decide +kernel
theorem dX10_divided_6 : decode cX10_divided 6 = .ok (.lconst 0, 1) := by decide +kernel
theorem dX10_divided_7 : decode cX10_divided 7 = .ok (.goto 8, 3) := by decide +kernel
theorem dX10_divided_10 : decode cX10_divided 10 = .ok (.lload_n 0, 1) := by decide +kernel
theorem dX10_divided_11 : decode cX10_divided 11 = .ok (.lload_n 2, 1) := by decide +kernel
theorem dX10_divided_12 : decode cX10_divided 12 = .ok (.invokestatic 469, 3) := by decide +kernel
theorem dX10_divided_15 : decode cX10_divided 15 = .ok (.lreturn, 1) := by decide +kernel
theorem dX10_rootOf_0 : decode cX10_rootOf 0 = .ok (.lconst 0, 1) := by decide +kernel
theorem dX10_rootOf_1 : decode cX10_rootOf 1 = .ok (.lstore_n 2, 1) := by decide +kernel
theorem dX10_rootOf_2 : decode cX10_rootOf 2 = .ok (.bipush 30, 2) := by decide +kernel
theorem dX10_rootOf_4 : decode cX10_rootOf 4 = .ok (.istore 4, 2) := by decide +kernel
theorem dX10_rootOf_6 : decode cX10_rootOf 6 = .ok (.iload 4, 2) := by decide +kernel
theorem dX10_rootOf_8 : decode cX10_rootOf 8 = .ok (.ifCond .lt 30, 3) := by decide +kernel
theorem dX10_rootOf_11 : decode cX10_rootOf 11 = .ok (.lload_n 2, 1) := by decide +kernel
theorem dX10_rootOf_12 : decode cX10_rootOf 12 = .ok (.lconst 1, 1) := by decide +kernel
theorem dX10_rootOf_13 : decode cX10_rootOf 13 = .ok (.iload 4, 2) := by decide +kernel
theorem dX10_rootOf_15 : decode cX10_rootOf 15 = .ok (.lshl, 1) := by decide +kernel
theorem dX10_rootOf_16 : decode cX10_rootOf 16 = .ok (.ladd, 1) := by decide +kernel
theorem dX10_rootOf_17 : decode cX10_rootOf 17 = .ok (.lstore 5, 2) := by decide +kernel
theorem dX10_rootOf_19 : decode cX10_rootOf 19 = .ok (.lload 5, 2) := by decide +kernel
theorem dX10_rootOf_21 : decode cX10_rootOf 21 = .ok (.lload 5, 2) := by decide +kernel
theorem dX10_rootOf_23 : decode cX10_rootOf 23 = .ok (.lmul, 1) := by decide +kernel
theorem dX10_rootOf_24 : decode cX10_rootOf 24 = .ok (.lload_n 0, 1) := by decide +kernel
theorem dX10_rootOf_25 : decode cX10_rootOf 25 = .ok (.lcmp, 1) := by decide +kernel
theorem dX10_rootOf_26 : decode cX10_rootOf 26 = .ok (.ifCond .gt 6, 3) := by decide +kernel
theorem dX10_rootOf_29 : decode cX10_rootOf 29 = .ok (.lload 5, 2) := by decide +kernel
theorem dX10_rootOf_31 : decode cX10_rootOf 31 = .ok (.lstore_n 2, 1) := by decide +kernel
theorem dX10_rootOf_32 : decode cX10_rootOf 32 = .ok (.iinc 4 (-1), 3) := by decide +kernel
theorem dX10_rootOf_35 : decode cX10_rootOf 35 = .ok (.goto (-29), 3) := by decide +kernel
theorem dX10_rootOf_38 : decode cX10_rootOf 38 = .ok (.lload_n 2, 1) := by decide +kernel
theorem dX10_rootOf_39 : decode cX10_rootOf 39 = .ok (.lreturn, 1) := by decide +kernel
theorem dX11_init_0 : decode cX11_init 0 = .ok (.aload_n 0, 1) := by decide +kernel
theorem dX11_init_1 : decode cX11_init 1 = .ok (.invokespecial 1, 3) := by decide +kernel
theorem dX11_init_4 : decode cX11_init 4 = .ok (.aload_n 0, 1) := by decide +kernel
theorem dX11_init_5 : decode cX11_init 5 = .ok (.bipush 10, 2) := by decide +kernel
theorem dX11_init_7 : decode cX11_init 7 = .ok (.newarray .int, 2) := by decide +kernel
theorem dX11_init_9 : decode cX11_init 9 = .ok (.putfield 7, 3) := by decide +kernel
theorem dX11_init_12 : decode cX11_init 12 = .ok (.aload_n 0, 1) := by decide +kernel
theorem dX11_init_13 : decode cX11_init 13 = .ok (.bipush 10, 2) := by decide +kernel
theorem dX11_init_15 : decode cX11_init 15 = .ok (.newarray .int, 2) := by decide +kernel
theorem dX11_init_17 : decode cX11_init 17 = .ok (.putfield 13, 3) := by decide +kernel
theorem dX11_init_20 : decode cX11_init 20 = .ok (.aload_n 0, 1) := by decide +kernel
theorem dX11_init_21 : decode cX11_init 21 = .ok (.bipush 10, 2) := by decide +kernel
theorem dX11_init_23 : decode cX11_init 23 = .ok (.newarray .int, 2) := by decide +kernel
theorem dX11_init_25 : decode cX11_init 25 = .ok (.putfield 16, 3) := by decide +kernel
theorem dX11_init_28 : decode cX11_init 28 = .ok (.aload_n 0, 1) := by decide +kernel
theorem dX11_init_29 : decode cX11_init 29 = .ok (.bipush 50, 2) := by decide +kernel
theorem dX11_init_31 : decode cX11_init 31 = .ok (.newarray .int, 2) := by decide +kernel
theorem dX11_init_33 : decode cX11_init 33 = .ok (.putfield 19, 3) := by decide +kernel
theorem dX11_init_36 : decode cX11_init 36 = .ok (.aload_n 0, 1) := by decide +kernel
theorem dX11_init_37 : decode cX11_init 37 = .ok (.bipush 50, 2) := by decide +kernel
theorem dX11_init_39 : decode cX11_init 39 = .ok (.newarray .int, 2) := by decide +kernel
theorem dX11_init_41 : decode cX11_init 41 = .ok (.putfield 22, 3) := by decide +kernel
theorem dX11_init_44 : decode cX11_init 44 = .ok (.aload_n 0, 1) := by decide +kernel
theorem dX11_init_45 : decode cX11_init 45 = .ok (.iconst (-1), 1) := by decide +kernel
theorem dX11_init_46 : decode cX11_init 46 = .ok (.putfield 25, 3) := by decide +kernel
theorem dX11_init_49 : decode cX11_init 49 = .ok (.aload_n 0, 1) := by decide +kernel
theorem dX11_init_50 : decode cX11_init 50 = .ok (.bipush 60, 2) := by decide +kernel
theorem dX11_init_52 : decode cX11_init 52 = .ok (.newarray .int, 2) := by decide +kernel
theorem dX11_init_54 : decode cX11_init 54 = .ok (.putfield 29, 3) := by decide +kernel
theorem dX11_init_57 : decode cX11_init 57 = .ok (.aload_n 0, 1) := by decide +kernel
theorem dX11_init_58 : decode cX11_init 58 = .ok (.bipush 60, 2) := by decide +kernel
theorem dX11_init_60 : decode cX11_init 60 = .ok (.newarray .int, 2) := by decide +kernel
theorem dX11_init_62 : decode cX11_init 62 = .ok (.putfield 32, 3) := by decide +kernel
theorem dX11_init_65 : decode cX11_init 65 = .ok (.aload_n 0, 1) := by decide +kernel
theorem dX11_init_66 : decode cX11_init 66 = .ok (.bipush 60, 2) := by decide +kernel
theorem dX11_init_68 : decode cX11_init 68 = .ok (.newarray .int, 2) := by decide +kernel
theorem dX11_init_70 : decode cX11_init 70 = .ok (.putfield 35, 3) := by decide +kernel
theorem dX11_init_73 : decode cX11_init 73 = .ok (.aload_n 0, 1) := by decide +kernel
theorem dX11_init_74 : decode cX11_init 74 = .ok (.bipush 60, 2) := by decide +kernel
theorem dX11_init_76 : decode cX11_init 76 = .ok (.newarray .int, 2) := by decide +kernel
theorem dX11_init_78 : decode cX11_init 78 = .ok (.putfield 38, 3) := by decide +kernel
theorem dX11_init_81 : decode cX11_init 81 = .ok (.aload_n 0, 1) := by decide +kernel
theorem dX11_init_82 : decode cX11_init 82 = .ok (.bipush 60, 2) := by decide +kernel
theorem dX11_init_84 : decode cX11_init 84 = .ok (.newarray .int, 2) := by decide +kernel
theorem dX11_init_86 : decode cX11_init 86 = .ok (.putfield 41, 3) := by decide +kernel
theorem dX11_init_89 : decode cX11_init 89 = .ok (.aload_n 0, 1) := by decide +kernel
theorem dX11_init_90 : decode cX11_init 90 = .ok (.bipush 60, 2) := by decide +kernel
theorem dX11_init_92 : decode cX11_init 92 = .ok (.newarray .int, 2) := by decide +kernel
theorem dX11_init_94 : decode cX11_init 94 = .ok (.putfield 44, 3) := by decide +kernel
theorem dX11_init_97 : decode cX11_init 97 = .ok (.aload_n 0, 1) := by decide +kernel
theorem dX11_init_98 : decode cX11_init 98 = .ok (.bipush 60, 2) := by decide +kernel
theorem dX11_init_100 : decode cX11_init 100 = .ok (.newarray .int, 2) := by decide +kernel
theorem dX11_init_102 : decode cX11_init 102 = .ok (.putfield 47, 3) := by decide +kernel
theorem dX11_init_105 : decode cX11_init 105 = .ok (.aload_n 0, 1) := by decide +kernel
theorem dX11_init_106 : decode cX11_init 106 = .ok (.bipush 60, 2) := by decide +kernel
theorem dX11_init_108 : decode cX11_init 108 = .ok (.newarray .int, 2) := by decide +kernel
theorem dX11_init_110 : decode cX11_init 110 = .ok (.putfield 50, 3) := by decide +kernel
theorem dX11_init_113 : decode cX11_init 113 = .ok (.aload_n 0, 1) := by decide +kernel
theorem dX11_init_114 : decode cX11_init 114 = .ok (.bipush 60, 2) := by decide +kernel
theorem dX11_init_116 : decode cX11_init 116 = .ok (.newarray .int, 2) := by decide +kernel
theorem dX11_init_118 : decode cX11_init 118 = .ok (.putfield 53, 3) := by decide +kernel
theorem dX11_init_121 : decode cX11_init 121 = .ok (.aload_n 0, 1) := by decide +kernel
theorem dX11_init_122 : decode cX11_init 122 = .ok (.bipush 60, 2) := by decide +kernel
theorem dX11_init_124 : decode cX11_init 124 = .ok (.newarray .int, 2) := by decide +kernel
theorem dX11_init_126 : decode cX11_init 126 = .ok (.putfield 56, 3) := by decide +kernel
theorem dX11_init_129 : decode cX11_init 129 = .ok (.aload_n 0, 1) := by decide +kernel
theorem dX11_init_130 : decode cX11_init 130 = .ok (.bipush 60, 2) := by decide +kernel
theorem dX11_init_132 : decode cX11_init 132 = .ok (.newarray .boolean, 2) := by decide +kernel
theorem dX11_init_134 : decode cX11_init 134 = .ok (.putfield 59, 3) := by decide +kernel
theorem dX11_init_137 : decode cX11_init 137 = .ok (.aload_n 0, 1) := by decide +kernel
theorem dX11_init_138 : decode cX11_init 138 = .ok (.bipush 50, 2) := by decide +kernel
theorem dX11_init_140 : decode cX11_init 140 = .ok (.newarray .int, 2) := by decide +kernel
theorem dX11_init_142 : decode cX11_init 142 = .ok (.putfield 63, 3) := by decide +kernel
theorem dX11_init_145 : decode cX11_init 145 = .ok (.aload_n 0, 1) := by decide +kernel
theorem dX11_init_146 : decode cX11_init 146 = .ok (.bipush 50, 2) := by decide +kernel
theorem dX11_init_148 : decode cX11_init 148 = .ok (.newarray .int, 2) := by decide +kernel
theorem dX11_init_150 : decode cX11_init 150 = .ok (.putfield 66, 3) := by decide +kernel
theorem dX11_init_153 : decode cX11_init 153 = .ok (.aload_n 0, 1) := by decide +kernel
theorem dX11_init_154 : decode cX11_init 154 = .ok (.bipush 50, 2) := by decide +kernel
theorem dX11_init_156 : decode cX11_init 156 = .ok (.newarray .int, 2) := by decide +kernel
theorem dX11_init_158 : decode cX11_init 158 = .ok (.putfield 69, 3) := by decide +kernel
theorem dX11_init_161 : decode cX11_init 161 = .ok (.aload_n 0, 1) := by decide +kernel
theorem dX11_init_162 : decode cX11_init 162 = .ok (.bipush 60, 2) := by decide +kernel
theorem dX11_init_164 : decode cX11_init 164 = .ok (.newarray .int, 2) := by decide +kernel
theorem dX11_init_166 : decode cX11_init 166 = .ok (.putfield 72, 3) := by decide +kernel
theorem dX11_init_169 : decode cX11_init 169 = .ok (.aload_n 0, 1) := by decide +kernel
theorem dX11_init_170 : decode cX11_init 170 = .ok (.bipush 60, 2) := by decide +kernel
theorem dX11_init_172 : decode cX11_init 172 = .ok (.newarray .int, 2) := by decide +kernel
theorem dX11_init_174 : decode cX11_init 174 = .ok (.putfield 75, 3) := by decide +kernel
theorem dX11_init_177 : decode cX11_init 177 = .ok (.aload_n 0, 1) := by decide +kernel
theorem dX11_init_178 : decode cX11_init 178 = .ok (.bipush 60, 2) := by decide +kernel
theorem dX11_init_180 : decode cX11_init 180 = .ok (.newarray .int, 2) := by decide +kernel
theorem dX11_init_182 : decode cX11_init 182 = .ok (.putfield 78, 3) := by decide +kernel
theorem dX11_init_185 : decode cX11_init 185 = .ok (.aload_n 0, 1) := by decide +kernel
theorem dX11_init_186 : decode cX11_init 186 = .ok (.bipush 60, 2) := by decide +kernel
theorem dX11_init_188 : decode cX11_init 188 = .ok (.newarray .int, 2) := by decide +kernel
theorem dX11_init_190 : decode cX11_init 190 = .ok (.putfield 81, 3) := by decide +kernel
theorem dX11_init_193 : decode cX11_init 193 = .ok (.aload_n 0, 1) := by decide +kernel
theorem dX11_init_194 : decode cX11_init 194 = .ok (.iconst 5, 1) := by decide +kernel
theorem dX11_init_195 : decode cX11_init 195 = .ok (.newarray .long, 2) := by decide +kernel
theorem dX11_init_197 : decode cX11_init 197 = .ok (.putfield 84, 3) := by decide +kernel
theorem dX11_init_200 : decode cX11_init 200 = .ok (.aload_n 0, 1) := by decide +kernel
theorem dX11_init_201 : decode cX11_init 201 = .ok (.iconst 5, 1) := by decide +kernel
theorem dX11_init_202 : decode cX11_init 202 = .ok (.newarray .long, 2) := by decide +kernel
theorem dX11_init_204 : decode cX11_init 204 = .ok (.putfield 88, 3) := by decide +kernel
theorem dX11_init_207 : decode cX11_init 207 = .ok (.aload_n 0, 1) := by decide +kernel
theorem dX11_init_208 : decode cX11_init 208 = .ok (.bipush 40, 2) := by decide +kernel
theorem dX11_init_210 : decode cX11_init 210 = .ok (.newarray .int, 2) := by decide +kernel
theorem dX11_init_212 : decode cX11_init 212 = .ok (.putfield 91, 3) := by decide +kernel
theorem dX11_init_215 : decode cX11_init 215 = .ok (.aload_n 0, 1) := by decide +kernel
theorem dX11_init_216 : decode cX11_init 216 = .ok (.bipush 40, 2) := by decide +kernel
theorem dX11_init_218 : decode cX11_init 218 = .ok (.newarray .int, 2) := by decide +kernel
theorem dX11_init_220 : decode cX11_init 220 = .ok (.putfield 94, 3) := by decide +kernel
theorem dX11_init_223 : decode cX11_init 223 = .ok (.aload_n 0, 1) := by decide +kernel
theorem dX11_init_224 : decode cX11_init 224 = .ok (.bipush 40, 2) := by decide +kernel
theorem dX11_init_226 : decode cX11_init 226 = .ok (.newarray .int, 2) := by decide +kernel
theorem dX11_init_228 : decode cX11_init 228 = .ok (.putfield 97, 3) := by decide +kernel
theorem dX11_init_231 : decode cX11_init 231 = .ok (.aload_n 0, 1) := by decide +kernel
theorem dX11_init_232 : decode cX11_init 232 = .ok (.bipush 40, 2) := by decide +kernel
theorem dX11_init_234 : decode cX11_init 234 = .ok (.newarray .int, 2) := by decide +kernel
theorem dX11_init_236 : decode cX11_init 236 = .ok (.putfield 100, 3) := by decide +kernel
theorem dX11_init_239 : decode cX11_init 239 = .ok (.aload_n 0, 1) := by decide +kernel
theorem dX11_init_240 : decode cX11_init 240 = .ok (.bipush 40, 2) := by decide +kernel
theorem dX11_init_242 : decode cX11_init 242 = .ok (.newarray .int, 2) := by decide +kernel
theorem dX11_init_244 : decode cX11_init 244 = .ok (.putfield 103, 3) := by decide +kernel
theorem dX11_init_247 : decode cX11_init 247 = .ok (.aload_n 0, 1) := by decide +kernel
theorem dX11_init_248 : decode cX11_init 248 = .ok (.bipush 40, 2) := by decide +kernel
theorem dX11_init_250 : decode cX11_init 250 = .ok (.newarray .int, 2) := by decide +kernel
theorem dX11_init_252 : decode cX11_init 252 = .ok (.putfield 106, 3) := by decide +kernel
theorem dX11_init_255 : decode cX11_init 255 = .ok (.aload_n 0, 1) := by decide +kernel
theorem dX11_init_256 : decode cX11_init 256 = .ok (.bipush 40, 2) := by decide +kernel
theorem dX11_init_258 : decode cX11_init 258 = .ok (.newarray .int, 2) := by decide +kernel
theorem dX11_init_260 : decode cX11_init 260 = .ok (.putfield 109, 3) := by decide +kernel
theorem dX11_init_263 : decode cX11_init 263 = .ok (.aload_n 0, 1) := by decide +kernel
theorem dX11_init_264 : decode cX11_init 264 = .ok (.bipush 40, 2) := by decide +kernel
theorem dX11_init_266 : decode cX11_init 266 = .ok (.newarray .int, 2) := by decide +kernel
theorem dX11_init_268 : decode cX11_init 268 = .ok (.putfield 112, 3) := by decide +kernel
theorem dX11_init_271 : decode cX11_init 271 = .ok (.aload_n 0, 1) := by decide +kernel
theorem dX11_init_272 : decode cX11_init 272 = .ok (.bipush 40, 2) := by decide +kernel
theorem dX11_init_274 : decode cX11_init 274 = .ok (.newarray .int, 2) := by decide +kernel
theorem dX11_init_276 : decode cX11_init 276 = .ok (.putfield 115, 3) := by decide +kernel
theorem dX11_init_279 : decode cX11_init 279 = .ok (.aload_n 0, 1) := by decide +kernel
theorem dX11_init_280 : decode cX11_init 280 = .ok (.bipush 40, 2) := by decide +kernel
theorem dX11_init_282 : decode cX11_init 282 = .ok (.newarray .boolean, 2) := by decide +kernel
theorem dX11_init_284 : decode cX11_init 284 = .ok (.putfield 118, 3) := by decide +kernel
theorem dX11_init_287 : decode cX11_init 287 = .ok (.aload_n 0, 1) := by decide +kernel
theorem dX11_init_288 : decode cX11_init 288 = .ok (.bipush 40, 2) := by decide +kernel
theorem dX11_init_290 : decode cX11_init 290 = .ok (.newarray .int, 2) := by decide +kernel
theorem dX11_init_292 : decode cX11_init 292 = .ok (.putfield 121, 3) := by decide +kernel
theorem dX11_init_295 : decode cX11_init 295 = .ok (.aload_n 0, 1) := by decide +kernel
theorem dX11_init_296 : decode cX11_init 296 = .ok (.bipush 40, 2) := by decide +kernel
theorem dX11_init_298 : decode cX11_init 298 = .ok (.newarray .int, 2) := by decide +kernel
theorem dX11_init_300 : decode cX11_init 300 = .ok (.putfield 124, 3) := by decide +kernel
theorem dX11_init_303 : decode cX11_init 303 = .ok (.aload_n 0, 1) := by decide +kernel
theorem dX11_init_304 : decode cX11_init 304 = .ok (.bipush 40, 2) := by decide +kernel
theorem dX11_init_306 : decode cX11_init 306 = .ok (.newarray .int, 2) := by decide +kernel
theorem dX11_init_308 : decode cX11_init 308 = .ok (.putfield 127, 3) := by decide +kernel
theorem dX11_init_311 : decode cX11_init 311 = .ok (.aload_n 0, 1) := by decide +kernel
theorem dX11_init_312 : decode cX11_init 312 = .ok (.bipush 40, 2) := by decide +kernel
theorem dX11_init_314 : decode cX11_init 314 = .ok (.newarray .int, 2) := by decide +kernel
theorem dX11_init_316 : decode cX11_init 316 = .ok (.putfield 130, 3) := by decide +kernel
theorem dX11_init_319 : decode cX11_init 319 = .ok (.aload_n 0, 1) := by decide +kernel
theorem dX11_init_320 : decode cX11_init 320 = .ok (.bipush 40, 2) := by decide +kernel
theorem dX11_init_322 : decode cX11_init 322 = .ok (.newarray .boolean, 2) := by decide +kernel
theorem dX11_init_324 : decode cX11_init 324 = .ok (.putfield 133, 3) := by decide +kernel
theorem dX11_init_327 : decode cX11_init 327 = .ok (.aload_n 0, 1) := by decide +kernel
theorem dX11_init_328 : decode cX11_init 328 = .ok (.bipush 10, 2) := by decide +kernel
theorem dX11_init_330 : decode cX11_init 330 = .ok (.newarray .int, 2) := by decide +kernel
theorem dX11_init_332 : decode cX11_init 332 = .ok (.putfield 136, 3) := by decide +kernel
theorem dX11_init_335 : decode cX11_init 335 = .ok (.aload_n 0, 1) := by decide +kernel
theorem dX11_init_336 : decode cX11_init 336 = .ok (.bipush 10, 2) := by decide +kernel
theorem dX11_init_338 : decode cX11_init 338 = .ok (.newarray .boolean, 2) := by decide +kernel
theorem dX11_init_340 : decode cX11_init 340 = .ok (.putfield 139, 3) := by decide +kernel
theorem dX11_init_343 : decode cX11_init 343 = .ok (.aload_n 0, 1) := by decide +kernel
theorem dX11_init_344 : decode cX11_init 344 = .ok (.bipush 10, 2) := by decide +kernel
theorem dX11_init_346 : decode cX11_init 346 = .ok (.newarray .int, 2) := by decide +kernel
theorem dX11_init_348 : decode cX11_init 348 = .ok (.putfield 142, 3) := by decide +kernel
theorem dX11_init_351 : decode cX11_init 351 = .ok (.aload_n 0, 1) := by decide +kernel
theorem dX11_init_352 : decode cX11_init 352 = .ok (.bipush 10, 2) := by decide +kernel
theorem dX11_init_354 : decode cX11_init 354 = .ok (.newarray .int, 2) := by decide +kernel
theorem dX11_init_356 : decode cX11_init 356 = .ok (.putfield 145, 3) := by decide +kernel
theorem dX11_init_359 : decode cX11_init 359 = .ok (.aload_n 0, 1) := by decide +kernel
theorem dX11_init_360 : decode cX11_init 360 = .ok (.iconst 4, 1) := by decide +kernel
theorem dX11_init_361 : decode cX11_init 361 = .ok (.newarray .int, 2) := by decide +kernel
theorem dX11_init_363 : decode cX11_init 363 = .ok (.putfield 148, 3) := by decide +kernel
theorem dX11_init_366 : decode cX11_init 366 = .ok (.return_, 1) := by decide +kernel
theorem dX11_thrown_0 : decode cX11_thrown 0 = .ok (.aload_n 0, 1) := by decide +kernel
theorem dX11_thrown_1 : decode cX11_thrown 1 = .ok (.getfield 151, 3) := by decide +kernel
theorem dX11_thrown_4 : decode cX11_thrown 4 = .ok (.ireturn, 1) := by decide +kernel
theorem dX11_isIn_0 : decode cX11_isIn 0 = .ok (.iload_n 0, 1) := by decide +kernel
theorem dX11_isIn_1 : decode cX11_isIn 1 = .ok (.iload_n 1, 1) := by decide +kernel
theorem dX11_isIn_2 : decode cX11_isIn 2 = .ok (.if_icmp .lt 12, 3) := by decide +kernel
theorem dX11_isIn_5 : decode cX11_isIn 5 = .ok (.iload_n 0, 1) := by decide +kernel
theorem dX11_isIn_6 : decode cX11_isIn 6 = .ok (.iload_n 2, 1) := by decide +kernel
theorem dX11_isIn_7 : decode cX11_isIn 7 = .ok (.if_icmp .gt 7, 3) := by decide +kernel
theorem dX11_isIn_10 : decode cX11_isIn 10 = .ok (.iconst 1, 1) := by decide +kernel
theorem dX11_isIn_11 : decode cX11_isIn 11 = .ok (.goto 4, 3) := by decide +kernel
theorem dX11_isIn_14 : decode cX11_isIn 14 = .ok (.iconst 0, 1) := by decide +kernel
theorem dX11_isIn_15 : decode cX11_isIn 15 = .ok (.ireturn, 1) := by decide +kernel
theorem dX11_down_0 : decode cX11_down 0 = .ok (.lload_n 0, 1) := by decide +kernel
theorem dX11_down_1 : decode cX11_down 1 = .ok (.lconst 0, 1) := by decide +kernel
theorem dX11_down_2 : decode cX11_down 2 = .ok (.lcmp, 1) := by decide +kernel
theorem dX11_down_3 : decode cX11_down 3 = .ok (.ifCond .lt 9, 3) := by decide +kernel
theorem dX11_down_6 : decode cX11_down 6 = .ok (.lload_n 0, 1) := by decide +kernel
theorem dX11_down_7 : decode cX11_down 7 = .ok (.lload_n 2, 1) := by decide +kernel
theorem dX11_down_8 : decode cX11_down 8 = .ok (.ldiv, 1) := by decide +kernel
theorem dX11_down_9 : decode cX11_down 9 = .ok (.goto 11, 3) := by decide +kernel
theorem dX11_down_12 : decode cX11_down 12 = .ok (.lload_n 2, 1) := by decide +kernel
theorem dX11_down_13 : decode cX11_down 13 = .ok (.lconst 1, 1) := by decide +kernel
theorem dX11_down_14 : decode cX11_down 14 = .ok (.lsub, 1) := by decide +kernel
theorem dX11_down_15 : decode cX11_down 15 = .ok (.lload_n 0, 1) := by decide +kernel
theorem dX11_down_16 : decode cX11_down 16 = .ok (.lsub, 1) := by decide +kernel
theorem dX11_down_17 : decode cX11_down 17 = .ok (.lload_n 2, 1) := by decide +kernel
theorem dX11_down_18 : decode cX11_down 18 = .ok (.ldiv, 1) := by decide +kernel
theorem dX11_down_19 : decode cX11_down 19 = .ok (.lneg, 1) := by decide +kernel
theorem dX11_down_20 : decode cX11_down 20 = .ok (.lreturn, 1) := by decide +kernel
theorem dX11_root_0 : decode cX11_root 0 = .ok (.lconst 0, 1) := by decide +kernel
theorem dX11_root_1 : decode cX11_root 1 = .ok (.lstore_n 2, 1) := by decide +kernel
theorem dX11_root_2 : decode cX11_root 2 = .ok (.ldc2_w 154, 3) := by decide +kernel
theorem dX11_root_5 : decode cX11_root 5 = .ok (.lstore 4, 2) := by decide +kernel
theorem dX11_root_7 : decode cX11_root 7 = .ok (.lload_n 2, 1) := by decide +kernel
theorem dX11_root_8 : decode cX11_root 8 = .ok (.lload 4, 2) := by decide +kernel
theorem dX11_root_10 : decode cX11_root 10 = .ok (.lcmp, 1) := by decide +kernel
theorem dX11_root_11 : decode cX11_root 11 = .ok (.ifCond .ge 40, 3) := by decide +kernel
theorem dX11_root_14 : decode cX11_root 14 = .ok (.lload_n 2, 1) := by decide +kernel
theorem dX11_root_15 : decode cX11_root 15 = .ok (.lload 4, 2) := by decide +kernel
theorem dX11_root_17 : decode cX11_root 17 = .ok (.ladd, 1) := by decide +kernel
theorem dX11_root_18 : decode cX11_root 18 = .ok (.lconst 1, 1) := by decide +kernel
theorem dX11_root_19 : decode cX11_root 19 = .ok (.ladd, 1) := by decide +kernel
theorem dX11_root_20 : decode cX11_root 20 = .ok (.ldc2_w 156, 3) := by decide +kernel
theorem dX11_root_23 : decode cX11_root 23 = .ok (.ldiv, 1) := by decide +kernel
theorem dX11_root_24 : decode cX11_root 24 = .ok (.lstore 6, 2) := by decide +kernel
theorem dX11_root_26 : decode cX11_root 26 = .ok (.lload 6, 2) := by decide +kernel
theorem dX11_root_28 : decode cX11_root 28 = .ok (.lload 6, 2) := by decide +kernel
theorem dX11_root_30 : decode cX11_root 30 = .ok (.lmul, 1) := by decide +kernel
theorem dX11_root_31 : decode cX11_root 31 = .ok (.lload_n 0, 1) := by decide +kernel
theorem dX11_root_32 : decode cX11_root 32 = .ok (.lcmp, 1) := by decide +kernel
theorem dX11_root_33 : decode cX11_root 33 = .ok (.ifCond .gt 9, 3) := by decide +kernel
theorem dX11_root_36 : decode cX11_root 36 = .ok (.lload 6, 2) := by decide +kernel
theorem dX11_root_38 : decode cX11_root 38 = .ok (.lstore_n 2, 1) := by decide +kernel
theorem dX11_root_39 : decode cX11_root 39 = .ok (.goto 9, 3) := by decide +kernel
theorem dX11_root_42 : decode cX11_root 42 = .ok (.lload 6, 2) := by decide +kernel
theorem dX11_root_44 : decode cX11_root 44 = .ok (.lconst 1, 1) := by decide +kernel
theorem dX11_root_45 : decode cX11_root 45 = .ok (.lsub, 1) := by decide +kernel
theorem dX11_root_46 : decode cX11_root 46 = .ok (.lstore 4, 2) := by decide +kernel
theorem dX11_root_48 : decode cX11_root 48 = .ok (.goto (-41), 3) := by decide +kernel
theorem dX11_root_51 : decode cX11_root 51 = .ok (.lload_n 2, 1) := by decide +kernel
theorem dX11_root_52 : decode cX11_root 52 = .ok (.lreturn, 1) := by decide +kernel
theorem dX11_isNight_0 : decode cX11_isNight 0 = .ok (.iload_n 0, 1) := by decide +kernel
theorem dX11_isNight_1 : decode cX11_isNight 1 = .ok (.iconst 0, 1) := by decide +kernel
theorem dX11_isNight_2 : decode cX11_isNight 2 = .ok (.sipush 3649, 3) := by decide +kernel
theorem dX11_isNight_5 : decode cX11_isNight 5 = .ok (.invokestatic 158, 3) := by decide +kernel
theorem dX11_isNight_8 : decode cX11_isNight 8 = .ok (.ireturn, 1) := by decide +kernel
theorem dX11_isCamera_0 : decode cX11_isCamera 0 = .ok (.iload_n 1, 1) := by decide +kernel
theorem dX11_isCamera_1 : decode cX11_isCamera 1 = .ok (.iconst 0, 1) := by decide +kernel
theorem dX11_isCamera_2 : decode cX11_isCamera 2 = .ok (.aload_n 0, 1) := by decide +kernel
theorem dX11_isCamera_3 : decode cX11_isCamera 3 = .ok (.getfield 162, 3) := by decide +kernel
theorem dX11_isCamera_6 : decode cX11_isCamera 6 = .ok (.iconst 1, 1) := by decide +kernel
theorem dX11_isCamera_7 : decode cX11_isCamera 7 = .ok (.isub, 1) := by decide +kernel
theorem dX11_isCamera_8 : decode cX11_isCamera 8 = .ok (.invokestatic 158, 3) := by decide +kernel
theorem dX11_isCamera_11 : decode cX11_isCamera 11 = .ok (.ireturn, 1) := by decide +kernel
theorem dX11_camera_0 : decode cX11_camera 0 = .ok (.iload_n 1, 1) := by decide +kernel
theorem dX11_camera_1 : decode cX11_camera 1 = .ok (.iconst 0, 1) := by decide +kernel
theorem dX11_camera_2 : decode cX11_camera 2 = .ok (.bipush 99, 2) := by decide +kernel
theorem dX11_camera_4 : decode cX11_camera 4 = .ok (.invokestatic 158, 3) := by decide +kernel
theorem dX11_camera_7 : decode cX11_camera 7 = .ok (.ifCond .eq 28, 3) := by decide +kernel
theorem dX11_camera_10 : decode cX11_camera 10 = .ok (.iload_n 2, 1) := by decide +kernel
theorem dX11_camera_11 : decode cX11_camera 11 = .ok (.iconst 0, 1) := by decide +kernel
theorem dX11_camera_12 : decode cX11_camera 12 = .ok (.bipush 99, 2) := by decide +kernel
theorem dX11_camera_14 : decode cX11_camera 14 = .ok (.invokestatic 158, 3) := by decide +kernel
theorem dX11_camera_17 : decode cX11_camera 17 = .ok (.ifCond .eq 18, 3) := by decide +kernel
theorem dX11_camera_20 : decode cX11_camera 20 = .ok (.iload_n 3, 1) := by decide +kernel
theorem dX11_camera_21 : decode cX11_camera 21 = .ok (.bipush (-99), 2) := by decide +kernel
theorem dX11_camera_23 : decode cX11_camera 23 = .ok (.bipush 99, 2) := by decide +kernel
theorem dX11_camera_25 : decode cX11_camera 25 = .ok (.invokestatic 158, 3) := by decide +kernel
theorem dX11_camera_28 : decode cX11_camera 28 = .ok (.ifCond .eq 7, 3) := by decide +kernel
theorem dX11_camera_31 : decode cX11_camera 31 = .ok (.iconst 1, 1) := by decide +kernel
theorem dX11_camera_32 : decode cX11_camera 32 = .ok (.goto 4, 3) := by decide +kernel
theorem dX11_camera_35 : decode cX11_camera 35 = .ok (.iconst 0, 1) := by decide +kernel
theorem dX11_camera_36 : decode cX11_camera 36 = .ok (.istore 4, 2) := by decide +kernel
theorem dX11_camera_38 : decode cX11_camera 38 = .ok (.aload_n 0, 1) := by decide +kernel
theorem dX11_camera_39 : decode cX11_camera 39 = .ok (.iload 4, 2) := by decide +kernel
theorem dX11_camera_41 : decode cX11_camera 41 = .ok (.ifCond .ne 7, 3) := by decide +kernel
theorem dX11_camera_44 : decode cX11_camera 44 = .ok (.iconst 1, 1) := by decide +kernel
theorem dX11_camera_45 : decode cX11_camera 45 = .ok (.goto 17, 3) := by decide +kernel
theorem dX11_camera_48 : decode cX11_camera 48 = .ok (.aload_n 0, 1) := by decide +kernel
theorem dX11_camera_49 : decode cX11_camera 49 = .ok (.getfield 162, 3) := by decide +kernel
theorem dX11_camera_52 : decode cX11_camera 52 = .ok (.bipush 10, 2) := by decide +kernel
theorem dX11_camera_54 : decode cX11_camera 54 = .ok (.if_icmp .ne 7, 3) := by decide +kernel
theorem dX11_camera_57 : decode cX11_camera 57 = .ok (.iconst 2, 1) := by decide +kernel
theorem dX11_camera_58 : decode cX11_camera 58 = .ok (.goto 4, 3) := by decide +kernel
theorem dX11_camera_61 : decode cX11_camera 61 = .ok (.iconst 0, 1) := by decide +kernel
theorem dX11_camera_62 : decode cX11_camera 62 = .ok (.putfield 151, 3) := by decide +kernel
theorem dX11_camera_65 : decode cX11_camera 65 = .ok (.aload_n 0, 1) := by decide +kernel
theorem dX11_camera_66 : decode cX11_camera 66 = .ok (.getfield 151, 3) := by decide +kernel
theorem dX11_camera_69 : decode cX11_camera 69 = .ok (.ifCond .le 5, 3) := by decide +kernel
theorem dX11_camera_72 : decode cX11_camera 72 = .ok (.iconst 0, 1) := by decide +kernel
theorem dX11_camera_73 : decode cX11_camera 73 = .ok (.ireturn, 1) := by decide +kernel
theorem dX11_camera_74 : decode cX11_camera 74 = .ok (.aload_n 0, 1) := by decide +kernel
theorem dX11_camera_75 : decode cX11_camera 75 = .ok (.getfield 7, 3) := by decide +kernel
theorem dX11_camera_78 : decode cX11_camera 78 = .ok (.aload_n 0, 1) := by decide +kernel
theorem dX11_camera_79 : decode cX11_camera 79 = .ok (.getfield 162, 3) := by decide +kernel
theorem dX11_camera_82 : decode cX11_camera 82 = .ok (.iload_n 1, 1) := by decide +kernel
theorem dX11_camera_83 : decode cX11_camera 83 = .ok (.iastore, 1) := by decide +kernel
theorem dX11_camera_84 : decode cX11_camera 84 = .ok (.aload_n 0, 1) := by decide +kernel
theorem dX11_camera_85 : decode cX11_camera 85 = .ok (.getfield 13, 3) := by decide +kernel
theorem dX11_camera_88 : decode cX11_camera 88 = .ok (.aload_n 0, 1) := by decide +kernel
theorem dX11_camera_89 : decode cX11_camera 89 = .ok (.getfield 162, 3) := by decide +kernel
theorem dX11_camera_92 : decode cX11_camera 92 = .ok (.iload_n 2, 1) := by decide +kernel
theorem dX11_camera_93 : decode cX11_camera 93 = .ok (.iastore, 1) := by decide +kernel
theorem dX11_camera_94 : decode cX11_camera 94 = .ok (.aload_n 0, 1) := by decide +kernel
theorem dX11_camera_95 : decode cX11_camera 95 = .ok (.getfield 16, 3) := by decide +kernel
theorem dX11_camera_98 : decode cX11_camera 98 = .ok (.aload_n 0, 1) := by decide +kernel
theorem dX11_camera_99 : decode cX11_camera 99 = .ok (.getfield 162, 3) := by decide +kernel
theorem dX11_camera_102 : decode cX11_camera 102 = .ok (.iload_n 3, 1) := by decide +kernel
theorem dX11_camera_103 : decode cX11_camera 103 = .ok (.iastore, 1) := by decide +kernel
theorem dX11_camera_104 : decode cX11_camera 104 = .ok (.aload_n 0, 1) := by decide +kernel
theorem dX11_camera_105 : decode cX11_camera 105 = .ok (.dup, 1) := by decide +kernel
theorem dX11_camera_106 : decode cX11_camera 106 = .ok (.getfield 162, 3) := by decide +kernel
theorem dX11_camera_109 : decode cX11_camera 109 = .ok (.iconst 1, 1) := by decide +kernel
theorem dX11_camera_110 : decode cX11_camera 110 = .ok (.iadd, 1) := by decide +kernel
theorem dX11_camera_111 : decode cX11_camera 111 = .ok (.putfield 162, 3) := by decide +kernel
theorem dX11_camera_114 : decode cX11_camera 114 = .ok (.aload_n 0, 1) := by decide +kernel
theorem dX11_camera_115 : decode cX11_camera 115 = .ok (.getfield 162, 3) := by decide +kernel
theorem dX11_camera_118 : decode cX11_camera 118 = .ok (.iconst 1, 1) := by decide +kernel
theorem dX11_camera_119 : decode cX11_camera 119 = .ok (.isub, 1) := by decide +kernel
theorem dX11_camera_120 : decode cX11_camera 120 = .ok (.ireturn, 1) := by decide +kernel
theorem dX11_clock_0 : decode cX11_clock 0 = .ok (.aload_n 0, 1) := by decide +kernel
theorem dX11_clock_1 : decode cX11_clock 1 = .ok (.aload_n 0, 1) := by decide +kernel
theorem dX11_clock_2 : decode cX11_clock 2 = .ok (.iload_n 1, 1) := by decide +kernel
theorem dX11_clock_3 : decode cX11_clock 3 = .ok (.invokevirtual 165, 3) := by decide +kernel
theorem dX11_clock_6 : decode cX11_clock 6 = .ok (.ifCond .ne 7, 3) := by decide +kernel
theorem dX11_clock_9 : decode cX11_clock 9 = .ok (.iconst 1, 1) := by decide +kernel
theorem dX11_clock_10 : decode cX11_clock 10 = .ok (.goto 19, 3) := by decide +kernel
theorem dX11_clock_13 : decode cX11_clock 13 = .ok (.iload_n 2, 1) := by decide +kernel
theorem dX11_clock_14 : decode cX11_clock 14 = .ok (.bipush (-99), 2) := by decide +kernel
theorem dX11_clock_16 : decode cX11_clock 16 = .ok (.bipush 99, 2) := by decide +kernel
theorem dX11_clock_18 : decode cX11_clock 18 = .ok (.invokestatic 158, 3) := by decide +kernel
theorem dX11_clock_21 : decode cX11_clock 21 = .ok (.ifCond .ne 7, 3) := by decide +kernel
theorem dX11_clock_24 : decode cX11_clock 24 = .ok (.iconst 2, 1) := by decide +kernel
theorem dX11_clock_25 : decode cX11_clock 25 = .ok (.goto 4, 3) := by decide +kernel
theorem dX11_clock_28 : decode cX11_clock 28 = .ok (.iconst 0, 1) := by decide +kernel
theorem dX11_clock_29 : decode cX11_clock 29 = .ok (.putfield 151, 3) := by decide +kernel
theorem dX11_clock_32 : decode cX11_clock 32 = .ok (.aload_n 0, 1) := by decide +kernel
theorem dX11_clock_33 : decode cX11_clock 33 = .ok (.getfield 151, 3) := by decide +kernel
theorem dX11_clock_36 : decode cX11_clock 36 = .ok (.ifCond .le 5, 3) := by decide +kernel
theorem dX11_clock_39 : decode cX11_clock 39 = .ok (.iconst 0, 1) := by decide +kernel
theorem dX11_clock_40 : decode cX11_clock 40 = .ok (.ireturn, 1) := by decide +kernel
theorem dX11_clock_41 : decode cX11_clock 41 = .ok (.aload_n 0, 1) := by decide +kernel
theorem dX11_clock_42 : decode cX11_clock 42 = .ok (.getfield 16, 3) := by decide +kernel
theorem dX11_clock_45 : decode cX11_clock 45 = .ok (.iload_n 1, 1) := by decide +kernel
theorem dX11_clock_46 : decode cX11_clock 46 = .ok (.iaload, 1) := by decide +kernel
theorem dX11_clock_47 : decode cX11_clock 47 = .ok (.istore_n 3, 1) := by decide +kernel
theorem dX11_clock_48 : decode cX11_clock 48 = .ok (.aload_n 0, 1) := by decide +kernel
theorem dX11_clock_49 : decode cX11_clock 49 = .ok (.getfield 16, 3) := by decide +kernel
theorem dX11_clock_52 : decode cX11_clock 52 = .ok (.iload_n 1, 1) := by decide +kernel
theorem dX11_clock_53 : decode cX11_clock 53 = .ok (.iload_n 2, 1) := by decide +kernel
theorem dX11_clock_54 : decode cX11_clock 54 = .ok (.iastore, 1) := by decide +kernel
theorem dX11_clock_55 : decode cX11_clock 55 = .ok (.iload_n 3, 1) := by decide +kernel
theorem dX11_clock_56 : decode cX11_clock 56 = .ok (.ireturn, 1) := by decide +kernel
theorem dX11_isCloudy_0 : decode cX11_isCloudy 0 = .ok (.iconst 0, 1) := by decide +kernel
theorem dX11_isCloudy_1 : decode cX11_isCloudy 1 = .ok (.istore_n 3, 1) := by decide +kernel
theorem dX11_isCloudy_2 : decode cX11_isCloudy 2 = .ok (.iconst 0, 1) := by decide +kernel
theorem dX11_isCloudy_3 : decode cX11_isCloudy 3 = .ok (.istore 4, 2) := by decide +kernel
theorem dX11_isCloudy_5 : decode cX11_isCloudy 5 = .ok (.iload 4, 2) := by decide +kernel
theorem dX11_isCloudy_7 : decode cX11_isCloudy 7 = .ok (.aload_n 0, 1) := by decide +kernel
theorem dX11_isCloudy_8 : decode cX11_isCloudy 8 = .ok (.getfield 169, 3) := by decide +kernel
theorem dX11_isCloudy_11 : decode cX11_isCloudy 11 = .ok (.if_icmp .ge 41, 3) := by decide +kernel
theorem dX11_isCloudy_14 : decode cX11_isCloudy 14 = .ok (.iload_n 3, 1) := by decide +kernel
theorem dX11_isCloudy_15 : decode cX11_isCloudy 15 = .ok (.ifCond .ne 25, 3) := by decide +kernel
theorem dX11_isCloudy_18 : decode cX11_isCloudy 18 = .ok (.aload_n 0, 1) := by decide +kernel
theorem dX11_isCloudy_19 : decode cX11_isCloudy 19 = .ok (.getfield 19, 3) := by decide +kernel
theorem dX11_isCloudy_22 : decode cX11_isCloudy 22 = .ok (.iload 4, 2) := by decide +kernel
theorem dX11_isCloudy_24 : decode cX11_isCloudy 24 = .ok (.iaload, 1) := by decide +kernel
theorem dX11_isCloudy_25 : decode cX11_isCloudy 25 = .ok (.iload_n 1, 1) := by decide +kernel
theorem dX11_isCloudy_26 : decode cX11_isCloudy 26 = .ok (.if_icmp .ne 18, 3) := by decide +kernel
theorem dX11_isCloudy_29 : decode cX11_isCloudy 29 = .ok (.aload_n 0, 1) := by decide +kernel
theorem dX11_isCloudy_30 : decode cX11_isCloudy 30 = .ok (.getfield 22, 3) := by decide +kernel
theorem dX11_isCloudy_33 : decode cX11_isCloudy 33 = .ok (.iload 4, 2) := by decide +kernel
theorem dX11_isCloudy_35 : decode cX11_isCloudy 35 = .ok (.iaload, 1) := by decide +kernel
theorem dX11_isCloudy_36 : decode cX11_isCloudy 36 = .ok (.iload_n 2, 1) := by decide +kernel
theorem dX11_isCloudy_37 : decode cX11_isCloudy 37 = .ok (.if_icmp .ne 7, 3) := by decide +kernel
theorem dX11_isCloudy_40 : decode cX11_isCloudy 40 = .ok (.iconst 1, 1) := by decide +kernel
theorem dX11_isCloudy_41 : decode cX11_isCloudy 41 = .ok (.goto 4, 3) := by decide +kernel
theorem dX11_isCloudy_44 : decode cX11_isCloudy 44 = .ok (.iconst 0, 1) := by decide +kernel
theorem dX11_isCloudy_45 : decode cX11_isCloudy 45 = .ok (.istore_n 3, 1) := by decide +kernel
theorem dX11_isCloudy_46 : decode cX11_isCloudy 46 = .ok (.iinc 4 1, 3) := by decide +kernel
theorem dX11_isCloudy_49 : decode cX11_isCloudy 49 = .ok (.goto (-44), 3) := by decide +kernel
theorem dX11_isCloudy_52 : decode cX11_isCloudy 52 = .ok (.iload_n 3, 1) := by decide +kernel
theorem dX11_isCloudy_53 : decode cX11_isCloudy 53 = .ok (.ireturn, 1) := by decide +kernel
theorem dX11_cloud_0 : decode cX11_cloud 0 = .ok (.aload_n 0, 1) := by decide +kernel
theorem dX11_cloud_1 : decode cX11_cloud 1 = .ok (.iload_n 1, 1) := by decide +kernel
theorem dX11_cloud_2 : decode cX11_cloud 2 = .ok (.iload_n 2, 1) := by decide +kernel
theorem dX11_cloud_3 : decode cX11_cloud 3 = .ok (.invokevirtual 172, 3) := by decide +kernel
theorem dX11_cloud_6 : decode cX11_cloud 6 = .ok (.istore_n 3, 1) := by decide +kernel
theorem dX11_cloud_7 : decode cX11_cloud 7 = .ok (.iconst 0, 1) := by decide +kernel
theorem dX11_cloud_8 : decode cX11_cloud 8 = .ok (.istore 4, 2) := by decide +kernel
theorem dX11_cloud_10 : decode cX11_cloud 10 = .ok (.iload 4, 2) := by decide +kernel
theorem dX11_cloud_12 : decode cX11_cloud 12 = .ok (.aload_n 0, 1) := by decide +kernel
theorem dX11_cloud_13 : decode cX11_cloud 13 = .ok (.getfield 176, 3) := by decide +kernel
theorem dX11_cloud_16 : decode cX11_cloud 16 = .ok (.if_icmp .ge 41, 3) := by decide +kernel
theorem dX11_cloud_19 : decode cX11_cloud 19 = .ok (.iload_n 3, 1) := by decide +kernel
theorem dX11_cloud_20 : decode cX11_cloud 20 = .ok (.ifCond .ne 25, 3) := by decide +kernel
theorem dX11_cloud_23 : decode cX11_cloud 23 = .ok (.aload_n 0, 1) := by decide +kernel
theorem dX11_cloud_24 : decode cX11_cloud 24 = .ok (.getfield 29, 3) := by decide +kernel
theorem dX11_cloud_27 : decode cX11_cloud 27 = .ok (.iload 4, 2) := by decide +kernel
theorem dX11_cloud_29 : decode cX11_cloud 29 = .ok (.iaload, 1) := by decide +kernel
theorem dX11_cloud_30 : decode cX11_cloud 30 = .ok (.iload_n 1, 1) := by decide +kernel
theorem dX11_cloud_31 : decode cX11_cloud 31 = .ok (.if_icmp .ne 18, 3) := by decide +kernel
theorem dX11_cloud_34 : decode cX11_cloud 34 = .ok (.aload_n 0, 1) := by decide +kernel
theorem dX11_cloud_35 : decode cX11_cloud 35 = .ok (.getfield 32, 3) := by decide +kernel
theorem dX11_cloud_38 : decode cX11_cloud 38 = .ok (.iload 4, 2) := by decide +kernel
theorem dX11_cloud_40 : decode cX11_cloud 40 = .ok (.iaload, 1) := by decide +kernel
theorem dX11_cloud_41 : decode cX11_cloud 41 = .ok (.iload_n 2, 1) := by decide +kernel
theorem dX11_cloud_42 : decode cX11_cloud 42 = .ok (.if_icmp .ne 7, 3) := by decide +kernel
theorem dX11_cloud_45 : decode cX11_cloud 45 = .ok (.iconst 1, 1) := by decide +kernel
theorem dX11_cloud_46 : decode cX11_cloud 46 = .ok (.goto 4, 3) := by decide +kernel
theorem dX11_cloud_49 : decode cX11_cloud 49 = .ok (.iconst 0, 1) := by decide +kernel
theorem dX11_cloud_50 : decode cX11_cloud 50 = .ok (.istore_n 3, 1) := by decide +kernel
theorem dX11_cloud_51 : decode cX11_cloud 51 = .ok (.iinc 4 1, 3) := by decide +kernel
theorem dX11_cloud_54 : decode cX11_cloud 54 = .ok (.goto (-44), 3) := by decide +kernel
theorem dX11_cloud_57 : decode cX11_cloud 57 = .ok (.aload_n 0, 1) := by decide +kernel
theorem dX11_cloud_58 : decode cX11_cloud 58 = .ok (.aload_n 0, 1) := by decide +kernel
theorem dX11_cloud_59 : decode cX11_cloud 59 = .ok (.iload_n 1, 1) := by decide +kernel
theorem dX11_cloud_60 : decode cX11_cloud 60 = .ok (.invokevirtual 165, 3) := by decide +kernel
theorem dX11_cloud_63 : decode cX11_cloud 63 = .ok (.ifCond .ne 7, 3) := by decide +kernel
theorem dX11_cloud_66 : decode cX11_cloud 66 = .ok (.iconst 1, 1) := by decide +kernel
theorem dX11_cloud_67 : decode cX11_cloud 67 = .ok (.goto 32, 3) := by decide +kernel
theorem dX11_cloud_70 : decode cX11_cloud 70 = .ok (.iload_n 2, 1) := by decide +kernel
theorem dX11_cloud_71 : decode cX11_cloud 71 = .ok (.invokestatic 179, 3) := by decide +kernel
theorem dX11_cloud_74 : decode cX11_cloud 74 = .ok (.ifCond .ne 7, 3) := by decide +kernel
theorem dX11_cloud_77 : decode cX11_cloud 77 = .ok (.iconst 2, 1) := by decide +kernel
theorem dX11_cloud_78 : decode cX11_cloud 78 = .ok (.goto 21, 3) := by decide +kernel
theorem dX11_cloud_81 : decode cX11_cloud 81 = .ok (.iload_n 3, 1) := by decide +kernel
theorem dX11_cloud_82 : decode cX11_cloud 82 = .ok (.ifCond .ne 12, 3) := by decide +kernel
theorem dX11_cloud_85 : decode cX11_cloud 85 = .ok (.aload_n 0, 1) := by decide +kernel
theorem dX11_cloud_86 : decode cX11_cloud 86 = .ok (.getfield 169, 3) := by decide +kernel
theorem dX11_cloud_89 : decode cX11_cloud 89 = .ok (.bipush 50, 2) := by decide +kernel
theorem dX11_cloud_91 : decode cX11_cloud 91 = .ok (.if_icmp .ne 7, 3) := by decide +kernel
theorem dX11_cloud_94 : decode cX11_cloud 94 = .ok (.iconst 3, 1) := by decide +kernel
theorem dX11_cloud_95 : decode cX11_cloud 95 = .ok (.goto 4, 3) := by decide +kernel
theorem dX11_cloud_98 : decode cX11_cloud 98 = .ok (.iconst 0, 1) := by decide +kernel
theorem dX11_cloud_99 : decode cX11_cloud 99 = .ok (.putfield 151, 3) := by decide +kernel
theorem dX11_cloud_102 : decode cX11_cloud 102 = .ok (.aload_n 0, 1) := by decide +kernel
theorem dX11_cloud_103 : decode cX11_cloud 103 = .ok (.getfield 151, 3) := by decide +kernel
theorem dX11_cloud_106 : decode cX11_cloud 106 = .ok (.ifCond .le 5, 3) := by decide +kernel
theorem dX11_cloud_109 : decode cX11_cloud 109 = .ok (.iconst 0, 1) := by decide +kernel
theorem dX11_cloud_110 : decode cX11_cloud 110 = .ok (.ireturn, 1) := by decide +kernel
theorem dX11_cloud_111 : decode cX11_cloud 111 = .ok (.aload_n 0, 1) := by decide +kernel
theorem dX11_cloud_112 : decode cX11_cloud 112 = .ok (.getfield 19, 3) := by decide +kernel
theorem dX11_cloud_115 : decode cX11_cloud 115 = .ok (.aload_n 0, 1) := by decide +kernel
theorem dX11_cloud_116 : decode cX11_cloud 116 = .ok (.getfield 169, 3) := by decide +kernel
theorem dX11_cloud_119 : decode cX11_cloud 119 = .ok (.iload_n 1, 1) := by decide +kernel
theorem dX11_cloud_120 : decode cX11_cloud 120 = .ok (.iastore, 1) := by decide +kernel
theorem dX11_cloud_121 : decode cX11_cloud 121 = .ok (.aload_n 0, 1) := by decide +kernel
theorem dX11_cloud_122 : decode cX11_cloud 122 = .ok (.getfield 22, 3) := by decide +kernel
theorem dX11_cloud_125 : decode cX11_cloud 125 = .ok (.aload_n 0, 1) := by decide +kernel
theorem dX11_cloud_126 : decode cX11_cloud 126 = .ok (.getfield 169, 3) := by decide +kernel
theorem dX11_cloud_129 : decode cX11_cloud 129 = .ok (.iload_n 2, 1) := by decide +kernel
theorem dX11_cloud_130 : decode cX11_cloud 130 = .ok (.iastore, 1) := by decide +kernel
theorem dX11_cloud_131 : decode cX11_cloud 131 = .ok (.aload_n 0, 1) := by decide +kernel
theorem dX11_cloud_132 : decode cX11_cloud 132 = .ok (.dup, 1) := by decide +kernel
theorem dX11_cloud_133 : decode cX11_cloud 133 = .ok (.getfield 169, 3) := by decide +kernel
theorem dX11_cloud_136 : decode cX11_cloud 136 = .ok (.iconst 1, 1) := by decide +kernel
theorem dX11_cloud_137 : decode cX11_cloud 137 = .ok (.iadd, 1) := by decide +kernel
theorem dX11_cloud_138 : decode cX11_cloud 138 = .ok (.putfield 169, 3) := by decide +kernel
theorem dX11_cloud_141 : decode cX11_cloud 141 = .ok (.iconst 0, 1) := by decide +kernel
theorem dX11_cloud_142 : decode cX11_cloud 142 = .ok (.istore 4, 2) := by decide +kernel
theorem dX11_cloud_144 : decode cX11_cloud 144 = .ok (.iconst 0, 1) := by decide +kernel
theorem dX11_cloud_145 : decode cX11_cloud 145 = .ok (.istore 5, 2) := by decide +kernel
theorem dX11_cloud_147 : decode cX11_cloud 147 = .ok (.iload 5, 2) := by decide +kernel
theorem dX11_cloud_149 : decode cX11_cloud 149 = .ok (.aload_n 0, 1) := by decide +kernel
theorem dX11_cloud_150 : decode cX11_cloud 150 = .ok (.getfield 169, 3) := by decide +kernel
theorem dX11_cloud_153 : decode cX11_cloud 153 = .ok (.if_icmp .ge 30, 3) := by decide +kernel
theorem dX11_cloud_156 : decode cX11_cloud 156 = .ok (.iload 4, 2) := by decide +kernel
theorem dX11_cloud_158 : decode cX11_cloud 158 = .ok (.aload_n 0, 1) := by decide +kernel
theorem dX11_cloud_159 : decode cX11_cloud 159 = .ok (.getfield 19, 3) := by decide +kernel
theorem dX11_cloud_162 : decode cX11_cloud 162 = .ok (.iload 5, 2) := by decide +kernel
theorem dX11_cloud_164 : decode cX11_cloud 164 = .ok (.iaload, 1) := by decide +kernel
theorem dX11_cloud_165 : decode cX11_cloud 165 = .ok (.iload_n 1, 1) := by decide +kernel
theorem dX11_cloud_166 : decode cX11_cloud 166 = .ok (.if_icmp .ne 7, 3) := by decide +kernel
theorem dX11_cloud_169 : decode cX11_cloud 169 = .ok (.iconst 1, 1) := by decide +kernel
theorem dX11_cloud_170 : decode cX11_cloud 170 = .ok (.goto 4, 3) := by decide +kernel
theorem dX11_cloud_173 : decode cX11_cloud 173 = .ok (.iconst 0, 1) := by decide +kernel
theorem dX11_cloud_174 : decode cX11_cloud 174 = .ok (.iadd, 1) := by decide +kernel
theorem dX11_cloud_175 : decode cX11_cloud 175 = .ok (.istore 4, 2) := by decide +kernel
theorem dX11_cloud_177 : decode cX11_cloud 177 = .ok (.iinc 5 1, 3) := by decide +kernel
theorem dX11_cloud_180 : decode cX11_cloud 180 = .ok (.goto (-33), 3) := by decide +kernel
theorem dX11_cloud_183 : decode cX11_cloud 183 = .ok (.iload 4, 2) := by decide +kernel
theorem dX11_cloud_185 : decode cX11_cloud 185 = .ok (.ireturn, 1) := by decide +kernel
theorem dX11_begin_0 : decode cX11_begin 0 = .ok (.iload_n 2, 1) := by decide +kernel
theorem dX11_begin_1 : decode cX11_begin 1 = .ok (.invokestatic 179, 3) := by decide +kernel
theorem dX11_begin_4 : decode cX11_begin 4 = .ok (.ifCond .eq 40, 3) := by decide +kernel
theorem dX11_begin_7 : decode cX11_begin 7 = .ok (.iload_n 3, 1) := by decide +kernel
theorem dX11_begin_8 : decode cX11_begin 8 = .ok (.iconst 0, 1) := by decide +kernel
theorem dX11_begin_9 : decode cX11_begin 9 = .ok (.ldc 182, 2) := by decide +kernel
theorem dX11_begin_11 : decode cX11_begin 11 = .ok (.invokestatic 158, 3) := by decide +kernel
theorem dX11_begin_14 : decode cX11_begin 14 = .ok (.ifCond .eq 30, 3) := by decide +kernel
theorem dX11_begin_17 : decode cX11_begin 17 = .ok (.iload 4, 2) := by decide +kernel
theorem dX11_begin_19 : decode cX11_begin 19 = .ok (.iconst 1, 1) := by decide +kernel
theorem dX11_begin_20 : decode cX11_begin 20 = .ok (.bipush 60, 2) := by decide +kernel
theorem dX11_begin_22 : decode cX11_begin 22 = .ok (.invokestatic 158, 3) := by decide +kernel
theorem dX11_begin_25 : decode cX11_begin 25 = .ok (.ifCond .eq 19, 3) := by decide +kernel
theorem dX11_begin_28 : decode cX11_begin 28 = .ok (.iload 5, 2) := by decide +kernel
theorem dX11_begin_30 : decode cX11_begin 30 = .ok (.iconst 1, 1) := by decide +kernel
theorem dX11_begin_31 : decode cX11_begin 31 = .ok (.sipush 1000, 3) := by decide +kernel
theorem dX11_begin_34 : decode cX11_begin 34 = .ok (.invokestatic 158, 3) := by decide +kernel
theorem dX11_begin_37 : decode cX11_begin 37 = .ok (.ifCond .eq 7, 3) := by decide +kernel
theorem dX11_begin_40 : decode cX11_begin 40 = .ok (.iconst 1, 1) := by decide +kernel
theorem dX11_begin_41 : decode cX11_begin 41 = .ok (.goto 4, 3) := by decide +kernel
theorem dX11_begin_44 : decode cX11_begin 44 = .ok (.iconst 0, 1) := by decide +kernel
theorem dX11_begin_45 : decode cX11_begin 45 = .ok (.istore 6, 2) := by decide +kernel
theorem dX11_begin_47 : decode cX11_begin 47 = .ok (.aload_n 0, 1) := by decide +kernel
theorem dX11_begin_48 : decode cX11_begin 48 = .ok (.aload_n 0, 1) := by decide +kernel
theorem dX11_begin_49 : decode cX11_begin 49 = .ok (.iload_n 1, 1) := by decide +kernel
theorem dX11_begin_50 : decode cX11_begin 50 = .ok (.invokevirtual 165, 3) := by decide +kernel
theorem dX11_begin_53 : decode cX11_begin 53 = .ok (.ifCond .ne 7, 3) := by decide +kernel
theorem dX11_begin_56 : decode cX11_begin 56 = .ok (.iconst 1, 1) := by decide +kernel
theorem dX11_begin_57 : decode cX11_begin 57 = .ok (.goto 26, 3) := by decide +kernel
theorem dX11_begin_60 : decode cX11_begin 60 = .ok (.iload 6, 2) := by decide +kernel
theorem dX11_begin_62 : decode cX11_begin 62 = .ok (.ifCond .ne 7, 3) := by decide +kernel
theorem dX11_begin_65 : decode cX11_begin 65 = .ok (.iconst 2, 1) := by decide +kernel
theorem dX11_begin_66 : decode cX11_begin 66 = .ok (.goto 17, 3) := by decide +kernel
theorem dX11_begin_69 : decode cX11_begin 69 = .ok (.aload_n 0, 1) := by decide +kernel
theorem dX11_begin_70 : decode cX11_begin 70 = .ok (.iload_n 1, 1) := by decide +kernel
theorem dX11_begin_71 : decode cX11_begin 71 = .ok (.iload_n 2, 1) := by decide +kernel
theorem dX11_begin_72 : decode cX11_begin 72 = .ok (.invokevirtual 172, 3) := by decide +kernel
theorem dX11_begin_75 : decode cX11_begin 75 = .ok (.ifCond .eq 7, 3) := by decide +kernel
theorem dX11_begin_78 : decode cX11_begin 78 = .ok (.iconst 3, 1) := by decide +kernel
theorem dX11_begin_79 : decode cX11_begin 79 = .ok (.goto 4, 3) := by decide +kernel
theorem dX11_begin_82 : decode cX11_begin 82 = .ok (.iconst 0, 1) := by decide +kernel
theorem dX11_begin_83 : decode cX11_begin 83 = .ok (.putfield 151, 3) := by decide +kernel
theorem dX11_begin_86 : decode cX11_begin 86 = .ok (.aload_n 0, 1) := by decide +kernel
theorem dX11_begin_87 : decode cX11_begin 87 = .ok (.getfield 151, 3) := by decide +kernel
theorem dX11_begin_90 : decode cX11_begin 90 = .ok (.ifCond .ne 30, 3) := by decide +kernel
theorem dX11_begin_93 : decode cX11_begin 93 = .ok (.aload_n 0, 1) := by decide +kernel
theorem dX11_begin_94 : decode cX11_begin 94 = .ok (.iload_n 1, 1) := by decide +kernel
theorem dX11_begin_95 : decode cX11_begin 95 = .ok (.putfield 25, 3) := by decide +kernel
theorem dX11_begin_98 : decode cX11_begin 98 = .ok (.aload_n 0, 1) := by decide +kernel
theorem dX11_begin_99 : decode cX11_begin 99 = .ok (.iload_n 2, 1) := by decide +kernel
theorem dX11_begin_100 : decode cX11_begin 100 = .ok (.putfield 183, 3) := by decide +kernel
theorem dX11_begin_103 : decode cX11_begin 103 = .ok (.aload_n 0, 1) := by decide +kernel
theorem dX11_begin_104 : decode cX11_begin 104 = .ok (.iload_n 3, 1) := by decide +kernel
theorem dX11_begin_105 : decode cX11_begin 105 = .ok (.putfield 186, 3) := by decide +kernel
theorem dX11_begin_108 : decode cX11_begin 108 = .ok (.aload_n 0, 1) := by decide +kernel
theorem dX11_begin_109 : decode cX11_begin 109 = .ok (.iload 4, 2) := by decide +kernel
theorem dX11_begin_111 : decode cX11_begin 111 = .ok (.putfield 189, 3) := by decide +kernel
theorem dX11_begin_114 : decode cX11_begin 114 = .ok (.aload_n 0, 1) := by decide +kernel
theorem dX11_begin_115 : decode cX11_begin 115 = .ok (.iload 5, 2) := by decide +kernel
theorem dX11_begin_117 : decode cX11_begin 117 = .ok (.putfield 192, 3) := by decide +kernel
theorem dX11_begin_120 : decode cX11_begin 120 = .ok (.return_, 1) := by decide +kernel
theorem dX11_isDirection_0 : decode cX11_isDirection 0 = .ok (.iload_n 0, 1) := by decide +kernel
theorem dX11_isDirection_1 : decode cX11_isDirection 1 = .ok (.bipush (-100), 2) := by decide +kernel
theorem dX11_isDirection_3 : decode cX11_isDirection 3 = .ok (.bipush 100, 2) := by decide +kernel
theorem dX11_isDirection_5 : decode cX11_isDirection 5 = .ok (.invokestatic 158, 3) := by decide +kernel
theorem dX11_isDirection_8 : decode cX11_isDirection 8 = .ok (.ifCond .eq 26, 3) := by decide +kernel
theorem dX11_isDirection_11 : decode cX11_isDirection 11 = .ok (.iload_n 1, 1) := by decide +kernel
theorem dX11_isDirection_12 : decode cX11_isDirection 12 = .ok (.bipush (-100), 2) := by decide +kernel
theorem dX11_isDirection_14 : decode cX11_isDirection 14 = .ok (.bipush 100, 2) := by decide +kernel
theorem dX11_isDirection_16 : decode cX11_isDirection 16 = .ok (.invokestatic 158, 3) := by decide +kernel
theorem dX11_isDirection_19 : decode cX11_isDirection 19 = .ok (.ifCond .eq 15, 3) := by decide +kernel
theorem dX11_isDirection_22 : decode cX11_isDirection 22 = .ok (.iload_n 0, 1) := by decide +kernel
theorem dX11_isDirection_23 : decode cX11_isDirection 23 = .ok (.ifCond .ne 7, 3) := by decide +kernel
theorem dX11_isDirection_26 : decode cX11_isDirection 26 = .ok (.iload_n 1, 1) := by decide +kernel
theorem dX11_isDirection_27 : decode cX11_isDirection 27 = .ok (.ifCond .eq 7, 3) := by decide +kernel
theorem dX11_isDirection_30 : decode cX11_isDirection 30 = .ok (.iconst 1, 1) := by decide +kernel
theorem dX11_isDirection_31 : decode cX11_isDirection 31 = .ok (.goto 4, 3) := by decide +kernel
theorem dX11_isDirection_34 : decode cX11_isDirection 34 = .ok (.iconst 0, 1) := by decide +kernel
theorem dX11_isDirection_35 : decode cX11_isDirection 35 = .ok (.ireturn, 1) := by decide +kernel
theorem dX11_end_0 : decode cX11_end 0 = .ok (.iload_n 1, 1) := by decide +kernel
theorem dX11_end_1 : decode cX11_end 1 = .ok (.iload_n 2, 1) := by decide +kernel
theorem dX11_end_2 : decode cX11_end 2 = .ok (.invokestatic 195, 3) := by decide +kernel
theorem dX11_end_5 : decode cX11_end 5 = .ok (.ifCond .eq 16, 3) := by decide +kernel
theorem dX11_end_8 : decode cX11_end 8 = .ok (.iload_n 3, 1) := by decide +kernel
theorem dX11_end_9 : decode cX11_end 9 = .ok (.iload 4, 2) := by decide +kernel
theorem dX11_end_11 : decode cX11_end 11 = .ok (.invokestatic 195, 3) := by decide +kernel
theorem dX11_end_14 : decode cX11_end 14 = .ok (.ifCond .eq 7, 3) := by decide +kernel
theorem dX11_end_17 : decode cX11_end 17 = .ok (.iconst 1, 1) := by decide +kernel
theorem dX11_end_18 : decode cX11_end 18 = .ok (.goto 4, 3) := by decide +kernel
theorem dX11_end_21 : decode cX11_end 21 = .ok (.iconst 0, 1) := by decide +kernel
theorem dX11_end_22 : decode cX11_end 22 = .ok (.istore 5, 2) := by decide +kernel
theorem dX11_end_24 : decode cX11_end 24 = .ok (.aload_n 0, 1) := by decide +kernel
theorem dX11_end_25 : decode cX11_end 25 = .ok (.getfield 25, 3) := by decide +kernel
theorem dX11_end_28 : decode cX11_end 28 = .ok (.iconst (-1), 1) := by decide +kernel
theorem dX11_end_29 : decode cX11_end 29 = .ok (.if_icmp .eq 31, 3) := by decide +kernel
theorem dX11_end_32 : decode cX11_end 32 = .ok (.aload_n 0, 1) := by decide +kernel
theorem dX11_end_33 : decode cX11_end 33 = .ok (.aload_n 0, 1) := by decide +kernel
theorem dX11_end_34 : decode cX11_end 34 = .ok (.getfield 25, 3) := by decide +kernel
theorem dX11_end_37 : decode cX11_end 37 = .ok (.aload_n 0, 1) := by decide +kernel
theorem dX11_end_38 : decode cX11_end 38 = .ok (.getfield 183, 3) := by decide +kernel
theorem dX11_end_41 : decode cX11_end 41 = .ok (.invokevirtual 172, 3) := by decide +kernel
theorem dX11_end_44 : decode cX11_end 44 = .ok (.ifCond .ne 16, 3) := by decide +kernel
theorem dX11_end_47 : decode cX11_end 47 = .ok (.aload_n 0, 1) := by decide +kernel
theorem dX11_end_48 : decode cX11_end 48 = .ok (.getfield 176, 3) := by decide +kernel
theorem dX11_end_51 : decode cX11_end 51 = .ok (.bipush 60, 2) := by decide +kernel
theorem dX11_end_53 : decode cX11_end 53 = .ok (.if_icmp .ge 7, 3) := by decide +kernel
theorem dX11_end_56 : decode cX11_end 56 = .ok (.iconst 1, 1) := by decide +kernel
theorem dX11_end_57 : decode cX11_end 57 = .ok (.goto 4, 3) := by decide +kernel
theorem dX11_end_60 : decode cX11_end 60 = .ok (.iconst 0, 1) := by decide +kernel
theorem dX11_end_61 : decode cX11_end 61 = .ok (.istore 6, 2) := by decide +kernel
theorem dX11_end_63 : decode cX11_end 63 = .ok (.aload_n 0, 1) := by decide +kernel
theorem dX11_end_64 : decode cX11_end 64 = .ok (.iload 5, 2) := by decide +kernel
theorem dX11_end_66 : decode cX11_end 66 = .ok (.ifCond .ne 7, 3) := by decide +kernel
theorem dX11_end_69 : decode cX11_end 69 = .ok (.iconst 1, 1) := by decide +kernel
theorem dX11_end_70 : decode cX11_end 70 = .ok (.goto 13, 3) := by decide +kernel
theorem dX11_end_73 : decode cX11_end 73 = .ok (.iload 6, 2) := by decide +kernel
theorem dX11_end_75 : decode cX11_end 75 = .ok (.ifCond .eq 7, 3) := by decide +kernel
theorem dX11_end_78 : decode cX11_end 78 = .ok (.iconst 0, 1) := by decide +kernel
theorem dX11_end_79 : decode cX11_end 79 = .ok (.goto 4, 3) := by decide +kernel
theorem dX11_end_82 : decode cX11_end 82 = .ok (.iconst 2, 1) := by decide +kernel
theorem dX11_end_83 : decode cX11_end 83 = .ok (.putfield 151, 3) := by decide +kernel
theorem dX11_end_86 : decode cX11_end 86 = .ok (.aload_n 0, 1) := by decide +kernel
theorem dX11_end_87 : decode cX11_end 87 = .ok (.getfield 151, 3) := by decide +kernel
theorem dX11_end_90 : decode cX11_end 90 = .ok (.ifCond .le 5, 3) := by decide +kernel
theorem dX11_end_93 : decode cX11_end 93 = .ok (.iconst 0, 1) := by decide +kernel
theorem dX11_end_94 : decode cX11_end 94 = .ok (.ireturn, 1) := by decide +kernel
theorem dX11_end_95 : decode cX11_end 95 = .ok (.aload_n 0, 1) := by decide +kernel
theorem dX11_end_96 : decode cX11_end 96 = .ok (.getfield 29, 3) := by decide +kernel
theorem dX11_end_99 : decode cX11_end 99 = .ok (.aload_n 0, 1) := by decide +kernel
theorem dX11_end_100 : decode cX11_end 100 = .ok (.getfield 176, 3) := by decide +kernel
theorem dX11_end_103 : decode cX11_end 103 = .ok (.aload_n 0, 1) := by decide +kernel
theorem dX11_end_104 : decode cX11_end 104 = .ok (.getfield 25, 3) := by decide +kernel
theorem dX11_end_107 : decode cX11_end 107 = .ok (.iastore, 1) := by decide +kernel
theorem dX11_end_108 : decode cX11_end 108 = .ok (.aload_n 0, 1) := by decide +kernel
theorem dX11_end_109 : decode cX11_end 109 = .ok (.getfield 32, 3) := by decide +kernel
theorem dX11_end_112 : decode cX11_end 112 = .ok (.aload_n 0, 1) := by decide +kernel
theorem dX11_end_113 : decode cX11_end 113 = .ok (.getfield 176, 3) := by decide +kernel
theorem dX11_end_116 : decode cX11_end 116 = .ok (.aload_n 0, 1) := by decide +kernel
theorem dX11_end_117 : decode cX11_end 117 = .ok (.getfield 183, 3) := by decide +kernel
theorem dX11_end_120 : decode cX11_end 120 = .ok (.iastore, 1) := by decide +kernel
theorem dX11_end_121 : decode cX11_end 121 = .ok (.aload_n 0, 1) := by decide +kernel
theorem dX11_end_122 : decode cX11_end 122 = .ok (.getfield 35, 3) := by decide +kernel
theorem dX11_end_125 : decode cX11_end 125 = .ok (.aload_n 0, 1) := by decide +kernel
theorem dX11_end_126 : decode cX11_end 126 = .ok (.getfield 176, 3) := by decide +kernel
theorem dX11_end_129 : decode cX11_end 129 = .ok (.aload_n 0, 1) := by decide +kernel
theorem dX11_end_130 : decode cX11_end 130 = .ok (.getfield 186, 3) := by decide +kernel
theorem dX11_end_133 : decode cX11_end 133 = .ok (.iastore, 1) := by decide +kernel
theorem dX11_end_134 : decode cX11_end 134 = .ok (.aload_n 0, 1) := by decide +kernel
theorem dX11_end_135 : decode cX11_end 135 = .ok (.getfield 38, 3) := by decide +kernel
theorem dX11_end_138 : decode cX11_end 138 = .ok (.aload_n 0, 1) := by decide +kernel
theorem dX11_end_139 : decode cX11_end 139 = .ok (.getfield 176, 3) := by decide +kernel
theorem dX11_end_142 : decode cX11_end 142 = .ok (.aload_n 0, 1) := by decide +kernel
theorem dX11_end_143 : decode cX11_end 143 = .ok (.getfield 189, 3) := by decide +kernel
theorem dX11_end_146 : decode cX11_end 146 = .ok (.iastore, 1) := by decide +kernel
theorem dX11_end_147 : decode cX11_end 147 = .ok (.aload_n 0, 1) := by decide +kernel
theorem dX11_end_148 : decode cX11_end 148 = .ok (.getfield 41, 3) := by decide +kernel
theorem dX11_end_151 : decode cX11_end 151 = .ok (.aload_n 0, 1) := by decide +kernel
theorem dX11_end_152 : decode cX11_end 152 = .ok (.getfield 176, 3) := by decide +kernel
theorem dX11_end_155 : decode cX11_end 155 = .ok (.aload_n 0, 1) := by decide +kernel
theorem dX11_end_156 : decode cX11_end 156 = .ok (.getfield 192, 3) := by decide +kernel
theorem dX11_end_159 : decode cX11_end 159 = .ok (.iastore, 1) := by decide +kernel
theorem dX11_end_160 : decode cX11_end 160 = .ok (.aload_n 0, 1) := by decide +kernel
theorem dX11_end_161 : decode cX11_end 161 = .ok (.getfield 44, 3) := by decide +kernel
theorem dX11_end_164 : decode cX11_end 164 = .ok (.aload_n 0, 1) := by decide +kernel
theorem dX11_end_165 : decode cX11_end 165 = .ok (.getfield 176, 3) := by decide +kernel
theorem dX11_end_168 : decode cX11_end 168 = .ok (.iload_n 1, 1) := by decide +kernel
theorem dX11_end_169 : decode cX11_end 169 = .ok (.iastore, 1) := by decide +kernel
theorem dX11_end_170 : decode cX11_end 170 = .ok (.aload_n 0, 1) := by decide +kernel
theorem dX11_end_171 : decode cX11_end 171 = .ok (.getfield 47, 3) := by decide +kernel
theorem dX11_end_174 : decode cX11_end 174 = .ok (.aload_n 0, 1) := by decide +kernel
theorem dX11_end_175 : decode cX11_end 175 = .ok (.getfield 176, 3) := by decide +kernel
theorem dX11_end_178 : decode cX11_end 178 = .ok (.iload_n 2, 1) := by decide +kernel
theorem dX11_end_179 : decode cX11_end 179 = .ok (.iastore, 1) := by decide +kernel
theorem dX11_end_180 : decode cX11_end 180 = .ok (.aload_n 0, 1) := by decide +kernel
theorem dX11_end_181 : decode cX11_end 181 = .ok (.getfield 50, 3) := by decide +kernel
theorem dX11_end_184 : decode cX11_end 184 = .ok (.aload_n 0, 1) := by decide +kernel
theorem dX11_end_185 : decode cX11_end 185 = .ok (.getfield 176, 3) := by decide +kernel
theorem dX11_end_188 : decode cX11_end 188 = .ok (.iload_n 3, 1) := by decide +kernel
theorem dX11_end_189 : decode cX11_end 189 = .ok (.iastore, 1) := by decide +kernel
theorem dX11_end_190 : decode cX11_end 190 = .ok (.aload_n 0, 1) := by decide +kernel
theorem dX11_end_191 : decode cX11_end 191 = .ok (.getfield 53, 3) := by decide +kernel
theorem dX11_end_194 : decode cX11_end 194 = .ok (.aload_n 0, 1) := by decide +kernel
theorem dX11_end_195 : decode cX11_end 195 = .ok (.getfield 176, 3) := by decide +kernel
theorem dX11_end_198 : decode cX11_end 198 = .ok (.iload 4, 2) := by decide +kernel
theorem dX11_end_200 : decode cX11_end 200 = .ok (.iastore, 1) := by decide +kernel
theorem dX11_end_201 : decode cX11_end 201 = .ok (.aload_n 0, 1) := by decide +kernel
theorem dX11_end_202 : decode cX11_end 202 = .ok (.iconst (-1), 1) := by decide +kernel
theorem dX11_end_203 : decode cX11_end 203 = .ok (.putfield 25, 3) := by decide +kernel
theorem dX11_end_206 : decode cX11_end 206 = .ok (.aload_n 0, 1) := by decide +kernel
theorem dX11_end_207 : decode cX11_end 207 = .ok (.dup, 1) := by decide +kernel
theorem dX11_end_208 : decode cX11_end 208 = .ok (.getfield 176, 3) := by decide +kernel
theorem dX11_end_211 : decode cX11_end 211 = .ok (.iconst 1, 1) := by decide +kernel
theorem dX11_end_212 : decode cX11_end 212 = .ok (.iadd, 1) := by decide +kernel
theorem dX11_end_213 : decode cX11_end 213 = .ok (.putfield 176, 3) := by decide +kernel
theorem dX11_end_216 : decode cX11_end 216 = .ok (.aload_n 0, 1) := by decide +kernel
theorem dX11_end_217 : decode cX11_end 217 = .ok (.getfield 176, 3) := by decide +kernel
theorem dX11_end_220 : decode cX11_end 220 = .ok (.iconst 1, 1) := by decide +kernel
theorem dX11_end_221 : decode cX11_end 221 = .ok (.isub, 1) := by decide +kernel
theorem dX11_end_222 : decode cX11_end 222 = .ok (.ireturn, 1) := by decide +kernel
theorem dX11_cross_0 : decode cX11_cross 0 = .ok (.iload_n 2, 1) := by decide +kernel
theorem dX11_cross_1 : decode cX11_cross 1 = .ok (.i2l, 1) := by decide +kernel
theorem dX11_cross_2 : decode cX11_cross 2 = .ok (.iload 6, 2) := by decide +kernel
theorem dX11_cross_4 : decode cX11_cross 4 = .ok (.i2l, 1) := by decide +kernel
theorem dX11_cross_5 : decode cX11_cross 5 = .ok (.lmul, 1) := by decide +kernel
theorem dX11_cross_6 : decode cX11_cross 6 = .ok (.iload_n 3, 1) := by decide +kernel
theorem dX11_cross_7 : decode cX11_cross 7 = .ok (.i2l, 1) := by decide +kernel
theorem dX11_cross_8 : decode cX11_cross 8 = .ok (.iload 5, 2) := by decide +kernel
theorem dX11_cross_10 : decode cX11_cross 10 = .ok (.i2l, 1) := by decide +kernel
theorem dX11_cross_11 : decode cX11_cross 11 = .ok (.lmul, 1) := by decide +kernel
theorem dX11_cross_12 : decode cX11_cross 12 = .ok (.lsub, 1) := by decide +kernel
theorem dX11_cross_13 : decode cX11_cross 13 = .ok (.lstore 7, 2) := by decide +kernel
theorem dX11_cross_15 : decode cX11_cross 15 = .ok (.lload 7, 2) := by decide +kernel
theorem dX11_cross_17 : decode cX11_cross 17 = .ok (.lconst 0, 1) := by decide +kernel
theorem dX11_cross_18 : decode cX11_cross 18 = .ok (.lcmp, 1) := by decide +kernel
theorem dX11_cross_19 : decode cX11_cross 19 = .ok (.ifCond .ne 5, 3) := by decide +kernel
theorem dX11_cross_22 : decode cX11_cross 22 = .ok (.iconst 0, 1) := by decide +kernel
theorem dX11_cross_23 : decode cX11_cross 23 = .ok (.ireturn, 1) := by decide +kernel
theorem dX11_cross_24 : decode cX11_cross 24 = .ok (.aload_n 0, 1) := by decide +kernel
theorem dX11_cross_25 : decode cX11_cross 25 = .ok (.getfield 7, 3) := by decide +kernel
theorem dX11_cross_28 : decode cX11_cross 28 = .ok (.iload 4, 2) := by decide +kernel
theorem dX11_cross_30 : decode cX11_cross 30 = .ok (.iaload, 1) := by decide +kernel
theorem dX11_cross_31 : decode cX11_cross 31 = .ok (.aload_n 0, 1) := by decide +kernel
theorem dX11_cross_32 : decode cX11_cross 32 = .ok (.getfield 7, 3) := by decide +kernel
theorem dX11_cross_35 : decode cX11_cross 35 = .ok (.iload_n 1, 1) := by decide +kernel
theorem dX11_cross_36 : decode cX11_cross 36 = .ok (.iaload, 1) := by decide +kernel
theorem dX11_cross_37 : decode cX11_cross 37 = .ok (.isub, 1) := by decide +kernel
theorem dX11_cross_38 : decode cX11_cross 38 = .ok (.istore 9, 2) := by decide +kernel
theorem dX11_cross_40 : decode cX11_cross 40 = .ok (.aload_n 0, 1) := by decide +kernel
theorem dX11_cross_41 : decode cX11_cross 41 = .ok (.getfield 13, 3) := by decide +kernel
theorem dX11_cross_44 : decode cX11_cross 44 = .ok (.iload 4, 2) := by decide +kernel
theorem dX11_cross_46 : decode cX11_cross 46 = .ok (.iaload, 1) := by decide +kernel
theorem dX11_cross_47 : decode cX11_cross 47 = .ok (.aload_n 0, 1) := by decide +kernel
theorem dX11_cross_48 : decode cX11_cross 48 = .ok (.getfield 13, 3) := by decide +kernel
theorem dX11_cross_51 : decode cX11_cross 51 = .ok (.iload_n 1, 1) := by decide +kernel
theorem dX11_cross_52 : decode cX11_cross 52 = .ok (.iaload, 1) := by decide +kernel
theorem dX11_cross_53 : decode cX11_cross 53 = .ok (.isub, 1) := by decide +kernel
theorem dX11_cross_54 : decode cX11_cross 54 = .ok (.istore 10, 2) := by decide +kernel
theorem dX11_cross_56 : decode cX11_cross 56 = .ok (.lload 7, 2) := by decide +kernel
theorem dX11_cross_58 : decode cX11_cross 58 = .ok (.lconst 0, 1) := by decide +kernel
theorem dX11_cross_59 : decode cX11_cross 59 = .ok (.lcmp, 1) := by decide +kernel
theorem dX11_cross_60 : decode cX11_cross 60 = .ok (.ifCond .le 7, 3) := by decide +kernel
theorem dX11_cross_63 : decode cX11_cross 63 = .ok (.lconst 1, 1) := by decide +kernel
theorem dX11_cross_64 : decode cX11_cross 64 = .ok (.goto 6, 3) := by decide +kernel
theorem dX11_cross_67 : decode cX11_cross 67 = .ok (.ldc2_w 198, 3) := by decide +kernel
theorem dX11_cross_70 : decode cX11_cross 70 = .ok (.lstore 11, 2) := by decide +kernel
theorem dX11_cross_72 : decode cX11_cross 72 = .ok (.lload 11, 2) := by decide +kernel
theorem dX11_cross_74 : decode cX11_cross 74 = .ok (.iload 9, 2) := by decide +kernel
theorem dX11_cross_76 : decode cX11_cross 76 = .ok (.i2l, 1) := by decide +kernel
theorem dX11_cross_77 : decode cX11_cross 77 = .ok (.iload 6, 2) := by decide +kernel
theorem dX11_cross_79 : decode cX11_cross 79 = .ok (.i2l, 1) := by decide +kernel
theorem dX11_cross_80 : decode cX11_cross 80 = .ok (.lmul, 1) := by decide +kernel
theorem dX11_cross_81 : decode cX11_cross 81 = .ok (.iload 10, 2) := by decide +kernel
theorem dX11_cross_83 : decode cX11_cross 83 = .ok (.i2l, 1) := by decide +kernel
theorem dX11_cross_84 : decode cX11_cross 84 = .ok (.iload 5, 2) := by decide +kernel
theorem dX11_cross_86 : decode cX11_cross 86 = .ok (.i2l, 1) := by decide +kernel
theorem dX11_cross_87 : decode cX11_cross 87 = .ok (.lmul, 1) := by decide +kernel
theorem dX11_cross_88 : decode cX11_cross 88 = .ok (.lsub, 1) := by decide +kernel
theorem dX11_cross_89 : decode cX11_cross 89 = .ok (.lmul, 1) := by decide +kernel
theorem dX11_cross_90 : decode cX11_cross 90 = .ok (.lstore 13, 2) := by decide +kernel
theorem dX11_cross_92 : decode cX11_cross 92 = .ok (.lload 11, 2) := by decide +kernel
theorem dX11_cross_94 : decode cX11_cross 94 = .ok (.iload 9, 2) := by decide +kernel
theorem dX11_cross_96 : decode cX11_cross 96 = .ok (.i2l, 1) := by decide +kernel
theorem dX11_cross_97 : decode cX11_cross 97 = .ok (.iload_n 3, 1) := by decide +kernel
theorem dX11_cross_98 : decode cX11_cross 98 = .ok (.i2l, 1) := by decide +kernel
theorem dX11_cross_99 : decode cX11_cross 99 = .ok (.lmul, 1) := by decide +kernel
theorem dX11_cross_100 : decode cX11_cross 100 = .ok (.iload 10, 2) := by decide +kernel
theorem dX11_cross_102 : decode cX11_cross 102 = .ok (.i2l, 1) := by decide +kernel
theorem dX11_cross_103 : decode cX11_cross 103 = .ok (.iload_n 2, 1) := by decide +kernel
theorem dX11_cross_104 : decode cX11_cross 104 = .ok (.i2l, 1) := by decide +kernel
theorem dX11_cross_105 : decode cX11_cross 105 = .ok (.lmul, 1) := by decide +kernel
theorem dX11_cross_106 : decode cX11_cross 106 = .ok (.lsub, 1) := by decide +kernel
theorem dX11_cross_107 : decode cX11_cross 107 = .ok (.lmul, 1) := by decide +kernel
theorem dX11_cross_108 : decode cX11_cross 108 = .ok (.lstore 15, 2) := by decide +kernel
theorem dX11_cross_110 : decode cX11_cross 110 = .ok (.lload 7, 2) := by decide +kernel
theorem dX11_cross_112 : decode cX11_cross 112 = .ok (.lload 11, 2) := by decide +kernel
theorem dX11_cross_114 : decode cX11_cross 114 = .ok (.lmul, 1) := by decide +kernel
theorem dX11_cross_115 : decode cX11_cross 115 = .ok (.lstore 7, 2) := by decide +kernel
theorem dX11_cross_117 : decode cX11_cross 117 = .ok (.lload 13, 2) := by decide +kernel
theorem dX11_cross_119 : decode cX11_cross 119 = .ok (.lconst 0, 1) := by decide +kernel
theorem dX11_cross_120 : decode cX11_cross 120 = .ok (.lcmp, 1) := by decide +kernel
theorem dX11_cross_121 : decode cX11_cross 121 = .ok (.ifCond .le 10, 3) := by decide +kernel
theorem dX11_cross_124 : decode cX11_cross 124 = .ok (.lload 15, 2) := by decide +kernel
theorem dX11_cross_126 : decode cX11_cross 126 = .ok (.lconst 0, 1) := by decide +kernel
theorem dX11_cross_127 : decode cX11_cross 127 = .ok (.lcmp, 1) := by decide +kernel
theorem dX11_cross_128 : decode cX11_cross 128 = .ok (.ifCond .gt 5, 3) := by decide +kernel
theorem dX11_cross_131 : decode cX11_cross 131 = .ok (.iconst 0, 1) := by decide +kernel
theorem dX11_cross_132 : decode cX11_cross 132 = .ok (.ireturn, 1) := by decide +kernel
theorem dX11_cross_133 : decode cX11_cross 133 = .ok (.aload_n 0, 1) := by decide +kernel
theorem dX11_cross_134 : decode cX11_cross 134 = .ok (.ldc2_w 200, 3) := by decide +kernel
theorem dX11_cross_137 : decode cX11_cross 137 = .ok (.aload_n 0, 1) := by decide +kernel
theorem dX11_cross_138 : decode cX11_cross 138 = .ok (.getfield 7, 3) := by decide +kernel
theorem dX11_cross_141 : decode cX11_cross 141 = .ok (.iload_n 1, 1) := by decide +kernel
theorem dX11_cross_142 : decode cX11_cross 142 = .ok (.iaload, 1) := by decide +kernel
theorem dX11_cross_143 : decode cX11_cross 143 = .ok (.i2l, 1) := by decide +kernel
theorem dX11_cross_144 : decode cX11_cross 144 = .ok (.lload 7, 2) := by decide +kernel
theorem dX11_cross_146 : decode cX11_cross 146 = .ok (.lmul, 1) := by decide +kernel
theorem dX11_cross_147 : decode cX11_cross 147 = .ok (.lload 13, 2) := by decide +kernel
theorem dX11_cross_149 : decode cX11_cross 149 = .ok (.iload_n 2, 1) := by decide +kernel
theorem dX11_cross_150 : decode cX11_cross 150 = .ok (.i2l, 1) := by decide +kernel
theorem dX11_cross_151 : decode cX11_cross 151 = .ok (.lmul, 1) := by decide +kernel
theorem dX11_cross_152 : decode cX11_cross 152 = .ok (.ladd, 1) := by decide +kernel
theorem dX11_cross_153 : decode cX11_cross 153 = .ok (.lmul, 1) := by decide +kernel
theorem dX11_cross_154 : decode cX11_cross 154 = .ok (.lload 7, 2) := by decide +kernel
theorem dX11_cross_156 : decode cX11_cross 156 = .ok (.invokestatic 202, 3) := by decide +kernel
theorem dX11_cross_159 : decode cX11_cross 159 = .ok (.putfield 206, 3) := by decide +kernel
theorem dX11_cross_162 : decode cX11_cross 162 = .ok (.aload_n 0, 1) := by decide +kernel
theorem dX11_cross_163 : decode cX11_cross 163 = .ok (.ldc2_w 200, 3) := by decide +kernel
theorem dX11_cross_166 : decode cX11_cross 166 = .ok (.aload_n 0, 1) := by decide +kernel
theorem dX11_cross_167 : decode cX11_cross 167 = .ok (.getfield 13, 3) := by decide +kernel
theorem dX11_cross_170 : decode cX11_cross 170 = .ok (.iload_n 1, 1) := by decide +kernel
theorem dX11_cross_171 : decode cX11_cross 171 = .ok (.iaload, 1) := by decide +kernel
theorem dX11_cross_172 : decode cX11_cross 172 = .ok (.i2l, 1) := by decide +kernel
theorem dX11_cross_173 : decode cX11_cross 173 = .ok (.lload 7, 2) := by decide +kernel
theorem dX11_cross_175 : decode cX11_cross 175 = .ok (.lmul, 1) := by decide +kernel
theorem dX11_cross_176 : decode cX11_cross 176 = .ok (.lload 13, 2) := by decide +kernel
theorem dX11_cross_178 : decode cX11_cross 178 = .ok (.iload_n 3, 1) := by decide +kernel
theorem dX11_cross_179 : decode cX11_cross 179 = .ok (.i2l, 1) := by decide +kernel
theorem dX11_cross_180 : decode cX11_cross 180 = .ok (.lmul, 1) := by decide +kernel
theorem dX11_cross_181 : decode cX11_cross 181 = .ok (.ladd, 1) := by decide +kernel
theorem dX11_cross_182 : decode cX11_cross 182 = .ok (.lmul, 1) := by decide +kernel
theorem dX11_cross_183 : decode cX11_cross 183 = .ok (.lload 7, 2) := by decide +kernel
theorem dX11_cross_185 : decode cX11_cross 185 = .ok (.invokestatic 202, 3) := by decide +kernel
theorem dX11_cross_188 : decode cX11_cross 188 = .ok (.putfield 210, 3) := by decide +kernel
theorem dX11_cross_191 : decode cX11_cross 191 = .ok (.iconst 1, 1) := by decide +kernel
theorem dX11_cross_192 : decode cX11_cross 192 = .ok (.ireturn, 1) := by decide +kernel
theorem dX11_counts_0 : decode cX11_counts 0 = .ok (.aload_n 0, 1) := by decide +kernel
theorem dX11_counts_1 : decode cX11_counts 1 = .ok (.getfield 38, 3) := by decide +kernel
theorem dX11_counts_4 : decode cX11_counts 4 = .ok (.iload_n 1, 1) := by decide +kernel
theorem dX11_counts_5 : decode cX11_counts 5 = .ok (.iaload, 1) := by decide +kernel
theorem dX11_counts_6 : decode cX11_counts 6 = .ok (.bipush 30, 2) := by decide +kernel
theorem dX11_counts_8 : decode cX11_counts 8 = .ok (.if_icmp .gt 18, 3) := by decide +kernel
theorem dX11_counts_11 : decode cX11_counts 11 = .ok (.aload_n 0, 1) := by decide +kernel
theorem dX11_counts_12 : decode cX11_counts 12 = .ok (.getfield 41, 3) := by decide +kernel
theorem dX11_counts_15 : decode cX11_counts 15 = .ok (.iload_n 1, 1) := by decide +kernel
theorem dX11_counts_16 : decode cX11_counts 16 = .ok (.iaload, 1) := by decide +kernel
theorem dX11_counts_17 : decode cX11_counts 17 = .ok (.bipush 50, 2) := by decide +kernel
theorem dX11_counts_19 : decode cX11_counts 19 = .ok (.if_icmp .lt 7, 3) := by decide +kernel
theorem dX11_counts_22 : decode cX11_counts 22 = .ok (.iconst 1, 1) := by decide +kernel
theorem dX11_counts_23 : decode cX11_counts 23 = .ok (.goto 4, 3) := by decide +kernel
theorem dX11_counts_26 : decode cX11_counts 26 = .ok (.iconst 0, 1) := by decide +kernel
theorem dX11_counts_27 : decode cX11_counts 27 = .ok (.ireturn, 1) := by decide +kernel
theorem dX11_beginsCross_0 : decode cX11_beginsCross 0 = .ok (.aload_n 0, 1) := by decide +kernel
theorem dX11_beginsCross_1 : decode cX11_beginsCross 1 = .ok (.aload_n 0, 1) := by decide +kernel
theorem dX11_beginsCross_2 : decode cX11_beginsCross 2 = .ok (.getfield 29, 3) := by decide +kernel
theorem dX11_beginsCross_5 : decode cX11_beginsCross 5 = .ok (.iload_n 1, 1) := by decide +kernel
theorem dX11_beginsCross_6 : decode cX11_beginsCross 6 = .ok (.iaload, 1) := by decide +kernel
theorem dX11_beginsCross_7 : decode cX11_beginsCross 7 = .ok (.aload_n 0, 1) := by decide +kernel
theorem dX11_beginsCross_8 : decode cX11_beginsCross 8 = .ok (.getfield 44, 3) := by decide +kernel
theorem dX11_beginsCross_11 : decode cX11_beginsCross 11 = .ok (.iload_n 1, 1) := by decide +kernel
theorem dX11_beginsCross_12 : decode cX11_beginsCross 12 = .ok (.iaload, 1) := by decide +kernel
theorem dX11_beginsCross_13 : decode cX11_beginsCross 13 = .ok (.aload_n 0, 1) := by decide +kernel
theorem dX11_beginsCross_14 : decode cX11_beginsCross 14 = .ok (.getfield 47, 3) := by decide +kernel
theorem dX11_beginsCross_17 : decode cX11_beginsCross 17 = .ok (.iload_n 1, 1) := by decide +kernel
theorem dX11_beginsCross_18 : decode cX11_beginsCross 18 = .ok (.iaload, 1) := by decide +kernel
theorem dX11_beginsCross_19 : decode cX11_beginsCross 19 = .ok (.aload_n 0, 1) := by decide +kernel
theorem dX11_beginsCross_20 : decode cX11_beginsCross 20 = .ok (.getfield 29, 3) := by decide +kernel
theorem dX11_beginsCross_23 : decode cX11_beginsCross 23 = .ok (.iload_n 2, 1) := by decide +kernel
theorem dX11_beginsCross_24 : decode cX11_beginsCross 24 = .ok (.iaload, 1) := by decide +kernel
theorem dX11_beginsCross_25 : decode cX11_beginsCross 25 = .ok (.aload_n 0, 1) := by decide +kernel
theorem dX11_beginsCross_26 : decode cX11_beginsCross 26 = .ok (.getfield 44, 3) := by decide +kernel
theorem dX11_beginsCross_29 : decode cX11_beginsCross 29 = .ok (.iload_n 2, 1) := by decide +kernel
theorem dX11_beginsCross_30 : decode cX11_beginsCross 30 = .ok (.iaload, 1) := by decide +kernel
theorem dX11_beginsCross_31 : decode cX11_beginsCross 31 = .ok (.aload_n 0, 1) := by decide +kernel
theorem dX11_beginsCross_32 : decode cX11_beginsCross 32 = .ok (.getfield 47, 3) := by decide +kernel
theorem dX11_beginsCross_35 : decode cX11_beginsCross 35 = .ok (.iload_n 2, 1) := by decide +kernel
theorem dX11_beginsCross_36 : decode cX11_beginsCross 36 = .ok (.iaload, 1) := by decide +kernel
theorem dX11_beginsCross_37 : decode cX11_beginsCross 37 = .ok (.invokevirtual 213, 3) := by decide +kernel
theorem dX11_beginsCross_40 : decode cX11_beginsCross 40 = .ok (.ireturn, 1) := by decide +kernel
theorem dX11_endsCross_0 : decode cX11_endsCross 0 = .ok (.aload_n 0, 1) := by decide +kernel
theorem dX11_endsCross_1 : decode cX11_endsCross 1 = .ok (.aload_n 0, 1) := by decide +kernel
theorem dX11_endsCross_2 : decode cX11_endsCross 2 = .ok (.getfield 29, 3) := by decide +kernel
theorem dX11_endsCross_5 : decode cX11_endsCross 5 = .ok (.iload_n 1, 1) := by decide +kernel
theorem dX11_endsCross_6 : decode cX11_endsCross 6 = .ok (.iaload, 1) := by decide +kernel
theorem dX11_endsCross_7 : decode cX11_endsCross 7 = .ok (.aload_n 0, 1) := by decide +kernel
theorem dX11_endsCross_8 : decode cX11_endsCross 8 = .ok (.getfield 50, 3) := by decide +kernel
theorem dX11_endsCross_11 : decode cX11_endsCross 11 = .ok (.iload_n 1, 1) := by decide +kernel
theorem dX11_endsCross_12 : decode cX11_endsCross 12 = .ok (.iaload, 1) := by decide +kernel
theorem dX11_endsCross_13 : decode cX11_endsCross 13 = .ok (.aload_n 0, 1) := by decide +kernel
theorem dX11_endsCross_14 : decode cX11_endsCross 14 = .ok (.getfield 53, 3) := by decide +kernel
theorem dX11_endsCross_17 : decode cX11_endsCross 17 = .ok (.iload_n 1, 1) := by decide +kernel
theorem dX11_endsCross_18 : decode cX11_endsCross 18 = .ok (.iaload, 1) := by decide +kernel
theorem dX11_endsCross_19 : decode cX11_endsCross 19 = .ok (.aload_n 0, 1) := by decide +kernel
theorem dX11_endsCross_20 : decode cX11_endsCross 20 = .ok (.getfield 29, 3) := by decide +kernel
theorem dX11_endsCross_23 : decode cX11_endsCross 23 = .ok (.iload_n 2, 1) := by decide +kernel
theorem dX11_endsCross_24 : decode cX11_endsCross 24 = .ok (.iaload, 1) := by decide +kernel
theorem dX11_endsCross_25 : decode cX11_endsCross 25 = .ok (.aload_n 0, 1) := by decide +kernel
theorem dX11_endsCross_26 : decode cX11_endsCross 26 = .ok (.getfield 50, 3) := by decide +kernel
theorem dX11_endsCross_29 : decode cX11_endsCross 29 = .ok (.iload_n 2, 1) := by decide +kernel
theorem dX11_endsCross_30 : decode cX11_endsCross 30 = .ok (.iaload, 1) := by decide +kernel
theorem dX11_endsCross_31 : decode cX11_endsCross 31 = .ok (.aload_n 0, 1) := by decide +kernel
theorem dX11_endsCross_32 : decode cX11_endsCross 32 = .ok (.getfield 53, 3) := by decide +kernel
theorem dX11_endsCross_35 : decode cX11_endsCross 35 = .ok (.iload_n 2, 1) := by decide +kernel
theorem dX11_endsCross_36 : decode cX11_endsCross 36 = .ok (.iaload, 1) := by decide +kernel
theorem dX11_endsCross_37 : decode cX11_endsCross 37 = .ok (.invokevirtual 213, 3) := by decide +kernel
theorem dX11_endsCross_40 : decode cX11_endsCross 40 = .ok (.ireturn, 1) := by decide +kernel
theorem dX11_join_0 : decode cX11_join 0 = .ok (.aload_n 0, 1) := by decide +kernel
theorem dX11_join_1 : decode cX11_join 1 = .ok (.getfield 35, 3) := by decide +kernel
theorem dX11_join_4 : decode cX11_join 4 = .ok (.iload_n 1, 1) := by decide +kernel
theorem dX11_join_5 : decode cX11_join 5 = .ok (.iaload, 1) := by decide +kernel
theorem dX11_join_6 : decode cX11_join 6 = .ok (.aload_n 0, 1) := by decide +kernel
theorem dX11_join_7 : decode cX11_join 7 = .ok (.getfield 16, 3) := by decide +kernel
theorem dX11_join_10 : decode cX11_join 10 = .ok (.aload_n 0, 1) := by decide +kernel
theorem dX11_join_11 : decode cX11_join 11 = .ok (.getfield 29, 3) := by decide +kernel
theorem dX11_join_14 : decode cX11_join 14 = .ok (.iload_n 1, 1) := by decide +kernel
theorem dX11_join_15 : decode cX11_join 15 = .ok (.iaload, 1) := by decide +kernel
theorem dX11_join_16 : decode cX11_join 16 = .ok (.iaload, 1) := by decide +kernel
theorem dX11_join_17 : decode cX11_join 17 = .ok (.isub, 1) := by decide +kernel
theorem dX11_join_18 : decode cX11_join 18 = .ok (.aload_n 0, 1) := by decide +kernel
theorem dX11_join_19 : decode cX11_join 19 = .ok (.getfield 35, 3) := by decide +kernel
theorem dX11_join_22 : decode cX11_join 22 = .ok (.iload_n 2, 1) := by decide +kernel
theorem dX11_join_23 : decode cX11_join 23 = .ok (.iaload, 1) := by decide +kernel
theorem dX11_join_24 : decode cX11_join 24 = .ok (.aload_n 0, 1) := by decide +kernel
theorem dX11_join_25 : decode cX11_join 25 = .ok (.getfield 16, 3) := by decide +kernel
theorem dX11_join_28 : decode cX11_join 28 = .ok (.aload_n 0, 1) := by decide +kernel
theorem dX11_join_29 : decode cX11_join 29 = .ok (.getfield 29, 3) := by decide +kernel
theorem dX11_join_32 : decode cX11_join 32 = .ok (.iload_n 2, 1) := by decide +kernel
theorem dX11_join_33 : decode cX11_join 33 = .ok (.iaload, 1) := by decide +kernel
theorem dX11_join_34 : decode cX11_join 34 = .ok (.iaload, 1) := by decide +kernel
theorem dX11_join_35 : decode cX11_join 35 = .ok (.isub, 1) := by decide +kernel
theorem dX11_join_36 : decode cX11_join 36 = .ok (.isub, 1) := by decide +kernel
theorem dX11_join_37 : decode cX11_join 37 = .ok (.istore_n 3, 1) := by decide +kernel
theorem dX11_join_38 : decode cX11_join 38 = .ok (.aload_n 0, 1) := by decide +kernel
theorem dX11_join_39 : decode cX11_join 39 = .ok (.iload_n 1, 1) := by decide +kernel
theorem dX11_join_40 : decode cX11_join 40 = .ok (.invokevirtual 217, 3) := by decide +kernel
theorem dX11_join_43 : decode cX11_join 43 = .ok (.ifCond .eq 56, 3) := by decide +kernel
theorem dX11_join_46 : decode cX11_join 46 = .ok (.aload_n 0, 1) := by decide +kernel
theorem dX11_join_47 : decode cX11_join 47 = .ok (.iload_n 2, 1) := by decide +kernel
theorem dX11_join_48 : decode cX11_join 48 = .ok (.invokevirtual 217, 3) := by decide +kernel
theorem dX11_join_51 : decode cX11_join 51 = .ok (.ifCond .eq 48, 3) := by decide +kernel
theorem dX11_join_54 : decode cX11_join 54 = .ok (.aload_n 0, 1) := by decide +kernel
theorem dX11_join_55 : decode cX11_join 55 = .ok (.getfield 32, 3) := by decide +kernel
theorem dX11_join_58 : decode cX11_join 58 = .ok (.iload_n 1, 1) := by decide +kernel
theorem dX11_join_59 : decode cX11_join 59 = .ok (.iaload, 1) := by decide +kernel
theorem dX11_join_60 : decode cX11_join 60 = .ok (.aload_n 0, 1) := by decide +kernel
theorem dX11_join_61 : decode cX11_join 61 = .ok (.getfield 32, 3) := by decide +kernel
theorem dX11_join_64 : decode cX11_join 64 = .ok (.iload_n 2, 1) := by decide +kernel
theorem dX11_join_65 : decode cX11_join 65 = .ok (.iaload, 1) := by decide +kernel
theorem dX11_join_66 : decode cX11_join 66 = .ok (.if_icmp .ne 33, 3) := by decide +kernel
theorem dX11_join_69 : decode cX11_join 69 = .ok (.aload_n 0, 1) := by decide +kernel
theorem dX11_join_70 : decode cX11_join 70 = .ok (.getfield 29, 3) := by decide +kernel
theorem dX11_join_73 : decode cX11_join 73 = .ok (.iload_n 1, 1) := by decide +kernel
theorem dX11_join_74 : decode cX11_join 74 = .ok (.iaload, 1) := by decide +kernel
theorem dX11_join_75 : decode cX11_join 75 = .ok (.aload_n 0, 1) := by decide +kernel
theorem dX11_join_76 : decode cX11_join 76 = .ok (.getfield 29, 3) := by decide +kernel
theorem dX11_join_79 : decode cX11_join 79 = .ok (.iload_n 2, 1) := by decide +kernel
theorem dX11_join_80 : decode cX11_join 80 = .ok (.iaload, 1) := by decide +kernel
theorem dX11_join_81 : decode cX11_join 81 = .ok (.if_icmp .eq 18, 3) := by decide +kernel
theorem dX11_join_84 : decode cX11_join 84 = .ok (.iload_n 3, 1) := by decide +kernel
theorem dX11_join_85 : decode cX11_join 85 = .ok (.iconst 5, 1) := by decide +kernel
theorem dX11_join_86 : decode cX11_join 86 = .ok (.if_icmp .gt 13, 3) := by decide +kernel
theorem dX11_join_89 : decode cX11_join 89 = .ok (.iload_n 3, 1) := by decide +kernel
theorem dX11_join_90 : decode cX11_join 90 = .ok (.bipush (-5), 2) := by decide +kernel
theorem dX11_join_92 : decode cX11_join 92 = .ok (.if_icmp .lt 7, 3) := by decide +kernel
theorem dX11_join_95 : decode cX11_join 95 = .ok (.iconst 1, 1) := by decide +kernel
theorem dX11_join_96 : decode cX11_join 96 = .ok (.goto 4, 3) := by decide +kernel
theorem dX11_join_99 : decode cX11_join 99 = .ok (.iconst 0, 1) := by decide +kernel
theorem dX11_join_100 : decode cX11_join 100 = .ok (.istore 4, 2) := by decide +kernel
theorem dX11_join_102 : decode cX11_join 102 = .ok (.iload 4, 2) := by decide +kernel
theorem dX11_join_104 : decode cX11_join 104 = .ok (.ifCond .eq 25, 3) := by decide +kernel
theorem dX11_join_107 : decode cX11_join 107 = .ok (.aload_n 0, 1) := by decide +kernel
theorem dX11_join_108 : decode cX11_join 108 = .ok (.iload_n 1, 1) := by decide +kernel
theorem dX11_join_109 : decode cX11_join 109 = .ok (.iload_n 2, 1) := by decide +kernel
theorem dX11_join_110 : decode cX11_join 110 = .ok (.invokevirtual 220, 3) := by decide +kernel
theorem dX11_join_113 : decode cX11_join 113 = .ok (.ifCond .eq 16, 3) := by decide +kernel
theorem dX11_join_116 : decode cX11_join 116 = .ok (.aload_n 0, 1) := by decide +kernel
theorem dX11_join_117 : decode cX11_join 117 = .ok (.iload_n 1, 1) := by decide +kernel
theorem dX11_join_118 : decode cX11_join 118 = .ok (.iload_n 2, 1) := by decide +kernel
theorem dX11_join_119 : decode cX11_join 119 = .ok (.invokevirtual 223, 3) := by decide +kernel
theorem dX11_join_122 : decode cX11_join 122 = .ok (.ifCond .eq 7, 3) := by decide +kernel
theorem dX11_join_125 : decode cX11_join 125 = .ok (.iconst 1, 1) := by decide +kernel
theorem dX11_join_126 : decode cX11_join 126 = .ok (.goto 4, 3) := by decide +kernel
theorem dX11_join_129 : decode cX11_join 129 = .ok (.iconst 0, 1) := by decide +kernel
theorem dX11_join_130 : decode cX11_join 130 = .ok (.ireturn, 1) := by decide +kernel
theorem dX11_spreads_0 : decode cX11_spreads 0 = .ok (.iconst 0, 1) := by decide +kernel
theorem dX11_spreads_1 : decode cX11_spreads 1 = .ok (.istore_n 1, 1) := by decide +kernel
theorem dX11_spreads_2 : decode cX11_spreads 2 = .ok (.iload_n 1, 1) := by decide +kernel
theorem dX11_spreads_3 : decode cX11_spreads 3 = .ok (.aload_n 0, 1) := by decide +kernel
theorem dX11_spreads_4 : decode cX11_spreads 4 = .ok (.getfield 176, 3) := by decide +kernel
theorem dX11_spreads_7 : decode cX11_spreads 7 = .ok (.if_icmp .ge 23, 3) := by decide +kernel
theorem dX11_spreads_10 : decode cX11_spreads 10 = .ok (.aload_n 0, 1) := by decide +kernel
theorem dX11_spreads_11 : decode cX11_spreads 11 = .ok (.getfield 56, 3) := by decide +kernel
theorem dX11_spreads_14 : decode cX11_spreads 14 = .ok (.iload_n 1, 1) := by decide +kernel
theorem dX11_spreads_15 : decode cX11_spreads 15 = .ok (.iload_n 1, 1) := by decide +kernel
theorem dX11_spreads_16 : decode cX11_spreads 16 = .ok (.iastore, 1) := by decide +kernel
theorem dX11_spreads_17 : decode cX11_spreads 17 = .ok (.aload_n 0, 1) := by decide +kernel
theorem dX11_spreads_18 : decode cX11_spreads 18 = .ok (.getfield 59, 3) := by decide +kernel
theorem dX11_spreads_21 : decode cX11_spreads 21 = .ok (.iload_n 1, 1) := by decide +kernel
theorem dX11_spreads_22 : decode cX11_spreads 22 = .ok (.iconst 0, 1) := by decide +kernel
theorem dX11_spreads_23 : decode cX11_spreads 23 = .ok (.bastore, 1) := by decide +kernel
theorem dX11_spreads_24 : decode cX11_spreads 24 = .ok (.iinc 1 1, 3) := by decide +kernel
theorem dX11_spreads_27 : decode cX11_spreads 27 = .ok (.goto (-25), 3) := by decide +kernel
theorem dX11_spreads_30 : decode cX11_spreads 30 = .ok (.iconst 1, 1) := by decide +kernel
theorem dX11_spreads_31 : decode cX11_spreads 31 = .ok (.istore_n 1, 1) := by decide +kernel
theorem dX11_spreads_32 : decode cX11_spreads 32 = .ok (.iload_n 1, 1) := by decide +kernel
theorem dX11_spreads_33 : decode cX11_spreads 33 = .ok (.ifCond .eq 143, 3) := by decide +kernel
theorem dX11_spreads_36 : decode cX11_spreads 36 = .ok (.iconst 0, 1) := by decide +kernel
theorem dX11_spreads_37 : decode cX11_spreads 37 = .ok (.istore_n 1, 1) := by decide +kernel
theorem dX11_spreads_38 : decode cX11_spreads 38 = .ok (.iconst 0, 1) := by decide +kernel
theorem dX11_spreads_39 : decode cX11_spreads 39 = .ok (.istore_n 2, 1) := by decide +kernel
theorem dX11_spreads_40 : decode cX11_spreads 40 = .ok (.iload_n 2, 1) := by decide +kernel
theorem dX11_spreads_41 : decode cX11_spreads 41 = .ok (.aload_n 0, 1) := by decide +kernel
theorem dX11_spreads_42 : decode cX11_spreads 42 = .ok (.getfield 176, 3) := by decide +kernel
theorem dX11_spreads_45 : decode cX11_spreads 45 = .ok (.if_icmp .ge 128, 3) := by decide +kernel
theorem dX11_spreads_48 : decode cX11_spreads 48 = .ok (.iconst 0, 1) := by decide +kernel
theorem dX11_spreads_49 : decode cX11_spreads 49 = .ok (.istore_n 3, 1) := by decide +kernel
theorem dX11_spreads_50 : decode cX11_spreads 50 = .ok (.iload_n 3, 1) := by decide +kernel
theorem dX11_spreads_51 : decode cX11_spreads 51 = .ok (.iload_n 2, 1) := by decide +kernel
theorem dX11_spreads_52 : decode cX11_spreads 52 = .ok (.if_icmp .ge 115, 3) := by decide +kernel
theorem dX11_spreads_55 : decode cX11_spreads 55 = .ok (.aload_n 0, 1) := by decide +kernel
theorem dX11_spreads_56 : decode cX11_spreads 56 = .ok (.getfield 56, 3) := by decide +kernel
theorem dX11_spreads_59 : decode cX11_spreads 59 = .ok (.iload_n 2, 1) := by decide +kernel
theorem dX11_spreads_60 : decode cX11_spreads 60 = .ok (.iaload, 1) := by decide +kernel
theorem dX11_spreads_61 : decode cX11_spreads 61 = .ok (.aload_n 0, 1) := by decide +kernel
theorem dX11_spreads_62 : decode cX11_spreads 62 = .ok (.getfield 56, 3) := by decide +kernel
theorem dX11_spreads_65 : decode cX11_spreads 65 = .ok (.iload_n 3, 1) := by decide +kernel
theorem dX11_spreads_66 : decode cX11_spreads 66 = .ok (.iaload, 1) := by decide +kernel
theorem dX11_spreads_67 : decode cX11_spreads 67 = .ok (.if_icmp .ne 21, 3) := by decide +kernel
theorem dX11_spreads_70 : decode cX11_spreads 70 = .ok (.aload_n 0, 1) := by decide +kernel
theorem dX11_spreads_71 : decode cX11_spreads 71 = .ok (.getfield 59, 3) := by decide +kernel
theorem dX11_spreads_74 : decode cX11_spreads 74 = .ok (.iload_n 2, 1) := by decide +kernel
theorem dX11_spreads_75 : decode cX11_spreads 75 = .ok (.baload, 1) := by decide +kernel
theorem dX11_spreads_76 : decode cX11_spreads 76 = .ok (.ifCond .eq 12, 3) := by decide +kernel
theorem dX11_spreads_79 : decode cX11_spreads 79 = .ok (.aload_n 0, 1) := by decide +kernel
theorem dX11_spreads_80 : decode cX11_spreads 80 = .ok (.getfield 59, 3) := by decide +kernel
theorem dX11_spreads_83 : decode cX11_spreads 83 = .ok (.iload_n 3, 1) := by decide +kernel
theorem dX11_spreads_84 : decode cX11_spreads 84 = .ok (.baload, 1) := by decide +kernel
theorem dX11_spreads_85 : decode cX11_spreads 85 = .ok (.ifCond .ne 76, 3) := by decide +kernel
theorem dX11_spreads_88 : decode cX11_spreads 88 = .ok (.aload_n 0, 1) := by decide +kernel
theorem dX11_spreads_89 : decode cX11_spreads 89 = .ok (.iload_n 2, 1) := by decide +kernel
theorem dX11_spreads_90 : decode cX11_spreads 90 = .ok (.iload_n 3, 1) := by decide +kernel
theorem dX11_spreads_91 : decode cX11_spreads 91 = .ok (.invokevirtual 226, 3) := by decide +kernel
theorem dX11_spreads_94 : decode cX11_spreads 94 = .ok (.ifCond .eq 67, 3) := by decide +kernel
theorem dX11_spreads_97 : decode cX11_spreads 97 = .ok (.aload_n 0, 1) := by decide +kernel
theorem dX11_spreads_98 : decode cX11_spreads 98 = .ok (.getfield 56, 3) := by decide +kernel
theorem dX11_spreads_101 : decode cX11_spreads 101 = .ok (.iload_n 2, 1) := by decide +kernel
theorem dX11_spreads_102 : decode cX11_spreads 102 = .ok (.iaload, 1) := by decide +kernel
theorem dX11_spreads_103 : decode cX11_spreads 103 = .ok (.aload_n 0, 1) := by decide +kernel
theorem dX11_spreads_104 : decode cX11_spreads 104 = .ok (.getfield 56, 3) := by decide +kernel
theorem dX11_spreads_107 : decode cX11_spreads 107 = .ok (.iload_n 3, 1) := by decide +kernel
theorem dX11_spreads_108 : decode cX11_spreads 108 = .ok (.iaload, 1) := by decide +kernel
theorem dX11_spreads_109 : decode cX11_spreads 109 = .ok (.if_icmp .ge 12, 3) := by decide +kernel
theorem dX11_spreads_112 : decode cX11_spreads 112 = .ok (.aload_n 0, 1) := by decide +kernel
theorem dX11_spreads_113 : decode cX11_spreads 113 = .ok (.getfield 56, 3) := by decide +kernel
theorem dX11_spreads_116 : decode cX11_spreads 116 = .ok (.iload_n 2, 1) := by decide +kernel
theorem dX11_spreads_117 : decode cX11_spreads 117 = .ok (.iaload, 1) := by decide +kernel
theorem dX11_spreads_118 : decode cX11_spreads 118 = .ok (.goto 9, 3) := by decide +kernel
theorem dX11_spreads_121 : decode cX11_spreads 121 = .ok (.aload_n 0, 1) := by decide +kernel
theorem dX11_spreads_122 : decode cX11_spreads 122 = .ok (.getfield 56, 3) := by decide +kernel
theorem dX11_spreads_125 : decode cX11_spreads 125 = .ok (.iload_n 3, 1) := by decide +kernel
theorem dX11_spreads_126 : decode cX11_spreads 126 = .ok (.iaload, 1) := by decide +kernel
theorem dX11_spreads_127 : decode cX11_spreads 127 = .ok (.istore 4, 2) := by decide +kernel
theorem dX11_spreads_129 : decode cX11_spreads 129 = .ok (.aload_n 0, 1) := by decide +kernel
theorem dX11_spreads_130 : decode cX11_spreads 130 = .ok (.getfield 56, 3) := by decide +kernel
theorem dX11_spreads_133 : decode cX11_spreads 133 = .ok (.iload_n 2, 1) := by decide +kernel
theorem dX11_spreads_134 : decode cX11_spreads 134 = .ok (.iload 4, 2) := by decide +kernel
theorem dX11_spreads_136 : decode cX11_spreads 136 = .ok (.iastore, 1) := by decide +kernel
theorem dX11_spreads_137 : decode cX11_spreads 137 = .ok (.aload_n 0, 1) := by decide +kernel
theorem dX11_spreads_138 : decode cX11_spreads 138 = .ok (.getfield 56, 3) := by decide +kernel
theorem dX11_spreads_141 : decode cX11_spreads 141 = .ok (.iload_n 3, 1) := by decide +kernel
theorem dX11_spreads_142 : decode cX11_spreads 142 = .ok (.iload 4, 2) := by decide +kernel
theorem dX11_spreads_144 : decode cX11_spreads 144 = .ok (.iastore, 1) := by decide +kernel
theorem dX11_spreads_145 : decode cX11_spreads 145 = .ok (.aload_n 0, 1) := by decide +kernel
theorem dX11_spreads_146 : decode cX11_spreads 146 = .ok (.getfield 59, 3) := by decide +kernel
theorem dX11_spreads_149 : decode cX11_spreads 149 = .ok (.iload_n 2, 1) := by decide +kernel
theorem dX11_spreads_150 : decode cX11_spreads 150 = .ok (.iconst 1, 1) := by decide +kernel
theorem dX11_spreads_151 : decode cX11_spreads 151 = .ok (.bastore, 1) := by decide +kernel
theorem dX11_spreads_152 : decode cX11_spreads 152 = .ok (.aload_n 0, 1) := by decide +kernel
theorem dX11_spreads_153 : decode cX11_spreads 153 = .ok (.getfield 59, 3) := by decide +kernel
theorem dX11_spreads_156 : decode cX11_spreads 156 = .ok (.iload_n 3, 1) := by decide +kernel
theorem dX11_spreads_157 : decode cX11_spreads 157 = .ok (.iconst 1, 1) := by decide +kernel
theorem dX11_spreads_158 : decode cX11_spreads 158 = .ok (.bastore, 1) := by decide +kernel
theorem dX11_spreads_159 : decode cX11_spreads 159 = .ok (.iconst 1, 1) := by decide +kernel
theorem dX11_spreads_160 : decode cX11_spreads 160 = .ok (.istore_n 1, 1) := by decide +kernel
theorem dX11_spreads_161 : decode cX11_spreads 161 = .ok (.iinc 3 1, 3) := by decide +kernel
theorem dX11_spreads_164 : decode cX11_spreads 164 = .ok (.goto (-114), 3) := by decide +kernel
theorem dX11_spreads_167 : decode cX11_spreads 167 = .ok (.iinc 2 1, 3) := by decide +kernel
theorem dX11_spreads_170 : decode cX11_spreads 170 = .ok (.goto (-130), 3) := by decide +kernel
theorem dX11_spreads_173 : decode cX11_spreads 173 = .ok (.goto (-141), 3) := by decide +kernel
theorem dX11_spreads_176 : decode cX11_spreads 176 = .ok (.return_, 1) := by decide +kernel
theorem dX11_fireballOf_0 : decode cX11_fireballOf 0 = .ok (.aload_n 0, 1) := by decide +kernel
theorem dX11_fireballOf_1 : decode cX11_fireballOf 1 = .ok (.iload_n 1, 1) := by decide +kernel
theorem dX11_fireballOf_2 : decode cX11_fireballOf 2 = .ok (.iconst 0, 1) := by decide +kernel
theorem dX11_fireballOf_3 : decode cX11_fireballOf 3 = .ok (.aload_n 0, 1) := by decide +kernel
theorem dX11_fireballOf_4 : decode cX11_fireballOf 4 = .ok (.getfield 176, 3) := by decide +kernel
theorem dX11_fireballOf_7 : decode cX11_fireballOf 7 = .ok (.iconst 1, 1) := by decide +kernel
theorem dX11_fireballOf_8 : decode cX11_fireballOf 8 = .ok (.isub, 1) := by decide +kernel
theorem dX11_fireballOf_9 : decode cX11_fireballOf 9 = .ok (.invokestatic 158, 3) := by decide +kernel
theorem dX11_fireballOf_12 : decode cX11_fireballOf 12 = .ok (.ifCond .eq 7, 3) := by decide +kernel
theorem dX11_fireballOf_15 : decode cX11_fireballOf 15 = .ok (.iconst 0, 1) := by decide +kernel
theorem dX11_fireballOf_16 : decode cX11_fireballOf 16 = .ok (.goto 4, 3) := by decide +kernel
theorem dX11_fireballOf_19 : decode cX11_fireballOf 19 = .ok (.iconst 1, 1) := by decide +kernel
theorem dX11_fireballOf_20 : decode cX11_fireballOf 20 = .ok (.putfield 151, 3) := by decide +kernel
theorem dX11_fireballOf_23 : decode cX11_fireballOf 23 = .ok (.aload_n 0, 1) := by decide +kernel
theorem dX11_fireballOf_24 : decode cX11_fireballOf 24 = .ok (.getfield 151, 3) := by decide +kernel
theorem dX11_fireballOf_27 : decode cX11_fireballOf 27 = .ok (.ifCond .le 5, 3) := by decide +kernel
theorem dX11_fireballOf_30 : decode cX11_fireballOf 30 = .ok (.iconst 0, 1) := by decide +kernel
theorem dX11_fireballOf_31 : decode cX11_fireballOf 31 = .ok (.ireturn, 1) := by decide +kernel
theorem dX11_fireballOf_32 : decode cX11_fireballOf 32 = .ok (.aload_n 0, 1) := by decide +kernel
theorem dX11_fireballOf_33 : decode cX11_fireballOf 33 = .ok (.invokevirtual 229, 3) := by decide +kernel
theorem dX11_fireballOf_36 : decode cX11_fireballOf 36 = .ok (.aload_n 0, 1) := by decide +kernel
theorem dX11_fireballOf_37 : decode cX11_fireballOf 37 = .ok (.getfield 59, 3) := by decide +kernel
theorem dX11_fireballOf_40 : decode cX11_fireballOf 40 = .ok (.iload_n 1, 1) := by decide +kernel
theorem dX11_fireballOf_41 : decode cX11_fireballOf 41 = .ok (.baload, 1) := by decide +kernel
theorem dX11_fireballOf_42 : decode cX11_fireballOf 42 = .ok (.ifCond .eq 12, 3) := by decide +kernel
theorem dX11_fireballOf_45 : decode cX11_fireballOf 45 = .ok (.aload_n 0, 1) := by decide +kernel
theorem dX11_fireballOf_46 : decode cX11_fireballOf 46 = .ok (.getfield 56, 3) := by decide +kernel
theorem dX11_fireballOf_49 : decode cX11_fireballOf 49 = .ok (.iload_n 1, 1) := by decide +kernel
theorem dX11_fireballOf_50 : decode cX11_fireballOf 50 = .ok (.iaload, 1) := by decide +kernel
theorem dX11_fireballOf_51 : decode cX11_fireballOf 51 = .ok (.goto 4, 3) := by decide +kernel
theorem dX11_fireballOf_54 : decode cX11_fireballOf 54 = .ok (.iconst (-1), 1) := by decide +kernel
theorem dX11_fireballOf_55 : decode cX11_fireballOf 55 = .ok (.ireturn, 1) := by decide +kernel
theorem dX11_fireball_0 : decode cX11_fireball 0 = .ok (.aload_n 0, 1) := by decide +kernel
theorem dX11_fireball_1 : decode cX11_fireball 1 = .ok (.iload_n 1, 1) := by decide +kernel
theorem dX11_fireball_2 : decode cX11_fireball 2 = .ok (.invokevirtual 232, 3) := by decide +kernel
theorem dX11_fireball_5 : decode cX11_fireball 5 = .ok (.ireturn, 1) := by decide +kernel
theorem dX11_fireballAnew_0 : decode cX11_fireballAnew 0 = .ok (.aload_n 0, 1) := by decide +kernel
theorem dX11_fireballAnew_1 : decode cX11_fireballAnew 1 = .ok (.iload_n 1, 1) := by decide +kernel
theorem dX11_fireballAnew_2 : decode cX11_fireballAnew 2 = .ok (.invokevirtual 232, 3) := by decide +kernel
theorem dX11_fireballAnew_5 : decode cX11_fireballAnew 5 = .ok (.ireturn, 1) := by decide +kernel
theorem dX11_isFireball_0 : decode cX11_isFireball 0 = .ok (.iload_n 1, 1) := by decide +kernel
theorem dX11_isFireball_1 : decode cX11_isFireball 1 = .ok (.iconst 0, 1) := by decide +kernel
theorem dX11_isFireball_2 : decode cX11_isFireball 2 = .ok (.aload_n 0, 1) := by decide +kernel
theorem dX11_isFireball_3 : decode cX11_isFireball 3 = .ok (.getfield 176, 3) := by decide +kernel
theorem dX11_isFireball_6 : decode cX11_isFireball 6 = .ok (.iconst 1, 1) := by decide +kernel
theorem dX11_isFireball_7 : decode cX11_isFireball 7 = .ok (.isub, 1) := by decide +kernel
theorem dX11_isFireball_8 : decode cX11_isFireball 8 = .ok (.invokestatic 158, 3) := by decide +kernel
theorem dX11_isFireball_11 : decode cX11_isFireball 11 = .ok (.ifCond .eq 26, 3) := by decide +kernel
theorem dX11_isFireball_14 : decode cX11_isFireball 14 = .ok (.aload_n 0, 1) := by decide +kernel
theorem dX11_isFireball_15 : decode cX11_isFireball 15 = .ok (.getfield 59, 3) := by decide +kernel
theorem dX11_isFireball_18 : decode cX11_isFireball 18 = .ok (.iload_n 1, 1) := by decide +kernel
theorem dX11_isFireball_19 : decode cX11_isFireball 19 = .ok (.baload, 1) := by decide +kernel
theorem dX11_isFireball_20 : decode cX11_isFireball 20 = .ok (.ifCond .eq 17, 3) := by decide +kernel
theorem dX11_isFireball_23 : decode cX11_isFireball 23 = .ok (.aload_n 0, 1) := by decide +kernel
theorem dX11_isFireball_24 : decode cX11_isFireball 24 = .ok (.getfield 56, 3) := by decide +kernel
theorem dX11_isFireball_27 : decode cX11_isFireball 27 = .ok (.iload_n 1, 1) := by decide +kernel
theorem dX11_isFireball_28 : decode cX11_isFireball 28 = .ok (.iaload, 1) := by decide +kernel
theorem dX11_isFireball_29 : decode cX11_isFireball 29 = .ok (.iload_n 1, 1) := by decide +kernel
theorem dX11_isFireball_30 : decode cX11_isFireball 30 = .ok (.if_icmp .ne 7, 3) := by decide +kernel
theorem dX11_isFireball_33 : decode cX11_isFireball 33 = .ok (.iconst 1, 1) := by decide +kernel
theorem dX11_isFireball_34 : decode cX11_isFireball 34 = .ok (.goto 4, 3) := by decide +kernel
theorem dX11_isFireball_37 : decode cX11_isFireball 37 = .ok (.iconst 0, 1) := by decide +kernel
theorem dX11_isFireball_38 : decode cX11_isFireball 38 = .ok (.ireturn, 1) := by decide +kernel
theorem dX11_fireballs_0 : decode cX11_fireballs 0 = .ok (.aload_n 0, 1) := by decide +kernel
theorem dX11_fireballs_1 : decode cX11_fireballs 1 = .ok (.iload_n 1, 1) := by decide +kernel
theorem dX11_fireballs_2 : decode cX11_fireballs 2 = .ok (.invokestatic 179, 3) := by decide +kernel
theorem dX11_fireballs_5 : decode cX11_fireballs 5 = .ok (.ifCond .eq 7, 3) := by decide +kernel
theorem dX11_fireballs_8 : decode cX11_fireballs 8 = .ok (.iconst 0, 1) := by decide +kernel
theorem dX11_fireballs_9 : decode cX11_fireballs 9 = .ok (.goto 4, 3) := by decide +kernel
theorem dX11_fireballs_12 : decode cX11_fireballs 12 = .ok (.iconst 1, 1) := by decide +kernel
theorem dX11_fireballs_13 : decode cX11_fireballs 13 = .ok (.putfield 151, 3) := by decide +kernel
theorem dX11_fireballs_16 : decode cX11_fireballs 16 = .ok (.aload_n 0, 1) := by decide +kernel
theorem dX11_fireballs_17 : decode cX11_fireballs 17 = .ok (.getfield 151, 3) := by decide +kernel
theorem dX11_fireballs_20 : decode cX11_fireballs 20 = .ok (.ifCond .le 5, 3) := by decide +kernel
theorem dX11_fireballs_23 : decode cX11_fireballs 23 = .ok (.iconst 0, 1) := by decide +kernel
theorem dX11_fireballs_24 : decode cX11_fireballs 24 = .ok (.ireturn, 1) := by decide +kernel
theorem dX11_fireballs_25 : decode cX11_fireballs 25 = .ok (.aload_n 0, 1) := by decide +kernel
theorem dX11_fireballs_26 : decode cX11_fireballs 26 = .ok (.invokevirtual 229, 3) := by decide +kernel
theorem dX11_fireballs_29 : decode cX11_fireballs 29 = .ok (.iconst 0, 1) := by decide +kernel
theorem dX11_fireballs_30 : decode cX11_fireballs 30 = .ok (.istore_n 2, 1) := by decide +kernel
theorem dX11_fireballs_31 : decode cX11_fireballs 31 = .ok (.iconst 0, 1) := by decide +kernel
theorem dX11_fireballs_32 : decode cX11_fireballs 32 = .ok (.istore_n 3, 1) := by decide +kernel
theorem dX11_fireballs_33 : decode cX11_fireballs 33 = .ok (.iload_n 3, 1) := by decide +kernel
theorem dX11_fireballs_34 : decode cX11_fireballs 34 = .ok (.aload_n 0, 1) := by decide +kernel
theorem dX11_fireballs_35 : decode cX11_fireballs 35 = .ok (.getfield 176, 3) := by decide +kernel
theorem dX11_fireballs_38 : decode cX11_fireballs 38 = .ok (.if_icmp .ge 35, 3) := by decide +kernel
theorem dX11_fireballs_41 : decode cX11_fireballs 41 = .ok (.iload_n 2, 1) := by decide +kernel
theorem dX11_fireballs_42 : decode cX11_fireballs 42 = .ok (.aload_n 0, 1) := by decide +kernel
theorem dX11_fireballs_43 : decode cX11_fireballs 43 = .ok (.iload_n 3, 1) := by decide +kernel
theorem dX11_fireballs_44 : decode cX11_fireballs 44 = .ok (.invokevirtual 236, 3) := by decide +kernel
theorem dX11_fireballs_47 : decode cX11_fireballs 47 = .ok (.ifCond .eq 17, 3) := by decide +kernel
theorem dX11_fireballs_50 : decode cX11_fireballs 50 = .ok (.aload_n 0, 1) := by decide +kernel
theorem dX11_fireballs_51 : decode cX11_fireballs 51 = .ok (.getfield 32, 3) := by decide +kernel
theorem dX11_fireballs_54 : decode cX11_fireballs 54 = .ok (.iload_n 3, 1) := by decide +kernel
theorem dX11_fireballs_55 : decode cX11_fireballs 55 = .ok (.iaload, 1) := by decide +kernel
theorem dX11_fireballs_56 : decode cX11_fireballs 56 = .ok (.iload_n 1, 1) := by decide +kernel
theorem dX11_fireballs_57 : decode cX11_fireballs 57 = .ok (.if_icmp .ne 7, 3) := by decide +kernel
theorem dX11_fireballs_60 : decode cX11_fireballs 60 = .ok (.iconst 1, 1) := by decide +kernel
theorem dX11_fireballs_61 : decode cX11_fireballs 61 = .ok (.goto 4, 3) := by decide +kernel
theorem dX11_fireballs_64 : decode cX11_fireballs 64 = .ok (.iconst 0, 1) := by decide +kernel
theorem dX11_fireballs_65 : decode cX11_fireballs 65 = .ok (.iadd, 1) := by decide +kernel
theorem dX11_fireballs_66 : decode cX11_fireballs 66 = .ok (.istore_n 2, 1) := by decide +kernel
theorem dX11_fireballs_67 : decode cX11_fireballs 67 = .ok (.iinc 3 1, 3) := by decide +kernel
theorem dX11_fireballs_70 : decode cX11_fireballs 70 = .ok (.goto (-37), 3) := by decide +kernel
theorem dX11_fireballs_73 : decode cX11_fireballs 73 = .ok (.iload_n 2, 1) := by decide +kernel
theorem dX11_fireballs_74 : decode cX11_fireballs 74 = .ok (.ireturn, 1) := by decide +kernel
theorem dX11_measures_0 : decode cX11_measures 0 = .ok (.aload_n 0, 1) := by decide +kernel
theorem dX11_measures_1 : decode cX11_measures 1 = .ok (.lconst 0, 1) := by decide +kernel
theorem dX11_measures_2 : decode cX11_measures 2 = .ok (.putfield 239, 3) := by decide +kernel
theorem dX11_measures_5 : decode cX11_measures 5 = .ok (.aload_n 0, 1) := by decide +kernel
theorem dX11_measures_6 : decode cX11_measures 6 = .ok (.lconst 0, 1) := by decide +kernel
theorem dX11_measures_7 : decode cX11_measures 7 = .ok (.putfield 242, 3) := by decide +kernel
theorem dX11_measures_10 : decode cX11_measures 10 = .ok (.aload_n 0, 1) := by decide +kernel
theorem dX11_measures_11 : decode cX11_measures 11 = .ok (.lconst 0, 1) := by decide +kernel
theorem dX11_measures_12 : decode cX11_measures 12 = .ok (.putfield 245, 3) := by decide +kernel
theorem dX11_measures_15 : decode cX11_measures 15 = .ok (.aload_n 0, 1) := by decide +kernel
theorem dX11_measures_16 : decode cX11_measures 16 = .ok (.lconst 0, 1) := by decide +kernel
theorem dX11_measures_17 : decode cX11_measures 17 = .ok (.putfield 248, 3) := by decide +kernel
theorem dX11_measures_20 : decode cX11_measures 20 = .ok (.aload_n 0, 1) := by decide +kernel
theorem dX11_measures_21 : decode cX11_measures 21 = .ok (.iconst 0, 1) := by decide +kernel
theorem dX11_measures_22 : decode cX11_measures 22 = .ok (.putfield 251, 3) := by decide +kernel
theorem dX11_measures_25 : decode cX11_measures 25 = .ok (.aload_n 0, 1) := by decide +kernel
theorem dX11_measures_26 : decode cX11_measures 26 = .ok (.lconst 0, 1) := by decide +kernel
theorem dX11_measures_27 : decode cX11_measures 27 = .ok (.putfield 254, 3) := by decide +kernel
theorem dX11_measures_30 : decode cX11_measures 30 = .ok (.aload_n 0, 1) := by decide +kernel
theorem dX11_measures_31 : decode cX11_measures 31 = .ok (.iconst 0, 1) := by decide +kernel
theorem dX11_measures_32 : decode cX11_measures 32 = .ok (.putfield 257, 3) := by decide +kernel
theorem dX11_measures_35 : decode cX11_measures 35 = .ok (.lconst 0, 1) := by decide +kernel
theorem dX11_measures_36 : decode cX11_measures 36 = .ok (.lstore_n 2, 1) := by decide +kernel
theorem dX11_measures_37 : decode cX11_measures 37 = .ok (.lconst 0, 1) := by decide +kernel
theorem dX11_measures_38 : decode cX11_measures 38 = .ok (.lstore 4, 2) := by decide +kernel
theorem dX11_measures_40 : decode cX11_measures 40 = .ok (.iload_n 1, 1) := by decide +kernel
theorem dX11_measures_41 : decode cX11_measures 41 = .ok (.istore 6, 2) := by decide +kernel
theorem dX11_measures_43 : decode cX11_measures 43 = .ok (.iload 6, 2) := by decide +kernel
theorem dX11_measures_45 : decode cX11_measures 45 = .ok (.aload_n 0, 1) := by decide +kernel
theorem dX11_measures_46 : decode cX11_measures 46 = .ok (.getfield 176, 3) := by decide +kernel
theorem dX11_measures_49 : decode cX11_measures 49 = .ok (.if_icmp .ge 223, 3) := by decide +kernel
theorem dX11_measures_52 : decode cX11_measures 52 = .ok (.aload_n 0, 1) := by decide +kernel
theorem dX11_measures_53 : decode cX11_measures 53 = .ok (.getfield 59, 3) := by decide +kernel
theorem dX11_measures_56 : decode cX11_measures 56 = .ok (.iload 6, 2) := by decide +kernel
theorem dX11_measures_58 : decode cX11_measures 58 = .ok (.baload, 1) := by decide +kernel
theorem dX11_measures_59 : decode cX11_measures 59 = .ok (.ifCond .eq 207, 3) := by decide +kernel
theorem dX11_measures_62 : decode cX11_measures 62 = .ok (.aload_n 0, 1) := by decide +kernel
theorem dX11_measures_63 : decode cX11_measures 63 = .ok (.getfield 56, 3) := by decide +kernel
theorem dX11_measures_66 : decode cX11_measures 66 = .ok (.iload 6, 2) := by decide +kernel
theorem dX11_measures_68 : decode cX11_measures 68 = .ok (.iaload, 1) := by decide +kernel
theorem dX11_measures_69 : decode cX11_measures 69 = .ok (.iload_n 1, 1) := by decide +kernel
theorem dX11_measures_70 : decode cX11_measures 70 = .ok (.if_icmp .ne 196, 3) := by decide +kernel
theorem dX11_measures_73 : decode cX11_measures 73 = .ok (.aload_n 0, 1) := by decide +kernel
theorem dX11_measures_74 : decode cX11_measures 74 = .ok (.dup, 1) := by decide +kernel
theorem dX11_measures_75 : decode cX11_measures 75 = .ok (.getfield 251, 3) := by decide +kernel
theorem dX11_measures_78 : decode cX11_measures 78 = .ok (.iconst 1, 1) := by decide +kernel
theorem dX11_measures_79 : decode cX11_measures 79 = .ok (.iadd, 1) := by decide +kernel
theorem dX11_measures_80 : decode cX11_measures 80 = .ok (.putfield 251, 3) := by decide +kernel
theorem dX11_measures_83 : decode cX11_measures 83 = .ok (.lload 4, 2) := by decide +kernel
theorem dX11_measures_85 : decode cX11_measures 85 = .ok (.aload_n 0, 1) := by decide +kernel
theorem dX11_measures_86 : decode cX11_measures 86 = .ok (.getfield 38, 3) := by decide +kernel
theorem dX11_measures_89 : decode cX11_measures 89 = .ok (.iload 6, 2) := by decide +kernel
theorem dX11_measures_91 : decode cX11_measures 91 = .ok (.iaload, 1) := by decide +kernel
theorem dX11_measures_92 : decode cX11_measures 92 = .ok (.i2l, 1) := by decide +kernel
theorem dX11_measures_93 : decode cX11_measures 93 = .ok (.ladd, 1) := by decide +kernel
theorem dX11_measures_94 : decode cX11_measures 94 = .ok (.lstore 4, 2) := by decide +kernel
theorem dX11_measures_96 : decode cX11_measures 96 = .ok (.aload_n 0, 1) := by decide +kernel
theorem dX11_measures_97 : decode cX11_measures 97 = .ok (.dup, 1) := by decide +kernel
theorem dX11_measures_98 : decode cX11_measures 98 = .ok (.getfield 254, 3) := by decide +kernel
theorem dX11_measures_101 : decode cX11_measures 101 = .ok (.aload_n 0, 1) := by decide +kernel
theorem dX11_measures_102 : decode cX11_measures 102 = .ok (.getfield 41, 3) := by decide +kernel
theorem dX11_measures_105 : decode cX11_measures 105 = .ok (.iload 6, 2) := by decide +kernel
theorem dX11_measures_107 : decode cX11_measures 107 = .ok (.iaload, 1) := by decide +kernel
theorem dX11_measures_108 : decode cX11_measures 108 = .ok (.i2l, 1) := by decide +kernel
theorem dX11_measures_109 : decode cX11_measures 109 = .ok (.aload_n 0, 1) := by decide +kernel
theorem dX11_measures_110 : decode cX11_measures 110 = .ok (.getfield 38, 3) := by decide +kernel
theorem dX11_measures_113 : decode cX11_measures 113 = .ok (.iload 6, 2) := by decide +kernel
theorem dX11_measures_115 : decode cX11_measures 115 = .ok (.iaload, 1) := by decide +kernel
theorem dX11_measures_116 : decode cX11_measures 116 = .ok (.i2l, 1) := by decide +kernel
theorem dX11_measures_117 : decode cX11_measures 117 = .ok (.lmul, 1) := by decide +kernel
theorem dX11_measures_118 : decode cX11_measures 118 = .ok (.ladd, 1) := by decide +kernel
theorem dX11_measures_119 : decode cX11_measures 119 = .ok (.putfield 254, 3) := by decide +kernel
theorem dX11_measures_122 : decode cX11_measures 122 = .ok (.aload_n 0, 1) := by decide +kernel
theorem dX11_measures_123 : decode cX11_measures 123 = .ok (.aload_n 0, 1) := by decide +kernel
theorem dX11_measures_124 : decode cX11_measures 124 = .ok (.getfield 41, 3) := by decide +kernel
theorem dX11_measures_127 : decode cX11_measures 127 = .ok (.iload 6, 2) := by decide +kernel
theorem dX11_measures_129 : decode cX11_measures 129 = .ok (.iaload, 1) := by decide +kernel
theorem dX11_measures_130 : decode cX11_measures 130 = .ok (.aload_n 0, 1) := by decide +kernel
theorem dX11_measures_131 : decode cX11_measures 131 = .ok (.getfield 257, 3) := by decide +kernel
theorem dX11_measures_134 : decode cX11_measures 134 = .ok (.if_icmp .le 13, 3) := by decide +kernel
theorem dX11_measures_137 : decode cX11_measures 137 = .ok (.aload_n 0, 1) := by decide +kernel
theorem dX11_measures_138 : decode cX11_measures 138 = .ok (.getfield 41, 3) := by decide +kernel
theorem dX11_measures_141 : decode cX11_measures 141 = .ok (.iload 6, 2) := by decide +kernel
theorem dX11_measures_143 : decode cX11_measures 143 = .ok (.iaload, 1) := by decide +kernel
theorem dX11_measures_144 : decode cX11_measures 144 = .ok (.goto 7, 3) := by decide +kernel
theorem dX11_measures_147 : decode cX11_measures 147 = .ok (.aload_n 0, 1) := by decide +kernel
theorem dX11_measures_148 : decode cX11_measures 148 = .ok (.getfield 257, 3) := by decide +kernel
theorem dX11_measures_151 : decode cX11_measures 151 = .ok (.putfield 257, 3) := by decide +kernel
theorem dX11_measures_154 : decode cX11_measures 154 = .ok (.iload_n 1, 1) := by decide +kernel
theorem dX11_measures_155 : decode cX11_measures 155 = .ok (.istore 7, 2) := by decide +kernel
theorem dX11_measures_157 : decode cX11_measures 157 = .ok (.iload 7, 2) := by decide +kernel
theorem dX11_measures_159 : decode cX11_measures 159 = .ok (.iload 6, 2) := by decide +kernel
theorem dX11_measures_161 : decode cX11_measures 161 = .ok (.if_icmp .ge 105, 3) := by decide +kernel
theorem dX11_measures_164 : decode cX11_measures 164 = .ok (.aload_n 0, 1) := by decide +kernel
theorem dX11_measures_165 : decode cX11_measures 165 = .ok (.getfield 56, 3) := by decide +kernel
theorem dX11_measures_168 : decode cX11_measures 168 = .ok (.iload 7, 2) := by decide +kernel
theorem dX11_measures_170 : decode cX11_measures 170 = .ok (.iaload, 1) := by decide +kernel
theorem dX11_measures_171 : decode cX11_measures 171 = .ok (.iload_n 1, 1) := by decide +kernel
theorem dX11_measures_172 : decode cX11_measures 172 = .ok (.if_icmp .ne 88, 3) := by decide +kernel
theorem dX11_measures_175 : decode cX11_measures 175 = .ok (.aload_n 0, 1) := by decide +kernel
theorem dX11_measures_176 : decode cX11_measures 176 = .ok (.iload 6, 2) := by decide +kernel
theorem dX11_measures_178 : decode cX11_measures 178 = .ok (.iload 7, 2) := by decide +kernel
theorem dX11_measures_180 : decode cX11_measures 180 = .ok (.invokevirtual 226, 3) := by decide +kernel
theorem dX11_measures_183 : decode cX11_measures 183 = .ok (.ifCond .eq 77, 3) := by decide +kernel
theorem dX11_measures_186 : decode cX11_measures 186 = .ok (.lload_n 2, 1) := by decide +kernel
theorem dX11_measures_187 : decode cX11_measures 187 = .ok (.lconst 1, 1) := by decide +kernel
theorem dX11_measures_188 : decode cX11_measures 188 = .ok (.ladd, 1) := by decide +kernel
theorem dX11_measures_189 : decode cX11_measures 189 = .ok (.lstore_n 2, 1) := by decide +kernel
theorem dX11_measures_190 : decode cX11_measures 190 = .ok (.aload_n 0, 1) := by decide +kernel
theorem dX11_measures_191 : decode cX11_measures 191 = .ok (.iload 6, 2) := by decide +kernel
theorem dX11_measures_193 : decode cX11_measures 193 = .ok (.iload 7, 2) := by decide +kernel
theorem dX11_measures_195 : decode cX11_measures 195 = .ok (.invokevirtual 220, 3) := by decide +kernel
theorem dX11_measures_198 : decode cX11_measures 198 = .ok (.pop, 1) := by decide +kernel
theorem dX11_measures_199 : decode cX11_measures 199 = .ok (.aload_n 0, 1) := by decide +kernel
theorem dX11_measures_200 : decode cX11_measures 200 = .ok (.dup, 1) := by decide +kernel
theorem dX11_measures_201 : decode cX11_measures 201 = .ok (.getfield 239, 3) := by decide +kernel
theorem dX11_measures_204 : decode cX11_measures 204 = .ok (.aload_n 0, 1) := by decide +kernel
theorem dX11_measures_205 : decode cX11_measures 205 = .ok (.getfield 206, 3) := by decide +kernel
theorem dX11_measures_208 : decode cX11_measures 208 = .ok (.ladd, 1) := by decide +kernel
theorem dX11_measures_209 : decode cX11_measures 209 = .ok (.putfield 239, 3) := by decide +kernel
theorem dX11_measures_212 : decode cX11_measures 212 = .ok (.aload_n 0, 1) := by decide +kernel
theorem dX11_measures_213 : decode cX11_measures 213 = .ok (.dup, 1) := by decide +kernel
theorem dX11_measures_214 : decode cX11_measures 214 = .ok (.getfield 242, 3) := by decide +kernel
theorem dX11_measures_217 : decode cX11_measures 217 = .ok (.aload_n 0, 1) := by decide +kernel
theorem dX11_measures_218 : decode cX11_measures 218 = .ok (.getfield 210, 3) := by decide +kernel
theorem dX11_measures_221 : decode cX11_measures 221 = .ok (.ladd, 1) := by decide +kernel
theorem dX11_measures_222 : decode cX11_measures 222 = .ok (.putfield 242, 3) := by decide +kernel
theorem dX11_measures_225 : decode cX11_measures 225 = .ok (.aload_n 0, 1) := by decide +kernel
theorem dX11_measures_226 : decode cX11_measures 226 = .ok (.iload 6, 2) := by decide +kernel
theorem dX11_measures_228 : decode cX11_measures 228 = .ok (.iload 7, 2) := by decide +kernel
theorem dX11_measures_230 : decode cX11_measures 230 = .ok (.invokevirtual 223, 3) := by decide +kernel
theorem dX11_measures_233 : decode cX11_measures 233 = .ok (.pop, 1) := by decide +kernel
theorem dX11_measures_234 : decode cX11_measures 234 = .ok (.aload_n 0, 1) := by decide +kernel
theorem dX11_measures_235 : decode cX11_measures 235 = .ok (.dup, 1) := by decide +kernel
theorem dX11_measures_236 : decode cX11_measures 236 = .ok (.getfield 245, 3) := by decide +kernel
theorem dX11_measures_239 : decode cX11_measures 239 = .ok (.aload_n 0, 1) := by decide +kernel
theorem dX11_measures_240 : decode cX11_measures 240 = .ok (.getfield 206, 3) := by decide +kernel
theorem dX11_measures_243 : decode cX11_measures 243 = .ok (.ladd, 1) := by decide +kernel
theorem dX11_measures_244 : decode cX11_measures 244 = .ok (.putfield 245, 3) := by decide +kernel
theorem dX11_measures_247 : decode cX11_measures 247 = .ok (.aload_n 0, 1) := by decide +kernel
theorem dX11_measures_248 : decode cX11_measures 248 = .ok (.dup, 1) := by decide +kernel
theorem dX11_measures_249 : decode cX11_measures 249 = .ok (.getfield 248, 3) := by decide +kernel
theorem dX11_measures_252 : decode cX11_measures 252 = .ok (.aload_n 0, 1) := by decide +kernel
theorem dX11_measures_253 : decode cX11_measures 253 = .ok (.getfield 210, 3) := by decide +kernel
theorem dX11_measures_256 : decode cX11_measures 256 = .ok (.ladd, 1) := by decide +kernel
theorem dX11_measures_257 : decode cX11_measures 257 = .ok (.putfield 248, 3) := by decide +kernel
theorem dX11_measures_260 : decode cX11_measures 260 = .ok (.iinc 7 1, 3) := by decide +kernel
theorem dX11_measures_263 : decode cX11_measures 263 = .ok (.goto (-106), 3) := by decide +kernel
theorem dX11_measures_266 : decode cX11_measures 266 = .ok (.iinc 6 1, 3) := by decide +kernel
theorem dX11_measures_269 : decode cX11_measures 269 = .ok (.goto (-226), 3) := by decide +kernel
theorem dX11_measures_272 : decode cX11_measures 272 = .ok (.aload_n 0, 1) := by decide +kernel
theorem dX11_measures_273 : decode cX11_measures 273 = .ok (.aload_n 0, 1) := by decide +kernel
theorem dX11_measures_274 : decode cX11_measures 274 = .ok (.getfield 239, 3) := by decide +kernel
theorem dX11_measures_277 : decode cX11_measures 277 = .ok (.lload_n 2, 1) := by decide +kernel
theorem dX11_measures_278 : decode cX11_measures 278 = .ok (.invokestatic 202, 3) := by decide +kernel
theorem dX11_measures_281 : decode cX11_measures 281 = .ok (.putfield 239, 3) := by decide +kernel
theorem dX11_measures_284 : decode cX11_measures 284 = .ok (.aload_n 0, 1) := by decide +kernel
theorem dX11_measures_285 : decode cX11_measures 285 = .ok (.aload_n 0, 1) := by decide +kernel
theorem dX11_measures_286 : decode cX11_measures 286 = .ok (.getfield 242, 3) := by decide +kernel
theorem dX11_measures_289 : decode cX11_measures 289 = .ok (.lload_n 2, 1) := by decide +kernel
theorem dX11_measures_290 : decode cX11_measures 290 = .ok (.invokestatic 202, 3) := by decide +kernel
theorem dX11_measures_293 : decode cX11_measures 293 = .ok (.putfield 242, 3) := by decide +kernel
theorem dX11_measures_296 : decode cX11_measures 296 = .ok (.aload_n 0, 1) := by decide +kernel
theorem dX11_measures_297 : decode cX11_measures 297 = .ok (.aload_n 0, 1) := by decide +kernel
theorem dX11_measures_298 : decode cX11_measures 298 = .ok (.getfield 245, 3) := by decide +kernel
theorem dX11_measures_301 : decode cX11_measures 301 = .ok (.lload_n 2, 1) := by decide +kernel
theorem dX11_measures_302 : decode cX11_measures 302 = .ok (.invokestatic 202, 3) := by decide +kernel
theorem dX11_measures_305 : decode cX11_measures 305 = .ok (.putfield 245, 3) := by decide +kernel
theorem dX11_measures_308 : decode cX11_measures 308 = .ok (.aload_n 0, 1) := by decide +kernel
theorem dX11_measures_309 : decode cX11_measures 309 = .ok (.aload_n 0, 1) := by decide +kernel
theorem dX11_measures_310 : decode cX11_measures 310 = .ok (.getfield 248, 3) := by decide +kernel
theorem dX11_measures_313 : decode cX11_measures 313 = .ok (.lload_n 2, 1) := by decide +kernel
theorem dX11_measures_314 : decode cX11_measures 314 = .ok (.invokestatic 202, 3) := by decide +kernel
theorem dX11_measures_317 : decode cX11_measures 317 = .ok (.putfield 248, 3) := by decide +kernel
theorem dX11_measures_320 : decode cX11_measures 320 = .ok (.aload_n 0, 1) := by decide +kernel
theorem dX11_measures_321 : decode cX11_measures 321 = .ok (.getfield 245, 3) := by decide +kernel
theorem dX11_measures_324 : decode cX11_measures 324 = .ok (.aload_n 0, 1) := by decide +kernel
theorem dX11_measures_325 : decode cX11_measures 325 = .ok (.getfield 239, 3) := by decide +kernel
theorem dX11_measures_328 : decode cX11_measures 328 = .ok (.lsub, 1) := by decide +kernel
theorem dX11_measures_329 : decode cX11_measures 329 = .ok (.lstore 6, 2) := by decide +kernel
theorem dX11_measures_331 : decode cX11_measures 331 = .ok (.aload_n 0, 1) := by decide +kernel
theorem dX11_measures_332 : decode cX11_measures 332 = .ok (.getfield 248, 3) := by decide +kernel
theorem dX11_measures_335 : decode cX11_measures 335 = .ok (.aload_n 0, 1) := by decide +kernel
theorem dX11_measures_336 : decode cX11_measures 336 = .ok (.getfield 242, 3) := by decide +kernel
theorem dX11_measures_339 : decode cX11_measures 339 = .ok (.lsub, 1) := by decide +kernel
theorem dX11_measures_340 : decode cX11_measures 340 = .ok (.lstore 8, 2) := by decide +kernel
theorem dX11_measures_342 : decode cX11_measures 342 = .ok (.aload_n 0, 1) := by decide +kernel
theorem dX11_measures_343 : decode cX11_measures 343 = .ok (.ldc2_w 260, 3) := by decide +kernel
theorem dX11_measures_346 : decode cX11_measures 346 = .ok (.lload 6, 2) := by decide +kernel
theorem dX11_measures_348 : decode cX11_measures 348 = .ok (.lload 6, 2) := by decide +kernel
theorem dX11_measures_350 : decode cX11_measures 350 = .ok (.lmul, 1) := by decide +kernel
theorem dX11_measures_351 : decode cX11_measures 351 = .ok (.lload 8, 2) := by decide +kernel
theorem dX11_measures_353 : decode cX11_measures 353 = .ok (.lload 8, 2) := by decide +kernel
theorem dX11_measures_355 : decode cX11_measures 355 = .ok (.lmul, 1) := by decide +kernel
theorem dX11_measures_356 : decode cX11_measures 356 = .ok (.ladd, 1) := by decide +kernel
theorem dX11_measures_357 : decode cX11_measures 357 = .ok (.invokestatic 262, 3) := by decide +kernel
theorem dX11_measures_360 : decode cX11_measures 360 = .ok (.lmul, 1) := by decide +kernel
theorem dX11_measures_361 : decode cX11_measures 361 = .ok (.aload_n 0, 1) := by decide +kernel
theorem dX11_measures_362 : decode cX11_measures 362 = .ok (.getfield 251, 3) := by decide +kernel
theorem dX11_measures_365 : decode cX11_measures 365 = .ok (.i2l, 1) := by decide +kernel
theorem dX11_measures_366 : decode cX11_measures 366 = .ok (.lmul, 1) := by decide +kernel
theorem dX11_measures_367 : decode cX11_measures 367 = .ok (.lload 4, 2) := by decide +kernel
theorem dX11_measures_369 : decode cX11_measures 369 = .ok (.ldiv, 1) := by decide +kernel
theorem dX11_measures_370 : decode cX11_measures 370 = .ok (.putfield 266, 3) := by decide +kernel
theorem dX11_measures_373 : decode cX11_measures 373 = .ok (.aload_n 0, 1) := by decide +kernel
theorem dX11_measures_374 : decode cX11_measures 374 = .ok (.dup, 1) := by decide +kernel
theorem dX11_measures_375 : decode cX11_measures 375 = .ok (.getfield 254, 3) := by decide +kernel
theorem dX11_measures_378 : decode cX11_measures 378 = .ok (.aload_n 0, 1) := by decide +kernel
theorem dX11_measures_379 : decode cX11_measures 379 = .ok (.getfield 251, 3) := by decide +kernel
theorem dX11_measures_382 : decode cX11_measures 382 = .ok (.i2l, 1) := by decide +kernel
theorem dX11_measures_383 : decode cX11_measures 383 = .ok (.ldiv, 1) := by decide +kernel
theorem dX11_measures_384 : decode cX11_measures 384 = .ok (.putfield 254, 3) := by decide +kernel
theorem dX11_measures_387 : decode cX11_measures 387 = .ok (.return_, 1) := by decide +kernel
theorem dX11_told_0 : decode cX11_told 0 = .ok (.aload_n 0, 1) := by decide +kernel
theorem dX11_told_1 : decode cX11_told 1 = .ok (.invokevirtual 229, 3) := by decide +kernel
theorem dX11_told_4 : decode cX11_told 4 = .ok (.aload_n 0, 1) := by decide +kernel
theorem dX11_told_5 : decode cX11_told 5 = .ok (.aload_n 0, 1) := by decide +kernel
theorem dX11_told_6 : decode cX11_told 6 = .ok (.iload_n 1, 1) := by decide +kernel
theorem dX11_told_7 : decode cX11_told 7 = .ok (.invokevirtual 236, 3) := by decide +kernel
theorem dX11_told_10 : decode cX11_told 10 = .ok (.ifCond .ne 7, 3) := by decide +kernel
theorem dX11_told_13 : decode cX11_told 13 = .ok (.iconst 1, 1) := by decide +kernel
theorem dX11_told_14 : decode cX11_told 14 = .ok (.goto 18, 3) := by decide +kernel
theorem dX11_told_17 : decode cX11_told 17 = .ok (.iload_n 2, 1) := by decide +kernel
theorem dX11_told_18 : decode cX11_told 18 = .ok (.iconst 0, 1) := by decide +kernel
theorem dX11_told_19 : decode cX11_told 19 = .ok (.bipush 7, 2) := by decide +kernel
theorem dX11_told_21 : decode cX11_told 21 = .ok (.invokestatic 158, 3) := by decide +kernel
theorem dX11_told_24 : decode cX11_told 24 = .ok (.ifCond .ne 7, 3) := by decide +kernel
theorem dX11_told_27 : decode cX11_told 27 = .ok (.iconst 2, 1) := by decide +kernel
theorem dX11_told_28 : decode cX11_told 28 = .ok (.goto 4, 3) := by decide +kernel
theorem dX11_told_31 : decode cX11_told 31 = .ok (.iconst 0, 1) := by decide +kernel
theorem dX11_told_32 : decode cX11_told 32 = .ok (.putfield 151, 3) := by decide +kernel
theorem dX11_told_35 : decode cX11_told 35 = .ok (.aload_n 0, 1) := by decide +kernel
theorem dX11_told_36 : decode cX11_told 36 = .ok (.getfield 151, 3) := by decide +kernel
theorem dX11_told_39 : decode cX11_told 39 = .ok (.ifCond .le 5, 3) := by decide +kernel
theorem dX11_told_42 : decode cX11_told 42 = .ok (.lconst 0, 1) := by decide +kernel
theorem dX11_told_43 : decode cX11_told 43 = .ok (.lreturn, 1) := by decide +kernel
theorem dX11_told_44 : decode cX11_told 44 = .ok (.aload_n 0, 1) := by decide +kernel
theorem dX11_told_45 : decode cX11_told 45 = .ok (.iload_n 1, 1) := by decide +kernel
theorem dX11_told_46 : decode cX11_told 46 = .ok (.invokevirtual 269, 3) := by decide +kernel
theorem dX11_told_49 : decode cX11_told 49 = .ok (.iload_n 2, 1) := by decide +kernel
theorem dX11_told_50 : decode cX11_told 50 = .ok (.tableswitch 78 0 6 #[42, 48, 53, 58, 63, 68, 73], 42) := by decide +kernel
theorem dX11_told_92 : decode cX11_told 92 = .ok (.aload_n 0, 1) := by decide +kernel
theorem dX11_told_93 : decode cX11_told 93 = .ok (.getfield 251, 3) := by decide +kernel
theorem dX11_told_96 : decode cX11_told 96 = .ok (.i2l, 1) := by decide +kernel
theorem dX11_told_97 : decode cX11_told 97 = .ok (.lreturn, 1) := by decide +kernel
theorem dX11_told_98 : decode cX11_told 98 = .ok (.aload_n 0, 1) := by decide +kernel
theorem dX11_told_99 : decode cX11_told 99 = .ok (.getfield 239, 3) := by decide +kernel
theorem dX11_told_102 : decode cX11_told 102 = .ok (.lreturn, 1) := by decide +kernel
theorem dX11_told_103 : decode cX11_told 103 = .ok (.aload_n 0, 1) := by decide +kernel
theorem dX11_told_104 : decode cX11_told 104 = .ok (.getfield 242, 3) := by decide +kernel
theorem dX11_told_107 : decode cX11_told 107 = .ok (.lreturn, 1) := by decide +kernel
theorem dX11_told_108 : decode cX11_told 108 = .ok (.aload_n 0, 1) := by decide +kernel
theorem dX11_told_109 : decode cX11_told 109 = .ok (.getfield 245, 3) := by decide +kernel
theorem dX11_told_112 : decode cX11_told 112 = .ok (.lreturn, 1) := by decide +kernel
theorem dX11_told_113 : decode cX11_told 113 = .ok (.aload_n 0, 1) := by decide +kernel
theorem dX11_told_114 : decode cX11_told 114 = .ok (.getfield 248, 3) := by decide +kernel
theorem dX11_told_117 : decode cX11_told 117 = .ok (.lreturn, 1) := by decide +kernel
theorem dX11_told_118 : decode cX11_told 118 = .ok (.aload_n 0, 1) := by decide +kernel
theorem dX11_told_119 : decode cX11_told 119 = .ok (.getfield 266, 3) := by decide +kernel
theorem dX11_told_122 : decode cX11_told 122 = .ok (.lreturn, 1) := by decide +kernel
theorem dX11_told_123 : decode cX11_told 123 = .ok (.aload_n 0, 1) := by decide +kernel
theorem dX11_told_124 : decode cX11_told 124 = .ok (.getfield 254, 3) := by decide +kernel
theorem dX11_told_127 : decode cX11_told 127 = .ok (.lreturn, 1) := by decide +kernel
theorem dX11_told_128 : decode cX11_told 128 = .ok (.ldc2_w 273, 3) := by decide +kernel
theorem dX11_told_131 : decode cX11_told 131 = .ok (.aload_n 0, 1) := by decide +kernel
theorem dX11_told_132 : decode cX11_told 132 = .ok (.getfield 257, 3) := by decide +kernel
theorem dX11_told_135 : decode cX11_told 135 = .ok (.i2l, 1) := by decide +kernel
theorem dX11_told_136 : decode cX11_told 136 = .ok (.lmul, 1) := by decide +kernel
theorem dX11_told_137 : decode cX11_told 137 = .ok (.aload_n 0, 1) := by decide +kernel
theorem dX11_told_138 : decode cX11_told 138 = .ok (.getfield 266, 3) := by decide +kernel
theorem dX11_told_141 : decode cX11_told 141 = .ok (.lconst 1, 1) := by decide +kernel
theorem dX11_told_142 : decode cX11_told 142 = .ok (.ladd, 1) := by decide +kernel
theorem dX11_told_143 : decode cX11_told 143 = .ok (.ldiv, 1) := by decide +kernel
theorem dX11_told_144 : decode cX11_told 144 = .ok (.lreturn, 1) := by decide +kernel
theorem dX11_stream_0 : decode cX11_stream 0 = .ok (.aload_n 0, 1) := by decide +kernel
theorem dX11_stream_1 : decode cX11_stream 1 = .ok (.invokevirtual 229, 3) := by decide +kernel
theorem dX11_stream_4 : decode cX11_stream 4 = .ok (.aload_n 0, 1) := by decide +kernel
theorem dX11_stream_5 : decode cX11_stream 5 = .ok (.aload_n 0, 1) := by decide +kernel
theorem dX11_stream_6 : decode cX11_stream 6 = .ok (.iload_n 1, 1) := by decide +kernel
theorem dX11_stream_7 : decode cX11_stream 7 = .ok (.invokevirtual 236, 3) := by decide +kernel
theorem dX11_stream_10 : decode cX11_stream 10 = .ok (.ifCond .eq 15, 3) := by decide +kernel
theorem dX11_stream_13 : decode cX11_stream 13 = .ok (.aload_n 0, 1) := by decide +kernel
theorem dX11_stream_14 : decode cX11_stream 14 = .ok (.iload_n 2, 1) := by decide +kernel
theorem dX11_stream_15 : decode cX11_stream 15 = .ok (.invokevirtual 236, 3) := by decide +kernel
theorem dX11_stream_18 : decode cX11_stream 18 = .ok (.ifCond .eq 7, 3) := by decide +kernel
theorem dX11_stream_21 : decode cX11_stream 21 = .ok (.iconst 0, 1) := by decide +kernel
theorem dX11_stream_22 : decode cX11_stream 22 = .ok (.goto 4, 3) := by decide +kernel
theorem dX11_stream_25 : decode cX11_stream 25 = .ok (.iconst 1, 1) := by decide +kernel
theorem dX11_stream_26 : decode cX11_stream 26 = .ok (.putfield 151, 3) := by decide +kernel
theorem dX11_stream_29 : decode cX11_stream 29 = .ok (.aload_n 0, 1) := by decide +kernel
theorem dX11_stream_30 : decode cX11_stream 30 = .ok (.getfield 151, 3) := by decide +kernel
theorem dX11_stream_33 : decode cX11_stream 33 = .ok (.ifCond .le 5, 3) := by decide +kernel
theorem dX11_stream_36 : decode cX11_stream 36 = .ok (.iconst 0, 1) := by decide +kernel
theorem dX11_stream_37 : decode cX11_stream 37 = .ok (.ireturn, 1) := by decide +kernel
theorem dX11_stream_38 : decode cX11_stream 38 = .ok (.aload_n 0, 1) := by decide +kernel
theorem dX11_stream_39 : decode cX11_stream 39 = .ok (.iload_n 1, 1) := by decide +kernel
theorem dX11_stream_40 : decode cX11_stream 40 = .ok (.invokevirtual 269, 3) := by decide +kernel
theorem dX11_stream_43 : decode cX11_stream 43 = .ok (.aload_n 0, 1) := by decide +kernel
theorem dX11_stream_44 : decode cX11_stream 44 = .ok (.getfield 245, 3) := by decide +kernel
theorem dX11_stream_47 : decode cX11_stream 47 = .ok (.aload_n 0, 1) := by decide +kernel
theorem dX11_stream_48 : decode cX11_stream 48 = .ok (.getfield 239, 3) := by decide +kernel
theorem dX11_stream_51 : decode cX11_stream 51 = .ok (.lsub, 1) := by decide +kernel
theorem dX11_stream_52 : decode cX11_stream 52 = .ok (.lstore_n 3, 1) := by decide +kernel
theorem dX11_stream_53 : decode cX11_stream 53 = .ok (.aload_n 0, 1) := by decide +kernel
theorem dX11_stream_54 : decode cX11_stream 54 = .ok (.getfield 248, 3) := by decide +kernel
theorem dX11_stream_57 : decode cX11_stream 57 = .ok (.aload_n 0, 1) := by decide +kernel
theorem dX11_stream_58 : decode cX11_stream 58 = .ok (.getfield 242, 3) := by decide +kernel
theorem dX11_stream_61 : decode cX11_stream 61 = .ok (.lsub, 1) := by decide +kernel
theorem dX11_stream_62 : decode cX11_stream 62 = .ok (.lstore 5, 2) := by decide +kernel
theorem dX11_stream_64 : decode cX11_stream 64 = .ok (.aload_n 0, 1) := by decide +kernel
theorem dX11_stream_65 : decode cX11_stream 65 = .ok (.getfield 266, 3) := by decide +kernel
theorem dX11_stream_68 : decode cX11_stream 68 = .ok (.lstore 7, 2) := by decide +kernel
theorem dX11_stream_70 : decode cX11_stream 70 = .ok (.aload_n 0, 1) := by decide +kernel
theorem dX11_stream_71 : decode cX11_stream 71 = .ok (.iload_n 2, 1) := by decide +kernel
theorem dX11_stream_72 : decode cX11_stream 72 = .ok (.invokevirtual 269, 3) := by decide +kernel
theorem dX11_stream_75 : decode cX11_stream 75 = .ok (.aload_n 0, 1) := by decide +kernel
theorem dX11_stream_76 : decode cX11_stream 76 = .ok (.getfield 245, 3) := by decide +kernel
theorem dX11_stream_79 : decode cX11_stream 79 = .ok (.aload_n 0, 1) := by decide +kernel
theorem dX11_stream_80 : decode cX11_stream 80 = .ok (.getfield 239, 3) := by decide +kernel
theorem dX11_stream_83 : decode cX11_stream 83 = .ok (.lsub, 1) := by decide +kernel
theorem dX11_stream_84 : decode cX11_stream 84 = .ok (.lstore 9, 2) := by decide +kernel
theorem dX11_stream_86 : decode cX11_stream 86 = .ok (.aload_n 0, 1) := by decide +kernel
theorem dX11_stream_87 : decode cX11_stream 87 = .ok (.getfield 248, 3) := by decide +kernel
theorem dX11_stream_90 : decode cX11_stream 90 = .ok (.aload_n 0, 1) := by decide +kernel
theorem dX11_stream_91 : decode cX11_stream 91 = .ok (.getfield 242, 3) := by decide +kernel
theorem dX11_stream_94 : decode cX11_stream 94 = .ok (.lsub, 1) := by decide +kernel
theorem dX11_stream_95 : decode cX11_stream 95 = .ok (.lstore 11, 2) := by decide +kernel
theorem dX11_stream_97 : decode cX11_stream 97 = .ok (.lload 7, 2) := by decide +kernel
theorem dX11_stream_99 : decode cX11_stream 99 = .ok (.aload_n 0, 1) := by decide +kernel
theorem dX11_stream_100 : decode cX11_stream 100 = .ok (.getfield 266, 3) := by decide +kernel
theorem dX11_stream_103 : decode cX11_stream 103 = .ok (.lcmp, 1) := by decide +kernel
theorem dX11_stream_104 : decode cX11_stream 104 = .ok (.ifCond .le 8, 3) := by decide +kernel
theorem dX11_stream_107 : decode cX11_stream 107 = .ok (.lload 7, 2) := by decide +kernel
theorem dX11_stream_109 : decode cX11_stream 109 = .ok (.goto 7, 3) := by decide +kernel
theorem dX11_stream_112 : decode cX11_stream 112 = .ok (.aload_n 0, 1) := by decide +kernel
theorem dX11_stream_113 : decode cX11_stream 113 = .ok (.getfield 266, 3) := by decide +kernel
theorem dX11_stream_116 : decode cX11_stream 116 = .ok (.lstore 13, 2) := by decide +kernel
theorem dX11_stream_118 : decode cX11_stream 118 = .ok (.lload 7, 2) := by decide +kernel
theorem dX11_stream_120 : decode cX11_stream 120 = .ok (.aload_n 0, 1) := by decide +kernel
theorem dX11_stream_121 : decode cX11_stream 121 = .ok (.getfield 266, 3) := by decide +kernel
theorem dX11_stream_124 : decode cX11_stream 124 = .ok (.lcmp, 1) := by decide +kernel
theorem dX11_stream_125 : decode cX11_stream 125 = .ok (.ifCond .le 13, 3) := by decide +kernel
theorem dX11_stream_128 : decode cX11_stream 128 = .ok (.lload 7, 2) := by decide +kernel
theorem dX11_stream_130 : decode cX11_stream 130 = .ok (.aload_n 0, 1) := by decide +kernel
theorem dX11_stream_131 : decode cX11_stream 131 = .ok (.getfield 266, 3) := by decide +kernel
theorem dX11_stream_134 : decode cX11_stream 134 = .ok (.lsub, 1) := by decide +kernel
theorem dX11_stream_135 : decode cX11_stream 135 = .ok (.goto 10, 3) := by decide +kernel
theorem dX11_stream_138 : decode cX11_stream 138 = .ok (.aload_n 0, 1) := by decide +kernel
theorem dX11_stream_139 : decode cX11_stream 139 = .ok (.getfield 266, 3) := by decide +kernel
theorem dX11_stream_142 : decode cX11_stream 142 = .ok (.lload 7, 2) := by decide +kernel
theorem dX11_stream_144 : decode cX11_stream 144 = .ok (.lsub, 1) := by decide +kernel
theorem dX11_stream_145 : decode cX11_stream 145 = .ok (.lstore 15, 2) := by decide +kernel
theorem dX11_stream_147 : decode cX11_stream 147 = .ok (.lload_n 3, 1) := by decide +kernel
theorem dX11_stream_148 : decode cX11_stream 148 = .ok (.lload 11, 2) := by decide +kernel
theorem dX11_stream_150 : decode cX11_stream 150 = .ok (.lmul, 1) := by decide +kernel
theorem dX11_stream_151 : decode cX11_stream 151 = .ok (.lload 5, 2) := by decide +kernel
theorem dX11_stream_153 : decode cX11_stream 153 = .ok (.lload 9, 2) := by decide +kernel
theorem dX11_stream_155 : decode cX11_stream 155 = .ok (.lmul, 1) := by decide +kernel
theorem dX11_stream_156 : decode cX11_stream 156 = .ok (.lsub, 1) := by decide +kernel
theorem dX11_stream_157 : decode cX11_stream 157 = .ok (.lstore 17, 2) := by decide +kernel
theorem dX11_stream_159 : decode cX11_stream 159 = .ok (.lload_n 3, 1) := by decide +kernel
theorem dX11_stream_160 : decode cX11_stream 160 = .ok (.lload 9, 2) := by decide +kernel
theorem dX11_stream_162 : decode cX11_stream 162 = .ok (.lmul, 1) := by decide +kernel
theorem dX11_stream_163 : decode cX11_stream 163 = .ok (.lload 5, 2) := by decide +kernel
theorem dX11_stream_165 : decode cX11_stream 165 = .ok (.lload 11, 2) := by decide +kernel
theorem dX11_stream_167 : decode cX11_stream 167 = .ok (.lmul, 1) := by decide +kernel
theorem dX11_stream_168 : decode cX11_stream 168 = .ok (.ladd, 1) := by decide +kernel
theorem dX11_stream_169 : decode cX11_stream 169 = .ok (.lstore 19, 2) := by decide +kernel
theorem dX11_stream_171 : decode cX11_stream 171 = .ok (.lload_n 3, 1) := by decide +kernel
theorem dX11_stream_172 : decode cX11_stream 172 = .ok (.lconst 0, 1) := by decide +kernel
theorem dX11_stream_173 : decode cX11_stream 173 = .ok (.lcmp, 1) := by decide +kernel
theorem dX11_stream_174 : decode cX11_stream 174 = .ok (.ifCond .ne 10, 3) := by decide +kernel
theorem dX11_stream_177 : decode cX11_stream 177 = .ok (.lload 5, 2) := by decide +kernel
theorem dX11_stream_179 : decode cX11_stream 179 = .ok (.lconst 0, 1) := by decide +kernel
theorem dX11_stream_180 : decode cX11_stream 180 = .ok (.lcmp, 1) := by decide +kernel
theorem dX11_stream_181 : decode cX11_stream 181 = .ok (.ifCond .eq 21, 3) := by decide +kernel
theorem dX11_stream_184 : decode cX11_stream 184 = .ok (.lload 9, 2) := by decide +kernel
theorem dX11_stream_186 : decode cX11_stream 186 = .ok (.lconst 0, 1) := by decide +kernel
theorem dX11_stream_187 : decode cX11_stream 187 = .ok (.lcmp, 1) := by decide +kernel
theorem dX11_stream_188 : decode cX11_stream 188 = .ok (.ifCond .ne 10, 3) := by decide +kernel
theorem dX11_stream_191 : decode cX11_stream 191 = .ok (.lload 11, 2) := by decide +kernel
theorem dX11_stream_193 : decode cX11_stream 193 = .ok (.lconst 0, 1) := by decide +kernel
theorem dX11_stream_194 : decode cX11_stream 194 = .ok (.lcmp, 1) := by decide +kernel
theorem dX11_stream_195 : decode cX11_stream 195 = .ok (.ifCond .eq 7, 3) := by decide +kernel
theorem dX11_stream_198 : decode cX11_stream 198 = .ok (.iconst 1, 1) := by decide +kernel
theorem dX11_stream_199 : decode cX11_stream 199 = .ok (.goto 4, 3) := by decide +kernel
theorem dX11_stream_202 : decode cX11_stream 202 = .ok (.iconst 0, 1) := by decide +kernel
theorem dX11_stream_203 : decode cX11_stream 203 = .ok (.istore 21, 2) := by decide +kernel
theorem dX11_stream_205 : decode cX11_stream 205 = .ok (.ldc2_w 260, 3) := by decide +kernel
theorem dX11_stream_208 : decode cX11_stream 208 = .ok (.lload 15, 2) := by decide +kernel
theorem dX11_stream_210 : decode cX11_stream 210 = .ok (.lmul, 1) := by decide +kernel
theorem dX11_stream_211 : decode cX11_stream 211 = .ok (.lload 13, 2) := by decide +kernel
theorem dX11_stream_213 : decode cX11_stream 213 = .ok (.lcmp, 1) := by decide +kernel
theorem dX11_stream_214 : decode cX11_stream 214 = .ok (.ifCond .gt 44, 3) := by decide +kernel
theorem dX11_stream_217 : decode cX11_stream 217 = .ok (.iload 21, 2) := by decide +kernel
theorem dX11_stream_219 : decode cX11_stream 219 = .ok (.ifCond .eq 39, 3) := by decide +kernel
theorem dX11_stream_222 : decode cX11_stream 222 = .ok (.lload 19, 2) := by decide +kernel
theorem dX11_stream_224 : decode cX11_stream 224 = .ok (.lconst 0, 1) := by decide +kernel
theorem dX11_stream_225 : decode cX11_stream 225 = .ok (.lcmp, 1) := by decide +kernel
theorem dX11_stream_226 : decode cX11_stream 226 = .ok (.ifCond .le 32, 3) := by decide +kernel
theorem dX11_stream_229 : decode cX11_stream 229 = .ok (.ldc2_w 260, 3) := by decide +kernel
theorem dX11_stream_232 : decode cX11_stream 232 = .ok (.lload 17, 2) := by decide +kernel
theorem dX11_stream_234 : decode cX11_stream 234 = .ok (.lconst 0, 1) := by decide +kernel
theorem dX11_stream_235 : decode cX11_stream 235 = .ok (.lcmp, 1) := by decide +kernel
theorem dX11_stream_236 : decode cX11_stream 236 = .ok (.ifCond .ge 9, 3) := by decide +kernel
theorem dX11_stream_239 : decode cX11_stream 239 = .ok (.lload 17, 2) := by decide +kernel
theorem dX11_stream_241 : decode cX11_stream 241 = .ok (.lneg, 1) := by decide +kernel
theorem dX11_stream_242 : decode cX11_stream 242 = .ok (.goto 5, 3) := by decide +kernel
theorem dX11_stream_245 : decode cX11_stream 245 = .ok (.lload 17, 2) := by decide +kernel
theorem dX11_stream_247 : decode cX11_stream 247 = .ok (.lmul, 1) := by decide +kernel
theorem dX11_stream_248 : decode cX11_stream 248 = .ok (.lload 19, 2) := by decide +kernel
theorem dX11_stream_250 : decode cX11_stream 250 = .ok (.lcmp, 1) := by decide +kernel
theorem dX11_stream_251 : decode cX11_stream 251 = .ok (.ifCond .gt 7, 3) := by decide +kernel
theorem dX11_stream_254 : decode cX11_stream 254 = .ok (.iconst 1, 1) := by decide +kernel
theorem dX11_stream_255 : decode cX11_stream 255 = .ok (.goto 4, 3) := by decide +kernel
theorem dX11_stream_258 : decode cX11_stream 258 = .ok (.iconst 0, 1) := by decide +kernel
theorem dX11_stream_259 : decode cX11_stream 259 = .ok (.ireturn, 1) := by decide +kernel
theorem dX11_flux_0 : decode cX11_flux 0 = .ok (.iload_n 1, 1) := by decide +kernel
theorem dX11_flux_1 : decode cX11_flux 1 = .ok (.invokestatic 179, 3) := by decide +kernel
theorem dX11_flux_4 : decode cX11_flux 4 = .ok (.ifCond .eq 29, 3) := by decide +kernel
theorem dX11_flux_7 : decode cX11_flux 7 = .ok (.iload_n 2, 1) := by decide +kernel
theorem dX11_flux_8 : decode cX11_flux 8 = .ok (.iload_n 1, 1) := by decide +kernel
theorem dX11_flux_9 : decode cX11_flux 9 = .ok (.sipush 3649, 3) := by decide +kernel
theorem dX11_flux_12 : decode cX11_flux 12 = .ok (.invokestatic 158, 3) := by decide +kernel
theorem dX11_flux_15 : decode cX11_flux 15 = .ok (.ifCond .eq 18, 3) := by decide +kernel
theorem dX11_flux_18 : decode cX11_flux 18 = .ok (.iload_n 3, 1) := by decide +kernel
theorem dX11_flux_19 : decode cX11_flux 19 = .ok (.iconst 0, 1) := by decide +kernel
theorem dX11_flux_20 : decode cX11_flux 20 = .ok (.ldc_w 275, 3) := by decide +kernel
theorem dX11_flux_23 : decode cX11_flux 23 = .ok (.invokestatic 158, 3) := by decide +kernel
theorem dX11_flux_26 : decode cX11_flux 26 = .ok (.ifCond .eq 7, 3) := by decide +kernel
theorem dX11_flux_29 : decode cX11_flux 29 = .ok (.iconst 1, 1) := by decide +kernel
theorem dX11_flux_30 : decode cX11_flux 30 = .ok (.goto 4, 3) := by decide +kernel
theorem dX11_flux_33 : decode cX11_flux 33 = .ok (.iconst 0, 1) := by decide +kernel
theorem dX11_flux_34 : decode cX11_flux 34 = .ok (.istore 4, 2) := by decide +kernel
theorem dX11_flux_36 : decode cX11_flux 36 = .ok (.aload_n 0, 1) := by decide +kernel
theorem dX11_flux_37 : decode cX11_flux 37 = .ok (.iload 4, 2) := by decide +kernel
theorem dX11_flux_39 : decode cX11_flux 39 = .ok (.ifCond .eq 7, 3) := by decide +kernel
theorem dX11_flux_42 : decode cX11_flux 42 = .ok (.iconst 0, 1) := by decide +kernel
theorem dX11_flux_43 : decode cX11_flux 43 = .ok (.goto 4, 3) := by decide +kernel
theorem dX11_flux_46 : decode cX11_flux 46 = .ok (.iconst 1, 1) := by decide +kernel
theorem dX11_flux_47 : decode cX11_flux 47 = .ok (.putfield 151, 3) := by decide +kernel
theorem dX11_flux_50 : decode cX11_flux 50 = .ok (.aload_n 0, 1) := by decide +kernel
theorem dX11_flux_51 : decode cX11_flux 51 = .ok (.getfield 151, 3) := by decide +kernel
theorem dX11_flux_54 : decode cX11_flux 54 = .ok (.ifCond .le 5, 3) := by decide +kernel
theorem dX11_flux_57 : decode cX11_flux 57 = .ok (.iconst 0, 1) := by decide +kernel
theorem dX11_flux_58 : decode cX11_flux 58 = .ok (.ireturn, 1) := by decide +kernel
theorem dX11_flux_59 : decode cX11_flux 59 = .ok (.aload_n 0, 1) := by decide +kernel
theorem dX11_flux_60 : decode cX11_flux 60 = .ok (.invokevirtual 229, 3) := by decide +kernel
theorem dX11_flux_63 : decode cX11_flux 63 = .ok (.iconst 0, 1) := by decide +kernel
theorem dX11_flux_64 : decode cX11_flux 64 = .ok (.istore 5, 2) := by decide +kernel
theorem dX11_flux_66 : decode cX11_flux 66 = .ok (.iconst 0, 1) := by decide +kernel
theorem dX11_flux_67 : decode cX11_flux 67 = .ok (.istore 6, 2) := by decide +kernel
theorem dX11_flux_69 : decode cX11_flux 69 = .ok (.iload 6, 2) := by decide +kernel
theorem dX11_flux_71 : decode cX11_flux 71 = .ok (.aload_n 0, 1) := by decide +kernel
theorem dX11_flux_72 : decode cX11_flux 72 = .ok (.getfield 176, 3) := by decide +kernel
theorem dX11_flux_75 : decode cX11_flux 75 = .ok (.if_icmp .ge 59, 3) := by decide +kernel
theorem dX11_flux_78 : decode cX11_flux 78 = .ok (.aload_n 0, 1) := by decide +kernel
theorem dX11_flux_79 : decode cX11_flux 79 = .ok (.iload 6, 2) := by decide +kernel
theorem dX11_flux_81 : decode cX11_flux 81 = .ok (.invokevirtual 236, 3) := by decide +kernel
theorem dX11_flux_84 : decode cX11_flux 84 = .ok (.ifCond .eq 44, 3) := by decide +kernel
theorem dX11_flux_87 : decode cX11_flux 87 = .ok (.aload_n 0, 1) := by decide +kernel
theorem dX11_flux_88 : decode cX11_flux 88 = .ok (.getfield 32, 3) := by decide +kernel
theorem dX11_flux_91 : decode cX11_flux 91 = .ok (.iload 6, 2) := by decide +kernel
theorem dX11_flux_93 : decode cX11_flux 93 = .ok (.iaload, 1) := by decide +kernel
theorem dX11_flux_94 : decode cX11_flux 94 = .ok (.iload_n 1, 1) := by decide +kernel
theorem dX11_flux_95 : decode cX11_flux 95 = .ok (.iload_n 2, 1) := by decide +kernel
theorem dX11_flux_96 : decode cX11_flux 96 = .ok (.invokestatic 158, 3) := by decide +kernel
theorem dX11_flux_99 : decode cX11_flux 99 = .ok (.ifCond .eq 29, 3) := by decide +kernel
theorem dX11_flux_102 : decode cX11_flux 102 = .ok (.aload_n 0, 1) := by decide +kernel
theorem dX11_flux_103 : decode cX11_flux 103 = .ok (.iload 6, 2) := by decide +kernel
theorem dX11_flux_105 : decode cX11_flux 105 = .ok (.invokevirtual 269, 3) := by decide +kernel
theorem dX11_flux_108 : decode cX11_flux 108 = .ok (.iload 5, 2) := by decide +kernel
theorem dX11_flux_110 : decode cX11_flux 110 = .ok (.aload_n 0, 1) := by decide +kernel
theorem dX11_flux_111 : decode cX11_flux 111 = .ok (.getfield 254, 3) := by decide +kernel
theorem dX11_flux_114 : decode cX11_flux 114 = .ok (.iload_n 3, 1) := by decide +kernel
theorem dX11_flux_115 : decode cX11_flux 115 = .ok (.i2l, 1) := by decide +kernel
theorem dX11_flux_116 : decode cX11_flux 116 = .ok (.lcmp, 1) := by decide +kernel
theorem dX11_flux_117 : decode cX11_flux 117 = .ok (.ifCond .lt 7, 3) := by decide +kernel
theorem dX11_flux_120 : decode cX11_flux 120 = .ok (.iconst 1, 1) := by decide +kernel
theorem dX11_flux_121 : decode cX11_flux 121 = .ok (.goto 4, 3) := by decide +kernel
theorem dX11_flux_124 : decode cX11_flux 124 = .ok (.iconst 0, 1) := by decide +kernel
theorem dX11_flux_125 : decode cX11_flux 125 = .ok (.iadd, 1) := by decide +kernel
theorem dX11_flux_126 : decode cX11_flux 126 = .ok (.istore 5, 2) := by decide +kernel
theorem dX11_flux_128 : decode cX11_flux 128 = .ok (.iinc 6 1, 3) := by decide +kernel
theorem dX11_flux_131 : decode cX11_flux 131 = .ok (.goto (-62), 3) := by decide +kernel
theorem dX11_flux_134 : decode cX11_flux 134 = .ok (.aload_n 0, 1) := by decide +kernel
theorem dX11_flux_135 : decode cX11_flux 135 = .ok (.getfield 162, 3) := by decide +kernel
theorem dX11_flux_138 : decode cX11_flux 138 = .ok (.iload_n 2, 1) := by decide +kernel
theorem dX11_flux_139 : decode cX11_flux 139 = .ok (.iload_n 1, 1) := by decide +kernel
theorem dX11_flux_140 : decode cX11_flux 140 = .ok (.isub, 1) := by decide +kernel
theorem dX11_flux_141 : decode cX11_flux 141 = .ok (.iconst 1, 1) := by decide +kernel
theorem dX11_flux_142 : decode cX11_flux 142 = .ok (.iadd, 1) := by decide +kernel
theorem dX11_flux_143 : decode cX11_flux 143 = .ok (.imul, 1) := by decide +kernel
theorem dX11_flux_144 : decode cX11_flux 144 = .ok (.istore 6, 2) := by decide +kernel
theorem dX11_flux_146 : decode cX11_flux 146 = .ok (.iconst 0, 1) := by decide +kernel
theorem dX11_flux_147 : decode cX11_flux 147 = .ok (.istore 7, 2) := by decide +kernel
theorem dX11_flux_149 : decode cX11_flux 149 = .ok (.iload 7, 2) := by decide +kernel
theorem dX11_flux_151 : decode cX11_flux 151 = .ok (.aload_n 0, 1) := by decide +kernel
theorem dX11_flux_152 : decode cX11_flux 152 = .ok (.getfield 169, 3) := by decide +kernel
theorem dX11_flux_155 : decode cX11_flux 155 = .ok (.if_icmp .ge 34, 3) := by decide +kernel
theorem dX11_flux_158 : decode cX11_flux 158 = .ok (.iload 6, 2) := by decide +kernel
theorem dX11_flux_160 : decode cX11_flux 160 = .ok (.aload_n 0, 1) := by decide +kernel
theorem dX11_flux_161 : decode cX11_flux 161 = .ok (.getfield 22, 3) := by decide +kernel
theorem dX11_flux_164 : decode cX11_flux 164 = .ok (.iload 7, 2) := by decide +kernel
theorem dX11_flux_166 : decode cX11_flux 166 = .ok (.iaload, 1) := by decide +kernel
theorem dX11_flux_167 : decode cX11_flux 167 = .ok (.iload_n 1, 1) := by decide +kernel
theorem dX11_flux_168 : decode cX11_flux 168 = .ok (.iload_n 2, 1) := by decide +kernel
theorem dX11_flux_169 : decode cX11_flux 169 = .ok (.invokestatic 158, 3) := by decide +kernel
theorem dX11_flux_172 : decode cX11_flux 172 = .ok (.ifCond .eq 7, 3) := by decide +kernel
theorem dX11_flux_175 : decode cX11_flux 175 = .ok (.iconst 1, 1) := by decide +kernel
theorem dX11_flux_176 : decode cX11_flux 176 = .ok (.goto 4, 3) := by decide +kernel
theorem dX11_flux_179 : decode cX11_flux 179 = .ok (.iconst 0, 1) := by decide +kernel
theorem dX11_flux_180 : decode cX11_flux 180 = .ok (.isub, 1) := by decide +kernel
theorem dX11_flux_181 : decode cX11_flux 181 = .ok (.istore 6, 2) := by decide +kernel
theorem dX11_flux_183 : decode cX11_flux 183 = .ok (.iinc 7 1, 3) := by decide +kernel
theorem dX11_flux_186 : decode cX11_flux 186 = .ok (.goto (-37), 3) := by decide +kernel
theorem dX11_flux_189 : decode cX11_flux 189 = .ok (.iload 6, 2) := by decide +kernel
theorem dX11_flux_191 : decode cX11_flux 191 = .ok (.ifCond .ne 7, 3) := by decide +kernel
theorem dX11_flux_194 : decode cX11_flux 194 = .ok (.iconst 0, 1) := by decide +kernel
theorem dX11_flux_195 : decode cX11_flux 195 = .ok (.goto 12, 3) := by decide +kernel
theorem dX11_flux_198 : decode cX11_flux 198 = .ok (.iload 5, 2) := by decide +kernel
theorem dX11_flux_200 : decode cX11_flux 200 = .ok (.sipush 1000, 3) := by decide +kernel
theorem dX11_flux_203 : decode cX11_flux 203 = .ok (.imul, 1) := by decide +kernel
theorem dX11_flux_204 : decode cX11_flux 204 = .ok (.iload 6, 2) := by decide +kernel
theorem dX11_flux_206 : decode cX11_flux 206 = .ok (.idiv, 1) := by decide +kernel
theorem dX11_flux_207 : decode cX11_flux 207 = .ok (.ireturn, 1) := by decide +kernel
theorem dX11_windOf_0 : decode cX11_windOf 0 = .ok (.iconst (-1), 1) := by decide +kernel
theorem dX11_windOf_1 : decode cX11_windOf 1 = .ok (.istore_n 2, 1) := by decide +kernel
theorem dX11_windOf_2 : decode cX11_windOf 2 = .ok (.iconst 0, 1) := by decide +kernel
theorem dX11_windOf_3 : decode cX11_windOf 3 = .ok (.istore_n 3, 1) := by decide +kernel
theorem dX11_windOf_4 : decode cX11_windOf 4 = .ok (.iload_n 3, 1) := by decide +kernel
theorem dX11_windOf_5 : decode cX11_windOf 5 = .ok (.aload_n 0, 1) := by decide +kernel
theorem dX11_windOf_6 : decode cX11_windOf 6 = .ok (.getfield 276, 3) := by decide +kernel
theorem dX11_windOf_9 : decode cX11_windOf 9 = .ok (.if_icmp .ge 25, 3) := by decide +kernel
theorem dX11_windOf_12 : decode cX11_windOf 12 = .ok (.aload_n 0, 1) := by decide +kernel
theorem dX11_windOf_13 : decode cX11_windOf 13 = .ok (.getfield 63, 3) := by decide +kernel
theorem dX11_windOf_16 : decode cX11_windOf 16 = .ok (.iload_n 3, 1) := by decide +kernel
theorem dX11_windOf_17 : decode cX11_windOf 17 = .ok (.iaload, 1) := by decide +kernel
theorem dX11_windOf_18 : decode cX11_windOf 18 = .ok (.iload_n 1, 1) := by decide +kernel
theorem dX11_windOf_19 : decode cX11_windOf 19 = .ok (.if_icmp .ne 7, 3) := by decide +kernel
theorem dX11_windOf_22 : decode cX11_windOf 22 = .ok (.iload_n 3, 1) := by decide +kernel
theorem dX11_windOf_23 : decode cX11_windOf 23 = .ok (.goto 4, 3) := by decide +kernel
theorem dX11_windOf_26 : decode cX11_windOf 26 = .ok (.iload_n 2, 1) := by decide +kernel
theorem dX11_windOf_27 : decode cX11_windOf 27 = .ok (.istore_n 2, 1) := by decide +kernel
theorem dX11_windOf_28 : decode cX11_windOf 28 = .ok (.iinc 3 1, 3) := by decide +kernel
theorem dX11_windOf_31 : decode cX11_windOf 31 = .ok (.goto (-27), 3) := by decide +kernel
theorem dX11_windOf_34 : decode cX11_windOf 34 = .ok (.iload_n 2, 1) := by decide +kernel
theorem dX11_windOf_35 : decode cX11_windOf 35 = .ok (.ireturn, 1) := by decide +kernel
theorem dX11_wind_0 : decode cX11_wind 0 = .ok (.iload_n 1, 1) := by decide +kernel
theorem dX11_wind_1 : decode cX11_wind 1 = .ok (.invokestatic 179, 3) := by decide +kernel
theorem dX11_wind_4 : decode cX11_wind 4 = .ok (.ifCond .eq 29, 3) := by decide +kernel
theorem dX11_wind_7 : decode cX11_wind 7 = .ok (.iload_n 2, 1) := by decide +kernel
theorem dX11_wind_8 : decode cX11_wind 8 = .ok (.bipush (-20), 2) := by decide +kernel
theorem dX11_wind_10 : decode cX11_wind 10 = .ok (.bipush 20, 2) := by decide +kernel
theorem dX11_wind_12 : decode cX11_wind 12 = .ok (.invokestatic 158, 3) := by decide +kernel
theorem dX11_wind_15 : decode cX11_wind 15 = .ok (.ifCond .eq 18, 3) := by decide +kernel
theorem dX11_wind_18 : decode cX11_wind 18 = .ok (.iload_n 3, 1) := by decide +kernel
theorem dX11_wind_19 : decode cX11_wind 19 = .ok (.bipush (-20), 2) := by decide +kernel
theorem dX11_wind_21 : decode cX11_wind 21 = .ok (.bipush 20, 2) := by decide +kernel
theorem dX11_wind_23 : decode cX11_wind 23 = .ok (.invokestatic 158, 3) := by decide +kernel
theorem dX11_wind_26 : decode cX11_wind 26 = .ok (.ifCond .eq 7, 3) := by decide +kernel
theorem dX11_wind_29 : decode cX11_wind 29 = .ok (.iconst 1, 1) := by decide +kernel
theorem dX11_wind_30 : decode cX11_wind 30 = .ok (.goto 4, 3) := by decide +kernel
theorem dX11_wind_33 : decode cX11_wind 33 = .ok (.iconst 0, 1) := by decide +kernel
theorem dX11_wind_34 : decode cX11_wind 34 = .ok (.istore 4, 2) := by decide +kernel
theorem dX11_wind_36 : decode cX11_wind 36 = .ok (.aload_n 0, 1) := by decide +kernel
theorem dX11_wind_37 : decode cX11_wind 37 = .ok (.iload_n 1, 1) := by decide +kernel
theorem dX11_wind_38 : decode cX11_wind 38 = .ok (.invokevirtual 279, 3) := by decide +kernel
theorem dX11_wind_41 : decode cX11_wind 41 = .ok (.istore 5, 2) := by decide +kernel
theorem dX11_wind_43 : decode cX11_wind 43 = .ok (.aload_n 0, 1) := by decide +kernel
theorem dX11_wind_44 : decode cX11_wind 44 = .ok (.iload 4, 2) := by decide +kernel
theorem dX11_wind_46 : decode cX11_wind 46 = .ok (.ifCond .ne 7, 3) := by decide +kernel
theorem dX11_wind_49 : decode cX11_wind 49 = .ok (.iconst 1, 1) := by decide +kernel
theorem dX11_wind_50 : decode cX11_wind 50 = .ok (.goto 23, 3) := by decide +kernel
theorem dX11_wind_53 : decode cX11_wind 53 = .ok (.iload 5, 2) := by decide +kernel
theorem dX11_wind_55 : decode cX11_wind 55 = .ok (.iconst (-1), 1) := by decide +kernel
theorem dX11_wind_56 : decode cX11_wind 56 = .ok (.if_icmp .ne 16, 3) := by decide +kernel
theorem dX11_wind_59 : decode cX11_wind 59 = .ok (.aload_n 0, 1) := by decide +kernel
theorem dX11_wind_60 : decode cX11_wind 60 = .ok (.getfield 276, 3) := by decide +kernel
theorem dX11_wind_63 : decode cX11_wind 63 = .ok (.bipush 50, 2) := by decide +kernel
theorem dX11_wind_65 : decode cX11_wind 65 = .ok (.if_icmp .ne 7, 3) := by decide +kernel
theorem dX11_wind_68 : decode cX11_wind 68 = .ok (.iconst 2, 1) := by decide +kernel
theorem dX11_wind_69 : decode cX11_wind 69 = .ok (.goto 4, 3) := by decide +kernel
theorem dX11_wind_72 : decode cX11_wind 72 = .ok (.iconst 0, 1) := by decide +kernel
theorem dX11_wind_73 : decode cX11_wind 73 = .ok (.putfield 151, 3) := by decide +kernel
theorem dX11_wind_76 : decode cX11_wind 76 = .ok (.aload_n 0, 1) := by decide +kernel
theorem dX11_wind_77 : decode cX11_wind 77 = .ok (.getfield 151, 3) := by decide +kernel
theorem dX11_wind_80 : decode cX11_wind 80 = .ok (.ifCond .le 4, 3) := by decide +kernel
theorem dX11_wind_83 : decode cX11_wind 83 = .ok (.return_, 1) := by decide +kernel
theorem dX11_wind_84 : decode cX11_wind 84 = .ok (.iload 5, 2) := by decide +kernel
theorem dX11_wind_86 : decode cX11_wind 86 = .ok (.iconst (-1), 1) := by decide +kernel
theorem dX11_wind_87 : decode cX11_wind 87 = .ok (.if_icmp .ne 29, 3) := by decide +kernel
theorem dX11_wind_90 : decode cX11_wind 90 = .ok (.aload_n 0, 1) := by decide +kernel
theorem dX11_wind_91 : decode cX11_wind 91 = .ok (.getfield 276, 3) := by decide +kernel
theorem dX11_wind_94 : decode cX11_wind 94 = .ok (.istore 5, 2) := by decide +kernel
theorem dX11_wind_96 : decode cX11_wind 96 = .ok (.aload_n 0, 1) := by decide +kernel
theorem dX11_wind_97 : decode cX11_wind 97 = .ok (.getfield 63, 3) := by decide +kernel
theorem dX11_wind_100 : decode cX11_wind 100 = .ok (.aload_n 0, 1) := by decide +kernel
theorem dX11_wind_101 : decode cX11_wind 101 = .ok (.getfield 276, 3) := by decide +kernel
theorem dX11_wind_104 : decode cX11_wind 104 = .ok (.iload_n 1, 1) := by decide +kernel
theorem dX11_wind_105 : decode cX11_wind 105 = .ok (.iastore, 1) := by decide +kernel
theorem dX11_wind_106 : decode cX11_wind 106 = .ok (.aload_n 0, 1) := by decide +kernel
theorem dX11_wind_107 : decode cX11_wind 107 = .ok (.dup, 1) := by decide +kernel
theorem dX11_wind_108 : decode cX11_wind 108 = .ok (.getfield 276, 3) := by decide +kernel
theorem dX11_wind_111 : decode cX11_wind 111 = .ok (.iconst 1, 1) := by decide +kernel
theorem dX11_wind_112 : decode cX11_wind 112 = .ok (.iadd, 1) := by decide +kernel
theorem dX11_wind_113 : decode cX11_wind 113 = .ok (.putfield 276, 3) := by decide +kernel
theorem dX11_wind_116 : decode cX11_wind 116 = .ok (.aload_n 0, 1) := by decide +kernel
theorem dX11_wind_117 : decode cX11_wind 117 = .ok (.getfield 66, 3) := by decide +kernel
theorem dX11_wind_120 : decode cX11_wind 120 = .ok (.iload 5, 2) := by decide +kernel
theorem dX11_wind_122 : decode cX11_wind 122 = .ok (.iload_n 2, 1) := by decide +kernel
theorem dX11_wind_123 : decode cX11_wind 123 = .ok (.iastore, 1) := by decide +kernel
theorem dX11_wind_124 : decode cX11_wind 124 = .ok (.aload_n 0, 1) := by decide +kernel
theorem dX11_wind_125 : decode cX11_wind 125 = .ok (.getfield 69, 3) := by decide +kernel
theorem dX11_wind_128 : decode cX11_wind 128 = .ok (.iload 5, 2) := by decide +kernel
theorem dX11_wind_130 : decode cX11_wind 130 = .ok (.iload_n 3, 1) := by decide +kernel
theorem dX11_wind_131 : decode cX11_wind 131 = .ok (.iastore, 1) := by decide +kernel
theorem dX11_wind_132 : decode cX11_wind 132 = .ok (.return_, 1) := by decide +kernel
theorem dX11_falls_0 : decode cX11_falls 0 = .ok (.aload_n 0, 1) := by decide +kernel
theorem dX11_falls_1 : decode cX11_falls 1 = .ok (.iload_n 1, 1) := by decide +kernel
theorem dX11_falls_2 : decode cX11_falls 2 = .ok (.invokevirtual 269, 3) := by decide +kernel
theorem dX11_falls_5 : decode cX11_falls 5 = .ok (.aload_n 0, 1) := by decide +kernel
theorem dX11_falls_6 : decode cX11_falls 6 = .ok (.aload_n 0, 1) := by decide +kernel
theorem dX11_falls_7 : decode cX11_falls 7 = .ok (.getfield 32, 3) := by decide +kernel
theorem dX11_falls_10 : decode cX11_falls 10 = .ok (.iload_n 1, 1) := by decide +kernel
theorem dX11_falls_11 : decode cX11_falls 11 = .ok (.iaload, 1) := by decide +kernel
theorem dX11_falls_12 : decode cX11_falls 12 = .ok (.invokevirtual 279, 3) := by decide +kernel
theorem dX11_falls_15 : decode cX11_falls 15 = .ok (.istore_n 2, 1) := by decide +kernel
theorem dX11_falls_16 : decode cX11_falls 16 = .ok (.iconst 1, 1) := by decide +kernel
theorem dX11_falls_17 : decode cX11_falls 17 = .ok (.istore_n 3, 1) := by decide +kernel
theorem dX11_falls_18 : decode cX11_falls 18 = .ok (.iload_n 3, 1) := by decide +kernel
theorem dX11_falls_19 : decode cX11_falls 19 = .ok (.iconst 5, 1) := by decide +kernel
theorem dX11_falls_20 : decode cX11_falls 20 = .ok (.if_icmp .gt 96, 3) := by decide +kernel
theorem dX11_falls_23 : decode cX11_falls 23 = .ok (.bipush 20, 2) := by decide +kernel
theorem dX11_falls_25 : decode cX11_falls 25 = .ok (.bipush 6, 2) := by decide +kernel
theorem dX11_falls_27 : decode cX11_falls 27 = .ok (.iload_n 3, 1) := by decide +kernel
theorem dX11_falls_28 : decode cX11_falls 28 = .ok (.isub, 1) := by decide +kernel
theorem dX11_falls_29 : decode cX11_falls 29 = .ok (.imul, 1) := by decide +kernel
theorem dX11_falls_30 : decode cX11_falls 30 = .ok (.istore 4, 2) := by decide +kernel
theorem dX11_falls_32 : decode cX11_falls 32 = .ok (.aload_n 0, 1) := by decide +kernel
theorem dX11_falls_33 : decode cX11_falls 33 = .ok (.getfield 84, 3) := by decide +kernel
theorem dX11_falls_36 : decode cX11_falls 36 = .ok (.iload_n 3, 1) := by decide +kernel
theorem dX11_falls_37 : decode cX11_falls 37 = .ok (.iconst 1, 1) := by decide +kernel
theorem dX11_falls_38 : decode cX11_falls 38 = .ok (.isub, 1) := by decide +kernel
theorem dX11_falls_39 : decode cX11_falls 39 = .ok (.aload_n 0, 1) := by decide +kernel
theorem dX11_falls_40 : decode cX11_falls 40 = .ok (.getfield 245, 3) := by decide +kernel
theorem dX11_falls_43 : decode cX11_falls 43 = .ok (.iload_n 2, 1) := by decide +kernel
theorem dX11_falls_44 : decode cX11_falls 44 = .ok (.iconst (-1), 1) := by decide +kernel
theorem dX11_falls_45 : decode cX11_falls 45 = .ok (.if_icmp .ne 7, 3) := by decide +kernel
theorem dX11_falls_48 : decode cX11_falls 48 = .ok (.lconst 0, 1) := by decide +kernel
theorem dX11_falls_49 : decode cX11_falls 49 = .ok (.goto 14, 3) := by decide +kernel
theorem dX11_falls_52 : decode cX11_falls 52 = .ok (.aload_n 0, 1) := by decide +kernel
theorem dX11_falls_53 : decode cX11_falls 53 = .ok (.getfield 66, 3) := by decide +kernel
theorem dX11_falls_56 : decode cX11_falls 56 = .ok (.iload_n 2, 1) := by decide +kernel
theorem dX11_falls_57 : decode cX11_falls 57 = .ok (.iaload, 1) := by decide +kernel
theorem dX11_falls_58 : decode cX11_falls 58 = .ok (.i2l, 1) := by decide +kernel
theorem dX11_falls_59 : decode cX11_falls 59 = .ok (.iload 4, 2) := by decide +kernel
theorem dX11_falls_61 : decode cX11_falls 61 = .ok (.i2l, 1) := by decide +kernel
theorem dX11_falls_62 : decode cX11_falls 62 = .ok (.lmul, 1) := by decide +kernel
theorem dX11_falls_63 : decode cX11_falls 63 = .ok (.ladd, 1) := by decide +kernel
theorem dX11_falls_64 : decode cX11_falls 64 = .ok (.ldc2_w 200, 3) := by decide +kernel
theorem dX11_falls_67 : decode cX11_falls 67 = .ok (.invokestatic 202, 3) := by decide +kernel
theorem dX11_falls_70 : decode cX11_falls 70 = .ok (.lastore, 1) := by decide +kernel
theorem dX11_falls_71 : decode cX11_falls 71 = .ok (.aload_n 0, 1) := by decide +kernel
theorem dX11_falls_72 : decode cX11_falls 72 = .ok (.getfield 88, 3) := by decide +kernel
theorem dX11_falls_75 : decode cX11_falls 75 = .ok (.iload_n 3, 1) := by decide +kernel
theorem dX11_falls_76 : decode cX11_falls 76 = .ok (.iconst 1, 1) := by decide +kernel
theorem dX11_falls_77 : decode cX11_falls 77 = .ok (.isub, 1) := by decide +kernel
theorem dX11_falls_78 : decode cX11_falls 78 = .ok (.aload_n 0, 1) := by decide +kernel
theorem dX11_falls_79 : decode cX11_falls 79 = .ok (.getfield 248, 3) := by decide +kernel
theorem dX11_falls_82 : decode cX11_falls 82 = .ok (.iload_n 2, 1) := by decide +kernel
theorem dX11_falls_83 : decode cX11_falls 83 = .ok (.iconst (-1), 1) := by decide +kernel
theorem dX11_falls_84 : decode cX11_falls 84 = .ok (.if_icmp .ne 7, 3) := by decide +kernel
theorem dX11_falls_87 : decode cX11_falls 87 = .ok (.lconst 0, 1) := by decide +kernel
theorem dX11_falls_88 : decode cX11_falls 88 = .ok (.goto 14, 3) := by decide +kernel
theorem dX11_falls_91 : decode cX11_falls 91 = .ok (.aload_n 0, 1) := by decide +kernel
theorem dX11_falls_92 : decode cX11_falls 92 = .ok (.getfield 69, 3) := by decide +kernel
theorem dX11_falls_95 : decode cX11_falls 95 = .ok (.iload_n 2, 1) := by decide +kernel
theorem dX11_falls_96 : decode cX11_falls 96 = .ok (.iaload, 1) := by decide +kernel
theorem dX11_falls_97 : decode cX11_falls 97 = .ok (.i2l, 1) := by decide +kernel
theorem dX11_falls_98 : decode cX11_falls 98 = .ok (.iload 4, 2) := by decide +kernel
theorem dX11_falls_100 : decode cX11_falls 100 = .ok (.i2l, 1) := by decide +kernel
theorem dX11_falls_101 : decode cX11_falls 101 = .ok (.lmul, 1) := by decide +kernel
theorem dX11_falls_102 : decode cX11_falls 102 = .ok (.ladd, 1) := by decide +kernel
theorem dX11_falls_103 : decode cX11_falls 103 = .ok (.ldc2_w 200, 3) := by decide +kernel
theorem dX11_falls_106 : decode cX11_falls 106 = .ok (.invokestatic 202, 3) := by decide +kernel
theorem dX11_falls_109 : decode cX11_falls 109 = .ok (.lastore, 1) := by decide +kernel
theorem dX11_falls_110 : decode cX11_falls 110 = .ok (.iinc 3 1, 3) := by decide +kernel
theorem dX11_falls_113 : decode cX11_falls 113 = .ok (.goto (-95), 3) := by decide +kernel
theorem dX11_falls_116 : decode cX11_falls 116 = .ok (.return_, 1) := by decide +kernel
theorem dX11_weight_0 : decode cX11_weight 0 = .ok (.lconst 0, 1) := by decide +kernel
theorem dX11_weight_1 : decode cX11_weight 1 = .ok (.lstore 4, 2) := by decide +kernel
theorem dX11_weight_3 : decode cX11_weight 3 = .ok (.iconst 0, 1) := by decide +kernel
theorem dX11_weight_4 : decode cX11_weight 4 = .ok (.istore 6, 2) := by decide +kernel
theorem dX11_weight_6 : decode cX11_weight 6 = .ok (.iload 6, 2) := by decide +kernel
theorem dX11_weight_8 : decode cX11_weight 8 = .ok (.iconst 5, 1) := by decide +kernel
theorem dX11_weight_9 : decode cX11_weight 9 = .ok (.if_icmp .ge 126, 3) := by decide +kernel
theorem dX11_weight_12 : decode cX11_weight 12 = .ok (.aload_n 0, 1) := by decide +kernel
theorem dX11_weight_13 : decode cX11_weight 13 = .ok (.getfield 84, 3) := by decide +kernel
theorem dX11_weight_16 : decode cX11_weight 16 = .ok (.iload 6, 2) := by decide +kernel
theorem dX11_weight_18 : decode cX11_weight 18 = .ok (.laload, 1) := by decide +kernel
theorem dX11_weight_19 : decode cX11_weight 19 = .ok (.iload_n 2, 1) := by decide +kernel
theorem dX11_weight_20 : decode cX11_weight 20 = .ok (.i2l, 1) := by decide +kernel
theorem dX11_weight_21 : decode cX11_weight 21 = .ok (.lcmp, 1) := by decide +kernel
theorem dX11_weight_22 : decode cX11_weight 22 = .ok (.ifCond .le 16, 3) := by decide +kernel
theorem dX11_weight_25 : decode cX11_weight 25 = .ok (.aload_n 0, 1) := by decide +kernel
theorem dX11_weight_26 : decode cX11_weight 26 = .ok (.getfield 84, 3) := by decide +kernel
theorem dX11_weight_29 : decode cX11_weight 29 = .ok (.iload 6, 2) := by decide +kernel
theorem dX11_weight_31 : decode cX11_weight 31 = .ok (.laload, 1) := by decide +kernel
theorem dX11_weight_32 : decode cX11_weight 32 = .ok (.iload_n 2, 1) := by decide +kernel
theorem dX11_weight_33 : decode cX11_weight 33 = .ok (.i2l, 1) := by decide +kernel
theorem dX11_weight_34 : decode cX11_weight 34 = .ok (.lsub, 1) := by decide +kernel
theorem dX11_weight_35 : decode cX11_weight 35 = .ok (.goto 13, 3) := by decide +kernel
theorem dX11_weight_38 : decode cX11_weight 38 = .ok (.iload_n 2, 1) := by decide +kernel
theorem dX11_weight_39 : decode cX11_weight 39 = .ok (.i2l, 1) := by decide +kernel
theorem dX11_weight_40 : decode cX11_weight 40 = .ok (.aload_n 0, 1) := by decide +kernel
theorem dX11_weight_41 : decode cX11_weight 41 = .ok (.getfield 84, 3) := by decide +kernel
theorem dX11_weight_44 : decode cX11_weight 44 = .ok (.iload 6, 2) := by decide +kernel
theorem dX11_weight_46 : decode cX11_weight 46 = .ok (.laload, 1) := by decide +kernel
theorem dX11_weight_47 : decode cX11_weight 47 = .ok (.lsub, 1) := by decide +kernel
theorem dX11_weight_48 : decode cX11_weight 48 = .ok (.lstore 7, 2) := by decide +kernel
theorem dX11_weight_50 : decode cX11_weight 50 = .ok (.aload_n 0, 1) := by decide +kernel
theorem dX11_weight_51 : decode cX11_weight 51 = .ok (.getfield 88, 3) := by decide +kernel
theorem dX11_weight_54 : decode cX11_weight 54 = .ok (.iload 6, 2) := by decide +kernel
theorem dX11_weight_56 : decode cX11_weight 56 = .ok (.laload, 1) := by decide +kernel
theorem dX11_weight_57 : decode cX11_weight 57 = .ok (.iload_n 3, 1) := by decide +kernel
theorem dX11_weight_58 : decode cX11_weight 58 = .ok (.i2l, 1) := by decide +kernel
theorem dX11_weight_59 : decode cX11_weight 59 = .ok (.lcmp, 1) := by decide +kernel
theorem dX11_weight_60 : decode cX11_weight 60 = .ok (.ifCond .le 16, 3) := by decide +kernel
theorem dX11_weight_63 : decode cX11_weight 63 = .ok (.aload_n 0, 1) := by decide +kernel
theorem dX11_weight_64 : decode cX11_weight 64 = .ok (.getfield 88, 3) := by decide +kernel
theorem dX11_weight_67 : decode cX11_weight 67 = .ok (.iload 6, 2) := by decide +kernel
theorem dX11_weight_69 : decode cX11_weight 69 = .ok (.laload, 1) := by decide +kernel
theorem dX11_weight_70 : decode cX11_weight 70 = .ok (.iload_n 3, 1) := by decide +kernel
theorem dX11_weight_71 : decode cX11_weight 71 = .ok (.i2l, 1) := by decide +kernel
theorem dX11_weight_72 : decode cX11_weight 72 = .ok (.lsub, 1) := by decide +kernel
theorem dX11_weight_73 : decode cX11_weight 73 = .ok (.goto 13, 3) := by decide +kernel
theorem dX11_weight_76 : decode cX11_weight 76 = .ok (.iload_n 3, 1) := by decide +kernel
theorem dX11_weight_77 : decode cX11_weight 77 = .ok (.i2l, 1) := by decide +kernel
theorem dX11_weight_78 : decode cX11_weight 78 = .ok (.aload_n 0, 1) := by decide +kernel
theorem dX11_weight_79 : decode cX11_weight 79 = .ok (.getfield 88, 3) := by decide +kernel
theorem dX11_weight_82 : decode cX11_weight 82 = .ok (.iload 6, 2) := by decide +kernel
theorem dX11_weight_84 : decode cX11_weight 84 = .ok (.laload, 1) := by decide +kernel
theorem dX11_weight_85 : decode cX11_weight 85 = .ok (.lsub, 1) := by decide +kernel
theorem dX11_weight_86 : decode cX11_weight 86 = .ok (.lstore 9, 2) := by decide +kernel
theorem dX11_weight_88 : decode cX11_weight 88 = .ok (.lload 7, 2) := by decide +kernel
theorem dX11_weight_90 : decode cX11_weight 90 = .ok (.lload 9, 2) := by decide +kernel
theorem dX11_weight_92 : decode cX11_weight 92 = .ok (.lcmp, 1) := by decide +kernel
theorem dX11_weight_93 : decode cX11_weight 93 = .ok (.ifCond .le 8, 3) := by decide +kernel
theorem dX11_weight_96 : decode cX11_weight 96 = .ok (.lload 7, 2) := by decide +kernel
theorem dX11_weight_98 : decode cX11_weight 98 = .ok (.goto 5, 3) := by decide +kernel
theorem dX11_weight_101 : decode cX11_weight 101 = .ok (.lload 9, 2) := by decide +kernel
theorem dX11_weight_103 : decode cX11_weight 103 = .ok (.lstore 11, 2) := by decide +kernel
theorem dX11_weight_105 : decode cX11_weight 105 = .ok (.lload 4, 2) := by decide +kernel
theorem dX11_weight_107 : decode cX11_weight 107 = .ok (.lload 11, 2) := by decide +kernel
theorem dX11_weight_109 : decode cX11_weight 109 = .ok (.ldc2_w 282, 3) := by decide +kernel
theorem dX11_weight_112 : decode cX11_weight 112 = .ok (.lcmp, 1) := by decide +kernel
theorem dX11_weight_113 : decode cX11_weight 113 = .ok (.ifCond .ge 12, 3) := by decide +kernel
theorem dX11_weight_116 : decode cX11_weight 116 = .ok (.ldc2_w 282, 3) := by decide +kernel
theorem dX11_weight_119 : decode cX11_weight 119 = .ok (.lload 11, 2) := by decide +kernel
theorem dX11_weight_121 : decode cX11_weight 121 = .ok (.lsub, 1) := by decide +kernel
theorem dX11_weight_122 : decode cX11_weight 122 = .ok (.goto 4, 3) := by decide +kernel
theorem dX11_weight_125 : decode cX11_weight 125 = .ok (.lconst 0, 1) := by decide +kernel
theorem dX11_weight_126 : decode cX11_weight 126 = .ok (.ladd, 1) := by decide +kernel
theorem dX11_weight_127 : decode cX11_weight 127 = .ok (.lstore 4, 2) := by decide +kernel
theorem dX11_weight_129 : decode cX11_weight 129 = .ok (.iinc 6 1, 3) := by decide +kernel
theorem dX11_weight_132 : decode cX11_weight 132 = .ok (.goto (-126), 3) := by decide +kernel
theorem dX11_weight_135 : decode cX11_weight 135 = .ok (.lload 4, 2) := by decide +kernel
theorem dX11_weight_137 : decode cX11_weight 137 = .ok (.ldc2_w 284, 3) := by decide +kernel
theorem dX11_weight_140 : decode cX11_weight 140 = .ok (.lmul, 1) := by decide +kernel
theorem dX11_weight_141 : decode cX11_weight 141 = .ok (.lstore 4, 2) := by decide +kernel
theorem dX11_weight_143 : decode cX11_weight 143 = .ok (.iconst 0, 1) := by decide +kernel
theorem dX11_weight_144 : decode cX11_weight 144 = .ok (.istore 6, 2) := by decide +kernel
theorem dX11_weight_146 : decode cX11_weight 146 = .ok (.iload 6, 2) := by decide +kernel
theorem dX11_weight_148 : decode cX11_weight 148 = .ok (.aload_n 0, 1) := by decide +kernel
theorem dX11_weight_149 : decode cX11_weight 149 = .ok (.getfield 286, 3) := by decide +kernel
theorem dX11_weight_152 : decode cX11_weight 152 = .ok (.if_icmp .ge 74, 3) := by decide +kernel
theorem dX11_weight_155 : decode cX11_weight 155 = .ok (.lload 4, 2) := by decide +kernel
theorem dX11_weight_157 : decode cX11_weight 157 = .ok (.lconst 0, 1) := by decide +kernel
theorem dX11_weight_158 : decode cX11_weight 158 = .ok (.lcmp, 1) := by decide +kernel
theorem dX11_weight_159 : decode cX11_weight 159 = .ok (.ifCond .le 67, 3) := by decide +kernel
theorem dX11_weight_162 : decode cX11_weight 162 = .ok (.aload_n 0, 1) := by decide +kernel
theorem dX11_weight_163 : decode cX11_weight 163 = .ok (.getfield 72, 3) := by decide +kernel
theorem dX11_weight_166 : decode cX11_weight 166 = .ok (.iload 6, 2) := by decide +kernel
theorem dX11_weight_168 : decode cX11_weight 168 = .ok (.iaload, 1) := by decide +kernel
theorem dX11_weight_169 : decode cX11_weight 169 = .ok (.iload_n 1, 1) := by decide +kernel
theorem dX11_weight_170 : decode cX11_weight 170 = .ok (.if_icmp .ne 46, 3) := by decide +kernel
theorem dX11_weight_173 : decode cX11_weight 173 = .ok (.aload_n 0, 1) := by decide +kernel
theorem dX11_weight_174 : decode cX11_weight 174 = .ok (.getfield 75, 3) := by decide +kernel
theorem dX11_weight_177 : decode cX11_weight 177 = .ok (.iload 6, 2) := by decide +kernel
theorem dX11_weight_179 : decode cX11_weight 179 = .ok (.iaload, 1) := by decide +kernel
theorem dX11_weight_180 : decode cX11_weight 180 = .ok (.iload_n 2, 1) := by decide +kernel
theorem dX11_weight_181 : decode cX11_weight 181 = .ok (.if_icmp .ne 35, 3) := by decide +kernel
theorem dX11_weight_184 : decode cX11_weight 184 = .ok (.aload_n 0, 1) := by decide +kernel
theorem dX11_weight_185 : decode cX11_weight 185 = .ok (.getfield 78, 3) := by decide +kernel
theorem dX11_weight_188 : decode cX11_weight 188 = .ok (.iload 6, 2) := by decide +kernel
theorem dX11_weight_190 : decode cX11_weight 190 = .ok (.iaload, 1) := by decide +kernel
theorem dX11_weight_191 : decode cX11_weight 191 = .ok (.iload_n 3, 1) := by decide +kernel
theorem dX11_weight_192 : decode cX11_weight 192 = .ok (.if_icmp .ne 24, 3) := by decide +kernel
theorem dX11_weight_195 : decode cX11_weight 195 = .ok (.lload 4, 2) := by decide +kernel
theorem dX11_weight_197 : decode cX11_weight 197 = .ok (.bipush 100, 2) := by decide +kernel
theorem dX11_weight_199 : decode cX11_weight 199 = .ok (.aload_n 0, 1) := by decide +kernel
theorem dX11_weight_200 : decode cX11_weight 200 = .ok (.getfield 81, 3) := by decide +kernel
theorem dX11_weight_203 : decode cX11_weight 203 = .ok (.iload 6, 2) := by decide +kernel
theorem dX11_weight_205 : decode cX11_weight 205 = .ok (.iaload, 1) := by decide +kernel
theorem dX11_weight_206 : decode cX11_weight 206 = .ok (.isub, 1) := by decide +kernel
theorem dX11_weight_207 : decode cX11_weight 207 = .ok (.i2l, 1) := by decide +kernel
theorem dX11_weight_208 : decode cX11_weight 208 = .ok (.lmul, 1) := by decide +kernel
theorem dX11_weight_209 : decode cX11_weight 209 = .ok (.ldc2_w 200, 3) := by decide +kernel
theorem dX11_weight_212 : decode cX11_weight 212 = .ok (.ldiv, 1) := by decide +kernel
theorem dX11_weight_213 : decode cX11_weight 213 = .ok (.goto 5, 3) := by decide +kernel
theorem dX11_weight_216 : decode cX11_weight 216 = .ok (.lload 4, 2) := by decide +kernel
theorem dX11_weight_218 : decode cX11_weight 218 = .ok (.lstore 4, 2) := by decide +kernel
theorem dX11_weight_220 : decode cX11_weight 220 = .ok (.iinc 6 1, 3) := by decide +kernel
theorem dX11_weight_223 : decode cX11_weight 223 = .ok (.goto (-77), 3) := by decide +kernel
theorem dX11_weight_226 : decode cX11_weight 226 = .ok (.lload 4, 2) := by decide +kernel
theorem dX11_weight_228 : decode cX11_weight 228 = .ok (.lreturn, 1) := by decide +kernel
theorem dX11_chanceOf_0 : decode cX11_chanceOf 0 = .ok (.aload_n 0, 1) := by decide +kernel
theorem dX11_chanceOf_1 : decode cX11_chanceOf 1 = .ok (.iload_n 1, 1) := by decide +kernel
theorem dX11_chanceOf_2 : decode cX11_chanceOf 2 = .ok (.invokevirtual 289, 3) := by decide +kernel
theorem dX11_chanceOf_5 : decode cX11_chanceOf 5 = .ok (.lconst 0, 1) := by decide +kernel
theorem dX11_chanceOf_6 : decode cX11_chanceOf 6 = .ok (.lstore 4, 2) := by decide +kernel
theorem dX11_chanceOf_8 : decode cX11_chanceOf 8 = .ok (.iconst 0, 1) := by decide +kernel
theorem dX11_chanceOf_9 : decode cX11_chanceOf 9 = .ok (.istore 6, 2) := by decide +kernel
theorem dX11_chanceOf_11 : decode cX11_chanceOf 11 = .ok (.iload 6, 2) := by decide +kernel
theorem dX11_chanceOf_13 : decode cX11_chanceOf 13 = .ok (.bipush 100, 2) := by decide +kernel
theorem dX11_chanceOf_15 : decode cX11_chanceOf 15 = .ok (.if_icmp .ge 39, 3) := by decide +kernel
theorem dX11_chanceOf_18 : decode cX11_chanceOf 18 = .ok (.iconst 0, 1) := by decide +kernel
theorem dX11_chanceOf_19 : decode cX11_chanceOf 19 = .ok (.istore 7, 2) := by decide +kernel
theorem dX11_chanceOf_21 : decode cX11_chanceOf 21 = .ok (.iload 7, 2) := by decide +kernel
theorem dX11_chanceOf_23 : decode cX11_chanceOf 23 = .ok (.bipush 100, 2) := by decide +kernel
theorem dX11_chanceOf_25 : decode cX11_chanceOf 25 = .ok (.if_icmp .ge 23, 3) := by decide +kernel
theorem dX11_chanceOf_28 : decode cX11_chanceOf 28 = .ok (.lload 4, 2) := by decide +kernel
theorem dX11_chanceOf_30 : decode cX11_chanceOf 30 = .ok (.aload_n 0, 1) := by decide +kernel
theorem dX11_chanceOf_31 : decode cX11_chanceOf 31 = .ok (.iload_n 1, 1) := by decide +kernel
theorem dX11_chanceOf_32 : decode cX11_chanceOf 32 = .ok (.iload 6, 2) := by decide +kernel
theorem dX11_chanceOf_34 : decode cX11_chanceOf 34 = .ok (.iload 7, 2) := by decide +kernel
theorem dX11_chanceOf_36 : decode cX11_chanceOf 36 = .ok (.invokevirtual 292, 3) := by decide +kernel
theorem dX11_chanceOf_39 : decode cX11_chanceOf 39 = .ok (.ladd, 1) := by decide +kernel
theorem dX11_chanceOf_40 : decode cX11_chanceOf 40 = .ok (.lstore 4, 2) := by decide +kernel
theorem dX11_chanceOf_42 : decode cX11_chanceOf 42 = .ok (.iinc 7 1, 3) := by decide +kernel
theorem dX11_chanceOf_45 : decode cX11_chanceOf 45 = .ok (.goto (-24), 3) := by decide +kernel
theorem dX11_chanceOf_48 : decode cX11_chanceOf 48 = .ok (.iinc 6 1, 3) := by decide +kernel
theorem dX11_chanceOf_51 : decode cX11_chanceOf 51 = .ok (.goto (-40), 3) := by decide +kernel
theorem dX11_chanceOf_54 : decode cX11_chanceOf 54 = .ok (.lload 4, 2) := by decide +kernel
theorem dX11_chanceOf_56 : decode cX11_chanceOf 56 = .ok (.lconst 0, 1) := by decide +kernel
theorem dX11_chanceOf_57 : decode cX11_chanceOf 57 = .ok (.lcmp, 1) := by decide +kernel
theorem dX11_chanceOf_58 : decode cX11_chanceOf 58 = .ok (.ifCond .ne 7, 3) := by decide +kernel
theorem dX11_chanceOf_61 : decode cX11_chanceOf 61 = .ok (.lconst 0, 1) := by decide +kernel
theorem dX11_chanceOf_62 : decode cX11_chanceOf 62 = .ok (.goto 17, 3) := by decide +kernel
theorem dX11_chanceOf_65 : decode cX11_chanceOf 65 = .ok (.aload_n 0, 1) := by decide +kernel
theorem dX11_chanceOf_66 : decode cX11_chanceOf 66 = .ok (.iload_n 1, 1) := by decide +kernel
theorem dX11_chanceOf_67 : decode cX11_chanceOf 67 = .ok (.iload_n 2, 1) := by decide +kernel
theorem dX11_chanceOf_68 : decode cX11_chanceOf 68 = .ok (.iload_n 3, 1) := by decide +kernel
theorem dX11_chanceOf_69 : decode cX11_chanceOf 69 = .ok (.invokevirtual 292, 3) := by decide +kernel
theorem dX11_chanceOf_72 : decode cX11_chanceOf 72 = .ok (.ldc2_w 284, 3) := by decide +kernel
theorem dX11_chanceOf_75 : decode cX11_chanceOf 75 = .ok (.lmul, 1) := by decide +kernel
theorem dX11_chanceOf_76 : decode cX11_chanceOf 76 = .ok (.lload 4, 2) := by decide +kernel
theorem dX11_chanceOf_78 : decode cX11_chanceOf 78 = .ok (.ldiv, 1) := by decide +kernel
theorem dX11_chanceOf_79 : decode cX11_chanceOf 79 = .ok (.lreturn, 1) := by decide +kernel
theorem dX11_isCell_0 : decode cX11_isCell 0 = .ok (.iload_n 0, 1) := by decide +kernel
theorem dX11_isCell_1 : decode cX11_isCell 1 = .ok (.iconst 0, 1) := by decide +kernel
theorem dX11_isCell_2 : decode cX11_isCell 2 = .ok (.bipush 99, 2) := by decide +kernel
theorem dX11_isCell_4 : decode cX11_isCell 4 = .ok (.invokestatic 158, 3) := by decide +kernel
theorem dX11_isCell_7 : decode cX11_isCell 7 = .ok (.ifCond .eq 17, 3) := by decide +kernel
theorem dX11_isCell_10 : decode cX11_isCell 10 = .ok (.iload_n 1, 1) := by decide +kernel
theorem dX11_isCell_11 : decode cX11_isCell 11 = .ok (.iconst 0, 1) := by decide +kernel
theorem dX11_isCell_12 : decode cX11_isCell 12 = .ok (.bipush 99, 2) := by decide +kernel
theorem dX11_isCell_14 : decode cX11_isCell 14 = .ok (.invokestatic 158, 3) := by decide +kernel
theorem dX11_isCell_17 : decode cX11_isCell 17 = .ok (.ifCond .eq 7, 3) := by decide +kernel
theorem dX11_isCell_20 : decode cX11_isCell 20 = .ok (.iconst 1, 1) := by decide +kernel
theorem dX11_isCell_21 : decode cX11_isCell 21 = .ok (.goto 4, 3) := by decide +kernel
theorem dX11_isCell_24 : decode cX11_isCell 24 = .ok (.iconst 0, 1) := by decide +kernel
theorem dX11_isCell_25 : decode cX11_isCell 25 = .ok (.ireturn, 1) := by decide +kernel
theorem dX11_walk_0 : decode cX11_walk 0 = .ok (.aload_n 0, 1) := by decide +kernel
theorem dX11_walk_1 : decode cX11_walk 1 = .ok (.invokevirtual 229, 3) := by decide +kernel
theorem dX11_walk_4 : decode cX11_walk 4 = .ok (.iload_n 2, 1) := by decide +kernel
theorem dX11_walk_5 : decode cX11_walk 5 = .ok (.iload_n 3, 1) := by decide +kernel
theorem dX11_walk_6 : decode cX11_walk 6 = .ok (.invokestatic 296, 3) := by decide +kernel
theorem dX11_walk_9 : decode cX11_walk 9 = .ok (.ifCond .eq 18, 3) := by decide +kernel
theorem dX11_walk_12 : decode cX11_walk 12 = .ok (.iload 4, 2) := by decide +kernel
theorem dX11_walk_14 : decode cX11_walk 14 = .ok (.iconst 1, 1) := by decide +kernel
theorem dX11_walk_15 : decode cX11_walk 15 = .ok (.bipush 100, 2) := by decide +kernel
theorem dX11_walk_17 : decode cX11_walk 17 = .ok (.invokestatic 158, 3) := by decide +kernel
theorem dX11_walk_20 : decode cX11_walk 20 = .ok (.ifCond .eq 7, 3) := by decide +kernel
theorem dX11_walk_23 : decode cX11_walk 23 = .ok (.iconst 1, 1) := by decide +kernel
theorem dX11_walk_24 : decode cX11_walk 24 = .ok (.goto 4, 3) := by decide +kernel
theorem dX11_walk_27 : decode cX11_walk 27 = .ok (.iconst 0, 1) := by decide +kernel
theorem dX11_walk_28 : decode cX11_walk 28 = .ok (.istore 5, 2) := by decide +kernel
theorem dX11_walk_30 : decode cX11_walk 30 = .ok (.aload_n 0, 1) := by decide +kernel
theorem dX11_walk_31 : decode cX11_walk 31 = .ok (.aload_n 0, 1) := by decide +kernel
theorem dX11_walk_32 : decode cX11_walk 32 = .ok (.iload_n 1, 1) := by decide +kernel
theorem dX11_walk_33 : decode cX11_walk 33 = .ok (.invokevirtual 236, 3) := by decide +kernel
theorem dX11_walk_36 : decode cX11_walk 36 = .ok (.ifCond .ne 7, 3) := by decide +kernel
theorem dX11_walk_39 : decode cX11_walk 39 = .ok (.iconst 1, 1) := by decide +kernel
theorem dX11_walk_40 : decode cX11_walk 40 = .ok (.goto 26, 3) := by decide +kernel
theorem dX11_walk_43 : decode cX11_walk 43 = .ok (.iload 5, 2) := by decide +kernel
theorem dX11_walk_45 : decode cX11_walk 45 = .ok (.ifCond .ne 7, 3) := by decide +kernel
theorem dX11_walk_48 : decode cX11_walk 48 = .ok (.iconst 2, 1) := by decide +kernel
theorem dX11_walk_49 : decode cX11_walk 49 = .ok (.goto 17, 3) := by decide +kernel
theorem dX11_walk_52 : decode cX11_walk 52 = .ok (.aload_n 0, 1) := by decide +kernel
theorem dX11_walk_53 : decode cX11_walk 53 = .ok (.getfield 286, 3) := by decide +kernel
theorem dX11_walk_56 : decode cX11_walk 56 = .ok (.bipush 60, 2) := by decide +kernel
theorem dX11_walk_58 : decode cX11_walk 58 = .ok (.if_icmp .ne 7, 3) := by decide +kernel
theorem dX11_walk_61 : decode cX11_walk 61 = .ok (.iconst 3, 1) := by decide +kernel
theorem dX11_walk_62 : decode cX11_walk 62 = .ok (.goto 4, 3) := by decide +kernel
theorem dX11_walk_65 : decode cX11_walk 65 = .ok (.iconst 0, 1) := by decide +kernel
theorem dX11_walk_66 : decode cX11_walk 66 = .ok (.putfield 151, 3) := by decide +kernel
theorem dX11_walk_69 : decode cX11_walk 69 = .ok (.aload_n 0, 1) := by decide +kernel
theorem dX11_walk_70 : decode cX11_walk 70 = .ok (.getfield 151, 3) := by decide +kernel
theorem dX11_walk_73 : decode cX11_walk 73 = .ok (.ifCond .le 5, 3) := by decide +kernel
theorem dX11_walk_76 : decode cX11_walk 76 = .ok (.lconst 0, 1) := by decide +kernel
theorem dX11_walk_77 : decode cX11_walk 77 = .ok (.lreturn, 1) := by decide +kernel
theorem dX11_walk_78 : decode cX11_walk 78 = .ok (.aload_n 0, 1) := by decide +kernel
theorem dX11_walk_79 : decode cX11_walk 79 = .ok (.getfield 72, 3) := by decide +kernel
theorem dX11_walk_82 : decode cX11_walk 82 = .ok (.aload_n 0, 1) := by decide +kernel
theorem dX11_walk_83 : decode cX11_walk 83 = .ok (.getfield 286, 3) := by decide +kernel
theorem dX11_walk_86 : decode cX11_walk 86 = .ok (.iload_n 1, 1) := by decide +kernel
theorem dX11_walk_87 : decode cX11_walk 87 = .ok (.iastore, 1) := by decide +kernel
theorem dX11_walk_88 : decode cX11_walk 88 = .ok (.aload_n 0, 1) := by decide +kernel
theorem dX11_walk_89 : decode cX11_walk 89 = .ok (.getfield 75, 3) := by decide +kernel
theorem dX11_walk_92 : decode cX11_walk 92 = .ok (.aload_n 0, 1) := by decide +kernel
theorem dX11_walk_93 : decode cX11_walk 93 = .ok (.getfield 286, 3) := by decide +kernel
theorem dX11_walk_96 : decode cX11_walk 96 = .ok (.iload_n 2, 1) := by decide +kernel
theorem dX11_walk_97 : decode cX11_walk 97 = .ok (.iastore, 1) := by decide +kernel
theorem dX11_walk_98 : decode cX11_walk 98 = .ok (.aload_n 0, 1) := by decide +kernel
theorem dX11_walk_99 : decode cX11_walk 99 = .ok (.getfield 78, 3) := by decide +kernel
theorem dX11_walk_102 : decode cX11_walk 102 = .ok (.aload_n 0, 1) := by decide +kernel
theorem dX11_walk_103 : decode cX11_walk 103 = .ok (.getfield 286, 3) := by decide +kernel
theorem dX11_walk_106 : decode cX11_walk 106 = .ok (.iload_n 3, 1) := by decide +kernel
theorem dX11_walk_107 : decode cX11_walk 107 = .ok (.iastore, 1) := by decide +kernel
theorem dX11_walk_108 : decode cX11_walk 108 = .ok (.aload_n 0, 1) := by decide +kernel
theorem dX11_walk_109 : decode cX11_walk 109 = .ok (.getfield 81, 3) := by decide +kernel
theorem dX11_walk_112 : decode cX11_walk 112 = .ok (.aload_n 0, 1) := by decide +kernel
theorem dX11_walk_113 : decode cX11_walk 113 = .ok (.getfield 286, 3) := by decide +kernel
theorem dX11_walk_116 : decode cX11_walk 116 = .ok (.iload 4, 2) := by decide +kernel
theorem dX11_walk_118 : decode cX11_walk 118 = .ok (.iastore, 1) := by decide +kernel
theorem dX11_walk_119 : decode cX11_walk 119 = .ok (.aload_n 0, 1) := by decide +kernel
theorem dX11_walk_120 : decode cX11_walk 120 = .ok (.dup, 1) := by decide +kernel
theorem dX11_walk_121 : decode cX11_walk 121 = .ok (.getfield 286, 3) := by decide +kernel
theorem dX11_walk_124 : decode cX11_walk 124 = .ok (.iconst 1, 1) := by decide +kernel
theorem dX11_walk_125 : decode cX11_walk 125 = .ok (.iadd, 1) := by decide +kernel
theorem dX11_walk_126 : decode cX11_walk 126 = .ok (.putfield 286, 3) := by decide +kernel
theorem dX11_walk_129 : decode cX11_walk 129 = .ok (.aload_n 0, 1) := by decide +kernel
theorem dX11_walk_130 : decode cX11_walk 130 = .ok (.iload_n 1, 1) := by decide +kernel
theorem dX11_walk_131 : decode cX11_walk 131 = .ok (.iload_n 2, 1) := by decide +kernel
theorem dX11_walk_132 : decode cX11_walk 132 = .ok (.iload_n 3, 1) := by decide +kernel
theorem dX11_walk_133 : decode cX11_walk 133 = .ok (.invokevirtual 299, 3) := by decide +kernel
theorem dX11_walk_136 : decode cX11_walk 136 = .ok (.lreturn, 1) := by decide +kernel
theorem dX11_chance_0 : decode cX11_chance 0 = .ok (.aload_n 0, 1) := by decide +kernel
theorem dX11_chance_1 : decode cX11_chance 1 = .ok (.invokevirtual 229, 3) := by decide +kernel
theorem dX11_chance_4 : decode cX11_chance 4 = .ok (.aload_n 0, 1) := by decide +kernel
theorem dX11_chance_5 : decode cX11_chance 5 = .ok (.aload_n 0, 1) := by decide +kernel
theorem dX11_chance_6 : decode cX11_chance 6 = .ok (.iload_n 1, 1) := by decide +kernel
theorem dX11_chance_7 : decode cX11_chance 7 = .ok (.invokevirtual 236, 3) := by decide +kernel
theorem dX11_chance_10 : decode cX11_chance 10 = .ok (.ifCond .ne 7, 3) := by decide +kernel
theorem dX11_chance_13 : decode cX11_chance 13 = .ok (.iconst 1, 1) := by decide +kernel
theorem dX11_chance_14 : decode cX11_chance 14 = .ok (.goto 16, 3) := by decide +kernel
theorem dX11_chance_17 : decode cX11_chance 17 = .ok (.iload_n 2, 1) := by decide +kernel
theorem dX11_chance_18 : decode cX11_chance 18 = .ok (.iload_n 3, 1) := by decide +kernel
theorem dX11_chance_19 : decode cX11_chance 19 = .ok (.invokestatic 296, 3) := by decide +kernel
theorem dX11_chance_22 : decode cX11_chance 22 = .ok (.ifCond .ne 7, 3) := by decide +kernel
theorem dX11_chance_25 : decode cX11_chance 25 = .ok (.iconst 2, 1) := by decide +kernel
theorem dX11_chance_26 : decode cX11_chance 26 = .ok (.goto 4, 3) := by decide +kernel
theorem dX11_chance_29 : decode cX11_chance 29 = .ok (.iconst 0, 1) := by decide +kernel
theorem dX11_chance_30 : decode cX11_chance 30 = .ok (.putfield 151, 3) := by decide +kernel
theorem dX11_chance_33 : decode cX11_chance 33 = .ok (.aload_n 0, 1) := by decide +kernel
theorem dX11_chance_34 : decode cX11_chance 34 = .ok (.getfield 151, 3) := by decide +kernel
theorem dX11_chance_37 : decode cX11_chance 37 = .ok (.ifCond .le 7, 3) := by decide +kernel
theorem dX11_chance_40 : decode cX11_chance 40 = .ok (.lconst 0, 1) := by decide +kernel
theorem dX11_chance_41 : decode cX11_chance 41 = .ok (.goto 10, 3) := by decide +kernel
theorem dX11_chance_44 : decode cX11_chance 44 = .ok (.aload_n 0, 1) := by decide +kernel
theorem dX11_chance_45 : decode cX11_chance 45 = .ok (.iload_n 1, 1) := by decide +kernel
theorem dX11_chance_46 : decode cX11_chance 46 = .ok (.iload_n 2, 1) := by decide +kernel
theorem dX11_chance_47 : decode cX11_chance 47 = .ok (.iload_n 3, 1) := by decide +kernel
theorem dX11_chance_48 : decode cX11_chance 48 = .ok (.invokevirtual 299, 3) := by decide +kernel
theorem dX11_chance_51 : decode cX11_chance 51 = .ok (.lreturn, 1) := by decide +kernel
theorem dX11_landOf_0 : decode cX11_landOf 0 = .ok (.iload_n 0, 1) := by decide +kernel
theorem dX11_landOf_1 : decode cX11_landOf 1 = .ok (.bipush 50, 2) := by decide +kernel
theorem dX11_landOf_3 : decode cX11_landOf 3 = .ok (.if_icmp .ge 17, 3) := by decide +kernel
theorem dX11_landOf_6 : decode cX11_landOf 6 = .ok (.iload_n 1, 1) := by decide +kernel
theorem dX11_landOf_7 : decode cX11_landOf 7 = .ok (.bipush 50, 2) := by decide +kernel
theorem dX11_landOf_9 : decode cX11_landOf 9 = .ok (.if_icmp .ge 7, 3) := by decide +kernel
theorem dX11_landOf_12 : decode cX11_landOf 12 = .ok (.iconst 0, 1) := by decide +kernel
theorem dX11_landOf_13 : decode cX11_landOf 13 = .ok (.goto 18, 3) := by decide +kernel
theorem dX11_landOf_16 : decode cX11_landOf 16 = .ok (.iconst 2, 1) := by decide +kernel
theorem dX11_landOf_17 : decode cX11_landOf 17 = .ok (.goto 14, 3) := by decide +kernel
theorem dX11_landOf_20 : decode cX11_landOf 20 = .ok (.iload_n 1, 1) := by decide +kernel
theorem dX11_landOf_21 : decode cX11_landOf 21 = .ok (.bipush 50, 2) := by decide +kernel
theorem dX11_landOf_23 : decode cX11_landOf 23 = .ok (.if_icmp .ge 7, 3) := by decide +kernel
theorem dX11_landOf_26 : decode cX11_landOf 26 = .ok (.iconst 1, 1) := by decide +kernel
theorem dX11_landOf_27 : decode cX11_landOf 27 = .ok (.goto 4, 3) := by decide +kernel
theorem dX11_landOf_30 : decode cX11_landOf 30 = .ok (.iconst 3, 1) := by decide +kernel
theorem dX11_landOf_31 : decode cX11_landOf 31 = .ok (.ireturn, 1) := by decide +kernel
theorem dX11_isStone_0 : decode cX11_isStone 0 = .ok (.iload_n 1, 1) := by decide +kernel
theorem dX11_isStone_1 : decode cX11_isStone 1 = .ok (.iconst 0, 1) := by decide +kernel
theorem dX11_isStone_2 : decode cX11_isStone 2 = .ok (.aload_n 0, 1) := by decide +kernel
theorem dX11_isStone_3 : decode cX11_isStone 3 = .ok (.getfield 302, 3) := by decide +kernel
theorem dX11_isStone_6 : decode cX11_isStone 6 = .ok (.iconst 1, 1) := by decide +kernel
theorem dX11_isStone_7 : decode cX11_isStone 7 = .ok (.isub, 1) := by decide +kernel
theorem dX11_isStone_8 : decode cX11_isStone 8 = .ok (.invokestatic 158, 3) := by decide +kernel
theorem dX11_isStone_11 : decode cX11_isStone 11 = .ok (.ireturn, 1) := by decide +kernel
theorem dX11_adds_0 : decode cX11_adds 0 = .ok (.aload_n 0, 1) := by decide +kernel
theorem dX11_adds_1 : decode cX11_adds 1 = .ok (.getfield 91, 3) := by decide +kernel
theorem dX11_adds_4 : decode cX11_adds 4 = .ok (.aload_n 0, 1) := by decide +kernel
theorem dX11_adds_5 : decode cX11_adds 5 = .ok (.getfield 302, 3) := by decide +kernel
theorem dX11_adds_8 : decode cX11_adds 8 = .ok (.iload_n 1, 1) := by decide +kernel
theorem dX11_adds_9 : decode cX11_adds 9 = .ok (.iastore, 1) := by decide +kernel
theorem dX11_adds_10 : decode cX11_adds 10 = .ok (.aload_n 0, 1) := by decide +kernel
theorem dX11_adds_11 : decode cX11_adds 11 = .ok (.getfield 94, 3) := by decide +kernel
theorem dX11_adds_14 : decode cX11_adds 14 = .ok (.aload_n 0, 1) := by decide +kernel
theorem dX11_adds_15 : decode cX11_adds 15 = .ok (.getfield 302, 3) := by decide +kernel
theorem dX11_adds_18 : decode cX11_adds 18 = .ok (.iload_n 2, 1) := by decide +kernel
theorem dX11_adds_19 : decode cX11_adds 19 = .ok (.iastore, 1) := by decide +kernel
theorem dX11_adds_20 : decode cX11_adds 20 = .ok (.aload_n 0, 1) := by decide +kernel
theorem dX11_adds_21 : decode cX11_adds 21 = .ok (.getfield 97, 3) := by decide +kernel
theorem dX11_adds_24 : decode cX11_adds 24 = .ok (.aload_n 0, 1) := by decide +kernel
theorem dX11_adds_25 : decode cX11_adds 25 = .ok (.getfield 302, 3) := by decide +kernel
theorem dX11_adds_28 : decode cX11_adds 28 = .ok (.iload_n 3, 1) := by decide +kernel
theorem dX11_adds_29 : decode cX11_adds 29 = .ok (.iastore, 1) := by decide +kernel
theorem dX11_adds_30 : decode cX11_adds 30 = .ok (.aload_n 0, 1) := by decide +kernel
theorem dX11_adds_31 : decode cX11_adds 31 = .ok (.getfield 100, 3) := by decide +kernel
theorem dX11_adds_34 : decode cX11_adds 34 = .ok (.aload_n 0, 1) := by decide +kernel
theorem dX11_adds_35 : decode cX11_adds 35 = .ok (.getfield 302, 3) := by decide +kernel
theorem dX11_adds_38 : decode cX11_adds 38 = .ok (.iload 4, 2) := by decide +kernel
theorem dX11_adds_40 : decode cX11_adds 40 = .ok (.iastore, 1) := by decide +kernel
theorem dX11_adds_41 : decode cX11_adds 41 = .ok (.aload_n 0, 1) := by decide +kernel
theorem dX11_adds_42 : decode cX11_adds 42 = .ok (.getfield 103, 3) := by decide +kernel
theorem dX11_adds_45 : decode cX11_adds 45 = .ok (.aload_n 0, 1) := by decide +kernel
theorem dX11_adds_46 : decode cX11_adds 46 = .ok (.getfield 302, 3) := by decide +kernel
theorem dX11_adds_49 : decode cX11_adds 49 = .ok (.iload 5, 2) := by decide +kernel
theorem dX11_adds_51 : decode cX11_adds 51 = .ok (.iastore, 1) := by decide +kernel
theorem dX11_adds_52 : decode cX11_adds 52 = .ok (.aload_n 0, 1) := by decide +kernel
theorem dX11_adds_53 : decode cX11_adds 53 = .ok (.getfield 109, 3) := by decide +kernel
theorem dX11_adds_56 : decode cX11_adds 56 = .ok (.aload_n 0, 1) := by decide +kernel
theorem dX11_adds_57 : decode cX11_adds 57 = .ok (.getfield 302, 3) := by decide +kernel
theorem dX11_adds_60 : decode cX11_adds 60 = .ok (.iconst (-1), 1) := by decide +kernel
theorem dX11_adds_61 : decode cX11_adds 61 = .ok (.iastore, 1) := by decide +kernel
theorem dX11_adds_62 : decode cX11_adds 62 = .ok (.aload_n 0, 1) := by decide +kernel
theorem dX11_adds_63 : decode cX11_adds 63 = .ok (.getfield 112, 3) := by decide +kernel
theorem dX11_adds_66 : decode cX11_adds 66 = .ok (.aload_n 0, 1) := by decide +kernel
theorem dX11_adds_67 : decode cX11_adds 67 = .ok (.getfield 302, 3) := by decide +kernel
theorem dX11_adds_70 : decode cX11_adds 70 = .ok (.iload 6, 2) := by decide +kernel
theorem dX11_adds_72 : decode cX11_adds 72 = .ok (.iastore, 1) := by decide +kernel
theorem dX11_adds_73 : decode cX11_adds 73 = .ok (.aload_n 0, 1) := by decide +kernel
theorem dX11_adds_74 : decode cX11_adds 74 = .ok (.getfield 130, 3) := by decide +kernel
theorem dX11_adds_77 : decode cX11_adds 77 = .ok (.aload_n 0, 1) := by decide +kernel
theorem dX11_adds_78 : decode cX11_adds 78 = .ok (.getfield 302, 3) := by decide +kernel
theorem dX11_adds_81 : decode cX11_adds 81 = .ok (.iconst (-1), 1) := by decide +kernel
theorem dX11_adds_82 : decode cX11_adds 82 = .ok (.iastore, 1) := by decide +kernel
theorem dX11_adds_83 : decode cX11_adds 83 = .ok (.aload_n 0, 1) := by decide +kernel
theorem dX11_adds_84 : decode cX11_adds 84 = .ok (.dup, 1) := by decide +kernel
theorem dX11_adds_85 : decode cX11_adds 85 = .ok (.getfield 302, 3) := by decide +kernel
theorem dX11_adds_88 : decode cX11_adds 88 = .ok (.iconst 1, 1) := by decide +kernel
theorem dX11_adds_89 : decode cX11_adds 89 = .ok (.iadd, 1) := by decide +kernel
theorem dX11_adds_90 : decode cX11_adds 90 = .ok (.putfield 302, 3) := by decide +kernel
theorem dX11_adds_93 : decode cX11_adds 93 = .ok (.aload_n 0, 1) := by decide +kernel
theorem dX11_adds_94 : decode cX11_adds 94 = .ok (.getfield 302, 3) := by decide +kernel
theorem dX11_adds_97 : decode cX11_adds 97 = .ok (.iconst 1, 1) := by decide +kernel
theorem dX11_adds_98 : decode cX11_adds 98 = .ok (.isub, 1) := by decide +kernel
theorem dX11_adds_99 : decode cX11_adds 99 = .ok (.ireturn, 1) := by decide +kernel
theorem dX11_find_0 : decode cX11_find 0 = .ok (.iload_n 1, 1) := by decide +kernel
theorem dX11_find_1 : decode cX11_find 1 = .ok (.iload_n 2, 1) := by decide +kernel
theorem dX11_find_2 : decode cX11_find 2 = .ok (.invokestatic 296, 3) := by decide +kernel
theorem dX11_find_5 : decode cX11_find 5 = .ok (.ifCond .eq 36, 3) := by decide +kernel
theorem dX11_find_8 : decode cX11_find 8 = .ok (.iload_n 3, 1) := by decide +kernel
theorem dX11_find_9 : decode cX11_find 9 = .ok (.invokestatic 179, 3) := by decide +kernel
theorem dX11_find_12 : decode cX11_find 12 = .ok (.ifCond .eq 29, 3) := by decide +kernel
theorem dX11_find_15 : decode cX11_find 15 = .ok (.iload 4, 2) := by decide +kernel
theorem dX11_find_17 : decode cX11_find 17 = .ok (.iconst 1, 1) := by decide +kernel
theorem dX11_find_18 : decode cX11_find 18 = .ok (.ldc_w 305, 3) := by decide +kernel
theorem dX11_find_21 : decode cX11_find 21 = .ok (.invokestatic 158, 3) := by decide +kernel
theorem dX11_find_24 : decode cX11_find 24 = .ok (.ifCond .eq 17, 3) := by decide +kernel
theorem dX11_find_27 : decode cX11_find 27 = .ok (.iload 5, 2) := by decide +kernel
theorem dX11_find_29 : decode cX11_find 29 = .ok (.iconst 0, 1) := by decide +kernel
theorem dX11_find_30 : decode cX11_find 30 = .ok (.iconst 5, 1) := by decide +kernel
theorem dX11_find_31 : decode cX11_find 31 = .ok (.invokestatic 158, 3) := by decide +kernel
theorem dX11_find_34 : decode cX11_find 34 = .ok (.ifCond .eq 7, 3) := by decide +kernel
theorem dX11_find_37 : decode cX11_find 37 = .ok (.iconst 1, 1) := by decide +kernel
theorem dX11_find_38 : decode cX11_find 38 = .ok (.goto 4, 3) := by decide +kernel
theorem dX11_find_41 : decode cX11_find 41 = .ok (.iconst 0, 1) := by decide +kernel
theorem dX11_find_42 : decode cX11_find 42 = .ok (.istore 6, 2) := by decide +kernel
theorem dX11_find_44 : decode cX11_find 44 = .ok (.aload_n 0, 1) := by decide +kernel
theorem dX11_find_45 : decode cX11_find 45 = .ok (.iload 6, 2) := by decide +kernel
theorem dX11_find_47 : decode cX11_find 47 = .ok (.ifCond .ne 7, 3) := by decide +kernel
theorem dX11_find_50 : decode cX11_find 50 = .ok (.iconst 1, 1) := by decide +kernel
theorem dX11_find_51 : decode cX11_find 51 = .ok (.goto 17, 3) := by decide +kernel
theorem dX11_find_54 : decode cX11_find 54 = .ok (.aload_n 0, 1) := by decide +kernel
theorem dX11_find_55 : decode cX11_find 55 = .ok (.getfield 302, 3) := by decide +kernel
theorem dX11_find_58 : decode cX11_find 58 = .ok (.bipush 40, 2) := by decide +kernel
theorem dX11_find_60 : decode cX11_find 60 = .ok (.if_icmp .ne 7, 3) := by decide +kernel
theorem dX11_find_63 : decode cX11_find 63 = .ok (.iconst 2, 1) := by decide +kernel
theorem dX11_find_64 : decode cX11_find 64 = .ok (.goto 4, 3) := by decide +kernel
theorem dX11_find_67 : decode cX11_find 67 = .ok (.iconst 0, 1) := by decide +kernel
theorem dX11_find_68 : decode cX11_find 68 = .ok (.putfield 151, 3) := by decide +kernel
theorem dX11_find_71 : decode cX11_find 71 = .ok (.aload_n 0, 1) := by decide +kernel
theorem dX11_find_72 : decode cX11_find 72 = .ok (.getfield 151, 3) := by decide +kernel
theorem dX11_find_75 : decode cX11_find 75 = .ok (.ifCond .le 5, 3) := by decide +kernel
theorem dX11_find_78 : decode cX11_find 78 = .ok (.iconst 0, 1) := by decide +kernel
theorem dX11_find_79 : decode cX11_find 79 = .ok (.ireturn, 1) := by decide +kernel
theorem dX11_find_80 : decode cX11_find 80 = .ok (.iload_n 1, 1) := by decide +kernel
theorem dX11_find_81 : decode cX11_find 81 = .ok (.iload_n 2, 1) := by decide +kernel
theorem dX11_find_82 : decode cX11_find 82 = .ok (.invokestatic 306, 3) := by decide +kernel
theorem dX11_find_85 : decode cX11_find 85 = .ok (.istore 7, 2) := by decide +kernel
theorem dX11_find_87 : decode cX11_find 87 = .ok (.aload_n 0, 1) := by decide +kernel
theorem dX11_find_88 : decode cX11_find 88 = .ok (.iload_n 1, 1) := by decide +kernel
theorem dX11_find_89 : decode cX11_find 89 = .ok (.iload_n 2, 1) := by decide +kernel
theorem dX11_find_90 : decode cX11_find 90 = .ok (.iload_n 3, 1) := by decide +kernel
theorem dX11_find_91 : decode cX11_find 91 = .ok (.iload 4, 2) := by decide +kernel
theorem dX11_find_93 : decode cX11_find 93 = .ok (.aload_n 0, 1) := by decide +kernel
theorem dX11_find_94 : decode cX11_find 94 = .ok (.getfield 148, 3) := by decide +kernel
theorem dX11_find_97 : decode cX11_find 97 = .ok (.iload 7, 2) := by decide +kernel
theorem dX11_find_99 : decode cX11_find 99 = .ok (.iaload, 1) := by decide +kernel
theorem dX11_find_100 : decode cX11_find 100 = .ok (.iconst 1, 1) := by decide +kernel
theorem dX11_find_101 : decode cX11_find 101 = .ok (.if_icmp .ne 11, 3) := by decide +kernel
theorem dX11_find_104 : decode cX11_find 104 = .ok (.bipush 10, 2) := by decide +kernel
theorem dX11_find_106 : decode cX11_find 106 = .ok (.iload 7, 2) := by decide +kernel
theorem dX11_find_108 : decode cX11_find 108 = .ok (.iadd, 1) := by decide +kernel
theorem dX11_find_109 : decode cX11_find 109 = .ok (.goto 5, 3) := by decide +kernel
theorem dX11_find_112 : decode cX11_find 112 = .ok (.iload 5, 2) := by decide +kernel
theorem dX11_find_114 : decode cX11_find 114 = .ok (.iconst (-1), 1) := by decide +kernel
theorem dX11_find_115 : decode cX11_find 115 = .ok (.invokevirtual 310, 3) := by decide +kernel
theorem dX11_find_118 : decode cX11_find 118 = .ok (.ireturn, 1) := by decide +kernel
theorem dX11_fallOf_0 : decode cX11_fallOf 0 = .ok (.aload_n 0, 1) := by decide +kernel
theorem dX11_fallOf_1 : decode cX11_fallOf 1 = .ok (.invokevirtual 229, 3) := by decide +kernel
theorem dX11_fallOf_4 : decode cX11_fallOf 4 = .ok (.iconst (-1), 1) := by decide +kernel
theorem dX11_fallOf_5 : decode cX11_fallOf 5 = .ok (.istore_n 2, 1) := by decide +kernel
theorem dX11_fallOf_6 : decode cX11_fallOf 6 = .ok (.lconst 0, 1) := by decide +kernel
theorem dX11_fallOf_7 : decode cX11_fallOf 7 = .ok (.lstore_n 3, 1) := by decide +kernel
theorem dX11_fallOf_8 : decode cX11_fallOf 8 = .ok (.iconst 0, 1) := by decide +kernel
theorem dX11_fallOf_9 : decode cX11_fallOf 9 = .ok (.istore 5, 2) := by decide +kernel
theorem dX11_fallOf_11 : decode cX11_fallOf 11 = .ok (.iload 5, 2) := by decide +kernel
theorem dX11_fallOf_13 : decode cX11_fallOf 13 = .ok (.aload_n 0, 1) := by decide +kernel
theorem dX11_fallOf_14 : decode cX11_fallOf 14 = .ok (.getfield 176, 3) := by decide +kernel
theorem dX11_fallOf_17 : decode cX11_fallOf 17 = .ok (.if_icmp .ge 82, 3) := by decide +kernel
theorem dX11_fallOf_20 : decode cX11_fallOf 20 = .ok (.aload_n 0, 1) := by decide +kernel
theorem dX11_fallOf_21 : decode cX11_fallOf 21 = .ok (.iload 5, 2) := by decide +kernel
theorem dX11_fallOf_23 : decode cX11_fallOf 23 = .ok (.invokevirtual 236, 3) := by decide +kernel
theorem dX11_fallOf_26 : decode cX11_fallOf 26 = .ok (.ifCond .eq 67, 3) := by decide +kernel
theorem dX11_fallOf_29 : decode cX11_fallOf 29 = .ok (.aload_n 0, 1) := by decide +kernel
theorem dX11_fallOf_30 : decode cX11_fallOf 30 = .ok (.getfield 32, 3) := by decide +kernel
theorem dX11_fallOf_33 : decode cX11_fallOf 33 = .ok (.iload 5, 2) := by decide +kernel
theorem dX11_fallOf_35 : decode cX11_fallOf 35 = .ok (.iaload, 1) := by decide +kernel
theorem dX11_fallOf_36 : decode cX11_fallOf 36 = .ok (.aload_n 0, 1) := by decide +kernel
theorem dX11_fallOf_37 : decode cX11_fallOf 37 = .ok (.getfield 97, 3) := by decide +kernel
theorem dX11_fallOf_40 : decode cX11_fallOf 40 = .ok (.iload_n 1, 1) := by decide +kernel
theorem dX11_fallOf_41 : decode cX11_fallOf 41 = .ok (.iaload, 1) := by decide +kernel
theorem dX11_fallOf_42 : decode cX11_fallOf 42 = .ok (.if_icmp .gt 51, 3) := by decide +kernel
theorem dX11_fallOf_45 : decode cX11_fallOf 45 = .ok (.aload_n 0, 1) := by decide +kernel
theorem dX11_fallOf_46 : decode cX11_fallOf 46 = .ok (.iload 5, 2) := by decide +kernel
theorem dX11_fallOf_48 : decode cX11_fallOf 48 = .ok (.aload_n 0, 1) := by decide +kernel
theorem dX11_fallOf_49 : decode cX11_fallOf 49 = .ok (.getfield 91, 3) := by decide +kernel
theorem dX11_fallOf_52 : decode cX11_fallOf 52 = .ok (.iload_n 1, 1) := by decide +kernel
theorem dX11_fallOf_53 : decode cX11_fallOf 53 = .ok (.iaload, 1) := by decide +kernel
theorem dX11_fallOf_54 : decode cX11_fallOf 54 = .ok (.aload_n 0, 1) := by decide +kernel
theorem dX11_fallOf_55 : decode cX11_fallOf 55 = .ok (.getfield 94, 3) := by decide +kernel
theorem dX11_fallOf_58 : decode cX11_fallOf 58 = .ok (.iload_n 1, 1) := by decide +kernel
theorem dX11_fallOf_59 : decode cX11_fallOf 59 = .ok (.iaload, 1) := by decide +kernel
theorem dX11_fallOf_60 : decode cX11_fallOf 60 = .ok (.invokevirtual 299, 3) := by decide +kernel
theorem dX11_fallOf_63 : decode cX11_fallOf 63 = .ok (.lstore 6, 2) := by decide +kernel
theorem dX11_fallOf_65 : decode cX11_fallOf 65 = .ok (.lload 6, 2) := by decide +kernel
theorem dX11_fallOf_67 : decode cX11_fallOf 67 = .ok (.lload_n 3, 1) := by decide +kernel
theorem dX11_fallOf_68 : decode cX11_fallOf 68 = .ok (.lcmp, 1) := by decide +kernel
theorem dX11_fallOf_69 : decode cX11_fallOf 69 = .ok (.ifCond .le 8, 3) := by decide +kernel
theorem dX11_fallOf_72 : decode cX11_fallOf 72 = .ok (.iload 5, 2) := by decide +kernel
theorem dX11_fallOf_74 : decode cX11_fallOf 74 = .ok (.goto 4, 3) := by decide +kernel
theorem dX11_fallOf_77 : decode cX11_fallOf 77 = .ok (.iload_n 2, 1) := by decide +kernel
theorem dX11_fallOf_78 : decode cX11_fallOf 78 = .ok (.istore_n 2, 1) := by decide +kernel
theorem dX11_fallOf_79 : decode cX11_fallOf 79 = .ok (.lload 6, 2) := by decide +kernel
theorem dX11_fallOf_81 : decode cX11_fallOf 81 = .ok (.lload_n 3, 1) := by decide +kernel
theorem dX11_fallOf_82 : decode cX11_fallOf 82 = .ok (.lcmp, 1) := by decide +kernel
theorem dX11_fallOf_83 : decode cX11_fallOf 83 = .ok (.ifCond .le 8, 3) := by decide +kernel
theorem dX11_fallOf_86 : decode cX11_fallOf 86 = .ok (.lload 6, 2) := by decide +kernel
theorem dX11_fallOf_88 : decode cX11_fallOf 88 = .ok (.goto 4, 3) := by decide +kernel
theorem dX11_fallOf_91 : decode cX11_fallOf 91 = .ok (.lload_n 3, 1) := by decide +kernel
theorem dX11_fallOf_92 : decode cX11_fallOf 92 = .ok (.lstore_n 3, 1) := by decide +kernel
theorem dX11_fallOf_93 : decode cX11_fallOf 93 = .ok (.iinc 5 1, 3) := by decide +kernel
theorem dX11_fallOf_96 : decode cX11_fallOf 96 = .ok (.goto (-85), 3) := by decide +kernel
theorem dX11_fallOf_99 : decode cX11_fallOf 99 = .ok (.iload_n 2, 1) := by decide +kernel
theorem dX11_fallOf_100 : decode cX11_fallOf 100 = .ok (.ireturn, 1) := by decide +kernel
theorem dX11_fall_0 : decode cX11_fall 0 = .ok (.aload_n 0, 1) := by decide +kernel
theorem dX11_fall_1 : decode cX11_fall 1 = .ok (.aload_n 0, 1) := by decide +kernel
theorem dX11_fall_2 : decode cX11_fall 2 = .ok (.iload_n 1, 1) := by decide +kernel
theorem dX11_fall_3 : decode cX11_fall 3 = .ok (.invokevirtual 314, 3) := by decide +kernel
theorem dX11_fall_6 : decode cX11_fall 6 = .ok (.ifCond .eq 7, 3) := by decide +kernel
theorem dX11_fall_9 : decode cX11_fall 9 = .ok (.iconst 0, 1) := by decide +kernel
theorem dX11_fall_10 : decode cX11_fall 10 = .ok (.goto 4, 3) := by decide +kernel
theorem dX11_fall_13 : decode cX11_fall 13 = .ok (.iconst 1, 1) := by decide +kernel
theorem dX11_fall_14 : decode cX11_fall 14 = .ok (.putfield 151, 3) := by decide +kernel
theorem dX11_fall_17 : decode cX11_fall 17 = .ok (.aload_n 0, 1) := by decide +kernel
theorem dX11_fall_18 : decode cX11_fall 18 = .ok (.getfield 151, 3) := by decide +kernel
theorem dX11_fall_21 : decode cX11_fall 21 = .ok (.ifCond .le 7, 3) := by decide +kernel
theorem dX11_fall_24 : decode cX11_fall 24 = .ok (.iconst 0, 1) := by decide +kernel
theorem dX11_fall_25 : decode cX11_fall 25 = .ok (.goto 8, 3) := by decide +kernel
theorem dX11_fall_28 : decode cX11_fall 28 = .ok (.aload_n 0, 1) := by decide +kernel
theorem dX11_fall_29 : decode cX11_fall 29 = .ok (.iload_n 1, 1) := by decide +kernel
theorem dX11_fall_30 : decode cX11_fall 30 = .ok (.invokevirtual 317, 3) := by decide +kernel
theorem dX11_fall_33 : decode cX11_fall 33 = .ok (.ireturn, 1) := by decide +kernel
theorem dX11_minerals_0 : decode cX11_minerals 0 = .ok (.iload_n 2, 1) := by decide +kernel
theorem dX11_minerals_1 : decode cX11_minerals 1 = .ok (.iconst 0, 1) := by decide +kernel
theorem dX11_minerals_2 : decode cX11_minerals 2 = .ok (.sipush 1000, 3) := by decide +kernel
theorem dX11_minerals_5 : decode cX11_minerals 5 = .ok (.invokestatic 158, 3) := by decide +kernel
theorem dX11_minerals_8 : decode cX11_minerals 8 = .ok (.ifCond .eq 28, 3) := by decide +kernel
theorem dX11_minerals_11 : decode cX11_minerals 11 = .ok (.iload_n 3, 1) := by decide +kernel
theorem dX11_minerals_12 : decode cX11_minerals 12 = .ok (.iconst 0, 1) := by decide +kernel
theorem dX11_minerals_13 : decode cX11_minerals 13 = .ok (.bipush 9, 2) := by decide +kernel
theorem dX11_minerals_15 : decode cX11_minerals 15 = .ok (.invokestatic 158, 3) := by decide +kernel
theorem dX11_minerals_18 : decode cX11_minerals 18 = .ok (.ifCond .eq 18, 3) := by decide +kernel
theorem dX11_minerals_21 : decode cX11_minerals 21 = .ok (.iload 4, 2) := by decide +kernel
theorem dX11_minerals_23 : decode cX11_minerals 23 = .ok (.iconst 0, 1) := by decide +kernel
theorem dX11_minerals_24 : decode cX11_minerals 24 = .ok (.bipush 9, 2) := by decide +kernel
theorem dX11_minerals_26 : decode cX11_minerals 26 = .ok (.invokestatic 158, 3) := by decide +kernel
theorem dX11_minerals_29 : decode cX11_minerals 29 = .ok (.ifCond .eq 7, 3) := by decide +kernel
theorem dX11_minerals_32 : decode cX11_minerals 32 = .ok (.iconst 1, 1) := by decide +kernel
theorem dX11_minerals_33 : decode cX11_minerals 33 = .ok (.goto 4, 3) := by decide +kernel
theorem dX11_minerals_36 : decode cX11_minerals 36 = .ok (.iconst 0, 1) := by decide +kernel
theorem dX11_minerals_37 : decode cX11_minerals 37 = .ok (.istore 5, 2) := by decide +kernel
theorem dX11_minerals_39 : decode cX11_minerals 39 = .ok (.aload_n 0, 1) := by decide +kernel
theorem dX11_minerals_40 : decode cX11_minerals 40 = .ok (.aload_n 0, 1) := by decide +kernel
theorem dX11_minerals_41 : decode cX11_minerals 41 = .ok (.iload_n 1, 1) := by decide +kernel
theorem dX11_minerals_42 : decode cX11_minerals 42 = .ok (.invokevirtual 314, 3) := by decide +kernel
theorem dX11_minerals_45 : decode cX11_minerals 45 = .ok (.ifCond .ne 7, 3) := by decide +kernel
theorem dX11_minerals_48 : decode cX11_minerals 48 = .ok (.iconst 1, 1) := by decide +kernel
theorem dX11_minerals_49 : decode cX11_minerals 49 = .ok (.goto 13, 3) := by decide +kernel
theorem dX11_minerals_52 : decode cX11_minerals 52 = .ok (.iload 5, 2) := by decide +kernel
theorem dX11_minerals_54 : decode cX11_minerals 54 = .ok (.ifCond .ne 7, 3) := by decide +kernel
theorem dX11_minerals_57 : decode cX11_minerals 57 = .ok (.iconst 2, 1) := by decide +kernel
theorem dX11_minerals_58 : decode cX11_minerals 58 = .ok (.goto 4, 3) := by decide +kernel
theorem dX11_minerals_61 : decode cX11_minerals 61 = .ok (.iconst 0, 1) := by decide +kernel
theorem dX11_minerals_62 : decode cX11_minerals 62 = .ok (.putfield 151, 3) := by decide +kernel
theorem dX11_minerals_65 : decode cX11_minerals 65 = .ok (.aload_n 0, 1) := by decide +kernel
theorem dX11_minerals_66 : decode cX11_minerals 66 = .ok (.getfield 151, 3) := by decide +kernel
theorem dX11_minerals_69 : decode cX11_minerals 69 = .ok (.ifCond .ne 32, 3) := by decide +kernel
theorem dX11_minerals_72 : decode cX11_minerals 72 = .ok (.aload_n 0, 1) := by decide +kernel
theorem dX11_minerals_73 : decode cX11_minerals 73 = .ok (.getfield 118, 3) := by decide +kernel
theorem dX11_minerals_76 : decode cX11_minerals 76 = .ok (.iload_n 1, 1) := by decide +kernel
theorem dX11_minerals_77 : decode cX11_minerals 77 = .ok (.iconst 1, 1) := by decide +kernel
theorem dX11_minerals_78 : decode cX11_minerals 78 = .ok (.bastore, 1) := by decide +kernel
theorem dX11_minerals_79 : decode cX11_minerals 79 = .ok (.aload_n 0, 1) := by decide +kernel
theorem dX11_minerals_80 : decode cX11_minerals 80 = .ok (.getfield 121, 3) := by decide +kernel
theorem dX11_minerals_83 : decode cX11_minerals 83 = .ok (.iload_n 1, 1) := by decide +kernel
theorem dX11_minerals_84 : decode cX11_minerals 84 = .ok (.iload_n 2, 1) := by decide +kernel
theorem dX11_minerals_85 : decode cX11_minerals 85 = .ok (.iastore, 1) := by decide +kernel
theorem dX11_minerals_86 : decode cX11_minerals 86 = .ok (.aload_n 0, 1) := by decide +kernel
theorem dX11_minerals_87 : decode cX11_minerals 87 = .ok (.getfield 124, 3) := by decide +kernel
theorem dX11_minerals_90 : decode cX11_minerals 90 = .ok (.iload_n 1, 1) := by decide +kernel
theorem dX11_minerals_91 : decode cX11_minerals 91 = .ok (.iload_n 3, 1) := by decide +kernel
theorem dX11_minerals_92 : decode cX11_minerals 92 = .ok (.iastore, 1) := by decide +kernel
theorem dX11_minerals_93 : decode cX11_minerals 93 = .ok (.aload_n 0, 1) := by decide +kernel
theorem dX11_minerals_94 : decode cX11_minerals 94 = .ok (.getfield 127, 3) := by decide +kernel
theorem dX11_minerals_97 : decode cX11_minerals 97 = .ok (.iload_n 1, 1) := by decide +kernel
theorem dX11_minerals_98 : decode cX11_minerals 98 = .ok (.iload 4, 2) := by decide +kernel
theorem dX11_minerals_100 : decode cX11_minerals 100 = .ok (.iastore, 1) := by decide +kernel
theorem dX11_minerals_101 : decode cX11_minerals 101 = .ok (.return_, 1) := by decide +kernel
theorem dX11_rule_0 : decode cX11_rule 0 = .ok (.aload_n 0, 1) := by decide +kernel
theorem dX11_rule_1 : decode cX11_rule 1 = .ok (.iload_n 1, 1) := by decide +kernel
theorem dX11_rule_2 : decode cX11_rule 2 = .ok (.iconst 0, 1) := by decide +kernel
theorem dX11_rule_3 : decode cX11_rule 3 = .ok (.bipush 9, 2) := by decide +kernel
theorem dX11_rule_5 : decode cX11_rule 5 = .ok (.invokestatic 158, 3) := by decide +kernel
theorem dX11_rule_8 : decode cX11_rule 8 = .ok (.ifCond .eq 27, 3) := by decide +kernel
theorem dX11_rule_11 : decode cX11_rule 11 = .ok (.iload_n 2, 1) := by decide +kernel
theorem dX11_rule_12 : decode cX11_rule 12 = .ok (.iconst 0, 1) := by decide +kernel
theorem dX11_rule_13 : decode cX11_rule 13 = .ok (.sipush 1000, 3) := by decide +kernel
theorem dX11_rule_16 : decode cX11_rule 16 = .ok (.invokestatic 158, 3) := by decide +kernel
theorem dX11_rule_19 : decode cX11_rule 19 = .ok (.ifCond .eq 16, 3) := by decide +kernel
theorem dX11_rule_22 : decode cX11_rule 22 = .ok (.iload_n 3, 1) := by decide +kernel
theorem dX11_rule_23 : decode cX11_rule 23 = .ok (.iconst 0, 1) := by decide +kernel
theorem dX11_rule_24 : decode cX11_rule 24 = .ok (.iload_n 2, 1) := by decide +kernel
theorem dX11_rule_25 : decode cX11_rule 25 = .ok (.invokestatic 158, 3) := by decide +kernel
theorem dX11_rule_28 : decode cX11_rule 28 = .ok (.ifCond .eq 7, 3) := by decide +kernel
theorem dX11_rule_31 : decode cX11_rule 31 = .ok (.iconst 0, 1) := by decide +kernel
theorem dX11_rule_32 : decode cX11_rule 32 = .ok (.goto 4, 3) := by decide +kernel
theorem dX11_rule_35 : decode cX11_rule 35 = .ok (.iconst 1, 1) := by decide +kernel
theorem dX11_rule_36 : decode cX11_rule 36 = .ok (.putfield 151, 3) := by decide +kernel
theorem dX11_rule_39 : decode cX11_rule 39 = .ok (.aload_n 0, 1) := by decide +kernel
theorem dX11_rule_40 : decode cX11_rule 40 = .ok (.getfield 151, 3) := by decide +kernel
theorem dX11_rule_43 : decode cX11_rule 43 = .ok (.ifCond .ne 24, 3) := by decide +kernel
theorem dX11_rule_46 : decode cX11_rule 46 = .ok (.aload_n 0, 1) := by decide +kernel
theorem dX11_rule_47 : decode cX11_rule 47 = .ok (.getfield 139, 3) := by decide +kernel
theorem dX11_rule_50 : decode cX11_rule 50 = .ok (.iload_n 1, 1) := by decide +kernel
theorem dX11_rule_51 : decode cX11_rule 51 = .ok (.iconst 1, 1) := by decide +kernel
theorem dX11_rule_52 : decode cX11_rule 52 = .ok (.bastore, 1) := by decide +kernel
theorem dX11_rule_53 : decode cX11_rule 53 = .ok (.aload_n 0, 1) := by decide +kernel
theorem dX11_rule_54 : decode cX11_rule 54 = .ok (.getfield 142, 3) := by decide +kernel
theorem dX11_rule_57 : decode cX11_rule 57 = .ok (.iload_n 1, 1) := by decide +kernel
theorem dX11_rule_58 : decode cX11_rule 58 = .ok (.iload_n 2, 1) := by decide +kernel
theorem dX11_rule_59 : decode cX11_rule 59 = .ok (.iastore, 1) := by decide +kernel
theorem dX11_rule_60 : decode cX11_rule 60 = .ok (.aload_n 0, 1) := by decide +kernel
theorem dX11_rule_61 : decode cX11_rule 61 = .ok (.getfield 145, 3) := by decide +kernel
theorem dX11_rule_64 : decode cX11_rule 64 = .ok (.iload_n 1, 1) := by decide +kernel
theorem dX11_rule_65 : decode cX11_rule 65 = .ok (.iload_n 3, 1) := by decide +kernel
theorem dX11_rule_66 : decode cX11_rule 66 = .ok (.iastore, 1) := by decide +kernel
theorem dX11_rule_67 : decode cX11_rule 67 = .ok (.return_, 1) := by decide +kernel
theorem dX11_classIn_0 : decode cX11_classIn 0 = .ok (.iload_n 2, 1) := by decide +kernel
theorem dX11_classIn_1 : decode cX11_classIn 1 = .ok (.istore_n 3, 1) := by decide +kernel
theorem dX11_classIn_2 : decode cX11_classIn 2 = .ok (.iload_n 3, 1) := by decide +kernel
theorem dX11_classIn_3 : decode cX11_classIn 3 = .ok (.ifCond .lt 18, 3) := by decide +kernel
theorem dX11_classIn_6 : decode cX11_classIn 6 = .ok (.aload_n 0, 1) := by decide +kernel
theorem dX11_classIn_7 : decode cX11_classIn 7 = .ok (.getfield 139, 3) := by decide +kernel
theorem dX11_classIn_10 : decode cX11_classIn 10 = .ok (.iload_n 3, 1) := by decide +kernel
theorem dX11_classIn_11 : decode cX11_classIn 11 = .ok (.baload, 1) := by decide +kernel
theorem dX11_classIn_12 : decode cX11_classIn 12 = .ok (.ifCond .ne 9, 3) := by decide +kernel
theorem dX11_classIn_15 : decode cX11_classIn 15 = .ok (.iinc 3 (-1), 3) := by decide +kernel
theorem dX11_classIn_18 : decode cX11_classIn 18 = .ok (.goto (-16), 3) := by decide +kernel
theorem dX11_classIn_21 : decode cX11_classIn 21 = .ok (.iload_n 3, 1) := by decide +kernel
theorem dX11_classIn_22 : decode cX11_classIn 22 = .ok (.ifCond .lt 12, 3) := by decide +kernel
theorem dX11_classIn_25 : decode cX11_classIn 25 = .ok (.aload_n 0, 1) := by decide +kernel
theorem dX11_classIn_26 : decode cX11_classIn 26 = .ok (.getfield 118, 3) := by decide +kernel
theorem dX11_classIn_29 : decode cX11_classIn 29 = .ok (.iload_n 1, 1) := by decide +kernel
theorem dX11_classIn_30 : decode cX11_classIn 30 = .ok (.baload, 1) := by decide +kernel
theorem dX11_classIn_31 : decode cX11_classIn 31 = .ok (.ifCond .ne 5, 3) := by decide +kernel
theorem dX11_classIn_34 : decode cX11_classIn 34 = .ok (.iconst 0, 1) := by decide +kernel
theorem dX11_classIn_35 : decode cX11_classIn 35 = .ok (.ireturn, 1) := by decide +kernel
theorem dX11_classIn_36 : decode cX11_classIn 36 = .ok (.aload_n 0, 1) := by decide +kernel
theorem dX11_classIn_37 : decode cX11_classIn 37 = .ok (.getfield 121, 3) := by decide +kernel
theorem dX11_classIn_40 : decode cX11_classIn 40 = .ok (.iload_n 1, 1) := by decide +kernel
theorem dX11_classIn_41 : decode cX11_classIn 41 = .ok (.iaload, 1) := by decide +kernel
theorem dX11_classIn_42 : decode cX11_classIn 42 = .ok (.aload_n 0, 1) := by decide +kernel
theorem dX11_classIn_43 : decode cX11_classIn 43 = .ok (.getfield 142, 3) := by decide +kernel
theorem dX11_classIn_46 : decode cX11_classIn 46 = .ok (.iload_n 3, 1) := by decide +kernel
theorem dX11_classIn_47 : decode cX11_classIn 47 = .ok (.iaload, 1) := by decide +kernel
theorem dX11_classIn_48 : decode cX11_classIn 48 = .ok (.if_icmp .lt 8, 3) := by decide +kernel
theorem dX11_classIn_51 : decode cX11_classIn 51 = .ok (.bipush 100, 2) := by decide +kernel
theorem dX11_classIn_53 : decode cX11_classIn 53 = .ok (.goto 27, 3) := by decide +kernel
theorem dX11_classIn_56 : decode cX11_classIn 56 = .ok (.aload_n 0, 1) := by decide +kernel
theorem dX11_classIn_57 : decode cX11_classIn 57 = .ok (.getfield 121, 3) := by decide +kernel
theorem dX11_classIn_60 : decode cX11_classIn 60 = .ok (.iload_n 1, 1) := by decide +kernel
theorem dX11_classIn_61 : decode cX11_classIn 61 = .ok (.iaload, 1) := by decide +kernel
theorem dX11_classIn_62 : decode cX11_classIn 62 = .ok (.aload_n 0, 1) := by decide +kernel
theorem dX11_classIn_63 : decode cX11_classIn 63 = .ok (.getfield 145, 3) := by decide +kernel
theorem dX11_classIn_66 : decode cX11_classIn 66 = .ok (.iload_n 3, 1) := by decide +kernel
theorem dX11_classIn_67 : decode cX11_classIn 67 = .ok (.iaload, 1) := by decide +kernel
theorem dX11_classIn_68 : decode cX11_classIn 68 = .ok (.if_icmp .lt 9, 3) := by decide +kernel
theorem dX11_classIn_71 : decode cX11_classIn 71 = .ok (.sipush 200, 3) := by decide +kernel
theorem dX11_classIn_74 : decode cX11_classIn 74 = .ok (.goto 6, 3) := by decide +kernel
theorem dX11_classIn_77 : decode cX11_classIn 77 = .ok (.sipush 300, 3) := by decide +kernel
theorem dX11_classIn_80 : decode cX11_classIn 80 = .ok (.istore 4, 2) := by decide +kernel
theorem dX11_classIn_82 : decode cX11_classIn 82 = .ok (.iload 4, 2) := by decide +kernel
theorem dX11_classIn_84 : decode cX11_classIn 84 = .ok (.bipush 10, 2) := by decide +kernel
theorem dX11_classIn_86 : decode cX11_classIn 86 = .ok (.aload_n 0, 1) := by decide +kernel
theorem dX11_classIn_87 : decode cX11_classIn 87 = .ok (.getfield 124, 3) := by decide +kernel
theorem dX11_classIn_90 : decode cX11_classIn 90 = .ok (.iload_n 1, 1) := by decide +kernel
theorem dX11_classIn_91 : decode cX11_classIn 91 = .ok (.iaload, 1) := by decide +kernel
theorem dX11_classIn_92 : decode cX11_classIn 92 = .ok (.imul, 1) := by decide +kernel
theorem dX11_classIn_93 : decode cX11_classIn 93 = .ok (.iadd, 1) := by decide +kernel
theorem dX11_classIn_94 : decode cX11_classIn 94 = .ok (.aload_n 0, 1) := by decide +kernel
theorem dX11_classIn_95 : decode cX11_classIn 95 = .ok (.getfield 127, 3) := by decide +kernel
theorem dX11_classIn_98 : decode cX11_classIn 98 = .ok (.iload_n 1, 1) := by decide +kernel
theorem dX11_classIn_99 : decode cX11_classIn 99 = .ok (.iaload, 1) := by decide +kernel
theorem dX11_classIn_100 : decode cX11_classIn 100 = .ok (.iadd, 1) := by decide +kernel
theorem dX11_classIn_101 : decode cX11_classIn 101 = .ok (.ireturn, 1) := by decide +kernel
theorem dX11_classOf_0 : decode cX11_classOf 0 = .ok (.aload_n 0, 1) := by decide +kernel
theorem dX11_classOf_1 : decode cX11_classOf 1 = .ok (.aload_n 0, 1) := by decide +kernel
theorem dX11_classOf_2 : decode cX11_classOf 2 = .ok (.iload_n 1, 1) := by decide +kernel
theorem dX11_classOf_3 : decode cX11_classOf 3 = .ok (.invokevirtual 314, 3) := by decide +kernel
theorem dX11_classOf_6 : decode cX11_classOf 6 = .ok (.ifCond .ne 7, 3) := by decide +kernel
theorem dX11_classOf_9 : decode cX11_classOf 9 = .ok (.iconst 1, 1) := by decide +kernel
theorem dX11_classOf_10 : decode cX11_classOf 10 = .ok (.goto 18, 3) := by decide +kernel
theorem dX11_classOf_13 : decode cX11_classOf 13 = .ok (.iload_n 2, 1) := by decide +kernel
theorem dX11_classOf_14 : decode cX11_classOf 14 = .ok (.iconst 0, 1) := by decide +kernel
theorem dX11_classOf_15 : decode cX11_classOf 15 = .ok (.bipush 9, 2) := by decide +kernel
theorem dX11_classOf_17 : decode cX11_classOf 17 = .ok (.invokestatic 158, 3) := by decide +kernel
theorem dX11_classOf_20 : decode cX11_classOf 20 = .ok (.ifCond .ne 7, 3) := by decide +kernel
theorem dX11_classOf_23 : decode cX11_classOf 23 = .ok (.iconst 2, 1) := by decide +kernel
theorem dX11_classOf_24 : decode cX11_classOf 24 = .ok (.goto 4, 3) := by decide +kernel
theorem dX11_classOf_27 : decode cX11_classOf 27 = .ok (.iconst 0, 1) := by decide +kernel
theorem dX11_classOf_28 : decode cX11_classOf 28 = .ok (.putfield 151, 3) := by decide +kernel
theorem dX11_classOf_31 : decode cX11_classOf 31 = .ok (.aload_n 0, 1) := by decide +kernel
theorem dX11_classOf_32 : decode cX11_classOf 32 = .ok (.getfield 151, 3) := by decide +kernel
theorem dX11_classOf_35 : decode cX11_classOf 35 = .ok (.ifCond .le 7, 3) := by decide +kernel
theorem dX11_classOf_38 : decode cX11_classOf 38 = .ok (.iconst 0, 1) := by decide +kernel
theorem dX11_classOf_39 : decode cX11_classOf 39 = .ok (.goto 9, 3) := by decide +kernel
theorem dX11_classOf_42 : decode cX11_classOf 42 = .ok (.aload_n 0, 1) := by decide +kernel
theorem dX11_classOf_43 : decode cX11_classOf 43 = .ok (.iload_n 1, 1) := by decide +kernel
theorem dX11_classOf_44 : decode cX11_classOf 44 = .ok (.iload_n 2, 1) := by decide +kernel
theorem dX11_classOf_45 : decode cX11_classOf 45 = .ok (.invokevirtual 320, 3) := by decide +kernel
theorem dX11_classOf_48 : decode cX11_classOf 48 = .ok (.ireturn, 1) := by decide +kernel
theorem dX11_pair_0 : decode cX11_pair 0 = .ok (.aload_n 0, 1) := by decide +kernel
theorem dX11_pair_1 : decode cX11_pair 1 = .ok (.iload_n 1, 1) := by decide +kernel
theorem dX11_pair_2 : decode cX11_pair 2 = .ok (.invokevirtual 314, 3) := by decide +kernel
theorem dX11_pair_5 : decode cX11_pair 5 = .ok (.ifCond .eq 15, 3) := by decide +kernel
theorem dX11_pair_8 : decode cX11_pair 8 = .ok (.aload_n 0, 1) := by decide +kernel
theorem dX11_pair_9 : decode cX11_pair 9 = .ok (.iload_n 2, 1) := by decide +kernel
theorem dX11_pair_10 : decode cX11_pair 10 = .ok (.invokevirtual 314, 3) := by decide +kernel
theorem dX11_pair_13 : decode cX11_pair 13 = .ok (.ifCond .eq 7, 3) := by decide +kernel
theorem dX11_pair_16 : decode cX11_pair 16 = .ok (.iconst 1, 1) := by decide +kernel
theorem dX11_pair_17 : decode cX11_pair 17 = .ok (.goto 4, 3) := by decide +kernel
theorem dX11_pair_20 : decode cX11_pair 20 = .ok (.iconst 0, 1) := by decide +kernel
theorem dX11_pair_21 : decode cX11_pair 21 = .ok (.istore 4, 2) := by decide +kernel
theorem dX11_pair_23 : decode cX11_pair 23 = .ok (.aload_n 0, 1) := by decide +kernel
theorem dX11_pair_24 : decode cX11_pair 24 = .ok (.iload 4, 2) := by decide +kernel
theorem dX11_pair_26 : decode cX11_pair 26 = .ok (.ifCond .ne 7, 3) := by decide +kernel
theorem dX11_pair_29 : decode cX11_pair 29 = .ok (.iconst 1, 1) := by decide +kernel
theorem dX11_pair_30 : decode cX11_pair 30 = .ok (.goto 23, 3) := by decide +kernel
theorem dX11_pair_33 : decode cX11_pair 33 = .ok (.iload_n 1, 1) := by decide +kernel
theorem dX11_pair_34 : decode cX11_pair 34 = .ok (.iload_n 2, 1) := by decide +kernel
theorem dX11_pair_35 : decode cX11_pair 35 = .ok (.if_icmp .eq 13, 3) := by decide +kernel
theorem dX11_pair_38 : decode cX11_pair 38 = .ok (.iload_n 3, 1) := by decide +kernel
theorem dX11_pair_39 : decode cX11_pair 39 = .ok (.iconst 0, 1) := by decide +kernel
theorem dX11_pair_40 : decode cX11_pair 40 = .ok (.bipush 9, 2) := by decide +kernel
theorem dX11_pair_42 : decode cX11_pair 42 = .ok (.invokestatic 158, 3) := by decide +kernel
theorem dX11_pair_45 : decode cX11_pair 45 = .ok (.ifCond .ne 7, 3) := by decide +kernel
theorem dX11_pair_48 : decode cX11_pair 48 = .ok (.iconst 2, 1) := by decide +kernel
theorem dX11_pair_49 : decode cX11_pair 49 = .ok (.goto 4, 3) := by decide +kernel
theorem dX11_pair_52 : decode cX11_pair 52 = .ok (.iconst 0, 1) := by decide +kernel
theorem dX11_pair_53 : decode cX11_pair 53 = .ok (.putfield 151, 3) := by decide +kernel
theorem dX11_pair_56 : decode cX11_pair 56 = .ok (.aload_n 0, 1) := by decide +kernel
theorem dX11_pair_57 : decode cX11_pair 57 = .ok (.getfield 151, 3) := by decide +kernel
theorem dX11_pair_60 : decode cX11_pair 60 = .ok (.ifCond .le 5, 3) := by decide +kernel
theorem dX11_pair_63 : decode cX11_pair 63 = .ok (.iconst 0, 1) := by decide +kernel
theorem dX11_pair_64 : decode cX11_pair 64 = .ok (.ireturn, 1) := by decide +kernel
theorem dX11_pair_65 : decode cX11_pair 65 = .ok (.aload_n 0, 1) := by decide +kernel
theorem dX11_pair_66 : decode cX11_pair 66 = .ok (.getfield 91, 3) := by decide +kernel
theorem dX11_pair_69 : decode cX11_pair 69 = .ok (.iload_n 1, 1) := by decide +kernel
theorem dX11_pair_70 : decode cX11_pair 70 = .ok (.iaload, 1) := by decide +kernel
theorem dX11_pair_71 : decode cX11_pair 71 = .ok (.aload_n 0, 1) := by decide +kernel
theorem dX11_pair_72 : decode cX11_pair 72 = .ok (.getfield 91, 3) := by decide +kernel
theorem dX11_pair_75 : decode cX11_pair 75 = .ok (.iload_n 2, 1) := by decide +kernel
theorem dX11_pair_76 : decode cX11_pair 76 = .ok (.iaload, 1) := by decide +kernel
theorem dX11_pair_77 : decode cX11_pair 77 = .ok (.isub, 1) := by decide +kernel
theorem dX11_pair_78 : decode cX11_pair 78 = .ok (.istore 5, 2) := by decide +kernel
theorem dX11_pair_80 : decode cX11_pair 80 = .ok (.aload_n 0, 1) := by decide +kernel
theorem dX11_pair_81 : decode cX11_pair 81 = .ok (.getfield 94, 3) := by decide +kernel
theorem dX11_pair_84 : decode cX11_pair 84 = .ok (.iload_n 1, 1) := by decide +kernel
theorem dX11_pair_85 : decode cX11_pair 85 = .ok (.iaload, 1) := by decide +kernel
theorem dX11_pair_86 : decode cX11_pair 86 = .ok (.aload_n 0, 1) := by decide +kernel
theorem dX11_pair_87 : decode cX11_pair 87 = .ok (.getfield 94, 3) := by decide +kernel
theorem dX11_pair_90 : decode cX11_pair 90 = .ok (.iload_n 2, 1) := by decide +kernel
theorem dX11_pair_91 : decode cX11_pair 91 = .ok (.iaload, 1) := by decide +kernel
theorem dX11_pair_92 : decode cX11_pair 92 = .ok (.isub, 1) := by decide +kernel
theorem dX11_pair_93 : decode cX11_pair 93 = .ok (.istore 6, 2) := by decide +kernel
theorem dX11_pair_95 : decode cX11_pair 95 = .ok (.aload_n 0, 1) := by decide +kernel
theorem dX11_pair_96 : decode cX11_pair 96 = .ok (.iload_n 1, 1) := by decide +kernel
theorem dX11_pair_97 : decode cX11_pair 97 = .ok (.iload_n 3, 1) := by decide +kernel
theorem dX11_pair_98 : decode cX11_pair 98 = .ok (.invokevirtual 320, 3) := by decide +kernel
theorem dX11_pair_101 : decode cX11_pair 101 = .ok (.ifCond .eq 22, 3) := by decide +kernel
theorem dX11_pair_104 : decode cX11_pair 104 = .ok (.aload_n 0, 1) := by decide +kernel
theorem dX11_pair_105 : decode cX11_pair 105 = .ok (.iload_n 1, 1) := by decide +kernel
theorem dX11_pair_106 : decode cX11_pair 106 = .ok (.iload_n 3, 1) := by decide +kernel
theorem dX11_pair_107 : decode cX11_pair 107 = .ok (.invokevirtual 320, 3) := by decide +kernel
theorem dX11_pair_110 : decode cX11_pair 110 = .ok (.aload_n 0, 1) := by decide +kernel
theorem dX11_pair_111 : decode cX11_pair 111 = .ok (.iload_n 2, 1) := by decide +kernel
theorem dX11_pair_112 : decode cX11_pair 112 = .ok (.iload_n 3, 1) := by decide +kernel
theorem dX11_pair_113 : decode cX11_pair 113 = .ok (.invokevirtual 320, 3) := by decide +kernel
theorem dX11_pair_116 : decode cX11_pair 116 = .ok (.if_icmp .ne 7, 3) := by decide +kernel
theorem dX11_pair_119 : decode cX11_pair 119 = .ok (.iconst 1, 1) := by decide +kernel
theorem dX11_pair_120 : decode cX11_pair 120 = .ok (.goto 4, 3) := by decide +kernel
theorem dX11_pair_123 : decode cX11_pair 123 = .ok (.iconst 0, 1) := by decide +kernel
theorem dX11_pair_124 : decode cX11_pair 124 = .ok (.istore 7, 2) := by decide +kernel
theorem dX11_pair_126 : decode cX11_pair 126 = .ok (.iload 7, 2) := by decide +kernel
theorem dX11_pair_128 : decode cX11_pair 128 = .ok (.ifCond .eq 27, 3) := by decide +kernel
theorem dX11_pair_131 : decode cX11_pair 131 = .ok (.iload 5, 2) := by decide +kernel
theorem dX11_pair_133 : decode cX11_pair 133 = .ok (.bipush (-10), 2) := by decide +kernel
theorem dX11_pair_135 : decode cX11_pair 135 = .ok (.bipush 10, 2) := by decide +kernel
theorem dX11_pair_137 : decode cX11_pair 137 = .ok (.invokestatic 158, 3) := by decide +kernel
theorem dX11_pair_140 : decode cX11_pair 140 = .ok (.ifCond .eq 15, 3) := by decide +kernel
theorem dX11_pair_143 : decode cX11_pair 143 = .ok (.iload 6, 2) := by decide +kernel
theorem dX11_pair_145 : decode cX11_pair 145 = .ok (.bipush (-10), 2) := by decide +kernel
theorem dX11_pair_147 : decode cX11_pair 147 = .ok (.bipush 10, 2) := by decide +kernel
theorem dX11_pair_149 : decode cX11_pair 149 = .ok (.invokestatic 158, 3) := by decide +kernel
theorem dX11_pair_152 : decode cX11_pair 152 = .ok (.ifCond .ne 5, 3) := by decide +kernel
theorem dX11_pair_155 : decode cX11_pair 155 = .ok (.iconst 0, 1) := by decide +kernel
theorem dX11_pair_156 : decode cX11_pair 156 = .ok (.ireturn, 1) := by decide +kernel
theorem dX11_pair_157 : decode cX11_pair 157 = .ok (.aload_n 0, 1) := by decide +kernel
theorem dX11_pair_158 : decode cX11_pair 158 = .ok (.iload_n 1, 1) := by decide +kernel
theorem dX11_pair_159 : decode cX11_pair 159 = .ok (.invokevirtual 317, 3) := by decide +kernel
theorem dX11_pair_162 : decode cX11_pair 162 = .ok (.istore 8, 2) := by decide +kernel
theorem dX11_pair_164 : decode cX11_pair 164 = .ok (.aload_n 0, 1) := by decide +kernel
theorem dX11_pair_165 : decode cX11_pair 165 = .ok (.iload_n 2, 1) := by decide +kernel
theorem dX11_pair_166 : decode cX11_pair 166 = .ok (.invokevirtual 317, 3) := by decide +kernel
theorem dX11_pair_169 : decode cX11_pair 169 = .ok (.istore 9, 2) := by decide +kernel
theorem dX11_pair_171 : decode cX11_pair 171 = .ok (.iload 8, 2) := by decide +kernel
theorem dX11_pair_173 : decode cX11_pair 173 = .ok (.iload 9, 2) := by decide +kernel
theorem dX11_pair_175 : decode cX11_pair 175 = .ok (.if_icmp .eq 15, 3) := by decide +kernel
theorem dX11_pair_178 : decode cX11_pair 178 = .ok (.iload 8, 2) := by decide +kernel
theorem dX11_pair_180 : decode cX11_pair 180 = .ok (.iconst (-1), 1) := by decide +kernel
theorem dX11_pair_181 : decode cX11_pair 181 = .ok (.if_icmp .eq 9, 3) := by decide +kernel
theorem dX11_pair_184 : decode cX11_pair 184 = .ok (.iload 9, 2) := by decide +kernel
theorem dX11_pair_186 : decode cX11_pair 186 = .ok (.iconst (-1), 1) := by decide +kernel
theorem dX11_pair_187 : decode cX11_pair 187 = .ok (.if_icmp .ne 7, 3) := by decide +kernel
theorem dX11_pair_190 : decode cX11_pair 190 = .ok (.iconst 1, 1) := by decide +kernel
theorem dX11_pair_191 : decode cX11_pair 191 = .ok (.goto 4, 3) := by decide +kernel
theorem dX11_pair_194 : decode cX11_pair 194 = .ok (.iconst 0, 1) := by decide +kernel
theorem dX11_pair_195 : decode cX11_pair 195 = .ok (.ireturn, 1) := by decide +kernel
theorem dX11_cut_0 : decode cX11_cut 0 = .ok (.iload_n 2, 1) := by decide +kernel
theorem dX11_cut_1 : decode cX11_cut 1 = .ok (.iconst 1, 1) := by decide +kernel
theorem dX11_cut_2 : decode cX11_cut 2 = .ok (.ldc_w 305, 3) := by decide +kernel
theorem dX11_cut_5 : decode cX11_cut 5 = .ok (.invokestatic 158, 3) := by decide +kernel
theorem dX11_cut_8 : decode cX11_cut 8 = .ok (.ifCond .eq 18, 3) := by decide +kernel
theorem dX11_cut_11 : decode cX11_cut 11 = .ok (.iload_n 3, 1) := by decide +kernel
theorem dX11_cut_12 : decode cX11_cut 12 = .ok (.iconst 0, 1) := by decide +kernel
theorem dX11_cut_13 : decode cX11_cut 13 = .ok (.sipush 1000, 3) := by decide +kernel
theorem dX11_cut_16 : decode cX11_cut 16 = .ok (.invokestatic 158, 3) := by decide +kernel
theorem dX11_cut_19 : decode cX11_cut 19 = .ok (.ifCond .eq 7, 3) := by decide +kernel
theorem dX11_cut_22 : decode cX11_cut 22 = .ok (.iconst 1, 1) := by decide +kernel
theorem dX11_cut_23 : decode cX11_cut 23 = .ok (.goto 4, 3) := by decide +kernel
theorem dX11_cut_26 : decode cX11_cut 26 = .ok (.iconst 0, 1) := by decide +kernel
theorem dX11_cut_27 : decode cX11_cut 27 = .ok (.istore 4, 2) := by decide +kernel
theorem dX11_cut_29 : decode cX11_cut 29 = .ok (.aload_n 0, 1) := by decide +kernel
theorem dX11_cut_30 : decode cX11_cut 30 = .ok (.aload_n 0, 1) := by decide +kernel
theorem dX11_cut_31 : decode cX11_cut 31 = .ok (.iload_n 1, 1) := by decide +kernel
theorem dX11_cut_32 : decode cX11_cut 32 = .ok (.invokevirtual 314, 3) := by decide +kernel
theorem dX11_cut_35 : decode cX11_cut 35 = .ok (.ifCond .ne 7, 3) := by decide +kernel
theorem dX11_cut_38 : decode cX11_cut 38 = .ok (.iconst 1, 1) := by decide +kernel
theorem dX11_cut_39 : decode cX11_cut 39 = .ok (.goto 50, 3) := by decide +kernel
theorem dX11_cut_42 : decode cX11_cut 42 = .ok (.iload 4, 2) := by decide +kernel
theorem dX11_cut_44 : decode cX11_cut 44 = .ok (.ifCond .ne 7, 3) := by decide +kernel
theorem dX11_cut_47 : decode cX11_cut 47 = .ok (.iconst 2, 1) := by decide +kernel
theorem dX11_cut_48 : decode cX11_cut 48 = .ok (.goto 41, 3) := by decide +kernel
theorem dX11_cut_51 : decode cX11_cut 51 = .ok (.aload_n 0, 1) := by decide +kernel
theorem dX11_cut_52 : decode cX11_cut 52 = .ok (.getfield 106, 3) := by decide +kernel
theorem dX11_cut_55 : decode cX11_cut 55 = .ok (.iload_n 1, 1) := by decide +kernel
theorem dX11_cut_56 : decode cX11_cut 56 = .ok (.iaload, 1) := by decide +kernel
theorem dX11_cut_57 : decode cX11_cut 57 = .ok (.iconst 2, 1) := by decide +kernel
theorem dX11_cut_58 : decode cX11_cut 58 = .ok (.if_icmp .eq 26, 3) := by decide +kernel
theorem dX11_cut_61 : decode cX11_cut 61 = .ok (.aload_n 0, 1) := by decide +kernel
theorem dX11_cut_62 : decode cX11_cut 62 = .ok (.getfield 100, 3) := by decide +kernel
theorem dX11_cut_65 : decode cX11_cut 65 = .ok (.iload_n 1, 1) := by decide +kernel
theorem dX11_cut_66 : decode cX11_cut 66 = .ok (.iaload, 1) := by decide +kernel
theorem dX11_cut_67 : decode cX11_cut 67 = .ok (.iload_n 2, 1) := by decide +kernel
theorem dX11_cut_68 : decode cX11_cut 68 = .ok (.isub, 1) := by decide +kernel
theorem dX11_cut_69 : decode cX11_cut 69 = .ok (.iload_n 3, 1) := by decide +kernel
theorem dX11_cut_70 : decode cX11_cut 70 = .ok (.isub, 1) := by decide +kernel
theorem dX11_cut_71 : decode cX11_cut 71 = .ok (.iconst 1, 1) := by decide +kernel
theorem dX11_cut_72 : decode cX11_cut 72 = .ok (.if_icmp .lt 12, 3) := by decide +kernel
theorem dX11_cut_75 : decode cX11_cut 75 = .ok (.aload_n 0, 1) := by decide +kernel
theorem dX11_cut_76 : decode cX11_cut 76 = .ok (.getfield 302, 3) := by decide +kernel
theorem dX11_cut_79 : decode cX11_cut 79 = .ok (.bipush 40, 2) := by decide +kernel
theorem dX11_cut_81 : decode cX11_cut 81 = .ok (.if_icmp .ne 7, 3) := by decide +kernel
theorem dX11_cut_84 : decode cX11_cut 84 = .ok (.iconst 3, 1) := by decide +kernel
theorem dX11_cut_85 : decode cX11_cut 85 = .ok (.goto 4, 3) := by decide +kernel
theorem dX11_cut_88 : decode cX11_cut 88 = .ok (.iconst 0, 1) := by decide +kernel
theorem dX11_cut_89 : decode cX11_cut 89 = .ok (.putfield 151, 3) := by decide +kernel
theorem dX11_cut_92 : decode cX11_cut 92 = .ok (.aload_n 0, 1) := by decide +kernel
theorem dX11_cut_93 : decode cX11_cut 93 = .ok (.getfield 151, 3) := by decide +kernel
theorem dX11_cut_96 : decode cX11_cut 96 = .ok (.ifCond .le 5, 3) := by decide +kernel
theorem dX11_cut_99 : decode cX11_cut 99 = .ok (.iconst 0, 1) := by decide +kernel
theorem dX11_cut_100 : decode cX11_cut 100 = .ok (.ireturn, 1) := by decide +kernel
theorem dX11_cut_101 : decode cX11_cut 101 = .ok (.aload_n 0, 1) := by decide +kernel
theorem dX11_cut_102 : decode cX11_cut 102 = .ok (.getfield 100, 3) := by decide +kernel
theorem dX11_cut_105 : decode cX11_cut 105 = .ok (.iload_n 1, 1) := by decide +kernel
theorem dX11_cut_106 : decode cX11_cut 106 = .ok (.dup2, 1) := by decide +kernel
theorem dX11_cut_107 : decode cX11_cut 107 = .ok (.iaload, 1) := by decide +kernel
theorem dX11_cut_108 : decode cX11_cut 108 = .ok (.iload_n 2, 1) := by decide +kernel
theorem dX11_cut_109 : decode cX11_cut 109 = .ok (.iload_n 3, 1) := by decide +kernel
theorem dX11_cut_110 : decode cX11_cut 110 = .ok (.iadd, 1) := by decide +kernel
theorem dX11_cut_111 : decode cX11_cut 111 = .ok (.isub, 1) := by decide +kernel
theorem dX11_cut_112 : decode cX11_cut 112 = .ok (.iastore, 1) := by decide +kernel
theorem dX11_cut_113 : decode cX11_cut 113 = .ok (.aload_n 0, 1) := by decide +kernel
theorem dX11_cut_114 : decode cX11_cut 114 = .ok (.getfield 115, 3) := by decide +kernel
theorem dX11_cut_117 : decode cX11_cut 117 = .ok (.iload_n 1, 1) := by decide +kernel
theorem dX11_cut_118 : decode cX11_cut 118 = .ok (.dup2, 1) := by decide +kernel
theorem dX11_cut_119 : decode cX11_cut 119 = .ok (.iaload, 1) := by decide +kernel
theorem dX11_cut_120 : decode cX11_cut 120 = .ok (.iload_n 3, 1) := by decide +kernel
theorem dX11_cut_121 : decode cX11_cut 121 = .ok (.iadd, 1) := by decide +kernel
theorem dX11_cut_122 : decode cX11_cut 122 = .ok (.iastore, 1) := by decide +kernel
theorem dX11_cut_123 : decode cX11_cut 123 = .ok (.aload_n 0, 1) := by decide +kernel
theorem dX11_cut_124 : decode cX11_cut 124 = .ok (.getfield 118, 3) := by decide +kernel
theorem dX11_cut_127 : decode cX11_cut 127 = .ok (.aload_n 0, 1) := by decide +kernel
theorem dX11_cut_128 : decode cX11_cut 128 = .ok (.getfield 302, 3) := by decide +kernel
theorem dX11_cut_131 : decode cX11_cut 131 = .ok (.aload_n 0, 1) := by decide +kernel
theorem dX11_cut_132 : decode cX11_cut 132 = .ok (.getfield 118, 3) := by decide +kernel
theorem dX11_cut_135 : decode cX11_cut 135 = .ok (.iload_n 1, 1) := by decide +kernel
theorem dX11_cut_136 : decode cX11_cut 136 = .ok (.baload, 1) := by decide +kernel
theorem dX11_cut_137 : decode cX11_cut 137 = .ok (.bastore, 1) := by decide +kernel
theorem dX11_cut_138 : decode cX11_cut 138 = .ok (.aload_n 0, 1) := by decide +kernel
theorem dX11_cut_139 : decode cX11_cut 139 = .ok (.getfield 121, 3) := by decide +kernel
theorem dX11_cut_142 : decode cX11_cut 142 = .ok (.aload_n 0, 1) := by decide +kernel
theorem dX11_cut_143 : decode cX11_cut 143 = .ok (.getfield 302, 3) := by decide +kernel
theorem dX11_cut_146 : decode cX11_cut 146 = .ok (.aload_n 0, 1) := by decide +kernel
theorem dX11_cut_147 : decode cX11_cut 147 = .ok (.getfield 121, 3) := by decide +kernel
theorem dX11_cut_150 : decode cX11_cut 150 = .ok (.iload_n 1, 1) := by decide +kernel
theorem dX11_cut_151 : decode cX11_cut 151 = .ok (.iaload, 1) := by decide +kernel
theorem dX11_cut_152 : decode cX11_cut 152 = .ok (.iastore, 1) := by decide +kernel
theorem dX11_cut_153 : decode cX11_cut 153 = .ok (.aload_n 0, 1) := by decide +kernel
theorem dX11_cut_154 : decode cX11_cut 154 = .ok (.getfield 124, 3) := by decide +kernel
theorem dX11_cut_157 : decode cX11_cut 157 = .ok (.aload_n 0, 1) := by decide +kernel
theorem dX11_cut_158 : decode cX11_cut 158 = .ok (.getfield 302, 3) := by decide +kernel
theorem dX11_cut_161 : decode cX11_cut 161 = .ok (.aload_n 0, 1) := by decide +kernel
theorem dX11_cut_162 : decode cX11_cut 162 = .ok (.getfield 124, 3) := by decide +kernel
theorem dX11_cut_165 : decode cX11_cut 165 = .ok (.iload_n 1, 1) := by decide +kernel
theorem dX11_cut_166 : decode cX11_cut 166 = .ok (.iaload, 1) := by decide +kernel
theorem dX11_cut_167 : decode cX11_cut 167 = .ok (.iastore, 1) := by decide +kernel
theorem dX11_cut_168 : decode cX11_cut 168 = .ok (.aload_n 0, 1) := by decide +kernel
theorem dX11_cut_169 : decode cX11_cut 169 = .ok (.getfield 127, 3) := by decide +kernel
theorem dX11_cut_172 : decode cX11_cut 172 = .ok (.aload_n 0, 1) := by decide +kernel
theorem dX11_cut_173 : decode cX11_cut 173 = .ok (.getfield 302, 3) := by decide +kernel
theorem dX11_cut_176 : decode cX11_cut 176 = .ok (.aload_n 0, 1) := by decide +kernel
theorem dX11_cut_177 : decode cX11_cut 177 = .ok (.getfield 127, 3) := by decide +kernel
theorem dX11_cut_180 : decode cX11_cut 180 = .ok (.iload_n 1, 1) := by decide +kernel
theorem dX11_cut_181 : decode cX11_cut 181 = .ok (.iaload, 1) := by decide +kernel
theorem dX11_cut_182 : decode cX11_cut 182 = .ok (.iastore, 1) := by decide +kernel
theorem dX11_cut_183 : decode cX11_cut 183 = .ok (.aload_n 0, 1) := by decide +kernel
theorem dX11_cut_184 : decode cX11_cut 184 = .ok (.aload_n 0, 1) := by decide +kernel
theorem dX11_cut_185 : decode cX11_cut 185 = .ok (.getfield 91, 3) := by decide +kernel
theorem dX11_cut_188 : decode cX11_cut 188 = .ok (.iload_n 1, 1) := by decide +kernel
theorem dX11_cut_189 : decode cX11_cut 189 = .ok (.iaload, 1) := by decide +kernel
theorem dX11_cut_190 : decode cX11_cut 190 = .ok (.aload_n 0, 1) := by decide +kernel
theorem dX11_cut_191 : decode cX11_cut 191 = .ok (.getfield 94, 3) := by decide +kernel
theorem dX11_cut_194 : decode cX11_cut 194 = .ok (.iload_n 1, 1) := by decide +kernel
theorem dX11_cut_195 : decode cX11_cut 195 = .ok (.iaload, 1) := by decide +kernel
theorem dX11_cut_196 : decode cX11_cut 196 = .ok (.aload_n 0, 1) := by decide +kernel
theorem dX11_cut_197 : decode cX11_cut 197 = .ok (.getfield 97, 3) := by decide +kernel
theorem dX11_cut_200 : decode cX11_cut 200 = .ok (.iload_n 1, 1) := by decide +kernel
theorem dX11_cut_201 : decode cX11_cut 201 = .ok (.iaload, 1) := by decide +kernel
theorem dX11_cut_202 : decode cX11_cut 202 = .ok (.iload_n 2, 1) := by decide +kernel
theorem dX11_cut_203 : decode cX11_cut 203 = .ok (.aload_n 0, 1) := by decide +kernel
theorem dX11_cut_204 : decode cX11_cut 204 = .ok (.getfield 103, 3) := by decide +kernel
theorem dX11_cut_207 : decode cX11_cut 207 = .ok (.iload_n 1, 1) := by decide +kernel
theorem dX11_cut_208 : decode cX11_cut 208 = .ok (.iaload, 1) := by decide +kernel
theorem dX11_cut_209 : decode cX11_cut 209 = .ok (.iload_n 1, 1) := by decide +kernel
theorem dX11_cut_210 : decode cX11_cut 210 = .ok (.invokevirtual 310, 3) := by decide +kernel
theorem dX11_cut_213 : decode cX11_cut 213 = .ok (.ireturn, 1) := by decide +kernel
theorem dX11_lend_0 : decode cX11_lend 0 = .ok (.aload_n 0, 1) := by decide +kernel
theorem dX11_lend_1 : decode cX11_lend 1 = .ok (.iload_n 1, 1) := by decide +kernel
theorem dX11_lend_2 : decode cX11_lend 2 = .ok (.invokevirtual 314, 3) := by decide +kernel
theorem dX11_lend_5 : decode cX11_lend 5 = .ok (.istore_n 3, 1) := by decide +kernel
theorem dX11_lend_6 : decode cX11_lend 6 = .ok (.iload_n 3, 1) := by decide +kernel
theorem dX11_lend_7 : decode cX11_lend 7 = .ok (.ifCond .eq 33, 3) := by decide +kernel
theorem dX11_lend_10 : decode cX11_lend 10 = .ok (.iload_n 2, 1) := by decide +kernel
theorem dX11_lend_11 : decode cX11_lend 11 = .ok (.iconst (-1), 1) := by decide +kernel
theorem dX11_lend_12 : decode cX11_lend 12 = .ok (.if_icmp .ne 15, 3) := by decide +kernel
theorem dX11_lend_15 : decode cX11_lend 15 = .ok (.aload_n 0, 1) := by decide +kernel
theorem dX11_lend_16 : decode cX11_lend 16 = .ok (.getfield 106, 3) := by decide +kernel
theorem dX11_lend_19 : decode cX11_lend 19 = .ok (.iload_n 1, 1) := by decide +kernel
theorem dX11_lend_20 : decode cX11_lend 20 = .ok (.iaload, 1) := by decide +kernel
theorem dX11_lend_21 : decode cX11_lend 21 = .ok (.ifCond .eq 19, 3) := by decide +kernel
theorem dX11_lend_24 : decode cX11_lend 24 = .ok (.goto 12, 3) := by decide +kernel
theorem dX11_lend_27 : decode cX11_lend 27 = .ok (.aload_n 0, 1) := by decide +kernel
theorem dX11_lend_28 : decode cX11_lend 28 = .ok (.getfield 106, 3) := by decide +kernel
theorem dX11_lend_31 : decode cX11_lend 31 = .ok (.iload_n 1, 1) := by decide +kernel
theorem dX11_lend_32 : decode cX11_lend 32 = .ok (.iaload, 1) := by decide +kernel
theorem dX11_lend_33 : decode cX11_lend 33 = .ok (.ifCond .ne 7, 3) := by decide +kernel
theorem dX11_lend_36 : decode cX11_lend 36 = .ok (.iconst 1, 1) := by decide +kernel
theorem dX11_lend_37 : decode cX11_lend 37 = .ok (.goto 4, 3) := by decide +kernel
theorem dX11_lend_40 : decode cX11_lend 40 = .ok (.iconst 0, 1) := by decide +kernel
theorem dX11_lend_41 : decode cX11_lend 41 = .ok (.istore 4, 2) := by decide +kernel
theorem dX11_lend_43 : decode cX11_lend 43 = .ok (.aload_n 0, 1) := by decide +kernel
theorem dX11_lend_44 : decode cX11_lend 44 = .ok (.iload_n 3, 1) := by decide +kernel
theorem dX11_lend_45 : decode cX11_lend 45 = .ok (.ifCond .ne 7, 3) := by decide +kernel
theorem dX11_lend_48 : decode cX11_lend 48 = .ok (.iconst 1, 1) := by decide +kernel
theorem dX11_lend_49 : decode cX11_lend 49 = .ok (.goto 26, 3) := by decide +kernel
theorem dX11_lend_52 : decode cX11_lend 52 = .ok (.iload_n 2, 1) := by decide +kernel
theorem dX11_lend_53 : decode cX11_lend 53 = .ok (.iconst (-1), 1) := by decide +kernel
theorem dX11_lend_54 : decode cX11_lend 54 = .ok (.iconst 3, 1) := by decide +kernel
theorem dX11_lend_55 : decode cX11_lend 55 = .ok (.invokestatic 158, 3) := by decide +kernel
theorem dX11_lend_58 : decode cX11_lend 58 = .ok (.ifCond .ne 7, 3) := by decide +kernel
theorem dX11_lend_61 : decode cX11_lend 61 = .ok (.iconst 2, 1) := by decide +kernel
theorem dX11_lend_62 : decode cX11_lend 62 = .ok (.goto 13, 3) := by decide +kernel
theorem dX11_lend_65 : decode cX11_lend 65 = .ok (.iload 4, 2) := by decide +kernel
theorem dX11_lend_67 : decode cX11_lend 67 = .ok (.ifCond .ne 7, 3) := by decide +kernel
theorem dX11_lend_70 : decode cX11_lend 70 = .ok (.iconst 3, 1) := by decide +kernel
theorem dX11_lend_71 : decode cX11_lend 71 = .ok (.goto 4, 3) := by decide +kernel
theorem dX11_lend_74 : decode cX11_lend 74 = .ok (.iconst 0, 1) := by decide +kernel
theorem dX11_lend_75 : decode cX11_lend 75 = .ok (.putfield 151, 3) := by decide +kernel
theorem dX11_lend_78 : decode cX11_lend 78 = .ok (.aload_n 0, 1) := by decide +kernel
theorem dX11_lend_79 : decode cX11_lend 79 = .ok (.getfield 151, 3) := by decide +kernel
theorem dX11_lend_82 : decode cX11_lend 82 = .ok (.ifCond .ne 26, 3) := by decide +kernel
theorem dX11_lend_85 : decode cX11_lend 85 = .ok (.aload_n 0, 1) := by decide +kernel
theorem dX11_lend_86 : decode cX11_lend 86 = .ok (.getfield 106, 3) := by decide +kernel
theorem dX11_lend_89 : decode cX11_lend 89 = .ok (.iload_n 1, 1) := by decide +kernel
theorem dX11_lend_90 : decode cX11_lend 90 = .ok (.iload_n 2, 1) := by decide +kernel
theorem dX11_lend_91 : decode cX11_lend 91 = .ok (.iconst (-1), 1) := by decide +kernel
theorem dX11_lend_92 : decode cX11_lend 92 = .ok (.if_icmp .ne 7, 3) := by decide +kernel
theorem dX11_lend_95 : decode cX11_lend 95 = .ok (.iconst 0, 1) := by decide +kernel
theorem dX11_lend_96 : decode cX11_lend 96 = .ok (.goto 4, 3) := by decide +kernel
theorem dX11_lend_99 : decode cX11_lend 99 = .ok (.iconst 1, 1) := by decide +kernel
theorem dX11_lend_100 : decode cX11_lend 100 = .ok (.iastore, 1) := by decide +kernel
theorem dX11_lend_101 : decode cX11_lend 101 = .ok (.aload_n 0, 1) := by decide +kernel
theorem dX11_lend_102 : decode cX11_lend 102 = .ok (.getfield 109, 3) := by decide +kernel
theorem dX11_lend_105 : decode cX11_lend 105 = .ok (.iload_n 1, 1) := by decide +kernel
theorem dX11_lend_106 : decode cX11_lend 106 = .ok (.iload_n 2, 1) := by decide +kernel
theorem dX11_lend_107 : decode cX11_lend 107 = .ok (.iastore, 1) := by decide +kernel
theorem dX11_lend_108 : decode cX11_lend 108 = .ok (.return_, 1) := by decide +kernel
theorem dX11_steal_0 : decode cX11_steal 0 = .ok (.aload_n 0, 1) := by decide +kernel
theorem dX11_steal_1 : decode cX11_steal 1 = .ok (.aload_n 0, 1) := by decide +kernel
theorem dX11_steal_2 : decode cX11_steal 2 = .ok (.iload_n 1, 1) := by decide +kernel
theorem dX11_steal_3 : decode cX11_steal 3 = .ok (.invokevirtual 314, 3) := by decide +kernel
theorem dX11_steal_6 : decode cX11_steal 6 = .ok (.ifCond .ne 7, 3) := by decide +kernel
theorem dX11_steal_9 : decode cX11_steal 9 = .ok (.iconst 1, 1) := by decide +kernel
theorem dX11_steal_10 : decode cX11_steal 10 = .ok (.goto 18, 3) := by decide +kernel
theorem dX11_steal_13 : decode cX11_steal 13 = .ok (.aload_n 0, 1) := by decide +kernel
theorem dX11_steal_14 : decode cX11_steal 14 = .ok (.getfield 106, 3) := by decide +kernel
theorem dX11_steal_17 : decode cX11_steal 17 = .ok (.iload_n 1, 1) := by decide +kernel
theorem dX11_steal_18 : decode cX11_steal 18 = .ok (.iaload, 1) := by decide +kernel
theorem dX11_steal_19 : decode cX11_steal 19 = .ok (.iconst 2, 1) := by decide +kernel
theorem dX11_steal_20 : decode cX11_steal 20 = .ok (.if_icmp .ne 7, 3) := by decide +kernel
theorem dX11_steal_23 : decode cX11_steal 23 = .ok (.iconst 2, 1) := by decide +kernel
theorem dX11_steal_24 : decode cX11_steal 24 = .ok (.goto 4, 3) := by decide +kernel
theorem dX11_steal_27 : decode cX11_steal 27 = .ok (.iconst 0, 1) := by decide +kernel
theorem dX11_steal_28 : decode cX11_steal 28 = .ok (.putfield 151, 3) := by decide +kernel
theorem dX11_steal_31 : decode cX11_steal 31 = .ok (.aload_n 0, 1) := by decide +kernel
theorem dX11_steal_32 : decode cX11_steal 32 = .ok (.getfield 151, 3) := by decide +kernel
theorem dX11_steal_35 : decode cX11_steal 35 = .ok (.ifCond .ne 17, 3) := by decide +kernel
theorem dX11_steal_38 : decode cX11_steal 38 = .ok (.aload_n 0, 1) := by decide +kernel
theorem dX11_steal_39 : decode cX11_steal 39 = .ok (.getfield 106, 3) := by decide +kernel
theorem dX11_steal_42 : decode cX11_steal 42 = .ok (.iload_n 1, 1) := by decide +kernel
theorem dX11_steal_43 : decode cX11_steal 43 = .ok (.iconst 2, 1) := by decide +kernel
theorem dX11_steal_44 : decode cX11_steal 44 = .ok (.iastore, 1) := by decide +kernel
theorem dX11_steal_45 : decode cX11_steal 45 = .ok (.aload_n 0, 1) := by decide +kernel
theorem dX11_steal_46 : decode cX11_steal 46 = .ok (.getfield 109, 3) := by decide +kernel
theorem dX11_steal_49 : decode cX11_steal 49 = .ok (.iload_n 1, 1) := by decide +kernel
theorem dX11_steal_50 : decode cX11_steal 50 = .ok (.iconst (-1), 1) := by decide +kernel
theorem dX11_steal_51 : decode cX11_steal 51 = .ok (.iastore, 1) := by decide +kernel
theorem dX11_steal_52 : decode cX11_steal 52 = .ok (.return_, 1) := by decide +kernel
theorem dX11_law_0 : decode cX11_law 0 = .ok (.aload_n 0, 1) := by decide +kernel
theorem dX11_law_1 : decode cX11_law 1 = .ok (.iload_n 1, 1) := by decide +kernel
theorem dX11_law_2 : decode cX11_law 2 = .ok (.iconst 0, 1) := by decide +kernel
theorem dX11_law_3 : decode cX11_law 3 = .ok (.iconst 3, 1) := by decide +kernel
theorem dX11_law_4 : decode cX11_law 4 = .ok (.invokestatic 158, 3) := by decide +kernel
theorem dX11_law_7 : decode cX11_law 7 = .ok (.ifCond .eq 16, 3) := by decide +kernel
theorem dX11_law_10 : decode cX11_law 10 = .ok (.iload_n 2, 1) := by decide +kernel
theorem dX11_law_11 : decode cX11_law 11 = .ok (.iconst 0, 1) := by decide +kernel
theorem dX11_law_12 : decode cX11_law 12 = .ok (.iconst 2, 1) := by decide +kernel
theorem dX11_law_13 : decode cX11_law 13 = .ok (.invokestatic 158, 3) := by decide +kernel
theorem dX11_law_16 : decode cX11_law 16 = .ok (.ifCond .eq 7, 3) := by decide +kernel
theorem dX11_law_19 : decode cX11_law 19 = .ok (.iconst 0, 1) := by decide +kernel
theorem dX11_law_20 : decode cX11_law 20 = .ok (.goto 4, 3) := by decide +kernel
theorem dX11_law_23 : decode cX11_law 23 = .ok (.iconst 1, 1) := by decide +kernel
theorem dX11_law_24 : decode cX11_law 24 = .ok (.putfield 151, 3) := by decide +kernel
theorem dX11_law_27 : decode cX11_law 27 = .ok (.aload_n 0, 1) := by decide +kernel
theorem dX11_law_28 : decode cX11_law 28 = .ok (.getfield 151, 3) := by decide +kernel
theorem dX11_law_31 : decode cX11_law 31 = .ok (.ifCond .le 5, 3) := by decide +kernel
theorem dX11_law_34 : decode cX11_law 34 = .ok (.iconst 0, 1) := by decide +kernel
theorem dX11_law_35 : decode cX11_law 35 = .ok (.ireturn, 1) := by decide +kernel
theorem dX11_law_36 : decode cX11_law 36 = .ok (.aload_n 0, 1) := by decide +kernel
theorem dX11_law_37 : decode cX11_law 37 = .ok (.getfield 148, 3) := by decide +kernel
theorem dX11_law_40 : decode cX11_law 40 = .ok (.iload_n 1, 1) := by decide +kernel
theorem dX11_law_41 : decode cX11_law 41 = .ok (.iaload, 1) := by decide +kernel
theorem dX11_law_42 : decode cX11_law 42 = .ok (.istore_n 3, 1) := by decide +kernel
theorem dX11_law_43 : decode cX11_law 43 = .ok (.aload_n 0, 1) := by decide +kernel
theorem dX11_law_44 : decode cX11_law 44 = .ok (.getfield 148, 3) := by decide +kernel
theorem dX11_law_47 : decode cX11_law 47 = .ok (.iload_n 1, 1) := by decide +kernel
theorem dX11_law_48 : decode cX11_law 48 = .ok (.iload_n 2, 1) := by decide +kernel
theorem dX11_law_49 : decode cX11_law 49 = .ok (.iastore, 1) := by decide +kernel
theorem dX11_law_50 : decode cX11_law 50 = .ok (.iload_n 3, 1) := by decide +kernel
theorem dX11_law_51 : decode cX11_law 51 = .ok (.ireturn, 1) := by decide +kernel
theorem dX11_give_0 : decode cX11_give 0 = .ok (.aload_n 0, 1) := by decide +kernel
theorem dX11_give_1 : decode cX11_give 1 = .ok (.iload_n 1, 1) := by decide +kernel
theorem dX11_give_2 : decode cX11_give 2 = .ok (.invokevirtual 314, 3) := by decide +kernel
theorem dX11_give_5 : decode cX11_give 5 = .ok (.istore_n 3, 1) := by decide +kernel
theorem dX11_give_6 : decode cX11_give 6 = .ok (.iload_n 2, 1) := by decide +kernel
theorem dX11_give_7 : decode cX11_give 7 = .ok (.iconst 0, 1) := by decide +kernel
theorem dX11_give_8 : decode cX11_give 8 = .ok (.iconst 5, 1) := by decide +kernel
theorem dX11_give_9 : decode cX11_give 9 = .ok (.invokestatic 158, 3) := by decide +kernel
theorem dX11_give_12 : decode cX11_give 12 = .ok (.istore 4, 2) := by decide +kernel
theorem dX11_give_14 : decode cX11_give 14 = .ok (.iload_n 3, 1) := by decide +kernel
theorem dX11_give_15 : decode cX11_give 15 = .ok (.ifCond .eq 21, 3) := by decide +kernel
theorem dX11_give_18 : decode cX11_give 18 = .ok (.aload_n 0, 1) := by decide +kernel
theorem dX11_give_19 : decode cX11_give 19 = .ok (.getfield 91, 3) := by decide +kernel
theorem dX11_give_22 : decode cX11_give 22 = .ok (.iload_n 1, 1) := by decide +kernel
theorem dX11_give_23 : decode cX11_give 23 = .ok (.iaload, 1) := by decide +kernel
theorem dX11_give_24 : decode cX11_give 24 = .ok (.aload_n 0, 1) := by decide +kernel
theorem dX11_give_25 : decode cX11_give 25 = .ok (.getfield 94, 3) := by decide +kernel
theorem dX11_give_28 : decode cX11_give 28 = .ok (.iload_n 1, 1) := by decide +kernel
theorem dX11_give_29 : decode cX11_give 29 = .ok (.iaload, 1) := by decide +kernel
theorem dX11_give_30 : decode cX11_give 30 = .ok (.invokestatic 306, 3) := by decide +kernel
theorem dX11_give_33 : decode cX11_give 33 = .ok (.goto 4, 3) := by decide +kernel
theorem dX11_give_36 : decode cX11_give 36 = .ok (.iconst 0, 1) := by decide +kernel
theorem dX11_give_37 : decode cX11_give 37 = .ok (.istore 5, 2) := by decide +kernel
theorem dX11_give_39 : decode cX11_give 39 = .ok (.aload_n 0, 1) := by decide +kernel
theorem dX11_give_40 : decode cX11_give 40 = .ok (.getfield 148, 3) := by decide +kernel
theorem dX11_give_43 : decode cX11_give 43 = .ok (.iload 5, 2) := by decide +kernel
theorem dX11_give_45 : decode cX11_give 45 = .ok (.iaload, 1) := by decide +kernel
theorem dX11_give_46 : decode cX11_give 46 = .ok (.iconst 2, 1) := by decide +kernel
theorem dX11_give_47 : decode cX11_give 47 = .ok (.if_icmp .ne 15, 3) := by decide +kernel
theorem dX11_give_50 : decode cX11_give 50 = .ok (.iload_n 2, 1) := by decide +kernel
theorem dX11_give_51 : decode cX11_give 51 = .ok (.iconst 4, 1) := by decide +kernel
theorem dX11_give_52 : decode cX11_give 52 = .ok (.irem, 1) := by decide +kernel
theorem dX11_give_53 : decode cX11_give 53 = .ok (.iload 5, 2) := by decide +kernel
theorem dX11_give_55 : decode cX11_give 55 = .ok (.if_icmp .eq 7, 3) := by decide +kernel
theorem dX11_give_58 : decode cX11_give 58 = .ok (.iconst 1, 1) := by decide +kernel
theorem dX11_give_59 : decode cX11_give 59 = .ok (.goto 4, 3) := by decide +kernel
theorem dX11_give_62 : decode cX11_give 62 = .ok (.iconst 0, 1) := by decide +kernel
theorem dX11_give_63 : decode cX11_give 63 = .ok (.istore 6, 2) := by decide +kernel
theorem dX11_give_65 : decode cX11_give 65 = .ok (.aload_n 0, 1) := by decide +kernel
theorem dX11_give_66 : decode cX11_give 66 = .ok (.iload_n 3, 1) := by decide +kernel
theorem dX11_give_67 : decode cX11_give 67 = .ok (.ifCond .ne 7, 3) := by decide +kernel
theorem dX11_give_70 : decode cX11_give 70 = .ok (.iconst 1, 1) := by decide +kernel
theorem dX11_give_71 : decode cX11_give 71 = .ok (.goto 41, 3) := by decide +kernel
theorem dX11_give_74 : decode cX11_give 74 = .ok (.iload 4, 2) := by decide +kernel
theorem dX11_give_76 : decode cX11_give 76 = .ok (.ifCond .ne 7, 3) := by decide +kernel
theorem dX11_give_79 : decode cX11_give 79 = .ok (.iconst 2, 1) := by decide +kernel
theorem dX11_give_80 : decode cX11_give 80 = .ok (.goto 32, 3) := by decide +kernel
theorem dX11_give_83 : decode cX11_give 83 = .ok (.aload_n 0, 1) := by decide +kernel
theorem dX11_give_84 : decode cX11_give 84 = .ok (.getfield 106, 3) := by decide +kernel
theorem dX11_give_87 : decode cX11_give 87 = .ok (.iload_n 1, 1) := by decide +kernel
theorem dX11_give_88 : decode cX11_give 88 = .ok (.iaload, 1) := by decide +kernel
theorem dX11_give_89 : decode cX11_give 89 = .ok (.ifCond .ne 18, 3) := by decide +kernel
theorem dX11_give_92 : decode cX11_give 92 = .ok (.aload_n 0, 1) := by decide +kernel
theorem dX11_give_93 : decode cX11_give 93 = .ok (.getfield 103, 3) := by decide +kernel
theorem dX11_give_96 : decode cX11_give 96 = .ok (.iload_n 1, 1) := by decide +kernel
theorem dX11_give_97 : decode cX11_give 97 = .ok (.iaload, 1) := by decide +kernel
theorem dX11_give_98 : decode cX11_give 98 = .ok (.iload_n 2, 1) := by decide +kernel
theorem dX11_give_99 : decode cX11_give 99 = .ok (.if_icmp .eq 8, 3) := by decide +kernel
theorem dX11_give_102 : decode cX11_give 102 = .ok (.iload 6, 2) := by decide +kernel
theorem dX11_give_104 : decode cX11_give 104 = .ok (.ifCond .eq 7, 3) := by decide +kernel
theorem dX11_give_107 : decode cX11_give 107 = .ok (.iconst 3, 1) := by decide +kernel
theorem dX11_give_108 : decode cX11_give 108 = .ok (.goto 4, 3) := by decide +kernel
theorem dX11_give_111 : decode cX11_give 111 = .ok (.iconst 0, 1) := by decide +kernel
theorem dX11_give_112 : decode cX11_give 112 = .ok (.putfield 151, 3) := by decide +kernel
theorem dX11_give_115 : decode cX11_give 115 = .ok (.aload_n 0, 1) := by decide +kernel
theorem dX11_give_116 : decode cX11_give 116 = .ok (.getfield 151, 3) := by decide +kernel
theorem dX11_give_119 : decode cX11_give 119 = .ok (.ifCond .le 5, 3) := by decide +kernel
theorem dX11_give_122 : decode cX11_give 122 = .ok (.iconst 0, 1) := by decide +kernel
theorem dX11_give_123 : decode cX11_give 123 = .ok (.ireturn, 1) := by decide +kernel
theorem dX11_give_124 : decode cX11_give 124 = .ok (.aload_n 0, 1) := by decide +kernel
theorem dX11_give_125 : decode cX11_give 125 = .ok (.getfield 103, 3) := by decide +kernel
theorem dX11_give_128 : decode cX11_give 128 = .ok (.iload_n 1, 1) := by decide +kernel
theorem dX11_give_129 : decode cX11_give 129 = .ok (.iaload, 1) := by decide +kernel
theorem dX11_give_130 : decode cX11_give 130 = .ok (.istore 7, 2) := by decide +kernel
theorem dX11_give_132 : decode cX11_give 132 = .ok (.aload_n 0, 1) := by decide +kernel
theorem dX11_give_133 : decode cX11_give 133 = .ok (.getfield 103, 3) := by decide +kernel
theorem dX11_give_136 : decode cX11_give 136 = .ok (.iload_n 1, 1) := by decide +kernel
theorem dX11_give_137 : decode cX11_give 137 = .ok (.iload_n 2, 1) := by decide +kernel
theorem dX11_give_138 : decode cX11_give 138 = .ok (.iastore, 1) := by decide +kernel
theorem dX11_give_139 : decode cX11_give 139 = .ok (.iload 7, 2) := by decide +kernel
theorem dX11_give_141 : decode cX11_give 141 = .ok (.ireturn, 1) := by decide +kernel
theorem dX11_name_0 : decode cX11_name 0 = .ok (.aload_n 0, 1) := by decide +kernel
theorem dX11_name_1 : decode cX11_name 1 = .ok (.iload_n 1, 1) := by decide +kernel
theorem dX11_name_2 : decode cX11_name 2 = .ok (.invokevirtual 314, 3) := by decide +kernel
theorem dX11_name_5 : decode cX11_name 5 = .ok (.istore_n 3, 1) := by decide +kernel
theorem dX11_name_6 : decode cX11_name 6 = .ok (.aload_n 0, 1) := by decide +kernel
theorem dX11_name_7 : decode cX11_name 7 = .ok (.iload_n 3, 1) := by decide +kernel
theorem dX11_name_8 : decode cX11_name 8 = .ok (.ifCond .ne 7, 3) := by decide +kernel
theorem dX11_name_11 : decode cX11_name 11 = .ok (.iconst 1, 1) := by decide +kernel
theorem dX11_name_12 : decode cX11_name 12 = .ok (.goto 32, 3) := by decide +kernel
theorem dX11_name_15 : decode cX11_name 15 = .ok (.iload_n 2, 1) := by decide +kernel
theorem dX11_name_16 : decode cX11_name 16 = .ok (.iconst 0, 1) := by decide +kernel
theorem dX11_name_17 : decode cX11_name 17 = .ok (.bipush 9, 2) := by decide +kernel
theorem dX11_name_19 : decode cX11_name 19 = .ok (.invokestatic 158, 3) := by decide +kernel
theorem dX11_name_22 : decode cX11_name 22 = .ok (.ifCond .ne 7, 3) := by decide +kernel
theorem dX11_name_25 : decode cX11_name 25 = .ok (.iconst 2, 1) := by decide +kernel
theorem dX11_name_26 : decode cX11_name 26 = .ok (.goto 18, 3) := by decide +kernel
theorem dX11_name_29 : decode cX11_name 29 = .ok (.aload_n 0, 1) := by decide +kernel
theorem dX11_name_30 : decode cX11_name 30 = .ok (.getfield 130, 3) := by decide +kernel
theorem dX11_name_33 : decode cX11_name 33 = .ok (.iload_n 1, 1) := by decide +kernel
theorem dX11_name_34 : decode cX11_name 34 = .ok (.iaload, 1) := by decide +kernel
theorem dX11_name_35 : decode cX11_name 35 = .ok (.iconst (-1), 1) := by decide +kernel
theorem dX11_name_36 : decode cX11_name 36 = .ok (.if_icmp .eq 7, 3) := by decide +kernel
theorem dX11_name_39 : decode cX11_name 39 = .ok (.iconst 3, 1) := by decide +kernel
theorem dX11_name_40 : decode cX11_name 40 = .ok (.goto 4, 3) := by decide +kernel
theorem dX11_name_43 : decode cX11_name 43 = .ok (.iconst 0, 1) := by decide +kernel
theorem dX11_name_44 : decode cX11_name 44 = .ok (.putfield 151, 3) := by decide +kernel
theorem dX11_name_47 : decode cX11_name 47 = .ok (.aload_n 0, 1) := by decide +kernel
theorem dX11_name_48 : decode cX11_name 48 = .ok (.getfield 151, 3) := by decide +kernel
theorem dX11_name_51 : decode cX11_name 51 = .ok (.ifCond .le 5, 3) := by decide +kernel
theorem dX11_name_54 : decode cX11_name 54 = .ok (.iconst 0, 1) := by decide +kernel
theorem dX11_name_55 : decode cX11_name 55 = .ok (.ireturn, 1) := by decide +kernel
theorem dX11_name_56 : decode cX11_name 56 = .ok (.aload_n 0, 1) := by decide +kernel
theorem dX11_name_57 : decode cX11_name 57 = .ok (.getfield 136, 3) := by decide +kernel
theorem dX11_name_60 : decode cX11_name 60 = .ok (.iload_n 2, 1) := by decide +kernel
theorem dX11_name_61 : decode cX11_name 61 = .ok (.dup2, 1) := by decide +kernel
theorem dX11_name_62 : decode cX11_name 62 = .ok (.iaload, 1) := by decide +kernel
theorem dX11_name_63 : decode cX11_name 63 = .ok (.iconst 1, 1) := by decide +kernel
theorem dX11_name_64 : decode cX11_name 64 = .ok (.iadd, 1) := by decide +kernel
theorem dX11_name_65 : decode cX11_name 65 = .ok (.iastore, 1) := by decide +kernel
theorem dX11_name_66 : decode cX11_name 66 = .ok (.aload_n 0, 1) := by decide +kernel
theorem dX11_name_67 : decode cX11_name 67 = .ok (.getfield 130, 3) := by decide +kernel
theorem dX11_name_70 : decode cX11_name 70 = .ok (.iload_n 1, 1) := by decide +kernel
theorem dX11_name_71 : decode cX11_name 71 = .ok (.bipush 100, 2) := by decide +kernel
theorem dX11_name_73 : decode cX11_name 73 = .ok (.iload_n 2, 1) := by decide +kernel
theorem dX11_name_74 : decode cX11_name 74 = .ok (.imul, 1) := by decide +kernel
theorem dX11_name_75 : decode cX11_name 75 = .ok (.aload_n 0, 1) := by decide +kernel
theorem dX11_name_76 : decode cX11_name 76 = .ok (.getfield 136, 3) := by decide +kernel
theorem dX11_name_79 : decode cX11_name 79 = .ok (.iload_n 2, 1) := by decide +kernel
theorem dX11_name_80 : decode cX11_name 80 = .ok (.iaload, 1) := by decide +kernel
theorem dX11_name_81 : decode cX11_name 81 = .ok (.iadd, 1) := by decide +kernel
theorem dX11_name_82 : decode cX11_name 82 = .ok (.iastore, 1) := by decide +kernel
theorem dX11_name_83 : decode cX11_name 83 = .ok (.aload_n 0, 1) := by decide +kernel
theorem dX11_name_84 : decode cX11_name 84 = .ok (.getfield 136, 3) := by decide +kernel
theorem dX11_name_87 : decode cX11_name 87 = .ok (.iload_n 2, 1) := by decide +kernel
theorem dX11_name_88 : decode cX11_name 88 = .ok (.iaload, 1) := by decide +kernel
theorem dX11_name_89 : decode cX11_name 89 = .ok (.ireturn, 1) := by decide +kernel
theorem dX11_doubt_0 : decode cX11_doubt 0 = .ok (.aload_n 0, 1) := by decide +kernel
theorem dX11_doubt_1 : decode cX11_doubt 1 = .ok (.aload_n 0, 1) := by decide +kernel
theorem dX11_doubt_2 : decode cX11_doubt 2 = .ok (.iload_n 1, 1) := by decide +kernel
theorem dX11_doubt_3 : decode cX11_doubt 3 = .ok (.invokevirtual 314, 3) := by decide +kernel
theorem dX11_doubt_6 : decode cX11_doubt 6 = .ok (.ifCond .ne 7, 3) := by decide +kernel
theorem dX11_doubt_9 : decode cX11_doubt 9 = .ok (.iconst 1, 1) := by decide +kernel
theorem dX11_doubt_10 : decode cX11_doubt 10 = .ok (.goto 18, 3) := by decide +kernel
theorem dX11_doubt_13 : decode cX11_doubt 13 = .ok (.aload_n 0, 1) := by decide +kernel
theorem dX11_doubt_14 : decode cX11_doubt 14 = .ok (.getfield 130, 3) := by decide +kernel
theorem dX11_doubt_17 : decode cX11_doubt 17 = .ok (.iload_n 1, 1) := by decide +kernel
theorem dX11_doubt_18 : decode cX11_doubt 18 = .ok (.iaload, 1) := by decide +kernel
theorem dX11_doubt_19 : decode cX11_doubt 19 = .ok (.iconst (-1), 1) := by decide +kernel
theorem dX11_doubt_20 : decode cX11_doubt 20 = .ok (.if_icmp .ne 7, 3) := by decide +kernel
theorem dX11_doubt_23 : decode cX11_doubt 23 = .ok (.iconst 2, 1) := by decide +kernel
theorem dX11_doubt_24 : decode cX11_doubt 24 = .ok (.goto 4, 3) := by decide +kernel
theorem dX11_doubt_27 : decode cX11_doubt 27 = .ok (.iconst 0, 1) := by decide +kernel
theorem dX11_doubt_28 : decode cX11_doubt 28 = .ok (.putfield 151, 3) := by decide +kernel
theorem dX11_doubt_31 : decode cX11_doubt 31 = .ok (.aload_n 0, 1) := by decide +kernel
theorem dX11_doubt_32 : decode cX11_doubt 32 = .ok (.getfield 151, 3) := by decide +kernel
theorem dX11_doubt_35 : decode cX11_doubt 35 = .ok (.ifCond .le 5, 3) := by decide +kernel
theorem dX11_doubt_38 : decode cX11_doubt 38 = .ok (.iconst 0, 1) := by decide +kernel
theorem dX11_doubt_39 : decode cX11_doubt 39 = .ok (.ireturn, 1) := by decide +kernel
theorem dX11_doubt_40 : decode cX11_doubt 40 = .ok (.aload_n 0, 1) := by decide +kernel
theorem dX11_doubt_41 : decode cX11_doubt 41 = .ok (.getfield 133, 3) := by decide +kernel
theorem dX11_doubt_44 : decode cX11_doubt 44 = .ok (.iload_n 1, 1) := by decide +kernel
theorem dX11_doubt_45 : decode cX11_doubt 45 = .ok (.baload, 1) := by decide +kernel
theorem dX11_doubt_46 : decode cX11_doubt 46 = .ok (.istore_n 3, 1) := by decide +kernel
theorem dX11_doubt_47 : decode cX11_doubt 47 = .ok (.aload_n 0, 1) := by decide +kernel
theorem dX11_doubt_48 : decode cX11_doubt 48 = .ok (.getfield 133, 3) := by decide +kernel
theorem dX11_doubt_51 : decode cX11_doubt 51 = .ok (.iload_n 1, 1) := by decide +kernel
theorem dX11_doubt_52 : decode cX11_doubt 52 = .ok (.iload_n 2, 1) := by decide +kernel
theorem dX11_doubt_53 : decode cX11_doubt 53 = .ok (.bastore, 1) := by decide +kernel
theorem dX11_doubt_54 : decode cX11_doubt 54 = .ok (.iload_n 3, 1) := by decide +kernel
theorem dX11_doubt_55 : decode cX11_doubt 55 = .ok (.ireturn, 1) := by decide +kernel
theorem dX11_namesake_0 : decode cX11_namesake 0 = .ok (.iload_n 1, 1) := by decide +kernel
theorem dX11_namesake_1 : decode cX11_namesake 1 = .ok (.istore_n 2, 1) := by decide +kernel
theorem dX11_namesake_2 : decode cX11_namesake 2 = .ok (.iload_n 2, 1) := by decide +kernel
theorem dX11_namesake_3 : decode cX11_namesake 3 = .ok (.iconst (-1), 1) := by decide +kernel
theorem dX11_namesake_4 : decode cX11_namesake 4 = .ok (.if_icmp .eq 23, 3) := by decide +kernel
theorem dX11_namesake_7 : decode cX11_namesake 7 = .ok (.aload_n 0, 1) := by decide +kernel
theorem dX11_namesake_8 : decode cX11_namesake 8 = .ok (.getfield 130, 3) := by decide +kernel
theorem dX11_namesake_11 : decode cX11_namesake 11 = .ok (.iload_n 2, 1) := by decide +kernel
theorem dX11_namesake_12 : decode cX11_namesake 12 = .ok (.iaload, 1) := by decide +kernel
theorem dX11_namesake_13 : decode cX11_namesake 13 = .ok (.iconst (-1), 1) := by decide +kernel
theorem dX11_namesake_14 : decode cX11_namesake 14 = .ok (.if_icmp .ne 13, 3) := by decide +kernel
theorem dX11_namesake_17 : decode cX11_namesake 17 = .ok (.aload_n 0, 1) := by decide +kernel
theorem dX11_namesake_18 : decode cX11_namesake 18 = .ok (.getfield 112, 3) := by decide +kernel
theorem dX11_namesake_21 : decode cX11_namesake 21 = .ok (.iload_n 2, 1) := by decide +kernel
theorem dX11_namesake_22 : decode cX11_namesake 22 = .ok (.iaload, 1) := by decide +kernel
theorem dX11_namesake_23 : decode cX11_namesake 23 = .ok (.istore_n 2, 1) := by decide +kernel
theorem dX11_namesake_24 : decode cX11_namesake 24 = .ok (.goto (-22), 3) := by decide +kernel
theorem dX11_namesake_27 : decode cX11_namesake 27 = .ok (.iload_n 2, 1) := by decide +kernel
theorem dX11_namesake_28 : decode cX11_namesake 28 = .ok (.ireturn, 1) := by decide +kernel
theorem dX11_stone_0 : decode cX11_stone 0 = .ok (.aload_n 0, 1) := by decide +kernel
theorem dX11_stone_1 : decode cX11_stone 1 = .ok (.aload_n 0, 1) := by decide +kernel
theorem dX11_stone_2 : decode cX11_stone 2 = .ok (.iload_n 1, 1) := by decide +kernel
theorem dX11_stone_3 : decode cX11_stone 3 = .ok (.invokevirtual 314, 3) := by decide +kernel
theorem dX11_stone_6 : decode cX11_stone 6 = .ok (.ifCond .ne 7, 3) := by decide +kernel
theorem dX11_stone_9 : decode cX11_stone 9 = .ok (.iconst 1, 1) := by decide +kernel
theorem dX11_stone_10 : decode cX11_stone 10 = .ok (.goto 18, 3) := by decide +kernel
theorem dX11_stone_13 : decode cX11_stone 13 = .ok (.iload_n 2, 1) := by decide +kernel
theorem dX11_stone_14 : decode cX11_stone 14 = .ok (.iconst 0, 1) := by decide +kernel
theorem dX11_stone_15 : decode cX11_stone 15 = .ok (.bipush 7, 2) := by decide +kernel
theorem dX11_stone_17 : decode cX11_stone 17 = .ok (.invokestatic 158, 3) := by decide +kernel
theorem dX11_stone_20 : decode cX11_stone 20 = .ok (.ifCond .ne 7, 3) := by decide +kernel
theorem dX11_stone_23 : decode cX11_stone 23 = .ok (.iconst 2, 1) := by decide +kernel
theorem dX11_stone_24 : decode cX11_stone 24 = .ok (.goto 4, 3) := by decide +kernel
theorem dX11_stone_27 : decode cX11_stone 27 = .ok (.iconst 0, 1) := by decide +kernel
theorem dX11_stone_28 : decode cX11_stone 28 = .ok (.putfield 151, 3) := by decide +kernel
theorem dX11_stone_31 : decode cX11_stone 31 = .ok (.aload_n 0, 1) := by decide +kernel
theorem dX11_stone_32 : decode cX11_stone 32 = .ok (.getfield 151, 3) := by decide +kernel
theorem dX11_stone_35 : decode cX11_stone 35 = .ok (.ifCond .le 5, 3) := by decide +kernel
theorem dX11_stone_38 : decode cX11_stone 38 = .ok (.iconst 0, 1) := by decide +kernel
theorem dX11_stone_39 : decode cX11_stone 39 = .ok (.ireturn, 1) := by decide +kernel
theorem dX11_stone_40 : decode cX11_stone 40 = .ok (.aload_n 0, 1) := by decide +kernel
theorem dX11_stone_41 : decode cX11_stone 41 = .ok (.iload_n 1, 1) := by decide +kernel
theorem dX11_stone_42 : decode cX11_stone 42 = .ok (.invokevirtual 323, 3) := by decide +kernel
theorem dX11_stone_45 : decode cX11_stone 45 = .ok (.istore_n 3, 1) := by decide +kernel
theorem dX11_stone_46 : decode cX11_stone 46 = .ok (.iload_n 2, 1) := by decide +kernel
theorem dX11_stone_47 : decode cX11_stone 47 = .ok (.tableswitch 112 0 6 #[41, 48, 55, 62, 69, 76, 92], 41) := by decide +kernel
theorem dX11_stone_88 : decode cX11_stone 88 = .ok (.aload_n 0, 1) := by decide +kernel
theorem dX11_stone_89 : decode cX11_stone 89 = .ok (.getfield 100, 3) := by decide +kernel
theorem dX11_stone_92 : decode cX11_stone 92 = .ok (.iload_n 1, 1) := by decide +kernel
theorem dX11_stone_93 : decode cX11_stone 93 = .ok (.iaload, 1) := by decide +kernel
theorem dX11_stone_94 : decode cX11_stone 94 = .ok (.ireturn, 1) := by decide +kernel
theorem dX11_stone_95 : decode cX11_stone 95 = .ok (.aload_n 0, 1) := by decide +kernel
theorem dX11_stone_96 : decode cX11_stone 96 = .ok (.getfield 103, 3) := by decide +kernel
theorem dX11_stone_99 : decode cX11_stone 99 = .ok (.iload_n 1, 1) := by decide +kernel
theorem dX11_stone_100 : decode cX11_stone 100 = .ok (.iaload, 1) := by decide +kernel
theorem dX11_stone_101 : decode cX11_stone 101 = .ok (.ireturn, 1) := by decide +kernel
theorem dX11_stone_102 : decode cX11_stone 102 = .ok (.aload_n 0, 1) := by decide +kernel
theorem dX11_stone_103 : decode cX11_stone 103 = .ok (.getfield 106, 3) := by decide +kernel
theorem dX11_stone_106 : decode cX11_stone 106 = .ok (.iload_n 1, 1) := by decide +kernel
theorem dX11_stone_107 : decode cX11_stone 107 = .ok (.iaload, 1) := by decide +kernel
theorem dX11_stone_108 : decode cX11_stone 108 = .ok (.ireturn, 1) := by decide +kernel
theorem dX11_stone_109 : decode cX11_stone 109 = .ok (.aload_n 0, 1) := by decide +kernel
theorem dX11_stone_110 : decode cX11_stone 110 = .ok (.getfield 109, 3) := by decide +kernel
theorem dX11_stone_113 : decode cX11_stone 113 = .ok (.iload_n 1, 1) := by decide +kernel
theorem dX11_stone_114 : decode cX11_stone 114 = .ok (.iaload, 1) := by decide +kernel
theorem dX11_stone_115 : decode cX11_stone 115 = .ok (.ireturn, 1) := by decide +kernel
theorem dX11_stone_116 : decode cX11_stone 116 = .ok (.aload_n 0, 1) := by decide +kernel
theorem dX11_stone_117 : decode cX11_stone 117 = .ok (.getfield 112, 3) := by decide +kernel
theorem dX11_stone_120 : decode cX11_stone 120 = .ok (.iload_n 1, 1) := by decide +kernel
theorem dX11_stone_121 : decode cX11_stone 121 = .ok (.iaload, 1) := by decide +kernel
theorem dX11_stone_122 : decode cX11_stone 122 = .ok (.ireturn, 1) := by decide +kernel
theorem dX11_stone_123 : decode cX11_stone 123 = .ok (.iload_n 3, 1) := by decide +kernel
theorem dX11_stone_124 : decode cX11_stone 124 = .ok (.iconst (-1), 1) := by decide +kernel
theorem dX11_stone_125 : decode cX11_stone 125 = .ok (.if_icmp .ne 7, 3) := by decide +kernel
theorem dX11_stone_128 : decode cX11_stone 128 = .ok (.iconst (-1), 1) := by decide +kernel
theorem dX11_stone_129 : decode cX11_stone 129 = .ok (.goto 9, 3) := by decide +kernel
theorem dX11_stone_132 : decode cX11_stone 132 = .ok (.aload_n 0, 1) := by decide +kernel
theorem dX11_stone_133 : decode cX11_stone 133 = .ok (.getfield 130, 3) := by decide +kernel
theorem dX11_stone_136 : decode cX11_stone 136 = .ok (.iload_n 3, 1) := by decide +kernel
theorem dX11_stone_137 : decode cX11_stone 137 = .ok (.iaload, 1) := by decide +kernel
theorem dX11_stone_138 : decode cX11_stone 138 = .ok (.ireturn, 1) := by decide +kernel
theorem dX11_stone_139 : decode cX11_stone 139 = .ok (.iload_n 3, 1) := by decide +kernel
theorem dX11_stone_140 : decode cX11_stone 140 = .ok (.iconst (-1), 1) := by decide +kernel
theorem dX11_stone_141 : decode cX11_stone 141 = .ok (.if_icmp .eq 16, 3) := by decide +kernel
theorem dX11_stone_144 : decode cX11_stone 144 = .ok (.aload_n 0, 1) := by decide +kernel
theorem dX11_stone_145 : decode cX11_stone 145 = .ok (.getfield 133, 3) := by decide +kernel
theorem dX11_stone_148 : decode cX11_stone 148 = .ok (.iload_n 3, 1) := by decide +kernel
theorem dX11_stone_149 : decode cX11_stone 149 = .ok (.baload, 1) := by decide +kernel
theorem dX11_stone_150 : decode cX11_stone 150 = .ok (.ifCond .eq 7, 3) := by decide +kernel
theorem dX11_stone_153 : decode cX11_stone 153 = .ok (.iconst 1, 1) := by decide +kernel
theorem dX11_stone_154 : decode cX11_stone 154 = .ok (.goto 4, 3) := by decide +kernel
theorem dX11_stone_157 : decode cX11_stone 157 = .ok (.iconst 0, 1) := by decide +kernel
theorem dX11_stone_158 : decode cX11_stone 158 = .ok (.ireturn, 1) := by decide +kernel
theorem dX11_stone_159 : decode cX11_stone 159 = .ok (.aload_n 0, 1) := by decide +kernel
theorem dX11_stone_160 : decode cX11_stone 160 = .ok (.getfield 115, 3) := by decide +kernel
theorem dX11_stone_163 : decode cX11_stone 163 = .ok (.iload_n 1, 1) := by decide +kernel
theorem dX11_stone_164 : decode cX11_stone 164 = .ok (.iaload, 1) := by decide +kernel
theorem dX11_stone_165 : decode cX11_stone 165 = .ok (.ireturn, 1) := by decide +kernel
theorem dX11_isCutFrom_0 : decode cX11_isCutFrom 0 = .ok (.iload_n 1, 1) := by decide +kernel
theorem dX11_isCutFrom_1 : decode cX11_isCutFrom 1 = .ok (.istore_n 3, 1) := by decide +kernel
theorem dX11_isCutFrom_2 : decode cX11_isCutFrom 2 = .ok (.iload_n 3, 1) := by decide +kernel
theorem dX11_isCutFrom_3 : decode cX11_isCutFrom 3 = .ok (.iconst (-1), 1) := by decide +kernel
theorem dX11_isCutFrom_4 : decode cX11_isCutFrom 4 = .ok (.if_icmp .eq 18, 3) := by decide +kernel
theorem dX11_isCutFrom_7 : decode cX11_isCutFrom 7 = .ok (.iload_n 3, 1) := by decide +kernel
theorem dX11_isCutFrom_8 : decode cX11_isCutFrom 8 = .ok (.iload_n 2, 1) := by decide +kernel
theorem dX11_isCutFrom_9 : decode cX11_isCutFrom 9 = .ok (.if_icmp .eq 13, 3) := by decide +kernel
theorem dX11_isCutFrom_12 : decode cX11_isCutFrom 12 = .ok (.aload_n 0, 1) := by decide +kernel
theorem dX11_isCutFrom_13 : decode cX11_isCutFrom 13 = .ok (.getfield 112, 3) := by decide +kernel
theorem dX11_isCutFrom_16 : decode cX11_isCutFrom 16 = .ok (.iload_n 3, 1) := by decide +kernel
theorem dX11_isCutFrom_17 : decode cX11_isCutFrom 17 = .ok (.iaload, 1) := by decide +kernel
theorem dX11_isCutFrom_18 : decode cX11_isCutFrom 18 = .ok (.istore_n 3, 1) := by decide +kernel
theorem dX11_isCutFrom_19 : decode cX11_isCutFrom 19 = .ok (.goto (-17), 3) := by decide +kernel
theorem dX11_isCutFrom_22 : decode cX11_isCutFrom 22 = .ok (.iload_n 3, 1) := by decide +kernel
theorem dX11_isCutFrom_23 : decode cX11_isCutFrom 23 = .ok (.iload_n 2, 1) := by decide +kernel
theorem dX11_isCutFrom_24 : decode cX11_isCutFrom 24 = .ok (.if_icmp .ne 7, 3) := by decide +kernel
theorem dX11_isCutFrom_27 : decode cX11_isCutFrom 27 = .ok (.iconst 1, 1) := by decide +kernel
theorem dX11_isCutFrom_28 : decode cX11_isCutFrom 28 = .ok (.goto 4, 3) := by decide +kernel
theorem dX11_isCutFrom_31 : decode cX11_isCutFrom 31 = .ok (.iconst 0, 1) := by decide +kernel
theorem dX11_isCutFrom_32 : decode cX11_isCutFrom 32 = .ok (.ireturn, 1) := by decide +kernel
theorem dX11_whole_0 : decode cX11_whole 0 = .ok (.aload_n 0, 1) := by decide +kernel
theorem dX11_whole_1 : decode cX11_whole 1 = .ok (.aload_n 0, 1) := by decide +kernel
theorem dX11_whole_2 : decode cX11_whole 2 = .ok (.iload_n 1, 1) := by decide +kernel
theorem dX11_whole_3 : decode cX11_whole 3 = .ok (.invokevirtual 314, 3) := by decide +kernel
theorem dX11_whole_6 : decode cX11_whole 6 = .ok (.ifCond .eq 7, 3) := by decide +kernel
theorem dX11_whole_9 : decode cX11_whole 9 = .ok (.iconst 0, 1) := by decide +kernel
theorem dX11_whole_10 : decode cX11_whole 10 = .ok (.goto 4, 3) := by decide +kernel
theorem dX11_whole_13 : decode cX11_whole 13 = .ok (.iconst 1, 1) := by decide +kernel
theorem dX11_whole_14 : decode cX11_whole 14 = .ok (.putfield 151, 3) := by decide +kernel
theorem dX11_whole_17 : decode cX11_whole 17 = .ok (.iconst 0, 1) := by decide +kernel
theorem dX11_whole_18 : decode cX11_whole 18 = .ok (.istore_n 2, 1) := by decide +kernel
theorem dX11_whole_19 : decode cX11_whole 19 = .ok (.iload_n 1, 1) := by decide +kernel
theorem dX11_whole_20 : decode cX11_whole 20 = .ok (.istore_n 3, 1) := by decide +kernel
theorem dX11_whole_21 : decode cX11_whole 21 = .ok (.iload_n 3, 1) := by decide +kernel
theorem dX11_whole_22 : decode cX11_whole 22 = .ok (.aload_n 0, 1) := by decide +kernel
theorem dX11_whole_23 : decode cX11_whole 23 = .ok (.getfield 302, 3) := by decide +kernel
theorem dX11_whole_26 : decode cX11_whole 26 = .ok (.if_icmp .ge 45, 3) := by decide +kernel
theorem dX11_whole_29 : decode cX11_whole 29 = .ok (.aload_n 0, 1) := by decide +kernel
theorem dX11_whole_30 : decode cX11_whole 30 = .ok (.getfield 151, 3) := by decide +kernel
theorem dX11_whole_33 : decode cX11_whole 33 = .ok (.ifCond .ne 38, 3) := by decide +kernel
theorem dX11_whole_36 : decode cX11_whole 36 = .ok (.iload_n 2, 1) := by decide +kernel
theorem dX11_whole_37 : decode cX11_whole 37 = .ok (.aload_n 0, 1) := by decide +kernel
theorem dX11_whole_38 : decode cX11_whole 38 = .ok (.iload_n 3, 1) := by decide +kernel
theorem dX11_whole_39 : decode cX11_whole 39 = .ok (.iload_n 1, 1) := by decide +kernel
theorem dX11_whole_40 : decode cX11_whole 40 = .ok (.invokevirtual 326, 3) := by decide +kernel
theorem dX11_whole_43 : decode cX11_whole 43 = .ok (.ifCond .eq 19, 3) := by decide +kernel
theorem dX11_whole_46 : decode cX11_whole 46 = .ok (.aload_n 0, 1) := by decide +kernel
theorem dX11_whole_47 : decode cX11_whole 47 = .ok (.getfield 100, 3) := by decide +kernel
theorem dX11_whole_50 : decode cX11_whole 50 = .ok (.iload_n 3, 1) := by decide +kernel
theorem dX11_whole_51 : decode cX11_whole 51 = .ok (.iaload, 1) := by decide +kernel
theorem dX11_whole_52 : decode cX11_whole 52 = .ok (.aload_n 0, 1) := by decide +kernel
theorem dX11_whole_53 : decode cX11_whole 53 = .ok (.getfield 115, 3) := by decide +kernel
theorem dX11_whole_56 : decode cX11_whole 56 = .ok (.iload_n 3, 1) := by decide +kernel
theorem dX11_whole_57 : decode cX11_whole 57 = .ok (.iaload, 1) := by decide +kernel
theorem dX11_whole_58 : decode cX11_whole 58 = .ok (.iadd, 1) := by decide +kernel
theorem dX11_whole_59 : decode cX11_whole 59 = .ok (.goto 4, 3) := by decide +kernel
theorem dX11_whole_62 : decode cX11_whole 62 = .ok (.iconst 0, 1) := by decide +kernel
theorem dX11_whole_63 : decode cX11_whole 63 = .ok (.iadd, 1) := by decide +kernel
theorem dX11_whole_64 : decode cX11_whole 64 = .ok (.istore_n 2, 1) := by decide +kernel
theorem dX11_whole_65 : decode cX11_whole 65 = .ok (.iinc 3 1, 3) := by decide +kernel
theorem dX11_whole_68 : decode cX11_whole 68 = .ok (.goto (-47), 3) := by decide +kernel
theorem dX11_whole_71 : decode cX11_whole 71 = .ok (.iload_n 2, 1) := by decide +kernel
theorem dX11_whole_72 : decode cX11_whole 72 = .ok (.ireturn, 1) := by decide +kernel
theorem dJ9_floorDiv_f86c9_0 : decode cJ9_floorDiv_f86c9 0 = .ok (.lload_n 0, 1) := by decide +kernel
theorem dJ9_floorDiv_f86c9_1 : decode cJ9_floorDiv_f86c9 1 = .ok (.lload_n 2, 1) := by decide +kernel
theorem dJ9_floorDiv_f86c9_2 : decode cJ9_floorDiv_f86c9 2 = .ok (.ldiv, 1) := by decide +kernel
theorem dJ9_floorDiv_f86c9_3 : decode cJ9_floorDiv_f86c9 3 = .ok (.lstore 4, 2) := by decide +kernel
theorem dJ9_floorDiv_f86c9_5 : decode cJ9_floorDiv_f86c9 5 = .ok (.lload_n 0, 1) := by decide +kernel
theorem dJ9_floorDiv_f86c9_6 : decode cJ9_floorDiv_f86c9 6 = .ok (.lload_n 2, 1) := by decide +kernel
theorem dJ9_floorDiv_f86c9_7 : decode cJ9_floorDiv_f86c9 7 = .ok (.lxor, 1) := by decide +kernel
theorem dJ9_floorDiv_f86c9_8 : decode cJ9_floorDiv_f86c9 8 = .ok (.lconst 0, 1) := by decide +kernel
theorem dJ9_floorDiv_f86c9_9 : decode cJ9_floorDiv_f86c9 9 = .ok (.lcmp, 1) := by decide +kernel
theorem dJ9_floorDiv_f86c9_10 : decode cJ9_floorDiv_f86c9 10 = .ok (.ifCond .ge 17, 3) := by decide +kernel
theorem dJ9_floorDiv_f86c9_13 : decode cJ9_floorDiv_f86c9 13 = .ok (.lload 4, 2) := by decide +kernel
theorem dJ9_floorDiv_f86c9_15 : decode cJ9_floorDiv_f86c9 15 = .ok (.lload_n 2, 1) := by decide +kernel
theorem dJ9_floorDiv_f86c9_16 : decode cJ9_floorDiv_f86c9 16 = .ok (.lmul, 1) := by decide +kernel
theorem dJ9_floorDiv_f86c9_17 : decode cJ9_floorDiv_f86c9 17 = .ok (.lload_n 0, 1) := by decide +kernel
theorem dJ9_floorDiv_f86c9_18 : decode cJ9_floorDiv_f86c9 18 = .ok (.lcmp, 1) := by decide +kernel
theorem dJ9_floorDiv_f86c9_19 : decode cJ9_floorDiv_f86c9 19 = .ok (.ifCond .eq 8, 3) := by decide +kernel
theorem dJ9_floorDiv_f86c9_22 : decode cJ9_floorDiv_f86c9 22 = .ok (.lload 4, 2) := by decide +kernel
theorem dJ9_floorDiv_f86c9_24 : decode cJ9_floorDiv_f86c9 24 = .ok (.lconst 1, 1) := by decide +kernel
theorem dJ9_floorDiv_f86c9_25 : decode cJ9_floorDiv_f86c9 25 = .ok (.lsub, 1) := by decide +kernel
theorem dJ9_floorDiv_f86c9_26 : decode cJ9_floorDiv_f86c9 26 = .ok (.lreturn, 1) := by decide +kernel
theorem dJ9_floorDiv_f86c9_27 : decode cJ9_floorDiv_f86c9 27 = .ok (.lload 4, 2) := by decide +kernel
theorem dJ9_floorDiv_f86c9_29 : decode cJ9_floorDiv_f86c9 29 = .ok (.lreturn, 1) := by decide +kernel
theorem dJ9_abs_0f7a4_0 : decode cJ9_abs_0f7a4 0 = .ok (.iload_n 0, 1) := by decide +kernel
theorem dJ9_abs_0f7a4_1 : decode cJ9_abs_0f7a4 1 = .ok (.ifCond .ge 8, 3) := by decide +kernel
theorem dJ9_abs_0f7a4_4 : decode cJ9_abs_0f7a4 4 = .ok (.iload_n 0, 1) := by decide +kernel
theorem dJ9_abs_0f7a4_5 : decode cJ9_abs_0f7a4 5 = .ok (.ineg, 1) := by decide +kernel
theorem dJ9_abs_0f7a4_6 : decode cJ9_abs_0f7a4 6 = .ok (.goto 4, 3) := by decide +kernel
theorem dJ9_abs_0f7a4_9 : decode cJ9_abs_0f7a4 9 = .ok (.iload_n 0, 1) := by decide +kernel
theorem dJ9_abs_0f7a4_10 : decode cJ9_abs_0f7a4 10 = .ok (.ireturn, 1) := by decide +kernel
theorem dJ9_abs_067f4_0 : decode cJ9_abs_067f4 0 = .ok (.lload_n 0, 1) := by decide +kernel
theorem dJ9_abs_067f4_1 : decode cJ9_abs_067f4 1 = .ok (.lconst 0, 1) := by decide +kernel
theorem dJ9_abs_067f4_2 : decode cJ9_abs_067f4 2 = .ok (.lcmp, 1) := by decide +kernel
theorem dJ9_abs_067f4_3 : decode cJ9_abs_067f4 3 = .ok (.ifCond .ge 8, 3) := by decide +kernel
theorem dJ9_abs_067f4_6 : decode cJ9_abs_067f4 6 = .ok (.lload_n 0, 1) := by decide +kernel
theorem dJ9_abs_067f4_7 : decode cJ9_abs_067f4 7 = .ok (.lneg, 1) := by decide +kernel
theorem dJ9_abs_067f4_8 : decode cJ9_abs_067f4 8 = .ok (.goto 4, 3) := by decide +kernel
theorem dJ9_abs_067f4_11 : decode cJ9_abs_067f4 11 = .ok (.lload_n 0, 1) := by decide +kernel
theorem dJ9_abs_067f4_12 : decode cJ9_abs_067f4 12 = .ok (.lreturn, 1) := by decide +kernel
theorem dJ9_max_7cf53_0 : decode cJ9_max_7cf53 0 = .ok (.iload_n 0, 1) := by decide +kernel
theorem dJ9_max_7cf53_1 : decode cJ9_max_7cf53 1 = .ok (.iload_n 1, 1) := by decide +kernel
theorem dJ9_max_7cf53_2 : decode cJ9_max_7cf53 2 = .ok (.if_icmp .lt 7, 3) := by decide +kernel
theorem dJ9_max_7cf53_5 : decode cJ9_max_7cf53 5 = .ok (.iload_n 0, 1) := by decide +kernel
theorem dJ9_max_7cf53_6 : decode cJ9_max_7cf53 6 = .ok (.goto 4, 3) := by decide +kernel
theorem dJ9_max_7cf53_9 : decode cJ9_max_7cf53 9 = .ok (.iload_n 1, 1) := by decide +kernel
theorem dJ9_max_7cf53_10 : decode cJ9_max_7cf53 10 = .ok (.ireturn, 1) := by decide +kernel
theorem dJ9_max_f86c9_0 : decode cJ9_max_f86c9 0 = .ok (.lload_n 0, 1) := by decide +kernel
theorem dJ9_max_f86c9_1 : decode cJ9_max_f86c9 1 = .ok (.lload_n 2, 1) := by decide +kernel
theorem dJ9_max_f86c9_2 : decode cJ9_max_f86c9 2 = .ok (.lcmp, 1) := by decide +kernel
theorem dJ9_max_f86c9_3 : decode cJ9_max_f86c9 3 = .ok (.ifCond .lt 7, 3) := by decide +kernel
theorem dJ9_max_f86c9_6 : decode cJ9_max_f86c9 6 = .ok (.lload_n 0, 1) := by decide +kernel
theorem dJ9_max_f86c9_7 : decode cJ9_max_f86c9 7 = .ok (.goto 4, 3) := by decide +kernel
theorem dJ9_max_f86c9_10 : decode cJ9_max_f86c9 10 = .ok (.lload_n 2, 1) := by decide +kernel
theorem dJ9_max_f86c9_11 : decode cJ9_max_f86c9 11 = .ok (.lreturn, 1) := by decide +kernel
theorem dJ9_min_7cf53_0 : decode cJ9_min_7cf53 0 = .ok (.iload_n 0, 1) := by decide +kernel
theorem dJ9_min_7cf53_1 : decode cJ9_min_7cf53 1 = .ok (.iload_n 1, 1) := by decide +kernel
theorem dJ9_min_7cf53_2 : decode cJ9_min_7cf53 2 = .ok (.if_icmp .gt 7, 3) := by decide +kernel
theorem dJ9_min_7cf53_5 : decode cJ9_min_7cf53 5 = .ok (.iload_n 0, 1) := by decide +kernel
theorem dJ9_min_7cf53_6 : decode cJ9_min_7cf53 6 = .ok (.goto 4, 3) := by decide +kernel
theorem dJ9_min_7cf53_9 : decode cJ9_min_7cf53 9 = .ok (.iload_n 1, 1) := by decide +kernel
theorem dJ9_min_7cf53_10 : decode cJ9_min_7cf53 10 = .ok (.ireturn, 1) := by decide +kernel
theorem dJ9_min_f86c9_0 : decode cJ9_min_f86c9 0 = .ok (.lload_n 0, 1) := by decide +kernel
theorem dJ9_min_f86c9_1 : decode cJ9_min_f86c9 1 = .ok (.lload_n 2, 1) := by decide +kernel
theorem dJ9_min_f86c9_2 : decode cJ9_min_f86c9 2 = .ok (.lcmp, 1) := by decide +kernel
theorem dJ9_min_f86c9_3 : decode cJ9_min_f86c9 3 = .ok (.ifCond .gt 7, 3) := by decide +kernel
theorem dJ9_min_f86c9_6 : decode cJ9_min_f86c9 6 = .ok (.lload_n 0, 1) := by decide +kernel
theorem dJ9_min_f86c9_7 : decode cJ9_min_f86c9 7 = .ok (.goto 4, 3) := by decide +kernel
theorem dJ9_min_f86c9_10 : decode cJ9_min_f86c9 10 = .ok (.lload_n 2, 1) := by decide +kernel
theorem dJ9_min_f86c9_11 : decode cJ9_min_f86c9 11 = .ok (.lreturn, 1) := by decide +kernel
theorem dJxa1e45_init_da8c8_0 : decode cJxa1e45_init_da8c8 0 = .ok (.aload_n 0, 1) := by decide +kernel
theorem dJxa1e45_init_da8c8_1 : decode cJxa1e45_init_da8c8 1 = .ok (.invokespecial 1, 3) := by decide +kernel
theorem dJxa1e45_init_da8c8_4 : decode cJxa1e45_init_da8c8 4 = .ok (.return_, 1) := by decide +kernel
theorem dJxc12de_init_da8c8_0 : decode cJxc12de_init_da8c8 0 = .ok (.aload_n 0, 1) := by decide +kernel
theorem dJxc12de_init_da8c8_1 : decode cJxc12de_init_da8c8 1 = .ok (.invokespecial 1, 3) := by decide +kernel
theorem dJxc12de_init_da8c8_4 : decode cJxc12de_init_da8c8 4 = .ok (.aload_n 0, 1) := by decide +kernel
theorem dJxc12de_init_da8c8_5 : decode cJxc12de_init_da8c8 5 = .ok (.iconst 0, 1) := by decide +kernel
theorem dJxc12de_init_da8c8_6 : decode cJxc12de_init_da8c8 6 = .ok (.putfield 7, 3) := by decide +kernel
theorem dJxc12de_init_da8c8_9 : decode cJxc12de_init_da8c8 9 = .ok (.return_, 1) := by decide +kernel
theorem dJx4a65c_init_da8c8_0 : decode cJx4a65c_init_da8c8 0 = .ok (.aload_n 0, 1) := by decide +kernel
theorem dJx4a65c_init_da8c8_1 : decode cJx4a65c_init_da8c8 1 = .ok (.invokespecial 1, 3) := by decide +kernel
theorem dJx4a65c_init_da8c8_4 : decode cJx4a65c_init_da8c8 4 = .ok (.aload_n 0, 1) := by decide +kernel
theorem dJx4a65c_init_da8c8_5 : decode cJx4a65c_init_da8c8 5 = .ok (.getstatic 39, 3) := by decide +kernel
theorem dJx4a65c_init_da8c8_8 : decode cJx4a65c_init_da8c8 8 = .ok (.putfield 9, 3) := by decide +kernel
theorem dJx4a65c_init_da8c8_11 : decode cJx4a65c_init_da8c8 11 = .ok (.return_, 1) := by decide +kernel
theorem dJx4a65c_grow_92f84_0 : decode cJx4a65c_grow_92f84 0 = .ok (.aload_n 0, 1) := by decide +kernel
theorem dJx4a65c_grow_92f84_1 : decode cJx4a65c_grow_92f84 1 = .ok (.getfield 9, 3) := by decide +kernel
theorem dJx4a65c_grow_92f84_4 : decode cJx4a65c_grow_92f84 4 = .ok (.arraylength, 1) := by decide +kernel
theorem dJx4a65c_grow_92f84_5 : decode cJx4a65c_grow_92f84 5 = .ok (.istore_n 2, 1) := by decide +kernel
theorem dJx4a65c_grow_92f84_6 : decode cJx4a65c_grow_92f84 6 = .ok (.iload_n 2, 1) := by decide +kernel
theorem dJx4a65c_grow_92f84_7 : decode cJx4a65c_grow_92f84 7 = .ok (.ifCond .gt 13, 3) := by decide +kernel
theorem dJx4a65c_grow_92f84_10 : decode cJx4a65c_grow_92f84 10 = .ok (.aload_n 0, 1) := by decide +kernel
theorem dJx4a65c_grow_92f84_11 : decode cJx4a65c_grow_92f84 11 = .ok (.getfield 9, 3) := by decide +kernel
theorem dJx4a65c_grow_92f84_14 : decode cJx4a65c_grow_92f84 14 = .ok (.getstatic 39, 3) := by decide +kernel
theorem dJx4a65c_grow_92f84_17 : decode cJx4a65c_grow_92f84 17 = .ok (.if_acmp .eq 28, 3) := by decide +kernel
theorem dJx4a65c_grow_92f84_20 : decode cJx4a65c_grow_92f84 20 = .ok (.iload_n 2, 1) := by decide +kernel
theorem dJx4a65c_grow_92f84_21 : decode cJx4a65c_grow_92f84 21 = .ok (.iload_n 1, 1) := by decide +kernel
theorem dJx4a65c_grow_92f84_22 : decode cJx4a65c_grow_92f84 22 = .ok (.iload_n 2, 1) := by decide +kernel
theorem dJx4a65c_grow_92f84_23 : decode cJx4a65c_grow_92f84 23 = .ok (.isub, 1) := by decide +kernel
theorem dJx4a65c_grow_92f84_24 : decode cJx4a65c_grow_92f84 24 = .ok (.iload_n 2, 1) := by decide +kernel
theorem dJx4a65c_grow_92f84_25 : decode cJx4a65c_grow_92f84 25 = .ok (.iconst 1, 1) := by decide +kernel
theorem dJx4a65c_grow_92f84_26 : decode cJx4a65c_grow_92f84 26 = .ok (.ishr, 1) := by decide +kernel
theorem dJx4a65c_grow_92f84_27 : decode cJx4a65c_grow_92f84 27 = .ok (.invokestatic 73, 3) := by decide +kernel
theorem dJx4a65c_grow_92f84_30 : decode cJx4a65c_grow_92f84 30 = .ok (.istore_n 3, 1) := by decide +kernel
theorem dJx4a65c_grow_92f84_31 : decode cJx4a65c_grow_92f84 31 = .ok (.aload_n 0, 1) := by decide +kernel
theorem dJx4a65c_grow_92f84_32 : decode cJx4a65c_grow_92f84 32 = .ok (.aload_n 0, 1) := by decide +kernel
theorem dJx4a65c_grow_92f84_33 : decode cJx4a65c_grow_92f84 33 = .ok (.getfield 9, 3) := by decide +kernel
theorem dJx4a65c_grow_92f84_36 : decode cJx4a65c_grow_92f84 36 = .ok (.iload_n 3, 1) := by decide +kernel
theorem dJx4a65c_grow_92f84_37 : decode cJx4a65c_grow_92f84 37 = .ok (.invokestatic 66, 3) := by decide +kernel
theorem dJx4a65c_grow_92f84_40 : decode cJx4a65c_grow_92f84 40 = .ok (.dup_x1, 1) := by decide +kernel
theorem dJx4a65c_grow_92f84_41 : decode cJx4a65c_grow_92f84 41 = .ok (.putfield 9, 3) := by decide +kernel
theorem dJx4a65c_grow_92f84_44 : decode cJx4a65c_grow_92f84 44 = .ok (.areturn, 1) := by decide +kernel
theorem dJx4a65c_grow_92f84_45 : decode cJx4a65c_grow_92f84 45 = .ok (.aload_n 0, 1) := by decide +kernel
theorem dJx4a65c_grow_92f84_46 : decode cJx4a65c_grow_92f84 46 = .ok (.bipush 10, 2) := by decide +kernel
theorem dJx4a65c_grow_92f84_48 : decode cJx4a65c_grow_92f84 48 = .ok (.iload_n 1, 1) := by decide +kernel
theorem dJx4a65c_grow_92f84_49 : decode cJx4a65c_grow_92f84 49 = .ok (.invokestatic 79, 3) := by decide +kernel
theorem dJx4a65c_grow_92f84_52 : decode cJx4a65c_grow_92f84 52 = .ok (.anewarray 7, 3) := by decide +kernel
theorem dJx4a65c_grow_92f84_55 : decode cJx4a65c_grow_92f84 55 = .ok (.dup_x1, 1) := by decide +kernel
theorem dJx4a65c_grow_92f84_56 : decode cJx4a65c_grow_92f84 56 = .ok (.putfield 9, 3) := by decide +kernel
theorem dJx4a65c_grow_92f84_59 : decode cJx4a65c_grow_92f84 59 = .ok (.areturn, 1) := by decide +kernel
theorem dJx4a65c_grow_d5877_0 : decode cJx4a65c_grow_d5877 0 = .ok (.aload_n 0, 1) := by decide +kernel
theorem dJx4a65c_grow_d5877_1 : decode cJx4a65c_grow_d5877 1 = .ok (.aload_n 0, 1) := by decide +kernel
theorem dJx4a65c_grow_d5877_2 : decode cJx4a65c_grow_d5877 2 = .ok (.getfield 48, 3) := by decide +kernel
theorem dJx4a65c_grow_d5877_5 : decode cJx4a65c_grow_d5877 5 = .ok (.iconst 1, 1) := by decide +kernel
theorem dJx4a65c_grow_d5877_6 : decode cJx4a65c_grow_d5877 6 = .ok (.iadd, 1) := by decide +kernel
theorem dJx4a65c_grow_d5877_7 : decode cJx4a65c_grow_d5877 7 = .ok (.invokevirtual 69, 3) := by decide +kernel
theorem dJx4a65c_grow_d5877_10 : decode cJx4a65c_grow_d5877 10 = .ok (.areturn, 1) := by decide +kernel
theorem dJx4a65c_size_8abf5_0 : decode cJx4a65c_size_8abf5 0 = .ok (.aload_n 0, 1) := by decide +kernel
theorem dJx4a65c_size_8abf5_1 : decode cJx4a65c_size_8abf5 1 = .ok (.getfield 48, 3) := by decide +kernel
theorem dJx4a65c_size_8abf5_4 : decode cJx4a65c_size_8abf5 4 = .ok (.ireturn, 1) := by decide +kernel
theorem dJx4a65c_elementData_915e3_0 : decode cJx4a65c_elementData_915e3 0 = .ok (.aload_n 0, 1) := by decide +kernel
theorem dJx4a65c_elementData_915e3_1 : decode cJx4a65c_elementData_915e3 1 = .ok (.getfield 9, 3) := by decide +kernel
theorem dJx4a65c_elementData_915e3_4 : decode cJx4a65c_elementData_915e3 4 = .ok (.iload_n 1, 1) := by decide +kernel
theorem dJx4a65c_elementData_915e3_5 : decode cJx4a65c_elementData_915e3 5 = .ok (.aaload, 1) := by decide +kernel
theorem dJx4a65c_elementData_915e3_6 : decode cJx4a65c_elementData_915e3 6 = .ok (.areturn, 1) := by decide +kernel
theorem dJx4a65c_get_915e3_0 : decode cJx4a65c_get_915e3 0 = .ok (.iload_n 1, 1) := by decide +kernel
theorem dJx4a65c_get_915e3_1 : decode cJx4a65c_get_915e3 1 = .ok (.aload_n 0, 1) := by decide +kernel
theorem dJx4a65c_get_915e3_2 : decode cJx4a65c_get_915e3 2 = .ok (.getfield 48, 3) := by decide +kernel
theorem dJx4a65c_get_915e3_5 : decode cJx4a65c_get_915e3 5 = .ok (.invokestatic 118, 3) := by decide +kernel
theorem dJx4a65c_get_915e3_8 : decode cJx4a65c_get_915e3 8 = .ok (.pop, 1) := by decide +kernel
theorem dJx4a65c_get_915e3_9 : decode cJx4a65c_get_915e3 9 = .ok (.aload_n 0, 1) := by decide +kernel
theorem dJx4a65c_get_915e3_10 : decode cJx4a65c_get_915e3 10 = .ok (.iload_n 1, 1) := by decide +kernel
theorem dJx4a65c_get_915e3_11 : decode cJx4a65c_get_915e3 11 = .ok (.invokevirtual 123, 3) := by decide +kernel
theorem dJx4a65c_get_915e3_14 : decode cJx4a65c_get_915e3 14 = .ok (.areturn, 1) := by decide +kernel
theorem dJx4a65c_add_72be8_0 : decode cJx4a65c_add_72be8 0 = .ok (.iload_n 3, 1) := by decide +kernel
theorem dJx4a65c_add_72be8_1 : decode cJx4a65c_add_72be8 1 = .ok (.aload_n 2, 1) := by decide +kernel
theorem dJx4a65c_add_72be8_2 : decode cJx4a65c_add_72be8 2 = .ok (.arraylength, 1) := by decide +kernel
theorem dJx4a65c_add_72be8_3 : decode cJx4a65c_add_72be8 3 = .ok (.if_icmp .ne 8, 3) := by decide +kernel
theorem dJx4a65c_add_72be8_6 : decode cJx4a65c_add_72be8 6 = .ok (.aload_n 0, 1) := by decide +kernel
theorem dJx4a65c_add_72be8_7 : decode cJx4a65c_add_72be8 7 = .ok (.invokevirtual 129, 3) := by decide +kernel
theorem dJx4a65c_add_72be8_10 : decode cJx4a65c_add_72be8 10 = .ok (.astore_n 2, 1) := by decide +kernel
theorem dJx4a65c_add_72be8_11 : decode cJx4a65c_add_72be8 11 = .ok (.aload_n 2, 1) := by decide +kernel
theorem dJx4a65c_add_72be8_12 : decode cJx4a65c_add_72be8 12 = .ok (.iload_n 3, 1) := by decide +kernel
theorem dJx4a65c_add_72be8_13 : decode cJx4a65c_add_72be8 13 = .ok (.aload_n 1, 1) := by decide +kernel
theorem dJx4a65c_add_72be8_14 : decode cJx4a65c_add_72be8 14 = .ok (.aastore, 1) := by decide +kernel
theorem dJx4a65c_add_72be8_15 : decode cJx4a65c_add_72be8 15 = .ok (.aload_n 0, 1) := by decide +kernel
theorem dJx4a65c_add_72be8_16 : decode cJx4a65c_add_72be8 16 = .ok (.iload_n 3, 1) := by decide +kernel
theorem dJx4a65c_add_72be8_17 : decode cJx4a65c_add_72be8 17 = .ok (.iconst 1, 1) := by decide +kernel
theorem dJx4a65c_add_72be8_18 : decode cJx4a65c_add_72be8 18 = .ok (.iadd, 1) := by decide +kernel
theorem dJx4a65c_add_72be8_19 : decode cJx4a65c_add_72be8 19 = .ok (.putfield 48, 3) := by decide +kernel
theorem dJx4a65c_add_72be8_22 : decode cJx4a65c_add_72be8 22 = .ok (.return_, 1) := by decide +kernel
theorem dJx4a65c_add_9ea2d_0 : decode cJx4a65c_add_9ea2d 0 = .ok (.aload_n 0, 1) := by decide +kernel
theorem dJx4a65c_add_9ea2d_1 : decode cJx4a65c_add_9ea2d 1 = .ok (.dup, 1) := by decide +kernel
theorem dJx4a65c_add_9ea2d_2 : decode cJx4a65c_add_9ea2d 2 = .ok (.getfield 63, 3) := by decide +kernel
theorem dJx4a65c_add_9ea2d_5 : decode cJx4a65c_add_9ea2d 5 = .ok (.iconst 1, 1) := by decide +kernel
theorem dJx4a65c_add_9ea2d_6 : decode cJx4a65c_add_9ea2d 6 = .ok (.iadd, 1) := by decide +kernel
theorem dJx4a65c_add_9ea2d_7 : decode cJx4a65c_add_9ea2d 7 = .ok (.putfield 63, 3) := by decide +kernel
theorem dJx4a65c_add_9ea2d_10 : decode cJx4a65c_add_9ea2d 10 = .ok (.aload_n 0, 1) := by decide +kernel
theorem dJx4a65c_add_9ea2d_11 : decode cJx4a65c_add_9ea2d 11 = .ok (.aload_n 1, 1) := by decide +kernel
theorem dJx4a65c_add_9ea2d_12 : decode cJx4a65c_add_9ea2d 12 = .ok (.aload_n 0, 1) := by decide +kernel
theorem dJx4a65c_add_9ea2d_13 : decode cJx4a65c_add_9ea2d 13 = .ok (.getfield 9, 3) := by decide +kernel
theorem dJx4a65c_add_9ea2d_16 : decode cJx4a65c_add_9ea2d 16 = .ok (.aload_n 0, 1) := by decide +kernel
theorem dJx4a65c_add_9ea2d_17 : decode cJx4a65c_add_9ea2d 17 = .ok (.getfield 48, 3) := by decide +kernel
theorem dJx4a65c_add_9ea2d_20 : decode cJx4a65c_add_9ea2d 20 = .ok (.invokevirtual 131, 3) := by decide +kernel
theorem dJx4a65c_add_9ea2d_23 : decode cJx4a65c_add_9ea2d 23 = .ok (.iconst 1, 1) := by decide +kernel
theorem dJx4a65c_add_9ea2d_24 : decode cJx4a65c_add_9ea2d 24 = .ok (.ireturn, 1) := by decide +kernel
theorem dJ7_copyOf_1904c_0 : decode cJ7_copyOf_1904c 0 = .ok (.aload_n 0, 1) := by decide +kernel
theorem dJ7_copyOf_1904c_1 : decode cJ7_copyOf_1904c 1 = .ok (.iload_n 1, 1) := by decide +kernel
theorem dJ7_copyOf_1904c_2 : decode cJ7_copyOf_1904c 2 = .ok (.aload_n 0, 1) := by decide +kernel
theorem dJ7_copyOf_1904c_3 : decode cJ7_copyOf_1904c 3 = .ok (.invokevirtual 86, 3) := by decide +kernel
theorem dJ7_copyOf_1904c_6 : decode cJ7_copyOf_1904c 6 = .ok (.invokestatic 300, 3) := by decide +kernel
theorem dJ7_copyOf_1904c_9 : decode cJ7_copyOf_1904c 9 = .ok (.areturn, 1) := by decide +kernel
theorem dJ7_copyOf_6403c_0 : decode cJ7_copyOf_6403c 0 = .ok (.aload_n 2, 1) := by decide +kernel
theorem dJ7_copyOf_6403c_1 : decode cJ7_copyOf_6403c 1 = .ok (.ldc 110, 2) := by decide +kernel
theorem dJ7_copyOf_6403c_3 : decode cJ7_copyOf_6403c 3 = .ok (.if_acmp .ne 10, 3) := by decide +kernel
theorem dJ7_copyOf_6403c_6 : decode cJ7_copyOf_6403c 6 = .ok (.iload_n 1, 1) := by decide +kernel
theorem dJ7_copyOf_6403c_7 : decode cJ7_copyOf_6403c 7 = .ok (.anewarray 2, 3) := by decide +kernel
theorem dJ7_copyOf_6403c_10 : decode cJ7_copyOf_6403c 10 = .ok (.goto 14, 3) := by decide +kernel
theorem dJ7_copyOf_6403c_13 : decode cJ7_copyOf_6403c 13 = .ok (.aload_n 2, 1) := by decide +kernel
theorem dJ7_copyOf_6403c_14 : decode cJ7_copyOf_6403c 14 = .ok (.invokevirtual 90, 3) := by decide +kernel
theorem dJ7_copyOf_6403c_17 : decode cJ7_copyOf_6403c 17 = .ok (.iload_n 1, 1) := by decide +kernel
theorem dJ7_copyOf_6403c_18 : decode cJ7_copyOf_6403c 18 = .ok (.invokestatic 95, 3) := by decide +kernel
theorem dJ7_copyOf_6403c_21 : decode cJ7_copyOf_6403c 21 = .ok (.checkcast 110, 3) := by decide +kernel
theorem dJ7_copyOf_6403c_24 : decode cJ7_copyOf_6403c 24 = .ok (.astore_n 3, 1) := by decide +kernel
theorem dJ7_copyOf_6403c_25 : decode cJ7_copyOf_6403c 25 = .ok (.aload_n 0, 1) := by decide +kernel
theorem dJ7_copyOf_6403c_26 : decode cJ7_copyOf_6403c 26 = .ok (.iconst 0, 1) := by decide +kernel
theorem dJ7_copyOf_6403c_27 : decode cJ7_copyOf_6403c 27 = .ok (.aload_n 3, 1) := by decide +kernel
theorem dJ7_copyOf_6403c_28 : decode cJ7_copyOf_6403c 28 = .ok (.iconst 0, 1) := by decide +kernel
theorem dJ7_copyOf_6403c_29 : decode cJ7_copyOf_6403c 29 = .ok (.aload_n 0, 1) := by decide +kernel
theorem dJ7_copyOf_6403c_30 : decode cJ7_copyOf_6403c 30 = .ok (.arraylength, 1) := by decide +kernel
theorem dJ7_copyOf_6403c_31 : decode cJ7_copyOf_6403c 31 = .ok (.iload_n 1, 1) := by decide +kernel
theorem dJ7_copyOf_6403c_32 : decode cJ7_copyOf_6403c 32 = .ok (.invokestatic 304, 3) := by decide +kernel
theorem dJ7_copyOf_6403c_35 : decode cJ7_copyOf_6403c 35 = .ok (.invokestatic 150, 3) := by decide +kernel
theorem dJ7_copyOf_6403c_38 : decode cJ7_copyOf_6403c 38 = .ok (.aload_n 3, 1) := by decide +kernel
theorem dJ7_copyOf_6403c_39 : decode cJ7_copyOf_6403c 39 = .ok (.areturn, 1) := by decide +kernel
theorem dJ15_checkIndex_7cf53_0 : decode cJ15_checkIndex_7cf53 0 = .ok (.iload_n 0, 1) := by decide +kernel
theorem dJ15_checkIndex_7cf53_1 : decode cJ15_checkIndex_7cf53 1 = .ok (.iload_n 1, 1) := by decide +kernel
theorem dJ15_checkIndex_7cf53_2 : decode cJ15_checkIndex_7cf53 2 = .ok (.aconst_null, 1) := by decide +kernel
theorem dJ15_checkIndex_7cf53_3 : decode cJ15_checkIndex_7cf53 3 = .ok (.invokestatic 105, 3) := by decide +kernel
theorem dJ15_checkIndex_7cf53_6 : decode cJ15_checkIndex_7cf53 6 = .ok (.ireturn, 1) := by decide +kernel
theorem dJ8_newLength_cabcc_0 : decode cJ8_newLength_cabcc 0 = .ok (.iload_n 0, 1) := by decide +kernel
theorem dJ8_newLength_cabcc_1 : decode cJ8_newLength_cabcc 1 = .ok (.iload_n 1, 1) := by decide +kernel
theorem dJ8_newLength_cabcc_2 : decode cJ8_newLength_cabcc 2 = .ok (.iload_n 2, 1) := by decide +kernel
theorem dJ8_newLength_cabcc_3 : decode cJ8_newLength_cabcc 3 = .ok (.invokestatic 194, 3) := by decide +kernel
theorem dJ8_newLength_cabcc_6 : decode cJ8_newLength_cabcc 6 = .ok (.iadd, 1) := by decide +kernel
theorem dJ8_newLength_cabcc_7 : decode cJ8_newLength_cabcc 7 = .ok (.istore_n 3, 1) := by decide +kernel
theorem dJ8_newLength_cabcc_8 : decode cJ8_newLength_cabcc 8 = .ok (.iconst 0, 1) := by decide +kernel
theorem dJ8_newLength_cabcc_9 : decode cJ8_newLength_cabcc 9 = .ok (.iload_n 3, 1) := by decide +kernel
theorem dJ8_newLength_cabcc_10 : decode cJ8_newLength_cabcc 10 = .ok (.if_icmp .ge 11, 3) := by decide +kernel
theorem dJ8_newLength_cabcc_13 : decode cJ8_newLength_cabcc 13 = .ok (.iload_n 3, 1) := by decide +kernel
theorem dJ8_newLength_cabcc_14 : decode cJ8_newLength_cabcc 14 = .ok (.ldc 200, 2) := by decide +kernel
theorem dJ8_newLength_cabcc_16 : decode cJ8_newLength_cabcc 16 = .ok (.if_icmp .gt 5, 3) := by decide +kernel
theorem dJ8_newLength_cabcc_19 : decode cJ8_newLength_cabcc 19 = .ok (.iload_n 3, 1) := by decide +kernel
theorem dJ8_newLength_cabcc_20 : decode cJ8_newLength_cabcc 20 = .ok (.ireturn, 1) := by decide +kernel
theorem dJ8_newLength_cabcc_21 : decode cJ8_newLength_cabcc 21 = .ok (.iload_n 0, 1) := by decide +kernel
theorem dJ8_newLength_cabcc_22 : decode cJ8_newLength_cabcc 22 = .ok (.iload_n 1, 1) := by decide +kernel
theorem dJ8_newLength_cabcc_23 : decode cJ8_newLength_cabcc 23 = .ok (.invokestatic 201, 3) := by decide +kernel
theorem dJ8_newLength_cabcc_26 : decode cJ8_newLength_cabcc 26 = .ok (.ireturn, 1) := by decide +kernel
theorem dJ8_hugeLength_7cf53_0 : decode cJ8_hugeLength_7cf53 0 = .ok (.iload_n 0, 1) := by decide +kernel
theorem dJ8_hugeLength_7cf53_1 : decode cJ8_hugeLength_7cf53 1 = .ok (.iload_n 1, 1) := by decide +kernel
theorem dJ8_hugeLength_7cf53_2 : decode cJ8_hugeLength_7cf53 2 = .ok (.iadd, 1) := by decide +kernel
theorem dJ8_hugeLength_7cf53_3 : decode cJ8_hugeLength_7cf53 3 = .ok (.istore_n 2, 1) := by decide +kernel
theorem dJ8_hugeLength_7cf53_4 : decode cJ8_hugeLength_7cf53 4 = .ok (.iload_n 2, 1) := by decide +kernel
theorem dJ8_hugeLength_7cf53_5 : decode cJ8_hugeLength_7cf53 5 = .ok (.ifCond .ge 44, 3) := by decide +kernel
theorem dJ8_hugeLength_7cf53_8 : decode cJ8_hugeLength_7cf53 8 = .ok (.new 204, 3) := by decide +kernel
theorem dJ8_hugeLength_7cf53_11 : decode cJ8_hugeLength_7cf53 11 = .ok (.dup, 1) := by decide +kernel
theorem dJ8_hugeLength_7cf53_12 : decode cJ8_hugeLength_7cf53 12 = .ok (.new 89, 3) := by decide +kernel
theorem dJ8_hugeLength_7cf53_15 : decode cJ8_hugeLength_7cf53 15 = .ok (.dup, 1) := by decide +kernel
theorem dJ8_hugeLength_7cf53_16 : decode cJ8_hugeLength_7cf53 16 = .ok (.invokespecial 91, 3) := by decide +kernel
theorem dJ8_hugeLength_7cf53_19 : decode cJ8_hugeLength_7cf53 19 = .ok (.ldc 206, 2) := by decide +kernel
theorem dJ8_hugeLength_7cf53_21 : decode cJ8_hugeLength_7cf53 21 = .ok (.invokevirtual 94, 3) := by decide +kernel
theorem dJ8_hugeLength_7cf53_24 : decode cJ8_hugeLength_7cf53 24 = .ok (.iload_n 0, 1) := by decide +kernel
theorem dJ8_hugeLength_7cf53_25 : decode cJ8_hugeLength_7cf53 25 = .ok (.invokevirtual 98, 3) := by decide +kernel
theorem dJ8_hugeLength_7cf53_28 : decode cJ8_hugeLength_7cf53 28 = .ok (.ldc 208, 2) := by decide +kernel
theorem dJ8_hugeLength_7cf53_30 : decode cJ8_hugeLength_7cf53 30 = .ok (.invokevirtual 94, 3) := by decide +kernel
theorem dJ8_hugeLength_7cf53_33 : decode cJ8_hugeLength_7cf53 33 = .ok (.iload_n 1, 1) := by decide +kernel
theorem dJ8_hugeLength_7cf53_34 : decode cJ8_hugeLength_7cf53 34 = .ok (.invokevirtual 98, 3) := by decide +kernel
theorem dJ8_hugeLength_7cf53_37 : decode cJ8_hugeLength_7cf53 37 = .ok (.ldc 210, 2) := by decide +kernel
theorem dJ8_hugeLength_7cf53_39 : decode cJ8_hugeLength_7cf53 39 = .ok (.invokevirtual 94, 3) := by decide +kernel
theorem dJ8_hugeLength_7cf53_42 : decode cJ8_hugeLength_7cf53 42 = .ok (.invokevirtual 101, 3) := by decide +kernel
theorem dJ8_hugeLength_7cf53_45 : decode cJ8_hugeLength_7cf53 45 = .ok (.invokespecial 212, 3) := by decide +kernel
theorem dJ8_hugeLength_7cf53_48 : decode cJ8_hugeLength_7cf53 48 = .ok (.athrow, 1) := by decide +kernel
theorem dJ8_hugeLength_7cf53_49 : decode cJ8_hugeLength_7cf53 49 = .ok (.iload_n 2, 1) := by decide +kernel
theorem dJ8_hugeLength_7cf53_50 : decode cJ8_hugeLength_7cf53 50 = .ok (.ldc 200, 2) := by decide +kernel
theorem dJ8_hugeLength_7cf53_52 : decode cJ8_hugeLength_7cf53 52 = .ok (.if_icmp .gt 6, 3) := by decide +kernel
theorem dJ8_hugeLength_7cf53_55 : decode cJ8_hugeLength_7cf53 55 = .ok (.ldc 200, 2) := by decide +kernel
theorem dJ8_hugeLength_7cf53_57 : decode cJ8_hugeLength_7cf53 57 = .ok (.ireturn, 1) := by decide +kernel
theorem dJ8_hugeLength_7cf53_58 : decode cJ8_hugeLength_7cf53 58 = .ok (.iload_n 2, 1) := by decide +kernel
theorem dJ8_hugeLength_7cf53_59 : decode cJ8_hugeLength_7cf53 59 = .ok (.ireturn, 1) := by decide +kernel
theorem dJ3_checkIndex_8e157_0 : decode cJ3_checkIndex_8e157 0 = .ok (.iload_n 0, 1) := by decide +kernel
theorem dJ3_checkIndex_8e157_1 : decode cJ3_checkIndex_8e157 1 = .ok (.ifCond .lt 8, 3) := by decide +kernel
theorem dJ3_checkIndex_8e157_4 : decode cJ3_checkIndex_8e157 4 = .ok (.iload_n 0, 1) := by decide +kernel
theorem dJ3_checkIndex_8e157_5 : decode cJ3_checkIndex_8e157 5 = .ok (.iload_n 1, 1) := by decide +kernel
theorem dJ3_checkIndex_8e157_6 : decode cJ3_checkIndex_8e157 6 = .ok (.if_icmp .lt 10, 3) := by decide +kernel
theorem dJ3_checkIndex_8e157_9 : decode cJ3_checkIndex_8e157 9 = .ok (.aload_n 2, 1) := by decide +kernel
theorem dJ3_checkIndex_8e157_10 : decode cJ3_checkIndex_8e157 10 = .ok (.iload_n 0, 1) := by decide +kernel
theorem dJ3_checkIndex_8e157_11 : decode cJ3_checkIndex_8e157 11 = .ok (.iload_n 1, 1) := by decide +kernel
theorem dJ3_checkIndex_8e157_12 : decode cJ3_checkIndex_8e157 12 = .ok (.invokestatic 95, 3) := by decide +kernel
theorem dJ3_checkIndex_8e157_15 : decode cJ3_checkIndex_8e157 15 = .ok (.athrow, 1) := by decide +kernel
theorem dJ3_checkIndex_8e157_16 : decode cJ3_checkIndex_8e157 16 = .ok (.iload_n 0, 1) := by decide +kernel
theorem dJ3_checkIndex_8e157_17 : decode cJ3_checkIndex_8e157 17 = .ok (.ireturn, 1) := by decide +kernel
theorem dL_camera_0 : decode cL_camera 0 = .ok (.aload 4, 2) := by decide +kernel
theorem dL_camera_2 : decode cL_camera 2 = .ok (.iconst 0, 1) := by decide +kernel
theorem dL_camera_3 : decode cL_camera 3 = .ok (.aload_n 0, 1) := by decide +kernel
theorem dL_camera_4 : decode cL_camera 4 = .ok (.iload_n 1, 1) := by decide +kernel
theorem dL_camera_5 : decode cL_camera 5 = .ok (.iload_n 2, 1) := by decide +kernel
theorem dL_camera_6 : decode cL_camera 6 = .ok (.iload_n 3, 1) := by decide +kernel
theorem dL_camera_7 : decode cL_camera 7 = .ok (.invokevirtual 7, 3) := by decide +kernel
theorem dL_camera_10 : decode cL_camera 10 = .ok (.i2l, 1) := by decide +kernel
theorem dL_camera_11 : decode cL_camera 11 = .ok (.lastore, 1) := by decide +kernel
theorem dL_camera_12 : decode cL_camera 12 = .ok (.goto 11, 3) := by decide +kernel
theorem dL_camera_15 : decode cL_camera 15 = .ok (.astore 5, 2) := by decide +kernel
theorem dL_camera_17 : decode cL_camera 17 = .ok (.iconst 1, 1) := by decide +kernel
theorem dL_camera_18 : decode cL_camera 18 = .ok (.ireturn, 1) := by decide +kernel
theorem dL_camera_19 : decode cL_camera 19 = .ok (.astore 5, 2) := by decide +kernel
theorem dL_camera_21 : decode cL_camera 21 = .ok (.iconst 2, 1) := by decide +kernel
theorem dL_camera_22 : decode cL_camera 22 = .ok (.ireturn, 1) := by decide +kernel
theorem dL_camera_23 : decode cL_camera 23 = .ok (.iconst 0, 1) := by decide +kernel
theorem dL_camera_24 : decode cL_camera 24 = .ok (.ireturn, 1) := by decide +kernel
theorem dL_clock_0 : decode cL_clock 0 = .ok (.aload_n 3, 1) := by decide +kernel
theorem dL_clock_1 : decode cL_clock 1 = .ok (.iconst 0, 1) := by decide +kernel
theorem dL_clock_2 : decode cL_clock 2 = .ok (.aload_n 0, 1) := by decide +kernel
theorem dL_clock_3 : decode cL_clock 3 = .ok (.iload_n 1, 1) := by decide +kernel
theorem dL_clock_4 : decode cL_clock 4 = .ok (.iload_n 2, 1) := by decide +kernel
theorem dL_clock_5 : decode cL_clock 5 = .ok (.invokevirtual 17, 3) := by decide +kernel
theorem dL_clock_8 : decode cL_clock 8 = .ok (.i2l, 1) := by decide +kernel
theorem dL_clock_9 : decode cL_clock 9 = .ok (.lastore, 1) := by decide +kernel
theorem dL_clock_10 : decode cL_clock 10 = .ok (.goto 11, 3) := by decide +kernel
theorem dL_clock_13 : decode cL_clock 13 = .ok (.astore 4, 2) := by decide +kernel
theorem dL_clock_15 : decode cL_clock 15 = .ok (.iconst 1, 1) := by decide +kernel
theorem dL_clock_16 : decode cL_clock 16 = .ok (.ireturn, 1) := by decide +kernel
theorem dL_clock_17 : decode cL_clock 17 = .ok (.astore 4, 2) := by decide +kernel
theorem dL_clock_19 : decode cL_clock 19 = .ok (.iconst 2, 1) := by decide +kernel
theorem dL_clock_20 : decode cL_clock 20 = .ok (.ireturn, 1) := by decide +kernel
theorem dL_clock_21 : decode cL_clock 21 = .ok (.iconst 0, 1) := by decide +kernel
theorem dL_clock_22 : decode cL_clock 22 = .ok (.ireturn, 1) := by decide +kernel
theorem dL_cloud_0 : decode cL_cloud 0 = .ok (.aload_n 3, 1) := by decide +kernel
theorem dL_cloud_1 : decode cL_cloud 1 = .ok (.iconst 0, 1) := by decide +kernel
theorem dL_cloud_2 : decode cL_cloud 2 = .ok (.aload_n 0, 1) := by decide +kernel
theorem dL_cloud_3 : decode cL_cloud 3 = .ok (.iload_n 1, 1) := by decide +kernel
theorem dL_cloud_4 : decode cL_cloud 4 = .ok (.iload_n 2, 1) := by decide +kernel
theorem dL_cloud_5 : decode cL_cloud 5 = .ok (.invokevirtual 23, 3) := by decide +kernel
theorem dL_cloud_8 : decode cL_cloud 8 = .ok (.i2l, 1) := by decide +kernel
theorem dL_cloud_9 : decode cL_cloud 9 = .ok (.lastore, 1) := by decide +kernel
theorem dL_cloud_10 : decode cL_cloud 10 = .ok (.goto 15, 3) := by decide +kernel
theorem dL_cloud_13 : decode cL_cloud 13 = .ok (.astore 4, 2) := by decide +kernel
theorem dL_cloud_15 : decode cL_cloud 15 = .ok (.iconst 1, 1) := by decide +kernel
theorem dL_cloud_16 : decode cL_cloud 16 = .ok (.ireturn, 1) := by decide +kernel
theorem dL_cloud_17 : decode cL_cloud 17 = .ok (.astore 4, 2) := by decide +kernel
theorem dL_cloud_19 : decode cL_cloud 19 = .ok (.iconst 2, 1) := by decide +kernel
theorem dL_cloud_20 : decode cL_cloud 20 = .ok (.ireturn, 1) := by decide +kernel
theorem dL_cloud_21 : decode cL_cloud 21 = .ok (.astore 4, 2) := by decide +kernel
theorem dL_cloud_23 : decode cL_cloud 23 = .ok (.iconst 3, 1) := by decide +kernel
theorem dL_cloud_24 : decode cL_cloud 24 = .ok (.ireturn, 1) := by decide +kernel
theorem dL_cloud_25 : decode cL_cloud 25 = .ok (.iconst 0, 1) := by decide +kernel
theorem dL_cloud_26 : decode cL_cloud 26 = .ok (.ireturn, 1) := by decide +kernel
theorem dL_begin_0 : decode cL_begin 0 = .ok (.aload_n 0, 1) := by decide +kernel
theorem dL_begin_1 : decode cL_begin 1 = .ok (.iload_n 1, 1) := by decide +kernel
theorem dL_begin_2 : decode cL_begin 2 = .ok (.iload_n 2, 1) := by decide +kernel
theorem dL_begin_3 : decode cL_begin 3 = .ok (.iload_n 3, 1) := by decide +kernel
theorem dL_begin_4 : decode cL_begin 4 = .ok (.iload 4, 2) := by decide +kernel
theorem dL_begin_6 : decode cL_begin 6 = .ok (.iload 5, 2) := by decide +kernel
theorem dL_begin_8 : decode cL_begin 8 = .ok (.invokevirtual 26, 3) := by decide +kernel
theorem dL_begin_11 : decode cL_begin 11 = .ok (.goto 15, 3) := by decide +kernel
theorem dL_begin_14 : decode cL_begin 14 = .ok (.astore 6, 2) := by decide +kernel
theorem dL_begin_16 : decode cL_begin 16 = .ok (.iconst 1, 1) := by decide +kernel
theorem dL_begin_17 : decode cL_begin 17 = .ok (.ireturn, 1) := by decide +kernel
theorem dL_begin_18 : decode cL_begin 18 = .ok (.astore 6, 2) := by decide +kernel
theorem dL_begin_20 : decode cL_begin 20 = .ok (.iconst 2, 1) := by decide +kernel
theorem dL_begin_21 : decode cL_begin 21 = .ok (.ireturn, 1) := by decide +kernel
theorem dL_begin_22 : decode cL_begin 22 = .ok (.astore 6, 2) := by decide +kernel
theorem dL_begin_24 : decode cL_begin 24 = .ok (.iconst 3, 1) := by decide +kernel
theorem dL_begin_25 : decode cL_begin 25 = .ok (.ireturn, 1) := by decide +kernel
theorem dL_begin_26 : decode cL_begin 26 = .ok (.iconst 0, 1) := by decide +kernel
theorem dL_begin_27 : decode cL_begin 27 = .ok (.ireturn, 1) := by decide +kernel
theorem dL_end_0 : decode cL_end 0 = .ok (.aload 5, 2) := by decide +kernel
theorem dL_end_2 : decode cL_end 2 = .ok (.iconst 0, 1) := by decide +kernel
theorem dL_end_3 : decode cL_end 3 = .ok (.aload_n 0, 1) := by decide +kernel
theorem dL_end_4 : decode cL_end 4 = .ok (.iload_n 1, 1) := by decide +kernel
theorem dL_end_5 : decode cL_end 5 = .ok (.iload_n 2, 1) := by decide +kernel
theorem dL_end_6 : decode cL_end 6 = .ok (.iload_n 3, 1) := by decide +kernel
theorem dL_end_7 : decode cL_end 7 = .ok (.iload 4, 2) := by decide +kernel
theorem dL_end_9 : decode cL_end 9 = .ok (.invokevirtual 30, 3) := by decide +kernel
theorem dL_end_12 : decode cL_end 12 = .ok (.i2l, 1) := by decide +kernel
theorem dL_end_13 : decode cL_end 13 = .ok (.lastore, 1) := by decide +kernel
theorem dL_end_14 : decode cL_end 14 = .ok (.goto 11, 3) := by decide +kernel
theorem dL_end_17 : decode cL_end 17 = .ok (.astore 6, 2) := by decide +kernel
theorem dL_end_19 : decode cL_end 19 = .ok (.iconst 1, 1) := by decide +kernel
theorem dL_end_20 : decode cL_end 20 = .ok (.ireturn, 1) := by decide +kernel
theorem dL_end_21 : decode cL_end 21 = .ok (.astore 6, 2) := by decide +kernel
theorem dL_end_23 : decode cL_end 23 = .ok (.iconst 2, 1) := by decide +kernel
theorem dL_end_24 : decode cL_end 24 = .ok (.ireturn, 1) := by decide +kernel
theorem dL_end_25 : decode cL_end 25 = .ok (.iconst 0, 1) := by decide +kernel
theorem dL_end_26 : decode cL_end 26 = .ok (.ireturn, 1) := by decide +kernel
theorem dL_fireball_0 : decode cL_fireball 0 = .ok (.aload_n 2, 1) := by decide +kernel
theorem dL_fireball_1 : decode cL_fireball 1 = .ok (.iconst 0, 1) := by decide +kernel
theorem dL_fireball_2 : decode cL_fireball 2 = .ok (.aload_n 0, 1) := by decide +kernel
theorem dL_fireball_3 : decode cL_fireball 3 = .ok (.iload_n 1, 1) := by decide +kernel
theorem dL_fireball_4 : decode cL_fireball 4 = .ok (.invokevirtual 34, 3) := by decide +kernel
theorem dL_fireball_7 : decode cL_fireball 7 = .ok (.i2l, 1) := by decide +kernel
theorem dL_fireball_8 : decode cL_fireball 8 = .ok (.lastore, 1) := by decide +kernel
theorem dL_fireball_9 : decode cL_fireball 9 = .ok (.goto 6, 3) := by decide +kernel
theorem dL_fireball_12 : decode cL_fireball 12 = .ok (.astore_n 3, 1) := by decide +kernel
theorem dL_fireball_13 : decode cL_fireball 13 = .ok (.iconst 1, 1) := by decide +kernel
theorem dL_fireball_14 : decode cL_fireball 14 = .ok (.ireturn, 1) := by decide +kernel
theorem dL_fireball_15 : decode cL_fireball 15 = .ok (.iconst 0, 1) := by decide +kernel
theorem dL_fireball_16 : decode cL_fireball 16 = .ok (.ireturn, 1) := by decide +kernel
theorem dL_fireballAnew_0 : decode cL_fireballAnew 0 = .ok (.aload_n 2, 1) := by decide +kernel
theorem dL_fireballAnew_1 : decode cL_fireballAnew 1 = .ok (.iconst 0, 1) := by decide +kernel
theorem dL_fireballAnew_2 : decode cL_fireballAnew 2 = .ok (.aload_n 0, 1) := by decide +kernel
theorem dL_fireballAnew_3 : decode cL_fireballAnew 3 = .ok (.iload_n 1, 1) := by decide +kernel
theorem dL_fireballAnew_4 : decode cL_fireballAnew 4 = .ok (.invokevirtual 38, 3) := by decide +kernel
theorem dL_fireballAnew_7 : decode cL_fireballAnew 7 = .ok (.i2l, 1) := by decide +kernel
theorem dL_fireballAnew_8 : decode cL_fireballAnew 8 = .ok (.lastore, 1) := by decide +kernel
theorem dL_fireballAnew_9 : decode cL_fireballAnew 9 = .ok (.goto 6, 3) := by decide +kernel
theorem dL_fireballAnew_12 : decode cL_fireballAnew 12 = .ok (.astore_n 3, 1) := by decide +kernel
theorem dL_fireballAnew_13 : decode cL_fireballAnew 13 = .ok (.iconst 1, 1) := by decide +kernel
theorem dL_fireballAnew_14 : decode cL_fireballAnew 14 = .ok (.ireturn, 1) := by decide +kernel
theorem dL_fireballAnew_15 : decode cL_fireballAnew 15 = .ok (.iconst 0, 1) := by decide +kernel
theorem dL_fireballAnew_16 : decode cL_fireballAnew 16 = .ok (.ireturn, 1) := by decide +kernel
theorem dL_fireballs_0 : decode cL_fireballs 0 = .ok (.aload_n 2, 1) := by decide +kernel
theorem dL_fireballs_1 : decode cL_fireballs 1 = .ok (.iconst 0, 1) := by decide +kernel
theorem dL_fireballs_2 : decode cL_fireballs 2 = .ok (.aload_n 0, 1) := by decide +kernel
theorem dL_fireballs_3 : decode cL_fireballs 3 = .ok (.iload_n 1, 1) := by decide +kernel
theorem dL_fireballs_4 : decode cL_fireballs 4 = .ok (.invokevirtual 41, 3) := by decide +kernel
theorem dL_fireballs_7 : decode cL_fireballs 7 = .ok (.i2l, 1) := by decide +kernel
theorem dL_fireballs_8 : decode cL_fireballs 8 = .ok (.lastore, 1) := by decide +kernel
theorem dL_fireballs_9 : decode cL_fireballs 9 = .ok (.goto 6, 3) := by decide +kernel
theorem dL_fireballs_12 : decode cL_fireballs 12 = .ok (.astore_n 3, 1) := by decide +kernel
theorem dL_fireballs_13 : decode cL_fireballs 13 = .ok (.iconst 1, 1) := by decide +kernel
theorem dL_fireballs_14 : decode cL_fireballs 14 = .ok (.ireturn, 1) := by decide +kernel
theorem dL_fireballs_15 : decode cL_fireballs 15 = .ok (.iconst 0, 1) := by decide +kernel
theorem dL_fireballs_16 : decode cL_fireballs 16 = .ok (.ireturn, 1) := by decide +kernel
theorem dL_told_0 : decode cL_told 0 = .ok (.aload_n 3, 1) := by decide +kernel
theorem dL_told_1 : decode cL_told 1 = .ok (.iconst 0, 1) := by decide +kernel
theorem dL_told_2 : decode cL_told 2 = .ok (.aload_n 0, 1) := by decide +kernel
theorem dL_told_3 : decode cL_told 3 = .ok (.iload_n 1, 1) := by decide +kernel
theorem dL_told_4 : decode cL_told 4 = .ok (.iload_n 2, 1) := by decide +kernel
theorem dL_told_5 : decode cL_told 5 = .ok (.invokevirtual 44, 3) := by decide +kernel
theorem dL_told_8 : decode cL_told 8 = .ok (.lastore, 1) := by decide +kernel
theorem dL_told_9 : decode cL_told 9 = .ok (.goto 11, 3) := by decide +kernel
theorem dL_told_12 : decode cL_told 12 = .ok (.astore 4, 2) := by decide +kernel
theorem dL_told_14 : decode cL_told 14 = .ok (.iconst 1, 1) := by decide +kernel
theorem dL_told_15 : decode cL_told 15 = .ok (.ireturn, 1) := by decide +kernel
theorem dL_told_16 : decode cL_told 16 = .ok (.astore 4, 2) := by decide +kernel
theorem dL_told_18 : decode cL_told 18 = .ok (.iconst 2, 1) := by decide +kernel
theorem dL_told_19 : decode cL_told 19 = .ok (.ireturn, 1) := by decide +kernel
theorem dL_told_20 : decode cL_told 20 = .ok (.iconst 0, 1) := by decide +kernel
theorem dL_told_21 : decode cL_told 21 = .ok (.ireturn, 1) := by decide +kernel
theorem dL_stream_0 : decode cL_stream 0 = .ok (.aload_n 3, 1) := by decide +kernel
theorem dL_stream_1 : decode cL_stream 1 = .ok (.iconst 0, 1) := by decide +kernel
theorem dL_stream_2 : decode cL_stream 2 = .ok (.aload_n 0, 1) := by decide +kernel
theorem dL_stream_3 : decode cL_stream 3 = .ok (.iload_n 1, 1) := by decide +kernel
theorem dL_stream_4 : decode cL_stream 4 = .ok (.iload_n 2, 1) := by decide +kernel
theorem dL_stream_5 : decode cL_stream 5 = .ok (.invokevirtual 48, 3) := by decide +kernel
theorem dL_stream_8 : decode cL_stream 8 = .ok (.ifCond .eq 7, 3) := by decide +kernel
theorem dL_stream_11 : decode cL_stream 11 = .ok (.lconst 1, 1) := by decide +kernel
theorem dL_stream_12 : decode cL_stream 12 = .ok (.goto 4, 3) := by decide +kernel
theorem dL_stream_15 : decode cL_stream 15 = .ok (.lconst 0, 1) := by decide +kernel
theorem dL_stream_16 : decode cL_stream 16 = .ok (.lastore, 1) := by decide +kernel
theorem dL_stream_17 : decode cL_stream 17 = .ok (.goto 7, 3) := by decide +kernel
theorem dL_stream_20 : decode cL_stream 20 = .ok (.astore 4, 2) := by decide +kernel
theorem dL_stream_22 : decode cL_stream 22 = .ok (.iconst 1, 1) := by decide +kernel
theorem dL_stream_23 : decode cL_stream 23 = .ok (.ireturn, 1) := by decide +kernel
theorem dL_stream_24 : decode cL_stream 24 = .ok (.iconst 0, 1) := by decide +kernel
theorem dL_stream_25 : decode cL_stream 25 = .ok (.ireturn, 1) := by decide +kernel
theorem dL_flux_0 : decode cL_flux 0 = .ok (.aload 4, 2) := by decide +kernel
theorem dL_flux_2 : decode cL_flux 2 = .ok (.iconst 0, 1) := by decide +kernel
theorem dL_flux_3 : decode cL_flux 3 = .ok (.aload_n 0, 1) := by decide +kernel
theorem dL_flux_4 : decode cL_flux 4 = .ok (.iload_n 1, 1) := by decide +kernel
theorem dL_flux_5 : decode cL_flux 5 = .ok (.iload_n 2, 1) := by decide +kernel
theorem dL_flux_6 : decode cL_flux 6 = .ok (.iload_n 3, 1) := by decide +kernel
theorem dL_flux_7 : decode cL_flux 7 = .ok (.invokevirtual 52, 3) := by decide +kernel
theorem dL_flux_10 : decode cL_flux 10 = .ok (.i2l, 1) := by decide +kernel
theorem dL_flux_11 : decode cL_flux 11 = .ok (.lastore, 1) := by decide +kernel
theorem dL_flux_12 : decode cL_flux 12 = .ok (.goto 7, 3) := by decide +kernel
theorem dL_flux_15 : decode cL_flux 15 = .ok (.astore 5, 2) := by decide +kernel
theorem dL_flux_17 : decode cL_flux 17 = .ok (.iconst 1, 1) := by decide +kernel
theorem dL_flux_18 : decode cL_flux 18 = .ok (.ireturn, 1) := by decide +kernel
theorem dL_flux_19 : decode cL_flux 19 = .ok (.iconst 0, 1) := by decide +kernel
theorem dL_flux_20 : decode cL_flux 20 = .ok (.ireturn, 1) := by decide +kernel
theorem dL_wind_0 : decode cL_wind 0 = .ok (.aload_n 0, 1) := by decide +kernel
theorem dL_wind_1 : decode cL_wind 1 = .ok (.iload_n 1, 1) := by decide +kernel
theorem dL_wind_2 : decode cL_wind 2 = .ok (.iload_n 2, 1) := by decide +kernel
theorem dL_wind_3 : decode cL_wind 3 = .ok (.iload_n 3, 1) := by decide +kernel
theorem dL_wind_4 : decode cL_wind 4 = .ok (.invokevirtual 55, 3) := by decide +kernel
theorem dL_wind_7 : decode cL_wind 7 = .ok (.goto 11, 3) := by decide +kernel
theorem dL_wind_10 : decode cL_wind 10 = .ok (.astore 4, 2) := by decide +kernel
theorem dL_wind_12 : decode cL_wind 12 = .ok (.iconst 1, 1) := by decide +kernel
theorem dL_wind_13 : decode cL_wind 13 = .ok (.ireturn, 1) := by decide +kernel
theorem dL_wind_14 : decode cL_wind 14 = .ok (.astore 4, 2) := by decide +kernel
theorem dL_wind_16 : decode cL_wind 16 = .ok (.iconst 2, 1) := by decide +kernel
theorem dL_wind_17 : decode cL_wind 17 = .ok (.ireturn, 1) := by decide +kernel
theorem dL_wind_18 : decode cL_wind 18 = .ok (.iconst 0, 1) := by decide +kernel
theorem dL_wind_19 : decode cL_wind 19 = .ok (.ireturn, 1) := by decide +kernel
theorem dL_walk_0 : decode cL_walk 0 = .ok (.aload 5, 2) := by decide +kernel
theorem dL_walk_2 : decode cL_walk 2 = .ok (.iconst 0, 1) := by decide +kernel
theorem dL_walk_3 : decode cL_walk 3 = .ok (.aload_n 0, 1) := by decide +kernel
theorem dL_walk_4 : decode cL_walk 4 = .ok (.iload_n 1, 1) := by decide +kernel
theorem dL_walk_5 : decode cL_walk 5 = .ok (.iload_n 2, 1) := by decide +kernel
theorem dL_walk_6 : decode cL_walk 6 = .ok (.iload_n 3, 1) := by decide +kernel
theorem dL_walk_7 : decode cL_walk 7 = .ok (.iload 4, 2) := by decide +kernel
theorem dL_walk_9 : decode cL_walk 9 = .ok (.invokevirtual 59, 3) := by decide +kernel
theorem dL_walk_12 : decode cL_walk 12 = .ok (.lastore, 1) := by decide +kernel
theorem dL_walk_13 : decode cL_walk 13 = .ok (.goto 15, 3) := by decide +kernel
theorem dL_walk_16 : decode cL_walk 16 = .ok (.astore 6, 2) := by decide +kernel
theorem dL_walk_18 : decode cL_walk 18 = .ok (.iconst 1, 1) := by decide +kernel
theorem dL_walk_19 : decode cL_walk 19 = .ok (.ireturn, 1) := by decide +kernel
theorem dL_walk_20 : decode cL_walk 20 = .ok (.astore 6, 2) := by decide +kernel
theorem dL_walk_22 : decode cL_walk 22 = .ok (.iconst 2, 1) := by decide +kernel
theorem dL_walk_23 : decode cL_walk 23 = .ok (.ireturn, 1) := by decide +kernel
theorem dL_walk_24 : decode cL_walk 24 = .ok (.astore 6, 2) := by decide +kernel
theorem dL_walk_26 : decode cL_walk 26 = .ok (.iconst 3, 1) := by decide +kernel
theorem dL_walk_27 : decode cL_walk 27 = .ok (.ireturn, 1) := by decide +kernel
theorem dL_walk_28 : decode cL_walk 28 = .ok (.iconst 0, 1) := by decide +kernel
theorem dL_walk_29 : decode cL_walk 29 = .ok (.ireturn, 1) := by decide +kernel
theorem dL_chance_0 : decode cL_chance 0 = .ok (.aload 4, 2) := by decide +kernel
theorem dL_chance_2 : decode cL_chance 2 = .ok (.iconst 0, 1) := by decide +kernel
theorem dL_chance_3 : decode cL_chance 3 = .ok (.aload_n 0, 1) := by decide +kernel
theorem dL_chance_4 : decode cL_chance 4 = .ok (.iload_n 1, 1) := by decide +kernel
theorem dL_chance_5 : decode cL_chance 5 = .ok (.iload_n 2, 1) := by decide +kernel
theorem dL_chance_6 : decode cL_chance 6 = .ok (.iload_n 3, 1) := by decide +kernel
theorem dL_chance_7 : decode cL_chance 7 = .ok (.invokevirtual 63, 3) := by decide +kernel
theorem dL_chance_10 : decode cL_chance 10 = .ok (.lastore, 1) := by decide +kernel
theorem dL_chance_11 : decode cL_chance 11 = .ok (.goto 11, 3) := by decide +kernel
theorem dL_chance_14 : decode cL_chance 14 = .ok (.astore 5, 2) := by decide +kernel
theorem dL_chance_16 : decode cL_chance 16 = .ok (.iconst 1, 1) := by decide +kernel
theorem dL_chance_17 : decode cL_chance 17 = .ok (.ireturn, 1) := by decide +kernel
theorem dL_chance_18 : decode cL_chance 18 = .ok (.astore 5, 2) := by decide +kernel
theorem dL_chance_20 : decode cL_chance 20 = .ok (.iconst 2, 1) := by decide +kernel
theorem dL_chance_21 : decode cL_chance 21 = .ok (.ireturn, 1) := by decide +kernel
theorem dL_chance_22 : decode cL_chance 22 = .ok (.iconst 0, 1) := by decide +kernel
theorem dL_chance_23 : decode cL_chance 23 = .ok (.ireturn, 1) := by decide +kernel
theorem dL_find_0 : decode cL_find 0 = .ok (.aload 6, 2) := by decide +kernel
theorem dL_find_2 : decode cL_find 2 = .ok (.iconst 0, 1) := by decide +kernel
theorem dL_find_3 : decode cL_find 3 = .ok (.aload_n 0, 1) := by decide +kernel
theorem dL_find_4 : decode cL_find 4 = .ok (.iload_n 1, 1) := by decide +kernel
theorem dL_find_5 : decode cL_find 5 = .ok (.iload_n 2, 1) := by decide +kernel
theorem dL_find_6 : decode cL_find 6 = .ok (.iload_n 3, 1) := by decide +kernel
theorem dL_find_7 : decode cL_find 7 = .ok (.iload 4, 2) := by decide +kernel
theorem dL_find_9 : decode cL_find 9 = .ok (.iload 5, 2) := by decide +kernel
theorem dL_find_11 : decode cL_find 11 = .ok (.invokevirtual 67, 3) := by decide +kernel
theorem dL_find_14 : decode cL_find 14 = .ok (.i2l, 1) := by decide +kernel
theorem dL_find_15 : decode cL_find 15 = .ok (.lastore, 1) := by decide +kernel
theorem dL_find_16 : decode cL_find 16 = .ok (.goto 11, 3) := by decide +kernel
theorem dL_find_19 : decode cL_find 19 = .ok (.astore 7, 2) := by decide +kernel
theorem dL_find_21 : decode cL_find 21 = .ok (.iconst 1, 1) := by decide +kernel
theorem dL_find_22 : decode cL_find 22 = .ok (.ireturn, 1) := by decide +kernel
theorem dL_find_23 : decode cL_find 23 = .ok (.astore 7, 2) := by decide +kernel
theorem dL_find_25 : decode cL_find 25 = .ok (.iconst 2, 1) := by decide +kernel
theorem dL_find_26 : decode cL_find 26 = .ok (.ireturn, 1) := by decide +kernel
theorem dL_find_27 : decode cL_find 27 = .ok (.iconst 0, 1) := by decide +kernel
theorem dL_find_28 : decode cL_find 28 = .ok (.ireturn, 1) := by decide +kernel
theorem dL_fall_0 : decode cL_fall 0 = .ok (.aload_n 2, 1) := by decide +kernel
theorem dL_fall_1 : decode cL_fall 1 = .ok (.iconst 0, 1) := by decide +kernel
theorem dL_fall_2 : decode cL_fall 2 = .ok (.aload_n 0, 1) := by decide +kernel
theorem dL_fall_3 : decode cL_fall 3 = .ok (.iload_n 1, 1) := by decide +kernel
theorem dL_fall_4 : decode cL_fall 4 = .ok (.invokevirtual 71, 3) := by decide +kernel
theorem dL_fall_7 : decode cL_fall 7 = .ok (.i2l, 1) := by decide +kernel
theorem dL_fall_8 : decode cL_fall 8 = .ok (.lastore, 1) := by decide +kernel
theorem dL_fall_9 : decode cL_fall 9 = .ok (.goto 6, 3) := by decide +kernel
theorem dL_fall_12 : decode cL_fall 12 = .ok (.astore_n 3, 1) := by decide +kernel
theorem dL_fall_13 : decode cL_fall 13 = .ok (.iconst 1, 1) := by decide +kernel
theorem dL_fall_14 : decode cL_fall 14 = .ok (.ireturn, 1) := by decide +kernel
theorem dL_fall_15 : decode cL_fall 15 = .ok (.iconst 0, 1) := by decide +kernel
theorem dL_fall_16 : decode cL_fall 16 = .ok (.ireturn, 1) := by decide +kernel
theorem dL_minerals_0 : decode cL_minerals 0 = .ok (.aload_n 0, 1) := by decide +kernel
theorem dL_minerals_1 : decode cL_minerals 1 = .ok (.iload_n 1, 1) := by decide +kernel
theorem dL_minerals_2 : decode cL_minerals 2 = .ok (.iload_n 2, 1) := by decide +kernel
theorem dL_minerals_3 : decode cL_minerals 3 = .ok (.iload_n 3, 1) := by decide +kernel
theorem dL_minerals_4 : decode cL_minerals 4 = .ok (.iload 4, 2) := by decide +kernel
theorem dL_minerals_6 : decode cL_minerals 6 = .ok (.invokevirtual 74, 3) := by decide +kernel
theorem dL_minerals_9 : decode cL_minerals 9 = .ok (.goto 11, 3) := by decide +kernel
theorem dL_minerals_12 : decode cL_minerals 12 = .ok (.astore 5, 2) := by decide +kernel
theorem dL_minerals_14 : decode cL_minerals 14 = .ok (.iconst 1, 1) := by decide +kernel
theorem dL_minerals_15 : decode cL_minerals 15 = .ok (.ireturn, 1) := by decide +kernel
theorem dL_minerals_16 : decode cL_minerals 16 = .ok (.astore 5, 2) := by decide +kernel
theorem dL_minerals_18 : decode cL_minerals 18 = .ok (.iconst 2, 1) := by decide +kernel
theorem dL_minerals_19 : decode cL_minerals 19 = .ok (.ireturn, 1) := by decide +kernel
theorem dL_minerals_20 : decode cL_minerals 20 = .ok (.iconst 0, 1) := by decide +kernel
theorem dL_minerals_21 : decode cL_minerals 21 = .ok (.ireturn, 1) := by decide +kernel
theorem dL_rule_0 : decode cL_rule 0 = .ok (.aload_n 0, 1) := by decide +kernel
theorem dL_rule_1 : decode cL_rule 1 = .ok (.iload_n 1, 1) := by decide +kernel
theorem dL_rule_2 : decode cL_rule 2 = .ok (.iload_n 2, 1) := by decide +kernel
theorem dL_rule_3 : decode cL_rule 3 = .ok (.iload_n 3, 1) := by decide +kernel
theorem dL_rule_4 : decode cL_rule 4 = .ok (.invokevirtual 78, 3) := by decide +kernel
theorem dL_rule_7 : decode cL_rule 7 = .ok (.goto 7, 3) := by decide +kernel
theorem dL_rule_10 : decode cL_rule 10 = .ok (.astore 4, 2) := by decide +kernel
theorem dL_rule_12 : decode cL_rule 12 = .ok (.iconst 1, 1) := by decide +kernel
theorem dL_rule_13 : decode cL_rule 13 = .ok (.ireturn, 1) := by decide +kernel
theorem dL_rule_14 : decode cL_rule 14 = .ok (.iconst 0, 1) := by decide +kernel
theorem dL_rule_15 : decode cL_rule 15 = .ok (.ireturn, 1) := by decide +kernel
theorem dL_classOf_0 : decode cL_classOf 0 = .ok (.aload_n 3, 1) := by decide +kernel
theorem dL_classOf_1 : decode cL_classOf 1 = .ok (.iconst 0, 1) := by decide +kernel
theorem dL_classOf_2 : decode cL_classOf 2 = .ok (.aload_n 0, 1) := by decide +kernel
theorem dL_classOf_3 : decode cL_classOf 3 = .ok (.iload_n 1, 1) := by decide +kernel
theorem dL_classOf_4 : decode cL_classOf 4 = .ok (.iload_n 2, 1) := by decide +kernel
theorem dL_classOf_5 : decode cL_classOf 5 = .ok (.invokevirtual 81, 3) := by decide +kernel
theorem dL_classOf_8 : decode cL_classOf 8 = .ok (.i2l, 1) := by decide +kernel
theorem dL_classOf_9 : decode cL_classOf 9 = .ok (.lastore, 1) := by decide +kernel
theorem dL_classOf_10 : decode cL_classOf 10 = .ok (.goto 11, 3) := by decide +kernel
theorem dL_classOf_13 : decode cL_classOf 13 = .ok (.astore 4, 2) := by decide +kernel
theorem dL_classOf_15 : decode cL_classOf 15 = .ok (.iconst 1, 1) := by decide +kernel
theorem dL_classOf_16 : decode cL_classOf 16 = .ok (.ireturn, 1) := by decide +kernel
theorem dL_classOf_17 : decode cL_classOf 17 = .ok (.astore 4, 2) := by decide +kernel
theorem dL_classOf_19 : decode cL_classOf 19 = .ok (.iconst 2, 1) := by decide +kernel
theorem dL_classOf_20 : decode cL_classOf 20 = .ok (.ireturn, 1) := by decide +kernel
theorem dL_classOf_21 : decode cL_classOf 21 = .ok (.iconst 0, 1) := by decide +kernel
theorem dL_classOf_22 : decode cL_classOf 22 = .ok (.ireturn, 1) := by decide +kernel
theorem dL_pair_0 : decode cL_pair 0 = .ok (.aload 4, 2) := by decide +kernel
theorem dL_pair_2 : decode cL_pair 2 = .ok (.iconst 0, 1) := by decide +kernel
theorem dL_pair_3 : decode cL_pair 3 = .ok (.aload_n 0, 1) := by decide +kernel
theorem dL_pair_4 : decode cL_pair 4 = .ok (.iload_n 1, 1) := by decide +kernel
theorem dL_pair_5 : decode cL_pair 5 = .ok (.iload_n 2, 1) := by decide +kernel
theorem dL_pair_6 : decode cL_pair 6 = .ok (.iload_n 3, 1) := by decide +kernel
theorem dL_pair_7 : decode cL_pair 7 = .ok (.invokevirtual 84, 3) := by decide +kernel
theorem dL_pair_10 : decode cL_pair 10 = .ok (.ifCond .eq 7, 3) := by decide +kernel
theorem dL_pair_13 : decode cL_pair 13 = .ok (.lconst 1, 1) := by decide +kernel
theorem dL_pair_14 : decode cL_pair 14 = .ok (.goto 4, 3) := by decide +kernel
theorem dL_pair_17 : decode cL_pair 17 = .ok (.lconst 0, 1) := by decide +kernel
theorem dL_pair_18 : decode cL_pair 18 = .ok (.lastore, 1) := by decide +kernel
theorem dL_pair_19 : decode cL_pair 19 = .ok (.goto 11, 3) := by decide +kernel
theorem dL_pair_22 : decode cL_pair 22 = .ok (.astore 5, 2) := by decide +kernel
theorem dL_pair_24 : decode cL_pair 24 = .ok (.iconst 1, 1) := by decide +kernel
theorem dL_pair_25 : decode cL_pair 25 = .ok (.ireturn, 1) := by decide +kernel
theorem dL_pair_26 : decode cL_pair 26 = .ok (.astore 5, 2) := by decide +kernel
theorem dL_pair_28 : decode cL_pair 28 = .ok (.iconst 2, 1) := by decide +kernel
theorem dL_pair_29 : decode cL_pair 29 = .ok (.ireturn, 1) := by decide +kernel
theorem dL_pair_30 : decode cL_pair 30 = .ok (.iconst 0, 1) := by decide +kernel
theorem dL_pair_31 : decode cL_pair 31 = .ok (.ireturn, 1) := by decide +kernel
theorem dL_cut_0 : decode cL_cut 0 = .ok (.aload 4, 2) := by decide +kernel
theorem dL_cut_2 : decode cL_cut 2 = .ok (.iconst 0, 1) := by decide +kernel
theorem dL_cut_3 : decode cL_cut 3 = .ok (.aload_n 0, 1) := by decide +kernel
theorem dL_cut_4 : decode cL_cut 4 = .ok (.iload_n 1, 1) := by decide +kernel
theorem dL_cut_5 : decode cL_cut 5 = .ok (.iload_n 2, 1) := by decide +kernel
theorem dL_cut_6 : decode cL_cut 6 = .ok (.iload_n 3, 1) := by decide +kernel
theorem dL_cut_7 : decode cL_cut 7 = .ok (.invokevirtual 88, 3) := by decide +kernel
theorem dL_cut_10 : decode cL_cut 10 = .ok (.i2l, 1) := by decide +kernel
theorem dL_cut_11 : decode cL_cut 11 = .ok (.lastore, 1) := by decide +kernel
theorem dL_cut_12 : decode cL_cut 12 = .ok (.goto 15, 3) := by decide +kernel
theorem dL_cut_15 : decode cL_cut 15 = .ok (.astore 5, 2) := by decide +kernel
theorem dL_cut_17 : decode cL_cut 17 = .ok (.iconst 1, 1) := by decide +kernel
theorem dL_cut_18 : decode cL_cut 18 = .ok (.ireturn, 1) := by decide +kernel
theorem dL_cut_19 : decode cL_cut 19 = .ok (.astore 5, 2) := by decide +kernel
theorem dL_cut_21 : decode cL_cut 21 = .ok (.iconst 2, 1) := by decide +kernel
theorem dL_cut_22 : decode cL_cut 22 = .ok (.ireturn, 1) := by decide +kernel
theorem dL_cut_23 : decode cL_cut 23 = .ok (.astore 5, 2) := by decide +kernel
theorem dL_cut_25 : decode cL_cut 25 = .ok (.iconst 3, 1) := by decide +kernel
theorem dL_cut_26 : decode cL_cut 26 = .ok (.ireturn, 1) := by decide +kernel
theorem dL_cut_27 : decode cL_cut 27 = .ok (.iconst 0, 1) := by decide +kernel
theorem dL_cut_28 : decode cL_cut 28 = .ok (.ireturn, 1) := by decide +kernel
theorem dL_lend_0 : decode cL_lend 0 = .ok (.aload_n 0, 1) := by decide +kernel
theorem dL_lend_1 : decode cL_lend 1 = .ok (.iload_n 1, 1) := by decide +kernel
theorem dL_lend_2 : decode cL_lend 2 = .ok (.iload_n 2, 1) := by decide +kernel
theorem dL_lend_3 : decode cL_lend 3 = .ok (.invokevirtual 91, 3) := by decide +kernel
theorem dL_lend_6 : decode cL_lend 6 = .ok (.goto 12, 3) := by decide +kernel
theorem dL_lend_9 : decode cL_lend 9 = .ok (.astore_n 3, 1) := by decide +kernel
theorem dL_lend_10 : decode cL_lend 10 = .ok (.iconst 1, 1) := by decide +kernel
theorem dL_lend_11 : decode cL_lend 11 = .ok (.ireturn, 1) := by decide +kernel
theorem dL_lend_12 : decode cL_lend 12 = .ok (.astore_n 3, 1) := by decide +kernel
theorem dL_lend_13 : decode cL_lend 13 = .ok (.iconst 2, 1) := by decide +kernel
theorem dL_lend_14 : decode cL_lend 14 = .ok (.ireturn, 1) := by decide +kernel
theorem dL_lend_15 : decode cL_lend 15 = .ok (.astore_n 3, 1) := by decide +kernel
theorem dL_lend_16 : decode cL_lend 16 = .ok (.iconst 3, 1) := by decide +kernel
theorem dL_lend_17 : decode cL_lend 17 = .ok (.ireturn, 1) := by decide +kernel
theorem dL_lend_18 : decode cL_lend 18 = .ok (.iconst 0, 1) := by decide +kernel
theorem dL_lend_19 : decode cL_lend 19 = .ok (.ireturn, 1) := by decide +kernel
theorem dL_steal_0 : decode cL_steal 0 = .ok (.aload_n 0, 1) := by decide +kernel
theorem dL_steal_1 : decode cL_steal 1 = .ok (.iload_n 1, 1) := by decide +kernel
theorem dL_steal_2 : decode cL_steal 2 = .ok (.invokevirtual 95, 3) := by decide +kernel
theorem dL_steal_5 : decode cL_steal 5 = .ok (.goto 9, 3) := by decide +kernel
theorem dL_steal_8 : decode cL_steal 8 = .ok (.astore_n 2, 1) := by decide +kernel
theorem dL_steal_9 : decode cL_steal 9 = .ok (.iconst 1, 1) := by decide +kernel
theorem dL_steal_10 : decode cL_steal 10 = .ok (.ireturn, 1) := by decide +kernel
theorem dL_steal_11 : decode cL_steal 11 = .ok (.astore_n 2, 1) := by decide +kernel
theorem dL_steal_12 : decode cL_steal 12 = .ok (.iconst 2, 1) := by decide +kernel
theorem dL_steal_13 : decode cL_steal 13 = .ok (.ireturn, 1) := by decide +kernel
theorem dL_steal_14 : decode cL_steal 14 = .ok (.iconst 0, 1) := by decide +kernel
theorem dL_steal_15 : decode cL_steal 15 = .ok (.ireturn, 1) := by decide +kernel
theorem dL_law_0 : decode cL_law 0 = .ok (.aload_n 3, 1) := by decide +kernel
theorem dL_law_1 : decode cL_law 1 = .ok (.iconst 0, 1) := by decide +kernel
theorem dL_law_2 : decode cL_law 2 = .ok (.aload_n 0, 1) := by decide +kernel
theorem dL_law_3 : decode cL_law 3 = .ok (.iload_n 1, 1) := by decide +kernel
theorem dL_law_4 : decode cL_law 4 = .ok (.iload_n 2, 1) := by decide +kernel
theorem dL_law_5 : decode cL_law 5 = .ok (.invokevirtual 99, 3) := by decide +kernel
theorem dL_law_8 : decode cL_law 8 = .ok (.i2l, 1) := by decide +kernel
theorem dL_law_9 : decode cL_law 9 = .ok (.lastore, 1) := by decide +kernel
theorem dL_law_10 : decode cL_law 10 = .ok (.goto 7, 3) := by decide +kernel
theorem dL_law_13 : decode cL_law 13 = .ok (.astore 4, 2) := by decide +kernel
theorem dL_law_15 : decode cL_law 15 = .ok (.iconst 1, 1) := by decide +kernel
theorem dL_law_16 : decode cL_law 16 = .ok (.ireturn, 1) := by decide +kernel
theorem dL_law_17 : decode cL_law 17 = .ok (.iconst 0, 1) := by decide +kernel
theorem dL_law_18 : decode cL_law 18 = .ok (.ireturn, 1) := by decide +kernel
theorem dL_give_0 : decode cL_give 0 = .ok (.aload_n 3, 1) := by decide +kernel
theorem dL_give_1 : decode cL_give 1 = .ok (.iconst 0, 1) := by decide +kernel
theorem dL_give_2 : decode cL_give 2 = .ok (.aload_n 0, 1) := by decide +kernel
theorem dL_give_3 : decode cL_give 3 = .ok (.iload_n 1, 1) := by decide +kernel
theorem dL_give_4 : decode cL_give 4 = .ok (.iload_n 2, 1) := by decide +kernel
theorem dL_give_5 : decode cL_give 5 = .ok (.invokevirtual 102, 3) := by decide +kernel
theorem dL_give_8 : decode cL_give 8 = .ok (.i2l, 1) := by decide +kernel
theorem dL_give_9 : decode cL_give 9 = .ok (.lastore, 1) := by decide +kernel
theorem dL_give_10 : decode cL_give 10 = .ok (.goto 15, 3) := by decide +kernel
theorem dL_give_13 : decode cL_give 13 = .ok (.astore 4, 2) := by decide +kernel
theorem dL_give_15 : decode cL_give 15 = .ok (.iconst 1, 1) := by decide +kernel
theorem dL_give_16 : decode cL_give 16 = .ok (.ireturn, 1) := by decide +kernel
theorem dL_give_17 : decode cL_give 17 = .ok (.astore 4, 2) := by decide +kernel
theorem dL_give_19 : decode cL_give 19 = .ok (.iconst 2, 1) := by decide +kernel
theorem dL_give_20 : decode cL_give 20 = .ok (.ireturn, 1) := by decide +kernel
theorem dL_give_21 : decode cL_give 21 = .ok (.astore 4, 2) := by decide +kernel
theorem dL_give_23 : decode cL_give 23 = .ok (.iconst 3, 1) := by decide +kernel
theorem dL_give_24 : decode cL_give 24 = .ok (.ireturn, 1) := by decide +kernel
theorem dL_give_25 : decode cL_give 25 = .ok (.iconst 0, 1) := by decide +kernel
theorem dL_give_26 : decode cL_give 26 = .ok (.ireturn, 1) := by decide +kernel
theorem dL_name_0 : decode cL_name 0 = .ok (.aload_n 3, 1) := by decide +kernel
theorem dL_name_1 : decode cL_name 1 = .ok (.iconst 0, 1) := by decide +kernel
theorem dL_name_2 : decode cL_name 2 = .ok (.aload_n 0, 1) := by decide +kernel
theorem dL_name_3 : decode cL_name 3 = .ok (.iload_n 1, 1) := by decide +kernel
theorem dL_name_4 : decode cL_name 4 = .ok (.iload_n 2, 1) := by decide +kernel
theorem dL_name_5 : decode cL_name 5 = .ok (.invokevirtual 105, 3) := by decide +kernel
theorem dL_name_8 : decode cL_name 8 = .ok (.i2l, 1) := by decide +kernel
theorem dL_name_9 : decode cL_name 9 = .ok (.lastore, 1) := by decide +kernel
theorem dL_name_10 : decode cL_name 10 = .ok (.goto 15, 3) := by decide +kernel
theorem dL_name_13 : decode cL_name 13 = .ok (.astore 4, 2) := by decide +kernel
theorem dL_name_15 : decode cL_name 15 = .ok (.iconst 1, 1) := by decide +kernel
theorem dL_name_16 : decode cL_name 16 = .ok (.ireturn, 1) := by decide +kernel
theorem dL_name_17 : decode cL_name 17 = .ok (.astore 4, 2) := by decide +kernel
theorem dL_name_19 : decode cL_name 19 = .ok (.iconst 2, 1) := by decide +kernel
theorem dL_name_20 : decode cL_name 20 = .ok (.ireturn, 1) := by decide +kernel
theorem dL_name_21 : decode cL_name 21 = .ok (.astore 4, 2) := by decide +kernel
theorem dL_name_23 : decode cL_name 23 = .ok (.iconst 3, 1) := by decide +kernel
theorem dL_name_24 : decode cL_name 24 = .ok (.ireturn, 1) := by decide +kernel
theorem dL_name_25 : decode cL_name 25 = .ok (.iconst 0, 1) := by decide +kernel
theorem dL_name_26 : decode cL_name 26 = .ok (.ireturn, 1) := by decide +kernel
theorem dL_doubt_0 : decode cL_doubt 0 = .ok (.aload_n 3, 1) := by decide +kernel
theorem dL_doubt_1 : decode cL_doubt 1 = .ok (.iconst 0, 1) := by decide +kernel
theorem dL_doubt_2 : decode cL_doubt 2 = .ok (.aload_n 0, 1) := by decide +kernel
theorem dL_doubt_3 : decode cL_doubt 3 = .ok (.iload_n 1, 1) := by decide +kernel
theorem dL_doubt_4 : decode cL_doubt 4 = .ok (.iload_n 2, 1) := by decide +kernel
theorem dL_doubt_5 : decode cL_doubt 5 = .ok (.invokevirtual 108, 3) := by decide +kernel
theorem dL_doubt_8 : decode cL_doubt 8 = .ok (.ifCond .eq 7, 3) := by decide +kernel
theorem dL_doubt_11 : decode cL_doubt 11 = .ok (.lconst 1, 1) := by decide +kernel
theorem dL_doubt_12 : decode cL_doubt 12 = .ok (.goto 4, 3) := by decide +kernel
theorem dL_doubt_15 : decode cL_doubt 15 = .ok (.lconst 0, 1) := by decide +kernel
theorem dL_doubt_16 : decode cL_doubt 16 = .ok (.lastore, 1) := by decide +kernel
theorem dL_doubt_17 : decode cL_doubt 17 = .ok (.goto 11, 3) := by decide +kernel
theorem dL_doubt_20 : decode cL_doubt 20 = .ok (.astore 4, 2) := by decide +kernel
theorem dL_doubt_22 : decode cL_doubt 22 = .ok (.iconst 1, 1) := by decide +kernel
theorem dL_doubt_23 : decode cL_doubt 23 = .ok (.ireturn, 1) := by decide +kernel
theorem dL_doubt_24 : decode cL_doubt 24 = .ok (.astore 4, 2) := by decide +kernel
theorem dL_doubt_26 : decode cL_doubt 26 = .ok (.iconst 2, 1) := by decide +kernel
theorem dL_doubt_27 : decode cL_doubt 27 = .ok (.ireturn, 1) := by decide +kernel
theorem dL_doubt_28 : decode cL_doubt 28 = .ok (.iconst 0, 1) := by decide +kernel
theorem dL_doubt_29 : decode cL_doubt 29 = .ok (.ireturn, 1) := by decide +kernel
theorem dL_stone_0 : decode cL_stone 0 = .ok (.aload_n 3, 1) := by decide +kernel
theorem dL_stone_1 : decode cL_stone 1 = .ok (.iconst 0, 1) := by decide +kernel
theorem dL_stone_2 : decode cL_stone 2 = .ok (.aload_n 0, 1) := by decide +kernel
theorem dL_stone_3 : decode cL_stone 3 = .ok (.iload_n 1, 1) := by decide +kernel
theorem dL_stone_4 : decode cL_stone 4 = .ok (.iload_n 2, 1) := by decide +kernel
theorem dL_stone_5 : decode cL_stone 5 = .ok (.invokevirtual 112, 3) := by decide +kernel
theorem dL_stone_8 : decode cL_stone 8 = .ok (.i2l, 1) := by decide +kernel
theorem dL_stone_9 : decode cL_stone 9 = .ok (.lastore, 1) := by decide +kernel
theorem dL_stone_10 : decode cL_stone 10 = .ok (.goto 11, 3) := by decide +kernel
theorem dL_stone_13 : decode cL_stone 13 = .ok (.astore 4, 2) := by decide +kernel
theorem dL_stone_15 : decode cL_stone 15 = .ok (.iconst 1, 1) := by decide +kernel
theorem dL_stone_16 : decode cL_stone 16 = .ok (.ireturn, 1) := by decide +kernel
theorem dL_stone_17 : decode cL_stone 17 = .ok (.astore 4, 2) := by decide +kernel
theorem dL_stone_19 : decode cL_stone 19 = .ok (.iconst 2, 1) := by decide +kernel
theorem dL_stone_20 : decode cL_stone 20 = .ok (.ireturn, 1) := by decide +kernel
theorem dL_stone_21 : decode cL_stone 21 = .ok (.iconst 0, 1) := by decide +kernel
theorem dL_stone_22 : decode cL_stone 22 = .ok (.ireturn, 1) := by decide +kernel
theorem dL_whole_0 : decode cL_whole 0 = .ok (.aload_n 2, 1) := by decide +kernel
theorem dL_whole_1 : decode cL_whole 1 = .ok (.iconst 0, 1) := by decide +kernel
theorem dL_whole_2 : decode cL_whole 2 = .ok (.aload_n 0, 1) := by decide +kernel
theorem dL_whole_3 : decode cL_whole 3 = .ok (.iload_n 1, 1) := by decide +kernel
theorem dL_whole_4 : decode cL_whole 4 = .ok (.invokevirtual 115, 3) := by decide +kernel
theorem dL_whole_7 : decode cL_whole 7 = .ok (.i2l, 1) := by decide +kernel
theorem dL_whole_8 : decode cL_whole 8 = .ok (.lastore, 1) := by decide +kernel
theorem dL_whole_9 : decode cL_whole 9 = .ok (.goto 6, 3) := by decide +kernel
theorem dL_whole_12 : decode cL_whole 12 = .ok (.astore_n 3, 1) := by decide +kernel
theorem dL_whole_13 : decode cL_whole 13 = .ok (.iconst 1, 1) := by decide +kernel
theorem dL_whole_14 : decode cL_whole 14 = .ok (.ireturn, 1) := by decide +kernel
theorem dL_whole_15 : decode cL_whole 15 = .ok (.iconst 0, 1) := by decide +kernel
theorem dL_whole_16 : decode cL_whole 16 = .ok (.ireturn, 1) := by decide +kernel
theorem dL_law__0 : decode cL_law_ 0 = .ok (.new 8, 3) := by decide +kernel
theorem dL_law__3 : decode cL_law_ 3 = .ok (.dup, 1) := by decide +kernel
theorem dL_law__4 : decode cL_law_ 4 = .ok (.invokespecial 118, 3) := by decide +kernel
theorem dL_law__7 : decode cL_law_ 7 = .ok (.astore_n 1, 1) := by decide +kernel
theorem dL_law__8 : decode cL_law_ 8 = .ok (.new 119, 3) := by decide +kernel
theorem dL_law__11 : decode cL_law_ 11 = .ok (.dup, 1) := by decide +kernel
theorem dL_law__12 : decode cL_law_ 12 = .ok (.invokespecial 121, 3) := by decide +kernel
theorem dL_law__15 : decode cL_law_ 15 = .ok (.astore_n 2, 1) := by decide +kernel
theorem dL_law__16 : decode cL_law_ 16 = .ok (.iconst 1, 1) := by decide +kernel
theorem dL_law__17 : decode cL_law_ 17 = .ok (.newarray .long, 2) := by decide +kernel
theorem dL_law__19 : decode cL_law_ 19 = .ok (.astore_n 3, 1) := by decide +kernel
theorem dL_law__20 : decode cL_law_ 20 = .ok (.iconst 0, 1) := by decide +kernel
theorem dL_law__21 : decode cL_law_ 21 = .ok (.istore 4, 2) := by decide +kernel
theorem dL_law__23 : decode cL_law_ 23 = .ok (.iload 4, 2) := by decide +kernel
theorem dL_law__25 : decode cL_law_ 25 = .ok (.aload_n 0, 1) := by decide +kernel
theorem dL_law__26 : decode cL_law_ 26 = .ok (.arraylength, 1) := by decide +kernel
theorem dL_law__27 : decode cL_law_ 27 = .ok (.bipush 6, 2) := by decide +kernel
theorem dL_law__29 : decode cL_law_ 29 = .ok (.isub, 1) := by decide +kernel
theorem dL_law__30 : decode cL_law_ 30 = .ok (.if_icmp .gt 2190, 3) := by decide +kernel
theorem dL_law__33 : decode cL_law_ 33 = .ok (.aload_n 0, 1) := by decide +kernel
theorem dL_law__34 : decode cL_law_ 34 = .ok (.iload 4, 2) := by decide +kernel
theorem dL_law__36 : decode cL_law_ 36 = .ok (.iaload, 1) := by decide +kernel
theorem dL_law__37 : decode cL_law_ 37 = .ok (.bipush 31, 2) := by decide +kernel
theorem dL_law__39 : decode cL_law_ 39 = .ok (.iand, 1) := by decide +kernel
theorem dL_law__40 : decode cL_law_ 40 = .ok (.tableswitch 2174 0 28 #[132, 212, 280, 348, 432, 524, 580, 636, 692, 759, 834, 914, 974, 1065, 1144, 1248, 1304, 1376, 1436, 1504, 1591, 1671, 1719, 1755, 1823, 1891, 1959, 2050, 2118], 132) := by decide +kernel
theorem dL_law__172 : decode cL_law_ 172 = .ok (.aload_n 1, 1) := by decide +kernel
theorem dL_law__173 : decode cL_law_ 173 = .ok (.aload_n 0, 1) := by decide +kernel
theorem dL_law__174 : decode cL_law_ 174 = .ok (.iload 4, 2) := by decide +kernel
theorem dL_law__176 : decode cL_law_ 176 = .ok (.iconst 1, 1) := by decide +kernel
theorem dL_law__177 : decode cL_law_ 177 = .ok (.iadd, 1) := by decide +kernel
theorem dL_law__178 : decode cL_law_ 178 = .ok (.iaload, 1) := by decide +kernel
theorem dL_law__179 : decode cL_law_ 179 = .ok (.aload_n 0, 1) := by decide +kernel
theorem dL_law__180 : decode cL_law_ 180 = .ok (.iload 4, 2) := by decide +kernel
theorem dL_law__182 : decode cL_law_ 182 = .ok (.iconst 2, 1) := by decide +kernel
theorem dL_law__183 : decode cL_law_ 183 = .ok (.iadd, 1) := by decide +kernel
theorem dL_law__184 : decode cL_law_ 184 = .ok (.iaload, 1) := by decide +kernel
theorem dL_law__185 : decode cL_law_ 185 = .ok (.aload_n 0, 1) := by decide +kernel
theorem dL_law__186 : decode cL_law_ 186 = .ok (.iload 4, 2) := by decide +kernel
theorem dL_law__188 : decode cL_law_ 188 = .ok (.iconst 3, 1) := by decide +kernel
theorem dL_law__189 : decode cL_law_ 189 = .ok (.iadd, 1) := by decide +kernel
theorem dL_law__190 : decode cL_law_ 190 = .ok (.iaload, 1) := by decide +kernel
theorem dL_law__191 : decode cL_law_ 191 = .ok (.aload_n 3, 1) := by decide +kernel
theorem dL_law__192 : decode cL_law_ 192 = .ok (.invokestatic 122, 3) := by decide +kernel
theorem dL_law__195 : decode cL_law_ 195 = .ok (.istore 5, 2) := by decide +kernel
theorem dL_law__197 : decode cL_law_ 197 = .ok (.aload_n 2, 1) := by decide +kernel
theorem dL_law__198 : decode cL_law_ 198 = .ok (.aload_n 0, 1) := by decide +kernel
theorem dL_law__199 : decode cL_law_ 199 = .ok (.iload 4, 2) := by decide +kernel
theorem dL_law__201 : decode cL_law_ 201 = .ok (.iconst 1, 1) := by decide +kernel
theorem dL_law__202 : decode cL_law_ 202 = .ok (.iadd, 1) := by decide +kernel
theorem dL_law__203 : decode cL_law_ 203 = .ok (.iaload, 1) := by decide +kernel
theorem dL_law__204 : decode cL_law_ 204 = .ok (.aload_n 0, 1) := by decide +kernel
theorem dL_law__205 : decode cL_law_ 205 = .ok (.iload 4, 2) := by decide +kernel
theorem dL_law__207 : decode cL_law_ 207 = .ok (.iconst 2, 1) := by decide +kernel
theorem dL_law__208 : decode cL_law_ 208 = .ok (.iadd, 1) := by decide +kernel
theorem dL_law__209 : decode cL_law_ 209 = .ok (.iaload, 1) := by decide +kernel
theorem dL_law__210 : decode cL_law_ 210 = .ok (.aload_n 0, 1) := by decide +kernel
theorem dL_law__211 : decode cL_law_ 211 = .ok (.iload 4, 2) := by decide +kernel
theorem dL_law__213 : decode cL_law_ 213 = .ok (.iconst 3, 1) := by decide +kernel
theorem dL_law__214 : decode cL_law_ 214 = .ok (.iadd, 1) := by decide +kernel
theorem dL_law__215 : decode cL_law_ 215 = .ok (.iaload, 1) := by decide +kernel
theorem dL_law__216 : decode cL_law_ 216 = .ok (.invokevirtual 127, 3) := by decide +kernel
theorem dL_law__219 : decode cL_law_ 219 = .ok (.istore 6, 2) := by decide +kernel
theorem dL_law__221 : decode cL_law_ 221 = .ok (.aload_n 2, 1) := by decide +kernel
theorem dL_law__222 : decode cL_law_ 222 = .ok (.invokevirtual 128, 3) := by decide +kernel
theorem dL_law__225 : decode cL_law_ 225 = .ok (.iload 5, 2) := by decide +kernel
theorem dL_law__227 : decode cL_law_ 227 = .ok (.if_icmp .eq 5, 3) := by decide +kernel
theorem dL_law__230 : decode cL_law_ 230 = .ok (.iconst 0, 1) := by decide +kernel
theorem dL_law__231 : decode cL_law_ 231 = .ok (.ireturn, 1) := by decide +kernel
theorem dL_law__232 : decode cL_law_ 232 = .ok (.iload 5, 2) := by decide +kernel
theorem dL_law__234 : decode cL_law_ 234 = .ok (.ifCond .ne 15, 3) := by decide +kernel
theorem dL_law__237 : decode cL_law_ 237 = .ok (.aload_n 3, 1) := by decide +kernel
theorem dL_law__238 : decode cL_law_ 238 = .ok (.iconst 0, 1) := by decide +kernel
theorem dL_law__239 : decode cL_law_ 239 = .ok (.laload, 1) := by decide +kernel
theorem dL_law__240 : decode cL_law_ 240 = .ok (.iload 6, 2) := by decide +kernel
theorem dL_law__242 : decode cL_law_ 242 = .ok (.i2l, 1) := by decide +kernel
theorem dL_law__243 : decode cL_law_ 243 = .ok (.lcmp, 1) := by decide +kernel
theorem dL_law__244 : decode cL_law_ 244 = .ok (.ifCond .eq 5, 3) := by decide +kernel
theorem dL_law__247 : decode cL_law_ 247 = .ok (.iconst 0, 1) := by decide +kernel
theorem dL_law__248 : decode cL_law_ 248 = .ok (.ireturn, 1) := by decide +kernel
theorem dL_law__249 : decode cL_law_ 249 = .ok (.goto 1965, 3) := by decide +kernel
theorem dL_law__252 : decode cL_law_ 252 = .ok (.aload_n 1, 1) := by decide +kernel
theorem dL_law__253 : decode cL_law_ 253 = .ok (.aload_n 0, 1) := by decide +kernel
theorem dL_law__254 : decode cL_law_ 254 = .ok (.iload 4, 2) := by decide +kernel
theorem dL_law__256 : decode cL_law_ 256 = .ok (.iconst 1, 1) := by decide +kernel
theorem dL_law__257 : decode cL_law_ 257 = .ok (.iadd, 1) := by decide +kernel
theorem dL_law__258 : decode cL_law_ 258 = .ok (.iaload, 1) := by decide +kernel
theorem dL_law__259 : decode cL_law_ 259 = .ok (.aload_n 0, 1) := by decide +kernel
theorem dL_law__260 : decode cL_law_ 260 = .ok (.iload 4, 2) := by decide +kernel
theorem dL_law__262 : decode cL_law_ 262 = .ok (.iconst 2, 1) := by decide +kernel
theorem dL_law__263 : decode cL_law_ 263 = .ok (.iadd, 1) := by decide +kernel
theorem dL_law__264 : decode cL_law_ 264 = .ok (.iaload, 1) := by decide +kernel
theorem dL_law__265 : decode cL_law_ 265 = .ok (.aload_n 3, 1) := by decide +kernel
theorem dL_law__266 : decode cL_law_ 266 = .ok (.invokestatic 132, 3) := by decide +kernel
theorem dL_law__269 : decode cL_law_ 269 = .ok (.istore 5, 2) := by decide +kernel
theorem dL_law__271 : decode cL_law_ 271 = .ok (.aload_n 2, 1) := by decide +kernel
theorem dL_law__272 : decode cL_law_ 272 = .ok (.aload_n 0, 1) := by decide +kernel
theorem dL_law__273 : decode cL_law_ 273 = .ok (.iload 4, 2) := by decide +kernel
theorem dL_law__275 : decode cL_law_ 275 = .ok (.iconst 1, 1) := by decide +kernel
theorem dL_law__276 : decode cL_law_ 276 = .ok (.iadd, 1) := by decide +kernel
theorem dL_law__277 : decode cL_law_ 277 = .ok (.iaload, 1) := by decide +kernel
theorem dL_law__278 : decode cL_law_ 278 = .ok (.aload_n 0, 1) := by decide +kernel
theorem dL_law__279 : decode cL_law_ 279 = .ok (.iload 4, 2) := by decide +kernel
theorem dL_law__281 : decode cL_law_ 281 = .ok (.iconst 2, 1) := by decide +kernel
theorem dL_law__282 : decode cL_law_ 282 = .ok (.iadd, 1) := by decide +kernel
theorem dL_law__283 : decode cL_law_ 283 = .ok (.iaload, 1) := by decide +kernel
theorem dL_law__284 : decode cL_law_ 284 = .ok (.invokevirtual 135, 3) := by decide +kernel
theorem dL_law__287 : decode cL_law_ 287 = .ok (.istore 6, 2) := by decide +kernel
theorem dL_law__289 : decode cL_law_ 289 = .ok (.aload_n 2, 1) := by decide +kernel
theorem dL_law__290 : decode cL_law_ 290 = .ok (.invokevirtual 128, 3) := by decide +kernel
theorem dL_law__293 : decode cL_law_ 293 = .ok (.iload 5, 2) := by decide +kernel
theorem dL_law__295 : decode cL_law_ 295 = .ok (.if_icmp .eq 5, 3) := by decide +kernel
theorem dL_law__298 : decode cL_law_ 298 = .ok (.iconst 0, 1) := by decide +kernel
theorem dL_law__299 : decode cL_law_ 299 = .ok (.ireturn, 1) := by decide +kernel
theorem dL_law__300 : decode cL_law_ 300 = .ok (.iload 5, 2) := by decide +kernel
theorem dL_law__302 : decode cL_law_ 302 = .ok (.ifCond .ne 15, 3) := by decide +kernel
theorem dL_law__305 : decode cL_law_ 305 = .ok (.aload_n 3, 1) := by decide +kernel
theorem dL_law__306 : decode cL_law_ 306 = .ok (.iconst 0, 1) := by decide +kernel
theorem dL_law__307 : decode cL_law_ 307 = .ok (.laload, 1) := by decide +kernel
theorem dL_law__308 : decode cL_law_ 308 = .ok (.iload 6, 2) := by decide +kernel
theorem dL_law__310 : decode cL_law_ 310 = .ok (.i2l, 1) := by decide +kernel
theorem dL_law__311 : decode cL_law_ 311 = .ok (.lcmp, 1) := by decide +kernel
theorem dL_law__312 : decode cL_law_ 312 = .ok (.ifCond .eq 5, 3) := by decide +kernel
theorem dL_law__315 : decode cL_law_ 315 = .ok (.iconst 0, 1) := by decide +kernel
theorem dL_law__316 : decode cL_law_ 316 = .ok (.ireturn, 1) := by decide +kernel
theorem dL_law__317 : decode cL_law_ 317 = .ok (.goto 1897, 3) := by decide +kernel
theorem dL_law__320 : decode cL_law_ 320 = .ok (.aload_n 1, 1) := by decide +kernel
theorem dL_law__321 : decode cL_law_ 321 = .ok (.aload_n 0, 1) := by decide +kernel
theorem dL_law__322 : decode cL_law_ 322 = .ok (.iload 4, 2) := by decide +kernel
theorem dL_law__324 : decode cL_law_ 324 = .ok (.iconst 1, 1) := by decide +kernel
theorem dL_law__325 : decode cL_law_ 325 = .ok (.iadd, 1) := by decide +kernel
theorem dL_law__326 : decode cL_law_ 326 = .ok (.iaload, 1) := by decide +kernel
theorem dL_law__327 : decode cL_law_ 327 = .ok (.aload_n 0, 1) := by decide +kernel
theorem dL_law__328 : decode cL_law_ 328 = .ok (.iload 4, 2) := by decide +kernel
theorem dL_law__330 : decode cL_law_ 330 = .ok (.iconst 2, 1) := by decide +kernel
theorem dL_law__331 : decode cL_law_ 331 = .ok (.iadd, 1) := by decide +kernel
theorem dL_law__332 : decode cL_law_ 332 = .ok (.iaload, 1) := by decide +kernel
theorem dL_law__333 : decode cL_law_ 333 = .ok (.aload_n 3, 1) := by decide +kernel
theorem dL_law__334 : decode cL_law_ 334 = .ok (.invokestatic 136, 3) := by decide +kernel
theorem dL_law__337 : decode cL_law_ 337 = .ok (.istore 5, 2) := by decide +kernel
theorem dL_law__339 : decode cL_law_ 339 = .ok (.aload_n 2, 1) := by decide +kernel
theorem dL_law__340 : decode cL_law_ 340 = .ok (.aload_n 0, 1) := by decide +kernel
theorem dL_law__341 : decode cL_law_ 341 = .ok (.iload 4, 2) := by decide +kernel
theorem dL_law__343 : decode cL_law_ 343 = .ok (.iconst 1, 1) := by decide +kernel
theorem dL_law__344 : decode cL_law_ 344 = .ok (.iadd, 1) := by decide +kernel
theorem dL_law__345 : decode cL_law_ 345 = .ok (.iaload, 1) := by decide +kernel
theorem dL_law__346 : decode cL_law_ 346 = .ok (.aload_n 0, 1) := by decide +kernel
theorem dL_law__347 : decode cL_law_ 347 = .ok (.iload 4, 2) := by decide +kernel
theorem dL_law__349 : decode cL_law_ 349 = .ok (.iconst 2, 1) := by decide +kernel
theorem dL_law__350 : decode cL_law_ 350 = .ok (.iadd, 1) := by decide +kernel
theorem dL_law__351 : decode cL_law_ 351 = .ok (.iaload, 1) := by decide +kernel
theorem dL_law__352 : decode cL_law_ 352 = .ok (.invokevirtual 138, 3) := by decide +kernel
theorem dL_law__355 : decode cL_law_ 355 = .ok (.istore 6, 2) := by decide +kernel
theorem dL_law__357 : decode cL_law_ 357 = .ok (.aload_n 2, 1) := by decide +kernel
theorem dL_law__358 : decode cL_law_ 358 = .ok (.invokevirtual 128, 3) := by decide +kernel
theorem dL_law__361 : decode cL_law_ 361 = .ok (.iload 5, 2) := by decide +kernel
theorem dL_law__363 : decode cL_law_ 363 = .ok (.if_icmp .eq 5, 3) := by decide +kernel
theorem dL_law__366 : decode cL_law_ 366 = .ok (.iconst 0, 1) := by decide +kernel
theorem dL_law__367 : decode cL_law_ 367 = .ok (.ireturn, 1) := by decide +kernel
theorem dL_law__368 : decode cL_law_ 368 = .ok (.iload 5, 2) := by decide +kernel
theorem dL_law__370 : decode cL_law_ 370 = .ok (.ifCond .ne 15, 3) := by decide +kernel
theorem dL_law__373 : decode cL_law_ 373 = .ok (.aload_n 3, 1) := by decide +kernel
theorem dL_law__374 : decode cL_law_ 374 = .ok (.iconst 0, 1) := by decide +kernel
theorem dL_law__375 : decode cL_law_ 375 = .ok (.laload, 1) := by decide +kernel
theorem dL_law__376 : decode cL_law_ 376 = .ok (.iload 6, 2) := by decide +kernel
theorem dL_law__378 : decode cL_law_ 378 = .ok (.i2l, 1) := by decide +kernel
theorem dL_law__379 : decode cL_law_ 379 = .ok (.lcmp, 1) := by decide +kernel
theorem dL_law__380 : decode cL_law_ 380 = .ok (.ifCond .eq 5, 3) := by decide +kernel
theorem dL_law__383 : decode cL_law_ 383 = .ok (.iconst 0, 1) := by decide +kernel
theorem dL_law__384 : decode cL_law_ 384 = .ok (.ireturn, 1) := by decide +kernel
theorem dL_law__385 : decode cL_law_ 385 = .ok (.goto 1829, 3) := by decide +kernel
theorem dL_law__388 : decode cL_law_ 388 = .ok (.aload_n 1, 1) := by decide +kernel
theorem dL_law__389 : decode cL_law_ 389 = .ok (.aload_n 0, 1) := by decide +kernel
theorem dL_law__390 : decode cL_law_ 390 = .ok (.iload 4, 2) := by decide +kernel
theorem dL_law__392 : decode cL_law_ 392 = .ok (.iconst 1, 1) := by decide +kernel
theorem dL_law__393 : decode cL_law_ 393 = .ok (.iadd, 1) := by decide +kernel
theorem dL_law__394 : decode cL_law_ 394 = .ok (.iaload, 1) := by decide +kernel
theorem dL_law__395 : decode cL_law_ 395 = .ok (.aload_n 0, 1) := by decide +kernel
theorem dL_law__396 : decode cL_law_ 396 = .ok (.iload 4, 2) := by decide +kernel
theorem dL_law__398 : decode cL_law_ 398 = .ok (.iconst 2, 1) := by decide +kernel
theorem dL_law__399 : decode cL_law_ 399 = .ok (.iadd, 1) := by decide +kernel
theorem dL_law__400 : decode cL_law_ 400 = .ok (.iaload, 1) := by decide +kernel
theorem dL_law__401 : decode cL_law_ 401 = .ok (.aload_n 0, 1) := by decide +kernel
theorem dL_law__402 : decode cL_law_ 402 = .ok (.iload 4, 2) := by decide +kernel
theorem dL_law__404 : decode cL_law_ 404 = .ok (.iconst 3, 1) := by decide +kernel
theorem dL_law__405 : decode cL_law_ 405 = .ok (.iadd, 1) := by decide +kernel
theorem dL_law__406 : decode cL_law_ 406 = .ok (.iaload, 1) := by decide +kernel
theorem dL_law__407 : decode cL_law_ 407 = .ok (.aload_n 0, 1) := by decide +kernel
theorem dL_law__408 : decode cL_law_ 408 = .ok (.iload 4, 2) := by decide +kernel
theorem dL_law__410 : decode cL_law_ 410 = .ok (.iconst 4, 1) := by decide +kernel
theorem dL_law__411 : decode cL_law_ 411 = .ok (.iadd, 1) := by decide +kernel
theorem dL_law__412 : decode cL_law_ 412 = .ok (.iaload, 1) := by decide +kernel
theorem dL_law__413 : decode cL_law_ 413 = .ok (.aload_n 0, 1) := by decide +kernel
theorem dL_law__414 : decode cL_law_ 414 = .ok (.iload 4, 2) := by decide +kernel
theorem dL_law__416 : decode cL_law_ 416 = .ok (.iconst 5, 1) := by decide +kernel
theorem dL_law__417 : decode cL_law_ 417 = .ok (.iadd, 1) := by decide +kernel
theorem dL_law__418 : decode cL_law_ 418 = .ok (.iaload, 1) := by decide +kernel
theorem dL_law__419 : decode cL_law_ 419 = .ok (.invokestatic 139, 3) := by decide +kernel
theorem dL_law__422 : decode cL_law_ 422 = .ok (.istore 5, 2) := by decide +kernel
theorem dL_law__424 : decode cL_law_ 424 = .ok (.aload_n 2, 1) := by decide +kernel
theorem dL_law__425 : decode cL_law_ 425 = .ok (.aload_n 0, 1) := by decide +kernel
theorem dL_law__426 : decode cL_law_ 426 = .ok (.iload 4, 2) := by decide +kernel
theorem dL_law__428 : decode cL_law_ 428 = .ok (.iconst 1, 1) := by decide +kernel
theorem dL_law__429 : decode cL_law_ 429 = .ok (.iadd, 1) := by decide +kernel
theorem dL_law__430 : decode cL_law_ 430 = .ok (.iaload, 1) := by decide +kernel
theorem dL_law__431 : decode cL_law_ 431 = .ok (.aload_n 0, 1) := by decide +kernel
theorem dL_law__432 : decode cL_law_ 432 = .ok (.iload 4, 2) := by decide +kernel
theorem dL_law__434 : decode cL_law_ 434 = .ok (.iconst 2, 1) := by decide +kernel
theorem dL_law__435 : decode cL_law_ 435 = .ok (.iadd, 1) := by decide +kernel
theorem dL_law__436 : decode cL_law_ 436 = .ok (.iaload, 1) := by decide +kernel
theorem dL_law__437 : decode cL_law_ 437 = .ok (.aload_n 0, 1) := by decide +kernel
theorem dL_law__438 : decode cL_law_ 438 = .ok (.iload 4, 2) := by decide +kernel
theorem dL_law__440 : decode cL_law_ 440 = .ok (.iconst 3, 1) := by decide +kernel
theorem dL_law__441 : decode cL_law_ 441 = .ok (.iadd, 1) := by decide +kernel
theorem dL_law__442 : decode cL_law_ 442 = .ok (.iaload, 1) := by decide +kernel
theorem dL_law__443 : decode cL_law_ 443 = .ok (.aload_n 0, 1) := by decide +kernel
theorem dL_law__444 : decode cL_law_ 444 = .ok (.iload 4, 2) := by decide +kernel
theorem dL_law__446 : decode cL_law_ 446 = .ok (.iconst 4, 1) := by decide +kernel
theorem dL_law__447 : decode cL_law_ 447 = .ok (.iadd, 1) := by decide +kernel
theorem dL_law__448 : decode cL_law_ 448 = .ok (.iaload, 1) := by decide +kernel
theorem dL_law__449 : decode cL_law_ 449 = .ok (.aload_n 0, 1) := by decide +kernel
theorem dL_law__450 : decode cL_law_ 450 = .ok (.iload 4, 2) := by decide +kernel
theorem dL_law__452 : decode cL_law_ 452 = .ok (.iconst 5, 1) := by decide +kernel
theorem dL_law__453 : decode cL_law_ 453 = .ok (.iadd, 1) := by decide +kernel
theorem dL_law__454 : decode cL_law_ 454 = .ok (.iaload, 1) := by decide +kernel
theorem dL_law__455 : decode cL_law_ 455 = .ok (.invokevirtual 142, 3) := by decide +kernel
theorem dL_law__458 : decode cL_law_ 458 = .ok (.aload_n 2, 1) := by decide +kernel
theorem dL_law__459 : decode cL_law_ 459 = .ok (.invokevirtual 128, 3) := by decide +kernel
theorem dL_law__462 : decode cL_law_ 462 = .ok (.iload 5, 2) := by decide +kernel
theorem dL_law__464 : decode cL_law_ 464 = .ok (.if_icmp .eq 5, 3) := by decide +kernel
theorem dL_law__467 : decode cL_law_ 467 = .ok (.iconst 0, 1) := by decide +kernel
theorem dL_law__468 : decode cL_law_ 468 = .ok (.ireturn, 1) := by decide +kernel
theorem dL_law__469 : decode cL_law_ 469 = .ok (.goto 1745, 3) := by decide +kernel
theorem dL_law__472 : decode cL_law_ 472 = .ok (.aload_n 1, 1) := by decide +kernel
theorem dL_law__473 : decode cL_law_ 473 = .ok (.aload_n 0, 1) := by decide +kernel
theorem dL_law__474 : decode cL_law_ 474 = .ok (.iload 4, 2) := by decide +kernel
theorem dL_law__476 : decode cL_law_ 476 = .ok (.iconst 1, 1) := by decide +kernel
theorem dL_law__477 : decode cL_law_ 477 = .ok (.iadd, 1) := by decide +kernel
theorem dL_law__478 : decode cL_law_ 478 = .ok (.iaload, 1) := by decide +kernel
theorem dL_law__479 : decode cL_law_ 479 = .ok (.aload_n 0, 1) := by decide +kernel
theorem dL_law__480 : decode cL_law_ 480 = .ok (.iload 4, 2) := by decide +kernel
theorem dL_law__482 : decode cL_law_ 482 = .ok (.iconst 2, 1) := by decide +kernel
theorem dL_law__483 : decode cL_law_ 483 = .ok (.iadd, 1) := by decide +kernel
theorem dL_law__484 : decode cL_law_ 484 = .ok (.iaload, 1) := by decide +kernel
theorem dL_law__485 : decode cL_law_ 485 = .ok (.aload_n 0, 1) := by decide +kernel
theorem dL_law__486 : decode cL_law_ 486 = .ok (.iload 4, 2) := by decide +kernel
theorem dL_law__488 : decode cL_law_ 488 = .ok (.iconst 3, 1) := by decide +kernel
theorem dL_law__489 : decode cL_law_ 489 = .ok (.iadd, 1) := by decide +kernel
theorem dL_law__490 : decode cL_law_ 490 = .ok (.iaload, 1) := by decide +kernel
theorem dL_law__491 : decode cL_law_ 491 = .ok (.aload_n 0, 1) := by decide +kernel
theorem dL_law__492 : decode cL_law_ 492 = .ok (.iload 4, 2) := by decide +kernel
theorem dL_law__494 : decode cL_law_ 494 = .ok (.iconst 4, 1) := by decide +kernel
theorem dL_law__495 : decode cL_law_ 495 = .ok (.iadd, 1) := by decide +kernel
theorem dL_law__496 : decode cL_law_ 496 = .ok (.iaload, 1) := by decide +kernel
theorem dL_law__497 : decode cL_law_ 497 = .ok (.aload_n 3, 1) := by decide +kernel
theorem dL_law__498 : decode cL_law_ 498 = .ok (.invokestatic 143, 3) := by decide +kernel
theorem dL_law__501 : decode cL_law_ 501 = .ok (.istore 5, 2) := by decide +kernel
theorem dL_law__503 : decode cL_law_ 503 = .ok (.aload_n 2, 1) := by decide +kernel
theorem dL_law__504 : decode cL_law_ 504 = .ok (.aload_n 0, 1) := by decide +kernel
theorem dL_law__505 : decode cL_law_ 505 = .ok (.iload 4, 2) := by decide +kernel
theorem dL_law__507 : decode cL_law_ 507 = .ok (.iconst 1, 1) := by decide +kernel
theorem dL_law__508 : decode cL_law_ 508 = .ok (.iadd, 1) := by decide +kernel
theorem dL_law__509 : decode cL_law_ 509 = .ok (.iaload, 1) := by decide +kernel
theorem dL_law__510 : decode cL_law_ 510 = .ok (.aload_n 0, 1) := by decide +kernel
theorem dL_law__511 : decode cL_law_ 511 = .ok (.iload 4, 2) := by decide +kernel
theorem dL_law__513 : decode cL_law_ 513 = .ok (.iconst 2, 1) := by decide +kernel
theorem dL_law__514 : decode cL_law_ 514 = .ok (.iadd, 1) := by decide +kernel
theorem dL_law__515 : decode cL_law_ 515 = .ok (.iaload, 1) := by decide +kernel
theorem dL_law__516 : decode cL_law_ 516 = .ok (.aload_n 0, 1) := by decide +kernel
theorem dL_law__517 : decode cL_law_ 517 = .ok (.iload 4, 2) := by decide +kernel
theorem dL_law__519 : decode cL_law_ 519 = .ok (.iconst 3, 1) := by decide +kernel
theorem dL_law__520 : decode cL_law_ 520 = .ok (.iadd, 1) := by decide +kernel
theorem dL_law__521 : decode cL_law_ 521 = .ok (.iaload, 1) := by decide +kernel
theorem dL_law__522 : decode cL_law_ 522 = .ok (.aload_n 0, 1) := by decide +kernel
theorem dL_law__523 : decode cL_law_ 523 = .ok (.iload 4, 2) := by decide +kernel
theorem dL_law__525 : decode cL_law_ 525 = .ok (.iconst 4, 1) := by decide +kernel
theorem dL_law__526 : decode cL_law_ 526 = .ok (.iadd, 1) := by decide +kernel
theorem dL_law__527 : decode cL_law_ 527 = .ok (.iaload, 1) := by decide +kernel
theorem dL_law__528 : decode cL_law_ 528 = .ok (.invokevirtual 146, 3) := by decide +kernel
theorem dL_law__531 : decode cL_law_ 531 = .ok (.istore 6, 2) := by decide +kernel
theorem dL_law__533 : decode cL_law_ 533 = .ok (.aload_n 2, 1) := by decide +kernel
theorem dL_law__534 : decode cL_law_ 534 = .ok (.invokevirtual 128, 3) := by decide +kernel
theorem dL_law__537 : decode cL_law_ 537 = .ok (.iload 5, 2) := by decide +kernel
theorem dL_law__539 : decode cL_law_ 539 = .ok (.if_icmp .eq 5, 3) := by decide +kernel
theorem dL_law__542 : decode cL_law_ 542 = .ok (.iconst 0, 1) := by decide +kernel
theorem dL_law__543 : decode cL_law_ 543 = .ok (.ireturn, 1) := by decide +kernel
theorem dL_law__544 : decode cL_law_ 544 = .ok (.iload 5, 2) := by decide +kernel
theorem dL_law__546 : decode cL_law_ 546 = .ok (.ifCond .ne 15, 3) := by decide +kernel
theorem dL_law__549 : decode cL_law_ 549 = .ok (.aload_n 3, 1) := by decide +kernel
theorem dL_law__550 : decode cL_law_ 550 = .ok (.iconst 0, 1) := by decide +kernel
theorem dL_law__551 : decode cL_law_ 551 = .ok (.laload, 1) := by decide +kernel
theorem dL_law__552 : decode cL_law_ 552 = .ok (.iload 6, 2) := by decide +kernel
theorem dL_law__554 : decode cL_law_ 554 = .ok (.i2l, 1) := by decide +kernel
theorem dL_law__555 : decode cL_law_ 555 = .ok (.lcmp, 1) := by decide +kernel
theorem dL_law__556 : decode cL_law_ 556 = .ok (.ifCond .eq 5, 3) := by decide +kernel
theorem dL_law__559 : decode cL_law_ 559 = .ok (.iconst 0, 1) := by decide +kernel
theorem dL_law__560 : decode cL_law_ 560 = .ok (.ireturn, 1) := by decide +kernel
theorem dL_law__561 : decode cL_law_ 561 = .ok (.goto 1653, 3) := by decide +kernel
theorem dL_law__564 : decode cL_law_ 564 = .ok (.aload_n 1, 1) := by decide +kernel
theorem dL_law__565 : decode cL_law_ 565 = .ok (.aload_n 0, 1) := by decide +kernel
theorem dL_law__566 : decode cL_law_ 566 = .ok (.iload 4, 2) := by decide +kernel
theorem dL_law__568 : decode cL_law_ 568 = .ok (.iconst 1, 1) := by decide +kernel
theorem dL_law__569 : decode cL_law_ 569 = .ok (.iadd, 1) := by decide +kernel
theorem dL_law__570 : decode cL_law_ 570 = .ok (.iaload, 1) := by decide +kernel
theorem dL_law__571 : decode cL_law_ 571 = .ok (.aload_n 3, 1) := by decide +kernel
theorem dL_law__572 : decode cL_law_ 572 = .ok (.invokestatic 147, 3) := by decide +kernel
theorem dL_law__575 : decode cL_law_ 575 = .ok (.istore 5, 2) := by decide +kernel
theorem dL_law__577 : decode cL_law_ 577 = .ok (.aload_n 2, 1) := by decide +kernel
theorem dL_law__578 : decode cL_law_ 578 = .ok (.aload_n 0, 1) := by decide +kernel
theorem dL_law__579 : decode cL_law_ 579 = .ok (.iload 4, 2) := by decide +kernel
theorem dL_law__581 : decode cL_law_ 581 = .ok (.iconst 1, 1) := by decide +kernel
theorem dL_law__582 : decode cL_law_ 582 = .ok (.iadd, 1) := by decide +kernel
theorem dL_law__583 : decode cL_law_ 583 = .ok (.iaload, 1) := by decide +kernel
theorem dL_law__584 : decode cL_law_ 584 = .ok (.invokevirtual 150, 3) := by decide +kernel
theorem dL_law__587 : decode cL_law_ 587 = .ok (.istore 6, 2) := by decide +kernel
theorem dL_law__589 : decode cL_law_ 589 = .ok (.aload_n 2, 1) := by decide +kernel
theorem dL_law__590 : decode cL_law_ 590 = .ok (.invokevirtual 128, 3) := by decide +kernel
theorem dL_law__593 : decode cL_law_ 593 = .ok (.iload 5, 2) := by decide +kernel
theorem dL_law__595 : decode cL_law_ 595 = .ok (.if_icmp .eq 5, 3) := by decide +kernel
theorem dL_law__598 : decode cL_law_ 598 = .ok (.iconst 0, 1) := by decide +kernel
theorem dL_law__599 : decode cL_law_ 599 = .ok (.ireturn, 1) := by decide +kernel
theorem dL_law__600 : decode cL_law_ 600 = .ok (.iload 5, 2) := by decide +kernel
theorem dL_law__602 : decode cL_law_ 602 = .ok (.ifCond .ne 15, 3) := by decide +kernel
theorem dL_law__605 : decode cL_law_ 605 = .ok (.aload_n 3, 1) := by decide +kernel
theorem dL_law__606 : decode cL_law_ 606 = .ok (.iconst 0, 1) := by decide +kernel
theorem dL_law__607 : decode cL_law_ 607 = .ok (.laload, 1) := by decide +kernel
theorem dL_law__608 : decode cL_law_ 608 = .ok (.iload 6, 2) := by decide +kernel
theorem dL_law__610 : decode cL_law_ 610 = .ok (.i2l, 1) := by decide +kernel
theorem dL_law__611 : decode cL_law_ 611 = .ok (.lcmp, 1) := by decide +kernel
theorem dL_law__612 : decode cL_law_ 612 = .ok (.ifCond .eq 5, 3) := by decide +kernel
theorem dL_law__615 : decode cL_law_ 615 = .ok (.iconst 0, 1) := by decide +kernel
theorem dL_law__616 : decode cL_law_ 616 = .ok (.ireturn, 1) := by decide +kernel
theorem dL_law__617 : decode cL_law_ 617 = .ok (.goto 1597, 3) := by decide +kernel
theorem dL_law__620 : decode cL_law_ 620 = .ok (.aload_n 1, 1) := by decide +kernel
theorem dL_law__621 : decode cL_law_ 621 = .ok (.aload_n 0, 1) := by decide +kernel
theorem dL_law__622 : decode cL_law_ 622 = .ok (.iload 4, 2) := by decide +kernel
theorem dL_law__624 : decode cL_law_ 624 = .ok (.iconst 1, 1) := by decide +kernel
theorem dL_law__625 : decode cL_law_ 625 = .ok (.iadd, 1) := by decide +kernel
theorem dL_law__626 : decode cL_law_ 626 = .ok (.iaload, 1) := by decide +kernel
theorem dL_law__627 : decode cL_law_ 627 = .ok (.aload_n 3, 1) := by decide +kernel
theorem dL_law__628 : decode cL_law_ 628 = .ok (.invokestatic 151, 3) := by decide +kernel
theorem dL_law__631 : decode cL_law_ 631 = .ok (.istore 5, 2) := by decide +kernel
theorem dL_law__633 : decode cL_law_ 633 = .ok (.aload_n 2, 1) := by decide +kernel
theorem dL_law__634 : decode cL_law_ 634 = .ok (.aload_n 0, 1) := by decide +kernel
theorem dL_law__635 : decode cL_law_ 635 = .ok (.iload 4, 2) := by decide +kernel
theorem dL_law__637 : decode cL_law_ 637 = .ok (.iconst 1, 1) := by decide +kernel
theorem dL_law__638 : decode cL_law_ 638 = .ok (.iadd, 1) := by decide +kernel
theorem dL_law__639 : decode cL_law_ 639 = .ok (.iaload, 1) := by decide +kernel
theorem dL_law__640 : decode cL_law_ 640 = .ok (.invokevirtual 153, 3) := by decide +kernel
theorem dL_law__643 : decode cL_law_ 643 = .ok (.istore 6, 2) := by decide +kernel
theorem dL_law__645 : decode cL_law_ 645 = .ok (.aload_n 2, 1) := by decide +kernel
theorem dL_law__646 : decode cL_law_ 646 = .ok (.invokevirtual 128, 3) := by decide +kernel
theorem dL_law__649 : decode cL_law_ 649 = .ok (.iload 5, 2) := by decide +kernel
theorem dL_law__651 : decode cL_law_ 651 = .ok (.if_icmp .eq 5, 3) := by decide +kernel
theorem dL_law__654 : decode cL_law_ 654 = .ok (.iconst 0, 1) := by decide +kernel
theorem dL_law__655 : decode cL_law_ 655 = .ok (.ireturn, 1) := by decide +kernel
theorem dL_law__656 : decode cL_law_ 656 = .ok (.iload 5, 2) := by decide +kernel
theorem dL_law__658 : decode cL_law_ 658 = .ok (.ifCond .ne 15, 3) := by decide +kernel
theorem dL_law__661 : decode cL_law_ 661 = .ok (.aload_n 3, 1) := by decide +kernel
theorem dL_law__662 : decode cL_law_ 662 = .ok (.iconst 0, 1) := by decide +kernel
theorem dL_law__663 : decode cL_law_ 663 = .ok (.laload, 1) := by decide +kernel
theorem dL_law__664 : decode cL_law_ 664 = .ok (.iload 6, 2) := by decide +kernel
theorem dL_law__666 : decode cL_law_ 666 = .ok (.i2l, 1) := by decide +kernel
theorem dL_law__667 : decode cL_law_ 667 = .ok (.lcmp, 1) := by decide +kernel
theorem dL_law__668 : decode cL_law_ 668 = .ok (.ifCond .eq 5, 3) := by decide +kernel
theorem dL_law__671 : decode cL_law_ 671 = .ok (.iconst 0, 1) := by decide +kernel
theorem dL_law__672 : decode cL_law_ 672 = .ok (.ireturn, 1) := by decide +kernel
theorem dL_law__673 : decode cL_law_ 673 = .ok (.goto 1541, 3) := by decide +kernel
theorem dL_law__676 : decode cL_law_ 676 = .ok (.aload_n 1, 1) := by decide +kernel
theorem dL_law__677 : decode cL_law_ 677 = .ok (.aload_n 0, 1) := by decide +kernel
theorem dL_law__678 : decode cL_law_ 678 = .ok (.iload 4, 2) := by decide +kernel
theorem dL_law__680 : decode cL_law_ 680 = .ok (.iconst 1, 1) := by decide +kernel
theorem dL_law__681 : decode cL_law_ 681 = .ok (.iadd, 1) := by decide +kernel
theorem dL_law__682 : decode cL_law_ 682 = .ok (.iaload, 1) := by decide +kernel
theorem dL_law__683 : decode cL_law_ 683 = .ok (.aload_n 3, 1) := by decide +kernel
theorem dL_law__684 : decode cL_law_ 684 = .ok (.invokestatic 154, 3) := by decide +kernel
theorem dL_law__687 : decode cL_law_ 687 = .ok (.istore 5, 2) := by decide +kernel
theorem dL_law__689 : decode cL_law_ 689 = .ok (.aload_n 2, 1) := by decide +kernel
theorem dL_law__690 : decode cL_law_ 690 = .ok (.aload_n 0, 1) := by decide +kernel
theorem dL_law__691 : decode cL_law_ 691 = .ok (.iload 4, 2) := by decide +kernel
theorem dL_law__693 : decode cL_law_ 693 = .ok (.iconst 1, 1) := by decide +kernel
theorem dL_law__694 : decode cL_law_ 694 = .ok (.iadd, 1) := by decide +kernel
theorem dL_law__695 : decode cL_law_ 695 = .ok (.iaload, 1) := by decide +kernel
theorem dL_law__696 : decode cL_law_ 696 = .ok (.invokevirtual 156, 3) := by decide +kernel
theorem dL_law__699 : decode cL_law_ 699 = .ok (.istore 6, 2) := by decide +kernel
theorem dL_law__701 : decode cL_law_ 701 = .ok (.aload_n 2, 1) := by decide +kernel
theorem dL_law__702 : decode cL_law_ 702 = .ok (.invokevirtual 128, 3) := by decide +kernel
theorem dL_law__705 : decode cL_law_ 705 = .ok (.iload 5, 2) := by decide +kernel
theorem dL_law__707 : decode cL_law_ 707 = .ok (.if_icmp .eq 5, 3) := by decide +kernel
theorem dL_law__710 : decode cL_law_ 710 = .ok (.iconst 0, 1) := by decide +kernel
theorem dL_law__711 : decode cL_law_ 711 = .ok (.ireturn, 1) := by decide +kernel
theorem dL_law__712 : decode cL_law_ 712 = .ok (.iload 5, 2) := by decide +kernel
theorem dL_law__714 : decode cL_law_ 714 = .ok (.ifCond .ne 15, 3) := by decide +kernel
theorem dL_law__717 : decode cL_law_ 717 = .ok (.aload_n 3, 1) := by decide +kernel
theorem dL_law__718 : decode cL_law_ 718 = .ok (.iconst 0, 1) := by decide +kernel
theorem dL_law__719 : decode cL_law_ 719 = .ok (.laload, 1) := by decide +kernel
theorem dL_law__720 : decode cL_law_ 720 = .ok (.iload 6, 2) := by decide +kernel
theorem dL_law__722 : decode cL_law_ 722 = .ok (.i2l, 1) := by decide +kernel
theorem dL_law__723 : decode cL_law_ 723 = .ok (.lcmp, 1) := by decide +kernel
theorem dL_law__724 : decode cL_law_ 724 = .ok (.ifCond .eq 5, 3) := by decide +kernel
theorem dL_law__727 : decode cL_law_ 727 = .ok (.iconst 0, 1) := by decide +kernel
theorem dL_law__728 : decode cL_law_ 728 = .ok (.ireturn, 1) := by decide +kernel
theorem dL_law__729 : decode cL_law_ 729 = .ok (.goto 1485, 3) := by decide +kernel
theorem dL_law__732 : decode cL_law_ 732 = .ok (.aload_n 1, 1) := by decide +kernel
theorem dL_law__733 : decode cL_law_ 733 = .ok (.aload_n 0, 1) := by decide +kernel
theorem dL_law__734 : decode cL_law_ 734 = .ok (.iload 4, 2) := by decide +kernel
theorem dL_law__736 : decode cL_law_ 736 = .ok (.iconst 1, 1) := by decide +kernel
theorem dL_law__737 : decode cL_law_ 737 = .ok (.iadd, 1) := by decide +kernel
theorem dL_law__738 : decode cL_law_ 738 = .ok (.iaload, 1) := by decide +kernel
theorem dL_law__739 : decode cL_law_ 739 = .ok (.aload_n 0, 1) := by decide +kernel
theorem dL_law__740 : decode cL_law_ 740 = .ok (.iload 4, 2) := by decide +kernel
theorem dL_law__742 : decode cL_law_ 742 = .ok (.iconst 2, 1) := by decide +kernel
theorem dL_law__743 : decode cL_law_ 743 = .ok (.iadd, 1) := by decide +kernel
theorem dL_law__744 : decode cL_law_ 744 = .ok (.iaload, 1) := by decide +kernel
theorem dL_law__745 : decode cL_law_ 745 = .ok (.aload_n 3, 1) := by decide +kernel
theorem dL_law__746 : decode cL_law_ 746 = .ok (.invokestatic 157, 3) := by decide +kernel
theorem dL_law__749 : decode cL_law_ 749 = .ok (.istore 5, 2) := by decide +kernel
theorem dL_law__751 : decode cL_law_ 751 = .ok (.aload_n 2, 1) := by decide +kernel
theorem dL_law__752 : decode cL_law_ 752 = .ok (.aload_n 0, 1) := by decide +kernel
theorem dL_law__753 : decode cL_law_ 753 = .ok (.iload 4, 2) := by decide +kernel
theorem dL_law__755 : decode cL_law_ 755 = .ok (.iconst 1, 1) := by decide +kernel
theorem dL_law__756 : decode cL_law_ 756 = .ok (.iadd, 1) := by decide +kernel
theorem dL_law__757 : decode cL_law_ 757 = .ok (.iaload, 1) := by decide +kernel
theorem dL_law__758 : decode cL_law_ 758 = .ok (.aload_n 0, 1) := by decide +kernel
theorem dL_law__759 : decode cL_law_ 759 = .ok (.iload 4, 2) := by decide +kernel
theorem dL_law__761 : decode cL_law_ 761 = .ok (.iconst 2, 1) := by decide +kernel
theorem dL_law__762 : decode cL_law_ 762 = .ok (.iadd, 1) := by decide +kernel
theorem dL_law__763 : decode cL_law_ 763 = .ok (.iaload, 1) := by decide +kernel
theorem dL_law__764 : decode cL_law_ 764 = .ok (.invokevirtual 159, 3) := by decide +kernel
theorem dL_law__767 : decode cL_law_ 767 = .ok (.lstore 6, 2) := by decide +kernel
theorem dL_law__769 : decode cL_law_ 769 = .ok (.aload_n 2, 1) := by decide +kernel
theorem dL_law__770 : decode cL_law_ 770 = .ok (.invokevirtual 128, 3) := by decide +kernel
theorem dL_law__773 : decode cL_law_ 773 = .ok (.iload 5, 2) := by decide +kernel
theorem dL_law__775 : decode cL_law_ 775 = .ok (.if_icmp .eq 5, 3) := by decide +kernel
theorem dL_law__778 : decode cL_law_ 778 = .ok (.iconst 0, 1) := by decide +kernel
theorem dL_law__779 : decode cL_law_ 779 = .ok (.ireturn, 1) := by decide +kernel
theorem dL_law__780 : decode cL_law_ 780 = .ok (.iload 5, 2) := by decide +kernel
theorem dL_law__782 : decode cL_law_ 782 = .ok (.ifCond .ne 14, 3) := by decide +kernel
theorem dL_law__785 : decode cL_law_ 785 = .ok (.aload_n 3, 1) := by decide +kernel
theorem dL_law__786 : decode cL_law_ 786 = .ok (.iconst 0, 1) := by decide +kernel
theorem dL_law__787 : decode cL_law_ 787 = .ok (.laload, 1) := by decide +kernel
theorem dL_law__788 : decode cL_law_ 788 = .ok (.lload 6, 2) := by decide +kernel
theorem dL_law__790 : decode cL_law_ 790 = .ok (.lcmp, 1) := by decide +kernel
theorem dL_law__791 : decode cL_law_ 791 = .ok (.ifCond .eq 5, 3) := by decide +kernel
theorem dL_law__794 : decode cL_law_ 794 = .ok (.iconst 0, 1) := by decide +kernel
theorem dL_law__795 : decode cL_law_ 795 = .ok (.ireturn, 1) := by decide +kernel
theorem dL_law__796 : decode cL_law_ 796 = .ok (.goto 1418, 3) := by decide +kernel
theorem dL_law__799 : decode cL_law_ 799 = .ok (.aload_n 1, 1) := by decide +kernel
theorem dL_law__800 : decode cL_law_ 800 = .ok (.aload_n 0, 1) := by decide +kernel
theorem dL_law__801 : decode cL_law_ 801 = .ok (.iload 4, 2) := by decide +kernel
theorem dL_law__803 : decode cL_law_ 803 = .ok (.iconst 1, 1) := by decide +kernel
theorem dL_law__804 : decode cL_law_ 804 = .ok (.iadd, 1) := by decide +kernel
theorem dL_law__805 : decode cL_law_ 805 = .ok (.iaload, 1) := by decide +kernel
theorem dL_law__806 : decode cL_law_ 806 = .ok (.aload_n 0, 1) := by decide +kernel
theorem dL_law__807 : decode cL_law_ 807 = .ok (.iload 4, 2) := by decide +kernel
theorem dL_law__809 : decode cL_law_ 809 = .ok (.iconst 2, 1) := by decide +kernel
theorem dL_law__810 : decode cL_law_ 810 = .ok (.iadd, 1) := by decide +kernel
theorem dL_law__811 : decode cL_law_ 811 = .ok (.iaload, 1) := by decide +kernel
theorem dL_law__812 : decode cL_law_ 812 = .ok (.aload_n 3, 1) := by decide +kernel
theorem dL_law__813 : decode cL_law_ 813 = .ok (.invokestatic 160, 3) := by decide +kernel
theorem dL_law__816 : decode cL_law_ 816 = .ok (.istore 5, 2) := by decide +kernel
theorem dL_law__818 : decode cL_law_ 818 = .ok (.aload_n 2, 1) := by decide +kernel
theorem dL_law__819 : decode cL_law_ 819 = .ok (.aload_n 0, 1) := by decide +kernel
theorem dL_law__820 : decode cL_law_ 820 = .ok (.iload 4, 2) := by decide +kernel
theorem dL_law__822 : decode cL_law_ 822 = .ok (.iconst 1, 1) := by decide +kernel
theorem dL_law__823 : decode cL_law_ 823 = .ok (.iadd, 1) := by decide +kernel
theorem dL_law__824 : decode cL_law_ 824 = .ok (.iaload, 1) := by decide +kernel
theorem dL_law__825 : decode cL_law_ 825 = .ok (.aload_n 0, 1) := by decide +kernel
theorem dL_law__826 : decode cL_law_ 826 = .ok (.iload 4, 2) := by decide +kernel
theorem dL_law__828 : decode cL_law_ 828 = .ok (.iconst 2, 1) := by decide +kernel
theorem dL_law__829 : decode cL_law_ 829 = .ok (.iadd, 1) := by decide +kernel
theorem dL_law__830 : decode cL_law_ 830 = .ok (.iaload, 1) := by decide +kernel
theorem dL_law__831 : decode cL_law_ 831 = .ok (.invokevirtual 162, 3) := by decide +kernel
theorem dL_law__834 : decode cL_law_ 834 = .ok (.istore 6, 2) := by decide +kernel
theorem dL_law__836 : decode cL_law_ 836 = .ok (.aload_n 2, 1) := by decide +kernel
theorem dL_law__837 : decode cL_law_ 837 = .ok (.invokevirtual 128, 3) := by decide +kernel
theorem dL_law__840 : decode cL_law_ 840 = .ok (.iload 5, 2) := by decide +kernel
theorem dL_law__842 : decode cL_law_ 842 = .ok (.if_icmp .eq 5, 3) := by decide +kernel
theorem dL_law__845 : decode cL_law_ 845 = .ok (.iconst 0, 1) := by decide +kernel
theorem dL_law__846 : decode cL_law_ 846 = .ok (.ireturn, 1) := by decide +kernel
theorem dL_law__847 : decode cL_law_ 847 = .ok (.iload 5, 2) := by decide +kernel
theorem dL_law__849 : decode cL_law_ 849 = .ok (.ifCond .ne 22, 3) := by decide +kernel
theorem dL_law__852 : decode cL_law_ 852 = .ok (.aload_n 3, 1) := by decide +kernel
theorem dL_law__853 : decode cL_law_ 853 = .ok (.iconst 0, 1) := by decide +kernel
theorem dL_law__854 : decode cL_law_ 854 = .ok (.laload, 1) := by decide +kernel
theorem dL_law__855 : decode cL_law_ 855 = .ok (.iload 6, 2) := by decide +kernel
theorem dL_law__857 : decode cL_law_ 857 = .ok (.ifCond .eq 7, 3) := by decide +kernel
theorem dL_law__860 : decode cL_law_ 860 = .ok (.lconst 1, 1) := by decide +kernel
theorem dL_law__861 : decode cL_law_ 861 = .ok (.goto 4, 3) := by decide +kernel
theorem dL_law__864 : decode cL_law_ 864 = .ok (.lconst 0, 1) := by decide +kernel
theorem dL_law__865 : decode cL_law_ 865 = .ok (.lcmp, 1) := by decide +kernel
theorem dL_law__866 : decode cL_law_ 866 = .ok (.ifCond .eq 5, 3) := by decide +kernel
theorem dL_law__869 : decode cL_law_ 869 = .ok (.iconst 0, 1) := by decide +kernel
theorem dL_law__870 : decode cL_law_ 870 = .ok (.ireturn, 1) := by decide +kernel
theorem dL_law__871 : decode cL_law_ 871 = .ok (.goto 1343, 3) := by decide +kernel
theorem dL_law__874 : decode cL_law_ 874 = .ok (.aload_n 1, 1) := by decide +kernel
theorem dL_law__875 : decode cL_law_ 875 = .ok (.aload_n 0, 1) := by decide +kernel
theorem dL_law__876 : decode cL_law_ 876 = .ok (.iload 4, 2) := by decide +kernel
theorem dL_law__878 : decode cL_law_ 878 = .ok (.iconst 1, 1) := by decide +kernel
theorem dL_law__879 : decode cL_law_ 879 = .ok (.iadd, 1) := by decide +kernel
theorem dL_law__880 : decode cL_law_ 880 = .ok (.iaload, 1) := by decide +kernel
theorem dL_law__881 : decode cL_law_ 881 = .ok (.aload_n 0, 1) := by decide +kernel
theorem dL_law__882 : decode cL_law_ 882 = .ok (.iload 4, 2) := by decide +kernel
theorem dL_law__884 : decode cL_law_ 884 = .ok (.iconst 2, 1) := by decide +kernel
theorem dL_law__885 : decode cL_law_ 885 = .ok (.iadd, 1) := by decide +kernel
theorem dL_law__886 : decode cL_law_ 886 = .ok (.iaload, 1) := by decide +kernel
theorem dL_law__887 : decode cL_law_ 887 = .ok (.aload_n 0, 1) := by decide +kernel
theorem dL_law__888 : decode cL_law_ 888 = .ok (.iload 4, 2) := by decide +kernel
theorem dL_law__890 : decode cL_law_ 890 = .ok (.iconst 3, 1) := by decide +kernel
theorem dL_law__891 : decode cL_law_ 891 = .ok (.iadd, 1) := by decide +kernel
theorem dL_law__892 : decode cL_law_ 892 = .ok (.iaload, 1) := by decide +kernel
theorem dL_law__893 : decode cL_law_ 893 = .ok (.aload_n 3, 1) := by decide +kernel
theorem dL_law__894 : decode cL_law_ 894 = .ok (.invokestatic 163, 3) := by decide +kernel
theorem dL_law__897 : decode cL_law_ 897 = .ok (.istore 5, 2) := by decide +kernel
theorem dL_law__899 : decode cL_law_ 899 = .ok (.aload_n 2, 1) := by decide +kernel
theorem dL_law__900 : decode cL_law_ 900 = .ok (.aload_n 0, 1) := by decide +kernel
theorem dL_law__901 : decode cL_law_ 901 = .ok (.iload 4, 2) := by decide +kernel
theorem dL_law__903 : decode cL_law_ 903 = .ok (.iconst 1, 1) := by decide +kernel
theorem dL_law__904 : decode cL_law_ 904 = .ok (.iadd, 1) := by decide +kernel
theorem dL_law__905 : decode cL_law_ 905 = .ok (.iaload, 1) := by decide +kernel
theorem dL_law__906 : decode cL_law_ 906 = .ok (.aload_n 0, 1) := by decide +kernel
theorem dL_law__907 : decode cL_law_ 907 = .ok (.iload 4, 2) := by decide +kernel
theorem dL_law__909 : decode cL_law_ 909 = .ok (.iconst 2, 1) := by decide +kernel
theorem dL_law__910 : decode cL_law_ 910 = .ok (.iadd, 1) := by decide +kernel
theorem dL_law__911 : decode cL_law_ 911 = .ok (.iaload, 1) := by decide +kernel
theorem dL_law__912 : decode cL_law_ 912 = .ok (.aload_n 0, 1) := by decide +kernel
theorem dL_law__913 : decode cL_law_ 913 = .ok (.iload 4, 2) := by decide +kernel
theorem dL_law__915 : decode cL_law_ 915 = .ok (.iconst 3, 1) := by decide +kernel
theorem dL_law__916 : decode cL_law_ 916 = .ok (.iadd, 1) := by decide +kernel
theorem dL_law__917 : decode cL_law_ 917 = .ok (.iaload, 1) := by decide +kernel
theorem dL_law__918 : decode cL_law_ 918 = .ok (.invokevirtual 165, 3) := by decide +kernel
theorem dL_law__921 : decode cL_law_ 921 = .ok (.istore 6, 2) := by decide +kernel
theorem dL_law__923 : decode cL_law_ 923 = .ok (.aload_n 2, 1) := by decide +kernel
theorem dL_law__924 : decode cL_law_ 924 = .ok (.invokevirtual 128, 3) := by decide +kernel
theorem dL_law__927 : decode cL_law_ 927 = .ok (.iload 5, 2) := by decide +kernel
theorem dL_law__929 : decode cL_law_ 929 = .ok (.if_icmp .eq 5, 3) := by decide +kernel
theorem dL_law__932 : decode cL_law_ 932 = .ok (.iconst 0, 1) := by decide +kernel
theorem dL_law__933 : decode cL_law_ 933 = .ok (.ireturn, 1) := by decide +kernel
theorem dL_law__934 : decode cL_law_ 934 = .ok (.iload 5, 2) := by decide +kernel
theorem dL_law__936 : decode cL_law_ 936 = .ok (.ifCond .ne 15, 3) := by decide +kernel
theorem dL_law__939 : decode cL_law_ 939 = .ok (.aload_n 3, 1) := by decide +kernel
theorem dL_law__940 : decode cL_law_ 940 = .ok (.iconst 0, 1) := by decide +kernel
theorem dL_law__941 : decode cL_law_ 941 = .ok (.laload, 1) := by decide +kernel
theorem dL_law__942 : decode cL_law_ 942 = .ok (.iload 6, 2) := by decide +kernel
theorem dL_law__944 : decode cL_law_ 944 = .ok (.i2l, 1) := by decide +kernel
theorem dL_law__945 : decode cL_law_ 945 = .ok (.lcmp, 1) := by decide +kernel
theorem dL_law__946 : decode cL_law_ 946 = .ok (.ifCond .eq 5, 3) := by decide +kernel
theorem dL_law__949 : decode cL_law_ 949 = .ok (.iconst 0, 1) := by decide +kernel
theorem dL_law__950 : decode cL_law_ 950 = .ok (.ireturn, 1) := by decide +kernel
theorem dL_law__951 : decode cL_law_ 951 = .ok (.goto 1263, 3) := by decide +kernel
theorem dL_law__954 : decode cL_law_ 954 = .ok (.aload_n 1, 1) := by decide +kernel
theorem dL_law__955 : decode cL_law_ 955 = .ok (.aload_n 0, 1) := by decide +kernel
theorem dL_law__956 : decode cL_law_ 956 = .ok (.iload 4, 2) := by decide +kernel
theorem dL_law__958 : decode cL_law_ 958 = .ok (.iconst 1, 1) := by decide +kernel
theorem dL_law__959 : decode cL_law_ 959 = .ok (.iadd, 1) := by decide +kernel
theorem dL_law__960 : decode cL_law_ 960 = .ok (.iaload, 1) := by decide +kernel
theorem dL_law__961 : decode cL_law_ 961 = .ok (.aload_n 0, 1) := by decide +kernel
theorem dL_law__962 : decode cL_law_ 962 = .ok (.iload 4, 2) := by decide +kernel
theorem dL_law__964 : decode cL_law_ 964 = .ok (.iconst 2, 1) := by decide +kernel
theorem dL_law__965 : decode cL_law_ 965 = .ok (.iadd, 1) := by decide +kernel
theorem dL_law__966 : decode cL_law_ 966 = .ok (.iaload, 1) := by decide +kernel
theorem dL_law__967 : decode cL_law_ 967 = .ok (.aload_n 0, 1) := by decide +kernel
theorem dL_law__968 : decode cL_law_ 968 = .ok (.iload 4, 2) := by decide +kernel
theorem dL_law__970 : decode cL_law_ 970 = .ok (.iconst 3, 1) := by decide +kernel
theorem dL_law__971 : decode cL_law_ 971 = .ok (.iadd, 1) := by decide +kernel
theorem dL_law__972 : decode cL_law_ 972 = .ok (.iaload, 1) := by decide +kernel
theorem dL_law__973 : decode cL_law_ 973 = .ok (.invokestatic 166, 3) := by decide +kernel
theorem dL_law__976 : decode cL_law_ 976 = .ok (.istore 5, 2) := by decide +kernel
theorem dL_law__978 : decode cL_law_ 978 = .ok (.aload_n 2, 1) := by decide +kernel
theorem dL_law__979 : decode cL_law_ 979 = .ok (.aload_n 0, 1) := by decide +kernel
theorem dL_law__980 : decode cL_law_ 980 = .ok (.iload 4, 2) := by decide +kernel
theorem dL_law__982 : decode cL_law_ 982 = .ok (.iconst 1, 1) := by decide +kernel
theorem dL_law__983 : decode cL_law_ 983 = .ok (.iadd, 1) := by decide +kernel
theorem dL_law__984 : decode cL_law_ 984 = .ok (.iaload, 1) := by decide +kernel
theorem dL_law__985 : decode cL_law_ 985 = .ok (.aload_n 0, 1) := by decide +kernel
theorem dL_law__986 : decode cL_law_ 986 = .ok (.iload 4, 2) := by decide +kernel
theorem dL_law__988 : decode cL_law_ 988 = .ok (.iconst 2, 1) := by decide +kernel
theorem dL_law__989 : decode cL_law_ 989 = .ok (.iadd, 1) := by decide +kernel
theorem dL_law__990 : decode cL_law_ 990 = .ok (.iaload, 1) := by decide +kernel
theorem dL_law__991 : decode cL_law_ 991 = .ok (.aload_n 0, 1) := by decide +kernel
theorem dL_law__992 : decode cL_law_ 992 = .ok (.iload 4, 2) := by decide +kernel
theorem dL_law__994 : decode cL_law_ 994 = .ok (.iconst 3, 1) := by decide +kernel
theorem dL_law__995 : decode cL_law_ 995 = .ok (.iadd, 1) := by decide +kernel
theorem dL_law__996 : decode cL_law_ 996 = .ok (.iaload, 1) := by decide +kernel
theorem dL_law__997 : decode cL_law_ 997 = .ok (.invokevirtual 169, 3) := by decide +kernel
theorem dL_law__1000 : decode cL_law_ 1000 = .ok (.aload_n 2, 1) := by decide +kernel
theorem dL_law__1001 : decode cL_law_ 1001 = .ok (.invokevirtual 128, 3) := by decide +kernel
theorem dL_law__1004 : decode cL_law_ 1004 = .ok (.iload 5, 2) := by decide +kernel
theorem dL_law__1006 : decode cL_law_ 1006 = .ok (.if_icmp .eq 5, 3) := by decide +kernel
theorem dL_law__1009 : decode cL_law_ 1009 = .ok (.iconst 0, 1) := by decide +kernel
theorem dL_law__1010 : decode cL_law_ 1010 = .ok (.ireturn, 1) := by decide +kernel
theorem dL_law__1011 : decode cL_law_ 1011 = .ok (.goto 1203, 3) := by decide +kernel
theorem dL_law__1014 : decode cL_law_ 1014 = .ok (.aload_n 1, 1) := by decide +kernel
theorem dL_law__1015 : decode cL_law_ 1015 = .ok (.aload_n 0, 1) := by decide +kernel
theorem dL_law__1016 : decode cL_law_ 1016 = .ok (.iload 4, 2) := by decide +kernel
theorem dL_law__1018 : decode cL_law_ 1018 = .ok (.iconst 1, 1) := by decide +kernel
theorem dL_law__1019 : decode cL_law_ 1019 = .ok (.iadd, 1) := by decide +kernel
theorem dL_law__1020 : decode cL_law_ 1020 = .ok (.iaload, 1) := by decide +kernel
theorem dL_law__1021 : decode cL_law_ 1021 = .ok (.aload_n 0, 1) := by decide +kernel
theorem dL_law__1022 : decode cL_law_ 1022 = .ok (.iload 4, 2) := by decide +kernel
theorem dL_law__1024 : decode cL_law_ 1024 = .ok (.iconst 2, 1) := by decide +kernel
theorem dL_law__1025 : decode cL_law_ 1025 = .ok (.iadd, 1) := by decide +kernel
theorem dL_law__1026 : decode cL_law_ 1026 = .ok (.iaload, 1) := by decide +kernel
theorem dL_law__1027 : decode cL_law_ 1027 = .ok (.aload_n 0, 1) := by decide +kernel
theorem dL_law__1028 : decode cL_law_ 1028 = .ok (.iload 4, 2) := by decide +kernel
theorem dL_law__1030 : decode cL_law_ 1030 = .ok (.iconst 3, 1) := by decide +kernel
theorem dL_law__1031 : decode cL_law_ 1031 = .ok (.iadd, 1) := by decide +kernel
theorem dL_law__1032 : decode cL_law_ 1032 = .ok (.iaload, 1) := by decide +kernel
theorem dL_law__1033 : decode cL_law_ 1033 = .ok (.aload_n 0, 1) := by decide +kernel
theorem dL_law__1034 : decode cL_law_ 1034 = .ok (.iload 4, 2) := by decide +kernel
theorem dL_law__1036 : decode cL_law_ 1036 = .ok (.iconst 4, 1) := by decide +kernel
theorem dL_law__1037 : decode cL_law_ 1037 = .ok (.iadd, 1) := by decide +kernel
theorem dL_law__1038 : decode cL_law_ 1038 = .ok (.iaload, 1) := by decide +kernel
theorem dL_law__1039 : decode cL_law_ 1039 = .ok (.aload_n 3, 1) := by decide +kernel
theorem dL_law__1040 : decode cL_law_ 1040 = .ok (.invokestatic 170, 3) := by decide +kernel
theorem dL_law__1043 : decode cL_law_ 1043 = .ok (.istore 5, 2) := by decide +kernel
theorem dL_law__1045 : decode cL_law_ 1045 = .ok (.aload_n 2, 1) := by decide +kernel
theorem dL_law__1046 : decode cL_law_ 1046 = .ok (.aload_n 0, 1) := by decide +kernel
theorem dL_law__1047 : decode cL_law_ 1047 = .ok (.iload 4, 2) := by decide +kernel
theorem dL_law__1049 : decode cL_law_ 1049 = .ok (.iconst 1, 1) := by decide +kernel
theorem dL_law__1050 : decode cL_law_ 1050 = .ok (.iadd, 1) := by decide +kernel
theorem dL_law__1051 : decode cL_law_ 1051 = .ok (.iaload, 1) := by decide +kernel
theorem dL_law__1052 : decode cL_law_ 1052 = .ok (.aload_n 0, 1) := by decide +kernel
theorem dL_law__1053 : decode cL_law_ 1053 = .ok (.iload 4, 2) := by decide +kernel
theorem dL_law__1055 : decode cL_law_ 1055 = .ok (.iconst 2, 1) := by decide +kernel
theorem dL_law__1056 : decode cL_law_ 1056 = .ok (.iadd, 1) := by decide +kernel
theorem dL_law__1057 : decode cL_law_ 1057 = .ok (.iaload, 1) := by decide +kernel
theorem dL_law__1058 : decode cL_law_ 1058 = .ok (.aload_n 0, 1) := by decide +kernel
theorem dL_law__1059 : decode cL_law_ 1059 = .ok (.iload 4, 2) := by decide +kernel
theorem dL_law__1061 : decode cL_law_ 1061 = .ok (.iconst 3, 1) := by decide +kernel
theorem dL_law__1062 : decode cL_law_ 1062 = .ok (.iadd, 1) := by decide +kernel
theorem dL_law__1063 : decode cL_law_ 1063 = .ok (.iaload, 1) := by decide +kernel
theorem dL_law__1064 : decode cL_law_ 1064 = .ok (.aload_n 0, 1) := by decide +kernel
theorem dL_law__1065 : decode cL_law_ 1065 = .ok (.iload 4, 2) := by decide +kernel
theorem dL_law__1067 : decode cL_law_ 1067 = .ok (.iconst 4, 1) := by decide +kernel
theorem dL_law__1068 : decode cL_law_ 1068 = .ok (.iadd, 1) := by decide +kernel
theorem dL_law__1069 : decode cL_law_ 1069 = .ok (.iaload, 1) := by decide +kernel
theorem dL_law__1070 : decode cL_law_ 1070 = .ok (.invokevirtual 172, 3) := by decide +kernel
theorem dL_law__1073 : decode cL_law_ 1073 = .ok (.lstore 6, 2) := by decide +kernel
theorem dL_law__1075 : decode cL_law_ 1075 = .ok (.aload_n 2, 1) := by decide +kernel
theorem dL_law__1076 : decode cL_law_ 1076 = .ok (.invokevirtual 128, 3) := by decide +kernel
theorem dL_law__1079 : decode cL_law_ 1079 = .ok (.iload 5, 2) := by decide +kernel
theorem dL_law__1081 : decode cL_law_ 1081 = .ok (.if_icmp .eq 5, 3) := by decide +kernel
theorem dL_law__1084 : decode cL_law_ 1084 = .ok (.iconst 0, 1) := by decide +kernel
theorem dL_law__1085 : decode cL_law_ 1085 = .ok (.ireturn, 1) := by decide +kernel
theorem dL_law__1086 : decode cL_law_ 1086 = .ok (.iload 5, 2) := by decide +kernel
theorem dL_law__1088 : decode cL_law_ 1088 = .ok (.ifCond .ne 14, 3) := by decide +kernel
theorem dL_law__1091 : decode cL_law_ 1091 = .ok (.aload_n 3, 1) := by decide +kernel
theorem dL_law__1092 : decode cL_law_ 1092 = .ok (.iconst 0, 1) := by decide +kernel
theorem dL_law__1093 : decode cL_law_ 1093 = .ok (.laload, 1) := by decide +kernel
theorem dL_law__1094 : decode cL_law_ 1094 = .ok (.lload 6, 2) := by decide +kernel
theorem dL_law__1096 : decode cL_law_ 1096 = .ok (.lcmp, 1) := by decide +kernel
theorem dL_law__1097 : decode cL_law_ 1097 = .ok (.ifCond .eq 5, 3) := by decide +kernel
theorem dL_law__1100 : decode cL_law_ 1100 = .ok (.iconst 0, 1) := by decide +kernel
theorem dL_law__1101 : decode cL_law_ 1101 = .ok (.ireturn, 1) := by decide +kernel
theorem dL_law__1102 : decode cL_law_ 1102 = .ok (.goto 1112, 3) := by decide +kernel
theorem dL_law__1105 : decode cL_law_ 1105 = .ok (.aload_n 1, 1) := by decide +kernel
theorem dL_law__1106 : decode cL_law_ 1106 = .ok (.aload_n 0, 1) := by decide +kernel
theorem dL_law__1107 : decode cL_law_ 1107 = .ok (.iload 4, 2) := by decide +kernel
theorem dL_law__1109 : decode cL_law_ 1109 = .ok (.iconst 1, 1) := by decide +kernel
theorem dL_law__1110 : decode cL_law_ 1110 = .ok (.iadd, 1) := by decide +kernel
theorem dL_law__1111 : decode cL_law_ 1111 = .ok (.iaload, 1) := by decide +kernel
theorem dL_law__1112 : decode cL_law_ 1112 = .ok (.aload_n 0, 1) := by decide +kernel
theorem dL_law__1113 : decode cL_law_ 1113 = .ok (.iload 4, 2) := by decide +kernel
theorem dL_law__1115 : decode cL_law_ 1115 = .ok (.iconst 2, 1) := by decide +kernel
theorem dL_law__1116 : decode cL_law_ 1116 = .ok (.iadd, 1) := by decide +kernel
theorem dL_law__1117 : decode cL_law_ 1117 = .ok (.iaload, 1) := by decide +kernel
theorem dL_law__1118 : decode cL_law_ 1118 = .ok (.aload_n 0, 1) := by decide +kernel
theorem dL_law__1119 : decode cL_law_ 1119 = .ok (.iload 4, 2) := by decide +kernel
theorem dL_law__1121 : decode cL_law_ 1121 = .ok (.iconst 3, 1) := by decide +kernel
theorem dL_law__1122 : decode cL_law_ 1122 = .ok (.iadd, 1) := by decide +kernel
theorem dL_law__1123 : decode cL_law_ 1123 = .ok (.iaload, 1) := by decide +kernel
theorem dL_law__1124 : decode cL_law_ 1124 = .ok (.aload_n 3, 1) := by decide +kernel
theorem dL_law__1125 : decode cL_law_ 1125 = .ok (.invokestatic 173, 3) := by decide +kernel
theorem dL_law__1128 : decode cL_law_ 1128 = .ok (.istore 5, 2) := by decide +kernel
theorem dL_law__1130 : decode cL_law_ 1130 = .ok (.aload_n 2, 1) := by decide +kernel
theorem dL_law__1131 : decode cL_law_ 1131 = .ok (.aload_n 0, 1) := by decide +kernel
theorem dL_law__1132 : decode cL_law_ 1132 = .ok (.iload 4, 2) := by decide +kernel
theorem dL_law__1134 : decode cL_law_ 1134 = .ok (.iconst 1, 1) := by decide +kernel
theorem dL_law__1135 : decode cL_law_ 1135 = .ok (.iadd, 1) := by decide +kernel
theorem dL_law__1136 : decode cL_law_ 1136 = .ok (.iaload, 1) := by decide +kernel
theorem dL_law__1137 : decode cL_law_ 1137 = .ok (.aload_n 0, 1) := by decide +kernel
theorem dL_law__1138 : decode cL_law_ 1138 = .ok (.iload 4, 2) := by decide +kernel
theorem dL_law__1140 : decode cL_law_ 1140 = .ok (.iconst 2, 1) := by decide +kernel
theorem dL_law__1141 : decode cL_law_ 1141 = .ok (.iadd, 1) := by decide +kernel
theorem dL_law__1142 : decode cL_law_ 1142 = .ok (.iaload, 1) := by decide +kernel
theorem dL_law__1143 : decode cL_law_ 1143 = .ok (.aload_n 0, 1) := by decide +kernel
theorem dL_law__1144 : decode cL_law_ 1144 = .ok (.iload 4, 2) := by decide +kernel
theorem dL_law__1146 : decode cL_law_ 1146 = .ok (.iconst 3, 1) := by decide +kernel
theorem dL_law__1147 : decode cL_law_ 1147 = .ok (.iadd, 1) := by decide +kernel
theorem dL_law__1148 : decode cL_law_ 1148 = .ok (.iaload, 1) := by decide +kernel
theorem dL_law__1149 : decode cL_law_ 1149 = .ok (.invokevirtual 175, 3) := by decide +kernel
theorem dL_law__1152 : decode cL_law_ 1152 = .ok (.lstore 6, 2) := by decide +kernel
theorem dL_law__1154 : decode cL_law_ 1154 = .ok (.aload_n 2, 1) := by decide +kernel
theorem dL_law__1155 : decode cL_law_ 1155 = .ok (.invokevirtual 128, 3) := by decide +kernel
theorem dL_law__1158 : decode cL_law_ 1158 = .ok (.iload 5, 2) := by decide +kernel
theorem dL_law__1160 : decode cL_law_ 1160 = .ok (.if_icmp .eq 5, 3) := by decide +kernel
theorem dL_law__1163 : decode cL_law_ 1163 = .ok (.iconst 0, 1) := by decide +kernel
theorem dL_law__1164 : decode cL_law_ 1164 = .ok (.ireturn, 1) := by decide +kernel
theorem dL_law__1165 : decode cL_law_ 1165 = .ok (.iload 5, 2) := by decide +kernel
theorem dL_law__1167 : decode cL_law_ 1167 = .ok (.ifCond .ne 14, 3) := by decide +kernel
theorem dL_law__1170 : decode cL_law_ 1170 = .ok (.aload_n 3, 1) := by decide +kernel
theorem dL_law__1171 : decode cL_law_ 1171 = .ok (.iconst 0, 1) := by decide +kernel
theorem dL_law__1172 : decode cL_law_ 1172 = .ok (.laload, 1) := by decide +kernel
theorem dL_law__1173 : decode cL_law_ 1173 = .ok (.lload 6, 2) := by decide +kernel
theorem dL_law__1175 : decode cL_law_ 1175 = .ok (.lcmp, 1) := by decide +kernel
theorem dL_law__1176 : decode cL_law_ 1176 = .ok (.ifCond .eq 5, 3) := by decide +kernel
theorem dL_law__1179 : decode cL_law_ 1179 = .ok (.iconst 0, 1) := by decide +kernel
theorem dL_law__1180 : decode cL_law_ 1180 = .ok (.ireturn, 1) := by decide +kernel
theorem dL_law__1181 : decode cL_law_ 1181 = .ok (.goto 1033, 3) := by decide +kernel
theorem dL_law__1184 : decode cL_law_ 1184 = .ok (.aload_n 1, 1) := by decide +kernel
theorem dL_law__1185 : decode cL_law_ 1185 = .ok (.aload_n 0, 1) := by decide +kernel
theorem dL_law__1186 : decode cL_law_ 1186 = .ok (.iload 4, 2) := by decide +kernel
theorem dL_law__1188 : decode cL_law_ 1188 = .ok (.iconst 1, 1) := by decide +kernel
theorem dL_law__1189 : decode cL_law_ 1189 = .ok (.iadd, 1) := by decide +kernel
theorem dL_law__1190 : decode cL_law_ 1190 = .ok (.iaload, 1) := by decide +kernel
theorem dL_law__1191 : decode cL_law_ 1191 = .ok (.aload_n 0, 1) := by decide +kernel
theorem dL_law__1192 : decode cL_law_ 1192 = .ok (.iload 4, 2) := by decide +kernel
theorem dL_law__1194 : decode cL_law_ 1194 = .ok (.iconst 2, 1) := by decide +kernel
theorem dL_law__1195 : decode cL_law_ 1195 = .ok (.iadd, 1) := by decide +kernel
theorem dL_law__1196 : decode cL_law_ 1196 = .ok (.iaload, 1) := by decide +kernel
theorem dL_law__1197 : decode cL_law_ 1197 = .ok (.aload_n 0, 1) := by decide +kernel
theorem dL_law__1198 : decode cL_law_ 1198 = .ok (.iload 4, 2) := by decide +kernel
theorem dL_law__1200 : decode cL_law_ 1200 = .ok (.iconst 3, 1) := by decide +kernel
theorem dL_law__1201 : decode cL_law_ 1201 = .ok (.iadd, 1) := by decide +kernel
theorem dL_law__1202 : decode cL_law_ 1202 = .ok (.iaload, 1) := by decide +kernel
theorem dL_law__1203 : decode cL_law_ 1203 = .ok (.aload_n 0, 1) := by decide +kernel
theorem dL_law__1204 : decode cL_law_ 1204 = .ok (.iload 4, 2) := by decide +kernel
theorem dL_law__1206 : decode cL_law_ 1206 = .ok (.iconst 4, 1) := by decide +kernel
theorem dL_law__1207 : decode cL_law_ 1207 = .ok (.iadd, 1) := by decide +kernel
theorem dL_law__1208 : decode cL_law_ 1208 = .ok (.iaload, 1) := by decide +kernel
theorem dL_law__1209 : decode cL_law_ 1209 = .ok (.aload_n 0, 1) := by decide +kernel
theorem dL_law__1210 : decode cL_law_ 1210 = .ok (.iload 4, 2) := by decide +kernel
theorem dL_law__1212 : decode cL_law_ 1212 = .ok (.iconst 5, 1) := by decide +kernel
theorem dL_law__1213 : decode cL_law_ 1213 = .ok (.iadd, 1) := by decide +kernel
theorem dL_law__1214 : decode cL_law_ 1214 = .ok (.iaload, 1) := by decide +kernel
theorem dL_law__1215 : decode cL_law_ 1215 = .ok (.aload_n 3, 1) := by decide +kernel
theorem dL_law__1216 : decode cL_law_ 1216 = .ok (.invokestatic 176, 3) := by decide +kernel
theorem dL_law__1219 : decode cL_law_ 1219 = .ok (.istore 5, 2) := by decide +kernel
theorem dL_law__1221 : decode cL_law_ 1221 = .ok (.aload_n 2, 1) := by decide +kernel
theorem dL_law__1222 : decode cL_law_ 1222 = .ok (.aload_n 0, 1) := by decide +kernel
theorem dL_law__1223 : decode cL_law_ 1223 = .ok (.iload 4, 2) := by decide +kernel
theorem dL_law__1225 : decode cL_law_ 1225 = .ok (.iconst 1, 1) := by decide +kernel
theorem dL_law__1226 : decode cL_law_ 1226 = .ok (.iadd, 1) := by decide +kernel
theorem dL_law__1227 : decode cL_law_ 1227 = .ok (.iaload, 1) := by decide +kernel
theorem dL_law__1228 : decode cL_law_ 1228 = .ok (.aload_n 0, 1) := by decide +kernel
theorem dL_law__1229 : decode cL_law_ 1229 = .ok (.iload 4, 2) := by decide +kernel
theorem dL_law__1231 : decode cL_law_ 1231 = .ok (.iconst 2, 1) := by decide +kernel
theorem dL_law__1232 : decode cL_law_ 1232 = .ok (.iadd, 1) := by decide +kernel
theorem dL_law__1233 : decode cL_law_ 1233 = .ok (.iaload, 1) := by decide +kernel
theorem dL_law__1234 : decode cL_law_ 1234 = .ok (.aload_n 0, 1) := by decide +kernel
theorem dL_law__1235 : decode cL_law_ 1235 = .ok (.iload 4, 2) := by decide +kernel
theorem dL_law__1237 : decode cL_law_ 1237 = .ok (.iconst 3, 1) := by decide +kernel
theorem dL_law__1238 : decode cL_law_ 1238 = .ok (.iadd, 1) := by decide +kernel
theorem dL_law__1239 : decode cL_law_ 1239 = .ok (.iaload, 1) := by decide +kernel
theorem dL_law__1240 : decode cL_law_ 1240 = .ok (.aload_n 0, 1) := by decide +kernel
theorem dL_law__1241 : decode cL_law_ 1241 = .ok (.iload 4, 2) := by decide +kernel
theorem dL_law__1243 : decode cL_law_ 1243 = .ok (.iconst 4, 1) := by decide +kernel
theorem dL_law__1244 : decode cL_law_ 1244 = .ok (.iadd, 1) := by decide +kernel
theorem dL_law__1245 : decode cL_law_ 1245 = .ok (.iaload, 1) := by decide +kernel
theorem dL_law__1246 : decode cL_law_ 1246 = .ok (.aload_n 0, 1) := by decide +kernel
theorem dL_law__1247 : decode cL_law_ 1247 = .ok (.iload 4, 2) := by decide +kernel
theorem dL_law__1249 : decode cL_law_ 1249 = .ok (.iconst 5, 1) := by decide +kernel
theorem dL_law__1250 : decode cL_law_ 1250 = .ok (.iadd, 1) := by decide +kernel
theorem dL_law__1251 : decode cL_law_ 1251 = .ok (.iaload, 1) := by decide +kernel
theorem dL_law__1252 : decode cL_law_ 1252 = .ok (.invokevirtual 179, 3) := by decide +kernel
theorem dL_law__1255 : decode cL_law_ 1255 = .ok (.istore 6, 2) := by decide +kernel
theorem dL_law__1257 : decode cL_law_ 1257 = .ok (.aload_n 2, 1) := by decide +kernel
theorem dL_law__1258 : decode cL_law_ 1258 = .ok (.invokevirtual 128, 3) := by decide +kernel
theorem dL_law__1261 : decode cL_law_ 1261 = .ok (.iload 5, 2) := by decide +kernel
theorem dL_law__1263 : decode cL_law_ 1263 = .ok (.if_icmp .eq 5, 3) := by decide +kernel
theorem dL_law__1266 : decode cL_law_ 1266 = .ok (.iconst 0, 1) := by decide +kernel
theorem dL_law__1267 : decode cL_law_ 1267 = .ok (.ireturn, 1) := by decide +kernel
theorem dL_law__1268 : decode cL_law_ 1268 = .ok (.iload 5, 2) := by decide +kernel
theorem dL_law__1270 : decode cL_law_ 1270 = .ok (.ifCond .ne 15, 3) := by decide +kernel
theorem dL_law__1273 : decode cL_law_ 1273 = .ok (.aload_n 3, 1) := by decide +kernel
theorem dL_law__1274 : decode cL_law_ 1274 = .ok (.iconst 0, 1) := by decide +kernel
theorem dL_law__1275 : decode cL_law_ 1275 = .ok (.laload, 1) := by decide +kernel
theorem dL_law__1276 : decode cL_law_ 1276 = .ok (.iload 6, 2) := by decide +kernel
theorem dL_law__1278 : decode cL_law_ 1278 = .ok (.i2l, 1) := by decide +kernel
theorem dL_law__1279 : decode cL_law_ 1279 = .ok (.lcmp, 1) := by decide +kernel
theorem dL_law__1280 : decode cL_law_ 1280 = .ok (.ifCond .eq 5, 3) := by decide +kernel
theorem dL_law__1283 : decode cL_law_ 1283 = .ok (.iconst 0, 1) := by decide +kernel
theorem dL_law__1284 : decode cL_law_ 1284 = .ok (.ireturn, 1) := by decide +kernel
theorem dL_law__1285 : decode cL_law_ 1285 = .ok (.goto 929, 3) := by decide +kernel
theorem dL_law__1288 : decode cL_law_ 1288 = .ok (.aload_n 1, 1) := by decide +kernel
theorem dL_law__1289 : decode cL_law_ 1289 = .ok (.aload_n 0, 1) := by decide +kernel
theorem dL_law__1290 : decode cL_law_ 1290 = .ok (.iload 4, 2) := by decide +kernel
theorem dL_law__1292 : decode cL_law_ 1292 = .ok (.iconst 1, 1) := by decide +kernel
theorem dL_law__1293 : decode cL_law_ 1293 = .ok (.iadd, 1) := by decide +kernel
theorem dL_law__1294 : decode cL_law_ 1294 = .ok (.iaload, 1) := by decide +kernel
theorem dL_law__1295 : decode cL_law_ 1295 = .ok (.aload_n 3, 1) := by decide +kernel
theorem dL_law__1296 : decode cL_law_ 1296 = .ok (.invokestatic 180, 3) := by decide +kernel
theorem dL_law__1299 : decode cL_law_ 1299 = .ok (.istore 5, 2) := by decide +kernel
theorem dL_law__1301 : decode cL_law_ 1301 = .ok (.aload_n 2, 1) := by decide +kernel
theorem dL_law__1302 : decode cL_law_ 1302 = .ok (.aload_n 0, 1) := by decide +kernel
theorem dL_law__1303 : decode cL_law_ 1303 = .ok (.iload 4, 2) := by decide +kernel
theorem dL_law__1305 : decode cL_law_ 1305 = .ok (.iconst 1, 1) := by decide +kernel
theorem dL_law__1306 : decode cL_law_ 1306 = .ok (.iadd, 1) := by decide +kernel
theorem dL_law__1307 : decode cL_law_ 1307 = .ok (.iaload, 1) := by decide +kernel
theorem dL_law__1308 : decode cL_law_ 1308 = .ok (.invokevirtual 182, 3) := by decide +kernel
theorem dL_law__1311 : decode cL_law_ 1311 = .ok (.istore 6, 2) := by decide +kernel
theorem dL_law__1313 : decode cL_law_ 1313 = .ok (.aload_n 2, 1) := by decide +kernel
theorem dL_law__1314 : decode cL_law_ 1314 = .ok (.invokevirtual 128, 3) := by decide +kernel
theorem dL_law__1317 : decode cL_law_ 1317 = .ok (.iload 5, 2) := by decide +kernel
theorem dL_law__1319 : decode cL_law_ 1319 = .ok (.if_icmp .eq 5, 3) := by decide +kernel
theorem dL_law__1322 : decode cL_law_ 1322 = .ok (.iconst 0, 1) := by decide +kernel
theorem dL_law__1323 : decode cL_law_ 1323 = .ok (.ireturn, 1) := by decide +kernel
theorem dL_law__1324 : decode cL_law_ 1324 = .ok (.iload 5, 2) := by decide +kernel
theorem dL_law__1326 : decode cL_law_ 1326 = .ok (.ifCond .ne 15, 3) := by decide +kernel
theorem dL_law__1329 : decode cL_law_ 1329 = .ok (.aload_n 3, 1) := by decide +kernel
theorem dL_law__1330 : decode cL_law_ 1330 = .ok (.iconst 0, 1) := by decide +kernel
theorem dL_law__1331 : decode cL_law_ 1331 = .ok (.laload, 1) := by decide +kernel
theorem dL_law__1332 : decode cL_law_ 1332 = .ok (.iload 6, 2) := by decide +kernel
theorem dL_law__1334 : decode cL_law_ 1334 = .ok (.i2l, 1) := by decide +kernel
theorem dL_law__1335 : decode cL_law_ 1335 = .ok (.lcmp, 1) := by decide +kernel
theorem dL_law__1336 : decode cL_law_ 1336 = .ok (.ifCond .eq 5, 3) := by decide +kernel
theorem dL_law__1339 : decode cL_law_ 1339 = .ok (.iconst 0, 1) := by decide +kernel
theorem dL_law__1340 : decode cL_law_ 1340 = .ok (.ireturn, 1) := by decide +kernel
theorem dL_law__1341 : decode cL_law_ 1341 = .ok (.goto 873, 3) := by decide +kernel
theorem dL_law__1344 : decode cL_law_ 1344 = .ok (.aload_n 1, 1) := by decide +kernel
theorem dL_law__1345 : decode cL_law_ 1345 = .ok (.aload_n 0, 1) := by decide +kernel
theorem dL_law__1346 : decode cL_law_ 1346 = .ok (.iload 4, 2) := by decide +kernel
theorem dL_law__1348 : decode cL_law_ 1348 = .ok (.iconst 1, 1) := by decide +kernel
theorem dL_law__1349 : decode cL_law_ 1349 = .ok (.iadd, 1) := by decide +kernel
theorem dL_law__1350 : decode cL_law_ 1350 = .ok (.iaload, 1) := by decide +kernel
theorem dL_law__1351 : decode cL_law_ 1351 = .ok (.aload_n 0, 1) := by decide +kernel
theorem dL_law__1352 : decode cL_law_ 1352 = .ok (.iload 4, 2) := by decide +kernel
theorem dL_law__1354 : decode cL_law_ 1354 = .ok (.iconst 2, 1) := by decide +kernel
theorem dL_law__1355 : decode cL_law_ 1355 = .ok (.iadd, 1) := by decide +kernel
theorem dL_law__1356 : decode cL_law_ 1356 = .ok (.iaload, 1) := by decide +kernel
theorem dL_law__1357 : decode cL_law_ 1357 = .ok (.aload_n 0, 1) := by decide +kernel
theorem dL_law__1358 : decode cL_law_ 1358 = .ok (.iload 4, 2) := by decide +kernel
theorem dL_law__1360 : decode cL_law_ 1360 = .ok (.iconst 3, 1) := by decide +kernel
theorem dL_law__1361 : decode cL_law_ 1361 = .ok (.iadd, 1) := by decide +kernel
theorem dL_law__1362 : decode cL_law_ 1362 = .ok (.iaload, 1) := by decide +kernel
theorem dL_law__1363 : decode cL_law_ 1363 = .ok (.aload_n 0, 1) := by decide +kernel
theorem dL_law__1364 : decode cL_law_ 1364 = .ok (.iload 4, 2) := by decide +kernel
theorem dL_law__1366 : decode cL_law_ 1366 = .ok (.iconst 4, 1) := by decide +kernel
theorem dL_law__1367 : decode cL_law_ 1367 = .ok (.iadd, 1) := by decide +kernel
theorem dL_law__1368 : decode cL_law_ 1368 = .ok (.iaload, 1) := by decide +kernel
theorem dL_law__1369 : decode cL_law_ 1369 = .ok (.invokestatic 183, 3) := by decide +kernel
theorem dL_law__1372 : decode cL_law_ 1372 = .ok (.istore 5, 2) := by decide +kernel
theorem dL_law__1374 : decode cL_law_ 1374 = .ok (.aload_n 2, 1) := by decide +kernel
theorem dL_law__1375 : decode cL_law_ 1375 = .ok (.aload_n 0, 1) := by decide +kernel
theorem dL_law__1376 : decode cL_law_ 1376 = .ok (.iload 4, 2) := by decide +kernel
theorem dL_law__1378 : decode cL_law_ 1378 = .ok (.iconst 1, 1) := by decide +kernel
theorem dL_law__1379 : decode cL_law_ 1379 = .ok (.iadd, 1) := by decide +kernel
theorem dL_law__1380 : decode cL_law_ 1380 = .ok (.iaload, 1) := by decide +kernel
theorem dL_law__1381 : decode cL_law_ 1381 = .ok (.aload_n 0, 1) := by decide +kernel
theorem dL_law__1382 : decode cL_law_ 1382 = .ok (.iload 4, 2) := by decide +kernel
theorem dL_law__1384 : decode cL_law_ 1384 = .ok (.iconst 2, 1) := by decide +kernel
theorem dL_law__1385 : decode cL_law_ 1385 = .ok (.iadd, 1) := by decide +kernel
theorem dL_law__1386 : decode cL_law_ 1386 = .ok (.iaload, 1) := by decide +kernel
theorem dL_law__1387 : decode cL_law_ 1387 = .ok (.aload_n 0, 1) := by decide +kernel
theorem dL_law__1388 : decode cL_law_ 1388 = .ok (.iload 4, 2) := by decide +kernel
theorem dL_law__1390 : decode cL_law_ 1390 = .ok (.iconst 3, 1) := by decide +kernel
theorem dL_law__1391 : decode cL_law_ 1391 = .ok (.iadd, 1) := by decide +kernel
theorem dL_law__1392 : decode cL_law_ 1392 = .ok (.iaload, 1) := by decide +kernel
theorem dL_law__1393 : decode cL_law_ 1393 = .ok (.aload_n 0, 1) := by decide +kernel
theorem dL_law__1394 : decode cL_law_ 1394 = .ok (.iload 4, 2) := by decide +kernel
theorem dL_law__1396 : decode cL_law_ 1396 = .ok (.iconst 4, 1) := by decide +kernel
theorem dL_law__1397 : decode cL_law_ 1397 = .ok (.iadd, 1) := by decide +kernel
theorem dL_law__1398 : decode cL_law_ 1398 = .ok (.iaload, 1) := by decide +kernel
theorem dL_law__1399 : decode cL_law_ 1399 = .ok (.invokevirtual 186, 3) := by decide +kernel
theorem dL_law__1402 : decode cL_law_ 1402 = .ok (.aload_n 2, 1) := by decide +kernel
theorem dL_law__1403 : decode cL_law_ 1403 = .ok (.invokevirtual 128, 3) := by decide +kernel
theorem dL_law__1406 : decode cL_law_ 1406 = .ok (.iload 5, 2) := by decide +kernel
theorem dL_law__1408 : decode cL_law_ 1408 = .ok (.if_icmp .eq 5, 3) := by decide +kernel
theorem dL_law__1411 : decode cL_law_ 1411 = .ok (.iconst 0, 1) := by decide +kernel
theorem dL_law__1412 : decode cL_law_ 1412 = .ok (.ireturn, 1) := by decide +kernel
theorem dL_law__1413 : decode cL_law_ 1413 = .ok (.goto 801, 3) := by decide +kernel
theorem dL_law__1416 : decode cL_law_ 1416 = .ok (.aload_n 1, 1) := by decide +kernel
theorem dL_law__1417 : decode cL_law_ 1417 = .ok (.aload_n 0, 1) := by decide +kernel
theorem dL_law__1418 : decode cL_law_ 1418 = .ok (.iload 4, 2) := by decide +kernel
theorem dL_law__1420 : decode cL_law_ 1420 = .ok (.iconst 1, 1) := by decide +kernel
theorem dL_law__1421 : decode cL_law_ 1421 = .ok (.iadd, 1) := by decide +kernel
theorem dL_law__1422 : decode cL_law_ 1422 = .ok (.iaload, 1) := by decide +kernel
theorem dL_law__1423 : decode cL_law_ 1423 = .ok (.aload_n 0, 1) := by decide +kernel
theorem dL_law__1424 : decode cL_law_ 1424 = .ok (.iload 4, 2) := by decide +kernel
theorem dL_law__1426 : decode cL_law_ 1426 = .ok (.iconst 2, 1) := by decide +kernel
theorem dL_law__1427 : decode cL_law_ 1427 = .ok (.iadd, 1) := by decide +kernel
theorem dL_law__1428 : decode cL_law_ 1428 = .ok (.iaload, 1) := by decide +kernel
theorem dL_law__1429 : decode cL_law_ 1429 = .ok (.aload_n 0, 1) := by decide +kernel
theorem dL_law__1430 : decode cL_law_ 1430 = .ok (.iload 4, 2) := by decide +kernel
theorem dL_law__1432 : decode cL_law_ 1432 = .ok (.iconst 3, 1) := by decide +kernel
theorem dL_law__1433 : decode cL_law_ 1433 = .ok (.iadd, 1) := by decide +kernel
theorem dL_law__1434 : decode cL_law_ 1434 = .ok (.iaload, 1) := by decide +kernel
theorem dL_law__1435 : decode cL_law_ 1435 = .ok (.invokestatic 187, 3) := by decide +kernel
theorem dL_law__1438 : decode cL_law_ 1438 = .ok (.istore 5, 2) := by decide +kernel
theorem dL_law__1440 : decode cL_law_ 1440 = .ok (.aload_n 2, 1) := by decide +kernel
theorem dL_law__1441 : decode cL_law_ 1441 = .ok (.aload_n 0, 1) := by decide +kernel
theorem dL_law__1442 : decode cL_law_ 1442 = .ok (.iload 4, 2) := by decide +kernel
theorem dL_law__1444 : decode cL_law_ 1444 = .ok (.iconst 1, 1) := by decide +kernel
theorem dL_law__1445 : decode cL_law_ 1445 = .ok (.iadd, 1) := by decide +kernel
theorem dL_law__1446 : decode cL_law_ 1446 = .ok (.iaload, 1) := by decide +kernel
theorem dL_law__1447 : decode cL_law_ 1447 = .ok (.aload_n 0, 1) := by decide +kernel
theorem dL_law__1448 : decode cL_law_ 1448 = .ok (.iload 4, 2) := by decide +kernel
theorem dL_law__1450 : decode cL_law_ 1450 = .ok (.iconst 2, 1) := by decide +kernel
theorem dL_law__1451 : decode cL_law_ 1451 = .ok (.iadd, 1) := by decide +kernel
theorem dL_law__1452 : decode cL_law_ 1452 = .ok (.iaload, 1) := by decide +kernel
theorem dL_law__1453 : decode cL_law_ 1453 = .ok (.aload_n 0, 1) := by decide +kernel
theorem dL_law__1454 : decode cL_law_ 1454 = .ok (.iload 4, 2) := by decide +kernel
theorem dL_law__1456 : decode cL_law_ 1456 = .ok (.iconst 3, 1) := by decide +kernel
theorem dL_law__1457 : decode cL_law_ 1457 = .ok (.iadd, 1) := by decide +kernel
theorem dL_law__1458 : decode cL_law_ 1458 = .ok (.iaload, 1) := by decide +kernel
theorem dL_law__1459 : decode cL_law_ 1459 = .ok (.invokevirtual 189, 3) := by decide +kernel
theorem dL_law__1462 : decode cL_law_ 1462 = .ok (.aload_n 2, 1) := by decide +kernel
theorem dL_law__1463 : decode cL_law_ 1463 = .ok (.invokevirtual 128, 3) := by decide +kernel
theorem dL_law__1466 : decode cL_law_ 1466 = .ok (.iload 5, 2) := by decide +kernel
theorem dL_law__1468 : decode cL_law_ 1468 = .ok (.if_icmp .eq 5, 3) := by decide +kernel
theorem dL_law__1471 : decode cL_law_ 1471 = .ok (.iconst 0, 1) := by decide +kernel
theorem dL_law__1472 : decode cL_law_ 1472 = .ok (.ireturn, 1) := by decide +kernel
theorem dL_law__1473 : decode cL_law_ 1473 = .ok (.goto 741, 3) := by decide +kernel
theorem dL_law__1476 : decode cL_law_ 1476 = .ok (.aload_n 1, 1) := by decide +kernel
theorem dL_law__1477 : decode cL_law_ 1477 = .ok (.aload_n 0, 1) := by decide +kernel
theorem dL_law__1478 : decode cL_law_ 1478 = .ok (.iload 4, 2) := by decide +kernel
theorem dL_law__1480 : decode cL_law_ 1480 = .ok (.iconst 1, 1) := by decide +kernel
theorem dL_law__1481 : decode cL_law_ 1481 = .ok (.iadd, 1) := by decide +kernel
theorem dL_law__1482 : decode cL_law_ 1482 = .ok (.iaload, 1) := by decide +kernel
theorem dL_law__1483 : decode cL_law_ 1483 = .ok (.aload_n 0, 1) := by decide +kernel
theorem dL_law__1484 : decode cL_law_ 1484 = .ok (.iload 4, 2) := by decide +kernel
theorem dL_law__1486 : decode cL_law_ 1486 = .ok (.iconst 2, 1) := by decide +kernel
theorem dL_law__1487 : decode cL_law_ 1487 = .ok (.iadd, 1) := by decide +kernel
theorem dL_law__1488 : decode cL_law_ 1488 = .ok (.iaload, 1) := by decide +kernel
theorem dL_law__1489 : decode cL_law_ 1489 = .ok (.aload_n 3, 1) := by decide +kernel
theorem dL_law__1490 : decode cL_law_ 1490 = .ok (.invokestatic 190, 3) := by decide +kernel
theorem dL_law__1493 : decode cL_law_ 1493 = .ok (.istore 5, 2) := by decide +kernel
theorem dL_law__1495 : decode cL_law_ 1495 = .ok (.aload_n 2, 1) := by decide +kernel
theorem dL_law__1496 : decode cL_law_ 1496 = .ok (.aload_n 0, 1) := by decide +kernel
theorem dL_law__1497 : decode cL_law_ 1497 = .ok (.iload 4, 2) := by decide +kernel
theorem dL_law__1499 : decode cL_law_ 1499 = .ok (.iconst 1, 1) := by decide +kernel
theorem dL_law__1500 : decode cL_law_ 1500 = .ok (.iadd, 1) := by decide +kernel
theorem dL_law__1501 : decode cL_law_ 1501 = .ok (.iaload, 1) := by decide +kernel
theorem dL_law__1502 : decode cL_law_ 1502 = .ok (.aload_n 0, 1) := by decide +kernel
theorem dL_law__1503 : decode cL_law_ 1503 = .ok (.iload 4, 2) := by decide +kernel
theorem dL_law__1505 : decode cL_law_ 1505 = .ok (.iconst 2, 1) := by decide +kernel
theorem dL_law__1506 : decode cL_law_ 1506 = .ok (.iadd, 1) := by decide +kernel
theorem dL_law__1507 : decode cL_law_ 1507 = .ok (.iaload, 1) := by decide +kernel
theorem dL_law__1508 : decode cL_law_ 1508 = .ok (.invokevirtual 192, 3) := by decide +kernel
theorem dL_law__1511 : decode cL_law_ 1511 = .ok (.istore 6, 2) := by decide +kernel
theorem dL_law__1513 : decode cL_law_ 1513 = .ok (.aload_n 2, 1) := by decide +kernel
theorem dL_law__1514 : decode cL_law_ 1514 = .ok (.invokevirtual 128, 3) := by decide +kernel
theorem dL_law__1517 : decode cL_law_ 1517 = .ok (.iload 5, 2) := by decide +kernel
theorem dL_law__1519 : decode cL_law_ 1519 = .ok (.if_icmp .eq 5, 3) := by decide +kernel
theorem dL_law__1522 : decode cL_law_ 1522 = .ok (.iconst 0, 1) := by decide +kernel
theorem dL_law__1523 : decode cL_law_ 1523 = .ok (.ireturn, 1) := by decide +kernel
theorem dL_law__1524 : decode cL_law_ 1524 = .ok (.iload 5, 2) := by decide +kernel
theorem dL_law__1526 : decode cL_law_ 1526 = .ok (.ifCond .ne 15, 3) := by decide +kernel
theorem dL_law__1529 : decode cL_law_ 1529 = .ok (.aload_n 3, 1) := by decide +kernel
theorem dL_law__1530 : decode cL_law_ 1530 = .ok (.iconst 0, 1) := by decide +kernel
theorem dL_law__1531 : decode cL_law_ 1531 = .ok (.laload, 1) := by decide +kernel
theorem dL_law__1532 : decode cL_law_ 1532 = .ok (.iload 6, 2) := by decide +kernel
theorem dL_law__1534 : decode cL_law_ 1534 = .ok (.i2l, 1) := by decide +kernel
theorem dL_law__1535 : decode cL_law_ 1535 = .ok (.lcmp, 1) := by decide +kernel
theorem dL_law__1536 : decode cL_law_ 1536 = .ok (.ifCond .eq 5, 3) := by decide +kernel
theorem dL_law__1539 : decode cL_law_ 1539 = .ok (.iconst 0, 1) := by decide +kernel
theorem dL_law__1540 : decode cL_law_ 1540 = .ok (.ireturn, 1) := by decide +kernel
theorem dL_law__1541 : decode cL_law_ 1541 = .ok (.goto 673, 3) := by decide +kernel
theorem dL_law__1544 : decode cL_law_ 1544 = .ok (.aload_n 1, 1) := by decide +kernel
theorem dL_law__1545 : decode cL_law_ 1545 = .ok (.aload_n 0, 1) := by decide +kernel
theorem dL_law__1546 : decode cL_law_ 1546 = .ok (.iload 4, 2) := by decide +kernel
theorem dL_law__1548 : decode cL_law_ 1548 = .ok (.iconst 1, 1) := by decide +kernel
theorem dL_law__1549 : decode cL_law_ 1549 = .ok (.iadd, 1) := by decide +kernel
theorem dL_law__1550 : decode cL_law_ 1550 = .ok (.iaload, 1) := by decide +kernel
theorem dL_law__1551 : decode cL_law_ 1551 = .ok (.aload_n 0, 1) := by decide +kernel
theorem dL_law__1552 : decode cL_law_ 1552 = .ok (.iload 4, 2) := by decide +kernel
theorem dL_law__1554 : decode cL_law_ 1554 = .ok (.iconst 2, 1) := by decide +kernel
theorem dL_law__1555 : decode cL_law_ 1555 = .ok (.iadd, 1) := by decide +kernel
theorem dL_law__1556 : decode cL_law_ 1556 = .ok (.iaload, 1) := by decide +kernel
theorem dL_law__1557 : decode cL_law_ 1557 = .ok (.aload_n 0, 1) := by decide +kernel
theorem dL_law__1558 : decode cL_law_ 1558 = .ok (.iload 4, 2) := by decide +kernel
theorem dL_law__1560 : decode cL_law_ 1560 = .ok (.iconst 3, 1) := by decide +kernel
theorem dL_law__1561 : decode cL_law_ 1561 = .ok (.iadd, 1) := by decide +kernel
theorem dL_law__1562 : decode cL_law_ 1562 = .ok (.iaload, 1) := by decide +kernel
theorem dL_law__1563 : decode cL_law_ 1563 = .ok (.aload_n 3, 1) := by decide +kernel
theorem dL_law__1564 : decode cL_law_ 1564 = .ok (.invokestatic 193, 3) := by decide +kernel
theorem dL_law__1567 : decode cL_law_ 1567 = .ok (.istore 5, 2) := by decide +kernel
theorem dL_law__1569 : decode cL_law_ 1569 = .ok (.aload_n 2, 1) := by decide +kernel
theorem dL_law__1570 : decode cL_law_ 1570 = .ok (.aload_n 0, 1) := by decide +kernel
theorem dL_law__1571 : decode cL_law_ 1571 = .ok (.iload 4, 2) := by decide +kernel
theorem dL_law__1573 : decode cL_law_ 1573 = .ok (.iconst 1, 1) := by decide +kernel
theorem dL_law__1574 : decode cL_law_ 1574 = .ok (.iadd, 1) := by decide +kernel
theorem dL_law__1575 : decode cL_law_ 1575 = .ok (.iaload, 1) := by decide +kernel
theorem dL_law__1576 : decode cL_law_ 1576 = .ok (.aload_n 0, 1) := by decide +kernel
theorem dL_law__1577 : decode cL_law_ 1577 = .ok (.iload 4, 2) := by decide +kernel
theorem dL_law__1579 : decode cL_law_ 1579 = .ok (.iconst 2, 1) := by decide +kernel
theorem dL_law__1580 : decode cL_law_ 1580 = .ok (.iadd, 1) := by decide +kernel
theorem dL_law__1581 : decode cL_law_ 1581 = .ok (.iaload, 1) := by decide +kernel
theorem dL_law__1582 : decode cL_law_ 1582 = .ok (.aload_n 0, 1) := by decide +kernel
theorem dL_law__1583 : decode cL_law_ 1583 = .ok (.iload 4, 2) := by decide +kernel
theorem dL_law__1585 : decode cL_law_ 1585 = .ok (.iconst 3, 1) := by decide +kernel
theorem dL_law__1586 : decode cL_law_ 1586 = .ok (.iadd, 1) := by decide +kernel
theorem dL_law__1587 : decode cL_law_ 1587 = .ok (.iaload, 1) := by decide +kernel
theorem dL_law__1588 : decode cL_law_ 1588 = .ok (.invokevirtual 195, 3) := by decide +kernel
theorem dL_law__1591 : decode cL_law_ 1591 = .ok (.istore 6, 2) := by decide +kernel
theorem dL_law__1593 : decode cL_law_ 1593 = .ok (.aload_n 2, 1) := by decide +kernel
theorem dL_law__1594 : decode cL_law_ 1594 = .ok (.invokevirtual 128, 3) := by decide +kernel
theorem dL_law__1597 : decode cL_law_ 1597 = .ok (.iload 5, 2) := by decide +kernel
theorem dL_law__1599 : decode cL_law_ 1599 = .ok (.if_icmp .eq 5, 3) := by decide +kernel
theorem dL_law__1602 : decode cL_law_ 1602 = .ok (.iconst 0, 1) := by decide +kernel
theorem dL_law__1603 : decode cL_law_ 1603 = .ok (.ireturn, 1) := by decide +kernel
theorem dL_law__1604 : decode cL_law_ 1604 = .ok (.iload 5, 2) := by decide +kernel
theorem dL_law__1606 : decode cL_law_ 1606 = .ok (.ifCond .ne 22, 3) := by decide +kernel
theorem dL_law__1609 : decode cL_law_ 1609 = .ok (.aload_n 3, 1) := by decide +kernel
theorem dL_law__1610 : decode cL_law_ 1610 = .ok (.iconst 0, 1) := by decide +kernel
theorem dL_law__1611 : decode cL_law_ 1611 = .ok (.laload, 1) := by decide +kernel
theorem dL_law__1612 : decode cL_law_ 1612 = .ok (.iload 6, 2) := by decide +kernel
theorem dL_law__1614 : decode cL_law_ 1614 = .ok (.ifCond .eq 7, 3) := by decide +kernel
theorem dL_law__1617 : decode cL_law_ 1617 = .ok (.lconst 1, 1) := by decide +kernel
theorem dL_law__1618 : decode cL_law_ 1618 = .ok (.goto 4, 3) := by decide +kernel
theorem dL_law__1621 : decode cL_law_ 1621 = .ok (.lconst 0, 1) := by decide +kernel
theorem dL_law__1622 : decode cL_law_ 1622 = .ok (.lcmp, 1) := by decide +kernel
theorem dL_law__1623 : decode cL_law_ 1623 = .ok (.ifCond .eq 5, 3) := by decide +kernel
theorem dL_law__1626 : decode cL_law_ 1626 = .ok (.iconst 0, 1) := by decide +kernel
theorem dL_law__1627 : decode cL_law_ 1627 = .ok (.ireturn, 1) := by decide +kernel
theorem dL_law__1628 : decode cL_law_ 1628 = .ok (.goto 586, 3) := by decide +kernel
theorem dL_law__1631 : decode cL_law_ 1631 = .ok (.aload_n 1, 1) := by decide +kernel
theorem dL_law__1632 : decode cL_law_ 1632 = .ok (.aload_n 0, 1) := by decide +kernel
theorem dL_law__1633 : decode cL_law_ 1633 = .ok (.iload 4, 2) := by decide +kernel
theorem dL_law__1635 : decode cL_law_ 1635 = .ok (.iconst 1, 1) := by decide +kernel
theorem dL_law__1636 : decode cL_law_ 1636 = .ok (.iadd, 1) := by decide +kernel
theorem dL_law__1637 : decode cL_law_ 1637 = .ok (.iaload, 1) := by decide +kernel
theorem dL_law__1638 : decode cL_law_ 1638 = .ok (.aload_n 0, 1) := by decide +kernel
theorem dL_law__1639 : decode cL_law_ 1639 = .ok (.iload 4, 2) := by decide +kernel
theorem dL_law__1641 : decode cL_law_ 1641 = .ok (.iconst 2, 1) := by decide +kernel
theorem dL_law__1642 : decode cL_law_ 1642 = .ok (.iadd, 1) := by decide +kernel
theorem dL_law__1643 : decode cL_law_ 1643 = .ok (.iaload, 1) := by decide +kernel
theorem dL_law__1644 : decode cL_law_ 1644 = .ok (.aload_n 0, 1) := by decide +kernel
theorem dL_law__1645 : decode cL_law_ 1645 = .ok (.iload 4, 2) := by decide +kernel
theorem dL_law__1647 : decode cL_law_ 1647 = .ok (.iconst 3, 1) := by decide +kernel
theorem dL_law__1648 : decode cL_law_ 1648 = .ok (.iadd, 1) := by decide +kernel
theorem dL_law__1649 : decode cL_law_ 1649 = .ok (.iaload, 1) := by decide +kernel
theorem dL_law__1650 : decode cL_law_ 1650 = .ok (.aload_n 3, 1) := by decide +kernel
theorem dL_law__1651 : decode cL_law_ 1651 = .ok (.invokestatic 196, 3) := by decide +kernel
theorem dL_law__1654 : decode cL_law_ 1654 = .ok (.istore 5, 2) := by decide +kernel
theorem dL_law__1656 : decode cL_law_ 1656 = .ok (.aload_n 2, 1) := by decide +kernel
theorem dL_law__1657 : decode cL_law_ 1657 = .ok (.aload_n 0, 1) := by decide +kernel
theorem dL_law__1658 : decode cL_law_ 1658 = .ok (.iload 4, 2) := by decide +kernel
theorem dL_law__1660 : decode cL_law_ 1660 = .ok (.iconst 1, 1) := by decide +kernel
theorem dL_law__1661 : decode cL_law_ 1661 = .ok (.iadd, 1) := by decide +kernel
theorem dL_law__1662 : decode cL_law_ 1662 = .ok (.iaload, 1) := by decide +kernel
theorem dL_law__1663 : decode cL_law_ 1663 = .ok (.aload_n 0, 1) := by decide +kernel
theorem dL_law__1664 : decode cL_law_ 1664 = .ok (.iload 4, 2) := by decide +kernel
theorem dL_law__1666 : decode cL_law_ 1666 = .ok (.iconst 2, 1) := by decide +kernel
theorem dL_law__1667 : decode cL_law_ 1667 = .ok (.iadd, 1) := by decide +kernel
theorem dL_law__1668 : decode cL_law_ 1668 = .ok (.iaload, 1) := by decide +kernel
theorem dL_law__1669 : decode cL_law_ 1669 = .ok (.aload_n 0, 1) := by decide +kernel
theorem dL_law__1670 : decode cL_law_ 1670 = .ok (.iload 4, 2) := by decide +kernel
theorem dL_law__1672 : decode cL_law_ 1672 = .ok (.iconst 3, 1) := by decide +kernel
theorem dL_law__1673 : decode cL_law_ 1673 = .ok (.iadd, 1) := by decide +kernel
theorem dL_law__1674 : decode cL_law_ 1674 = .ok (.iaload, 1) := by decide +kernel
theorem dL_law__1675 : decode cL_law_ 1675 = .ok (.invokevirtual 198, 3) := by decide +kernel
theorem dL_law__1678 : decode cL_law_ 1678 = .ok (.istore 6, 2) := by decide +kernel
theorem dL_law__1680 : decode cL_law_ 1680 = .ok (.aload_n 2, 1) := by decide +kernel
theorem dL_law__1681 : decode cL_law_ 1681 = .ok (.invokevirtual 128, 3) := by decide +kernel
theorem dL_law__1684 : decode cL_law_ 1684 = .ok (.iload 5, 2) := by decide +kernel
theorem dL_law__1686 : decode cL_law_ 1686 = .ok (.if_icmp .eq 5, 3) := by decide +kernel
theorem dL_law__1689 : decode cL_law_ 1689 = .ok (.iconst 0, 1) := by decide +kernel
theorem dL_law__1690 : decode cL_law_ 1690 = .ok (.ireturn, 1) := by decide +kernel
theorem dL_law__1691 : decode cL_law_ 1691 = .ok (.iload 5, 2) := by decide +kernel
theorem dL_law__1693 : decode cL_law_ 1693 = .ok (.ifCond .ne 15, 3) := by decide +kernel
theorem dL_law__1696 : decode cL_law_ 1696 = .ok (.aload_n 3, 1) := by decide +kernel
theorem dL_law__1697 : decode cL_law_ 1697 = .ok (.iconst 0, 1) := by decide +kernel
theorem dL_law__1698 : decode cL_law_ 1698 = .ok (.laload, 1) := by decide +kernel
theorem dL_law__1699 : decode cL_law_ 1699 = .ok (.iload 6, 2) := by decide +kernel
theorem dL_law__1701 : decode cL_law_ 1701 = .ok (.i2l, 1) := by decide +kernel
theorem dL_law__1702 : decode cL_law_ 1702 = .ok (.lcmp, 1) := by decide +kernel
theorem dL_law__1703 : decode cL_law_ 1703 = .ok (.ifCond .eq 5, 3) := by decide +kernel
theorem dL_law__1706 : decode cL_law_ 1706 = .ok (.iconst 0, 1) := by decide +kernel
theorem dL_law__1707 : decode cL_law_ 1707 = .ok (.ireturn, 1) := by decide +kernel
theorem dL_law__1708 : decode cL_law_ 1708 = .ok (.goto 506, 3) := by decide +kernel
theorem dL_law__1711 : decode cL_law_ 1711 = .ok (.aload_n 1, 1) := by decide +kernel
theorem dL_law__1712 : decode cL_law_ 1712 = .ok (.aload_n 0, 1) := by decide +kernel
theorem dL_law__1713 : decode cL_law_ 1713 = .ok (.iload 4, 2) := by decide +kernel
theorem dL_law__1715 : decode cL_law_ 1715 = .ok (.iconst 1, 1) := by decide +kernel
theorem dL_law__1716 : decode cL_law_ 1716 = .ok (.iadd, 1) := by decide +kernel
theorem dL_law__1717 : decode cL_law_ 1717 = .ok (.iaload, 1) := by decide +kernel
theorem dL_law__1718 : decode cL_law_ 1718 = .ok (.aload_n 0, 1) := by decide +kernel
theorem dL_law__1719 : decode cL_law_ 1719 = .ok (.iload 4, 2) := by decide +kernel
theorem dL_law__1721 : decode cL_law_ 1721 = .ok (.iconst 2, 1) := by decide +kernel
theorem dL_law__1722 : decode cL_law_ 1722 = .ok (.iadd, 1) := by decide +kernel
theorem dL_law__1723 : decode cL_law_ 1723 = .ok (.iaload, 1) := by decide +kernel
theorem dL_law__1724 : decode cL_law_ 1724 = .ok (.invokestatic 199, 3) := by decide +kernel
theorem dL_law__1727 : decode cL_law_ 1727 = .ok (.istore 5, 2) := by decide +kernel
theorem dL_law__1729 : decode cL_law_ 1729 = .ok (.aload_n 2, 1) := by decide +kernel
theorem dL_law__1730 : decode cL_law_ 1730 = .ok (.aload_n 0, 1) := by decide +kernel
theorem dL_law__1731 : decode cL_law_ 1731 = .ok (.iload 4, 2) := by decide +kernel
theorem dL_law__1733 : decode cL_law_ 1733 = .ok (.iconst 1, 1) := by decide +kernel
theorem dL_law__1734 : decode cL_law_ 1734 = .ok (.iadd, 1) := by decide +kernel
theorem dL_law__1735 : decode cL_law_ 1735 = .ok (.iaload, 1) := by decide +kernel
theorem dL_law__1736 : decode cL_law_ 1736 = .ok (.aload_n 0, 1) := by decide +kernel
theorem dL_law__1737 : decode cL_law_ 1737 = .ok (.iload 4, 2) := by decide +kernel
theorem dL_law__1739 : decode cL_law_ 1739 = .ok (.iconst 2, 1) := by decide +kernel
theorem dL_law__1740 : decode cL_law_ 1740 = .ok (.iadd, 1) := by decide +kernel
theorem dL_law__1741 : decode cL_law_ 1741 = .ok (.iaload, 1) := by decide +kernel
theorem dL_law__1742 : decode cL_law_ 1742 = .ok (.invokevirtual 202, 3) := by decide +kernel
theorem dL_law__1745 : decode cL_law_ 1745 = .ok (.aload_n 2, 1) := by decide +kernel
theorem dL_law__1746 : decode cL_law_ 1746 = .ok (.invokevirtual 128, 3) := by decide +kernel
theorem dL_law__1749 : decode cL_law_ 1749 = .ok (.iload 5, 2) := by decide +kernel
theorem dL_law__1751 : decode cL_law_ 1751 = .ok (.if_icmp .eq 5, 3) := by decide +kernel
theorem dL_law__1754 : decode cL_law_ 1754 = .ok (.iconst 0, 1) := by decide +kernel
theorem dL_law__1755 : decode cL_law_ 1755 = .ok (.ireturn, 1) := by decide +kernel
theorem dL_law__1756 : decode cL_law_ 1756 = .ok (.goto 458, 3) := by decide +kernel
theorem dL_law__1759 : decode cL_law_ 1759 = .ok (.aload_n 1, 1) := by decide +kernel
theorem dL_law__1760 : decode cL_law_ 1760 = .ok (.aload_n 0, 1) := by decide +kernel
theorem dL_law__1761 : decode cL_law_ 1761 = .ok (.iload 4, 2) := by decide +kernel
theorem dL_law__1763 : decode cL_law_ 1763 = .ok (.iconst 1, 1) := by decide +kernel
theorem dL_law__1764 : decode cL_law_ 1764 = .ok (.iadd, 1) := by decide +kernel
theorem dL_law__1765 : decode cL_law_ 1765 = .ok (.iaload, 1) := by decide +kernel
theorem dL_law__1766 : decode cL_law_ 1766 = .ok (.invokestatic 203, 3) := by decide +kernel
theorem dL_law__1769 : decode cL_law_ 1769 = .ok (.istore 5, 2) := by decide +kernel
theorem dL_law__1771 : decode cL_law_ 1771 = .ok (.aload_n 2, 1) := by decide +kernel
theorem dL_law__1772 : decode cL_law_ 1772 = .ok (.aload_n 0, 1) := by decide +kernel
theorem dL_law__1773 : decode cL_law_ 1773 = .ok (.iload 4, 2) := by decide +kernel
theorem dL_law__1775 : decode cL_law_ 1775 = .ok (.iconst 1, 1) := by decide +kernel
theorem dL_law__1776 : decode cL_law_ 1776 = .ok (.iadd, 1) := by decide +kernel
theorem dL_law__1777 : decode cL_law_ 1777 = .ok (.iaload, 1) := by decide +kernel
theorem dL_law__1778 : decode cL_law_ 1778 = .ok (.invokevirtual 206, 3) := by decide +kernel
theorem dL_law__1781 : decode cL_law_ 1781 = .ok (.aload_n 2, 1) := by decide +kernel
theorem dL_law__1782 : decode cL_law_ 1782 = .ok (.invokevirtual 128, 3) := by decide +kernel
theorem dL_law__1785 : decode cL_law_ 1785 = .ok (.iload 5, 2) := by decide +kernel
theorem dL_law__1787 : decode cL_law_ 1787 = .ok (.if_icmp .eq 5, 3) := by decide +kernel
theorem dL_law__1790 : decode cL_law_ 1790 = .ok (.iconst 0, 1) := by decide +kernel
theorem dL_law__1791 : decode cL_law_ 1791 = .ok (.ireturn, 1) := by decide +kernel
theorem dL_law__1792 : decode cL_law_ 1792 = .ok (.goto 422, 3) := by decide +kernel
theorem dL_law__1795 : decode cL_law_ 1795 = .ok (.aload_n 1, 1) := by decide +kernel
theorem dL_law__1796 : decode cL_law_ 1796 = .ok (.aload_n 0, 1) := by decide +kernel
theorem dL_law__1797 : decode cL_law_ 1797 = .ok (.iload 4, 2) := by decide +kernel
theorem dL_law__1799 : decode cL_law_ 1799 = .ok (.iconst 1, 1) := by decide +kernel
theorem dL_law__1800 : decode cL_law_ 1800 = .ok (.iadd, 1) := by decide +kernel
theorem dL_law__1801 : decode cL_law_ 1801 = .ok (.iaload, 1) := by decide +kernel
theorem dL_law__1802 : decode cL_law_ 1802 = .ok (.aload_n 0, 1) := by decide +kernel
theorem dL_law__1803 : decode cL_law_ 1803 = .ok (.iload 4, 2) := by decide +kernel
theorem dL_law__1805 : decode cL_law_ 1805 = .ok (.iconst 2, 1) := by decide +kernel
theorem dL_law__1806 : decode cL_law_ 1806 = .ok (.iadd, 1) := by decide +kernel
theorem dL_law__1807 : decode cL_law_ 1807 = .ok (.iaload, 1) := by decide +kernel
theorem dL_law__1808 : decode cL_law_ 1808 = .ok (.aload_n 3, 1) := by decide +kernel
theorem dL_law__1809 : decode cL_law_ 1809 = .ok (.invokestatic 207, 3) := by decide +kernel
theorem dL_law__1812 : decode cL_law_ 1812 = .ok (.istore 5, 2) := by decide +kernel
theorem dL_law__1814 : decode cL_law_ 1814 = .ok (.aload_n 2, 1) := by decide +kernel
theorem dL_law__1815 : decode cL_law_ 1815 = .ok (.aload_n 0, 1) := by decide +kernel
theorem dL_law__1816 : decode cL_law_ 1816 = .ok (.iload 4, 2) := by decide +kernel
theorem dL_law__1818 : decode cL_law_ 1818 = .ok (.iconst 1, 1) := by decide +kernel
theorem dL_law__1819 : decode cL_law_ 1819 = .ok (.iadd, 1) := by decide +kernel
theorem dL_law__1820 : decode cL_law_ 1820 = .ok (.iaload, 1) := by decide +kernel
theorem dL_law__1821 : decode cL_law_ 1821 = .ok (.aload_n 0, 1) := by decide +kernel
theorem dL_law__1822 : decode cL_law_ 1822 = .ok (.iload 4, 2) := by decide +kernel
theorem dL_law__1824 : decode cL_law_ 1824 = .ok (.iconst 2, 1) := by decide +kernel
theorem dL_law__1825 : decode cL_law_ 1825 = .ok (.iadd, 1) := by decide +kernel
theorem dL_law__1826 : decode cL_law_ 1826 = .ok (.iaload, 1) := by decide +kernel
theorem dL_law__1827 : decode cL_law_ 1827 = .ok (.invokevirtual 209, 3) := by decide +kernel
theorem dL_law__1830 : decode cL_law_ 1830 = .ok (.istore 6, 2) := by decide +kernel
theorem dL_law__1832 : decode cL_law_ 1832 = .ok (.aload_n 2, 1) := by decide +kernel
theorem dL_law__1833 : decode cL_law_ 1833 = .ok (.invokevirtual 128, 3) := by decide +kernel
theorem dL_law__1836 : decode cL_law_ 1836 = .ok (.iload 5, 2) := by decide +kernel
theorem dL_law__1838 : decode cL_law_ 1838 = .ok (.if_icmp .eq 5, 3) := by decide +kernel
theorem dL_law__1841 : decode cL_law_ 1841 = .ok (.iconst 0, 1) := by decide +kernel
theorem dL_law__1842 : decode cL_law_ 1842 = .ok (.ireturn, 1) := by decide +kernel
theorem dL_law__1843 : decode cL_law_ 1843 = .ok (.iload 5, 2) := by decide +kernel
theorem dL_law__1845 : decode cL_law_ 1845 = .ok (.ifCond .ne 15, 3) := by decide +kernel
theorem dL_law__1848 : decode cL_law_ 1848 = .ok (.aload_n 3, 1) := by decide +kernel
theorem dL_law__1849 : decode cL_law_ 1849 = .ok (.iconst 0, 1) := by decide +kernel
theorem dL_law__1850 : decode cL_law_ 1850 = .ok (.laload, 1) := by decide +kernel
theorem dL_law__1851 : decode cL_law_ 1851 = .ok (.iload 6, 2) := by decide +kernel
theorem dL_law__1853 : decode cL_law_ 1853 = .ok (.i2l, 1) := by decide +kernel
theorem dL_law__1854 : decode cL_law_ 1854 = .ok (.lcmp, 1) := by decide +kernel
theorem dL_law__1855 : decode cL_law_ 1855 = .ok (.ifCond .eq 5, 3) := by decide +kernel
theorem dL_law__1858 : decode cL_law_ 1858 = .ok (.iconst 0, 1) := by decide +kernel
theorem dL_law__1859 : decode cL_law_ 1859 = .ok (.ireturn, 1) := by decide +kernel
theorem dL_law__1860 : decode cL_law_ 1860 = .ok (.goto 354, 3) := by decide +kernel
theorem dL_law__1863 : decode cL_law_ 1863 = .ok (.aload_n 1, 1) := by decide +kernel
theorem dL_law__1864 : decode cL_law_ 1864 = .ok (.aload_n 0, 1) := by decide +kernel
theorem dL_law__1865 : decode cL_law_ 1865 = .ok (.iload 4, 2) := by decide +kernel
theorem dL_law__1867 : decode cL_law_ 1867 = .ok (.iconst 1, 1) := by decide +kernel
theorem dL_law__1868 : decode cL_law_ 1868 = .ok (.iadd, 1) := by decide +kernel
theorem dL_law__1869 : decode cL_law_ 1869 = .ok (.iaload, 1) := by decide +kernel
theorem dL_law__1870 : decode cL_law_ 1870 = .ok (.aload_n 0, 1) := by decide +kernel
theorem dL_law__1871 : decode cL_law_ 1871 = .ok (.iload 4, 2) := by decide +kernel
theorem dL_law__1873 : decode cL_law_ 1873 = .ok (.iconst 2, 1) := by decide +kernel
theorem dL_law__1874 : decode cL_law_ 1874 = .ok (.iadd, 1) := by decide +kernel
theorem dL_law__1875 : decode cL_law_ 1875 = .ok (.iaload, 1) := by decide +kernel
theorem dL_law__1876 : decode cL_law_ 1876 = .ok (.aload_n 3, 1) := by decide +kernel
theorem dL_law__1877 : decode cL_law_ 1877 = .ok (.invokestatic 210, 3) := by decide +kernel
theorem dL_law__1880 : decode cL_law_ 1880 = .ok (.istore 5, 2) := by decide +kernel
theorem dL_law__1882 : decode cL_law_ 1882 = .ok (.aload_n 2, 1) := by decide +kernel
theorem dL_law__1883 : decode cL_law_ 1883 = .ok (.aload_n 0, 1) := by decide +kernel
theorem dL_law__1884 : decode cL_law_ 1884 = .ok (.iload 4, 2) := by decide +kernel
theorem dL_law__1886 : decode cL_law_ 1886 = .ok (.iconst 1, 1) := by decide +kernel
theorem dL_law__1887 : decode cL_law_ 1887 = .ok (.iadd, 1) := by decide +kernel
theorem dL_law__1888 : decode cL_law_ 1888 = .ok (.iaload, 1) := by decide +kernel
theorem dL_law__1889 : decode cL_law_ 1889 = .ok (.aload_n 0, 1) := by decide +kernel
theorem dL_law__1890 : decode cL_law_ 1890 = .ok (.iload 4, 2) := by decide +kernel
theorem dL_law__1892 : decode cL_law_ 1892 = .ok (.iconst 2, 1) := by decide +kernel
theorem dL_law__1893 : decode cL_law_ 1893 = .ok (.iadd, 1) := by decide +kernel
theorem dL_law__1894 : decode cL_law_ 1894 = .ok (.iaload, 1) := by decide +kernel
theorem dL_law__1895 : decode cL_law_ 1895 = .ok (.invokevirtual 212, 3) := by decide +kernel
theorem dL_law__1898 : decode cL_law_ 1898 = .ok (.istore 6, 2) := by decide +kernel
theorem dL_law__1900 : decode cL_law_ 1900 = .ok (.aload_n 2, 1) := by decide +kernel
theorem dL_law__1901 : decode cL_law_ 1901 = .ok (.invokevirtual 128, 3) := by decide +kernel
theorem dL_law__1904 : decode cL_law_ 1904 = .ok (.iload 5, 2) := by decide +kernel
theorem dL_law__1906 : decode cL_law_ 1906 = .ok (.if_icmp .eq 5, 3) := by decide +kernel
theorem dL_law__1909 : decode cL_law_ 1909 = .ok (.iconst 0, 1) := by decide +kernel
theorem dL_law__1910 : decode cL_law_ 1910 = .ok (.ireturn, 1) := by decide +kernel
theorem dL_law__1911 : decode cL_law_ 1911 = .ok (.iload 5, 2) := by decide +kernel
theorem dL_law__1913 : decode cL_law_ 1913 = .ok (.ifCond .ne 15, 3) := by decide +kernel
theorem dL_law__1916 : decode cL_law_ 1916 = .ok (.aload_n 3, 1) := by decide +kernel
theorem dL_law__1917 : decode cL_law_ 1917 = .ok (.iconst 0, 1) := by decide +kernel
theorem dL_law__1918 : decode cL_law_ 1918 = .ok (.laload, 1) := by decide +kernel
theorem dL_law__1919 : decode cL_law_ 1919 = .ok (.iload 6, 2) := by decide +kernel
theorem dL_law__1921 : decode cL_law_ 1921 = .ok (.i2l, 1) := by decide +kernel
theorem dL_law__1922 : decode cL_law_ 1922 = .ok (.lcmp, 1) := by decide +kernel
theorem dL_law__1923 : decode cL_law_ 1923 = .ok (.ifCond .eq 5, 3) := by decide +kernel
theorem dL_law__1926 : decode cL_law_ 1926 = .ok (.iconst 0, 1) := by decide +kernel
theorem dL_law__1927 : decode cL_law_ 1927 = .ok (.ireturn, 1) := by decide +kernel
theorem dL_law__1928 : decode cL_law_ 1928 = .ok (.goto 286, 3) := by decide +kernel
theorem dL_law__1931 : decode cL_law_ 1931 = .ok (.aload_n 1, 1) := by decide +kernel
theorem dL_law__1932 : decode cL_law_ 1932 = .ok (.aload_n 0, 1) := by decide +kernel
theorem dL_law__1933 : decode cL_law_ 1933 = .ok (.iload 4, 2) := by decide +kernel
theorem dL_law__1935 : decode cL_law_ 1935 = .ok (.iconst 1, 1) := by decide +kernel
theorem dL_law__1936 : decode cL_law_ 1936 = .ok (.iadd, 1) := by decide +kernel
theorem dL_law__1937 : decode cL_law_ 1937 = .ok (.iaload, 1) := by decide +kernel
theorem dL_law__1938 : decode cL_law_ 1938 = .ok (.aload_n 0, 1) := by decide +kernel
theorem dL_law__1939 : decode cL_law_ 1939 = .ok (.iload 4, 2) := by decide +kernel
theorem dL_law__1941 : decode cL_law_ 1941 = .ok (.iconst 2, 1) := by decide +kernel
theorem dL_law__1942 : decode cL_law_ 1942 = .ok (.iadd, 1) := by decide +kernel
theorem dL_law__1943 : decode cL_law_ 1943 = .ok (.iaload, 1) := by decide +kernel
theorem dL_law__1944 : decode cL_law_ 1944 = .ok (.aload_n 3, 1) := by decide +kernel
theorem dL_law__1945 : decode cL_law_ 1945 = .ok (.invokestatic 213, 3) := by decide +kernel
theorem dL_law__1948 : decode cL_law_ 1948 = .ok (.istore 5, 2) := by decide +kernel
theorem dL_law__1950 : decode cL_law_ 1950 = .ok (.aload_n 2, 1) := by decide +kernel
theorem dL_law__1951 : decode cL_law_ 1951 = .ok (.aload_n 0, 1) := by decide +kernel
theorem dL_law__1952 : decode cL_law_ 1952 = .ok (.iload 4, 2) := by decide +kernel
theorem dL_law__1954 : decode cL_law_ 1954 = .ok (.iconst 1, 1) := by decide +kernel
theorem dL_law__1955 : decode cL_law_ 1955 = .ok (.iadd, 1) := by decide +kernel
theorem dL_law__1956 : decode cL_law_ 1956 = .ok (.iaload, 1) := by decide +kernel
theorem dL_law__1957 : decode cL_law_ 1957 = .ok (.aload_n 0, 1) := by decide +kernel
theorem dL_law__1958 : decode cL_law_ 1958 = .ok (.iload 4, 2) := by decide +kernel
theorem dL_law__1960 : decode cL_law_ 1960 = .ok (.iconst 2, 1) := by decide +kernel
theorem dL_law__1961 : decode cL_law_ 1961 = .ok (.iadd, 1) := by decide +kernel
theorem dL_law__1962 : decode cL_law_ 1962 = .ok (.iaload, 1) := by decide +kernel
theorem dL_law__1963 : decode cL_law_ 1963 = .ok (.invokevirtual 215, 3) := by decide +kernel
theorem dL_law__1966 : decode cL_law_ 1966 = .ok (.istore 6, 2) := by decide +kernel
theorem dL_law__1968 : decode cL_law_ 1968 = .ok (.aload_n 2, 1) := by decide +kernel
theorem dL_law__1969 : decode cL_law_ 1969 = .ok (.invokevirtual 128, 3) := by decide +kernel
theorem dL_law__1972 : decode cL_law_ 1972 = .ok (.iload 5, 2) := by decide +kernel
theorem dL_law__1974 : decode cL_law_ 1974 = .ok (.if_icmp .eq 5, 3) := by decide +kernel
theorem dL_law__1977 : decode cL_law_ 1977 = .ok (.iconst 0, 1) := by decide +kernel
theorem dL_law__1978 : decode cL_law_ 1978 = .ok (.ireturn, 1) := by decide +kernel
theorem dL_law__1979 : decode cL_law_ 1979 = .ok (.iload 5, 2) := by decide +kernel
theorem dL_law__1981 : decode cL_law_ 1981 = .ok (.ifCond .ne 15, 3) := by decide +kernel
theorem dL_law__1984 : decode cL_law_ 1984 = .ok (.aload_n 3, 1) := by decide +kernel
theorem dL_law__1985 : decode cL_law_ 1985 = .ok (.iconst 0, 1) := by decide +kernel
theorem dL_law__1986 : decode cL_law_ 1986 = .ok (.laload, 1) := by decide +kernel
theorem dL_law__1987 : decode cL_law_ 1987 = .ok (.iload 6, 2) := by decide +kernel
theorem dL_law__1989 : decode cL_law_ 1989 = .ok (.i2l, 1) := by decide +kernel
theorem dL_law__1990 : decode cL_law_ 1990 = .ok (.lcmp, 1) := by decide +kernel
theorem dL_law__1991 : decode cL_law_ 1991 = .ok (.ifCond .eq 5, 3) := by decide +kernel
theorem dL_law__1994 : decode cL_law_ 1994 = .ok (.iconst 0, 1) := by decide +kernel
theorem dL_law__1995 : decode cL_law_ 1995 = .ok (.ireturn, 1) := by decide +kernel
theorem dL_law__1996 : decode cL_law_ 1996 = .ok (.goto 218, 3) := by decide +kernel
theorem dL_law__1999 : decode cL_law_ 1999 = .ok (.aload_n 1, 1) := by decide +kernel
theorem dL_law__2000 : decode cL_law_ 2000 = .ok (.aload_n 0, 1) := by decide +kernel
theorem dL_law__2001 : decode cL_law_ 2001 = .ok (.iload 4, 2) := by decide +kernel
theorem dL_law__2003 : decode cL_law_ 2003 = .ok (.iconst 1, 1) := by decide +kernel
theorem dL_law__2004 : decode cL_law_ 2004 = .ok (.iadd, 1) := by decide +kernel
theorem dL_law__2005 : decode cL_law_ 2005 = .ok (.iaload, 1) := by decide +kernel
theorem dL_law__2006 : decode cL_law_ 2006 = .ok (.aload_n 0, 1) := by decide +kernel
theorem dL_law__2007 : decode cL_law_ 2007 = .ok (.iload 4, 2) := by decide +kernel
theorem dL_law__2009 : decode cL_law_ 2009 = .ok (.iconst 2, 1) := by decide +kernel
theorem dL_law__2010 : decode cL_law_ 2010 = .ok (.iadd, 1) := by decide +kernel
theorem dL_law__2011 : decode cL_law_ 2011 = .ok (.iaload, 1) := by decide +kernel
theorem dL_law__2012 : decode cL_law_ 2012 = .ok (.ifCond .eq 7, 3) := by decide +kernel
theorem dL_law__2015 : decode cL_law_ 2015 = .ok (.iconst 1, 1) := by decide +kernel
theorem dL_law__2016 : decode cL_law_ 2016 = .ok (.goto 4, 3) := by decide +kernel
theorem dL_law__2019 : decode cL_law_ 2019 = .ok (.iconst 0, 1) := by decide +kernel
theorem dL_law__2020 : decode cL_law_ 2020 = .ok (.aload_n 3, 1) := by decide +kernel
theorem dL_law__2021 : decode cL_law_ 2021 = .ok (.invokestatic 216, 3) := by decide +kernel
theorem dL_law__2024 : decode cL_law_ 2024 = .ok (.istore 5, 2) := by decide +kernel
theorem dL_law__2026 : decode cL_law_ 2026 = .ok (.aload_n 2, 1) := by decide +kernel
theorem dL_law__2027 : decode cL_law_ 2027 = .ok (.aload_n 0, 1) := by decide +kernel
theorem dL_law__2028 : decode cL_law_ 2028 = .ok (.iload 4, 2) := by decide +kernel
theorem dL_law__2030 : decode cL_law_ 2030 = .ok (.iconst 1, 1) := by decide +kernel
theorem dL_law__2031 : decode cL_law_ 2031 = .ok (.iadd, 1) := by decide +kernel
theorem dL_law__2032 : decode cL_law_ 2032 = .ok (.iaload, 1) := by decide +kernel
theorem dL_law__2033 : decode cL_law_ 2033 = .ok (.aload_n 0, 1) := by decide +kernel
theorem dL_law__2034 : decode cL_law_ 2034 = .ok (.iload 4, 2) := by decide +kernel
theorem dL_law__2036 : decode cL_law_ 2036 = .ok (.iconst 2, 1) := by decide +kernel
theorem dL_law__2037 : decode cL_law_ 2037 = .ok (.iadd, 1) := by decide +kernel
theorem dL_law__2038 : decode cL_law_ 2038 = .ok (.iaload, 1) := by decide +kernel
theorem dL_law__2039 : decode cL_law_ 2039 = .ok (.ifCond .eq 7, 3) := by decide +kernel
theorem dL_law__2042 : decode cL_law_ 2042 = .ok (.iconst 1, 1) := by decide +kernel
theorem dL_law__2043 : decode cL_law_ 2043 = .ok (.goto 4, 3) := by decide +kernel
theorem dL_law__2046 : decode cL_law_ 2046 = .ok (.iconst 0, 1) := by decide +kernel
theorem dL_law__2047 : decode cL_law_ 2047 = .ok (.invokevirtual 219, 3) := by decide +kernel
theorem dL_law__2050 : decode cL_law_ 2050 = .ok (.istore 6, 2) := by decide +kernel
theorem dL_law__2052 : decode cL_law_ 2052 = .ok (.aload_n 2, 1) := by decide +kernel
theorem dL_law__2053 : decode cL_law_ 2053 = .ok (.invokevirtual 128, 3) := by decide +kernel
theorem dL_law__2056 : decode cL_law_ 2056 = .ok (.iload 5, 2) := by decide +kernel
theorem dL_law__2058 : decode cL_law_ 2058 = .ok (.if_icmp .eq 5, 3) := by decide +kernel
theorem dL_law__2061 : decode cL_law_ 2061 = .ok (.iconst 0, 1) := by decide +kernel
theorem dL_law__2062 : decode cL_law_ 2062 = .ok (.ireturn, 1) := by decide +kernel
theorem dL_law__2063 : decode cL_law_ 2063 = .ok (.iload 5, 2) := by decide +kernel
theorem dL_law__2065 : decode cL_law_ 2065 = .ok (.ifCond .ne 22, 3) := by decide +kernel
theorem dL_law__2068 : decode cL_law_ 2068 = .ok (.aload_n 3, 1) := by decide +kernel
theorem dL_law__2069 : decode cL_law_ 2069 = .ok (.iconst 0, 1) := by decide +kernel
theorem dL_law__2070 : decode cL_law_ 2070 = .ok (.laload, 1) := by decide +kernel
theorem dL_law__2071 : decode cL_law_ 2071 = .ok (.iload 6, 2) := by decide +kernel
theorem dL_law__2073 : decode cL_law_ 2073 = .ok (.ifCond .eq 7, 3) := by decide +kernel
theorem dL_law__2076 : decode cL_law_ 2076 = .ok (.lconst 1, 1) := by decide +kernel
theorem dL_law__2077 : decode cL_law_ 2077 = .ok (.goto 4, 3) := by decide +kernel
theorem dL_law__2080 : decode cL_law_ 2080 = .ok (.lconst 0, 1) := by decide +kernel
theorem dL_law__2081 : decode cL_law_ 2081 = .ok (.lcmp, 1) := by decide +kernel
theorem dL_law__2082 : decode cL_law_ 2082 = .ok (.ifCond .eq 5, 3) := by decide +kernel
theorem dL_law__2085 : decode cL_law_ 2085 = .ok (.iconst 0, 1) := by decide +kernel
theorem dL_law__2086 : decode cL_law_ 2086 = .ok (.ireturn, 1) := by decide +kernel
theorem dL_law__2087 : decode cL_law_ 2087 = .ok (.goto 127, 3) := by decide +kernel
theorem dL_law__2090 : decode cL_law_ 2090 = .ok (.aload_n 1, 1) := by decide +kernel
theorem dL_law__2091 : decode cL_law_ 2091 = .ok (.aload_n 0, 1) := by decide +kernel
theorem dL_law__2092 : decode cL_law_ 2092 = .ok (.iload 4, 2) := by decide +kernel
theorem dL_law__2094 : decode cL_law_ 2094 = .ok (.iconst 1, 1) := by decide +kernel
theorem dL_law__2095 : decode cL_law_ 2095 = .ok (.iadd, 1) := by decide +kernel
theorem dL_law__2096 : decode cL_law_ 2096 = .ok (.iaload, 1) := by decide +kernel
theorem dL_law__2097 : decode cL_law_ 2097 = .ok (.aload_n 0, 1) := by decide +kernel
theorem dL_law__2098 : decode cL_law_ 2098 = .ok (.iload 4, 2) := by decide +kernel
theorem dL_law__2100 : decode cL_law_ 2100 = .ok (.iconst 2, 1) := by decide +kernel
theorem dL_law__2101 : decode cL_law_ 2101 = .ok (.iadd, 1) := by decide +kernel
theorem dL_law__2102 : decode cL_law_ 2102 = .ok (.iaload, 1) := by decide +kernel
theorem dL_law__2103 : decode cL_law_ 2103 = .ok (.aload_n 3, 1) := by decide +kernel
theorem dL_law__2104 : decode cL_law_ 2104 = .ok (.invokestatic 220, 3) := by decide +kernel
theorem dL_law__2107 : decode cL_law_ 2107 = .ok (.istore 5, 2) := by decide +kernel
theorem dL_law__2109 : decode cL_law_ 2109 = .ok (.aload_n 2, 1) := by decide +kernel
theorem dL_law__2110 : decode cL_law_ 2110 = .ok (.aload_n 0, 1) := by decide +kernel
theorem dL_law__2111 : decode cL_law_ 2111 = .ok (.iload 4, 2) := by decide +kernel
theorem dL_law__2113 : decode cL_law_ 2113 = .ok (.iconst 1, 1) := by decide +kernel
theorem dL_law__2114 : decode cL_law_ 2114 = .ok (.iadd, 1) := by decide +kernel
theorem dL_law__2115 : decode cL_law_ 2115 = .ok (.iaload, 1) := by decide +kernel
theorem dL_law__2116 : decode cL_law_ 2116 = .ok (.aload_n 0, 1) := by decide +kernel
theorem dL_law__2117 : decode cL_law_ 2117 = .ok (.iload 4, 2) := by decide +kernel
theorem dL_law__2119 : decode cL_law_ 2119 = .ok (.iconst 2, 1) := by decide +kernel
theorem dL_law__2120 : decode cL_law_ 2120 = .ok (.iadd, 1) := by decide +kernel
theorem dL_law__2121 : decode cL_law_ 2121 = .ok (.iaload, 1) := by decide +kernel
theorem dL_law__2122 : decode cL_law_ 2122 = .ok (.invokevirtual 222, 3) := by decide +kernel
theorem dL_law__2125 : decode cL_law_ 2125 = .ok (.istore 6, 2) := by decide +kernel
theorem dL_law__2127 : decode cL_law_ 2127 = .ok (.aload_n 2, 1) := by decide +kernel
theorem dL_law__2128 : decode cL_law_ 2128 = .ok (.invokevirtual 128, 3) := by decide +kernel
theorem dL_law__2131 : decode cL_law_ 2131 = .ok (.iload 5, 2) := by decide +kernel
theorem dL_law__2133 : decode cL_law_ 2133 = .ok (.if_icmp .eq 5, 3) := by decide +kernel
theorem dL_law__2136 : decode cL_law_ 2136 = .ok (.iconst 0, 1) := by decide +kernel
theorem dL_law__2137 : decode cL_law_ 2137 = .ok (.ireturn, 1) := by decide +kernel
theorem dL_law__2138 : decode cL_law_ 2138 = .ok (.iload 5, 2) := by decide +kernel
theorem dL_law__2140 : decode cL_law_ 2140 = .ok (.ifCond .ne 15, 3) := by decide +kernel
theorem dL_law__2143 : decode cL_law_ 2143 = .ok (.aload_n 3, 1) := by decide +kernel
theorem dL_law__2144 : decode cL_law_ 2144 = .ok (.iconst 0, 1) := by decide +kernel
theorem dL_law__2145 : decode cL_law_ 2145 = .ok (.laload, 1) := by decide +kernel
theorem dL_law__2146 : decode cL_law_ 2146 = .ok (.iload 6, 2) := by decide +kernel
theorem dL_law__2148 : decode cL_law_ 2148 = .ok (.i2l, 1) := by decide +kernel
theorem dL_law__2149 : decode cL_law_ 2149 = .ok (.lcmp, 1) := by decide +kernel
theorem dL_law__2150 : decode cL_law_ 2150 = .ok (.ifCond .eq 5, 3) := by decide +kernel
theorem dL_law__2153 : decode cL_law_ 2153 = .ok (.iconst 0, 1) := by decide +kernel
theorem dL_law__2154 : decode cL_law_ 2154 = .ok (.ireturn, 1) := by decide +kernel
theorem dL_law__2155 : decode cL_law_ 2155 = .ok (.goto 59, 3) := by decide +kernel
theorem dL_law__2158 : decode cL_law_ 2158 = .ok (.aload_n 1, 1) := by decide +kernel
theorem dL_law__2159 : decode cL_law_ 2159 = .ok (.aload_n 0, 1) := by decide +kernel
theorem dL_law__2160 : decode cL_law_ 2160 = .ok (.iload 4, 2) := by decide +kernel
theorem dL_law__2162 : decode cL_law_ 2162 = .ok (.iconst 1, 1) := by decide +kernel
theorem dL_law__2163 : decode cL_law_ 2163 = .ok (.iadd, 1) := by decide +kernel
theorem dL_law__2164 : decode cL_law_ 2164 = .ok (.iaload, 1) := by decide +kernel
theorem dL_law__2165 : decode cL_law_ 2165 = .ok (.aload_n 3, 1) := by decide +kernel
theorem dL_law__2166 : decode cL_law_ 2166 = .ok (.invokestatic 223, 3) := by decide +kernel
theorem dL_law__2169 : decode cL_law_ 2169 = .ok (.istore 5, 2) := by decide +kernel
theorem dL_law__2171 : decode cL_law_ 2171 = .ok (.aload_n 2, 1) := by decide +kernel
theorem dL_law__2172 : decode cL_law_ 2172 = .ok (.aload_n 0, 1) := by decide +kernel
theorem dL_law__2173 : decode cL_law_ 2173 = .ok (.iload 4, 2) := by decide +kernel
theorem dL_law__2175 : decode cL_law_ 2175 = .ok (.iconst 1, 1) := by decide +kernel
theorem dL_law__2176 : decode cL_law_ 2176 = .ok (.iadd, 1) := by decide +kernel
theorem dL_law__2177 : decode cL_law_ 2177 = .ok (.iaload, 1) := by decide +kernel
theorem dL_law__2178 : decode cL_law_ 2178 = .ok (.invokevirtual 225, 3) := by decide +kernel
theorem dL_law__2181 : decode cL_law_ 2181 = .ok (.istore 6, 2) := by decide +kernel
theorem dL_law__2183 : decode cL_law_ 2183 = .ok (.aload_n 2, 1) := by decide +kernel
theorem dL_law__2184 : decode cL_law_ 2184 = .ok (.invokevirtual 128, 3) := by decide +kernel
theorem dL_law__2187 : decode cL_law_ 2187 = .ok (.iload 5, 2) := by decide +kernel
theorem dL_law__2189 : decode cL_law_ 2189 = .ok (.if_icmp .eq 5, 3) := by decide +kernel
theorem dL_law__2192 : decode cL_law_ 2192 = .ok (.iconst 0, 1) := by decide +kernel
theorem dL_law__2193 : decode cL_law_ 2193 = .ok (.ireturn, 1) := by decide +kernel
theorem dL_law__2194 : decode cL_law_ 2194 = .ok (.iload 5, 2) := by decide +kernel
theorem dL_law__2196 : decode cL_law_ 2196 = .ok (.ifCond .ne 15, 3) := by decide +kernel
theorem dL_law__2199 : decode cL_law_ 2199 = .ok (.aload_n 3, 1) := by decide +kernel
theorem dL_law__2200 : decode cL_law_ 2200 = .ok (.iconst 0, 1) := by decide +kernel
theorem dL_law__2201 : decode cL_law_ 2201 = .ok (.laload, 1) := by decide +kernel
theorem dL_law__2202 : decode cL_law_ 2202 = .ok (.iload 6, 2) := by decide +kernel
theorem dL_law__2204 : decode cL_law_ 2204 = .ok (.i2l, 1) := by decide +kernel
theorem dL_law__2205 : decode cL_law_ 2205 = .ok (.lcmp, 1) := by decide +kernel
theorem dL_law__2206 : decode cL_law_ 2206 = .ok (.ifCond .eq 5, 3) := by decide +kernel
theorem dL_law__2209 : decode cL_law_ 2209 = .ok (.iconst 0, 1) := by decide +kernel
theorem dL_law__2210 : decode cL_law_ 2210 = .ok (.ireturn, 1) := by decide +kernel
theorem dL_law__2211 : decode cL_law_ 2211 = .ok (.goto 3, 3) := by decide +kernel
theorem dL_law__2214 : decode cL_law_ 2214 = .ok (.iinc 4 6, 3) := by decide +kernel
theorem dL_law__2217 : decode cL_law_ 2217 = .ok (.goto (-2194), 3) := by decide +kernel
theorem dL_law__2220 : decode cL_law_ 2220 = .ok (.iconst 1, 1) := by decide +kernel
theorem dL_law__2221 : decode cL_law_ 2221 = .ok (.ireturn, 1) := by decide +kernel
