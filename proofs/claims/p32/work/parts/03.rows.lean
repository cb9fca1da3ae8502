theorem dX0_init_0 : decode cX0_init 0 = .ok (.aload_n 0, 1) := by decide +kernel
theorem dX0_init_1 : decode cX0_init 1 = .ok (.invokespecial 1, 3) := by decide +kernel
theorem dX0_init_4 : decode cX0_init 4 = .ok (.aload_n 0, 1) := by decide +kernel
theorem dX0_init_5 : decode cX0_init 5 = .ok (.iload_n 1, 1) := by decide +kernel
theorem dX0_init_6 : decode cX0_init 6 = .ok (.putfield 7, 3) := by decide +kernel
theorem dX0_init_9 : decode cX0_init 9 = .ok (.aload_n 0, 1) := by decide +kernel
theorem dX0_init_10 : decode cX0_init 10 = .ok (.iload_n 2, 1) := by decide +kernel
theorem dX0_init_11 : decode cX0_init 11 = .ok (.putfield 13, 3) := by decide +kernel
theorem dX0_init_14 : decode cX0_init 14 = .ok (.aload_n 0, 1) := by decide +kernel
theorem dX0_init_15 : decode cX0_init 15 = .ok (.iload_n 3, 1) := by decide +kernel
theorem dX0_init_16 : decode cX0_init 16 = .ok (.putfield 16, 3) := by decide +kernel
theorem dX0_init_19 : decode cX0_init 19 = .ok (.return_, 1) := by decide +kernel
theorem dX2_init_0 : decode cX2_init 0 = .ok (.aload_n 0, 1) := by decide +kernel
theorem dX2_init_1 : decode cX2_init 1 = .ok (.invokespecial 1, 3) := by decide +kernel
theorem dX2_init_4 : decode cX2_init 4 = .ok (.return_, 1) := by decide +kernel
theorem dX2_isOfBegins_0 : decode cX2_isOfBegins 0 = .ok (.aload_n 0, 1) := by decide +kernel
theorem dX2_isOfBegins_1 : decode cX2_isOfBegins 1 = .ok (.aload_n 1, 1) := by decide +kernel
theorem dX2_isOfBegins_2 : decode cX2_isOfBegins 2 = .ok (.getfield 7, 3) := by decide +kernel
theorem dX2_isOfBegins_5 : decode cX2_isOfBegins 5 = .ok (.aload_n 1, 1) := by decide +kernel
theorem dX2_isOfBegins_6 : decode cX2_isOfBegins 6 = .ok (.getfield 13, 3) := by decide +kernel
theorem dX2_isOfBegins_9 : decode cX2_isOfBegins 9 = .ok (.aload_n 1, 1) := by decide +kernel
theorem dX2_isOfBegins_10 : decode cX2_isOfBegins 10 = .ok (.getfield 17, 3) := by decide +kernel
theorem dX2_isOfBegins_13 : decode cX2_isOfBegins 13 = .ok (.aload_n 2, 1) := by decide +kernel
theorem dX2_isOfBegins_14 : decode cX2_isOfBegins 14 = .ok (.getfield 7, 3) := by decide +kernel
theorem dX2_isOfBegins_17 : decode cX2_isOfBegins 17 = .ok (.aload_n 2, 1) := by decide +kernel
theorem dX2_isOfBegins_18 : decode cX2_isOfBegins 18 = .ok (.getfield 13, 3) := by decide +kernel
theorem dX2_isOfBegins_21 : decode cX2_isOfBegins 21 = .ok (.aload_n 2, 1) := by decide +kernel
theorem dX2_isOfBegins_22 : decode cX2_isOfBegins 22 = .ok (.getfield 17, 3) := by decide +kernel
theorem dX2_isOfBegins_25 : decode cX2_isOfBegins 25 = .ok (.invokevirtual 20, 3) := by decide +kernel
theorem dX2_isOfBegins_28 : decode cX2_isOfBegins 28 = .ok (.ireturn, 1) := by decide +kernel
theorem dX2_isOfEnds_0 : decode cX2_isOfEnds 0 = .ok (.aload_n 0, 1) := by decide +kernel
theorem dX2_isOfEnds_1 : decode cX2_isOfEnds 1 = .ok (.aload_n 1, 1) := by decide +kernel
theorem dX2_isOfEnds_2 : decode cX2_isOfEnds 2 = .ok (.getfield 7, 3) := by decide +kernel
theorem dX2_isOfEnds_5 : decode cX2_isOfEnds 5 = .ok (.aload_n 1, 1) := by decide +kernel
theorem dX2_isOfEnds_6 : decode cX2_isOfEnds 6 = .ok (.getfield 26, 3) := by decide +kernel
theorem dX2_isOfEnds_9 : decode cX2_isOfEnds 9 = .ok (.aload_n 1, 1) := by decide +kernel
theorem dX2_isOfEnds_10 : decode cX2_isOfEnds 10 = .ok (.getfield 29, 3) := by decide +kernel
theorem dX2_isOfEnds_13 : decode cX2_isOfEnds 13 = .ok (.aload_n 2, 1) := by decide +kernel
theorem dX2_isOfEnds_14 : decode cX2_isOfEnds 14 = .ok (.getfield 7, 3) := by decide +kernel
theorem dX2_isOfEnds_17 : decode cX2_isOfEnds 17 = .ok (.aload_n 2, 1) := by decide +kernel
theorem dX2_isOfEnds_18 : decode cX2_isOfEnds 18 = .ok (.getfield 26, 3) := by decide +kernel
theorem dX2_isOfEnds_21 : decode cX2_isOfEnds 21 = .ok (.aload_n 2, 1) := by decide +kernel
theorem dX2_isOfEnds_22 : decode cX2_isOfEnds 22 = .ok (.getfield 29, 3) := by decide +kernel
theorem dX2_isOfEnds_25 : decode cX2_isOfEnds 25 = .ok (.invokevirtual 20, 3) := by decide +kernel
theorem dX2_isOfEnds_28 : decode cX2_isOfEnds 28 = .ok (.ireturn, 1) := by decide +kernel
theorem dX2_isOf_0 : decode cX2_isOf 0 = .ok (.iload_n 2, 1) := by decide +kernel
theorem dX2_isOf_1 : decode cX2_isOf 1 = .ok (.i2l, 1) := by decide +kernel
theorem dX2_isOf_2 : decode cX2_isOf 2 = .ok (.iload 6, 2) := by decide +kernel
theorem dX2_isOf_4 : decode cX2_isOf 4 = .ok (.i2l, 1) := by decide +kernel
theorem dX2_isOf_5 : decode cX2_isOf 5 = .ok (.lmul, 1) := by decide +kernel
theorem dX2_isOf_6 : decode cX2_isOf 6 = .ok (.iload_n 3, 1) := by decide +kernel
theorem dX2_isOf_7 : decode cX2_isOf 7 = .ok (.i2l, 1) := by decide +kernel
theorem dX2_isOf_8 : decode cX2_isOf 8 = .ok (.iload 5, 2) := by decide +kernel
theorem dX2_isOf_10 : decode cX2_isOf 10 = .ok (.i2l, 1) := by decide +kernel
theorem dX2_isOf_11 : decode cX2_isOf 11 = .ok (.lmul, 1) := by decide +kernel
theorem dX2_isOf_12 : decode cX2_isOf 12 = .ok (.lsub, 1) := by decide +kernel
theorem dX2_isOf_13 : decode cX2_isOf 13 = .ok (.lstore 7, 2) := by decide +kernel
theorem dX2_isOf_15 : decode cX2_isOf 15 = .ok (.aload 4, 2) := by decide +kernel
theorem dX2_isOf_17 : decode cX2_isOf 17 = .ok (.getfield 32, 3) := by decide +kernel
theorem dX2_isOf_20 : decode cX2_isOf 20 = .ok (.aload_n 1, 1) := by decide +kernel
theorem dX2_isOf_21 : decode cX2_isOf 21 = .ok (.getfield 32, 3) := by decide +kernel
theorem dX2_isOf_24 : decode cX2_isOf 24 = .ok (.isub, 1) := by decide +kernel
theorem dX2_isOf_25 : decode cX2_isOf 25 = .ok (.i2l, 1) := by decide +kernel
theorem dX2_isOf_26 : decode cX2_isOf 26 = .ok (.lstore 9, 2) := by decide +kernel
theorem dX2_isOf_28 : decode cX2_isOf 28 = .ok (.aload 4, 2) := by decide +kernel
theorem dX2_isOf_30 : decode cX2_isOf 30 = .ok (.getfield 37, 3) := by decide +kernel
theorem dX2_isOf_33 : decode cX2_isOf 33 = .ok (.aload_n 1, 1) := by decide +kernel
theorem dX2_isOf_34 : decode cX2_isOf 34 = .ok (.getfield 37, 3) := by decide +kernel
theorem dX2_isOf_37 : decode cX2_isOf 37 = .ok (.isub, 1) := by decide +kernel
theorem dX2_isOf_38 : decode cX2_isOf 38 = .ok (.i2l, 1) := by decide +kernel
theorem dX2_isOf_39 : decode cX2_isOf 39 = .ok (.lstore 11, 2) := by decide +kernel
theorem dX2_isOf_41 : decode cX2_isOf 41 = .ok (.lload 9, 2) := by decide +kernel
theorem dX2_isOf_43 : decode cX2_isOf 43 = .ok (.iload 6, 2) := by decide +kernel
theorem dX2_isOf_45 : decode cX2_isOf 45 = .ok (.i2l, 1) := by decide +kernel
theorem dX2_isOf_46 : decode cX2_isOf 46 = .ok (.lmul, 1) := by decide +kernel
theorem dX2_isOf_47 : decode cX2_isOf 47 = .ok (.lload 11, 2) := by decide +kernel
theorem dX2_isOf_49 : decode cX2_isOf 49 = .ok (.iload 5, 2) := by decide +kernel
theorem dX2_isOf_51 : decode cX2_isOf 51 = .ok (.i2l, 1) := by decide +kernel
theorem dX2_isOf_52 : decode cX2_isOf 52 = .ok (.lmul, 1) := by decide +kernel
theorem dX2_isOf_53 : decode cX2_isOf 53 = .ok (.lsub, 1) := by decide +kernel
theorem dX2_isOf_54 : decode cX2_isOf 54 = .ok (.lstore 13, 2) := by decide +kernel
theorem dX2_isOf_56 : decode cX2_isOf 56 = .ok (.lload 9, 2) := by decide +kernel
theorem dX2_isOf_58 : decode cX2_isOf 58 = .ok (.iload_n 3, 1) := by decide +kernel
theorem dX2_isOf_59 : decode cX2_isOf 59 = .ok (.i2l, 1) := by decide +kernel
theorem dX2_isOf_60 : decode cX2_isOf 60 = .ok (.lmul, 1) := by decide +kernel
theorem dX2_isOf_61 : decode cX2_isOf 61 = .ok (.lload 11, 2) := by decide +kernel
theorem dX2_isOf_63 : decode cX2_isOf 63 = .ok (.iload_n 2, 1) := by decide +kernel
theorem dX2_isOf_64 : decode cX2_isOf 64 = .ok (.i2l, 1) := by decide +kernel
theorem dX2_isOf_65 : decode cX2_isOf 65 = .ok (.lmul, 1) := by decide +kernel
theorem dX2_isOf_66 : decode cX2_isOf 66 = .ok (.lsub, 1) := by decide +kernel
theorem dX2_isOf_67 : decode cX2_isOf 67 = .ok (.lstore 15, 2) := by decide +kernel
theorem dX2_isOf_69 : decode cX2_isOf 69 = .ok (.lload 7, 2) := by decide +kernel
theorem dX2_isOf_71 : decode cX2_isOf 71 = .ok (.lconst 0, 1) := by decide +kernel
theorem dX2_isOf_72 : decode cX2_isOf 72 = .ok (.lcmp, 1) := by decide +kernel
theorem dX2_isOf_73 : decode cX2_isOf 73 = .ok (.ifCond .ge 18, 3) := by decide +kernel
theorem dX2_isOf_76 : decode cX2_isOf 76 = .ok (.lload 7, 2) := by decide +kernel
theorem dX2_isOf_78 : decode cX2_isOf 78 = .ok (.lneg, 1) := by decide +kernel
theorem dX2_isOf_79 : decode cX2_isOf 79 = .ok (.lstore 7, 2) := by decide +kernel
theorem dX2_isOf_81 : decode cX2_isOf 81 = .ok (.lload 13, 2) := by decide +kernel
theorem dX2_isOf_83 : decode cX2_isOf 83 = .ok (.lneg, 1) := by decide +kernel
theorem dX2_isOf_84 : decode cX2_isOf 84 = .ok (.lstore 13, 2) := by decide +kernel
theorem dX2_isOf_86 : decode cX2_isOf 86 = .ok (.lload 15, 2) := by decide +kernel
theorem dX2_isOf_88 : decode cX2_isOf 88 = .ok (.lneg, 1) := by decide +kernel
theorem dX2_isOf_89 : decode cX2_isOf 89 = .ok (.lstore 15, 2) := by decide +kernel
theorem dX2_isOf_91 : decode cX2_isOf 91 = .ok (.lload 7, 2) := by decide +kernel
theorem dX2_isOf_93 : decode cX2_isOf 93 = .ok (.lconst 0, 1) := by decide +kernel
theorem dX2_isOf_94 : decode cX2_isOf 94 = .ok (.lcmp, 1) := by decide +kernel
theorem dX2_isOf_95 : decode cX2_isOf 95 = .ok (.ifCond .eq 17, 3) := by decide +kernel
theorem dX2_isOf_98 : decode cX2_isOf 98 = .ok (.lload 13, 2) := by decide +kernel
theorem dX2_isOf_100 : decode cX2_isOf 100 = .ok (.lconst 0, 1) := by decide +kernel
theorem dX2_isOf_101 : decode cX2_isOf 101 = .ok (.lcmp, 1) := by decide +kernel
theorem dX2_isOf_102 : decode cX2_isOf 102 = .ok (.ifCond .le 10, 3) := by decide +kernel
theorem dX2_isOf_105 : decode cX2_isOf 105 = .ok (.lload 15, 2) := by decide +kernel
theorem dX2_isOf_107 : decode cX2_isOf 107 = .ok (.lconst 0, 1) := by decide +kernel
theorem dX2_isOf_108 : decode cX2_isOf 108 = .ok (.lcmp, 1) := by decide +kernel
theorem dX2_isOf_109 : decode cX2_isOf 109 = .ok (.ifCond .gt 5, 3) := by decide +kernel
theorem dX2_isOf_112 : decode cX2_isOf 112 = .ok (.iconst 0, 1) := by decide +kernel
theorem dX2_isOf_113 : decode cX2_isOf 113 = .ok (.ireturn, 1) := by decide +kernel
theorem dX2_isOf_114 : decode cX2_isOf 114 = .ok (.aload_n 0, 1) := by decide +kernel
theorem dX2_isOf_115 : decode cX2_isOf 115 = .ok (.ldc2_w 40, 3) := by decide +kernel
theorem dX2_isOf_118 : decode cX2_isOf 118 = .ok (.aload_n 1, 1) := by decide +kernel
theorem dX2_isOf_119 : decode cX2_isOf 119 = .ok (.getfield 32, 3) := by decide +kernel
theorem dX2_isOf_122 : decode cX2_isOf 122 = .ok (.i2l, 1) := by decide +kernel
theorem dX2_isOf_123 : decode cX2_isOf 123 = .ok (.lload 7, 2) := by decide +kernel
theorem dX2_isOf_125 : decode cX2_isOf 125 = .ok (.lmul, 1) := by decide +kernel
theorem dX2_isOf_126 : decode cX2_isOf 126 = .ok (.lload 13, 2) := by decide +kernel
theorem dX2_isOf_128 : decode cX2_isOf 128 = .ok (.iload_n 2, 1) := by decide +kernel
theorem dX2_isOf_129 : decode cX2_isOf 129 = .ok (.i2l, 1) := by decide +kernel
theorem dX2_isOf_130 : decode cX2_isOf 130 = .ok (.lmul, 1) := by decide +kernel
theorem dX2_isOf_131 : decode cX2_isOf 131 = .ok (.ladd, 1) := by decide +kernel
theorem dX2_isOf_132 : decode cX2_isOf 132 = .ok (.lmul, 1) := by decide +kernel
theorem dX2_isOf_133 : decode cX2_isOf 133 = .ok (.lload 7, 2) := by decide +kernel
theorem dX2_isOf_135 : decode cX2_isOf 135 = .ok (.invokestatic 42, 3) := by decide +kernel
theorem dX2_isOf_138 : decode cX2_isOf 138 = .ok (.putfield 48, 3) := by decide +kernel
theorem dX2_isOf_141 : decode cX2_isOf 141 = .ok (.aload_n 0, 1) := by decide +kernel
theorem dX2_isOf_142 : decode cX2_isOf 142 = .ok (.ldc2_w 40, 3) := by decide +kernel
theorem dX2_isOf_145 : decode cX2_isOf 145 = .ok (.aload_n 1, 1) := by decide +kernel
theorem dX2_isOf_146 : decode cX2_isOf 146 = .ok (.getfield 37, 3) := by decide +kernel
theorem dX2_isOf_149 : decode cX2_isOf 149 = .ok (.i2l, 1) := by decide +kernel
theorem dX2_isOf_150 : decode cX2_isOf 150 = .ok (.lload 7, 2) := by decide +kernel
theorem dX2_isOf_152 : decode cX2_isOf 152 = .ok (.lmul, 1) := by decide +kernel
theorem dX2_isOf_153 : decode cX2_isOf 153 = .ok (.lload 13, 2) := by decide +kernel
theorem dX2_isOf_155 : decode cX2_isOf 155 = .ok (.iload_n 3, 1) := by decide +kernel
theorem dX2_isOf_156 : decode cX2_isOf 156 = .ok (.i2l, 1) := by decide +kernel
theorem dX2_isOf_157 : decode cX2_isOf 157 = .ok (.lmul, 1) := by decide +kernel
theorem dX2_isOf_158 : decode cX2_isOf 158 = .ok (.ladd, 1) := by decide +kernel
theorem dX2_isOf_159 : decode cX2_isOf 159 = .ok (.lmul, 1) := by decide +kernel
theorem dX2_isOf_160 : decode cX2_isOf 160 = .ok (.lload 7, 2) := by decide +kernel
theorem dX2_isOf_162 : decode cX2_isOf 162 = .ok (.invokestatic 42, 3) := by decide +kernel
theorem dX2_isOf_165 : decode cX2_isOf 165 = .ok (.putfield 51, 3) := by decide +kernel
theorem dX2_isOf_168 : decode cX2_isOf 168 = .ok (.iconst 1, 1) := by decide +kernel
theorem dX2_isOf_169 : decode cX2_isOf 169 = .ok (.ireturn, 1) := by decide +kernel
theorem dX3_init_0 : decode cX3_init 0 = .ok (.aload_n 0, 1) := by decide +kernel
theorem dX3_init_1 : decode cX3_init 1 = .ok (.invokespecial 3, 3) := by decide +kernel
theorem dX3_init_4 : decode cX3_init 4 = .ok (.return_, 1) := by decide +kernel
theorem dX3_scatter_0 : decode cX3_scatter 0 = .ok (.aload_n 0, 1) := by decide +kernel
theorem dX3_scatter_1 : decode cX3_scatter 1 = .ok (.aload_n 1, 1) := by decide +kernel
theorem dX3_scatter_2 : decode cX3_scatter 2 = .ok (.getfield 9, 3) := by decide +kernel
theorem dX3_scatter_5 : decode cX3_scatter 5 = .ok (.putfield 15, 3) := by decide +kernel
theorem dX3_scatter_8 : decode cX3_scatter 8 = .ok (.aload_n 0, 1) := by decide +kernel
theorem dX3_scatter_9 : decode cX3_scatter 9 = .ok (.aload_n 1, 1) := by decide +kernel
theorem dX3_scatter_10 : decode cX3_scatter 10 = .ok (.getfield 18, 3) := by decide +kernel
theorem dX3_scatter_13 : decode cX3_scatter 13 = .ok (.putfield 21, 3) := by decide +kernel
theorem dX3_scatter_16 : decode cX3_scatter 16 = .ok (.aload_n 0, 1) := by decide +kernel
theorem dX3_scatter_17 : decode cX3_scatter 17 = .ok (.iload_n 2, 1) := by decide +kernel
theorem dX3_scatter_18 : decode cX3_scatter 18 = .ok (.putfield 22, 3) := by decide +kernel
theorem dX3_scatter_21 : decode cX3_scatter 21 = .ok (.aload_n 0, 1) := by decide +kernel
theorem dX3_scatter_22 : decode cX3_scatter 22 = .ok (.iload_n 3, 1) := by decide +kernel
theorem dX3_scatter_23 : decode cX3_scatter 23 = .ok (.putfield 26, 3) := by decide +kernel
theorem dX3_scatter_26 : decode cX3_scatter 26 = .ok (.return_, 1) := by decide +kernel
theorem dX3_pieceX_0 : decode cX3_pieceX 0 = .ok (.aload_n 0, 1) := by decide +kernel
theorem dX3_pieceX_1 : decode cX3_pieceX 1 = .ok (.getfield 15, 3) := by decide +kernel
theorem dX3_pieceX_4 : decode cX3_pieceX 4 = .ok (.aload_n 0, 1) := by decide +kernel
theorem dX3_pieceX_5 : decode cX3_pieceX 5 = .ok (.getfield 22, 3) := by decide +kernel
theorem dX3_pieceX_8 : decode cX3_pieceX 8 = .ok (.bipush 20, 2) := by decide +kernel
theorem dX3_pieceX_10 : decode cX3_pieceX 10 = .ok (.imul, 1) := by decide +kernel
theorem dX3_pieceX_11 : decode cX3_pieceX 11 = .ok (.bipush 6, 2) := by decide +kernel
theorem dX3_pieceX_13 : decode cX3_pieceX 13 = .ok (.iload_n 1, 1) := by decide +kernel
theorem dX3_pieceX_14 : decode cX3_pieceX 14 = .ok (.isub, 1) := by decide +kernel
theorem dX3_pieceX_15 : decode cX3_pieceX 15 = .ok (.imul, 1) := by decide +kernel
theorem dX3_pieceX_16 : decode cX3_pieceX 16 = .ok (.i2l, 1) := by decide +kernel
theorem dX3_pieceX_17 : decode cX3_pieceX 17 = .ok (.ladd, 1) := by decide +kernel
theorem dX3_pieceX_18 : decode cX3_pieceX 18 = .ok (.ldc2_w 29, 3) := by decide +kernel
theorem dX3_pieceX_21 : decode cX3_pieceX 21 = .ok (.invokestatic 31, 3) := by decide +kernel
theorem dX3_pieceX_24 : decode cX3_pieceX 24 = .ok (.lreturn, 1) := by decide +kernel
theorem dX3_pieceY_0 : decode cX3_pieceY 0 = .ok (.aload_n 0, 1) := by decide +kernel
theorem dX3_pieceY_1 : decode cX3_pieceY 1 = .ok (.getfield 21, 3) := by decide +kernel
theorem dX3_pieceY_4 : decode cX3_pieceY 4 = .ok (.aload_n 0, 1) := by decide +kernel
theorem dX3_pieceY_5 : decode cX3_pieceY 5 = .ok (.getfield 26, 3) := by decide +kernel
theorem dX3_pieceY_8 : decode cX3_pieceY 8 = .ok (.bipush 20, 2) := by decide +kernel
theorem dX3_pieceY_10 : decode cX3_pieceY 10 = .ok (.imul, 1) := by decide +kernel
theorem dX3_pieceY_11 : decode cX3_pieceY 11 = .ok (.bipush 6, 2) := by decide +kernel
theorem dX3_pieceY_13 : decode cX3_pieceY 13 = .ok (.iload_n 1, 1) := by decide +kernel
theorem dX3_pieceY_14 : decode cX3_pieceY 14 = .ok (.isub, 1) := by decide +kernel
theorem dX3_pieceY_15 : decode cX3_pieceY 15 = .ok (.imul, 1) := by decide +kernel
theorem dX3_pieceY_16 : decode cX3_pieceY 16 = .ok (.i2l, 1) := by decide +kernel
theorem dX3_pieceY_17 : decode cX3_pieceY 17 = .ok (.ladd, 1) := by decide +kernel
theorem dX3_pieceY_18 : decode cX3_pieceY 18 = .ok (.ldc2_w 29, 3) := by decide +kernel
theorem dX3_pieceY_21 : decode cX3_pieceY 21 = .ok (.invokestatic 31, 3) := by decide +kernel
theorem dX3_pieceY_24 : decode cX3_pieceY 24 = .ok (.lreturn, 1) := by decide +kernel
theorem dX3_weight_0 : decode cX3_weight 0 = .ok (.lconst 0, 1) := by decide +kernel
theorem dX3_weight_1 : decode cX3_weight 1 = .ok (.lstore_n 3, 1) := by decide +kernel
theorem dX3_weight_2 : decode cX3_weight 2 = .ok (.iconst 1, 1) := by decide +kernel
theorem dX3_weight_3 : decode cX3_weight 3 = .ok (.istore 5, 2) := by decide +kernel
theorem dX3_weight_5 : decode cX3_weight 5 = .ok (.iload 5, 2) := by decide +kernel
theorem dX3_weight_7 : decode cX3_weight 7 = .ok (.iconst 5, 1) := by decide +kernel
theorem dX3_weight_8 : decode cX3_weight 8 = .ok (.if_icmp .gt 51, 3) := by decide +kernel
theorem dX3_weight_11 : decode cX3_weight 11 = .ok (.iload_n 1, 1) := by decide +kernel
theorem dX3_weight_12 : decode cX3_weight 12 = .ok (.i2l, 1) := by decide +kernel
theorem dX3_weight_13 : decode cX3_weight 13 = .ok (.aload_n 0, 1) := by decide +kernel
theorem dX3_weight_14 : decode cX3_weight 14 = .ok (.iload 5, 2) := by decide +kernel
theorem dX3_weight_16 : decode cX3_weight 16 = .ok (.invokevirtual 37, 3) := by decide +kernel
theorem dX3_weight_19 : decode cX3_weight 19 = .ok (.lsub, 1) := by decide +kernel
theorem dX3_weight_20 : decode cX3_weight 20 = .ok (.invokestatic 41, 3) := by decide +kernel
theorem dX3_weight_23 : decode cX3_weight 23 = .ok (.iload_n 2, 1) := by decide +kernel
theorem dX3_weight_24 : decode cX3_weight 24 = .ok (.i2l, 1) := by decide +kernel
theorem dX3_weight_25 : decode cX3_weight 25 = .ok (.aload_n 0, 1) := by decide +kernel
theorem dX3_weight_26 : decode cX3_weight 26 = .ok (.iload 5, 2) := by decide +kernel
theorem dX3_weight_28 : decode cX3_weight 28 = .ok (.invokevirtual 45, 3) := by decide +kernel
theorem dX3_weight_31 : decode cX3_weight 31 = .ok (.lsub, 1) := by decide +kernel
theorem dX3_weight_32 : decode cX3_weight 32 = .ok (.invokestatic 41, 3) := by decide +kernel
theorem dX3_weight_35 : decode cX3_weight 35 = .ok (.invokestatic 48, 3) := by decide +kernel
theorem dX3_weight_38 : decode cX3_weight 38 = .ok (.lstore 6, 2) := by decide +kernel
theorem dX3_weight_40 : decode cX3_weight 40 = .ok (.lload_n 3, 1) := by decide +kernel
theorem dX3_weight_41 : decode cX3_weight 41 = .ok (.lconst 0, 1) := by decide +kernel
theorem dX3_weight_42 : decode cX3_weight 42 = .ok (.ldc2_w 51, 3) := by decide +kernel
theorem dX3_weight_45 : decode cX3_weight 45 = .ok (.lload 6, 2) := by decide +kernel
theorem dX3_weight_47 : decode cX3_weight 47 = .ok (.lsub, 1) := by decide +kernel
theorem dX3_weight_48 : decode cX3_weight 48 = .ok (.invokestatic 48, 3) := by decide +kernel
theorem dX3_weight_51 : decode cX3_weight 51 = .ok (.ladd, 1) := by decide +kernel
theorem dX3_weight_52 : decode cX3_weight 52 = .ok (.lstore_n 3, 1) := by decide +kernel
theorem dX3_weight_53 : decode cX3_weight 53 = .ok (.iinc 5 1, 3) := by decide +kernel
theorem dX3_weight_56 : decode cX3_weight 56 = .ok (.goto (-51), 3) := by decide +kernel
theorem dX3_weight_59 : decode cX3_weight 59 = .ok (.ldc2_w 53, 3) := by decide +kernel
theorem dX3_weight_62 : decode cX3_weight 62 = .ok (.lload_n 3, 1) := by decide +kernel
theorem dX3_weight_63 : decode cX3_weight 63 = .ok (.lmul, 1) := by decide +kernel
theorem dX3_weight_64 : decode cX3_weight 64 = .ok (.lreturn, 1) := by decide +kernel
theorem dX3_weightOfGround_0 : decode cX3_weightOfGround 0 = .ok (.lconst 0, 1) := by decide +kernel
theorem dX3_weightOfGround_1 : decode cX3_weightOfGround 1 = .ok (.lstore_n 1, 1) := by decide +kernel
theorem dX3_weightOfGround_2 : decode cX3_weightOfGround 2 = .ok (.iconst 1, 1) := by decide +kernel
theorem dX3_weightOfGround_3 : decode cX3_weightOfGround 3 = .ok (.istore_n 3, 1) := by decide +kernel
theorem dX3_weightOfGround_4 : decode cX3_weightOfGround 4 = .ok (.iload_n 3, 1) := by decide +kernel
theorem dX3_weightOfGround_5 : decode cX3_weightOfGround 5 = .ok (.iconst 5, 1) := by decide +kernel
theorem dX3_weightOfGround_6 : decode cX3_weightOfGround 6 = .ok (.if_icmp .gt 57, 3) := by decide +kernel
theorem dX3_weightOfGround_9 : decode cX3_weightOfGround 9 = .ok (.aload_n 0, 1) := by decide +kernel
theorem dX3_weightOfGround_10 : decode cX3_weightOfGround 10 = .ok (.iload_n 3, 1) := by decide +kernel
theorem dX3_weightOfGround_11 : decode cX3_weightOfGround 11 = .ok (.invokevirtual 37, 3) := by decide +kernel
theorem dX3_weightOfGround_14 : decode cX3_weightOfGround 14 = .ok (.lstore 4, 2) := by decide +kernel
theorem dX3_weightOfGround_16 : decode cX3_weightOfGround 16 = .ok (.aload_n 0, 1) := by decide +kernel
theorem dX3_weightOfGround_17 : decode cX3_weightOfGround 17 = .ok (.iload_n 3, 1) := by decide +kernel
theorem dX3_weightOfGround_18 : decode cX3_weightOfGround 18 = .ok (.invokevirtual 45, 3) := by decide +kernel
theorem dX3_weightOfGround_21 : decode cX3_weightOfGround 21 = .ok (.lstore 6, 2) := by decide +kernel
theorem dX3_weightOfGround_23 : decode cX3_weightOfGround 23 = .ok (.iconst 0, 1) := by decide +kernel
theorem dX3_weightOfGround_24 : decode cX3_weightOfGround 24 = .ok (.istore 8, 2) := by decide +kernel
theorem dX3_weightOfGround_26 : decode cX3_weightOfGround 26 = .ok (.iload 8, 2) := by decide +kernel
theorem dX3_weightOfGround_28 : decode cX3_weightOfGround 28 = .ok (.bipush 8, 2) := by decide +kernel
theorem dX3_weightOfGround_30 : decode cX3_weightOfGround 30 = .ok (.if_icmp .ge 27, 3) := by decide +kernel
theorem dX3_weightOfGround_33 : decode cX3_weightOfGround 33 = .ok (.lload_n 1, 1) := by decide +kernel
theorem dX3_weightOfGround_34 : decode cX3_weightOfGround 34 = .ok (.lload 4, 2) := by decide +kernel
theorem dX3_weightOfGround_36 : decode cX3_weightOfGround 36 = .ok (.iload 8, 2) := by decide +kernel
theorem dX3_weightOfGround_38 : decode cX3_weightOfGround 38 = .ok (.invokestatic 55, 3) := by decide +kernel
theorem dX3_weightOfGround_41 : decode cX3_weightOfGround 41 = .ok (.lload 6, 2) := by decide +kernel
theorem dX3_weightOfGround_43 : decode cX3_weightOfGround 43 = .ok (.iload 8, 2) := by decide +kernel
theorem dX3_weightOfGround_45 : decode cX3_weightOfGround 45 = .ok (.invokestatic 55, 3) := by decide +kernel
theorem dX3_weightOfGround_48 : decode cX3_weightOfGround 48 = .ok (.lmul, 1) := by decide +kernel
theorem dX3_weightOfGround_49 : decode cX3_weightOfGround 49 = .ok (.ladd, 1) := by decide +kernel
theorem dX3_weightOfGround_50 : decode cX3_weightOfGround 50 = .ok (.lstore_n 1, 1) := by decide +kernel
theorem dX3_weightOfGround_51 : decode cX3_weightOfGround 51 = .ok (.iinc 8 1, 3) := by decide +kernel
theorem dX3_weightOfGround_54 : decode cX3_weightOfGround 54 = .ok (.goto (-28), 3) := by decide +kernel
theorem dX3_weightOfGround_57 : decode cX3_weightOfGround 57 = .ok (.iinc 3 1, 3) := by decide +kernel
theorem dX3_weightOfGround_60 : decode cX3_weightOfGround 60 = .ok (.goto (-56), 3) := by decide +kernel
theorem dX3_weightOfGround_63 : decode cX3_weightOfGround 63 = .ok (.ldc2_w 53, 3) := by decide +kernel
theorem dX3_weightOfGround_66 : decode cX3_weightOfGround 66 = .ok (.lload_n 1, 1) := by decide +kernel
theorem dX3_weightOfGround_67 : decode cX3_weightOfGround 67 = .ok (.lmul, 1) := by decide +kernel
theorem dX3_weightOfGround_68 : decode cX3_weightOfGround 68 = .ok (.lreturn, 1) := by decide +kernel
theorem dX3_cellsWithin_0 : decode cX3_cellsWithin 0 = .ok (.lconst 0, 1) := by decide +kernel
theorem dX3_cellsWithin_1 : decode cX3_cellsWithin 1 = .ok (.lload_n 0, 1) := by decide +kernel
theorem dX3_cellsWithin_2 : decode cX3_cellsWithin 2 = .ok (.iload_n 2, 1) := by decide +kernel
theorem dX3_cellsWithin_3 : decode cX3_cellsWithin 3 = .ok (.i2l, 1) := by decide +kernel
theorem dX3_cellsWithin_4 : decode cX3_cellsWithin 4 = .ok (.lsub, 1) := by decide +kernel
theorem dX3_cellsWithin_5 : decode cX3_cellsWithin 5 = .ok (.invokestatic 48, 3) := by decide +kernel
theorem dX3_cellsWithin_8 : decode cX3_cellsWithin 8 = .ok (.lstore_n 3, 1) := by decide +kernel
theorem dX3_cellsWithin_9 : decode cX3_cellsWithin 9 = .ok (.ldc2_w 59, 3) := by decide +kernel
theorem dX3_cellsWithin_12 : decode cX3_cellsWithin 12 = .ok (.lload_n 0, 1) := by decide +kernel
theorem dX3_cellsWithin_13 : decode cX3_cellsWithin 13 = .ok (.iload_n 2, 1) := by decide +kernel
theorem dX3_cellsWithin_14 : decode cX3_cellsWithin 14 = .ok (.i2l, 1) := by decide +kernel
theorem dX3_cellsWithin_15 : decode cX3_cellsWithin 15 = .ok (.ladd, 1) := by decide +kernel
theorem dX3_cellsWithin_16 : decode cX3_cellsWithin 16 = .ok (.invokestatic 61, 3) := by decide +kernel
theorem dX3_cellsWithin_19 : decode cX3_cellsWithin 19 = .ok (.lstore 5, 2) := by decide +kernel
theorem dX3_cellsWithin_21 : decode cX3_cellsWithin 21 = .ok (.lconst 0, 1) := by decide +kernel
theorem dX3_cellsWithin_22 : decode cX3_cellsWithin 22 = .ok (.lload 5, 2) := by decide +kernel
theorem dX3_cellsWithin_24 : decode cX3_cellsWithin 24 = .ok (.lload_n 3, 1) := by decide +kernel
theorem dX3_cellsWithin_25 : decode cX3_cellsWithin 25 = .ok (.lsub, 1) := by decide +kernel
theorem dX3_cellsWithin_26 : decode cX3_cellsWithin 26 = .ok (.lconst 1, 1) := by decide +kernel
theorem dX3_cellsWithin_27 : decode cX3_cellsWithin 27 = .ok (.ladd, 1) := by decide +kernel
theorem dX3_cellsWithin_28 : decode cX3_cellsWithin 28 = .ok (.invokestatic 48, 3) := by decide +kernel
theorem dX3_cellsWithin_31 : decode cX3_cellsWithin 31 = .ok (.lreturn, 1) := by decide +kernel
theorem dX4_init_0 : decode cX4_init 0 = .ok (.aload_n 0, 1) := by decide +kernel
theorem dX4_init_1 : decode cX4_init 1 = .ok (.invokespecial 1, 3) := by decide +kernel
theorem dX4_init_4 : decode cX4_init 4 = .ok (.return_, 1) := by decide +kernel
theorem dX4_exists_0 : decode cX4_exists 0 = .ok (.aload_n 0, 1) := by decide +kernel
theorem dX4_exists_1 : decode cX4_exists 1 = .ok (.getfield 7, 3) := by decide +kernel
theorem dX4_exists_4 : decode cX4_exists 4 = .ok (.ifCond .le 7, 3) := by decide +kernel
theorem dX4_exists_7 : decode cX4_exists 7 = .ok (.iconst 1, 1) := by decide +kernel
theorem dX4_exists_8 : decode cX4_exists 8 = .ok (.goto 4, 3) := by decide +kernel
theorem dX4_exists_11 : decode cX4_exists 11 = .ok (.iconst 0, 1) := by decide +kernel
theorem dX4_exists_12 : decode cX4_exists 12 = .ok (.ireturn, 1) := by decide +kernel
theorem dX4_clear_0 : decode cX4_clear 0 = .ok (.aload_n 0, 1) := by decide +kernel
theorem dX4_clear_1 : decode cX4_clear 1 = .ok (.iconst 0, 1) := by decide +kernel
theorem dX4_clear_2 : decode cX4_clear 2 = .ok (.putfield 7, 3) := by decide +kernel
theorem dX4_clear_5 : decode cX4_clear 5 = .ok (.aload_n 0, 1) := by decide +kernel
theorem dX4_clear_6 : decode cX4_clear 6 = .ok (.iconst 0, 1) := by decide +kernel
theorem dX4_clear_7 : decode cX4_clear 7 = .ok (.putfield 13, 3) := by decide +kernel
theorem dX4_clear_10 : decode cX4_clear 10 = .ok (.aload_n 0, 1) := by decide +kernel
theorem dX4_clear_11 : decode cX4_clear 11 = .ok (.lconst 0, 1) := by decide +kernel
theorem dX4_clear_12 : decode cX4_clear 12 = .ok (.putfield 16, 3) := by decide +kernel
theorem dX4_clear_15 : decode cX4_clear 15 = .ok (.aload_n 0, 1) := by decide +kernel
theorem dX4_clear_16 : decode cX4_clear 16 = .ok (.lconst 0, 1) := by decide +kernel
theorem dX4_clear_17 : decode cX4_clear 17 = .ok (.putfield 20, 3) := by decide +kernel
theorem dX4_clear_20 : decode cX4_clear 20 = .ok (.aload_n 0, 1) := by decide +kernel
theorem dX4_clear_21 : decode cX4_clear 21 = .ok (.lconst 0, 1) := by decide +kernel
theorem dX4_clear_22 : decode cX4_clear 22 = .ok (.putfield 23, 3) := by decide +kernel
theorem dX4_clear_25 : decode cX4_clear 25 = .ok (.aload_n 0, 1) := by decide +kernel
theorem dX4_clear_26 : decode cX4_clear 26 = .ok (.lconst 0, 1) := by decide +kernel
theorem dX4_clear_27 : decode cX4_clear 27 = .ok (.putfield 26, 3) := by decide +kernel
theorem dX4_clear_30 : decode cX4_clear 30 = .ok (.aload_n 0, 1) := by decide +kernel
theorem dX4_clear_31 : decode cX4_clear 31 = .ok (.lconst 0, 1) := by decide +kernel
theorem dX4_clear_32 : decode cX4_clear 32 = .ok (.putfield 29, 3) := by decide +kernel
theorem dX4_clear_35 : decode cX4_clear 35 = .ok (.aload_n 0, 1) := by decide +kernel
theorem dX4_clear_36 : decode cX4_clear 36 = .ok (.lconst 0, 1) := by decide +kernel
theorem dX4_clear_37 : decode cX4_clear 37 = .ok (.putfield 32, 3) := by decide +kernel
theorem dX4_clear_40 : decode cX4_clear 40 = .ok (.aload_n 0, 1) := by decide +kernel
theorem dX4_clear_41 : decode cX4_clear 41 = .ok (.lconst 0, 1) := by decide +kernel
theorem dX4_clear_42 : decode cX4_clear 42 = .ok (.putfield 35, 3) := by decide +kernel
theorem dX4_clear_45 : decode cX4_clear 45 = .ok (.return_, 1) := by decide +kernel
theorem dX4_add_0 : decode cX4_add 0 = .ok (.aload_n 0, 1) := by decide +kernel
theorem dX4_add_1 : decode cX4_add 1 = .ok (.aload_n 1, 1) := by decide +kernel
theorem dX4_add_2 : decode cX4_add 2 = .ok (.getfield 38, 3) := by decide +kernel
theorem dX4_add_5 : decode cX4_add 5 = .ok (.putfield 43, 3) := by decide +kernel
theorem dX4_add_8 : decode cX4_add 8 = .ok (.aload_n 0, 1) := by decide +kernel
theorem dX4_add_9 : decode cX4_add 9 = .ok (.dup, 1) := by decide +kernel
theorem dX4_add_10 : decode cX4_add 10 = .ok (.getfield 7, 3) := by decide +kernel
theorem dX4_add_13 : decode cX4_add 13 = .ok (.iconst 1, 1) := by decide +kernel
theorem dX4_add_14 : decode cX4_add 14 = .ok (.iadd, 1) := by decide +kernel
theorem dX4_add_15 : decode cX4_add 15 = .ok (.putfield 7, 3) := by decide +kernel
theorem dX4_add_18 : decode cX4_add 18 = .ok (.aload_n 0, 1) := by decide +kernel
theorem dX4_add_19 : decode cX4_add 19 = .ok (.dup, 1) := by decide +kernel
theorem dX4_add_20 : decode cX4_add 20 = .ok (.getfield 16, 3) := by decide +kernel
theorem dX4_add_23 : decode cX4_add 23 = .ok (.aload_n 1, 1) := by decide +kernel
theorem dX4_add_24 : decode cX4_add 24 = .ok (.getfield 44, 3) := by decide +kernel
theorem dX4_add_27 : decode cX4_add 27 = .ok (.i2l, 1) := by decide +kernel
theorem dX4_add_28 : decode cX4_add 28 = .ok (.ladd, 1) := by decide +kernel
theorem dX4_add_29 : decode cX4_add 29 = .ok (.putfield 16, 3) := by decide +kernel
theorem dX4_add_32 : decode cX4_add 32 = .ok (.aload_n 0, 1) := by decide +kernel
theorem dX4_add_33 : decode cX4_add 33 = .ok (.dup, 1) := by decide +kernel
theorem dX4_add_34 : decode cX4_add 34 = .ok (.getfield 20, 3) := by decide +kernel
theorem dX4_add_37 : decode cX4_add 37 = .ok (.aload_n 1, 1) := by decide +kernel
theorem dX4_add_38 : decode cX4_add 38 = .ok (.getfield 47, 3) := by decide +kernel
theorem dX4_add_41 : decode cX4_add 41 = .ok (.i2l, 1) := by decide +kernel
theorem dX4_add_42 : decode cX4_add 42 = .ok (.aload_n 1, 1) := by decide +kernel
theorem dX4_add_43 : decode cX4_add 43 = .ok (.getfield 44, 3) := by decide +kernel
theorem dX4_add_46 : decode cX4_add 46 = .ok (.i2l, 1) := by decide +kernel
theorem dX4_add_47 : decode cX4_add 47 = .ok (.lmul, 1) := by decide +kernel
theorem dX4_add_48 : decode cX4_add 48 = .ok (.ladd, 1) := by decide +kernel
theorem dX4_add_49 : decode cX4_add 49 = .ok (.putfield 20, 3) := by decide +kernel
theorem dX4_add_52 : decode cX4_add 52 = .ok (.aload_n 0, 1) := by decide +kernel
theorem dX4_add_53 : decode cX4_add 53 = .ok (.aload_n 0, 1) := by decide +kernel
theorem dX4_add_54 : decode cX4_add 54 = .ok (.getfield 23, 3) := by decide +kernel
theorem dX4_add_57 : decode cX4_add 57 = .ok (.aload_n 1, 1) := by decide +kernel
theorem dX4_add_58 : decode cX4_add 58 = .ok (.getfield 47, 3) := by decide +kernel
theorem dX4_add_61 : decode cX4_add 61 = .ok (.i2l, 1) := by decide +kernel
theorem dX4_add_62 : decode cX4_add 62 = .ok (.invokestatic 50, 3) := by decide +kernel
theorem dX4_add_65 : decode cX4_add 65 = .ok (.putfield 23, 3) := by decide +kernel
theorem dX4_add_68 : decode cX4_add 68 = .ok (.return_, 1) := by decide +kernel
theorem dX4_addPair_0 : decode cX4_addPair 0 = .ok (.aload_n 0, 1) := by decide +kernel
theorem dX4_addPair_1 : decode cX4_addPair 1 = .ok (.dup, 1) := by decide +kernel
theorem dX4_addPair_2 : decode cX4_addPair 2 = .ok (.getfield 13, 3) := by decide +kernel
theorem dX4_addPair_5 : decode cX4_addPair 5 = .ok (.iconst 1, 1) := by decide +kernel
theorem dX4_addPair_6 : decode cX4_addPair 6 = .ok (.iadd, 1) := by decide +kernel
theorem dX4_addPair_7 : decode cX4_addPair 7 = .ok (.putfield 13, 3) := by decide +kernel
theorem dX4_addPair_10 : decode cX4_addPair 10 = .ok (.aload_n 0, 1) := by decide +kernel
theorem dX4_addPair_11 : decode cX4_addPair 11 = .ok (.dup, 1) := by decide +kernel
theorem dX4_addPair_12 : decode cX4_addPair 12 = .ok (.getfield 26, 3) := by decide +kernel
theorem dX4_addPair_15 : decode cX4_addPair 15 = .ok (.aload_n 1, 1) := by decide +kernel
theorem dX4_addPair_16 : decode cX4_addPair 16 = .ok (.getfield 56, 3) := by decide +kernel
theorem dX4_addPair_19 : decode cX4_addPair 19 = .ok (.ladd, 1) := by decide +kernel
theorem dX4_addPair_20 : decode cX4_addPair 20 = .ok (.putfield 26, 3) := by decide +kernel
theorem dX4_addPair_23 : decode cX4_addPair 23 = .ok (.aload_n 0, 1) := by decide +kernel
theorem dX4_addPair_24 : decode cX4_addPair 24 = .ok (.dup, 1) := by decide +kernel
theorem dX4_addPair_25 : decode cX4_addPair 25 = .ok (.getfield 29, 3) := by decide +kernel
theorem dX4_addPair_28 : decode cX4_addPair 28 = .ok (.aload_n 1, 1) := by decide +kernel
theorem dX4_addPair_29 : decode cX4_addPair 29 = .ok (.getfield 61, 3) := by decide +kernel
theorem dX4_addPair_32 : decode cX4_addPair 32 = .ok (.ladd, 1) := by decide +kernel
theorem dX4_addPair_33 : decode cX4_addPair 33 = .ok (.putfield 29, 3) := by decide +kernel
theorem dX4_addPair_36 : decode cX4_addPair 36 = .ok (.aload_n 0, 1) := by decide +kernel
theorem dX4_addPair_37 : decode cX4_addPair 37 = .ok (.dup, 1) := by decide +kernel
theorem dX4_addPair_38 : decode cX4_addPair 38 = .ok (.getfield 32, 3) := by decide +kernel
theorem dX4_addPair_41 : decode cX4_addPair 41 = .ok (.aload_n 2, 1) := by decide +kernel
theorem dX4_addPair_42 : decode cX4_addPair 42 = .ok (.getfield 56, 3) := by decide +kernel
theorem dX4_addPair_45 : decode cX4_addPair 45 = .ok (.ladd, 1) := by decide +kernel
theorem dX4_addPair_46 : decode cX4_addPair 46 = .ok (.putfield 32, 3) := by decide +kernel
theorem dX4_addPair_49 : decode cX4_addPair 49 = .ok (.aload_n 0, 1) := by decide +kernel
theorem dX4_addPair_50 : decode cX4_addPair 50 = .ok (.dup, 1) := by decide +kernel
theorem dX4_addPair_51 : decode cX4_addPair 51 = .ok (.getfield 35, 3) := by decide +kernel
theorem dX4_addPair_54 : decode cX4_addPair 54 = .ok (.aload_n 2, 1) := by decide +kernel
theorem dX4_addPair_55 : decode cX4_addPair 55 = .ok (.getfield 61, 3) := by decide +kernel
theorem dX4_addPair_58 : decode cX4_addPair 58 = .ok (.ladd, 1) := by decide +kernel
theorem dX4_addPair_59 : decode cX4_addPair 59 = .ok (.putfield 35, 3) := by decide +kernel
theorem dX4_addPair_62 : decode cX4_addPair 62 = .ok (.return_, 1) := by decide +kernel
theorem dX4_settle_0 : decode cX4_settle 0 = .ok (.aload_n 0, 1) := by decide +kernel
theorem dX4_settle_1 : decode cX4_settle 1 = .ok (.aload_n 0, 1) := by decide +kernel
theorem dX4_settle_2 : decode cX4_settle 2 = .ok (.getfield 26, 3) := by decide +kernel
theorem dX4_settle_5 : decode cX4_settle 5 = .ok (.aload_n 0, 1) := by decide +kernel
theorem dX4_settle_6 : decode cX4_settle 6 = .ok (.getfield 13, 3) := by decide +kernel
theorem dX4_settle_9 : decode cX4_settle 9 = .ok (.i2l, 1) := by decide +kernel
theorem dX4_settle_10 : decode cX4_settle 10 = .ok (.invokestatic 64, 3) := by decide +kernel
theorem dX4_settle_13 : decode cX4_settle 13 = .ok (.putfield 26, 3) := by decide +kernel
theorem dX4_settle_16 : decode cX4_settle 16 = .ok (.aload_n 0, 1) := by decide +kernel
theorem dX4_settle_17 : decode cX4_settle 17 = .ok (.aload_n 0, 1) := by decide +kernel
theorem dX4_settle_18 : decode cX4_settle 18 = .ok (.getfield 29, 3) := by decide +kernel
theorem dX4_settle_21 : decode cX4_settle 21 = .ok (.aload_n 0, 1) := by decide +kernel
theorem dX4_settle_22 : decode cX4_settle 22 = .ok (.getfield 13, 3) := by decide +kernel
theorem dX4_settle_25 : decode cX4_settle 25 = .ok (.i2l, 1) := by decide +kernel
theorem dX4_settle_26 : decode cX4_settle 26 = .ok (.invokestatic 64, 3) := by decide +kernel
theorem dX4_settle_29 : decode cX4_settle 29 = .ok (.putfield 29, 3) := by decide +kernel
theorem dX4_settle_32 : decode cX4_settle 32 = .ok (.aload_n 0, 1) := by decide +kernel
theorem dX4_settle_33 : decode cX4_settle 33 = .ok (.aload_n 0, 1) := by decide +kernel
theorem dX4_settle_34 : decode cX4_settle 34 = .ok (.getfield 32, 3) := by decide +kernel
theorem dX4_settle_37 : decode cX4_settle 37 = .ok (.aload_n 0, 1) := by decide +kernel
theorem dX4_settle_38 : decode cX4_settle 38 = .ok (.getfield 13, 3) := by decide +kernel
theorem dX4_settle_41 : decode cX4_settle 41 = .ok (.i2l, 1) := by decide +kernel
theorem dX4_settle_42 : decode cX4_settle 42 = .ok (.invokestatic 64, 3) := by decide +kernel
theorem dX4_settle_45 : decode cX4_settle 45 = .ok (.putfield 32, 3) := by decide +kernel
theorem dX4_settle_48 : decode cX4_settle 48 = .ok (.aload_n 0, 1) := by decide +kernel
theorem dX4_settle_49 : decode cX4_settle 49 = .ok (.aload_n 0, 1) := by decide +kernel
theorem dX4_settle_50 : decode cX4_settle 50 = .ok (.getfield 35, 3) := by decide +kernel
theorem dX4_settle_53 : decode cX4_settle 53 = .ok (.aload_n 0, 1) := by decide +kernel
theorem dX4_settle_54 : decode cX4_settle 54 = .ok (.getfield 13, 3) := by decide +kernel
theorem dX4_settle_57 : decode cX4_settle 57 = .ok (.i2l, 1) := by decide +kernel
theorem dX4_settle_58 : decode cX4_settle 58 = .ok (.invokestatic 64, 3) := by decide +kernel
theorem dX4_settle_61 : decode cX4_settle 61 = .ok (.putfield 35, 3) := by decide +kernel
theorem dX4_settle_64 : decode cX4_settle 64 = .ok (.aload_n 0, 1) := by decide +kernel
theorem dX4_settle_65 : decode cX4_settle 65 = .ok (.invokevirtual 69, 3) := by decide +kernel
theorem dX4_settle_68 : decode cX4_settle 68 = .ok (.aload_n 0, 1) := by decide +kernel
theorem dX4_settle_69 : decode cX4_settle 69 = .ok (.invokevirtual 69, 3) := by decide +kernel
theorem dX4_settle_72 : decode cX4_settle 72 = .ok (.lmul, 1) := by decide +kernel
theorem dX4_settle_73 : decode cX4_settle 73 = .ok (.aload_n 0, 1) := by decide +kernel
theorem dX4_settle_74 : decode cX4_settle 74 = .ok (.invokevirtual 73, 3) := by decide +kernel
theorem dX4_settle_77 : decode cX4_settle 77 = .ok (.aload_n 0, 1) := by decide +kernel
theorem dX4_settle_78 : decode cX4_settle 78 = .ok (.invokevirtual 73, 3) := by decide +kernel
theorem dX4_settle_81 : decode cX4_settle 81 = .ok (.lmul, 1) := by decide +kernel
theorem dX4_settle_82 : decode cX4_settle 82 = .ok (.ladd, 1) := by decide +kernel
theorem dX4_settle_83 : decode cX4_settle 83 = .ok (.invokestatic 76, 3) := by decide +kernel
theorem dX4_settle_86 : decode cX4_settle 86 = .ok (.lstore_n 1, 1) := by decide +kernel
theorem dX4_settle_87 : decode cX4_settle 87 = .ok (.aload_n 0, 1) := by decide +kernel
theorem dX4_settle_88 : decode cX4_settle 88 = .ok (.ldc2_w 80, 3) := by decide +kernel
theorem dX4_settle_91 : decode cX4_settle 91 = .ok (.lload_n 1, 1) := by decide +kernel
theorem dX4_settle_92 : decode cX4_settle 92 = .ok (.lmul, 1) := by decide +kernel
theorem dX4_settle_93 : decode cX4_settle 93 = .ok (.aload_n 0, 1) := by decide +kernel
theorem dX4_settle_94 : decode cX4_settle 94 = .ok (.getfield 7, 3) := by decide +kernel
theorem dX4_settle_97 : decode cX4_settle 97 = .ok (.i2l, 1) := by decide +kernel
theorem dX4_settle_98 : decode cX4_settle 98 = .ok (.lmul, 1) := by decide +kernel
theorem dX4_settle_99 : decode cX4_settle 99 = .ok (.aload_n 0, 1) := by decide +kernel
theorem dX4_settle_100 : decode cX4_settle 100 = .ok (.getfield 16, 3) := by decide +kernel
theorem dX4_settle_103 : decode cX4_settle 103 = .ok (.invokestatic 64, 3) := by decide +kernel
theorem dX4_settle_106 : decode cX4_settle 106 = .ok (.putfield 82, 3) := by decide +kernel
theorem dX4_settle_109 : decode cX4_settle 109 = .ok (.aload_n 0, 1) := by decide +kernel
theorem dX4_settle_110 : decode cX4_settle 110 = .ok (.aload_n 0, 1) := by decide +kernel
theorem dX4_settle_111 : decode cX4_settle 111 = .ok (.getfield 20, 3) := by decide +kernel
theorem dX4_settle_114 : decode cX4_settle 114 = .ok (.aload_n 0, 1) := by decide +kernel
theorem dX4_settle_115 : decode cX4_settle 115 = .ok (.getfield 7, 3) := by decide +kernel
theorem dX4_settle_118 : decode cX4_settle 118 = .ok (.i2l, 1) := by decide +kernel
theorem dX4_settle_119 : decode cX4_settle 119 = .ok (.invokestatic 64, 3) := by decide +kernel
theorem dX4_settle_122 : decode cX4_settle 122 = .ok (.putfield 85, 3) := by decide +kernel
theorem dX4_settle_125 : decode cX4_settle 125 = .ok (.aload_n 0, 1) := by decide +kernel
theorem dX4_settle_126 : decode cX4_settle 126 = .ok (.ldc2_w 88, 3) := by decide +kernel
theorem dX4_settle_129 : decode cX4_settle 129 = .ok (.aload_n 0, 1) := by decide +kernel
theorem dX4_settle_130 : decode cX4_settle 130 = .ok (.getfield 23, 3) := by decide +kernel
theorem dX4_settle_133 : decode cX4_settle 133 = .ok (.lmul, 1) := by decide +kernel
theorem dX4_settle_134 : decode cX4_settle 134 = .ok (.aload_n 0, 1) := by decide +kernel
theorem dX4_settle_135 : decode cX4_settle 135 = .ok (.getfield 82, 3) := by decide +kernel
theorem dX4_settle_138 : decode cX4_settle 138 = .ok (.lconst 1, 1) := by decide +kernel
theorem dX4_settle_139 : decode cX4_settle 139 = .ok (.ladd, 1) := by decide +kernel
theorem dX4_settle_140 : decode cX4_settle 140 = .ok (.invokestatic 64, 3) := by decide +kernel
theorem dX4_settle_143 : decode cX4_settle 143 = .ok (.putfield 90, 3) := by decide +kernel
theorem dX4_settle_146 : decode cX4_settle 146 = .ok (.return_, 1) := by decide +kernel
theorem dX4_flightX_0 : decode cX4_flightX 0 = .ok (.aload_n 0, 1) := by decide +kernel
theorem dX4_flightX_1 : decode cX4_flightX 1 = .ok (.getfield 32, 3) := by decide +kernel
theorem dX4_flightX_4 : decode cX4_flightX 4 = .ok (.aload_n 0, 1) := by decide +kernel
theorem dX4_flightX_5 : decode cX4_flightX 5 = .ok (.getfield 26, 3) := by decide +kernel
theorem dX4_flightX_8 : decode cX4_flightX 8 = .ok (.lsub, 1) := by decide +kernel
theorem dX4_flightX_9 : decode cX4_flightX 9 = .ok (.lreturn, 1) := by decide +kernel
theorem dX4_flightY_0 : decode cX4_flightY 0 = .ok (.aload_n 0, 1) := by decide +kernel
theorem dX4_flightY_1 : decode cX4_flightY 1 = .ok (.getfield 35, 3) := by decide +kernel
theorem dX4_flightY_4 : decode cX4_flightY 4 = .ok (.aload_n 0, 1) := by decide +kernel
theorem dX4_flightY_5 : decode cX4_flightY 5 = .ok (.getfield 29, 3) := by decide +kernel
theorem dX4_flightY_8 : decode cX4_flightY 8 = .ok (.lsub, 1) := by decide +kernel
theorem dX4_flightY_9 : decode cX4_flightY 9 = .ok (.lreturn, 1) := by decide +kernel
theorem dX4_number_0 : decode cX4_number 0 = .ok (.iload_n 1, 1) := by decide +kernel
theorem dX4_number_1 : decode cX4_number 1 = .ok (.tableswitch 79 0 6 #[43, 49, 54, 59, 64, 69, 74], 43) := by decide +kernel
theorem dX4_number_44 : decode cX4_number 44 = .ok (.aload_n 0, 1) := by decide +kernel
theorem dX4_number_45 : decode cX4_number 45 = .ok (.getfield 7, 3) := by decide +kernel
theorem dX4_number_48 : decode cX4_number 48 = .ok (.i2l, 1) := by decide +kernel
theorem dX4_number_49 : decode cX4_number 49 = .ok (.lreturn, 1) := by decide +kernel
theorem dX4_number_50 : decode cX4_number 50 = .ok (.aload_n 0, 1) := by decide +kernel
theorem dX4_number_51 : decode cX4_number 51 = .ok (.getfield 26, 3) := by decide +kernel
theorem dX4_number_54 : decode cX4_number 54 = .ok (.lreturn, 1) := by decide +kernel
theorem dX4_number_55 : decode cX4_number 55 = .ok (.aload_n 0, 1) := by decide +kernel
theorem dX4_number_56 : decode cX4_number 56 = .ok (.getfield 29, 3) := by decide +kernel
theorem dX4_number_59 : decode cX4_number 59 = .ok (.lreturn, 1) := by decide +kernel
theorem dX4_number_60 : decode cX4_number 60 = .ok (.aload_n 0, 1) := by decide +kernel
theorem dX4_number_61 : decode cX4_number 61 = .ok (.getfield 32, 3) := by decide +kernel
theorem dX4_number_64 : decode cX4_number 64 = .ok (.lreturn, 1) := by decide +kernel
theorem dX4_number_65 : decode cX4_number 65 = .ok (.aload_n 0, 1) := by decide +kernel
theorem dX4_number_66 : decode cX4_number 66 = .ok (.getfield 35, 3) := by decide +kernel
theorem dX4_number_69 : decode cX4_number 69 = .ok (.lreturn, 1) := by decide +kernel
theorem dX4_number_70 : decode cX4_number 70 = .ok (.aload_n 0, 1) := by decide +kernel
theorem dX4_number_71 : decode cX4_number 71 = .ok (.getfield 82, 3) := by decide +kernel
theorem dX4_number_74 : decode cX4_number 74 = .ok (.lreturn, 1) := by decide +kernel
theorem dX4_number_75 : decode cX4_number 75 = .ok (.aload_n 0, 1) := by decide +kernel
theorem dX4_number_76 : decode cX4_number 76 = .ok (.getfield 85, 3) := by decide +kernel
theorem dX4_number_79 : decode cX4_number 79 = .ok (.lreturn, 1) := by decide +kernel
theorem dX4_number_80 : decode cX4_number 80 = .ok (.aload_n 0, 1) := by decide +kernel
theorem dX4_number_81 : decode cX4_number 81 = .ok (.getfield 90, 3) := by decide +kernel
theorem dX4_number_84 : decode cX4_number 84 = .ok (.lreturn, 1) := by decide +kernel
theorem dX6_init_0 : decode cX6_init 0 = .ok (.aload_n 0, 1) := by decide +kernel
theorem dX6_init_1 : decode cX6_init 1 = .ok (.invokespecial 3, 3) := by decide +kernel
theorem dX6_init_4 : decode cX6_init 4 = .ok (.aload_n 0, 1) := by decide +kernel
theorem dX6_init_5 : decode cX6_init 5 = .ok (.iconst (-1), 1) := by decide +kernel
theorem dX6_init_6 : decode cX6_init 6 = .ok (.putfield 9, 3) := by decide +kernel
theorem dX6_init_9 : decode cX6_init 9 = .ok (.aload_n 0, 1) := by decide +kernel
theorem dX6_init_10 : decode cX6_init 10 = .ok (.aload_n 1, 1) := by decide +kernel
theorem dX6_init_11 : decode cX6_init 11 = .ok (.putfield 15, 3) := by decide +kernel
theorem dX6_init_14 : decode cX6_init 14 = .ok (.aload_n 0, 1) := by decide +kernel
theorem dX6_init_15 : decode cX6_init 15 = .ok (.iload_n 2, 1) := by decide +kernel
theorem dX6_init_16 : decode cX6_init 16 = .ok (.putfield 19, 3) := by decide +kernel
theorem dX6_init_19 : decode cX6_init 19 = .ok (.aload_n 0, 1) := by decide +kernel
theorem dX6_init_20 : decode cX6_init 20 = .ok (.iload_n 3, 1) := by decide +kernel
theorem dX6_init_21 : decode cX6_init 21 = .ok (.putfield 22, 3) := by decide +kernel
theorem dX6_init_24 : decode cX6_init 24 = .ok (.aload_n 0, 1) := by decide +kernel
theorem dX6_init_25 : decode cX6_init 25 = .ok (.iload 4, 2) := by decide +kernel
theorem dX6_init_27 : decode cX6_init 27 = .ok (.putfield 25, 3) := by decide +kernel
theorem dX6_init_30 : decode cX6_init 30 = .ok (.aload_n 0, 1) := by decide +kernel
theorem dX6_init_31 : decode cX6_init 31 = .ok (.iload 5, 2) := by decide +kernel
theorem dX6_init_33 : decode cX6_init 33 = .ok (.putfield 28, 3) := by decide +kernel
theorem dX6_init_36 : decode cX6_init 36 = .ok (.return_, 1) := by decide +kernel
theorem dX6_counts_0 : decode cX6_counts 0 = .ok (.aload_n 0, 1) := by decide +kernel
theorem dX6_counts_1 : decode cX6_counts 1 = .ok (.getfield 25, 3) := by decide +kernel
theorem dX6_counts_4 : decode cX6_counts 4 = .ok (.bipush 30, 2) := by decide +kernel
theorem dX6_counts_6 : decode cX6_counts 6 = .ok (.if_icmp .gt 16, 3) := by decide +kernel
theorem dX6_counts_9 : decode cX6_counts 9 = .ok (.aload_n 0, 1) := by decide +kernel
theorem dX6_counts_10 : decode cX6_counts 10 = .ok (.getfield 28, 3) := by decide +kernel
theorem dX6_counts_13 : decode cX6_counts 13 = .ok (.bipush 50, 2) := by decide +kernel
theorem dX6_counts_15 : decode cX6_counts 15 = .ok (.if_icmp .lt 7, 3) := by decide +kernel
theorem dX6_counts_18 : decode cX6_counts 18 = .ok (.iconst 1, 1) := by decide +kernel
theorem dX6_counts_19 : decode cX6_counts 19 = .ok (.goto 4, 3) := by decide +kernel
theorem dX6_counts_22 : decode cX6_counts 22 = .ok (.iconst 0, 1) := by decide +kernel
theorem dX6_counts_23 : decode cX6_counts 23 = .ok (.ireturn, 1) := by decide +kernel
theorem dX6_rightSecond_0 : decode cX6_rightSecond 0 = .ok (.aload_n 0, 1) := by decide +kernel
theorem dX6_rightSecond_1 : decode cX6_rightSecond 1 = .ok (.getfield 22, 3) := by decide +kernel
theorem dX6_rightSecond_4 : decode cX6_rightSecond 4 = .ok (.aload_n 0, 1) := by decide +kernel
theorem dX6_rightSecond_5 : decode cX6_rightSecond 5 = .ok (.getfield 15, 3) := by decide +kernel
theorem dX6_rightSecond_8 : decode cX6_rightSecond 8 = .ok (.getfield 31, 3) := by decide +kernel
theorem dX6_rightSecond_11 : decode cX6_rightSecond 11 = .ok (.isub, 1) := by decide +kernel
theorem dX6_rightSecond_12 : decode cX6_rightSecond 12 = .ok (.ireturn, 1) := by decide +kernel
theorem dX6_mayJoin_0 : decode cX6_mayJoin 0 = .ok (.aload_n 0, 1) := by decide +kernel
theorem dX6_mayJoin_1 : decode cX6_mayJoin 1 = .ok (.getfield 19, 3) := by decide +kernel
theorem dX6_mayJoin_4 : decode cX6_mayJoin 4 = .ok (.aload_n 1, 1) := by decide +kernel
theorem dX6_mayJoin_5 : decode cX6_mayJoin 5 = .ok (.getfield 19, 3) := by decide +kernel
theorem dX6_mayJoin_8 : decode cX6_mayJoin 8 = .ok (.if_icmp .ne 48, 3) := by decide +kernel
theorem dX6_mayJoin_11 : decode cX6_mayJoin 11 = .ok (.aload_n 0, 1) := by decide +kernel
theorem dX6_mayJoin_12 : decode cX6_mayJoin 12 = .ok (.getfield 15, 3) := by decide +kernel
theorem dX6_mayJoin_15 : decode cX6_mayJoin 15 = .ok (.aload_n 1, 1) := by decide +kernel
theorem dX6_mayJoin_16 : decode cX6_mayJoin 16 = .ok (.getfield 15, 3) := by decide +kernel
theorem dX6_mayJoin_19 : decode cX6_mayJoin 19 = .ok (.if_acmp .eq 37, 3) := by decide +kernel
theorem dX6_mayJoin_22 : decode cX6_mayJoin 22 = .ok (.aload_n 0, 1) := by decide +kernel
theorem dX6_mayJoin_23 : decode cX6_mayJoin 23 = .ok (.invokevirtual 36, 3) := by decide +kernel
theorem dX6_mayJoin_26 : decode cX6_mayJoin 26 = .ok (.ifCond .eq 30, 3) := by decide +kernel
theorem dX6_mayJoin_29 : decode cX6_mayJoin 29 = .ok (.aload_n 1, 1) := by decide +kernel
theorem dX6_mayJoin_30 : decode cX6_mayJoin 30 = .ok (.invokevirtual 36, 3) := by decide +kernel
theorem dX6_mayJoin_33 : decode cX6_mayJoin 33 = .ok (.ifCond .eq 23, 3) := by decide +kernel
theorem dX6_mayJoin_36 : decode cX6_mayJoin 36 = .ok (.aload_n 0, 1) := by decide +kernel
theorem dX6_mayJoin_37 : decode cX6_mayJoin 37 = .ok (.invokevirtual 40, 3) := by decide +kernel
theorem dX6_mayJoin_40 : decode cX6_mayJoin 40 = .ok (.aload_n 1, 1) := by decide +kernel
theorem dX6_mayJoin_41 : decode cX6_mayJoin 41 = .ok (.invokevirtual 40, 3) := by decide +kernel
theorem dX6_mayJoin_44 : decode cX6_mayJoin 44 = .ok (.isub, 1) := by decide +kernel
theorem dX6_mayJoin_45 : decode cX6_mayJoin 45 = .ok (.invokestatic 44, 3) := by decide +kernel
theorem dX6_mayJoin_48 : decode cX6_mayJoin 48 = .ok (.iconst 5, 1) := by decide +kernel
theorem dX6_mayJoin_49 : decode cX6_mayJoin 49 = .ok (.if_icmp .gt 7, 3) := by decide +kernel
theorem dX6_mayJoin_52 : decode cX6_mayJoin 52 = .ok (.iconst 1, 1) := by decide +kernel
theorem dX6_mayJoin_53 : decode cX6_mayJoin 53 = .ok (.goto 4, 3) := by decide +kernel
theorem dX6_mayJoin_56 : decode cX6_mayJoin 56 = .ok (.iconst 0, 1) := by decide +kernel
theorem dX6_mayJoin_57 : decode cX6_mayJoin 57 = .ok (.ireturn, 1) := by decide +kernel
theorem dX7_init_0 : decode cX7_init 0 = .ok (.aload_n 0, 1) := by decide +kernel
theorem dX7_init_1 : decode cX7_init 1 = .ok (.invokespecial 3, 3) := by decide +kernel
theorem dX7_init_4 : decode cX7_init 4 = .ok (.aload_n 0, 1) := by decide +kernel
theorem dX7_init_5 : decode cX7_init 5 = .ok (.iconst 0, 1) := by decide +kernel
theorem dX7_init_6 : decode cX7_init 6 = .ok (.putfield 9, 3) := by decide +kernel
theorem dX7_init_9 : decode cX7_init 9 = .ok (.aload_n 0, 1) := by decide +kernel
theorem dX7_init_10 : decode cX7_init 10 = .ok (.iconst (-1), 1) := by decide +kernel
theorem dX7_init_11 : decode cX7_init 11 = .ok (.putfield 15, 3) := by decide +kernel
theorem dX7_init_14 : decode cX7_init 14 = .ok (.aload_n 0, 1) := by decide +kernel
theorem dX7_init_15 : decode cX7_init 15 = .ok (.iconst (-1), 1) := by decide +kernel
theorem dX7_init_16 : decode cX7_init 16 = .ok (.putfield 18, 3) := by decide +kernel
theorem dX7_init_19 : decode cX7_init 19 = .ok (.aload_n 0, 1) := by decide +kernel
theorem dX7_init_20 : decode cX7_init 20 = .ok (.iconst (-1), 1) := by decide +kernel
theorem dX7_init_21 : decode cX7_init 21 = .ok (.putfield 21, 3) := by decide +kernel
theorem dX7_init_24 : decode cX7_init 24 = .ok (.aload_n 0, 1) := by decide +kernel
theorem dX7_init_25 : decode cX7_init 25 = .ok (.iload_n 1, 1) := by decide +kernel
theorem dX7_init_26 : decode cX7_init 26 = .ok (.putfield 24, 3) := by decide +kernel
theorem dX7_init_29 : decode cX7_init 29 = .ok (.aload_n 0, 1) := by decide +kernel
theorem dX7_init_30 : decode cX7_init 30 = .ok (.iload_n 2, 1) := by decide +kernel
theorem dX7_init_31 : decode cX7_init 31 = .ok (.putfield 27, 3) := by decide +kernel
theorem dX7_init_34 : decode cX7_init 34 = .ok (.aload_n 0, 1) := by decide +kernel
theorem dX7_init_35 : decode cX7_init 35 = .ok (.iload_n 3, 1) := by decide +kernel
theorem dX7_init_36 : decode cX7_init 36 = .ok (.putfield 30, 3) := by decide +kernel
theorem dX7_init_39 : decode cX7_init 39 = .ok (.aload_n 0, 1) := by decide +kernel
theorem dX7_init_40 : decode cX7_init 40 = .ok (.iload 4, 2) := by decide +kernel
theorem dX7_init_42 : decode cX7_init 42 = .ok (.putfield 33, 3) := by decide +kernel
theorem dX7_init_45 : decode cX7_init 45 = .ok (.aload_n 0, 1) := by decide +kernel
theorem dX7_init_46 : decode cX7_init 46 = .ok (.iload 5, 2) := by decide +kernel
theorem dX7_init_48 : decode cX7_init 48 = .ok (.putfield 36, 3) := by decide +kernel
theorem dX7_init_51 : decode cX7_init 51 = .ok (.aload_n 0, 1) := by decide +kernel
theorem dX7_init_52 : decode cX7_init 52 = .ok (.iload 6, 2) := by decide +kernel
theorem dX7_init_54 : decode cX7_init 54 = .ok (.putfield 39, 3) := by decide +kernel
theorem dX7_init_57 : decode cX7_init 57 = .ok (.aload_n 0, 1) := by decide +kernel
theorem dX7_init_58 : decode cX7_init 58 = .ok (.aload 7, 2) := by decide +kernel
theorem dX7_init_60 : decode cX7_init 60 = .ok (.putfield 42, 3) := by decide +kernel
theorem dX7_init_63 : decode cX7_init 63 = .ok (.return_, 1) := by decide +kernel
theorem dX8_init_0 : decode cX8_init 0 = .ok (.aload_n 0, 1) := by decide +kernel
theorem dX8_init_1 : decode cX8_init 1 = .ok (.invokespecial 1, 3) := by decide +kernel
theorem dX8_init_4 : decode cX8_init 4 = .ok (.aload_n 0, 1) := by decide +kernel
theorem dX8_init_5 : decode cX8_init 5 = .ok (.iload_n 1, 1) := by decide +kernel
theorem dX8_init_6 : decode cX8_init 6 = .ok (.putfield 7, 3) := by decide +kernel
theorem dX8_init_9 : decode cX8_init 9 = .ok (.aload_n 0, 1) := by decide +kernel
theorem dX8_init_10 : decode cX8_init 10 = .ok (.iload_n 2, 1) := by decide +kernel
theorem dX8_init_11 : decode cX8_init 11 = .ok (.putfield 13, 3) := by decide +kernel
theorem dX8_init_14 : decode cX8_init 14 = .ok (.aload_n 0, 1) := by decide +kernel
theorem dX8_init_15 : decode cX8_init 15 = .ok (.iload_n 3, 1) := by decide +kernel
theorem dX8_init_16 : decode cX8_init 16 = .ok (.putfield 16, 3) := by decide +kernel
theorem dX8_init_19 : decode cX8_init 19 = .ok (.aload_n 0, 1) := by decide +kernel
theorem dX8_init_20 : decode cX8_init 20 = .ok (.iload 4, 2) := by decide +kernel
theorem dX8_init_22 : decode cX8_init 22 = .ok (.putfield 19, 3) := by decide +kernel
theorem dX8_init_25 : decode cX8_init 25 = .ok (.aload_n 0, 1) := by decide +kernel
theorem dX8_init_26 : decode cX8_init 26 = .ok (.iload 5, 2) := by decide +kernel
theorem dX8_init_28 : decode cX8_init 28 = .ok (.putfield 22, 3) := by decide +kernel
theorem dX8_init_31 : decode cX8_init 31 = .ok (.return_, 1) := by decide +kernel
theorem dX8_isThrough_0 : decode cX8_isThrough 0 = .ok (.aload_n 0, 1) := by decide +kernel
theorem dX8_isThrough_1 : decode cX8_isThrough 1 = .ok (.getfield 7, 3) := by decide +kernel
theorem dX8_isThrough_4 : decode cX8_isThrough 4 = .ok (.iload_n 1, 1) := by decide +kernel
theorem dX8_isThrough_5 : decode cX8_isThrough 5 = .ok (.if_icmp .ne 23, 3) := by decide +kernel
theorem dX8_isThrough_8 : decode cX8_isThrough 8 = .ok (.aload_n 0, 1) := by decide +kernel
theorem dX8_isThrough_9 : decode cX8_isThrough 9 = .ok (.getfield 13, 3) := by decide +kernel
theorem dX8_isThrough_12 : decode cX8_isThrough 12 = .ok (.iload_n 2, 1) := by decide +kernel
theorem dX8_isThrough_13 : decode cX8_isThrough 13 = .ok (.if_icmp .ne 15, 3) := by decide +kernel
theorem dX8_isThrough_16 : decode cX8_isThrough 16 = .ok (.aload_n 0, 1) := by decide +kernel
theorem dX8_isThrough_17 : decode cX8_isThrough 17 = .ok (.getfield 16, 3) := by decide +kernel
theorem dX8_isThrough_20 : decode cX8_isThrough 20 = .ok (.iload_n 3, 1) := by decide +kernel
theorem dX8_isThrough_21 : decode cX8_isThrough 21 = .ok (.if_icmp .ne 7, 3) := by decide +kernel
theorem dX8_isThrough_24 : decode cX8_isThrough 24 = .ok (.iconst 1, 1) := by decide +kernel
theorem dX8_isThrough_25 : decode cX8_isThrough 25 = .ok (.goto 4, 3) := by decide +kernel
theorem dX8_isThrough_28 : decode cX8_isThrough 28 = .ok (.iconst 0, 1) := by decide +kernel
theorem dX8_isThrough_29 : decode cX8_isThrough 29 = .ok (.ireturn, 1) := by decide +kernel
theorem dX9_init_0 : decode cX9_init 0 = .ok (.aload_n 0, 1) := by decide +kernel
theorem dX9_init_1 : decode cX9_init 1 = .ok (.invokespecial 1, 3) := by decide +kernel
theorem dX9_init_4 : decode cX9_init 4 = .ok (.aload_n 0, 1) := by decide +kernel
theorem dX9_init_5 : decode cX9_init 5 = .ok (.iload_n 1, 1) := by decide +kernel
theorem dX9_init_6 : decode cX9_init 6 = .ok (.putfield 7, 3) := by decide +kernel
theorem dX9_init_9 : decode cX9_init 9 = .ok (.return_, 1) := by decide +kernel
theorem dX10_init_0 : decode cX10_init 0 = .ok (.aload_n 0, 1) := by decide +kernel
theorem dX10_init_1 : decode cX10_init 1 = .ok (.invokespecial 1, 3) := by decide +kernel
theorem dX10_init_4 : decode cX10_init 4 = .ok (.aload_n 0, 1) := by decide +kernel
theorem dX10_init_5 : decode cX10_init 5 = .ok (.new 7, 3) := by decide +kernel
theorem dX10_init_8 : decode cX10_init 8 = .ok (.dup, 1) := by decide +kernel
theorem dX10_init_9 : decode cX10_init 9 = .ok (.invokespecial 9, 3) := by decide +kernel
theorem dX10_init_12 : decode cX10_init 12 = .ok (.putfield 10, 3) := by decide +kernel
theorem dX10_init_15 : decode cX10_init 15 = .ok (.aload_n 0, 1) := by decide +kernel
theorem dX10_init_16 : decode cX10_init 16 = .ok (.new 7, 3) := by decide +kernel
theorem dX10_init_19 : decode cX10_init 19 = .ok (.dup, 1) := by decide +kernel
theorem dX10_init_20 : decode cX10_init 20 = .ok (.invokespecial 9, 3) := by decide +kernel
theorem dX10_init_23 : decode cX10_init 23 = .ok (.putfield 16, 3) := by decide +kernel
theorem dX10_init_26 : decode cX10_init 26 = .ok (.aload_n 0, 1) := by decide +kernel
theorem dX10_init_27 : decode cX10_init 27 = .ok (.new 7, 3) := by decide +kernel
theorem dX10_init_30 : decode cX10_init 30 = .ok (.dup, 1) := by decide +kernel
theorem dX10_init_31 : decode cX10_init 31 = .ok (.invokespecial 9, 3) := by decide +kernel
theorem dX10_init_34 : decode cX10_init 34 = .ok (.putfield 19, 3) := by decide +kernel
theorem dX10_init_37 : decode cX10_init 37 = .ok (.aload_n 0, 1) := by decide +kernel
theorem dX10_init_38 : decode cX10_init 38 = .ok (.aconst_null, 1) := by decide +kernel
theorem dX10_init_39 : decode cX10_init 39 = .ok (.putfield 22, 3) := by decide +kernel
theorem dX10_init_42 : decode cX10_init 42 = .ok (.aload_n 0, 1) := by decide +kernel
theorem dX10_init_43 : decode cX10_init 43 = .ok (.new 7, 3) := by decide +kernel
theorem dX10_init_46 : decode cX10_init 46 = .ok (.dup, 1) := by decide +kernel
theorem dX10_init_47 : decode cX10_init 47 = .ok (.invokespecial 9, 3) := by decide +kernel
theorem dX10_init_50 : decode cX10_init 50 = .ok (.putfield 26, 3) := by decide +kernel
theorem dX10_init_53 : decode cX10_init 53 = .ok (.aload_n 0, 1) := by decide +kernel
theorem dX10_init_54 : decode cX10_init 54 = .ok (.new 29, 3) := by decide +kernel
theorem dX10_init_57 : decode cX10_init 57 = .ok (.dup, 1) := by decide +kernel
theorem dX10_init_58 : decode cX10_init 58 = .ok (.invokespecial 31, 3) := by decide +kernel
theorem dX10_init_61 : decode cX10_init 61 = .ok (.putfield 32, 3) := by decide +kernel
theorem dX10_init_64 : decode cX10_init 64 = .ok (.aload_n 0, 1) := by decide +kernel
theorem dX10_init_65 : decode cX10_init 65 = .ok (.new 29, 3) := by decide +kernel
theorem dX10_init_68 : decode cX10_init 68 = .ok (.dup, 1) := by decide +kernel
theorem dX10_init_69 : decode cX10_init 69 = .ok (.invokespecial 31, 3) := by decide +kernel
theorem dX10_init_72 : decode cX10_init 72 = .ok (.putfield 36, 3) := by decide +kernel
theorem dX10_init_75 : decode cX10_init 75 = .ok (.aload_n 0, 1) := by decide +kernel
theorem dX10_init_76 : decode cX10_init 76 = .ok (.new 7, 3) := by decide +kernel
theorem dX10_init_79 : decode cX10_init 79 = .ok (.dup, 1) := by decide +kernel
theorem dX10_init_80 : decode cX10_init 80 = .ok (.invokespecial 9, 3) := by decide +kernel
theorem dX10_init_83 : decode cX10_init 83 = .ok (.putfield 39, 3) := by decide +kernel
theorem dX10_init_86 : decode cX10_init 86 = .ok (.aload_n 0, 1) := by decide +kernel
theorem dX10_init_87 : decode cX10_init 87 = .ok (.new 7, 3) := by decide +kernel
theorem dX10_init_90 : decode cX10_init 90 = .ok (.dup, 1) := by decide +kernel
theorem dX10_init_91 : decode cX10_init 91 = .ok (.invokespecial 9, 3) := by decide +kernel
theorem dX10_init_94 : decode cX10_init 94 = .ok (.putfield 42, 3) := by decide +kernel
theorem dX10_init_97 : decode cX10_init 97 = .ok (.aload_n 0, 1) := by decide +kernel
theorem dX10_init_98 : decode cX10_init 98 = .ok (.new 45, 3) := by decide +kernel
theorem dX10_init_101 : decode cX10_init 101 = .ok (.dup, 1) := by decide +kernel
theorem dX10_init_102 : decode cX10_init 102 = .ok (.invokespecial 47, 3) := by decide +kernel
theorem dX10_init_105 : decode cX10_init 105 = .ok (.putfield 48, 3) := by decide +kernel
theorem dX10_init_108 : decode cX10_init 108 = .ok (.aload_n 0, 1) := by decide +kernel
theorem dX10_init_109 : decode cX10_init 109 = .ok (.new 7, 3) := by decide +kernel
theorem dX10_init_112 : decode cX10_init 112 = .ok (.dup, 1) := by decide +kernel
theorem dX10_init_113 : decode cX10_init 113 = .ok (.invokespecial 9, 3) := by decide +kernel
theorem dX10_init_116 : decode cX10_init 116 = .ok (.putfield 52, 3) := by decide +kernel
theorem dX10_init_119 : decode cX10_init 119 = .ok (.aload_n 0, 1) := by decide +kernel
theorem dX10_init_120 : decode cX10_init 120 = .ok (.bipush 10, 2) := by decide +kernel
theorem dX10_init_122 : decode cX10_init 122 = .ok (.anewarray 55, 3) := by decide +kernel
theorem dX10_init_125 : decode cX10_init 125 = .ok (.putfield 57, 3) := by decide +kernel
theorem dX10_init_128 : decode cX10_init 128 = .ok (.aload_n 0, 1) := by decide +kernel
theorem dX10_init_129 : decode cX10_init 129 = .ok (.iconst 4, 1) := by decide +kernel
theorem dX10_init_130 : decode cX10_init 130 = .ok (.newarray .int, 2) := by decide +kernel
theorem dX10_init_132 : decode cX10_init 132 = .ok (.putfield 61, 3) := by decide +kernel
theorem dX10_init_135 : decode cX10_init 135 = .ok (.aload_n 0, 1) := by decide +kernel
theorem dX10_init_136 : decode cX10_init 136 = .ok (.bipush 10, 2) := by decide +kernel
theorem dX10_init_138 : decode cX10_init 138 = .ok (.newarray .int, 2) := by decide +kernel
theorem dX10_init_140 : decode cX10_init 140 = .ok (.putfield 65, 3) := by decide +kernel
theorem dX10_init_143 : decode cX10_init 143 = .ok (.iconst 0, 1) := by decide +kernel
theorem dX10_init_144 : decode cX10_init 144 = .ok (.istore_n 1, 1) := by decide +kernel
theorem dX10_init_145 : decode cX10_init 145 = .ok (.iload_n 1, 1) := by decide +kernel
theorem dX10_init_146 : decode cX10_init 146 = .ok (.bipush 60, 2) := by decide +kernel
theorem dX10_init_148 : decode cX10_init 148 = .ok (.if_icmp .ge 26, 3) := by decide +kernel
theorem dX10_init_151 : decode cX10_init 151 = .ok (.aload_n 0, 1) := by decide +kernel
theorem dX10_init_152 : decode cX10_init 152 = .ok (.getfield 26, 3) := by decide +kernel
theorem dX10_init_155 : decode cX10_init 155 = .ok (.new 68, 3) := by decide +kernel
theorem dX10_init_158 : decode cX10_init 158 = .ok (.dup, 1) := by decide +kernel
theorem dX10_init_159 : decode cX10_init 159 = .ok (.invokespecial 70, 3) := by decide +kernel
theorem dX10_init_162 : decode cX10_init 162 = .ok (.invokeinterface 71 2, 5) := by decide +kernel
theorem dX10_init_167 : decode cX10_init 167 = .ok (.pop, 1) := by decide +kernel
theorem dX10_init_168 : decode cX10_init 168 = .ok (.iinc 1 1, 3) := by decide +kernel
theorem dX10_init_171 : decode cX10_init 171 = .ok (.goto (-26), 3) := by decide +kernel
theorem dX10_init_174 : decode cX10_init 174 = .ok (.return_, 1) := by decide +kernel
theorem dX10_camera_0 : decode cX10_camera 0 = .ok (.iload_n 1, 1) := by decide +kernel
theorem dX10_camera_1 : decode cX10_camera 1 = .ok (.iload_n 2, 1) := by decide +kernel
theorem dX10_camera_2 : decode cX10_camera 2 = .ok (.invokestatic 77, 3) := by decide +kernel
theorem dX10_camera_5 : decode cX10_camera 5 = .ok (.iload_n 3, 1) := by decide +kernel
theorem dX10_camera_6 : decode cX10_camera 6 = .ok (.bipush (-99), 2) := by decide +kernel
theorem dX10_camera_8 : decode cX10_camera 8 = .ok (.bipush 99, 2) := by decide +kernel
theorem dX10_camera_10 : decode cX10_camera 10 = .ok (.invokestatic 81, 3) := by decide +kernel
theorem dX10_camera_13 : decode cX10_camera 13 = .ok (.aload_n 0, 1) := by decide +kernel
theorem dX10_camera_14 : decode cX10_camera 14 = .ok (.getfield 10, 3) := by decide +kernel
theorem dX10_camera_17 : decode cX10_camera 17 = .ok (.invokeinterface 85 1, 5) := by decide +kernel
theorem dX10_camera_22 : decode cX10_camera 22 = .ok (.bipush 10, 2) := by decide +kernel
theorem dX10_camera_24 : decode cX10_camera 24 = .ok (.if_icmp .lt 13, 3) := by decide +kernel
theorem dX10_camera_27 : decode cX10_camera 27 = .ok (.new 89, 3) := by decide +kernel
theorem dX10_camera_30 : decode cX10_camera 30 = .ok (.dup, 1) := by decide +kernel
theorem dX10_camera_31 : decode cX10_camera 31 = .ok (.ldc 91, 2) := by decide +kernel
theorem dX10_camera_33 : decode cX10_camera 33 = .ok (.invokespecial 93, 3) := by decide +kernel
theorem dX10_camera_36 : decode cX10_camera 36 = .ok (.athrow, 1) := by decide +kernel
theorem dX10_camera_37 : decode cX10_camera 37 = .ok (.aload_n 0, 1) := by decide +kernel
theorem dX10_camera_38 : decode cX10_camera 38 = .ok (.getfield 10, 3) := by decide +kernel
theorem dX10_camera_41 : decode cX10_camera 41 = .ok (.new 96, 3) := by decide +kernel
theorem dX10_camera_44 : decode cX10_camera 44 = .ok (.dup, 1) := by decide +kernel
theorem dX10_camera_45 : decode cX10_camera 45 = .ok (.iload_n 1, 1) := by decide +kernel
theorem dX10_camera_46 : decode cX10_camera 46 = .ok (.iload_n 2, 1) := by decide +kernel
theorem dX10_camera_47 : decode cX10_camera 47 = .ok (.iload_n 3, 1) := by decide +kernel
theorem dX10_camera_48 : decode cX10_camera 48 = .ok (.invokespecial 98, 3) := by decide +kernel
theorem dX10_camera_51 : decode cX10_camera 51 = .ok (.invokeinterface 71 2, 5) := by decide +kernel
theorem dX10_camera_56 : decode cX10_camera 56 = .ok (.pop, 1) := by decide +kernel
theorem dX10_camera_57 : decode cX10_camera 57 = .ok (.aload_n 0, 1) := by decide +kernel
theorem dX10_camera_58 : decode cX10_camera 58 = .ok (.getfield 10, 3) := by decide +kernel
theorem dX10_camera_61 : decode cX10_camera 61 = .ok (.invokeinterface 85 1, 5) := by decide +kernel
theorem dX10_camera_66 : decode cX10_camera 66 = .ok (.iconst 1, 1) := by decide +kernel
theorem dX10_camera_67 : decode cX10_camera 67 = .ok (.isub, 1) := by decide +kernel
theorem dX10_camera_68 : decode cX10_camera 68 = .ok (.ireturn, 1) := by decide +kernel
theorem dX10_clock_0 : decode cX10_clock 0 = .ok (.aload_n 0, 1) := by decide +kernel
theorem dX10_clock_1 : decode cX10_clock 1 = .ok (.iload_n 1, 1) := by decide +kernel
theorem dX10_clock_2 : decode cX10_clock 2 = .ok (.invokevirtual 100, 3) := by decide +kernel
theorem dX10_clock_5 : decode cX10_clock 5 = .ok (.astore_n 3, 1) := by decide +kernel
theorem dX10_clock_6 : decode cX10_clock 6 = .ok (.iload_n 2, 1) := by decide +kernel
theorem dX10_clock_7 : decode cX10_clock 7 = .ok (.bipush (-99), 2) := by decide +kernel
theorem dX10_clock_9 : decode cX10_clock 9 = .ok (.bipush 99, 2) := by decide +kernel
theorem dX10_clock_11 : decode cX10_clock 11 = .ok (.invokestatic 81, 3) := by decide +kernel
theorem dX10_clock_14 : decode cX10_clock 14 = .ok (.aload_n 3, 1) := by decide +kernel
theorem dX10_clock_15 : decode cX10_clock 15 = .ok (.getfield 104, 3) := by decide +kernel
theorem dX10_clock_18 : decode cX10_clock 18 = .ok (.istore 4, 2) := by decide +kernel
theorem dX10_clock_20 : decode cX10_clock 20 = .ok (.aload_n 3, 1) := by decide +kernel
theorem dX10_clock_21 : decode cX10_clock 21 = .ok (.iload_n 2, 1) := by decide +kernel
theorem dX10_clock_22 : decode cX10_clock 22 = .ok (.putfield 104, 3) := by decide +kernel
theorem dX10_clock_25 : decode cX10_clock 25 = .ok (.aload_n 0, 1) := by decide +kernel
theorem dX10_clock_26 : decode cX10_clock 26 = .ok (.invokevirtual 108, 3) := by decide +kernel
theorem dX10_clock_29 : decode cX10_clock 29 = .ok (.iload 4, 2) := by decide +kernel
theorem dX10_clock_31 : decode cX10_clock 31 = .ok (.ireturn, 1) := by decide +kernel
theorem dX10_begin_0 : decode cX10_begin 0 = .ok (.aload_n 0, 1) := by decide +kernel
theorem dX10_begin_1 : decode cX10_begin 1 = .ok (.iload_n 1, 1) := by decide +kernel
theorem dX10_begin_2 : decode cX10_begin 2 = .ok (.invokevirtual 100, 3) := by decide +kernel
theorem dX10_begin_5 : decode cX10_begin 5 = .ok (.astore 6, 2) := by decide +kernel
theorem dX10_begin_7 : decode cX10_begin 7 = .ok (.iload_n 2, 1) := by decide +kernel
theorem dX10_begin_8 : decode cX10_begin 8 = .ok (.invokestatic 111, 3) := by decide +kernel
theorem dX10_begin_11 : decode cX10_begin 11 = .ok (.iload_n 3, 1) := by decide +kernel
theorem dX10_begin_12 : decode cX10_begin 12 = .ok (.iconst 0, 1) := by decide +kernel
theorem dX10_begin_13 : decode cX10_begin 13 = .ok (.ldc 137, 2) := by decide +kernel
theorem dX10_begin_15 : decode cX10_begin 15 = .ok (.invokestatic 81, 3) := by decide +kernel
theorem dX10_begin_18 : decode cX10_begin 18 = .ok (.iload 4, 2) := by decide +kernel
theorem dX10_begin_20 : decode cX10_begin 20 = .ok (.iconst 1, 1) := by decide +kernel
theorem dX10_begin_21 : decode cX10_begin 21 = .ok (.bipush 60, 2) := by decide +kernel
theorem dX10_begin_23 : decode cX10_begin 23 = .ok (.invokestatic 81, 3) := by decide +kernel
theorem dX10_begin_26 : decode cX10_begin 26 = .ok (.iload 5, 2) := by decide +kernel
theorem dX10_begin_28 : decode cX10_begin 28 = .ok (.iconst 1, 1) := by decide +kernel
theorem dX10_begin_29 : decode cX10_begin 29 = .ok (.sipush 1000, 3) := by decide +kernel
theorem dX10_begin_32 : decode cX10_begin 32 = .ok (.invokestatic 81, 3) := by decide +kernel
theorem dX10_begin_35 : decode cX10_begin 35 = .ok (.aload_n 0, 1) := by decide +kernel
theorem dX10_begin_36 : decode cX10_begin 36 = .ok (.aload 6, 2) := by decide +kernel
theorem dX10_begin_38 : decode cX10_begin 38 = .ok (.iload_n 2, 1) := by decide +kernel
theorem dX10_begin_39 : decode cX10_begin 39 = .ok (.invokevirtual 115, 3) := by decide +kernel
theorem dX10_begin_42 : decode cX10_begin 42 = .ok (.ifCond .eq 13, 3) := by decide +kernel
theorem dX10_begin_45 : decode cX10_begin 45 = .ok (.new 89, 3) := by decide +kernel
theorem dX10_begin_48 : decode cX10_begin 48 = .ok (.dup, 1) := by decide +kernel
theorem dX10_begin_49 : decode cX10_begin 49 = .ok (.ldc 138, 2) := by decide +kernel
theorem dX10_begin_51 : decode cX10_begin 51 = .ok (.invokespecial 93, 3) := by decide +kernel
theorem dX10_begin_54 : decode cX10_begin 54 = .ok (.athrow, 1) := by decide +kernel
theorem dX10_begin_55 : decode cX10_begin 55 = .ok (.aload_n 0, 1) := by decide +kernel
theorem dX10_begin_56 : decode cX10_begin 56 = .ok (.new 140, 3) := by decide +kernel
theorem dX10_begin_59 : decode cX10_begin 59 = .ok (.dup, 1) := by decide +kernel
theorem dX10_begin_60 : decode cX10_begin 60 = .ok (.aload 6, 2) := by decide +kernel
theorem dX10_begin_62 : decode cX10_begin 62 = .ok (.iload_n 2, 1) := by decide +kernel
theorem dX10_begin_63 : decode cX10_begin 63 = .ok (.iload_n 3, 1) := by decide +kernel
theorem dX10_begin_64 : decode cX10_begin 64 = .ok (.iload 4, 2) := by decide +kernel
theorem dX10_begin_66 : decode cX10_begin 66 = .ok (.iload 5, 2) := by decide +kernel
theorem dX10_begin_68 : decode cX10_begin 68 = .ok (.invokespecial 142, 3) := by decide +kernel
theorem dX10_begin_71 : decode cX10_begin 71 = .ok (.putfield 22, 3) := by decide +kernel
theorem dX10_begin_74 : decode cX10_begin 74 = .ok (.return_, 1) := by decide +kernel
theorem dX10_end_0 : decode cX10_end 0 = .ok (.iload_n 1, 1) := by decide +kernel
theorem dX10_end_1 : decode cX10_end 1 = .ok (.iload_n 2, 1) := by decide +kernel
theorem dX10_end_2 : decode cX10_end 2 = .ok (.invokestatic 145, 3) := by decide +kernel
theorem dX10_end_5 : decode cX10_end 5 = .ok (.iload_n 3, 1) := by decide +kernel
theorem dX10_end_6 : decode cX10_end 6 = .ok (.iload 4, 2) := by decide +kernel
theorem dX10_end_8 : decode cX10_end 8 = .ok (.invokestatic 145, 3) := by decide +kernel
theorem dX10_end_11 : decode cX10_end 11 = .ok (.aload_n 0, 1) := by decide +kernel
theorem dX10_end_12 : decode cX10_end 12 = .ok (.getfield 22, 3) := by decide +kernel
theorem dX10_end_15 : decode cX10_end 15 = .ok (.astore 5, 2) := by decide +kernel
theorem dX10_end_17 : decode cX10_end 17 = .ok (.aload 5, 2) := by decide +kernel
theorem dX10_end_19 : decode cX10_end 19 = .ok (.ifnonnull 13, 3) := by decide +kernel
theorem dX10_end_22 : decode cX10_end 22 = .ok (.new 89, 3) := by decide +kernel
theorem dX10_end_25 : decode cX10_end 25 = .ok (.dup, 1) := by decide +kernel
theorem dX10_end_26 : decode cX10_end 26 = .ok (.ldc 148, 2) := by decide +kernel
theorem dX10_end_28 : decode cX10_end 28 = .ok (.invokespecial 93, 3) := by decide +kernel
theorem dX10_end_31 : decode cX10_end 31 = .ok (.athrow, 1) := by decide +kernel
theorem dX10_end_32 : decode cX10_end 32 = .ok (.aload_n 0, 1) := by decide +kernel
theorem dX10_end_33 : decode cX10_end 33 = .ok (.aload 5, 2) := by decide +kernel
theorem dX10_end_35 : decode cX10_end 35 = .ok (.getfield 150, 3) := by decide +kernel
theorem dX10_end_38 : decode cX10_end 38 = .ok (.aload 5, 2) := by decide +kernel
theorem dX10_end_40 : decode cX10_end 40 = .ok (.getfield 154, 3) := by decide +kernel
theorem dX10_end_43 : decode cX10_end 43 = .ok (.invokevirtual 115, 3) := by decide +kernel
theorem dX10_end_46 : decode cX10_end 46 = .ok (.ifCond .eq 13, 3) := by decide +kernel
theorem dX10_end_49 : decode cX10_end 49 = .ok (.new 89, 3) := by decide +kernel
theorem dX10_end_52 : decode cX10_end 52 = .ok (.dup, 1) := by decide +kernel
theorem dX10_end_53 : decode cX10_end 53 = .ok (.ldc 157, 2) := by decide +kernel
theorem dX10_end_55 : decode cX10_end 55 = .ok (.invokespecial 93, 3) := by decide +kernel
theorem dX10_end_58 : decode cX10_end 58 = .ok (.athrow, 1) := by decide +kernel
theorem dX10_end_59 : decode cX10_end 59 = .ok (.aload_n 0, 1) := by decide +kernel
theorem dX10_end_60 : decode cX10_end 60 = .ok (.getfield 19, 3) := by decide +kernel
theorem dX10_end_63 : decode cX10_end 63 = .ok (.invokeinterface 85 1, 5) := by decide +kernel
theorem dX10_end_68 : decode cX10_end 68 = .ok (.bipush 60, 2) := by decide +kernel
theorem dX10_end_70 : decode cX10_end 70 = .ok (.if_icmp .lt 13, 3) := by decide +kernel
theorem dX10_end_73 : decode cX10_end 73 = .ok (.new 89, 3) := by decide +kernel
theorem dX10_end_76 : decode cX10_end 76 = .ok (.dup, 1) := by decide +kernel
theorem dX10_end_77 : decode cX10_end 77 = .ok (.ldc 159, 2) := by decide +kernel
theorem dX10_end_79 : decode cX10_end 79 = .ok (.invokespecial 93, 3) := by decide +kernel
theorem dX10_end_82 : decode cX10_end 82 = .ok (.athrow, 1) := by decide +kernel
theorem dX10_end_83 : decode cX10_end 83 = .ok (.aload 5, 2) := by decide +kernel
theorem dX10_end_85 : decode cX10_end 85 = .ok (.iload_n 1, 1) := by decide +kernel
theorem dX10_end_86 : decode cX10_end 86 = .ok (.putfield 161, 3) := by decide +kernel
theorem dX10_end_89 : decode cX10_end 89 = .ok (.aload 5, 2) := by decide +kernel
theorem dX10_end_91 : decode cX10_end 91 = .ok (.iload_n 2, 1) := by decide +kernel
theorem dX10_end_92 : decode cX10_end 92 = .ok (.putfield 164, 3) := by decide +kernel
theorem dX10_end_95 : decode cX10_end 95 = .ok (.aload 5, 2) := by decide +kernel
theorem dX10_end_97 : decode cX10_end 97 = .ok (.iload_n 3, 1) := by decide +kernel
theorem dX10_end_98 : decode cX10_end 98 = .ok (.putfield 167, 3) := by decide +kernel
theorem dX10_end_101 : decode cX10_end 101 = .ok (.aload 5, 2) := by decide +kernel
theorem dX10_end_103 : decode cX10_end 103 = .ok (.iload 4, 2) := by decide +kernel
theorem dX10_end_105 : decode cX10_end 105 = .ok (.putfield 170, 3) := by decide +kernel
theorem dX10_end_108 : decode cX10_end 108 = .ok (.aload_n 0, 1) := by decide +kernel
theorem dX10_end_109 : decode cX10_end 109 = .ok (.getfield 19, 3) := by decide +kernel
theorem dX10_end_112 : decode cX10_end 112 = .ok (.aload 5, 2) := by decide +kernel
theorem dX10_end_114 : decode cX10_end 114 = .ok (.invokeinterface 71 2, 5) := by decide +kernel
theorem dX10_end_119 : decode cX10_end 119 = .ok (.pop, 1) := by decide +kernel
theorem dX10_end_120 : decode cX10_end 120 = .ok (.aload_n 0, 1) := by decide +kernel
theorem dX10_end_121 : decode cX10_end 121 = .ok (.aconst_null, 1) := by decide +kernel
theorem dX10_end_122 : decode cX10_end 122 = .ok (.putfield 22, 3) := by decide +kernel
theorem dX10_end_125 : decode cX10_end 125 = .ok (.aload_n 0, 1) := by decide +kernel
theorem dX10_end_126 : decode cX10_end 126 = .ok (.invokevirtual 108, 3) := by decide +kernel
theorem dX10_end_129 : decode cX10_end 129 = .ok (.aload_n 0, 1) := by decide +kernel
theorem dX10_end_130 : decode cX10_end 130 = .ok (.getfield 19, 3) := by decide +kernel
theorem dX10_end_133 : decode cX10_end 133 = .ok (.invokeinterface 85 1, 5) := by decide +kernel
theorem dX10_end_138 : decode cX10_end 138 = .ok (.iconst 1, 1) := by decide +kernel
theorem dX10_end_139 : decode cX10_end 139 = .ok (.isub, 1) := by decide +kernel
theorem dX10_end_140 : decode cX10_end 140 = .ok (.ireturn, 1) := by decide +kernel
theorem dX10_fireball_0 : decode cX10_fireball 0 = .ok (.aload_n 0, 1) := by decide +kernel
theorem dX10_fireball_1 : decode cX10_fireball 1 = .ok (.iload_n 1, 1) := by decide +kernel
theorem dX10_fireball_2 : decode cX10_fireball 2 = .ok (.invokevirtual 173, 3) := by decide +kernel
theorem dX10_fireball_5 : decode cX10_fireball 5 = .ok (.getfield 177, 3) := by decide +kernel
theorem dX10_fireball_8 : decode cX10_fireball 8 = .ok (.ireturn, 1) := by decide +kernel
theorem dX10_fireballAnew_0 : decode cX10_fireballAnew 0 = .ok (.aload_n 0, 1) := by decide +kernel
theorem dX10_fireballAnew_1 : decode cX10_fireballAnew 1 = .ok (.iload_n 1, 1) := by decide +kernel
theorem dX10_fireballAnew_2 : decode cX10_fireballAnew 2 = .ok (.invokevirtual 173, 3) := by decide +kernel
theorem dX10_fireballAnew_5 : decode cX10_fireballAnew 5 = .ok (.astore_n 2, 1) := by decide +kernel
theorem dX10_fireballAnew_6 : decode cX10_fireballAnew 6 = .ok (.aload_n 2, 1) := by decide +kernel
theorem dX10_fireballAnew_7 : decode cX10_fireballAnew 7 = .ok (.getfield 180, 3) := by decide +kernel
theorem dX10_fireballAnew_10 : decode cX10_fireballAnew 10 = .ok (.lconst 0, 1) := by decide +kernel
theorem dX10_fireballAnew_11 : decode cX10_fireballAnew 11 = .ok (.lcmp, 1) := by decide +kernel
theorem dX10_fireballAnew_12 : decode cX10_fireballAnew 12 = .ok (.ifCond .ne 5, 3) := by decide +kernel
theorem dX10_fireballAnew_15 : decode cX10_fireballAnew 15 = .ok (.iconst (-1), 1) := by decide +kernel
theorem dX10_fireballAnew_16 : decode cX10_fireballAnew 16 = .ok (.ireturn, 1) := by decide +kernel
theorem dX10_fireballAnew_17 : decode cX10_fireballAnew 17 = .ok (.iconst 0, 1) := by decide +kernel
theorem dX10_fireballAnew_18 : decode cX10_fireballAnew 18 = .ok (.istore_n 3, 1) := by decide +kernel
theorem dX10_fireballAnew_19 : decode cX10_fireballAnew 19 = .ok (.iload_n 3, 1) := by decide +kernel
theorem dX10_fireballAnew_20 : decode cX10_fireballAnew 20 = .ok (.aload_n 0, 1) := by decide +kernel
theorem dX10_fireballAnew_21 : decode cX10_fireballAnew 21 = .ok (.getfield 19, 3) := by decide +kernel
theorem dX10_fireballAnew_24 : decode cX10_fireballAnew 24 = .ok (.invokeinterface 85 1, 5) := by decide +kernel
theorem dX10_fireballAnew_29 : decode cX10_fireballAnew 29 = .ok (.if_icmp .ge 26, 3) := by decide +kernel
theorem dX10_fireballAnew_32 : decode cX10_fireballAnew 32 = .ok (.aload_n 0, 1) := by decide +kernel
theorem dX10_fireballAnew_33 : decode cX10_fireballAnew 33 = .ok (.getfield 19, 3) := by decide +kernel
theorem dX10_fireballAnew_36 : decode cX10_fireballAnew 36 = .ok (.iload_n 3, 1) := by decide +kernel
theorem dX10_fireballAnew_37 : decode cX10_fireballAnew 37 = .ok (.invokeinterface 184 2, 5) := by decide +kernel
theorem dX10_fireballAnew_42 : decode cX10_fireballAnew 42 = .ok (.checkcast 140, 3) := by decide +kernel
theorem dX10_fireballAnew_45 : decode cX10_fireballAnew 45 = .ok (.iload_n 3, 1) := by decide +kernel
theorem dX10_fireballAnew_46 : decode cX10_fireballAnew 46 = .ok (.putfield 188, 3) := by decide +kernel
theorem dX10_fireballAnew_49 : decode cX10_fireballAnew 49 = .ok (.iinc 3 1, 3) := by decide +kernel
theorem dX10_fireballAnew_52 : decode cX10_fireballAnew 52 = .ok (.goto (-33), 3) := by decide +kernel
theorem dX10_fireballAnew_55 : decode cX10_fireballAnew 55 = .ok (.iconst 1, 1) := by decide +kernel
theorem dX10_fireballAnew_56 : decode cX10_fireballAnew 56 = .ok (.istore_n 3, 1) := by decide +kernel
theorem dX10_fireballAnew_57 : decode cX10_fireballAnew 57 = .ok (.iconst 0, 1) := by decide +kernel
theorem dX10_fireballAnew_58 : decode cX10_fireballAnew 58 = .ok (.istore 4, 2) := by decide +kernel
theorem dX10_fireballAnew_60 : decode cX10_fireballAnew 60 = .ok (.iload_n 3, 1) := by decide +kernel
theorem dX10_fireballAnew_61 : decode cX10_fireballAnew 61 = .ok (.ifCond .eq 28, 3) := by decide +kernel
theorem dX10_fireballAnew_64 : decode cX10_fireballAnew 64 = .ok (.iload 4, 2) := by decide +kernel
theorem dX10_fireballAnew_66 : decode cX10_fireballAnew 66 = .ok (.aload_n 0, 1) := by decide +kernel
theorem dX10_fireballAnew_67 : decode cX10_fireballAnew 67 = .ok (.getfield 19, 3) := by decide +kernel
theorem dX10_fireballAnew_70 : decode cX10_fireballAnew 70 = .ok (.invokeinterface 85 1, 5) := by decide +kernel
theorem dX10_fireballAnew_75 : decode cX10_fireballAnew 75 = .ok (.if_icmp .ge 14, 3) := by decide +kernel
theorem dX10_fireballAnew_78 : decode cX10_fireballAnew 78 = .ok (.aload_n 0, 1) := by decide +kernel
theorem dX10_fireballAnew_79 : decode cX10_fireballAnew 79 = .ok (.invokevirtual 191, 3) := by decide +kernel
theorem dX10_fireballAnew_82 : decode cX10_fireballAnew 82 = .ok (.istore_n 3, 1) := by decide +kernel
theorem dX10_fireballAnew_83 : decode cX10_fireballAnew 83 = .ok (.iinc 4 1, 3) := by decide +kernel
theorem dX10_fireballAnew_86 : decode cX10_fireballAnew 86 = .ok (.goto (-26), 3) := by decide +kernel
theorem dX10_fireballAnew_89 : decode cX10_fireballAnew 89 = .ok (.aload_n 2, 1) := by decide +kernel
theorem dX10_fireballAnew_90 : decode cX10_fireballAnew 90 = .ok (.getfield 188, 3) := by decide +kernel
theorem dX10_fireballAnew_93 : decode cX10_fireballAnew 93 = .ok (.ireturn, 1) := by decide +kernel
theorem dX10_fireballs_0 : decode cX10_fireballs 0 = .ok (.iload_n 1, 1) := by decide +kernel
theorem dX10_fireballs_1 : decode cX10_fireballs 1 = .ok (.invokestatic 111, 3) := by decide +kernel
theorem dX10_fireballs_4 : decode cX10_fireballs 4 = .ok (.aload_n 0, 1) := by decide +kernel
theorem dX10_fireballs_5 : decode cX10_fireballs 5 = .ok (.iload_n 1, 1) := by decide +kernel
theorem dX10_fireballs_6 : decode cX10_fireballs 6 = .ok (.iload_n 1, 1) := by decide +kernel
theorem dX10_fireballs_7 : decode cX10_fireballs 7 = .ok (.iconst 0, 1) := by decide +kernel
theorem dX10_fireballs_8 : decode cX10_fireballs 8 = .ok (.invokevirtual 195, 3) := by decide +kernel
theorem dX10_fireballs_11 : decode cX10_fireballs 11 = .ok (.ireturn, 1) := by decide +kernel
theorem dX10_told_0 : decode cX10_told 0 = .ok (.aload_n 0, 1) := by decide +kernel
theorem dX10_told_1 : decode cX10_told 1 = .ok (.iload_n 1, 1) := by decide +kernel
theorem dX10_told_2 : decode cX10_told 2 = .ok (.invokevirtual 199, 3) := by decide +kernel
theorem dX10_told_5 : decode cX10_told 5 = .ok (.astore_n 3, 1) := by decide +kernel
theorem dX10_told_6 : decode cX10_told 6 = .ok (.iload_n 2, 1) := by decide +kernel
theorem dX10_told_7 : decode cX10_told 7 = .ok (.iconst 0, 1) := by decide +kernel
theorem dX10_told_8 : decode cX10_told 8 = .ok (.bipush 7, 2) := by decide +kernel
theorem dX10_told_10 : decode cX10_told 10 = .ok (.invokestatic 81, 3) := by decide +kernel
theorem dX10_told_13 : decode cX10_told 13 = .ok (.aload_n 3, 1) := by decide +kernel
theorem dX10_told_14 : decode cX10_told 14 = .ok (.iload_n 2, 1) := by decide +kernel
theorem dX10_told_15 : decode cX10_told 15 = .ok (.invokevirtual 203, 3) := by decide +kernel
theorem dX10_told_18 : decode cX10_told 18 = .ok (.lreturn, 1) := by decide +kernel
theorem dX10_wind_0 : decode cX10_wind 0 = .ok (.iload_n 1, 1) := by decide +kernel
theorem dX10_wind_1 : decode cX10_wind 1 = .ok (.invokestatic 111, 3) := by decide +kernel
theorem dX10_wind_4 : decode cX10_wind 4 = .ok (.iload_n 2, 1) := by decide +kernel
theorem dX10_wind_5 : decode cX10_wind 5 = .ok (.bipush (-20), 2) := by decide +kernel
theorem dX10_wind_7 : decode cX10_wind 7 = .ok (.bipush 20, 2) := by decide +kernel
theorem dX10_wind_9 : decode cX10_wind 9 = .ok (.invokestatic 81, 3) := by decide +kernel
theorem dX10_wind_12 : decode cX10_wind 12 = .ok (.iload_n 3, 1) := by decide +kernel
theorem dX10_wind_13 : decode cX10_wind 13 = .ok (.bipush (-20), 2) := by decide +kernel
theorem dX10_wind_15 : decode cX10_wind 15 = .ok (.bipush 20, 2) := by decide +kernel
theorem dX10_wind_17 : decode cX10_wind 17 = .ok (.invokestatic 81, 3) := by decide +kernel
theorem dX10_wind_20 : decode cX10_wind 20 = .ok (.aload_n 0, 1) := by decide +kernel
theorem dX10_wind_21 : decode cX10_wind 21 = .ok (.iload_n 1, 1) := by decide +kernel
theorem dX10_wind_22 : decode cX10_wind 22 = .ok (.invokevirtual 215, 3) := by decide +kernel
theorem dX10_wind_25 : decode cX10_wind 25 = .ok (.astore 4, 2) := by decide +kernel
theorem dX10_wind_27 : decode cX10_wind 27 = .ok (.aload 4, 2) := by decide +kernel
theorem dX10_wind_29 : decode cX10_wind 29 = .ok (.ifnonnull 49, 3) := by decide +kernel
theorem dX10_wind_32 : decode cX10_wind 32 = .ok (.aload_n 0, 1) := by decide +kernel
theorem dX10_wind_33 : decode cX10_wind 33 = .ok (.getfield 39, 3) := by decide +kernel
theorem dX10_wind_36 : decode cX10_wind 36 = .ok (.invokeinterface 85 1, 5) := by decide +kernel
theorem dX10_wind_41 : decode cX10_wind 41 = .ok (.bipush 50, 2) := by decide +kernel
theorem dX10_wind_43 : decode cX10_wind 43 = .ok (.if_icmp .lt 13, 3) := by decide +kernel
theorem dX10_wind_46 : decode cX10_wind 46 = .ok (.new 89, 3) := by decide +kernel
theorem dX10_wind_49 : decode cX10_wind 49 = .ok (.dup, 1) := by decide +kernel
theorem dX10_wind_50 : decode cX10_wind 50 = .ok (.ldc 219, 2) := by decide +kernel
theorem dX10_wind_52 : decode cX10_wind 52 = .ok (.invokespecial 93, 3) := by decide +kernel
theorem dX10_wind_55 : decode cX10_wind 55 = .ok (.athrow, 1) := by decide +kernel
theorem dX10_wind_56 : decode cX10_wind 56 = .ok (.new 221, 3) := by decide +kernel
theorem dX10_wind_59 : decode cX10_wind 59 = .ok (.dup, 1) := by decide +kernel
theorem dX10_wind_60 : decode cX10_wind 60 = .ok (.iload_n 1, 1) := by decide +kernel
theorem dX10_wind_61 : decode cX10_wind 61 = .ok (.invokespecial 223, 3) := by decide +kernel
theorem dX10_wind_64 : decode cX10_wind 64 = .ok (.astore 4, 2) := by decide +kernel
theorem dX10_wind_66 : decode cX10_wind 66 = .ok (.aload_n 0, 1) := by decide +kernel
theorem dX10_wind_67 : decode cX10_wind 67 = .ok (.getfield 39, 3) := by decide +kernel
theorem dX10_wind_70 : decode cX10_wind 70 = .ok (.aload 4, 2) := by decide +kernel
theorem dX10_wind_72 : decode cX10_wind 72 = .ok (.invokeinterface 71 2, 5) := by decide +kernel
theorem dX10_wind_77 : decode cX10_wind 77 = .ok (.pop, 1) := by decide +kernel
theorem dX10_wind_78 : decode cX10_wind 78 = .ok (.aload 4, 2) := by decide +kernel
theorem dX10_wind_80 : decode cX10_wind 80 = .ok (.iload_n 2, 1) := by decide +kernel
theorem dX10_wind_81 : decode cX10_wind 81 = .ok (.putfield 225, 3) := by decide +kernel
theorem dX10_wind_84 : decode cX10_wind 84 = .ok (.aload 4, 2) := by decide +kernel
theorem dX10_wind_86 : decode cX10_wind 86 = .ok (.iload_n 3, 1) := by decide +kernel
theorem dX10_wind_87 : decode cX10_wind 87 = .ok (.putfield 228, 3) := by decide +kernel
theorem dX10_wind_90 : decode cX10_wind 90 = .ok (.return_, 1) := by decide +kernel
theorem dX10_walk_0 : decode cX10_walk 0 = .ok (.aload_n 0, 1) := by decide +kernel
theorem dX10_walk_1 : decode cX10_walk 1 = .ok (.iload_n 1, 1) := by decide +kernel
theorem dX10_walk_2 : decode cX10_walk 2 = .ok (.invokevirtual 199, 3) := by decide +kernel
theorem dX10_walk_5 : decode cX10_walk 5 = .ok (.astore 5, 2) := by decide +kernel
theorem dX10_walk_7 : decode cX10_walk 7 = .ok (.iload_n 2, 1) := by decide +kernel
theorem dX10_walk_8 : decode cX10_walk 8 = .ok (.iload_n 3, 1) := by decide +kernel
theorem dX10_walk_9 : decode cX10_walk 9 = .ok (.invokestatic 77, 3) := by decide +kernel
theorem dX10_walk_12 : decode cX10_walk 12 = .ok (.iload 4, 2) := by decide +kernel
theorem dX10_walk_14 : decode cX10_walk 14 = .ok (.iconst 1, 1) := by decide +kernel
theorem dX10_walk_15 : decode cX10_walk 15 = .ok (.bipush 100, 2) := by decide +kernel
theorem dX10_walk_17 : decode cX10_walk 17 = .ok (.invokestatic 81, 3) := by decide +kernel
theorem dX10_walk_20 : decode cX10_walk 20 = .ok (.aload_n 0, 1) := by decide +kernel
theorem dX10_walk_21 : decode cX10_walk 21 = .ok (.getfield 42, 3) := by decide +kernel
theorem dX10_walk_24 : decode cX10_walk 24 = .ok (.invokeinterface 85 1, 5) := by decide +kernel
theorem dX10_walk_29 : decode cX10_walk 29 = .ok (.bipush 60, 2) := by decide +kernel
theorem dX10_walk_31 : decode cX10_walk 31 = .ok (.if_icmp .lt 13, 3) := by decide +kernel
theorem dX10_walk_34 : decode cX10_walk 34 = .ok (.new 89, 3) := by decide +kernel
theorem dX10_walk_37 : decode cX10_walk 37 = .ok (.dup, 1) := by decide +kernel
theorem dX10_walk_38 : decode cX10_walk 38 = .ok (.ldc 231, 2) := by decide +kernel
theorem dX10_walk_40 : decode cX10_walk 40 = .ok (.invokespecial 93, 3) := by decide +kernel
theorem dX10_walk_43 : decode cX10_walk 43 = .ok (.athrow, 1) := by decide +kernel
theorem dX10_walk_44 : decode cX10_walk 44 = .ok (.aload_n 0, 1) := by decide +kernel
theorem dX10_walk_45 : decode cX10_walk 45 = .ok (.getfield 42, 3) := by decide +kernel
theorem dX10_walk_48 : decode cX10_walk 48 = .ok (.new 233, 3) := by decide +kernel
theorem dX10_walk_51 : decode cX10_walk 51 = .ok (.dup, 1) := by decide +kernel
theorem dX10_walk_52 : decode cX10_walk 52 = .ok (.iload_n 1, 1) := by decide +kernel
theorem dX10_walk_53 : decode cX10_walk 53 = .ok (.iload_n 2, 1) := by decide +kernel
theorem dX10_walk_54 : decode cX10_walk 54 = .ok (.iload_n 3, 1) := by decide +kernel
theorem dX10_walk_55 : decode cX10_walk 55 = .ok (.iload 4, 2) := by decide +kernel
theorem dX10_walk_57 : decode cX10_walk 57 = .ok (.aload_n 0, 1) := by decide +kernel
theorem dX10_walk_58 : decode cX10_walk 58 = .ok (.iload_n 1, 1) := by decide +kernel
theorem dX10_walk_59 : decode cX10_walk 59 = .ok (.iload_n 2, 1) := by decide +kernel
theorem dX10_walk_60 : decode cX10_walk 60 = .ok (.iload_n 3, 1) := by decide +kernel
theorem dX10_walk_61 : decode cX10_walk 61 = .ok (.invokevirtual 235, 3) := by decide +kernel
theorem dX10_walk_64 : decode cX10_walk 64 = .ok (.ifCond .ne 7, 3) := by decide +kernel
theorem dX10_walk_67 : decode cX10_walk 67 = .ok (.iconst 1, 1) := by decide +kernel
theorem dX10_walk_68 : decode cX10_walk 68 = .ok (.goto 4, 3) := by decide +kernel
theorem dX10_walk_71 : decode cX10_walk 71 = .ok (.iconst 0, 1) := by decide +kernel
theorem dX10_walk_72 : decode cX10_walk 72 = .ok (.invokespecial 239, 3) := by decide +kernel
theorem dX10_walk_75 : decode cX10_walk 75 = .ok (.invokeinterface 71 2, 5) := by decide +kernel
theorem dX10_walk_80 : decode cX10_walk 80 = .ok (.pop, 1) := by decide +kernel
theorem dX10_walk_81 : decode cX10_walk 81 = .ok (.aload_n 0, 1) := by decide +kernel
theorem dX10_walk_82 : decode cX10_walk 82 = .ok (.aload 5, 2) := by decide +kernel
theorem dX10_walk_84 : decode cX10_walk 84 = .ok (.iload_n 1, 1) := by decide +kernel
theorem dX10_walk_85 : decode cX10_walk 85 = .ok (.iload_n 2, 1) := by decide +kernel
theorem dX10_walk_86 : decode cX10_walk 86 = .ok (.iload_n 3, 1) := by decide +kernel
theorem dX10_walk_87 : decode cX10_walk 87 = .ok (.invokevirtual 242, 3) := by decide +kernel
theorem dX10_walk_90 : decode cX10_walk 90 = .ok (.lreturn, 1) := by decide +kernel
theorem dX10_chance_0 : decode cX10_chance 0 = .ok (.aload_n 0, 1) := by decide +kernel
theorem dX10_chance_1 : decode cX10_chance 1 = .ok (.iload_n 1, 1) := by decide +kernel
theorem dX10_chance_2 : decode cX10_chance 2 = .ok (.invokevirtual 199, 3) := by decide +kernel
theorem dX10_chance_5 : decode cX10_chance 5 = .ok (.astore 4, 2) := by decide +kernel
theorem dX10_chance_7 : decode cX10_chance 7 = .ok (.iload_n 2, 1) := by decide +kernel
theorem dX10_chance_8 : decode cX10_chance 8 = .ok (.iload_n 3, 1) := by decide +kernel
theorem dX10_chance_9 : decode cX10_chance 9 = .ok (.invokestatic 77, 3) := by decide +kernel
theorem dX10_chance_12 : decode cX10_chance 12 = .ok (.aload_n 0, 1) := by decide +kernel
theorem dX10_chance_13 : decode cX10_chance 13 = .ok (.aload 4, 2) := by decide +kernel
theorem dX10_chance_15 : decode cX10_chance 15 = .ok (.iload_n 1, 1) := by decide +kernel
theorem dX10_chance_16 : decode cX10_chance 16 = .ok (.iload_n 2, 1) := by decide +kernel
theorem dX10_chance_17 : decode cX10_chance 17 = .ok (.iload_n 3, 1) := by decide +kernel
theorem dX10_chance_18 : decode cX10_chance 18 = .ok (.invokevirtual 242, 3) := by decide +kernel
theorem dX10_chance_21 : decode cX10_chance 21 = .ok (.lreturn, 1) := by decide +kernel
theorem dX10_find_0 : decode cX10_find 0 = .ok (.iload_n 1, 1) := by decide +kernel
theorem dX10_find_1 : decode cX10_find 1 = .ok (.iload_n 2, 1) := by decide +kernel
theorem dX10_find_2 : decode cX10_find 2 = .ok (.invokestatic 77, 3) := by decide +kernel
theorem dX10_find_5 : decode cX10_find 5 = .ok (.iload_n 3, 1) := by decide +kernel
theorem dX10_find_6 : decode cX10_find 6 = .ok (.invokestatic 111, 3) := by decide +kernel
theorem dX10_find_9 : decode cX10_find 9 = .ok (.iload 4, 2) := by decide +kernel
theorem dX10_find_11 : decode cX10_find 11 = .ok (.iconst 1, 1) := by decide +kernel
theorem dX10_find_12 : decode cX10_find 12 = .ok (.ldc 246, 2) := by decide +kernel
theorem dX10_find_14 : decode cX10_find 14 = .ok (.invokestatic 81, 3) := by decide +kernel
theorem dX10_find_17 : decode cX10_find 17 = .ok (.iload 5, 2) := by decide +kernel
theorem dX10_find_19 : decode cX10_find 19 = .ok (.iconst 0, 1) := by decide +kernel
theorem dX10_find_20 : decode cX10_find 20 = .ok (.iconst 5, 1) := by decide +kernel
theorem dX10_find_21 : decode cX10_find 21 = .ok (.invokestatic 81, 3) := by decide +kernel
theorem dX10_find_24 : decode cX10_find 24 = .ok (.aload_n 0, 1) := by decide +kernel
theorem dX10_find_25 : decode cX10_find 25 = .ok (.getfield 52, 3) := by decide +kernel
theorem dX10_find_28 : decode cX10_find 28 = .ok (.invokeinterface 85 1, 5) := by decide +kernel
theorem dX10_find_33 : decode cX10_find 33 = .ok (.bipush 40, 2) := by decide +kernel
theorem dX10_find_35 : decode cX10_find 35 = .ok (.if_icmp .lt 13, 3) := by decide +kernel
theorem dX10_find_38 : decode cX10_find 38 = .ok (.new 89, 3) := by decide +kernel
theorem dX10_find_41 : decode cX10_find 41 = .ok (.dup, 1) := by decide +kernel
theorem dX10_find_42 : decode cX10_find 42 = .ok (.ldc 247, 2) := by decide +kernel
theorem dX10_find_44 : decode cX10_find 44 = .ok (.invokespecial 93, 3) := by decide +kernel
theorem dX10_find_47 : decode cX10_find 47 = .ok (.athrow, 1) := by decide +kernel
theorem dX10_find_48 : decode cX10_find 48 = .ok (.iload_n 1, 1) := by decide +kernel
theorem dX10_find_49 : decode cX10_find 49 = .ok (.iload_n 2, 1) := by decide +kernel
theorem dX10_find_50 : decode cX10_find 50 = .ok (.invokestatic 249, 3) := by decide +kernel
theorem dX10_find_53 : decode cX10_find 53 = .ok (.istore 6, 2) := by decide +kernel
theorem dX10_find_55 : decode cX10_find 55 = .ok (.aload_n 0, 1) := by decide +kernel
theorem dX10_find_56 : decode cX10_find 56 = .ok (.iload 6, 2) := by decide +kernel
theorem dX10_find_58 : decode cX10_find 58 = .ok (.invokevirtual 253, 3) := by decide +kernel
theorem dX10_find_61 : decode cX10_find 61 = .ok (.iconst 1, 1) := by decide +kernel
theorem dX10_find_62 : decode cX10_find 62 = .ok (.if_icmp .ne 11, 3) := by decide +kernel
theorem dX10_find_65 : decode cX10_find 65 = .ok (.bipush 10, 2) := by decide +kernel
theorem dX10_find_67 : decode cX10_find 67 = .ok (.iload 6, 2) := by decide +kernel
theorem dX10_find_69 : decode cX10_find 69 = .ok (.iadd, 1) := by decide +kernel
theorem dX10_find_70 : decode cX10_find 70 = .ok (.goto 5, 3) := by decide +kernel
theorem dX10_find_73 : decode cX10_find 73 = .ok (.iload 5, 2) := by decide +kernel
theorem dX10_find_75 : decode cX10_find 75 = .ok (.istore 7, 2) := by decide +kernel
theorem dX10_find_77 : decode cX10_find 77 = .ok (.new 257, 3) := by decide +kernel
theorem dX10_find_80 : decode cX10_find 80 = .ok (.dup, 1) := by decide +kernel
theorem dX10_find_81 : decode cX10_find 81 = .ok (.aload_n 0, 1) := by decide +kernel
theorem dX10_find_82 : decode cX10_find 82 = .ok (.getfield 52, 3) := by decide +kernel
theorem dX10_find_85 : decode cX10_find 85 = .ok (.invokeinterface 85 1, 5) := by decide +kernel
theorem dX10_find_90 : decode cX10_find 90 = .ok (.iload_n 1, 1) := by decide +kernel
theorem dX10_find_91 : decode cX10_find 91 = .ok (.iload_n 2, 1) := by decide +kernel
theorem dX10_find_92 : decode cX10_find 92 = .ok (.iload_n 3, 1) := by decide +kernel
theorem dX10_find_93 : decode cX10_find 93 = .ok (.iload 4, 2) := by decide +kernel
theorem dX10_find_95 : decode cX10_find 95 = .ok (.iload 7, 2) := by decide +kernel
theorem dX10_find_97 : decode cX10_find 97 = .ok (.aconst_null, 1) := by decide +kernel
theorem dX10_find_98 : decode cX10_find 98 = .ok (.invokespecial 259, 3) := by decide +kernel
theorem dX10_find_101 : decode cX10_find 101 = .ok (.astore 8, 2) := by decide +kernel
theorem dX10_find_103 : decode cX10_find 103 = .ok (.aload_n 0, 1) := by decide +kernel
theorem dX10_find_104 : decode cX10_find 104 = .ok (.getfield 52, 3) := by decide +kernel
theorem dX10_find_107 : decode cX10_find 107 = .ok (.aload 8, 2) := by decide +kernel
theorem dX10_find_109 : decode cX10_find 109 = .ok (.invokeinterface 71 2, 5) := by decide +kernel
theorem dX10_find_114 : decode cX10_find 114 = .ok (.pop, 1) := by decide +kernel
theorem dX10_find_115 : decode cX10_find 115 = .ok (.aload 8, 2) := by decide +kernel
theorem dX10_find_117 : decode cX10_find 117 = .ok (.getfield 262, 3) := by decide +kernel
theorem dX10_find_120 : decode cX10_find 120 = .ok (.ireturn, 1) := by decide +kernel
theorem dX10_fall_0 : decode cX10_fall 0 = .ok (.aload_n 0, 1) := by decide +kernel
theorem dX10_fall_1 : decode cX10_fall 1 = .ok (.aload_n 0, 1) := by decide +kernel
theorem dX10_fall_2 : decode cX10_fall 2 = .ok (.iload_n 1, 1) := by decide +kernel
theorem dX10_fall_3 : decode cX10_fall 3 = .ok (.invokevirtual 264, 3) := by decide +kernel
theorem dX10_fall_6 : decode cX10_fall 6 = .ok (.invokevirtual 268, 3) := by decide +kernel
theorem dX10_fall_9 : decode cX10_fall 9 = .ok (.ireturn, 1) := by decide +kernel
theorem dX10_requireRange_0 : decode cX10_requireRange 0 = .ok (.iload_n 0, 1) := by decide +kernel
theorem dX10_requireRange_1 : decode cX10_requireRange 1 = .ok (.iload_n 1, 1) := by decide +kernel
theorem dX10_requireRange_2 : decode cX10_requireRange 2 = .ok (.if_icmp .lt 8, 3) := by decide +kernel
theorem dX10_requireRange_5 : decode cX10_requireRange 5 = .ok (.iload_n 0, 1) := by decide +kernel
theorem dX10_requireRange_6 : decode cX10_requireRange 6 = .ok (.iload_n 2, 1) := by decide +kernel
theorem dX10_requireRange_7 : decode cX10_requireRange 7 = .ok (.if_icmp .le 14, 3) := by decide +kernel
theorem dX10_requireRange_10 : decode cX10_requireRange 10 = .ok (.new 287, 3) := by decide +kernel
theorem dX10_requireRange_13 : decode cX10_requireRange 13 = .ok (.dup, 1) := by decide +kernel
theorem dX10_requireRange_14 : decode cX10_requireRange 14 = .ok (.ldc_w 354, 3) := by decide +kernel
theorem dX10_requireRange_17 : decode cX10_requireRange 17 = .ok (.invokespecial 291, 3) := by decide +kernel
theorem dX10_requireRange_20 : decode cX10_requireRange 20 = .ok (.athrow, 1) := by decide +kernel
theorem dX10_requireRange_21 : decode cX10_requireRange 21 = .ok (.return_, 1) := by decide +kernel
theorem dX10_requireCell_0 : decode cX10_requireCell 0 = .ok (.iload_n 0, 1) := by decide +kernel
theorem dX10_requireCell_1 : decode cX10_requireCell 1 = .ok (.iconst 0, 1) := by decide +kernel
theorem dX10_requireCell_2 : decode cX10_requireCell 2 = .ok (.bipush 99, 2) := by decide +kernel
theorem dX10_requireCell_4 : decode cX10_requireCell 4 = .ok (.invokestatic 81, 3) := by decide +kernel
theorem dX10_requireCell_7 : decode cX10_requireCell 7 = .ok (.iload_n 1, 1) := by decide +kernel
theorem dX10_requireCell_8 : decode cX10_requireCell 8 = .ok (.iconst 0, 1) := by decide +kernel
theorem dX10_requireCell_9 : decode cX10_requireCell 9 = .ok (.bipush 99, 2) := by decide +kernel
theorem dX10_requireCell_11 : decode cX10_requireCell 11 = .ok (.invokestatic 81, 3) := by decide +kernel
theorem dX10_requireCell_14 : decode cX10_requireCell 14 = .ok (.return_, 1) := by decide +kernel
theorem dX10_requireNight_0 : decode cX10_requireNight 0 = .ok (.iload_n 0, 1) := by decide +kernel
theorem dX10_requireNight_1 : decode cX10_requireNight 1 = .ok (.iconst 0, 1) := by decide +kernel
theorem dX10_requireNight_2 : decode cX10_requireNight 2 = .ok (.sipush 3649, 3) := by decide +kernel
theorem dX10_requireNight_5 : decode cX10_requireNight 5 = .ok (.invokestatic 81, 3) := by decide +kernel
theorem dX10_requireNight_8 : decode cX10_requireNight 8 = .ok (.return_, 1) := by decide +kernel
theorem dX10_requireDirection_0 : decode cX10_requireDirection 0 = .ok (.iload_n 0, 1) := by decide +kernel
theorem dX10_requireDirection_1 : decode cX10_requireDirection 1 = .ok (.bipush (-100), 2) := by decide +kernel
theorem dX10_requireDirection_3 : decode cX10_requireDirection 3 = .ok (.bipush 100, 2) := by decide +kernel
theorem dX10_requireDirection_5 : decode cX10_requireDirection 5 = .ok (.invokestatic 81, 3) := by decide +kernel
theorem dX10_requireDirection_8 : decode cX10_requireDirection 8 = .ok (.iload_n 1, 1) := by decide +kernel
theorem dX10_requireDirection_9 : decode cX10_requireDirection 9 = .ok (.bipush (-100), 2) := by decide +kernel
theorem dX10_requireDirection_11 : decode cX10_requireDirection 11 = .ok (.bipush 100, 2) := by decide +kernel
theorem dX10_requireDirection_13 : decode cX10_requireDirection 13 = .ok (.invokestatic 81, 3) := by decide +kernel
theorem dX10_requireDirection_16 : decode cX10_requireDirection 16 = .ok (.iload_n 0, 1) := by decide +kernel
theorem dX10_requireDirection_17 : decode cX10_requireDirection 17 = .ok (.ifCond .ne 18, 3) := by decide +kernel
theorem dX10_requireDirection_20 : decode cX10_requireDirection 20 = .ok (.iload_n 1, 1) := by decide +kernel
theorem dX10_requireDirection_21 : decode cX10_requireDirection 21 = .ok (.ifCond .ne 14, 3) := by decide +kernel
theorem dX10_requireDirection_24 : decode cX10_requireDirection 24 = .ok (.new 287, 3) := by decide +kernel
theorem dX10_requireDirection_27 : decode cX10_requireDirection 27 = .ok (.dup, 1) := by decide +kernel
theorem dX10_requireDirection_28 : decode cX10_requireDirection 28 = .ok (.ldc_w 356, 3) := by decide +kernel
theorem dX10_requireDirection_31 : decode cX10_requireDirection 31 = .ok (.invokespecial 291, 3) := by decide +kernel
theorem dX10_requireDirection_34 : decode cX10_requireDirection 34 = .ok (.athrow, 1) := by decide +kernel
theorem dX10_requireDirection_35 : decode cX10_requireDirection 35 = .ok (.return_, 1) := by decide +kernel
theorem dX10_existingCamera_0 : decode cX10_existingCamera 0 = .ok (.iload_n 1, 1) := by decide +kernel
theorem dX10_existingCamera_1 : decode cX10_existingCamera 1 = .ok (.ifCond .lt 16, 3) := by decide +kernel
theorem dX10_existingCamera_4 : decode cX10_existingCamera 4 = .ok (.iload_n 1, 1) := by decide +kernel
theorem dX10_existingCamera_5 : decode cX10_existingCamera 5 = .ok (.aload_n 0, 1) := by decide +kernel
theorem dX10_existingCamera_6 : decode cX10_existingCamera 6 = .ok (.getfield 10, 3) := by decide +kernel
theorem dX10_existingCamera_9 : decode cX10_existingCamera 9 = .ok (.invokeinterface 85 1, 5) := by decide +kernel
theorem dX10_existingCamera_14 : decode cX10_existingCamera 14 = .ok (.if_icmp .lt 14, 3) := by decide +kernel
theorem dX10_existingCamera_17 : decode cX10_existingCamera 17 = .ok (.new 358, 3) := by decide +kernel
theorem dX10_existingCamera_20 : decode cX10_existingCamera 20 = .ok (.dup, 1) := by decide +kernel
theorem dX10_existingCamera_21 : decode cX10_existingCamera 21 = .ok (.ldc_w 360, 3) := by decide +kernel
theorem dX10_existingCamera_24 : decode cX10_existingCamera 24 = .ok (.invokespecial 362, 3) := by decide +kernel
theorem dX10_existingCamera_27 : decode cX10_existingCamera 27 = .ok (.athrow, 1) := by decide +kernel
theorem dX10_existingCamera_28 : decode cX10_existingCamera 28 = .ok (.aload_n 0, 1) := by decide +kernel
theorem dX10_existingCamera_29 : decode cX10_existingCamera 29 = .ok (.getfield 10, 3) := by decide +kernel
theorem dX10_existingCamera_32 : decode cX10_existingCamera 32 = .ok (.iload_n 1, 1) := by decide +kernel
theorem dX10_existingCamera_33 : decode cX10_existingCamera 33 = .ok (.invokeinterface 184 2, 5) := by decide +kernel
theorem dX10_existingCamera_38 : decode cX10_existingCamera 38 = .ok (.checkcast 96, 3) := by decide +kernel
theorem dX10_existingCamera_41 : decode cX10_existingCamera 41 = .ok (.areturn, 1) := by decide +kernel
theorem dX10_existingSighting_0 : decode cX10_existingSighting 0 = .ok (.iload_n 1, 1) := by decide +kernel
theorem dX10_existingSighting_1 : decode cX10_existingSighting 1 = .ok (.ifCond .lt 16, 3) := by decide +kernel
theorem dX10_existingSighting_4 : decode cX10_existingSighting 4 = .ok (.iload_n 1, 1) := by decide +kernel
theorem dX10_existingSighting_5 : decode cX10_existingSighting 5 = .ok (.aload_n 0, 1) := by decide +kernel
theorem dX10_existingSighting_6 : decode cX10_existingSighting 6 = .ok (.getfield 19, 3) := by decide +kernel
theorem dX10_existingSighting_9 : decode cX10_existingSighting 9 = .ok (.invokeinterface 85 1, 5) := by decide +kernel
theorem dX10_existingSighting_14 : decode cX10_existingSighting 14 = .ok (.if_icmp .lt 14, 3) := by decide +kernel
theorem dX10_existingSighting_17 : decode cX10_existingSighting 17 = .ok (.new 358, 3) := by decide +kernel
theorem dX10_existingSighting_20 : decode cX10_existingSighting 20 = .ok (.dup, 1) := by decide +kernel
theorem dX10_existingSighting_21 : decode cX10_existingSighting 21 = .ok (.ldc_w 363, 3) := by decide +kernel
theorem dX10_existingSighting_24 : decode cX10_existingSighting 24 = .ok (.invokespecial 362, 3) := by decide +kernel
theorem dX10_existingSighting_27 : decode cX10_existingSighting 27 = .ok (.athrow, 1) := by decide +kernel
theorem dX10_existingSighting_28 : decode cX10_existingSighting 28 = .ok (.aload_n 0, 1) := by decide +kernel
theorem dX10_existingSighting_29 : decode cX10_existingSighting 29 = .ok (.getfield 19, 3) := by decide +kernel
theorem dX10_existingSighting_32 : decode cX10_existingSighting 32 = .ok (.iload_n 1, 1) := by decide +kernel
theorem dX10_existingSighting_33 : decode cX10_existingSighting 33 = .ok (.invokeinterface 184 2, 5) := by decide +kernel
theorem dX10_existingSighting_38 : decode cX10_existingSighting 38 = .ok (.checkcast 140, 3) := by decide +kernel
theorem dX10_existingSighting_41 : decode cX10_existingSighting 41 = .ok (.areturn, 1) := by decide +kernel
theorem dX10_existingFireball_0 : decode cX10_existingFireball 0 = .ok (.iload_n 1, 1) := by decide +kernel
theorem dX10_existingFireball_1 : decode cX10_existingFireball 1 = .ok (.ifCond .lt 35, 3) := by decide +kernel
theorem dX10_existingFireball_4 : decode cX10_existingFireball 4 = .ok (.iload_n 1, 1) := by decide +kernel
theorem dX10_existingFireball_5 : decode cX10_existingFireball 5 = .ok (.aload_n 0, 1) := by decide +kernel
theorem dX10_existingFireball_6 : decode cX10_existingFireball 6 = .ok (.getfield 26, 3) := by decide +kernel
theorem dX10_existingFireball_9 : decode cX10_existingFireball 9 = .ok (.invokeinterface 85 1, 5) := by decide +kernel
theorem dX10_existingFireball_14 : decode cX10_existingFireball 14 = .ok (.if_icmp .ge 22, 3) := by decide +kernel
theorem dX10_existingFireball_17 : decode cX10_existingFireball 17 = .ok (.aload_n 0, 1) := by decide +kernel
theorem dX10_existingFireball_18 : decode cX10_existingFireball 18 = .ok (.getfield 26, 3) := by decide +kernel
theorem dX10_existingFireball_21 : decode cX10_existingFireball 21 = .ok (.iload_n 1, 1) := by decide +kernel
theorem dX10_existingFireball_22 : decode cX10_existingFireball 22 = .ok (.invokeinterface 184 2, 5) := by decide +kernel
theorem dX10_existingFireball_27 : decode cX10_existingFireball 27 = .ok (.checkcast 68, 3) := by decide +kernel
theorem dX10_existingFireball_30 : decode cX10_existingFireball 30 = .ok (.invokevirtual 365, 3) := by decide +kernel
theorem dX10_existingFireball_33 : decode cX10_existingFireball 33 = .ok (.ifCond .ne 14, 3) := by decide +kernel
theorem dX10_existingFireball_36 : decode cX10_existingFireball 36 = .ok (.new 358, 3) := by decide +kernel
theorem dX10_existingFireball_39 : decode cX10_existingFireball 39 = .ok (.dup, 1) := by decide +kernel
theorem dX10_existingFireball_40 : decode cX10_existingFireball 40 = .ok (.ldc_w 368, 3) := by decide +kernel
theorem dX10_existingFireball_43 : decode cX10_existingFireball 43 = .ok (.invokespecial 362, 3) := by decide +kernel
theorem dX10_existingFireball_46 : decode cX10_existingFireball 46 = .ok (.athrow, 1) := by decide +kernel
theorem dX10_existingFireball_47 : decode cX10_existingFireball 47 = .ok (.aload_n 0, 1) := by decide +kernel
theorem dX10_existingFireball_48 : decode cX10_existingFireball 48 = .ok (.getfield 26, 3) := by decide +kernel
theorem dX10_existingFireball_51 : decode cX10_existingFireball 51 = .ok (.iload_n 1, 1) := by decide +kernel
theorem dX10_existingFireball_52 : decode cX10_existingFireball 52 = .ok (.invokeinterface 184 2, 5) := by decide +kernel
theorem dX10_existingFireball_57 : decode cX10_existingFireball 57 = .ok (.checkcast 68, 3) := by decide +kernel
theorem dX10_existingFireball_60 : decode cX10_existingFireball 60 = .ok (.areturn, 1) := by decide +kernel
theorem dX10_existingStone_0 : decode cX10_existingStone 0 = .ok (.iload_n 1, 1) := by decide +kernel
theorem dX10_existingStone_1 : decode cX10_existingStone 1 = .ok (.ifCond .lt 16, 3) := by decide +kernel
theorem dX10_existingStone_4 : decode cX10_existingStone 4 = .ok (.iload_n 1, 1) := by decide +kernel
theorem dX10_existingStone_5 : decode cX10_existingStone 5 = .ok (.aload_n 0, 1) := by decide +kernel
theorem dX10_existingStone_6 : decode cX10_existingStone 6 = .ok (.getfield 52, 3) := by decide +kernel
theorem dX10_existingStone_9 : decode cX10_existingStone 9 = .ok (.invokeinterface 85 1, 5) := by decide +kernel
theorem dX10_existingStone_14 : decode cX10_existingStone 14 = .ok (.if_icmp .lt 14, 3) := by decide +kernel
theorem dX10_existingStone_17 : decode cX10_existingStone 17 = .ok (.new 358, 3) := by decide +kernel
theorem dX10_existingStone_20 : decode cX10_existingStone 20 = .ok (.dup, 1) := by decide +kernel
theorem dX10_existingStone_21 : decode cX10_existingStone 21 = .ok (.ldc_w 370, 3) := by decide +kernel
theorem dX10_existingStone_24 : decode cX10_existingStone 24 = .ok (.invokespecial 362, 3) := by decide +kernel
theorem dX10_existingStone_27 : decode cX10_existingStone 27 = .ok (.athrow, 1) := by decide +kernel
theorem dX10_existingStone_28 : decode cX10_existingStone 28 = .ok (.aload_n 0, 1) := by decide +kernel
theorem dX10_existingStone_29 : decode cX10_existingStone 29 = .ok (.getfield 52, 3) := by decide +kernel
theorem dX10_existingStone_32 : decode cX10_existingStone 32 = .ok (.iload_n 1, 1) := by decide +kernel
theorem dX10_existingStone_33 : decode cX10_existingStone 33 = .ok (.invokeinterface 184 2, 5) := by decide +kernel
theorem dX10_existingStone_38 : decode cX10_existingStone 38 = .ok (.checkcast 257, 3) := by decide +kernel
theorem dX10_existingStone_41 : decode cX10_existingStone 41 = .ok (.areturn, 1) := by decide +kernel
theorem dX10_cloudyNights_0 : decode cX10_cloudyNights 0 = .ok (.iconst 0, 1) := by decide +kernel
theorem dX10_cloudyNights_1 : decode cX10_cloudyNights 1 = .ok (.istore 4, 2) := by decide +kernel
theorem dX10_cloudyNights_3 : decode cX10_cloudyNights 3 = .ok (.iconst 0, 1) := by decide +kernel
theorem dX10_cloudyNights_4 : decode cX10_cloudyNights 4 = .ok (.istore 5, 2) := by decide +kernel
theorem dX10_cloudyNights_6 : decode cX10_cloudyNights 6 = .ok (.iload 5, 2) := by decide +kernel
theorem dX10_cloudyNights_8 : decode cX10_cloudyNights 8 = .ok (.aload_n 0, 1) := by decide +kernel
theorem dX10_cloudyNights_9 : decode cX10_cloudyNights 9 = .ok (.getfield 16, 3) := by decide +kernel
theorem dX10_cloudyNights_12 : decode cX10_cloudyNights 12 = .ok (.invokeinterface 85 1, 5) := by decide +kernel
theorem dX10_cloudyNights_17 : decode cX10_cloudyNights 17 = .ok (.if_icmp .ge 55, 3) := by decide +kernel
theorem dX10_cloudyNights_20 : decode cX10_cloudyNights 20 = .ok (.aload_n 0, 1) := by decide +kernel
theorem dX10_cloudyNights_21 : decode cX10_cloudyNights 21 = .ok (.getfield 16, 3) := by decide +kernel
theorem dX10_cloudyNights_24 : decode cX10_cloudyNights 24 = .ok (.iload 5, 2) := by decide +kernel
theorem dX10_cloudyNights_26 : decode cX10_cloudyNights 26 = .ok (.invokeinterface 184 2, 5) := by decide +kernel
theorem dX10_cloudyNights_31 : decode cX10_cloudyNights 31 = .ok (.checkcast 128, 3) := by decide +kernel
theorem dX10_cloudyNights_34 : decode cX10_cloudyNights 34 = .ok (.astore 6, 2) := by decide +kernel
theorem dX10_cloudyNights_36 : decode cX10_cloudyNights 36 = .ok (.aload 6, 2) := by decide +kernel
theorem dX10_cloudyNights_38 : decode cX10_cloudyNights 38 = .ok (.getfield 372, 3) := by decide +kernel
theorem dX10_cloudyNights_41 : decode cX10_cloudyNights 41 = .ok (.aload_n 1, 1) := by decide +kernel
theorem dX10_cloudyNights_42 : decode cX10_cloudyNights 42 = .ok (.if_acmp .ne 24, 3) := by decide +kernel
theorem dX10_cloudyNights_45 : decode cX10_cloudyNights 45 = .ok (.aload 6, 2) := by decide +kernel
theorem dX10_cloudyNights_47 : decode cX10_cloudyNights 47 = .ok (.getfield 373, 3) := by decide +kernel
theorem dX10_cloudyNights_50 : decode cX10_cloudyNights 50 = .ok (.iload_n 2, 1) := by decide +kernel
theorem dX10_cloudyNights_51 : decode cX10_cloudyNights 51 = .ok (.if_icmp .lt 15, 3) := by decide +kernel
theorem dX10_cloudyNights_54 : decode cX10_cloudyNights 54 = .ok (.aload 6, 2) := by decide +kernel
theorem dX10_cloudyNights_56 : decode cX10_cloudyNights 56 = .ok (.getfield 373, 3) := by decide +kernel
theorem dX10_cloudyNights_59 : decode cX10_cloudyNights 59 = .ok (.iload_n 3, 1) := by decide +kernel
theorem dX10_cloudyNights_60 : decode cX10_cloudyNights 60 = .ok (.if_icmp .gt 6, 3) := by decide +kernel
theorem dX10_cloudyNights_63 : decode cX10_cloudyNights 63 = .ok (.iinc 4 1, 3) := by decide +kernel
theorem dX10_cloudyNights_66 : decode cX10_cloudyNights 66 = .ok (.iinc 5 1, 3) := by decide +kernel
theorem dX10_cloudyNights_69 : decode cX10_cloudyNights 69 = .ok (.goto (-63), 3) := by decide +kernel
theorem dX10_cloudyNights_72 : decode cX10_cloudyNights 72 = .ok (.iload 4, 2) := by decide +kernel
theorem dX10_cloudyNights_74 : decode cX10_cloudyNights 74 = .ok (.ireturn, 1) := by decide +kernel
theorem dX10_isCloudy_0 : decode cX10_isCloudy 0 = .ok (.aload_n 0, 1) := by decide +kernel
theorem dX10_isCloudy_1 : decode cX10_isCloudy 1 = .ok (.aload_n 1, 1) := by decide +kernel
theorem dX10_isCloudy_2 : decode cX10_isCloudy 2 = .ok (.iload_n 2, 1) := by decide +kernel
theorem dX10_isCloudy_3 : decode cX10_isCloudy 3 = .ok (.iload_n 2, 1) := by decide +kernel
theorem dX10_isCloudy_4 : decode cX10_isCloudy 4 = .ok (.invokevirtual 133, 3) := by decide +kernel
theorem dX10_isCloudy_7 : decode cX10_isCloudy 7 = .ok (.ifCond .le 7, 3) := by decide +kernel
theorem dX10_isCloudy_10 : decode cX10_isCloudy 10 = .ok (.iconst 1, 1) := by decide +kernel
theorem dX10_isCloudy_11 : decode cX10_isCloudy 11 = .ok (.goto 4, 3) := by decide +kernel
theorem dX10_isCloudy_14 : decode cX10_isCloudy 14 = .ok (.iconst 0, 1) := by decide +kernel
theorem dX10_isCloudy_15 : decode cX10_isCloudy 15 = .ok (.ireturn, 1) := by decide +kernel
theorem dX10_gatherFireballs_0 : decode cX10_gatherFireballs 0 = .ok (.iconst 0, 1) := by decide +kernel
theorem dX10_gatherFireballs_1 : decode cX10_gatherFireballs 1 = .ok (.istore_n 1, 1) := by decide +kernel
theorem dX10_gatherFireballs_2 : decode cX10_gatherFireballs 2 = .ok (.iload_n 1, 1) := by decide +kernel
theorem dX10_gatherFireballs_3 : decode cX10_gatherFireballs 3 = .ok (.aload_n 0, 1) := by decide +kernel
theorem dX10_gatherFireballs_4 : decode cX10_gatherFireballs 4 = .ok (.getfield 26, 3) := by decide +kernel
theorem dX10_gatherFireballs_7 : decode cX10_gatherFireballs 7 = .ok (.invokeinterface 85 1, 5) := by decide +kernel
theorem dX10_gatherFireballs_12 : decode cX10_gatherFireballs 12 = .ok (.if_icmp .ge 25, 3) := by decide +kernel
theorem dX10_gatherFireballs_15 : decode cX10_gatherFireballs 15 = .ok (.aload_n 0, 1) := by decide +kernel
theorem dX10_gatherFireballs_16 : decode cX10_gatherFireballs 16 = .ok (.getfield 26, 3) := by decide +kernel
theorem dX10_gatherFireballs_19 : decode cX10_gatherFireballs 19 = .ok (.iload_n 1, 1) := by decide +kernel
theorem dX10_gatherFireballs_20 : decode cX10_gatherFireballs 20 = .ok (.invokeinterface 184 2, 5) := by decide +kernel
theorem dX10_gatherFireballs_25 : decode cX10_gatherFireballs 25 = .ok (.checkcast 68, 3) := by decide +kernel
theorem dX10_gatherFireballs_28 : decode cX10_gatherFireballs 28 = .ok (.invokevirtual 374, 3) := by decide +kernel
theorem dX10_gatherFireballs_31 : decode cX10_gatherFireballs 31 = .ok (.iinc 1 1, 3) := by decide +kernel
theorem dX10_gatherFireballs_34 : decode cX10_gatherFireballs 34 = .ok (.goto (-32), 3) := by decide +kernel
theorem dX10_gatherFireballs_37 : decode cX10_gatherFireballs 37 = .ok (.aload_n 0, 1) := by decide +kernel
theorem dX10_gatherFireballs_38 : decode cX10_gatherFireballs 38 = .ok (.invokevirtual 377, 3) := by decide +kernel
theorem dX10_gatherFireballs_41 : decode cX10_gatherFireballs 41 = .ok (.iconst 0, 1) := by decide +kernel
theorem dX10_gatherFireballs_42 : decode cX10_gatherFireballs 42 = .ok (.istore_n 1, 1) := by decide +kernel
theorem dX10_gatherFireballs_43 : decode cX10_gatherFireballs 43 = .ok (.iload_n 1, 1) := by decide +kernel
theorem dX10_gatherFireballs_44 : decode cX10_gatherFireballs 44 = .ok (.aload_n 0, 1) := by decide +kernel
theorem dX10_gatherFireballs_45 : decode cX10_gatherFireballs 45 = .ok (.getfield 19, 3) := by decide +kernel
theorem dX10_gatherFireballs_48 : decode cX10_gatherFireballs 48 = .ok (.invokeinterface 85 1, 5) := by decide +kernel
theorem dX10_gatherFireballs_53 : decode cX10_gatherFireballs 53 = .ok (.if_icmp .ge 71, 3) := by decide +kernel
theorem dX10_gatherFireballs_56 : decode cX10_gatherFireballs 56 = .ok (.aload_n 0, 1) := by decide +kernel
theorem dX10_gatherFireballs_57 : decode cX10_gatherFireballs 57 = .ok (.getfield 19, 3) := by decide +kernel
theorem dX10_gatherFireballs_60 : decode cX10_gatherFireballs 60 = .ok (.iload_n 1, 1) := by decide +kernel
theorem dX10_gatherFireballs_61 : decode cX10_gatherFireballs 61 = .ok (.invokeinterface 184 2, 5) := by decide +kernel
theorem dX10_gatherFireballs_66 : decode cX10_gatherFireballs 66 = .ok (.checkcast 140, 3) := by decide +kernel
theorem dX10_gatherFireballs_69 : decode cX10_gatherFireballs 69 = .ok (.astore_n 2, 1) := by decide +kernel
theorem dX10_gatherFireballs_70 : decode cX10_gatherFireballs 70 = .ok (.aload_n 2, 1) := by decide +kernel
theorem dX10_gatherFireballs_71 : decode cX10_gatherFireballs 71 = .ok (.getfield 180, 3) := by decide +kernel
theorem dX10_gatherFireballs_74 : decode cX10_gatherFireballs 74 = .ok (.lconst 0, 1) := by decide +kernel
theorem dX10_gatherFireballs_75 : decode cX10_gatherFireballs 75 = .ok (.lcmp, 1) := by decide +kernel
theorem dX10_gatherFireballs_76 : decode cX10_gatherFireballs 76 = .ok (.ifCond .eq 42, 3) := by decide +kernel
theorem dX10_gatherFireballs_79 : decode cX10_gatherFireballs 79 = .ok (.aload_n 2, 1) := by decide +kernel
theorem dX10_gatherFireballs_80 : decode cX10_gatherFireballs 80 = .ok (.getfield 177, 3) := by decide +kernel
theorem dX10_gatherFireballs_83 : decode cX10_gatherFireballs 83 = .ok (.iconst (-1), 1) := by decide +kernel
theorem dX10_gatherFireballs_84 : decode cX10_gatherFireballs 84 = .ok (.if_icmp .ne 34, 3) := by decide +kernel
theorem dX10_gatherFireballs_87 : decode cX10_gatherFireballs 87 = .ok (.iload_n 1, 1) := by decide +kernel
theorem dX10_gatherFireballs_88 : decode cX10_gatherFireballs 88 = .ok (.aload_n 0, 1) := by decide +kernel
theorem dX10_gatherFireballs_89 : decode cX10_gatherFireballs 89 = .ok (.getfield 26, 3) := by decide +kernel
theorem dX10_gatherFireballs_92 : decode cX10_gatherFireballs 92 = .ok (.invokeinterface 85 1, 5) := by decide +kernel
theorem dX10_gatherFireballs_97 : decode cX10_gatherFireballs 97 = .ok (.if_icmp .ge 21, 3) := by decide +kernel
theorem dX10_gatherFireballs_100 : decode cX10_gatherFireballs 100 = .ok (.aload_n 0, 1) := by decide +kernel
theorem dX10_gatherFireballs_101 : decode cX10_gatherFireballs 101 = .ok (.aload_n 0, 1) := by decide +kernel
theorem dX10_gatherFireballs_102 : decode cX10_gatherFireballs 102 = .ok (.getfield 26, 3) := by decide +kernel
theorem dX10_gatherFireballs_105 : decode cX10_gatherFireballs 105 = .ok (.iload_n 1, 1) := by decide +kernel
theorem dX10_gatherFireballs_106 : decode cX10_gatherFireballs 106 = .ok (.invokeinterface 184 2, 5) := by decide +kernel
theorem dX10_gatherFireballs_111 : decode cX10_gatherFireballs 111 = .ok (.checkcast 68, 3) := by decide +kernel
theorem dX10_gatherFireballs_114 : decode cX10_gatherFireballs 114 = .ok (.iload_n 1, 1) := by decide +kernel
theorem dX10_gatherFireballs_115 : decode cX10_gatherFireballs 115 = .ok (.invokevirtual 380, 3) := by decide +kernel
theorem dX10_gatherFireballs_118 : decode cX10_gatherFireballs 118 = .ok (.iinc 1 1, 3) := by decide +kernel
theorem dX10_gatherFireballs_121 : decode cX10_gatherFireballs 121 = .ok (.goto (-78), 3) := by decide +kernel
theorem dX10_gatherFireballs_124 : decode cX10_gatherFireballs 124 = .ok (.return_, 1) := by decide +kernel
theorem dX10_joinSightings_0 : decode cX10_joinSightings 0 = .ok (.iconst 0, 1) := by decide +kernel
theorem dX10_joinSightings_1 : decode cX10_joinSightings 1 = .ok (.istore_n 1, 1) := by decide +kernel
theorem dX10_joinSightings_2 : decode cX10_joinSightings 2 = .ok (.iload_n 1, 1) := by decide +kernel
theorem dX10_joinSightings_3 : decode cX10_joinSightings 3 = .ok (.aload_n 0, 1) := by decide +kernel
theorem dX10_joinSightings_4 : decode cX10_joinSightings 4 = .ok (.getfield 19, 3) := by decide +kernel
theorem dX10_joinSightings_7 : decode cX10_joinSightings 7 = .ok (.invokeinterface 85 1, 5) := by decide +kernel
theorem dX10_joinSightings_12 : decode cX10_joinSightings 12 = .ok (.if_icmp .ge 96, 3) := by decide +kernel
theorem dX10_joinSightings_15 : decode cX10_joinSightings 15 = .ok (.aload_n 0, 1) := by decide +kernel
theorem dX10_joinSightings_16 : decode cX10_joinSightings 16 = .ok (.getfield 19, 3) := by decide +kernel
theorem dX10_joinSightings_19 : decode cX10_joinSightings 19 = .ok (.iload_n 1, 1) := by decide +kernel
theorem dX10_joinSightings_20 : decode cX10_joinSightings 20 = .ok (.invokeinterface 184 2, 5) := by decide +kernel
theorem dX10_joinSightings_25 : decode cX10_joinSightings 25 = .ok (.checkcast 140, 3) := by decide +kernel
theorem dX10_joinSightings_28 : decode cX10_joinSightings 28 = .ok (.astore_n 2, 1) := by decide +kernel
theorem dX10_joinSightings_29 : decode cX10_joinSightings 29 = .ok (.aload_n 2, 1) := by decide +kernel
theorem dX10_joinSightings_30 : decode cX10_joinSightings 30 = .ok (.lconst 0, 1) := by decide +kernel
theorem dX10_joinSightings_31 : decode cX10_joinSightings 31 = .ok (.putfield 180, 3) := by decide +kernel
theorem dX10_joinSightings_34 : decode cX10_joinSightings 34 = .ok (.aload_n 2, 1) := by decide +kernel
theorem dX10_joinSightings_35 : decode cX10_joinSightings 35 = .ok (.iconst (-1), 1) := by decide +kernel
theorem dX10_joinSightings_36 : decode cX10_joinSightings 36 = .ok (.putfield 177, 3) := by decide +kernel
theorem dX10_joinSightings_39 : decode cX10_joinSightings 39 = .ok (.iconst 0, 1) := by decide +kernel
theorem dX10_joinSightings_40 : decode cX10_joinSightings 40 = .ok (.istore_n 3, 1) := by decide +kernel
theorem dX10_joinSightings_41 : decode cX10_joinSightings 41 = .ok (.iload_n 3, 1) := by decide +kernel
theorem dX10_joinSightings_42 : decode cX10_joinSightings 42 = .ok (.iload_n 1, 1) := by decide +kernel
theorem dX10_joinSightings_43 : decode cX10_joinSightings 43 = .ok (.if_icmp .ge 59, 3) := by decide +kernel
theorem dX10_joinSightings_46 : decode cX10_joinSightings 46 = .ok (.aload_n 0, 1) := by decide +kernel
theorem dX10_joinSightings_47 : decode cX10_joinSightings 47 = .ok (.getfield 19, 3) := by decide +kernel
theorem dX10_joinSightings_50 : decode cX10_joinSightings 50 = .ok (.iload_n 3, 1) := by decide +kernel
theorem dX10_joinSightings_51 : decode cX10_joinSightings 51 = .ok (.invokeinterface 184 2, 5) := by decide +kernel
theorem dX10_joinSightings_56 : decode cX10_joinSightings 56 = .ok (.checkcast 140, 3) := by decide +kernel
theorem dX10_joinSightings_59 : decode cX10_joinSightings 59 = .ok (.astore 4, 2) := by decide +kernel
theorem dX10_joinSightings_61 : decode cX10_joinSightings 61 = .ok (.aload_n 0, 1) := by decide +kernel
theorem dX10_joinSightings_62 : decode cX10_joinSightings 62 = .ok (.aload_n 2, 1) := by decide +kernel
theorem dX10_joinSightings_63 : decode cX10_joinSightings 63 = .ok (.aload 4, 2) := by decide +kernel
theorem dX10_joinSightings_65 : decode cX10_joinSightings 65 = .ok (.invokevirtual 384, 3) := by decide +kernel
theorem dX10_joinSightings_68 : decode cX10_joinSightings 68 = .ok (.ifCond .eq 28, 3) := by decide +kernel
theorem dX10_joinSightings_71 : decode cX10_joinSightings 71 = .ok (.aload_n 2, 1) := by decide +kernel
theorem dX10_joinSightings_72 : decode cX10_joinSightings 72 = .ok (.dup, 1) := by decide +kernel
theorem dX10_joinSightings_73 : decode cX10_joinSightings 73 = .ok (.getfield 180, 3) := by decide +kernel
theorem dX10_joinSightings_76 : decode cX10_joinSightings 76 = .ok (.lconst 1, 1) := by decide +kernel
theorem dX10_joinSightings_77 : decode cX10_joinSightings 77 = .ok (.iload_n 3, 1) := by decide +kernel
theorem dX10_joinSightings_78 : decode cX10_joinSightings 78 = .ok (.lshl, 1) := by decide +kernel
theorem dX10_joinSightings_79 : decode cX10_joinSightings 79 = .ok (.lor, 1) := by decide +kernel
theorem dX10_joinSightings_80 : decode cX10_joinSightings 80 = .ok (.putfield 180, 3) := by decide +kernel
theorem dX10_joinSightings_83 : decode cX10_joinSightings 83 = .ok (.aload 4, 2) := by decide +kernel
theorem dX10_joinSightings_85 : decode cX10_joinSightings 85 = .ok (.dup, 1) := by decide +kernel
theorem dX10_joinSightings_86 : decode cX10_joinSightings 86 = .ok (.getfield 180, 3) := by decide +kernel
theorem dX10_joinSightings_89 : decode cX10_joinSightings 89 = .ok (.lconst 1, 1) := by decide +kernel
theorem dX10_joinSightings_90 : decode cX10_joinSightings 90 = .ok (.iload_n 1, 1) := by decide +kernel
theorem dX10_joinSightings_91 : decode cX10_joinSightings 91 = .ok (.lshl, 1) := by decide +kernel
theorem dX10_joinSightings_92 : decode cX10_joinSightings 92 = .ok (.lor, 1) := by decide +kernel
theorem dX10_joinSightings_93 : decode cX10_joinSightings 93 = .ok (.putfield 180, 3) := by decide +kernel
theorem dX10_joinSightings_96 : decode cX10_joinSightings 96 = .ok (.iinc 3 1, 3) := by decide +kernel
theorem dX10_joinSightings_99 : decode cX10_joinSightings 99 = .ok (.goto (-58), 3) := by decide +kernel
theorem dX10_joinSightings_102 : decode cX10_joinSightings 102 = .ok (.iinc 1 1, 3) := by decide +kernel
theorem dX10_joinSightings_105 : decode cX10_joinSightings 105 = .ok (.goto (-103), 3) := by decide +kernel
theorem dX10_joinSightings_108 : decode cX10_joinSightings 108 = .ok (.return_, 1) := by decide +kernel
theorem dX10_doJoin_0 : decode cX10_doJoin 0 = .ok (.aload_n 1, 1) := by decide +kernel
theorem dX10_doJoin_1 : decode cX10_doJoin 1 = .ok (.aload_n 2, 1) := by decide +kernel
theorem dX10_doJoin_2 : decode cX10_doJoin 2 = .ok (.invokevirtual 388, 3) := by decide +kernel
theorem dX10_doJoin_5 : decode cX10_doJoin 5 = .ok (.ifCond .eq 31, 3) := by decide +kernel
theorem dX10_doJoin_8 : decode cX10_doJoin 8 = .ok (.aload_n 0, 1) := by decide +kernel
theorem dX10_doJoin_9 : decode cX10_doJoin 9 = .ok (.getfield 32, 3) := by decide +kernel
theorem dX10_doJoin_12 : decode cX10_doJoin 12 = .ok (.aload_n 1, 1) := by decide +kernel
theorem dX10_doJoin_13 : decode cX10_doJoin 13 = .ok (.aload_n 2, 1) := by decide +kernel
theorem dX10_doJoin_14 : decode cX10_doJoin 14 = .ok (.invokevirtual 392, 3) := by decide +kernel
theorem dX10_doJoin_17 : decode cX10_doJoin 17 = .ok (.ifCond .eq 19, 3) := by decide +kernel
theorem dX10_doJoin_20 : decode cX10_doJoin 20 = .ok (.aload_n 0, 1) := by decide +kernel
theorem dX10_doJoin_21 : decode cX10_doJoin 21 = .ok (.getfield 36, 3) := by decide +kernel
theorem dX10_doJoin_24 : decode cX10_doJoin 24 = .ok (.aload_n 1, 1) := by decide +kernel
theorem dX10_doJoin_25 : decode cX10_doJoin 25 = .ok (.aload_n 2, 1) := by decide +kernel
theorem dX10_doJoin_26 : decode cX10_doJoin 26 = .ok (.invokevirtual 395, 3) := by decide +kernel
theorem dX10_doJoin_29 : decode cX10_doJoin 29 = .ok (.ifCond .eq 7, 3) := by decide +kernel
theorem dX10_doJoin_32 : decode cX10_doJoin 32 = .ok (.iconst 1, 1) := by decide +kernel
theorem dX10_doJoin_33 : decode cX10_doJoin 33 = .ok (.goto 4, 3) := by decide +kernel
theorem dX10_doJoin_36 : decode cX10_doJoin 36 = .ok (.iconst 0, 1) := by decide +kernel
theorem dX10_doJoin_37 : decode cX10_doJoin 37 = .ok (.ireturn, 1) := by decide +kernel
theorem dX10_gatherInto_0 : decode cX10_gatherInto 0 = .ok (.aload_n 0, 1) := by decide +kernel
theorem dX10_gatherInto_1 : decode cX10_gatherInto 1 = .ok (.iload_n 2, 1) := by decide +kernel
theorem dX10_gatherInto_2 : decode cX10_gatherInto 2 = .ok (.invokevirtual 398, 3) := by decide +kernel
theorem dX10_gatherInto_5 : decode cX10_gatherInto 5 = .ok (.lstore_n 3, 1) := by decide +kernel
theorem dX10_gatherInto_6 : decode cX10_gatherInto 6 = .ok (.iconst 0, 1) := by decide +kernel
theorem dX10_gatherInto_7 : decode cX10_gatherInto 7 = .ok (.istore 5, 2) := by decide +kernel
theorem dX10_gatherInto_9 : decode cX10_gatherInto 9 = .ok (.iload 5, 2) := by decide +kernel
theorem dX10_gatherInto_11 : decode cX10_gatherInto 11 = .ok (.aload_n 0, 1) := by decide +kernel
theorem dX10_gatherInto_12 : decode cX10_gatherInto 12 = .ok (.getfield 19, 3) := by decide +kernel
theorem dX10_gatherInto_15 : decode cX10_gatherInto 15 = .ok (.invokeinterface 85 1, 5) := by decide +kernel
theorem dX10_gatherInto_20 : decode cX10_gatherInto 20 = .ok (.if_icmp .ge 55, 3) := by decide +kernel
theorem dX10_gatherInto_23 : decode cX10_gatherInto 23 = .ok (.lload_n 3, 1) := by decide +kernel
theorem dX10_gatherInto_24 : decode cX10_gatherInto 24 = .ok (.iload 5, 2) := by decide +kernel
theorem dX10_gatherInto_26 : decode cX10_gatherInto 26 = .ok (.invokestatic 401, 3) := by decide +kernel
theorem dX10_gatherInto_29 : decode cX10_gatherInto 29 = .ok (.ifCond .eq 40, 3) := by decide +kernel
theorem dX10_gatherInto_32 : decode cX10_gatherInto 32 = .ok (.aload_n 0, 1) := by decide +kernel
theorem dX10_gatherInto_33 : decode cX10_gatherInto 33 = .ok (.getfield 19, 3) := by decide +kernel
theorem dX10_gatherInto_36 : decode cX10_gatherInto 36 = .ok (.iload 5, 2) := by decide +kernel
theorem dX10_gatherInto_38 : decode cX10_gatherInto 38 = .ok (.invokeinterface 184 2, 5) := by decide +kernel
theorem dX10_gatherInto_43 : decode cX10_gatherInto 43 = .ok (.checkcast 140, 3) := by decide +kernel
theorem dX10_gatherInto_46 : decode cX10_gatherInto 46 = .ok (.astore 6, 2) := by decide +kernel
theorem dX10_gatherInto_48 : decode cX10_gatherInto 48 = .ok (.aload 6, 2) := by decide +kernel
theorem dX10_gatherInto_50 : decode cX10_gatherInto 50 = .ok (.iload_n 2, 1) := by decide +kernel
theorem dX10_gatherInto_51 : decode cX10_gatherInto 51 = .ok (.putfield 177, 3) := by decide +kernel
theorem dX10_gatherInto_54 : decode cX10_gatherInto 54 = .ok (.aload_n 1, 1) := by decide +kernel
theorem dX10_gatherInto_55 : decode cX10_gatherInto 55 = .ok (.aload 6, 2) := by decide +kernel
theorem dX10_gatherInto_57 : decode cX10_gatherInto 57 = .ok (.invokevirtual 405, 3) := by decide +kernel
theorem dX10_gatherInto_60 : decode cX10_gatherInto 60 = .ok (.aload_n 0, 1) := by decide +kernel
theorem dX10_gatherInto_61 : decode cX10_gatherInto 61 = .ok (.aload_n 1, 1) := by decide +kernel
theorem dX10_gatherInto_62 : decode cX10_gatherInto 62 = .ok (.aload 6, 2) := by decide +kernel
theorem dX10_gatherInto_64 : decode cX10_gatherInto 64 = .ok (.iload 5, 2) := by decide +kernel
theorem dX10_gatherInto_66 : decode cX10_gatherInto 66 = .ok (.invokevirtual 408, 3) := by decide +kernel
theorem dX10_gatherInto_69 : decode cX10_gatherInto 69 = .ok (.iinc 5 1, 3) := by decide +kernel
theorem dX10_gatherInto_72 : decode cX10_gatherInto 72 = .ok (.goto (-63), 3) := by decide +kernel
theorem dX10_gatherInto_75 : decode cX10_gatherInto 75 = .ok (.aload_n 1, 1) := by decide +kernel
theorem dX10_gatherInto_76 : decode cX10_gatherInto 76 = .ok (.invokevirtual 412, 3) := by decide +kernel
theorem dX10_gatherInto_79 : decode cX10_gatherInto 79 = .ok (.return_, 1) := by decide +kernel
theorem dX10_addPlaces_0 : decode cX10_addPlaces 0 = .ok (.iconst 0, 1) := by decide +kernel
theorem dX10_addPlaces_1 : decode cX10_addPlaces 1 = .ok (.istore 4, 2) := by decide +kernel
theorem dX10_addPlaces_3 : decode cX10_addPlaces 3 = .ok (.iload 4, 2) := by decide +kernel
theorem dX10_addPlaces_5 : decode cX10_addPlaces 5 = .ok (.iload_n 3, 1) := by decide +kernel
theorem dX10_addPlaces_6 : decode cX10_addPlaces 6 = .ok (.if_icmp .ge 89, 3) := by decide +kernel
theorem dX10_addPlaces_9 : decode cX10_addPlaces 9 = .ok (.iload 4, 2) := by decide +kernel
theorem dX10_addPlaces_11 : decode cX10_addPlaces 11 = .ok (.aload_n 0, 1) := by decide +kernel
theorem dX10_addPlaces_12 : decode cX10_addPlaces 12 = .ok (.getfield 19, 3) := by decide +kernel
theorem dX10_addPlaces_15 : decode cX10_addPlaces 15 = .ok (.invokeinterface 85 1, 5) := by decide +kernel
theorem dX10_addPlaces_20 : decode cX10_addPlaces 20 = .ok (.if_icmp .ge 75, 3) := by decide +kernel
theorem dX10_addPlaces_23 : decode cX10_addPlaces 23 = .ok (.aload_n 0, 1) := by decide +kernel
theorem dX10_addPlaces_24 : decode cX10_addPlaces 24 = .ok (.getfield 19, 3) := by decide +kernel
theorem dX10_addPlaces_27 : decode cX10_addPlaces 27 = .ok (.iload 4, 2) := by decide +kernel
theorem dX10_addPlaces_29 : decode cX10_addPlaces 29 = .ok (.invokeinterface 184 2, 5) := by decide +kernel
theorem dX10_addPlaces_34 : decode cX10_addPlaces 34 = .ok (.checkcast 140, 3) := by decide +kernel
theorem dX10_addPlaces_37 : decode cX10_addPlaces 37 = .ok (.astore 5, 2) := by decide +kernel
theorem dX10_addPlaces_39 : decode cX10_addPlaces 39 = .ok (.aload_n 2, 1) := by decide +kernel
theorem dX10_addPlaces_40 : decode cX10_addPlaces 40 = .ok (.getfield 180, 3) := by decide +kernel
theorem dX10_addPlaces_43 : decode cX10_addPlaces 43 = .ok (.iload 4, 2) := by decide +kernel
theorem dX10_addPlaces_45 : decode cX10_addPlaces 45 = .ok (.invokestatic 401, 3) := by decide +kernel
theorem dX10_addPlaces_48 : decode cX10_addPlaces 48 = .ok (.ifCond .eq 41, 3) := by decide +kernel
theorem dX10_addPlaces_51 : decode cX10_addPlaces 51 = .ok (.aload_n 0, 1) := by decide +kernel
theorem dX10_addPlaces_52 : decode cX10_addPlaces 52 = .ok (.getfield 32, 3) := by decide +kernel
theorem dX10_addPlaces_55 : decode cX10_addPlaces 55 = .ok (.aload_n 2, 1) := by decide +kernel
theorem dX10_addPlaces_56 : decode cX10_addPlaces 56 = .ok (.aload 5, 2) := by decide +kernel
theorem dX10_addPlaces_58 : decode cX10_addPlaces 58 = .ok (.invokevirtual 392, 3) := by decide +kernel
theorem dX10_addPlaces_61 : decode cX10_addPlaces 61 = .ok (.ifCond .eq 28, 3) := by decide +kernel
theorem dX10_addPlaces_64 : decode cX10_addPlaces 64 = .ok (.aload_n 0, 1) := by decide +kernel
theorem dX10_addPlaces_65 : decode cX10_addPlaces 65 = .ok (.getfield 36, 3) := by decide +kernel
theorem dX10_addPlaces_68 : decode cX10_addPlaces 68 = .ok (.aload_n 2, 1) := by decide +kernel
theorem dX10_addPlaces_69 : decode cX10_addPlaces 69 = .ok (.aload 5, 2) := by decide +kernel
theorem dX10_addPlaces_71 : decode cX10_addPlaces 71 = .ok (.invokevirtual 395, 3) := by decide +kernel
theorem dX10_addPlaces_74 : decode cX10_addPlaces 74 = .ok (.ifCond .eq 15, 3) := by decide +kernel
theorem dX10_addPlaces_77 : decode cX10_addPlaces 77 = .ok (.aload_n 1, 1) := by decide +kernel
theorem dX10_addPlaces_78 : decode cX10_addPlaces 78 = .ok (.aload_n 0, 1) := by decide +kernel
theorem dX10_addPlaces_79 : decode cX10_addPlaces 79 = .ok (.getfield 32, 3) := by decide +kernel
theorem dX10_addPlaces_82 : decode cX10_addPlaces 82 = .ok (.aload_n 0, 1) := by decide +kernel
theorem dX10_addPlaces_83 : decode cX10_addPlaces 83 = .ok (.getfield 36, 3) := by decide +kernel
theorem dX10_addPlaces_86 : decode cX10_addPlaces 86 = .ok (.invokevirtual 415, 3) := by decide +kernel
theorem dX10_addPlaces_89 : decode cX10_addPlaces 89 = .ok (.iinc 4 1, 3) := by decide +kernel
theorem dX10_addPlaces_92 : decode cX10_addPlaces 92 = .ok (.goto (-89), 3) := by decide +kernel
theorem dX10_addPlaces_95 : decode cX10_addPlaces 95 = .ok (.return_, 1) := by decide +kernel
theorem dX10_groupOf_0 : decode cX10_groupOf 0 = .ok (.lconst 1, 1) := by decide +kernel
theorem dX10_groupOf_1 : decode cX10_groupOf 1 = .ok (.iload_n 1, 1) := by decide +kernel
theorem dX10_groupOf_2 : decode cX10_groupOf 2 = .ok (.lshl, 1) := by decide +kernel
theorem dX10_groupOf_3 : decode cX10_groupOf 3 = .ok (.lstore_n 2, 1) := by decide +kernel
theorem dX10_groupOf_4 : decode cX10_groupOf 4 = .ok (.iconst 1, 1) := by decide +kernel
theorem dX10_groupOf_5 : decode cX10_groupOf 5 = .ok (.istore 4, 2) := by decide +kernel
theorem dX10_groupOf_7 : decode cX10_groupOf 7 = .ok (.iconst 0, 1) := by decide +kernel
theorem dX10_groupOf_8 : decode cX10_groupOf 8 = .ok (.istore 5, 2) := by decide +kernel
theorem dX10_groupOf_10 : decode cX10_groupOf 10 = .ok (.iload 4, 2) := by decide +kernel
theorem dX10_groupOf_12 : decode cX10_groupOf 12 = .ok (.ifCond .eq 92, 3) := by decide +kernel
theorem dX10_groupOf_15 : decode cX10_groupOf 15 = .ok (.iload 5, 2) := by decide +kernel
theorem dX10_groupOf_17 : decode cX10_groupOf 17 = .ok (.aload_n 0, 1) := by decide +kernel
theorem dX10_groupOf_18 : decode cX10_groupOf 18 = .ok (.getfield 19, 3) := by decide +kernel
theorem dX10_groupOf_21 : decode cX10_groupOf 21 = .ok (.invokeinterface 85 1, 5) := by decide +kernel
theorem dX10_groupOf_26 : decode cX10_groupOf 26 = .ok (.if_icmp .ge 78, 3) := by decide +kernel
theorem dX10_groupOf_29 : decode cX10_groupOf 29 = .ok (.lload_n 2, 1) := by decide +kernel
theorem dX10_groupOf_30 : decode cX10_groupOf 30 = .ok (.lstore 6, 2) := by decide +kernel
theorem dX10_groupOf_32 : decode cX10_groupOf 32 = .ok (.iconst 0, 1) := by decide +kernel
theorem dX10_groupOf_33 : decode cX10_groupOf 33 = .ok (.istore 8, 2) := by decide +kernel
theorem dX10_groupOf_35 : decode cX10_groupOf 35 = .ok (.iload 8, 2) := by decide +kernel
theorem dX10_groupOf_37 : decode cX10_groupOf 37 = .ok (.aload_n 0, 1) := by decide +kernel
theorem dX10_groupOf_38 : decode cX10_groupOf 38 = .ok (.getfield 19, 3) := by decide +kernel
theorem dX10_groupOf_41 : decode cX10_groupOf 41 = .ok (.invokeinterface 85 1, 5) := by decide +kernel
theorem dX10_groupOf_46 : decode cX10_groupOf 46 = .ok (.if_icmp .ge 38, 3) := by decide +kernel
theorem dX10_groupOf_49 : decode cX10_groupOf 49 = .ok (.lload_n 2, 1) := by decide +kernel
theorem dX10_groupOf_50 : decode cX10_groupOf 50 = .ok (.iload 8, 2) := by decide +kernel
theorem dX10_groupOf_52 : decode cX10_groupOf 52 = .ok (.invokestatic 401, 3) := by decide +kernel
theorem dX10_groupOf_55 : decode cX10_groupOf 55 = .ok (.ifCond .eq 23, 3) := by decide +kernel
theorem dX10_groupOf_58 : decode cX10_groupOf 58 = .ok (.lload_n 2, 1) := by decide +kernel
theorem dX10_groupOf_59 : decode cX10_groupOf 59 = .ok (.aload_n 0, 1) := by decide +kernel
theorem dX10_groupOf_60 : decode cX10_groupOf 60 = .ok (.getfield 19, 3) := by decide +kernel
theorem dX10_groupOf_63 : decode cX10_groupOf 63 = .ok (.iload 8, 2) := by decide +kernel
theorem dX10_groupOf_65 : decode cX10_groupOf 65 = .ok (.invokeinterface 184 2, 5) := by decide +kernel
theorem dX10_groupOf_70 : decode cX10_groupOf 70 = .ok (.checkcast 140, 3) := by decide +kernel
theorem dX10_groupOf_73 : decode cX10_groupOf 73 = .ok (.getfield 180, 3) := by decide +kernel
theorem dX10_groupOf_76 : decode cX10_groupOf 76 = .ok (.lor, 1) := by decide +kernel
theorem dX10_groupOf_77 : decode cX10_groupOf 77 = .ok (.lstore_n 2, 1) := by decide +kernel
theorem dX10_groupOf_78 : decode cX10_groupOf 78 = .ok (.iinc 8 1, 3) := by decide +kernel
theorem dX10_groupOf_81 : decode cX10_groupOf 81 = .ok (.goto (-46), 3) := by decide +kernel
theorem dX10_groupOf_84 : decode cX10_groupOf 84 = .ok (.lload_n 2, 1) := by decide +kernel
theorem dX10_groupOf_85 : decode cX10_groupOf 85 = .ok (.lload 6, 2) := by decide +kernel
theorem dX10_groupOf_87 : decode cX10_groupOf 87 = .ok (.lcmp, 1) := by decide +kernel
theorem dX10_groupOf_88 : decode cX10_groupOf 88 = .ok (.ifCond .eq 7, 3) := by decide +kernel
theorem dX10_groupOf_91 : decode cX10_groupOf 91 = .ok (.iconst 1, 1) := by decide +kernel
theorem dX10_groupOf_92 : decode cX10_groupOf 92 = .ok (.goto 4, 3) := by decide +kernel
theorem dX10_groupOf_95 : decode cX10_groupOf 95 = .ok (.iconst 0, 1) := by decide +kernel
theorem dX10_groupOf_96 : decode cX10_groupOf 96 = .ok (.istore 4, 2) := by decide +kernel
theorem dX10_groupOf_98 : decode cX10_groupOf 98 = .ok (.iinc 5 1, 3) := by decide +kernel
theorem dX10_groupOf_101 : decode cX10_groupOf 101 = .ok (.goto (-91), 3) := by decide +kernel
theorem dX10_groupOf_104 : decode cX10_groupOf 104 = .ok (.lload_n 2, 1) := by decide +kernel
theorem dX10_groupOf_105 : decode cX10_groupOf 105 = .ok (.lreturn, 1) := by decide +kernel
theorem dX10_holds_0 : decode cX10_holds 0 = .ok (.lload_n 0, 1) := by decide +kernel
theorem dX10_holds_1 : decode cX10_holds 1 = .ok (.iload_n 2, 1) := by decide +kernel
theorem dX10_holds_2 : decode cX10_holds 2 = .ok (.lshr, 1) := by decide +kernel
theorem dX10_holds_3 : decode cX10_holds 3 = .ok (.lconst 1, 1) := by decide +kernel
theorem dX10_holds_4 : decode cX10_holds 4 = .ok (.land, 1) := by decide +kernel
theorem dX10_holds_5 : decode cX10_holds 5 = .ok (.lconst 0, 1) := by decide +kernel
theorem dX10_holds_6 : decode cX10_holds 6 = .ok (.lcmp, 1) := by decide +kernel
theorem dX10_holds_7 : decode cX10_holds 7 = .ok (.ifCond .eq 7, 3) := by decide +kernel
theorem dX10_holds_10 : decode cX10_holds 10 = .ok (.iconst 1, 1) := by decide +kernel
theorem dX10_holds_11 : decode cX10_holds 11 = .ok (.goto 4, 3) := by decide +kernel
theorem dX10_holds_14 : decode cX10_holds 14 = .ok (.iconst 0, 1) := by decide +kernel
theorem dX10_holds_15 : decode cX10_holds 15 = .ok (.ireturn, 1) := by decide +kernel
theorem dX10_spreadLowest_0 : decode cX10_spreadLowest 0 = .ok (.iconst 0, 1) := by decide +kernel
theorem dX10_spreadLowest_1 : decode cX10_spreadLowest 1 = .ok (.istore_n 1, 1) := by decide +kernel
theorem dX10_spreadLowest_2 : decode cX10_spreadLowest 2 = .ok (.iconst 0, 1) := by decide +kernel
theorem dX10_spreadLowest_3 : decode cX10_spreadLowest 3 = .ok (.istore_n 2, 1) := by decide +kernel
theorem dX10_spreadLowest_4 : decode cX10_spreadLowest 4 = .ok (.iload_n 2, 1) := by decide +kernel
theorem dX10_spreadLowest_5 : decode cX10_spreadLowest 5 = .ok (.aload_n 0, 1) := by decide +kernel
theorem dX10_spreadLowest_6 : decode cX10_spreadLowest 6 = .ok (.getfield 19, 3) := by decide +kernel
theorem dX10_spreadLowest_9 : decode cX10_spreadLowest 9 = .ok (.invokeinterface 85 1, 5) := by decide +kernel
theorem dX10_spreadLowest_14 : decode cX10_spreadLowest 14 = .ok (.if_icmp .ge 97, 3) := by decide +kernel
theorem dX10_spreadLowest_17 : decode cX10_spreadLowest 17 = .ok (.aload_n 0, 1) := by decide +kernel
theorem dX10_spreadLowest_18 : decode cX10_spreadLowest 18 = .ok (.getfield 19, 3) := by decide +kernel
theorem dX10_spreadLowest_21 : decode cX10_spreadLowest 21 = .ok (.iload_n 2, 1) := by decide +kernel
theorem dX10_spreadLowest_22 : decode cX10_spreadLowest 22 = .ok (.invokeinterface 184 2, 5) := by decide +kernel
theorem dX10_spreadLowest_27 : decode cX10_spreadLowest 27 = .ok (.checkcast 140, 3) := by decide +kernel
theorem dX10_spreadLowest_30 : decode cX10_spreadLowest 30 = .ok (.astore_n 3, 1) := by decide +kernel
theorem dX10_spreadLowest_31 : decode cX10_spreadLowest 31 = .ok (.iconst 0, 1) := by decide +kernel
theorem dX10_spreadLowest_32 : decode cX10_spreadLowest 32 = .ok (.istore 4, 2) := by decide +kernel
theorem dX10_spreadLowest_34 : decode cX10_spreadLowest 34 = .ok (.iload 4, 2) := by decide +kernel
theorem dX10_spreadLowest_36 : decode cX10_spreadLowest 36 = .ok (.aload_n 0, 1) := by decide +kernel
theorem dX10_spreadLowest_37 : decode cX10_spreadLowest 37 = .ok (.getfield 19, 3) := by decide +kernel
theorem dX10_spreadLowest_40 : decode cX10_spreadLowest 40 = .ok (.invokeinterface 85 1, 5) := by decide +kernel
theorem dX10_spreadLowest_45 : decode cX10_spreadLowest 45 = .ok (.if_icmp .ge 60, 3) := by decide +kernel
theorem dX10_spreadLowest_48 : decode cX10_spreadLowest 48 = .ok (.aload_n 0, 1) := by decide +kernel
theorem dX10_spreadLowest_49 : decode cX10_spreadLowest 49 = .ok (.getfield 19, 3) := by decide +kernel
theorem dX10_spreadLowest_52 : decode cX10_spreadLowest 52 = .ok (.iload 4, 2) := by decide +kernel
theorem dX10_spreadLowest_54 : decode cX10_spreadLowest 54 = .ok (.invokeinterface 184 2, 5) := by decide +kernel
theorem dX10_spreadLowest_59 : decode cX10_spreadLowest 59 = .ok (.checkcast 140, 3) := by decide +kernel
theorem dX10_spreadLowest_62 : decode cX10_spreadLowest 62 = .ok (.astore 5, 2) := by decide +kernel
theorem dX10_spreadLowest_64 : decode cX10_spreadLowest 64 = .ok (.aload_n 3, 1) := by decide +kernel
theorem dX10_spreadLowest_65 : decode cX10_spreadLowest 65 = .ok (.getfield 180, 3) := by decide +kernel
theorem dX10_spreadLowest_68 : decode cX10_spreadLowest 68 = .ok (.iload 4, 2) := by decide +kernel
theorem dX10_spreadLowest_70 : decode cX10_spreadLowest 70 = .ok (.invokestatic 401, 3) := by decide +kernel
theorem dX10_spreadLowest_73 : decode cX10_spreadLowest 73 = .ok (.ifCond .eq 26, 3) := by decide +kernel
theorem dX10_spreadLowest_76 : decode cX10_spreadLowest 76 = .ok (.aload 5, 2) := by decide +kernel
theorem dX10_spreadLowest_78 : decode cX10_spreadLowest 78 = .ok (.getfield 188, 3) := by decide +kernel
theorem dX10_spreadLowest_81 : decode cX10_spreadLowest 81 = .ok (.aload_n 3, 1) := by decide +kernel
theorem dX10_spreadLowest_82 : decode cX10_spreadLowest 82 = .ok (.getfield 188, 3) := by decide +kernel
theorem dX10_spreadLowest_85 : decode cX10_spreadLowest 85 = .ok (.if_icmp .ge 14, 3) := by decide +kernel
theorem dX10_spreadLowest_88 : decode cX10_spreadLowest 88 = .ok (.aload_n 3, 1) := by decide +kernel
theorem dX10_spreadLowest_89 : decode cX10_spreadLowest 89 = .ok (.aload 5, 2) := by decide +kernel
theorem dX10_spreadLowest_91 : decode cX10_spreadLowest 91 = .ok (.getfield 188, 3) := by decide +kernel
theorem dX10_spreadLowest_94 : decode cX10_spreadLowest 94 = .ok (.putfield 188, 3) := by decide +kernel
theorem dX10_spreadLowest_97 : decode cX10_spreadLowest 97 = .ok (.iconst 1, 1) := by decide +kernel
theorem dX10_spreadLowest_98 : decode cX10_spreadLowest 98 = .ok (.istore_n 1, 1) := by decide +kernel
theorem dX10_spreadLowest_99 : decode cX10_spreadLowest 99 = .ok (.iinc 4 1, 3) := by decide +kernel
theorem dX10_spreadLowest_102 : decode cX10_spreadLowest 102 = .ok (.goto (-68), 3) := by decide +kernel
theorem dX10_spreadLowest_105 : decode cX10_spreadLowest 105 = .ok (.iinc 2 1, 3) := by decide +kernel
theorem dX10_spreadLowest_108 : decode cX10_spreadLowest 108 = .ok (.goto (-104), 3) := by decide +kernel
theorem dX10_spreadLowest_111 : decode cX10_spreadLowest 111 = .ok (.iload_n 1, 1) := by decide +kernel
theorem dX10_spreadLowest_112 : decode cX10_spreadLowest 112 = .ok (.ireturn, 1) := by decide +kernel
theorem dX10_countFireballs_0 : decode cX10_countFireballs 0 = .ok (.iconst 0, 1) := by decide +kernel
theorem dX10_countFireballs_1 : decode cX10_countFireballs 1 = .ok (.istore 4, 2) := by decide +kernel
theorem dX10_countFireballs_3 : decode cX10_countFireballs 3 = .ok (.iconst 0, 1) := by decide +kernel
theorem dX10_countFireballs_4 : decode cX10_countFireballs 4 = .ok (.istore 5, 2) := by decide +kernel
theorem dX10_countFireballs_6 : decode cX10_countFireballs 6 = .ok (.iload 5, 2) := by decide +kernel
theorem dX10_countFireballs_8 : decode cX10_countFireballs 8 = .ok (.aload_n 0, 1) := by decide +kernel
theorem dX10_countFireballs_9 : decode cX10_countFireballs 9 = .ok (.getfield 26, 3) := by decide +kernel
theorem dX10_countFireballs_12 : decode cX10_countFireballs 12 = .ok (.invokeinterface 85 1, 5) := by decide +kernel
theorem dX10_countFireballs_17 : decode cX10_countFireballs 17 = .ok (.if_icmp .ge 65, 3) := by decide +kernel
theorem dX10_countFireballs_20 : decode cX10_countFireballs 20 = .ok (.aload_n 0, 1) := by decide +kernel
theorem dX10_countFireballs_21 : decode cX10_countFireballs 21 = .ok (.getfield 26, 3) := by decide +kernel
theorem dX10_countFireballs_24 : decode cX10_countFireballs 24 = .ok (.iload 5, 2) := by decide +kernel
theorem dX10_countFireballs_26 : decode cX10_countFireballs 26 = .ok (.invokeinterface 184 2, 5) := by decide +kernel
theorem dX10_countFireballs_31 : decode cX10_countFireballs 31 = .ok (.checkcast 68, 3) := by decide +kernel
theorem dX10_countFireballs_34 : decode cX10_countFireballs 34 = .ok (.astore 6, 2) := by decide +kernel
theorem dX10_countFireballs_36 : decode cX10_countFireballs 36 = .ok (.aload 6, 2) := by decide +kernel
theorem dX10_countFireballs_38 : decode cX10_countFireballs 38 = .ok (.invokevirtual 365, 3) := by decide +kernel
theorem dX10_countFireballs_41 : decode cX10_countFireballs 41 = .ok (.ifCond .eq 35, 3) := by decide +kernel
theorem dX10_countFireballs_44 : decode cX10_countFireballs 44 = .ok (.aload 6, 2) := by decide +kernel
theorem dX10_countFireballs_46 : decode cX10_countFireballs 46 = .ok (.getfield 419, 3) := by decide +kernel
theorem dX10_countFireballs_49 : decode cX10_countFireballs 49 = .ok (.iload_n 1, 1) := by decide +kernel
theorem dX10_countFireballs_50 : decode cX10_countFireballs 50 = .ok (.if_icmp .lt 26, 3) := by decide +kernel
theorem dX10_countFireballs_53 : decode cX10_countFireballs 53 = .ok (.aload 6, 2) := by decide +kernel
theorem dX10_countFireballs_55 : decode cX10_countFireballs 55 = .ok (.getfield 419, 3) := by decide +kernel
theorem dX10_countFireballs_58 : decode cX10_countFireballs 58 = .ok (.iload_n 2, 1) := by decide +kernel
theorem dX10_countFireballs_59 : decode cX10_countFireballs 59 = .ok (.if_icmp .gt 17, 3) := by decide +kernel
theorem dX10_countFireballs_62 : decode cX10_countFireballs 62 = .ok (.aload 6, 2) := by decide +kernel
theorem dX10_countFireballs_64 : decode cX10_countFireballs 64 = .ok (.getfield 420, 3) := by decide +kernel
theorem dX10_countFireballs_67 : decode cX10_countFireballs 67 = .ok (.iload_n 3, 1) := by decide +kernel
theorem dX10_countFireballs_68 : decode cX10_countFireballs 68 = .ok (.i2l, 1) := by decide +kernel
theorem dX10_countFireballs_69 : decode cX10_countFireballs 69 = .ok (.lcmp, 1) := by decide +kernel
theorem dX10_countFireballs_70 : decode cX10_countFireballs 70 = .ok (.ifCond .lt 6, 3) := by decide +kernel
theorem dX10_countFireballs_73 : decode cX10_countFireballs 73 = .ok (.iinc 4 1, 3) := by decide +kernel
theorem dX10_countFireballs_76 : decode cX10_countFireballs 76 = .ok (.iinc 5 1, 3) := by decide +kernel
theorem dX10_countFireballs_79 : decode cX10_countFireballs 79 = .ok (.goto (-73), 3) := by decide +kernel
theorem dX10_countFireballs_82 : decode cX10_countFireballs 82 = .ok (.iload 4, 2) := by decide +kernel
theorem dX10_countFireballs_84 : decode cX10_countFireballs 84 = .ok (.ireturn, 1) := by decide +kernel
theorem dX10_windOf_0 : decode cX10_windOf 0 = .ok (.iconst 0, 1) := by decide +kernel
theorem dX10_windOf_1 : decode cX10_windOf 1 = .ok (.istore_n 2, 1) := by decide +kernel
theorem dX10_windOf_2 : decode cX10_windOf 2 = .ok (.iload_n 2, 1) := by decide +kernel
theorem dX10_windOf_3 : decode cX10_windOf 3 = .ok (.aload_n 0, 1) := by decide +kernel
theorem dX10_windOf_4 : decode cX10_windOf 4 = .ok (.getfield 39, 3) := by decide +kernel
theorem dX10_windOf_7 : decode cX10_windOf 7 = .ok (.invokeinterface 85 1, 5) := by decide +kernel
theorem dX10_windOf_12 : decode cX10_windOf 12 = .ok (.if_icmp .ge 43, 3) := by decide +kernel
theorem dX10_windOf_15 : decode cX10_windOf 15 = .ok (.aload_n 0, 1) := by decide +kernel
theorem dX10_windOf_16 : decode cX10_windOf 16 = .ok (.getfield 39, 3) := by decide +kernel
theorem dX10_windOf_19 : decode cX10_windOf 19 = .ok (.iload_n 2, 1) := by decide +kernel
theorem dX10_windOf_20 : decode cX10_windOf 20 = .ok (.invokeinterface 184 2, 5) := by decide +kernel
theorem dX10_windOf_25 : decode cX10_windOf 25 = .ok (.checkcast 221, 3) := by decide +kernel
theorem dX10_windOf_28 : decode cX10_windOf 28 = .ok (.getfield 423, 3) := by decide +kernel
theorem dX10_windOf_31 : decode cX10_windOf 31 = .ok (.iload_n 1, 1) := by decide +kernel
theorem dX10_windOf_32 : decode cX10_windOf 32 = .ok (.if_icmp .ne 17, 3) := by decide +kernel
theorem dX10_windOf_35 : decode cX10_windOf 35 = .ok (.aload_n 0, 1) := by decide +kernel
theorem dX10_windOf_36 : decode cX10_windOf 36 = .ok (.getfield 39, 3) := by decide +kernel
theorem dX10_windOf_39 : decode cX10_windOf 39 = .ok (.iload_n 2, 1) := by decide +kernel
theorem dX10_windOf_40 : decode cX10_windOf 40 = .ok (.invokeinterface 184 2, 5) := by decide +kernel
theorem dX10_windOf_45 : decode cX10_windOf 45 = .ok (.checkcast 221, 3) := by decide +kernel
theorem dX10_windOf_48 : decode cX10_windOf 48 = .ok (.areturn, 1) := by decide +kernel
theorem dX10_windOf_49 : decode cX10_windOf 49 = .ok (.iinc 2 1, 3) := by decide +kernel
theorem dX10_windOf_52 : decode cX10_windOf 52 = .ok (.goto (-50), 3) := by decide +kernel
theorem dX10_windOf_55 : decode cX10_windOf 55 = .ok (.aconst_null, 1) := by decide +kernel
theorem dX10_windOf_56 : decode cX10_windOf 56 = .ok (.areturn, 1) := by decide +kernel
theorem dX10_wasWalked_0 : decode cX10_wasWalked 0 = .ok (.iconst 0, 1) := by decide +kernel
theorem dX10_wasWalked_1 : decode cX10_wasWalked 1 = .ok (.istore 4, 2) := by decide +kernel
theorem dX10_wasWalked_3 : decode cX10_wasWalked 3 = .ok (.iload 4, 2) := by decide +kernel
theorem dX10_wasWalked_5 : decode cX10_wasWalked 5 = .ok (.aload_n 0, 1) := by decide +kernel
theorem dX10_wasWalked_6 : decode cX10_wasWalked 6 = .ok (.getfield 42, 3) := by decide +kernel
theorem dX10_wasWalked_9 : decode cX10_wasWalked 9 = .ok (.invokeinterface 85 1, 5) := by decide +kernel
theorem dX10_wasWalked_14 : decode cX10_wasWalked 14 = .ok (.if_icmp .ge 34, 3) := by decide +kernel
theorem dX10_wasWalked_17 : decode cX10_wasWalked 17 = .ok (.aload_n 0, 1) := by decide +kernel
theorem dX10_wasWalked_18 : decode cX10_wasWalked 18 = .ok (.getfield 42, 3) := by decide +kernel
theorem dX10_wasWalked_21 : decode cX10_wasWalked 21 = .ok (.iload 4, 2) := by decide +kernel
theorem dX10_wasWalked_23 : decode cX10_wasWalked 23 = .ok (.invokeinterface 184 2, 5) := by decide +kernel
theorem dX10_wasWalked_28 : decode cX10_wasWalked 28 = .ok (.checkcast 233, 3) := by decide +kernel
theorem dX10_wasWalked_31 : decode cX10_wasWalked 31 = .ok (.iload_n 1, 1) := by decide +kernel
theorem dX10_wasWalked_32 : decode cX10_wasWalked 32 = .ok (.iload_n 2, 1) := by decide +kernel
theorem dX10_wasWalked_33 : decode cX10_wasWalked 33 = .ok (.iload_n 3, 1) := by decide +kernel
theorem dX10_wasWalked_34 : decode cX10_wasWalked 34 = .ok (.invokevirtual 424, 3) := by decide +kernel
theorem dX10_wasWalked_37 : decode cX10_wasWalked 37 = .ok (.ifCond .eq 5, 3) := by decide +kernel
theorem dX10_wasWalked_40 : decode cX10_wasWalked 40 = .ok (.iconst 1, 1) := by decide +kernel
theorem dX10_wasWalked_41 : decode cX10_wasWalked 41 = .ok (.ireturn, 1) := by decide +kernel
theorem dX10_wasWalked_42 : decode cX10_wasWalked 42 = .ok (.iinc 4 1, 3) := by decide +kernel
theorem dX10_wasWalked_45 : decode cX10_wasWalked 45 = .ok (.goto (-42), 3) := by decide +kernel
theorem dX10_wasWalked_48 : decode cX10_wasWalked 48 = .ok (.iconst 0, 1) := by decide +kernel
theorem dX10_wasWalked_49 : decode cX10_wasWalked 49 = .ok (.ireturn, 1) := by decide +kernel
theorem dX10_chanceIn_0 : decode cX10_chanceIn 0 = .ok (.aload_n 0, 1) := by decide +kernel
theorem dX10_chanceIn_1 : decode cX10_chanceIn 1 = .ok (.aload_n 1, 1) := by decide +kernel
theorem dX10_chanceIn_2 : decode cX10_chanceIn 2 = .ok (.getfield 419, 3) := by decide +kernel
theorem dX10_chanceIn_5 : decode cX10_chanceIn 5 = .ok (.invokevirtual 215, 3) := by decide +kernel
theorem dX10_chanceIn_8 : decode cX10_chanceIn 8 = .ok (.astore 5, 2) := by decide +kernel
theorem dX10_chanceIn_10 : decode cX10_chanceIn 10 = .ok (.aload 5, 2) := by decide +kernel
theorem dX10_chanceIn_12 : decode cX10_chanceIn 12 = .ok (.ifnonnull 16, 3) := by decide +kernel
theorem dX10_chanceIn_15 : decode cX10_chanceIn 15 = .ok (.aload_n 0, 1) := by decide +kernel
theorem dX10_chanceIn_16 : decode cX10_chanceIn 16 = .ok (.getfield 48, 3) := by decide +kernel
theorem dX10_chanceIn_19 : decode cX10_chanceIn 19 = .ok (.aload_n 1, 1) := by decide +kernel
theorem dX10_chanceIn_20 : decode cX10_chanceIn 20 = .ok (.iconst 0, 1) := by decide +kernel
theorem dX10_chanceIn_21 : decode cX10_chanceIn 21 = .ok (.iconst 0, 1) := by decide +kernel
theorem dX10_chanceIn_22 : decode cX10_chanceIn 22 = .ok (.invokevirtual 427, 3) := by decide +kernel
theorem dX10_chanceIn_25 : decode cX10_chanceIn 25 = .ok (.goto 21, 3) := by decide +kernel
theorem dX10_chanceIn_28 : decode cX10_chanceIn 28 = .ok (.aload_n 0, 1) := by decide +kernel
theorem dX10_chanceIn_29 : decode cX10_chanceIn 29 = .ok (.getfield 48, 3) := by decide +kernel
theorem dX10_chanceIn_32 : decode cX10_chanceIn 32 = .ok (.aload_n 1, 1) := by decide +kernel
theorem dX10_chanceIn_33 : decode cX10_chanceIn 33 = .ok (.aload 5, 2) := by decide +kernel
theorem dX10_chanceIn_35 : decode cX10_chanceIn 35 = .ok (.getfield 225, 3) := by decide +kernel
theorem dX10_chanceIn_38 : decode cX10_chanceIn 38 = .ok (.aload 5, 2) := by decide +kernel
theorem dX10_chanceIn_40 : decode cX10_chanceIn 40 = .ok (.getfield 228, 3) := by decide +kernel
theorem dX10_chanceIn_43 : decode cX10_chanceIn 43 = .ok (.invokevirtual 427, 3) := by decide +kernel
theorem dX10_chanceIn_46 : decode cX10_chanceIn 46 = .ok (.aload_n 0, 1) := by decide +kernel
theorem dX10_chanceIn_47 : decode cX10_chanceIn 47 = .ok (.aload_n 0, 1) := by decide +kernel
theorem dX10_chanceIn_48 : decode cX10_chanceIn 48 = .ok (.getfield 48, 3) := by decide +kernel
theorem dX10_chanceIn_51 : decode cX10_chanceIn 51 = .ok (.iload_n 3, 1) := by decide +kernel
theorem dX10_chanceIn_52 : decode cX10_chanceIn 52 = .ok (.iload 4, 2) := by decide +kernel
theorem dX10_chanceIn_54 : decode cX10_chanceIn 54 = .ok (.invokevirtual 431, 3) := by decide +kernel
theorem dX10_chanceIn_57 : decode cX10_chanceIn 57 = .ok (.iload_n 2, 1) := by decide +kernel
theorem dX10_chanceIn_58 : decode cX10_chanceIn 58 = .ok (.iload_n 3, 1) := by decide +kernel
theorem dX10_chanceIn_59 : decode cX10_chanceIn 59 = .ok (.iload 4, 2) := by decide +kernel
theorem dX10_chanceIn_61 : decode cX10_chanceIn 61 = .ok (.invokevirtual 435, 3) := by decide +kernel
theorem dX10_chanceIn_64 : decode cX10_chanceIn 64 = .ok (.ldc2_w 439, 3) := by decide +kernel
theorem dX10_chanceIn_67 : decode cX10_chanceIn 67 = .ok (.lmul, 1) := by decide +kernel
theorem dX10_chanceIn_68 : decode cX10_chanceIn 68 = .ok (.aload_n 0, 1) := by decide +kernel
theorem dX10_chanceIn_69 : decode cX10_chanceIn 69 = .ok (.iload_n 2, 1) := by decide +kernel
theorem dX10_chanceIn_70 : decode cX10_chanceIn 70 = .ok (.invokevirtual 441, 3) := by decide +kernel
theorem dX10_chanceIn_73 : decode cX10_chanceIn 73 = .ok (.invokestatic 444, 3) := by decide +kernel
theorem dX10_chanceIn_76 : decode cX10_chanceIn 76 = .ok (.lreturn, 1) := by decide +kernel
theorem dX10_weightLeft_0 : decode cX10_weightLeft 0 = .ok (.lload_n 1, 1) := by decide +kernel
theorem dX10_weightLeft_1 : decode cX10_weightLeft 1 = .ok (.lstore 6, 2) := by decide +kernel
theorem dX10_weightLeft_3 : decode cX10_weightLeft 3 = .ok (.iconst 0, 1) := by decide +kernel
theorem dX10_weightLeft_4 : decode cX10_weightLeft 4 = .ok (.istore 8, 2) := by decide +kernel
theorem dX10_weightLeft_6 : decode cX10_weightLeft 6 = .ok (.iload 8, 2) := by decide +kernel
theorem dX10_weightLeft_8 : decode cX10_weightLeft 8 = .ok (.aload_n 0, 1) := by decide +kernel
theorem dX10_weightLeft_9 : decode cX10_weightLeft 9 = .ok (.getfield 42, 3) := by decide +kernel
theorem dX10_weightLeft_12 : decode cX10_weightLeft 12 = .ok (.invokeinterface 85 1, 5) := by decide +kernel
theorem dX10_weightLeft_17 : decode cX10_weightLeft 17 = .ok (.if_icmp .ge 56, 3) := by decide +kernel
theorem dX10_weightLeft_20 : decode cX10_weightLeft 20 = .ok (.aload_n 0, 1) := by decide +kernel
theorem dX10_weightLeft_21 : decode cX10_weightLeft 21 = .ok (.getfield 42, 3) := by decide +kernel
theorem dX10_weightLeft_24 : decode cX10_weightLeft 24 = .ok (.iload 8, 2) := by decide +kernel
theorem dX10_weightLeft_26 : decode cX10_weightLeft 26 = .ok (.invokeinterface 184 2, 5) := by decide +kernel
theorem dX10_weightLeft_31 : decode cX10_weightLeft 31 = .ok (.checkcast 233, 3) := by decide +kernel
theorem dX10_weightLeft_34 : decode cX10_weightLeft 34 = .ok (.astore 9, 2) := by decide +kernel
theorem dX10_weightLeft_36 : decode cX10_weightLeft 36 = .ok (.aload 9, 2) := by decide +kernel
theorem dX10_weightLeft_38 : decode cX10_weightLeft 38 = .ok (.iload_n 3, 1) := by decide +kernel
theorem dX10_weightLeft_39 : decode cX10_weightLeft 39 = .ok (.iload 4, 2) := by decide +kernel
theorem dX10_weightLeft_41 : decode cX10_weightLeft 41 = .ok (.iload 5, 2) := by decide +kernel
theorem dX10_weightLeft_43 : decode cX10_weightLeft 43 = .ok (.invokevirtual 424, 3) := by decide +kernel
theorem dX10_weightLeft_46 : decode cX10_weightLeft 46 = .ok (.ifCond .eq 21, 3) := by decide +kernel
theorem dX10_weightLeft_49 : decode cX10_weightLeft 49 = .ok (.lload 6, 2) := by decide +kernel
theorem dX10_weightLeft_51 : decode cX10_weightLeft 51 = .ok (.bipush 100, 2) := by decide +kernel
theorem dX10_weightLeft_53 : decode cX10_weightLeft 53 = .ok (.aload 9, 2) := by decide +kernel
theorem dX10_weightLeft_55 : decode cX10_weightLeft 55 = .ok (.getfield 448, 3) := by decide +kernel
theorem dX10_weightLeft_58 : decode cX10_weightLeft 58 = .ok (.isub, 1) := by decide +kernel
theorem dX10_weightLeft_59 : decode cX10_weightLeft 59 = .ok (.i2l, 1) := by decide +kernel
theorem dX10_weightLeft_60 : decode cX10_weightLeft 60 = .ok (.lmul, 1) := by decide +kernel
theorem dX10_weightLeft_61 : decode cX10_weightLeft 61 = .ok (.ldc2_w 451, 3) := by decide +kernel
theorem dX10_weightLeft_64 : decode cX10_weightLeft 64 = .ok (.ldiv, 1) := by decide +kernel
theorem dX10_weightLeft_65 : decode cX10_weightLeft 65 = .ok (.lstore 6, 2) := by decide +kernel
theorem dX10_weightLeft_67 : decode cX10_weightLeft 67 = .ok (.iinc 8 1, 3) := by decide +kernel
theorem dX10_weightLeft_70 : decode cX10_weightLeft 70 = .ok (.goto (-64), 3) := by decide +kernel
theorem dX10_weightLeft_73 : decode cX10_weightLeft 73 = .ok (.lload 6, 2) := by decide +kernel
theorem dX10_weightLeft_75 : decode cX10_weightLeft 75 = .ok (.lreturn, 1) := by decide +kernel
theorem dX10_weightOfGround_0 : decode cX10_weightOfGround 0 = .ok (.aload_n 0, 1) := by decide +kernel
theorem dX10_weightOfGround_1 : decode cX10_weightOfGround 1 = .ok (.getfield 48, 3) := by decide +kernel
theorem dX10_weightOfGround_4 : decode cX10_weightOfGround 4 = .ok (.invokevirtual 453, 3) := by decide +kernel
theorem dX10_weightOfGround_7 : decode cX10_weightOfGround 7 = .ok (.lstore_n 2, 1) := by decide +kernel
theorem dX10_weightOfGround_8 : decode cX10_weightOfGround 8 = .ok (.iconst 0, 1) := by decide +kernel
theorem dX10_weightOfGround_9 : decode cX10_weightOfGround 9 = .ok (.istore 4, 2) := by decide +kernel
theorem dX10_weightOfGround_11 : decode cX10_weightOfGround 11 = .ok (.iload 4, 2) := by decide +kernel
theorem dX10_weightOfGround_13 : decode cX10_weightOfGround 13 = .ok (.aload_n 0, 1) := by decide +kernel
theorem dX10_weightOfGround_14 : decode cX10_weightOfGround 14 = .ok (.getfield 42, 3) := by decide +kernel
theorem dX10_weightOfGround_17 : decode cX10_weightOfGround 17 = .ok (.invokeinterface 85 1, 5) := by decide +kernel
theorem dX10_weightOfGround_22 : decode cX10_weightOfGround 22 = .ok (.if_icmp .ge 84, 3) := by decide +kernel
theorem dX10_weightOfGround_25 : decode cX10_weightOfGround 25 = .ok (.aload_n 0, 1) := by decide +kernel
theorem dX10_weightOfGround_26 : decode cX10_weightOfGround 26 = .ok (.getfield 42, 3) := by decide +kernel
theorem dX10_weightOfGround_29 : decode cX10_weightOfGround 29 = .ok (.iload 4, 2) := by decide +kernel
theorem dX10_weightOfGround_31 : decode cX10_weightOfGround 31 = .ok (.invokeinterface 184 2, 5) := by decide +kernel
theorem dX10_weightOfGround_36 : decode cX10_weightOfGround 36 = .ok (.checkcast 233, 3) := by decide +kernel
theorem dX10_weightOfGround_39 : decode cX10_weightOfGround 39 = .ok (.astore 5, 2) := by decide +kernel
theorem dX10_weightOfGround_41 : decode cX10_weightOfGround 41 = .ok (.aload 5, 2) := by decide +kernel
theorem dX10_weightOfGround_43 : decode cX10_weightOfGround 43 = .ok (.getfield 456, 3) := by decide +kernel
theorem dX10_weightOfGround_46 : decode cX10_weightOfGround 46 = .ok (.ifCond .eq 54, 3) := by decide +kernel
theorem dX10_weightOfGround_49 : decode cX10_weightOfGround 49 = .ok (.aload 5, 2) := by decide +kernel
theorem dX10_weightOfGround_51 : decode cX10_weightOfGround 51 = .ok (.getfield 459, 3) := by decide +kernel
theorem dX10_weightOfGround_54 : decode cX10_weightOfGround 54 = .ok (.iload_n 1, 1) := by decide +kernel
theorem dX10_weightOfGround_55 : decode cX10_weightOfGround 55 = .ok (.if_icmp .ne 45, 3) := by decide +kernel
theorem dX10_weightOfGround_58 : decode cX10_weightOfGround 58 = .ok (.aload_n 0, 1) := by decide +kernel
theorem dX10_weightOfGround_59 : decode cX10_weightOfGround 59 = .ok (.getfield 48, 3) := by decide +kernel
theorem dX10_weightOfGround_62 : decode cX10_weightOfGround 62 = .ok (.aload 5, 2) := by decide +kernel
theorem dX10_weightOfGround_64 : decode cX10_weightOfGround 64 = .ok (.getfield 460, 3) := by decide +kernel
theorem dX10_weightOfGround_67 : decode cX10_weightOfGround 67 = .ok (.aload 5, 2) := by decide +kernel
theorem dX10_weightOfGround_69 : decode cX10_weightOfGround 69 = .ok (.getfield 461, 3) := by decide +kernel
theorem dX10_weightOfGround_72 : decode cX10_weightOfGround 72 = .ok (.invokevirtual 431, 3) := by decide +kernel
theorem dX10_weightOfGround_75 : decode cX10_weightOfGround 75 = .ok (.lstore 6, 2) := by decide +kernel
theorem dX10_weightOfGround_77 : decode cX10_weightOfGround 77 = .ok (.lload_n 2, 1) := by decide +kernel
theorem dX10_weightOfGround_78 : decode cX10_weightOfGround 78 = .ok (.aload_n 0, 1) := by decide +kernel
theorem dX10_weightOfGround_79 : decode cX10_weightOfGround 79 = .ok (.lload 6, 2) := by decide +kernel
theorem dX10_weightOfGround_81 : decode cX10_weightOfGround 81 = .ok (.iload_n 1, 1) := by decide +kernel
theorem dX10_weightOfGround_82 : decode cX10_weightOfGround 82 = .ok (.aload 5, 2) := by decide +kernel
theorem dX10_weightOfGround_84 : decode cX10_weightOfGround 84 = .ok (.getfield 460, 3) := by decide +kernel
theorem dX10_weightOfGround_87 : decode cX10_weightOfGround 87 = .ok (.aload 5, 2) := by decide +kernel
theorem dX10_weightOfGround_89 : decode cX10_weightOfGround 89 = .ok (.getfield 461, 3) := by decide +kernel
theorem dX10_weightOfGround_92 : decode cX10_weightOfGround 92 = .ok (.invokevirtual 435, 3) := by decide +kernel
theorem dX10_weightOfGround_95 : decode cX10_weightOfGround 95 = .ok (.lload 6, 2) := by decide +kernel
theorem dX10_weightOfGround_97 : decode cX10_weightOfGround 97 = .ok (.lsub, 1) := by decide +kernel
theorem dX10_weightOfGround_98 : decode cX10_weightOfGround 98 = .ok (.ladd, 1) := by decide +kernel
theorem dX10_weightOfGround_99 : decode cX10_weightOfGround 99 = .ok (.lstore_n 2, 1) := by decide +kernel
theorem dX10_weightOfGround_100 : decode cX10_weightOfGround 100 = .ok (.iinc 4 1, 3) := by decide +kernel
theorem dX10_weightOfGround_103 : decode cX10_weightOfGround 103 = .ok (.goto (-92), 3) := by decide +kernel
theorem dX10_weightOfGround_106 : decode cX10_weightOfGround 106 = .ok (.lload_n 2, 1) := by decide +kernel
theorem dX10_weightOfGround_107 : decode cX10_weightOfGround 107 = .ok (.lreturn, 1) := by decide +kernel
theorem dX10_fallOf_0 : decode cX10_fallOf 0 = .ok (.iconst (-1), 1) := by decide +kernel
theorem dX10_fallOf_1 : decode cX10_fallOf 1 = .ok (.istore_n 2, 1) := by decide +kernel
theorem dX10_fallOf_2 : decode cX10_fallOf 2 = .ok (.lconst 0, 1) := by decide +kernel
theorem dX10_fallOf_3 : decode cX10_fallOf 3 = .ok (.lstore_n 3, 1) := by decide +kernel
theorem dX10_fallOf_4 : decode cX10_fallOf 4 = .ok (.iconst 0, 1) := by decide +kernel
theorem dX10_fallOf_5 : decode cX10_fallOf 5 = .ok (.istore 5, 2) := by decide +kernel
theorem dX10_fallOf_7 : decode cX10_fallOf 7 = .ok (.iload 5, 2) := by decide +kernel
theorem dX10_fallOf_9 : decode cX10_fallOf 9 = .ok (.aload_n 0, 1) := by decide +kernel
theorem dX10_fallOf_10 : decode cX10_fallOf 10 = .ok (.getfield 26, 3) := by decide +kernel
theorem dX10_fallOf_13 : decode cX10_fallOf 13 = .ok (.invokeinterface 85 1, 5) := by decide +kernel
theorem dX10_fallOf_18 : decode cX10_fallOf 18 = .ok (.if_icmp .ge 76, 3) := by decide +kernel
theorem dX10_fallOf_21 : decode cX10_fallOf 21 = .ok (.aload_n 0, 1) := by decide +kernel
theorem dX10_fallOf_22 : decode cX10_fallOf 22 = .ok (.getfield 26, 3) := by decide +kernel
theorem dX10_fallOf_25 : decode cX10_fallOf 25 = .ok (.iload 5, 2) := by decide +kernel
theorem dX10_fallOf_27 : decode cX10_fallOf 27 = .ok (.invokeinterface 184 2, 5) := by decide +kernel
theorem dX10_fallOf_32 : decode cX10_fallOf 32 = .ok (.checkcast 68, 3) := by decide +kernel
theorem dX10_fallOf_35 : decode cX10_fallOf 35 = .ok (.astore 6, 2) := by decide +kernel
theorem dX10_fallOf_37 : decode cX10_fallOf 37 = .ok (.aload 6, 2) := by decide +kernel
theorem dX10_fallOf_39 : decode cX10_fallOf 39 = .ok (.invokevirtual 365, 3) := by decide +kernel
theorem dX10_fallOf_42 : decode cX10_fallOf 42 = .ok (.ifCond .eq 46, 3) := by decide +kernel
theorem dX10_fallOf_45 : decode cX10_fallOf 45 = .ok (.aload 6, 2) := by decide +kernel
theorem dX10_fallOf_47 : decode cX10_fallOf 47 = .ok (.getfield 419, 3) := by decide +kernel
theorem dX10_fallOf_50 : decode cX10_fallOf 50 = .ok (.aload_n 1, 1) := by decide +kernel
theorem dX10_fallOf_51 : decode cX10_fallOf 51 = .ok (.getfield 462, 3) := by decide +kernel
theorem dX10_fallOf_54 : decode cX10_fallOf 54 = .ok (.if_icmp .gt 34, 3) := by decide +kernel
theorem dX10_fallOf_57 : decode cX10_fallOf 57 = .ok (.aload_n 0, 1) := by decide +kernel
theorem dX10_fallOf_58 : decode cX10_fallOf 58 = .ok (.aload 6, 2) := by decide +kernel
theorem dX10_fallOf_60 : decode cX10_fallOf 60 = .ok (.iload 5, 2) := by decide +kernel
theorem dX10_fallOf_62 : decode cX10_fallOf 62 = .ok (.aload_n 1, 1) := by decide +kernel
theorem dX10_fallOf_63 : decode cX10_fallOf 63 = .ok (.getfield 325, 3) := by decide +kernel
theorem dX10_fallOf_66 : decode cX10_fallOf 66 = .ok (.aload_n 1, 1) := by decide +kernel
theorem dX10_fallOf_67 : decode cX10_fallOf 67 = .ok (.getfield 326, 3) := by decide +kernel
theorem dX10_fallOf_70 : decode cX10_fallOf 70 = .ok (.invokevirtual 242, 3) := by decide +kernel
theorem dX10_fallOf_73 : decode cX10_fallOf 73 = .ok (.lstore 7, 2) := by decide +kernel
theorem dX10_fallOf_75 : decode cX10_fallOf 75 = .ok (.lload 7, 2) := by decide +kernel
theorem dX10_fallOf_77 : decode cX10_fallOf 77 = .ok (.lload_n 3, 1) := by decide +kernel
theorem dX10_fallOf_78 : decode cX10_fallOf 78 = .ok (.lcmp, 1) := by decide +kernel
theorem dX10_fallOf_79 : decode cX10_fallOf 79 = .ok (.ifCond .le 9, 3) := by decide +kernel
theorem dX10_fallOf_82 : decode cX10_fallOf 82 = .ok (.lload 7, 2) := by decide +kernel
theorem dX10_fallOf_84 : decode cX10_fallOf 84 = .ok (.lstore_n 3, 1) := by decide +kernel
theorem dX10_fallOf_85 : decode cX10_fallOf 85 = .ok (.iload 5, 2) := by decide +kernel
theorem dX10_fallOf_87 : decode cX10_fallOf 87 = .ok (.istore_n 2, 1) := by decide +kernel
theorem dX10_fallOf_88 : decode cX10_fallOf 88 = .ok (.iinc 5 1, 3) := by decide +kernel
theorem dX10_fallOf_91 : decode cX10_fallOf 91 = .ok (.goto (-84), 3) := by decide +kernel
theorem dX10_fallOf_94 : decode cX10_fallOf 94 = .ok (.iload_n 2, 1) := by decide +kernel
theorem dX10_fallOf_95 : decode cX10_fallOf 95 = .ok (.ireturn, 1) := by decide +kernel
theorem dX10_landOf_0 : decode cX10_landOf 0 = .ok (.iload_n 0, 1) := by decide +kernel
theorem dX10_landOf_1 : decode cX10_landOf 1 = .ok (.bipush 50, 2) := by decide +kernel
theorem dX10_landOf_3 : decode cX10_landOf 3 = .ok (.if_icmp .ge 7, 3) := by decide +kernel
theorem dX10_landOf_6 : decode cX10_landOf 6 = .ok (.iconst 0, 1) := by decide +kernel
theorem dX10_landOf_7 : decode cX10_landOf 7 = .ok (.goto 4, 3) := by decide +kernel
theorem dX10_landOf_10 : decode cX10_landOf 10 = .ok (.iconst 1, 1) := by decide +kernel
theorem dX10_landOf_11 : decode cX10_landOf 11 = .ok (.iload_n 1, 1) := by decide +kernel
theorem dX10_landOf_12 : decode cX10_landOf 12 = .ok (.bipush 50, 2) := by decide +kernel
theorem dX10_landOf_14 : decode cX10_landOf 14 = .ok (.if_icmp .ge 7, 3) := by decide +kernel
theorem dX10_landOf_17 : decode cX10_landOf 17 = .ok (.iconst 0, 1) := by decide +kernel
theorem dX10_landOf_18 : decode cX10_landOf 18 = .ok (.goto 4, 3) := by decide +kernel
theorem dX10_landOf_21 : decode cX10_landOf 21 = .ok (.iconst 2, 1) := by decide +kernel
theorem dX10_landOf_22 : decode cX10_landOf 22 = .ok (.iadd, 1) := by decide +kernel
theorem dX10_landOf_23 : decode cX10_landOf 23 = .ok (.ireturn, 1) := by decide +kernel
theorem dX10_lawIn_0 : decode cX10_lawIn 0 = .ok (.iload_n 1, 1) := by decide +kernel
theorem dX10_lawIn_1 : decode cX10_lawIn 1 = .ok (.ifCond .lt 21, 3) := by decide +kernel
theorem dX10_lawIn_4 : decode cX10_lawIn 4 = .ok (.iload_n 1, 1) := by decide +kernel
theorem dX10_lawIn_5 : decode cX10_lawIn 5 = .ok (.aload_n 0, 1) := by decide +kernel
theorem dX10_lawIn_6 : decode cX10_lawIn 6 = .ok (.getfield 61, 3) := by decide +kernel
theorem dX10_lawIn_9 : decode cX10_lawIn 9 = .ok (.arraylength, 1) := by decide +kernel
theorem dX10_lawIn_10 : decode cX10_lawIn 10 = .ok (.if_icmp .ge 12, 3) := by decide +kernel
theorem dX10_lawIn_13 : decode cX10_lawIn 13 = .ok (.aload_n 0, 1) := by decide +kernel
theorem dX10_lawIn_14 : decode cX10_lawIn 14 = .ok (.getfield 61, 3) := by decide +kernel
theorem dX10_lawIn_17 : decode cX10_lawIn 17 = .ok (.iload_n 1, 1) := by decide +kernel
theorem dX10_lawIn_18 : decode cX10_lawIn 18 = .ok (.iaload, 1) := by decide +kernel
theorem dX10_lawIn_19 : decode cX10_lawIn 19 = .ok (.goto 4, 3) := by decide +kernel
theorem dX10_lawIn_22 : decode cX10_lawIn 22 = .ok (.iconst 0, 1) := by decide +kernel
theorem dX10_lawIn_23 : decode cX10_lawIn 23 = .ok (.ireturn, 1) := by decide +kernel
theorem dX10_divided_0 : decode cX10_divided 0 = .ok (.lload_n 2, 1) := by decide +kernel
theorem dX10_divided_1 : decode cX10_divided 1 = .ok (.lconst 0, 1) := by decide +kernel
theorem dX10_divided_2 : decode cX10_divided 2 = .ok (.lcmp, 1) := by decide +kernel
theorem dX10_divided_3 : decode cX10_divided 3 = .ok (.ifCond .ne 7, 3) := by decide +kernel
theorem dX10_divided_6 : decode cX10_divided 6 = .ok (.lconst 0, 1) := by decide +kernel
theorem dX10_divided_7 : decode cX10_divided 7 = .ok (.goto 8, 3) := by decide +kernel
theorem dX10_divided_10 : decode cX10_divided 10 = .ok (.lload_n 0, 1) := by decide +kernel
theorem dX10_divided_11 : decode cX10_divided 11 = .ok (.lload_n 2, 1) := by decide +kernel
theorem dX10_divided_12 : decode cX10_divided 12 = .ok (.invokestatic 469, 3) := by decide +kernel
theorem dX10_divided_15 : decode cX10_divided 15 = .ok (.lreturn, 1) := by decide +kernel
theorem dX10_rootOf_0 : decode cX10_rootOf 0 = .ok (.lconst 0, 1) := by decide +kernel
theorem dX10_rootOf_1 : decode cX10_rootOf 1 = .ok (.lstore_n 2, 1) := by decide +kernel
theorem dX10_rootOf_2 : decode cX10_rootOf 2 = .ok (.bipush 30, 2) := by decide +kernel
theorem dX10_rootOf_4 : decode cX10_rootOf 4 = .ok (.istore 4, 2) := by decide +kernel
theorem dX10_rootOf_6 : decode cX10_rootOf 6 = .ok (.iload 4, 2) := by decide +kernel
theorem dX10_rootOf_8 : decode cX10_rootOf 8 = .ok (.ifCond .lt 30, 3) := by decide +kernel
theorem dX10_rootOf_11 : decode cX10_rootOf 11 = .ok (.lload_n 2, 1) := by decide +kernel
theorem dX10_rootOf_12 : decode cX10_rootOf 12 = .ok (.lconst 1, 1) := by decide +kernel
theorem dX10_rootOf_13 : decode cX10_rootOf 13 = .ok (.iload 4, 2) := by decide +kernel
theorem dX10_rootOf_15 : decode cX10_rootOf 15 = .ok (.lshl, 1) := by decide +kernel
theorem dX10_rootOf_16 : decode cX10_rootOf 16 = .ok (.ladd, 1) := by decide +kernel
theorem dX10_rootOf_17 : decode cX10_rootOf 17 = .ok (.lstore 5, 2) := by decide +kernel
theorem dX10_rootOf_19 : decode cX10_rootOf 19 = .ok (.lload 5, 2) := by decide +kernel
theorem dX10_rootOf_21 : decode cX10_rootOf 21 = .ok (.lload 5, 2) := by decide +kernel
theorem dX10_rootOf_23 : decode cX10_rootOf 23 = .ok (.lmul, 1) := by decide +kernel
theorem dX10_rootOf_24 : decode cX10_rootOf 24 = .ok (.lload_n 0, 1) := by decide +kernel
theorem dX10_rootOf_25 : decode cX10_rootOf 25 = .ok (.lcmp, 1) := by decide +kernel
theorem dX10_rootOf_26 : decode cX10_rootOf 26 = .ok (.ifCond .gt 6, 3) := by decide +kernel
theorem dX10_rootOf_29 : decode cX10_rootOf 29 = .ok (.lload 5, 2) := by decide +kernel
theorem dX10_rootOf_31 : decode cX10_rootOf 31 = .ok (.lstore_n 2, 1) := by decide +kernel
theorem dX10_rootOf_32 : decode cX10_rootOf 32 = .ok (.iinc 4 (-1), 3) := by decide +kernel
theorem dX10_rootOf_35 : decode cX10_rootOf 35 = .ok (.goto (-29), 3) := by decide +kernel
theorem dX10_rootOf_38 : decode cX10_rootOf 38 = .ok (.lload_n 2, 1) := by decide +kernel
theorem dX10_rootOf_39 : decode cX10_rootOf 39 = .ok (.lreturn, 1) := by decide +kernel
theorem dJ9_floorDiv_f86c9_0 : decode cJ9_floorDiv_f86c9 0 = .ok (.lload_n 0, 1) := by decide +kernel
theorem dJ9_floorDiv_f86c9_1 : decode cJ9_floorDiv_f86c9 1 = .ok (.lload_n 2, 1) := by decide +kernel
theorem dJ9_floorDiv_f86c9_2 : decode cJ9_floorDiv_f86c9 2 = .ok (.ldiv, 1) := by decide +kernel
theorem dJ9_floorDiv_f86c9_3 : decode cJ9_floorDiv_f86c9 3 = .ok (.lstore 4, 2) := by decide +kernel
theorem dJ9_floorDiv_f86c9_5 : decode cJ9_floorDiv_f86c9 5 = .ok (.lload_n 0, 1) := by decide +kernel
theorem dJ9_floorDiv_f86c9_6 : decode cJ9_floorDiv_f86c9 6 = .ok (.lload_n 2, 1) := by decide +kernel
theorem dJ9_floorDiv_f86c9_7 : decode cJ9_floorDiv_f86c9 7 = .ok (.lxor, 1) := by decide +kernel
theorem dJ9_floorDiv_f86c9_8 : decode cJ9_floorDiv_f86c9 8 = .ok (.lconst 0, 1) := by decide +kernel
theorem dJ9_floorDiv_f86c9_9 : decode cJ9_floorDiv_f86c9 9 = .ok (.lcmp, 1) := by decide +kernel
theorem dJ9_floorDiv_f86c9_10 : decode cJ9_floorDiv_f86c9 10 = .ok (.ifCond .ge 17, 3) := by decide +kernel
theorem dJ9_floorDiv_f86c9_13 : decode cJ9_floorDiv_f86c9 13 = .ok (.lload 4, 2) := by decide +kernel
theorem dJ9_floorDiv_f86c9_15 : decode cJ9_floorDiv_f86c9 15 = .ok (.lload_n 2, 1) := by decide +kernel
theorem dJ9_floorDiv_f86c9_16 : decode cJ9_floorDiv_f86c9 16 = .ok (.lmul, 1) := by decide +kernel
theorem dJ9_floorDiv_f86c9_17 : decode cJ9_floorDiv_f86c9 17 = .ok (.lload_n 0, 1) := by decide +kernel
theorem dJ9_floorDiv_f86c9_18 : decode cJ9_floorDiv_f86c9 18 = .ok (.lcmp, 1) := by decide +kernel
theorem dJ9_floorDiv_f86c9_19 : decode cJ9_floorDiv_f86c9 19 = .ok (.ifCond .eq 8, 3) := by decide +kernel
theorem dJ9_floorDiv_f86c9_22 : decode cJ9_floorDiv_f86c9 22 = .ok (.lload 4, 2) := by decide +kernel
theorem dJ9_floorDiv_f86c9_24 : decode cJ9_floorDiv_f86c9 24 = .ok (.lconst 1, 1) := by decide +kernel
theorem dJ9_floorDiv_f86c9_25 : decode cJ9_floorDiv_f86c9 25 = .ok (.lsub, 1) := by decide +kernel
theorem dJ9_floorDiv_f86c9_26 : decode cJ9_floorDiv_f86c9 26 = .ok (.lreturn, 1) := by decide +kernel
theorem dJ9_floorDiv_f86c9_27 : decode cJ9_floorDiv_f86c9 27 = .ok (.lload 4, 2) := by decide +kernel
theorem dJ9_floorDiv_f86c9_29 : decode cJ9_floorDiv_f86c9 29 = .ok (.lreturn, 1) := by decide +kernel
theorem dJ9_abs_0f7a4_0 : decode cJ9_abs_0f7a4 0 = .ok (.iload_n 0, 1) := by decide +kernel
theorem dJ9_abs_0f7a4_1 : decode cJ9_abs_0f7a4 1 = .ok (.ifCond .ge 8, 3) := by decide +kernel
theorem dJ9_abs_0f7a4_4 : decode cJ9_abs_0f7a4 4 = .ok (.iload_n 0, 1) := by decide +kernel
theorem dJ9_abs_0f7a4_5 : decode cJ9_abs_0f7a4 5 = .ok (.ineg, 1) := by decide +kernel
theorem dJ9_abs_0f7a4_6 : decode cJ9_abs_0f7a4 6 = .ok (.goto 4, 3) := by decide +kernel
theorem dJ9_abs_0f7a4_9 : decode cJ9_abs_0f7a4 9 = .ok (.iload_n 0, 1) := by decide +kernel
theorem dJ9_abs_0f7a4_10 : decode cJ9_abs_0f7a4 10 = .ok (.ireturn, 1) := by decide +kernel
theorem dJ9_abs_067f4_0 : decode cJ9_abs_067f4 0 = .ok (.lload_n 0, 1) := by decide +kernel
theorem dJ9_abs_067f4_1 : decode cJ9_abs_067f4 1 = .ok (.lconst 0, 1) := by decide +kernel
theorem dJ9_abs_067f4_2 : decode cJ9_abs_067f4 2 = .ok (.lcmp, 1) := by decide +kernel
theorem dJ9_abs_067f4_3 : decode cJ9_abs_067f4 3 = .ok (.ifCond .ge 8, 3) := by decide +kernel
theorem dJ9_abs_067f4_6 : decode cJ9_abs_067f4 6 = .ok (.lload_n 0, 1) := by decide +kernel
theorem dJ9_abs_067f4_7 : decode cJ9_abs_067f4 7 = .ok (.lneg, 1) := by decide +kernel
theorem dJ9_abs_067f4_8 : decode cJ9_abs_067f4 8 = .ok (.goto 4, 3) := by decide +kernel
theorem dJ9_abs_067f4_11 : decode cJ9_abs_067f4 11 = .ok (.lload_n 0, 1) := by decide +kernel
theorem dJ9_abs_067f4_12 : decode cJ9_abs_067f4 12 = .ok (.lreturn, 1) := by decide +kernel
theorem dJ9_max_7cf53_0 : decode cJ9_max_7cf53 0 = .ok (.iload_n 0, 1) := by decide +kernel
theorem dJ9_max_7cf53_1 : decode cJ9_max_7cf53 1 = .ok (.iload_n 1, 1) := by decide +kernel
theorem dJ9_max_7cf53_2 : decode cJ9_max_7cf53 2 = .ok (.if_icmp .lt 7, 3) := by decide +kernel
theorem dJ9_max_7cf53_5 : decode cJ9_max_7cf53 5 = .ok (.iload_n 0, 1) := by decide +kernel
theorem dJ9_max_7cf53_6 : decode cJ9_max_7cf53 6 = .ok (.goto 4, 3) := by decide +kernel
theorem dJ9_max_7cf53_9 : decode cJ9_max_7cf53 9 = .ok (.iload_n 1, 1) := by decide +kernel
theorem dJ9_max_7cf53_10 : decode cJ9_max_7cf53 10 = .ok (.ireturn, 1) := by decide +kernel
theorem dJ9_max_f86c9_0 : decode cJ9_max_f86c9 0 = .ok (.lload_n 0, 1) := by decide +kernel
theorem dJ9_max_f86c9_1 : decode cJ9_max_f86c9 1 = .ok (.lload_n 2, 1) := by decide +kernel
theorem dJ9_max_f86c9_2 : decode cJ9_max_f86c9 2 = .ok (.lcmp, 1) := by decide +kernel
theorem dJ9_max_f86c9_3 : decode cJ9_max_f86c9 3 = .ok (.ifCond .lt 7, 3) := by decide +kernel
theorem dJ9_max_f86c9_6 : decode cJ9_max_f86c9 6 = .ok (.lload_n 0, 1) := by decide +kernel
theorem dJ9_max_f86c9_7 : decode cJ9_max_f86c9 7 = .ok (.goto 4, 3) := by decide +kernel
theorem dJ9_max_f86c9_10 : decode cJ9_max_f86c9 10 = .ok (.lload_n 2, 1) := by decide +kernel
theorem dJ9_max_f86c9_11 : decode cJ9_max_f86c9 11 = .ok (.lreturn, 1) := by decide +kernel
theorem dJ9_min_7cf53_0 : decode cJ9_min_7cf53 0 = .ok (.iload_n 0, 1) := by decide +kernel
theorem dJ9_min_7cf53_1 : decode cJ9_min_7cf53 1 = .ok (.iload_n 1, 1) := by decide +kernel
theorem dJ9_min_7cf53_2 : decode cJ9_min_7cf53 2 = .ok (.if_icmp .gt 7, 3) := by decide +kernel
theorem dJ9_min_7cf53_5 : decode cJ9_min_7cf53 5 = .ok (.iload_n 0, 1) := by decide +kernel
theorem dJ9_min_7cf53_6 : decode cJ9_min_7cf53 6 = .ok (.goto 4, 3) := by decide +kernel
theorem dJ9_min_7cf53_9 : decode cJ9_min_7cf53 9 = .ok (.iload_n 1, 1) := by decide +kernel
theorem dJ9_min_7cf53_10 : decode cJ9_min_7cf53 10 = .ok (.ireturn, 1) := by decide +kernel
theorem dJ9_min_f86c9_0 : decode cJ9_min_f86c9 0 = .ok (.lload_n 0, 1) := by decide +kernel
theorem dJ9_min_f86c9_1 : decode cJ9_min_f86c9 1 = .ok (.lload_n 2, 1) := by decide +kernel
theorem dJ9_min_f86c9_2 : decode cJ9_min_f86c9 2 = .ok (.lcmp, 1) := by decide +kernel
theorem dJ9_min_f86c9_3 : decode cJ9_min_f86c9 3 = .ok (.ifCond .gt 7, 3) := by decide +kernel
theorem dJ9_min_f86c9_6 : decode cJ9_min_f86c9 6 = .ok (.lload_n 0, 1) := by decide +kernel
theorem dJ9_min_f86c9_7 : decode cJ9_min_f86c9 7 = .ok (.goto 4, 3) := by decide +kernel
theorem dJ9_min_f86c9_10 : decode cJ9_min_f86c9 10 = .ok (.lload_n 2, 1) := by decide +kernel
theorem dJ9_min_f86c9_11 : decode cJ9_min_f86c9 11 = .ok (.lreturn, 1) := by decide +kernel
theorem dJxa1e45_init_da8c8_0 : decode cJxa1e45_init_da8c8 0 = .ok (.aload_n 0, 1) := by decide +kernel
theorem dJxa1e45_init_da8c8_1 : decode cJxa1e45_init_da8c8 1 = .ok (.invokespecial 1, 3) := by decide +kernel
theorem dJxa1e45_init_da8c8_4 : decode cJxa1e45_init_da8c8 4 = .ok (.return_, 1) := by decide +kernel
theorem dJxc12de_init_da8c8_0 : decode cJxc12de_init_da8c8 0 = .ok (.aload_n 0, 1) := by decide +kernel
theorem dJxc12de_init_da8c8_1 : decode cJxc12de_init_da8c8 1 = .ok (.invokespecial 1, 3) := by decide +kernel
theorem dJxc12de_init_da8c8_4 : decode cJxc12de_init_da8c8 4 = .ok (.aload_n 0, 1) := by decide +kernel
theorem dJxc12de_init_da8c8_5 : decode cJxc12de_init_da8c8 5 = .ok (.iconst 0, 1) := by decide +kernel
theorem dJxc12de_init_da8c8_6 : decode cJxc12de_init_da8c8 6 = .ok (.putfield 7, 3) := by decide +kernel
theorem dJxc12de_init_da8c8_9 : decode cJxc12de_init_da8c8 9 = .ok (.return_, 1) := by decide +kernel
theorem dJx4a65c_init_da8c8_0 : decode cJx4a65c_init_da8c8 0 = .ok (.aload_n 0, 1) := by decide +kernel
theorem dJx4a65c_init_da8c8_1 : decode cJx4a65c_init_da8c8 1 = .ok (.invokespecial 1, 3) := by decide +kernel
theorem dJx4a65c_init_da8c8_4 : decode cJx4a65c_init_da8c8 4 = .ok (.aload_n 0, 1) := by decide +kernel
theorem dJx4a65c_init_da8c8_5 : decode cJx4a65c_init_da8c8 5 = .ok (.getstatic 39, 3) := by decide +kernel
theorem dJx4a65c_init_da8c8_8 : decode cJx4a65c_init_da8c8 8 = .ok (.putfield 9, 3) := by decide +kernel
theorem dJx4a65c_init_da8c8_11 : decode cJx4a65c_init_da8c8 11 = .ok (.return_, 1) := by decide +kernel
theorem dJx4a65c_grow_92f84_0 : decode cJx4a65c_grow_92f84 0 = .ok (.aload_n 0, 1) := by decide +kernel
theorem dJx4a65c_grow_92f84_1 : decode cJx4a65c_grow_92f84 1 = .ok (.getfield 9, 3) := by decide +kernel
theorem dJx4a65c_grow_92f84_4 : decode cJx4a65c_grow_92f84 4 = .ok (.arraylength, 1) := by decide +kernel
theorem dJx4a65c_grow_92f84_5 : decode cJx4a65c_grow_92f84 5 = .ok (.istore_n 2, 1) := by decide +kernel
theorem dJx4a65c_grow_92f84_6 : decode cJx4a65c_grow_92f84 6 = .ok (.iload_n 2, 1) := by decide +kernel
theorem dJx4a65c_grow_92f84_7 : decode cJx4a65c_grow_92f84 7 = .ok (.ifCond .gt 13, 3) := by decide +kernel
theorem dJx4a65c_grow_92f84_10 : decode cJx4a65c_grow_92f84 10 = .ok (.aload_n 0, 1) := by decide +kernel
theorem dJx4a65c_grow_92f84_11 : decode cJx4a65c_grow_92f84 11 = .ok (.getfield 9, 3) := by decide +kernel
theorem dJx4a65c_grow_92f84_14 : decode cJx4a65c_grow_92f84 14 = .ok (.getstatic 39, 3) := by decide +kernel
theorem dJx4a65c_grow_92f84_17 : decode cJx4a65c_grow_92f84 17 = .ok (.if_acmp .eq 28, 3) := by decide +kernel
theorem dJx4a65c_grow_92f84_20 : decode cJx4a65c_grow_92f84 20 = .ok (.iload_n 2, 1) := by decide +kernel
theorem dJx4a65c_grow_92f84_21 : decode cJx4a65c_grow_92f84 21 = .ok (.iload_n 1, 1) := by decide +kernel
theorem dJx4a65c_grow_92f84_22 : decode cJx4a65c_grow_92f84 22 = .ok (.iload_n 2, 1) := by decide +kernel
theorem dJx4a65c_grow_92f84_23 : decode cJx4a65c_grow_92f84 23 = .ok (.isub, 1) := by decide +kernel
theorem dJx4a65c_grow_92f84_24 : decode cJx4a65c_grow_92f84 24 = .ok (.iload_n 2, 1) := by decide +kernel
theorem dJx4a65c_grow_92f84_25 : decode cJx4a65c_grow_92f84 25 = .ok (.iconst 1, 1) := by decide +kernel
theorem dJx4a65c_grow_92f84_26 : decode cJx4a65c_grow_92f84 26 = .ok (.ishr, 1) := by decide +kernel
theorem dJx4a65c_grow_92f84_27 : decode cJx4a65c_grow_92f84 27 = .ok (.invokestatic 73, 3) := by decide +kernel
theorem dJx4a65c_grow_92f84_30 : decode cJx4a65c_grow_92f84 30 = .ok (.istore_n 3, 1) := by decide +kernel
theorem dJx4a65c_grow_92f84_31 : decode cJx4a65c_grow_92f84 31 = .ok (.aload_n 0, 1) := by decide +kernel
theorem dJx4a65c_grow_92f84_32 : decode cJx4a65c_grow_92f84 32 = .ok (.aload_n 0, 1) := by decide +kernel
theorem dJx4a65c_grow_92f84_33 : decode cJx4a65c_grow_92f84 33 = .ok (.getfield 9, 3) := by decide +kernel
theorem dJx4a65c_grow_92f84_36 : decode cJx4a65c_grow_92f84 36 = .ok (.iload_n 3, 1) := by decide +kernel
theorem dJx4a65c_grow_92f84_37 : decode cJx4a65c_grow_92f84 37 = .ok (.invokestatic 66, 3) := by decide +kernel
theorem dJx4a65c_grow_92f84_40 : decode cJx4a65c_grow_92f84 40 = .ok (.dup_x1, 1) := by decide +kernel
theorem dJx4a65c_grow_92f84_41 : decode cJx4a65c_grow_92f84 41 = .ok (.putfield 9, 3) := by decide +kernel
theorem dJx4a65c_grow_92f84_44 : decode cJx4a65c_grow_92f84 44 = .ok (.areturn, 1) := by decide +kernel
theorem dJx4a65c_grow_92f84_45 : decode cJx4a65c_grow_92f84 45 = .ok (.aload_n 0, 1) := by decide +kernel
theorem dJx4a65c_grow_92f84_46 : decode cJx4a65c_grow_92f84 46 = .ok (.bipush 10, 2) := by decide +kernel
theorem dJx4a65c_grow_92f84_48 : decode cJx4a65c_grow_92f84 48 = .ok (.iload_n 1, 1) := by decide +kernel
theorem dJx4a65c_grow_92f84_49 : decode cJx4a65c_grow_92f84 49 = .ok (.invokestatic 79, 3) := by decide +kernel
theorem dJx4a65c_grow_92f84_52 : decode cJx4a65c_grow_92f84 52 = .ok (.anewarray 7, 3) := by decide +kernel
theorem dJx4a65c_grow_92f84_55 : decode cJx4a65c_grow_92f84 55 = .ok (.dup_x1, 1) := by decide +kernel
theorem dJx4a65c_grow_92f84_56 : decode cJx4a65c_grow_92f84 56 = .ok (.putfield 9, 3) := by decide +kernel
theorem dJx4a65c_grow_92f84_59 : decode cJx4a65c_grow_92f84 59 = .ok (.areturn, 1) := by decide +kernel
theorem dJx4a65c_grow_d5877_0 : decode cJx4a65c_grow_d5877 0 = .ok (.aload_n 0, 1) := by decide +kernel
theorem dJx4a65c_grow_d5877_1 : decode cJx4a65c_grow_d5877 1 = .ok (.aload_n 0, 1) := by decide +kernel
theorem dJx4a65c_grow_d5877_2 : decode cJx4a65c_grow_d5877 2 = .ok (.getfield 48, 3) := by decide +kernel
theorem dJx4a65c_grow_d5877_5 : decode cJx4a65c_grow_d5877 5 = .ok (.iconst 1, 1) := by decide +kernel
theorem dJx4a65c_grow_d5877_6 : decode cJx4a65c_grow_d5877 6 = .ok (.iadd, 1) := by decide +kernel
theorem dJx4a65c_grow_d5877_7 : decode cJx4a65c_grow_d5877 7 = .ok (.invokevirtual 69, 3) := by decide +kernel
theorem dJx4a65c_grow_d5877_10 : decode cJx4a65c_grow_d5877 10 = .ok (.areturn, 1) := by decide +kernel
theorem dJx4a65c_size_8abf5_0 : decode cJx4a65c_size_8abf5 0 = .ok (.aload_n 0, 1) := by decide +kernel
theorem dJx4a65c_size_8abf5_1 : decode cJx4a65c_size_8abf5 1 = .ok (.getfield 48, 3) := by decide +kernel
theorem dJx4a65c_size_8abf5_4 : decode cJx4a65c_size_8abf5 4 = .ok (.ireturn, 1) := by decide +kernel
theorem dJx4a65c_elementData_915e3_0 : decode cJx4a65c_elementData_915e3 0 = .ok (.aload_n 0, 1) := by decide +kernel
theorem dJx4a65c_elementData_915e3_1 : decode cJx4a65c_elementData_915e3 1 = .ok (.getfield 9, 3) := by decide +kernel
theorem dJx4a65c_elementData_915e3_4 : decode cJx4a65c_elementData_915e3 4 = .ok (.iload_n 1, 1) := by decide +kernel
theorem dJx4a65c_elementData_915e3_5 : decode cJx4a65c_elementData_915e3 5 = .ok (.aaload, 1) := by decide +kernel
theorem dJx4a65c_elementData_915e3_6 : decode cJx4a65c_elementData_915e3 6 = .ok (.areturn, 1) := by decide +kernel
theorem dJx4a65c_get_915e3_0 : decode cJx4a65c_get_915e3 0 = .ok (.iload_n 1, 1) := by decide +kernel
theorem dJx4a65c_get_915e3_1 : decode cJx4a65c_get_915e3 1 = .ok (.aload_n 0, 1) := by decide +kernel
theorem dJx4a65c_get_915e3_2 : decode cJx4a65c_get_915e3 2 = .ok (.getfield 48, 3) := by decide +kernel
theorem dJx4a65c_get_915e3_5 : decode cJx4a65c_get_915e3 5 = .ok (.invokestatic 118, 3) := by decide +kernel
theorem dJx4a65c_get_915e3_8 : decode cJx4a65c_get_915e3 8 = .ok (.pop, 1) := by decide +kernel
theorem dJx4a65c_get_915e3_9 : decode cJx4a65c_get_915e3 9 = .ok (.aload_n 0, 1) := by decide +kernel
theorem dJx4a65c_get_915e3_10 : decode cJx4a65c_get_915e3 10 = .ok (.iload_n 1, 1) := by decide +kernel
theorem dJx4a65c_get_915e3_11 : decode cJx4a65c_get_915e3 11 = .ok (.invokevirtual 123, 3) := by decide +kernel
theorem dJx4a65c_get_915e3_14 : decode cJx4a65c_get_915e3 14 = .ok (.areturn, 1) := by decide +kernel
theorem dJx4a65c_add_72be8_0 : decode cJx4a65c_add_72be8 0 = .ok (.iload_n 3, 1) := by decide +kernel
theorem dJx4a65c_add_72be8_1 : decode cJx4a65c_add_72be8 1 = .ok (.aload_n 2, 1) := by decide +kernel
theorem dJx4a65c_add_72be8_2 : decode cJx4a65c_add_72be8 2 = .ok (.arraylength, 1) := by decide +kernel
theorem dJx4a65c_add_72be8_3 : decode cJx4a65c_add_72be8 3 = .ok (.if_icmp .ne 8, 3) := by decide +kernel
theorem dJx4a65c_add_72be8_6 : decode cJx4a65c_add_72be8 6 = .ok (.aload_n 0, 1) := by decide +kernel
theorem dJx4a65c_add_72be8_7 : decode cJx4a65c_add_72be8 7 = .ok (.invokevirtual 129, 3) := by decide +kernel
theorem dJx4a65c_add_72be8_10 : decode cJx4a65c_add_72be8 10 = .ok (.astore_n 2, 1) := by decide +kernel
theorem dJx4a65c_add_72be8_11 : decode cJx4a65c_add_72be8 11 = .ok (.aload_n 2, 1) := by decide +kernel
theorem dJx4a65c_add_72be8_12 : decode cJx4a65c_add_72be8 12 = .ok (.iload_n 3, 1) := by decide +kernel
theorem dJx4a65c_add_72be8_13 : decode cJx4a65c_add_72be8 13 = .ok (.aload_n 1, 1) := by decide +kernel
theorem dJx4a65c_add_72be8_14 : decode cJx4a65c_add_72be8 14 = .ok (.aastore, 1) := by decide +kernel
theorem dJx4a65c_add_72be8_15 : decode cJx4a65c_add_72be8 15 = .ok (.aload_n 0, 1) := by decide +kernel
theorem dJx4a65c_add_72be8_16 : decode cJx4a65c_add_72be8 16 = .ok (.iload_n 3, 1) := by decide +kernel
theorem dJx4a65c_add_72be8_17 : decode cJx4a65c_add_72be8 17 = .ok (.iconst 1, 1) := by decide +kernel
theorem dJx4a65c_add_72be8_18 : decode cJx4a65c_add_72be8 18 = .ok (.iadd, 1) := by decide +kernel
theorem dJx4a65c_add_72be8_19 : decode cJx4a65c_add_72be8 19 = .ok (.putfield 48, 3) := by decide +kernel
theorem dJx4a65c_add_72be8_22 : decode cJx4a65c_add_72be8 22 = .ok (.return_, 1) := by decide +kernel
theorem dJx4a65c_add_9ea2d_0 : decode cJx4a65c_add_9ea2d 0 = .ok (.aload_n 0, 1) := by decide +kernel
theorem dJx4a65c_add_9ea2d_1 : decode cJx4a65c_add_9ea2d 1 = .ok (.dup, 1) := by decide +kernel
theorem dJx4a65c_add_9ea2d_2 : decode cJx4a65c_add_9ea2d 2 = .ok (.getfield 63, 3) := by decide +kernel
theorem dJx4a65c_add_9ea2d_5 : decode cJx4a65c_add_9ea2d 5 = .ok (.iconst 1, 1) := by decide +kernel
theorem dJx4a65c_add_9ea2d_6 : decode cJx4a65c_add_9ea2d 6 = .ok (.iadd, 1) := by decide +kernel
theorem dJx4a65c_add_9ea2d_7 : decode cJx4a65c_add_9ea2d 7 = .ok (.putfield 63, 3) := by decide +kernel
theorem dJx4a65c_add_9ea2d_10 : decode cJx4a65c_add_9ea2d 10 = .ok (.aload_n 0, 1) := by decide +kernel
theorem dJx4a65c_add_9ea2d_11 : decode cJx4a65c_add_9ea2d 11 = .ok (.aload_n 1, 1) := by decide +kernel
theorem dJx4a65c_add_9ea2d_12 : decode cJx4a65c_add_9ea2d 12 = .ok (.aload_n 0, 1) := by decide +kernel
theorem dJx4a65c_add_9ea2d_13 : decode cJx4a65c_add_9ea2d 13 = .ok (.getfield 9, 3) := by decide +kernel
theorem dJx4a65c_add_9ea2d_16 : decode cJx4a65c_add_9ea2d 16 = .ok (.aload_n 0, 1) := by decide +kernel
theorem dJx4a65c_add_9ea2d_17 : decode cJx4a65c_add_9ea2d 17 = .ok (.getfield 48, 3) := by decide +kernel
theorem dJx4a65c_add_9ea2d_20 : decode cJx4a65c_add_9ea2d 20 = .ok (.invokevirtual 131, 3) := by decide +kernel
theorem dJx4a65c_add_9ea2d_23 : decode cJx4a65c_add_9ea2d 23 = .ok (.iconst 1, 1) := by decide +kernel
theorem dJx4a65c_add_9ea2d_24 : decode cJx4a65c_add_9ea2d 24 = .ok (.ireturn, 1) := by decide +kernel
theorem dJ7_copyOf_1904c_0 : decode cJ7_copyOf_1904c 0 = .ok (.aload_n 0, 1) := by decide +kernel
theorem dJ7_copyOf_1904c_1 : decode cJ7_copyOf_1904c 1 = .ok (.iload_n 1, 1) := by decide +kernel
theorem dJ7_copyOf_1904c_2 : decode cJ7_copyOf_1904c 2 = .ok (.aload_n 0, 1) := by decide +kernel
theorem dJ7_copyOf_1904c_3 : decode cJ7_copyOf_1904c 3 = .ok (.invokevirtual 86, 3) := by decide +kernel
theorem dJ7_copyOf_1904c_6 : decode cJ7_copyOf_1904c 6 = .ok (.invokestatic 300, 3) := by decide +kernel
theorem dJ7_copyOf_1904c_9 : decode cJ7_copyOf_1904c 9 = .ok (.areturn, 1) := by decide +kernel
theorem dJ7_copyOf_6403c_0 : decode cJ7_copyOf_6403c 0 = .ok (.aload_n 2, 1) := by decide +kernel
theorem dJ7_copyOf_6403c_1 : decode cJ7_copyOf_6403c 1 = .ok (.ldc 110, 2) := by decide +kernel
theorem dJ7_copyOf_6403c_3 : decode cJ7_copyOf_6403c 3 = .ok (.if_acmp .ne 10, 3) := by decide +kernel
theorem dJ7_copyOf_6403c_6 : decode cJ7_copyOf_6403c 6 = .ok (.iload_n 1, 1) := by decide +kernel
theorem dJ7_copyOf_6403c_7 : decode cJ7_copyOf_6403c 7 = .ok (.anewarray 2, 3) := by decide +kernel
theorem dJ7_copyOf_6403c_10 : decode cJ7_copyOf_6403c 10 = .ok (.goto 14, 3) := by decide +kernel
theorem dJ7_copyOf_6403c_13 : decode cJ7_copyOf_6403c 13 = .ok (.aload_n 2, 1) := by decide +kernel
theorem dJ7_copyOf_6403c_14 : decode cJ7_copyOf_6403c 14 = .ok (.invokevirtual 90, 3) := by decide +kernel
theorem dJ7_copyOf_6403c_17 : decode cJ7_copyOf_6403c 17 = .ok (.iload_n 1, 1) := by decide +kernel
theorem dJ7_copyOf_6403c_18 : decode cJ7_copyOf_6403c 18 = .ok (.invokestatic 95, 3) := by decide +kernel
theorem dJ7_copyOf_6403c_21 : decode cJ7_copyOf_6403c 21 = .ok (.checkcast 110, 3) := by decide +kernel
theorem dJ7_copyOf_6403c_24 : decode cJ7_copyOf_6403c 24 = .ok (.astore_n 3, 1) := by decide +kernel
theorem dJ7_copyOf_6403c_25 : decode cJ7_copyOf_6403c 25 = .ok (.aload_n 0, 1) := by decide +kernel
theorem dJ7_copyOf_6403c_26 : decode cJ7_copyOf_6403c 26 = .ok (.iconst 0, 1) := by decide +kernel
theorem dJ7_copyOf_6403c_27 : decode cJ7_copyOf_6403c 27 = .ok (.aload_n 3, 1) := by decide +kernel
theorem dJ7_copyOf_6403c_28 : decode cJ7_copyOf_6403c 28 = .ok (.iconst 0, 1) := by decide +kernel
theorem dJ7_copyOf_6403c_29 : decode cJ7_copyOf_6403c 29 = .ok (.aload_n 0, 1) := by decide +kernel
theorem dJ7_copyOf_6403c_30 : decode cJ7_copyOf_6403c 30 = .ok (.arraylength, 1) := by decide +kernel
theorem dJ7_copyOf_6403c_31 : decode cJ7_copyOf_6403c 31 = .ok (.iload_n 1, 1) := by decide +kernel
theorem dJ7_copyOf_6403c_32 : decode cJ7_copyOf_6403c 32 = .ok (.invokestatic 304, 3) := by decide +kernel
theorem dJ7_copyOf_6403c_35 : decode cJ7_copyOf_6403c 35 = .ok (.invokestatic 150, 3) := by decide +kernel
theorem dJ7_copyOf_6403c_38 : decode cJ7_copyOf_6403c 38 = .ok (.aload_n 3, 1) := by decide +kernel
theorem dJ7_copyOf_6403c_39 : decode cJ7_copyOf_6403c 39 = .ok (.areturn, 1) := by decide +kernel
theorem dJ15_checkIndex_7cf53_0 : decode cJ15_checkIndex_7cf53 0 = .ok (.iload_n 0, 1) := by decide +kernel
theorem dJ15_checkIndex_7cf53_1 : decode cJ15_checkIndex_7cf53 1 = .ok (.iload_n 1, 1) := by decide +kernel
theorem dJ15_checkIndex_7cf53_2 : decode cJ15_checkIndex_7cf53 2 = .ok (.aconst_null, 1) := by decide +kernel
theorem dJ15_checkIndex_7cf53_3 : decode cJ15_checkIndex_7cf53 3 = .ok (.invokestatic 105, 3) := by decide +kernel
theorem dJ15_checkIndex_7cf53_6 : decode cJ15_checkIndex_7cf53 6 = .ok (.ireturn, 1) := by decide +kernel
theorem dJ8_newLength_cabcc_0 : decode cJ8_newLength_cabcc 0 = .ok (.iload_n 0, 1) := by decide +kernel
theorem dJ8_newLength_cabcc_1 : decode cJ8_newLength_cabcc 1 = .ok (.iload_n 1, 1) := by decide +kernel
theorem dJ8_newLength_cabcc_2 : decode cJ8_newLength_cabcc 2 = .ok (.iload_n 2, 1) := by decide +kernel
theorem dJ8_newLength_cabcc_3 : decode cJ8_newLength_cabcc 3 = .ok (.invokestatic 194, 3) := by decide +kernel
theorem dJ8_newLength_cabcc_6 : decode cJ8_newLength_cabcc 6 = .ok (.iadd, 1) := by decide +kernel
theorem dJ8_newLength_cabcc_7 : decode cJ8_newLength_cabcc 7 = .ok (.istore_n 3, 1) := by decide +kernel
theorem dJ8_newLength_cabcc_8 : decode cJ8_newLength_cabcc 8 = .ok (.iconst 0, 1) := by decide +kernel
theorem dJ8_newLength_cabcc_9 : decode cJ8_newLength_cabcc 9 = .ok (.iload_n 3, 1) := by decide +kernel
theorem dJ8_newLength_cabcc_10 : decode cJ8_newLength_cabcc 10 = .ok (.if_icmp .ge 11, 3) := by decide +kernel
theorem dJ8_newLength_cabcc_13 : decode cJ8_newLength_cabcc 13 = .ok (.iload_n 3, 1) := by decide +kernel
theorem dJ8_newLength_cabcc_14 : decode cJ8_newLength_cabcc 14 = .ok (.ldc 200, 2) := by decide +kernel
theorem dJ8_newLength_cabcc_16 : decode cJ8_newLength_cabcc 16 = .ok (.if_icmp .gt 5, 3) := by decide +kernel
theorem dJ8_newLength_cabcc_19 : decode cJ8_newLength_cabcc 19 = .ok (.iload_n 3, 1) := by decide +kernel
theorem dJ8_newLength_cabcc_20 : decode cJ8_newLength_cabcc 20 = .ok (.ireturn, 1) := by decide +kernel
theorem dJ8_newLength_cabcc_21 : decode cJ8_newLength_cabcc 21 = .ok (.iload_n 0, 1) := by decide +kernel
theorem dJ8_newLength_cabcc_22 : decode cJ8_newLength_cabcc 22 = .ok (.iload_n 1, 1) := by decide +kernel
theorem dJ8_newLength_cabcc_23 : decode cJ8_newLength_cabcc 23 = .ok (.invokestatic 201, 3) := by decide +kernel
theorem dJ8_newLength_cabcc_26 : decode cJ8_newLength_cabcc 26 = .ok (.ireturn, 1) := by decide +kernel
theorem dJ8_hugeLength_7cf53_0 : decode cJ8_hugeLength_7cf53 0 = .ok (.iload_n 0, 1) := by decide +kernel
theorem dJ8_hugeLength_7cf53_1 : decode cJ8_hugeLength_7cf53 1 = .ok (.iload_n 1, 1) := by decide +kernel
theorem dJ8_hugeLength_7cf53_2 : decode cJ8_hugeLength_7cf53 2 = .ok (.iadd, 1) := by decide +kernel
theorem dJ8_hugeLength_7cf53_3 : decode cJ8_hugeLength_7cf53 3 = .ok (.istore_n 2, 1) := by decide +kernel
theorem dJ8_hugeLength_7cf53_4 : decode cJ8_hugeLength_7cf53 4 = .ok (.iload_n 2, 1) := by decide +kernel
theorem dJ8_hugeLength_7cf53_5 : decode cJ8_hugeLength_7cf53 5 = .ok (.ifCond .ge 44, 3) := by decide +kernel
theorem dJ8_hugeLength_7cf53_8 : decode cJ8_hugeLength_7cf53 8 = .ok (.new 204, 3) := by decide +kernel
theorem dJ8_hugeLength_7cf53_11 : decode cJ8_hugeLength_7cf53 11 = .ok (.dup, 1) := by decide +kernel
theorem dJ8_hugeLength_7cf53_12 : decode cJ8_hugeLength_7cf53 12 = .ok (.new 89, 3) := by decide +kernel
theorem dJ8_hugeLength_7cf53_15 : decode cJ8_hugeLength_7cf53 15 = .ok (.dup, 1) := by decide +kernel
theorem dJ8_hugeLength_7cf53_16 : decode cJ8_hugeLength_7cf53 16 = .ok (.invokespecial 91, 3) := by decide +kernel
theorem dJ8_hugeLength_7cf53_19 : decode cJ8_hugeLength_7cf53 19 = .ok (.ldc 206, 2) := by decide +kernel
theorem dJ8_hugeLength_7cf53_21 : decode cJ8_hugeLength_7cf53 21 = .ok (.invokevirtual 94, 3) := by decide +kernel
theorem dJ8_hugeLength_7cf53_24 : decode cJ8_hugeLength_7cf53 24 = .ok (.iload_n 0, 1) := by decide +kernel
theorem dJ8_hugeLength_7cf53_25 : decode cJ8_hugeLength_7cf53 25 = .ok (.invokevirtual 98, 3) := by decide +kernel
theorem dJ8_hugeLength_7cf53_28 : decode cJ8_hugeLength_7cf53 28 = .ok (.ldc 208, 2) := by decide +kernel
theorem dJ8_hugeLength_7cf53_30 : decode cJ8_hugeLength_7cf53 30 = .ok (.invokevirtual 94, 3) := by decide +kernel
theorem dJ8_hugeLength_7cf53_33 : decode cJ8_hugeLength_7cf53 33 = .ok (.iload_n 1, 1) := by decide +kernel
theorem dJ8_hugeLength_7cf53_34 : decode cJ8_hugeLength_7cf53 34 = .ok (.invokevirtual 98, 3) := by decide +kernel
theorem dJ8_hugeLength_7cf53_37 : decode cJ8_hugeLength_7cf53 37 = .ok (.ldc 210, 2) := by decide +kernel
theorem dJ8_hugeLength_7cf53_39 : decode cJ8_hugeLength_7cf53 39 = .ok (.invokevirtual 94, 3) := by decide +kernel
theorem dJ8_hugeLength_7cf53_42 : decode cJ8_hugeLength_7cf53 42 = .ok (.invokevirtual 101, 3) := by decide +kernel
theorem dJ8_hugeLength_7cf53_45 : decode cJ8_hugeLength_7cf53 45 = .ok (.invokespecial 212, 3) := by decide +kernel
theorem dJ8_hugeLength_7cf53_48 : decode cJ8_hugeLength_7cf53 48 = .ok (.athrow, 1) := by decide +kernel
theorem dJ8_hugeLength_7cf53_49 : decode cJ8_hugeLength_7cf53 49 = .ok (.iload_n 2, 1) := by decide +kernel
theorem dJ8_hugeLength_7cf53_50 : decode cJ8_hugeLength_7cf53 50 = .ok (.ldc 200, 2) := by decide +kernel
theorem dJ8_hugeLength_7cf53_52 : decode cJ8_hugeLength_7cf53 52 = .ok (.if_icmp .gt 6, 3) := by decide +kernel
theorem dJ8_hugeLength_7cf53_55 : decode cJ8_hugeLength_7cf53 55 = .ok (.ldc 200, 2) := by decide +kernel
theorem dJ8_hugeLength_7cf53_57 : decode cJ8_hugeLength_7cf53 57 = .ok (.ireturn, 1) := by decide +kernel
theorem dJ8_hugeLength_7cf53_58 : decode cJ8_hugeLength_7cf53 58 = .ok (.iload_n 2, 1) := by decide +kernel
theorem dJ8_hugeLength_7cf53_59 : decode cJ8_hugeLength_7cf53 59 = .ok (.ireturn, 1) := by decide +kernel
theorem dJ3_checkIndex_8e157_0 : decode cJ3_checkIndex_8e157 0 = .ok (.iload_n 0, 1) := by decide +kernel
theorem dJ3_checkIndex_8e157_1 : decode cJ3_checkIndex_8e157 1 = .ok (.ifCond .lt 8, 3) := by decide +kernel
theorem dJ3_checkIndex_8e157_4 : decode cJ3_checkIndex_8e157 4 = .ok (.iload_n 0, 1) := by decide +kernel
theorem dJ3_checkIndex_8e157_5 : decode cJ3_checkIndex_8e157 5 = .ok (.iload_n 1, 1) := by decide +kernel
theorem dJ3_checkIndex_8e157_6 : decode cJ3_checkIndex_8e157 6 = .ok (.if_icmp .lt 10, 3) := by decide +kernel
theorem dJ3_checkIndex_8e157_9 : decode cJ3_checkIndex_8e157 9 = .ok (.aload_n 2, 1) := by decide +kernel
theorem dJ3_checkIndex_8e157_10 : decode cJ3_checkIndex_8e157 10 = .ok (.iload_n 0, 1) := by decide +kernel
theorem dJ3_checkIndex_8e157_11 : decode cJ3_checkIndex_8e157 11 = .ok (.iload_n 1, 1) := by decide +kernel
theorem dJ3_checkIndex_8e157_12 : decode cJ3_checkIndex_8e157 12 = .ok (.invokestatic 95, 3) := by decide +kernel
theorem dJ3_checkIndex_8e157_15 : decode cJ3_checkIndex_8e157 15 = .ok (.athrow, 1) := by decide +kernel
theorem dJ3_checkIndex_8e157_16 : decode cJ3_checkIndex_8e157 16 = .ok (.iload_n 0, 1) := by decide +kernel
theorem dJ3_checkIndex_8e157_17 : decode cJ3_checkIndex_8e157 17 = .ok (.ireturn, 1) := by decide +kernel
theorem dL_cell_0 : decode cL_cell 0 = .ok (.iload_n 1, 1) := by decide +kernel
theorem dL_cell_1 : decode cL_cell 1 = .ok (.aload_n 0, 1) := by decide +kernel
theorem dL_cell_2 : decode cL_cell 2 = .ok (.arraylength, 1) := by decide +kernel
theorem dL_cell_3 : decode cL_cell 3 = .ok (.if_icmp .ge 9, 3) := by decide +kernel
theorem dL_cell_6 : decode cL_cell 6 = .ok (.aload_n 0, 1) := by decide +kernel
theorem dL_cell_7 : decode cL_cell 7 = .ok (.iload_n 1, 1) := by decide +kernel
theorem dL_cell_8 : decode cL_cell 8 = .ok (.iaload, 1) := by decide +kernel
theorem dL_cell_9 : decode cL_cell 9 = .ok (.goto 12, 3) := by decide +kernel
theorem dL_cell_12 : decode cL_cell 12 = .ok (.ldc 7, 2) := by decide +kernel
theorem dL_cell_14 : decode cL_cell 14 = .ok (.iload_n 1, 1) := by decide +kernel
theorem dL_cell_15 : decode cL_cell 15 = .ok (.iconst 1, 1) := by decide +kernel
theorem dL_cell_16 : decode cL_cell 16 = .ok (.iadd, 1) := by decide +kernel
theorem dL_cell_17 : decode cL_cell 17 = .ok (.imul, 1) := by decide +kernel
theorem dL_cell_18 : decode cL_cell 18 = .ok (.ldc 8, 2) := by decide +kernel
theorem dL_cell_20 : decode cL_cell 20 = .ok (.iadd, 1) := by decide +kernel
theorem dL_cell_21 : decode cL_cell 21 = .ok (.ireturn, 1) := by decide +kernel
theorem dL_low_0 : decode cL_low 0 = .ok (.iload_n 0, 1) := by decide +kernel
theorem dL_low_1 : decode cL_low 1 = .ok (.ldc 9, 2) := by decide +kernel
theorem dL_low_3 : decode cL_low 3 = .ok (.iand, 1) := by decide +kernel
theorem dL_low_4 : decode cL_low 4 = .ok (.iload_n 1, 1) := by decide +kernel
theorem dL_low_5 : decode cL_low 5 = .ok (.irem, 1) := by decide +kernel
theorem dL_low_6 : decode cL_low 6 = .ok (.ireturn, 1) := by decide +kernel
theorem dL_down_0 : decode cL_down 0 = .ok (.lload_n 0, 1) := by decide +kernel
theorem dL_down_1 : decode cL_down 1 = .ok (.lload_n 2, 1) := by decide +kernel
theorem dL_down_2 : decode cL_down 2 = .ok (.ldiv, 1) := by decide +kernel
theorem dL_down_3 : decode cL_down 3 = .ok (.lstore 4, 2) := by decide +kernel
theorem dL_down_5 : decode cL_down 5 = .ok (.lload_n 0, 1) := by decide +kernel
theorem dL_down_6 : decode cL_down 6 = .ok (.lload_n 2, 1) := by decide +kernel
theorem dL_down_7 : decode cL_down 7 = .ok (.lrem, 1) := by decide +kernel
theorem dL_down_8 : decode cL_down 8 = .ok (.lconst 0, 1) := by decide +kernel
theorem dL_down_9 : decode cL_down 9 = .ok (.lcmp, 1) := by decide +kernel
theorem dL_down_10 : decode cL_down 10 = .ok (.ifCond .ge 10, 3) := by decide +kernel
theorem dL_down_13 : decode cL_down 13 = .ok (.lload 4, 2) := by decide +kernel
theorem dL_down_15 : decode cL_down 15 = .ok (.lconst 1, 1) := by decide +kernel
theorem dL_down_16 : decode cL_down 16 = .ok (.lsub, 1) := by decide +kernel
theorem dL_down_17 : decode cL_down 17 = .ok (.goto 5, 3) := by decide +kernel
theorem dL_down_20 : decode cL_down 20 = .ok (.lload 4, 2) := by decide +kernel
theorem dL_down_22 : decode cL_down 22 = .ok (.lreturn, 1) := by decide +kernel
theorem dL_cross_0 : decode cL_cross 0 = .ok (.iconst 3, 1) := by decide +kernel
theorem dL_cross_1 : decode cL_cross 1 = .ok (.aload_n 1, 1) := by decide +kernel
theorem dL_cross_2 : decode cL_cross 2 = .ok (.bipush 9, 2) := by decide +kernel
theorem dL_cross_4 : decode cL_cross 4 = .ok (.iload_n 2, 1) := by decide +kernel
theorem dL_cross_5 : decode cL_cross 5 = .ok (.imul, 1) := by decide +kernel
theorem dL_cross_6 : decode cL_cross 6 = .ok (.iaload, 1) := by decide +kernel
theorem dL_cross_7 : decode cL_cross 7 = .ok (.imul, 1) := by decide +kernel
theorem dL_cross_8 : decode cL_cross 8 = .ok (.istore 6, 2) := by decide +kernel
theorem dL_cross_10 : decode cL_cross 10 = .ok (.iconst 3, 1) := by decide +kernel
theorem dL_cross_11 : decode cL_cross 11 = .ok (.aload_n 1, 1) := by decide +kernel
theorem dL_cross_12 : decode cL_cross 12 = .ok (.bipush 9, 2) := by decide +kernel
theorem dL_cross_14 : decode cL_cross 14 = .ok (.iload_n 3, 1) := by decide +kernel
theorem dL_cross_15 : decode cL_cross 15 = .ok (.imul, 1) := by decide +kernel
theorem dL_cross_16 : decode cL_cross 16 = .ok (.iaload, 1) := by decide +kernel
theorem dL_cross_17 : decode cL_cross 17 = .ok (.imul, 1) := by decide +kernel
theorem dL_cross_18 : decode cL_cross 18 = .ok (.istore 7, 2) := by decide +kernel
theorem dL_cross_20 : decode cL_cross 20 = .ok (.aload_n 1, 1) := by decide +kernel
theorem dL_cross_21 : decode cL_cross 21 = .ok (.bipush 9, 2) := by decide +kernel
theorem dL_cross_23 : decode cL_cross 23 = .ok (.iload_n 2, 1) := by decide +kernel
theorem dL_cross_24 : decode cL_cross 24 = .ok (.imul, 1) := by decide +kernel
theorem dL_cross_25 : decode cL_cross 25 = .ok (.iload 4, 2) := by decide +kernel
theorem dL_cross_27 : decode cL_cross 27 = .ok (.iadd, 1) := by decide +kernel
theorem dL_cross_28 : decode cL_cross 28 = .ok (.iaload, 1) := by decide +kernel
theorem dL_cross_29 : decode cL_cross 29 = .ok (.i2l, 1) := by decide +kernel
theorem dL_cross_30 : decode cL_cross 30 = .ok (.lstore 8, 2) := by decide +kernel
theorem dL_cross_32 : decode cL_cross 32 = .ok (.aload_n 1, 1) := by decide +kernel
theorem dL_cross_33 : decode cL_cross 33 = .ok (.bipush 9, 2) := by decide +kernel
theorem dL_cross_35 : decode cL_cross 35 = .ok (.iload_n 2, 1) := by decide +kernel
theorem dL_cross_36 : decode cL_cross 36 = .ok (.imul, 1) := by decide +kernel
theorem dL_cross_37 : decode cL_cross 37 = .ok (.iload 4, 2) := by decide +kernel
theorem dL_cross_39 : decode cL_cross 39 = .ok (.iadd, 1) := by decide +kernel
theorem dL_cross_40 : decode cL_cross 40 = .ok (.iconst 1, 1) := by decide +kernel
theorem dL_cross_41 : decode cL_cross 41 = .ok (.iadd, 1) := by decide +kernel
theorem dL_cross_42 : decode cL_cross 42 = .ok (.iaload, 1) := by decide +kernel
theorem dL_cross_43 : decode cL_cross 43 = .ok (.i2l, 1) := by decide +kernel
theorem dL_cross_44 : decode cL_cross 44 = .ok (.lstore 10, 2) := by decide +kernel
theorem dL_cross_46 : decode cL_cross 46 = .ok (.aload_n 1, 1) := by decide +kernel
theorem dL_cross_47 : decode cL_cross 47 = .ok (.bipush 9, 2) := by decide +kernel
theorem dL_cross_49 : decode cL_cross 49 = .ok (.iload_n 3, 1) := by decide +kernel
theorem dL_cross_50 : decode cL_cross 50 = .ok (.imul, 1) := by decide +kernel
theorem dL_cross_51 : decode cL_cross 51 = .ok (.iload 4, 2) := by decide +kernel
theorem dL_cross_53 : decode cL_cross 53 = .ok (.iadd, 1) := by decide +kernel
theorem dL_cross_54 : decode cL_cross 54 = .ok (.iaload, 1) := by decide +kernel
theorem dL_cross_55 : decode cL_cross 55 = .ok (.i2l, 1) := by decide +kernel
theorem dL_cross_56 : decode cL_cross 56 = .ok (.lstore 12, 2) := by decide +kernel
theorem dL_cross_58 : decode cL_cross 58 = .ok (.aload_n 1, 1) := by decide +kernel
theorem dL_cross_59 : decode cL_cross 59 = .ok (.bipush 9, 2) := by decide +kernel
theorem dL_cross_61 : decode cL_cross 61 = .ok (.iload_n 3, 1) := by decide +kernel
theorem dL_cross_62 : decode cL_cross 62 = .ok (.imul, 1) := by decide +kernel
theorem dL_cross_63 : decode cL_cross 63 = .ok (.iload 4, 2) := by decide +kernel
theorem dL_cross_65 : decode cL_cross 65 = .ok (.iadd, 1) := by decide +kernel
theorem dL_cross_66 : decode cL_cross 66 = .ok (.iconst 1, 1) := by decide +kernel
theorem dL_cross_67 : decode cL_cross 67 = .ok (.iadd, 1) := by decide +kernel
theorem dL_cross_68 : decode cL_cross 68 = .ok (.iaload, 1) := by decide +kernel
theorem dL_cross_69 : decode cL_cross 69 = .ok (.i2l, 1) := by decide +kernel
theorem dL_cross_70 : decode cL_cross 70 = .ok (.lstore 14, 2) := by decide +kernel
theorem dL_cross_72 : decode cL_cross 72 = .ok (.lload 8, 2) := by decide +kernel
theorem dL_cross_74 : decode cL_cross 74 = .ok (.lload 14, 2) := by decide +kernel
theorem dL_cross_76 : decode cL_cross 76 = .ok (.lmul, 1) := by decide +kernel
theorem dL_cross_77 : decode cL_cross 77 = .ok (.lload 10, 2) := by decide +kernel
theorem dL_cross_79 : decode cL_cross 79 = .ok (.lload 12, 2) := by decide +kernel
theorem dL_cross_81 : decode cL_cross 81 = .ok (.lmul, 1) := by decide +kernel
theorem dL_cross_82 : decode cL_cross 82 = .ok (.lsub, 1) := by decide +kernel
theorem dL_cross_83 : decode cL_cross 83 = .ok (.lstore 16, 2) := by decide +kernel
theorem dL_cross_85 : decode cL_cross 85 = .ok (.lload 16, 2) := by decide +kernel
theorem dL_cross_87 : decode cL_cross 87 = .ok (.lconst 0, 1) := by decide +kernel
theorem dL_cross_88 : decode cL_cross 88 = .ok (.lcmp, 1) := by decide +kernel
theorem dL_cross_89 : decode cL_cross 89 = .ok (.ifCond .ne 5, 3) := by decide +kernel
theorem dL_cross_92 : decode cL_cross 92 = .ok (.iconst 0, 1) := by decide +kernel
theorem dL_cross_93 : decode cL_cross 93 = .ok (.ireturn, 1) := by decide +kernel
theorem dL_cross_94 : decode cL_cross 94 = .ok (.aload_n 0, 1) := by decide +kernel
theorem dL_cross_95 : decode cL_cross 95 = .ok (.iload 7, 2) := by decide +kernel
theorem dL_cross_97 : decode cL_cross 97 = .ok (.iaload, 1) := by decide +kernel
theorem dL_cross_98 : decode cL_cross 98 = .ok (.aload_n 0, 1) := by decide +kernel
theorem dL_cross_99 : decode cL_cross 99 = .ok (.iload 6, 2) := by decide +kernel
theorem dL_cross_101 : decode cL_cross 101 = .ok (.iaload, 1) := by decide +kernel
theorem dL_cross_102 : decode cL_cross 102 = .ok (.isub, 1) := by decide +kernel
theorem dL_cross_103 : decode cL_cross 103 = .ok (.i2l, 1) := by decide +kernel
theorem dL_cross_104 : decode cL_cross 104 = .ok (.lstore 18, 2) := by decide +kernel
theorem dL_cross_106 : decode cL_cross 106 = .ok (.aload_n 0, 1) := by decide +kernel
theorem dL_cross_107 : decode cL_cross 107 = .ok (.iload 7, 2) := by decide +kernel
theorem dL_cross_109 : decode cL_cross 109 = .ok (.iconst 1, 1) := by decide +kernel
theorem dL_cross_110 : decode cL_cross 110 = .ok (.iadd, 1) := by decide +kernel
theorem dL_cross_111 : decode cL_cross 111 = .ok (.iaload, 1) := by decide +kernel
theorem dL_cross_112 : decode cL_cross 112 = .ok (.aload_n 0, 1) := by decide +kernel
theorem dL_cross_113 : decode cL_cross 113 = .ok (.iload 6, 2) := by decide +kernel
theorem dL_cross_115 : decode cL_cross 115 = .ok (.iconst 1, 1) := by decide +kernel
theorem dL_cross_116 : decode cL_cross 116 = .ok (.iadd, 1) := by decide +kernel
theorem dL_cross_117 : decode cL_cross 117 = .ok (.iaload, 1) := by decide +kernel
theorem dL_cross_118 : decode cL_cross 118 = .ok (.isub, 1) := by decide +kernel
theorem dL_cross_119 : decode cL_cross 119 = .ok (.i2l, 1) := by decide +kernel
theorem dL_cross_120 : decode cL_cross 120 = .ok (.lstore 20, 2) := by decide +kernel
theorem dL_cross_122 : decode cL_cross 122 = .ok (.lload 18, 2) := by decide +kernel
theorem dL_cross_124 : decode cL_cross 124 = .ok (.lload 14, 2) := by decide +kernel
theorem dL_cross_126 : decode cL_cross 126 = .ok (.lmul, 1) := by decide +kernel
theorem dL_cross_127 : decode cL_cross 127 = .ok (.lload 20, 2) := by decide +kernel
theorem dL_cross_129 : decode cL_cross 129 = .ok (.lload 12, 2) := by decide +kernel
theorem dL_cross_131 : decode cL_cross 131 = .ok (.lmul, 1) := by decide +kernel
theorem dL_cross_132 : decode cL_cross 132 = .ok (.lsub, 1) := by decide +kernel
theorem dL_cross_133 : decode cL_cross 133 = .ok (.lstore 22, 2) := by decide +kernel
theorem dL_cross_135 : decode cL_cross 135 = .ok (.lload 18, 2) := by decide +kernel
theorem dL_cross_137 : decode cL_cross 137 = .ok (.lload 10, 2) := by decide +kernel
theorem dL_cross_139 : decode cL_cross 139 = .ok (.lmul, 1) := by decide +kernel
theorem dL_cross_140 : decode cL_cross 140 = .ok (.lload 20, 2) := by decide +kernel
theorem dL_cross_142 : decode cL_cross 142 = .ok (.lload 8, 2) := by decide +kernel
theorem dL_cross_144 : decode cL_cross 144 = .ok (.lmul, 1) := by decide +kernel
theorem dL_cross_145 : decode cL_cross 145 = .ok (.lsub, 1) := by decide +kernel
theorem dL_cross_146 : decode cL_cross 146 = .ok (.lstore 24, 2) := by decide +kernel
theorem dL_cross_148 : decode cL_cross 148 = .ok (.lload 16, 2) := by decide +kernel
theorem dL_cross_150 : decode cL_cross 150 = .ok (.lconst 0, 1) := by decide +kernel
theorem dL_cross_151 : decode cL_cross 151 = .ok (.lcmp, 1) := by decide +kernel
theorem dL_cross_152 : decode cL_cross 152 = .ok (.ifCond .ge 18, 3) := by decide +kernel
theorem dL_cross_155 : decode cL_cross 155 = .ok (.lload 16, 2) := by decide +kernel
theorem dL_cross_157 : decode cL_cross 157 = .ok (.lneg, 1) := by decide +kernel
theorem dL_cross_158 : decode cL_cross 158 = .ok (.lstore 16, 2) := by decide +kernel
theorem dL_cross_160 : decode cL_cross 160 = .ok (.lload 22, 2) := by decide +kernel
theorem dL_cross_162 : decode cL_cross 162 = .ok (.lneg, 1) := by decide +kernel
theorem dL_cross_163 : decode cL_cross 163 = .ok (.lstore 22, 2) := by decide +kernel
theorem dL_cross_165 : decode cL_cross 165 = .ok (.lload 24, 2) := by decide +kernel
theorem dL_cross_167 : decode cL_cross 167 = .ok (.lneg, 1) := by decide +kernel
theorem dL_cross_168 : decode cL_cross 168 = .ok (.lstore 24, 2) := by decide +kernel
theorem dL_cross_170 : decode cL_cross 170 = .ok (.lload 22, 2) := by decide +kernel
theorem dL_cross_172 : decode cL_cross 172 = .ok (.lconst 0, 1) := by decide +kernel
theorem dL_cross_173 : decode cL_cross 173 = .ok (.lcmp, 1) := by decide +kernel
theorem dL_cross_174 : decode cL_cross 174 = .ok (.ifCond .le 10, 3) := by decide +kernel
theorem dL_cross_177 : decode cL_cross 177 = .ok (.lload 24, 2) := by decide +kernel
theorem dL_cross_179 : decode cL_cross 179 = .ok (.lconst 0, 1) := by decide +kernel
theorem dL_cross_180 : decode cL_cross 180 = .ok (.lcmp, 1) := by decide +kernel
theorem dL_cross_181 : decode cL_cross 181 = .ok (.ifCond .gt 5, 3) := by decide +kernel
theorem dL_cross_184 : decode cL_cross 184 = .ok (.iconst 0, 1) := by decide +kernel
theorem dL_cross_185 : decode cL_cross 185 = .ok (.ireturn, 1) := by decide +kernel
theorem dL_cross_186 : decode cL_cross 186 = .ok (.aload 5, 2) := by decide +kernel
theorem dL_cross_188 : decode cL_cross 188 = .ok (.iconst 0, 1) := by decide +kernel
theorem dL_cross_189 : decode cL_cross 189 = .ok (.ldc2_w 10, 3) := by decide +kernel
theorem dL_cross_192 : decode cL_cross 192 = .ok (.aload_n 0, 1) := by decide +kernel
theorem dL_cross_193 : decode cL_cross 193 = .ok (.iload 6, 2) := by decide +kernel
theorem dL_cross_195 : decode cL_cross 195 = .ok (.iaload, 1) := by decide +kernel
theorem dL_cross_196 : decode cL_cross 196 = .ok (.i2l, 1) := by decide +kernel
theorem dL_cross_197 : decode cL_cross 197 = .ok (.lload 16, 2) := by decide +kernel
theorem dL_cross_199 : decode cL_cross 199 = .ok (.lmul, 1) := by decide +kernel
theorem dL_cross_200 : decode cL_cross 200 = .ok (.lload 22, 2) := by decide +kernel
theorem dL_cross_202 : decode cL_cross 202 = .ok (.lload 8, 2) := by decide +kernel
theorem dL_cross_204 : decode cL_cross 204 = .ok (.lmul, 1) := by decide +kernel
theorem dL_cross_205 : decode cL_cross 205 = .ok (.ladd, 1) := by decide +kernel
theorem dL_cross_206 : decode cL_cross 206 = .ok (.lmul, 1) := by decide +kernel
theorem dL_cross_207 : decode cL_cross 207 = .ok (.lload 16, 2) := by decide +kernel
theorem dL_cross_209 : decode cL_cross 209 = .ok (.invokestatic 12, 3) := by decide +kernel
theorem dL_cross_212 : decode cL_cross 212 = .ok (.lastore, 1) := by decide +kernel
theorem dL_cross_213 : decode cL_cross 213 = .ok (.aload 5, 2) := by decide +kernel
theorem dL_cross_215 : decode cL_cross 215 = .ok (.iconst 1, 1) := by decide +kernel
theorem dL_cross_216 : decode cL_cross 216 = .ok (.ldc2_w 10, 3) := by decide +kernel
theorem dL_cross_219 : decode cL_cross 219 = .ok (.aload_n 0, 1) := by decide +kernel
theorem dL_cross_220 : decode cL_cross 220 = .ok (.iload 6, 2) := by decide +kernel
theorem dL_cross_222 : decode cL_cross 222 = .ok (.iconst 1, 1) := by decide +kernel
theorem dL_cross_223 : decode cL_cross 223 = .ok (.iadd, 1) := by decide +kernel
theorem dL_cross_224 : decode cL_cross 224 = .ok (.iaload, 1) := by decide +kernel
theorem dL_cross_225 : decode cL_cross 225 = .ok (.i2l, 1) := by decide +kernel
theorem dL_cross_226 : decode cL_cross 226 = .ok (.lload 16, 2) := by decide +kernel
theorem dL_cross_228 : decode cL_cross 228 = .ok (.lmul, 1) := by decide +kernel
theorem dL_cross_229 : decode cL_cross 229 = .ok (.lload 22, 2) := by decide +kernel
theorem dL_cross_231 : decode cL_cross 231 = .ok (.lload 10, 2) := by decide +kernel
theorem dL_cross_233 : decode cL_cross 233 = .ok (.lmul, 1) := by decide +kernel
theorem dL_cross_234 : decode cL_cross 234 = .ok (.ladd, 1) := by decide +kernel
theorem dL_cross_235 : decode cL_cross 235 = .ok (.lmul, 1) := by decide +kernel
theorem dL_cross_236 : decode cL_cross 236 = .ok (.lload 16, 2) := by decide +kernel
theorem dL_cross_238 : decode cL_cross 238 = .ok (.invokestatic 12, 3) := by decide +kernel
theorem dL_cross_241 : decode cL_cross 241 = .ok (.lastore, 1) := by decide +kernel
theorem dL_cross_242 : decode cL_cross 242 = .ok (.iconst 1, 1) := by decide +kernel
theorem dL_cross_243 : decode cL_cross 243 = .ok (.ireturn, 1) := by decide +kernel
theorem dL_joins_0 : decode cL_joins 0 = .ok (.iload_n 2, 1) := by decide +kernel
theorem dL_joins_1 : decode cL_joins 1 = .ok (.iload_n 3, 1) := by decide +kernel
theorem dL_joins_2 : decode cL_joins 2 = .ok (.if_icmp .eq 89, 3) := by decide +kernel
theorem dL_joins_5 : decode cL_joins 5 = .ok (.aload_n 1, 1) := by decide +kernel
theorem dL_joins_6 : decode cL_joins 6 = .ok (.bipush 9, 2) := by decide +kernel
theorem dL_joins_8 : decode cL_joins 8 = .ok (.iload_n 2, 1) := by decide +kernel
theorem dL_joins_9 : decode cL_joins 9 = .ok (.imul, 1) := by decide +kernel
theorem dL_joins_10 : decode cL_joins 10 = .ok (.iaload, 1) := by decide +kernel
theorem dL_joins_11 : decode cL_joins 11 = .ok (.aload_n 1, 1) := by decide +kernel
theorem dL_joins_12 : decode cL_joins 12 = .ok (.bipush 9, 2) := by decide +kernel
theorem dL_joins_14 : decode cL_joins 14 = .ok (.iload_n 3, 1) := by decide +kernel
theorem dL_joins_15 : decode cL_joins 15 = .ok (.imul, 1) := by decide +kernel
theorem dL_joins_16 : decode cL_joins 16 = .ok (.iaload, 1) := by decide +kernel
theorem dL_joins_17 : decode cL_joins 17 = .ok (.if_icmp .eq 74, 3) := by decide +kernel
theorem dL_joins_20 : decode cL_joins 20 = .ok (.aload_n 1, 1) := by decide +kernel
theorem dL_joins_21 : decode cL_joins 21 = .ok (.bipush 9, 2) := by decide +kernel
theorem dL_joins_23 : decode cL_joins 23 = .ok (.iload_n 2, 1) := by decide +kernel
theorem dL_joins_24 : decode cL_joins 24 = .ok (.imul, 1) := by decide +kernel
theorem dL_joins_25 : decode cL_joins 25 = .ok (.iconst 1, 1) := by decide +kernel
theorem dL_joins_26 : decode cL_joins 26 = .ok (.iadd, 1) := by decide +kernel
theorem dL_joins_27 : decode cL_joins 27 = .ok (.iaload, 1) := by decide +kernel
theorem dL_joins_28 : decode cL_joins 28 = .ok (.aload_n 1, 1) := by decide +kernel
theorem dL_joins_29 : decode cL_joins 29 = .ok (.bipush 9, 2) := by decide +kernel
theorem dL_joins_31 : decode cL_joins 31 = .ok (.iload_n 3, 1) := by decide +kernel
theorem dL_joins_32 : decode cL_joins 32 = .ok (.imul, 1) := by decide +kernel
theorem dL_joins_33 : decode cL_joins 33 = .ok (.iconst 1, 1) := by decide +kernel
theorem dL_joins_34 : decode cL_joins 34 = .ok (.iadd, 1) := by decide +kernel
theorem dL_joins_35 : decode cL_joins 35 = .ok (.iaload, 1) := by decide +kernel
theorem dL_joins_36 : decode cL_joins 36 = .ok (.if_icmp .ne 55, 3) := by decide +kernel
theorem dL_joins_39 : decode cL_joins 39 = .ok (.aload_n 1, 1) := by decide +kernel
theorem dL_joins_40 : decode cL_joins 40 = .ok (.bipush 9, 2) := by decide +kernel
theorem dL_joins_42 : decode cL_joins 42 = .ok (.iload_n 2, 1) := by decide +kernel
theorem dL_joins_43 : decode cL_joins 43 = .ok (.imul, 1) := by decide +kernel
theorem dL_joins_44 : decode cL_joins 44 = .ok (.iconst 3, 1) := by decide +kernel
theorem dL_joins_45 : decode cL_joins 45 = .ok (.iadd, 1) := by decide +kernel
theorem dL_joins_46 : decode cL_joins 46 = .ok (.iaload, 1) := by decide +kernel
theorem dL_joins_47 : decode cL_joins 47 = .ok (.bipush 30, 2) := by decide +kernel
theorem dL_joins_49 : decode cL_joins 49 = .ok (.if_icmp .gt 42, 3) := by decide +kernel
theorem dL_joins_52 : decode cL_joins 52 = .ok (.aload_n 1, 1) := by decide +kernel
theorem dL_joins_53 : decode cL_joins 53 = .ok (.bipush 9, 2) := by decide +kernel
theorem dL_joins_55 : decode cL_joins 55 = .ok (.iload_n 3, 1) := by decide +kernel
theorem dL_joins_56 : decode cL_joins 56 = .ok (.imul, 1) := by decide +kernel
theorem dL_joins_57 : decode cL_joins 57 = .ok (.iconst 3, 1) := by decide +kernel
theorem dL_joins_58 : decode cL_joins 58 = .ok (.iadd, 1) := by decide +kernel
theorem dL_joins_59 : decode cL_joins 59 = .ok (.iaload, 1) := by decide +kernel
theorem dL_joins_60 : decode cL_joins 60 = .ok (.bipush 30, 2) := by decide +kernel
theorem dL_joins_62 : decode cL_joins 62 = .ok (.if_icmp .gt 29, 3) := by decide +kernel
theorem dL_joins_65 : decode cL_joins 65 = .ok (.aload_n 1, 1) := by decide +kernel
theorem dL_joins_66 : decode cL_joins 66 = .ok (.bipush 9, 2) := by decide +kernel
theorem dL_joins_68 : decode cL_joins 68 = .ok (.iload_n 2, 1) := by decide +kernel
theorem dL_joins_69 : decode cL_joins 69 = .ok (.imul, 1) := by decide +kernel
theorem dL_joins_70 : decode cL_joins 70 = .ok (.iconst 4, 1) := by decide +kernel
theorem dL_joins_71 : decode cL_joins 71 = .ok (.iadd, 1) := by decide +kernel
theorem dL_joins_72 : decode cL_joins 72 = .ok (.iaload, 1) := by decide +kernel
theorem dL_joins_73 : decode cL_joins 73 = .ok (.bipush 50, 2) := by decide +kernel
theorem dL_joins_75 : decode cL_joins 75 = .ok (.if_icmp .lt 16, 3) := by decide +kernel
theorem dL_joins_78 : decode cL_joins 78 = .ok (.aload_n 1, 1) := by decide +kernel
theorem dL_joins_79 : decode cL_joins 79 = .ok (.bipush 9, 2) := by decide +kernel
theorem dL_joins_81 : decode cL_joins 81 = .ok (.iload_n 3, 1) := by decide +kernel
theorem dL_joins_82 : decode cL_joins 82 = .ok (.imul, 1) := by decide +kernel
theorem dL_joins_83 : decode cL_joins 83 = .ok (.iconst 4, 1) := by decide +kernel
theorem dL_joins_84 : decode cL_joins 84 = .ok (.iadd, 1) := by decide +kernel
theorem dL_joins_85 : decode cL_joins 85 = .ok (.iaload, 1) := by decide +kernel
theorem dL_joins_86 : decode cL_joins 86 = .ok (.bipush 50, 2) := by decide +kernel
theorem dL_joins_88 : decode cL_joins 88 = .ok (.if_icmp .ge 5, 3) := by decide +kernel
theorem dL_joins_91 : decode cL_joins 91 = .ok (.iconst 0, 1) := by decide +kernel
theorem dL_joins_92 : decode cL_joins 92 = .ok (.ireturn, 1) := by decide +kernel
theorem dL_joins_93 : decode cL_joins 93 = .ok (.aload_n 1, 1) := by decide +kernel
theorem dL_joins_94 : decode cL_joins 94 = .ok (.bipush 9, 2) := by decide +kernel
theorem dL_joins_96 : decode cL_joins 96 = .ok (.iload_n 2, 1) := by decide +kernel
theorem dL_joins_97 : decode cL_joins 97 = .ok (.imul, 1) := by decide +kernel
theorem dL_joins_98 : decode cL_joins 98 = .ok (.iconst 2, 1) := by decide +kernel
theorem dL_joins_99 : decode cL_joins 99 = .ok (.iadd, 1) := by decide +kernel
theorem dL_joins_100 : decode cL_joins 100 = .ok (.iaload, 1) := by decide +kernel
theorem dL_joins_101 : decode cL_joins 101 = .ok (.aload_n 0, 1) := by decide +kernel
theorem dL_joins_102 : decode cL_joins 102 = .ok (.iconst 3, 1) := by decide +kernel
theorem dL_joins_103 : decode cL_joins 103 = .ok (.aload_n 1, 1) := by decide +kernel
theorem dL_joins_104 : decode cL_joins 104 = .ok (.bipush 9, 2) := by decide +kernel
theorem dL_joins_106 : decode cL_joins 106 = .ok (.iload_n 2, 1) := by decide +kernel
theorem dL_joins_107 : decode cL_joins 107 = .ok (.imul, 1) := by decide +kernel
theorem dL_joins_108 : decode cL_joins 108 = .ok (.iaload, 1) := by decide +kernel
theorem dL_joins_109 : decode cL_joins 109 = .ok (.imul, 1) := by decide +kernel
theorem dL_joins_110 : decode cL_joins 110 = .ok (.iconst 2, 1) := by decide +kernel
theorem dL_joins_111 : decode cL_joins 111 = .ok (.iadd, 1) := by decide +kernel
theorem dL_joins_112 : decode cL_joins 112 = .ok (.iaload, 1) := by decide +kernel
theorem dL_joins_113 : decode cL_joins 113 = .ok (.isub, 1) := by decide +kernel
theorem dL_joins_114 : decode cL_joins 114 = .ok (.aload_n 1, 1) := by decide +kernel
theorem dL_joins_115 : decode cL_joins 115 = .ok (.bipush 9, 2) := by decide +kernel
theorem dL_joins_117 : decode cL_joins 117 = .ok (.iload_n 3, 1) := by decide +kernel
theorem dL_joins_118 : decode cL_joins 118 = .ok (.imul, 1) := by decide +kernel
theorem dL_joins_119 : decode cL_joins 119 = .ok (.iconst 2, 1) := by decide +kernel
theorem dL_joins_120 : decode cL_joins 120 = .ok (.iadd, 1) := by decide +kernel
theorem dL_joins_121 : decode cL_joins 121 = .ok (.iaload, 1) := by decide +kernel
theorem dL_joins_122 : decode cL_joins 122 = .ok (.isub, 1) := by decide +kernel
theorem dL_joins_123 : decode cL_joins 123 = .ok (.aload_n 0, 1) := by decide +kernel
theorem dL_joins_124 : decode cL_joins 124 = .ok (.iconst 3, 1) := by decide +kernel
theorem dL_joins_125 : decode cL_joins 125 = .ok (.aload_n 1, 1) := by decide +kernel
theorem dL_joins_126 : decode cL_joins 126 = .ok (.bipush 9, 2) := by decide +kernel
theorem dL_joins_128 : decode cL_joins 128 = .ok (.iload_n 3, 1) := by decide +kernel
theorem dL_joins_129 : decode cL_joins 129 = .ok (.imul, 1) := by decide +kernel
theorem dL_joins_130 : decode cL_joins 130 = .ok (.iaload, 1) := by decide +kernel
theorem dL_joins_131 : decode cL_joins 131 = .ok (.imul, 1) := by decide +kernel
theorem dL_joins_132 : decode cL_joins 132 = .ok (.iconst 2, 1) := by decide +kernel
theorem dL_joins_133 : decode cL_joins 133 = .ok (.iadd, 1) := by decide +kernel
theorem dL_joins_134 : decode cL_joins 134 = .ok (.iaload, 1) := by decide +kernel
theorem dL_joins_135 : decode cL_joins 135 = .ok (.iadd, 1) := by decide +kernel
theorem dL_joins_136 : decode cL_joins 136 = .ok (.istore 4, 2) := by decide +kernel
theorem dL_joins_138 : decode cL_joins 138 = .ok (.iconst 4, 1) := by decide +kernel
theorem dL_joins_139 : decode cL_joins 139 = .ok (.newarray .long, 2) := by decide +kernel
theorem dL_joins_141 : decode cL_joins 141 = .ok (.astore 5, 2) := by decide +kernel
theorem dL_joins_143 : decode cL_joins 143 = .ok (.iload 4, 2) := by decide +kernel
theorem dL_joins_145 : decode cL_joins 145 = .ok (.bipush 6, 2) := by decide +kernel
theorem dL_joins_147 : decode cL_joins 147 = .ok (.if_icmp .ge 41, 3) := by decide +kernel
theorem dL_joins_150 : decode cL_joins 150 = .ok (.iload 4, 2) := by decide +kernel
theorem dL_joins_152 : decode cL_joins 152 = .ok (.bipush (-6), 2) := by decide +kernel
theorem dL_joins_154 : decode cL_joins 154 = .ok (.if_icmp .le 34, 3) := by decide +kernel
theorem dL_joins_157 : decode cL_joins 157 = .ok (.aload_n 0, 1) := by decide +kernel
theorem dL_joins_158 : decode cL_joins 158 = .ok (.aload_n 1, 1) := by decide +kernel
theorem dL_joins_159 : decode cL_joins 159 = .ok (.iload_n 2, 1) := by decide +kernel
theorem dL_joins_160 : decode cL_joins 160 = .ok (.iload_n 3, 1) := by decide +kernel
theorem dL_joins_161 : decode cL_joins 161 = .ok (.iconst 5, 1) := by decide +kernel
theorem dL_joins_162 : decode cL_joins 162 = .ok (.aload 5, 2) := by decide +kernel
theorem dL_joins_164 : decode cL_joins 164 = .ok (.invokestatic 18, 3) := by decide +kernel
theorem dL_joins_167 : decode cL_joins 167 = .ok (.ifCond .eq 21, 3) := by decide +kernel
theorem dL_joins_170 : decode cL_joins 170 = .ok (.aload_n 0, 1) := by decide +kernel
theorem dL_joins_171 : decode cL_joins 171 = .ok (.aload_n 1, 1) := by decide +kernel
theorem dL_joins_172 : decode cL_joins 172 = .ok (.iload_n 2, 1) := by decide +kernel
theorem dL_joins_173 : decode cL_joins 173 = .ok (.iload_n 3, 1) := by decide +kernel
theorem dL_joins_174 : decode cL_joins 174 = .ok (.bipush 7, 2) := by decide +kernel
theorem dL_joins_176 : decode cL_joins 176 = .ok (.aload 5, 2) := by decide +kernel
theorem dL_joins_178 : decode cL_joins 178 = .ok (.invokestatic 18, 3) := by decide +kernel
theorem dL_joins_181 : decode cL_joins 181 = .ok (.ifCond .eq 7, 3) := by decide +kernel
theorem dL_joins_184 : decode cL_joins 184 = .ok (.iconst 1, 1) := by decide +kernel
theorem dL_joins_185 : decode cL_joins 185 = .ok (.goto 4, 3) := by decide +kernel
theorem dL_joins_188 : decode cL_joins 188 = .ok (.iconst 0, 1) := by decide +kernel
theorem dL_joins_189 : decode cL_joins 189 = .ok (.ireturn, 1) := by decide +kernel
theorem dL_group_0 : decode cL_group 0 = .ok (.bipush 16, 2) := by decide +kernel
theorem dL_group_2 : decode cL_group 2 = .ok (.newarray .int, 2) := by decide +kernel
theorem dL_group_4 : decode cL_group 4 = .ok (.astore 4, 2) := by decide +kernel
theorem dL_group_6 : decode cL_group 6 = .ok (.aload 4, 2) := by decide +kernel
theorem dL_group_8 : decode cL_group 8 = .ok (.iload_n 3, 1) := by decide +kernel
theorem dL_group_9 : decode cL_group 9 = .ok (.iconst 1, 1) := by decide +kernel
theorem dL_group_10 : decode cL_group 10 = .ok (.iastore, 1) := by decide +kernel
theorem dL_group_11 : decode cL_group 11 = .ok (.iconst 1, 1) := by decide +kernel
theorem dL_group_12 : decode cL_group 12 = .ok (.istore 5, 2) := by decide +kernel
theorem dL_group_14 : decode cL_group 14 = .ok (.iconst 0, 1) := by decide +kernel
theorem dL_group_15 : decode cL_group 15 = .ok (.istore 6, 2) := by decide +kernel
theorem dL_group_17 : decode cL_group 17 = .ok (.iload 5, 2) := by decide +kernel
theorem dL_group_19 : decode cL_group 19 = .ok (.ifCond .eq 80, 3) := by decide +kernel
theorem dL_group_22 : decode cL_group 22 = .ok (.iconst 0, 1) := by decide +kernel
theorem dL_group_23 : decode cL_group 23 = .ok (.istore 5, 2) := by decide +kernel
theorem dL_group_25 : decode cL_group 25 = .ok (.iconst 0, 1) := by decide +kernel
theorem dL_group_26 : decode cL_group 26 = .ok (.istore 7, 2) := by decide +kernel
theorem dL_group_28 : decode cL_group 28 = .ok (.iload 7, 2) := by decide +kernel
theorem dL_group_30 : decode cL_group 30 = .ok (.iload_n 2, 1) := by decide +kernel
theorem dL_group_31 : decode cL_group 31 = .ok (.if_icmp .ge 65, 3) := by decide +kernel
theorem dL_group_34 : decode cL_group 34 = .ok (.iconst 0, 1) := by decide +kernel
theorem dL_group_35 : decode cL_group 35 = .ok (.istore 8, 2) := by decide +kernel
theorem dL_group_37 : decode cL_group 37 = .ok (.iload 8, 2) := by decide +kernel
theorem dL_group_39 : decode cL_group 39 = .ok (.iload_n 2, 1) := by decide +kernel
theorem dL_group_40 : decode cL_group 40 = .ok (.if_icmp .ge 50, 3) := by decide +kernel
theorem dL_group_43 : decode cL_group 43 = .ok (.aload 4, 2) := by decide +kernel
theorem dL_group_45 : decode cL_group 45 = .ok (.iload 7, 2) := by decide +kernel
theorem dL_group_47 : decode cL_group 47 = .ok (.iaload, 1) := by decide +kernel
theorem dL_group_48 : decode cL_group 48 = .ok (.iconst 1, 1) := by decide +kernel
theorem dL_group_49 : decode cL_group 49 = .ok (.if_icmp .ne 35, 3) := by decide +kernel
theorem dL_group_52 : decode cL_group 52 = .ok (.aload 4, 2) := by decide +kernel
theorem dL_group_54 : decode cL_group 54 = .ok (.iload 8, 2) := by decide +kernel
theorem dL_group_56 : decode cL_group 56 = .ok (.iaload, 1) := by decide +kernel
theorem dL_group_57 : decode cL_group 57 = .ok (.ifCond .ne 27, 3) := by decide +kernel
theorem dL_group_60 : decode cL_group 60 = .ok (.aload_n 0, 1) := by decide +kernel
theorem dL_group_61 : decode cL_group 61 = .ok (.aload_n 1, 1) := by decide +kernel
theorem dL_group_62 : decode cL_group 62 = .ok (.iload 7, 2) := by decide +kernel
theorem dL_group_64 : decode cL_group 64 = .ok (.iload 8, 2) := by decide +kernel
theorem dL_group_66 : decode cL_group 66 = .ok (.invokestatic 22, 3) := by decide +kernel
theorem dL_group_69 : decode cL_group 69 = .ok (.ifCond .eq 15, 3) := by decide +kernel
theorem dL_group_72 : decode cL_group 72 = .ok (.aload 4, 2) := by decide +kernel
theorem dL_group_74 : decode cL_group 74 = .ok (.iload 8, 2) := by decide +kernel
theorem dL_group_76 : decode cL_group 76 = .ok (.iconst 1, 1) := by decide +kernel
theorem dL_group_77 : decode cL_group 77 = .ok (.iastore, 1) := by decide +kernel
theorem dL_group_78 : decode cL_group 78 = .ok (.iinc 6 1, 3) := by decide +kernel
theorem dL_group_81 : decode cL_group 81 = .ok (.iconst 1, 1) := by decide +kernel
theorem dL_group_82 : decode cL_group 82 = .ok (.istore 5, 2) := by decide +kernel
theorem dL_group_84 : decode cL_group 84 = .ok (.iinc 8 1, 3) := by decide +kernel
theorem dL_group_87 : decode cL_group 87 = .ok (.goto (-50), 3) := by decide +kernel
theorem dL_group_90 : decode cL_group 90 = .ok (.iinc 7 1, 3) := by decide +kernel
theorem dL_group_93 : decode cL_group 93 = .ok (.goto (-65), 3) := by decide +kernel
theorem dL_group_96 : decode cL_group 96 = .ok (.goto (-79), 3) := by decide +kernel
theorem dL_group_99 : decode cL_group 99 = .ok (.iconst 0, 1) := by decide +kernel
theorem dL_group_100 : decode cL_group 100 = .ok (.istore 7, 2) := by decide +kernel
theorem dL_group_102 : decode cL_group 102 = .ok (.aload 4, 2) := by decide +kernel
theorem dL_group_104 : decode cL_group 104 = .ok (.iload 7, 2) := by decide +kernel
theorem dL_group_106 : decode cL_group 106 = .ok (.iaload, 1) := by decide +kernel
theorem dL_group_107 : decode cL_group 107 = .ok (.ifCond .ne 9, 3) := by decide +kernel
theorem dL_group_110 : decode cL_group 110 = .ok (.iinc 7 1, 3) := by decide +kernel
theorem dL_group_113 : decode cL_group 113 = .ok (.goto (-11), 3) := by decide +kernel
theorem dL_group_116 : decode cL_group 116 = .ok (.iload 6, 2) := by decide +kernel
theorem dL_group_118 : decode cL_group 118 = .ok (.ifCond .ne 7, 3) := by decide +kernel
theorem dL_group_121 : decode cL_group 121 = .ok (.iconst (-1), 1) := by decide +kernel
theorem dL_group_122 : decode cL_group 122 = .ok (.goto 5, 3) := by decide +kernel
theorem dL_group_125 : decode cL_group 125 = .ok (.iload 7, 2) := by decide +kernel
theorem dL_group_127 : decode cL_group 127 = .ok (.ireturn, 1) := by decide +kernel
theorem dL_all_0 : decode cL_all 0 = .ok (.iconst 4, 1) := by decide +kernel
theorem dL_all_1 : decode cL_all 1 = .ok (.newarray .long, 2) := by decide +kernel
theorem dL_all_3 : decode cL_all 3 = .ok (.astore 5, 2) := by decide +kernel
theorem dL_all_5 : decode cL_all 5 = .ok (.iconst 0, 1) := by decide +kernel
theorem dL_all_6 : decode cL_all 6 = .ok (.istore 6, 2) := by decide +kernel
theorem dL_all_8 : decode cL_all 8 = .ok (.iload 6, 2) := by decide +kernel
theorem dL_all_10 : decode cL_all 10 = .ok (.bipush 12, 2) := by decide +kernel
theorem dL_all_12 : decode cL_all 12 = .ok (.if_icmp .ge 15, 3) := by decide +kernel
theorem dL_all_15 : decode cL_all 15 = .ok (.aload 4, 2) := by decide +kernel
theorem dL_all_17 : decode cL_all 17 = .ok (.iload 6, 2) := by decide +kernel
theorem dL_all_19 : decode cL_all 19 = .ok (.lconst 0, 1) := by decide +kernel
theorem dL_all_20 : decode cL_all 20 = .ok (.lastore, 1) := by decide +kernel
theorem dL_all_21 : decode cL_all 21 = .ok (.iinc 6 1, 3) := by decide +kernel
theorem dL_all_24 : decode cL_all 24 = .ok (.goto (-16), 3) := by decide +kernel
theorem dL_all_27 : decode cL_all 27 = .ok (.lconst 0, 1) := by decide +kernel
theorem dL_all_28 : decode cL_all 28 = .ok (.lstore 6, 2) := by decide +kernel
theorem dL_all_30 : decode cL_all 30 = .ok (.lconst 0, 1) := by decide +kernel
theorem dL_all_31 : decode cL_all 31 = .ok (.lstore 8, 2) := by decide +kernel
theorem dL_all_33 : decode cL_all 33 = .ok (.lconst 0, 1) := by decide +kernel
theorem dL_all_34 : decode cL_all 34 = .ok (.lstore 10, 2) := by decide +kernel
theorem dL_all_36 : decode cL_all 36 = .ok (.iconst 0, 1) := by decide +kernel
theorem dL_all_37 : decode cL_all 37 = .ok (.istore 12, 2) := by decide +kernel
theorem dL_all_39 : decode cL_all 39 = .ok (.iload 12, 2) := by decide +kernel
theorem dL_all_41 : decode cL_all 41 = .ok (.iload_n 2, 1) := by decide +kernel
theorem dL_all_42 : decode cL_all 42 = .ok (.if_icmp .ge 219, 3) := by decide +kernel
theorem dL_all_45 : decode cL_all 45 = .ok (.aload_n 0, 1) := by decide +kernel
theorem dL_all_46 : decode cL_all 46 = .ok (.aload_n 1, 1) := by decide +kernel
theorem dL_all_47 : decode cL_all 47 = .ok (.iload_n 2, 1) := by decide +kernel
theorem dL_all_48 : decode cL_all 48 = .ok (.iload 12, 2) := by decide +kernel
theorem dL_all_50 : decode cL_all 50 = .ok (.invokestatic 26, 3) := by decide +kernel
theorem dL_all_53 : decode cL_all 53 = .ok (.iload_n 3, 1) := by decide +kernel
theorem dL_all_54 : decode cL_all 54 = .ok (.if_icmp .eq 6, 3) := by decide +kernel
theorem dL_all_57 : decode cL_all 57 = .ok (.goto 198, 3) := by decide +kernel
theorem dL_all_60 : decode cL_all 60 = .ok (.aload 4, 2) := by decide +kernel
theorem dL_all_62 : decode cL_all 62 = .ok (.iconst 0, 1) := by decide +kernel
theorem dL_all_63 : decode cL_all 63 = .ok (.dup2, 1) := by decide +kernel
theorem dL_all_64 : decode cL_all 64 = .ok (.laload, 1) := by decide +kernel
theorem dL_all_65 : decode cL_all 65 = .ok (.lconst 1, 1) := by decide +kernel
theorem dL_all_66 : decode cL_all 66 = .ok (.ladd, 1) := by decide +kernel
theorem dL_all_67 : decode cL_all 67 = .ok (.lastore, 1) := by decide +kernel
theorem dL_all_68 : decode cL_all 68 = .ok (.lload 8, 2) := by decide +kernel
theorem dL_all_70 : decode cL_all 70 = .ok (.aload_n 1, 1) := by decide +kernel
theorem dL_all_71 : decode cL_all 71 = .ok (.bipush 9, 2) := by decide +kernel
theorem dL_all_73 : decode cL_all 73 = .ok (.iload 12, 2) := by decide +kernel
theorem dL_all_75 : decode cL_all 75 = .ok (.imul, 1) := by decide +kernel
theorem dL_all_76 : decode cL_all 76 = .ok (.iconst 3, 1) := by decide +kernel
theorem dL_all_77 : decode cL_all 77 = .ok (.iadd, 1) := by decide +kernel
theorem dL_all_78 : decode cL_all 78 = .ok (.iaload, 1) := by decide +kernel
theorem dL_all_79 : decode cL_all 79 = .ok (.i2l, 1) := by decide +kernel
theorem dL_all_80 : decode cL_all 80 = .ok (.ladd, 1) := by decide +kernel
theorem dL_all_81 : decode cL_all 81 = .ok (.lstore 8, 2) := by decide +kernel
theorem dL_all_83 : decode cL_all 83 = .ok (.aload 4, 2) := by decide +kernel
theorem dL_all_85 : decode cL_all 85 = .ok (.bipush 6, 2) := by decide +kernel
theorem dL_all_87 : decode cL_all 87 = .ok (.dup2, 1) := by decide +kernel
theorem dL_all_88 : decode cL_all 88 = .ok (.laload, 1) := by decide +kernel
theorem dL_all_89 : decode cL_all 89 = .ok (.aload_n 1, 1) := by decide +kernel
theorem dL_all_90 : decode cL_all 90 = .ok (.bipush 9, 2) := by decide +kernel
theorem dL_all_92 : decode cL_all 92 = .ok (.iload 12, 2) := by decide +kernel
theorem dL_all_94 : decode cL_all 94 = .ok (.imul, 1) := by decide +kernel
theorem dL_all_95 : decode cL_all 95 = .ok (.iconst 3, 1) := by decide +kernel
theorem dL_all_96 : decode cL_all 96 = .ok (.iadd, 1) := by decide +kernel
theorem dL_all_97 : decode cL_all 97 = .ok (.iaload, 1) := by decide +kernel
theorem dL_all_98 : decode cL_all 98 = .ok (.i2l, 1) := by decide +kernel
theorem dL_all_99 : decode cL_all 99 = .ok (.aload_n 1, 1) := by decide +kernel
theorem dL_all_100 : decode cL_all 100 = .ok (.bipush 9, 2) := by decide +kernel
theorem dL_all_102 : decode cL_all 102 = .ok (.iload 12, 2) := by decide +kernel
theorem dL_all_104 : decode cL_all 104 = .ok (.imul, 1) := by decide +kernel
theorem dL_all_105 : decode cL_all 105 = .ok (.iconst 4, 1) := by decide +kernel
theorem dL_all_106 : decode cL_all 106 = .ok (.iadd, 1) := by decide +kernel
theorem dL_all_107 : decode cL_all 107 = .ok (.iaload, 1) := by decide +kernel
theorem dL_all_108 : decode cL_all 108 = .ok (.i2l, 1) := by decide +kernel
theorem dL_all_109 : decode cL_all 109 = .ok (.lmul, 1) := by decide +kernel
theorem dL_all_110 : decode cL_all 110 = .ok (.ladd, 1) := by decide +kernel
theorem dL_all_111 : decode cL_all 111 = .ok (.lastore, 1) := by decide +kernel
theorem dL_all_112 : decode cL_all 112 = .ok (.aload_n 1, 1) := by decide +kernel
theorem dL_all_113 : decode cL_all 113 = .ok (.bipush 9, 2) := by decide +kernel
theorem dL_all_115 : decode cL_all 115 = .ok (.iload 12, 2) := by decide +kernel
theorem dL_all_117 : decode cL_all 117 = .ok (.imul, 1) := by decide +kernel
theorem dL_all_118 : decode cL_all 118 = .ok (.iconst 4, 1) := by decide +kernel
theorem dL_all_119 : decode cL_all 119 = .ok (.iadd, 1) := by decide +kernel
theorem dL_all_120 : decode cL_all 120 = .ok (.iaload, 1) := by decide +kernel
theorem dL_all_121 : decode cL_all 121 = .ok (.i2l, 1) := by decide +kernel
theorem dL_all_122 : decode cL_all 122 = .ok (.lload 10, 2) := by decide +kernel
theorem dL_all_124 : decode cL_all 124 = .ok (.lcmp, 1) := by decide +kernel
theorem dL_all_125 : decode cL_all 125 = .ok (.ifCond .le 16, 3) := by decide +kernel
theorem dL_all_128 : decode cL_all 128 = .ok (.aload_n 1, 1) := by decide +kernel
theorem dL_all_129 : decode cL_all 129 = .ok (.bipush 9, 2) := by decide +kernel
theorem dL_all_131 : decode cL_all 131 = .ok (.iload 12, 2) := by decide +kernel
theorem dL_all_133 : decode cL_all 133 = .ok (.imul, 1) := by decide +kernel
theorem dL_all_134 : decode cL_all 134 = .ok (.iconst 4, 1) := by decide +kernel
theorem dL_all_135 : decode cL_all 135 = .ok (.iadd, 1) := by decide +kernel
theorem dL_all_136 : decode cL_all 136 = .ok (.iaload, 1) := by decide +kernel
theorem dL_all_137 : decode cL_all 137 = .ok (.i2l, 1) := by decide +kernel
theorem dL_all_138 : decode cL_all 138 = .ok (.goto 5, 3) := by decide +kernel
theorem dL_all_141 : decode cL_all 141 = .ok (.lload 10, 2) := by decide +kernel
theorem dL_all_143 : decode cL_all 143 = .ok (.lstore 10, 2) := by decide +kernel
theorem dL_all_145 : decode cL_all 145 = .ok (.iload 12, 2) := by decide +kernel
theorem dL_all_147 : decode cL_all 147 = .ok (.iconst 1, 1) := by decide +kernel
theorem dL_all_148 : decode cL_all 148 = .ok (.iadd, 1) := by decide +kernel
theorem dL_all_149 : decode cL_all 149 = .ok (.istore 13, 2) := by decide +kernel
theorem dL_all_151 : decode cL_all 151 = .ok (.iload 13, 2) := by decide +kernel
theorem dL_all_153 : decode cL_all 153 = .ok (.iload_n 2, 1) := by decide +kernel
theorem dL_all_154 : decode cL_all 154 = .ok (.if_icmp .ge 101, 3) := by decide +kernel
theorem dL_all_157 : decode cL_all 157 = .ok (.aload_n 0, 1) := by decide +kernel
theorem dL_all_158 : decode cL_all 158 = .ok (.aload_n 1, 1) := by decide +kernel
theorem dL_all_159 : decode cL_all 159 = .ok (.iload 12, 2) := by decide +kernel
theorem dL_all_161 : decode cL_all 161 = .ok (.iload 13, 2) := by decide +kernel
theorem dL_all_163 : decode cL_all 163 = .ok (.invokestatic 22, 3) := by decide +kernel
theorem dL_all_166 : decode cL_all 166 = .ok (.ifCond .ne 6, 3) := by decide +kernel
theorem dL_all_169 : decode cL_all 169 = .ok (.goto 80, 3) := by decide +kernel
theorem dL_all_172 : decode cL_all 172 = .ok (.lload 6, 2) := by decide +kernel
theorem dL_all_174 : decode cL_all 174 = .ok (.lconst 1, 1) := by decide +kernel
theorem dL_all_175 : decode cL_all 175 = .ok (.ladd, 1) := by decide +kernel
theorem dL_all_176 : decode cL_all 176 = .ok (.lstore 6, 2) := by decide +kernel
theorem dL_all_178 : decode cL_all 178 = .ok (.aload_n 0, 1) := by decide +kernel
theorem dL_all_179 : decode cL_all 179 = .ok (.aload_n 1, 1) := by decide +kernel
theorem dL_all_180 : decode cL_all 180 = .ok (.iload 12, 2) := by decide +kernel
theorem dL_all_182 : decode cL_all 182 = .ok (.iload 13, 2) := by decide +kernel
theorem dL_all_184 : decode cL_all 184 = .ok (.iconst 5, 1) := by decide +kernel
theorem dL_all_185 : decode cL_all 185 = .ok (.aload 5, 2) := by decide +kernel
theorem dL_all_187 : decode cL_all 187 = .ok (.invokestatic 18, 3) := by decide +kernel
theorem dL_all_190 : decode cL_all 190 = .ok (.pop, 1) := by decide +kernel
theorem dL_all_191 : decode cL_all 191 = .ok (.aload 4, 2) := by decide +kernel
theorem dL_all_193 : decode cL_all 193 = .ok (.iconst 1, 1) := by decide +kernel
theorem dL_all_194 : decode cL_all 194 = .ok (.dup2, 1) := by decide +kernel
theorem dL_all_195 : decode cL_all 195 = .ok (.laload, 1) := by decide +kernel
theorem dL_all_196 : decode cL_all 196 = .ok (.aload 5, 2) := by decide +kernel
theorem dL_all_198 : decode cL_all 198 = .ok (.iconst 0, 1) := by decide +kernel
theorem dL_all_199 : decode cL_all 199 = .ok (.laload, 1) := by decide +kernel
theorem dL_all_200 : decode cL_all 200 = .ok (.ladd, 1) := by decide +kernel
theorem dL_all_201 : decode cL_all 201 = .ok (.lastore, 1) := by decide +kernel
theorem dL_all_202 : decode cL_all 202 = .ok (.aload 4, 2) := by decide +kernel
theorem dL_all_204 : decode cL_all 204 = .ok (.iconst 2, 1) := by decide +kernel
theorem dL_all_205 : decode cL_all 205 = .ok (.dup2, 1) := by decide +kernel
theorem dL_all_206 : decode cL_all 206 = .ok (.laload, 1) := by decide +kernel
theorem dL_all_207 : decode cL_all 207 = .ok (.aload 5, 2) := by decide +kernel
theorem dL_all_209 : decode cL_all 209 = .ok (.iconst 1, 1) := by decide +kernel
theorem dL_all_210 : decode cL_all 210 = .ok (.laload, 1) := by decide +kernel
theorem dL_all_211 : decode cL_all 211 = .ok (.ladd, 1) := by decide +kernel
theorem dL_all_212 : decode cL_all 212 = .ok (.lastore, 1) := by decide +kernel
theorem dL_all_213 : decode cL_all 213 = .ok (.aload_n 0, 1) := by decide +kernel
theorem dL_all_214 : decode cL_all 214 = .ok (.aload_n 1, 1) := by decide +kernel
theorem dL_all_215 : decode cL_all 215 = .ok (.iload 12, 2) := by decide +kernel
theorem dL_all_217 : decode cL_all 217 = .ok (.iload 13, 2) := by decide +kernel
theorem dL_all_219 : decode cL_all 219 = .ok (.bipush 7, 2) := by decide +kernel
theorem dL_all_221 : decode cL_all 221 = .ok (.aload 5, 2) := by decide +kernel
theorem dL_all_223 : decode cL_all 223 = .ok (.invokestatic 18, 3) := by decide +kernel
theorem dL_all_226 : decode cL_all 226 = .ok (.pop, 1) := by decide +kernel
theorem dL_all_227 : decode cL_all 227 = .ok (.aload 4, 2) := by decide +kernel
theorem dL_all_229 : decode cL_all 229 = .ok (.iconst 3, 1) := by decide +kernel
theorem dL_all_230 : decode cL_all 230 = .ok (.dup2, 1) := by decide +kernel
theorem dL_all_231 : decode cL_all 231 = .ok (.laload, 1) := by decide +kernel
theorem dL_all_232 : decode cL_all 232 = .ok (.aload 5, 2) := by decide +kernel
theorem dL_all_234 : decode cL_all 234 = .ok (.iconst 0, 1) := by decide +kernel
theorem dL_all_235 : decode cL_all 235 = .ok (.laload, 1) := by decide +kernel
theorem dL_all_236 : decode cL_all 236 = .ok (.ladd, 1) := by decide +kernel
theorem dL_all_237 : decode cL_all 237 = .ok (.lastore, 1) := by decide +kernel
theorem dL_all_238 : decode cL_all 238 = .ok (.aload 4, 2) := by decide +kernel
theorem dL_all_240 : decode cL_all 240 = .ok (.iconst 4, 1) := by decide +kernel
theorem dL_all_241 : decode cL_all 241 = .ok (.dup2, 1) := by decide +kernel
theorem dL_all_242 : decode cL_all 242 = .ok (.laload, 1) := by decide +kernel
theorem dL_all_243 : decode cL_all 243 = .ok (.aload 5, 2) := by decide +kernel
theorem dL_all_245 : decode cL_all 245 = .ok (.iconst 1, 1) := by decide +kernel
theorem dL_all_246 : decode cL_all 246 = .ok (.laload, 1) := by decide +kernel
theorem dL_all_247 : decode cL_all 247 = .ok (.ladd, 1) := by decide +kernel
theorem dL_all_248 : decode cL_all 248 = .ok (.lastore, 1) := by decide +kernel
theorem dL_all_249 : decode cL_all 249 = .ok (.iinc 13 1, 3) := by decide +kernel
theorem dL_all_252 : decode cL_all 252 = .ok (.goto (-101), 3) := by decide +kernel
theorem dL_all_255 : decode cL_all 255 = .ok (.iinc 12 1, 3) := by decide +kernel
theorem dL_all_258 : decode cL_all 258 = .ok (.goto (-219), 3) := by decide +kernel
theorem dL_all_261 : decode cL_all 261 = .ok (.iconst 1, 1) := by decide +kernel
theorem dL_all_262 : decode cL_all 262 = .ok (.istore 12, 2) := by decide +kernel
theorem dL_all_264 : decode cL_all 264 = .ok (.iload 12, 2) := by decide +kernel
theorem dL_all_266 : decode cL_all 266 = .ok (.iconst 5, 1) := by decide +kernel
theorem dL_all_267 : decode cL_all 267 = .ok (.if_icmp .ge 24, 3) := by decide +kernel
theorem dL_all_270 : decode cL_all 270 = .ok (.aload 4, 2) := by decide +kernel
theorem dL_all_272 : decode cL_all 272 = .ok (.iload 12, 2) := by decide +kernel
theorem dL_all_274 : decode cL_all 274 = .ok (.aload 4, 2) := by decide +kernel
theorem dL_all_276 : decode cL_all 276 = .ok (.iload 12, 2) := by decide +kernel
theorem dL_all_278 : decode cL_all 278 = .ok (.laload, 1) := by decide +kernel
theorem dL_all_279 : decode cL_all 279 = .ok (.lload 6, 2) := by decide +kernel
theorem dL_all_281 : decode cL_all 281 = .ok (.invokestatic 12, 3) := by decide +kernel
theorem dL_all_284 : decode cL_all 284 = .ok (.lastore, 1) := by decide +kernel
theorem dL_all_285 : decode cL_all 285 = .ok (.iinc 12 1, 3) := by decide +kernel
theorem dL_all_288 : decode cL_all 288 = .ok (.goto (-24), 3) := by decide +kernel
theorem dL_all_291 : decode cL_all 291 = .ok (.aload 4, 2) := by decide +kernel
theorem dL_all_293 : decode cL_all 293 = .ok (.iconst 3, 1) := by decide +kernel
theorem dL_all_294 : decode cL_all 294 = .ok (.laload, 1) := by decide +kernel
theorem dL_all_295 : decode cL_all 295 = .ok (.aload 4, 2) := by decide +kernel
theorem dL_all_297 : decode cL_all 297 = .ok (.iconst 1, 1) := by decide +kernel
theorem dL_all_298 : decode cL_all 298 = .ok (.laload, 1) := by decide +kernel
theorem dL_all_299 : decode cL_all 299 = .ok (.lsub, 1) := by decide +kernel
theorem dL_all_300 : decode cL_all 300 = .ok (.aload 4, 2) := by decide +kernel
theorem dL_all_302 : decode cL_all 302 = .ok (.iconst 3, 1) := by decide +kernel
theorem dL_all_303 : decode cL_all 303 = .ok (.laload, 1) := by decide +kernel
theorem dL_all_304 : decode cL_all 304 = .ok (.aload 4, 2) := by decide +kernel
theorem dL_all_306 : decode cL_all 306 = .ok (.iconst 1, 1) := by decide +kernel
theorem dL_all_307 : decode cL_all 307 = .ok (.laload, 1) := by decide +kernel
theorem dL_all_308 : decode cL_all 308 = .ok (.lsub, 1) := by decide +kernel
theorem dL_all_309 : decode cL_all 309 = .ok (.lmul, 1) := by decide +kernel
theorem dL_all_310 : decode cL_all 310 = .ok (.aload 4, 2) := by decide +kernel
theorem dL_all_312 : decode cL_all 312 = .ok (.iconst 4, 1) := by decide +kernel
theorem dL_all_313 : decode cL_all 313 = .ok (.laload, 1) := by decide +kernel
theorem dL_all_314 : decode cL_all 314 = .ok (.aload 4, 2) := by decide +kernel
theorem dL_all_316 : decode cL_all 316 = .ok (.iconst 2, 1) := by decide +kernel
theorem dL_all_317 : decode cL_all 317 = .ok (.laload, 1) := by decide +kernel
theorem dL_all_318 : decode cL_all 318 = .ok (.lsub, 1) := by decide +kernel
theorem dL_all_319 : decode cL_all 319 = .ok (.aload 4, 2) := by decide +kernel
theorem dL_all_321 : decode cL_all 321 = .ok (.iconst 4, 1) := by decide +kernel
theorem dL_all_322 : decode cL_all 322 = .ok (.laload, 1) := by decide +kernel
theorem dL_all_323 : decode cL_all 323 = .ok (.aload 4, 2) := by decide +kernel
theorem dL_all_325 : decode cL_all 325 = .ok (.iconst 2, 1) := by decide +kernel
theorem dL_all_326 : decode cL_all 326 = .ok (.laload, 1) := by decide +kernel
theorem dL_all_327 : decode cL_all 327 = .ok (.lsub, 1) := by decide +kernel
theorem dL_all_328 : decode cL_all 328 = .ok (.lmul, 1) := by decide +kernel
theorem dL_all_329 : decode cL_all 329 = .ok (.ladd, 1) := by decide +kernel
theorem dL_all_330 : decode cL_all 330 = .ok (.lstore 12, 2) := by decide +kernel
theorem dL_all_332 : decode cL_all 332 = .ok (.ldc2_w 30, 3) := by decide +kernel
theorem dL_all_335 : decode cL_all 335 = .ok (.lstore 14, 2) := by decide +kernel
theorem dL_all_337 : decode cL_all 337 = .ok (.lconst 0, 1) := by decide +kernel
theorem dL_all_338 : decode cL_all 338 = .ok (.lstore 16, 2) := by decide +kernel
theorem dL_all_340 : decode cL_all 340 = .ok (.lload 14, 2) := by decide +kernel
theorem dL_all_342 : decode cL_all 342 = .ok (.lconst 0, 1) := by decide +kernel
theorem dL_all_343 : decode cL_all 343 = .ok (.lcmp, 1) := by decide +kernel
theorem dL_all_344 : decode cL_all 344 = .ok (.ifCond .le 38, 3) := by decide +kernel
theorem dL_all_347 : decode cL_all 347 = .ok (.lload 16, 2) := by decide +kernel
theorem dL_all_349 : decode cL_all 349 = .ok (.lload 14, 2) := by decide +kernel
theorem dL_all_351 : decode cL_all 351 = .ok (.ladd, 1) := by decide +kernel
theorem dL_all_352 : decode cL_all 352 = .ok (.lload 16, 2) := by decide +kernel
theorem dL_all_354 : decode cL_all 354 = .ok (.lload 14, 2) := by decide +kernel
theorem dL_all_356 : decode cL_all 356 = .ok (.ladd, 1) := by decide +kernel
theorem dL_all_357 : decode cL_all 357 = .ok (.lmul, 1) := by decide +kernel
theorem dL_all_358 : decode cL_all 358 = .ok (.lload 12, 2) := by decide +kernel
theorem dL_all_360 : decode cL_all 360 = .ok (.lcmp, 1) := by decide +kernel
theorem dL_all_361 : decode cL_all 361 = .ok (.ifCond .gt 10, 3) := by decide +kernel
theorem dL_all_364 : decode cL_all 364 = .ok (.lload 16, 2) := by decide +kernel
theorem dL_all_366 : decode cL_all 366 = .ok (.lload 14, 2) := by decide +kernel
theorem dL_all_368 : decode cL_all 368 = .ok (.ladd, 1) := by decide +kernel
theorem dL_all_369 : decode cL_all 369 = .ok (.lstore 16, 2) := by decide +kernel
theorem dL_all_371 : decode cL_all 371 = .ok (.lload 14, 2) := by decide +kernel
theorem dL_all_373 : decode cL_all 373 = .ok (.ldc2_w 32, 3) := by decide +kernel
theorem dL_all_376 : decode cL_all 376 = .ok (.ldiv, 1) := by decide +kernel
theorem dL_all_377 : decode cL_all 377 = .ok (.lstore 14, 2) := by decide +kernel
theorem dL_all_379 : decode cL_all 379 = .ok (.goto (-39), 3) := by decide +kernel
theorem dL_all_382 : decode cL_all 382 = .ok (.aload 4, 2) := by decide +kernel
theorem dL_all_384 : decode cL_all 384 = .ok (.iconst 5, 1) := by decide +kernel
theorem dL_all_385 : decode cL_all 385 = .ok (.ldc2_w 34, 3) := by decide +kernel
theorem dL_all_388 : decode cL_all 388 = .ok (.lload 16, 2) := by decide +kernel
theorem dL_all_390 : decode cL_all 390 = .ok (.lmul, 1) := by decide +kernel
theorem dL_all_391 : decode cL_all 391 = .ok (.aload 4, 2) := by decide +kernel
theorem dL_all_393 : decode cL_all 393 = .ok (.iconst 0, 1) := by decide +kernel
theorem dL_all_394 : decode cL_all 394 = .ok (.laload, 1) := by decide +kernel
theorem dL_all_395 : decode cL_all 395 = .ok (.lmul, 1) := by decide +kernel
theorem dL_all_396 : decode cL_all 396 = .ok (.lload 8, 2) := by decide +kernel
theorem dL_all_398 : decode cL_all 398 = .ok (.ldiv, 1) := by decide +kernel
theorem dL_all_399 : decode cL_all 399 = .ok (.lastore, 1) := by decide +kernel
theorem dL_all_400 : decode cL_all 400 = .ok (.aload 4, 2) := by decide +kernel
theorem dL_all_402 : decode cL_all 402 = .ok (.bipush 6, 2) := by decide +kernel
theorem dL_all_404 : decode cL_all 404 = .ok (.dup2, 1) := by decide +kernel
theorem dL_all_405 : decode cL_all 405 = .ok (.laload, 1) := by decide +kernel
theorem dL_all_406 : decode cL_all 406 = .ok (.aload 4, 2) := by decide +kernel
theorem dL_all_408 : decode cL_all 408 = .ok (.iconst 0, 1) := by decide +kernel
theorem dL_all_409 : decode cL_all 409 = .ok (.laload, 1) := by decide +kernel
theorem dL_all_410 : decode cL_all 410 = .ok (.ldiv, 1) := by decide +kernel
theorem dL_all_411 : decode cL_all 411 = .ok (.lastore, 1) := by decide +kernel
theorem dL_all_412 : decode cL_all 412 = .ok (.aload 4, 2) := by decide +kernel
theorem dL_all_414 : decode cL_all 414 = .ok (.bipush 7, 2) := by decide +kernel
theorem dL_all_416 : decode cL_all 416 = .ok (.ldc2_w 36, 3) := by decide +kernel
theorem dL_all_419 : decode cL_all 419 = .ok (.lload 10, 2) := by decide +kernel
theorem dL_all_421 : decode cL_all 421 = .ok (.lmul, 1) := by decide +kernel
theorem dL_all_422 : decode cL_all 422 = .ok (.aload 4, 2) := by decide +kernel
theorem dL_all_424 : decode cL_all 424 = .ok (.iconst 5, 1) := by decide +kernel
theorem dL_all_425 : decode cL_all 425 = .ok (.laload, 1) := by decide +kernel
theorem dL_all_426 : decode cL_all 426 = .ok (.lconst 1, 1) := by decide +kernel
theorem dL_all_427 : decode cL_all 427 = .ok (.ladd, 1) := by decide +kernel
theorem dL_all_428 : decode cL_all 428 = .ok (.ldiv, 1) := by decide +kernel
theorem dL_all_429 : decode cL_all 429 = .ok (.lastore, 1) := by decide +kernel
theorem dL_all_430 : decode cL_all 430 = .ok (.return_, 1) := by decide +kernel
theorem dL_weight_0 : decode cL_weight 0 = .ok (.lconst 0, 1) := by decide +kernel
theorem dL_weight_1 : decode cL_weight 1 = .ok (.lstore 6, 2) := by decide +kernel
theorem dL_weight_3 : decode cL_weight 3 = .ok (.iconst 1, 1) := by decide +kernel
theorem dL_weight_4 : decode cL_weight 4 = .ok (.istore 8, 2) := by decide +kernel
theorem dL_weight_6 : decode cL_weight 6 = .ok (.iload 8, 2) := by decide +kernel
theorem dL_weight_8 : decode cL_weight 8 = .ok (.bipush 6, 2) := by decide +kernel
theorem dL_weight_10 : decode cL_weight 10 = .ok (.if_icmp .ge 144, 3) := by decide +kernel
theorem dL_weight_13 : decode cL_weight 13 = .ok (.aload_n 1, 1) := by decide +kernel
theorem dL_weight_14 : decode cL_weight 14 = .ok (.iconst 3, 1) := by decide +kernel
theorem dL_weight_15 : decode cL_weight 15 = .ok (.laload, 1) := by decide +kernel
theorem dL_weight_16 : decode cL_weight 16 = .ok (.aload_n 0, 1) := by decide +kernel
theorem dL_weight_17 : decode cL_weight 17 = .ok (.iconst 2, 1) := by decide +kernel
theorem dL_weight_18 : decode cL_weight 18 = .ok (.iload_n 2, 1) := by decide +kernel
theorem dL_weight_19 : decode cL_weight 19 = .ok (.imul, 1) := by decide +kernel
theorem dL_weight_20 : decode cL_weight 20 = .ok (.iaload, 1) := by decide +kernel
theorem dL_weight_21 : decode cL_weight 21 = .ok (.bipush 20, 2) := by decide +kernel
theorem dL_weight_23 : decode cL_weight 23 = .ok (.imul, 1) := by decide +kernel
theorem dL_weight_24 : decode cL_weight 24 = .ok (.bipush 6, 2) := by decide +kernel
theorem dL_weight_26 : decode cL_weight 26 = .ok (.iload 8, 2) := by decide +kernel
theorem dL_weight_28 : decode cL_weight 28 = .ok (.isub, 1) := by decide +kernel
theorem dL_weight_29 : decode cL_weight 29 = .ok (.imul, 1) := by decide +kernel
theorem dL_weight_30 : decode cL_weight 30 = .ok (.i2l, 1) := by decide +kernel
theorem dL_weight_31 : decode cL_weight 31 = .ok (.ladd, 1) := by decide +kernel
theorem dL_weight_32 : decode cL_weight 32 = .ok (.ldc2_w 10, 3) := by decide +kernel
theorem dL_weight_35 : decode cL_weight 35 = .ok (.invokestatic 12, 3) := by decide +kernel
theorem dL_weight_38 : decode cL_weight 38 = .ok (.iload 4, 2) := by decide +kernel
theorem dL_weight_40 : decode cL_weight 40 = .ok (.i2l, 1) := by decide +kernel
theorem dL_weight_41 : decode cL_weight 41 = .ok (.lsub, 1) := by decide +kernel
theorem dL_weight_42 : decode cL_weight 42 = .ok (.lstore 9, 2) := by decide +kernel
theorem dL_weight_44 : decode cL_weight 44 = .ok (.aload_n 1, 1) := by decide +kernel
theorem dL_weight_45 : decode cL_weight 45 = .ok (.iconst 4, 1) := by decide +kernel
theorem dL_weight_46 : decode cL_weight 46 = .ok (.laload, 1) := by decide +kernel
theorem dL_weight_47 : decode cL_weight 47 = .ok (.aload_n 0, 1) := by decide +kernel
theorem dL_weight_48 : decode cL_weight 48 = .ok (.iconst 2, 1) := by decide +kernel
theorem dL_weight_49 : decode cL_weight 49 = .ok (.iload_n 2, 1) := by decide +kernel
theorem dL_weight_50 : decode cL_weight 50 = .ok (.imul, 1) := by decide +kernel
theorem dL_weight_51 : decode cL_weight 51 = .ok (.iconst 1, 1) := by decide +kernel
theorem dL_weight_52 : decode cL_weight 52 = .ok (.iadd, 1) := by decide +kernel
theorem dL_weight_53 : decode cL_weight 53 = .ok (.iaload, 1) := by decide +kernel
theorem dL_weight_54 : decode cL_weight 54 = .ok (.bipush 20, 2) := by decide +kernel
theorem dL_weight_56 : decode cL_weight 56 = .ok (.imul, 1) := by decide +kernel
theorem dL_weight_57 : decode cL_weight 57 = .ok (.bipush 6, 2) := by decide +kernel
theorem dL_weight_59 : decode cL_weight 59 = .ok (.iload 8, 2) := by decide +kernel
theorem dL_weight_61 : decode cL_weight 61 = .ok (.isub, 1) := by decide +kernel
theorem dL_weight_62 : decode cL_weight 62 = .ok (.imul, 1) := by decide +kernel
theorem dL_weight_63 : decode cL_weight 63 = .ok (.i2l, 1) := by decide +kernel
theorem dL_weight_64 : decode cL_weight 64 = .ok (.ladd, 1) := by decide +kernel
theorem dL_weight_65 : decode cL_weight 65 = .ok (.ldc2_w 10, 3) := by decide +kernel
theorem dL_weight_68 : decode cL_weight 68 = .ok (.invokestatic 12, 3) := by decide +kernel
theorem dL_weight_71 : decode cL_weight 71 = .ok (.iload 5, 2) := by decide +kernel
theorem dL_weight_73 : decode cL_weight 73 = .ok (.i2l, 1) := by decide +kernel
theorem dL_weight_74 : decode cL_weight 74 = .ok (.lsub, 1) := by decide +kernel
theorem dL_weight_75 : decode cL_weight 75 = .ok (.lstore 11, 2) := by decide +kernel
theorem dL_weight_77 : decode cL_weight 77 = .ok (.lload 9, 2) := by decide +kernel
theorem dL_weight_79 : decode cL_weight 79 = .ok (.lconst 0, 1) := by decide +kernel
theorem dL_weight_80 : decode cL_weight 80 = .ok (.lcmp, 1) := by decide +kernel
theorem dL_weight_81 : decode cL_weight 81 = .ok (.ifCond .ge 9, 3) := by decide +kernel
theorem dL_weight_84 : decode cL_weight 84 = .ok (.lload 9, 2) := by decide +kernel
theorem dL_weight_86 : decode cL_weight 86 = .ok (.lneg, 1) := by decide +kernel
theorem dL_weight_87 : decode cL_weight 87 = .ok (.goto 5, 3) := by decide +kernel
theorem dL_weight_90 : decode cL_weight 90 = .ok (.lload 9, 2) := by decide +kernel
theorem dL_weight_92 : decode cL_weight 92 = .ok (.lstore 9, 2) := by decide +kernel
theorem dL_weight_94 : decode cL_weight 94 = .ok (.lload 11, 2) := by decide +kernel
theorem dL_weight_96 : decode cL_weight 96 = .ok (.lconst 0, 1) := by decide +kernel
theorem dL_weight_97 : decode cL_weight 97 = .ok (.lcmp, 1) := by decide +kernel
theorem dL_weight_98 : decode cL_weight 98 = .ok (.ifCond .ge 9, 3) := by decide +kernel
theorem dL_weight_101 : decode cL_weight 101 = .ok (.lload 11, 2) := by decide +kernel
theorem dL_weight_103 : decode cL_weight 103 = .ok (.lneg, 1) := by decide +kernel
theorem dL_weight_104 : decode cL_weight 104 = .ok (.goto 5, 3) := by decide +kernel
theorem dL_weight_107 : decode cL_weight 107 = .ok (.lload 11, 2) := by decide +kernel
theorem dL_weight_109 : decode cL_weight 109 = .ok (.lstore 11, 2) := by decide +kernel
theorem dL_weight_111 : decode cL_weight 111 = .ok (.lload 9, 2) := by decide +kernel
theorem dL_weight_113 : decode cL_weight 113 = .ok (.lload 11, 2) := by decide +kernel
theorem dL_weight_115 : decode cL_weight 115 = .ok (.lcmp, 1) := by decide +kernel
theorem dL_weight_116 : decode cL_weight 116 = .ok (.ifCond .le 8, 3) := by decide +kernel
theorem dL_weight_119 : decode cL_weight 119 = .ok (.lload 9, 2) := by decide +kernel
theorem dL_weight_121 : decode cL_weight 121 = .ok (.goto 5, 3) := by decide +kernel
theorem dL_weight_124 : decode cL_weight 124 = .ok (.lload 11, 2) := by decide +kernel
theorem dL_weight_126 : decode cL_weight 126 = .ok (.lstore 13, 2) := by decide +kernel
theorem dL_weight_128 : decode cL_weight 128 = .ok (.lload 13, 2) := by decide +kernel
theorem dL_weight_130 : decode cL_weight 130 = .ok (.ldc2_w 38, 3) := by decide +kernel
theorem dL_weight_133 : decode cL_weight 133 = .ok (.lcmp, 1) := by decide +kernel
theorem dL_weight_134 : decode cL_weight 134 = .ok (.ifCond .ge 14, 3) := by decide +kernel
theorem dL_weight_137 : decode cL_weight 137 = .ok (.lload 6, 2) := by decide +kernel
theorem dL_weight_139 : decode cL_weight 139 = .ok (.ldc2_w 38, 3) := by decide +kernel
theorem dL_weight_142 : decode cL_weight 142 = .ok (.lload 13, 2) := by decide +kernel
theorem dL_weight_144 : decode cL_weight 144 = .ok (.lsub, 1) := by decide +kernel
theorem dL_weight_145 : decode cL_weight 145 = .ok (.ladd, 1) := by decide +kernel
theorem dL_weight_146 : decode cL_weight 146 = .ok (.lstore 6, 2) := by decide +kernel
theorem dL_weight_148 : decode cL_weight 148 = .ok (.iinc 8 1, 3) := by decide +kernel
theorem dL_weight_151 : decode cL_weight 151 = .ok (.goto (-145), 3) := by decide +kernel
theorem dL_weight_154 : decode cL_weight 154 = .ok (.lload 6, 2) := by decide +kernel
theorem dL_weight_156 : decode cL_weight 156 = .ok (.ldc2_w 40, 3) := by decide +kernel
theorem dL_weight_159 : decode cL_weight 159 = .ok (.lmul, 1) := by decide +kernel
theorem dL_weight_160 : decode cL_weight 160 = .ok (.lstore 6, 2) := by decide +kernel
theorem dL_weight_162 : decode cL_weight 162 = .ok (.iconst 0, 1) := by decide +kernel
theorem dL_weight_163 : decode cL_weight 163 = .ok (.istore 8, 2) := by decide +kernel
theorem dL_weight_165 : decode cL_weight 165 = .ok (.iload 8, 2) := by decide +kernel
theorem dL_weight_167 : decode cL_weight 167 = .ok (.aload_n 0, 1) := by decide +kernel
theorem dL_weight_168 : decode cL_weight 168 = .ok (.bipush 10, 2) := by decide +kernel
theorem dL_weight_170 : decode cL_weight 170 = .ok (.iaload, 1) := by decide +kernel
theorem dL_weight_171 : decode cL_weight 171 = .ok (.if_icmp .ge 72, 3) := by decide +kernel
theorem dL_weight_174 : decode cL_weight 174 = .ok (.aload_n 0, 1) := by decide +kernel
theorem dL_weight_175 : decode cL_weight 175 = .ok (.bipush 11, 2) := by decide +kernel
theorem dL_weight_177 : decode cL_weight 177 = .ok (.iconst 4, 1) := by decide +kernel
theorem dL_weight_178 : decode cL_weight 178 = .ok (.iload 8, 2) := by decide +kernel
theorem dL_weight_180 : decode cL_weight 180 = .ok (.imul, 1) := by decide +kernel
theorem dL_weight_181 : decode cL_weight 181 = .ok (.iadd, 1) := by decide +kernel
theorem dL_weight_182 : decode cL_weight 182 = .ok (.iaload, 1) := by decide +kernel
theorem dL_weight_183 : decode cL_weight 183 = .ok (.iload_n 3, 1) := by decide +kernel
theorem dL_weight_184 : decode cL_weight 184 = .ok (.if_icmp .ne 53, 3) := by decide +kernel
theorem dL_weight_187 : decode cL_weight 187 = .ok (.aload_n 0, 1) := by decide +kernel
theorem dL_weight_188 : decode cL_weight 188 = .ok (.bipush 12, 2) := by decide +kernel
theorem dL_weight_190 : decode cL_weight 190 = .ok (.iconst 4, 1) := by decide +kernel
theorem dL_weight_191 : decode cL_weight 191 = .ok (.iload 8, 2) := by decide +kernel
theorem dL_weight_193 : decode cL_weight 193 = .ok (.imul, 1) := by decide +kernel
theorem dL_weight_194 : decode cL_weight 194 = .ok (.iadd, 1) := by decide +kernel
theorem dL_weight_195 : decode cL_weight 195 = .ok (.iaload, 1) := by decide +kernel
theorem dL_weight_196 : decode cL_weight 196 = .ok (.iload 4, 2) := by decide +kernel
theorem dL_weight_198 : decode cL_weight 198 = .ok (.if_icmp .ne 39, 3) := by decide +kernel
theorem dL_weight_201 : decode cL_weight 201 = .ok (.aload_n 0, 1) := by decide +kernel
theorem dL_weight_202 : decode cL_weight 202 = .ok (.bipush 13, 2) := by decide +kernel
theorem dL_weight_204 : decode cL_weight 204 = .ok (.iconst 4, 1) := by decide +kernel
theorem dL_weight_205 : decode cL_weight 205 = .ok (.iload 8, 2) := by decide +kernel
theorem dL_weight_207 : decode cL_weight 207 = .ok (.imul, 1) := by decide +kernel
theorem dL_weight_208 : decode cL_weight 208 = .ok (.iadd, 1) := by decide +kernel
theorem dL_weight_209 : decode cL_weight 209 = .ok (.iaload, 1) := by decide +kernel
theorem dL_weight_210 : decode cL_weight 210 = .ok (.iload 5, 2) := by decide +kernel
theorem dL_weight_212 : decode cL_weight 212 = .ok (.if_icmp .ne 25, 3) := by decide +kernel
theorem dL_weight_215 : decode cL_weight 215 = .ok (.lload 6, 2) := by decide +kernel
theorem dL_weight_217 : decode cL_weight 217 = .ok (.bipush 100, 2) := by decide +kernel
theorem dL_weight_219 : decode cL_weight 219 = .ok (.aload_n 0, 1) := by decide +kernel
theorem dL_weight_220 : decode cL_weight 220 = .ok (.bipush 14, 2) := by decide +kernel
theorem dL_weight_222 : decode cL_weight 222 = .ok (.iconst 4, 1) := by decide +kernel
theorem dL_weight_223 : decode cL_weight 223 = .ok (.iload 8, 2) := by decide +kernel
theorem dL_weight_225 : decode cL_weight 225 = .ok (.imul, 1) := by decide +kernel
theorem dL_weight_226 : decode cL_weight 226 = .ok (.iadd, 1) := by decide +kernel
theorem dL_weight_227 : decode cL_weight 227 = .ok (.iaload, 1) := by decide +kernel
theorem dL_weight_228 : decode cL_weight 228 = .ok (.isub, 1) := by decide +kernel
theorem dL_weight_229 : decode cL_weight 229 = .ok (.i2l, 1) := by decide +kernel
theorem dL_weight_230 : decode cL_weight 230 = .ok (.lmul, 1) := by decide +kernel
theorem dL_weight_231 : decode cL_weight 231 = .ok (.ldc2_w 10, 3) := by decide +kernel
theorem dL_weight_234 : decode cL_weight 234 = .ok (.ldiv, 1) := by decide +kernel
theorem dL_weight_235 : decode cL_weight 235 = .ok (.lstore 6, 2) := by decide +kernel
theorem dL_weight_237 : decode cL_weight 237 = .ok (.iinc 8 1, 3) := by decide +kernel
theorem dL_weight_240 : decode cL_weight 240 = .ok (.goto (-75), 3) := by decide +kernel
theorem dL_weight_243 : decode cL_weight 243 = .ok (.lload 6, 2) := by decide +kernel
theorem dL_weight_245 : decode cL_weight 245 = .ok (.lreturn, 1) := by decide +kernel
theorem dL_chance_0 : decode cL_chance 0 = .ok (.lconst 0, 1) := by decide +kernel
theorem dL_chance_1 : decode cL_chance 1 = .ok (.lstore 6, 2) := by decide +kernel
theorem dL_chance_3 : decode cL_chance 3 = .ok (.iconst 0, 1) := by decide +kernel
theorem dL_chance_4 : decode cL_chance 4 = .ok (.istore 8, 2) := by decide +kernel
theorem dL_chance_6 : decode cL_chance 6 = .ok (.iload 8, 2) := by decide +kernel
theorem dL_chance_8 : decode cL_chance 8 = .ok (.bipush 100, 2) := by decide +kernel
theorem dL_chance_10 : decode cL_chance 10 = .ok (.if_icmp .ge 41, 3) := by decide +kernel
theorem dL_chance_13 : decode cL_chance 13 = .ok (.iconst 0, 1) := by decide +kernel
theorem dL_chance_14 : decode cL_chance 14 = .ok (.istore 9, 2) := by decide +kernel
theorem dL_chance_16 : decode cL_chance 16 = .ok (.iload 9, 2) := by decide +kernel
theorem dL_chance_18 : decode cL_chance 18 = .ok (.bipush 100, 2) := by decide +kernel
theorem dL_chance_20 : decode cL_chance 20 = .ok (.if_icmp .ge 25, 3) := by decide +kernel
theorem dL_chance_23 : decode cL_chance 23 = .ok (.lload 6, 2) := by decide +kernel
theorem dL_chance_25 : decode cL_chance 25 = .ok (.aload_n 0, 1) := by decide +kernel
theorem dL_chance_26 : decode cL_chance 26 = .ok (.aload_n 1, 1) := by decide +kernel
theorem dL_chance_27 : decode cL_chance 27 = .ok (.iload_n 2, 1) := by decide +kernel
theorem dL_chance_28 : decode cL_chance 28 = .ok (.iload_n 3, 1) := by decide +kernel
theorem dL_chance_29 : decode cL_chance 29 = .ok (.iload 8, 2) := by decide +kernel
theorem dL_chance_31 : decode cL_chance 31 = .ok (.iload 9, 2) := by decide +kernel
theorem dL_chance_33 : decode cL_chance 33 = .ok (.invokestatic 42, 3) := by decide +kernel
theorem dL_chance_36 : decode cL_chance 36 = .ok (.ladd, 1) := by decide +kernel
theorem dL_chance_37 : decode cL_chance 37 = .ok (.lstore 6, 2) := by decide +kernel
theorem dL_chance_39 : decode cL_chance 39 = .ok (.iinc 9 1, 3) := by decide +kernel
theorem dL_chance_42 : decode cL_chance 42 = .ok (.goto (-26), 3) := by decide +kernel
theorem dL_chance_45 : decode cL_chance 45 = .ok (.iinc 8 1, 3) := by decide +kernel
theorem dL_chance_48 : decode cL_chance 48 = .ok (.goto (-42), 3) := by decide +kernel
theorem dL_chance_51 : decode cL_chance 51 = .ok (.lload 6, 2) := by decide +kernel
theorem dL_chance_53 : decode cL_chance 53 = .ok (.lconst 0, 1) := by decide +kernel
theorem dL_chance_54 : decode cL_chance 54 = .ok (.lcmp, 1) := by decide +kernel
theorem dL_chance_55 : decode cL_chance 55 = .ok (.ifCond .ne 7, 3) := by decide +kernel
theorem dL_chance_58 : decode cL_chance 58 = .ok (.lconst 0, 1) := by decide +kernel
theorem dL_chance_59 : decode cL_chance 59 = .ok (.goto 21, 3) := by decide +kernel
theorem dL_chance_62 : decode cL_chance 62 = .ok (.aload_n 0, 1) := by decide +kernel
theorem dL_chance_63 : decode cL_chance 63 = .ok (.aload_n 1, 1) := by decide +kernel
theorem dL_chance_64 : decode cL_chance 64 = .ok (.iload_n 2, 1) := by decide +kernel
theorem dL_chance_65 : decode cL_chance 65 = .ok (.iload_n 3, 1) := by decide +kernel
theorem dL_chance_66 : decode cL_chance 66 = .ok (.iload 4, 2) := by decide +kernel
theorem dL_chance_68 : decode cL_chance 68 = .ok (.iload 5, 2) := by decide +kernel
theorem dL_chance_70 : decode cL_chance 70 = .ok (.invokestatic 42, 3) := by decide +kernel
theorem dL_chance_73 : decode cL_chance 73 = .ok (.ldc2_w 40, 3) := by decide +kernel
theorem dL_chance_76 : decode cL_chance 76 = .ok (.lmul, 1) := by decide +kernel
theorem dL_chance_77 : decode cL_chance 77 = .ok (.lload 6, 2) := by decide +kernel
theorem dL_chance_79 : decode cL_chance 79 = .ok (.ldiv, 1) := by decide +kernel
theorem dL_chance_80 : decode cL_chance 80 = .ok (.lreturn, 1) := by decide +kernel
theorem dL_right_0 : decode cL_right 0 = .ok (.iconst 4, 1) := by decide +kernel
theorem dL_right_1 : decode cL_right 1 = .ok (.newarray .int, 2) := by decide +kernel
theorem dL_right_3 : decode cL_right 3 = .ok (.astore 6, 2) := by decide +kernel
theorem dL_right_5 : decode cL_right 5 = .ok (.iconst 0, 1) := by decide +kernel
theorem dL_right_6 : decode cL_right 6 = .ok (.istore 7, 2) := by decide +kernel
theorem dL_right_8 : decode cL_right 8 = .ok (.iload 7, 2) := by decide +kernel
theorem dL_right_10 : decode cL_right 10 = .ok (.iload 4, 2) := by decide +kernel
theorem dL_right_12 : decode cL_right 12 = .ok (.if_icmp .ge 67, 3) := by decide +kernel
theorem dL_right_15 : decode cL_right 15 = .ok (.aload_n 1, 1) := by decide +kernel
theorem dL_right_16 : decode cL_right 16 = .ok (.aload_n 2, 1) := by decide +kernel
theorem dL_right_17 : decode cL_right 17 = .ok (.iload 4, 2) := by decide +kernel
theorem dL_right_19 : decode cL_right 19 = .ok (.iload 7, 2) := by decide +kernel
theorem dL_right_21 : decode cL_right 21 = .ok (.invokestatic 26, 3) := by decide +kernel
theorem dL_right_24 : decode cL_right 24 = .ok (.istore 8, 2) := by decide +kernel
theorem dL_right_26 : decode cL_right 26 = .ok (.aload_n 0, 1) := by decide +kernel
theorem dL_right_27 : decode cL_right 27 = .ok (.iload 7, 2) := by decide +kernel
theorem dL_right_29 : decode cL_right 29 = .ok (.invokevirtual 46, 3) := by decide +kernel
theorem dL_right_32 : decode cL_right 32 = .ok (.iload 8, 2) := by decide +kernel
theorem dL_right_34 : decode cL_right 34 = .ok (.if_icmp .ne 14, 3) := by decide +kernel
theorem dL_right_37 : decode cL_right 37 = .ok (.aload_n 0, 1) := by decide +kernel
theorem dL_right_38 : decode cL_right 38 = .ok (.iload 7, 2) := by decide +kernel
theorem dL_right_40 : decode cL_right 40 = .ok (.invokevirtual 52, 3) := by decide +kernel
theorem dL_right_43 : decode cL_right 43 = .ok (.iload 8, 2) := by decide +kernel
theorem dL_right_45 : decode cL_right 45 = .ok (.if_icmp .eq 5, 3) := by decide +kernel
theorem dL_right_48 : decode cL_right 48 = .ok (.iconst 0, 1) := by decide +kernel
theorem dL_right_49 : decode cL_right 49 = .ok (.ireturn, 1) := by decide +kernel
theorem dL_right_50 : decode cL_right 50 = .ok (.iload 8, 2) := by decide +kernel
theorem dL_right_52 : decode cL_right 52 = .ok (.iload 7, 2) := by decide +kernel
theorem dL_right_54 : decode cL_right 54 = .ok (.if_icmp .ne 19, 3) := by decide +kernel
theorem dL_right_57 : decode cL_right 57 = .ok (.aload 6, 2) := by decide +kernel
theorem dL_right_59 : decode cL_right 59 = .ok (.aload_n 2, 1) := by decide +kernel
theorem dL_right_60 : decode cL_right 60 = .ok (.bipush 9, 2) := by decide +kernel
theorem dL_right_62 : decode cL_right 62 = .ok (.iload 7, 2) := by decide +kernel
theorem dL_right_64 : decode cL_right 64 = .ok (.imul, 1) := by decide +kernel
theorem dL_right_65 : decode cL_right 65 = .ok (.iconst 1, 1) := by decide +kernel
theorem dL_right_66 : decode cL_right 66 = .ok (.iadd, 1) := by decide +kernel
theorem dL_right_67 : decode cL_right 67 = .ok (.iaload, 1) := by decide +kernel
theorem dL_right_68 : decode cL_right 68 = .ok (.dup2, 1) := by decide +kernel
theorem dL_right_69 : decode cL_right 69 = .ok (.iaload, 1) := by decide +kernel
theorem dL_right_70 : decode cL_right 70 = .ok (.iconst 1, 1) := by decide +kernel
theorem dL_right_71 : decode cL_right 71 = .ok (.iadd, 1) := by decide +kernel
theorem dL_right_72 : decode cL_right 72 = .ok (.iastore, 1) := by decide +kernel
theorem dL_right_73 : decode cL_right 73 = .ok (.iinc 7 1, 3) := by decide +kernel
theorem dL_right_76 : decode cL_right 76 = .ok (.goto (-68), 3) := by decide +kernel
theorem dL_right_79 : decode cL_right 79 = .ok (.iconst 0, 1) := by decide +kernel
theorem dL_right_80 : decode cL_right 80 = .ok (.istore 7, 2) := by decide +kernel
theorem dL_right_82 : decode cL_right 82 = .ok (.iload 7, 2) := by decide +kernel
theorem dL_right_84 : decode cL_right 84 = .ok (.iconst 4, 1) := by decide +kernel
theorem dL_right_85 : decode cL_right 85 = .ok (.if_icmp .ge 25, 3) := by decide +kernel
theorem dL_right_88 : decode cL_right 88 = .ok (.aload_n 0, 1) := by decide +kernel
theorem dL_right_89 : decode cL_right 89 = .ok (.iload 7, 2) := by decide +kernel
theorem dL_right_91 : decode cL_right 91 = .ok (.invokevirtual 55, 3) := by decide +kernel
theorem dL_right_94 : decode cL_right 94 = .ok (.aload 6, 2) := by decide +kernel
theorem dL_right_96 : decode cL_right 96 = .ok (.iload 7, 2) := by decide +kernel
theorem dL_right_98 : decode cL_right 98 = .ok (.iaload, 1) := by decide +kernel
theorem dL_right_99 : decode cL_right 99 = .ok (.if_icmp .eq 5, 3) := by decide +kernel
theorem dL_right_102 : decode cL_right 102 = .ok (.iconst 0, 1) := by decide +kernel
theorem dL_right_103 : decode cL_right 103 = .ok (.ireturn, 1) := by decide +kernel
theorem dL_right_104 : decode cL_right 104 = .ok (.iinc 7 1, 3) := by decide +kernel
theorem dL_right_107 : decode cL_right 107 = .ok (.goto (-25), 3) := by decide +kernel
theorem dL_right_110 : decode cL_right 110 = .ok (.bipush 16, 2) := by decide +kernel
theorem dL_right_112 : decode cL_right 112 = .ok (.newarray .long, 2) := by decide +kernel
theorem dL_right_114 : decode cL_right 114 = .ok (.astore 7, 2) := by decide +kernel
theorem dL_right_116 : decode cL_right 116 = .ok (.iconst 0, 1) := by decide +kernel
theorem dL_right_117 : decode cL_right 117 = .ok (.istore 8, 2) := by decide +kernel
theorem dL_right_119 : decode cL_right 119 = .ok (.iload 8, 2) := by decide +kernel
theorem dL_right_121 : decode cL_right 121 = .ok (.iload 4, 2) := by decide +kernel
theorem dL_right_123 : decode cL_right 123 = .ok (.if_icmp .ge 216, 3) := by decide +kernel
theorem dL_right_126 : decode cL_right 126 = .ok (.aload_n 1, 1) := by decide +kernel
theorem dL_right_127 : decode cL_right 127 = .ok (.aload_n 2, 1) := by decide +kernel
theorem dL_right_128 : decode cL_right 128 = .ok (.iload 4, 2) := by decide +kernel
theorem dL_right_130 : decode cL_right 130 = .ok (.iload 8, 2) := by decide +kernel
theorem dL_right_132 : decode cL_right 132 = .ok (.invokestatic 26, 3) := by decide +kernel
theorem dL_right_135 : decode cL_right 135 = .ok (.iload 8, 2) := by decide +kernel
theorem dL_right_137 : decode cL_right 137 = .ok (.if_icmp .eq 6, 3) := by decide +kernel
theorem dL_right_140 : decode cL_right 140 = .ok (.goto 193, 3) := by decide +kernel
theorem dL_right_143 : decode cL_right 143 = .ok (.aload_n 1, 1) := by decide +kernel
theorem dL_right_144 : decode cL_right 144 = .ok (.aload_n 2, 1) := by decide +kernel
theorem dL_right_145 : decode cL_right 145 = .ok (.iload 4, 2) := by decide +kernel
theorem dL_right_147 : decode cL_right 147 = .ok (.iload 8, 2) := by decide +kernel
theorem dL_right_149 : decode cL_right 149 = .ok (.aload 7, 2) := by decide +kernel
theorem dL_right_151 : decode cL_right 151 = .ok (.invokestatic 58, 3) := by decide +kernel
theorem dL_right_154 : decode cL_right 154 = .ok (.iconst 0, 1) := by decide +kernel
theorem dL_right_155 : decode cL_right 155 = .ok (.istore 9, 2) := by decide +kernel
theorem dL_right_157 : decode cL_right 157 = .ok (.iload 9, 2) := by decide +kernel
theorem dL_right_159 : decode cL_right 159 = .ok (.bipush 8, 2) := by decide +kernel
theorem dL_right_161 : decode cL_right 161 = .ok (.if_icmp .ge 28, 3) := by decide +kernel
theorem dL_right_164 : decode cL_right 164 = .ok (.aload_n 0, 1) := by decide +kernel
theorem dL_right_165 : decode cL_right 165 = .ok (.iload 8, 2) := by decide +kernel
theorem dL_right_167 : decode cL_right 167 = .ok (.iload 9, 2) := by decide +kernel
theorem dL_right_169 : decode cL_right 169 = .ok (.invokevirtual 62, 3) := by decide +kernel
theorem dL_right_172 : decode cL_right 172 = .ok (.aload 7, 2) := by decide +kernel
theorem dL_right_174 : decode cL_right 174 = .ok (.iload 9, 2) := by decide +kernel
theorem dL_right_176 : decode cL_right 176 = .ok (.laload, 1) := by decide +kernel
theorem dL_right_177 : decode cL_right 177 = .ok (.lcmp, 1) := by decide +kernel
theorem dL_right_178 : decode cL_right 178 = .ok (.ifCond .eq 5, 3) := by decide +kernel
theorem dL_right_181 : decode cL_right 181 = .ok (.iconst 0, 1) := by decide +kernel
theorem dL_right_182 : decode cL_right 182 = .ok (.ireturn, 1) := by decide +kernel
theorem dL_right_183 : decode cL_right 183 = .ok (.iinc 9 1, 3) := by decide +kernel
theorem dL_right_186 : decode cL_right 186 = .ok (.goto (-29), 3) := by decide +kernel
theorem dL_right_189 : decode cL_right 189 = .ok (.aload 7, 2) := by decide +kernel
theorem dL_right_191 : decode cL_right 191 = .ok (.iconst 3, 1) := by decide +kernel
theorem dL_right_192 : decode cL_right 192 = .ok (.laload, 1) := by decide +kernel
theorem dL_right_193 : decode cL_right 193 = .ok (.lconst 0, 1) := by decide +kernel
theorem dL_right_194 : decode cL_right 194 = .ok (.lcmp, 1) := by decide +kernel
theorem dL_right_195 : decode cL_right 195 = .ok (.ifCond .ge 7, 3) := by decide +kernel
theorem dL_right_198 : decode cL_right 198 = .ok (.lconst 0, 1) := by decide +kernel
theorem dL_right_199 : decode cL_right 199 = .ok (.goto 28, 3) := by decide +kernel
theorem dL_right_202 : decode cL_right 202 = .ok (.aload 7, 2) := by decide +kernel
theorem dL_right_204 : decode cL_right 204 = .ok (.iconst 3, 1) := by decide +kernel
theorem dL_right_205 : decode cL_right 205 = .ok (.laload, 1) := by decide +kernel
theorem dL_right_206 : decode cL_right 206 = .ok (.ldc2_w 66, 3) := by decide +kernel
theorem dL_right_209 : decode cL_right 209 = .ok (.lcmp, 1) := by decide +kernel
theorem dL_right_210 : decode cL_right 210 = .ok (.ifCond .le 9, 3) := by decide +kernel
theorem dL_right_213 : decode cL_right 213 = .ok (.ldc2_w 68, 3) := by decide +kernel
theorem dL_right_216 : decode cL_right 216 = .ok (.goto 11, 3) := by decide +kernel
theorem dL_right_219 : decode cL_right 219 = .ok (.aload 7, 2) := by decide +kernel
theorem dL_right_221 : decode cL_right 221 = .ok (.iconst 3, 1) := by decide +kernel
theorem dL_right_222 : decode cL_right 222 = .ok (.laload, 1) := by decide +kernel
theorem dL_right_223 : decode cL_right 223 = .ok (.ldc2_w 10, 3) := by decide +kernel
theorem dL_right_226 : decode cL_right 226 = .ok (.ldiv, 1) := by decide +kernel
theorem dL_right_227 : decode cL_right 227 = .ok (.l2i, 1) := by decide +kernel
theorem dL_right_228 : decode cL_right 228 = .ok (.istore 9, 2) := by decide +kernel
theorem dL_right_230 : decode cL_right 230 = .ok (.aload 7, 2) := by decide +kernel
theorem dL_right_232 : decode cL_right 232 = .ok (.iconst 4, 1) := by decide +kernel
theorem dL_right_233 : decode cL_right 233 = .ok (.laload, 1) := by decide +kernel
theorem dL_right_234 : decode cL_right 234 = .ok (.lconst 0, 1) := by decide +kernel
theorem dL_right_235 : decode cL_right 235 = .ok (.lcmp, 1) := by decide +kernel
theorem dL_right_236 : decode cL_right 236 = .ok (.ifCond .ge 7, 3) := by decide +kernel
theorem dL_right_239 : decode cL_right 239 = .ok (.lconst 0, 1) := by decide +kernel
theorem dL_right_240 : decode cL_right 240 = .ok (.goto 28, 3) := by decide +kernel
theorem dL_right_243 : decode cL_right 243 = .ok (.aload 7, 2) := by decide +kernel
theorem dL_right_245 : decode cL_right 245 = .ok (.iconst 4, 1) := by decide +kernel
theorem dL_right_246 : decode cL_right 246 = .ok (.laload, 1) := by decide +kernel
theorem dL_right_247 : decode cL_right 247 = .ok (.ldc2_w 66, 3) := by decide +kernel
theorem dL_right_250 : decode cL_right 250 = .ok (.lcmp, 1) := by decide +kernel
theorem dL_right_251 : decode cL_right 251 = .ok (.ifCond .le 9, 3) := by decide +kernel
theorem dL_right_254 : decode cL_right 254 = .ok (.ldc2_w 68, 3) := by decide +kernel
theorem dL_right_257 : decode cL_right 257 = .ok (.goto 11, 3) := by decide +kernel
theorem dL_right_260 : decode cL_right 260 = .ok (.aload 7, 2) := by decide +kernel
theorem dL_right_262 : decode cL_right 262 = .ok (.iconst 4, 1) := by decide +kernel
theorem dL_right_263 : decode cL_right 263 = .ok (.laload, 1) := by decide +kernel
theorem dL_right_264 : decode cL_right 264 = .ok (.ldc2_w 10, 3) := by decide +kernel
theorem dL_right_267 : decode cL_right 267 = .ok (.ldiv, 1) := by decide +kernel
theorem dL_right_268 : decode cL_right 268 = .ok (.l2i, 1) := by decide +kernel
theorem dL_right_269 : decode cL_right 269 = .ok (.istore 10, 2) := by decide +kernel
theorem dL_right_271 : decode cL_right 271 = .ok (.iload 5, 2) := by decide +kernel
theorem dL_right_273 : decode cL_right 273 = .ok (.iconst 2, 1) := by decide +kernel
theorem dL_right_274 : decode cL_right 274 = .ok (.invokestatic 70, 3) := by decide +kernel
theorem dL_right_277 : decode cL_right 277 = .ok (.ifCond .ne 8, 3) := by decide +kernel
theorem dL_right_280 : decode cL_right 280 = .ok (.iload 9, 2) := by decide +kernel
theorem dL_right_282 : decode cL_right 282 = .ok (.goto 12, 3) := by decide +kernel
theorem dL_right_285 : decode cL_right 285 = .ok (.iload 5, 2) := by decide +kernel
theorem dL_right_287 : decode cL_right 287 = .ok (.iconst 1, 1) := by decide +kernel
theorem dL_right_288 : decode cL_right 288 = .ok (.ishr, 1) := by decide +kernel
theorem dL_right_289 : decode cL_right 289 = .ok (.bipush 100, 2) := by decide +kernel
theorem dL_right_291 : decode cL_right 291 = .ok (.invokestatic 70, 3) := by decide +kernel
theorem dL_right_294 : decode cL_right 294 = .ok (.istore 9, 2) := by decide +kernel
theorem dL_right_296 : decode cL_right 296 = .ok (.aload_n 0, 1) := by decide +kernel
theorem dL_right_297 : decode cL_right 297 = .ok (.iload 8, 2) := by decide +kernel
theorem dL_right_299 : decode cL_right 299 = .ok (.iload 9, 2) := by decide +kernel
theorem dL_right_301 : decode cL_right 301 = .ok (.iload 10, 2) := by decide +kernel
theorem dL_right_303 : decode cL_right 303 = .ok (.invokevirtual 74, 3) := by decide +kernel
theorem dL_right_306 : decode cL_right 306 = .ok (.aload_n 3, 1) := by decide +kernel
theorem dL_right_307 : decode cL_right 307 = .ok (.aload 7, 2) := by decide +kernel
theorem dL_right_309 : decode cL_right 309 = .ok (.aload_n 2, 1) := by decide +kernel
theorem dL_right_310 : decode cL_right 310 = .ok (.bipush 9, 2) := by decide +kernel
theorem dL_right_312 : decode cL_right 312 = .ok (.iload 8, 2) := by decide +kernel
theorem dL_right_314 : decode cL_right 314 = .ok (.imul, 1) := by decide +kernel
theorem dL_right_315 : decode cL_right 315 = .ok (.iconst 1, 1) := by decide +kernel
theorem dL_right_316 : decode cL_right 316 = .ok (.iadd, 1) := by decide +kernel
theorem dL_right_317 : decode cL_right 317 = .ok (.iaload, 1) := by decide +kernel
theorem dL_right_318 : decode cL_right 318 = .ok (.iload 8, 2) := by decide +kernel
theorem dL_right_320 : decode cL_right 320 = .ok (.iload 9, 2) := by decide +kernel
theorem dL_right_322 : decode cL_right 322 = .ok (.iload 10, 2) := by decide +kernel
theorem dL_right_324 : decode cL_right 324 = .ok (.invokestatic 78, 3) := by decide +kernel
theorem dL_right_327 : decode cL_right 327 = .ok (.lcmp, 1) := by decide +kernel
theorem dL_right_328 : decode cL_right 328 = .ok (.ifCond .eq 5, 3) := by decide +kernel
theorem dL_right_331 : decode cL_right 331 = .ok (.iconst 0, 1) := by decide +kernel
theorem dL_right_332 : decode cL_right 332 = .ok (.ireturn, 1) := by decide +kernel
theorem dL_right_333 : decode cL_right 333 = .ok (.iinc 8 1, 3) := by decide +kernel
theorem dL_right_336 : decode cL_right 336 = .ok (.goto (-217), 3) := by decide +kernel
theorem dL_right_339 : decode cL_right 339 = .ok (.iconst 1, 1) := by decide +kernel
theorem dL_right_340 : decode cL_right 340 = .ok (.ireturn, 1) := by decide +kernel
theorem dL_law_0 : decode cL_law 0 = .ok (.new 47, 3) := by decide +kernel
theorem dL_law_3 : decode cL_law 3 = .ok (.dup, 1) := by decide +kernel
theorem dL_law_4 : decode cL_law 4 = .ok (.invokespecial 80, 3) := by decide +kernel
theorem dL_law_7 : decode cL_law 7 = .ok (.astore_n 1, 1) := by decide +kernel
theorem dL_law_8 : decode cL_law 8 = .ok (.bipush 16, 2) := by decide +kernel
theorem dL_law_10 : decode cL_law 10 = .ok (.newarray .int, 2) := by decide +kernel
theorem dL_law_12 : decode cL_law 12 = .ok (.astore_n 2, 1) := by decide +kernel
theorem dL_law_13 : decode cL_law 13 = .ok (.bipush 64, 2) := by decide +kernel
theorem dL_law_15 : decode cL_law 15 = .ok (.newarray .int, 2) := by decide +kernel
theorem dL_law_17 : decode cL_law 17 = .ok (.astore_n 3, 1) := by decide +kernel
theorem dL_law_18 : decode cL_law 18 = .ok (.bipush 64, 2) := by decide +kernel
theorem dL_law_20 : decode cL_law 20 = .ok (.newarray .int, 2) := by decide +kernel
theorem dL_law_22 : decode cL_law 22 = .ok (.astore 4, 2) := by decide +kernel
theorem dL_law_24 : decode cL_law 24 = .ok (.iconst 0, 1) := by decide +kernel
theorem dL_law_25 : decode cL_law 25 = .ok (.istore 5, 2) := by decide +kernel
theorem dL_law_27 : decode cL_law 27 = .ok (.iload 5, 2) := by decide +kernel
theorem dL_law_29 : decode cL_law 29 = .ok (.iconst 4, 1) := by decide +kernel
theorem dL_law_30 : decode cL_law 30 = .ok (.if_icmp .ge 101, 3) := by decide +kernel
theorem dL_law_33 : decode cL_law 33 = .ok (.aload_n 0, 1) := by decide +kernel
theorem dL_law_34 : decode cL_law 34 = .ok (.iload 5, 2) := by decide +kernel
theorem dL_law_36 : decode cL_law 36 = .ok (.invokestatic 81, 3) := by decide +kernel
theorem dL_law_39 : decode cL_law 39 = .ok (.istore 6, 2) := by decide +kernel
theorem dL_law_41 : decode cL_law 41 = .ok (.aload_n 2, 1) := by decide +kernel
theorem dL_law_42 : decode cL_law 42 = .ok (.iconst 3, 1) := by decide +kernel
theorem dL_law_43 : decode cL_law 43 = .ok (.iload 5, 2) := by decide +kernel
theorem dL_law_45 : decode cL_law 45 = .ok (.imul, 1) := by decide +kernel
theorem dL_law_46 : decode cL_law 46 = .ok (.iload 6, 2) := by decide +kernel
theorem dL_law_48 : decode cL_law 48 = .ok (.bipush 100, 2) := by decide +kernel
theorem dL_law_50 : decode cL_law 50 = .ok (.invokestatic 70, 3) := by decide +kernel
theorem dL_law_53 : decode cL_law 53 = .ok (.iastore, 1) := by decide +kernel
theorem dL_law_54 : decode cL_law 54 = .ok (.aload_n 2, 1) := by decide +kernel
theorem dL_law_55 : decode cL_law 55 = .ok (.iconst 3, 1) := by decide +kernel
theorem dL_law_56 : decode cL_law 56 = .ok (.iload 5, 2) := by decide +kernel
theorem dL_law_58 : decode cL_law 58 = .ok (.imul, 1) := by decide +kernel
theorem dL_law_59 : decode cL_law 59 = .ok (.iconst 1, 1) := by decide +kernel
theorem dL_law_60 : decode cL_law 60 = .ok (.iadd, 1) := by decide +kernel
theorem dL_law_61 : decode cL_law 61 = .ok (.iload 6, 2) := by decide +kernel
theorem dL_law_63 : decode cL_law 63 = .ok (.bipush 7, 2) := by decide +kernel
theorem dL_law_65 : decode cL_law 65 = .ok (.ishr, 1) := by decide +kernel
theorem dL_law_66 : decode cL_law 66 = .ok (.bipush 100, 2) := by decide +kernel
theorem dL_law_68 : decode cL_law 68 = .ok (.invokestatic 70, 3) := by decide +kernel
theorem dL_law_71 : decode cL_law 71 = .ok (.iastore, 1) := by decide +kernel
theorem dL_law_72 : decode cL_law 72 = .ok (.aload_n 2, 1) := by decide +kernel
theorem dL_law_73 : decode cL_law 73 = .ok (.iconst 3, 1) := by decide +kernel
theorem dL_law_74 : decode cL_law 74 = .ok (.iload 5, 2) := by decide +kernel
theorem dL_law_76 : decode cL_law 76 = .ok (.imul, 1) := by decide +kernel
theorem dL_law_77 : decode cL_law 77 = .ok (.iconst 2, 1) := by decide +kernel
theorem dL_law_78 : decode cL_law 78 = .ok (.iadd, 1) := by decide +kernel
theorem dL_law_79 : decode cL_law 79 = .ok (.iload 6, 2) := by decide +kernel
theorem dL_law_81 : decode cL_law 81 = .ok (.bipush 14, 2) := by decide +kernel
theorem dL_law_83 : decode cL_law 83 = .ok (.ishr, 1) := by decide +kernel
theorem dL_law_84 : decode cL_law 84 = .ok (.bipush 11, 2) := by decide +kernel
theorem dL_law_86 : decode cL_law 86 = .ok (.invokestatic 70, 3) := by decide +kernel
theorem dL_law_89 : decode cL_law 89 = .ok (.iconst 5, 1) := by decide +kernel
theorem dL_law_90 : decode cL_law 90 = .ok (.isub, 1) := by decide +kernel
theorem dL_law_91 : decode cL_law 91 = .ok (.iastore, 1) := by decide +kernel
theorem dL_law_92 : decode cL_law 92 = .ok (.aload_n 1, 1) := by decide +kernel
theorem dL_law_93 : decode cL_law 93 = .ok (.aload_n 2, 1) := by decide +kernel
theorem dL_law_94 : decode cL_law 94 = .ok (.iconst 3, 1) := by decide +kernel
theorem dL_law_95 : decode cL_law 95 = .ok (.iload 5, 2) := by decide +kernel
theorem dL_law_97 : decode cL_law 97 = .ok (.imul, 1) := by decide +kernel
theorem dL_law_98 : decode cL_law 98 = .ok (.iaload, 1) := by decide +kernel
theorem dL_law_99 : decode cL_law 99 = .ok (.aload_n 2, 1) := by decide +kernel
theorem dL_law_100 : decode cL_law 100 = .ok (.iconst 3, 1) := by decide +kernel
theorem dL_law_101 : decode cL_law 101 = .ok (.iload 5, 2) := by decide +kernel
theorem dL_law_103 : decode cL_law 103 = .ok (.imul, 1) := by decide +kernel
theorem dL_law_104 : decode cL_law 104 = .ok (.iconst 1, 1) := by decide +kernel
theorem dL_law_105 : decode cL_law 105 = .ok (.iadd, 1) := by decide +kernel
theorem dL_law_106 : decode cL_law 106 = .ok (.iaload, 1) := by decide +kernel
theorem dL_law_107 : decode cL_law 107 = .ok (.aload_n 2, 1) := by decide +kernel
theorem dL_law_108 : decode cL_law 108 = .ok (.iconst 3, 1) := by decide +kernel
theorem dL_law_109 : decode cL_law 109 = .ok (.iload 5, 2) := by decide +kernel
theorem dL_law_111 : decode cL_law 111 = .ok (.imul, 1) := by decide +kernel
theorem dL_law_112 : decode cL_law 112 = .ok (.iconst 2, 1) := by decide +kernel
theorem dL_law_113 : decode cL_law 113 = .ok (.iadd, 1) := by decide +kernel
theorem dL_law_114 : decode cL_law 114 = .ok (.iaload, 1) := by decide +kernel
theorem dL_law_115 : decode cL_law 115 = .ok (.invokevirtual 85, 3) := by decide +kernel
theorem dL_law_118 : decode cL_law 118 = .ok (.iload 5, 2) := by decide +kernel
theorem dL_law_120 : decode cL_law 120 = .ok (.if_icmp .eq 5, 3) := by decide +kernel
theorem dL_law_123 : decode cL_law 123 = .ok (.iconst 0, 1) := by decide +kernel
theorem dL_law_124 : decode cL_law 124 = .ok (.ireturn, 1) := by decide +kernel
theorem dL_law_125 : decode cL_law 125 = .ok (.iinc 5 1, 3) := by decide +kernel
theorem dL_law_128 : decode cL_law 128 = .ok (.goto (-101), 3) := by decide +kernel
theorem dL_law_131 : decode cL_law 131 = .ok (.iconst 0, 1) := by decide +kernel
theorem dL_law_132 : decode cL_law 132 = .ok (.istore 5, 2) := by decide +kernel
theorem dL_law_134 : decode cL_law 134 = .ok (.iconst 4, 1) := by decide +kernel
theorem dL_law_135 : decode cL_law 135 = .ok (.istore 6, 2) := by decide +kernel
theorem dL_law_137 : decode cL_law 137 = .ok (.iconst 0, 1) := by decide +kernel
theorem dL_law_138 : decode cL_law 138 = .ok (.istore 7, 2) := by decide +kernel
theorem dL_law_140 : decode cL_law 140 = .ok (.iload 7, 2) := by decide +kernel
theorem dL_law_142 : decode cL_law 142 = .ok (.bipush 9, 2) := by decide +kernel
theorem dL_law_144 : decode cL_law 144 = .ok (.if_icmp .ge 816, 3) := by decide +kernel
theorem dL_law_147 : decode cL_law 147 = .ok (.aload_n 0, 1) := by decide +kernel
theorem dL_law_148 : decode cL_law 148 = .ok (.iload 6, 2) := by decide +kernel
theorem dL_law_150 : decode cL_law 150 = .ok (.invokestatic 81, 3) := by decide +kernel
theorem dL_law_153 : decode cL_law 153 = .ok (.istore 8, 2) := by decide +kernel
theorem dL_law_155 : decode cL_law 155 = .ok (.aload_n 0, 1) := by decide +kernel
theorem dL_law_156 : decode cL_law 156 = .ok (.iload 6, 2) := by decide +kernel
theorem dL_law_158 : decode cL_law 158 = .ok (.iconst 1, 1) := by decide +kernel
theorem dL_law_159 : decode cL_law 159 = .ok (.iadd, 1) := by decide +kernel
theorem dL_law_160 : decode cL_law 160 = .ok (.invokestatic 81, 3) := by decide +kernel
theorem dL_law_163 : decode cL_law 163 = .ok (.istore 9, 2) := by decide +kernel
theorem dL_law_165 : decode cL_law 165 = .ok (.iinc 6 2, 3) := by decide +kernel
theorem dL_law_168 : decode cL_law 168 = .ok (.iload 5, 2) := by decide +kernel
theorem dL_law_170 : decode cL_law 170 = .ok (.bipush 7, 2) := by decide +kernel
theorem dL_law_172 : decode cL_law 172 = .ok (.if_icmp .ge 379, 3) := by decide +kernel
theorem dL_law_175 : decode cL_law 175 = .ok (.bipush 9, 2) := by decide +kernel
theorem dL_law_177 : decode cL_law 177 = .ok (.iload 5, 2) := by decide +kernel
theorem dL_law_179 : decode cL_law 179 = .ok (.imul, 1) := by decide +kernel
theorem dL_law_180 : decode cL_law 180 = .ok (.istore 10, 2) := by decide +kernel
theorem dL_law_182 : decode cL_law 182 = .ok (.aload_n 3, 1) := by decide +kernel
theorem dL_law_183 : decode cL_law 183 = .ok (.iload 10, 2) := by decide +kernel
theorem dL_law_185 : decode cL_law 185 = .ok (.iload 8, 2) := by decide +kernel
theorem dL_law_187 : decode cL_law 187 = .ok (.iconst 4, 1) := by decide +kernel
theorem dL_law_188 : decode cL_law 188 = .ok (.invokestatic 70, 3) := by decide +kernel
theorem dL_law_191 : decode cL_law 191 = .ok (.iastore, 1) := by decide +kernel
theorem dL_law_192 : decode cL_law 192 = .ok (.aload_n 3, 1) := by decide +kernel
theorem dL_law_193 : decode cL_law 193 = .ok (.iload 10, 2) := by decide +kernel
theorem dL_law_195 : decode cL_law 195 = .ok (.iconst 1, 1) := by decide +kernel
theorem dL_law_196 : decode cL_law 196 = .ok (.iadd, 1) := by decide +kernel
theorem dL_law_197 : decode cL_law 197 = .ok (.iload 8, 2) := by decide +kernel
theorem dL_law_199 : decode cL_law 199 = .ok (.iconst 2, 1) := by decide +kernel
theorem dL_law_200 : decode cL_law 200 = .ok (.ishr, 1) := by decide +kernel
theorem dL_law_201 : decode cL_law 201 = .ok (.bipush 8, 2) := by decide +kernel
theorem dL_law_203 : decode cL_law 203 = .ok (.invokestatic 70, 3) := by decide +kernel
theorem dL_law_206 : decode cL_law 206 = .ok (.ifCond .ne 7, 3) := by decide +kernel
theorem dL_law_209 : decode cL_law 209 = .ok (.iconst 1, 1) := by decide +kernel
theorem dL_law_210 : decode cL_law 210 = .ok (.goto 4, 3) := by decide +kernel
theorem dL_law_213 : decode cL_law 213 = .ok (.iconst 0, 1) := by decide +kernel
theorem dL_law_214 : decode cL_law 214 = .ok (.iastore, 1) := by decide +kernel
theorem dL_law_215 : decode cL_law 215 = .ok (.aload_n 3, 1) := by decide +kernel
theorem dL_law_216 : decode cL_law 216 = .ok (.iload 10, 2) := by decide +kernel
theorem dL_law_218 : decode cL_law 218 = .ok (.iconst 2, 1) := by decide +kernel
theorem dL_law_219 : decode cL_law 219 = .ok (.iadd, 1) := by decide +kernel
theorem dL_law_220 : decode cL_law 220 = .ok (.sipush 1000, 3) := by decide +kernel
theorem dL_law_223 : decode cL_law 223 = .ok (.iload 8, 2) := by decide +kernel
theorem dL_law_225 : decode cL_law 225 = .ok (.iconst 5, 1) := by decide +kernel
theorem dL_law_226 : decode cL_law 226 = .ok (.ishr, 1) := by decide +kernel
theorem dL_law_227 : decode cL_law 227 = .ok (.bipush 12, 2) := by decide +kernel
theorem dL_law_229 : decode cL_law 229 = .ok (.invokestatic 70, 3) := by decide +kernel
theorem dL_law_232 : decode cL_law 232 = .ok (.iadd, 1) := by decide +kernel
theorem dL_law_233 : decode cL_law 233 = .ok (.iastore, 1) := by decide +kernel
theorem dL_law_234 : decode cL_law 234 = .ok (.aload_n 3, 1) := by decide +kernel
theorem dL_law_235 : decode cL_law 235 = .ok (.iload 10, 2) := by decide +kernel
theorem dL_law_237 : decode cL_law 237 = .ok (.iconst 3, 1) := by decide +kernel
theorem dL_law_238 : decode cL_law 238 = .ok (.iadd, 1) := by decide +kernel
theorem dL_law_239 : decode cL_law 239 = .ok (.iconst 1, 1) := by decide +kernel
theorem dL_law_240 : decode cL_law 240 = .ok (.iload 8, 2) := by decide +kernel
theorem dL_law_242 : decode cL_law 242 = .ok (.bipush 9, 2) := by decide +kernel
theorem dL_law_244 : decode cL_law 244 = .ok (.ishr, 1) := by decide +kernel
theorem dL_law_245 : decode cL_law 245 = .ok (.iload 8, 2) := by decide +kernel
theorem dL_law_247 : decode cL_law 247 = .ok (.bipush 14, 2) := by decide +kernel
theorem dL_law_249 : decode cL_law 249 = .ok (.ishr, 1) := by decide +kernel
theorem dL_law_250 : decode cL_law 250 = .ok (.iconst 5, 1) := by decide +kernel
theorem dL_law_251 : decode cL_law 251 = .ok (.invokestatic 70, 3) := by decide +kernel
theorem dL_law_254 : decode cL_law 254 = .ok (.ifCond .ne 8, 3) := by decide +kernel
theorem dL_law_257 : decode cL_law 257 = .ok (.bipush 60, 2) := by decide +kernel
theorem dL_law_259 : decode cL_law 259 = .ok (.goto 5, 3) := by decide +kernel
theorem dL_law_262 : decode cL_law 262 = .ok (.bipush 30, 2) := by decide +kernel
theorem dL_law_264 : decode cL_law 264 = .ok (.invokestatic 70, 3) := by decide +kernel
theorem dL_law_267 : decode cL_law 267 = .ok (.iadd, 1) := by decide +kernel
theorem dL_law_268 : decode cL_law 268 = .ok (.iastore, 1) := by decide +kernel
theorem dL_law_269 : decode cL_law 269 = .ok (.aload_n 3, 1) := by decide +kernel
theorem dL_law_270 : decode cL_law 270 = .ok (.iload 10, 2) := by decide +kernel
theorem dL_law_272 : decode cL_law 272 = .ok (.iconst 4, 1) := by decide +kernel
theorem dL_law_273 : decode cL_law 273 = .ok (.iadd, 1) := by decide +kernel
theorem dL_law_274 : decode cL_law 274 = .ok (.bipush 40, 2) := by decide +kernel
theorem dL_law_276 : decode cL_law 276 = .ok (.iload 8, 2) := by decide +kernel
theorem dL_law_278 : decode cL_law 278 = .ok (.bipush 17, 2) := by decide +kernel
theorem dL_law_280 : decode cL_law 280 = .ok (.ishr, 1) := by decide +kernel
theorem dL_law_281 : decode cL_law 281 = .ok (.sipush 400, 3) := by decide +kernel
theorem dL_law_284 : decode cL_law 284 = .ok (.invokestatic 70, 3) := by decide +kernel
theorem dL_law_287 : decode cL_law 287 = .ok (.iadd, 1) := by decide +kernel
theorem dL_law_288 : decode cL_law 288 = .ok (.iastore, 1) := by decide +kernel
theorem dL_law_289 : decode cL_law 289 = .ok (.bipush 20, 2) := by decide +kernel
theorem dL_law_291 : decode cL_law 291 = .ok (.iload 9, 2) := by decide +kernel
theorem dL_law_293 : decode cL_law 293 = .ok (.bipush 60, 2) := by decide +kernel
theorem dL_law_295 : decode cL_law 295 = .ok (.invokestatic 70, 3) := by decide +kernel
theorem dL_law_298 : decode cL_law 298 = .ok (.iadd, 1) := by decide +kernel
theorem dL_law_299 : decode cL_law 299 = .ok (.istore 11, 2) := by decide +kernel
theorem dL_law_301 : decode cL_law 301 = .ok (.bipush 20, 2) := by decide +kernel
theorem dL_law_303 : decode cL_law 303 = .ok (.iload 9, 2) := by decide +kernel
theorem dL_law_305 : decode cL_law 305 = .ok (.bipush 6, 2) := by decide +kernel
theorem dL_law_307 : decode cL_law 307 = .ok (.ishr, 1) := by decide +kernel
theorem dL_law_308 : decode cL_law 308 = .ok (.bipush 60, 2) := by decide +kernel
theorem dL_law_310 : decode cL_law 310 = .ok (.invokestatic 70, 3) := by decide +kernel
theorem dL_law_313 : decode cL_law 313 = .ok (.iadd, 1) := by decide +kernel
theorem dL_law_314 : decode cL_law 314 = .ok (.istore 12, 2) := by decide +kernel
theorem dL_law_316 : decode cL_law 316 = .ok (.bipush 20, 2) := by decide +kernel
theorem dL_law_318 : decode cL_law 318 = .ok (.iload 9, 2) := by decide +kernel
theorem dL_law_320 : decode cL_law 320 = .ok (.bipush 12, 2) := by decide +kernel
theorem dL_law_322 : decode cL_law 322 = .ok (.ishr, 1) := by decide +kernel
theorem dL_law_323 : decode cL_law 323 = .ok (.bipush 60, 2) := by decide +kernel
theorem dL_law_325 : decode cL_law 325 = .ok (.invokestatic 70, 3) := by decide +kernel
theorem dL_law_328 : decode cL_law 328 = .ok (.iadd, 1) := by decide +kernel
theorem dL_law_329 : decode cL_law 329 = .ok (.istore 13, 2) := by decide +kernel
theorem dL_law_331 : decode cL_law 331 = .ok (.bipush 20, 2) := by decide +kernel
theorem dL_law_333 : decode cL_law 333 = .ok (.iload 9, 2) := by decide +kernel
theorem dL_law_335 : decode cL_law 335 = .ok (.bipush 18, 2) := by decide +kernel
theorem dL_law_337 : decode cL_law 337 = .ok (.ishr, 1) := by decide +kernel
theorem dL_law_338 : decode cL_law 338 = .ok (.bipush 60, 2) := by decide +kernel
theorem dL_law_340 : decode cL_law 340 = .ok (.invokestatic 70, 3) := by decide +kernel
theorem dL_law_343 : decode cL_law 343 = .ok (.iadd, 1) := by decide +kernel
theorem dL_law_344 : decode cL_law 344 = .ok (.istore 14, 2) := by decide +kernel
theorem dL_law_346 : decode cL_law 346 = .ok (.aload_n 3, 1) := by decide +kernel
theorem dL_law_347 : decode cL_law 347 = .ok (.iload 10, 2) := by decide +kernel
theorem dL_law_349 : decode cL_law 349 = .ok (.iconst 5, 1) := by decide +kernel
theorem dL_law_350 : decode cL_law 350 = .ok (.iadd, 1) := by decide +kernel
theorem dL_law_351 : decode cL_law 351 = .ok (.iload 11, 2) := by decide +kernel
theorem dL_law_353 : decode cL_law 353 = .ok (.aload_n 2, 1) := by decide +kernel
theorem dL_law_354 : decode cL_law 354 = .ok (.iconst 3, 1) := by decide +kernel
theorem dL_law_355 : decode cL_law 355 = .ok (.aload_n 3, 1) := by decide +kernel
theorem dL_law_356 : decode cL_law 356 = .ok (.iload 10, 2) := by decide +kernel
theorem dL_law_358 : decode cL_law 358 = .ok (.iaload, 1) := by decide +kernel
theorem dL_law_359 : decode cL_law 359 = .ok (.imul, 1) := by decide +kernel
theorem dL_law_360 : decode cL_law 360 = .ok (.iaload, 1) := by decide +kernel
theorem dL_law_361 : decode cL_law 361 = .ok (.isub, 1) := by decide +kernel
theorem dL_law_362 : decode cL_law 362 = .ok (.iastore, 1) := by decide +kernel
theorem dL_law_363 : decode cL_law 363 = .ok (.aload_n 3, 1) := by decide +kernel
theorem dL_law_364 : decode cL_law 364 = .ok (.iload 10, 2) := by decide +kernel
theorem dL_law_366 : decode cL_law 366 = .ok (.bipush 6, 2) := by decide +kernel
theorem dL_law_368 : decode cL_law 368 = .ok (.iadd, 1) := by decide +kernel
theorem dL_law_369 : decode cL_law 369 = .ok (.iload 12, 2) := by decide +kernel
theorem dL_law_371 : decode cL_law 371 = .ok (.aload_n 2, 1) := by decide +kernel
theorem dL_law_372 : decode cL_law 372 = .ok (.iconst 3, 1) := by decide +kernel
theorem dL_law_373 : decode cL_law 373 = .ok (.aload_n 3, 1) := by decide +kernel
theorem dL_law_374 : decode cL_law 374 = .ok (.iload 10, 2) := by decide +kernel
theorem dL_law_376 : decode cL_law 376 = .ok (.iaload, 1) := by decide +kernel
theorem dL_law_377 : decode cL_law 377 = .ok (.imul, 1) := by decide +kernel
theorem dL_law_378 : decode cL_law 378 = .ok (.iconst 1, 1) := by decide +kernel
theorem dL_law_379 : decode cL_law 379 = .ok (.iadd, 1) := by decide +kernel
theorem dL_law_380 : decode cL_law 380 = .ok (.iaload, 1) := by decide +kernel
theorem dL_law_381 : decode cL_law 381 = .ok (.isub, 1) := by decide +kernel
theorem dL_law_382 : decode cL_law 382 = .ok (.iastore, 1) := by decide +kernel
theorem dL_law_383 : decode cL_law 383 = .ok (.aload_n 3, 1) := by decide +kernel
theorem dL_law_384 : decode cL_law 384 = .ok (.iload 10, 2) := by decide +kernel
theorem dL_law_386 : decode cL_law 386 = .ok (.bipush 7, 2) := by decide +kernel
theorem dL_law_388 : decode cL_law 388 = .ok (.iadd, 1) := by decide +kernel
theorem dL_law_389 : decode cL_law 389 = .ok (.iload 13, 2) := by decide +kernel
theorem dL_law_391 : decode cL_law 391 = .ok (.aload_n 2, 1) := by decide +kernel
theorem dL_law_392 : decode cL_law 392 = .ok (.iconst 3, 1) := by decide +kernel
theorem dL_law_393 : decode cL_law 393 = .ok (.aload_n 3, 1) := by decide +kernel
theorem dL_law_394 : decode cL_law 394 = .ok (.iload 10, 2) := by decide +kernel
theorem dL_law_396 : decode cL_law 396 = .ok (.iaload, 1) := by decide +kernel
theorem dL_law_397 : decode cL_law 397 = .ok (.imul, 1) := by decide +kernel
theorem dL_law_398 : decode cL_law 398 = .ok (.iaload, 1) := by decide +kernel
theorem dL_law_399 : decode cL_law 399 = .ok (.isub, 1) := by decide +kernel
theorem dL_law_400 : decode cL_law 400 = .ok (.iastore, 1) := by decide +kernel
theorem dL_law_401 : decode cL_law 401 = .ok (.aload_n 3, 1) := by decide +kernel
theorem dL_law_402 : decode cL_law 402 = .ok (.iload 10, 2) := by decide +kernel
theorem dL_law_404 : decode cL_law 404 = .ok (.bipush 8, 2) := by decide +kernel
theorem dL_law_406 : decode cL_law 406 = .ok (.iadd, 1) := by decide +kernel
theorem dL_law_407 : decode cL_law 407 = .ok (.iload 14, 2) := by decide +kernel
theorem dL_law_409 : decode cL_law 409 = .ok (.aload_n 2, 1) := by decide +kernel
theorem dL_law_410 : decode cL_law 410 = .ok (.iconst 3, 1) := by decide +kernel
theorem dL_law_411 : decode cL_law 411 = .ok (.aload_n 3, 1) := by decide +kernel
theorem dL_law_412 : decode cL_law 412 = .ok (.iload 10, 2) := by decide +kernel
theorem dL_law_414 : decode cL_law 414 = .ok (.iaload, 1) := by decide +kernel
theorem dL_law_415 : decode cL_law 415 = .ok (.imul, 1) := by decide +kernel
theorem dL_law_416 : decode cL_law 416 = .ok (.iconst 1, 1) := by decide +kernel
theorem dL_law_417 : decode cL_law 417 = .ok (.iadd, 1) := by decide +kernel
theorem dL_law_418 : decode cL_law 418 = .ok (.iaload, 1) := by decide +kernel
theorem dL_law_419 : decode cL_law 419 = .ok (.isub, 1) := by decide +kernel
theorem dL_law_420 : decode cL_law 420 = .ok (.iastore, 1) := by decide +kernel
theorem dL_law_421 : decode cL_law 421 = .ok (.aload_n 3, 1) := by decide +kernel
theorem dL_law_422 : decode cL_law 422 = .ok (.iload 10, 2) := by decide +kernel
theorem dL_law_424 : decode cL_law 424 = .ok (.iconst 5, 1) := by decide +kernel
theorem dL_law_425 : decode cL_law 425 = .ok (.iadd, 1) := by decide +kernel
theorem dL_law_426 : decode cL_law 426 = .ok (.iaload, 1) := by decide +kernel
theorem dL_law_427 : decode cL_law 427 = .ok (.ifCond .ne 20, 3) := by decide +kernel
theorem dL_law_430 : decode cL_law 430 = .ok (.aload_n 3, 1) := by decide +kernel
theorem dL_law_431 : decode cL_law 431 = .ok (.iload 10, 2) := by decide +kernel
theorem dL_law_433 : decode cL_law 433 = .ok (.bipush 6, 2) := by decide +kernel
theorem dL_law_435 : decode cL_law 435 = .ok (.iadd, 1) := by decide +kernel
theorem dL_law_436 : decode cL_law 436 = .ok (.iaload, 1) := by decide +kernel
theorem dL_law_437 : decode cL_law 437 = .ok (.ifCond .ne 10, 3) := by decide +kernel
theorem dL_law_440 : decode cL_law 440 = .ok (.aload_n 3, 1) := by decide +kernel
theorem dL_law_441 : decode cL_law 441 = .ok (.iload 10, 2) := by decide +kernel
theorem dL_law_443 : decode cL_law 443 = .ok (.iconst 5, 1) := by decide +kernel
theorem dL_law_444 : decode cL_law 444 = .ok (.iadd, 1) := by decide +kernel
theorem dL_law_445 : decode cL_law 445 = .ok (.iconst 1, 1) := by decide +kernel
theorem dL_law_446 : decode cL_law 446 = .ok (.iastore, 1) := by decide +kernel
theorem dL_law_447 : decode cL_law 447 = .ok (.aload_n 3, 1) := by decide +kernel
theorem dL_law_448 : decode cL_law 448 = .ok (.iload 10, 2) := by decide +kernel
theorem dL_law_450 : decode cL_law 450 = .ok (.bipush 7, 2) := by decide +kernel
theorem dL_law_452 : decode cL_law 452 = .ok (.iadd, 1) := by decide +kernel
theorem dL_law_453 : decode cL_law 453 = .ok (.iaload, 1) := by decide +kernel
theorem dL_law_454 : decode cL_law 454 = .ok (.ifCond .ne 21, 3) := by decide +kernel
theorem dL_law_457 : decode cL_law 457 = .ok (.aload_n 3, 1) := by decide +kernel
theorem dL_law_458 : decode cL_law 458 = .ok (.iload 10, 2) := by decide +kernel
theorem dL_law_460 : decode cL_law 460 = .ok (.bipush 8, 2) := by decide +kernel
theorem dL_law_462 : decode cL_law 462 = .ok (.iadd, 1) := by decide +kernel
theorem dL_law_463 : decode cL_law 463 = .ok (.iaload, 1) := by decide +kernel
theorem dL_law_464 : decode cL_law 464 = .ok (.ifCond .ne 11, 3) := by decide +kernel
theorem dL_law_467 : decode cL_law 467 = .ok (.aload_n 3, 1) := by decide +kernel
theorem dL_law_468 : decode cL_law 468 = .ok (.iload 10, 2) := by decide +kernel
theorem dL_law_470 : decode cL_law 470 = .ok (.bipush 8, 2) := by decide +kernel
theorem dL_law_472 : decode cL_law 472 = .ok (.iadd, 1) := by decide +kernel
theorem dL_law_473 : decode cL_law 473 = .ok (.iconst (-1), 1) := by decide +kernel
theorem dL_law_474 : decode cL_law 474 = .ok (.iastore, 1) := by decide +kernel
theorem dL_law_475 : decode cL_law 475 = .ok (.aload_n 1, 1) := by decide +kernel
theorem dL_law_476 : decode cL_law 476 = .ok (.aload_n 3, 1) := by decide +kernel
theorem dL_law_477 : decode cL_law 477 = .ok (.iload 10, 2) := by decide +kernel
theorem dL_law_479 : decode cL_law 479 = .ok (.iaload, 1) := by decide +kernel
theorem dL_law_480 : decode cL_law 480 = .ok (.aload_n 3, 1) := by decide +kernel
theorem dL_law_481 : decode cL_law 481 = .ok (.iload 10, 2) := by decide +kernel
theorem dL_law_483 : decode cL_law 483 = .ok (.iconst 1, 1) := by decide +kernel
theorem dL_law_484 : decode cL_law 484 = .ok (.iadd, 1) := by decide +kernel
theorem dL_law_485 : decode cL_law 485 = .ok (.iaload, 1) := by decide +kernel
theorem dL_law_486 : decode cL_law 486 = .ok (.aload_n 3, 1) := by decide +kernel
theorem dL_law_487 : decode cL_law 487 = .ok (.iload 10, 2) := by decide +kernel
theorem dL_law_489 : decode cL_law 489 = .ok (.iconst 2, 1) := by decide +kernel
theorem dL_law_490 : decode cL_law 490 = .ok (.iadd, 1) := by decide +kernel
theorem dL_law_491 : decode cL_law 491 = .ok (.iaload, 1) := by decide +kernel
theorem dL_law_492 : decode cL_law 492 = .ok (.aload_n 3, 1) := by decide +kernel
theorem dL_law_493 : decode cL_law 493 = .ok (.iload 10, 2) := by decide +kernel
theorem dL_law_495 : decode cL_law 495 = .ok (.iconst 3, 1) := by decide +kernel
theorem dL_law_496 : decode cL_law 496 = .ok (.iadd, 1) := by decide +kernel
theorem dL_law_497 : decode cL_law 497 = .ok (.iaload, 1) := by decide +kernel
theorem dL_law_498 : decode cL_law 498 = .ok (.aload_n 3, 1) := by decide +kernel
theorem dL_law_499 : decode cL_law 499 = .ok (.iload 10, 2) := by decide +kernel
theorem dL_law_501 : decode cL_law 501 = .ok (.iconst 4, 1) := by decide +kernel
theorem dL_law_502 : decode cL_law 502 = .ok (.iadd, 1) := by decide +kernel
theorem dL_law_503 : decode cL_law 503 = .ok (.iaload, 1) := by decide +kernel
theorem dL_law_504 : decode cL_law 504 = .ok (.invokevirtual 89, 3) := by decide +kernel
theorem dL_law_507 : decode cL_law 507 = .ok (.aload_n 1, 1) := by decide +kernel
theorem dL_law_508 : decode cL_law 508 = .ok (.aload_n 3, 1) := by decide +kernel
theorem dL_law_509 : decode cL_law 509 = .ok (.iload 10, 2) := by decide +kernel
theorem dL_law_511 : decode cL_law 511 = .ok (.iconst 5, 1) := by decide +kernel
theorem dL_law_512 : decode cL_law 512 = .ok (.iadd, 1) := by decide +kernel
theorem dL_law_513 : decode cL_law 513 = .ok (.iaload, 1) := by decide +kernel
theorem dL_law_514 : decode cL_law 514 = .ok (.aload_n 3, 1) := by decide +kernel
theorem dL_law_515 : decode cL_law 515 = .ok (.iload 10, 2) := by decide +kernel
theorem dL_law_517 : decode cL_law 517 = .ok (.bipush 6, 2) := by decide +kernel
theorem dL_law_519 : decode cL_law 519 = .ok (.iadd, 1) := by decide +kernel
theorem dL_law_520 : decode cL_law 520 = .ok (.iaload, 1) := by decide +kernel
theorem dL_law_521 : decode cL_law 521 = .ok (.aload_n 3, 1) := by decide +kernel
theorem dL_law_522 : decode cL_law 522 = .ok (.iload 10, 2) := by decide +kernel
theorem dL_law_524 : decode cL_law 524 = .ok (.bipush 7, 2) := by decide +kernel
theorem dL_law_526 : decode cL_law 526 = .ok (.iadd, 1) := by decide +kernel
theorem dL_law_527 : decode cL_law 527 = .ok (.iaload, 1) := by decide +kernel
theorem dL_law_528 : decode cL_law 528 = .ok (.aload_n 3, 1) := by decide +kernel
theorem dL_law_529 : decode cL_law 529 = .ok (.iload 10, 2) := by decide +kernel
theorem dL_law_531 : decode cL_law 531 = .ok (.bipush 8, 2) := by decide +kernel
theorem dL_law_533 : decode cL_law 533 = .ok (.iadd, 1) := by decide +kernel
theorem dL_law_534 : decode cL_law 534 = .ok (.iaload, 1) := by decide +kernel
theorem dL_law_535 : decode cL_law 535 = .ok (.invokevirtual 93, 3) := by decide +kernel
theorem dL_law_538 : decode cL_law 538 = .ok (.iload 5, 2) := by decide +kernel
theorem dL_law_540 : decode cL_law 540 = .ok (.if_icmp .eq 5, 3) := by decide +kernel
theorem dL_law_543 : decode cL_law 543 = .ok (.iconst 0, 1) := by decide +kernel
theorem dL_law_544 : decode cL_law 544 = .ok (.ireturn, 1) := by decide +kernel
theorem dL_law_545 : decode cL_law 545 = .ok (.iinc 5 1, 3) := by decide +kernel
theorem dL_law_548 : decode cL_law 548 = .ok (.goto 56, 3) := by decide +kernel
theorem dL_law_551 : decode cL_law 551 = .ok (.iload 8, 2) := by decide +kernel
theorem dL_law_553 : decode cL_law 553 = .ok (.iconst 4, 1) := by decide +kernel
theorem dL_law_554 : decode cL_law 554 = .ok (.invokestatic 70, 3) := by decide +kernel
theorem dL_law_557 : decode cL_law 557 = .ok (.istore 10, 2) := by decide +kernel
theorem dL_law_559 : decode cL_law 559 = .ok (.iload 8, 2) := by decide +kernel
theorem dL_law_561 : decode cL_law 561 = .ok (.iconst 2, 1) := by decide +kernel
theorem dL_law_562 : decode cL_law 562 = .ok (.ishr, 1) := by decide +kernel
theorem dL_law_563 : decode cL_law 563 = .ok (.bipush 21, 2) := by decide +kernel
theorem dL_law_565 : decode cL_law 565 = .ok (.invokestatic 70, 3) := by decide +kernel
theorem dL_law_568 : decode cL_law 568 = .ok (.bipush 10, 2) := by decide +kernel
theorem dL_law_570 : decode cL_law 570 = .ok (.isub, 1) := by decide +kernel
theorem dL_law_571 : decode cL_law 571 = .ok (.istore 11, 2) := by decide +kernel
theorem dL_law_573 : decode cL_law 573 = .ok (.aload_n 1, 1) := by decide +kernel
theorem dL_law_574 : decode cL_law 574 = .ok (.iload 10, 2) := by decide +kernel
theorem dL_law_576 : decode cL_law 576 = .ok (.iload 11, 2) := by decide +kernel
theorem dL_law_578 : decode cL_law 578 = .ok (.invokevirtual 97, 3) := by decide +kernel
theorem dL_law_581 : decode cL_law 581 = .ok (.aload_n 2, 1) := by decide +kernel
theorem dL_law_582 : decode cL_law 582 = .ok (.iconst 3, 1) := by decide +kernel
theorem dL_law_583 : decode cL_law 583 = .ok (.iload 10, 2) := by decide +kernel
theorem dL_law_585 : decode cL_law 585 = .ok (.imul, 1) := by decide +kernel
theorem dL_law_586 : decode cL_law 586 = .ok (.iconst 2, 1) := by decide +kernel
theorem dL_law_587 : decode cL_law 587 = .ok (.iadd, 1) := by decide +kernel
theorem dL_law_588 : decode cL_law 588 = .ok (.iaload, 1) := by decide +kernel
theorem dL_law_589 : decode cL_law 589 = .ok (.if_icmp .eq 5, 3) := by decide +kernel
theorem dL_law_592 : decode cL_law 592 = .ok (.iconst 0, 1) := by decide +kernel
theorem dL_law_593 : decode cL_law 593 = .ok (.ireturn, 1) := by decide +kernel
theorem dL_law_594 : decode cL_law 594 = .ok (.aload_n 2, 1) := by decide +kernel
theorem dL_law_595 : decode cL_law 595 = .ok (.iconst 3, 1) := by decide +kernel
theorem dL_law_596 : decode cL_law 596 = .ok (.iload 10, 2) := by decide +kernel
theorem dL_law_598 : decode cL_law 598 = .ok (.imul, 1) := by decide +kernel
theorem dL_law_599 : decode cL_law 599 = .ok (.iconst 2, 1) := by decide +kernel
theorem dL_law_600 : decode cL_law 600 = .ok (.iadd, 1) := by decide +kernel
theorem dL_law_601 : decode cL_law 601 = .ok (.iload 11, 2) := by decide +kernel
theorem dL_law_603 : decode cL_law 603 = .ok (.iastore, 1) := by decide +kernel
theorem dL_law_604 : decode cL_law 604 = .ok (.iload 9, 2) := by decide +kernel
theorem dL_law_606 : decode cL_law 606 = .ok (.iconst 3, 1) := by decide +kernel
theorem dL_law_607 : decode cL_law 607 = .ok (.invokestatic 70, 3) := by decide +kernel
theorem dL_law_610 : decode cL_law 610 = .ok (.ifCond .ne 76, 3) := by decide +kernel
theorem dL_law_613 : decode cL_law 613 = .ok (.iload 9, 2) := by decide +kernel
theorem dL_law_615 : decode cL_law 615 = .ok (.iconst 2, 1) := by decide +kernel
theorem dL_law_616 : decode cL_law 616 = .ok (.ishr, 1) := by decide +kernel
theorem dL_law_617 : decode cL_law 617 = .ok (.iconst 2, 1) := by decide +kernel
theorem dL_law_618 : decode cL_law 618 = .ok (.invokestatic 70, 3) := by decide +kernel
theorem dL_law_621 : decode cL_law 621 = .ok (.istore 10, 2) := by decide +kernel
theorem dL_law_623 : decode cL_law 623 = .ok (.aload 4, 2) := by decide +kernel
theorem dL_law_625 : decode cL_law 625 = .ok (.iconst 2, 1) := by decide +kernel
theorem dL_law_626 : decode cL_law 626 = .ok (.iload 10, 2) := by decide +kernel
theorem dL_law_628 : decode cL_law 628 = .ok (.imul, 1) := by decide +kernel
theorem dL_law_629 : decode cL_law 629 = .ok (.iload 9, 2) := by decide +kernel
theorem dL_law_631 : decode cL_law 631 = .ok (.iconst 4, 1) := by decide +kernel
theorem dL_law_632 : decode cL_law 632 = .ok (.ishr, 1) := by decide +kernel
theorem dL_law_633 : decode cL_law 633 = .ok (.bipush 41, 2) := by decide +kernel
theorem dL_law_635 : decode cL_law 635 = .ok (.invokestatic 70, 3) := by decide +kernel
theorem dL_law_638 : decode cL_law 638 = .ok (.bipush 20, 2) := by decide +kernel
theorem dL_law_640 : decode cL_law 640 = .ok (.isub, 1) := by decide +kernel
theorem dL_law_641 : decode cL_law 641 = .ok (.iastore, 1) := by decide +kernel
theorem dL_law_642 : decode cL_law 642 = .ok (.aload 4, 2) := by decide +kernel
theorem dL_law_644 : decode cL_law 644 = .ok (.iconst 2, 1) := by decide +kernel
theorem dL_law_645 : decode cL_law 645 = .ok (.iload 10, 2) := by decide +kernel
theorem dL_law_647 : decode cL_law 647 = .ok (.imul, 1) := by decide +kernel
theorem dL_law_648 : decode cL_law 648 = .ok (.iconst 1, 1) := by decide +kernel
theorem dL_law_649 : decode cL_law 649 = .ok (.iadd, 1) := by decide +kernel
theorem dL_law_650 : decode cL_law 650 = .ok (.iload 9, 2) := by decide +kernel
theorem dL_law_652 : decode cL_law 652 = .ok (.bipush 10, 2) := by decide +kernel
theorem dL_law_654 : decode cL_law 654 = .ok (.ishr, 1) := by decide +kernel
theorem dL_law_655 : decode cL_law 655 = .ok (.bipush 41, 2) := by decide +kernel
theorem dL_law_657 : decode cL_law 657 = .ok (.invokestatic 70, 3) := by decide +kernel
theorem dL_law_660 : decode cL_law 660 = .ok (.bipush 20, 2) := by decide +kernel
theorem dL_law_662 : decode cL_law 662 = .ok (.isub, 1) := by decide +kernel
theorem dL_law_663 : decode cL_law 663 = .ok (.iastore, 1) := by decide +kernel
theorem dL_law_664 : decode cL_law 664 = .ok (.aload_n 1, 1) := by decide +kernel
theorem dL_law_665 : decode cL_law 665 = .ok (.iload 10, 2) := by decide +kernel
theorem dL_law_667 : decode cL_law 667 = .ok (.aload 4, 2) := by decide +kernel
theorem dL_law_669 : decode cL_law 669 = .ok (.iconst 2, 1) := by decide +kernel
theorem dL_law_670 : decode cL_law 670 = .ok (.iload 10, 2) := by decide +kernel
theorem dL_law_672 : decode cL_law 672 = .ok (.imul, 1) := by decide +kernel
theorem dL_law_673 : decode cL_law 673 = .ok (.iaload, 1) := by decide +kernel
theorem dL_law_674 : decode cL_law 674 = .ok (.aload 4, 2) := by decide +kernel
theorem dL_law_676 : decode cL_law 676 = .ok (.iconst 2, 1) := by decide +kernel
theorem dL_law_677 : decode cL_law 677 = .ok (.iload 10, 2) := by decide +kernel
theorem dL_law_679 : decode cL_law 679 = .ok (.imul, 1) := by decide +kernel
theorem dL_law_680 : decode cL_law 680 = .ok (.iconst 1, 1) := by decide +kernel
theorem dL_law_681 : decode cL_law 681 = .ok (.iadd, 1) := by decide +kernel
theorem dL_law_682 : decode cL_law 682 = .ok (.iaload, 1) := by decide +kernel
theorem dL_law_683 : decode cL_law 683 = .ok (.invokevirtual 100, 3) := by decide +kernel
theorem dL_law_686 : decode cL_law 686 = .ok (.aload_n 2, 1) := by decide +kernel
theorem dL_law_687 : decode cL_law 687 = .ok (.aload_n 3, 1) := by decide +kernel
theorem dL_law_688 : decode cL_law 688 = .ok (.iload 5, 2) := by decide +kernel
theorem dL_law_690 : decode cL_law 690 = .ok (.iload 9, 2) := by decide +kernel
theorem dL_law_692 : decode cL_law 692 = .ok (.iconst 3, 1) := by decide +kernel
theorem dL_law_693 : decode cL_law 693 = .ok (.ishr, 1) := by decide +kernel
theorem dL_law_694 : decode cL_law 694 = .ok (.iload 5, 2) := by decide +kernel
theorem dL_law_696 : decode cL_law 696 = .ok (.invokestatic 70, 3) := by decide +kernel
theorem dL_law_699 : decode cL_law 699 = .ok (.invokestatic 26, 3) := by decide +kernel
theorem dL_law_702 : decode cL_law 702 = .ok (.istore 10, 2) := by decide +kernel
theorem dL_law_704 : decode cL_law 704 = .ok (.iload 10, 2) := by decide +kernel
theorem dL_law_706 : decode cL_law 706 = .ok (.ifCond .lt 222, 3) := by decide +kernel
theorem dL_law_709 : decode cL_law 709 = .ok (.aload 4, 2) := by decide +kernel
theorem dL_law_711 : decode cL_law 711 = .ok (.bipush 10, 2) := by decide +kernel
theorem dL_law_713 : decode cL_law 713 = .ok (.iaload, 1) := by decide +kernel
theorem dL_law_714 : decode cL_law 714 = .ok (.bipush 6, 2) := by decide +kernel
theorem dL_law_716 : decode cL_law 716 = .ok (.if_icmp .ge 212, 3) := by decide +kernel
theorem dL_law_719 : decode cL_law 719 = .ok (.bipush 16, 2) := by decide +kernel
theorem dL_law_721 : decode cL_law 721 = .ok (.newarray .long, 2) := by decide +kernel
theorem dL_law_723 : decode cL_law 723 = .ok (.astore 11, 2) := by decide +kernel
theorem dL_law_725 : decode cL_law 725 = .ok (.aload_n 2, 1) := by decide +kernel
theorem dL_law_726 : decode cL_law 726 = .ok (.aload_n 3, 1) := by decide +kernel
theorem dL_law_727 : decode cL_law 727 = .ok (.iload 5, 2) := by decide +kernel
theorem dL_law_729 : decode cL_law 729 = .ok (.iload 10, 2) := by decide +kernel
theorem dL_law_731 : decode cL_law 731 = .ok (.aload 11, 2) := by decide +kernel
theorem dL_law_733 : decode cL_law 733 = .ok (.invokestatic 58, 3) := by decide +kernel
theorem dL_law_736 : decode cL_law 736 = .ok (.aload 11, 2) := by decide +kernel
theorem dL_law_738 : decode cL_law 738 = .ok (.iconst 3, 1) := by decide +kernel
theorem dL_law_739 : decode cL_law 739 = .ok (.laload, 1) := by decide +kernel
theorem dL_law_740 : decode cL_law 740 = .ok (.lconst 0, 1) := by decide +kernel
theorem dL_law_741 : decode cL_law 741 = .ok (.lcmp, 1) := by decide +kernel
theorem dL_law_742 : decode cL_law 742 = .ok (.ifCond .ge 7, 3) := by decide +kernel
theorem dL_law_745 : decode cL_law 745 = .ok (.lconst 0, 1) := by decide +kernel
theorem dL_law_746 : decode cL_law 746 = .ok (.goto 28, 3) := by decide +kernel
theorem dL_law_749 : decode cL_law 749 = .ok (.aload 11, 2) := by decide +kernel
theorem dL_law_751 : decode cL_law 751 = .ok (.iconst 3, 1) := by decide +kernel
theorem dL_law_752 : decode cL_law 752 = .ok (.laload, 1) := by decide +kernel
theorem dL_law_753 : decode cL_law 753 = .ok (.ldc2_w 66, 3) := by decide +kernel
theorem dL_law_756 : decode cL_law 756 = .ok (.lcmp, 1) := by decide +kernel
theorem dL_law_757 : decode cL_law 757 = .ok (.ifCond .le 9, 3) := by decide +kernel
theorem dL_law_760 : decode cL_law 760 = .ok (.ldc2_w 68, 3) := by decide +kernel
theorem dL_law_763 : decode cL_law 763 = .ok (.goto 11, 3) := by decide +kernel
theorem dL_law_766 : decode cL_law 766 = .ok (.aload 11, 2) := by decide +kernel
theorem dL_law_768 : decode cL_law 768 = .ok (.iconst 3, 1) := by decide +kernel
theorem dL_law_769 : decode cL_law 769 = .ok (.laload, 1) := by decide +kernel
theorem dL_law_770 : decode cL_law 770 = .ok (.ldc2_w 10, 3) := by decide +kernel
theorem dL_law_773 : decode cL_law 773 = .ok (.ldiv, 1) := by decide +kernel
theorem dL_law_774 : decode cL_law 774 = .ok (.l2i, 1) := by decide +kernel
theorem dL_law_775 : decode cL_law 775 = .ok (.istore 12, 2) := by decide +kernel
theorem dL_law_777 : decode cL_law 777 = .ok (.aload 11, 2) := by decide +kernel
theorem dL_law_779 : decode cL_law 779 = .ok (.iconst 4, 1) := by decide +kernel
theorem dL_law_780 : decode cL_law 780 = .ok (.laload, 1) := by decide +kernel
theorem dL_law_781 : decode cL_law 781 = .ok (.lconst 0, 1) := by decide +kernel
theorem dL_law_782 : decode cL_law 782 = .ok (.lcmp, 1) := by decide +kernel
theorem dL_law_783 : decode cL_law 783 = .ok (.ifCond .ge 7, 3) := by decide +kernel
theorem dL_law_786 : decode cL_law 786 = .ok (.lconst 0, 1) := by decide +kernel
theorem dL_law_787 : decode cL_law 787 = .ok (.goto 28, 3) := by decide +kernel
theorem dL_law_790 : decode cL_law 790 = .ok (.aload 11, 2) := by decide +kernel
theorem dL_law_792 : decode cL_law 792 = .ok (.iconst 4, 1) := by decide +kernel
theorem dL_law_793 : decode cL_law 793 = .ok (.laload, 1) := by decide +kernel
theorem dL_law_794 : decode cL_law 794 = .ok (.ldc2_w 66, 3) := by decide +kernel
theorem dL_law_797 : decode cL_law 797 = .ok (.lcmp, 1) := by decide +kernel
theorem dL_law_798 : decode cL_law 798 = .ok (.ifCond .le 9, 3) := by decide +kernel
theorem dL_law_801 : decode cL_law 801 = .ok (.ldc2_w 68, 3) := by decide +kernel
theorem dL_law_804 : decode cL_law 804 = .ok (.goto 11, 3) := by decide +kernel
theorem dL_law_807 : decode cL_law 807 = .ok (.aload 11, 2) := by decide +kernel
theorem dL_law_809 : decode cL_law 809 = .ok (.iconst 4, 1) := by decide +kernel
theorem dL_law_810 : decode cL_law 810 = .ok (.laload, 1) := by decide +kernel
theorem dL_law_811 : decode cL_law 811 = .ok (.ldc2_w 10, 3) := by decide +kernel
theorem dL_law_814 : decode cL_law 814 = .ok (.ldiv, 1) := by decide +kernel
theorem dL_law_815 : decode cL_law 815 = .ok (.l2i, 1) := by decide +kernel
theorem dL_law_816 : decode cL_law 816 = .ok (.istore 13, 2) := by decide +kernel
theorem dL_law_818 : decode cL_law 818 = .ok (.bipush 11, 2) := by decide +kernel
theorem dL_law_820 : decode cL_law 820 = .ok (.iconst 4, 1) := by decide +kernel
theorem dL_law_821 : decode cL_law 821 = .ok (.aload 4, 2) := by decide +kernel
theorem dL_law_823 : decode cL_law 823 = .ok (.bipush 10, 2) := by decide +kernel
theorem dL_law_825 : decode cL_law 825 = .ok (.iaload, 1) := by decide +kernel
theorem dL_law_826 : decode cL_law 826 = .ok (.imul, 1) := by decide +kernel
theorem dL_law_827 : decode cL_law 827 = .ok (.iadd, 1) := by decide +kernel
theorem dL_law_828 : decode cL_law 828 = .ok (.istore 14, 2) := by decide +kernel
theorem dL_law_830 : decode cL_law 830 = .ok (.aload 4, 2) := by decide +kernel
theorem dL_law_832 : decode cL_law 832 = .ok (.iload 14, 2) := by decide +kernel
theorem dL_law_834 : decode cL_law 834 = .ok (.iload 10, 2) := by decide +kernel
theorem dL_law_836 : decode cL_law 836 = .ok (.iastore, 1) := by decide +kernel
theorem dL_law_837 : decode cL_law 837 = .ok (.aload 4, 2) := by decide +kernel
theorem dL_law_839 : decode cL_law 839 = .ok (.iload 14, 2) := by decide +kernel
theorem dL_law_841 : decode cL_law 841 = .ok (.iconst 1, 1) := by decide +kernel
theorem dL_law_842 : decode cL_law 842 = .ok (.iadd, 1) := by decide +kernel
theorem dL_law_843 : decode cL_law 843 = .ok (.iload 12, 2) := by decide +kernel
theorem dL_law_845 : decode cL_law 845 = .ok (.iastore, 1) := by decide +kernel
theorem dL_law_846 : decode cL_law 846 = .ok (.aload 4, 2) := by decide +kernel
theorem dL_law_848 : decode cL_law 848 = .ok (.iload 14, 2) := by decide +kernel
theorem dL_law_850 : decode cL_law 850 = .ok (.iconst 2, 1) := by decide +kernel
theorem dL_law_851 : decode cL_law 851 = .ok (.iadd, 1) := by decide +kernel
theorem dL_law_852 : decode cL_law 852 = .ok (.iload 13, 2) := by decide +kernel
theorem dL_law_854 : decode cL_law 854 = .ok (.iastore, 1) := by decide +kernel
theorem dL_law_855 : decode cL_law 855 = .ok (.aload 4, 2) := by decide +kernel
theorem dL_law_857 : decode cL_law 857 = .ok (.iload 14, 2) := by decide +kernel
theorem dL_law_859 : decode cL_law 859 = .ok (.iconst 3, 1) := by decide +kernel
theorem dL_law_860 : decode cL_law 860 = .ok (.iadd, 1) := by decide +kernel
theorem dL_law_861 : decode cL_law 861 = .ok (.iconst 1, 1) := by decide +kernel
theorem dL_law_862 : decode cL_law 862 = .ok (.iload 8, 2) := by decide +kernel
theorem dL_law_864 : decode cL_law 864 = .ok (.bipush 20, 2) := by decide +kernel
theorem dL_law_866 : decode cL_law 866 = .ok (.ishr, 1) := by decide +kernel
theorem dL_law_867 : decode cL_law 867 = .ok (.bipush 100, 2) := by decide +kernel
theorem dL_law_869 : decode cL_law 869 = .ok (.invokestatic 70, 3) := by decide +kernel
theorem dL_law_872 : decode cL_law 872 = .ok (.iadd, 1) := by decide +kernel
theorem dL_law_873 : decode cL_law 873 = .ok (.iastore, 1) := by decide +kernel
theorem dL_law_874 : decode cL_law 874 = .ok (.aload 4, 2) := by decide +kernel
theorem dL_law_876 : decode cL_law 876 = .ok (.bipush 10, 2) := by decide +kernel
theorem dL_law_878 : decode cL_law 878 = .ok (.dup2, 1) := by decide +kernel
theorem dL_law_879 : decode cL_law 879 = .ok (.iaload, 1) := by decide +kernel
theorem dL_law_880 : decode cL_law 880 = .ok (.iconst 1, 1) := by decide +kernel
theorem dL_law_881 : decode cL_law 881 = .ok (.iadd, 1) := by decide +kernel
theorem dL_law_882 : decode cL_law 882 = .ok (.iastore, 1) := by decide +kernel
theorem dL_law_883 : decode cL_law 883 = .ok (.aload_n 1, 1) := by decide +kernel
theorem dL_law_884 : decode cL_law 884 = .ok (.iload 10, 2) := by decide +kernel
theorem dL_law_886 : decode cL_law 886 = .ok (.iload 12, 2) := by decide +kernel
theorem dL_law_888 : decode cL_law 888 = .ok (.iload 13, 2) := by decide +kernel
theorem dL_law_890 : decode cL_law 890 = .ok (.aload 4, 2) := by decide +kernel
theorem dL_law_892 : decode cL_law 892 = .ok (.iload 14, 2) := by decide +kernel
theorem dL_law_894 : decode cL_law 894 = .ok (.iconst 3, 1) := by decide +kernel
theorem dL_law_895 : decode cL_law 895 = .ok (.iadd, 1) := by decide +kernel
theorem dL_law_896 : decode cL_law 896 = .ok (.iaload, 1) := by decide +kernel
theorem dL_law_897 : decode cL_law 897 = .ok (.invokevirtual 104, 3) := by decide +kernel
theorem dL_law_900 : decode cL_law 900 = .ok (.aload 4, 2) := by decide +kernel
theorem dL_law_902 : decode cL_law 902 = .ok (.aload 11, 2) := by decide +kernel
theorem dL_law_904 : decode cL_law 904 = .ok (.aload_n 3, 1) := by decide +kernel
theorem dL_law_905 : decode cL_law 905 = .ok (.bipush 9, 2) := by decide +kernel
theorem dL_law_907 : decode cL_law 907 = .ok (.iload 10, 2) := by decide +kernel
theorem dL_law_909 : decode cL_law 909 = .ok (.imul, 1) := by decide +kernel
theorem dL_law_910 : decode cL_law 910 = .ok (.iconst 1, 1) := by decide +kernel
theorem dL_law_911 : decode cL_law 911 = .ok (.iadd, 1) := by decide +kernel
theorem dL_law_912 : decode cL_law 912 = .ok (.iaload, 1) := by decide +kernel
theorem dL_law_913 : decode cL_law 913 = .ok (.iload 10, 2) := by decide +kernel
theorem dL_law_915 : decode cL_law 915 = .ok (.iload 12, 2) := by decide +kernel
theorem dL_law_917 : decode cL_law 917 = .ok (.iload 13, 2) := by decide +kernel
theorem dL_law_919 : decode cL_law 919 = .ok (.invokestatic 78, 3) := by decide +kernel
theorem dL_law_922 : decode cL_law 922 = .ok (.lcmp, 1) := by decide +kernel
theorem dL_law_923 : decode cL_law 923 = .ok (.ifCond .eq 5, 3) := by decide +kernel
theorem dL_law_926 : decode cL_law 926 = .ok (.iconst 0, 1) := by decide +kernel
theorem dL_law_927 : decode cL_law 927 = .ok (.ireturn, 1) := by decide +kernel
theorem dL_law_928 : decode cL_law 928 = .ok (.iload 7, 2) := by decide +kernel
theorem dL_law_930 : decode cL_law 930 = .ok (.iconst 2, 1) := by decide +kernel
theorem dL_law_931 : decode cL_law 931 = .ok (.irem, 1) := by decide +kernel
theorem dL_law_932 : decode cL_law 932 = .ok (.ifCond .ne 22, 3) := by decide +kernel
theorem dL_law_935 : decode cL_law 935 = .ok (.aload_n 1, 1) := by decide +kernel
theorem dL_law_936 : decode cL_law 936 = .ok (.aload_n 2, 1) := by decide +kernel
theorem dL_law_937 : decode cL_law 937 = .ok (.aload_n 3, 1) := by decide +kernel
theorem dL_law_938 : decode cL_law 938 = .ok (.aload 4, 2) := by decide +kernel
theorem dL_law_940 : decode cL_law 940 = .ok (.iload 5, 2) := by decide +kernel
theorem dL_law_942 : decode cL_law 942 = .ok (.iload 9, 2) := by decide +kernel
theorem dL_law_944 : decode cL_law 944 = .ok (.iconst 5, 1) := by decide +kernel
theorem dL_law_945 : decode cL_law 945 = .ok (.ishr, 1) := by decide +kernel
theorem dL_law_946 : decode cL_law 946 = .ok (.invokestatic 108, 3) := by decide +kernel
theorem dL_law_949 : decode cL_law 949 = .ok (.ifCond .ne 5, 3) := by decide +kernel
theorem dL_law_952 : decode cL_law 952 = .ok (.iconst 0, 1) := by decide +kernel
theorem dL_law_953 : decode cL_law 953 = .ok (.ireturn, 1) := by decide +kernel
theorem dL_law_954 : decode cL_law 954 = .ok (.iinc 7 1, 3) := by decide +kernel
theorem dL_law_957 : decode cL_law 957 = .ok (.goto (-817), 3) := by decide +kernel
theorem dL_law_960 : decode cL_law 960 = .ok (.aload_n 0, 1) := by decide +kernel
theorem dL_law_961 : decode cL_law 961 = .ok (.iload 6, 2) := by decide +kernel
theorem dL_law_963 : decode cL_law 963 = .ok (.invokestatic 81, 3) := by decide +kernel
theorem dL_law_966 : decode cL_law 966 = .ok (.bipush 100, 2) := by decide +kernel
theorem dL_law_968 : decode cL_law 968 = .ok (.invokestatic 70, 3) := by decide +kernel
theorem dL_law_971 : decode cL_law 971 = .ok (.istore 7, 2) := by decide +kernel
theorem dL_law_973 : decode cL_law 973 = .ok (.aload_n 0, 1) := by decide +kernel
theorem dL_law_974 : decode cL_law 974 = .ok (.iload 6, 2) := by decide +kernel
theorem dL_law_976 : decode cL_law 976 = .ok (.iconst 1, 1) := by decide +kernel
theorem dL_law_977 : decode cL_law 977 = .ok (.iadd, 1) := by decide +kernel
theorem dL_law_978 : decode cL_law 978 = .ok (.invokestatic 81, 3) := by decide +kernel
theorem dL_law_981 : decode cL_law 981 = .ok (.bipush 100, 2) := by decide +kernel
theorem dL_law_983 : decode cL_law 983 = .ok (.invokestatic 70, 3) := by decide +kernel
theorem dL_law_986 : decode cL_law 986 = .ok (.istore 8, 2) := by decide +kernel
theorem dL_law_988 : decode cL_law 988 = .ok (.aload_n 0, 1) := by decide +kernel
theorem dL_law_989 : decode cL_law 989 = .ok (.iload 6, 2) := by decide +kernel
theorem dL_law_991 : decode cL_law 991 = .ok (.iconst 2, 1) := by decide +kernel
theorem dL_law_992 : decode cL_law 992 = .ok (.iadd, 1) := by decide +kernel
theorem dL_law_993 : decode cL_law 993 = .ok (.invokestatic 81, 3) := by decide +kernel
theorem dL_law_996 : decode cL_law 996 = .ok (.iconst 2, 1) := by decide +kernel
theorem dL_law_997 : decode cL_law 997 = .ok (.invokestatic 70, 3) := by decide +kernel
theorem dL_law_1000 : decode cL_law 1000 = .ok (.istore 9, 2) := by decide +kernel
theorem dL_law_1002 : decode cL_law 1002 = .ok (.iconst (-1), 1) := by decide +kernel
theorem dL_law_1003 : decode cL_law 1003 = .ok (.istore 10, 2) := by decide +kernel
theorem dL_law_1005 : decode cL_law 1005 = .ok (.lconst 0, 1) := by decide +kernel
theorem dL_law_1006 : decode cL_law 1006 = .ok (.lstore 11, 2) := by decide +kernel
theorem dL_law_1008 : decode cL_law 1008 = .ok (.bipush 16, 2) := by decide +kernel
theorem dL_law_1010 : decode cL_law 1010 = .ok (.newarray .long, 2) := by decide +kernel
theorem dL_law_1012 : decode cL_law 1012 = .ok (.astore 13, 2) := by decide +kernel
theorem dL_law_1014 : decode cL_law 1014 = .ok (.iconst 0, 1) := by decide +kernel
theorem dL_law_1015 : decode cL_law 1015 = .ok (.istore 14, 2) := by decide +kernel
theorem dL_law_1017 : decode cL_law 1017 = .ok (.iload 14, 2) := by decide +kernel
theorem dL_law_1019 : decode cL_law 1019 = .ok (.iload 5, 2) := by decide +kernel
theorem dL_law_1021 : decode cL_law 1021 = .ok (.if_icmp .ge 91, 3) := by decide +kernel
theorem dL_law_1024 : decode cL_law 1024 = .ok (.aload_n 2, 1) := by decide +kernel
theorem dL_law_1025 : decode cL_law 1025 = .ok (.aload_n 3, 1) := by decide +kernel
theorem dL_law_1026 : decode cL_law 1026 = .ok (.iload 5, 2) := by decide +kernel
theorem dL_law_1028 : decode cL_law 1028 = .ok (.iload 14, 2) := by decide +kernel
theorem dL_law_1030 : decode cL_law 1030 = .ok (.invokestatic 26, 3) := by decide +kernel
theorem dL_law_1033 : decode cL_law 1033 = .ok (.iload 14, 2) := by decide +kernel
theorem dL_law_1035 : decode cL_law 1035 = .ok (.if_icmp .ne 71, 3) := by decide +kernel
theorem dL_law_1038 : decode cL_law 1038 = .ok (.aload_n 3, 1) := by decide +kernel
theorem dL_law_1039 : decode cL_law 1039 = .ok (.bipush 9, 2) := by decide +kernel
theorem dL_law_1041 : decode cL_law 1041 = .ok (.iload 14, 2) := by decide +kernel
theorem dL_law_1043 : decode cL_law 1043 = .ok (.imul, 1) := by decide +kernel
theorem dL_law_1044 : decode cL_law 1044 = .ok (.iconst 1, 1) := by decide +kernel
theorem dL_law_1045 : decode cL_law 1045 = .ok (.iadd, 1) := by decide +kernel
theorem dL_law_1046 : decode cL_law 1046 = .ok (.iaload, 1) := by decide +kernel
theorem dL_law_1047 : decode cL_law 1047 = .ok (.iload 9, 2) := by decide +kernel
theorem dL_law_1049 : decode cL_law 1049 = .ok (.if_icmp .le 6, 3) := by decide +kernel
theorem dL_law_1052 : decode cL_law 1052 = .ok (.goto 54, 3) := by decide +kernel
theorem dL_law_1055 : decode cL_law 1055 = .ok (.aload_n 2, 1) := by decide +kernel
theorem dL_law_1056 : decode cL_law 1056 = .ok (.aload_n 3, 1) := by decide +kernel
theorem dL_law_1057 : decode cL_law 1057 = .ok (.iload 5, 2) := by decide +kernel
theorem dL_law_1059 : decode cL_law 1059 = .ok (.iload 14, 2) := by decide +kernel
theorem dL_law_1061 : decode cL_law 1061 = .ok (.aload 13, 2) := by decide +kernel
theorem dL_law_1063 : decode cL_law 1063 = .ok (.invokestatic 58, 3) := by decide +kernel
theorem dL_law_1066 : decode cL_law 1066 = .ok (.aload 4, 2) := by decide +kernel
theorem dL_law_1068 : decode cL_law 1068 = .ok (.aload 13, 2) := by decide +kernel
theorem dL_law_1070 : decode cL_law 1070 = .ok (.aload_n 3, 1) := by decide +kernel
theorem dL_law_1071 : decode cL_law 1071 = .ok (.bipush 9, 2) := by decide +kernel
theorem dL_law_1073 : decode cL_law 1073 = .ok (.iload 14, 2) := by decide +kernel
theorem dL_law_1075 : decode cL_law 1075 = .ok (.imul, 1) := by decide +kernel
theorem dL_law_1076 : decode cL_law 1076 = .ok (.iconst 1, 1) := by decide +kernel
theorem dL_law_1077 : decode cL_law 1077 = .ok (.iadd, 1) := by decide +kernel
theorem dL_law_1078 : decode cL_law 1078 = .ok (.iaload, 1) := by decide +kernel
theorem dL_law_1079 : decode cL_law 1079 = .ok (.iload 14, 2) := by decide +kernel
theorem dL_law_1081 : decode cL_law 1081 = .ok (.iload 7, 2) := by decide +kernel
theorem dL_law_1083 : decode cL_law 1083 = .ok (.iload 8, 2) := by decide +kernel
theorem dL_law_1085 : decode cL_law 1085 = .ok (.invokestatic 78, 3) := by decide +kernel
theorem dL_law_1088 : decode cL_law 1088 = .ok (.lstore 15, 2) := by decide +kernel
theorem dL_law_1090 : decode cL_law 1090 = .ok (.lload 15, 2) := by decide +kernel
theorem dL_law_1092 : decode cL_law 1092 = .ok (.lload 11, 2) := by decide +kernel
theorem dL_law_1094 : decode cL_law 1094 = .ok (.lcmp, 1) := by decide +kernel
theorem dL_law_1095 : decode cL_law 1095 = .ok (.ifCond .le 11, 3) := by decide +kernel
theorem dL_law_1098 : decode cL_law 1098 = .ok (.lload 15, 2) := by decide +kernel
theorem dL_law_1100 : decode cL_law 1100 = .ok (.lstore 11, 2) := by decide +kernel
theorem dL_law_1102 : decode cL_law 1102 = .ok (.iload 14, 2) := by decide +kernel
theorem dL_law_1104 : decode cL_law 1104 = .ok (.istore 10, 2) := by decide +kernel
theorem dL_law_1106 : decode cL_law 1106 = .ok (.iinc 14 1, 3) := by decide +kernel
theorem dL_law_1109 : decode cL_law 1109 = .ok (.goto (-92), 3) := by decide +kernel
theorem dL_law_1112 : decode cL_law 1112 = .ok (.aload_n 1, 1) := by decide +kernel
theorem dL_law_1113 : decode cL_law 1113 = .ok (.iload 7, 2) := by decide +kernel
theorem dL_law_1115 : decode cL_law 1115 = .ok (.iload 8, 2) := by decide +kernel
theorem dL_law_1117 : decode cL_law 1117 = .ok (.iload 9, 2) := by decide +kernel
theorem dL_law_1119 : decode cL_law 1119 = .ok (.bipush 100, 2) := by decide +kernel
theorem dL_law_1121 : decode cL_law 1121 = .ok (.iconst 1, 1) := by decide +kernel
theorem dL_law_1122 : decode cL_law 1122 = .ok (.invokevirtual 112, 3) := by decide +kernel
theorem dL_law_1125 : decode cL_law 1125 = .ok (.ifCond .ne 17, 3) := by decide +kernel
theorem dL_law_1128 : decode cL_law 1128 = .ok (.aload_n 1, 1) := by decide +kernel
theorem dL_law_1129 : decode cL_law 1129 = .ok (.iconst 0, 1) := by decide +kernel
theorem dL_law_1130 : decode cL_law 1130 = .ok (.invokevirtual 116, 3) := by decide +kernel
theorem dL_law_1133 : decode cL_law 1133 = .ok (.iload 10, 2) := by decide +kernel
theorem dL_law_1135 : decode cL_law 1135 = .ok (.if_icmp .ne 7, 3) := by decide +kernel
theorem dL_law_1138 : decode cL_law 1138 = .ok (.iconst 1, 1) := by decide +kernel
theorem dL_law_1139 : decode cL_law 1139 = .ok (.goto 4, 3) := by decide +kernel
theorem dL_law_1142 : decode cL_law 1142 = .ok (.iconst 0, 1) := by decide +kernel
theorem dL_law_1143 : decode cL_law 1143 = .ok (.ireturn, 1) := by decide +kernel
