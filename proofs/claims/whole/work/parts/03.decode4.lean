theorem dX12_order_60 : decode cX12_order 60 = .ok (.invokevirtual 144, 3) := by decide +kernel
theorem dX12_order_63 : decode cX12_order 63 = .ok (.ifCond .eq 15, 3) := by decide +kernel
theorem dX12_order_66 : decode cX12_order 66 = .ok (.iload_n 1, 1) := by decide +kernel
theorem dX12_order_67 : decode cX12_order 67 = .ok (.iload_n 3, 1) := by decide +kernel
theorem dX12_order_68 : decode cX12_order 68 = .ok (.invokestatic 425, 3) := by decide +kernel
theorem dX12_order_71 : decode cX12_order 71 = .ok (.ifCond .ne 7, 3) := by decide +kernel
theorem dX12_order_74 : decode cX12_order 74 = .ok (.iconst 1, 1) := by decide +kernel
theorem dX12_order_75 : decode cX12_order 75 = .ok (.goto 4, 3) := by decide +kernel
theorem dX12_order_78 : decode cX12_order 78 = .ok (.iconst 0, 1) := by decide +kernel
theorem dX12_order_79 : decode cX12_order 79 = .ok (.istore_n 2, 1) := by decide +kernel
theorem dX12_order_80 : decode cX12_order 80 = .ok (.iload_n 2, 1) := by decide +kernel
theorem dX12_order_81 : decode cX12_order 81 = .ok (.ifCond .eq 39, 3) := by decide +kernel
theorem dX12_order_84 : decode cX12_order 84 = .ok (.iload_n 1, 1) := by decide +kernel
theorem dX12_order_85 : decode cX12_order 85 = .ok (.iconst 1, 1) := by decide +kernel
theorem dX12_order_86 : decode cX12_order 86 = .ok (.iload_n 3, 1) := by decide +kernel
theorem dX12_order_87 : decode cX12_order 87 = .ok (.ishl, 1) := by decide +kernel
theorem dX12_order_88 : decode cX12_order 88 = .ok (.ior, 1) := by decide +kernel
theorem dX12_order_89 : decode cX12_order 89 = .ok (.istore_n 1, 1) := by decide +kernel
theorem dX12_order_90 : decode cX12_order 90 = .ok (.aload_n 0, 1) := by decide +kernel
theorem dX12_order_91 : decode cX12_order 91 = .ok (.getfield 87, 3) := by decide +kernel
theorem dX12_order_94 : decode cX12_order 94 = .ok (.aload_n 0, 1) := by decide +kernel
theorem dX12_order_95 : decode cX12_order 95 = .ok (.getfield 419, 3) := by decide +kernel
theorem dX12_order_98 : decode cX12_order 98 = .ok (.iload_n 3, 1) := by decide +kernel
theorem dX12_order_99 : decode cX12_order 99 = .ok (.iastore, 1) := by decide +kernel
theorem dX12_order_100 : decode cX12_order 100 = .ok (.aload_n 0, 1) := by decide +kernel
theorem dX12_order_101 : decode cX12_order 101 = .ok (.dup, 1) := by decide +kernel
theorem dX12_order_102 : decode cX12_order 102 = .ok (.getfield 419, 3) := by decide +kernel
theorem dX12_order_105 : decode cX12_order 105 = .ok (.iconst 1, 1) := by decide +kernel
theorem dX12_order_106 : decode cX12_order 106 = .ok (.iadd, 1) := by decide +kernel
theorem dX12_order_107 : decode cX12_order 107 = .ok (.putfield 419, 3) := by decide +kernel
theorem dX12_order_110 : decode cX12_order 110 = .ok (.aload_n 0, 1) := by decide +kernel
theorem dX12_order_111 : decode cX12_order 111 = .ok (.dup, 1) := by decide +kernel
theorem dX12_order_112 : decode cX12_order 112 = .ok (.getfield 151, 3) := by decide +kernel
theorem dX12_order_115 : decode cX12_order 115 = .ok (.iconst 1, 1) := by decide +kernel
theorem dX12_order_116 : decode cX12_order 116 = .ok (.iadd, 1) := by decide +kernel
theorem dX12_order_117 : decode cX12_order 117 = .ok (.putfield 151, 3) := by decide +kernel
theorem dX12_order_120 : decode cX12_order 120 = .ok (.goto (-99), 3) := by decide +kernel
theorem dX12_order_123 : decode cX12_order 123 = .ok (.aload_n 0, 1) := by decide +kernel
theorem dX12_order_124 : decode cX12_order 124 = .ok (.getfield 419, 3) := by decide +kernel
theorem dX12_order_127 : decode cX12_order 127 = .ok (.ifCond .eq 14, 3) := by decide +kernel
theorem dX12_order_130 : decode cX12_order 130 = .ok (.aload_n 0, 1) := by decide +kernel
theorem dX12_order_131 : decode cX12_order 131 = .ok (.getfield 151, 3) := by decide +kernel
theorem dX12_order_134 : decode cX12_order 134 = .ok (.aload_n 0, 1) := by decide +kernel
theorem dX12_order_135 : decode cX12_order 135 = .ok (.getfield 163, 3) := by decide +kernel
theorem dX12_order_138 : decode cX12_order 138 = .ok (.if_icmp .ge 10, 3) := by decide +kernel
theorem dX12_order_141 : decode cX12_order 141 = .ok (.iconst (-1), 1) := by decide +kernel
theorem dX12_order_142 : decode cX12_order 142 = .ok (.aload_n 0, 1) := by decide +kernel
theorem dX12_order_143 : decode cX12_order 143 = .ok (.getfield 151, 3) := by decide +kernel
theorem dX12_order_146 : decode cX12_order 146 = .ok (.isub, 1) := by decide +kernel
theorem dX12_order_147 : decode cX12_order 147 = .ok (.ireturn, 1) := by decide +kernel
theorem dX12_order_148 : decode cX12_order 148 = .ok (.aload_n 0, 1) := by decide +kernel
theorem dX12_order_149 : decode cX12_order 149 = .ok (.getfield 42, 3) := by decide +kernel
theorem dX12_order_152 : decode cX12_order 152 = .ok (.aload_n 0, 1) := by decide +kernel
theorem dX12_order_153 : decode cX12_order 153 = .ok (.getfield 45, 3) := by decide +kernel
theorem dX12_order_156 : decode cX12_order 156 = .ok (.invokestatic 302, 3) := by decide +kernel
theorem dX12_order_159 : decode cX12_order 159 = .ok (.aload_n 0, 1) := by decide +kernel
theorem dX12_order_160 : decode cX12_order 160 = .ok (.invokevirtual 429, 3) := by decide +kernel
theorem dX12_order_163 : decode cX12_order 163 = .ok (.istore_n 3, 1) := by decide +kernel
theorem dX12_order_164 : decode cX12_order 164 = .ok (.iload_n 3, 1) := by decide +kernel
theorem dX12_order_165 : decode cX12_order 165 = .ok (.ifCond .ge 5, 3) := by decide +kernel
theorem dX12_order_168 : decode cX12_order 168 = .ok (.iload_n 3, 1) := by decide +kernel
theorem dX12_order_169 : decode cX12_order 169 = .ok (.ireturn, 1) := by decide +kernel
theorem dX12_order_170 : decode cX12_order 170 = .ok (.iconst 0, 1) := by decide +kernel
theorem dX12_order_171 : decode cX12_order 171 = .ok (.istore 4, 2) := by decide +kernel
theorem dX12_order_173 : decode cX12_order 173 = .ok (.iconst 0, 1) := by decide +kernel
theorem dX12_order_174 : decode cX12_order 174 = .ok (.istore 5, 2) := by decide +kernel
theorem dX12_order_176 : decode cX12_order 176 = .ok (.iload 5, 2) := by decide +kernel
theorem dX12_order_178 : decode cX12_order 178 = .ok (.aload_n 0, 1) := by decide +kernel
theorem dX12_order_179 : decode cX12_order 179 = .ok (.getfield 419, 3) := by decide +kernel
theorem dX12_order_182 : decode cX12_order 182 = .ok (.if_icmp .ge 29, 3) := by decide +kernel
theorem dX12_order_185 : decode cX12_order 185 = .ok (.iload 4, 2) := by decide +kernel
theorem dX12_order_187 : decode cX12_order 187 = .ok (.aload_n 0, 1) := by decide +kernel
theorem dX12_order_188 : decode cX12_order 188 = .ok (.aload_n 0, 1) := by decide +kernel
theorem dX12_order_189 : decode cX12_order 189 = .ok (.getfield 45, 3) := by decide +kernel
theorem dX12_order_192 : decode cX12_order 192 = .ok (.aload_n 0, 1) := by decide +kernel
theorem dX12_order_193 : decode cX12_order 193 = .ok (.getfield 87, 3) := by decide +kernel
theorem dX12_order_196 : decode cX12_order 196 = .ok (.iload 5, 2) := by decide +kernel
theorem dX12_order_198 : decode cX12_order 198 = .ok (.iaload, 1) := by decide +kernel
theorem dX12_order_199 : decode cX12_order 199 = .ok (.invokevirtual 329, 3) := by decide +kernel
theorem dX12_order_202 : decode cX12_order 202 = .ok (.iadd, 1) := by decide +kernel
theorem dX12_order_203 : decode cX12_order 203 = .ok (.istore 4, 2) := by decide +kernel
theorem dX12_order_205 : decode cX12_order 205 = .ok (.iinc 5 1, 3) := by decide +kernel
theorem dX12_order_208 : decode cX12_order 208 = .ok (.goto (-32), 3) := by decide +kernel
theorem dX12_order_211 : decode cX12_order 211 = .ok (.aload_n 0, 1) := by decide +kernel
theorem dX12_order_212 : decode cX12_order 212 = .ok (.iconst 0, 1) := by decide +kernel
theorem dX12_order_213 : decode cX12_order 213 = .ok (.putfield 134, 3) := by decide +kernel
theorem dX12_order_216 : decode cX12_order 216 = .ok (.aload_n 0, 1) := by decide +kernel
theorem dX12_order_217 : decode cX12_order 217 = .ok (.aload_n 0, 1) := by decide +kernel
theorem dX12_order_218 : decode cX12_order 218 = .ok (.getfield 416, 3) := by decide +kernel
theorem dX12_order_221 : decode cX12_order 221 = .ok (.i2l, 1) := by decide +kernel
theorem dX12_order_222 : decode cX12_order 222 = .ok (.invokevirtual 371, 3) := by decide +kernel
theorem dX12_order_225 : decode cX12_order 225 = .ok (.aload_n 0, 1) := by decide +kernel
theorem dX12_order_226 : decode cX12_order 226 = .ok (.iload 4, 2) := by decide +kernel
theorem dX12_order_228 : decode cX12_order 228 = .ok (.i2l, 1) := by decide +kernel
theorem dX12_order_229 : decode cX12_order 229 = .ok (.invokevirtual 371, 3) := by decide +kernel
theorem dX12_order_232 : decode cX12_order 232 = .ok (.iload_n 3, 1) := by decide +kernel
theorem dX12_order_233 : decode cX12_order 233 = .ok (.ireturn, 1) := by decide +kernel
theorem dX12_triesOrders_0 : decode cX12_triesOrders 0 = .ok (.iload_n 1, 1) := by decide +kernel
theorem dX12_triesOrders_1 : decode cX12_triesOrders 1 = .ok (.ifCond .ne 78, 3) := by decide +kernel
theorem dX12_triesOrders_4 : decode cX12_triesOrders 4 = .ok (.aload_n 0, 1) := by decide +kernel
theorem dX12_triesOrders_5 : decode cX12_triesOrders 5 = .ok (.iload_n 2, 1) := by decide +kernel
theorem dX12_triesOrders_6 : decode cX12_triesOrders 6 = .ok (.putfield 419, 3) := by decide +kernel
theorem dX12_triesOrders_9 : decode cX12_triesOrders 9 = .ok (.aload_n 0, 1) := by decide +kernel
theorem dX12_triesOrders_10 : decode cX12_triesOrders 10 = .ok (.getfield 42, 3) := by decide +kernel
theorem dX12_triesOrders_13 : decode cX12_triesOrders 13 = .ok (.aload_n 0, 1) := by decide +kernel
theorem dX12_triesOrders_14 : decode cX12_triesOrders 14 = .ok (.getfield 45, 3) := by decide +kernel
theorem dX12_triesOrders_17 : decode cX12_triesOrders 17 = .ok (.invokestatic 302, 3) := by decide +kernel
theorem dX12_triesOrders_20 : decode cX12_triesOrders 20 = .ok (.aload_n 0, 1) := by decide +kernel
theorem dX12_triesOrders_21 : decode cX12_triesOrders 21 = .ok (.invokevirtual 429, 3) := by decide +kernel
theorem dX12_triesOrders_24 : decode cX12_triesOrders 24 = .ok (.istore_n 3, 1) := by decide +kernel
theorem dX12_triesOrders_25 : decode cX12_triesOrders 25 = .ok (.iload_n 3, 1) := by decide +kernel
theorem dX12_triesOrders_26 : decode cX12_triesOrders 26 = .ok (.ifCond .lt 52, 3) := by decide +kernel
theorem dX12_triesOrders_29 : decode cX12_triesOrders 29 = .ok (.aload_n 0, 1) := by decide +kernel
theorem dX12_triesOrders_30 : decode cX12_triesOrders 30 = .ok (.getfield 432, 3) := by decide +kernel
theorem dX12_triesOrders_33 : decode cX12_triesOrders 33 = .ok (.ifCond .lt 11, 3) := by decide +kernel
theorem dX12_triesOrders_36 : decode cX12_triesOrders 36 = .ok (.iload_n 3, 1) := by decide +kernel
theorem dX12_triesOrders_37 : decode cX12_triesOrders 37 = .ok (.aload_n 0, 1) := by decide +kernel
theorem dX12_triesOrders_38 : decode cX12_triesOrders 38 = .ok (.getfield 432, 3) := by decide +kernel
theorem dX12_triesOrders_41 : decode cX12_triesOrders 41 = .ok (.if_icmp .ge 37, 3) := by decide +kernel
theorem dX12_triesOrders_44 : decode cX12_triesOrders 44 = .ok (.aload_n 0, 1) := by decide +kernel
theorem dX12_triesOrders_45 : decode cX12_triesOrders 45 = .ok (.iload_n 3, 1) := by decide +kernel
theorem dX12_triesOrders_46 : decode cX12_triesOrders 46 = .ok (.putfield 432, 3) := by decide +kernel
theorem dX12_triesOrders_49 : decode cX12_triesOrders 49 = .ok (.iconst 0, 1) := by decide +kernel
theorem dX12_triesOrders_50 : decode cX12_triesOrders 50 = .ok (.istore 4, 2) := by decide +kernel
theorem dX12_triesOrders_52 : decode cX12_triesOrders 52 = .ok (.iload 4, 2) := by decide +kernel
theorem dX12_triesOrders_54 : decode cX12_triesOrders 54 = .ok (.iload_n 2, 1) := by decide +kernel
theorem dX12_triesOrders_55 : decode cX12_triesOrders 55 = .ok (.if_icmp .ge 23, 3) := by decide +kernel
theorem dX12_triesOrders_58 : decode cX12_triesOrders 58 = .ok (.aload_n 0, 1) := by decide +kernel
theorem dX12_triesOrders_59 : decode cX12_triesOrders 59 = .ok (.getfield 90, 3) := by decide +kernel
theorem dX12_triesOrders_62 : decode cX12_triesOrders 62 = .ok (.iload 4, 2) := by decide +kernel
theorem dX12_triesOrders_64 : decode cX12_triesOrders 64 = .ok (.aload_n 0, 1) := by decide +kernel
theorem dX12_triesOrders_65 : decode cX12_triesOrders 65 = .ok (.getfield 87, 3) := by decide +kernel
theorem dX12_triesOrders_68 : decode cX12_triesOrders 68 = .ok (.iload 4, 2) := by decide +kernel
theorem dX12_triesOrders_70 : decode cX12_triesOrders 70 = .ok (.iaload, 1) := by decide +kernel
theorem dX12_triesOrders_71 : decode cX12_triesOrders 71 = .ok (.iastore, 1) := by decide +kernel
theorem dX12_triesOrders_72 : decode cX12_triesOrders 72 = .ok (.iinc 4 1, 3) := by decide +kernel
theorem dX12_triesOrders_75 : decode cX12_triesOrders 75 = .ok (.goto (-23), 3) := by decide +kernel
theorem dX12_triesOrders_78 : decode cX12_triesOrders 78 = .ok (.return_, 1) := by decide +kernel
theorem dX12_triesOrders_79 : decode cX12_triesOrders 79 = .ok (.iconst 0, 1) := by decide +kernel
theorem dX12_triesOrders_80 : decode cX12_triesOrders 80 = .ok (.istore_n 3, 1) := by decide +kernel
theorem dX12_triesOrders_81 : decode cX12_triesOrders 81 = .ok (.iload_n 3, 1) := by decide +kernel
theorem dX12_triesOrders_82 : decode cX12_triesOrders 82 = .ok (.aload_n 0, 1) := by decide +kernel
theorem dX12_triesOrders_83 : decode cX12_triesOrders 83 = .ok (.getfield 137, 3) := by decide +kernel
theorem dX12_triesOrders_86 : decode cX12_triesOrders 86 = .ok (.if_icmp .ge 38, 3) := by decide +kernel
theorem dX12_triesOrders_89 : decode cX12_triesOrders 89 = .ok (.iload_n 1, 1) := by decide +kernel
theorem dX12_triesOrders_90 : decode cX12_triesOrders 90 = .ok (.iload_n 3, 1) := by decide +kernel
theorem dX12_triesOrders_91 : decode cX12_triesOrders 91 = .ok (.invokestatic 425, 3) := by decide +kernel
theorem dX12_triesOrders_94 : decode cX12_triesOrders 94 = .ok (.ifCond .eq 24, 3) := by decide +kernel
theorem dX12_triesOrders_97 : decode cX12_triesOrders 97 = .ok (.aload_n 0, 1) := by decide +kernel
theorem dX12_triesOrders_98 : decode cX12_triesOrders 98 = .ok (.getfield 87, 3) := by decide +kernel
theorem dX12_triesOrders_101 : decode cX12_triesOrders 101 = .ok (.iload_n 2, 1) := by decide +kernel
theorem dX12_triesOrders_102 : decode cX12_triesOrders 102 = .ok (.iload_n 3, 1) := by decide +kernel
theorem dX12_triesOrders_103 : decode cX12_triesOrders 103 = .ok (.iastore, 1) := by decide +kernel
theorem dX12_triesOrders_104 : decode cX12_triesOrders 104 = .ok (.aload_n 0, 1) := by decide +kernel
theorem dX12_triesOrders_105 : decode cX12_triesOrders 105 = .ok (.iload_n 1, 1) := by decide +kernel
theorem dX12_triesOrders_106 : decode cX12_triesOrders 106 = .ok (.iconst 1, 1) := by decide +kernel
theorem dX12_triesOrders_107 : decode cX12_triesOrders 107 = .ok (.iload_n 3, 1) := by decide +kernel
theorem dX12_triesOrders_108 : decode cX12_triesOrders 108 = .ok (.ishl, 1) := by decide +kernel
theorem dX12_triesOrders_109 : decode cX12_triesOrders 109 = .ok (.iconst (-1), 1) := by decide +kernel
theorem dX12_triesOrders_110 : decode cX12_triesOrders 110 = .ok (.ixor, 1) := by decide +kernel
theorem dX12_triesOrders_111 : decode cX12_triesOrders 111 = .ok (.iand, 1) := by decide +kernel
theorem dX12_triesOrders_112 : decode cX12_triesOrders 112 = .ok (.iload_n 2, 1) := by decide +kernel
theorem dX12_triesOrders_113 : decode cX12_triesOrders 113 = .ok (.iconst 1, 1) := by decide +kernel
theorem dX12_triesOrders_114 : decode cX12_triesOrders 114 = .ok (.iadd, 1) := by decide +kernel
theorem dX12_triesOrders_115 : decode cX12_triesOrders 115 = .ok (.invokevirtual 435, 3) := by decide +kernel
theorem dX12_triesOrders_118 : decode cX12_triesOrders 118 = .ok (.iinc 3 1, 3) := by decide +kernel
theorem dX12_triesOrders_121 : decode cX12_triesOrders 121 = .ok (.goto (-40), 3) := by decide +kernel
theorem dX12_triesOrders_124 : decode cX12_triesOrders 124 = .ok (.return_, 1) := by decide +kernel
theorem dX12_quickestOf_0 : decode cX12_quickestOf 0 = .ok (.aload_n 0, 1) := by decide +kernel
theorem dX12_quickestOf_1 : decode cX12_quickestOf 1 = .ok (.bipush (-2), 2) := by decide +kernel
theorem dX12_quickestOf_3 : decode cX12_quickestOf 3 = .ok (.putfield 432, 3) := by decide +kernel
theorem dX12_quickestOf_6 : decode cX12_quickestOf 6 = .ok (.aload_n 0, 1) := by decide +kernel
theorem dX12_quickestOf_7 : decode cX12_quickestOf 7 = .ok (.iload_n 1, 1) := by decide +kernel
theorem dX12_quickestOf_8 : decode cX12_quickestOf 8 = .ok (.iconst 0, 1) := by decide +kernel
theorem dX12_quickestOf_9 : decode cX12_quickestOf 9 = .ok (.invokevirtual 435, 3) := by decide +kernel
theorem dX12_quickestOf_12 : decode cX12_quickestOf 12 = .ok (.aload_n 0, 1) := by decide +kernel
theorem dX12_quickestOf_13 : decode cX12_quickestOf 13 = .ok (.getfield 432, 3) := by decide +kernel
theorem dX12_quickestOf_16 : decode cX12_quickestOf 16 = .ok (.ireturn, 1) := by decide +kernel
theorem dX12_soonest_0 : decode cX12_soonest 0 = .ok (.aload_n 0, 1) := by decide +kernel
theorem dX12_soonest_1 : decode cX12_soonest 1 = .ok (.iconst 0, 1) := by decide +kernel
theorem dX12_soonest_2 : decode cX12_soonest 2 = .ok (.putfield 126, 3) := by decide +kernel
theorem dX12_soonest_5 : decode cX12_soonest 5 = .ok (.iload_n 1, 1) := by decide +kernel
theorem dX12_soonest_6 : decode cX12_soonest 6 = .ok (.i2l, 1) := by decide +kernel
theorem dX12_soonest_7 : decode cX12_soonest 7 = .ok (.lconst 1, 1) := by decide +kernel
theorem dX12_soonest_8 : decode cX12_soonest 8 = .ok (.aload_n 0, 1) := by decide +kernel
theorem dX12_soonest_9 : decode cX12_soonest 9 = .ok (.invokevirtual 438, 3) := by decide +kernel
theorem dX12_soonest_12 : decode cX12_soonest 12 = .ok (.i2l, 1) := by decide +kernel
theorem dX12_soonest_13 : decode cX12_soonest 13 = .ok (.invokestatic 140, 3) := by decide +kernel
theorem dX12_soonest_16 : decode cX12_soonest 16 = .ok (.ifCond .ne 5, 3) := by decide +kernel
theorem dX12_soonest_19 : decode cX12_soonest 19 = .ok (.iconst (-1), 1) := by decide +kernel
theorem dX12_soonest_20 : decode cX12_soonest 20 = .ok (.ireturn, 1) := by decide +kernel
theorem dX12_soonest_21 : decode cX12_soonest 21 = .ok (.aload_n 0, 1) := by decide +kernel
theorem dX12_soonest_22 : decode cX12_soonest 22 = .ok (.iload_n 1, 1) := by decide +kernel
theorem dX12_soonest_23 : decode cX12_soonest 23 = .ok (.invokevirtual 441, 3) := by decide +kernel
theorem dX12_soonest_26 : decode cX12_soonest 26 = .ok (.istore_n 2, 1) := by decide +kernel
theorem dX12_soonest_27 : decode cX12_soonest 27 = .ok (.iload_n 2, 1) := by decide +kernel
theorem dX12_soonest_28 : decode cX12_soonest 28 = .ok (.ifCond .lt 35, 3) := by decide +kernel
theorem dX12_soonest_31 : decode cX12_soonest 31 = .ok (.aload_n 0, 1) := by decide +kernel
theorem dX12_soonest_32 : decode cX12_soonest 32 = .ok (.iconst 0, 1) := by decide +kernel
theorem dX12_soonest_33 : decode cX12_soonest 33 = .ok (.putfield 134, 3) := by decide +kernel
theorem dX12_soonest_36 : decode cX12_soonest 36 = .ok (.iconst 0, 1) := by decide +kernel
theorem dX12_soonest_37 : decode cX12_soonest 37 = .ok (.istore_n 3, 1) := by decide +kernel
theorem dX12_soonest_38 : decode cX12_soonest 38 = .ok (.iload_n 3, 1) := by decide +kernel
theorem dX12_soonest_39 : decode cX12_soonest 39 = .ok (.iload_n 1, 1) := by decide +kernel
theorem dX12_soonest_40 : decode cX12_soonest 40 = .ok (.invokestatic 444, 3) := by decide +kernel
theorem dX12_soonest_43 : decode cX12_soonest 43 = .ok (.if_icmp .ge 20, 3) := by decide +kernel
theorem dX12_soonest_46 : decode cX12_soonest 46 = .ok (.aload_n 0, 1) := by decide +kernel
theorem dX12_soonest_47 : decode cX12_soonest 47 = .ok (.aload_n 0, 1) := by decide +kernel
theorem dX12_soonest_48 : decode cX12_soonest 48 = .ok (.getfield 90, 3) := by decide +kernel
theorem dX12_soonest_51 : decode cX12_soonest 51 = .ok (.iload_n 3, 1) := by decide +kernel
theorem dX12_soonest_52 : decode cX12_soonest 52 = .ok (.iaload, 1) := by decide +kernel
theorem dX12_soonest_53 : decode cX12_soonest 53 = .ok (.i2l, 1) := by decide +kernel
theorem dX12_soonest_54 : decode cX12_soonest 54 = .ok (.invokevirtual 371, 3) := by decide +kernel
theorem dX12_soonest_57 : decode cX12_soonest 57 = .ok (.iinc 3 1, 3) := by decide +kernel
theorem dX12_soonest_60 : decode cX12_soonest 60 = .ok (.goto (-22), 3) := by decide +kernel
theorem dX12_soonest_63 : decode cX12_soonest 63 = .ok (.iload_n 2, 1) := by decide +kernel
theorem dX12_soonest_64 : decode cX12_soonest 64 = .ok (.ireturn, 1) := by decide +kernel
theorem dX12_most_0 : decode cX12_most 0 = .ok (.aload_n 0, 1) := by decide +kernel
theorem dX12_most_1 : decode cX12_most 1 = .ok (.iconst 0, 1) := by decide +kernel
theorem dX12_most_2 : decode cX12_most 2 = .ok (.putfield 126, 3) := by decide +kernel
theorem dX12_most_5 : decode cX12_most 5 = .ok (.iload_n 1, 1) := by decide +kernel
theorem dX12_most_6 : decode cX12_most 6 = .ok (.i2l, 1) := by decide +kernel
theorem dX12_most_7 : decode cX12_most 7 = .ok (.lconst 0, 1) := by decide +kernel
theorem dX12_most_8 : decode cX12_most 8 = .ok (.aload_n 0, 1) := by decide +kernel
theorem dX12_most_9 : decode cX12_most 9 = .ok (.invokevirtual 438, 3) := by decide +kernel
theorem dX12_most_12 : decode cX12_most 12 = .ok (.i2l, 1) := by decide +kernel
theorem dX12_most_13 : decode cX12_most 13 = .ok (.invokestatic 140, 3) := by decide +kernel
theorem dX12_most_16 : decode cX12_most 16 = .ok (.ifCond .eq 15, 3) := by decide +kernel
theorem dX12_most_19 : decode cX12_most 19 = .ok (.iload_n 2, 1) := by decide +kernel
theorem dX12_most_20 : decode cX12_most 20 = .ok (.i2l, 1) := by decide +kernel
theorem dX12_most_21 : decode cX12_most 21 = .ok (.lconst 0, 1) := by decide +kernel
theorem dX12_most_22 : decode cX12_most 22 = .ok (.ldc2_w 449, 3) := by decide +kernel
theorem dX12_most_25 : decode cX12_most 25 = .ok (.invokestatic 140, 3) := by decide +kernel
theorem dX12_most_28 : decode cX12_most 28 = .ok (.ifCond .ne 5, 3) := by decide +kernel
theorem dX12_most_31 : decode cX12_most 31 = .ok (.iconst (-1), 1) := by decide +kernel
theorem dX12_most_32 : decode cX12_most 32 = .ok (.ireturn, 1) := by decide +kernel
theorem dX12_most_33 : decode cX12_most 33 = .ok (.iconst 0, 1) := by decide +kernel
theorem dX12_most_34 : decode cX12_most 34 = .ok (.istore_n 3, 1) := by decide +kernel
theorem dX12_most_35 : decode cX12_most 35 = .ok (.iconst 1, 1) := by decide +kernel
theorem dX12_most_36 : decode cX12_most 36 = .ok (.istore 4, 2) := by decide +kernel
theorem dX12_most_38 : decode cX12_most 38 = .ok (.iload 4, 2) := by decide +kernel
theorem dX12_most_40 : decode cX12_most 40 = .ok (.iload_n 1, 1) := by decide +kernel
theorem dX12_most_41 : decode cX12_most 41 = .ok (.if_icmp .gt 64, 3) := by decide +kernel
theorem dX12_most_44 : decode cX12_most 44 = .ok (.iload 4, 2) := by decide +kernel
theorem dX12_most_46 : decode cX12_most 46 = .ok (.iload_n 1, 1) := by decide +kernel
theorem dX12_most_47 : decode cX12_most 47 = .ok (.iconst (-1), 1) := by decide +kernel
theorem dX12_most_48 : decode cX12_most 48 = .ok (.ixor, 1) := by decide +kernel
theorem dX12_most_49 : decode cX12_most 49 = .ok (.iand, 1) := by decide +kernel
theorem dX12_most_50 : decode cX12_most 50 = .ok (.ifCond .ne 49, 3) := by decide +kernel
theorem dX12_most_53 : decode cX12_most 53 = .ok (.iload 4, 2) := by decide +kernel
theorem dX12_most_55 : decode cX12_most 55 = .ok (.invokestatic 444, 3) := by decide +kernel
theorem dX12_most_58 : decode cX12_most 58 = .ok (.iload_n 3, 1) := by decide +kernel
theorem dX12_most_59 : decode cX12_most 59 = .ok (.invokestatic 444, 3) := by decide +kernel
theorem dX12_most_62 : decode cX12_most 62 = .ok (.if_icmp .le 37, 3) := by decide +kernel
theorem dX12_most_65 : decode cX12_most 65 = .ok (.aload_n 0, 1) := by decide +kernel
theorem dX12_most_66 : decode cX12_most 66 = .ok (.iload 4, 2) := by decide +kernel
theorem dX12_most_68 : decode cX12_most 68 = .ok (.invokevirtual 441, 3) := by decide +kernel
theorem dX12_most_71 : decode cX12_most 71 = .ok (.istore 5, 2) := by decide +kernel
theorem dX12_most_73 : decode cX12_most 73 = .ok (.iload 5, 2) := by decide +kernel
theorem dX12_most_75 : decode cX12_most 75 = .ok (.ifCond .lt 22, 3) := by decide +kernel
theorem dX12_most_78 : decode cX12_most 78 = .ok (.aload_n 0, 1) := by decide +kernel
theorem dX12_most_79 : decode cX12_most 79 = .ok (.getfield 42, 3) := by decide +kernel
theorem dX12_most_82 : decode cX12_most 82 = .ok (.bipush 98, 2) := by decide +kernel
theorem dX12_most_84 : decode cX12_most 84 = .ok (.iaload, 1) := by decide +kernel
theorem dX12_most_85 : decode cX12_most 85 = .ok (.iload 5, 2) := by decide +kernel
theorem dX12_most_87 : decode cX12_most 87 = .ok (.iadd, 1) := by decide +kernel
theorem dX12_most_88 : decode cX12_most 88 = .ok (.iload_n 2, 1) := by decide +kernel
theorem dX12_most_89 : decode cX12_most 89 = .ok (.if_icmp .gt 8, 3) := by decide +kernel
theorem dX12_most_92 : decode cX12_most 92 = .ok (.iload 4, 2) := by decide +kernel
theorem dX12_most_94 : decode cX12_most 94 = .ok (.goto 4, 3) := by decide +kernel
theorem dX12_most_97 : decode cX12_most 97 = .ok (.iload_n 3, 1) := by decide +kernel
theorem dX12_most_98 : decode cX12_most 98 = .ok (.istore_n 3, 1) := by decide +kernel
theorem dX12_most_99 : decode cX12_most 99 = .ok (.iinc 4 1, 3) := by decide +kernel
theorem dX12_most_102 : decode cX12_most 102 = .ok (.goto (-64), 3) := by decide +kernel
theorem dX12_most_105 : decode cX12_most 105 = .ok (.aload_n 0, 1) := by decide +kernel
theorem dX12_most_106 : decode cX12_most 106 = .ok (.iconst 0, 1) := by decide +kernel
theorem dX12_most_107 : decode cX12_most 107 = .ok (.putfield 134, 3) := by decide +kernel
theorem dX12_most_110 : decode cX12_most 110 = .ok (.aload_n 0, 1) := by decide +kernel
theorem dX12_most_111 : decode cX12_most 111 = .ok (.iload_n 3, 1) := by decide +kernel
theorem dX12_most_112 : decode cX12_most 112 = .ok (.i2l, 1) := by decide +kernel
theorem dX12_most_113 : decode cX12_most 113 = .ok (.invokevirtual 371, 3) := by decide +kernel
theorem dX12_most_116 : decode cX12_most 116 = .ok (.iload_n 3, 1) := by decide +kernel
theorem dX12_most_117 : decode cX12_most 117 = .ok (.invokestatic 444, 3) := by decide +kernel
theorem dX12_most_120 : decode cX12_most 120 = .ok (.ireturn, 1) := by decide +kernel
theorem dX12_tipnow_0 : decode cX12_tipnow 0 = .ok (.aload_n 0, 1) := by decide +kernel
theorem dX12_tipnow_1 : decode cX12_tipnow 1 = .ok (.iconst 0, 1) := by decide +kernel
theorem dX12_tipnow_2 : decode cX12_tipnow 2 = .ok (.putfield 126, 3) := by decide +kernel
theorem dX12_tipnow_5 : decode cX12_tipnow 5 = .ok (.aload_n 0, 1) := by decide +kernel
theorem dX12_tipnow_6 : decode cX12_tipnow 6 = .ok (.iload_n 1, 1) := by decide +kernel
theorem dX12_tipnow_7 : decode cX12_tipnow 7 = .ok (.invokevirtual 144, 3) := by decide +kernel
theorem dX12_tipnow_10 : decode cX12_tipnow 10 = .ok (.ifCond .ne 5, 3) := by decide +kernel
theorem dX12_tipnow_13 : decode cX12_tipnow 13 = .ok (.iconst (-1), 1) := by decide +kernel
theorem dX12_tipnow_14 : decode cX12_tipnow 14 = .ok (.ireturn, 1) := by decide +kernel
theorem dX12_tipnow_15 : decode cX12_tipnow 15 = .ok (.aload_n 0, 1) := by decide +kernel
theorem dX12_tipnow_16 : decode cX12_tipnow 16 = .ok (.aload_n 0, 1) := by decide +kernel
theorem dX12_tipnow_17 : decode cX12_tipnow 17 = .ok (.getfield 42, 3) := by decide +kernel
theorem dX12_tipnow_20 : decode cX12_tipnow 20 = .ok (.iload_n 1, 1) := by decide +kernel
theorem dX12_tipnow_21 : decode cX12_tipnow 21 = .ok (.invokevirtual 422, 3) := by decide +kernel
theorem dX12_tipnow_24 : decode cX12_tipnow 24 = .ok (.istore_n 2, 1) := by decide +kernel
theorem dX12_tipnow_25 : decode cX12_tipnow 25 = .ok (.iload_n 2, 1) := by decide +kernel
theorem dX12_tipnow_26 : decode cX12_tipnow 26 = .ok (.aload_n 0, 1) := by decide +kernel
theorem dX12_tipnow_27 : decode cX12_tipnow 27 = .ok (.getfield 39, 3) := by decide +kernel
theorem dX12_tipnow_30 : decode cX12_tipnow 30 = .ok (.iconst 0, 1) := by decide +kernel
theorem dX12_tipnow_31 : decode cX12_tipnow 31 = .ok (.iaload, 1) := by decide +kernel
theorem dX12_tipnow_32 : decode cX12_tipnow 32 = .ok (.if_icmp .le 6, 3) := by decide +kernel
theorem dX12_tipnow_35 : decode cX12_tipnow 35 = .ok (.bipush (-2), 2) := by decide +kernel
theorem dX12_tipnow_37 : decode cX12_tipnow 37 = .ok (.ireturn, 1) := by decide +kernel
theorem dX12_tipnow_38 : decode cX12_tipnow 38 = .ok (.aload_n 0, 1) := by decide +kernel
theorem dX12_tipnow_39 : decode cX12_tipnow 39 = .ok (.iload_n 1, 1) := by decide +kernel
theorem dX12_tipnow_40 : decode cX12_tipnow 40 = .ok (.invokevirtual 403, 3) := by decide +kernel
theorem dX12_tipnow_43 : decode cX12_tipnow 43 = .ok (.istore_n 3, 1) := by decide +kernel
theorem dX12_tipnow_44 : decode cX12_tipnow 44 = .ok (.bipush 10, 2) := by decide +kernel
theorem dX12_tipnow_46 : decode cX12_tipnow 46 = .ok (.aload_n 0, 1) := by decide +kernel
theorem dX12_tipnow_47 : decode cX12_tipnow 47 = .ok (.getfield 13, 3) := by decide +kernel
theorem dX12_tipnow_50 : decode cX12_tipnow 50 = .ok (.iload_n 1, 1) := by decide +kernel
theorem dX12_tipnow_51 : decode cX12_tipnow 51 = .ok (.iaload, 1) := by decide +kernel
theorem dX12_tipnow_52 : decode cX12_tipnow 52 = .ok (.aload_n 0, 1) := by decide +kernel
theorem dX12_tipnow_53 : decode cX12_tipnow 53 = .ok (.getfield 39, 3) := by decide +kernel
theorem dX12_tipnow_56 : decode cX12_tipnow 56 = .ok (.iconst 5, 1) := by decide +kernel
theorem dX12_tipnow_57 : decode cX12_tipnow 57 = .ok (.iaload, 1) := by decide +kernel
theorem dX12_tipnow_58 : decode cX12_tipnow 58 = .ok (.isub, 1) := by decide +kernel
theorem dX12_tipnow_59 : decode cX12_tipnow 59 = .ok (.invokestatic 343, 3) := by decide +kernel
theorem dX12_tipnow_62 : decode cX12_tipnow 62 = .ok (.imul, 1) := by decide +kernel
theorem dX12_tipnow_63 : decode cX12_tipnow 63 = .ok (.istore 4, 2) := by decide +kernel
theorem dX12_tipnow_65 : decode cX12_tipnow 65 = .ok (.bipush 10, 2) := by decide +kernel
theorem dX12_tipnow_67 : decode cX12_tipnow 67 = .ok (.aload_n 0, 1) := by decide +kernel
theorem dX12_tipnow_68 : decode cX12_tipnow 68 = .ok (.getfield 42, 3) := by decide +kernel
theorem dX12_tipnow_71 : decode cX12_tipnow 71 = .ok (.bipush 97, 2) := by decide +kernel
theorem dX12_tipnow_73 : decode cX12_tipnow 73 = .ok (.iaload, 1) := by decide +kernel
theorem dX12_tipnow_74 : decode cX12_tipnow 74 = .ok (.aload_n 0, 1) := by decide +kernel
theorem dX12_tipnow_75 : decode cX12_tipnow 75 = .ok (.getfield 39, 3) := by decide +kernel
theorem dX12_tipnow_78 : decode cX12_tipnow 78 = .ok (.iconst 5, 1) := by decide +kernel
theorem dX12_tipnow_79 : decode cX12_tipnow 79 = .ok (.iaload, 1) := by decide +kernel
theorem dX12_tipnow_80 : decode cX12_tipnow 80 = .ok (.isub, 1) := by decide +kernel
theorem dX12_tipnow_81 : decode cX12_tipnow 81 = .ok (.invokestatic 343, 3) := by decide +kernel
theorem dX12_tipnow_84 : decode cX12_tipnow 84 = .ok (.imul, 1) := by decide +kernel
theorem dX12_tipnow_85 : decode cX12_tipnow 85 = .ok (.sipush 300, 3) := by decide +kernel
theorem dX12_tipnow_88 : decode cX12_tipnow 88 = .ok (.iadd, 1) := by decide +kernel
theorem dX12_tipnow_89 : decode cX12_tipnow 89 = .ok (.iload 4, 2) := by decide +kernel
theorem dX12_tipnow_91 : decode cX12_tipnow 91 = .ok (.iadd, 1) := by decide +kernel
theorem dX12_tipnow_92 : decode cX12_tipnow 92 = .ok (.iload_n 3, 1) := by decide +kernel
theorem dX12_tipnow_93 : decode cX12_tipnow 93 = .ok (.iadd, 1) := by decide +kernel
theorem dX12_tipnow_94 : decode cX12_tipnow 94 = .ok (.iload 4, 2) := by decide +kernel
theorem dX12_tipnow_96 : decode cX12_tipnow 96 = .ok (.iadd, 1) := by decide +kernel
theorem dX12_tipnow_97 : decode cX12_tipnow 97 = .ok (.sipush 300, 3) := by decide +kernel
theorem dX12_tipnow_100 : decode cX12_tipnow 100 = .ok (.iadd, 1) := by decide +kernel
theorem dX12_tipnow_101 : decode cX12_tipnow 101 = .ok (.istore 5, 2) := by decide +kernel
theorem dX12_tipnow_103 : decode cX12_tipnow 103 = .ok (.bipush 10, 2) := by decide +kernel
theorem dX12_tipnow_105 : decode cX12_tipnow 105 = .ok (.aload_n 0, 1) := by decide +kernel
theorem dX12_tipnow_106 : decode cX12_tipnow 106 = .ok (.getfield 42, 3) := by decide +kernel
theorem dX12_tipnow_109 : decode cX12_tipnow 109 = .ok (.bipush 97, 2) := by decide +kernel
theorem dX12_tipnow_111 : decode cX12_tipnow 111 = .ok (.iaload, 1) := by decide +kernel
theorem dX12_tipnow_112 : decode cX12_tipnow 112 = .ok (.aload_n 0, 1) := by decide +kernel
theorem dX12_tipnow_113 : decode cX12_tipnow 113 = .ok (.getfield 13, 3) := by decide +kernel
theorem dX12_tipnow_116 : decode cX12_tipnow 116 = .ok (.iload_n 1, 1) := by decide +kernel
theorem dX12_tipnow_117 : decode cX12_tipnow 117 = .ok (.iaload, 1) := by decide +kernel
theorem dX12_tipnow_118 : decode cX12_tipnow 118 = .ok (.isub, 1) := by decide +kernel
theorem dX12_tipnow_119 : decode cX12_tipnow 119 = .ok (.invokestatic 343, 3) := by decide +kernel
theorem dX12_tipnow_122 : decode cX12_tipnow 122 = .ok (.imul, 1) := by decide +kernel
theorem dX12_tipnow_123 : decode cX12_tipnow 123 = .ok (.iload_n 3, 1) := by decide +kernel
theorem dX12_tipnow_124 : decode cX12_tipnow 124 = .ok (.iadd, 1) := by decide +kernel
theorem dX12_tipnow_125 : decode cX12_tipnow 125 = .ok (.iload 4, 2) := by decide +kernel
theorem dX12_tipnow_127 : decode cX12_tipnow 127 = .ok (.iadd, 1) := by decide +kernel
theorem dX12_tipnow_128 : decode cX12_tipnow 128 = .ok (.sipush 300, 3) := by decide +kernel
theorem dX12_tipnow_131 : decode cX12_tipnow 131 = .ok (.iadd, 1) := by decide +kernel
theorem dX12_tipnow_132 : decode cX12_tipnow 132 = .ok (.istore 6, 2) := by decide +kernel
theorem dX12_tipnow_134 : decode cX12_tipnow 134 = .ok (.aload_n 0, 1) := by decide +kernel
theorem dX12_tipnow_135 : decode cX12_tipnow 135 = .ok (.getfield 42, 3) := by decide +kernel
theorem dX12_tipnow_138 : decode cX12_tipnow 138 = .ok (.bipush 96, 2) := by decide +kernel
theorem dX12_tipnow_140 : decode cX12_tipnow 140 = .ok (.iaload, 1) := by decide +kernel
theorem dX12_tipnow_141 : decode cX12_tipnow 141 = .ok (.iload_n 2, 1) := by decide +kernel
theorem dX12_tipnow_142 : decode cX12_tipnow 142 = .ok (.iadd, 1) := by decide +kernel
theorem dX12_tipnow_143 : decode cX12_tipnow 143 = .ok (.aload_n 0, 1) := by decide +kernel
theorem dX12_tipnow_144 : decode cX12_tipnow 144 = .ok (.getfield 39, 3) := by decide +kernel
theorem dX12_tipnow_147 : decode cX12_tipnow 147 = .ok (.iconst 0, 1) := by decide +kernel
theorem dX12_tipnow_148 : decode cX12_tipnow 148 = .ok (.iaload, 1) := by decide +kernel
theorem dX12_tipnow_149 : decode cX12_tipnow 149 = .ok (.if_icmp .gt 7, 3) := by decide +kernel
theorem dX12_tipnow_152 : decode cX12_tipnow 152 = .ok (.iconst 1, 1) := by decide +kernel
theorem dX12_tipnow_153 : decode cX12_tipnow 153 = .ok (.goto 4, 3) := by decide +kernel
theorem dX12_tipnow_156 : decode cX12_tipnow 156 = .ok (.iconst 0, 1) := by decide +kernel
theorem dX12_tipnow_157 : decode cX12_tipnow 157 = .ok (.istore 7, 2) := by decide +kernel
theorem dX12_tipnow_159 : decode cX12_tipnow 159 = .ok (.aload_n 0, 1) := by decide +kernel
theorem dX12_tipnow_160 : decode cX12_tipnow 160 = .ok (.iconst 0, 1) := by decide +kernel
theorem dX12_tipnow_161 : decode cX12_tipnow 161 = .ok (.putfield 134, 3) := by decide +kernel
theorem dX12_tipnow_164 : decode cX12_tipnow 164 = .ok (.aload_n 0, 1) := by decide +kernel
theorem dX12_tipnow_165 : decode cX12_tipnow 165 = .ok (.iload 5, 2) := by decide +kernel
theorem dX12_tipnow_167 : decode cX12_tipnow 167 = .ok (.i2l, 1) := by decide +kernel
theorem dX12_tipnow_168 : decode cX12_tipnow 168 = .ok (.invokevirtual 371, 3) := by decide +kernel
theorem dX12_tipnow_171 : decode cX12_tipnow 171 = .ok (.aload_n 0, 1) := by decide +kernel
theorem dX12_tipnow_172 : decode cX12_tipnow 172 = .ok (.iload 7, 2) := by decide +kernel
theorem dX12_tipnow_174 : decode cX12_tipnow 174 = .ok (.ifCond .eq 9, 3) := by decide +kernel
theorem dX12_tipnow_177 : decode cX12_tipnow 177 = .ok (.iload 6, 2) := by decide +kernel
theorem dX12_tipnow_179 : decode cX12_tipnow 179 = .ok (.i2l, 1) := by decide +kernel
theorem dX12_tipnow_180 : decode cX12_tipnow 180 = .ok (.goto 6, 3) := by decide +kernel
theorem dX12_tipnow_183 : decode cX12_tipnow 183 = .ok (.ldc2_w 412, 3) := by decide +kernel
theorem dX12_tipnow_186 : decode cX12_tipnow 186 = .ok (.invokevirtual 371, 3) := by decide +kernel
theorem dX12_tipnow_189 : decode cX12_tipnow 189 = .ok (.iload 7, 2) := by decide +kernel
theorem dX12_tipnow_191 : decode cX12_tipnow 191 = .ok (.ifCond .ne 7, 3) := by decide +kernel
theorem dX12_tipnow_194 : decode cX12_tipnow 194 = .ok (.iconst 2, 1) := by decide +kernel
theorem dX12_tipnow_195 : decode cX12_tipnow 195 = .ok (.goto 28, 3) := by decide +kernel
theorem dX12_tipnow_198 : decode cX12_tipnow 198 = .ok (.iload 5, 2) := by decide +kernel
theorem dX12_tipnow_200 : decode cX12_tipnow 200 = .ok (.iload 6, 2) := by decide +kernel
theorem dX12_tipnow_202 : decode cX12_tipnow 202 = .ok (.if_icmp .ge 17, 3) := by decide +kernel
theorem dX12_tipnow_205 : decode cX12_tipnow 205 = .ok (.aload_n 0, 1) := by decide +kernel
theorem dX12_tipnow_206 : decode cX12_tipnow 206 = .ok (.getfield 42, 3) := by decide +kernel
theorem dX12_tipnow_209 : decode cX12_tipnow 209 = .ok (.bipush 96, 2) := by decide +kernel
theorem dX12_tipnow_211 : decode cX12_tipnow 211 = .ok (.iaload, 1) := by decide +kernel
theorem dX12_tipnow_212 : decode cX12_tipnow 212 = .ok (.ifCond .le 7, 3) := by decide +kernel
theorem dX12_tipnow_215 : decode cX12_tipnow 215 = .ok (.iconst 1, 1) := by decide +kernel
theorem dX12_tipnow_216 : decode cX12_tipnow 216 = .ok (.goto 4, 3) := by decide +kernel
theorem dX12_tipnow_219 : decode cX12_tipnow 219 = .ok (.iconst 0, 1) := by decide +kernel
theorem dX12_tipnow_220 : decode cX12_tipnow 220 = .ok (.invokestatic 166, 3) := by decide +kernel
theorem dX12_tipnow_223 : decode cX12_tipnow 223 = .ok (.ireturn, 1) := by decide +kernel
theorem dX12_sumOf_0 : decode cX12_sumOf 0 = .ok (.iconst 0, 1) := by decide +kernel
theorem dX12_sumOf_1 : decode cX12_sumOf 1 = .ok (.istore_n 2, 1) := by decide +kernel
theorem dX12_sumOf_2 : decode cX12_sumOf 2 = .ok (.iconst 0, 1) := by decide +kernel
theorem dX12_sumOf_3 : decode cX12_sumOf 3 = .ok (.istore_n 3, 1) := by decide +kernel
theorem dX12_sumOf_4 : decode cX12_sumOf 4 = .ok (.iload_n 3, 1) := by decide +kernel
theorem dX12_sumOf_5 : decode cX12_sumOf 5 = .ok (.aload_n 0, 1) := by decide +kernel
theorem dX12_sumOf_6 : decode cX12_sumOf 6 = .ok (.getfield 137, 3) := by decide +kernel
theorem dX12_sumOf_9 : decode cX12_sumOf 9 = .ok (.if_icmp .ge 29, 3) := by decide +kernel
theorem dX12_sumOf_12 : decode cX12_sumOf 12 = .ok (.iload_n 2, 1) := by decide +kernel
theorem dX12_sumOf_13 : decode cX12_sumOf 13 = .ok (.iload_n 1, 1) := by decide +kernel
theorem dX12_sumOf_14 : decode cX12_sumOf 14 = .ok (.iload_n 3, 1) := by decide +kernel
theorem dX12_sumOf_15 : decode cX12_sumOf 15 = .ok (.invokestatic 425, 3) := by decide +kernel
theorem dX12_sumOf_18 : decode cX12_sumOf 18 = .ok (.ifCond .eq 11, 3) := by decide +kernel
theorem dX12_sumOf_21 : decode cX12_sumOf 21 = .ok (.aload_n 0, 1) := by decide +kernel
theorem dX12_sumOf_22 : decode cX12_sumOf 22 = .ok (.iload_n 3, 1) := by decide +kernel
theorem dX12_sumOf_23 : decode cX12_sumOf 23 = .ok (.invokevirtual 403, 3) := by decide +kernel
theorem dX12_sumOf_26 : decode cX12_sumOf 26 = .ok (.goto 4, 3) := by decide +kernel
theorem dX12_sumOf_29 : decode cX12_sumOf 29 = .ok (.iconst 0, 1) := by decide +kernel
theorem dX12_sumOf_30 : decode cX12_sumOf 30 = .ok (.iadd, 1) := by decide +kernel
theorem dX12_sumOf_31 : decode cX12_sumOf 31 = .ok (.istore_n 2, 1) := by decide +kernel
theorem dX12_sumOf_32 : decode cX12_sumOf 32 = .ok (.iinc 3 1, 3) := by decide +kernel
theorem dX12_sumOf_35 : decode cX12_sumOf 35 = .ok (.goto (-31), 3) := by decide +kernel
theorem dX12_sumOf_38 : decode cX12_sumOf 38 = .ok (.iload_n 2, 1) := by decide +kernel
theorem dX12_sumOf_39 : decode cX12_sumOf 39 = .ok (.ireturn, 1) := by decide +kernel
theorem dX12_share_0 : decode cX12_share 0 = .ok (.aload_n 0, 1) := by decide +kernel
theorem dX12_share_1 : decode cX12_share 1 = .ok (.iconst 0, 1) := by decide +kernel
theorem dX12_share_2 : decode cX12_share 2 = .ok (.putfield 126, 3) := by decide +kernel
theorem dX12_share_5 : decode cX12_share 5 = .ok (.iload_n 1, 1) := by decide +kernel
theorem dX12_share_6 : decode cX12_share 6 = .ok (.i2l, 1) := by decide +kernel
theorem dX12_share_7 : decode cX12_share 7 = .ok (.lconst 0, 1) := by decide +kernel
theorem dX12_share_8 : decode cX12_share 8 = .ok (.aload_n 0, 1) := by decide +kernel
theorem dX12_share_9 : decode cX12_share 9 = .ok (.invokevirtual 438, 3) := by decide +kernel
theorem dX12_share_12 : decode cX12_share 12 = .ok (.i2l, 1) := by decide +kernel
theorem dX12_share_13 : decode cX12_share 13 = .ok (.invokestatic 140, 3) := by decide +kernel
theorem dX12_share_16 : decode cX12_share 16 = .ok (.ifCond .ne 5, 3) := by decide +kernel
theorem dX12_share_19 : decode cX12_share 19 = .ok (.iconst (-1), 1) := by decide +kernel
theorem dX12_share_20 : decode cX12_share 20 = .ok (.ireturn, 1) := by decide +kernel
theorem dX12_share_21 : decode cX12_share 21 = .ok (.iconst 0, 1) := by decide +kernel
theorem dX12_share_22 : decode cX12_share 22 = .ok (.istore_n 2, 1) := by decide +kernel
theorem dX12_share_23 : decode cX12_share 23 = .ok (.aload_n 0, 1) := by decide +kernel
theorem dX12_share_24 : decode cX12_share 24 = .ok (.iload_n 1, 1) := by decide +kernel
theorem dX12_share_25 : decode cX12_share 25 = .ok (.invokevirtual 451, 3) := by decide +kernel
theorem dX12_share_28 : decode cX12_share 28 = .ok (.istore_n 3, 1) := by decide +kernel
theorem dX12_share_29 : decode cX12_share 29 = .ok (.iconst 0, 1) := by decide +kernel
theorem dX12_share_30 : decode cX12_share 30 = .ok (.istore 4, 2) := by decide +kernel
theorem dX12_share_32 : decode cX12_share 32 = .ok (.iconst 1, 1) := by decide +kernel
theorem dX12_share_33 : decode cX12_share 33 = .ok (.istore 5, 2) := by decide +kernel
theorem dX12_share_35 : decode cX12_share 35 = .ok (.iload 5, 2) := by decide +kernel
theorem dX12_share_37 : decode cX12_share 37 = .ok (.iload_n 1, 1) := by decide +kernel
theorem dX12_share_38 : decode cX12_share 38 = .ok (.if_icmp .gt 69, 3) := by decide +kernel
theorem dX12_share_41 : decode cX12_share 41 = .ok (.iload 5, 2) := by decide +kernel
theorem dX12_share_43 : decode cX12_share 43 = .ok (.iload_n 1, 1) := by decide +kernel
theorem dX12_share_44 : decode cX12_share 44 = .ok (.iconst (-1), 1) := by decide +kernel
theorem dX12_share_45 : decode cX12_share 45 = .ok (.ixor, 1) := by decide +kernel
theorem dX12_share_46 : decode cX12_share 46 = .ok (.iand, 1) := by decide +kernel
theorem dX12_share_47 : decode cX12_share 47 = .ok (.ifCond .ne 54, 3) := by decide +kernel
theorem dX12_share_50 : decode cX12_share 50 = .ok (.aload_n 0, 1) := by decide +kernel
theorem dX12_share_51 : decode cX12_share 51 = .ok (.iload 5, 2) := by decide +kernel
theorem dX12_share_53 : decode cX12_share 53 = .ok (.invokevirtual 451, 3) := by decide +kernel
theorem dX12_share_56 : decode cX12_share 56 = .ok (.istore 6, 2) := by decide +kernel
theorem dX12_share_58 : decode cX12_share 58 = .ok (.aload_n 0, 1) := by decide +kernel
theorem dX12_share_59 : decode cX12_share 59 = .ok (.iload_n 1, 1) := by decide +kernel
theorem dX12_share_60 : decode cX12_share 60 = .ok (.iload 5, 2) := by decide +kernel
theorem dX12_share_62 : decode cX12_share 62 = .ok (.iconst (-1), 1) := by decide +kernel
theorem dX12_share_63 : decode cX12_share 63 = .ok (.ixor, 1) := by decide +kernel
theorem dX12_share_64 : decode cX12_share 64 = .ok (.iand, 1) := by decide +kernel
theorem dX12_share_65 : decode cX12_share 65 = .ok (.invokevirtual 451, 3) := by decide +kernel
theorem dX12_share_68 : decode cX12_share 68 = .ok (.istore 7, 2) := by decide +kernel
theorem dX12_share_70 : decode cX12_share 70 = .ok (.iload 6, 2) := by decide +kernel
theorem dX12_share_72 : decode cX12_share 72 = .ok (.iload 7, 2) := by decide +kernel
theorem dX12_share_74 : decode cX12_share 74 = .ok (.invokestatic 257, 3) := by decide +kernel
theorem dX12_share_77 : decode cX12_share 77 = .ok (.iload_n 3, 1) := by decide +kernel
theorem dX12_share_78 : decode cX12_share 78 = .ok (.if_icmp .ge 23, 3) := by decide +kernel
theorem dX12_share_81 : decode cX12_share 81 = .ok (.iload 5, 2) := by decide +kernel
theorem dX12_share_83 : decode cX12_share 83 = .ok (.istore_n 2, 1) := by decide +kernel
theorem dX12_share_84 : decode cX12_share 84 = .ok (.iload 6, 2) := by decide +kernel
theorem dX12_share_86 : decode cX12_share 86 = .ok (.iload 7, 2) := by decide +kernel
theorem dX12_share_88 : decode cX12_share 88 = .ok (.invokestatic 257, 3) := by decide +kernel
theorem dX12_share_91 : decode cX12_share 91 = .ok (.istore_n 3, 1) := by decide +kernel
theorem dX12_share_92 : decode cX12_share 92 = .ok (.iload 6, 2) := by decide +kernel
theorem dX12_share_94 : decode cX12_share 94 = .ok (.iload 7, 2) := by decide +kernel
theorem dX12_share_96 : decode cX12_share 96 = .ok (.invokestatic 157, 3) := by decide +kernel
theorem dX12_share_99 : decode cX12_share 99 = .ok (.istore 4, 2) := by decide +kernel
theorem dX12_share_101 : decode cX12_share 101 = .ok (.iinc 5 1, 3) := by decide +kernel
theorem dX12_share_104 : decode cX12_share 104 = .ok (.goto (-69), 3) := by decide +kernel
theorem dX12_share_107 : decode cX12_share 107 = .ok (.aload_n 0, 1) := by decide +kernel
theorem dX12_share_108 : decode cX12_share 108 = .ok (.iconst 0, 1) := by decide +kernel
theorem dX12_share_109 : decode cX12_share 109 = .ok (.putfield 134, 3) := by decide +kernel
theorem dX12_share_112 : decode cX12_share 112 = .ok (.aload_n 0, 1) := by decide +kernel
theorem dX12_share_113 : decode cX12_share 113 = .ok (.iload_n 2, 1) := by decide +kernel
theorem dX12_share_114 : decode cX12_share 114 = .ok (.i2l, 1) := by decide +kernel
theorem dX12_share_115 : decode cX12_share 115 = .ok (.invokevirtual 371, 3) := by decide +kernel
theorem dX12_share_118 : decode cX12_share 118 = .ok (.aload_n 0, 1) := by decide +kernel
theorem dX12_share_119 : decode cX12_share 119 = .ok (.iload 4, 2) := by decide +kernel
theorem dX12_share_121 : decode cX12_share 121 = .ok (.i2l, 1) := by decide +kernel
theorem dX12_share_122 : decode cX12_share 122 = .ok (.invokevirtual 371, 3) := by decide +kernel
theorem dX12_share_125 : decode cX12_share 125 = .ok (.iload_n 3, 1) := by decide +kernel
theorem dX12_share_126 : decode cX12_share 126 = .ok (.ireturn, 1) := by decide +kernel
theorem dX12_movesFrom_0 : decode cX12_movesFrom 0 = .ok (.iload 4, 2) := by decide +kernel
theorem dX12_movesFrom_2 : decode cX12_movesFrom 2 = .ok (.aload_n 0, 1) := by decide +kernel
theorem dX12_movesFrom_3 : decode cX12_movesFrom 3 = .ok (.getfield 454, 3) := by decide +kernel
theorem dX12_movesFrom_6 : decode cX12_movesFrom 6 = .ok (.if_icmp .gt 29, 3) := by decide +kernel
theorem dX12_movesFrom_9 : decode cX12_movesFrom 9 = .ok (.iload 4, 2) := by decide +kernel
theorem dX12_movesFrom_11 : decode cX12_movesFrom 11 = .ok (.aload_n 0, 1) := by decide +kernel
theorem dX12_movesFrom_12 : decode cX12_movesFrom 12 = .ok (.getfield 454, 3) := by decide +kernel
theorem dX12_movesFrom_15 : decode cX12_movesFrom 15 = .ok (.if_icmp .ne 21, 3) := by decide +kernel
theorem dX12_movesFrom_18 : decode cX12_movesFrom 18 = .ok (.iload_n 1, 1) := by decide +kernel
theorem dX12_movesFrom_19 : decode cX12_movesFrom 19 = .ok (.aload_n 0, 1) := by decide +kernel
theorem dX12_movesFrom_20 : decode cX12_movesFrom 20 = .ok (.getfield 457, 3) := by decide +kernel
theorem dX12_movesFrom_23 : decode cX12_movesFrom 23 = .ok (.if_icmp .ne 13, 3) := by decide +kernel
theorem dX12_movesFrom_26 : decode cX12_movesFrom 26 = .ok (.iload 5, 2) := by decide +kernel
theorem dX12_movesFrom_28 : decode cX12_movesFrom 28 = .ok (.aload_n 0, 1) := by decide +kernel
theorem dX12_movesFrom_29 : decode cX12_movesFrom 29 = .ok (.getfield 460, 3) := by decide +kernel
theorem dX12_movesFrom_32 : decode cX12_movesFrom 32 = .ok (.if_icmp .lt 4, 3) := by decide +kernel
theorem dX12_movesFrom_35 : decode cX12_movesFrom 35 = .ok (.return_, 1) := by decide +kernel
theorem dX12_movesFrom_36 : decode cX12_movesFrom 36 = .ok (.iload_n 1, 1) := by decide +kernel
theorem dX12_movesFrom_37 : decode cX12_movesFrom 37 = .ok (.aload_n 0, 1) := by decide +kernel
theorem dX12_movesFrom_38 : decode cX12_movesFrom 38 = .ok (.getfield 457, 3) := by decide +kernel
theorem dX12_movesFrom_41 : decode cX12_movesFrom 41 = .ok (.if_icmp .ne 45, 3) := by decide +kernel
theorem dX12_movesFrom_44 : decode cX12_movesFrom 44 = .ok (.aload_n 0, 1) := by decide +kernel
theorem dX12_movesFrom_45 : decode cX12_movesFrom 45 = .ok (.iload 4, 2) := by decide +kernel
theorem dX12_movesFrom_47 : decode cX12_movesFrom 47 = .ok (.putfield 454, 3) := by decide +kernel
theorem dX12_movesFrom_50 : decode cX12_movesFrom 50 = .ok (.aload_n 0, 1) := by decide +kernel
theorem dX12_movesFrom_51 : decode cX12_movesFrom 51 = .ok (.iload 5, 2) := by decide +kernel
theorem dX12_movesFrom_53 : decode cX12_movesFrom 53 = .ok (.putfield 460, 3) := by decide +kernel
theorem dX12_movesFrom_56 : decode cX12_movesFrom 56 = .ok (.iconst 0, 1) := by decide +kernel
theorem dX12_movesFrom_57 : decode cX12_movesFrom 57 = .ok (.istore 6, 2) := by decide +kernel
theorem dX12_movesFrom_59 : decode cX12_movesFrom 59 = .ok (.iload 6, 2) := by decide +kernel
theorem dX12_movesFrom_61 : decode cX12_movesFrom 61 = .ok (.iload_n 1, 1) := by decide +kernel
theorem dX12_movesFrom_62 : decode cX12_movesFrom 62 = .ok (.if_icmp .ge 23, 3) := by decide +kernel
theorem dX12_movesFrom_65 : decode cX12_movesFrom 65 = .ok (.aload_n 0, 1) := by decide +kernel
theorem dX12_movesFrom_66 : decode cX12_movesFrom 66 = .ok (.getfield 99, 3) := by decide +kernel
theorem dX12_movesFrom_69 : decode cX12_movesFrom 69 = .ok (.iload 6, 2) := by decide +kernel
theorem dX12_movesFrom_71 : decode cX12_movesFrom 71 = .ok (.aload_n 0, 1) := by decide +kernel
theorem dX12_movesFrom_72 : decode cX12_movesFrom 72 = .ok (.getfield 96, 3) := by decide +kernel
theorem dX12_movesFrom_75 : decode cX12_movesFrom 75 = .ok (.iload 6, 2) := by decide +kernel
theorem dX12_movesFrom_77 : decode cX12_movesFrom 77 = .ok (.iaload, 1) := by decide +kernel
theorem dX12_movesFrom_78 : decode cX12_movesFrom 78 = .ok (.iastore, 1) := by decide +kernel
theorem dX12_movesFrom_79 : decode cX12_movesFrom 79 = .ok (.iinc 6 1, 3) := by decide +kernel
theorem dX12_movesFrom_82 : decode cX12_movesFrom 82 = .ok (.goto (-23), 3) := by decide +kernel
theorem dX12_movesFrom_85 : decode cX12_movesFrom 85 = .ok (.return_, 1) := by decide +kernel
theorem dX12_movesFrom_86 : decode cX12_movesFrom 86 = .ok (.iload_n 2, 1) := by decide +kernel
theorem dX12_movesFrom_87 : decode cX12_movesFrom 87 = .ok (.iconst 1, 1) := by decide +kernel
theorem dX12_movesFrom_88 : decode cX12_movesFrom 88 = .ok (.iadd, 1) := by decide +kernel
theorem dX12_movesFrom_89 : decode cX12_movesFrom 89 = .ok (.istore 6, 2) := by decide +kernel
theorem dX12_movesFrom_91 : decode cX12_movesFrom 91 = .ok (.iload 6, 2) := by decide +kernel
theorem dX12_movesFrom_93 : decode cX12_movesFrom 93 = .ok (.bipush 6, 2) := by decide +kernel
theorem dX12_movesFrom_95 : decode cX12_movesFrom 95 = .ok (.if_icmp .gt 88, 3) := by decide +kernel
theorem dX12_movesFrom_98 : decode cX12_movesFrom 98 = .ok (.aload_n 0, 1) := by decide +kernel
theorem dX12_movesFrom_99 : decode cX12_movesFrom 99 = .ok (.getfield 93, 3) := by decide +kernel
theorem dX12_movesFrom_102 : decode cX12_movesFrom 102 = .ok (.iload 6, 2) := by decide +kernel
theorem dX12_movesFrom_104 : decode cX12_movesFrom 104 = .ok (.iaload, 1) := by decide +kernel
theorem dX12_movesFrom_105 : decode cX12_movesFrom 105 = .ok (.aload_n 0, 1) := by decide +kernel
theorem dX12_movesFrom_106 : decode cX12_movesFrom 106 = .ok (.getfield 102, 3) := by decide +kernel
theorem dX12_movesFrom_109 : decode cX12_movesFrom 109 = .ok (.iload_n 1, 1) := by decide +kernel
theorem dX12_movesFrom_110 : decode cX12_movesFrom 110 = .ok (.iaload, 1) := by decide +kernel
theorem dX12_movesFrom_111 : decode cX12_movesFrom 111 = .ok (.iadd, 1) := by decide +kernel
theorem dX12_movesFrom_112 : decode cX12_movesFrom 112 = .ok (.iload_n 3, 1) := by decide +kernel
theorem dX12_movesFrom_113 : decode cX12_movesFrom 113 = .ok (.if_icmp .gt 64, 3) := by decide +kernel
theorem dX12_movesFrom_116 : decode cX12_movesFrom 116 = .ok (.aload_n 0, 1) := by decide +kernel
theorem dX12_movesFrom_117 : decode cX12_movesFrom 117 = .ok (.getfield 93, 3) := by decide +kernel
theorem dX12_movesFrom_120 : decode cX12_movesFrom 120 = .ok (.iload 6, 2) := by decide +kernel
theorem dX12_movesFrom_122 : decode cX12_movesFrom 122 = .ok (.dup2, 1) := by decide +kernel
theorem dX12_movesFrom_123 : decode cX12_movesFrom 123 = .ok (.iaload, 1) := by decide +kernel
theorem dX12_movesFrom_124 : decode cX12_movesFrom 124 = .ok (.aload_n 0, 1) := by decide +kernel
theorem dX12_movesFrom_125 : decode cX12_movesFrom 125 = .ok (.getfield 102, 3) := by decide +kernel
theorem dX12_movesFrom_128 : decode cX12_movesFrom 128 = .ok (.iload_n 1, 1) := by decide +kernel
theorem dX12_movesFrom_129 : decode cX12_movesFrom 129 = .ok (.iaload, 1) := by decide +kernel
theorem dX12_movesFrom_130 : decode cX12_movesFrom 130 = .ok (.iadd, 1) := by decide +kernel
theorem dX12_movesFrom_131 : decode cX12_movesFrom 131 = .ok (.iastore, 1) := by decide +kernel
theorem dX12_movesFrom_132 : decode cX12_movesFrom 132 = .ok (.aload_n 0, 1) := by decide +kernel
theorem dX12_movesFrom_133 : decode cX12_movesFrom 133 = .ok (.getfield 96, 3) := by decide +kernel
theorem dX12_movesFrom_136 : decode cX12_movesFrom 136 = .ok (.iload_n 1, 1) := by decide +kernel
theorem dX12_movesFrom_137 : decode cX12_movesFrom 137 = .ok (.iload 6, 2) := by decide +kernel
theorem dX12_movesFrom_139 : decode cX12_movesFrom 139 = .ok (.iastore, 1) := by decide +kernel
theorem dX12_movesFrom_140 : decode cX12_movesFrom 140 = .ok (.aload_n 0, 1) := by decide +kernel
theorem dX12_movesFrom_141 : decode cX12_movesFrom 141 = .ok (.iload_n 1, 1) := by decide +kernel
theorem dX12_movesFrom_142 : decode cX12_movesFrom 142 = .ok (.iconst 1, 1) := by decide +kernel
theorem dX12_movesFrom_143 : decode cX12_movesFrom 143 = .ok (.iadd, 1) := by decide +kernel
theorem dX12_movesFrom_144 : decode cX12_movesFrom 144 = .ok (.iload_n 2, 1) := by decide +kernel
theorem dX12_movesFrom_145 : decode cX12_movesFrom 145 = .ok (.iload_n 3, 1) := by decide +kernel
theorem dX12_movesFrom_146 : decode cX12_movesFrom 146 = .ok (.iload 4, 2) := by decide +kernel
theorem dX12_movesFrom_148 : decode cX12_movesFrom 148 = .ok (.iload 6, 2) := by decide +kernel
theorem dX12_movesFrom_150 : decode cX12_movesFrom 150 = .ok (.invokestatic 257, 3) := by decide +kernel
theorem dX12_movesFrom_153 : decode cX12_movesFrom 153 = .ok (.iload 5, 2) := by decide +kernel
theorem dX12_movesFrom_155 : decode cX12_movesFrom 155 = .ok (.iload 6, 2) := by decide +kernel
theorem dX12_movesFrom_157 : decode cX12_movesFrom 157 = .ok (.iadd, 1) := by decide +kernel
theorem dX12_movesFrom_158 : decode cX12_movesFrom 158 = .ok (.invokevirtual 463, 3) := by decide +kernel
theorem dX12_movesFrom_161 : decode cX12_movesFrom 161 = .ok (.aload_n 0, 1) := by decide +kernel
theorem dX12_movesFrom_162 : decode cX12_movesFrom 162 = .ok (.getfield 93, 3) := by decide +kernel
theorem dX12_movesFrom_165 : decode cX12_movesFrom 165 = .ok (.iload 6, 2) := by decide +kernel
theorem dX12_movesFrom_167 : decode cX12_movesFrom 167 = .ok (.dup2, 1) := by decide +kernel
theorem dX12_movesFrom_168 : decode cX12_movesFrom 168 = .ok (.iaload, 1) := by decide +kernel
theorem dX12_movesFrom_169 : decode cX12_movesFrom 169 = .ok (.aload_n 0, 1) := by decide +kernel
theorem dX12_movesFrom_170 : decode cX12_movesFrom 170 = .ok (.getfield 102, 3) := by decide +kernel
theorem dX12_movesFrom_173 : decode cX12_movesFrom 173 = .ok (.iload_n 1, 1) := by decide +kernel
theorem dX12_movesFrom_174 : decode cX12_movesFrom 174 = .ok (.iaload, 1) := by decide +kernel
theorem dX12_movesFrom_175 : decode cX12_movesFrom 175 = .ok (.isub, 1) := by decide +kernel
theorem dX12_movesFrom_176 : decode cX12_movesFrom 176 = .ok (.iastore, 1) := by decide +kernel
theorem dX12_movesFrom_177 : decode cX12_movesFrom 177 = .ok (.iinc 6 1, 3) := by decide +kernel
theorem dX12_movesFrom_180 : decode cX12_movesFrom 180 = .ok (.goto (-89), 3) := by decide +kernel
theorem dX12_movesFrom_183 : decode cX12_movesFrom 183 = .ok (.return_, 1) := by decide +kernel
theorem dX12_laysDays_0 : decode cX12_laysDays 0 = .ok (.iconst 0, 1) := by decide +kernel
theorem dX12_laysDays_1 : decode cX12_laysDays 1 = .ok (.istore_n 1, 1) := by decide +kernel
theorem dX12_laysDays_2 : decode cX12_laysDays 2 = .ok (.iload_n 1, 1) := by decide +kernel
theorem dX12_laysDays_3 : decode cX12_laysDays 3 = .ok (.bipush 6, 2) := by decide +kernel
theorem dX12_laysDays_5 : decode cX12_laysDays 5 = .ok (.if_icmp .gt 16, 3) := by decide +kernel
theorem dX12_laysDays_8 : decode cX12_laysDays 8 = .ok (.aload_n 0, 1) := by decide +kernel
theorem dX12_laysDays_9 : decode cX12_laysDays 9 = .ok (.getfield 93, 3) := by decide +kernel
theorem dX12_laysDays_12 : decode cX12_laysDays 12 = .ok (.iload_n 1, 1) := by decide +kernel
theorem dX12_laysDays_13 : decode cX12_laysDays 13 = .ok (.iconst 0, 1) := by decide +kernel
theorem dX12_laysDays_14 : decode cX12_laysDays 14 = .ok (.iastore, 1) := by decide +kernel
theorem dX12_laysDays_15 : decode cX12_laysDays 15 = .ok (.iinc 1 1, 3) := by decide +kernel
theorem dX12_laysDays_18 : decode cX12_laysDays 18 = .ok (.goto (-16), 3) := by decide +kernel
theorem dX12_laysDays_21 : decode cX12_laysDays 21 = .ok (.iconst 0, 1) := by decide +kernel
theorem dX12_laysDays_22 : decode cX12_laysDays 22 = .ok (.istore_n 1, 1) := by decide +kernel
theorem dX12_laysDays_23 : decode cX12_laysDays 23 = .ok (.iload_n 1, 1) := by decide +kernel
theorem dX12_laysDays_24 : decode cX12_laysDays 24 = .ok (.aload_n 0, 1) := by decide +kernel
theorem dX12_laysDays_25 : decode cX12_laysDays 25 = .ok (.getfield 137, 3) := by decide +kernel
theorem dX12_laysDays_28 : decode cX12_laysDays 28 = .ok (.if_icmp .ge 28, 3) := by decide +kernel
theorem dX12_laysDays_31 : decode cX12_laysDays 31 = .ok (.aload_n 0, 1) := by decide +kernel
theorem dX12_laysDays_32 : decode cX12_laysDays 32 = .ok (.getfield 93, 3) := by decide +kernel
theorem dX12_laysDays_35 : decode cX12_laysDays 35 = .ok (.aload_n 0, 1) := by decide +kernel
theorem dX12_laysDays_36 : decode cX12_laysDays 36 = .ok (.getfield 27, 3) := by decide +kernel
theorem dX12_laysDays_39 : decode cX12_laysDays 39 = .ok (.iload_n 1, 1) := by decide +kernel
theorem dX12_laysDays_40 : decode cX12_laysDays 40 = .ok (.iaload, 1) := by decide +kernel
theorem dX12_laysDays_41 : decode cX12_laysDays 41 = .ok (.dup2, 1) := by decide +kernel
theorem dX12_laysDays_42 : decode cX12_laysDays 42 = .ok (.iaload, 1) := by decide +kernel
theorem dX12_laysDays_43 : decode cX12_laysDays 43 = .ok (.aload_n 0, 1) := by decide +kernel
theorem dX12_laysDays_44 : decode cX12_laysDays 44 = .ok (.iload_n 1, 1) := by decide +kernel
theorem dX12_laysDays_45 : decode cX12_laysDays 45 = .ok (.invokevirtual 403, 3) := by decide +kernel
theorem dX12_laysDays_48 : decode cX12_laysDays 48 = .ok (.iadd, 1) := by decide +kernel
theorem dX12_laysDays_49 : decode cX12_laysDays 49 = .ok (.iastore, 1) := by decide +kernel
theorem dX12_laysDays_50 : decode cX12_laysDays 50 = .ok (.iinc 1 1, 3) := by decide +kernel
theorem dX12_laysDays_53 : decode cX12_laysDays 53 = .ok (.goto (-30), 3) := by decide +kernel
theorem dX12_laysDays_56 : decode cX12_laysDays 56 = .ok (.return_, 1) := by decide +kernel
theorem dX12_holiday_0 : decode cX12_holiday 0 = .ok (.aload_n 0, 1) := by decide +kernel
theorem dX12_holiday_1 : decode cX12_holiday 1 = .ok (.iconst 0, 1) := by decide +kernel
theorem dX12_holiday_2 : decode cX12_holiday 2 = .ok (.putfield 126, 3) := by decide +kernel
theorem dX12_holiday_5 : decode cX12_holiday 5 = .ok (.iload_n 1, 1) := by decide +kernel
theorem dX12_holiday_6 : decode cX12_holiday 6 = .ok (.i2l, 1) := by decide +kernel
theorem dX12_holiday_7 : decode cX12_holiday 7 = .ok (.lconst 0, 1) := by decide +kernel
theorem dX12_holiday_8 : decode cX12_holiday 8 = .ok (.ldc2_w 338, 3) := by decide +kernel
theorem dX12_holiday_11 : decode cX12_holiday 11 = .ok (.invokestatic 140, 3) := by decide +kernel
theorem dX12_holiday_14 : decode cX12_holiday 14 = .ok (.ifCond .eq 15, 3) := by decide +kernel
theorem dX12_holiday_17 : decode cX12_holiday 17 = .ok (.iload_n 2, 1) := by decide +kernel
theorem dX12_holiday_18 : decode cX12_holiday 18 = .ok (.i2l, 1) := by decide +kernel
theorem dX12_holiday_19 : decode cX12_holiday 19 = .ok (.lconst 0, 1) := by decide +kernel
theorem dX12_holiday_20 : decode cX12_holiday 20 = .ok (.ldc2_w 449, 3) := by decide +kernel
theorem dX12_holiday_23 : decode cX12_holiday 23 = .ok (.invokestatic 140, 3) := by decide +kernel
theorem dX12_holiday_26 : decode cX12_holiday 26 = .ok (.ifCond .ne 5, 3) := by decide +kernel
theorem dX12_holiday_29 : decode cX12_holiday 29 = .ok (.iconst (-1), 1) := by decide +kernel
theorem dX12_holiday_30 : decode cX12_holiday 30 = .ok (.ireturn, 1) := by decide +kernel
theorem dX12_holiday_31 : decode cX12_holiday 31 = .ok (.aload_n 0, 1) := by decide +kernel
theorem dX12_holiday_32 : decode cX12_holiday 32 = .ok (.iconst 0, 1) := by decide +kernel
theorem dX12_holiday_33 : decode cX12_holiday 33 = .ok (.putfield 457, 3) := by decide +kernel
theorem dX12_holiday_36 : decode cX12_holiday 36 = .ok (.iconst 0, 1) := by decide +kernel
theorem dX12_holiday_37 : decode cX12_holiday 37 = .ok (.istore_n 3, 1) := by decide +kernel
theorem dX12_holiday_38 : decode cX12_holiday 38 = .ok (.iload_n 3, 1) := by decide +kernel
theorem dX12_holiday_39 : decode cX12_holiday 39 = .ok (.aload_n 0, 1) := by decide +kernel
theorem dX12_holiday_40 : decode cX12_holiday 40 = .ok (.getfield 137, 3) := by decide +kernel
theorem dX12_holiday_43 : decode cX12_holiday 43 = .ok (.if_icmp .ge 43, 3) := by decide +kernel
theorem dX12_holiday_46 : decode cX12_holiday 46 = .ok (.aload_n 0, 1) := by decide +kernel
theorem dX12_holiday_47 : decode cX12_holiday 47 = .ok (.getfield 27, 3) := by decide +kernel
theorem dX12_holiday_50 : decode cX12_holiday 50 = .ok (.iload_n 3, 1) := by decide +kernel
theorem dX12_holiday_51 : decode cX12_holiday 51 = .ok (.iaload, 1) := by decide +kernel
theorem dX12_holiday_52 : decode cX12_holiday 52 = .ok (.iload_n 1, 1) := by decide +kernel
theorem dX12_holiday_53 : decode cX12_holiday 53 = .ok (.if_icmp .ne 27, 3) := by decide +kernel
theorem dX12_holiday_56 : decode cX12_holiday 56 = .ok (.aload_n 0, 1) := by decide +kernel
theorem dX12_holiday_57 : decode cX12_holiday 57 = .ok (.getfield 102, 3) := by decide +kernel
theorem dX12_holiday_60 : decode cX12_holiday 60 = .ok (.aload_n 0, 1) := by decide +kernel
theorem dX12_holiday_61 : decode cX12_holiday 61 = .ok (.getfield 457, 3) := by decide +kernel
theorem dX12_holiday_64 : decode cX12_holiday 64 = .ok (.aload_n 0, 1) := by decide +kernel
theorem dX12_holiday_65 : decode cX12_holiday 65 = .ok (.iload_n 3, 1) := by decide +kernel
theorem dX12_holiday_66 : decode cX12_holiday 66 = .ok (.invokevirtual 403, 3) := by decide +kernel
theorem dX12_holiday_69 : decode cX12_holiday 69 = .ok (.iastore, 1) := by decide +kernel
theorem dX12_holiday_70 : decode cX12_holiday 70 = .ok (.aload_n 0, 1) := by decide +kernel
theorem dX12_holiday_71 : decode cX12_holiday 71 = .ok (.dup, 1) := by decide +kernel
theorem dX12_holiday_72 : decode cX12_holiday 72 = .ok (.getfield 457, 3) := by decide +kernel
theorem dX12_holiday_75 : decode cX12_holiday 75 = .ok (.iconst 1, 1) := by decide +kernel
theorem dX12_holiday_76 : decode cX12_holiday 76 = .ok (.iadd, 1) := by decide +kernel
theorem dX12_holiday_77 : decode cX12_holiday 77 = .ok (.putfield 457, 3) := by decide +kernel
theorem dX12_holiday_80 : decode cX12_holiday 80 = .ok (.iinc 3 1, 3) := by decide +kernel
theorem dX12_holiday_83 : decode cX12_holiday 83 = .ok (.goto (-45), 3) := by decide +kernel
theorem dX12_holiday_86 : decode cX12_holiday 86 = .ok (.aload_n 0, 1) := by decide +kernel
theorem dX12_holiday_87 : decode cX12_holiday 87 = .ok (.getfield 457, 3) := by decide +kernel
theorem dX12_holiday_90 : decode cX12_holiday 90 = .ok (.ifCond .ne 10, 3) := by decide +kernel
theorem dX12_holiday_93 : decode cX12_holiday 93 = .ok (.aload_n 0, 1) := by decide +kernel
theorem dX12_holiday_94 : decode cX12_holiday 94 = .ok (.iconst 0, 1) := by decide +kernel
theorem dX12_holiday_95 : decode cX12_holiday 95 = .ok (.putfield 134, 3) := by decide +kernel
theorem dX12_holiday_98 : decode cX12_holiday 98 = .ok (.iconst 0, 1) := by decide +kernel
theorem dX12_holiday_99 : decode cX12_holiday 99 = .ok (.ireturn, 1) := by decide +kernel
theorem dX12_holiday_100 : decode cX12_holiday 100 = .ok (.aload_n 0, 1) := by decide +kernel
theorem dX12_holiday_101 : decode cX12_holiday 101 = .ok (.invokevirtual 467, 3) := by decide +kernel
theorem dX12_holiday_104 : decode cX12_holiday 104 = .ok (.aload_n 0, 1) := by decide +kernel
theorem dX12_holiday_105 : decode cX12_holiday 105 = .ok (.bipush 7, 2) := by decide +kernel
theorem dX12_holiday_107 : decode cX12_holiday 107 = .ok (.putfield 454, 3) := by decide +kernel
theorem dX12_holiday_110 : decode cX12_holiday 110 = .ok (.aload_n 0, 1) := by decide +kernel
theorem dX12_holiday_111 : decode cX12_holiday 111 = .ok (.iconst 0, 1) := by decide +kernel
theorem dX12_holiday_112 : decode cX12_holiday 112 = .ok (.putfield 460, 3) := by decide +kernel
theorem dX12_holiday_115 : decode cX12_holiday 115 = .ok (.aload_n 0, 1) := by decide +kernel
theorem dX12_holiday_116 : decode cX12_holiday 116 = .ok (.iconst 0, 1) := by decide +kernel
theorem dX12_holiday_117 : decode cX12_holiday 117 = .ok (.iload_n 1, 1) := by decide +kernel
theorem dX12_holiday_118 : decode cX12_holiday 118 = .ok (.iload_n 2, 1) := by decide +kernel
theorem dX12_holiday_119 : decode cX12_holiday 119 = .ok (.iconst 0, 1) := by decide +kernel
theorem dX12_holiday_120 : decode cX12_holiday 120 = .ok (.iconst 0, 1) := by decide +kernel
theorem dX12_holiday_121 : decode cX12_holiday 121 = .ok (.invokevirtual 463, 3) := by decide +kernel
theorem dX12_holiday_124 : decode cX12_holiday 124 = .ok (.aload_n 0, 1) := by decide +kernel
theorem dX12_holiday_125 : decode cX12_holiday 125 = .ok (.getfield 454, 3) := by decide +kernel
theorem dX12_holiday_128 : decode cX12_holiday 128 = .ok (.bipush 6, 2) := by decide +kernel
theorem dX12_holiday_130 : decode cX12_holiday 130 = .ok (.if_icmp .le 6, 3) := by decide +kernel
theorem dX12_holiday_133 : decode cX12_holiday 133 = .ok (.bipush (-2), 2) := by decide +kernel
theorem dX12_holiday_135 : decode cX12_holiday 135 = .ok (.ireturn, 1) := by decide +kernel
theorem dX12_holiday_136 : decode cX12_holiday 136 = .ok (.aload_n 0, 1) := by decide +kernel
theorem dX12_holiday_137 : decode cX12_holiday 137 = .ok (.iconst 0, 1) := by decide +kernel
theorem dX12_holiday_138 : decode cX12_holiday 138 = .ok (.putfield 134, 3) := by decide +kernel
theorem dX12_holiday_141 : decode cX12_holiday 141 = .ok (.iconst 0, 1) := by decide +kernel
theorem dX12_holiday_142 : decode cX12_holiday 142 = .ok (.istore_n 3, 1) := by decide +kernel
theorem dX12_holiday_143 : decode cX12_holiday 143 = .ok (.iload_n 3, 1) := by decide +kernel
theorem dX12_holiday_144 : decode cX12_holiday 144 = .ok (.aload_n 0, 1) := by decide +kernel
theorem dX12_holiday_145 : decode cX12_holiday 145 = .ok (.getfield 457, 3) := by decide +kernel
theorem dX12_holiday_148 : decode cX12_holiday 148 = .ok (.if_icmp .ge 20, 3) := by decide +kernel
theorem dX12_holiday_151 : decode cX12_holiday 151 = .ok (.aload_n 0, 1) := by decide +kernel
theorem dX12_holiday_152 : decode cX12_holiday 152 = .ok (.aload_n 0, 1) := by decide +kernel
theorem dX12_holiday_153 : decode cX12_holiday 153 = .ok (.getfield 99, 3) := by decide +kernel
theorem dX12_holiday_156 : decode cX12_holiday 156 = .ok (.iload_n 3, 1) := by decide +kernel
theorem dX12_holiday_157 : decode cX12_holiday 157 = .ok (.iaload, 1) := by decide +kernel
theorem dX12_holiday_158 : decode cX12_holiday 158 = .ok (.i2l, 1) := by decide +kernel
theorem dX12_holiday_159 : decode cX12_holiday 159 = .ok (.invokevirtual 371, 3) := by decide +kernel
theorem dX12_holiday_162 : decode cX12_holiday 162 = .ok (.iinc 3 1, 3) := by decide +kernel
theorem dX12_holiday_165 : decode cX12_holiday 165 = .ok (.goto (-22), 3) := by decide +kernel
theorem dX12_holiday_168 : decode cX12_holiday 168 = .ok (.aload_n 0, 1) := by decide +kernel
theorem dX12_holiday_169 : decode cX12_holiday 169 = .ok (.getfield 454, 3) := by decide +kernel
theorem dX12_holiday_172 : decode cX12_holiday 172 = .ok (.iload_n 1, 1) := by decide +kernel
theorem dX12_holiday_173 : decode cX12_holiday 173 = .ok (.isub, 1) := by decide +kernel
theorem dX12_holiday_174 : decode cX12_holiday 174 = .ok (.ireturn, 1) := by decide +kernel
theorem dX12_busiest_0 : decode cX12_busiest 0 = .ok (.aload_n 0, 1) := by decide +kernel
theorem dX12_busiest_1 : decode cX12_busiest 1 = .ok (.iconst 0, 1) := by decide +kernel
theorem dX12_busiest_2 : decode cX12_busiest 2 = .ok (.putfield 126, 3) := by decide +kernel
theorem dX12_busiest_5 : decode cX12_busiest 5 = .ok (.aload_n 0, 1) := by decide +kernel
theorem dX12_busiest_6 : decode cX12_busiest 6 = .ok (.invokevirtual 467, 3) := by decide +kernel
theorem dX12_busiest_9 : decode cX12_busiest 9 = .ok (.iconst 0, 1) := by decide +kernel
theorem dX12_busiest_10 : decode cX12_busiest 10 = .ok (.istore_n 1, 1) := by decide +kernel
theorem dX12_busiest_11 : decode cX12_busiest 11 = .ok (.aload_n 0, 1) := by decide +kernel
theorem dX12_busiest_12 : decode cX12_busiest 12 = .ok (.getfield 93, 3) := by decide +kernel
theorem dX12_busiest_15 : decode cX12_busiest 15 = .ok (.iconst 0, 1) := by decide +kernel
theorem dX12_busiest_16 : decode cX12_busiest 16 = .ok (.iaload, 1) := by decide +kernel
theorem dX12_busiest_17 : decode cX12_busiest 17 = .ok (.istore_n 2, 1) := by decide +kernel
theorem dX12_busiest_18 : decode cX12_busiest 18 = .ok (.iconst 1, 1) := by decide +kernel
theorem dX12_busiest_19 : decode cX12_busiest 19 = .ok (.istore_n 3, 1) := by decide +kernel
theorem dX12_busiest_20 : decode cX12_busiest 20 = .ok (.iload_n 3, 1) := by decide +kernel
theorem dX12_busiest_21 : decode cX12_busiest 21 = .ok (.bipush 6, 2) := by decide +kernel
theorem dX12_busiest_23 : decode cX12_busiest 23 = .ok (.if_icmp .gt 41, 3) := by decide +kernel
theorem dX12_busiest_26 : decode cX12_busiest 26 = .ok (.aload_n 0, 1) := by decide +kernel
theorem dX12_busiest_27 : decode cX12_busiest 27 = .ok (.getfield 93, 3) := by decide +kernel
theorem dX12_busiest_30 : decode cX12_busiest 30 = .ok (.iload_n 3, 1) := by decide +kernel
theorem dX12_busiest_31 : decode cX12_busiest 31 = .ok (.iaload, 1) := by decide +kernel
theorem dX12_busiest_32 : decode cX12_busiest 32 = .ok (.aload_n 0, 1) := by decide +kernel
theorem dX12_busiest_33 : decode cX12_busiest 33 = .ok (.getfield 93, 3) := by decide +kernel
theorem dX12_busiest_36 : decode cX12_busiest 36 = .ok (.iload_n 1, 1) := by decide +kernel
theorem dX12_busiest_37 : decode cX12_busiest 37 = .ok (.iaload, 1) := by decide +kernel
theorem dX12_busiest_38 : decode cX12_busiest 38 = .ok (.if_icmp .le 7, 3) := by decide +kernel
theorem dX12_busiest_41 : decode cX12_busiest 41 = .ok (.iload_n 3, 1) := by decide +kernel
theorem dX12_busiest_42 : decode cX12_busiest 42 = .ok (.goto 4, 3) := by decide +kernel
theorem dX12_busiest_45 : decode cX12_busiest 45 = .ok (.iload_n 1, 1) := by decide +kernel
theorem dX12_busiest_46 : decode cX12_busiest 46 = .ok (.istore_n 1, 1) := by decide +kernel
theorem dX12_busiest_47 : decode cX12_busiest 47 = .ok (.iload_n 2, 1) := by decide +kernel
theorem dX12_busiest_48 : decode cX12_busiest 48 = .ok (.aload_n 0, 1) := by decide +kernel
theorem dX12_busiest_49 : decode cX12_busiest 49 = .ok (.getfield 93, 3) := by decide +kernel
theorem dX12_busiest_52 : decode cX12_busiest 52 = .ok (.iload_n 3, 1) := by decide +kernel
theorem dX12_busiest_53 : decode cX12_busiest 53 = .ok (.iaload, 1) := by decide +kernel
theorem dX12_busiest_54 : decode cX12_busiest 54 = .ok (.invokestatic 157, 3) := by decide +kernel
theorem dX12_busiest_57 : decode cX12_busiest 57 = .ok (.istore_n 2, 1) := by decide +kernel
theorem dX12_busiest_58 : decode cX12_busiest 58 = .ok (.iinc 3 1, 3) := by decide +kernel
theorem dX12_busiest_61 : decode cX12_busiest 61 = .ok (.goto (-41), 3) := by decide +kernel
theorem dX12_busiest_64 : decode cX12_busiest 64 = .ok (.aload_n 0, 1) := by decide +kernel
theorem dX12_busiest_65 : decode cX12_busiest 65 = .ok (.iconst 0, 1) := by decide +kernel
theorem dX12_busiest_66 : decode cX12_busiest 66 = .ok (.putfield 134, 3) := by decide +kernel
theorem dX12_busiest_69 : decode cX12_busiest 69 = .ok (.aload_n 0, 1) := by decide +kernel
theorem dX12_busiest_70 : decode cX12_busiest 70 = .ok (.aload_n 0, 1) := by decide +kernel
theorem dX12_busiest_71 : decode cX12_busiest 71 = .ok (.getfield 93, 3) := by decide +kernel
theorem dX12_busiest_74 : decode cX12_busiest 74 = .ok (.iload_n 1, 1) := by decide +kernel
theorem dX12_busiest_75 : decode cX12_busiest 75 = .ok (.iaload, 1) := by decide +kernel
theorem dX12_busiest_76 : decode cX12_busiest 76 = .ok (.i2l, 1) := by decide +kernel
theorem dX12_busiest_77 : decode cX12_busiest 77 = .ok (.invokevirtual 371, 3) := by decide +kernel
theorem dX12_busiest_80 : decode cX12_busiest 80 = .ok (.aload_n 0, 1) := by decide +kernel
theorem dX12_busiest_81 : decode cX12_busiest 81 = .ok (.iload_n 2, 1) := by decide +kernel
theorem dX12_busiest_82 : decode cX12_busiest 82 = .ok (.i2l, 1) := by decide +kernel
theorem dX12_busiest_83 : decode cX12_busiest 83 = .ok (.invokevirtual 371, 3) := by decide +kernel
theorem dX12_busiest_86 : decode cX12_busiest 86 = .ok (.iload_n 1, 1) := by decide +kernel
theorem dX12_busiest_87 : decode cX12_busiest 87 = .ok (.ireturn, 1) := by decide +kernel
theorem dX12_weighed_0 : decode cX12_weighed 0 = .ok (.aload_n 0, 1) := by decide +kernel
theorem dX12_weighed_1 : decode cX12_weighed 1 = .ok (.iconst 0, 1) := by decide +kernel
theorem dX12_weighed_2 : decode cX12_weighed 2 = .ok (.putfield 126, 3) := by decide +kernel
theorem dX12_weighed_5 : decode cX12_weighed 5 = .ok (.iload_n 1, 1) := by decide +kernel
theorem dX12_weighed_6 : decode cX12_weighed 6 = .ok (.i2l, 1) := by decide +kernel
theorem dX12_weighed_7 : decode cX12_weighed 7 = .ok (.lconst 0, 1) := by decide +kernel
theorem dX12_weighed_8 : decode cX12_weighed 8 = .ok (.aload_n 0, 1) := by decide +kernel
theorem dX12_weighed_9 : decode cX12_weighed 9 = .ok (.invokevirtual 438, 3) := by decide +kernel
theorem dX12_weighed_12 : decode cX12_weighed 12 = .ok (.i2l, 1) := by decide +kernel
theorem dX12_weighed_13 : decode cX12_weighed 13 = .ok (.invokestatic 140, 3) := by decide +kernel
theorem dX12_weighed_16 : decode cX12_weighed 16 = .ok (.ifCond .eq 24, 3) := by decide +kernel
theorem dX12_weighed_19 : decode cX12_weighed 19 = .ok (.iload_n 2, 1) := by decide +kernel
theorem dX12_weighed_20 : decode cX12_weighed 20 = .ok (.i2l, 1) := by decide +kernel
theorem dX12_weighed_21 : decode cX12_weighed 21 = .ok (.lconst 0, 1) := by decide +kernel
theorem dX12_weighed_22 : decode cX12_weighed 22 = .ok (.ldc2_w 382, 3) := by decide +kernel
theorem dX12_weighed_25 : decode cX12_weighed 25 = .ok (.invokestatic 140, 3) := by decide +kernel
theorem dX12_weighed_28 : decode cX12_weighed 28 = .ok (.ifCond .eq 12, 3) := by decide +kernel
theorem dX12_weighed_31 : decode cX12_weighed 31 = .ok (.aload_n 0, 1) := by decide +kernel
theorem dX12_weighed_32 : decode cX12_weighed 32 = .ok (.getfield 470, 3) := by decide +kernel
theorem dX12_weighed_35 : decode cX12_weighed 35 = .ok (.bipush 10, 2) := by decide +kernel
theorem dX12_weighed_37 : decode cX12_weighed 37 = .ok (.if_icmp .ne 5, 3) := by decide +kernel
theorem dX12_weighed_40 : decode cX12_weighed 40 = .ok (.iconst (-1), 1) := by decide +kernel
theorem dX12_weighed_41 : decode cX12_weighed 41 = .ok (.ireturn, 1) := by decide +kernel
theorem dX12_weighed_42 : decode cX12_weighed 42 = .ok (.aload_n 0, 1) := by decide +kernel
theorem dX12_weighed_43 : decode cX12_weighed 43 = .ok (.getfield 105, 3) := by decide +kernel
theorem dX12_weighed_46 : decode cX12_weighed 46 = .ok (.aload_n 0, 1) := by decide +kernel
theorem dX12_weighed_47 : decode cX12_weighed 47 = .ok (.getfield 470, 3) := by decide +kernel
theorem dX12_weighed_50 : decode cX12_weighed 50 = .ok (.iload_n 1, 1) := by decide +kernel
theorem dX12_weighed_51 : decode cX12_weighed 51 = .ok (.iastore, 1) := by decide +kernel
theorem dX12_weighed_52 : decode cX12_weighed 52 = .ok (.aload_n 0, 1) := by decide +kernel
theorem dX12_weighed_53 : decode cX12_weighed 53 = .ok (.getfield 108, 3) := by decide +kernel
theorem dX12_weighed_56 : decode cX12_weighed 56 = .ok (.aload_n 0, 1) := by decide +kernel
theorem dX12_weighed_57 : decode cX12_weighed 57 = .ok (.getfield 470, 3) := by decide +kernel
theorem dX12_weighed_60 : decode cX12_weighed 60 = .ok (.iload_n 2, 1) := by decide +kernel
theorem dX12_weighed_61 : decode cX12_weighed 61 = .ok (.iastore, 1) := by decide +kernel
theorem dX12_weighed_62 : decode cX12_weighed 62 = .ok (.aload_n 0, 1) := by decide +kernel
theorem dX12_weighed_63 : decode cX12_weighed 63 = .ok (.dup, 1) := by decide +kernel
theorem dX12_weighed_64 : decode cX12_weighed 64 = .ok (.getfield 470, 3) := by decide +kernel
theorem dX12_weighed_67 : decode cX12_weighed 67 = .ok (.iconst 1, 1) := by decide +kernel
theorem dX12_weighed_68 : decode cX12_weighed 68 = .ok (.iadd, 1) := by decide +kernel
theorem dX12_weighed_69 : decode cX12_weighed 69 = .ok (.putfield 470, 3) := by decide +kernel
theorem dX12_weighed_72 : decode cX12_weighed 72 = .ok (.aload_n 0, 1) := by decide +kernel
theorem dX12_weighed_73 : decode cX12_weighed 73 = .ok (.getfield 470, 3) := by decide +kernel
theorem dX12_weighed_76 : decode cX12_weighed 76 = .ok (.ireturn, 1) := by decide +kernel
theorem dX12_forget_0 : decode cX12_forget 0 = .ok (.aload_n 0, 1) := by decide +kernel
theorem dX12_forget_1 : decode cX12_forget 1 = .ok (.iconst 0, 1) := by decide +kernel
theorem dX12_forget_2 : decode cX12_forget 2 = .ok (.putfield 126, 3) := by decide +kernel
theorem dX12_forget_5 : decode cX12_forget 5 = .ok (.aload_n 0, 1) := by decide +kernel
theorem dX12_forget_6 : decode cX12_forget 6 = .ok (.getfield 470, 3) := by decide +kernel
theorem dX12_forget_9 : decode cX12_forget 9 = .ok (.istore_n 1, 1) := by decide +kernel
theorem dX12_forget_10 : decode cX12_forget 10 = .ok (.aload_n 0, 1) := by decide +kernel
theorem dX12_forget_11 : decode cX12_forget 11 = .ok (.iconst 0, 1) := by decide +kernel
theorem dX12_forget_12 : decode cX12_forget 12 = .ok (.putfield 470, 3) := by decide +kernel
theorem dX12_forget_15 : decode cX12_forget 15 = .ok (.iload_n 1, 1) := by decide +kernel
theorem dX12_forget_16 : decode cX12_forget 16 = .ok (.ireturn, 1) := by decide +kernel
theorem dX12_heavyOf_0 : decode cX12_heavyOf 0 = .ok (.iconst 0, 1) := by decide +kernel
theorem dX12_heavyOf_1 : decode cX12_heavyOf 1 = .ok (.istore_n 2, 1) := by decide +kernel
theorem dX12_heavyOf_2 : decode cX12_heavyOf 2 = .ok (.iconst 0, 1) := by decide +kernel
theorem dX12_heavyOf_3 : decode cX12_heavyOf 3 = .ok (.istore_n 3, 1) := by decide +kernel
theorem dX12_heavyOf_4 : decode cX12_heavyOf 4 = .ok (.iload_n 3, 1) := by decide +kernel
theorem dX12_heavyOf_5 : decode cX12_heavyOf 5 = .ok (.aload_n 0, 1) := by decide +kernel
theorem dX12_heavyOf_6 : decode cX12_heavyOf 6 = .ok (.getfield 137, 3) := by decide +kernel
theorem dX12_heavyOf_9 : decode cX12_heavyOf 9 = .ok (.if_icmp .ge 53, 3) := by decide +kernel
theorem dX12_heavyOf_12 : decode cX12_heavyOf 12 = .ok (.bipush 16, 2) := by decide +kernel
theorem dX12_heavyOf_14 : decode cX12_heavyOf 14 = .ok (.iload_n 3, 1) := by decide +kernel
theorem dX12_heavyOf_15 : decode cX12_heavyOf 15 = .ok (.imul, 1) := by decide +kernel
theorem dX12_heavyOf_16 : decode cX12_heavyOf 16 = .ok (.istore 4, 2) := by decide +kernel
theorem dX12_heavyOf_18 : decode cX12_heavyOf 18 = .ok (.iload 4, 2) := by decide +kernel
theorem dX12_heavyOf_20 : decode cX12_heavyOf 20 = .ok (.bipush 16, 2) := by decide +kernel
theorem dX12_heavyOf_22 : decode cX12_heavyOf 22 = .ok (.iload_n 3, 1) := by decide +kernel
theorem dX12_heavyOf_23 : decode cX12_heavyOf 23 = .ok (.iconst 1, 1) := by decide +kernel
theorem dX12_heavyOf_24 : decode cX12_heavyOf 24 = .ok (.iadd, 1) := by decide +kernel
theorem dX12_heavyOf_25 : decode cX12_heavyOf 25 = .ok (.imul, 1) := by decide +kernel
theorem dX12_heavyOf_26 : decode cX12_heavyOf 26 = .ok (.if_icmp .ge 30, 3) := by decide +kernel
theorem dX12_heavyOf_29 : decode cX12_heavyOf 29 = .ok (.iload_n 2, 1) := by decide +kernel
theorem dX12_heavyOf_30 : decode cX12_heavyOf 30 = .ok (.iload_n 1, 1) := by decide +kernel
theorem dX12_heavyOf_31 : decode cX12_heavyOf 31 = .ok (.iload_n 3, 1) := by decide +kernel
theorem dX12_heavyOf_32 : decode cX12_heavyOf 32 = .ok (.invokestatic 425, 3) := by decide +kernel
theorem dX12_heavyOf_35 : decode cX12_heavyOf 35 = .ok (.ifCond .eq 12, 3) := by decide +kernel
theorem dX12_heavyOf_38 : decode cX12_heavyOf 38 = .ok (.aload_n 0, 1) := by decide +kernel
theorem dX12_heavyOf_39 : decode cX12_heavyOf 39 = .ok (.iload 4, 2) := by decide +kernel
theorem dX12_heavyOf_41 : decode cX12_heavyOf 41 = .ok (.invokevirtual 263, 3) := by decide +kernel
theorem dX12_heavyOf_44 : decode cX12_heavyOf 44 = .ok (.goto 4, 3) := by decide +kernel
theorem dX12_heavyOf_47 : decode cX12_heavyOf 47 = .ok (.iconst 0, 1) := by decide +kernel
theorem dX12_heavyOf_48 : decode cX12_heavyOf 48 = .ok (.iadd, 1) := by decide +kernel
theorem dX12_heavyOf_49 : decode cX12_heavyOf 49 = .ok (.istore_n 2, 1) := by decide +kernel
theorem dX12_heavyOf_50 : decode cX12_heavyOf 50 = .ok (.iinc 4 1, 3) := by decide +kernel
theorem dX12_heavyOf_53 : decode cX12_heavyOf 53 = .ok (.goto (-35), 3) := by decide +kernel
theorem dX12_heavyOf_56 : decode cX12_heavyOf 56 = .ok (.iinc 3 1, 3) := by decide +kernel
theorem dX12_heavyOf_59 : decode cX12_heavyOf 59 = .ok (.goto (-55), 3) := by decide +kernel
theorem dX12_heavyOf_62 : decode cX12_heavyOf 62 = .ok (.iload_n 2, 1) := by decide +kernel
theorem dX12_heavyOf_63 : decode cX12_heavyOf 63 = .ok (.ireturn, 1) := by decide +kernel
theorem dX12_explains_0 : decode cX12_explains 0 = .ok (.iconst 1, 1) := by decide +kernel
theorem dX12_explains_1 : decode cX12_explains 1 = .ok (.istore_n 3, 1) := by decide +kernel
theorem dX12_explains_2 : decode cX12_explains 2 = .ok (.iconst 0, 1) := by decide +kernel
theorem dX12_explains_3 : decode cX12_explains 3 = .ok (.istore 4, 2) := by decide +kernel
theorem dX12_explains_5 : decode cX12_explains 5 = .ok (.iload 4, 2) := by decide +kernel
theorem dX12_explains_7 : decode cX12_explains 7 = .ok (.aload_n 0, 1) := by decide +kernel
theorem dX12_explains_8 : decode cX12_explains 8 = .ok (.getfield 470, 3) := by decide +kernel
theorem dX12_explains_11 : decode cX12_explains 11 = .ok (.if_icmp .ge 68, 3) := by decide +kernel
theorem dX12_explains_14 : decode cX12_explains 14 = .ok (.iload_n 3, 1) := by decide +kernel
theorem dX12_explains_15 : decode cX12_explains 15 = .ok (.ifCond .eq 64, 3) := by decide +kernel
theorem dX12_explains_18 : decode cX12_explains 18 = .ok (.iload_n 1, 1) := by decide +kernel
theorem dX12_explains_19 : decode cX12_explains 19 = .ok (.ifCond .lt 21, 3) := by decide +kernel
theorem dX12_explains_22 : decode cX12_explains 22 = .ok (.aload_n 0, 1) := by decide +kernel
theorem dX12_explains_23 : decode cX12_explains 23 = .ok (.getfield 105, 3) := by decide +kernel
theorem dX12_explains_26 : decode cX12_explains 26 = .ok (.iload 4, 2) := by decide +kernel
theorem dX12_explains_28 : decode cX12_explains 28 = .ok (.iaload, 1) := by decide +kernel
theorem dX12_explains_29 : decode cX12_explains 29 = .ok (.iload_n 1, 1) := by decide +kernel
theorem dX12_explains_30 : decode cX12_explains 30 = .ok (.invokestatic 425, 3) := by decide +kernel
theorem dX12_explains_33 : decode cX12_explains 33 = .ok (.ifCond .eq 7, 3) := by decide +kernel
theorem dX12_explains_36 : decode cX12_explains 36 = .ok (.iload_n 2, 1) := by decide +kernel
theorem dX12_explains_37 : decode cX12_explains 37 = .ok (.goto 4, 3) := by decide +kernel
theorem dX12_explains_40 : decode cX12_explains 40 = .ok (.iconst 0, 1) := by decide +kernel
theorem dX12_explains_41 : decode cX12_explains 41 = .ok (.istore 5, 2) := by decide +kernel
theorem dX12_explains_43 : decode cX12_explains 43 = .ok (.aload_n 0, 1) := by decide +kernel
theorem dX12_explains_44 : decode cX12_explains 44 = .ok (.aload_n 0, 1) := by decide +kernel
theorem dX12_explains_45 : decode cX12_explains 45 = .ok (.getfield 105, 3) := by decide +kernel
theorem dX12_explains_48 : decode cX12_explains 48 = .ok (.iload 4, 2) := by decide +kernel
theorem dX12_explains_50 : decode cX12_explains 50 = .ok (.iaload, 1) := by decide +kernel
theorem dX12_explains_51 : decode cX12_explains 51 = .ok (.invokevirtual 473, 3) := by decide +kernel
theorem dX12_explains_54 : decode cX12_explains 54 = .ok (.iload 5, 2) := by decide +kernel
theorem dX12_explains_56 : decode cX12_explains 56 = .ok (.iadd, 1) := by decide +kernel
theorem dX12_explains_57 : decode cX12_explains 57 = .ok (.aload_n 0, 1) := by decide +kernel
theorem dX12_explains_58 : decode cX12_explains 58 = .ok (.getfield 108, 3) := by decide +kernel
theorem dX12_explains_61 : decode cX12_explains 61 = .ok (.iload 4, 2) := by decide +kernel
theorem dX12_explains_63 : decode cX12_explains 63 = .ok (.iaload, 1) := by decide +kernel
theorem dX12_explains_64 : decode cX12_explains 64 = .ok (.if_icmp .ne 7, 3) := by decide +kernel
theorem dX12_explains_67 : decode cX12_explains 67 = .ok (.iconst 1, 1) := by decide +kernel
theorem dX12_explains_68 : decode cX12_explains 68 = .ok (.goto 4, 3) := by decide +kernel
theorem dX12_explains_71 : decode cX12_explains 71 = .ok (.iconst 0, 1) := by decide +kernel
theorem dX12_explains_72 : decode cX12_explains 72 = .ok (.istore_n 3, 1) := by decide +kernel
theorem dX12_explains_73 : decode cX12_explains 73 = .ok (.iinc 4 1, 3) := by decide +kernel
theorem dX12_explains_76 : decode cX12_explains 76 = .ok (.goto (-71), 3) := by decide +kernel
theorem dX12_explains_79 : decode cX12_explains 79 = .ok (.iload_n 3, 1) := by decide +kernel
theorem dX12_explains_80 : decode cX12_explains 80 = .ok (.ireturn, 1) := by decide +kernel
theorem dX12_laysWays_0 : decode cX12_laysWays 0 = .ok (.iconst 0, 1) := by decide +kernel
theorem dX12_laysWays_1 : decode cX12_laysWays 1 = .ok (.istore_n 1, 1) := by decide +kernel
theorem dX12_laysWays_2 : decode cX12_laysWays 2 = .ok (.iload_n 1, 1) := by decide +kernel
theorem dX12_laysWays_3 : decode cX12_laysWays 3 = .ok (.aload_n 0, 1) := by decide +kernel
theorem dX12_laysWays_4 : decode cX12_laysWays 4 = .ok (.getfield 137, 3) := by decide +kernel
theorem dX12_laysWays_7 : decode cX12_laysWays 7 = .ok (.if_icmp .ge 81, 3) := by decide +kernel
theorem dX12_laysWays_10 : decode cX12_laysWays 10 = .ok (.aload_n 0, 1) := by decide +kernel
theorem dX12_laysWays_11 : decode cX12_laysWays 11 = .ok (.getfield 111, 3) := by decide +kernel
theorem dX12_laysWays_14 : decode cX12_laysWays 14 = .ok (.iload_n 1, 1) := by decide +kernel
theorem dX12_laysWays_15 : decode cX12_laysWays 15 = .ok (.iconst 0, 1) := by decide +kernel
theorem dX12_laysWays_16 : decode cX12_laysWays 16 = .ok (.iastore, 1) := by decide +kernel
theorem dX12_laysWays_17 : decode cX12_laysWays 17 = .ok (.aload_n 0, 1) := by decide +kernel
theorem dX12_laysWays_18 : decode cX12_laysWays 18 = .ok (.getfield 114, 3) := by decide +kernel
theorem dX12_laysWays_21 : decode cX12_laysWays 21 = .ok (.iload_n 1, 1) := by decide +kernel
theorem dX12_laysWays_22 : decode cX12_laysWays 22 = .ok (.iconst (-1), 1) := by decide +kernel
theorem dX12_laysWays_23 : decode cX12_laysWays 23 = .ok (.iastore, 1) := by decide +kernel
theorem dX12_laysWays_24 : decode cX12_laysWays 24 = .ok (.iconst 1, 1) := by decide +kernel
theorem dX12_laysWays_25 : decode cX12_laysWays 25 = .ok (.istore_n 2, 1) := by decide +kernel
theorem dX12_laysWays_26 : decode cX12_laysWays 26 = .ok (.iload_n 2, 1) := by decide +kernel
theorem dX12_laysWays_27 : decode cX12_laysWays 27 = .ok (.bipush 99, 2) := by decide +kernel
theorem dX12_laysWays_29 : decode cX12_laysWays 29 = .ok (.if_icmp .gt 53, 3) := by decide +kernel
theorem dX12_laysWays_32 : decode cX12_laysWays 32 = .ok (.aload_n 0, 1) := by decide +kernel
theorem dX12_laysWays_33 : decode cX12_laysWays 33 = .ok (.iload_n 1, 1) := by decide +kernel
theorem dX12_laysWays_34 : decode cX12_laysWays 34 = .ok (.iload_n 2, 1) := by decide +kernel
theorem dX12_laysWays_35 : decode cX12_laysWays 35 = .ok (.invokevirtual 476, 3) := by decide +kernel
theorem dX12_laysWays_38 : decode cX12_laysWays 38 = .ok (.ifCond .eq 38, 3) := by decide +kernel
theorem dX12_laysWays_41 : decode cX12_laysWays 41 = .ok (.aload_n 0, 1) := by decide +kernel
theorem dX12_laysWays_42 : decode cX12_laysWays 42 = .ok (.getfield 114, 3) := by decide +kernel
theorem dX12_laysWays_45 : decode cX12_laysWays 45 = .ok (.iload_n 1, 1) := by decide +kernel
theorem dX12_laysWays_46 : decode cX12_laysWays 46 = .ok (.aload_n 0, 1) := by decide +kernel
theorem dX12_laysWays_47 : decode cX12_laysWays 47 = .ok (.getfield 114, 3) := by decide +kernel
theorem dX12_laysWays_50 : decode cX12_laysWays 50 = .ok (.iload_n 1, 1) := by decide +kernel
theorem dX12_laysWays_51 : decode cX12_laysWays 51 = .ok (.iaload, 1) := by decide +kernel
theorem dX12_laysWays_52 : decode cX12_laysWays 52 = .ok (.ifCond .ge 7, 3) := by decide +kernel
theorem dX12_laysWays_55 : decode cX12_laysWays 55 = .ok (.iload_n 2, 1) := by decide +kernel
theorem dX12_laysWays_56 : decode cX12_laysWays 56 = .ok (.goto 9, 3) := by decide +kernel
theorem dX12_laysWays_59 : decode cX12_laysWays 59 = .ok (.aload_n 0, 1) := by decide +kernel
theorem dX12_laysWays_60 : decode cX12_laysWays 60 = .ok (.getfield 114, 3) := by decide +kernel
theorem dX12_laysWays_63 : decode cX12_laysWays 63 = .ok (.iload_n 1, 1) := by decide +kernel
theorem dX12_laysWays_64 : decode cX12_laysWays 64 = .ok (.iaload, 1) := by decide +kernel
theorem dX12_laysWays_65 : decode cX12_laysWays 65 = .ok (.iastore, 1) := by decide +kernel
theorem dX12_laysWays_66 : decode cX12_laysWays 66 = .ok (.aload_n 0, 1) := by decide +kernel
theorem dX12_laysWays_67 : decode cX12_laysWays 67 = .ok (.getfield 111, 3) := by decide +kernel
theorem dX12_laysWays_70 : decode cX12_laysWays 70 = .ok (.iload_n 1, 1) := by decide +kernel
theorem dX12_laysWays_71 : decode cX12_laysWays 71 = .ok (.dup2, 1) := by decide +kernel
theorem dX12_laysWays_72 : decode cX12_laysWays 72 = .ok (.iaload, 1) := by decide +kernel
theorem dX12_laysWays_73 : decode cX12_laysWays 73 = .ok (.iconst 1, 1) := by decide +kernel
theorem dX12_laysWays_74 : decode cX12_laysWays 74 = .ok (.iadd, 1) := by decide +kernel
theorem dX12_laysWays_75 : decode cX12_laysWays 75 = .ok (.iastore, 1) := by decide +kernel
theorem dX12_laysWays_76 : decode cX12_laysWays 76 = .ok (.iinc 2 1, 3) := by decide +kernel
theorem dX12_laysWays_79 : decode cX12_laysWays 79 = .ok (.goto (-53), 3) := by decide +kernel
theorem dX12_laysWays_82 : decode cX12_laysWays 82 = .ok (.iinc 1 1, 3) := by decide +kernel
theorem dX12_laysWays_85 : decode cX12_laysWays 85 = .ok (.goto (-83), 3) := by decide +kernel
theorem dX12_laysWays_88 : decode cX12_laysWays 88 = .ok (.return_, 1) := by decide +kernel
theorem dX12_rubble_0 : decode cX12_rubble 0 = .ok (.aload_n 0, 1) := by decide +kernel
theorem dX12_rubble_1 : decode cX12_rubble 1 = .ok (.iconst 0, 1) := by decide +kernel
theorem dX12_rubble_2 : decode cX12_rubble 2 = .ok (.putfield 126, 3) := by decide +kernel
theorem dX12_rubble_5 : decode cX12_rubble 5 = .ok (.aload_n 0, 1) := by decide +kernel
theorem dX12_rubble_6 : decode cX12_rubble 6 = .ok (.invokevirtual 479, 3) := by decide +kernel
theorem dX12_rubble_9 : decode cX12_rubble 9 = .ok (.aload_n 0, 1) := by decide +kernel
theorem dX12_rubble_10 : decode cX12_rubble 10 = .ok (.iconst 0, 1) := by decide +kernel
theorem dX12_rubble_11 : decode cX12_rubble 11 = .ok (.putfield 134, 3) := by decide +kernel
theorem dX12_rubble_14 : decode cX12_rubble 14 = .ok (.iconst 0, 1) := by decide +kernel
theorem dX12_rubble_15 : decode cX12_rubble 15 = .ok (.istore_n 1, 1) := by decide +kernel
theorem dX12_rubble_16 : decode cX12_rubble 16 = .ok (.iconst 0, 1) := by decide +kernel
theorem dX12_rubble_17 : decode cX12_rubble 17 = .ok (.istore_n 2, 1) := by decide +kernel
theorem dX12_rubble_18 : decode cX12_rubble 18 = .ok (.iload_n 2, 1) := by decide +kernel
theorem dX12_rubble_19 : decode cX12_rubble 19 = .ok (.aload_n 0, 1) := by decide +kernel
theorem dX12_rubble_20 : decode cX12_rubble 20 = .ok (.getfield 137, 3) := by decide +kernel
theorem dX12_rubble_23 : decode cX12_rubble 23 = .ok (.if_icmp .ge 67, 3) := by decide +kernel
theorem dX12_rubble_26 : decode cX12_rubble 26 = .ok (.iload_n 1, 1) := by decide +kernel
theorem dX12_rubble_27 : decode cX12_rubble 27 = .ok (.ifCond .ne 39, 3) := by decide +kernel
theorem dX12_rubble_30 : decode cX12_rubble 30 = .ok (.aload_n 0, 1) := by decide +kernel
theorem dX12_rubble_31 : decode cX12_rubble 31 = .ok (.getfield 111, 3) := by decide +kernel
theorem dX12_rubble_34 : decode cX12_rubble 34 = .ok (.iload_n 2, 1) := by decide +kernel
theorem dX12_rubble_35 : decode cX12_rubble 35 = .ok (.iaload, 1) := by decide +kernel
theorem dX12_rubble_36 : decode cX12_rubble 36 = .ok (.ifCond .le 30, 3) := by decide +kernel
theorem dX12_rubble_39 : decode cX12_rubble 39 = .ok (.aload_n 0, 1) := by decide +kernel
theorem dX12_rubble_40 : decode cX12_rubble 40 = .ok (.iload_n 2, 1) := by decide +kernel
theorem dX12_rubble_41 : decode cX12_rubble 41 = .ok (.i2l, 1) := by decide +kernel
theorem dX12_rubble_42 : decode cX12_rubble 42 = .ok (.invokevirtual 371, 3) := by decide +kernel
theorem dX12_rubble_45 : decode cX12_rubble 45 = .ok (.aload_n 0, 1) := by decide +kernel
theorem dX12_rubble_46 : decode cX12_rubble 46 = .ok (.lconst 0, 1) := by decide +kernel
theorem dX12_rubble_47 : decode cX12_rubble 47 = .ok (.invokevirtual 371, 3) := by decide +kernel
theorem dX12_rubble_50 : decode cX12_rubble 50 = .ok (.aload_n 0, 1) := by decide +kernel
theorem dX12_rubble_51 : decode cX12_rubble 51 = .ok (.lconst 0, 1) := by decide +kernel
theorem dX12_rubble_52 : decode cX12_rubble 52 = .ok (.invokevirtual 371, 3) := by decide +kernel
theorem dX12_rubble_55 : decode cX12_rubble 55 = .ok (.aload_n 0, 1) := by decide +kernel
theorem dX12_rubble_56 : decode cX12_rubble 56 = .ok (.aload_n 0, 1) := by decide +kernel
theorem dX12_rubble_57 : decode cX12_rubble 57 = .ok (.getfield 114, 3) := by decide +kernel
theorem dX12_rubble_60 : decode cX12_rubble 60 = .ok (.iload_n 2, 1) := by decide +kernel
theorem dX12_rubble_61 : decode cX12_rubble 61 = .ok (.iaload, 1) := by decide +kernel
theorem dX12_rubble_62 : decode cX12_rubble 62 = .ok (.i2l, 1) := by decide +kernel
theorem dX12_rubble_63 : decode cX12_rubble 63 = .ok (.invokevirtual 371, 3) := by decide +kernel
theorem dX12_rubble_66 : decode cX12_rubble 66 = .ok (.iload_n 1, 1) := by decide +kernel
theorem dX12_rubble_67 : decode cX12_rubble 67 = .ok (.iconst 2, 1) := by decide +kernel
theorem dX12_rubble_68 : decode cX12_rubble 68 = .ok (.aload_n 0, 1) := by decide +kernel
theorem dX12_rubble_69 : decode cX12_rubble 69 = .ok (.getfield 17, 3) := by decide +kernel
theorem dX12_rubble_72 : decode cX12_rubble 72 = .ok (.iload_n 2, 1) := by decide +kernel
theorem dX12_rubble_73 : decode cX12_rubble 73 = .ok (.iaload, 1) := by decide +kernel
theorem dX12_rubble_74 : decode cX12_rubble 74 = .ok (.imul, 1) := by decide +kernel
theorem dX12_rubble_75 : decode cX12_rubble 75 = .ok (.aload_n 0, 1) := by decide +kernel
theorem dX12_rubble_76 : decode cX12_rubble 76 = .ok (.getfield 111, 3) := by decide +kernel
theorem dX12_rubble_79 : decode cX12_rubble 79 = .ok (.iload_n 2, 1) := by decide +kernel
theorem dX12_rubble_80 : decode cX12_rubble 80 = .ok (.iaload, 1) := by decide +kernel
theorem dX12_rubble_81 : decode cX12_rubble 81 = .ok (.imul, 1) := by decide +kernel
theorem dX12_rubble_82 : decode cX12_rubble 82 = .ok (.iadd, 1) := by decide +kernel
theorem dX12_rubble_83 : decode cX12_rubble 83 = .ok (.istore_n 1, 1) := by decide +kernel
theorem dX12_rubble_84 : decode cX12_rubble 84 = .ok (.iinc 2 1, 3) := by decide +kernel
theorem dX12_rubble_87 : decode cX12_rubble 87 = .ok (.goto (-69), 3) := by decide +kernel
theorem dX12_rubble_90 : decode cX12_rubble 90 = .ok (.iload_n 1, 1) := by decide +kernel
theorem dX12_rubble_91 : decode cX12_rubble 91 = .ok (.ireturn, 1) := by decide +kernel
theorem dX12_whose_0 : decode cX12_whose 0 = .ok (.aload_n 0, 1) := by decide +kernel
theorem dX12_whose_1 : decode cX12_whose 1 = .ok (.iconst 0, 1) := by decide +kernel
theorem dX12_whose_2 : decode cX12_whose 2 = .ok (.putfield 126, 3) := by decide +kernel
theorem dX12_whose_5 : decode cX12_whose 5 = .ok (.aload_n 0, 1) := by decide +kernel
theorem dX12_whose_6 : decode cX12_whose 6 = .ok (.invokevirtual 479, 3) := by decide +kernel
theorem dX12_whose_9 : decode cX12_whose 9 = .ok (.iconst 0, 1) := by decide +kernel
theorem dX12_whose_10 : decode cX12_whose 10 = .ok (.istore_n 1, 1) := by decide +kernel
theorem dX12_whose_11 : decode cX12_whose 11 = .ok (.iconst 0, 1) := by decide +kernel
theorem dX12_whose_12 : decode cX12_whose 12 = .ok (.istore_n 2, 1) := by decide +kernel
theorem dX12_whose_13 : decode cX12_whose 13 = .ok (.iload_n 2, 1) := by decide +kernel
theorem dX12_whose_14 : decode cX12_whose 14 = .ok (.aload_n 0, 1) := by decide +kernel
theorem dX12_whose_15 : decode cX12_whose 15 = .ok (.getfield 137, 3) := by decide +kernel
theorem dX12_whose_18 : decode cX12_whose 18 = .ok (.if_icmp .ge 28, 3) := by decide +kernel
theorem dX12_whose_21 : decode cX12_whose 21 = .ok (.iload_n 1, 1) := by decide +kernel
theorem dX12_whose_22 : decode cX12_whose 22 = .ok (.aload_n 0, 1) := by decide +kernel
theorem dX12_whose_23 : decode cX12_whose 23 = .ok (.getfield 111, 3) := by decide +kernel
theorem dX12_whose_26 : decode cX12_whose 26 = .ok (.iload_n 2, 1) := by decide +kernel
theorem dX12_whose_27 : decode cX12_whose 27 = .ok (.iaload, 1) := by decide +kernel
theorem dX12_whose_28 : decode cX12_whose 28 = .ok (.ifCond .le 9, 3) := by decide +kernel
theorem dX12_whose_31 : decode cX12_whose 31 = .ok (.iconst 1, 1) := by decide +kernel
theorem dX12_whose_32 : decode cX12_whose 32 = .ok (.iload_n 2, 1) := by decide +kernel
theorem dX12_whose_33 : decode cX12_whose 33 = .ok (.ishl, 1) := by decide +kernel
theorem dX12_whose_34 : decode cX12_whose 34 = .ok (.goto 4, 3) := by decide +kernel
theorem dX12_whose_37 : decode cX12_whose 37 = .ok (.iconst 0, 1) := by decide +kernel
theorem dX12_whose_38 : decode cX12_whose 38 = .ok (.ior, 1) := by decide +kernel
theorem dX12_whose_39 : decode cX12_whose 39 = .ok (.istore_n 1, 1) := by decide +kernel
theorem dX12_whose_40 : decode cX12_whose 40 = .ok (.iinc 2 1, 3) := by decide +kernel
theorem dX12_whose_43 : decode cX12_whose 43 = .ok (.goto (-30), 3) := by decide +kernel
theorem dX12_whose_46 : decode cX12_whose 46 = .ok (.aload_n 0, 1) := by decide +kernel
theorem dX12_whose_47 : decode cX12_whose 47 = .ok (.iconst 0, 1) := by decide +kernel
theorem dX12_whose_48 : decode cX12_whose 48 = .ok (.putfield 134, 3) := by decide +kernel
theorem dX12_whose_51 : decode cX12_whose 51 = .ok (.aload_n 0, 1) := by decide +kernel
theorem dX12_whose_52 : decode cX12_whose 52 = .ok (.aload_n 0, 1) := by decide +kernel
theorem dX12_whose_53 : decode cX12_whose 53 = .ok (.iconst (-1), 1) := by decide +kernel
theorem dX12_whose_54 : decode cX12_whose 54 = .ok (.iconst 0, 1) := by decide +kernel
theorem dX12_whose_55 : decode cX12_whose 55 = .ok (.invokevirtual 476, 3) := by decide +kernel
theorem dX12_whose_58 : decode cX12_whose 58 = .ok (.invokestatic 166, 3) := by decide +kernel
theorem dX12_whose_61 : decode cX12_whose 61 = .ok (.i2l, 1) := by decide +kernel
theorem dX12_whose_62 : decode cX12_whose 62 = .ok (.invokevirtual 371, 3) := by decide +kernel
theorem dX12_whose_65 : decode cX12_whose 65 = .ok (.iload_n 1, 1) := by decide +kernel
theorem dX12_whose_66 : decode cX12_whose 66 = .ok (.ireturn, 1) := by decide +kernel
theorem dX12_next_0 : decode cX12_next 0 = .ok (.aload_n 0, 1) := by decide +kernel
theorem dX12_next_1 : decode cX12_next 1 = .ok (.iconst 0, 1) := by decide +kernel
theorem dX12_next_2 : decode cX12_next 2 = .ok (.putfield 126, 3) := by decide +kernel
theorem dX12_next_5 : decode cX12_next 5 = .ok (.aload_n 0, 1) := by decide +kernel
theorem dX12_next_6 : decode cX12_next 6 = .ok (.invokevirtual 479, 3) := by decide +kernel
theorem dX12_next_9 : decode cX12_next 9 = .ok (.iconst 0, 1) := by decide +kernel
theorem dX12_next_10 : decode cX12_next 10 = .ok (.istore_n 1, 1) := by decide +kernel
theorem dX12_next_11 : decode cX12_next 11 = .ok (.iconst 0, 1) := by decide +kernel
theorem dX12_next_12 : decode cX12_next 12 = .ok (.istore_n 2, 1) := by decide +kernel
theorem dX12_next_13 : decode cX12_next 13 = .ok (.iload_n 2, 1) := by decide +kernel
theorem dX12_next_14 : decode cX12_next 14 = .ok (.aload_n 0, 1) := by decide +kernel
theorem dX12_next_15 : decode cX12_next 15 = .ok (.getfield 137, 3) := by decide +kernel
theorem dX12_next_18 : decode cX12_next 18 = .ok (.if_icmp .ge 27, 3) := by decide +kernel
theorem dX12_next_21 : decode cX12_next 21 = .ok (.iload_n 1, 1) := by decide +kernel
theorem dX12_next_22 : decode cX12_next 22 = .ok (.iconst 2, 1) := by decide +kernel
theorem dX12_next_23 : decode cX12_next 23 = .ok (.aload_n 0, 1) := by decide +kernel
theorem dX12_next_24 : decode cX12_next 24 = .ok (.getfield 17, 3) := by decide +kernel
theorem dX12_next_27 : decode cX12_next 27 = .ok (.iload_n 2, 1) := by decide +kernel
theorem dX12_next_28 : decode cX12_next 28 = .ok (.iaload, 1) := by decide +kernel
theorem dX12_next_29 : decode cX12_next 29 = .ok (.imul, 1) := by decide +kernel
theorem dX12_next_30 : decode cX12_next 30 = .ok (.aload_n 0, 1) := by decide +kernel
theorem dX12_next_31 : decode cX12_next 31 = .ok (.getfield 111, 3) := by decide +kernel
theorem dX12_next_34 : decode cX12_next 34 = .ok (.iload_n 2, 1) := by decide +kernel
theorem dX12_next_35 : decode cX12_next 35 = .ok (.iaload, 1) := by decide +kernel
theorem dX12_next_36 : decode cX12_next 36 = .ok (.imul, 1) := by decide +kernel
theorem dX12_next_37 : decode cX12_next 37 = .ok (.iadd, 1) := by decide +kernel
theorem dX12_next_38 : decode cX12_next 38 = .ok (.istore_n 1, 1) := by decide +kernel
theorem dX12_next_39 : decode cX12_next 39 = .ok (.iinc 2 1, 3) := by decide +kernel
theorem dX12_next_42 : decode cX12_next 42 = .ok (.goto (-29), 3) := by decide +kernel
theorem dX12_next_45 : decode cX12_next 45 = .ok (.iload_n 1, 1) := by decide +kernel
theorem dX12_next_46 : decode cX12_next 46 = .ok (.ifCond .ne 6, 3) := by decide +kernel
theorem dX12_next_49 : decode cX12_next 49 = .ok (.bipush (-2), 2) := by decide +kernel
theorem dX12_next_51 : decode cX12_next 51 = .ok (.ireturn, 1) := by decide +kernel
theorem dX12_next_52 : decode cX12_next 52 = .ok (.iconst 0, 1) := by decide +kernel
theorem dX12_next_53 : decode cX12_next 53 = .ok (.istore_n 2, 1) := by decide +kernel
theorem dX12_next_54 : decode cX12_next 54 = .ok (.iload_n 1, 1) := by decide +kernel
theorem dX12_next_55 : decode cX12_next 55 = .ok (.istore_n 3, 1) := by decide +kernel
theorem dX12_next_56 : decode cX12_next 56 = .ok (.iconst 1, 1) := by decide +kernel
theorem dX12_next_57 : decode cX12_next 57 = .ok (.istore 4, 2) := by decide +kernel
theorem dX12_next_59 : decode cX12_next 59 = .ok (.iload 4, 2) := by decide +kernel
theorem dX12_next_61 : decode cX12_next 61 = .ok (.aload_n 0, 1) := by decide +kernel
theorem dX12_next_62 : decode cX12_next 62 = .ok (.invokevirtual 438, 3) := by decide +kernel
theorem dX12_next_65 : decode cX12_next 65 = .ok (.if_icmp .gt 97, 3) := by decide +kernel
theorem dX12_next_68 : decode cX12_next 68 = .ok (.iconst 0, 1) := by decide +kernel
theorem dX12_next_69 : decode cX12_next 69 = .ok (.istore 5, 2) := by decide +kernel
theorem dX12_next_71 : decode cX12_next 71 = .ok (.iconst 0, 1) := by decide +kernel
theorem dX12_next_72 : decode cX12_next 72 = .ok (.istore 6, 2) := by decide +kernel
theorem dX12_next_74 : decode cX12_next 74 = .ok (.iload 6, 2) := by decide +kernel
theorem dX12_next_76 : decode cX12_next 76 = .ok (.aload_n 0, 1) := by decide +kernel
theorem dX12_next_77 : decode cX12_next 77 = .ok (.getfield 137, 3) := by decide +kernel
theorem dX12_next_80 : decode cX12_next 80 = .ok (.if_icmp .ge 45, 3) := by decide +kernel
theorem dX12_next_83 : decode cX12_next 83 = .ok (.iload 5, 2) := by decide +kernel
theorem dX12_next_85 : decode cX12_next 85 = .ok (.iload 4, 2) := by decide +kernel
theorem dX12_next_87 : decode cX12_next 87 = .ok (.iload 6, 2) := by decide +kernel
theorem dX12_next_89 : decode cX12_next 89 = .ok (.invokestatic 425, 3) := by decide +kernel
theorem dX12_next_92 : decode cX12_next 92 = .ok (.ifCond .eq 23, 3) := by decide +kernel
theorem dX12_next_95 : decode cX12_next 95 = .ok (.iconst 2, 1) := by decide +kernel
theorem dX12_next_96 : decode cX12_next 96 = .ok (.aload_n 0, 1) := by decide +kernel
theorem dX12_next_97 : decode cX12_next 97 = .ok (.getfield 17, 3) := by decide +kernel
theorem dX12_next_100 : decode cX12_next 100 = .ok (.iload 6, 2) := by decide +kernel
theorem dX12_next_102 : decode cX12_next 102 = .ok (.iaload, 1) := by decide +kernel
theorem dX12_next_103 : decode cX12_next 103 = .ok (.imul, 1) := by decide +kernel
theorem dX12_next_104 : decode cX12_next 104 = .ok (.aload_n 0, 1) := by decide +kernel
theorem dX12_next_105 : decode cX12_next 105 = .ok (.getfield 111, 3) := by decide +kernel
theorem dX12_next_108 : decode cX12_next 108 = .ok (.iload 6, 2) := by decide +kernel
theorem dX12_next_110 : decode cX12_next 110 = .ok (.iaload, 1) := by decide +kernel
theorem dX12_next_111 : decode cX12_next 111 = .ok (.imul, 1) := by decide +kernel
theorem dX12_next_112 : decode cX12_next 112 = .ok (.goto 4, 3) := by decide +kernel
theorem dX12_next_115 : decode cX12_next 115 = .ok (.iconst 0, 1) := by decide +kernel
theorem dX12_next_116 : decode cX12_next 116 = .ok (.iadd, 1) := by decide +kernel
theorem dX12_next_117 : decode cX12_next 117 = .ok (.istore 5, 2) := by decide +kernel
theorem dX12_next_119 : decode cX12_next 119 = .ok (.iinc 6 1, 3) := by decide +kernel
theorem dX12_next_122 : decode cX12_next 122 = .ok (.goto (-48), 3) := by decide +kernel
theorem dX12_next_125 : decode cX12_next 125 = .ok (.iload 5, 2) := by decide +kernel
theorem dX12_next_127 : decode cX12_next 127 = .ok (.iload_n 1, 1) := by decide +kernel
theorem dX12_next_128 : decode cX12_next 128 = .ok (.iload 5, 2) := by decide +kernel
theorem dX12_next_130 : decode cX12_next 130 = .ok (.isub, 1) := by decide +kernel
theorem dX12_next_131 : decode cX12_next 131 = .ok (.invokestatic 257, 3) := by decide +kernel
theorem dX12_next_134 : decode cX12_next 134 = .ok (.istore 6, 2) := by decide +kernel
theorem dX12_next_136 : decode cX12_next 136 = .ok (.iload 6, 2) := by decide +kernel
theorem dX12_next_138 : decode cX12_next 138 = .ok (.iload_n 3, 1) := by decide +kernel
theorem dX12_next_139 : decode cX12_next 139 = .ok (.if_icmp .ge 8, 3) := by decide +kernel
theorem dX12_next_142 : decode cX12_next 142 = .ok (.iload 4, 2) := by decide +kernel
theorem dX12_next_144 : decode cX12_next 144 = .ok (.goto 4, 3) := by decide +kernel
theorem dX12_next_147 : decode cX12_next 147 = .ok (.iload_n 2, 1) := by decide +kernel
theorem dX12_next_148 : decode cX12_next 148 = .ok (.istore_n 2, 1) := by decide +kernel
theorem dX12_next_149 : decode cX12_next 149 = .ok (.iload_n 3, 1) := by decide +kernel
theorem dX12_next_150 : decode cX12_next 150 = .ok (.iload 6, 2) := by decide +kernel
theorem dX12_next_152 : decode cX12_next 152 = .ok (.invokestatic 157, 3) := by decide +kernel
theorem dX12_next_155 : decode cX12_next 155 = .ok (.istore_n 3, 1) := by decide +kernel
theorem dX12_next_156 : decode cX12_next 156 = .ok (.iinc 4 1, 3) := by decide +kernel
theorem dX12_next_159 : decode cX12_next 159 = .ok (.goto (-100), 3) := by decide +kernel
theorem dX12_next_162 : decode cX12_next 162 = .ok (.aload_n 0, 1) := by decide +kernel
theorem dX12_next_163 : decode cX12_next 163 = .ok (.iconst 0, 1) := by decide +kernel
theorem dX12_next_164 : decode cX12_next 164 = .ok (.putfield 134, 3) := by decide +kernel
theorem dX12_next_167 : decode cX12_next 167 = .ok (.aload_n 0, 1) := by decide +kernel
theorem dX12_next_168 : decode cX12_next 168 = .ok (.iload_n 3, 1) := by decide +kernel
theorem dX12_next_169 : decode cX12_next 169 = .ok (.i2l, 1) := by decide +kernel
theorem dX12_next_170 : decode cX12_next 170 = .ok (.invokevirtual 371, 3) := by decide +kernel
theorem dX12_next_173 : decode cX12_next 173 = .ok (.iload_n 2, 1) := by decide +kernel
theorem dX12_next_174 : decode cX12_next 174 = .ok (.ireturn, 1) := by decide +kernel
theorem dX12_bets_0 : decode cX12_bets 0 = .ok (.aload_n 0, 1) := by decide +kernel
theorem dX12_bets_1 : decode cX12_bets 1 = .ok (.lconst 1, 1) := by decide +kernel
theorem dX12_bets_2 : decode cX12_bets 2 = .ok (.putfield 482, 3) := by decide +kernel
theorem dX12_bets_5 : decode cX12_bets 5 = .ok (.aload_n 0, 1) := by decide +kernel
theorem dX12_bets_6 : decode cX12_bets 6 = .ok (.lconst 1, 1) := by decide +kernel
theorem dX12_bets_7 : decode cX12_bets 7 = .ok (.putfield 486, 3) := by decide +kernel
theorem dX12_bets_10 : decode cX12_bets 10 = .ok (.aload_n 0, 1) := by decide +kernel
theorem dX12_bets_11 : decode cX12_bets 11 = .ok (.aload_n 0, 1) := by decide +kernel
theorem dX12_bets_12 : decode cX12_bets 12 = .ok (.getfield 42, 3) := by decide +kernel
theorem dX12_bets_15 : decode cX12_bets 15 = .ok (.iload_n 1, 1) := by decide +kernel
theorem dX12_bets_16 : decode cX12_bets 16 = .ok (.invokevirtual 329, 3) := by decide +kernel
theorem dX12_bets_19 : decode cX12_bets 19 = .ok (.istore_n 3, 1) := by decide +kernel
theorem dX12_bets_20 : decode cX12_bets 20 = .ok (.iload_n 3, 1) := by decide +kernel
theorem dX12_bets_21 : decode cX12_bets 21 = .ok (.ifCond .le 32, 3) := by decide +kernel
theorem dX12_bets_24 : decode cX12_bets 24 = .ok (.aload_n 0, 1) := by decide +kernel
theorem dX12_bets_25 : decode cX12_bets 25 = .ok (.dup, 1) := by decide +kernel
theorem dX12_bets_26 : decode cX12_bets 26 = .ok (.getfield 482, 3) := by decide +kernel
theorem dX12_bets_29 : decode cX12_bets 29 = .ok (.iload_n 2, 1) := by decide +kernel
theorem dX12_bets_30 : decode cX12_bets 30 = .ok (.i2l, 1) := by decide +kernel
theorem dX12_bets_31 : decode cX12_bets 31 = .ok (.lmul, 1) := by decide +kernel
theorem dX12_bets_32 : decode cX12_bets 32 = .ok (.putfield 482, 3) := by decide +kernel
theorem dX12_bets_35 : decode cX12_bets 35 = .ok (.aload_n 0, 1) := by decide +kernel
theorem dX12_bets_36 : decode cX12_bets 36 = .ok (.dup, 1) := by decide +kernel
theorem dX12_bets_37 : decode cX12_bets 37 = .ok (.getfield 486, 3) := by decide +kernel
theorem dX12_bets_40 : decode cX12_bets 40 = .ok (.ldc2_w 489, 3) := by decide +kernel
theorem dX12_bets_43 : decode cX12_bets 43 = .ok (.lmul, 1) := by decide +kernel
theorem dX12_bets_44 : decode cX12_bets 44 = .ok (.putfield 486, 3) := by decide +kernel
theorem dX12_bets_47 : decode cX12_bets 47 = .ok (.iinc 3 (-1), 3) := by decide +kernel
theorem dX12_bets_50 : decode cX12_bets 50 = .ok (.goto (-30), 3) := by decide +kernel
theorem dX12_bets_53 : decode cX12_bets 53 = .ok (.return_, 1) := by decide +kernel
theorem dX12_right_0 : decode cX12_right 0 = .ok (.aload_n 0, 1) := by decide +kernel
theorem dX12_right_1 : decode cX12_right 1 = .ok (.iconst 0, 1) := by decide +kernel
theorem dX12_right_2 : decode cX12_right 2 = .ok (.putfield 126, 3) := by decide +kernel
theorem dX12_right_5 : decode cX12_right 5 = .ok (.aload_n 0, 1) := by decide +kernel
theorem dX12_right_6 : decode cX12_right 6 = .ok (.iload_n 1, 1) := by decide +kernel
theorem dX12_right_7 : decode cX12_right 7 = .ok (.invokevirtual 144, 3) := by decide +kernel
theorem dX12_right_10 : decode cX12_right 10 = .ok (.ifCond .eq 15, 3) := by decide +kernel
theorem dX12_right_13 : decode cX12_right 13 = .ok (.iload_n 2, 1) := by decide +kernel
theorem dX12_right_14 : decode cX12_right 14 = .ok (.i2l, 1) := by decide +kernel
theorem dX12_right_15 : decode cX12_right 15 = .ok (.lconst 0, 1) := by decide +kernel
theorem dX12_right_16 : decode cX12_right 16 = .ok (.ldc2_w 489, 3) := by decide +kernel
theorem dX12_right_19 : decode cX12_right 19 = .ok (.invokestatic 140, 3) := by decide +kernel
theorem dX12_right_22 : decode cX12_right 22 = .ok (.ifCond .ne 5, 3) := by decide +kernel
theorem dX12_right_25 : decode cX12_right 25 = .ok (.iconst (-1), 1) := by decide +kernel
theorem dX12_right_26 : decode cX12_right 26 = .ok (.ireturn, 1) := by decide +kernel
theorem dX12_right_27 : decode cX12_right 27 = .ok (.aload_n 0, 1) := by decide +kernel
theorem dX12_right_28 : decode cX12_right 28 = .ok (.iload_n 1, 1) := by decide +kernel
theorem dX12_right_29 : decode cX12_right 29 = .ok (.iload_n 2, 1) := by decide +kernel
theorem dX12_right_30 : decode cX12_right 30 = .ok (.invokevirtual 491, 3) := by decide +kernel
theorem dX12_right_33 : decode cX12_right 33 = .ok (.aload_n 0, 1) := by decide +kernel
theorem dX12_right_34 : decode cX12_right 34 = .ok (.getfield 482, 3) := by decide +kernel
theorem dX12_right_37 : decode cX12_right 37 = .ok (.aload_n 0, 1) := by decide +kernel
theorem dX12_right_38 : decode cX12_right 38 = .ok (.getfield 486, 3) := by decide +kernel
theorem dX12_right_41 : decode cX12_right 41 = .ok (.invokestatic 130, 3) := by decide +kernel
theorem dX12_right_44 : decode cX12_right 44 = .ok (.lstore_n 3, 1) := by decide +kernel
theorem dX12_right_45 : decode cX12_right 45 = .ok (.aload_n 0, 1) := by decide +kernel
theorem dX12_right_46 : decode cX12_right 46 = .ok (.iconst 0, 1) := by decide +kernel
theorem dX12_right_47 : decode cX12_right 47 = .ok (.putfield 134, 3) := by decide +kernel
theorem dX12_right_50 : decode cX12_right 50 = .ok (.aload_n 0, 1) := by decide +kernel
theorem dX12_right_51 : decode cX12_right 51 = .ok (.aload_n 0, 1) := by decide +kernel
theorem dX12_right_52 : decode cX12_right 52 = .ok (.getfield 482, 3) := by decide +kernel
theorem dX12_right_55 : decode cX12_right 55 = .ok (.lload_n 3, 1) := by decide +kernel
theorem dX12_right_56 : decode cX12_right 56 = .ok (.ldiv, 1) := by decide +kernel
theorem dX12_right_57 : decode cX12_right 57 = .ok (.invokevirtual 371, 3) := by decide +kernel
theorem dX12_right_60 : decode cX12_right 60 = .ok (.aload_n 0, 1) := by decide +kernel
theorem dX12_right_61 : decode cX12_right 61 = .ok (.aload_n 0, 1) := by decide +kernel
theorem dX12_right_62 : decode cX12_right 62 = .ok (.getfield 486, 3) := by decide +kernel
theorem dX12_right_65 : decode cX12_right 65 = .ok (.lload_n 3, 1) := by decide +kernel
theorem dX12_right_66 : decode cX12_right 66 = .ok (.ldiv, 1) := by decide +kernel
theorem dX12_right_67 : decode cX12_right 67 = .ok (.invokevirtual 371, 3) := by decide +kernel
theorem dX12_right_70 : decode cX12_right 70 = .ok (.iconst 0, 1) := by decide +kernel
theorem dX12_right_71 : decode cX12_right 71 = .ok (.ireturn, 1) := by decide +kernel
theorem dX12_care_0 : decode cX12_care 0 = .ok (.aload_n 0, 1) := by decide +kernel
theorem dX12_care_1 : decode cX12_care 1 = .ok (.iconst 0, 1) := by decide +kernel
theorem dX12_care_2 : decode cX12_care 2 = .ok (.putfield 126, 3) := by decide +kernel
theorem dX12_care_5 : decode cX12_care 5 = .ok (.aload_n 0, 1) := by decide +kernel
theorem dX12_care_6 : decode cX12_care 6 = .ok (.iload_n 1, 1) := by decide +kernel
theorem dX12_care_7 : decode cX12_care 7 = .ok (.invokevirtual 144, 3) := by decide +kernel
theorem dX12_care_10 : decode cX12_care 10 = .ok (.ifCond .eq 15, 3) := by decide +kernel
theorem dX12_care_13 : decode cX12_care 13 = .ok (.iload_n 2, 1) := by decide +kernel
theorem dX12_care_14 : decode cX12_care 14 = .ok (.i2l, 1) := by decide +kernel
theorem dX12_care_15 : decode cX12_care 15 = .ok (.lconst 0, 1) := by decide +kernel
theorem dX12_care_16 : decode cX12_care 16 = .ok (.ldc2_w 494, 3) := by decide +kernel
theorem dX12_care_19 : decode cX12_care 19 = .ok (.invokestatic 140, 3) := by decide +kernel
theorem dX12_care_22 : decode cX12_care 22 = .ok (.ifCond .ne 5, 3) := by decide +kernel
theorem dX12_care_25 : decode cX12_care 25 = .ok (.iconst (-1), 1) := by decide +kernel
theorem dX12_care_26 : decode cX12_care 26 = .ok (.ireturn, 1) := by decide +kernel
theorem dX12_care_27 : decode cX12_care 27 = .ok (.iconst 0, 1) := by decide +kernel
theorem dX12_care_28 : decode cX12_care 28 = .ok (.istore_n 3, 1) := by decide +kernel
theorem dX12_care_29 : decode cX12_care 29 = .ok (.aload_n 0, 1) := by decide +kernel
theorem dX12_care_30 : decode cX12_care 30 = .ok (.iload_n 1, 1) := by decide +kernel
theorem dX12_care_31 : decode cX12_care 31 = .ok (.iload_n 3, 1) := by decide +kernel
theorem dX12_care_32 : decode cX12_care 32 = .ok (.invokevirtual 491, 3) := by decide +kernel
theorem dX12_care_35 : decode cX12_care 35 = .ok (.ldc2_w 494, 3) := by decide +kernel
theorem dX12_care_38 : decode cX12_care 38 = .ok (.aload_n 0, 1) := by decide +kernel
theorem dX12_care_39 : decode cX12_care 39 = .ok (.getfield 482, 3) := by decide +kernel
theorem dX12_care_42 : decode cX12_care 42 = .ok (.lmul, 1) := by decide +kernel
theorem dX12_care_43 : decode cX12_care 43 = .ok (.iload_n 2, 1) := by decide +kernel
theorem dX12_care_44 : decode cX12_care 44 = .ok (.i2l, 1) := by decide +kernel
theorem dX12_care_45 : decode cX12_care 45 = .ok (.aload_n 0, 1) := by decide +kernel
theorem dX12_care_46 : decode cX12_care 46 = .ok (.getfield 486, 3) := by decide +kernel
theorem dX12_care_49 : decode cX12_care 49 = .ok (.lmul, 1) := by decide +kernel
theorem dX12_care_50 : decode cX12_care 50 = .ok (.lcmp, 1) := by decide +kernel
theorem dX12_care_51 : decode cX12_care 51 = .ok (.ifCond .ge 15, 3) := by decide +kernel
theorem dX12_care_54 : decode cX12_care 54 = .ok (.iinc 3 1, 3) := by decide +kernel
theorem dX12_care_57 : decode cX12_care 57 = .ok (.aload_n 0, 1) := by decide +kernel
theorem dX12_care_58 : decode cX12_care 58 = .ok (.iload_n 1, 1) := by decide +kernel
theorem dX12_care_59 : decode cX12_care 59 = .ok (.iload_n 3, 1) := by decide +kernel
theorem dX12_care_60 : decode cX12_care 60 = .ok (.invokevirtual 491, 3) := by decide +kernel
theorem dX12_care_63 : decode cX12_care 63 = .ok (.goto (-28), 3) := by decide +kernel
theorem dX12_care_66 : decode cX12_care 66 = .ok (.iload_n 3, 1) := by decide +kernel
theorem dX12_care_67 : decode cX12_care 67 = .ok (.ireturn, 1) := by decide +kernel
theorem dX12_weeks_0 : decode cX12_weeks 0 = .ok (.aload_n 0, 1) := by decide +kernel
theorem dX12_weeks_1 : decode cX12_weeks 1 = .ok (.iconst 0, 1) := by decide +kernel
theorem dX12_weeks_2 : decode cX12_weeks 2 = .ok (.putfield 126, 3) := by decide +kernel
theorem dX12_weeks_5 : decode cX12_weeks 5 = .ok (.iload_n 2, 1) := by decide +kernel
theorem dX12_weeks_6 : decode cX12_weeks 6 = .ok (.i2l, 1) := by decide +kernel
theorem dX12_weeks_7 : decode cX12_weeks 7 = .ok (.lconst 1, 1) := by decide +kernel
theorem dX12_weeks_8 : decode cX12_weeks 8 = .ok (.ldc2_w 496, 3) := by decide +kernel
theorem dX12_weeks_11 : decode cX12_weeks 11 = .ok (.invokestatic 140, 3) := by decide +kernel
theorem dX12_weeks_14 : decode cX12_weeks 14 = .ok (.ifCond .eq 22, 3) := by decide +kernel
theorem dX12_weeks_17 : decode cX12_weeks 17 = .ok (.iload_n 3, 1) := by decide +kernel
theorem dX12_weeks_18 : decode cX12_weeks 18 = .ok (.i2l, 1) := by decide +kernel
theorem dX12_weeks_19 : decode cX12_weeks 19 = .ok (.lconst 0, 1) := by decide +kernel
theorem dX12_weeks_20 : decode cX12_weeks 20 = .ok (.ldc2_w 489, 3) := by decide +kernel
theorem dX12_weeks_23 : decode cX12_weeks 23 = .ok (.invokestatic 140, 3) := by decide +kernel
theorem dX12_weeks_26 : decode cX12_weeks 26 = .ok (.ifCond .eq 10, 3) := by decide +kernel
theorem dX12_weeks_29 : decode cX12_weeks 29 = .ok (.aload_n 0, 1) := by decide +kernel
theorem dX12_weeks_30 : decode cX12_weeks 30 = .ok (.getfield 137, 3) := by decide +kernel
theorem dX12_weeks_33 : decode cX12_weeks 33 = .ok (.ifCond .ne 5, 3) := by decide +kernel
theorem dX12_weeks_36 : decode cX12_weeks 36 = .ok (.iconst (-1), 1) := by decide +kernel
theorem dX12_weeks_37 : decode cX12_weeks 37 = .ok (.ireturn, 1) := by decide +kernel
theorem dX12_weeks_38 : decode cX12_weeks 38 = .ok (.iload_n 1, 1) := by decide +kernel
theorem dX12_weeks_39 : decode cX12_weeks 39 = .ok (.istore 4, 2) := by decide +kernel
theorem dX12_weeks_41 : decode cX12_weeks 41 = .ok (.iconst 0, 1) := by decide +kernel
theorem dX12_weeks_42 : decode cX12_weeks 42 = .ok (.istore 5, 2) := by decide +kernel
theorem dX12_weeks_44 : decode cX12_weeks 44 = .ok (.iconst (-1), 1) := by decide +kernel
theorem dX12_weeks_45 : decode cX12_weeks 45 = .ok (.istore 6, 2) := by decide +kernel
theorem dX12_weeks_47 : decode cX12_weeks 47 = .ok (.iconst (-1), 1) := by decide +kernel
theorem dX12_weeks_48 : decode cX12_weeks 48 = .ok (.istore 7, 2) := by decide +kernel
theorem dX12_weeks_50 : decode cX12_weeks 50 = .ok (.iconst 0, 1) := by decide +kernel
theorem dX12_weeks_51 : decode cX12_weeks 51 = .ok (.istore 8, 2) := by decide +kernel
theorem dX12_weeks_53 : decode cX12_weeks 53 = .ok (.iload 8, 2) := by decide +kernel
theorem dX12_weeks_55 : decode cX12_weeks 55 = .ok (.iload_n 2, 1) := by decide +kernel
theorem dX12_weeks_56 : decode cX12_weeks 56 = .ok (.if_icmp .ge 180, 3) := by decide +kernel
theorem dX12_weeks_59 : decode cX12_weeks 59 = .ok (.iconst 0, 1) := by decide +kernel
theorem dX12_weeks_60 : decode cX12_weeks 60 = .ok (.istore 9, 2) := by decide +kernel
theorem dX12_weeks_62 : decode cX12_weeks 62 = .ok (.iload 9, 2) := by decide +kernel
theorem dX12_weeks_64 : decode cX12_weeks 64 = .ok (.bipush 96, 2) := by decide +kernel
theorem dX12_weeks_66 : decode cX12_weeks 66 = .ok (.if_icmp .ge 63, 3) := by decide +kernel
theorem dX12_weeks_69 : decode cX12_weeks 69 = .ok (.aload_n 0, 1) := by decide +kernel
theorem dX12_weeks_70 : decode cX12_weeks 70 = .ok (.getfield 45, 3) := by decide +kernel
theorem dX12_weeks_73 : decode cX12_weeks 73 = .ok (.iload 9, 2) := by decide +kernel
theorem dX12_weeks_75 : decode cX12_weeks 75 = .ok (.iconst 0, 1) := by decide +kernel
theorem dX12_weeks_76 : decode cX12_weeks 76 = .ok (.iastore, 1) := by decide +kernel
theorem dX12_weeks_77 : decode cX12_weeks 77 = .ok (.aload_n 0, 1) := by decide +kernel
theorem dX12_weeks_78 : decode cX12_weeks 78 = .ok (.getfield 36, 3) := by decide +kernel
theorem dX12_weeks_81 : decode cX12_weeks 81 = .ok (.iload 9, 2) := by decide +kernel
theorem dX12_weeks_83 : decode cX12_weeks 83 = .ok (.iaload, 1) := by decide +kernel
theorem dX12_weeks_84 : decode cX12_weeks 84 = .ok (.ifCond .le 39, 3) := by decide +kernel
theorem dX12_weeks_87 : decode cX12_weeks 87 = .ok (.iload 4, 2) := by decide +kernel
theorem dX12_weeks_89 : decode cX12_weeks 89 = .ok (.ldc_w 498, 3) := by decide +kernel
theorem dX12_weeks_92 : decode cX12_weeks 92 = .ok (.imul, 1) := by decide +kernel
theorem dX12_weeks_93 : decode cX12_weeks 93 = .ok (.sipush 12345, 3) := by decide +kernel
theorem dX12_weeks_96 : decode cX12_weeks 96 = .ok (.iadd, 1) := by decide +kernel
theorem dX12_weeks_97 : decode cX12_weeks 97 = .ok (.istore 4, 2) := by decide +kernel
theorem dX12_weeks_99 : decode cX12_weeks 99 = .ok (.aload_n 0, 1) := by decide +kernel
theorem dX12_weeks_100 : decode cX12_weeks 100 = .ok (.getfield 45, 3) := by decide +kernel
theorem dX12_weeks_103 : decode cX12_weeks 103 = .ok (.iload 9, 2) := by decide +kernel
theorem dX12_weeks_105 : decode cX12_weeks 105 = .ok (.iload 4, 2) := by decide +kernel
theorem dX12_weeks_107 : decode cX12_weeks 107 = .ok (.bipush 16, 2) := by decide +kernel
theorem dX12_weeks_109 : decode cX12_weeks 109 = .ok (.iushr, 1) := by decide +kernel
theorem dX12_weeks_110 : decode cX12_weeks 110 = .ok (.bipush 10, 2) := by decide +kernel
theorem dX12_weeks_112 : decode cX12_weeks 112 = .ok (.irem, 1) := by decide +kernel
theorem dX12_weeks_113 : decode cX12_weeks 113 = .ok (.iload_n 3, 1) := by decide +kernel
theorem dX12_weeks_114 : decode cX12_weeks 114 = .ok (.if_icmp .ge 7, 3) := by decide +kernel
theorem dX12_weeks_117 : decode cX12_weeks 117 = .ok (.iconst 1, 1) := by decide +kernel
theorem dX12_weeks_118 : decode cX12_weeks 118 = .ok (.goto 4, 3) := by decide +kernel
theorem dX12_weeks_121 : decode cX12_weeks 121 = .ok (.iconst 0, 1) := by decide +kernel
theorem dX12_weeks_122 : decode cX12_weeks 122 = .ok (.iastore, 1) := by decide +kernel
theorem dX12_weeks_123 : decode cX12_weeks 123 = .ok (.iinc 9 1, 3) := by decide +kernel
theorem dX12_weeks_126 : decode cX12_weeks 126 = .ok (.goto (-64), 3) := by decide +kernel
theorem dX12_weeks_129 : decode cX12_weeks 129 = .ok (.aload_n 0, 1) := by decide +kernel
theorem dX12_weeks_130 : decode cX12_weeks 130 = .ok (.getfield 45, 3) := by decide +kernel
theorem dX12_weeks_133 : decode cX12_weeks 133 = .ok (.bipush 96, 2) := by decide +kernel
theorem dX12_weeks_135 : decode cX12_weeks 135 = .ok (.iconst 0, 1) := by decide +kernel
theorem dX12_weeks_136 : decode cX12_weeks 136 = .ok (.iastore, 1) := by decide +kernel
theorem dX12_weeks_137 : decode cX12_weeks 137 = .ok (.aload_n 0, 1) := by decide +kernel
theorem dX12_weeks_138 : decode cX12_weeks 138 = .ok (.getfield 45, 3) := by decide +kernel
theorem dX12_weeks_141 : decode cX12_weeks 141 = .ok (.bipush 97, 2) := by decide +kernel
theorem dX12_weeks_143 : decode cX12_weeks 143 = .ok (.iconst 0, 1) := by decide +kernel
theorem dX12_weeks_144 : decode cX12_weeks 144 = .ok (.iastore, 1) := by decide +kernel
theorem dX12_weeks_145 : decode cX12_weeks 145 = .ok (.aload_n 0, 1) := by decide +kernel
theorem dX12_weeks_146 : decode cX12_weeks 146 = .ok (.getfield 45, 3) := by decide +kernel
theorem dX12_weeks_149 : decode cX12_weeks 149 = .ok (.bipush 98, 2) := by decide +kernel
theorem dX12_weeks_151 : decode cX12_weeks 151 = .ok (.iconst 0, 1) := by decide +kernel
theorem dX12_weeks_152 : decode cX12_weeks 152 = .ok (.iastore, 1) := by decide +kernel
theorem dX12_weeks_153 : decode cX12_weeks 153 = .ok (.aload_n 0, 1) := by decide +kernel
theorem dX12_weeks_154 : decode cX12_weeks 154 = .ok (.aload_n 0, 1) := by decide +kernel
theorem dX12_weeks_155 : decode cX12_weeks 155 = .ok (.getfield 137, 3) := by decide +kernel
theorem dX12_weeks_158 : decode cX12_weeks 158 = .ok (.putfield 419, 3) := by decide +kernel
theorem dX12_weeks_161 : decode cX12_weeks 161 = .ok (.iconst 0, 1) := by decide +kernel
theorem dX12_weeks_162 : decode cX12_weeks 162 = .ok (.istore 9, 2) := by decide +kernel
theorem dX12_weeks_164 : decode cX12_weeks 164 = .ok (.iload 9, 2) := by decide +kernel
theorem dX12_weeks_166 : decode cX12_weeks 166 = .ok (.aload_n 0, 1) := by decide +kernel
theorem dX12_weeks_167 : decode cX12_weeks 167 = .ok (.getfield 137, 3) := by decide +kernel
theorem dX12_weeks_170 : decode cX12_weeks 170 = .ok (.if_icmp .ge 18, 3) := by decide +kernel
theorem dX12_weeks_173 : decode cX12_weeks 173 = .ok (.aload_n 0, 1) := by decide +kernel
theorem dX12_weeks_174 : decode cX12_weeks 174 = .ok (.getfield 87, 3) := by decide +kernel
theorem dX12_weeks_177 : decode cX12_weeks 177 = .ok (.iload 9, 2) := by decide +kernel
theorem dX12_weeks_179 : decode cX12_weeks 179 = .ok (.iload 9, 2) := by decide +kernel
theorem dX12_weeks_181 : decode cX12_weeks 181 = .ok (.iastore, 1) := by decide +kernel
theorem dX12_weeks_182 : decode cX12_weeks 182 = .ok (.iinc 9 1, 3) := by decide +kernel
theorem dX12_weeks_185 : decode cX12_weeks 185 = .ok (.goto (-21), 3) := by decide +kernel
theorem dX12_weeks_188 : decode cX12_weeks 188 = .ok (.aload_n 0, 1) := by decide +kernel
theorem dX12_weeks_189 : decode cX12_weeks 189 = .ok (.invokevirtual 429, 3) := by decide +kernel
theorem dX12_weeks_192 : decode cX12_weeks 192 = .ok (.istore 9, 2) := by decide +kernel
theorem dX12_weeks_194 : decode cX12_weeks 194 = .ok (.iload 9, 2) := by decide +kernel
theorem dX12_weeks_196 : decode cX12_weeks 196 = .ok (.ifCond .lt 34, 3) := by decide +kernel
theorem dX12_weeks_199 : decode cX12_weeks 199 = .ok (.iinc 5 1, 3) := by decide +kernel
theorem dX12_weeks_202 : decode cX12_weeks 202 = .ok (.iload 6, 2) := by decide +kernel
theorem dX12_weeks_204 : decode cX12_weeks 204 = .ok (.ifCond .ge 8, 3) := by decide +kernel
theorem dX12_weeks_207 : decode cX12_weeks 207 = .ok (.iload 9, 2) := by decide +kernel
theorem dX12_weeks_209 : decode cX12_weeks 209 = .ok (.goto 10, 3) := by decide +kernel
theorem dX12_weeks_212 : decode cX12_weeks 212 = .ok (.iload 6, 2) := by decide +kernel
theorem dX12_weeks_214 : decode cX12_weeks 214 = .ok (.iload 9, 2) := by decide +kernel
theorem dX12_weeks_216 : decode cX12_weeks 216 = .ok (.invokestatic 157, 3) := by decide +kernel
theorem dX12_weeks_219 : decode cX12_weeks 219 = .ok (.istore 6, 2) := by decide +kernel
theorem dX12_weeks_221 : decode cX12_weeks 221 = .ok (.iload 7, 2) := by decide +kernel
theorem dX12_weeks_223 : decode cX12_weeks 223 = .ok (.iload 9, 2) := by decide +kernel
theorem dX12_weeks_225 : decode cX12_weeks 225 = .ok (.invokestatic 257, 3) := by decide +kernel
theorem dX12_weeks_228 : decode cX12_weeks 228 = .ok (.istore 7, 2) := by decide +kernel
theorem dX12_weeks_230 : decode cX12_weeks 230 = .ok (.iinc 8 1, 3) := by decide +kernel
theorem dX12_weeks_233 : decode cX12_weeks 233 = .ok (.goto (-180), 3) := by decide +kernel
theorem dX12_weeks_236 : decode cX12_weeks 236 = .ok (.aload_n 0, 1) := by decide +kernel
theorem dX12_weeks_237 : decode cX12_weeks 237 = .ok (.iconst 0, 1) := by decide +kernel
theorem dX12_weeks_238 : decode cX12_weeks 238 = .ok (.putfield 134, 3) := by decide +kernel
theorem dX12_weeks_241 : decode cX12_weeks 241 = .ok (.aload_n 0, 1) := by decide +kernel
theorem dX12_weeks_242 : decode cX12_weeks 242 = .ok (.iload 6, 2) := by decide +kernel
theorem dX12_weeks_244 : decode cX12_weeks 244 = .ok (.i2l, 1) := by decide +kernel
theorem dX12_weeks_245 : decode cX12_weeks 245 = .ok (.invokevirtual 371, 3) := by decide +kernel
theorem dX12_weeks_248 : decode cX12_weeks 248 = .ok (.aload_n 0, 1) := by decide +kernel
theorem dX12_weeks_249 : decode cX12_weeks 249 = .ok (.iload 7, 2) := by decide +kernel
theorem dX12_weeks_251 : decode cX12_weeks 251 = .ok (.i2l, 1) := by decide +kernel
theorem dX12_weeks_252 : decode cX12_weeks 252 = .ok (.invokevirtual 371, 3) := by decide +kernel
theorem dX12_weeks_255 : decode cX12_weeks 255 = .ok (.iload 5, 2) := by decide +kernel
theorem dX12_weeks_257 : decode cX12_weeks 257 = .ok (.ireturn, 1) := by decide +kernel
theorem dX12_keep_0 : decode cX12_keep 0 = .ok (.aload_n 0, 1) := by decide +kernel
theorem dX12_keep_1 : decode cX12_keep 1 = .ok (.iconst 0, 1) := by decide +kernel
theorem dX12_keep_2 : decode cX12_keep 2 = .ok (.putfield 126, 3) := by decide +kernel
theorem dX12_keep_5 : decode cX12_keep 5 = .ok (.iload_n 1, 1) := by decide +kernel
theorem dX12_keep_6 : decode cX12_keep 6 = .ok (.i2l, 1) := by decide +kernel
theorem dX12_keep_7 : decode cX12_keep 7 = .ok (.lconst 0, 1) := by decide +kernel
theorem dX12_keep_8 : decode cX12_keep 8 = .ok (.ldc2_w 346, 3) := by decide +kernel
theorem dX12_keep_11 : decode cX12_keep 11 = .ok (.invokestatic 140, 3) := by decide +kernel
theorem dX12_keep_14 : decode cX12_keep 14 = .ok (.ifCond .ne 5, 3) := by decide +kernel
theorem dX12_keep_17 : decode cX12_keep 17 = .ok (.iconst 0, 1) := by decide +kernel
theorem dX12_keep_18 : decode cX12_keep 18 = .ok (.ireturn, 1) := by decide +kernel
theorem dX12_keep_19 : decode cX12_keep 19 = .ok (.aload_n 0, 1) := by decide +kernel
theorem dX12_keep_20 : decode cX12_keep 20 = .ok (.getfield 117, 3) := by decide +kernel
theorem dX12_keep_23 : decode cX12_keep 23 = .ok (.iload_n 1, 1) := by decide +kernel
theorem dX12_keep_24 : decode cX12_keep 24 = .ok (.iconst 1, 1) := by decide +kernel
theorem dX12_keep_25 : decode cX12_keep 25 = .ok (.bastore, 1) := by decide +kernel
theorem dX12_keep_26 : decode cX12_keep 26 = .ok (.aload_n 0, 1) := by decide +kernel
theorem dX12_keep_27 : decode cX12_keep 27 = .ok (.getfield 120, 3) := by decide +kernel
theorem dX12_keep_30 : decode cX12_keep 30 = .ok (.iload_n 1, 1) := by decide +kernel
theorem dX12_keep_31 : decode cX12_keep 31 = .ok (.aload_n 0, 1) := by decide +kernel
theorem dX12_keep_32 : decode cX12_keep 32 = .ok (.getfield 227, 3) := by decide +kernel
theorem dX12_keep_35 : decode cX12_keep 35 = .ok (.iastore, 1) := by decide +kernel
theorem dX12_keep_36 : decode cX12_keep 36 = .ok (.iconst 0, 1) := by decide +kernel
theorem dX12_keep_37 : decode cX12_keep 37 = .ok (.istore_n 2, 1) := by decide +kernel
theorem dX12_keep_38 : decode cX12_keep 38 = .ok (.iload_n 2, 1) := by decide +kernel
theorem dX12_keep_39 : decode cX12_keep 39 = .ok (.bipush 99, 2) := by decide +kernel
theorem dX12_keep_41 : decode cX12_keep 41 = .ok (.if_icmp .ge 26, 3) := by decide +kernel
theorem dX12_keep_44 : decode cX12_keep 44 = .ok (.aload_n 0, 1) := by decide +kernel
theorem dX12_keep_45 : decode cX12_keep 45 = .ok (.getfield 123, 3) := by decide +kernel
theorem dX12_keep_48 : decode cX12_keep 48 = .ok (.bipush 99, 2) := by decide +kernel
theorem dX12_keep_50 : decode cX12_keep 50 = .ok (.iload_n 1, 1) := by decide +kernel
theorem dX12_keep_51 : decode cX12_keep 51 = .ok (.imul, 1) := by decide +kernel
theorem dX12_keep_52 : decode cX12_keep 52 = .ok (.iload_n 2, 1) := by decide +kernel
theorem dX12_keep_53 : decode cX12_keep 53 = .ok (.iadd, 1) := by decide +kernel
theorem dX12_keep_54 : decode cX12_keep 54 = .ok (.aload_n 0, 1) := by decide +kernel
theorem dX12_keep_55 : decode cX12_keep 55 = .ok (.getfield 42, 3) := by decide +kernel
theorem dX12_keep_58 : decode cX12_keep 58 = .ok (.iload_n 2, 1) := by decide +kernel
theorem dX12_keep_59 : decode cX12_keep 59 = .ok (.iaload, 1) := by decide +kernel
theorem dX12_keep_60 : decode cX12_keep 60 = .ok (.iastore, 1) := by decide +kernel
theorem dX12_keep_61 : decode cX12_keep 61 = .ok (.iinc 2 1, 3) := by decide +kernel
theorem dX12_keep_64 : decode cX12_keep 64 = .ok (.goto (-26), 3) := by decide +kernel
theorem dX12_keep_67 : decode cX12_keep 67 = .ok (.iconst 1, 1) := by decide +kernel
theorem dX12_keep_68 : decode cX12_keep 68 = .ok (.ireturn, 1) := by decide +kernel
theorem dX12_again_0 : decode cX12_again 0 = .ok (.aload_n 0, 1) := by decide +kernel
theorem dX12_again_1 : decode cX12_again 1 = .ok (.iconst 0, 1) := by decide +kernel
theorem dX12_again_2 : decode cX12_again 2 = .ok (.putfield 126, 3) := by decide +kernel
theorem dX12_again_5 : decode cX12_again 5 = .ok (.iload_n 1, 1) := by decide +kernel
theorem dX12_again_6 : decode cX12_again 6 = .ok (.i2l, 1) := by decide +kernel
theorem dX12_again_7 : decode cX12_again 7 = .ok (.lconst 0, 1) := by decide +kernel
theorem dX12_again_8 : decode cX12_again 8 = .ok (.ldc2_w 346, 3) := by decide +kernel
theorem dX12_again_11 : decode cX12_again 11 = .ok (.invokestatic 140, 3) := by decide +kernel
theorem dX12_again_14 : decode cX12_again 14 = .ok (.ifCond .eq 46, 3) := by decide +kernel
theorem dX12_again_17 : decode cX12_again 17 = .ok (.aload_n 0, 1) := by decide +kernel
theorem dX12_again_18 : decode cX12_again 18 = .ok (.getfield 117, 3) := by decide +kernel
theorem dX12_again_21 : decode cX12_again 21 = .ok (.iload_n 1, 1) := by decide +kernel
theorem dX12_again_22 : decode cX12_again 22 = .ok (.baload, 1) := by decide +kernel
theorem dX12_again_23 : decode cX12_again 23 = .ok (.ifCond .eq 37, 3) := by decide +kernel
theorem dX12_again_26 : decode cX12_again 26 = .ok (.aload_n 0, 1) := by decide +kernel
theorem dX12_again_27 : decode cX12_again 27 = .ok (.getfield 120, 3) := by decide +kernel
theorem dX12_again_30 : decode cX12_again 30 = .ok (.iload_n 1, 1) := by decide +kernel
theorem dX12_again_31 : decode cX12_again 31 = .ok (.iaload, 1) := by decide +kernel
theorem dX12_again_32 : decode cX12_again 32 = .ok (.aload_n 0, 1) := by decide +kernel
theorem dX12_again_33 : decode cX12_again 33 = .ok (.getfield 227, 3) := by decide +kernel
theorem dX12_again_36 : decode cX12_again 36 = .ok (.if_icmp .ne 24, 3) := by decide +kernel
theorem dX12_again_39 : decode cX12_again 39 = .ok (.aload_n 0, 1) := by decide +kernel
theorem dX12_again_40 : decode cX12_again 40 = .ok (.getfield 123, 3) := by decide +kernel
theorem dX12_again_43 : decode cX12_again 43 = .ok (.bipush 99, 2) := by decide +kernel
theorem dX12_again_45 : decode cX12_again 45 = .ok (.iload_n 1, 1) := by decide +kernel
theorem dX12_again_46 : decode cX12_again 46 = .ok (.imul, 1) := by decide +kernel
theorem dX12_again_47 : decode cX12_again 47 = .ok (.bipush 96, 2) := by decide +kernel
theorem dX12_again_49 : decode cX12_again 49 = .ok (.iadd, 1) := by decide +kernel
theorem dX12_again_50 : decode cX12_again 50 = .ok (.iaload, 1) := by decide +kernel
theorem dX12_again_51 : decode cX12_again 51 = .ok (.aload_n 0, 1) := by decide +kernel
theorem dX12_again_52 : decode cX12_again 52 = .ok (.getfield 39, 3) := by decide +kernel
theorem dX12_again_55 : decode cX12_again 55 = .ok (.iconst 0, 1) := by decide +kernel
theorem dX12_again_56 : decode cX12_again 56 = .ok (.iaload, 1) := by decide +kernel
theorem dX12_again_57 : decode cX12_again 57 = .ok (.if_icmp .le 5, 3) := by decide +kernel
theorem dX12_again_60 : decode cX12_again 60 = .ok (.iconst 0, 1) := by decide +kernel
theorem dX12_again_61 : decode cX12_again 61 = .ok (.ireturn, 1) := by decide +kernel
theorem dX12_again_62 : decode cX12_again 62 = .ok (.iconst 0, 1) := by decide +kernel
theorem dX12_again_63 : decode cX12_again 63 = .ok (.istore_n 2, 1) := by decide +kernel
theorem dX12_again_64 : decode cX12_again 64 = .ok (.iload_n 2, 1) := by decide +kernel
theorem dX12_again_65 : decode cX12_again 65 = .ok (.bipush 99, 2) := by decide +kernel
theorem dX12_again_67 : decode cX12_again 67 = .ok (.if_icmp .ge 26, 3) := by decide +kernel
theorem dX12_again_70 : decode cX12_again 70 = .ok (.aload_n 0, 1) := by decide +kernel
theorem dX12_again_71 : decode cX12_again 71 = .ok (.getfield 42, 3) := by decide +kernel
theorem dX12_again_74 : decode cX12_again 74 = .ok (.iload_n 2, 1) := by decide +kernel
theorem dX12_again_75 : decode cX12_again 75 = .ok (.aload_n 0, 1) := by decide +kernel
theorem dX12_again_76 : decode cX12_again 76 = .ok (.getfield 123, 3) := by decide +kernel
theorem dX12_again_79 : decode cX12_again 79 = .ok (.bipush 99, 2) := by decide +kernel
theorem dX12_again_81 : decode cX12_again 81 = .ok (.iload_n 1, 1) := by decide +kernel
theorem dX12_again_82 : decode cX12_again 82 = .ok (.imul, 1) := by decide +kernel
theorem dX12_again_83 : decode cX12_again 83 = .ok (.iload_n 2, 1) := by decide +kernel
theorem dX12_again_84 : decode cX12_again 84 = .ok (.iadd, 1) := by decide +kernel
theorem dX12_again_85 : decode cX12_again 85 = .ok (.iaload, 1) := by decide +kernel
theorem dX12_again_86 : decode cX12_again 86 = .ok (.iastore, 1) := by decide +kernel
theorem dX12_again_87 : decode cX12_again 87 = .ok (.iinc 2 1, 3) := by decide +kernel
theorem dX12_again_90 : decode cX12_again 90 = .ok (.goto (-26), 3) := by decide +kernel
theorem dX12_again_93 : decode cX12_again 93 = .ok (.aload_n 0, 1) := by decide +kernel
theorem dX12_again_94 : decode cX12_again 94 = .ok (.iconst 0, 1) := by decide +kernel
theorem dX12_again_95 : decode cX12_again 95 = .ok (.putfield 224, 3) := by decide +kernel
theorem dX12_again_98 : decode cX12_again 98 = .ok (.iconst 1, 1) := by decide +kernel
theorem dX12_again_99 : decode cX12_again 99 = .ok (.ireturn, 1) := by decide +kernel
theorem dX12_count_0 : decode cX12_count 0 = .ok (.aload_n 0, 1) := by decide +kernel
theorem dX12_count_1 : decode cX12_count 1 = .ok (.iconst 0, 1) := by decide +kernel
theorem dX12_count_2 : decode cX12_count 2 = .ok (.putfield 126, 3) := by decide +kernel
theorem dX12_count_5 : decode cX12_count 5 = .ok (.iload_n 1, 1) := by decide +kernel
theorem dX12_count_6 : decode cX12_count 6 = .ok (.tableswitch 136 0 11 #[62, 67, 75, 83, 91, 97, 103, 109, 114, 119, 124, 129], 62) := by decide +kernel
theorem dX12_count_68 : decode cX12_count 68 = .ok (.aload_n 0, 1) := by decide +kernel
theorem dX12_count_69 : decode cX12_count 69 = .ok (.getfield 137, 3) := by decide +kernel
theorem dX12_count_72 : decode cX12_count 72 = .ok (.ireturn, 1) := by decide +kernel
theorem dX12_count_73 : decode cX12_count 73 = .ok (.aload_n 0, 1) := by decide +kernel
theorem dX12_count_74 : decode cX12_count 74 = .ok (.getfield 42, 3) := by decide +kernel
theorem dX12_count_77 : decode cX12_count 77 = .ok (.bipush 97, 2) := by decide +kernel
theorem dX12_count_79 : decode cX12_count 79 = .ok (.iaload, 1) := by decide +kernel
theorem dX12_count_80 : decode cX12_count 80 = .ok (.ireturn, 1) := by decide +kernel
theorem dX12_count_81 : decode cX12_count 81 = .ok (.aload_n 0, 1) := by decide +kernel
theorem dX12_count_82 : decode cX12_count 82 = .ok (.getfield 42, 3) := by decide +kernel
theorem dX12_count_85 : decode cX12_count 85 = .ok (.bipush 96, 2) := by decide +kernel
theorem dX12_count_87 : decode cX12_count 87 = .ok (.iaload, 1) := by decide +kernel
theorem dX12_count_88 : decode cX12_count 88 = .ok (.ireturn, 1) := by decide +kernel
theorem dX12_count_89 : decode cX12_count 89 = .ok (.aload_n 0, 1) := by decide +kernel
theorem dX12_count_90 : decode cX12_count 90 = .ok (.getfield 42, 3) := by decide +kernel
theorem dX12_count_93 : decode cX12_count 93 = .ok (.bipush 98, 2) := by decide +kernel
theorem dX12_count_95 : decode cX12_count 95 = .ok (.iaload, 1) := by decide +kernel
theorem dX12_count_96 : decode cX12_count 96 = .ok (.ireturn, 1) := by decide +kernel
theorem dX12_count_97 : decode cX12_count 97 = .ok (.aload_n 0, 1) := by decide +kernel
theorem dX12_count_98 : decode cX12_count 98 = .ok (.iconst 1, 1) := by decide +kernel
theorem dX12_count_99 : decode cX12_count 99 = .ok (.invokevirtual 384, 3) := by decide +kernel
theorem dX12_count_102 : decode cX12_count 102 = .ok (.ireturn, 1) := by decide +kernel
theorem dX12_count_103 : decode cX12_count 103 = .ok (.aload_n 0, 1) := by decide +kernel
theorem dX12_count_104 : decode cX12_count 104 = .ok (.iconst 2, 1) := by decide +kernel
theorem dX12_count_105 : decode cX12_count 105 = .ok (.invokevirtual 384, 3) := by decide +kernel
theorem dX12_count_108 : decode cX12_count 108 = .ok (.ireturn, 1) := by decide +kernel
theorem dX12_count_109 : decode cX12_count 109 = .ok (.aload_n 0, 1) := by decide +kernel
theorem dX12_count_110 : decode cX12_count 110 = .ok (.iconst 3, 1) := by decide +kernel
theorem dX12_count_111 : decode cX12_count 111 = .ok (.invokevirtual 384, 3) := by decide +kernel
theorem dX12_count_114 : decode cX12_count 114 = .ok (.ireturn, 1) := by decide +kernel
theorem dX12_count_115 : decode cX12_count 115 = .ok (.aload_n 0, 1) := by decide +kernel
theorem dX12_count_116 : decode cX12_count 116 = .ok (.getfield 470, 3) := by decide +kernel
theorem dX12_count_119 : decode cX12_count 119 = .ok (.ireturn, 1) := by decide +kernel
theorem dX12_count_120 : decode cX12_count 120 = .ok (.aload_n 0, 1) := by decide +kernel
theorem dX12_count_121 : decode cX12_count 121 = .ok (.getfield 224, 3) := by decide +kernel
theorem dX12_count_124 : decode cX12_count 124 = .ok (.ireturn, 1) := by decide +kernel
theorem dX12_count_125 : decode cX12_count 125 = .ok (.aload_n 0, 1) := by decide +kernel
theorem dX12_count_126 : decode cX12_count 126 = .ok (.getfield 134, 3) := by decide +kernel
theorem dX12_count_129 : decode cX12_count 129 = .ok (.ireturn, 1) := by decide +kernel
theorem dX12_count_130 : decode cX12_count 130 = .ok (.aload_n 0, 1) := by decide +kernel
theorem dX12_count_131 : decode cX12_count 131 = .ok (.getfield 148, 3) := by decide +kernel
theorem dX12_count_134 : decode cX12_count 134 = .ok (.ireturn, 1) := by decide +kernel
theorem dX12_count_135 : decode cX12_count 135 = .ok (.aload_n 0, 1) := by decide +kernel
theorem dX12_count_136 : decode cX12_count 136 = .ok (.getfield 39, 3) := by decide +kernel
theorem dX12_count_139 : decode cX12_count 139 = .ok (.iconst 0, 1) := by decide +kernel
theorem dX12_count_140 : decode cX12_count 140 = .ok (.iaload, 1) := by decide +kernel
theorem dX12_count_141 : decode cX12_count 141 = .ok (.ireturn, 1) := by decide +kernel
theorem dX12_count_142 : decode cX12_count 142 = .ok (.bipush (-100), 2) := by decide +kernel
theorem dX12_count_144 : decode cX12_count 144 = .ok (.ireturn, 1) := by decide +kernel
theorem dX12_row_0 : decode cX12_row 0 = .ok (.aload_n 0, 1) := by decide +kernel
theorem dX12_row_1 : decode cX12_row 1 = .ok (.iconst 0, 1) := by decide +kernel
theorem dX12_row_2 : decode cX12_row 2 = .ok (.putfield 126, 3) := by decide +kernel
theorem dX12_row_5 : decode cX12_row 5 = .ok (.iload_n 1, 1) := by decide +kernel
theorem dX12_row_6 : decode cX12_row 6 = .ok (.i2l, 1) := by decide +kernel
theorem dX12_row_7 : decode cX12_row 7 = .ok (.lconst 0, 1) := by decide +kernel
theorem dX12_row_8 : decode cX12_row 8 = .ok (.aload_n 0, 1) := by decide +kernel
theorem dX12_row_9 : decode cX12_row 9 = .ok (.getfield 134, 3) := by decide +kernel
theorem dX12_row_12 : decode cX12_row 12 = .ok (.iconst 1, 1) := by decide +kernel
theorem dX12_row_13 : decode cX12_row 13 = .ok (.isub, 1) := by decide +kernel
theorem dX12_row_14 : decode cX12_row 14 = .ok (.i2l, 1) := by decide +kernel
theorem dX12_row_15 : decode cX12_row 15 = .ok (.invokestatic 140, 3) := by decide +kernel
theorem dX12_row_18 : decode cX12_row 18 = .ok (.ifCond .ne 10, 3) := by decide +kernel
theorem dX12_row_21 : decode cX12_row 21 = .ok (.aload_n 0, 1) := by decide +kernel
theorem dX12_row_22 : decode cX12_row 22 = .ok (.iconst 1, 1) := by decide +kernel
theorem dX12_row_23 : decode cX12_row 23 = .ok (.putfield 126, 3) := by decide +kernel
theorem dX12_row_26 : decode cX12_row 26 = .ok (.lconst 0, 1) := by decide +kernel
theorem dX12_row_27 : decode cX12_row 27 = .ok (.lreturn, 1) := by decide +kernel
theorem dX12_row_28 : decode cX12_row 28 = .ok (.aload_n 0, 1) := by decide +kernel
theorem dX12_row_29 : decode cX12_row 29 = .ok (.getfield 9, 3) := by decide +kernel
theorem dX12_row_32 : decode cX12_row 32 = .ok (.iload_n 1, 1) := by decide +kernel
theorem dX12_row_33 : decode cX12_row 33 = .ok (.laload, 1) := by decide +kernel
theorem dX12_row_34 : decode cX12_row 34 = .ok (.lreturn, 1) := by decide +kernel
theorem dJ11_isValidCodePoint_9a6ad_0 : decode cJ11_isValidCodePoint_9a6ad 0 = .ok (.iload_n 0, 1) := by decide +kernel
theorem dJ11_isValidCodePoint_9a6ad_1 : decode cJ11_isValidCodePoint_9a6ad 1 = .ok (.bipush 16, 2) := by decide +kernel
theorem dJ11_isValidCodePoint_9a6ad_3 : decode cJ11_isValidCodePoint_9a6ad 3 = .ok (.iushr, 1) := by decide +kernel
theorem dJ11_isValidCodePoint_9a6ad_4 : decode cJ11_isValidCodePoint_9a6ad 4 = .ok (.istore_n 1, 1) := by decide +kernel
theorem dJ11_isValidCodePoint_9a6ad_5 : decode cJ11_isValidCodePoint_9a6ad 5 = .ok (.iload_n 1, 1) := by decide +kernel
theorem dJ11_isValidCodePoint_9a6ad_6 : decode cJ11_isValidCodePoint_9a6ad 6 = .ok (.bipush 17, 2) := by decide +kernel
theorem dJ11_isValidCodePoint_9a6ad_8 : decode cJ11_isValidCodePoint_9a6ad 8 = .ok (.if_icmp .ge 7, 3) := by decide +kernel
theorem dJ11_isValidCodePoint_9a6ad_11 : decode cJ11_isValidCodePoint_9a6ad 11 = .ok (.iconst 1, 1) := by decide +kernel
theorem dJ11_isValidCodePoint_9a6ad_12 : decode cJ11_isValidCodePoint_9a6ad 12 = .ok (.goto 4, 3) := by decide +kernel
theorem dJ11_isValidCodePoint_9a6ad_15 : decode cJ11_isValidCodePoint_9a6ad 15 = .ok (.iconst 0, 1) := by decide +kernel
theorem dJ11_isValidCodePoint_9a6ad_16 : decode cJ11_isValidCodePoint_9a6ad 16 = .ok (.ireturn, 1) := by decide +kernel
theorem dJ11_highSurrogate_5068e_0 : decode cJ11_highSurrogate_5068e 0 = .ok (.iload_n 0, 1) := by decide +kernel
theorem dJ11_highSurrogate_5068e_1 : decode cJ11_highSurrogate_5068e 1 = .ok (.bipush 10, 2) := by decide +kernel
theorem dJ11_highSurrogate_5068e_3 : decode cJ11_highSurrogate_5068e 3 = .ok (.iushr, 1) := by decide +kernel
theorem dJ11_highSurrogate_5068e_4 : decode cJ11_highSurrogate_5068e 4 = .ok (.ldc 110, 2) := by decide +kernel
theorem dJ11_highSurrogate_5068e_6 : decode cJ11_highSurrogate_5068e 6 = .ok (.iadd, 1) := by decide +kernel
theorem dJ11_highSurrogate_5068e_7 : decode cJ11_highSurrogate_5068e 7 = .ok (.i2c, 1) := by decide +kernel
theorem dJ11_highSurrogate_5068e_8 : decode cJ11_highSurrogate_5068e 8 = .ok (.ireturn, 1) := by decide +kernel
theorem dJ11_lowSurrogate_5068e_0 : decode cJ11_lowSurrogate_5068e 0 = .ok (.iload_n 0, 1) := by decide +kernel
theorem dJ11_lowSurrogate_5068e_1 : decode cJ11_lowSurrogate_5068e 1 = .ok (.sipush 1023, 3) := by decide +kernel
theorem dJ11_lowSurrogate_5068e_4 : decode cJ11_lowSurrogate_5068e 4 = .ok (.iand, 1) := by decide +kernel
theorem dJ11_lowSurrogate_5068e_5 : decode cJ11_lowSurrogate_5068e 5 = .ok (.ldc 76, 2) := by decide +kernel
theorem dJ11_lowSurrogate_5068e_7 : decode cJ11_lowSurrogate_5068e 7 = .ok (.iadd, 1) := by decide +kernel
theorem dJ11_lowSurrogate_5068e_8 : decode cJ11_lowSurrogate_5068e 8 = .ok (.i2c, 1) := by decide +kernel
theorem dJ11_lowSurrogate_5068e_9 : decode cJ11_lowSurrogate_5068e 9 = .ok (.ireturn, 1) := by decide +kernel
theorem dJ6_bitCount_0f7a4_0 : decode cJ6_bitCount_0f7a4 0 = .ok (.iload_n 0, 1) := by decide +kernel
theorem dJ6_bitCount_0f7a4_1 : decode cJ6_bitCount_0f7a4 1 = .ok (.iload_n 0, 1) := by decide +kernel
theorem dJ6_bitCount_0f7a4_2 : decode cJ6_bitCount_0f7a4 2 = .ok (.iconst 1, 1) := by decide +kernel
theorem dJ6_bitCount_0f7a4_3 : decode cJ6_bitCount_0f7a4 3 = .ok (.iushr, 1) := by decide +kernel
theorem dJ6_bitCount_0f7a4_4 : decode cJ6_bitCount_0f7a4 4 = .ok (.ldc_w 265, 3) := by decide +kernel
theorem dJ6_bitCount_0f7a4_7 : decode cJ6_bitCount_0f7a4 7 = .ok (.iand, 1) := by decide +kernel
theorem dJ6_bitCount_0f7a4_8 : decode cJ6_bitCount_0f7a4 8 = .ok (.isub, 1) := by decide +kernel
theorem dJ6_bitCount_0f7a4_9 : decode cJ6_bitCount_0f7a4 9 = .ok (.istore_n 0, 1) := by decide +kernel
theorem dJ6_bitCount_0f7a4_10 : decode cJ6_bitCount_0f7a4 10 = .ok (.iload_n 0, 1) := by decide +kernel
theorem dJ6_bitCount_0f7a4_11 : decode cJ6_bitCount_0f7a4 11 = .ok (.ldc_w 266, 3) := by decide +kernel
theorem dJ6_bitCount_0f7a4_14 : decode cJ6_bitCount_0f7a4 14 = .ok (.iand, 1) := by decide +kernel
theorem dJ6_bitCount_0f7a4_15 : decode cJ6_bitCount_0f7a4 15 = .ok (.iload_n 0, 1) := by decide +kernel
theorem dJ6_bitCount_0f7a4_16 : decode cJ6_bitCount_0f7a4 16 = .ok (.iconst 2, 1) := by decide +kernel
theorem dJ6_bitCount_0f7a4_17 : decode cJ6_bitCount_0f7a4 17 = .ok (.iushr, 1) := by decide +kernel
theorem dJ6_bitCount_0f7a4_18 : decode cJ6_bitCount_0f7a4 18 = .ok (.ldc_w 266, 3) := by decide +kernel
theorem dJ6_bitCount_0f7a4_21 : decode cJ6_bitCount_0f7a4 21 = .ok (.iand, 1) := by decide +kernel
theorem dJ6_bitCount_0f7a4_22 : decode cJ6_bitCount_0f7a4 22 = .ok (.iadd, 1) := by decide +kernel
theorem dJ6_bitCount_0f7a4_23 : decode cJ6_bitCount_0f7a4 23 = .ok (.istore_n 0, 1) := by decide +kernel
theorem dJ6_bitCount_0f7a4_24 : decode cJ6_bitCount_0f7a4 24 = .ok (.iload_n 0, 1) := by decide +kernel
theorem dJ6_bitCount_0f7a4_25 : decode cJ6_bitCount_0f7a4 25 = .ok (.iload_n 0, 1) := by decide +kernel
theorem dJ6_bitCount_0f7a4_26 : decode cJ6_bitCount_0f7a4 26 = .ok (.iconst 4, 1) := by decide +kernel
theorem dJ6_bitCount_0f7a4_27 : decode cJ6_bitCount_0f7a4 27 = .ok (.iushr, 1) := by decide +kernel
theorem dJ6_bitCount_0f7a4_28 : decode cJ6_bitCount_0f7a4 28 = .ok (.iadd, 1) := by decide +kernel
theorem dJ6_bitCount_0f7a4_29 : decode cJ6_bitCount_0f7a4 29 = .ok (.ldc_w 267, 3) := by decide +kernel
theorem dJ6_bitCount_0f7a4_32 : decode cJ6_bitCount_0f7a4 32 = .ok (.iand, 1) := by decide +kernel
theorem dJ6_bitCount_0f7a4_33 : decode cJ6_bitCount_0f7a4 33 = .ok (.istore_n 0, 1) := by decide +kernel
theorem dJ6_bitCount_0f7a4_34 : decode cJ6_bitCount_0f7a4 34 = .ok (.iload_n 0, 1) := by decide +kernel
theorem dJ6_bitCount_0f7a4_35 : decode cJ6_bitCount_0f7a4 35 = .ok (.iload_n 0, 1) := by decide +kernel
theorem dJ6_bitCount_0f7a4_36 : decode cJ6_bitCount_0f7a4 36 = .ok (.bipush 8, 2) := by decide +kernel
theorem dJ6_bitCount_0f7a4_38 : decode cJ6_bitCount_0f7a4 38 = .ok (.iushr, 1) := by decide +kernel
theorem dJ6_bitCount_0f7a4_39 : decode cJ6_bitCount_0f7a4 39 = .ok (.iadd, 1) := by decide +kernel
theorem dJ6_bitCount_0f7a4_40 : decode cJ6_bitCount_0f7a4 40 = .ok (.istore_n 0, 1) := by decide +kernel
theorem dJ6_bitCount_0f7a4_41 : decode cJ6_bitCount_0f7a4 41 = .ok (.iload_n 0, 1) := by decide +kernel
theorem dJ6_bitCount_0f7a4_42 : decode cJ6_bitCount_0f7a4 42 = .ok (.iload_n 0, 1) := by decide +kernel
theorem dJ6_bitCount_0f7a4_43 : decode cJ6_bitCount_0f7a4 43 = .ok (.bipush 16, 2) := by decide +kernel
theorem dJ6_bitCount_0f7a4_45 : decode cJ6_bitCount_0f7a4 45 = .ok (.iushr, 1) := by decide +kernel
theorem dJ6_bitCount_0f7a4_46 : decode cJ6_bitCount_0f7a4 46 = .ok (.iadd, 1) := by decide +kernel
theorem dJ6_bitCount_0f7a4_47 : decode cJ6_bitCount_0f7a4 47 = .ok (.istore_n 0, 1) := by decide +kernel
theorem dJ6_bitCount_0f7a4_48 : decode cJ6_bitCount_0f7a4 48 = .ok (.iload_n 0, 1) := by decide +kernel
theorem dJ6_bitCount_0f7a4_49 : decode cJ6_bitCount_0f7a4 49 = .ok (.bipush 63, 2) := by decide +kernel
theorem dJ6_bitCount_0f7a4_51 : decode cJ6_bitCount_0f7a4 51 = .ok (.iand, 1) := by decide +kernel
theorem dJ6_bitCount_0f7a4_52 : decode cJ6_bitCount_0f7a4 52 = .ok (.ireturn, 1) := by decide +kernel
theorem dJ9_abs_0f7a4_0 : decode cJ9_abs_0f7a4 0 = .ok (.iload_n 0, 1) := by decide +kernel
theorem dJ9_abs_0f7a4_1 : decode cJ9_abs_0f7a4 1 = .ok (.ifCond .ge 8, 3) := by decide +kernel
theorem dJ9_abs_0f7a4_4 : decode cJ9_abs_0f7a4 4 = .ok (.iload_n 0, 1) := by decide +kernel
theorem dJ9_abs_0f7a4_5 : decode cJ9_abs_0f7a4 5 = .ok (.ineg, 1) := by decide +kernel
theorem dJ9_abs_0f7a4_6 : decode cJ9_abs_0f7a4 6 = .ok (.goto 4, 3) := by decide +kernel
theorem dJ9_abs_0f7a4_9 : decode cJ9_abs_0f7a4 9 = .ok (.iload_n 0, 1) := by decide +kernel
theorem dJ9_abs_0f7a4_10 : decode cJ9_abs_0f7a4 10 = .ok (.ireturn, 1) := by decide +kernel
theorem dJ9_max_7cf53_0 : decode cJ9_max_7cf53 0 = .ok (.iload_n 0, 1) := by decide +kernel
theorem dJ9_max_7cf53_1 : decode cJ9_max_7cf53 1 = .ok (.iload_n 1, 1) := by decide +kernel
theorem dJ9_max_7cf53_2 : decode cJ9_max_7cf53 2 = .ok (.if_icmp .lt 7, 3) := by decide +kernel
theorem dJ9_max_7cf53_5 : decode cJ9_max_7cf53 5 = .ok (.iload_n 0, 1) := by decide +kernel
theorem dJ9_max_7cf53_6 : decode cJ9_max_7cf53 6 = .ok (.goto 4, 3) := by decide +kernel
theorem dJ9_max_7cf53_9 : decode cJ9_max_7cf53 9 = .ok (.iload_n 1, 1) := by decide +kernel
theorem dJ9_max_7cf53_10 : decode cJ9_max_7cf53 10 = .ok (.ireturn, 1) := by decide +kernel
theorem dJ9_min_7cf53_0 : decode cJ9_min_7cf53 0 = .ok (.iload_n 0, 1) := by decide +kernel
theorem dJ9_min_7cf53_1 : decode cJ9_min_7cf53 1 = .ok (.iload_n 1, 1) := by decide +kernel
theorem dJ9_min_7cf53_2 : decode cJ9_min_7cf53 2 = .ok (.if_icmp .gt 7, 3) := by decide +kernel
theorem dJ9_min_7cf53_5 : decode cJ9_min_7cf53 5 = .ok (.iload_n 0, 1) := by decide +kernel
theorem dJ9_min_7cf53_6 : decode cJ9_min_7cf53 6 = .ok (.goto 4, 3) := by decide +kernel
theorem dJ9_min_7cf53_9 : decode cJ9_min_7cf53 9 = .ok (.iload_n 1, 1) := by decide +kernel
theorem dJ9_min_7cf53_10 : decode cJ9_min_7cf53 10 = .ok (.ireturn, 1) := by decide +kernel
theorem dJ0_length_8abf5_0 : decode cJ0_length_8abf5 0 = .ok (.aload_n 0, 1) := by decide +kernel
theorem dJ0_length_8abf5_1 : decode cJ0_length_8abf5 1 = .ok (.getfield 9, 3) := by decide +kernel
theorem dJ0_length_8abf5_4 : decode cJ0_length_8abf5 4 = .ok (.arraylength, 1) := by decide +kernel
theorem dJ0_length_8abf5_5 : decode cJ0_length_8abf5 5 = .ok (.aload_n 0, 1) := by decide +kernel
theorem dJ0_length_8abf5_6 : decode cJ0_length_8abf5 6 = .ok (.invokevirtual 335, 3) := by decide +kernel
theorem dJ0_length_8abf5_9 : decode cJ0_length_8abf5 9 = .ok (.ishr, 1) := by decide +kernel
theorem dJ0_length_8abf5_10 : decode cJ0_length_8abf5 10 = .ok (.ireturn, 1) := by decide +kernel
theorem dJ0_charAt_5068e_0 : decode cJ0_charAt_5068e 0 = .ok (.aload_n 0, 1) := by decide +kernel
theorem dJ0_charAt_5068e_1 : decode cJ0_charAt_5068e 1 = .ok (.invokevirtual 492, 3) := by decide +kernel
theorem dJ0_charAt_5068e_4 : decode cJ0_charAt_5068e 4 = .ok (.ifCond .eq 12, 3) := by decide +kernel
theorem dJ0_charAt_5068e_7 : decode cJ0_charAt_5068e 7 = .ok (.aload_n 0, 1) := by decide +kernel
theorem dJ0_charAt_5068e_8 : decode cJ0_charAt_5068e 8 = .ok (.getfield 9, 3) := by decide +kernel
theorem dJ0_charAt_5068e_11 : decode cJ0_charAt_5068e 11 = .ok (.iload_n 1, 1) := by decide +kernel
theorem dJ0_charAt_5068e_12 : decode cJ0_charAt_5068e 12 = .ok (.invokestatic 495, 3) := by decide +kernel
theorem dJ0_charAt_5068e_15 : decode cJ0_charAt_5068e 15 = .ok (.ireturn, 1) := by decide +kernel
theorem dJ0_charAt_5068e_16 : decode cJ0_charAt_5068e 16 = .ok (.aload_n 0, 1) := by decide +kernel
theorem dJ0_charAt_5068e_17 : decode cJ0_charAt_5068e 17 = .ok (.getfield 9, 3) := by decide +kernel
theorem dJ0_charAt_5068e_20 : decode cJ0_charAt_5068e 20 = .ok (.iload_n 1, 1) := by decide +kernel
theorem dJ0_charAt_5068e_21 : decode cJ0_charAt_5068e 21 = .ok (.invokestatic 498, 3) := by decide +kernel
theorem dJ0_charAt_5068e_24 : decode cJ0_charAt_5068e 24 = .ok (.ireturn, 1) := by decide +kernel
theorem dJ0_indexOf_0f7a4_0 : decode cJ0_indexOf_0f7a4 0 = .ok (.aload_n 0, 1) := by decide +kernel
theorem dJ0_indexOf_0f7a4_1 : decode cJ0_indexOf_0f7a4 1 = .ok (.iload_n 1, 1) := by decide +kernel
theorem dJ0_indexOf_0f7a4_2 : decode cJ0_indexOf_0f7a4 2 = .ok (.iconst 0, 1) := by decide +kernel
theorem dJ0_indexOf_0f7a4_3 : decode cJ0_indexOf_0f7a4 3 = .ok (.invokevirtual 633, 3) := by decide +kernel
theorem dJ0_indexOf_0f7a4_6 : decode cJ0_indexOf_0f7a4 6 = .ok (.ireturn, 1) := by decide +kernel
theorem dJ0_indexOf_7cf53_0 : decode cJ0_indexOf_7cf53 0 = .ok (.aload_n 0, 1) := by decide +kernel
theorem dJ0_indexOf_7cf53_1 : decode cJ0_indexOf_7cf53 1 = .ok (.invokevirtual 492, 3) := by decide +kernel
theorem dJ0_indexOf_7cf53_4 : decode cJ0_indexOf_7cf53 4 = .ok (.ifCond .eq 19, 3) := by decide +kernel
theorem dJ0_indexOf_7cf53_7 : decode cJ0_indexOf_7cf53 7 = .ok (.aload_n 0, 1) := by decide +kernel
theorem dJ0_indexOf_7cf53_8 : decode cJ0_indexOf_7cf53 8 = .ok (.getfield 9, 3) := by decide +kernel
theorem dJ0_indexOf_7cf53_11 : decode cJ0_indexOf_7cf53 11 = .ok (.iload_n 1, 1) := by decide +kernel
theorem dJ0_indexOf_7cf53_12 : decode cJ0_indexOf_7cf53 12 = .ok (.iload_n 2, 1) := by decide +kernel
theorem dJ0_indexOf_7cf53_13 : decode cJ0_indexOf_7cf53 13 = .ok (.aload_n 0, 1) := by decide +kernel
theorem dJ0_indexOf_7cf53_14 : decode cJ0_indexOf_7cf53 14 = .ok (.invokevirtual 505, 3) := by decide +kernel
theorem dJ0_indexOf_7cf53_17 : decode cJ0_indexOf_7cf53 17 = .ok (.invokestatic 637, 3) := by decide +kernel
theorem dJ0_indexOf_7cf53_20 : decode cJ0_indexOf_7cf53 20 = .ok (.goto 16, 3) := by decide +kernel
theorem dJ0_indexOf_7cf53_23 : decode cJ0_indexOf_7cf53 23 = .ok (.aload_n 0, 1) := by decide +kernel
theorem dJ0_indexOf_7cf53_24 : decode cJ0_indexOf_7cf53 24 = .ok (.getfield 9, 3) := by decide +kernel
theorem dJ0_indexOf_7cf53_27 : decode cJ0_indexOf_7cf53 27 = .ok (.iload_n 1, 1) := by decide +kernel
theorem dJ0_indexOf_7cf53_28 : decode cJ0_indexOf_7cf53 28 = .ok (.iload_n 2, 1) := by decide +kernel
theorem dJ0_indexOf_7cf53_29 : decode cJ0_indexOf_7cf53 29 = .ok (.aload_n 0, 1) := by decide +kernel
theorem dJ0_indexOf_7cf53_30 : decode cJ0_indexOf_7cf53 30 = .ok (.invokevirtual 505, 3) := by decide +kernel
theorem dJ0_indexOf_7cf53_33 : decode cJ0_indexOf_7cf53 33 = .ok (.invokestatic 640, 3) := by decide +kernel
theorem dJ0_indexOf_7cf53_36 : decode cJ0_indexOf_7cf53 36 = .ok (.ireturn, 1) := by decide +kernel
theorem dJ0_coder_7d493_0 : decode cJ0_coder_7d493 0 = .ok (.getstatic 38, 3) := by decide +kernel
theorem dJ0_coder_7d493_3 : decode cJ0_coder_7d493 3 = .ok (.ifCond .eq 10, 3) := by decide +kernel
theorem dJ0_coder_7d493_6 : decode cJ0_coder_7d493 6 = .ok (.aload_n 0, 1) := by decide +kernel
theorem dJ0_coder_7d493_7 : decode cJ0_coder_7d493 7 = .ok (.getfield 15, 3) := by decide +kernel
theorem dJ0_coder_7d493_10 : decode cJ0_coder_7d493 10 = .ok (.goto 4, 3) := by decide +kernel
theorem dJ0_coder_7d493_13 : decode cJ0_coder_7d493 13 = .ok (.iconst 1, 1) := by decide +kernel
theorem dJ0_coder_7d493_14 : decode cJ0_coder_7d493 14 = .ok (.ireturn, 1) := by decide +kernel
theorem dJ0_isLatin1_aae02_0 : decode cJ0_isLatin1_aae02 0 = .ok (.getstatic 38, 3) := by decide +kernel
theorem dJ0_isLatin1_aae02_3 : decode cJ0_isLatin1_aae02 3 = .ok (.ifCond .eq 14, 3) := by decide +kernel
theorem dJ0_isLatin1_aae02_6 : decode cJ0_isLatin1_aae02 6 = .ok (.aload_n 0, 1) := by decide +kernel
theorem dJ0_isLatin1_aae02_7 : decode cJ0_isLatin1_aae02 7 = .ok (.getfield 15, 3) := by decide +kernel
theorem dJ0_isLatin1_aae02_10 : decode cJ0_isLatin1_aae02 10 = .ok (.ifCond .ne 7, 3) := by decide +kernel
theorem dJ0_isLatin1_aae02_13 : decode cJ0_isLatin1_aae02 13 = .ok (.iconst 1, 1) := by decide +kernel
theorem dJ0_isLatin1_aae02_14 : decode cJ0_isLatin1_aae02 14 = .ok (.goto 4, 3) := by decide +kernel
theorem dJ0_isLatin1_aae02_17 : decode cJ0_isLatin1_aae02 17 = .ok (.iconst 0, 1) := by decide +kernel
theorem dJ0_isLatin1_aae02_18 : decode cJ0_isLatin1_aae02 18 = .ok (.ireturn, 1) := by decide +kernel
theorem dJ0_checkIndex_df160_0 : decode cJ0_checkIndex_df160 0 = .ok (.iload_n 0, 1) := by decide +kernel
theorem dJ0_checkIndex_df160_1 : decode cJ0_checkIndex_df160 1 = .ok (.iload_n 1, 1) := by decide +kernel
theorem dJ0_checkIndex_df160_2 : decode cJ0_checkIndex_df160 2 = .ok (.getstatic 1053, 3) := by decide +kernel
theorem dJ0_checkIndex_df160_5 : decode cJ0_checkIndex_df160 5 = .ok (.invokestatic 1059, 3) := by decide +kernel
theorem dJ0_checkIndex_df160_8 : decode cJ0_checkIndex_df160 8 = .ok (.pop, 1) := by decide +kernel
theorem dJ0_checkIndex_df160_9 : decode cJ0_checkIndex_df160 9 = .ok (.return_, 1) := by decide +kernel
theorem dJ0_checkBoundsBeginEnd_23922_0 : decode cJ0_checkBoundsBeginEnd_23922 0 = .ok (.iload_n 0, 1) := by decide +kernel
theorem dJ0_checkBoundsBeginEnd_23922_1 : decode cJ0_checkBoundsBeginEnd_23922 1 = .ok (.iload_n 1, 1) := by decide +kernel
theorem dJ0_checkBoundsBeginEnd_23922_2 : decode cJ0_checkBoundsBeginEnd_23922 2 = .ok (.iload_n 2, 1) := by decide +kernel
theorem dJ0_checkBoundsBeginEnd_23922_3 : decode cJ0_checkBoundsBeginEnd_23922 3 = .ok (.getstatic 1053, 3) := by decide +kernel
theorem dJ0_checkBoundsBeginEnd_23922_6 : decode cJ0_checkBoundsBeginEnd_23922 6 = .ok (.invokestatic 1062, 3) := by decide +kernel
theorem dJ0_checkBoundsBeginEnd_23922_9 : decode cJ0_checkBoundsBeginEnd_23922 9 = .ok (.pop, 1) := by decide +kernel
theorem dJ0_checkBoundsBeginEnd_23922_10 : decode cJ0_checkBoundsBeginEnd_23922 10 = .ok (.return_, 1) := by decide +kernel
theorem dJ1_charAt_3b067_0 : decode cJ1_charAt_3b067 0 = .ok (.iload_n 1, 1) := by decide +kernel
theorem dJ1_charAt_3b067_1 : decode cJ1_charAt_3b067 1 = .ok (.aload_n 0, 1) := by decide +kernel
theorem dJ1_charAt_3b067_2 : decode cJ1_charAt_3b067 2 = .ok (.arraylength, 1) := by decide +kernel
theorem dJ1_charAt_3b067_3 : decode cJ1_charAt_3b067 3 = .ok (.invokestatic 9, 3) := by decide +kernel
theorem dJ1_charAt_3b067_6 : decode cJ1_charAt_3b067 6 = .ok (.aload_n 0, 1) := by decide +kernel
theorem dJ1_charAt_3b067_7 : decode cJ1_charAt_3b067 7 = .ok (.iload_n 1, 1) := by decide +kernel
theorem dJ1_charAt_3b067_8 : decode cJ1_charAt_3b067 8 = .ok (.baload, 1) := by decide +kernel
theorem dJ1_charAt_3b067_9 : decode cJ1_charAt_3b067 9 = .ok (.sipush 255, 3) := by decide +kernel
theorem dJ1_charAt_3b067_12 : decode cJ1_charAt_3b067 12 = .ok (.iand, 1) := by decide +kernel
theorem dJ1_charAt_3b067_13 : decode cJ1_charAt_3b067 13 = .ok (.i2c, 1) := by decide +kernel
theorem dJ1_charAt_3b067_14 : decode cJ1_charAt_3b067 14 = .ok (.ireturn, 1) := by decide +kernel
theorem dJ1_canEncode_9a6ad_0 : decode cJ1_canEncode_9a6ad 0 = .ok (.iload_n 0, 1) := by decide +kernel
theorem dJ1_canEncode_9a6ad_1 : decode cJ1_canEncode_9a6ad 1 = .ok (.ifCond .lt 14, 3) := by decide +kernel
theorem dJ1_canEncode_9a6ad_4 : decode cJ1_canEncode_9a6ad 4 = .ok (.iload_n 0, 1) := by decide +kernel
theorem dJ1_canEncode_9a6ad_5 : decode cJ1_canEncode_9a6ad 5 = .ok (.sipush 255, 3) := by decide +kernel
theorem dJ1_canEncode_9a6ad_8 : decode cJ1_canEncode_9a6ad 8 = .ok (.if_icmp .gt 7, 3) := by decide +kernel
theorem dJ1_canEncode_9a6ad_11 : decode cJ1_canEncode_9a6ad 11 = .ok (.iconst 1, 1) := by decide +kernel
theorem dJ1_canEncode_9a6ad_12 : decode cJ1_canEncode_9a6ad 12 = .ok (.goto 4, 3) := by decide +kernel
theorem dJ1_canEncode_9a6ad_15 : decode cJ1_canEncode_9a6ad 15 = .ok (.iconst 0, 1) := by decide +kernel
theorem dJ1_canEncode_9a6ad_16 : decode cJ1_canEncode_9a6ad 16 = .ok (.ireturn, 1) := by decide +kernel
theorem dJ1_indexOf_4cfef_0 : decode cJ1_indexOf_4cfef 0 = .ok (.iload_n 1, 1) := by decide +kernel
theorem dJ1_indexOf_4cfef_1 : decode cJ1_indexOf_4cfef 1 = .ok (.invokestatic 88, 3) := by decide +kernel
theorem dJ1_indexOf_4cfef_4 : decode cJ1_indexOf_4cfef 4 = .ok (.ifCond .ne 5, 3) := by decide +kernel
theorem dJ1_indexOf_4cfef_7 : decode cJ1_indexOf_4cfef 7 = .ok (.iconst (-1), 1) := by decide +kernel
theorem dJ1_indexOf_4cfef_8 : decode cJ1_indexOf_4cfef 8 = .ok (.ireturn, 1) := by decide +kernel
theorem dJ1_indexOf_4cfef_9 : decode cJ1_indexOf_4cfef 9 = .ok (.iload_n 2, 1) := by decide +kernel
theorem dJ1_indexOf_4cfef_10 : decode cJ1_indexOf_4cfef 10 = .ok (.iconst 0, 1) := by decide +kernel
theorem dJ1_indexOf_4cfef_11 : decode cJ1_indexOf_4cfef 11 = .ok (.invokestatic 92, 3) := by decide +kernel
theorem dJ1_indexOf_4cfef_14 : decode cJ1_indexOf_4cfef 14 = .ok (.istore_n 2, 1) := by decide +kernel
theorem dJ1_indexOf_4cfef_15 : decode cJ1_indexOf_4cfef 15 = .ok (.iload_n 3, 1) := by decide +kernel
theorem dJ1_indexOf_4cfef_16 : decode cJ1_indexOf_4cfef 16 = .ok (.aload_n 0, 1) := by decide +kernel
theorem dJ1_indexOf_4cfef_17 : decode cJ1_indexOf_4cfef 17 = .ok (.arraylength, 1) := by decide +kernel
theorem dJ1_indexOf_4cfef_18 : decode cJ1_indexOf_4cfef 18 = .ok (.invokestatic 38, 3) := by decide +kernel
theorem dJ1_indexOf_4cfef_21 : decode cJ1_indexOf_4cfef 21 = .ok (.istore_n 3, 1) := by decide +kernel
theorem dJ1_indexOf_4cfef_22 : decode cJ1_indexOf_4cfef 22 = .ok (.iload_n 2, 1) := by decide +kernel
theorem dJ1_indexOf_4cfef_23 : decode cJ1_indexOf_4cfef 23 = .ok (.iload_n 3, 1) := by decide +kernel
theorem dJ1_indexOf_4cfef_24 : decode cJ1_indexOf_4cfef 24 = .ok (.if_icmp .lt 5, 3) := by decide +kernel
theorem dJ1_indexOf_4cfef_27 : decode cJ1_indexOf_4cfef 27 = .ok (.iconst (-1), 1) := by decide +kernel
theorem dJ1_indexOf_4cfef_28 : decode cJ1_indexOf_4cfef 28 = .ok (.ireturn, 1) := by decide +kernel
theorem dJ1_indexOf_4cfef_29 : decode cJ1_indexOf_4cfef 29 = .ok (.aload_n 0, 1) := by decide +kernel
theorem dJ1_indexOf_4cfef_30 : decode cJ1_indexOf_4cfef 30 = .ok (.iload_n 1, 1) := by decide +kernel
theorem dJ1_indexOf_4cfef_31 : decode cJ1_indexOf_4cfef 31 = .ok (.iload_n 2, 1) := by decide +kernel
theorem dJ1_indexOf_4cfef_32 : decode cJ1_indexOf_4cfef 32 = .ok (.iload_n 3, 1) := by decide +kernel
theorem dJ1_indexOf_4cfef_33 : decode cJ1_indexOf_4cfef 33 = .ok (.invokestatic 95, 3) := by decide +kernel
theorem dJ1_indexOf_4cfef_36 : decode cJ1_indexOf_4cfef 36 = .ok (.ireturn, 1) := by decide +kernel
theorem dJ1_indexOfChar_4cfef_0 : decode cJ1_indexOfChar_4cfef 0 = .ok (.iload_n 1, 1) := by decide +kernel
theorem dJ1_indexOfChar_4cfef_1 : decode cJ1_indexOfChar_4cfef 1 = .ok (.i2b, 1) := by decide +kernel
theorem dJ1_indexOfChar_4cfef_2 : decode cJ1_indexOfChar_4cfef 2 = .ok (.istore 4, 2) := by decide +kernel
theorem dJ1_indexOfChar_4cfef_4 : decode cJ1_indexOfChar_4cfef 4 = .ok (.iload_n 2, 1) := by decide +kernel
theorem dJ1_indexOfChar_4cfef_5 : decode cJ1_indexOfChar_4cfef 5 = .ok (.istore 5, 2) := by decide +kernel
theorem dJ1_indexOfChar_4cfef_7 : decode cJ1_indexOfChar_4cfef 7 = .ok (.iload 5, 2) := by decide +kernel
theorem dJ1_indexOfChar_4cfef_9 : decode cJ1_indexOfChar_4cfef 9 = .ok (.iload_n 3, 1) := by decide +kernel
theorem dJ1_indexOfChar_4cfef_10 : decode cJ1_indexOfChar_4cfef 10 = .ok (.if_icmp .ge 21, 3) := by decide +kernel
theorem dJ1_indexOfChar_4cfef_13 : decode cJ1_indexOfChar_4cfef 13 = .ok (.aload_n 0, 1) := by decide +kernel
theorem dJ1_indexOfChar_4cfef_14 : decode cJ1_indexOfChar_4cfef 14 = .ok (.iload 5, 2) := by decide +kernel
theorem dJ1_indexOfChar_4cfef_16 : decode cJ1_indexOfChar_4cfef 16 = .ok (.baload, 1) := by decide +kernel
theorem dJ1_indexOfChar_4cfef_17 : decode cJ1_indexOfChar_4cfef 17 = .ok (.iload 4, 2) := by decide +kernel
theorem dJ1_indexOfChar_4cfef_19 : decode cJ1_indexOfChar_4cfef 19 = .ok (.if_icmp .ne 6, 3) := by decide +kernel
theorem dJ1_indexOfChar_4cfef_22 : decode cJ1_indexOfChar_4cfef 22 = .ok (.iload 5, 2) := by decide +kernel
theorem dJ1_indexOfChar_4cfef_24 : decode cJ1_indexOfChar_4cfef 24 = .ok (.ireturn, 1) := by decide +kernel
theorem dJ1_indexOfChar_4cfef_25 : decode cJ1_indexOfChar_4cfef 25 = .ok (.iinc 5 1, 3) := by decide +kernel
theorem dJ1_indexOfChar_4cfef_28 : decode cJ1_indexOfChar_4cfef 28 = .ok (.goto (-21), 3) := by decide +kernel
theorem dJ1_indexOfChar_4cfef_31 : decode cJ1_indexOfChar_4cfef 31 = .ok (.iconst (-1), 1) := by decide +kernel
theorem dJ1_indexOfChar_4cfef_32 : decode cJ1_indexOfChar_4cfef 32 = .ok (.ireturn, 1) := by decide +kernel
theorem dJ2_getChar_3b067_0 : decode cJ2_getChar_3b067 0 = .ok (.getstatic 44, 3) := by decide +kernel
theorem dJ2_getChar_3b067_3 : decode cJ2_getChar_3b067 3 = .ok (.ifCond .ne 25, 3) := by decide +kernel
theorem dJ2_getChar_3b067_6 : decode cJ2_getChar_3b067 6 = .ok (.iload_n 1, 1) := by decide +kernel
theorem dJ2_getChar_3b067_7 : decode cJ2_getChar_3b067 7 = .ok (.ifCond .lt 11, 3) := by decide +kernel
theorem dJ2_getChar_3b067_10 : decode cJ2_getChar_3b067 10 = .ok (.iload_n 1, 1) := by decide +kernel
theorem dJ2_getChar_3b067_11 : decode cJ2_getChar_3b067 11 = .ok (.aload_n 0, 1) := by decide +kernel
theorem dJ2_getChar_3b067_12 : decode cJ2_getChar_3b067 12 = .ok (.invokestatic 48, 3) := by decide +kernel
theorem dJ2_getChar_3b067_15 : decode cJ2_getChar_3b067 15 = .ok (.if_icmp .lt 13, 3) := by decide +kernel
theorem dJ2_getChar_3b067_18 : decode cJ2_getChar_3b067 18 = .ok (.new 52, 3) := by decide +kernel
theorem dJ2_getChar_3b067_21 : decode cJ2_getChar_3b067 21 = .ok (.dup, 1) := by decide +kernel
theorem dJ2_getChar_3b067_22 : decode cJ2_getChar_3b067 22 = .ok (.ldc 54, 2) := by decide +kernel
theorem dJ2_getChar_3b067_24 : decode cJ2_getChar_3b067 24 = .ok (.invokespecial 56, 3) := by decide +kernel
theorem dJ2_getChar_3b067_27 : decode cJ2_getChar_3b067 27 = .ok (.athrow, 1) := by decide +kernel
theorem dJ2_getChar_3b067_28 : decode cJ2_getChar_3b067 28 = .ok (.iload_n 1, 1) := by decide +kernel
theorem dJ2_getChar_3b067_29 : decode cJ2_getChar_3b067 29 = .ok (.iconst 1, 1) := by decide +kernel
theorem dJ2_getChar_3b067_30 : decode cJ2_getChar_3b067 30 = .ok (.ishl, 1) := by decide +kernel
theorem dJ2_getChar_3b067_31 : decode cJ2_getChar_3b067 31 = .ok (.istore_n 1, 1) := by decide +kernel
theorem dJ2_getChar_3b067_32 : decode cJ2_getChar_3b067 32 = .ok (.aload_n 0, 1) := by decide +kernel
theorem dJ2_getChar_3b067_33 : decode cJ2_getChar_3b067 33 = .ok (.iload_n 1, 1) := by decide +kernel
theorem dJ2_getChar_3b067_34 : decode cJ2_getChar_3b067 34 = .ok (.iinc 1 1, 3) := by decide +kernel
theorem dJ2_getChar_3b067_37 : decode cJ2_getChar_3b067 37 = .ok (.baload, 1) := by decide +kernel
theorem dJ2_getChar_3b067_38 : decode cJ2_getChar_3b067 38 = .ok (.sipush 255, 3) := by decide +kernel
theorem dJ2_getChar_3b067_41 : decode cJ2_getChar_3b067 41 = .ok (.iand, 1) := by decide +kernel
theorem dJ2_getChar_3b067_42 : decode cJ2_getChar_3b067 42 = .ok (.getstatic 59, 3) := by decide +kernel
theorem dJ2_getChar_3b067_45 : decode cJ2_getChar_3b067 45 = .ok (.ishl, 1) := by decide +kernel
theorem dJ2_getChar_3b067_46 : decode cJ2_getChar_3b067 46 = .ok (.aload_n 0, 1) := by decide +kernel
theorem dJ2_getChar_3b067_47 : decode cJ2_getChar_3b067 47 = .ok (.iload_n 1, 1) := by decide +kernel
theorem dJ2_getChar_3b067_48 : decode cJ2_getChar_3b067 48 = .ok (.baload, 1) := by decide +kernel
theorem dJ2_getChar_3b067_49 : decode cJ2_getChar_3b067 49 = .ok (.sipush 255, 3) := by decide +kernel
theorem dJ2_getChar_3b067_52 : decode cJ2_getChar_3b067 52 = .ok (.iand, 1) := by decide +kernel
theorem dJ2_getChar_3b067_53 : decode cJ2_getChar_3b067 53 = .ok (.getstatic 63, 3) := by decide +kernel
theorem dJ2_getChar_3b067_56 : decode cJ2_getChar_3b067 56 = .ok (.ishl, 1) := by decide +kernel
theorem dJ2_getChar_3b067_57 : decode cJ2_getChar_3b067 57 = .ok (.ior, 1) := by decide +kernel
theorem dJ2_getChar_3b067_58 : decode cJ2_getChar_3b067 58 = .ok (.i2c, 1) := by decide +kernel
theorem dJ2_getChar_3b067_59 : decode cJ2_getChar_3b067 59 = .ok (.ireturn, 1) := by decide +kernel
theorem dJ2_length_9d52b_0 : decode cJ2_length_9d52b 0 = .ok (.aload_n 0, 1) := by decide +kernel
theorem dJ2_length_9d52b_1 : decode cJ2_length_9d52b 1 = .ok (.arraylength, 1) := by decide +kernel
theorem dJ2_length_9d52b_2 : decode cJ2_length_9d52b 2 = .ok (.iconst 1, 1) := by decide +kernel
theorem dJ2_length_9d52b_3 : decode cJ2_length_9d52b 3 = .ok (.ishr, 1) := by decide +kernel
theorem dJ2_length_9d52b_4 : decode cJ2_length_9d52b 4 = .ok (.ireturn, 1) := by decide +kernel
theorem dJ2_indexOf_4cfef_0 : decode cJ2_indexOf_4cfef 0 = .ok (.iload_n 2, 1) := by decide +kernel
theorem dJ2_indexOf_4cfef_1 : decode cJ2_indexOf_4cfef 1 = .ok (.iconst 0, 1) := by decide +kernel
theorem dJ2_indexOf_4cfef_2 : decode cJ2_indexOf_4cfef 2 = .ok (.invokestatic 224, 3) := by decide +kernel
theorem dJ2_indexOf_4cfef_5 : decode cJ2_indexOf_4cfef 5 = .ok (.istore_n 2, 1) := by decide +kernel
theorem dJ2_indexOf_4cfef_6 : decode cJ2_indexOf_4cfef 6 = .ok (.iload_n 3, 1) := by decide +kernel
theorem dJ2_indexOf_4cfef_7 : decode cJ2_indexOf_4cfef 7 = .ok (.aload_n 0, 1) := by decide +kernel
theorem dJ2_indexOf_4cfef_8 : decode cJ2_indexOf_4cfef 8 = .ok (.arraylength, 1) := by decide +kernel
theorem dJ2_indexOf_4cfef_9 : decode cJ2_indexOf_4cfef 9 = .ok (.iconst 1, 1) := by decide +kernel
theorem dJ2_indexOf_4cfef_10 : decode cJ2_indexOf_4cfef 10 = .ok (.ishr, 1) := by decide +kernel
theorem dJ2_indexOf_4cfef_11 : decode cJ2_indexOf_4cfef 11 = .ok (.invokestatic 183, 3) := by decide +kernel
theorem dJ2_indexOf_4cfef_14 : decode cJ2_indexOf_4cfef 14 = .ok (.istore_n 3, 1) := by decide +kernel
theorem dJ2_indexOf_4cfef_15 : decode cJ2_indexOf_4cfef 15 = .ok (.iload_n 2, 1) := by decide +kernel
theorem dJ2_indexOf_4cfef_16 : decode cJ2_indexOf_4cfef 16 = .ok (.iload_n 3, 1) := by decide +kernel
theorem dJ2_indexOf_4cfef_17 : decode cJ2_indexOf_4cfef 17 = .ok (.if_icmp .lt 5, 3) := by decide +kernel
theorem dJ2_indexOf_4cfef_20 : decode cJ2_indexOf_4cfef 20 = .ok (.iconst (-1), 1) := by decide +kernel
theorem dJ2_indexOf_4cfef_21 : decode cJ2_indexOf_4cfef 21 = .ok (.ireturn, 1) := by decide +kernel
theorem dJ2_indexOf_4cfef_22 : decode cJ2_indexOf_4cfef 22 = .ok (.iload_n 1, 1) := by decide +kernel
theorem dJ2_indexOf_4cfef_23 : decode cJ2_indexOf_4cfef 23 = .ok (.ldc 227, 2) := by decide +kernel
theorem dJ2_indexOf_4cfef_25 : decode cJ2_indexOf_4cfef 25 = .ok (.if_icmp .ge 11, 3) := by decide +kernel
theorem dJ2_indexOf_4cfef_28 : decode cJ2_indexOf_4cfef 28 = .ok (.aload_n 0, 1) := by decide +kernel
theorem dJ2_indexOf_4cfef_29 : decode cJ2_indexOf_4cfef 29 = .ok (.iload_n 1, 1) := by decide +kernel
theorem dJ2_indexOf_4cfef_30 : decode cJ2_indexOf_4cfef 30 = .ok (.iload_n 2, 1) := by decide +kernel
theorem dJ2_indexOf_4cfef_31 : decode cJ2_indexOf_4cfef 31 = .ok (.iload_n 3, 1) := by decide +kernel
theorem dJ2_indexOf_4cfef_32 : decode cJ2_indexOf_4cfef 32 = .ok (.invokestatic 228, 3) := by decide +kernel
theorem dJ2_indexOf_4cfef_35 : decode cJ2_indexOf_4cfef 35 = .ok (.ireturn, 1) := by decide +kernel
theorem dJ2_indexOf_4cfef_36 : decode cJ2_indexOf_4cfef 36 = .ok (.aload_n 0, 1) := by decide +kernel
theorem dJ2_indexOf_4cfef_37 : decode cJ2_indexOf_4cfef 37 = .ok (.iload_n 1, 1) := by decide +kernel
theorem dJ2_indexOf_4cfef_38 : decode cJ2_indexOf_4cfef 38 = .ok (.iload_n 2, 1) := by decide +kernel
theorem dJ2_indexOf_4cfef_39 : decode cJ2_indexOf_4cfef 39 = .ok (.iload_n 3, 1) := by decide +kernel
theorem dJ2_indexOf_4cfef_40 : decode cJ2_indexOf_4cfef 40 = .ok (.invokestatic 232, 3) := by decide +kernel
theorem dJ2_indexOf_4cfef_43 : decode cJ2_indexOf_4cfef 43 = .ok (.ireturn, 1) := by decide +kernel
theorem dJ2_indexOfChar_4cfef_0 : decode cJ2_indexOfChar_4cfef 0 = .ok (.iload_n 2, 1) := by decide +kernel
theorem dJ2_indexOfChar_4cfef_1 : decode cJ2_indexOfChar_4cfef 1 = .ok (.iload_n 3, 1) := by decide +kernel
theorem dJ2_indexOfChar_4cfef_2 : decode cJ2_indexOfChar_4cfef 2 = .ok (.aload_n 0, 1) := by decide +kernel
theorem dJ2_indexOfChar_4cfef_3 : decode cJ2_indexOfChar_4cfef 3 = .ok (.invokestatic 96, 3) := by decide +kernel
theorem dJ2_indexOfChar_4cfef_6 : decode cJ2_indexOfChar_4cfef 6 = .ok (.aload_n 0, 1) := by decide +kernel
theorem dJ2_indexOfChar_4cfef_7 : decode cJ2_indexOfChar_4cfef 7 = .ok (.iload_n 1, 1) := by decide +kernel
theorem dJ2_indexOfChar_4cfef_8 : decode cJ2_indexOfChar_4cfef 8 = .ok (.iload_n 2, 1) := by decide +kernel
theorem dJ2_indexOfChar_4cfef_9 : decode cJ2_indexOfChar_4cfef 9 = .ok (.iload_n 3, 1) := by decide +kernel
theorem dJ2_indexOfChar_4cfef_10 : decode cJ2_indexOfChar_4cfef 10 = .ok (.invokestatic 244, 3) := by decide +kernel
theorem dJ2_indexOfChar_4cfef_13 : decode cJ2_indexOfChar_4cfef 13 = .ok (.ireturn, 1) := by decide +kernel
theorem dJ2_indexOfCharUnsafe_4cfef_0 : decode cJ2_indexOfCharUnsafe_4cfef 0 = .ok (.iload_n 2, 1) := by decide +kernel
theorem dJ2_indexOfCharUnsafe_4cfef_1 : decode cJ2_indexOfCharUnsafe_4cfef 1 = .ok (.istore 4, 2) := by decide +kernel
theorem dJ2_indexOfCharUnsafe_4cfef_3 : decode cJ2_indexOfCharUnsafe_4cfef 3 = .ok (.iload 4, 2) := by decide +kernel
theorem dJ2_indexOfCharUnsafe_4cfef_5 : decode cJ2_indexOfCharUnsafe_4cfef 5 = .ok (.iload_n 3, 1) := by decide +kernel
theorem dJ2_indexOfCharUnsafe_4cfef_6 : decode cJ2_indexOfCharUnsafe_4cfef 6 = .ok (.if_icmp .ge 22, 3) := by decide +kernel
theorem dJ2_indexOfCharUnsafe_4cfef_9 : decode cJ2_indexOfCharUnsafe_4cfef 9 = .ok (.aload_n 0, 1) := by decide +kernel
theorem dJ2_indexOfCharUnsafe_4cfef_10 : decode cJ2_indexOfCharUnsafe_4cfef 10 = .ok (.iload 4, 2) := by decide +kernel
theorem dJ2_indexOfCharUnsafe_4cfef_12 : decode cJ2_indexOfCharUnsafe_4cfef 12 = .ok (.invokestatic 71, 3) := by decide +kernel
theorem dJ2_indexOfCharUnsafe_4cfef_15 : decode cJ2_indexOfCharUnsafe_4cfef 15 = .ok (.iload_n 1, 1) := by decide +kernel
theorem dJ2_indexOfCharUnsafe_4cfef_16 : decode cJ2_indexOfCharUnsafe_4cfef 16 = .ok (.if_icmp .ne 6, 3) := by decide +kernel
theorem dJ2_indexOfCharUnsafe_4cfef_19 : decode cJ2_indexOfCharUnsafe_4cfef 19 = .ok (.iload 4, 2) := by decide +kernel
theorem dJ2_indexOfCharUnsafe_4cfef_21 : decode cJ2_indexOfCharUnsafe_4cfef 21 = .ok (.ireturn, 1) := by decide +kernel
theorem dJ2_indexOfCharUnsafe_4cfef_22 : decode cJ2_indexOfCharUnsafe_4cfef 22 = .ok (.iinc 4 1, 3) := by decide +kernel
theorem dJ2_indexOfCharUnsafe_4cfef_25 : decode cJ2_indexOfCharUnsafe_4cfef 25 = .ok (.goto (-22), 3) := by decide +kernel
theorem dJ2_indexOfCharUnsafe_4cfef_28 : decode cJ2_indexOfCharUnsafe_4cfef 28 = .ok (.iconst (-1), 1) := by decide +kernel
theorem dJ2_indexOfCharUnsafe_4cfef_29 : decode cJ2_indexOfCharUnsafe_4cfef 29 = .ok (.ireturn, 1) := by decide +kernel
theorem dJ2_indexOfSupplementary_4cfef_0 : decode cJ2_indexOfSupplementary_4cfef 0 = .ok (.iload_n 1, 1) := by decide +kernel
theorem dJ2_indexOfSupplementary_4cfef_1 : decode cJ2_indexOfSupplementary_4cfef 1 = .ok (.invokestatic 164, 3) := by decide +kernel
theorem dJ2_indexOfSupplementary_4cfef_4 : decode cJ2_indexOfSupplementary_4cfef 4 = .ok (.ifCond .eq 65, 3) := by decide +kernel
theorem dJ2_indexOfSupplementary_4cfef_7 : decode cJ2_indexOfSupplementary_4cfef 7 = .ok (.iload_n 1, 1) := by decide +kernel
theorem dJ2_indexOfSupplementary_4cfef_8 : decode cJ2_indexOfSupplementary_4cfef 8 = .ok (.invokestatic 157, 3) := by decide +kernel
theorem dJ2_indexOfSupplementary_4cfef_11 : decode cJ2_indexOfSupplementary_4cfef 11 = .ok (.istore 4, 2) := by decide +kernel
theorem dJ2_indexOfSupplementary_4cfef_13 : decode cJ2_indexOfSupplementary_4cfef 13 = .ok (.iload_n 1, 1) := by decide +kernel
theorem dJ2_indexOfSupplementary_4cfef_14 : decode cJ2_indexOfSupplementary_4cfef 14 = .ok (.invokestatic 161, 3) := by decide +kernel
theorem dJ2_indexOfSupplementary_4cfef_17 : decode cJ2_indexOfSupplementary_4cfef 17 = .ok (.istore 5, 2) := by decide +kernel
theorem dJ2_indexOfSupplementary_4cfef_19 : decode cJ2_indexOfSupplementary_4cfef 19 = .ok (.iload_n 2, 1) := by decide +kernel
theorem dJ2_indexOfSupplementary_4cfef_20 : decode cJ2_indexOfSupplementary_4cfef 20 = .ok (.iload_n 3, 1) := by decide +kernel
theorem dJ2_indexOfSupplementary_4cfef_21 : decode cJ2_indexOfSupplementary_4cfef 21 = .ok (.aload_n 0, 1) := by decide +kernel
theorem dJ2_indexOfSupplementary_4cfef_22 : decode cJ2_indexOfSupplementary_4cfef 22 = .ok (.invokestatic 96, 3) := by decide +kernel
theorem dJ2_indexOfSupplementary_4cfef_25 : decode cJ2_indexOfSupplementary_4cfef 25 = .ok (.iload_n 2, 1) := by decide +kernel
theorem dJ2_indexOfSupplementary_4cfef_26 : decode cJ2_indexOfSupplementary_4cfef 26 = .ok (.istore 6, 2) := by decide +kernel
theorem dJ2_indexOfSupplementary_4cfef_28 : decode cJ2_indexOfSupplementary_4cfef 28 = .ok (.iload 6, 2) := by decide +kernel
theorem dJ2_indexOfSupplementary_4cfef_30 : decode cJ2_indexOfSupplementary_4cfef 30 = .ok (.iload_n 3, 1) := by decide +kernel
theorem dJ2_indexOfSupplementary_4cfef_31 : decode cJ2_indexOfSupplementary_4cfef 31 = .ok (.iconst 1, 1) := by decide +kernel
theorem dJ2_indexOfSupplementary_4cfef_32 : decode cJ2_indexOfSupplementary_4cfef 32 = .ok (.isub, 1) := by decide +kernel
theorem dJ2_indexOfSupplementary_4cfef_33 : decode cJ2_indexOfSupplementary_4cfef 33 = .ok (.if_icmp .ge 36, 3) := by decide +kernel
theorem dJ2_indexOfSupplementary_4cfef_36 : decode cJ2_indexOfSupplementary_4cfef 36 = .ok (.aload_n 0, 1) := by decide +kernel
theorem dJ2_indexOfSupplementary_4cfef_37 : decode cJ2_indexOfSupplementary_4cfef 37 = .ok (.iload 6, 2) := by decide +kernel
theorem dJ2_indexOfSupplementary_4cfef_39 : decode cJ2_indexOfSupplementary_4cfef 39 = .ok (.invokestatic 71, 3) := by decide +kernel
theorem dJ2_indexOfSupplementary_4cfef_42 : decode cJ2_indexOfSupplementary_4cfef 42 = .ok (.iload 4, 2) := by decide +kernel
theorem dJ2_indexOfSupplementary_4cfef_44 : decode cJ2_indexOfSupplementary_4cfef 44 = .ok (.if_icmp .ne 19, 3) := by decide +kernel
theorem dJ2_indexOfSupplementary_4cfef_47 : decode cJ2_indexOfSupplementary_4cfef 47 = .ok (.aload_n 0, 1) := by decide +kernel
theorem dJ2_indexOfSupplementary_4cfef_48 : decode cJ2_indexOfSupplementary_4cfef 48 = .ok (.iload 6, 2) := by decide +kernel
theorem dJ2_indexOfSupplementary_4cfef_50 : decode cJ2_indexOfSupplementary_4cfef 50 = .ok (.iconst 1, 1) := by decide +kernel
theorem dJ2_indexOfSupplementary_4cfef_51 : decode cJ2_indexOfSupplementary_4cfef 51 = .ok (.iadd, 1) := by decide +kernel
theorem dJ2_indexOfSupplementary_4cfef_52 : decode cJ2_indexOfSupplementary_4cfef 52 = .ok (.invokestatic 71, 3) := by decide +kernel
theorem dJ2_indexOfSupplementary_4cfef_55 : decode cJ2_indexOfSupplementary_4cfef 55 = .ok (.iload 5, 2) := by decide +kernel
theorem dJ2_indexOfSupplementary_4cfef_57 : decode cJ2_indexOfSupplementary_4cfef 57 = .ok (.if_icmp .ne 6, 3) := by decide +kernel
theorem dJ2_indexOfSupplementary_4cfef_60 : decode cJ2_indexOfSupplementary_4cfef 60 = .ok (.iload 6, 2) := by decide +kernel
theorem dJ2_indexOfSupplementary_4cfef_62 : decode cJ2_indexOfSupplementary_4cfef 62 = .ok (.ireturn, 1) := by decide +kernel
theorem dJ2_indexOfSupplementary_4cfef_63 : decode cJ2_indexOfSupplementary_4cfef 63 = .ok (.iinc 6 1, 3) := by decide +kernel
theorem dJ2_indexOfSupplementary_4cfef_66 : decode cJ2_indexOfSupplementary_4cfef 66 = .ok (.goto (-38), 3) := by decide +kernel
theorem dJ2_indexOfSupplementary_4cfef_69 : decode cJ2_indexOfSupplementary_4cfef 69 = .ok (.iconst (-1), 1) := by decide +kernel
theorem dJ2_indexOfSupplementary_4cfef_70 : decode cJ2_indexOfSupplementary_4cfef 70 = .ok (.ireturn, 1) := by decide +kernel
theorem dJ2_charAt_3b067_0 : decode cJ2_charAt_3b067 0 = .ok (.iload_n 1, 1) := by decide +kernel
theorem dJ2_charAt_3b067_1 : decode cJ2_charAt_3b067 1 = .ok (.aload_n 0, 1) := by decide +kernel
theorem dJ2_charAt_3b067_2 : decode cJ2_charAt_3b067 2 = .ok (.invokestatic 67, 3) := by decide +kernel
theorem dJ2_charAt_3b067_5 : decode cJ2_charAt_3b067 5 = .ok (.aload_n 0, 1) := by decide +kernel
theorem dJ2_charAt_3b067_6 : decode cJ2_charAt_3b067 6 = .ok (.iload_n 1, 1) := by decide +kernel
theorem dJ2_charAt_3b067_7 : decode cJ2_charAt_3b067 7 = .ok (.invokestatic 71, 3) := by decide +kernel
theorem dJ2_charAt_3b067_10 : decode cJ2_charAt_3b067 10 = .ok (.ireturn, 1) := by decide +kernel
theorem dJ2_checkIndex_2214a_0 : decode cJ2_checkIndex_2214a 0 = .ok (.iload_n 0, 1) := by decide +kernel
theorem dJ2_checkIndex_2214a_1 : decode cJ2_checkIndex_2214a 1 = .ok (.aload_n 1, 1) := by decide +kernel
theorem dJ2_checkIndex_2214a_2 : decode cJ2_checkIndex_2214a 2 = .ok (.invokestatic 48, 3) := by decide +kernel
theorem dJ2_checkIndex_2214a_5 : decode cJ2_checkIndex_2214a 5 = .ok (.invokestatic 414, 3) := by decide +kernel
theorem dJ2_checkIndex_2214a_8 : decode cJ2_checkIndex_2214a 8 = .ok (.return_, 1) := by decide +kernel
theorem dJ2_checkBoundsBeginEnd_d044e_0 : decode cJ2_checkBoundsBeginEnd_d044e 0 = .ok (.iload_n 0, 1) := by decide +kernel
theorem dJ2_checkBoundsBeginEnd_d044e_1 : decode cJ2_checkBoundsBeginEnd_d044e 1 = .ok (.iload_n 1, 1) := by decide +kernel
theorem dJ2_checkBoundsBeginEnd_d044e_2 : decode cJ2_checkBoundsBeginEnd_d044e 2 = .ok (.aload_n 2, 1) := by decide +kernel
theorem dJ2_checkBoundsBeginEnd_d044e_3 : decode cJ2_checkBoundsBeginEnd_d044e 3 = .ok (.invokestatic 48, 3) := by decide +kernel
theorem dJ2_checkBoundsBeginEnd_d044e_6 : decode cJ2_checkBoundsBeginEnd_d044e 6 = .ok (.invokestatic 241, 3) := by decide +kernel
theorem dJ2_checkBoundsBeginEnd_d044e_9 : decode cJ2_checkBoundsBeginEnd_d044e 9 = .ok (.return_, 1) := by decide +kernel
theorem dJ7_fill_53178_0 : decode cJ7_fill_53178 0 = .ok (.iconst 0, 1) := by decide +kernel
theorem dJ7_fill_53178_1 : decode cJ7_fill_53178 1 = .ok (.istore_n 2, 1) := by decide +kernel
theorem dJ7_fill_53178_2 : decode cJ7_fill_53178 2 = .ok (.aload_n 0, 1) := by decide +kernel
theorem dJ7_fill_53178_3 : decode cJ7_fill_53178 3 = .ok (.arraylength, 1) := by decide +kernel
theorem dJ7_fill_53178_4 : decode cJ7_fill_53178 4 = .ok (.istore_n 3, 1) := by decide +kernel
theorem dJ7_fill_53178_5 : decode cJ7_fill_53178 5 = .ok (.iload_n 2, 1) := by decide +kernel
theorem dJ7_fill_53178_6 : decode cJ7_fill_53178 6 = .ok (.iload_n 3, 1) := by decide +kernel
theorem dJ7_fill_53178_7 : decode cJ7_fill_53178 7 = .ok (.if_icmp .ge 13, 3) := by decide +kernel
theorem dJ7_fill_53178_10 : decode cJ7_fill_53178 10 = .ok (.aload_n 0, 1) := by decide +kernel
theorem dJ7_fill_53178_11 : decode cJ7_fill_53178 11 = .ok (.iload_n 2, 1) := by decide +kernel
theorem dJ7_fill_53178_12 : decode cJ7_fill_53178 12 = .ok (.iload_n 1, 1) := by decide +kernel
theorem dJ7_fill_53178_13 : decode cJ7_fill_53178 13 = .ok (.iastore, 1) := by decide +kernel
theorem dJ7_fill_53178_14 : decode cJ7_fill_53178 14 = .ok (.iinc 2 1, 3) := by decide +kernel
theorem dJ7_fill_53178_17 : decode cJ7_fill_53178 17 = .ok (.goto (-12), 3) := by decide +kernel
theorem dJ7_fill_53178_20 : decode cJ7_fill_53178 20 = .ok (.return_, 1) := by decide +kernel
theorem dJ3_checkIndex_8e157_0 : decode cJ3_checkIndex_8e157 0 = .ok (.iload_n 0, 1) := by decide +kernel
theorem dJ3_checkIndex_8e157_1 : decode cJ3_checkIndex_8e157 1 = .ok (.ifCond .lt 8, 3) := by decide +kernel
theorem dJ3_checkIndex_8e157_4 : decode cJ3_checkIndex_8e157 4 = .ok (.iload_n 0, 1) := by decide +kernel
theorem dJ3_checkIndex_8e157_5 : decode cJ3_checkIndex_8e157 5 = .ok (.iload_n 1, 1) := by decide +kernel
theorem dJ3_checkIndex_8e157_6 : decode cJ3_checkIndex_8e157 6 = .ok (.if_icmp .lt 10, 3) := by decide +kernel
theorem dJ3_checkIndex_8e157_9 : decode cJ3_checkIndex_8e157 9 = .ok (.aload_n 2, 1) := by decide +kernel
theorem dJ3_checkIndex_8e157_10 : decode cJ3_checkIndex_8e157 10 = .ok (.iload_n 0, 1) := by decide +kernel
theorem dJ3_checkIndex_8e157_11 : decode cJ3_checkIndex_8e157 11 = .ok (.iload_n 1, 1) := by decide +kernel
theorem dJ3_checkIndex_8e157_12 : decode cJ3_checkIndex_8e157 12 = .ok (.invokestatic 95, 3) := by decide +kernel
theorem dJ3_checkIndex_8e157_15 : decode cJ3_checkIndex_8e157 15 = .ok (.athrow, 1) := by decide +kernel
theorem dJ3_checkIndex_8e157_16 : decode cJ3_checkIndex_8e157 16 = .ok (.iload_n 0, 1) := by decide +kernel
theorem dJ3_checkIndex_8e157_17 : decode cJ3_checkIndex_8e157 17 = .ok (.ireturn, 1) := by decide +kernel
theorem dJ3_checkFromToIndex_8c36e_0 : decode cJ3_checkFromToIndex_8c36e 0 = .ok (.iload_n 0, 1) := by decide +kernel
theorem dJ3_checkFromToIndex_8c36e_1 : decode cJ3_checkFromToIndex_8c36e 1 = .ok (.ifCond .lt 13, 3) := by decide +kernel
theorem dJ3_checkFromToIndex_8c36e_4 : decode cJ3_checkFromToIndex_8c36e 4 = .ok (.iload_n 0, 1) := by decide +kernel
theorem dJ3_checkFromToIndex_8c36e_5 : decode cJ3_checkFromToIndex_8c36e 5 = .ok (.iload_n 1, 1) := by decide +kernel
theorem dJ3_checkFromToIndex_8c36e_6 : decode cJ3_checkFromToIndex_8c36e 6 = .ok (.if_icmp .gt 8, 3) := by decide +kernel
theorem dJ3_checkFromToIndex_8c36e_9 : decode cJ3_checkFromToIndex_8c36e 9 = .ok (.iload_n 1, 1) := by decide +kernel
theorem dJ3_checkFromToIndex_8c36e_10 : decode cJ3_checkFromToIndex_8c36e 10 = .ok (.iload_n 2, 1) := by decide +kernel
theorem dJ3_checkFromToIndex_8c36e_11 : decode cJ3_checkFromToIndex_8c36e 11 = .ok (.if_icmp .le 11, 3) := by decide +kernel
theorem dJ3_checkFromToIndex_8c36e_14 : decode cJ3_checkFromToIndex_8c36e 14 = .ok (.aload_n 3, 1) := by decide +kernel
theorem dJ3_checkFromToIndex_8c36e_15 : decode cJ3_checkFromToIndex_8c36e 15 = .ok (.iload_n 0, 1) := by decide +kernel
theorem dJ3_checkFromToIndex_8c36e_16 : decode cJ3_checkFromToIndex_8c36e 16 = .ok (.iload_n 1, 1) := by decide +kernel
theorem dJ3_checkFromToIndex_8c36e_17 : decode cJ3_checkFromToIndex_8c36e 17 = .ok (.iload_n 2, 1) := by decide +kernel
theorem dJ3_checkFromToIndex_8c36e_18 : decode cJ3_checkFromToIndex_8c36e 18 = .ok (.invokestatic 99, 3) := by decide +kernel
theorem dJ3_checkFromToIndex_8c36e_21 : decode cJ3_checkFromToIndex_8c36e 21 = .ok (.athrow, 1) := by decide +kernel
theorem dJ3_checkFromToIndex_8c36e_22 : decode cJ3_checkFromToIndex_8c36e 22 = .ok (.iload_n 0, 1) := by decide +kernel
theorem dJ3_checkFromToIndex_8c36e_23 : decode cJ3_checkFromToIndex_8c36e 23 = .ok (.ireturn, 1) := by decide +kernel
theorem dL_street_0 : decode cL_street 0 = .ok (.aload_n 3, 1) := by decide +kernel
theorem dL_street_1 : decode cL_street 1 = .ok (.iconst 0, 1) := by decide +kernel
theorem dL_street_2 : decode cL_street 2 = .ok (.aload_n 0, 1) := by decide +kernel
theorem dL_street_3 : decode cL_street 3 = .ok (.iload_n 1, 1) := by decide +kernel
theorem dL_street_4 : decode cL_street 4 = .ok (.iload_n 2, 1) := by decide +kernel
theorem dL_street_5 : decode cL_street 5 = .ok (.invokevirtual 7, 3) := by decide +kernel
theorem dL_street_8 : decode cL_street 8 = .ok (.i2l, 1) := by decide +kernel
theorem dL_street_9 : decode cL_street 9 = .ok (.lastore, 1) := by decide +kernel
theorem dL_street_10 : decode cL_street 10 = .ok (.goto 7, 3) := by decide +kernel
theorem dL_street_13 : decode cL_street 13 = .ok (.astore 4, 2) := by decide +kernel
theorem dL_street_15 : decode cL_street 15 = .ok (.iconst 1, 1) := by decide +kernel
theorem dL_street_16 : decode cL_street 16 = .ok (.ireturn, 1) := by decide +kernel
theorem dL_street_17 : decode cL_street 17 = .ok (.iconst 0, 1) := by decide +kernel
theorem dL_street_18 : decode cL_street 18 = .ok (.ireturn, 1) := by decide +kernel
theorem dL_bin_0 : decode cL_bin 0 = .ok (.aload 5, 2) := by decide +kernel
theorem dL_bin_2 : decode cL_bin 2 = .ok (.iconst 0, 1) := by decide +kernel
theorem dL_bin_3 : decode cL_bin 3 = .ok (.aload_n 0, 1) := by decide +kernel
theorem dL_bin_4 : decode cL_bin 4 = .ok (.iload_n 1, 1) := by decide +kernel
theorem dL_bin_5 : decode cL_bin 5 = .ok (.iload_n 2, 1) := by decide +kernel
theorem dL_bin_6 : decode cL_bin 6 = .ok (.iload_n 3, 1) := by decide +kernel
theorem dL_bin_7 : decode cL_bin 7 = .ok (.iload 4, 2) := by decide +kernel
theorem dL_bin_9 : decode cL_bin 9 = .ok (.invokevirtual 15, 3) := by decide +kernel
theorem dL_bin_12 : decode cL_bin 12 = .ok (.i2l, 1) := by decide +kernel
theorem dL_bin_13 : decode cL_bin 13 = .ok (.lastore, 1) := by decide +kernel
theorem dL_bin_14 : decode cL_bin 14 = .ok (.goto 7, 3) := by decide +kernel
theorem dL_bin_17 : decode cL_bin 17 = .ok (.astore 6, 2) := by decide +kernel
theorem dL_bin_19 : decode cL_bin 19 = .ok (.iconst 1, 1) := by decide +kernel
theorem dL_bin_20 : decode cL_bin 20 = .ok (.ireturn, 1) := by decide +kernel
theorem dL_bin_21 : decode cL_bin 21 = .ok (.iconst 0, 1) := by decide +kernel
theorem dL_bin_22 : decode cL_bin 22 = .ok (.ireturn, 1) := by decide +kernel
theorem dL_hill_0 : decode cL_hill 0 = .ok (.aload_n 2, 1) := by decide +kernel
theorem dL_hill_1 : decode cL_hill 1 = .ok (.iconst 0, 1) := by decide +kernel
theorem dL_hill_2 : decode cL_hill 2 = .ok (.aload_n 0, 1) := by decide +kernel
theorem dL_hill_3 : decode cL_hill 3 = .ok (.iload_n 1, 1) := by decide +kernel
theorem dL_hill_4 : decode cL_hill 4 = .ok (.invokevirtual 19, 3) := by decide +kernel
theorem dL_hill_7 : decode cL_hill 7 = .ok (.i2l, 1) := by decide +kernel
theorem dL_hill_8 : decode cL_hill 8 = .ok (.lastore, 1) := by decide +kernel
theorem dL_hill_9 : decode cL_hill 9 = .ok (.goto 6, 3) := by decide +kernel
theorem dL_hill_12 : decode cL_hill 12 = .ok (.astore_n 3, 1) := by decide +kernel
theorem dL_hill_13 : decode cL_hill 13 = .ok (.iconst 1, 1) := by decide +kernel
theorem dL_hill_14 : decode cL_hill 14 = .ok (.ireturn, 1) := by decide +kernel
theorem dL_hill_15 : decode cL_hill 15 = .ok (.iconst 0, 1) := by decide +kernel
theorem dL_hill_16 : decode cL_hill 16 = .ok (.ireturn, 1) := by decide +kernel
theorem dL_row_0 : decode cL_row 0 = .ok (.aload_n 2, 1) := by decide +kernel
theorem dL_row_1 : decode cL_row 1 = .ok (.iconst 0, 1) := by decide +kernel
theorem dL_row_2 : decode cL_row 2 = .ok (.aload_n 0, 1) := by decide +kernel
theorem dL_row_3 : decode cL_row 3 = .ok (.iload_n 1, 1) := by decide +kernel
theorem dL_row_4 : decode cL_row 4 = .ok (.invokevirtual 23, 3) := by decide +kernel
theorem dL_row_7 : decode cL_row 7 = .ok (.lastore, 1) := by decide +kernel
theorem dL_row_8 : decode cL_row 8 = .ok (.goto 6, 3) := by decide +kernel
theorem dL_row_11 : decode cL_row 11 = .ok (.astore_n 3, 1) := by decide +kernel
theorem dL_row_12 : decode cL_row 12 = .ok (.iconst 1, 1) := by decide +kernel
theorem dL_row_13 : decode cL_row 13 = .ok (.ireturn, 1) := by decide +kernel
theorem dL_row_14 : decode cL_row 14 = .ok (.iconst 0, 1) := by decide +kernel
theorem dL_row_15 : decode cL_row 15 = .ok (.ireturn, 1) := by decide +kernel
theorem dL_law_0 : decode cL_law 0 = .ok (.new 8, 3) := by decide +kernel
theorem dL_law_3 : decode cL_law 3 = .ok (.dup, 1) := by decide +kernel
theorem dL_law_4 : decode cL_law 4 = .ok (.invokespecial 27, 3) := by decide +kernel
theorem dL_law_7 : decode cL_law 7 = .ok (.astore_n 1, 1) := by decide +kernel
theorem dL_law_8 : decode cL_law 8 = .ok (.new 28, 3) := by decide +kernel
theorem dL_law_11 : decode cL_law 11 = .ok (.dup, 1) := by decide +kernel
theorem dL_law_12 : decode cL_law 12 = .ok (.invokespecial 30, 3) := by decide +kernel
theorem dL_law_15 : decode cL_law 15 = .ok (.astore_n 2, 1) := by decide +kernel
theorem dL_law_16 : decode cL_law 16 = .ok (.iconst 1, 1) := by decide +kernel
theorem dL_law_17 : decode cL_law 17 = .ok (.newarray .long, 2) := by decide +kernel
theorem dL_law_19 : decode cL_law 19 = .ok (.astore_n 3, 1) := by decide +kernel
theorem dL_law_20 : decode cL_law 20 = .ok (.iconst 0, 1) := by decide +kernel
theorem dL_law_21 : decode cL_law 21 = .ok (.istore 4, 2) := by decide +kernel
theorem dL_law_23 : decode cL_law 23 = .ok (.iload 4, 2) := by decide +kernel
theorem dL_law_25 : decode cL_law 25 = .ok (.aload_n 0, 1) := by decide +kernel
theorem dL_law_26 : decode cL_law 26 = .ok (.arraylength, 1) := by decide +kernel
theorem dL_law_27 : decode cL_law 27 = .ok (.iconst 5, 1) := by decide +kernel
theorem dL_law_28 : decode cL_law 28 = .ok (.isub, 1) := by decide +kernel
theorem dL_law_29 : decode cL_law 29 = .ok (.if_icmp .gt 1425, 3) := by decide +kernel
theorem dL_law_32 : decode cL_law 32 = .ok (.aload_n 0, 1) := by decide +kernel
theorem dL_law_33 : decode cL_law 33 = .ok (.iload 4, 2) := by decide +kernel
theorem dL_law_35 : decode cL_law 35 = .ok (.iaload, 1) := by decide +kernel
theorem dL_law_36 : decode cL_law 36 = .ok (.bipush 63, 2) := by decide +kernel
theorem dL_law_38 : decode cL_law 38 = .ok (.iand, 1) := by decide +kernel
theorem dL_law_39 : decode cL_law 39 = .ok (.tableswitch 1409 0 40 #[177, 202, 227, 240, 253, 321, 413, 450, 487, 548, 573, 610, 623, 648, 661, 674, 687, 724, 749, 774, 799, 855, 892, 905, 930, 967, 992, 1017, 1054, 1067, 1104, 1117, 1130, 1143, 1156, 1193, 1230, 1279, 1304, 1329, 1354], 177) := by decide +kernel
theorem dL_law_216 : decode cL_law 216 = .ok (.aload_n 1, 1) := by decide +kernel
theorem dL_law_217 : decode cL_law 217 = .ok (.aload_n 0, 1) := by decide +kernel
theorem dL_law_218 : decode cL_law 218 = .ok (.iload 4, 2) := by decide +kernel
theorem dL_law_220 : decode cL_law 220 = .ok (.iconst 1, 1) := by decide +kernel
theorem dL_law_221 : decode cL_law 221 = .ok (.iadd, 1) := by decide +kernel
theorem dL_law_222 : decode cL_law 222 = .ok (.iaload, 1) := by decide +kernel
theorem dL_law_223 : decode cL_law 223 = .ok (.invokevirtual 31, 3) := by decide +kernel
theorem dL_law_226 : decode cL_law 226 = .ok (.aload_n 2, 1) := by decide +kernel
theorem dL_law_227 : decode cL_law 227 = .ok (.aload_n 0, 1) := by decide +kernel
theorem dL_law_228 : decode cL_law 228 = .ok (.iload 4, 2) := by decide +kernel
theorem dL_law_230 : decode cL_law 230 = .ok (.iconst 1, 1) := by decide +kernel
theorem dL_law_231 : decode cL_law 231 = .ok (.iadd, 1) := by decide +kernel
theorem dL_law_232 : decode cL_law 232 = .ok (.iaload, 1) := by decide +kernel
theorem dL_law_233 : decode cL_law 233 = .ok (.invokevirtual 34, 3) := by decide +kernel
theorem dL_law_236 : decode cL_law 236 = .ok (.if_icmp .eq 1212, 3) := by decide +kernel
theorem dL_law_239 : decode cL_law 239 = .ok (.iconst 0, 1) := by decide +kernel
theorem dL_law_240 : decode cL_law 240 = .ok (.ireturn, 1) := by decide +kernel
theorem dL_law_241 : decode cL_law 241 = .ok (.aload_n 1, 1) := by decide +kernel
theorem dL_law_242 : decode cL_law 242 = .ok (.aload_n 0, 1) := by decide +kernel
theorem dL_law_243 : decode cL_law 243 = .ok (.iload 4, 2) := by decide +kernel
theorem dL_law_245 : decode cL_law 245 = .ok (.iconst 1, 1) := by decide +kernel
theorem dL_law_246 : decode cL_law 246 = .ok (.iadd, 1) := by decide +kernel
theorem dL_law_247 : decode cL_law 247 = .ok (.iaload, 1) := by decide +kernel
theorem dL_law_248 : decode cL_law 248 = .ok (.invokevirtual 35, 3) := by decide +kernel
theorem dL_law_251 : decode cL_law 251 = .ok (.aload_n 2, 1) := by decide +kernel
theorem dL_law_252 : decode cL_law 252 = .ok (.aload_n 0, 1) := by decide +kernel
theorem dL_law_253 : decode cL_law 253 = .ok (.iload 4, 2) := by decide +kernel
theorem dL_law_255 : decode cL_law 255 = .ok (.iconst 1, 1) := by decide +kernel
theorem dL_law_256 : decode cL_law 256 = .ok (.iadd, 1) := by decide +kernel
theorem dL_law_257 : decode cL_law 257 = .ok (.iaload, 1) := by decide +kernel
theorem dL_law_258 : decode cL_law 258 = .ok (.invokevirtual 39, 3) := by decide +kernel
theorem dL_law_261 : decode cL_law 261 = .ok (.if_icmp .eq 1187, 3) := by decide +kernel
theorem dL_law_264 : decode cL_law 264 = .ok (.iconst 0, 1) := by decide +kernel
theorem dL_law_265 : decode cL_law 265 = .ok (.ireturn, 1) := by decide +kernel
theorem dL_law_266 : decode cL_law 266 = .ok (.aload_n 1, 1) := by decide +kernel
theorem dL_law_267 : decode cL_law 267 = .ok (.invokevirtual 40, 3) := by decide +kernel
theorem dL_law_270 : decode cL_law 270 = .ok (.aload_n 2, 1) := by decide +kernel
theorem dL_law_271 : decode cL_law 271 = .ok (.invokevirtual 44, 3) := by decide +kernel
theorem dL_law_274 : decode cL_law 274 = .ok (.if_icmp .eq 1174, 3) := by decide +kernel
theorem dL_law_277 : decode cL_law 277 = .ok (.iconst 0, 1) := by decide +kernel
theorem dL_law_278 : decode cL_law 278 = .ok (.ireturn, 1) := by decide +kernel
theorem dL_law_279 : decode cL_law 279 = .ok (.aload_n 1, 1) := by decide +kernel
theorem dL_law_280 : decode cL_law 280 = .ok (.invokevirtual 45, 3) := by decide +kernel
theorem dL_law_283 : decode cL_law 283 = .ok (.aload_n 2, 1) := by decide +kernel
theorem dL_law_284 : decode cL_law 284 = .ok (.invokevirtual 48, 3) := by decide +kernel
theorem dL_law_287 : decode cL_law 287 = .ok (.if_icmp .eq 1161, 3) := by decide +kernel
theorem dL_law_290 : decode cL_law 290 = .ok (.iconst 0, 1) := by decide +kernel
theorem dL_law_291 : decode cL_law 291 = .ok (.ireturn, 1) := by decide +kernel
theorem dL_law_292 : decode cL_law 292 = .ok (.aload_n 1, 1) := by decide +kernel
theorem dL_law_293 : decode cL_law 293 = .ok (.aload_n 0, 1) := by decide +kernel
theorem dL_law_294 : decode cL_law 294 = .ok (.iload 4, 2) := by decide +kernel
theorem dL_law_296 : decode cL_law 296 = .ok (.iconst 1, 1) := by decide +kernel
theorem dL_law_297 : decode cL_law 297 = .ok (.iadd, 1) := by decide +kernel
theorem dL_law_298 : decode cL_law 298 = .ok (.iaload, 1) := by decide +kernel
theorem dL_law_299 : decode cL_law 299 = .ok (.aload_n 0, 1) := by decide +kernel
theorem dL_law_300 : decode cL_law 300 = .ok (.iload 4, 2) := by decide +kernel
theorem dL_law_302 : decode cL_law 302 = .ok (.iconst 2, 1) := by decide +kernel
theorem dL_law_303 : decode cL_law 303 = .ok (.iadd, 1) := by decide +kernel
theorem dL_law_304 : decode cL_law 304 = .ok (.iaload, 1) := by decide +kernel
theorem dL_law_305 : decode cL_law 305 = .ok (.aload_n 3, 1) := by decide +kernel
theorem dL_law_306 : decode cL_law 306 = .ok (.invokestatic 49, 3) := by decide +kernel
theorem dL_law_309 : decode cL_law 309 = .ok (.istore 5, 2) := by decide +kernel
theorem dL_law_311 : decode cL_law 311 = .ok (.aload_n 2, 1) := by decide +kernel
theorem dL_law_312 : decode cL_law 312 = .ok (.aload_n 0, 1) := by decide +kernel
theorem dL_law_313 : decode cL_law 313 = .ok (.iload 4, 2) := by decide +kernel
theorem dL_law_315 : decode cL_law 315 = .ok (.iconst 1, 1) := by decide +kernel
theorem dL_law_316 : decode cL_law 316 = .ok (.iadd, 1) := by decide +kernel
theorem dL_law_317 : decode cL_law 317 = .ok (.iaload, 1) := by decide +kernel
theorem dL_law_318 : decode cL_law 318 = .ok (.aload_n 0, 1) := by decide +kernel
theorem dL_law_319 : decode cL_law 319 = .ok (.iload 4, 2) := by decide +kernel
theorem dL_law_321 : decode cL_law 321 = .ok (.iconst 2, 1) := by decide +kernel
theorem dL_law_322 : decode cL_law 322 = .ok (.iadd, 1) := by decide +kernel
theorem dL_law_323 : decode cL_law 323 = .ok (.iaload, 1) := by decide +kernel
theorem dL_law_324 : decode cL_law 324 = .ok (.invokevirtual 54, 3) := by decide +kernel
theorem dL_law_327 : decode cL_law 327 = .ok (.istore 6, 2) := by decide +kernel
theorem dL_law_329 : decode cL_law 329 = .ok (.aload_n 2, 1) := by decide +kernel
theorem dL_law_330 : decode cL_law 330 = .ok (.invokevirtual 55, 3) := by decide +kernel
theorem dL_law_333 : decode cL_law 333 = .ok (.iload 5, 2) := by decide +kernel
theorem dL_law_335 : decode cL_law 335 = .ok (.if_icmp .eq 5, 3) := by decide +kernel
theorem dL_law_338 : decode cL_law 338 = .ok (.iconst 0, 1) := by decide +kernel
theorem dL_law_339 : decode cL_law 339 = .ok (.ireturn, 1) := by decide +kernel
theorem dL_law_340 : decode cL_law 340 = .ok (.iload 5, 2) := by decide +kernel
theorem dL_law_342 : decode cL_law 342 = .ok (.ifCond .ne 15, 3) := by decide +kernel
theorem dL_law_345 : decode cL_law 345 = .ok (.aload_n 3, 1) := by decide +kernel
theorem dL_law_346 : decode cL_law 346 = .ok (.iconst 0, 1) := by decide +kernel
theorem dL_law_347 : decode cL_law 347 = .ok (.laload, 1) := by decide +kernel
theorem dL_law_348 : decode cL_law 348 = .ok (.iload 6, 2) := by decide +kernel
theorem dL_law_350 : decode cL_law 350 = .ok (.i2l, 1) := by decide +kernel
theorem dL_law_351 : decode cL_law 351 = .ok (.lcmp, 1) := by decide +kernel
theorem dL_law_352 : decode cL_law 352 = .ok (.ifCond .eq 5, 3) := by decide +kernel
theorem dL_law_355 : decode cL_law 355 = .ok (.iconst 0, 1) := by decide +kernel
theorem dL_law_356 : decode cL_law 356 = .ok (.ireturn, 1) := by decide +kernel
theorem dL_law_357 : decode cL_law 357 = .ok (.goto 1091, 3) := by decide +kernel
theorem dL_law_360 : decode cL_law 360 = .ok (.aload_n 1, 1) := by decide +kernel
theorem dL_law_361 : decode cL_law 361 = .ok (.aload_n 0, 1) := by decide +kernel
theorem dL_law_362 : decode cL_law 362 = .ok (.iload 4, 2) := by decide +kernel
theorem dL_law_364 : decode cL_law 364 = .ok (.iconst 1, 1) := by decide +kernel
theorem dL_law_365 : decode cL_law 365 = .ok (.iadd, 1) := by decide +kernel
theorem dL_law_366 : decode cL_law 366 = .ok (.iaload, 1) := by decide +kernel
theorem dL_law_367 : decode cL_law 367 = .ok (.aload_n 0, 1) := by decide +kernel
theorem dL_law_368 : decode cL_law 368 = .ok (.iload 4, 2) := by decide +kernel
theorem dL_law_370 : decode cL_law 370 = .ok (.iconst 2, 1) := by decide +kernel
theorem dL_law_371 : decode cL_law 371 = .ok (.iadd, 1) := by decide +kernel
theorem dL_law_372 : decode cL_law 372 = .ok (.iaload, 1) := by decide +kernel
theorem dL_law_373 : decode cL_law 373 = .ok (.aload_n 0, 1) := by decide +kernel
theorem dL_law_374 : decode cL_law 374 = .ok (.iload 4, 2) := by decide +kernel
theorem dL_law_376 : decode cL_law 376 = .ok (.iconst 3, 1) := by decide +kernel
theorem dL_law_377 : decode cL_law 377 = .ok (.iadd, 1) := by decide +kernel
theorem dL_law_378 : decode cL_law 378 = .ok (.iaload, 1) := by decide +kernel
theorem dL_law_379 : decode cL_law 379 = .ok (.aload_n 0, 1) := by decide +kernel
theorem dL_law_380 : decode cL_law 380 = .ok (.iload 4, 2) := by decide +kernel
theorem dL_law_382 : decode cL_law 382 = .ok (.iconst 4, 1) := by decide +kernel
theorem dL_law_383 : decode cL_law 383 = .ok (.iadd, 1) := by decide +kernel
theorem dL_law_384 : decode cL_law 384 = .ok (.iaload, 1) := by decide +kernel
theorem dL_law_385 : decode cL_law 385 = .ok (.aload_n 3, 1) := by decide +kernel
theorem dL_law_386 : decode cL_law 386 = .ok (.invokestatic 58, 3) := by decide +kernel
theorem dL_law_389 : decode cL_law 389 = .ok (.istore 5, 2) := by decide +kernel
theorem dL_law_391 : decode cL_law 391 = .ok (.aload_n 2, 1) := by decide +kernel
theorem dL_law_392 : decode cL_law 392 = .ok (.aload_n 0, 1) := by decide +kernel
theorem dL_law_393 : decode cL_law 393 = .ok (.iload 4, 2) := by decide +kernel
theorem dL_law_395 : decode cL_law 395 = .ok (.iconst 1, 1) := by decide +kernel
theorem dL_law_396 : decode cL_law 396 = .ok (.iadd, 1) := by decide +kernel
theorem dL_law_397 : decode cL_law 397 = .ok (.iaload, 1) := by decide +kernel
theorem dL_law_398 : decode cL_law 398 = .ok (.aload_n 0, 1) := by decide +kernel
theorem dL_law_399 : decode cL_law 399 = .ok (.iload 4, 2) := by decide +kernel
theorem dL_law_401 : decode cL_law 401 = .ok (.iconst 2, 1) := by decide +kernel
theorem dL_law_402 : decode cL_law 402 = .ok (.iadd, 1) := by decide +kernel
theorem dL_law_403 : decode cL_law 403 = .ok (.iaload, 1) := by decide +kernel
theorem dL_law_404 : decode cL_law 404 = .ok (.aload_n 0, 1) := by decide +kernel
theorem dL_law_405 : decode cL_law 405 = .ok (.iload 4, 2) := by decide +kernel
theorem dL_law_407 : decode cL_law 407 = .ok (.iconst 3, 1) := by decide +kernel
theorem dL_law_408 : decode cL_law 408 = .ok (.iadd, 1) := by decide +kernel
theorem dL_law_409 : decode cL_law 409 = .ok (.iaload, 1) := by decide +kernel
theorem dL_law_410 : decode cL_law 410 = .ok (.aload_n 0, 1) := by decide +kernel
theorem dL_law_411 : decode cL_law 411 = .ok (.iload 4, 2) := by decide +kernel
theorem dL_law_413 : decode cL_law 413 = .ok (.iconst 4, 1) := by decide +kernel
theorem dL_law_414 : decode cL_law 414 = .ok (.iadd, 1) := by decide +kernel
theorem dL_law_415 : decode cL_law 415 = .ok (.iaload, 1) := by decide +kernel
theorem dL_law_416 : decode cL_law 416 = .ok (.invokevirtual 61, 3) := by decide +kernel
theorem dL_law_419 : decode cL_law 419 = .ok (.istore 6, 2) := by decide +kernel
theorem dL_law_421 : decode cL_law 421 = .ok (.aload_n 2, 1) := by decide +kernel
theorem dL_law_422 : decode cL_law 422 = .ok (.invokevirtual 55, 3) := by decide +kernel
theorem dL_law_425 : decode cL_law 425 = .ok (.iload 5, 2) := by decide +kernel
theorem dL_law_427 : decode cL_law 427 = .ok (.if_icmp .eq 5, 3) := by decide +kernel
theorem dL_law_430 : decode cL_law 430 = .ok (.iconst 0, 1) := by decide +kernel
theorem dL_law_431 : decode cL_law 431 = .ok (.ireturn, 1) := by decide +kernel
theorem dL_law_432 : decode cL_law 432 = .ok (.iload 5, 2) := by decide +kernel
theorem dL_law_434 : decode cL_law 434 = .ok (.ifCond .ne 15, 3) := by decide +kernel
theorem dL_law_437 : decode cL_law 437 = .ok (.aload_n 3, 1) := by decide +kernel
theorem dL_law_438 : decode cL_law 438 = .ok (.iconst 0, 1) := by decide +kernel
theorem dL_law_439 : decode cL_law 439 = .ok (.laload, 1) := by decide +kernel
theorem dL_law_440 : decode cL_law 440 = .ok (.iload 6, 2) := by decide +kernel
theorem dL_law_442 : decode cL_law 442 = .ok (.i2l, 1) := by decide +kernel
theorem dL_law_443 : decode cL_law 443 = .ok (.lcmp, 1) := by decide +kernel
theorem dL_law_444 : decode cL_law 444 = .ok (.ifCond .eq 5, 3) := by decide +kernel
theorem dL_law_447 : decode cL_law 447 = .ok (.iconst 0, 1) := by decide +kernel
theorem dL_law_448 : decode cL_law 448 = .ok (.ireturn, 1) := by decide +kernel
theorem dL_law_449 : decode cL_law 449 = .ok (.goto 999, 3) := by decide +kernel
theorem dL_law_452 : decode cL_law 452 = .ok (.aload_n 1, 1) := by decide +kernel
theorem dL_law_453 : decode cL_law 453 = .ok (.aload_n 0, 1) := by decide +kernel
theorem dL_law_454 : decode cL_law 454 = .ok (.iload 4, 2) := by decide +kernel
theorem dL_law_456 : decode cL_law 456 = .ok (.iconst 1, 1) := by decide +kernel
theorem dL_law_457 : decode cL_law 457 = .ok (.iadd, 1) := by decide +kernel
theorem dL_law_458 : decode cL_law 458 = .ok (.iaload, 1) := by decide +kernel
theorem dL_law_459 : decode cL_law 459 = .ok (.aload_n 0, 1) := by decide +kernel
theorem dL_law_460 : decode cL_law 460 = .ok (.iload 4, 2) := by decide +kernel
theorem dL_law_462 : decode cL_law 462 = .ok (.iconst 2, 1) := by decide +kernel
theorem dL_law_463 : decode cL_law 463 = .ok (.iadd, 1) := by decide +kernel
theorem dL_law_464 : decode cL_law 464 = .ok (.iaload, 1) := by decide +kernel
theorem dL_law_465 : decode cL_law 465 = .ok (.invokevirtual 62, 3) := by decide +kernel
theorem dL_law_468 : decode cL_law 468 = .ok (.aload_n 2, 1) := by decide +kernel
theorem dL_law_469 : decode cL_law 469 = .ok (.aload_n 0, 1) := by decide +kernel
theorem dL_law_470 : decode cL_law 470 = .ok (.iload 4, 2) := by decide +kernel
theorem dL_law_472 : decode cL_law 472 = .ok (.iconst 1, 1) := by decide +kernel
theorem dL_law_473 : decode cL_law 473 = .ok (.iadd, 1) := by decide +kernel
theorem dL_law_474 : decode cL_law 474 = .ok (.iaload, 1) := by decide +kernel
theorem dL_law_475 : decode cL_law 475 = .ok (.aload_n 0, 1) := by decide +kernel
theorem dL_law_476 : decode cL_law 476 = .ok (.iload 4, 2) := by decide +kernel
theorem dL_law_478 : decode cL_law 478 = .ok (.iconst 2, 1) := by decide +kernel
theorem dL_law_479 : decode cL_law 479 = .ok (.iadd, 1) := by decide +kernel
theorem dL_law_480 : decode cL_law 480 = .ok (.iaload, 1) := by decide +kernel
theorem dL_law_481 : decode cL_law 481 = .ok (.invokevirtual 65, 3) := by decide +kernel
theorem dL_law_484 : decode cL_law 484 = .ok (.if_icmp .eq 964, 3) := by decide +kernel
theorem dL_law_487 : decode cL_law 487 = .ok (.iconst 0, 1) := by decide +kernel
theorem dL_law_488 : decode cL_law 488 = .ok (.ireturn, 1) := by decide +kernel
theorem dL_law_489 : decode cL_law 489 = .ok (.aload_n 1, 1) := by decide +kernel
theorem dL_law_490 : decode cL_law 490 = .ok (.aload_n 0, 1) := by decide +kernel
theorem dL_law_491 : decode cL_law 491 = .ok (.iload 4, 2) := by decide +kernel
theorem dL_law_493 : decode cL_law 493 = .ok (.iconst 1, 1) := by decide +kernel
theorem dL_law_494 : decode cL_law 494 = .ok (.iadd, 1) := by decide +kernel
theorem dL_law_495 : decode cL_law 495 = .ok (.iaload, 1) := by decide +kernel
theorem dL_law_496 : decode cL_law 496 = .ok (.aload_n 0, 1) := by decide +kernel
theorem dL_law_497 : decode cL_law 497 = .ok (.iload 4, 2) := by decide +kernel
theorem dL_law_499 : decode cL_law 499 = .ok (.iconst 2, 1) := by decide +kernel
theorem dL_law_500 : decode cL_law 500 = .ok (.iadd, 1) := by decide +kernel
theorem dL_law_501 : decode cL_law 501 = .ok (.iaload, 1) := by decide +kernel
theorem dL_law_502 : decode cL_law 502 = .ok (.invokevirtual 66, 3) := by decide +kernel
theorem dL_law_505 : decode cL_law 505 = .ok (.aload_n 2, 1) := by decide +kernel
theorem dL_law_506 : decode cL_law 506 = .ok (.aload_n 0, 1) := by decide +kernel
theorem dL_law_507 : decode cL_law 507 = .ok (.iload 4, 2) := by decide +kernel
theorem dL_law_509 : decode cL_law 509 = .ok (.iconst 1, 1) := by decide +kernel
theorem dL_law_510 : decode cL_law 510 = .ok (.iadd, 1) := by decide +kernel
theorem dL_law_511 : decode cL_law 511 = .ok (.iaload, 1) := by decide +kernel
theorem dL_law_512 : decode cL_law 512 = .ok (.aload_n 0, 1) := by decide +kernel
theorem dL_law_513 : decode cL_law 513 = .ok (.iload 4, 2) := by decide +kernel
theorem dL_law_515 : decode cL_law 515 = .ok (.iconst 2, 1) := by decide +kernel
theorem dL_law_516 : decode cL_law 516 = .ok (.iadd, 1) := by decide +kernel
theorem dL_law_517 : decode cL_law 517 = .ok (.iaload, 1) := by decide +kernel
theorem dL_law_518 : decode cL_law 518 = .ok (.invokevirtual 69, 3) := by decide +kernel
theorem dL_law_521 : decode cL_law 521 = .ok (.if_icmp .eq 927, 3) := by decide +kernel
theorem dL_law_524 : decode cL_law 524 = .ok (.iconst 0, 1) := by decide +kernel
theorem dL_law_525 : decode cL_law 525 = .ok (.ireturn, 1) := by decide +kernel
theorem dL_law_526 : decode cL_law 526 = .ok (.aload_n 1, 1) := by decide +kernel
theorem dL_law_527 : decode cL_law 527 = .ok (.aload_n 0, 1) := by decide +kernel
theorem dL_law_528 : decode cL_law 528 = .ok (.iload 4, 2) := by decide +kernel
theorem dL_law_530 : decode cL_law 530 = .ok (.iconst 1, 1) := by decide +kernel
theorem dL_law_531 : decode cL_law 531 = .ok (.iadd, 1) := by decide +kernel
theorem dL_law_532 : decode cL_law 532 = .ok (.iaload, 1) := by decide +kernel
theorem dL_law_533 : decode cL_law 533 = .ok (.aload_n 0, 1) := by decide +kernel
theorem dL_law_534 : decode cL_law 534 = .ok (.iload 4, 2) := by decide +kernel
theorem dL_law_536 : decode cL_law 536 = .ok (.iconst 2, 1) := by decide +kernel
theorem dL_law_537 : decode cL_law 537 = .ok (.iadd, 1) := by decide +kernel
theorem dL_law_538 : decode cL_law 538 = .ok (.iaload, 1) := by decide +kernel
theorem dL_law_539 : decode cL_law 539 = .ok (.aload_n 0, 1) := by decide +kernel
theorem dL_law_540 : decode cL_law 540 = .ok (.iload 4, 2) := by decide +kernel
theorem dL_law_542 : decode cL_law 542 = .ok (.iconst 3, 1) := by decide +kernel
theorem dL_law_543 : decode cL_law 543 = .ok (.iadd, 1) := by decide +kernel
theorem dL_law_544 : decode cL_law 544 = .ok (.iaload, 1) := by decide +kernel
theorem dL_law_545 : decode cL_law 545 = .ok (.aload_n 0, 1) := by decide +kernel
theorem dL_law_546 : decode cL_law 546 = .ok (.iload 4, 2) := by decide +kernel
theorem dL_law_548 : decode cL_law 548 = .ok (.iconst 4, 1) := by decide +kernel
theorem dL_law_549 : decode cL_law 549 = .ok (.iadd, 1) := by decide +kernel
theorem dL_law_550 : decode cL_law 550 = .ok (.iaload, 1) := by decide +kernel
theorem dL_law_551 : decode cL_law 551 = .ok (.invokevirtual 70, 3) := by decide +kernel
theorem dL_law_554 : decode cL_law 554 = .ok (.aload_n 2, 1) := by decide +kernel
theorem dL_law_555 : decode cL_law 555 = .ok (.aload_n 0, 1) := by decide +kernel
theorem dL_law_556 : decode cL_law 556 = .ok (.iload 4, 2) := by decide +kernel
theorem dL_law_558 : decode cL_law 558 = .ok (.iconst 1, 1) := by decide +kernel
theorem dL_law_559 : decode cL_law 559 = .ok (.iadd, 1) := by decide +kernel
theorem dL_law_560 : decode cL_law 560 = .ok (.iaload, 1) := by decide +kernel
theorem dL_law_561 : decode cL_law 561 = .ok (.aload_n 0, 1) := by decide +kernel
theorem dL_law_562 : decode cL_law 562 = .ok (.iload 4, 2) := by decide +kernel
theorem dL_law_564 : decode cL_law 564 = .ok (.iconst 2, 1) := by decide +kernel
theorem dL_law_565 : decode cL_law 565 = .ok (.iadd, 1) := by decide +kernel
theorem dL_law_566 : decode cL_law 566 = .ok (.iaload, 1) := by decide +kernel
theorem dL_law_567 : decode cL_law 567 = .ok (.aload_n 0, 1) := by decide +kernel
theorem dL_law_568 : decode cL_law 568 = .ok (.iload 4, 2) := by decide +kernel
theorem dL_law_570 : decode cL_law 570 = .ok (.iconst 3, 1) := by decide +kernel
theorem dL_law_571 : decode cL_law 571 = .ok (.iadd, 1) := by decide +kernel
theorem dL_law_572 : decode cL_law 572 = .ok (.iaload, 1) := by decide +kernel
theorem dL_law_573 : decode cL_law 573 = .ok (.aload_n 0, 1) := by decide +kernel
theorem dL_law_574 : decode cL_law 574 = .ok (.iload 4, 2) := by decide +kernel
theorem dL_law_576 : decode cL_law 576 = .ok (.iconst 4, 1) := by decide +kernel
theorem dL_law_577 : decode cL_law 577 = .ok (.iadd, 1) := by decide +kernel
theorem dL_law_578 : decode cL_law 578 = .ok (.iaload, 1) := by decide +kernel
theorem dL_law_579 : decode cL_law 579 = .ok (.invokevirtual 73, 3) := by decide +kernel
theorem dL_law_582 : decode cL_law 582 = .ok (.if_icmp .eq 866, 3) := by decide +kernel
theorem dL_law_585 : decode cL_law 585 = .ok (.iconst 0, 1) := by decide +kernel
theorem dL_law_586 : decode cL_law 586 = .ok (.ireturn, 1) := by decide +kernel
theorem dL_law_587 : decode cL_law 587 = .ok (.aload_n 1, 1) := by decide +kernel
theorem dL_law_588 : decode cL_law 588 = .ok (.aload_n 0, 1) := by decide +kernel
theorem dL_law_589 : decode cL_law 589 = .ok (.iload 4, 2) := by decide +kernel
theorem dL_law_591 : decode cL_law 591 = .ok (.iconst 1, 1) := by decide +kernel
theorem dL_law_592 : decode cL_law 592 = .ok (.iadd, 1) := by decide +kernel
theorem dL_law_593 : decode cL_law 593 = .ok (.iaload, 1) := by decide +kernel
theorem dL_law_594 : decode cL_law 594 = .ok (.invokevirtual 74, 3) := by decide +kernel
theorem dL_law_597 : decode cL_law 597 = .ok (.aload_n 2, 1) := by decide +kernel
theorem dL_law_598 : decode cL_law 598 = .ok (.aload_n 0, 1) := by decide +kernel
theorem dL_law_599 : decode cL_law 599 = .ok (.iload 4, 2) := by decide +kernel
theorem dL_law_601 : decode cL_law 601 = .ok (.iconst 1, 1) := by decide +kernel
theorem dL_law_602 : decode cL_law 602 = .ok (.iadd, 1) := by decide +kernel
theorem dL_law_603 : decode cL_law 603 = .ok (.iaload, 1) := by decide +kernel
theorem dL_law_604 : decode cL_law 604 = .ok (.invokevirtual 77, 3) := by decide +kernel
theorem dL_law_607 : decode cL_law 607 = .ok (.if_icmp .eq 841, 3) := by decide +kernel
theorem dL_law_610 : decode cL_law 610 = .ok (.iconst 0, 1) := by decide +kernel
theorem dL_law_611 : decode cL_law 611 = .ok (.ireturn, 1) := by decide +kernel
theorem dL_law_612 : decode cL_law 612 = .ok (.aload_n 1, 1) := by decide +kernel
theorem dL_law_613 : decode cL_law 613 = .ok (.aload_n 0, 1) := by decide +kernel
theorem dL_law_614 : decode cL_law 614 = .ok (.iload 4, 2) := by decide +kernel
theorem dL_law_616 : decode cL_law 616 = .ok (.iconst 1, 1) := by decide +kernel
theorem dL_law_617 : decode cL_law 617 = .ok (.iadd, 1) := by decide +kernel
theorem dL_law_618 : decode cL_law 618 = .ok (.iaload, 1) := by decide +kernel
theorem dL_law_619 : decode cL_law 619 = .ok (.aload_n 0, 1) := by decide +kernel
theorem dL_law_620 : decode cL_law 620 = .ok (.iload 4, 2) := by decide +kernel
theorem dL_law_622 : decode cL_law 622 = .ok (.iconst 2, 1) := by decide +kernel
theorem dL_law_623 : decode cL_law 623 = .ok (.iadd, 1) := by decide +kernel
theorem dL_law_624 : decode cL_law 624 = .ok (.iaload, 1) := by decide +kernel
theorem dL_law_625 : decode cL_law 625 = .ok (.invokevirtual 78, 3) := by decide +kernel
theorem dL_law_628 : decode cL_law 628 = .ok (.aload_n 2, 1) := by decide +kernel
theorem dL_law_629 : decode cL_law 629 = .ok (.aload_n 0, 1) := by decide +kernel
theorem dL_law_630 : decode cL_law 630 = .ok (.iload 4, 2) := by decide +kernel
theorem dL_law_632 : decode cL_law 632 = .ok (.iconst 1, 1) := by decide +kernel
theorem dL_law_633 : decode cL_law 633 = .ok (.iadd, 1) := by decide +kernel
theorem dL_law_634 : decode cL_law 634 = .ok (.iaload, 1) := by decide +kernel
theorem dL_law_635 : decode cL_law 635 = .ok (.aload_n 0, 1) := by decide +kernel
theorem dL_law_636 : decode cL_law 636 = .ok (.iload 4, 2) := by decide +kernel
theorem dL_law_638 : decode cL_law 638 = .ok (.iconst 2, 1) := by decide +kernel
theorem dL_law_639 : decode cL_law 639 = .ok (.iadd, 1) := by decide +kernel
theorem dL_law_640 : decode cL_law 640 = .ok (.iaload, 1) := by decide +kernel
theorem dL_law_641 : decode cL_law 641 = .ok (.invokevirtual 81, 3) := by decide +kernel
theorem dL_law_644 : decode cL_law 644 = .ok (.if_icmp .eq 804, 3) := by decide +kernel
theorem dL_law_647 : decode cL_law 647 = .ok (.iconst 0, 1) := by decide +kernel
theorem dL_law_648 : decode cL_law 648 = .ok (.ireturn, 1) := by decide +kernel
theorem dL_law_649 : decode cL_law 649 = .ok (.aload_n 1, 1) := by decide +kernel
theorem dL_law_650 : decode cL_law 650 = .ok (.invokevirtual 82, 3) := by decide +kernel
theorem dL_law_653 : decode cL_law 653 = .ok (.aload_n 2, 1) := by decide +kernel
theorem dL_law_654 : decode cL_law 654 = .ok (.invokevirtual 85, 3) := by decide +kernel
theorem dL_law_657 : decode cL_law 657 = .ok (.if_icmp .eq 791, 3) := by decide +kernel
theorem dL_law_660 : decode cL_law 660 = .ok (.iconst 0, 1) := by decide +kernel
theorem dL_law_661 : decode cL_law 661 = .ok (.ireturn, 1) := by decide +kernel
theorem dL_law_662 : decode cL_law 662 = .ok (.aload_n 1, 1) := by decide +kernel
theorem dL_law_663 : decode cL_law 663 = .ok (.aload_n 0, 1) := by decide +kernel
theorem dL_law_664 : decode cL_law 664 = .ok (.iload 4, 2) := by decide +kernel
theorem dL_law_666 : decode cL_law 666 = .ok (.iconst 1, 1) := by decide +kernel
theorem dL_law_667 : decode cL_law 667 = .ok (.iadd, 1) := by decide +kernel
theorem dL_law_668 : decode cL_law 668 = .ok (.iaload, 1) := by decide +kernel
theorem dL_law_669 : decode cL_law 669 = .ok (.invokevirtual 86, 3) := by decide +kernel
theorem dL_law_672 : decode cL_law 672 = .ok (.aload_n 2, 1) := by decide +kernel
theorem dL_law_673 : decode cL_law 673 = .ok (.aload_n 0, 1) := by decide +kernel
theorem dL_law_674 : decode cL_law 674 = .ok (.iload 4, 2) := by decide +kernel
theorem dL_law_676 : decode cL_law 676 = .ok (.iconst 1, 1) := by decide +kernel
theorem dL_law_677 : decode cL_law 677 = .ok (.iadd, 1) := by decide +kernel
theorem dL_law_678 : decode cL_law 678 = .ok (.iaload, 1) := by decide +kernel
theorem dL_law_679 : decode cL_law 679 = .ok (.invokevirtual 89, 3) := by decide +kernel
theorem dL_law_682 : decode cL_law 682 = .ok (.if_icmp .eq 766, 3) := by decide +kernel
theorem dL_law_685 : decode cL_law 685 = .ok (.iconst 0, 1) := by decide +kernel
theorem dL_law_686 : decode cL_law 686 = .ok (.ireturn, 1) := by decide +kernel
theorem dL_law_687 : decode cL_law 687 = .ok (.aload_n 1, 1) := by decide +kernel
theorem dL_law_688 : decode cL_law 688 = .ok (.invokevirtual 90, 3) := by decide +kernel
theorem dL_law_691 : decode cL_law 691 = .ok (.aload_n 2, 1) := by decide +kernel
theorem dL_law_692 : decode cL_law 692 = .ok (.invokevirtual 93, 3) := by decide +kernel
theorem dL_law_695 : decode cL_law 695 = .ok (.if_icmp .eq 753, 3) := by decide +kernel
theorem dL_law_698 : decode cL_law 698 = .ok (.iconst 0, 1) := by decide +kernel
theorem dL_law_699 : decode cL_law 699 = .ok (.ireturn, 1) := by decide +kernel
theorem dL_law_700 : decode cL_law 700 = .ok (.aload_n 1, 1) := by decide +kernel
theorem dL_law_701 : decode cL_law 701 = .ok (.invokevirtual 94, 3) := by decide +kernel
theorem dL_law_704 : decode cL_law 704 = .ok (.aload_n 2, 1) := by decide +kernel
theorem dL_law_705 : decode cL_law 705 = .ok (.invokevirtual 97, 3) := by decide +kernel
theorem dL_law_708 : decode cL_law 708 = .ok (.if_icmp .eq 740, 3) := by decide +kernel
theorem dL_law_711 : decode cL_law 711 = .ok (.iconst 0, 1) := by decide +kernel
theorem dL_law_712 : decode cL_law 712 = .ok (.ireturn, 1) := by decide +kernel
theorem dL_law_713 : decode cL_law 713 = .ok (.aload_n 1, 1) := by decide +kernel
theorem dL_law_714 : decode cL_law 714 = .ok (.invokevirtual 98, 3) := by decide +kernel
theorem dL_law_717 : decode cL_law 717 = .ok (.aload_n 2, 1) := by decide +kernel
theorem dL_law_718 : decode cL_law 718 = .ok (.invokevirtual 101, 3) := by decide +kernel
theorem dL_law_721 : decode cL_law 721 = .ok (.if_icmp .eq 727, 3) := by decide +kernel
theorem dL_law_724 : decode cL_law 724 = .ok (.iconst 0, 1) := by decide +kernel
theorem dL_law_725 : decode cL_law 725 = .ok (.ireturn, 1) := by decide +kernel
theorem dL_law_726 : decode cL_law 726 = .ok (.aload_n 1, 1) := by decide +kernel
theorem dL_law_727 : decode cL_law 727 = .ok (.aload_n 0, 1) := by decide +kernel
theorem dL_law_728 : decode cL_law 728 = .ok (.iload 4, 2) := by decide +kernel
theorem dL_law_730 : decode cL_law 730 = .ok (.iconst 1, 1) := by decide +kernel
theorem dL_law_731 : decode cL_law 731 = .ok (.iadd, 1) := by decide +kernel
theorem dL_law_732 : decode cL_law 732 = .ok (.iaload, 1) := by decide +kernel
theorem dL_law_733 : decode cL_law 733 = .ok (.aload_n 0, 1) := by decide +kernel
theorem dL_law_734 : decode cL_law 734 = .ok (.iload 4, 2) := by decide +kernel
theorem dL_law_736 : decode cL_law 736 = .ok (.iconst 2, 1) := by decide +kernel
theorem dL_law_737 : decode cL_law 737 = .ok (.iadd, 1) := by decide +kernel
theorem dL_law_738 : decode cL_law 738 = .ok (.iaload, 1) := by decide +kernel
theorem dL_law_739 : decode cL_law 739 = .ok (.invokevirtual 102, 3) := by decide +kernel
theorem dL_law_742 : decode cL_law 742 = .ok (.aload_n 2, 1) := by decide +kernel
theorem dL_law_743 : decode cL_law 743 = .ok (.aload_n 0, 1) := by decide +kernel
theorem dL_law_744 : decode cL_law 744 = .ok (.iload 4, 2) := by decide +kernel
theorem dL_law_746 : decode cL_law 746 = .ok (.iconst 1, 1) := by decide +kernel
theorem dL_law_747 : decode cL_law 747 = .ok (.iadd, 1) := by decide +kernel
theorem dL_law_748 : decode cL_law 748 = .ok (.iaload, 1) := by decide +kernel
theorem dL_law_749 : decode cL_law 749 = .ok (.aload_n 0, 1) := by decide +kernel
theorem dL_law_750 : decode cL_law 750 = .ok (.iload 4, 2) := by decide +kernel
theorem dL_law_752 : decode cL_law 752 = .ok (.iconst 2, 1) := by decide +kernel
theorem dL_law_753 : decode cL_law 753 = .ok (.iadd, 1) := by decide +kernel
theorem dL_law_754 : decode cL_law 754 = .ok (.iaload, 1) := by decide +kernel
theorem dL_law_755 : decode cL_law 755 = .ok (.invokevirtual 105, 3) := by decide +kernel
theorem dL_law_758 : decode cL_law 758 = .ok (.if_icmp .eq 690, 3) := by decide +kernel
theorem dL_law_761 : decode cL_law 761 = .ok (.iconst 0, 1) := by decide +kernel
theorem dL_law_762 : decode cL_law 762 = .ok (.ireturn, 1) := by decide +kernel
theorem dL_law_763 : decode cL_law 763 = .ok (.aload_n 1, 1) := by decide +kernel
theorem dL_law_764 : decode cL_law 764 = .ok (.aload_n 0, 1) := by decide +kernel
theorem dL_law_765 : decode cL_law 765 = .ok (.iload 4, 2) := by decide +kernel
theorem dL_law_767 : decode cL_law 767 = .ok (.iconst 1, 1) := by decide +kernel
theorem dL_law_768 : decode cL_law 768 = .ok (.iadd, 1) := by decide +kernel
theorem dL_law_769 : decode cL_law 769 = .ok (.iaload, 1) := by decide +kernel
theorem dL_law_770 : decode cL_law 770 = .ok (.invokevirtual 106, 3) := by decide +kernel
theorem dL_law_773 : decode cL_law 773 = .ok (.aload_n 2, 1) := by decide +kernel
theorem dL_law_774 : decode cL_law 774 = .ok (.aload_n 0, 1) := by decide +kernel
theorem dL_law_775 : decode cL_law 775 = .ok (.iload 4, 2) := by decide +kernel
theorem dL_law_777 : decode cL_law 777 = .ok (.iconst 1, 1) := by decide +kernel
theorem dL_law_778 : decode cL_law 778 = .ok (.iadd, 1) := by decide +kernel
theorem dL_law_779 : decode cL_law 779 = .ok (.iaload, 1) := by decide +kernel
theorem dL_law_780 : decode cL_law 780 = .ok (.invokevirtual 109, 3) := by decide +kernel
theorem dL_law_783 : decode cL_law 783 = .ok (.if_icmp .eq 665, 3) := by decide +kernel
theorem dL_law_786 : decode cL_law 786 = .ok (.iconst 0, 1) := by decide +kernel
theorem dL_law_787 : decode cL_law 787 = .ok (.ireturn, 1) := by decide +kernel
theorem dL_law_788 : decode cL_law 788 = .ok (.aload_n 1, 1) := by decide +kernel
theorem dL_law_789 : decode cL_law 789 = .ok (.aload_n 0, 1) := by decide +kernel
theorem dL_law_790 : decode cL_law 790 = .ok (.iload 4, 2) := by decide +kernel
theorem dL_law_792 : decode cL_law 792 = .ok (.iconst 1, 1) := by decide +kernel
theorem dL_law_793 : decode cL_law 793 = .ok (.iadd, 1) := by decide +kernel
theorem dL_law_794 : decode cL_law 794 = .ok (.iaload, 1) := by decide +kernel
theorem dL_law_795 : decode cL_law 795 = .ok (.invokevirtual 110, 3) := by decide +kernel
theorem dL_law_798 : decode cL_law 798 = .ok (.aload_n 2, 1) := by decide +kernel
theorem dL_law_799 : decode cL_law 799 = .ok (.aload_n 0, 1) := by decide +kernel
theorem dL_law_800 : decode cL_law 800 = .ok (.iload 4, 2) := by decide +kernel
theorem dL_law_802 : decode cL_law 802 = .ok (.iconst 1, 1) := by decide +kernel
theorem dL_law_803 : decode cL_law 803 = .ok (.iadd, 1) := by decide +kernel
theorem dL_law_804 : decode cL_law 804 = .ok (.iaload, 1) := by decide +kernel
theorem dL_law_805 : decode cL_law 805 = .ok (.invokevirtual 113, 3) := by decide +kernel
theorem dL_law_808 : decode cL_law 808 = .ok (.if_icmp .eq 640, 3) := by decide +kernel
theorem dL_law_811 : decode cL_law 811 = .ok (.iconst 0, 1) := by decide +kernel
theorem dL_law_812 : decode cL_law 812 = .ok (.ireturn, 1) := by decide +kernel
theorem dL_law_813 : decode cL_law 813 = .ok (.aload_n 1, 1) := by decide +kernel
theorem dL_law_814 : decode cL_law 814 = .ok (.aload_n 0, 1) := by decide +kernel
theorem dL_law_815 : decode cL_law 815 = .ok (.iload 4, 2) := by decide +kernel
theorem dL_law_817 : decode cL_law 817 = .ok (.iconst 1, 1) := by decide +kernel
theorem dL_law_818 : decode cL_law 818 = .ok (.iadd, 1) := by decide +kernel
theorem dL_law_819 : decode cL_law 819 = .ok (.iaload, 1) := by decide +kernel
theorem dL_law_820 : decode cL_law 820 = .ok (.invokevirtual 114, 3) := by decide +kernel
theorem dL_law_823 : decode cL_law 823 = .ok (.aload_n 2, 1) := by decide +kernel
theorem dL_law_824 : decode cL_law 824 = .ok (.aload_n 0, 1) := by decide +kernel
theorem dL_law_825 : decode cL_law 825 = .ok (.iload 4, 2) := by decide +kernel
theorem dL_law_827 : decode cL_law 827 = .ok (.iconst 1, 1) := by decide +kernel
theorem dL_law_828 : decode cL_law 828 = .ok (.iadd, 1) := by decide +kernel
theorem dL_law_829 : decode cL_law 829 = .ok (.iaload, 1) := by decide +kernel
theorem dL_law_830 : decode cL_law 830 = .ok (.invokevirtual 117, 3) := by decide +kernel
theorem dL_law_833 : decode cL_law 833 = .ok (.if_icmp .eq 615, 3) := by decide +kernel
theorem dL_law_836 : decode cL_law 836 = .ok (.iconst 0, 1) := by decide +kernel
theorem dL_law_837 : decode cL_law 837 = .ok (.ireturn, 1) := by decide +kernel
theorem dL_law_838 : decode cL_law 838 = .ok (.aload_n 1, 1) := by decide +kernel
theorem dL_law_839 : decode cL_law 839 = .ok (.aload_n 0, 1) := by decide +kernel
theorem dL_law_840 : decode cL_law 840 = .ok (.iload 4, 2) := by decide +kernel
theorem dL_law_842 : decode cL_law 842 = .ok (.iconst 1, 1) := by decide +kernel
theorem dL_law_843 : decode cL_law 843 = .ok (.iadd, 1) := by decide +kernel
theorem dL_law_844 : decode cL_law 844 = .ok (.iaload, 1) := by decide +kernel
theorem dL_law_845 : decode cL_law 845 = .ok (.aload_n 3, 1) := by decide +kernel
theorem dL_law_846 : decode cL_law 846 = .ok (.invokestatic 118, 3) := by decide +kernel
theorem dL_law_849 : decode cL_law 849 = .ok (.istore 5, 2) := by decide +kernel
theorem dL_law_851 : decode cL_law 851 = .ok (.aload_n 2, 1) := by decide +kernel
theorem dL_law_852 : decode cL_law 852 = .ok (.aload_n 0, 1) := by decide +kernel
theorem dL_law_853 : decode cL_law 853 = .ok (.iload 4, 2) := by decide +kernel
theorem dL_law_855 : decode cL_law 855 = .ok (.iconst 1, 1) := by decide +kernel
theorem dL_law_856 : decode cL_law 856 = .ok (.iadd, 1) := by decide +kernel
theorem dL_law_857 : decode cL_law 857 = .ok (.iaload, 1) := by decide +kernel
theorem dL_law_858 : decode cL_law 858 = .ok (.invokevirtual 121, 3) := by decide +kernel
theorem dL_law_861 : decode cL_law 861 = .ok (.istore 6, 2) := by decide +kernel
theorem dL_law_863 : decode cL_law 863 = .ok (.aload_n 2, 1) := by decide +kernel
theorem dL_law_864 : decode cL_law 864 = .ok (.invokevirtual 55, 3) := by decide +kernel
theorem dL_law_867 : decode cL_law 867 = .ok (.iload 5, 2) := by decide +kernel
theorem dL_law_869 : decode cL_law 869 = .ok (.if_icmp .eq 5, 3) := by decide +kernel
theorem dL_law_872 : decode cL_law 872 = .ok (.iconst 0, 1) := by decide +kernel
theorem dL_law_873 : decode cL_law 873 = .ok (.ireturn, 1) := by decide +kernel
theorem dL_law_874 : decode cL_law 874 = .ok (.iload 5, 2) := by decide +kernel
theorem dL_law_876 : decode cL_law 876 = .ok (.ifCond .ne 15, 3) := by decide +kernel
theorem dL_law_879 : decode cL_law 879 = .ok (.aload_n 3, 1) := by decide +kernel
theorem dL_law_880 : decode cL_law 880 = .ok (.iconst 0, 1) := by decide +kernel
theorem dL_law_881 : decode cL_law 881 = .ok (.laload, 1) := by decide +kernel
theorem dL_law_882 : decode cL_law 882 = .ok (.iload 6, 2) := by decide +kernel
theorem dL_law_884 : decode cL_law 884 = .ok (.i2l, 1) := by decide +kernel
theorem dL_law_885 : decode cL_law 885 = .ok (.lcmp, 1) := by decide +kernel
theorem dL_law_886 : decode cL_law 886 = .ok (.ifCond .eq 5, 3) := by decide +kernel
theorem dL_law_889 : decode cL_law 889 = .ok (.iconst 0, 1) := by decide +kernel
theorem dL_law_890 : decode cL_law 890 = .ok (.ireturn, 1) := by decide +kernel
theorem dL_law_891 : decode cL_law 891 = .ok (.goto 557, 3) := by decide +kernel
theorem dL_law_894 : decode cL_law 894 = .ok (.aload_n 1, 1) := by decide +kernel
theorem dL_law_895 : decode cL_law 895 = .ok (.aload_n 0, 1) := by decide +kernel
theorem dL_law_896 : decode cL_law 896 = .ok (.iload 4, 2) := by decide +kernel
theorem dL_law_898 : decode cL_law 898 = .ok (.iconst 1, 1) := by decide +kernel
theorem dL_law_899 : decode cL_law 899 = .ok (.iadd, 1) := by decide +kernel
theorem dL_law_900 : decode cL_law 900 = .ok (.iaload, 1) := by decide +kernel
theorem dL_law_901 : decode cL_law 901 = .ok (.aload_n 0, 1) := by decide +kernel
theorem dL_law_902 : decode cL_law 902 = .ok (.iload 4, 2) := by decide +kernel
theorem dL_law_904 : decode cL_law 904 = .ok (.iconst 2, 1) := by decide +kernel
theorem dL_law_905 : decode cL_law 905 = .ok (.iadd, 1) := by decide +kernel
theorem dL_law_906 : decode cL_law 906 = .ok (.iaload, 1) := by decide +kernel
theorem dL_law_907 : decode cL_law 907 = .ok (.invokevirtual 122, 3) := by decide +kernel
theorem dL_law_910 : decode cL_law 910 = .ok (.aload_n 2, 1) := by decide +kernel
theorem dL_law_911 : decode cL_law 911 = .ok (.aload_n 0, 1) := by decide +kernel
theorem dL_law_912 : decode cL_law 912 = .ok (.iload 4, 2) := by decide +kernel
theorem dL_law_914 : decode cL_law 914 = .ok (.iconst 1, 1) := by decide +kernel
theorem dL_law_915 : decode cL_law 915 = .ok (.iadd, 1) := by decide +kernel
theorem dL_law_916 : decode cL_law 916 = .ok (.iaload, 1) := by decide +kernel
theorem dL_law_917 : decode cL_law 917 = .ok (.aload_n 0, 1) := by decide +kernel
theorem dL_law_918 : decode cL_law 918 = .ok (.iload 4, 2) := by decide +kernel
theorem dL_law_920 : decode cL_law 920 = .ok (.iconst 2, 1) := by decide +kernel
theorem dL_law_921 : decode cL_law 921 = .ok (.iadd, 1) := by decide +kernel
theorem dL_law_922 : decode cL_law 922 = .ok (.iaload, 1) := by decide +kernel
theorem dL_law_923 : decode cL_law 923 = .ok (.invokevirtual 125, 3) := by decide +kernel
theorem dL_law_926 : decode cL_law 926 = .ok (.if_icmp .eq 522, 3) := by decide +kernel
theorem dL_law_929 : decode cL_law 929 = .ok (.iconst 0, 1) := by decide +kernel
theorem dL_law_930 : decode cL_law 930 = .ok (.ireturn, 1) := by decide +kernel
theorem dL_law_931 : decode cL_law 931 = .ok (.aload_n 1, 1) := by decide +kernel
theorem dL_law_932 : decode cL_law 932 = .ok (.invokevirtual 126, 3) := by decide +kernel
theorem dL_law_935 : decode cL_law 935 = .ok (.aload_n 2, 1) := by decide +kernel
theorem dL_law_936 : decode cL_law 936 = .ok (.invokevirtual 129, 3) := by decide +kernel
theorem dL_law_939 : decode cL_law 939 = .ok (.if_icmp .eq 509, 3) := by decide +kernel
theorem dL_law_942 : decode cL_law 942 = .ok (.iconst 0, 1) := by decide +kernel
theorem dL_law_943 : decode cL_law 943 = .ok (.ireturn, 1) := by decide +kernel
theorem dL_law_944 : decode cL_law 944 = .ok (.aload_n 1, 1) := by decide +kernel
theorem dL_law_945 : decode cL_law 945 = .ok (.aload_n 0, 1) := by decide +kernel
theorem dL_law_946 : decode cL_law 946 = .ok (.iload 4, 2) := by decide +kernel
theorem dL_law_948 : decode cL_law 948 = .ok (.iconst 1, 1) := by decide +kernel
theorem dL_law_949 : decode cL_law 949 = .ok (.iadd, 1) := by decide +kernel
theorem dL_law_950 : decode cL_law 950 = .ok (.iaload, 1) := by decide +kernel
theorem dL_law_951 : decode cL_law 951 = .ok (.invokevirtual 130, 3) := by decide +kernel
theorem dL_law_954 : decode cL_law 954 = .ok (.aload_n 2, 1) := by decide +kernel
theorem dL_law_955 : decode cL_law 955 = .ok (.aload_n 0, 1) := by decide +kernel
theorem dL_law_956 : decode cL_law 956 = .ok (.iload 4, 2) := by decide +kernel
theorem dL_law_958 : decode cL_law 958 = .ok (.iconst 1, 1) := by decide +kernel
theorem dL_law_959 : decode cL_law 959 = .ok (.iadd, 1) := by decide +kernel
theorem dL_law_960 : decode cL_law 960 = .ok (.iaload, 1) := by decide +kernel
theorem dL_law_961 : decode cL_law 961 = .ok (.invokevirtual 133, 3) := by decide +kernel
theorem dL_law_964 : decode cL_law 964 = .ok (.if_icmp .eq 484, 3) := by decide +kernel
theorem dL_law_967 : decode cL_law 967 = .ok (.iconst 0, 1) := by decide +kernel
theorem dL_law_968 : decode cL_law 968 = .ok (.ireturn, 1) := by decide +kernel
theorem dL_law_969 : decode cL_law 969 = .ok (.aload_n 1, 1) := by decide +kernel
theorem dL_law_970 : decode cL_law 970 = .ok (.aload_n 0, 1) := by decide +kernel
theorem dL_law_971 : decode cL_law 971 = .ok (.iload 4, 2) := by decide +kernel
theorem dL_law_973 : decode cL_law 973 = .ok (.iconst 1, 1) := by decide +kernel
theorem dL_law_974 : decode cL_law 974 = .ok (.iadd, 1) := by decide +kernel
theorem dL_law_975 : decode cL_law 975 = .ok (.iaload, 1) := by decide +kernel
theorem dL_law_976 : decode cL_law 976 = .ok (.aload_n 0, 1) := by decide +kernel
theorem dL_law_977 : decode cL_law 977 = .ok (.iload 4, 2) := by decide +kernel
theorem dL_law_979 : decode cL_law 979 = .ok (.iconst 2, 1) := by decide +kernel
theorem dL_law_980 : decode cL_law 980 = .ok (.iadd, 1) := by decide +kernel
theorem dL_law_981 : decode cL_law 981 = .ok (.iaload, 1) := by decide +kernel
theorem dL_law_982 : decode cL_law 982 = .ok (.invokevirtual 134, 3) := by decide +kernel
theorem dL_law_985 : decode cL_law 985 = .ok (.aload_n 2, 1) := by decide +kernel
theorem dL_law_986 : decode cL_law 986 = .ok (.aload_n 0, 1) := by decide +kernel
theorem dL_law_987 : decode cL_law 987 = .ok (.iload 4, 2) := by decide +kernel
theorem dL_law_989 : decode cL_law 989 = .ok (.iconst 1, 1) := by decide +kernel
theorem dL_law_990 : decode cL_law 990 = .ok (.iadd, 1) := by decide +kernel
theorem dL_law_991 : decode cL_law 991 = .ok (.iaload, 1) := by decide +kernel
theorem dL_law_992 : decode cL_law 992 = .ok (.aload_n 0, 1) := by decide +kernel
theorem dL_law_993 : decode cL_law 993 = .ok (.iload 4, 2) := by decide +kernel
theorem dL_law_995 : decode cL_law 995 = .ok (.iconst 2, 1) := by decide +kernel
theorem dL_law_996 : decode cL_law 996 = .ok (.iadd, 1) := by decide +kernel
theorem dL_law_997 : decode cL_law 997 = .ok (.iaload, 1) := by decide +kernel
theorem dL_law_998 : decode cL_law 998 = .ok (.invokevirtual 137, 3) := by decide +kernel
theorem dL_law_1001 : decode cL_law 1001 = .ok (.if_icmp .eq 447, 3) := by decide +kernel
theorem dL_law_1004 : decode cL_law 1004 = .ok (.iconst 0, 1) := by decide +kernel
theorem dL_law_1005 : decode cL_law 1005 = .ok (.ireturn, 1) := by decide +kernel
theorem dL_law_1006 : decode cL_law 1006 = .ok (.aload_n 1, 1) := by decide +kernel
theorem dL_law_1007 : decode cL_law 1007 = .ok (.aload_n 0, 1) := by decide +kernel
theorem dL_law_1008 : decode cL_law 1008 = .ok (.iload 4, 2) := by decide +kernel
theorem dL_law_1010 : decode cL_law 1010 = .ok (.iconst 1, 1) := by decide +kernel
theorem dL_law_1011 : decode cL_law 1011 = .ok (.iadd, 1) := by decide +kernel
theorem dL_law_1012 : decode cL_law 1012 = .ok (.iaload, 1) := by decide +kernel
theorem dL_law_1013 : decode cL_law 1013 = .ok (.invokevirtual 138, 3) := by decide +kernel
theorem dL_law_1016 : decode cL_law 1016 = .ok (.aload_n 2, 1) := by decide +kernel
theorem dL_law_1017 : decode cL_law 1017 = .ok (.aload_n 0, 1) := by decide +kernel
theorem dL_law_1018 : decode cL_law 1018 = .ok (.iload 4, 2) := by decide +kernel
theorem dL_law_1020 : decode cL_law 1020 = .ok (.iconst 1, 1) := by decide +kernel
theorem dL_law_1021 : decode cL_law 1021 = .ok (.iadd, 1) := by decide +kernel
theorem dL_law_1022 : decode cL_law 1022 = .ok (.iaload, 1) := by decide +kernel
theorem dL_law_1023 : decode cL_law 1023 = .ok (.invokevirtual 141, 3) := by decide +kernel
theorem dL_law_1026 : decode cL_law 1026 = .ok (.if_icmp .eq 422, 3) := by decide +kernel
theorem dL_law_1029 : decode cL_law 1029 = .ok (.iconst 0, 1) := by decide +kernel
theorem dL_law_1030 : decode cL_law 1030 = .ok (.ireturn, 1) := by decide +kernel
theorem dL_law_1031 : decode cL_law 1031 = .ok (.aload_n 1, 1) := by decide +kernel
theorem dL_law_1032 : decode cL_law 1032 = .ok (.aload_n 0, 1) := by decide +kernel
theorem dL_law_1033 : decode cL_law 1033 = .ok (.iload 4, 2) := by decide +kernel
theorem dL_law_1035 : decode cL_law 1035 = .ok (.iconst 1, 1) := by decide +kernel
theorem dL_law_1036 : decode cL_law 1036 = .ok (.iadd, 1) := by decide +kernel
theorem dL_law_1037 : decode cL_law 1037 = .ok (.iaload, 1) := by decide +kernel
theorem dL_law_1038 : decode cL_law 1038 = .ok (.invokevirtual 142, 3) := by decide +kernel
theorem dL_law_1041 : decode cL_law 1041 = .ok (.aload_n 2, 1) := by decide +kernel
theorem dL_law_1042 : decode cL_law 1042 = .ok (.aload_n 0, 1) := by decide +kernel
theorem dL_law_1043 : decode cL_law 1043 = .ok (.iload 4, 2) := by decide +kernel
theorem dL_law_1045 : decode cL_law 1045 = .ok (.iconst 1, 1) := by decide +kernel
theorem dL_law_1046 : decode cL_law 1046 = .ok (.iadd, 1) := by decide +kernel
theorem dL_law_1047 : decode cL_law 1047 = .ok (.iaload, 1) := by decide +kernel
theorem dL_law_1048 : decode cL_law 1048 = .ok (.invokevirtual 145, 3) := by decide +kernel
theorem dL_law_1051 : decode cL_law 1051 = .ok (.if_icmp .eq 397, 3) := by decide +kernel
theorem dL_law_1054 : decode cL_law 1054 = .ok (.iconst 0, 1) := by decide +kernel
theorem dL_law_1055 : decode cL_law 1055 = .ok (.ireturn, 1) := by decide +kernel
theorem dL_law_1056 : decode cL_law 1056 = .ok (.aload_n 1, 1) := by decide +kernel
theorem dL_law_1057 : decode cL_law 1057 = .ok (.aload_n 0, 1) := by decide +kernel
theorem dL_law_1058 : decode cL_law 1058 = .ok (.iload 4, 2) := by decide +kernel
theorem dL_law_1060 : decode cL_law 1060 = .ok (.iconst 1, 1) := by decide +kernel
theorem dL_law_1061 : decode cL_law 1061 = .ok (.iadd, 1) := by decide +kernel
theorem dL_law_1062 : decode cL_law 1062 = .ok (.iaload, 1) := by decide +kernel
theorem dL_law_1063 : decode cL_law 1063 = .ok (.aload_n 0, 1) := by decide +kernel
theorem dL_law_1064 : decode cL_law 1064 = .ok (.iload 4, 2) := by decide +kernel
theorem dL_law_1066 : decode cL_law 1066 = .ok (.iconst 2, 1) := by decide +kernel
theorem dL_law_1067 : decode cL_law 1067 = .ok (.iadd, 1) := by decide +kernel
theorem dL_law_1068 : decode cL_law 1068 = .ok (.iaload, 1) := by decide +kernel
theorem dL_law_1069 : decode cL_law 1069 = .ok (.invokevirtual 146, 3) := by decide +kernel
theorem dL_law_1072 : decode cL_law 1072 = .ok (.aload_n 2, 1) := by decide +kernel
theorem dL_law_1073 : decode cL_law 1073 = .ok (.aload_n 0, 1) := by decide +kernel
theorem dL_law_1074 : decode cL_law 1074 = .ok (.iload 4, 2) := by decide +kernel
theorem dL_law_1076 : decode cL_law 1076 = .ok (.iconst 1, 1) := by decide +kernel
theorem dL_law_1077 : decode cL_law 1077 = .ok (.iadd, 1) := by decide +kernel
theorem dL_law_1078 : decode cL_law 1078 = .ok (.iaload, 1) := by decide +kernel
theorem dL_law_1079 : decode cL_law 1079 = .ok (.aload_n 0, 1) := by decide +kernel
theorem dL_law_1080 : decode cL_law 1080 = .ok (.iload 4, 2) := by decide +kernel
theorem dL_law_1082 : decode cL_law 1082 = .ok (.iconst 2, 1) := by decide +kernel
theorem dL_law_1083 : decode cL_law 1083 = .ok (.iadd, 1) := by decide +kernel
theorem dL_law_1084 : decode cL_law 1084 = .ok (.iaload, 1) := by decide +kernel
theorem dL_law_1085 : decode cL_law 1085 = .ok (.invokevirtual 149, 3) := by decide +kernel
theorem dL_law_1088 : decode cL_law 1088 = .ok (.if_icmp .eq 360, 3) := by decide +kernel
theorem dL_law_1091 : decode cL_law 1091 = .ok (.iconst 0, 1) := by decide +kernel
theorem dL_law_1092 : decode cL_law 1092 = .ok (.ireturn, 1) := by decide +kernel
theorem dL_law_1093 : decode cL_law 1093 = .ok (.aload_n 1, 1) := by decide +kernel
theorem dL_law_1094 : decode cL_law 1094 = .ok (.invokevirtual 150, 3) := by decide +kernel
theorem dL_law_1097 : decode cL_law 1097 = .ok (.aload_n 2, 1) := by decide +kernel
theorem dL_law_1098 : decode cL_law 1098 = .ok (.invokevirtual 153, 3) := by decide +kernel
theorem dL_law_1101 : decode cL_law 1101 = .ok (.if_icmp .eq 347, 3) := by decide +kernel
theorem dL_law_1104 : decode cL_law 1104 = .ok (.iconst 0, 1) := by decide +kernel
theorem dL_law_1105 : decode cL_law 1105 = .ok (.ireturn, 1) := by decide +kernel
theorem dL_law_1106 : decode cL_law 1106 = .ok (.aload_n 1, 1) := by decide +kernel
theorem dL_law_1107 : decode cL_law 1107 = .ok (.aload_n 0, 1) := by decide +kernel
theorem dL_law_1108 : decode cL_law 1108 = .ok (.iload 4, 2) := by decide +kernel
theorem dL_law_1110 : decode cL_law 1110 = .ok (.iconst 1, 1) := by decide +kernel
theorem dL_law_1111 : decode cL_law 1111 = .ok (.iadd, 1) := by decide +kernel
theorem dL_law_1112 : decode cL_law 1112 = .ok (.iaload, 1) := by decide +kernel
theorem dL_law_1113 : decode cL_law 1113 = .ok (.aload_n 0, 1) := by decide +kernel
theorem dL_law_1114 : decode cL_law 1114 = .ok (.iload 4, 2) := by decide +kernel
theorem dL_law_1116 : decode cL_law 1116 = .ok (.iconst 2, 1) := by decide +kernel
theorem dL_law_1117 : decode cL_law 1117 = .ok (.iadd, 1) := by decide +kernel
theorem dL_law_1118 : decode cL_law 1118 = .ok (.iaload, 1) := by decide +kernel
theorem dL_law_1119 : decode cL_law 1119 = .ok (.invokevirtual 154, 3) := by decide +kernel
theorem dL_law_1122 : decode cL_law 1122 = .ok (.aload_n 2, 1) := by decide +kernel
theorem dL_law_1123 : decode cL_law 1123 = .ok (.aload_n 0, 1) := by decide +kernel
theorem dL_law_1124 : decode cL_law 1124 = .ok (.iload 4, 2) := by decide +kernel
theorem dL_law_1126 : decode cL_law 1126 = .ok (.iconst 1, 1) := by decide +kernel
theorem dL_law_1127 : decode cL_law 1127 = .ok (.iadd, 1) := by decide +kernel
theorem dL_law_1128 : decode cL_law 1128 = .ok (.iaload, 1) := by decide +kernel
theorem dL_law_1129 : decode cL_law 1129 = .ok (.aload_n 0, 1) := by decide +kernel
theorem dL_law_1130 : decode cL_law 1130 = .ok (.iload 4, 2) := by decide +kernel
theorem dL_law_1132 : decode cL_law 1132 = .ok (.iconst 2, 1) := by decide +kernel
theorem dL_law_1133 : decode cL_law 1133 = .ok (.iadd, 1) := by decide +kernel
theorem dL_law_1134 : decode cL_law 1134 = .ok (.iaload, 1) := by decide +kernel
theorem dL_law_1135 : decode cL_law 1135 = .ok (.invokevirtual 157, 3) := by decide +kernel
theorem dL_law_1138 : decode cL_law 1138 = .ok (.if_icmp .eq 310, 3) := by decide +kernel
theorem dL_law_1141 : decode cL_law 1141 = .ok (.iconst 0, 1) := by decide +kernel
theorem dL_law_1142 : decode cL_law 1142 = .ok (.ireturn, 1) := by decide +kernel
theorem dL_law_1143 : decode cL_law 1143 = .ok (.aload_n 1, 1) := by decide +kernel
theorem dL_law_1144 : decode cL_law 1144 = .ok (.invokevirtual 158, 3) := by decide +kernel
theorem dL_law_1147 : decode cL_law 1147 = .ok (.aload_n 2, 1) := by decide +kernel
theorem dL_law_1148 : decode cL_law 1148 = .ok (.invokevirtual 161, 3) := by decide +kernel
theorem dL_law_1151 : decode cL_law 1151 = .ok (.if_icmp .eq 297, 3) := by decide +kernel
theorem dL_law_1154 : decode cL_law 1154 = .ok (.iconst 0, 1) := by decide +kernel
theorem dL_law_1155 : decode cL_law 1155 = .ok (.ireturn, 1) := by decide +kernel
theorem dL_law_1156 : decode cL_law 1156 = .ok (.aload_n 1, 1) := by decide +kernel
theorem dL_law_1157 : decode cL_law 1157 = .ok (.invokevirtual 162, 3) := by decide +kernel
theorem dL_law_1160 : decode cL_law 1160 = .ok (.aload_n 2, 1) := by decide +kernel
theorem dL_law_1161 : decode cL_law 1161 = .ok (.invokevirtual 165, 3) := by decide +kernel
theorem dL_law_1164 : decode cL_law 1164 = .ok (.if_icmp .eq 284, 3) := by decide +kernel
theorem dL_law_1167 : decode cL_law 1167 = .ok (.iconst 0, 1) := by decide +kernel
theorem dL_law_1168 : decode cL_law 1168 = .ok (.ireturn, 1) := by decide +kernel
theorem dL_law_1169 : decode cL_law 1169 = .ok (.aload_n 1, 1) := by decide +kernel
theorem dL_law_1170 : decode cL_law 1170 = .ok (.invokevirtual 166, 3) := by decide +kernel
theorem dL_law_1173 : decode cL_law 1173 = .ok (.aload_n 2, 1) := by decide +kernel
theorem dL_law_1174 : decode cL_law 1174 = .ok (.invokevirtual 169, 3) := by decide +kernel
theorem dL_law_1177 : decode cL_law 1177 = .ok (.if_icmp .eq 271, 3) := by decide +kernel
theorem dL_law_1180 : decode cL_law 1180 = .ok (.iconst 0, 1) := by decide +kernel
theorem dL_law_1181 : decode cL_law 1181 = .ok (.ireturn, 1) := by decide +kernel
theorem dL_law_1182 : decode cL_law 1182 = .ok (.aload_n 1, 1) := by decide +kernel
theorem dL_law_1183 : decode cL_law 1183 = .ok (.invokevirtual 170, 3) := by decide +kernel
theorem dL_law_1186 : decode cL_law 1186 = .ok (.aload_n 2, 1) := by decide +kernel
theorem dL_law_1187 : decode cL_law 1187 = .ok (.invokevirtual 173, 3) := by decide +kernel
theorem dL_law_1190 : decode cL_law 1190 = .ok (.if_icmp .eq 258, 3) := by decide +kernel
theorem dL_law_1193 : decode cL_law 1193 = .ok (.iconst 0, 1) := by decide +kernel
theorem dL_law_1194 : decode cL_law 1194 = .ok (.ireturn, 1) := by decide +kernel
theorem dL_law_1195 : decode cL_law 1195 = .ok (.aload_n 1, 1) := by decide +kernel
theorem dL_law_1196 : decode cL_law 1196 = .ok (.aload_n 0, 1) := by decide +kernel
theorem dL_law_1197 : decode cL_law 1197 = .ok (.iload 4, 2) := by decide +kernel
theorem dL_law_1199 : decode cL_law 1199 = .ok (.iconst 1, 1) := by decide +kernel
theorem dL_law_1200 : decode cL_law 1200 = .ok (.iadd, 1) := by decide +kernel
theorem dL_law_1201 : decode cL_law 1201 = .ok (.iaload, 1) := by decide +kernel
theorem dL_law_1202 : decode cL_law 1202 = .ok (.aload_n 0, 1) := by decide +kernel
theorem dL_law_1203 : decode cL_law 1203 = .ok (.iload 4, 2) := by decide +kernel
theorem dL_law_1205 : decode cL_law 1205 = .ok (.iconst 2, 1) := by decide +kernel
theorem dL_law_1206 : decode cL_law 1206 = .ok (.iadd, 1) := by decide +kernel
theorem dL_law_1207 : decode cL_law 1207 = .ok (.iaload, 1) := by decide +kernel
theorem dL_law_1208 : decode cL_law 1208 = .ok (.invokevirtual 174, 3) := by decide +kernel
theorem dL_law_1211 : decode cL_law 1211 = .ok (.aload_n 2, 1) := by decide +kernel
theorem dL_law_1212 : decode cL_law 1212 = .ok (.aload_n 0, 1) := by decide +kernel
theorem dL_law_1213 : decode cL_law 1213 = .ok (.iload 4, 2) := by decide +kernel
theorem dL_law_1215 : decode cL_law 1215 = .ok (.iconst 1, 1) := by decide +kernel
theorem dL_law_1216 : decode cL_law 1216 = .ok (.iadd, 1) := by decide +kernel
theorem dL_law_1217 : decode cL_law 1217 = .ok (.iaload, 1) := by decide +kernel
theorem dL_law_1218 : decode cL_law 1218 = .ok (.aload_n 0, 1) := by decide +kernel
theorem dL_law_1219 : decode cL_law 1219 = .ok (.iload 4, 2) := by decide +kernel
theorem dL_law_1221 : decode cL_law 1221 = .ok (.iconst 2, 1) := by decide +kernel
theorem dL_law_1222 : decode cL_law 1222 = .ok (.iadd, 1) := by decide +kernel
theorem dL_law_1223 : decode cL_law 1223 = .ok (.iaload, 1) := by decide +kernel
theorem dL_law_1224 : decode cL_law 1224 = .ok (.invokevirtual 177, 3) := by decide +kernel
theorem dL_law_1227 : decode cL_law 1227 = .ok (.if_icmp .eq 221, 3) := by decide +kernel
theorem dL_law_1230 : decode cL_law 1230 = .ok (.iconst 0, 1) := by decide +kernel
theorem dL_law_1231 : decode cL_law 1231 = .ok (.ireturn, 1) := by decide +kernel
theorem dL_law_1232 : decode cL_law 1232 = .ok (.aload_n 1, 1) := by decide +kernel
theorem dL_law_1233 : decode cL_law 1233 = .ok (.aload_n 0, 1) := by decide +kernel
theorem dL_law_1234 : decode cL_law 1234 = .ok (.iload 4, 2) := by decide +kernel
theorem dL_law_1236 : decode cL_law 1236 = .ok (.iconst 1, 1) := by decide +kernel
theorem dL_law_1237 : decode cL_law 1237 = .ok (.iadd, 1) := by decide +kernel
theorem dL_law_1238 : decode cL_law 1238 = .ok (.iaload, 1) := by decide +kernel
theorem dL_law_1239 : decode cL_law 1239 = .ok (.aload_n 0, 1) := by decide +kernel
theorem dL_law_1240 : decode cL_law 1240 = .ok (.iload 4, 2) := by decide +kernel
theorem dL_law_1242 : decode cL_law 1242 = .ok (.iconst 2, 1) := by decide +kernel
theorem dL_law_1243 : decode cL_law 1243 = .ok (.iadd, 1) := by decide +kernel
theorem dL_law_1244 : decode cL_law 1244 = .ok (.iaload, 1) := by decide +kernel
theorem dL_law_1245 : decode cL_law 1245 = .ok (.invokevirtual 178, 3) := by decide +kernel
theorem dL_law_1248 : decode cL_law 1248 = .ok (.aload_n 2, 1) := by decide +kernel
theorem dL_law_1249 : decode cL_law 1249 = .ok (.aload_n 0, 1) := by decide +kernel
theorem dL_law_1250 : decode cL_law 1250 = .ok (.iload 4, 2) := by decide +kernel
theorem dL_law_1252 : decode cL_law 1252 = .ok (.iconst 1, 1) := by decide +kernel
theorem dL_law_1253 : decode cL_law 1253 = .ok (.iadd, 1) := by decide +kernel
theorem dL_law_1254 : decode cL_law 1254 = .ok (.iaload, 1) := by decide +kernel
theorem dL_law_1255 : decode cL_law 1255 = .ok (.aload_n 0, 1) := by decide +kernel
theorem dL_law_1256 : decode cL_law 1256 = .ok (.iload 4, 2) := by decide +kernel
theorem dL_law_1258 : decode cL_law 1258 = .ok (.iconst 2, 1) := by decide +kernel
theorem dL_law_1259 : decode cL_law 1259 = .ok (.iadd, 1) := by decide +kernel
theorem dL_law_1260 : decode cL_law 1260 = .ok (.iaload, 1) := by decide +kernel
theorem dL_law_1261 : decode cL_law 1261 = .ok (.invokevirtual 181, 3) := by decide +kernel
theorem dL_law_1264 : decode cL_law 1264 = .ok (.if_icmp .eq 184, 3) := by decide +kernel
theorem dL_law_1267 : decode cL_law 1267 = .ok (.iconst 0, 1) := by decide +kernel
theorem dL_law_1268 : decode cL_law 1268 = .ok (.ireturn, 1) := by decide +kernel
theorem dL_law_1269 : decode cL_law 1269 = .ok (.aload_n 1, 1) := by decide +kernel
theorem dL_law_1270 : decode cL_law 1270 = .ok (.aload_n 0, 1) := by decide +kernel
theorem dL_law_1271 : decode cL_law 1271 = .ok (.iload 4, 2) := by decide +kernel
theorem dL_law_1273 : decode cL_law 1273 = .ok (.iconst 1, 1) := by decide +kernel
theorem dL_law_1274 : decode cL_law 1274 = .ok (.iadd, 1) := by decide +kernel
theorem dL_law_1275 : decode cL_law 1275 = .ok (.iaload, 1) := by decide +kernel
theorem dL_law_1276 : decode cL_law 1276 = .ok (.aload_n 0, 1) := by decide +kernel
theorem dL_law_1277 : decode cL_law 1277 = .ok (.iload 4, 2) := by decide +kernel
theorem dL_law_1279 : decode cL_law 1279 = .ok (.iconst 2, 1) := by decide +kernel
theorem dL_law_1280 : decode cL_law 1280 = .ok (.iadd, 1) := by decide +kernel
theorem dL_law_1281 : decode cL_law 1281 = .ok (.iaload, 1) := by decide +kernel
theorem dL_law_1282 : decode cL_law 1282 = .ok (.aload_n 0, 1) := by decide +kernel
theorem dL_law_1283 : decode cL_law 1283 = .ok (.iload 4, 2) := by decide +kernel
theorem dL_law_1285 : decode cL_law 1285 = .ok (.iconst 3, 1) := by decide +kernel
theorem dL_law_1286 : decode cL_law 1286 = .ok (.iadd, 1) := by decide +kernel
theorem dL_law_1287 : decode cL_law 1287 = .ok (.iaload, 1) := by decide +kernel
theorem dL_law_1288 : decode cL_law 1288 = .ok (.invokevirtual 182, 3) := by decide +kernel
theorem dL_law_1291 : decode cL_law 1291 = .ok (.aload_n 2, 1) := by decide +kernel
theorem dL_law_1292 : decode cL_law 1292 = .ok (.aload_n 0, 1) := by decide +kernel
theorem dL_law_1293 : decode cL_law 1293 = .ok (.iload 4, 2) := by decide +kernel
theorem dL_law_1295 : decode cL_law 1295 = .ok (.iconst 1, 1) := by decide +kernel
theorem dL_law_1296 : decode cL_law 1296 = .ok (.iadd, 1) := by decide +kernel
theorem dL_law_1297 : decode cL_law 1297 = .ok (.iaload, 1) := by decide +kernel
theorem dL_law_1298 : decode cL_law 1298 = .ok (.aload_n 0, 1) := by decide +kernel
theorem dL_law_1299 : decode cL_law 1299 = .ok (.iload 4, 2) := by decide +kernel
theorem dL_law_1301 : decode cL_law 1301 = .ok (.iconst 2, 1) := by decide +kernel
theorem dL_law_1302 : decode cL_law 1302 = .ok (.iadd, 1) := by decide +kernel
theorem dL_law_1303 : decode cL_law 1303 = .ok (.iaload, 1) := by decide +kernel
theorem dL_law_1304 : decode cL_law 1304 = .ok (.aload_n 0, 1) := by decide +kernel
theorem dL_law_1305 : decode cL_law 1305 = .ok (.iload 4, 2) := by decide +kernel
theorem dL_law_1307 : decode cL_law 1307 = .ok (.iconst 3, 1) := by decide +kernel
theorem dL_law_1308 : decode cL_law 1308 = .ok (.iadd, 1) := by decide +kernel
theorem dL_law_1309 : decode cL_law 1309 = .ok (.iaload, 1) := by decide +kernel
theorem dL_law_1310 : decode cL_law 1310 = .ok (.invokevirtual 186, 3) := by decide +kernel
theorem dL_law_1313 : decode cL_law 1313 = .ok (.if_icmp .eq 135, 3) := by decide +kernel
theorem dL_law_1316 : decode cL_law 1316 = .ok (.iconst 0, 1) := by decide +kernel
theorem dL_law_1317 : decode cL_law 1317 = .ok (.ireturn, 1) := by decide +kernel
theorem dL_law_1318 : decode cL_law 1318 = .ok (.aload_n 1, 1) := by decide +kernel
theorem dL_law_1319 : decode cL_law 1319 = .ok (.aload_n 0, 1) := by decide +kernel
theorem dL_law_1320 : decode cL_law 1320 = .ok (.iload 4, 2) := by decide +kernel
theorem dL_law_1322 : decode cL_law 1322 = .ok (.iconst 1, 1) := by decide +kernel
theorem dL_law_1323 : decode cL_law 1323 = .ok (.iadd, 1) := by decide +kernel
theorem dL_law_1324 : decode cL_law 1324 = .ok (.iaload, 1) := by decide +kernel
theorem dL_law_1325 : decode cL_law 1325 = .ok (.invokevirtual 187, 3) := by decide +kernel
theorem dL_law_1328 : decode cL_law 1328 = .ok (.aload_n 2, 1) := by decide +kernel
theorem dL_law_1329 : decode cL_law 1329 = .ok (.aload_n 0, 1) := by decide +kernel
theorem dL_law_1330 : decode cL_law 1330 = .ok (.iload 4, 2) := by decide +kernel
theorem dL_law_1332 : decode cL_law 1332 = .ok (.iconst 1, 1) := by decide +kernel
theorem dL_law_1333 : decode cL_law 1333 = .ok (.iadd, 1) := by decide +kernel
theorem dL_law_1334 : decode cL_law 1334 = .ok (.iaload, 1) := by decide +kernel
theorem dL_law_1335 : decode cL_law 1335 = .ok (.invokevirtual 190, 3) := by decide +kernel
theorem dL_law_1338 : decode cL_law 1338 = .ok (.if_icmp .eq 110, 3) := by decide +kernel
theorem dL_law_1341 : decode cL_law 1341 = .ok (.iconst 0, 1) := by decide +kernel
theorem dL_law_1342 : decode cL_law 1342 = .ok (.ireturn, 1) := by decide +kernel
theorem dL_law_1343 : decode cL_law 1343 = .ok (.aload_n 1, 1) := by decide +kernel
theorem dL_law_1344 : decode cL_law 1344 = .ok (.aload_n 0, 1) := by decide +kernel
theorem dL_law_1345 : decode cL_law 1345 = .ok (.iload 4, 2) := by decide +kernel
theorem dL_law_1347 : decode cL_law 1347 = .ok (.iconst 1, 1) := by decide +kernel
theorem dL_law_1348 : decode cL_law 1348 = .ok (.iadd, 1) := by decide +kernel
theorem dL_law_1349 : decode cL_law 1349 = .ok (.iaload, 1) := by decide +kernel
theorem dL_law_1350 : decode cL_law 1350 = .ok (.invokevirtual 191, 3) := by decide +kernel
theorem dL_law_1353 : decode cL_law 1353 = .ok (.aload_n 2, 1) := by decide +kernel
theorem dL_law_1354 : decode cL_law 1354 = .ok (.aload_n 0, 1) := by decide +kernel
theorem dL_law_1355 : decode cL_law 1355 = .ok (.iload 4, 2) := by decide +kernel
theorem dL_law_1357 : decode cL_law 1357 = .ok (.iconst 1, 1) := by decide +kernel
theorem dL_law_1358 : decode cL_law 1358 = .ok (.iadd, 1) := by decide +kernel
theorem dL_law_1359 : decode cL_law 1359 = .ok (.iaload, 1) := by decide +kernel
theorem dL_law_1360 : decode cL_law 1360 = .ok (.invokevirtual 194, 3) := by decide +kernel
theorem dL_law_1363 : decode cL_law 1363 = .ok (.if_icmp .eq 85, 3) := by decide +kernel
theorem dL_law_1366 : decode cL_law 1366 = .ok (.iconst 0, 1) := by decide +kernel
theorem dL_law_1367 : decode cL_law 1367 = .ok (.ireturn, 1) := by decide +kernel
theorem dL_law_1368 : decode cL_law 1368 = .ok (.aload_n 1, 1) := by decide +kernel
theorem dL_law_1369 : decode cL_law 1369 = .ok (.aload_n 0, 1) := by decide +kernel
theorem dL_law_1370 : decode cL_law 1370 = .ok (.iload 4, 2) := by decide +kernel
theorem dL_law_1372 : decode cL_law 1372 = .ok (.iconst 1, 1) := by decide +kernel
theorem dL_law_1373 : decode cL_law 1373 = .ok (.iadd, 1) := by decide +kernel
theorem dL_law_1374 : decode cL_law 1374 = .ok (.iaload, 1) := by decide +kernel
theorem dL_law_1375 : decode cL_law 1375 = .ok (.invokevirtual 195, 3) := by decide +kernel
theorem dL_law_1378 : decode cL_law 1378 = .ok (.aload_n 2, 1) := by decide +kernel
theorem dL_law_1379 : decode cL_law 1379 = .ok (.aload_n 0, 1) := by decide +kernel
theorem dL_law_1380 : decode cL_law 1380 = .ok (.iload 4, 2) := by decide +kernel
theorem dL_law_1382 : decode cL_law 1382 = .ok (.iconst 1, 1) := by decide +kernel
theorem dL_law_1383 : decode cL_law 1383 = .ok (.iadd, 1) := by decide +kernel
theorem dL_law_1384 : decode cL_law 1384 = .ok (.iaload, 1) := by decide +kernel
theorem dL_law_1385 : decode cL_law 1385 = .ok (.invokevirtual 198, 3) := by decide +kernel
theorem dL_law_1388 : decode cL_law 1388 = .ok (.if_icmp .eq 60, 3) := by decide +kernel
theorem dL_law_1391 : decode cL_law 1391 = .ok (.iconst 0, 1) := by decide +kernel
theorem dL_law_1392 : decode cL_law 1392 = .ok (.ireturn, 1) := by decide +kernel
theorem dL_law_1393 : decode cL_law 1393 = .ok (.aload_n 1, 1) := by decide +kernel
theorem dL_law_1394 : decode cL_law 1394 = .ok (.aload_n 0, 1) := by decide +kernel
theorem dL_law_1395 : decode cL_law 1395 = .ok (.iload 4, 2) := by decide +kernel
theorem dL_law_1397 : decode cL_law 1397 = .ok (.iconst 1, 1) := by decide +kernel
theorem dL_law_1398 : decode cL_law 1398 = .ok (.iadd, 1) := by decide +kernel
theorem dL_law_1399 : decode cL_law 1399 = .ok (.iaload, 1) := by decide +kernel
theorem dL_law_1400 : decode cL_law 1400 = .ok (.aload_n 3, 1) := by decide +kernel
theorem dL_law_1401 : decode cL_law 1401 = .ok (.invokestatic 199, 3) := by decide +kernel
theorem dL_law_1404 : decode cL_law 1404 = .ok (.istore 5, 2) := by decide +kernel
theorem dL_law_1406 : decode cL_law 1406 = .ok (.aload_n 2, 1) := by decide +kernel
theorem dL_law_1407 : decode cL_law 1407 = .ok (.aload_n 0, 1) := by decide +kernel
theorem dL_law_1408 : decode cL_law 1408 = .ok (.iload 4, 2) := by decide +kernel
theorem dL_law_1410 : decode cL_law 1410 = .ok (.iconst 1, 1) := by decide +kernel
theorem dL_law_1411 : decode cL_law 1411 = .ok (.iadd, 1) := by decide +kernel
theorem dL_law_1412 : decode cL_law 1412 = .ok (.iaload, 1) := by decide +kernel
theorem dL_law_1413 : decode cL_law 1413 = .ok (.invokevirtual 201, 3) := by decide +kernel
theorem dL_law_1416 : decode cL_law 1416 = .ok (.lstore 6, 2) := by decide +kernel
theorem dL_law_1418 : decode cL_law 1418 = .ok (.aload_n 2, 1) := by decide +kernel
theorem dL_law_1419 : decode cL_law 1419 = .ok (.invokevirtual 55, 3) := by decide +kernel
theorem dL_law_1422 : decode cL_law 1422 = .ok (.iload 5, 2) := by decide +kernel
theorem dL_law_1424 : decode cL_law 1424 = .ok (.if_icmp .eq 5, 3) := by decide +kernel
theorem dL_law_1427 : decode cL_law 1427 = .ok (.iconst 0, 1) := by decide +kernel
theorem dL_law_1428 : decode cL_law 1428 = .ok (.ireturn, 1) := by decide +kernel
theorem dL_law_1429 : decode cL_law 1429 = .ok (.iload 5, 2) := by decide +kernel
theorem dL_law_1431 : decode cL_law 1431 = .ok (.ifCond .ne 14, 3) := by decide +kernel
theorem dL_law_1434 : decode cL_law 1434 = .ok (.aload_n 3, 1) := by decide +kernel
theorem dL_law_1435 : decode cL_law 1435 = .ok (.iconst 0, 1) := by decide +kernel
theorem dL_law_1436 : decode cL_law 1436 = .ok (.laload, 1) := by decide +kernel
theorem dL_law_1437 : decode cL_law 1437 = .ok (.lload 6, 2) := by decide +kernel
theorem dL_law_1439 : decode cL_law 1439 = .ok (.lcmp, 1) := by decide +kernel
theorem dL_law_1440 : decode cL_law 1440 = .ok (.ifCond .eq 5, 3) := by decide +kernel
theorem dL_law_1443 : decode cL_law 1443 = .ok (.iconst 0, 1) := by decide +kernel
theorem dL_law_1444 : decode cL_law 1444 = .ok (.ireturn, 1) := by decide +kernel
theorem dL_law_1445 : decode cL_law 1445 = .ok (.goto 3, 3) := by decide +kernel
theorem dL_law_1448 : decode cL_law 1448 = .ok (.iinc 4 5, 3) := by decide +kernel
theorem dL_law_1451 : decode cL_law 1451 = .ok (.goto (-1428), 3) := by decide +kernel
theorem dL_law_1454 : decode cL_law 1454 = .ok (.iconst 1, 1) := by decide +kernel
theorem dL_law_1455 : decode cL_law 1455 = .ok (.ireturn, 1) := by decide +kernel
