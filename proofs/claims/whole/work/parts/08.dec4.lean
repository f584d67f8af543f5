theorem dX8_tryRow_48 : decode cX8_tryRow 48 = .ok (.iaload, 1) := by decide +kernel
theorem dX8_tryRow_49 : decode cX8_tryRow 49 = .ok (.aload_n 0, 1) := by decide +kernel
theorem dX8_tryRow_50 : decode cX8_tryRow 50 = .ok (.getfield 41, 3) := by decide +kernel
theorem dX8_tryRow_53 : decode cX8_tryRow 53 = .ok (.iload_n 2, 1) := by decide +kernel
theorem dX8_tryRow_54 : decode cX8_tryRow 54 = .ok (.iaload, 1) := by decide +kernel
theorem dX8_tryRow_55 : decode cX8_tryRow 55 = .ok (.iadd, 1) := by decide +kernel
theorem dX8_tryRow_56 : decode cX8_tryRow 56 = .ok (.iastore, 1) := by decide +kernel
theorem dX8_tryRow_57 : decode cX8_tryRow 57 = .ok (.aload_n 0, 1) := by decide +kernel
theorem dX8_tryRow_58 : decode cX8_tryRow 58 = .ok (.getfield 44, 3) := by decide +kernel
theorem dX8_tryRow_61 : decode cX8_tryRow 61 = .ok (.aload_n 0, 1) := by decide +kernel
theorem dX8_tryRow_62 : decode cX8_tryRow 62 = .ok (.getfield 57, 3) := by decide +kernel
theorem dX8_tryRow_65 : decode cX8_tryRow 65 = .ok (.iload_n 2, 1) := by decide +kernel
theorem dX8_tryRow_66 : decode cX8_tryRow 66 = .ok (.iaload, 1) := by decide +kernel
theorem dX8_tryRow_67 : decode cX8_tryRow 67 = .ok (.dup2, 1) := by decide +kernel
theorem dX8_tryRow_68 : decode cX8_tryRow 68 = .ok (.iaload, 1) := by decide +kernel
theorem dX8_tryRow_69 : decode cX8_tryRow 69 = .ok (.aload_n 0, 1) := by decide +kernel
theorem dX8_tryRow_70 : decode cX8_tryRow 70 = .ok (.getfield 38, 3) := by decide +kernel
theorem dX8_tryRow_73 : decode cX8_tryRow 73 = .ok (.iload_n 2, 1) := by decide +kernel
theorem dX8_tryRow_74 : decode cX8_tryRow 74 = .ok (.iaload, 1) := by decide +kernel
theorem dX8_tryRow_75 : decode cX8_tryRow 75 = .ok (.iadd, 1) := by decide +kernel
theorem dX8_tryRow_76 : decode cX8_tryRow 76 = .ok (.iastore, 1) := by decide +kernel
theorem dX8_tryRow_77 : decode cX8_tryRow 77 = .ok (.iload_n 1, 1) := by decide +kernel
theorem dX8_tryRow_78 : decode cX8_tryRow 78 = .ok (.ifCond .eq 32, 3) := by decide +kernel
theorem dX8_tryRow_81 : decode cX8_tryRow 81 = .ok (.aload_n 0, 1) := by decide +kernel
theorem dX8_tryRow_82 : decode cX8_tryRow 82 = .ok (.getfield 60, 3) := by decide +kernel
theorem dX8_tryRow_85 : decode cX8_tryRow 85 = .ok (.aload_n 0, 1) := by decide +kernel
theorem dX8_tryRow_86 : decode cX8_tryRow 86 = .ok (.getfield 57, 3) := by decide +kernel
theorem dX8_tryRow_89 : decode cX8_tryRow 89 = .ok (.iload_n 2, 1) := by decide +kernel
theorem dX8_tryRow_90 : decode cX8_tryRow 90 = .ok (.iaload, 1) := by decide +kernel
theorem dX8_tryRow_91 : decode cX8_tryRow 91 = .ok (.iaload, 1) := by decide +kernel
theorem dX8_tryRow_92 : decode cX8_tryRow 92 = .ok (.aload_n 0, 1) := by decide +kernel
theorem dX8_tryRow_93 : decode cX8_tryRow 93 = .ok (.getfield 19, 3) := by decide +kernel
theorem dX8_tryRow_96 : decode cX8_tryRow 96 = .ok (.aload_n 0, 1) := by decide +kernel
theorem dX8_tryRow_97 : decode cX8_tryRow 97 = .ok (.getfield 57, 3) := by decide +kernel
theorem dX8_tryRow_100 : decode cX8_tryRow 100 = .ok (.iload_n 2, 1) := by decide +kernel
theorem dX8_tryRow_101 : decode cX8_tryRow 101 = .ok (.iaload, 1) := by decide +kernel
theorem dX8_tryRow_102 : decode cX8_tryRow 102 = .ok (.iaload, 1) := by decide +kernel
theorem dX8_tryRow_103 : decode cX8_tryRow 103 = .ok (.if_icmp .gt 7, 3) := by decide +kernel
theorem dX8_tryRow_106 : decode cX8_tryRow 106 = .ok (.iconst 1, 1) := by decide +kernel
theorem dX8_tryRow_107 : decode cX8_tryRow 107 = .ok (.goto 4, 3) := by decide +kernel
theorem dX8_tryRow_110 : decode cX8_tryRow 110 = .ok (.iconst 0, 1) := by decide +kernel
theorem dX8_tryRow_111 : decode cX8_tryRow 111 = .ok (.istore_n 1, 1) := by decide +kernel
theorem dX8_tryRow_112 : decode cX8_tryRow 112 = .ok (.iinc 2 1, 3) := by decide +kernel
theorem dX8_tryRow_115 : decode cX8_tryRow 115 = .ok (.goto (-86), 3) := by decide +kernel
theorem dX8_tryRow_118 : decode cX8_tryRow 118 = .ok (.iload_n 1, 1) := by decide +kernel
theorem dX8_tryRow_119 : decode cX8_tryRow 119 = .ok (.ifCond .ne 4, 3) := by decide +kernel
theorem dX8_tryRow_122 : decode cX8_tryRow 122 = .ok (.return_, 1) := by decide +kernel
theorem dX8_tryRow_123 : decode cX8_tryRow 123 = .ok (.aload_n 0, 1) := by decide +kernel
theorem dX8_tryRow_124 : decode cX8_tryRow 124 = .ok (.dup, 1) := by decide +kernel
theorem dX8_tryRow_125 : decode cX8_tryRow 125 = .ok (.getfield 152, 3) := by decide +kernel
theorem dX8_tryRow_128 : decode cX8_tryRow 128 = .ok (.iconst 1, 1) := by decide +kernel
theorem dX8_tryRow_129 : decode cX8_tryRow 129 = .ok (.iadd, 1) := by decide +kernel
theorem dX8_tryRow_130 : decode cX8_tryRow 130 = .ok (.putfield 152, 3) := by decide +kernel
theorem dX8_tryRow_133 : decode cX8_tryRow 133 = .ok (.bipush (-4), 2) := by decide +kernel
theorem dX8_tryRow_135 : decode cX8_tryRow 135 = .ok (.istore_n 2, 1) := by decide +kernel
theorem dX8_tryRow_136 : decode cX8_tryRow 136 = .ok (.iconst 0, 1) := by decide +kernel
theorem dX8_tryRow_137 : decode cX8_tryRow 137 = .ok (.istore_n 3, 1) := by decide +kernel
theorem dX8_tryRow_138 : decode cX8_tryRow 138 = .ok (.iload_n 3, 1) := by decide +kernel
theorem dX8_tryRow_139 : decode cX8_tryRow 139 = .ok (.aload_n 0, 1) := by decide +kernel
theorem dX8_tryRow_140 : decode cX8_tryRow 140 = .ok (.getfield 112, 3) := by decide +kernel
theorem dX8_tryRow_143 : decode cX8_tryRow 143 = .ok (.if_icmp .ge 37, 3) := by decide +kernel
theorem dX8_tryRow_146 : decode cX8_tryRow 146 = .ok (.aload_n 0, 1) := by decide +kernel
theorem dX8_tryRow_147 : decode cX8_tryRow 147 = .ok (.iload_n 3, 1) := by decide +kernel
theorem dX8_tryRow_148 : decode cX8_tryRow 148 = .ok (.aload_n 0, 1) := by decide +kernel
theorem dX8_tryRow_149 : decode cX8_tryRow 149 = .ok (.getfield 25, 3) := by decide +kernel
theorem dX8_tryRow_152 : decode cX8_tryRow 152 = .ok (.aload_n 0, 1) := by decide +kernel
theorem dX8_tryRow_153 : decode cX8_tryRow 153 = .ok (.getfield 29, 3) := by decide +kernel
theorem dX8_tryRow_156 : decode cX8_tryRow 156 = .ok (.invokevirtual 136, 3) := by decide +kernel
theorem dX8_tryRow_159 : decode cX8_tryRow 159 = .ok (.istore 4, 2) := by decide +kernel
theorem dX8_tryRow_161 : decode cX8_tryRow 161 = .ok (.iload 4, 2) := by decide +kernel
theorem dX8_tryRow_163 : decode cX8_tryRow 163 = .ok (.iload_n 2, 1) := by decide +kernel
theorem dX8_tryRow_164 : decode cX8_tryRow 164 = .ok (.if_icmp .le 8, 3) := by decide +kernel
theorem dX8_tryRow_167 : decode cX8_tryRow 167 = .ok (.iload 4, 2) := by decide +kernel
theorem dX8_tryRow_169 : decode cX8_tryRow 169 = .ok (.goto 4, 3) := by decide +kernel
theorem dX8_tryRow_172 : decode cX8_tryRow 172 = .ok (.iload_n 2, 1) := by decide +kernel
theorem dX8_tryRow_173 : decode cX8_tryRow 173 = .ok (.istore_n 2, 1) := by decide +kernel
theorem dX8_tryRow_174 : decode cX8_tryRow 174 = .ok (.iinc 3 1, 3) := by decide +kernel
theorem dX8_tryRow_177 : decode cX8_tryRow 177 = .ok (.goto (-39), 3) := by decide +kernel
theorem dX8_tryRow_180 : decode cX8_tryRow 180 = .ok (.aload_n 0, 1) := by decide +kernel
theorem dX8_tryRow_181 : decode cX8_tryRow 181 = .ok (.getfield 155, 3) := by decide +kernel
theorem dX8_tryRow_184 : decode cX8_tryRow 184 = .ok (.bipush (-4), 2) := by decide +kernel
theorem dX8_tryRow_186 : decode cX8_tryRow 186 = .ok (.if_icmp .eq 11, 3) := by decide +kernel
theorem dX8_tryRow_189 : decode cX8_tryRow 189 = .ok (.iload_n 2, 1) := by decide +kernel
theorem dX8_tryRow_190 : decode cX8_tryRow 190 = .ok (.aload_n 0, 1) := by decide +kernel
theorem dX8_tryRow_191 : decode cX8_tryRow 191 = .ok (.getfield 155, 3) := by decide +kernel
theorem dX8_tryRow_194 : decode cX8_tryRow 194 = .ok (.if_icmp .ge 36, 3) := by decide +kernel
theorem dX8_tryRow_197 : decode cX8_tryRow 197 = .ok (.aload_n 0, 1) := by decide +kernel
theorem dX8_tryRow_198 : decode cX8_tryRow 198 = .ok (.iload_n 2, 1) := by decide +kernel
theorem dX8_tryRow_199 : decode cX8_tryRow 199 = .ok (.putfield 155, 3) := by decide +kernel
theorem dX8_tryRow_202 : decode cX8_tryRow 202 = .ok (.iconst 0, 1) := by decide +kernel
theorem dX8_tryRow_203 : decode cX8_tryRow 203 = .ok (.istore_n 3, 1) := by decide +kernel
theorem dX8_tryRow_204 : decode cX8_tryRow 204 = .ok (.iload_n 3, 1) := by decide +kernel
theorem dX8_tryRow_205 : decode cX8_tryRow 205 = .ok (.aload_n 0, 1) := by decide +kernel
theorem dX8_tryRow_206 : decode cX8_tryRow 206 = .ok (.getfield 149, 3) := by decide +kernel
theorem dX8_tryRow_209 : decode cX8_tryRow 209 = .ok (.if_icmp .ge 21, 3) := by decide +kernel
theorem dX8_tryRow_212 : decode cX8_tryRow 212 = .ok (.aload_n 0, 1) := by decide +kernel
theorem dX8_tryRow_213 : decode cX8_tryRow 213 = .ok (.getfield 63, 3) := by decide +kernel
theorem dX8_tryRow_216 : decode cX8_tryRow 216 = .ok (.iload_n 3, 1) := by decide +kernel
theorem dX8_tryRow_217 : decode cX8_tryRow 217 = .ok (.aload_n 0, 1) := by decide +kernel
theorem dX8_tryRow_218 : decode cX8_tryRow 218 = .ok (.getfield 57, 3) := by decide +kernel
theorem dX8_tryRow_221 : decode cX8_tryRow 221 = .ok (.iload_n 3, 1) := by decide +kernel
theorem dX8_tryRow_222 : decode cX8_tryRow 222 = .ok (.iaload, 1) := by decide +kernel
theorem dX8_tryRow_223 : decode cX8_tryRow 223 = .ok (.iastore, 1) := by decide +kernel
theorem dX8_tryRow_224 : decode cX8_tryRow 224 = .ok (.iinc 3 1, 3) := by decide +kernel
theorem dX8_tryRow_227 : decode cX8_tryRow 227 = .ok (.goto (-23), 3) := by decide +kernel
theorem dX8_tryRow_230 : decode cX8_tryRow 230 = .ok (.return_, 1) := by decide +kernel
theorem dX8_placed_0 : decode cX8_placed 0 = .ok (.iload_n 1, 1) := by decide +kernel
theorem dX8_placed_1 : decode cX8_placed 1 = .ok (.i2l, 1) := by decide +kernel
theorem dX8_placed_2 : decode cX8_placed 2 = .ok (.lconst 0, 1) := by decide +kernel
theorem dX8_placed_3 : decode cX8_placed 3 = .ok (.aload_n 0, 1) := by decide +kernel
theorem dX8_placed_4 : decode cX8_placed 4 = .ok (.getfield 149, 3) := by decide +kernel
theorem dX8_placed_7 : decode cX8_placed 7 = .ok (.iconst 1, 1) := by decide +kernel
theorem dX8_placed_8 : decode cX8_placed 8 = .ok (.isub, 1) := by decide +kernel
theorem dX8_placed_9 : decode cX8_placed 9 = .ok (.i2l, 1) := by decide +kernel
theorem dX8_placed_10 : decode cX8_placed 10 = .ok (.invokestatic 102, 3) := by decide +kernel
theorem dX8_placed_13 : decode cX8_placed 13 = .ok (.ifCond .ne 5, 3) := by decide +kernel
theorem dX8_placed_16 : decode cX8_placed 16 = .ok (.iconst (-1), 1) := by decide +kernel
theorem dX8_placed_17 : decode cX8_placed 17 = .ok (.ireturn, 1) := by decide +kernel
theorem dX8_placed_18 : decode cX8_placed 18 = .ok (.aload_n 0, 1) := by decide +kernel
theorem dX8_placed_19 : decode cX8_placed 19 = .ok (.invokevirtual 161, 3) := by decide +kernel
theorem dX8_placed_22 : decode cX8_placed 22 = .ok (.aload_n 0, 1) := by decide +kernel
theorem dX8_placed_23 : decode cX8_placed 23 = .ok (.getfield 152, 3) := by decide +kernel
theorem dX8_placed_26 : decode cX8_placed 26 = .ok (.ifCond .ne 8, 3) := by decide +kernel
theorem dX8_placed_29 : decode cX8_placed 29 = .ok (.bipush (-4), 2) := by decide +kernel
theorem dX8_placed_31 : decode cX8_placed 31 = .ok (.goto 9, 3) := by decide +kernel
theorem dX8_placed_34 : decode cX8_placed 34 = .ok (.aload_n 0, 1) := by decide +kernel
theorem dX8_placed_35 : decode cX8_placed 35 = .ok (.getfield 63, 3) := by decide +kernel
theorem dX8_placed_38 : decode cX8_placed 38 = .ok (.iload_n 1, 1) := by decide +kernel
theorem dX8_placed_39 : decode cX8_placed 39 = .ok (.iaload, 1) := by decide +kernel
theorem dX8_placed_40 : decode cX8_placed 40 = .ok (.ireturn, 1) := by decide +kernel
theorem dX8_warmest_0 : decode cX8_warmest 0 = .ok (.aload_n 0, 1) := by decide +kernel
theorem dX8_warmest_1 : decode cX8_warmest 1 = .ok (.invokevirtual 161, 3) := by decide +kernel
theorem dX8_warmest_4 : decode cX8_warmest 4 = .ok (.aload_n 0, 1) := by decide +kernel
theorem dX8_warmest_5 : decode cX8_warmest 5 = .ok (.getfield 155, 3) := by decide +kernel
theorem dX8_warmest_8 : decode cX8_warmest 8 = .ok (.ireturn, 1) := by decide +kernel
theorem dX8_placings_0 : decode cX8_placings 0 = .ok (.aload_n 0, 1) := by decide +kernel
theorem dX8_placings_1 : decode cX8_placings 1 = .ok (.invokevirtual 161, 3) := by decide +kernel
theorem dX8_placings_4 : decode cX8_placings 4 = .ok (.aload_n 0, 1) := by decide +kernel
theorem dX8_placings_5 : decode cX8_placings 5 = .ok (.getfield 152, 3) := by decide +kernel
theorem dX8_placings_8 : decode cX8_placings 8 = .ok (.ireturn, 1) := by decide +kernel
theorem dX8_feed_0 : decode cX8_feed 0 = .ok (.iload_n 1, 1) := by decide +kernel
theorem dX8_feed_1 : decode cX8_feed 1 = .ok (.bipush (-4), 2) := by decide +kernel
theorem dX8_feed_3 : decode cX8_feed 3 = .ok (.if_icmp .eq 19, 3) := by decide +kernel
theorem dX8_feed_6 : decode cX8_feed 6 = .ok (.iload_n 1, 1) := by decide +kernel
theorem dX8_feed_7 : decode cX8_feed 7 = .ok (.i2l, 1) := by decide +kernel
theorem dX8_feed_8 : decode cX8_feed 8 = .ok (.lconst 0, 1) := by decide +kernel
theorem dX8_feed_9 : decode cX8_feed 9 = .ok (.aload_n 0, 1) := by decide +kernel
theorem dX8_feed_10 : decode cX8_feed 10 = .ok (.getfield 164, 3) := by decide +kernel
theorem dX8_feed_13 : decode cX8_feed 13 = .ok (.iconst 1, 1) := by decide +kernel
theorem dX8_feed_14 : decode cX8_feed 14 = .ok (.isub, 1) := by decide +kernel
theorem dX8_feed_15 : decode cX8_feed 15 = .ok (.i2l, 1) := by decide +kernel
theorem dX8_feed_16 : decode cX8_feed 16 = .ok (.invokestatic 102, 3) := by decide +kernel
theorem dX8_feed_19 : decode cX8_feed 19 = .ok (.ifCond .eq 15, 3) := by decide +kernel
theorem dX8_feed_22 : decode cX8_feed 22 = .ok (.iload_n 2, 1) := by decide +kernel
theorem dX8_feed_23 : decode cX8_feed 23 = .ok (.i2l, 1) := by decide +kernel
theorem dX8_feed_24 : decode cX8_feed 24 = .ok (.lconst 0, 1) := by decide +kernel
theorem dX8_feed_25 : decode cX8_feed 25 = .ok (.ldc2_w 106, 3) := by decide +kernel
theorem dX8_feed_28 : decode cX8_feed 28 = .ok (.invokestatic 102, 3) := by decide +kernel
theorem dX8_feed_31 : decode cX8_feed 31 = .ok (.ifCond .ne 5, 3) := by decide +kernel
theorem dX8_feed_34 : decode cX8_feed 34 = .ok (.iconst (-1), 1) := by decide +kernel
theorem dX8_feed_35 : decode cX8_feed 35 = .ok (.ireturn, 1) := by decide +kernel
theorem dX8_feed_36 : decode cX8_feed 36 = .ok (.aload_n 0, 1) := by decide +kernel
theorem dX8_feed_37 : decode cX8_feed 37 = .ok (.getfield 164, 3) := by decide +kernel
theorem dX8_feed_40 : decode cX8_feed 40 = .ok (.bipush 16, 2) := by decide +kernel
theorem dX8_feed_42 : decode cX8_feed 42 = .ok (.if_icmp .ne 6, 3) := by decide +kernel
theorem dX8_feed_45 : decode cX8_feed 45 = .ok (.bipush (-3), 2) := by decide +kernel
theorem dX8_feed_47 : decode cX8_feed 47 = .ok (.ireturn, 1) := by decide +kernel
theorem dX8_feed_48 : decode cX8_feed 48 = .ok (.aload_n 0, 1) := by decide +kernel
theorem dX8_feed_49 : decode cX8_feed 49 = .ok (.getfield 66, 3) := by decide +kernel
theorem dX8_feed_52 : decode cX8_feed 52 = .ok (.aload_n 0, 1) := by decide +kernel
theorem dX8_feed_53 : decode cX8_feed 53 = .ok (.getfield 164, 3) := by decide +kernel
theorem dX8_feed_56 : decode cX8_feed 56 = .ok (.iload_n 1, 1) := by decide +kernel
theorem dX8_feed_57 : decode cX8_feed 57 = .ok (.iastore, 1) := by decide +kernel
theorem dX8_feed_58 : decode cX8_feed 58 = .ok (.aload_n 0, 1) := by decide +kernel
theorem dX8_feed_59 : decode cX8_feed 59 = .ok (.getfield 69, 3) := by decide +kernel
theorem dX8_feed_62 : decode cX8_feed 62 = .ok (.aload_n 0, 1) := by decide +kernel
theorem dX8_feed_63 : decode cX8_feed 63 = .ok (.getfield 164, 3) := by decide +kernel
theorem dX8_feed_66 : decode cX8_feed 66 = .ok (.iload_n 2, 1) := by decide +kernel
theorem dX8_feed_67 : decode cX8_feed 67 = .ok (.iastore, 1) := by decide +kernel
theorem dX8_feed_68 : decode cX8_feed 68 = .ok (.aload_n 0, 1) := by decide +kernel
theorem dX8_feed_69 : decode cX8_feed 69 = .ok (.dup, 1) := by decide +kernel
theorem dX8_feed_70 : decode cX8_feed 70 = .ok (.getfield 164, 3) := by decide +kernel
theorem dX8_feed_73 : decode cX8_feed 73 = .ok (.iconst 1, 1) := by decide +kernel
theorem dX8_feed_74 : decode cX8_feed 74 = .ok (.iadd, 1) := by decide +kernel
theorem dX8_feed_75 : decode cX8_feed 75 = .ok (.putfield 164, 3) := by decide +kernel
theorem dX8_feed_78 : decode cX8_feed 78 = .ok (.aload_n 0, 1) := by decide +kernel
theorem dX8_feed_79 : decode cX8_feed 79 = .ok (.getfield 164, 3) := by decide +kernel
theorem dX8_feed_82 : decode cX8_feed 82 = .ok (.iconst 1, 1) := by decide +kernel
theorem dX8_feed_83 : decode cX8_feed 83 = .ok (.isub, 1) := by decide +kernel
theorem dX8_feed_84 : decode cX8_feed 84 = .ok (.ireturn, 1) := by decide +kernel
theorem dX8_isFeed_0 : decode cX8_isFeed 0 = .ok (.iload_n 1, 1) := by decide +kernel
theorem dX8_isFeed_1 : decode cX8_isFeed 1 = .ok (.i2l, 1) := by decide +kernel
theorem dX8_isFeed_2 : decode cX8_isFeed 2 = .ok (.lconst 0, 1) := by decide +kernel
theorem dX8_isFeed_3 : decode cX8_isFeed 3 = .ok (.aload_n 0, 1) := by decide +kernel
theorem dX8_isFeed_4 : decode cX8_isFeed 4 = .ok (.getfield 164, 3) := by decide +kernel
theorem dX8_isFeed_7 : decode cX8_isFeed 7 = .ok (.iconst 1, 1) := by decide +kernel
theorem dX8_isFeed_8 : decode cX8_isFeed 8 = .ok (.isub, 1) := by decide +kernel
theorem dX8_isFeed_9 : decode cX8_isFeed 9 = .ok (.i2l, 1) := by decide +kernel
theorem dX8_isFeed_10 : decode cX8_isFeed 10 = .ok (.invokestatic 102, 3) := by decide +kernel
theorem dX8_isFeed_13 : decode cX8_isFeed 13 = .ok (.ireturn, 1) := by decide +kernel
theorem dX8_plug_0 : decode cX8_plug 0 = .ok (.aload_n 0, 1) := by decide +kernel
theorem dX8_plug_1 : decode cX8_plug 1 = .ok (.iload_n 1, 1) := by decide +kernel
theorem dX8_plug_2 : decode cX8_plug 2 = .ok (.invokevirtual 115, 3) := by decide +kernel
theorem dX8_plug_5 : decode cX8_plug 5 = .ok (.ifCond .eq 27, 3) := by decide +kernel
theorem dX8_plug_8 : decode cX8_plug 8 = .ok (.iload_n 2, 1) := by decide +kernel
theorem dX8_plug_9 : decode cX8_plug 9 = .ok (.i2l, 1) := by decide +kernel
theorem dX8_plug_10 : decode cX8_plug 10 = .ok (.lconst 0, 1) := by decide +kernel
theorem dX8_plug_11 : decode cX8_plug 11 = .ok (.lconst 1, 1) := by decide +kernel
theorem dX8_plug_12 : decode cX8_plug 12 = .ok (.invokestatic 102, 3) := by decide +kernel
theorem dX8_plug_15 : decode cX8_plug 15 = .ok (.ifCond .eq 17, 3) := by decide +kernel
theorem dX8_plug_18 : decode cX8_plug 18 = .ok (.iload_n 3, 1) := by decide +kernel
theorem dX8_plug_19 : decode cX8_plug 19 = .ok (.bipush (-4), 2) := by decide +kernel
theorem dX8_plug_21 : decode cX8_plug 21 = .ok (.if_icmp .eq 13, 3) := by decide +kernel
theorem dX8_plug_24 : decode cX8_plug 24 = .ok (.aload_n 0, 1) := by decide +kernel
theorem dX8_plug_25 : decode cX8_plug 25 = .ok (.iload_n 3, 1) := by decide +kernel
theorem dX8_plug_26 : decode cX8_plug 26 = .ok (.invokevirtual 167, 3) := by decide +kernel
theorem dX8_plug_29 : decode cX8_plug 29 = .ok (.ifCond .ne 5, 3) := by decide +kernel
theorem dX8_plug_32 : decode cX8_plug 32 = .ok (.iconst (-1), 1) := by decide +kernel
theorem dX8_plug_33 : decode cX8_plug 33 = .ok (.ireturn, 1) := by decide +kernel
theorem dX8_plug_34 : decode cX8_plug 34 = .ok (.iload_n 3, 1) := by decide +kernel
theorem dX8_plug_35 : decode cX8_plug 35 = .ok (.bipush (-4), 2) := by decide +kernel
theorem dX8_plug_37 : decode cX8_plug 37 = .ok (.if_icmp .eq 22, 3) := by decide +kernel
theorem dX8_plug_40 : decode cX8_plug 40 = .ok (.aload_n 0, 1) := by decide +kernel
theorem dX8_plug_41 : decode cX8_plug 41 = .ok (.getfield 76, 3) := by decide +kernel
theorem dX8_plug_44 : decode cX8_plug 44 = .ok (.iconst 2, 1) := by decide +kernel
theorem dX8_plug_45 : decode cX8_plug 45 = .ok (.iload_n 1, 1) := by decide +kernel
theorem dX8_plug_46 : decode cX8_plug 46 = .ok (.imul, 1) := by decide +kernel
theorem dX8_plug_47 : decode cX8_plug 47 = .ok (.iconst 1, 1) := by decide +kernel
theorem dX8_plug_48 : decode cX8_plug 48 = .ok (.iadd, 1) := by decide +kernel
theorem dX8_plug_49 : decode cX8_plug 49 = .ok (.iload_n 2, 1) := by decide +kernel
theorem dX8_plug_50 : decode cX8_plug 50 = .ok (.isub, 1) := by decide +kernel
theorem dX8_plug_51 : decode cX8_plug 51 = .ok (.iaload, 1) := by decide +kernel
theorem dX8_plug_52 : decode cX8_plug 52 = .ok (.iload_n 3, 1) := by decide +kernel
theorem dX8_plug_53 : decode cX8_plug 53 = .ok (.if_icmp .ne 6, 3) := by decide +kernel
theorem dX8_plug_56 : decode cX8_plug 56 = .ok (.bipush (-2), 2) := by decide +kernel
theorem dX8_plug_58 : decode cX8_plug 58 = .ok (.ireturn, 1) := by decide +kernel
theorem dX8_plug_59 : decode cX8_plug 59 = .ok (.aload_n 0, 1) := by decide +kernel
theorem dX8_plug_60 : decode cX8_plug 60 = .ok (.getfield 76, 3) := by decide +kernel
theorem dX8_plug_63 : decode cX8_plug 63 = .ok (.iconst 2, 1) := by decide +kernel
theorem dX8_plug_64 : decode cX8_plug 64 = .ok (.iload_n 1, 1) := by decide +kernel
theorem dX8_plug_65 : decode cX8_plug 65 = .ok (.imul, 1) := by decide +kernel
theorem dX8_plug_66 : decode cX8_plug 66 = .ok (.iload_n 2, 1) := by decide +kernel
theorem dX8_plug_67 : decode cX8_plug 67 = .ok (.iadd, 1) := by decide +kernel
theorem dX8_plug_68 : decode cX8_plug 68 = .ok (.iaload, 1) := by decide +kernel
theorem dX8_plug_69 : decode cX8_plug 69 = .ok (.istore 4, 2) := by decide +kernel
theorem dX8_plug_71 : decode cX8_plug 71 = .ok (.aload_n 0, 1) := by decide +kernel
theorem dX8_plug_72 : decode cX8_plug 72 = .ok (.getfield 76, 3) := by decide +kernel
theorem dX8_plug_75 : decode cX8_plug 75 = .ok (.iconst 2, 1) := by decide +kernel
theorem dX8_plug_76 : decode cX8_plug 76 = .ok (.iload_n 1, 1) := by decide +kernel
theorem dX8_plug_77 : decode cX8_plug 77 = .ok (.imul, 1) := by decide +kernel
theorem dX8_plug_78 : decode cX8_plug 78 = .ok (.iload_n 2, 1) := by decide +kernel
theorem dX8_plug_79 : decode cX8_plug 79 = .ok (.iadd, 1) := by decide +kernel
theorem dX8_plug_80 : decode cX8_plug 80 = .ok (.iload_n 3, 1) := by decide +kernel
theorem dX8_plug_81 : decode cX8_plug 81 = .ok (.iastore, 1) := by decide +kernel
theorem dX8_plug_82 : decode cX8_plug 82 = .ok (.iload 4, 2) := by decide +kernel
theorem dX8_plug_84 : decode cX8_plug 84 = .ok (.ireturn, 1) := by decide +kernel
theorem dX8_fail_0 : decode cX8_fail 0 = .ok (.aload_n 0, 1) := by decide +kernel
theorem dX8_fail_1 : decode cX8_fail 1 = .ok (.iload_n 1, 1) := by decide +kernel
theorem dX8_fail_2 : decode cX8_fail 2 = .ok (.invokevirtual 167, 3) := by decide +kernel
theorem dX8_fail_5 : decode cX8_fail 5 = .ok (.ifCond .ne 5, 3) := by decide +kernel
theorem dX8_fail_8 : decode cX8_fail 8 = .ok (.iconst (-1), 1) := by decide +kernel
theorem dX8_fail_9 : decode cX8_fail 9 = .ok (.ireturn, 1) := by decide +kernel
theorem dX8_fail_10 : decode cX8_fail 10 = .ok (.aload_n 0, 1) := by decide +kernel
theorem dX8_fail_11 : decode cX8_fail 11 = .ok (.getfield 72, 3) := by decide +kernel
theorem dX8_fail_14 : decode cX8_fail 14 = .ok (.iload_n 1, 1) := by decide +kernel
theorem dX8_fail_15 : decode cX8_fail 15 = .ok (.baload, 1) := by decide +kernel
theorem dX8_fail_16 : decode cX8_fail 16 = .ok (.ifCond .eq 7, 3) := by decide +kernel
theorem dX8_fail_19 : decode cX8_fail 19 = .ok (.iconst 1, 1) := by decide +kernel
theorem dX8_fail_20 : decode cX8_fail 20 = .ok (.goto 4, 3) := by decide +kernel
theorem dX8_fail_23 : decode cX8_fail 23 = .ok (.iconst 0, 1) := by decide +kernel
theorem dX8_fail_24 : decode cX8_fail 24 = .ok (.istore_n 3, 1) := by decide +kernel
theorem dX8_fail_25 : decode cX8_fail 25 = .ok (.aload_n 0, 1) := by decide +kernel
theorem dX8_fail_26 : decode cX8_fail 26 = .ok (.getfield 72, 3) := by decide +kernel
theorem dX8_fail_29 : decode cX8_fail 29 = .ok (.iload_n 1, 1) := by decide +kernel
theorem dX8_fail_30 : decode cX8_fail 30 = .ok (.iload_n 2, 1) := by decide +kernel
theorem dX8_fail_31 : decode cX8_fail 31 = .ok (.bastore, 1) := by decide +kernel
theorem dX8_fail_32 : decode cX8_fail 32 = .ok (.iload_n 3, 1) := by decide +kernel
theorem dX8_fail_33 : decode cX8_fail 33 = .ok (.ireturn, 1) := by decide +kernel
theorem dX8_isDead_0 : decode cX8_isDead 0 = .ok (.iconst 0, 1) := by decide +kernel
theorem dX8_isDead_1 : decode cX8_isDead 1 = .ok (.istore_n 2, 1) := by decide +kernel
theorem dX8_isDead_2 : decode cX8_isDead 2 = .ok (.iload_n 1, 1) := by decide +kernel
theorem dX8_isDead_3 : decode cX8_isDead 3 = .ok (.istore_n 3, 1) := by decide +kernel
theorem dX8_isDead_4 : decode cX8_isDead 4 = .ok (.iload_n 3, 1) := by decide +kernel
theorem dX8_isDead_5 : decode cX8_isDead 5 = .ok (.bipush (-4), 2) := by decide +kernel
theorem dX8_isDead_7 : decode cX8_isDead 7 = .ok (.if_icmp .eq 40, 3) := by decide +kernel
theorem dX8_isDead_10 : decode cX8_isDead 10 = .ok (.iload_n 2, 1) := by decide +kernel
theorem dX8_isDead_11 : decode cX8_isDead 11 = .ok (.ifCond .ne 20, 3) := by decide +kernel
theorem dX8_isDead_14 : decode cX8_isDead 14 = .ok (.aload_n 0, 1) := by decide +kernel
theorem dX8_isDead_15 : decode cX8_isDead 15 = .ok (.getfield 72, 3) := by decide +kernel
theorem dX8_isDead_18 : decode cX8_isDead 18 = .ok (.iload_n 3, 1) := by decide +kernel
theorem dX8_isDead_19 : decode cX8_isDead 19 = .ok (.baload, 1) := by decide +kernel
theorem dX8_isDead_20 : decode cX8_isDead 20 = .ok (.ifCond .ne 11, 3) := by decide +kernel
theorem dX8_isDead_23 : decode cX8_isDead 23 = .ok (.iload_n 3, 1) := by decide +kernel
theorem dX8_isDead_24 : decode cX8_isDead 24 = .ok (.aload_n 0, 1) := by decide +kernel
theorem dX8_isDead_25 : decode cX8_isDead 25 = .ok (.getfield 79, 3) := by decide +kernel
theorem dX8_isDead_28 : decode cX8_isDead 28 = .ok (.if_icmp .ne 7, 3) := by decide +kernel
theorem dX8_isDead_31 : decode cX8_isDead 31 = .ok (.iconst 1, 1) := by decide +kernel
theorem dX8_isDead_32 : decode cX8_isDead 32 = .ok (.goto 4, 3) := by decide +kernel
theorem dX8_isDead_35 : decode cX8_isDead 35 = .ok (.iconst 0, 1) := by decide +kernel
theorem dX8_isDead_36 : decode cX8_isDead 36 = .ok (.istore_n 2, 1) := by decide +kernel
theorem dX8_isDead_37 : decode cX8_isDead 37 = .ok (.aload_n 0, 1) := by decide +kernel
theorem dX8_isDead_38 : decode cX8_isDead 38 = .ok (.getfield 66, 3) := by decide +kernel
theorem dX8_isDead_41 : decode cX8_isDead 41 = .ok (.iload_n 3, 1) := by decide +kernel
theorem dX8_isDead_42 : decode cX8_isDead 42 = .ok (.iaload, 1) := by decide +kernel
theorem dX8_isDead_43 : decode cX8_isDead 43 = .ok (.istore_n 3, 1) := by decide +kernel
theorem dX8_isDead_44 : decode cX8_isDead 44 = .ok (.goto (-40), 3) := by decide +kernel
theorem dX8_isDead_47 : decode cX8_isDead 47 = .ok (.iload_n 2, 1) := by decide +kernel
theorem dX8_isDead_48 : decode cX8_isDead 48 = .ok (.ireturn, 1) := by decide +kernel
theorem dX8_lives_0 : decode cX8_lives 0 = .ok (.aload_n 0, 1) := by decide +kernel
theorem dX8_lives_1 : decode cX8_lives 1 = .ok (.getfield 76, 3) := by decide +kernel
theorem dX8_lives_4 : decode cX8_lives 4 = .ok (.iconst 2, 1) := by decide +kernel
theorem dX8_lives_5 : decode cX8_lives 5 = .ok (.iload_n 1, 1) := by decide +kernel
theorem dX8_lives_6 : decode cX8_lives 6 = .ok (.imul, 1) := by decide +kernel
theorem dX8_lives_7 : decode cX8_lives 7 = .ok (.iload_n 2, 1) := by decide +kernel
theorem dX8_lives_8 : decode cX8_lives 8 = .ok (.iadd, 1) := by decide +kernel
theorem dX8_lives_9 : decode cX8_lives 9 = .ok (.iaload, 1) := by decide +kernel
theorem dX8_lives_10 : decode cX8_lives 10 = .ok (.istore_n 3, 1) := by decide +kernel
theorem dX8_lives_11 : decode cX8_lives 11 = .ok (.iload_n 3, 1) := by decide +kernel
theorem dX8_lives_12 : decode cX8_lives 12 = .ok (.bipush (-4), 2) := by decide +kernel
theorem dX8_lives_14 : decode cX8_lives 14 = .ok (.if_icmp .eq 15, 3) := by decide +kernel
theorem dX8_lives_17 : decode cX8_lives 17 = .ok (.aload_n 0, 1) := by decide +kernel
theorem dX8_lives_18 : decode cX8_lives 18 = .ok (.iload_n 3, 1) := by decide +kernel
theorem dX8_lives_19 : decode cX8_lives 19 = .ok (.invokevirtual 170, 3) := by decide +kernel
theorem dX8_lives_22 : decode cX8_lives 22 = .ok (.ifCond .ne 7, 3) := by decide +kernel
theorem dX8_lives_25 : decode cX8_lives 25 = .ok (.iconst 1, 1) := by decide +kernel
theorem dX8_lives_26 : decode cX8_lives 26 = .ok (.goto 4, 3) := by decide +kernel
theorem dX8_lives_29 : decode cX8_lives 29 = .ok (.iconst 0, 1) := by decide +kernel
theorem dX8_lives_30 : decode cX8_lives 30 = .ok (.ireturn, 1) := by decide +kernel
theorem dX8_isDark_0 : decode cX8_isDark 0 = .ok (.aload_n 0, 1) := by decide +kernel
theorem dX8_isDark_1 : decode cX8_isDark 1 = .ok (.iload_n 1, 1) := by decide +kernel
theorem dX8_isDark_2 : decode cX8_isDark 2 = .ok (.iconst 0, 1) := by decide +kernel
theorem dX8_isDark_3 : decode cX8_isDark 3 = .ok (.invokevirtual 173, 3) := by decide +kernel
theorem dX8_isDark_6 : decode cX8_isDark 6 = .ok (.ifCond .ne 16, 3) := by decide +kernel
theorem dX8_isDark_9 : decode cX8_isDark 9 = .ok (.aload_n 0, 1) := by decide +kernel
theorem dX8_isDark_10 : decode cX8_isDark 10 = .ok (.iload_n 1, 1) := by decide +kernel
theorem dX8_isDark_11 : decode cX8_isDark 11 = .ok (.iconst 1, 1) := by decide +kernel
theorem dX8_isDark_12 : decode cX8_isDark 12 = .ok (.invokevirtual 173, 3) := by decide +kernel
theorem dX8_isDark_15 : decode cX8_isDark 15 = .ok (.ifCond .ne 7, 3) := by decide +kernel
theorem dX8_isDark_18 : decode cX8_isDark 18 = .ok (.iconst 1, 1) := by decide +kernel
theorem dX8_isDark_19 : decode cX8_isDark 19 = .ok (.goto 4, 3) := by decide +kernel
theorem dX8_isDark_22 : decode cX8_isDark 22 = .ok (.iconst 0, 1) := by decide +kernel
theorem dX8_isDark_23 : decode cX8_isDark 23 = .ok (.ireturn, 1) := by decide +kernel
theorem dX8_drawn_0 : decode cX8_drawn 0 = .ok (.aload_n 0, 1) := by decide +kernel
theorem dX8_drawn_1 : decode cX8_drawn 1 = .ok (.iload_n 1, 1) := by decide +kernel
theorem dX8_drawn_2 : decode cX8_drawn 2 = .ok (.iload_n 2, 1) := by decide +kernel
theorem dX8_drawn_3 : decode cX8_drawn 3 = .ok (.invokevirtual 173, 3) := by decide +kernel
theorem dX8_drawn_6 : decode cX8_drawn 6 = .ok (.ifCond .ne 5, 3) := by decide +kernel
theorem dX8_drawn_9 : decode cX8_drawn 9 = .ok (.iconst 0, 1) := by decide +kernel
theorem dX8_drawn_10 : decode cX8_drawn 10 = .ok (.ireturn, 1) := by decide +kernel
theorem dX8_drawn_11 : decode cX8_drawn 11 = .ok (.aload_n 0, 1) := by decide +kernel
theorem dX8_drawn_12 : decode cX8_drawn 12 = .ok (.iload_n 1, 1) := by decide +kernel
theorem dX8_drawn_13 : decode cX8_drawn 13 = .ok (.iconst 1, 1) := by decide +kernel
theorem dX8_drawn_14 : decode cX8_drawn 14 = .ok (.iload_n 2, 1) := by decide +kernel
theorem dX8_drawn_15 : decode cX8_drawn 15 = .ok (.isub, 1) := by decide +kernel
theorem dX8_drawn_16 : decode cX8_drawn 16 = .ok (.invokevirtual 173, 3) := by decide +kernel
theorem dX8_drawn_19 : decode cX8_drawn 19 = .ok (.ifCond .ne 12, 3) := by decide +kernel
theorem dX8_drawn_22 : decode cX8_drawn 22 = .ok (.aload_n 0, 1) := by decide +kernel
theorem dX8_drawn_23 : decode cX8_drawn 23 = .ok (.getfield 7, 3) := by decide +kernel
theorem dX8_drawn_26 : decode cX8_drawn 26 = .ok (.iload_n 1, 1) := by decide +kernel
theorem dX8_drawn_27 : decode cX8_drawn 27 = .ok (.iaload, 1) := by decide +kernel
theorem dX8_drawn_28 : decode cX8_drawn 28 = .ok (.goto 28, 3) := by decide +kernel
theorem dX8_drawn_31 : decode cX8_drawn 31 = .ok (.iload_n 2, 1) := by decide +kernel
theorem dX8_drawn_32 : decode cX8_drawn 32 = .ok (.ifCond .ne 16, 3) := by decide +kernel
theorem dX8_drawn_35 : decode cX8_drawn 35 = .ok (.aload_n 0, 1) := by decide +kernel
theorem dX8_drawn_36 : decode cX8_drawn 36 = .ok (.getfield 7, 3) := by decide +kernel
theorem dX8_drawn_39 : decode cX8_drawn 39 = .ok (.iload_n 1, 1) := by decide +kernel
theorem dX8_drawn_40 : decode cX8_drawn 40 = .ok (.iaload, 1) := by decide +kernel
theorem dX8_drawn_41 : decode cX8_drawn 41 = .ok (.iconst 1, 1) := by decide +kernel
theorem dX8_drawn_42 : decode cX8_drawn 42 = .ok (.iadd, 1) := by decide +kernel
theorem dX8_drawn_43 : decode cX8_drawn 43 = .ok (.iconst 2, 1) := by decide +kernel
theorem dX8_drawn_44 : decode cX8_drawn 44 = .ok (.idiv, 1) := by decide +kernel
theorem dX8_drawn_45 : decode cX8_drawn 45 = .ok (.goto 11, 3) := by decide +kernel
theorem dX8_drawn_48 : decode cX8_drawn 48 = .ok (.aload_n 0, 1) := by decide +kernel
theorem dX8_drawn_49 : decode cX8_drawn 49 = .ok (.getfield 7, 3) := by decide +kernel
theorem dX8_drawn_52 : decode cX8_drawn 52 = .ok (.iload_n 1, 1) := by decide +kernel
theorem dX8_drawn_53 : decode cX8_drawn 53 = .ok (.iaload, 1) := by decide +kernel
theorem dX8_drawn_54 : decode cX8_drawn 54 = .ok (.iconst 2, 1) := by decide +kernel
theorem dX8_drawn_55 : decode cX8_drawn 55 = .ok (.idiv, 1) := by decide +kernel
theorem dX8_drawn_56 : decode cX8_drawn 56 = .ok (.ireturn, 1) := by decide +kernel
theorem dX8_isUnder_0 : decode cX8_isUnder 0 = .ok (.iload_n 1, 1) := by decide +kernel
theorem dX8_isUnder_1 : decode cX8_isUnder 1 = .ok (.istore_n 3, 1) := by decide +kernel
theorem dX8_isUnder_2 : decode cX8_isUnder 2 = .ok (.iload_n 3, 1) := by decide +kernel
theorem dX8_isUnder_3 : decode cX8_isUnder 3 = .ok (.bipush (-4), 2) := by decide +kernel
theorem dX8_isUnder_5 : decode cX8_isUnder 5 = .ok (.if_icmp .eq 20, 3) := by decide +kernel
theorem dX8_isUnder_8 : decode cX8_isUnder 8 = .ok (.iload_n 3, 1) := by decide +kernel
theorem dX8_isUnder_9 : decode cX8_isUnder 9 = .ok (.iload_n 2, 1) := by decide +kernel
theorem dX8_isUnder_10 : decode cX8_isUnder 10 = .ok (.if_icmp .ne 5, 3) := by decide +kernel
theorem dX8_isUnder_13 : decode cX8_isUnder 13 = .ok (.iconst 1, 1) := by decide +kernel
theorem dX8_isUnder_14 : decode cX8_isUnder 14 = .ok (.ireturn, 1) := by decide +kernel
theorem dX8_isUnder_15 : decode cX8_isUnder 15 = .ok (.aload_n 0, 1) := by decide +kernel
theorem dX8_isUnder_16 : decode cX8_isUnder 16 = .ok (.getfield 66, 3) := by decide +kernel
theorem dX8_isUnder_19 : decode cX8_isUnder 19 = .ok (.iload_n 3, 1) := by decide +kernel
theorem dX8_isUnder_20 : decode cX8_isUnder 20 = .ok (.iaload, 1) := by decide +kernel
theorem dX8_isUnder_21 : decode cX8_isUnder 21 = .ok (.istore_n 3, 1) := by decide +kernel
theorem dX8_isUnder_22 : decode cX8_isUnder 22 = .ok (.goto (-20), 3) := by decide +kernel
theorem dX8_isUnder_25 : decode cX8_isUnder 25 = .ok (.iconst 0, 1) := by decide +kernel
theorem dX8_isUnder_26 : decode cX8_isUnder 26 = .ok (.ireturn, 1) := by decide +kernel
theorem dX8_goes_0 : decode cX8_goes 0 = .ok (.iconst 0, 1) := by decide +kernel
theorem dX8_goes_1 : decode cX8_goes 1 = .ok (.istore_n 2, 1) := by decide +kernel
theorem dX8_goes_2 : decode cX8_goes 2 = .ok (.iconst 0, 1) := by decide +kernel
theorem dX8_goes_3 : decode cX8_goes 3 = .ok (.istore_n 3, 1) := by decide +kernel
theorem dX8_goes_4 : decode cX8_goes 4 = .ok (.iload_n 3, 1) := by decide +kernel
theorem dX8_goes_5 : decode cX8_goes 5 = .ok (.aload_n 0, 1) := by decide +kernel
theorem dX8_goes_6 : decode cX8_goes 6 = .ok (.getfield 112, 3) := by decide +kernel
theorem dX8_goes_9 : decode cX8_goes 9 = .ok (.if_icmp .ge 76, 3) := by decide +kernel
theorem dX8_goes_12 : decode cX8_goes 12 = .ok (.aload_n 0, 1) := by decide +kernel
theorem dX8_goes_13 : decode cX8_goes 13 = .ok (.iload_n 1, 1) := by decide +kernel
theorem dX8_goes_14 : decode cX8_goes 14 = .ok (.invokevirtual 170, 3) := by decide +kernel
theorem dX8_goes_17 : decode cX8_goes 17 = .ok (.ifCond .ne 68, 3) := by decide +kernel
theorem dX8_goes_20 : decode cX8_goes 20 = .ok (.iconst 0, 1) := by decide +kernel
theorem dX8_goes_21 : decode cX8_goes 21 = .ok (.istore 4, 2) := by decide +kernel
theorem dX8_goes_23 : decode cX8_goes 23 = .ok (.iload 4, 2) := by decide +kernel
theorem dX8_goes_25 : decode cX8_goes 25 = .ok (.iconst 2, 1) := by decide +kernel
theorem dX8_goes_26 : decode cX8_goes 26 = .ok (.if_icmp .ge 53, 3) := by decide +kernel
theorem dX8_goes_29 : decode cX8_goes 29 = .ok (.aload_n 0, 1) := by decide +kernel
theorem dX8_goes_30 : decode cX8_goes 30 = .ok (.getfield 76, 3) := by decide +kernel
theorem dX8_goes_33 : decode cX8_goes 33 = .ok (.iconst 2, 1) := by decide +kernel
theorem dX8_goes_34 : decode cX8_goes 34 = .ok (.iload_n 3, 1) := by decide +kernel
theorem dX8_goes_35 : decode cX8_goes 35 = .ok (.imul, 1) := by decide +kernel
theorem dX8_goes_36 : decode cX8_goes 36 = .ok (.iload 4, 2) := by decide +kernel
theorem dX8_goes_38 : decode cX8_goes 38 = .ok (.iadd, 1) := by decide +kernel
theorem dX8_goes_39 : decode cX8_goes 39 = .ok (.iaload, 1) := by decide +kernel
theorem dX8_goes_40 : decode cX8_goes 40 = .ok (.istore 5, 2) := by decide +kernel
theorem dX8_goes_42 : decode cX8_goes 42 = .ok (.iload_n 2, 1) := by decide +kernel
theorem dX8_goes_43 : decode cX8_goes 43 = .ok (.iload 5, 2) := by decide +kernel
theorem dX8_goes_45 : decode cX8_goes 45 = .ok (.bipush (-4), 2) := by decide +kernel
theorem dX8_goes_47 : decode cX8_goes 47 = .ok (.if_icmp .eq 23, 3) := by decide +kernel
theorem dX8_goes_50 : decode cX8_goes 50 = .ok (.aload_n 0, 1) := by decide +kernel
theorem dX8_goes_51 : decode cX8_goes 51 = .ok (.iload 5, 2) := by decide +kernel
theorem dX8_goes_53 : decode cX8_goes 53 = .ok (.iload_n 1, 1) := by decide +kernel
theorem dX8_goes_54 : decode cX8_goes 54 = .ok (.invokevirtual 177, 3) := by decide +kernel
theorem dX8_goes_57 : decode cX8_goes 57 = .ok (.ifCond .eq 13, 3) := by decide +kernel
theorem dX8_goes_60 : decode cX8_goes 60 = .ok (.aload_n 0, 1) := by decide +kernel
theorem dX8_goes_61 : decode cX8_goes 61 = .ok (.iload_n 3, 1) := by decide +kernel
theorem dX8_goes_62 : decode cX8_goes 62 = .ok (.iload 4, 2) := by decide +kernel
theorem dX8_goes_64 : decode cX8_goes 64 = .ok (.invokevirtual 180, 3) := by decide +kernel
theorem dX8_goes_67 : decode cX8_goes 67 = .ok (.goto 4, 3) := by decide +kernel
theorem dX8_goes_70 : decode cX8_goes 70 = .ok (.iconst 0, 1) := by decide +kernel
theorem dX8_goes_71 : decode cX8_goes 71 = .ok (.iadd, 1) := by decide +kernel
theorem dX8_goes_72 : decode cX8_goes 72 = .ok (.istore_n 2, 1) := by decide +kernel
theorem dX8_goes_73 : decode cX8_goes 73 = .ok (.iinc 4 1, 3) := by decide +kernel
theorem dX8_goes_76 : decode cX8_goes 76 = .ok (.goto (-53), 3) := by decide +kernel
theorem dX8_goes_79 : decode cX8_goes 79 = .ok (.iinc 3 1, 3) := by decide +kernel
theorem dX8_goes_82 : decode cX8_goes 82 = .ok (.goto (-78), 3) := by decide +kernel
theorem dX8_goes_85 : decode cX8_goes 85 = .ok (.iload_n 2, 1) := by decide +kernel
theorem dX8_goes_86 : decode cX8_goes 86 = .ok (.ireturn, 1) := by decide +kernel
theorem dX8_through_0 : decode cX8_through 0 = .ok (.aload_n 0, 1) := by decide +kernel
theorem dX8_through_1 : decode cX8_through 1 = .ok (.iload_n 1, 1) := by decide +kernel
theorem dX8_through_2 : decode cX8_through 2 = .ok (.invokevirtual 167, 3) := by decide +kernel
theorem dX8_through_5 : decode cX8_through 5 = .ok (.ifCond .eq 11, 3) := by decide +kernel
theorem dX8_through_8 : decode cX8_through 8 = .ok (.aload_n 0, 1) := by decide +kernel
theorem dX8_through_9 : decode cX8_through 9 = .ok (.iload_n 1, 1) := by decide +kernel
theorem dX8_through_10 : decode cX8_through 10 = .ok (.invokevirtual 183, 3) := by decide +kernel
theorem dX8_through_13 : decode cX8_through 13 = .ok (.goto 4, 3) := by decide +kernel
theorem dX8_through_16 : decode cX8_through 16 = .ok (.iconst (-1), 1) := by decide +kernel
theorem dX8_through_17 : decode cX8_through 17 = .ok (.ireturn, 1) := by decide +kernel
theorem dX8_state_0 : decode cX8_state 0 = .ok (.iload_n 1, 1) := by decide +kernel
theorem dX8_state_1 : decode cX8_state 1 = .ok (.i2l, 1) := by decide +kernel
theorem dX8_state_2 : decode cX8_state 2 = .ok (.lconst 0, 1) := by decide +kernel
theorem dX8_state_3 : decode cX8_state 3 = .ok (.ldc2_w 187, 3) := by decide +kernel
theorem dX8_state_6 : decode cX8_state 6 = .ok (.invokestatic 102, 3) := by decide +kernel
theorem dX8_state_9 : decode cX8_state 9 = .ok (.ifCond .ne 5, 3) := by decide +kernel
theorem dX8_state_12 : decode cX8_state 12 = .ok (.iconst (-1), 1) := by decide +kernel
theorem dX8_state_13 : decode cX8_state 13 = .ok (.ireturn, 1) := by decide +kernel
theorem dX8_state_14 : decode cX8_state 14 = .ok (.iconst 0, 1) := by decide +kernel
theorem dX8_state_15 : decode cX8_state 15 = .ok (.istore_n 2, 1) := by decide +kernel
theorem dX8_state_16 : decode cX8_state 16 = .ok (.bipush (-4), 2) := by decide +kernel
theorem dX8_state_18 : decode cX8_state 18 = .ok (.istore_n 3, 1) := by decide +kernel
theorem dX8_state_19 : decode cX8_state 19 = .ok (.iload_n 1, 1) := by decide +kernel
theorem dX8_state_20 : decode cX8_state 20 = .ok (.iconst 2, 1) := by decide +kernel
theorem dX8_state_21 : decode cX8_state 21 = .ok (.if_icmp .eq 8, 3) := by decide +kernel
theorem dX8_state_24 : decode cX8_state 24 = .ok (.iload_n 1, 1) := by decide +kernel
theorem dX8_state_25 : decode cX8_state 25 = .ok (.iconst 3, 1) := by decide +kernel
theorem dX8_state_26 : decode cX8_state 26 = .ok (.if_icmp .ne 7, 3) := by decide +kernel
theorem dX8_state_29 : decode cX8_state 29 = .ok (.iconst 1, 1) := by decide +kernel
theorem dX8_state_30 : decode cX8_state 30 = .ok (.goto 4, 3) := by decide +kernel
theorem dX8_state_33 : decode cX8_state 33 = .ok (.iconst 0, 1) := by decide +kernel
theorem dX8_state_34 : decode cX8_state 34 = .ok (.istore 4, 2) := by decide +kernel
theorem dX8_state_36 : decode cX8_state 36 = .ok (.iconst 0, 1) := by decide +kernel
theorem dX8_state_37 : decode cX8_state 37 = .ok (.istore 5, 2) := by decide +kernel
theorem dX8_state_39 : decode cX8_state 39 = .ok (.iload 5, 2) := by decide +kernel
theorem dX8_state_41 : decode cX8_state 41 = .ok (.iload 4, 2) := by decide +kernel
theorem dX8_state_43 : decode cX8_state 43 = .ok (.ifCond .eq 10, 3) := by decide +kernel
theorem dX8_state_46 : decode cX8_state 46 = .ok (.aload_n 0, 1) := by decide +kernel
theorem dX8_state_47 : decode cX8_state 47 = .ok (.getfield 112, 3) := by decide +kernel
theorem dX8_state_50 : decode cX8_state 50 = .ok (.goto 7, 3) := by decide +kernel
theorem dX8_state_53 : decode cX8_state 53 = .ok (.aload_n 0, 1) := by decide +kernel
theorem dX8_state_54 : decode cX8_state 54 = .ok (.getfield 164, 3) := by decide +kernel
theorem dX8_state_57 : decode cX8_state 57 = .ok (.if_icmp .ge 91, 3) := by decide +kernel
theorem dX8_state_60 : decode cX8_state 60 = .ok (.iload 4, 2) := by decide +kernel
theorem dX8_state_62 : decode cX8_state 62 = .ok (.ifCond .eq 12, 3) := by decide +kernel
theorem dX8_state_65 : decode cX8_state 65 = .ok (.aload_n 0, 1) := by decide +kernel
theorem dX8_state_66 : decode cX8_state 66 = .ok (.iload 5, 2) := by decide +kernel
theorem dX8_state_68 : decode cX8_state 68 = .ok (.invokevirtual 189, 3) := by decide +kernel
theorem dX8_state_71 : decode cX8_state 71 = .ok (.goto 38, 3) := by decide +kernel
theorem dX8_state_74 : decode cX8_state 74 = .ok (.iload_n 1, 1) := by decide +kernel
theorem dX8_state_75 : decode cX8_state 75 = .ok (.iconst 4, 1) := by decide +kernel
theorem dX8_state_76 : decode cX8_state 76 = .ok (.if_icmp .ne 12, 3) := by decide +kernel
theorem dX8_state_79 : decode cX8_state 79 = .ok (.aload_n 0, 1) := by decide +kernel
theorem dX8_state_80 : decode cX8_state 80 = .ok (.iload 5, 2) := by decide +kernel
theorem dX8_state_82 : decode cX8_state 82 = .ok (.invokevirtual 170, 3) := by decide +kernel
theorem dX8_state_85 : decode cX8_state 85 = .ok (.goto 24, 3) := by decide +kernel
theorem dX8_state_88 : decode cX8_state 88 = .ok (.aload_n 0, 1) := by decide +kernel
theorem dX8_state_89 : decode cX8_state 89 = .ok (.iload 5, 2) := by decide +kernel
theorem dX8_state_91 : decode cX8_state 91 = .ok (.invokevirtual 183, 3) := by decide +kernel
theorem dX8_state_94 : decode cX8_state 94 = .ok (.aload_n 0, 1) := by decide +kernel
theorem dX8_state_95 : decode cX8_state 95 = .ok (.getfield 69, 3) := by decide +kernel
theorem dX8_state_98 : decode cX8_state 98 = .ok (.iload 5, 2) := by decide +kernel
theorem dX8_state_100 : decode cX8_state 100 = .ok (.iaload, 1) := by decide +kernel
theorem dX8_state_101 : decode cX8_state 101 = .ok (.if_icmp .le 7, 3) := by decide +kernel
theorem dX8_state_104 : decode cX8_state 104 = .ok (.iconst 1, 1) := by decide +kernel
theorem dX8_state_105 : decode cX8_state 105 = .ok (.goto 4, 3) := by decide +kernel
theorem dX8_state_108 : decode cX8_state 108 = .ok (.iconst 0, 1) := by decide +kernel
theorem dX8_state_109 : decode cX8_state 109 = .ok (.istore 6, 2) := by decide +kernel
theorem dX8_state_111 : decode cX8_state 111 = .ok (.iload_n 2, 1) := by decide +kernel
theorem dX8_state_112 : decode cX8_state 112 = .ok (.iload 6, 2) := by decide +kernel
theorem dX8_state_114 : decode cX8_state 114 = .ok (.ifCond .eq 7, 3) := by decide +kernel
theorem dX8_state_117 : decode cX8_state 117 = .ok (.iconst 1, 1) := by decide +kernel
theorem dX8_state_118 : decode cX8_state 118 = .ok (.goto 4, 3) := by decide +kernel
theorem dX8_state_121 : decode cX8_state 121 = .ok (.iconst 0, 1) := by decide +kernel
theorem dX8_state_122 : decode cX8_state 122 = .ok (.iadd, 1) := by decide +kernel
theorem dX8_state_123 : decode cX8_state 123 = .ok (.istore_n 2, 1) := by decide +kernel
theorem dX8_state_124 : decode cX8_state 124 = .ok (.iload 6, 2) := by decide +kernel
theorem dX8_state_126 : decode cX8_state 126 = .ok (.ifCond .eq 14, 3) := by decide +kernel
theorem dX8_state_129 : decode cX8_state 129 = .ok (.iload_n 3, 1) := by decide +kernel
theorem dX8_state_130 : decode cX8_state 130 = .ok (.bipush (-4), 2) := by decide +kernel
theorem dX8_state_132 : decode cX8_state 132 = .ok (.if_icmp .ne 8, 3) := by decide +kernel
theorem dX8_state_135 : decode cX8_state 135 = .ok (.iload 5, 2) := by decide +kernel
theorem dX8_state_137 : decode cX8_state 137 = .ok (.goto 4, 3) := by decide +kernel
theorem dX8_state_140 : decode cX8_state 140 = .ok (.iload_n 3, 1) := by decide +kernel
theorem dX8_state_141 : decode cX8_state 141 = .ok (.istore_n 3, 1) := by decide +kernel
theorem dX8_state_142 : decode cX8_state 142 = .ok (.iinc 5 1, 3) := by decide +kernel
theorem dX8_state_145 : decode cX8_state 145 = .ok (.goto (-106), 3) := by decide +kernel
theorem dX8_state_148 : decode cX8_state 148 = .ok (.iload_n 1, 1) := by decide +kernel
theorem dX8_state_149 : decode cX8_state 149 = .ok (.iconst 1, 1) := by decide +kernel
theorem dX8_state_150 : decode cX8_state 150 = .ok (.if_icmp .eq 8, 3) := by decide +kernel
theorem dX8_state_153 : decode cX8_state 153 = .ok (.iload_n 1, 1) := by decide +kernel
theorem dX8_state_154 : decode cX8_state 154 = .ok (.iconst 3, 1) := by decide +kernel
theorem dX8_state_155 : decode cX8_state 155 = .ok (.if_icmp .ne 7, 3) := by decide +kernel
theorem dX8_state_158 : decode cX8_state 158 = .ok (.iload_n 3, 1) := by decide +kernel
theorem dX8_state_159 : decode cX8_state 159 = .ok (.goto 4, 3) := by decide +kernel
theorem dX8_state_162 : decode cX8_state 162 = .ok (.iload_n 2, 1) := by decide +kernel
theorem dX8_state_163 : decode cX8_state 163 = .ok (.ireturn, 1) := by decide +kernel
theorem dX8_weak_0 : decode cX8_weak 0 = .ok (.iconst 0, 1) := by decide +kernel
theorem dX8_weak_1 : decode cX8_weak 1 = .ok (.istore_n 1, 1) := by decide +kernel
theorem dX8_weak_2 : decode cX8_weak 2 = .ok (.iload_n 1, 1) := by decide +kernel
theorem dX8_weak_3 : decode cX8_weak 3 = .ok (.aload_n 0, 1) := by decide +kernel
theorem dX8_weak_4 : decode cX8_weak 4 = .ok (.getfield 164, 3) := by decide +kernel
theorem dX8_weak_7 : decode cX8_weak 7 = .ok (.if_icmp .ge 169, 3) := by decide +kernel
theorem dX8_weak_10 : decode cX8_weak 10 = .ok (.iconst 0, 1) := by decide +kernel
theorem dX8_weak_11 : decode cX8_weak 11 = .ok (.istore_n 2, 1) := by decide +kernel
theorem dX8_weak_12 : decode cX8_weak 12 = .ok (.iconst 0, 1) := by decide +kernel
theorem dX8_weak_13 : decode cX8_weak 13 = .ok (.istore_n 3, 1) := by decide +kernel
theorem dX8_weak_14 : decode cX8_weak 14 = .ok (.iload_n 3, 1) := by decide +kernel
theorem dX8_weak_15 : decode cX8_weak 15 = .ok (.aload_n 0, 1) := by decide +kernel
theorem dX8_weak_16 : decode cX8_weak 16 = .ok (.getfield 164, 3) := by decide +kernel
theorem dX8_weak_19 : decode cX8_weak 19 = .ok (.if_icmp .ge 79, 3) := by decide +kernel
theorem dX8_weak_22 : decode cX8_weak 22 = .ok (.aload_n 0, 1) := by decide +kernel
theorem dX8_weak_23 : decode cX8_weak 23 = .ok (.getfield 72, 3) := by decide +kernel
theorem dX8_weak_26 : decode cX8_weak 26 = .ok (.iload_n 1, 1) := by decide +kernel
theorem dX8_weak_27 : decode cX8_weak 27 = .ok (.baload, 1) := by decide +kernel
theorem dX8_weak_28 : decode cX8_weak 28 = .ok (.ifCond .ne 70, 3) := by decide +kernel
theorem dX8_weak_31 : decode cX8_weak 31 = .ok (.aload_n 0, 1) := by decide +kernel
theorem dX8_weak_32 : decode cX8_weak 32 = .ok (.iload_n 3, 1) := by decide +kernel
theorem dX8_weak_33 : decode cX8_weak 33 = .ok (.invokevirtual 183, 3) := by decide +kernel
theorem dX8_weak_36 : decode cX8_weak 36 = .ok (.aload_n 0, 1) := by decide +kernel
theorem dX8_weak_37 : decode cX8_weak 37 = .ok (.getfield 69, 3) := by decide +kernel
theorem dX8_weak_40 : decode cX8_weak 40 = .ok (.iload_n 3, 1) := by decide +kernel
theorem dX8_weak_41 : decode cX8_weak 41 = .ok (.iaload, 1) := by decide +kernel
theorem dX8_weak_42 : decode cX8_weak 42 = .ok (.if_icmp .le 7, 3) := by decide +kernel
theorem dX8_weak_45 : decode cX8_weak 45 = .ok (.iconst 1, 1) := by decide +kernel
theorem dX8_weak_46 : decode cX8_weak 46 = .ok (.goto 4, 3) := by decide +kernel
theorem dX8_weak_49 : decode cX8_weak 49 = .ok (.iconst 0, 1) := by decide +kernel
theorem dX8_weak_50 : decode cX8_weak 50 = .ok (.istore 4, 2) := by decide +kernel
theorem dX8_weak_52 : decode cX8_weak 52 = .ok (.aload_n 0, 1) := by decide +kernel
theorem dX8_weak_53 : decode cX8_weak 53 = .ok (.iload_n 1, 1) := by decide +kernel
theorem dX8_weak_54 : decode cX8_weak 54 = .ok (.putfield 79, 3) := by decide +kernel
theorem dX8_weak_57 : decode cX8_weak 57 = .ok (.iload_n 2, 1) := by decide +kernel
theorem dX8_weak_58 : decode cX8_weak 58 = .ok (.ifCond .ne 22, 3) := by decide +kernel
theorem dX8_weak_61 : decode cX8_weak 61 = .ok (.iload 4, 2) := by decide +kernel
theorem dX8_weak_63 : decode cX8_weak 63 = .ok (.ifCond .ne 21, 3) := by decide +kernel
theorem dX8_weak_66 : decode cX8_weak 66 = .ok (.aload_n 0, 1) := by decide +kernel
theorem dX8_weak_67 : decode cX8_weak 67 = .ok (.iload_n 3, 1) := by decide +kernel
theorem dX8_weak_68 : decode cX8_weak 68 = .ok (.invokevirtual 183, 3) := by decide +kernel
theorem dX8_weak_71 : decode cX8_weak 71 = .ok (.aload_n 0, 1) := by decide +kernel
theorem dX8_weak_72 : decode cX8_weak 72 = .ok (.getfield 69, 3) := by decide +kernel
theorem dX8_weak_75 : decode cX8_weak 75 = .ok (.iload_n 3, 1) := by decide +kernel
theorem dX8_weak_76 : decode cX8_weak 76 = .ok (.iaload, 1) := by decide +kernel
theorem dX8_weak_77 : decode cX8_weak 77 = .ok (.if_icmp .le 7, 3) := by decide +kernel
theorem dX8_weak_80 : decode cX8_weak 80 = .ok (.iconst 1, 1) := by decide +kernel
theorem dX8_weak_81 : decode cX8_weak 81 = .ok (.goto 4, 3) := by decide +kernel
theorem dX8_weak_84 : decode cX8_weak 84 = .ok (.iconst 0, 1) := by decide +kernel
theorem dX8_weak_85 : decode cX8_weak 85 = .ok (.istore_n 2, 1) := by decide +kernel
theorem dX8_weak_86 : decode cX8_weak 86 = .ok (.aload_n 0, 1) := by decide +kernel
theorem dX8_weak_87 : decode cX8_weak 87 = .ok (.bipush (-4), 2) := by decide +kernel
theorem dX8_weak_89 : decode cX8_weak 89 = .ok (.putfield 79, 3) := by decide +kernel
theorem dX8_weak_92 : decode cX8_weak 92 = .ok (.iinc 3 1, 3) := by decide +kernel
theorem dX8_weak_95 : decode cX8_weak 95 = .ok (.goto (-81), 3) := by decide +kernel
theorem dX8_weak_98 : decode cX8_weak 98 = .ok (.iconst 0, 1) := by decide +kernel
theorem dX8_weak_99 : decode cX8_weak 99 = .ok (.istore_n 3, 1) := by decide +kernel
theorem dX8_weak_100 : decode cX8_weak 100 = .ok (.iload_n 3, 1) := by decide +kernel
theorem dX8_weak_101 : decode cX8_weak 101 = .ok (.aload_n 0, 1) := by decide +kernel
theorem dX8_weak_102 : decode cX8_weak 102 = .ok (.getfield 112, 3) := by decide +kernel
theorem dX8_weak_105 : decode cX8_weak 105 = .ok (.if_icmp .ge 59, 3) := by decide +kernel
theorem dX8_weak_108 : decode cX8_weak 108 = .ok (.aload_n 0, 1) := by decide +kernel
theorem dX8_weak_109 : decode cX8_weak 109 = .ok (.getfield 72, 3) := by decide +kernel
theorem dX8_weak_112 : decode cX8_weak 112 = .ok (.iload_n 1, 1) := by decide +kernel
theorem dX8_weak_113 : decode cX8_weak 113 = .ok (.baload, 1) := by decide +kernel
theorem dX8_weak_114 : decode cX8_weak 114 = .ok (.ifCond .ne 50, 3) := by decide +kernel
theorem dX8_weak_117 : decode cX8_weak 117 = .ok (.aload_n 0, 1) := by decide +kernel
theorem dX8_weak_118 : decode cX8_weak 118 = .ok (.iload_n 3, 1) := by decide +kernel
theorem dX8_weak_119 : decode cX8_weak 119 = .ok (.invokevirtual 189, 3) := by decide +kernel
theorem dX8_weak_122 : decode cX8_weak 122 = .ok (.istore 4, 2) := by decide +kernel
theorem dX8_weak_124 : decode cX8_weak 124 = .ok (.aload_n 0, 1) := by decide +kernel
theorem dX8_weak_125 : decode cX8_weak 125 = .ok (.iload_n 1, 1) := by decide +kernel
theorem dX8_weak_126 : decode cX8_weak 126 = .ok (.putfield 79, 3) := by decide +kernel
theorem dX8_weak_129 : decode cX8_weak 129 = .ok (.iload_n 2, 1) := by decide +kernel
theorem dX8_weak_130 : decode cX8_weak 130 = .ok (.ifCond .ne 16, 3) := by decide +kernel
theorem dX8_weak_133 : decode cX8_weak 133 = .ok (.iload 4, 2) := by decide +kernel
theorem dX8_weak_135 : decode cX8_weak 135 = .ok (.ifCond .ne 15, 3) := by decide +kernel
theorem dX8_weak_138 : decode cX8_weak 138 = .ok (.aload_n 0, 1) := by decide +kernel
theorem dX8_weak_139 : decode cX8_weak 139 = .ok (.iload_n 3, 1) := by decide +kernel
theorem dX8_weak_140 : decode cX8_weak 140 = .ok (.invokevirtual 189, 3) := by decide +kernel
theorem dX8_weak_143 : decode cX8_weak 143 = .ok (.ifCond .eq 7, 3) := by decide +kernel
theorem dX8_weak_146 : decode cX8_weak 146 = .ok (.iconst 1, 1) := by decide +kernel
theorem dX8_weak_147 : decode cX8_weak 147 = .ok (.goto 4, 3) := by decide +kernel
theorem dX8_weak_150 : decode cX8_weak 150 = .ok (.iconst 0, 1) := by decide +kernel
theorem dX8_weak_151 : decode cX8_weak 151 = .ok (.istore_n 2, 1) := by decide +kernel
theorem dX8_weak_152 : decode cX8_weak 152 = .ok (.aload_n 0, 1) := by decide +kernel
theorem dX8_weak_153 : decode cX8_weak 153 = .ok (.bipush (-4), 2) := by decide +kernel
theorem dX8_weak_155 : decode cX8_weak 155 = .ok (.putfield 79, 3) := by decide +kernel
theorem dX8_weak_158 : decode cX8_weak 158 = .ok (.iinc 3 1, 3) := by decide +kernel
theorem dX8_weak_161 : decode cX8_weak 161 = .ok (.goto (-61), 3) := by decide +kernel
theorem dX8_weak_164 : decode cX8_weak 164 = .ok (.iload_n 2, 1) := by decide +kernel
theorem dX8_weak_165 : decode cX8_weak 165 = .ok (.ifCond .eq 5, 3) := by decide +kernel
theorem dX8_weak_168 : decode cX8_weak 168 = .ok (.iload_n 1, 1) := by decide +kernel
theorem dX8_weak_169 : decode cX8_weak 169 = .ok (.ireturn, 1) := by decide +kernel
theorem dX8_weak_170 : decode cX8_weak 170 = .ok (.iinc 1 1, 3) := by decide +kernel
theorem dX8_weak_173 : decode cX8_weak 173 = .ok (.goto (-171), 3) := by decide +kernel
theorem dX8_weak_176 : decode cX8_weak 176 = .ok (.bipush (-4), 2) := by decide +kernel
theorem dX8_weak_178 : decode cX8_weak 178 = .ok (.ireturn, 1) := by decide +kernel
theorem dX8_cause_0 : decode cX8_cause 0 = .ok (.iload_n 1, 1) := by decide +kernel
theorem dX8_cause_1 : decode cX8_cause 1 = .ok (.i2l, 1) := by decide +kernel
theorem dX8_cause_2 : decode cX8_cause 2 = .ok (.lconst 1, 1) := by decide +kernel
theorem dX8_cause_3 : decode cX8_cause 3 = .ok (.ldc2_w 192, 3) := by decide +kernel
theorem dX8_cause_6 : decode cX8_cause 6 = .ok (.invokestatic 102, 3) := by decide +kernel
theorem dX8_cause_9 : decode cX8_cause 9 = .ok (.ifCond .ne 5, 3) := by decide +kernel
theorem dX8_cause_12 : decode cX8_cause 12 = .ok (.iconst (-1), 1) := by decide +kernel
theorem dX8_cause_13 : decode cX8_cause 13 = .ok (.ireturn, 1) := by decide +kernel
theorem dX8_cause_14 : decode cX8_cause 14 = .ok (.aload_n 0, 1) := by decide +kernel
theorem dX8_cause_15 : decode cX8_cause 15 = .ok (.getfield 194, 3) := by decide +kernel
theorem dX8_cause_18 : decode cX8_cause 18 = .ok (.bipush 10, 2) := by decide +kernel
theorem dX8_cause_20 : decode cX8_cause 20 = .ok (.if_icmp .ne 6, 3) := by decide +kernel
theorem dX8_cause_23 : decode cX8_cause 23 = .ok (.bipush (-3), 2) := by decide +kernel
theorem dX8_cause_25 : decode cX8_cause 25 = .ok (.ireturn, 1) := by decide +kernel
theorem dX8_cause_26 : decode cX8_cause 26 = .ok (.aload_n 0, 1) := by decide +kernel
theorem dX8_cause_27 : decode cX8_cause 27 = .ok (.getfield 82, 3) := by decide +kernel
theorem dX8_cause_30 : decode cX8_cause 30 = .ok (.aload_n 0, 1) := by decide +kernel
theorem dX8_cause_31 : decode cX8_cause 31 = .ok (.getfield 194, 3) := by decide +kernel
theorem dX8_cause_34 : decode cX8_cause 34 = .ok (.iload_n 1, 1) := by decide +kernel
theorem dX8_cause_35 : decode cX8_cause 35 = .ok (.iastore, 1) := by decide +kernel
theorem dX8_cause_36 : decode cX8_cause 36 = .ok (.aload_n 0, 1) := by decide +kernel
theorem dX8_cause_37 : decode cX8_cause 37 = .ok (.dup, 1) := by decide +kernel
theorem dX8_cause_38 : decode cX8_cause 38 = .ok (.getfield 194, 3) := by decide +kernel
theorem dX8_cause_41 : decode cX8_cause 41 = .ok (.iconst 1, 1) := by decide +kernel
theorem dX8_cause_42 : decode cX8_cause 42 = .ok (.iadd, 1) := by decide +kernel
theorem dX8_cause_43 : decode cX8_cause 43 = .ok (.putfield 194, 3) := by decide +kernel
theorem dX8_cause_46 : decode cX8_cause 46 = .ok (.aload_n 0, 1) := by decide +kernel
theorem dX8_cause_47 : decode cX8_cause 47 = .ok (.getfield 194, 3) := by decide +kernel
theorem dX8_cause_50 : decode cX8_cause 50 = .ok (.iconst 1, 1) := by decide +kernel
theorem dX8_cause_51 : decode cX8_cause 51 = .ok (.isub, 1) := by decide +kernel
theorem dX8_cause_52 : decode cX8_cause 52 = .ok (.ireturn, 1) := by decide +kernel
theorem dX8_seen_0 : decode cX8_seen 0 = .ok (.iload_n 1, 1) := by decide +kernel
theorem dX8_seen_1 : decode cX8_seen 1 = .ok (.i2l, 1) := by decide +kernel
theorem dX8_seen_2 : decode cX8_seen 2 = .ok (.lconst 0, 1) := by decide +kernel
theorem dX8_seen_3 : decode cX8_seen 3 = .ok (.ldc2_w 192, 3) := by decide +kernel
theorem dX8_seen_6 : decode cX8_seen 6 = .ok (.invokestatic 102, 3) := by decide +kernel
theorem dX8_seen_9 : decode cX8_seen 9 = .ok (.ifCond .ne 5, 3) := by decide +kernel
theorem dX8_seen_12 : decode cX8_seen 12 = .ok (.iconst (-1), 1) := by decide +kernel
theorem dX8_seen_13 : decode cX8_seen 13 = .ok (.ireturn, 1) := by decide +kernel
theorem dX8_seen_14 : decode cX8_seen 14 = .ok (.aload_n 0, 1) := by decide +kernel
theorem dX8_seen_15 : decode cX8_seen 15 = .ok (.getfield 197, 3) := by decide +kernel
theorem dX8_seen_18 : decode cX8_seen 18 = .ok (.istore_n 2, 1) := by decide +kernel
theorem dX8_seen_19 : decode cX8_seen 19 = .ok (.aload_n 0, 1) := by decide +kernel
theorem dX8_seen_20 : decode cX8_seen 20 = .ok (.iload_n 1, 1) := by decide +kernel
theorem dX8_seen_21 : decode cX8_seen 21 = .ok (.putfield 197, 3) := by decide +kernel
theorem dX8_seen_24 : decode cX8_seen 24 = .ok (.iload_n 2, 1) := by decide +kernel
theorem dX8_seen_25 : decode cX8_seen 25 = .ok (.ireturn, 1) := by decide +kernel
theorem dX8_roots_0 : decode cX8_roots 0 = .ok (.bipush (-4), 2) := by decide +kernel
theorem dX8_roots_2 : decode cX8_roots 2 = .ok (.istore_n 1, 1) := by decide +kernel
theorem dX8_roots_3 : decode cX8_roots 3 = .ok (.bipush 100, 2) := by decide +kernel
theorem dX8_roots_5 : decode cX8_roots 5 = .ok (.istore_n 2, 1) := by decide +kernel
theorem dX8_roots_6 : decode cX8_roots 6 = .ok (.iconst 0, 1) := by decide +kernel
theorem dX8_roots_7 : decode cX8_roots 7 = .ok (.istore_n 3, 1) := by decide +kernel
theorem dX8_roots_8 : decode cX8_roots 8 = .ok (.iload_n 3, 1) := by decide +kernel
theorem dX8_roots_9 : decode cX8_roots 9 = .ok (.iconst 1, 1) := by decide +kernel
theorem dX8_roots_10 : decode cX8_roots 10 = .ok (.aload_n 0, 1) := by decide +kernel
theorem dX8_roots_11 : decode cX8_roots 11 = .ok (.getfield 194, 3) := by decide +kernel
theorem dX8_roots_14 : decode cX8_roots 14 = .ok (.ishl, 1) := by decide +kernel
theorem dX8_roots_15 : decode cX8_roots 15 = .ok (.if_icmp .ge 78, 3) := by decide +kernel
theorem dX8_roots_18 : decode cX8_roots 18 = .ok (.iconst 0, 1) := by decide +kernel
theorem dX8_roots_19 : decode cX8_roots 19 = .ok (.istore 4, 2) := by decide +kernel
theorem dX8_roots_21 : decode cX8_roots 21 = .ok (.iconst 0, 1) := by decide +kernel
theorem dX8_roots_22 : decode cX8_roots 22 = .ok (.istore 5, 2) := by decide +kernel
theorem dX8_roots_24 : decode cX8_roots 24 = .ok (.iconst 0, 1) := by decide +kernel
theorem dX8_roots_25 : decode cX8_roots 25 = .ok (.istore 6, 2) := by decide +kernel
theorem dX8_roots_27 : decode cX8_roots 27 = .ok (.iload 6, 2) := by decide +kernel
theorem dX8_roots_29 : decode cX8_roots 29 = .ok (.aload_n 0, 1) := by decide +kernel
theorem dX8_roots_30 : decode cX8_roots 30 = .ok (.getfield 194, 3) := by decide +kernel
theorem dX8_roots_33 : decode cX8_roots 33 = .ok (.if_icmp .ge 34, 3) := by decide +kernel
theorem dX8_roots_36 : decode cX8_roots 36 = .ok (.iload_n 3, 1) := by decide +kernel
theorem dX8_roots_37 : decode cX8_roots 37 = .ok (.iload 6, 2) := by decide +kernel
theorem dX8_roots_39 : decode cX8_roots 39 = .ok (.ishr, 1) := by decide +kernel
theorem dX8_roots_40 : decode cX8_roots 40 = .ok (.iconst 1, 1) := by decide +kernel
theorem dX8_roots_41 : decode cX8_roots 41 = .ok (.iand, 1) := by decide +kernel
theorem dX8_roots_42 : decode cX8_roots 42 = .ok (.iconst 1, 1) := by decide +kernel
theorem dX8_roots_43 : decode cX8_roots 43 = .ok (.if_icmp .ne 18, 3) := by decide +kernel
theorem dX8_roots_46 : decode cX8_roots 46 = .ok (.iload 4, 2) := by decide +kernel
theorem dX8_roots_48 : decode cX8_roots 48 = .ok (.aload_n 0, 1) := by decide +kernel
theorem dX8_roots_49 : decode cX8_roots 49 = .ok (.getfield 82, 3) := by decide +kernel
theorem dX8_roots_52 : decode cX8_roots 52 = .ok (.iload 6, 2) := by decide +kernel
theorem dX8_roots_54 : decode cX8_roots 54 = .ok (.iaload, 1) := by decide +kernel
theorem dX8_roots_55 : decode cX8_roots 55 = .ok (.ior, 1) := by decide +kernel
theorem dX8_roots_56 : decode cX8_roots 56 = .ok (.istore 4, 2) := by decide +kernel
theorem dX8_roots_58 : decode cX8_roots 58 = .ok (.iinc 5 1, 3) := by decide +kernel
theorem dX8_roots_61 : decode cX8_roots 61 = .ok (.iinc 6 1, 3) := by decide +kernel
theorem dX8_roots_64 : decode cX8_roots 64 = .ok (.goto (-37), 3) := by decide +kernel
theorem dX8_roots_67 : decode cX8_roots 67 = .ok (.iload 4, 2) := by decide +kernel
theorem dX8_roots_69 : decode cX8_roots 69 = .ok (.aload_n 0, 1) := by decide +kernel
theorem dX8_roots_70 : decode cX8_roots 70 = .ok (.getfield 197, 3) := by decide +kernel
theorem dX8_roots_73 : decode cX8_roots 73 = .ok (.if_icmp .ne 14, 3) := by decide +kernel
theorem dX8_roots_76 : decode cX8_roots 76 = .ok (.iload 5, 2) := by decide +kernel
theorem dX8_roots_78 : decode cX8_roots 78 = .ok (.iload_n 2, 1) := by decide +kernel
theorem dX8_roots_79 : decode cX8_roots 79 = .ok (.if_icmp .ge 8, 3) := by decide +kernel
theorem dX8_roots_82 : decode cX8_roots 82 = .ok (.iload 5, 2) := by decide +kernel
theorem dX8_roots_84 : decode cX8_roots 84 = .ok (.istore_n 2, 1) := by decide +kernel
theorem dX8_roots_85 : decode cX8_roots 85 = .ok (.iload_n 3, 1) := by decide +kernel
theorem dX8_roots_86 : decode cX8_roots 86 = .ok (.istore_n 1, 1) := by decide +kernel
theorem dX8_roots_87 : decode cX8_roots 87 = .ok (.iinc 3 1, 3) := by decide +kernel
theorem dX8_roots_90 : decode cX8_roots 90 = .ok (.goto (-82), 3) := by decide +kernel
theorem dX8_roots_93 : decode cX8_roots 93 = .ok (.iload_n 1, 1) := by decide +kernel
theorem dX8_roots_94 : decode cX8_roots 94 = .ok (.ireturn, 1) := by decide +kernel
theorem dX8_strange_0 : decode cX8_strange 0 = .ok (.aload_n 0, 1) := by decide +kernel
theorem dX8_strange_1 : decode cX8_strange 1 = .ok (.getfield 197, 3) := by decide +kernel
theorem dX8_strange_4 : decode cX8_strange 4 = .ok (.istore_n 1, 1) := by decide +kernel
theorem dX8_strange_5 : decode cX8_strange 5 = .ok (.iconst 0, 1) := by decide +kernel
theorem dX8_strange_6 : decode cX8_strange 6 = .ok (.istore_n 2, 1) := by decide +kernel
theorem dX8_strange_7 : decode cX8_strange 7 = .ok (.iload_n 2, 1) := by decide +kernel
theorem dX8_strange_8 : decode cX8_strange 8 = .ok (.aload_n 0, 1) := by decide +kernel
theorem dX8_strange_9 : decode cX8_strange 9 = .ok (.getfield 194, 3) := by decide +kernel
theorem dX8_strange_12 : decode cX8_strange 12 = .ok (.if_icmp .ge 40, 3) := by decide +kernel
theorem dX8_strange_15 : decode cX8_strange 15 = .ok (.aload_n 0, 1) := by decide +kernel
theorem dX8_strange_16 : decode cX8_strange 16 = .ok (.getfield 82, 3) := by decide +kernel
theorem dX8_strange_19 : decode cX8_strange 19 = .ok (.iload_n 2, 1) := by decide +kernel
theorem dX8_strange_20 : decode cX8_strange 20 = .ok (.iaload, 1) := by decide +kernel
theorem dX8_strange_21 : decode cX8_strange 21 = .ok (.aload_n 0, 1) := by decide +kernel
theorem dX8_strange_22 : decode cX8_strange 22 = .ok (.getfield 197, 3) := by decide +kernel
theorem dX8_strange_25 : decode cX8_strange 25 = .ok (.iconst (-1), 1) := by decide +kernel
theorem dX8_strange_26 : decode cX8_strange 26 = .ok (.ixor, 1) := by decide +kernel
theorem dX8_strange_27 : decode cX8_strange 27 = .ok (.iand, 1) := by decide +kernel
theorem dX8_strange_28 : decode cX8_strange 28 = .ok (.ifCond .ne 16, 3) := by decide +kernel
theorem dX8_strange_31 : decode cX8_strange 31 = .ok (.iload_n 1, 1) := by decide +kernel
theorem dX8_strange_32 : decode cX8_strange 32 = .ok (.aload_n 0, 1) := by decide +kernel
theorem dX8_strange_33 : decode cX8_strange 33 = .ok (.getfield 82, 3) := by decide +kernel
theorem dX8_strange_36 : decode cX8_strange 36 = .ok (.iload_n 2, 1) := by decide +kernel
theorem dX8_strange_37 : decode cX8_strange 37 = .ok (.iaload, 1) := by decide +kernel
theorem dX8_strange_38 : decode cX8_strange 38 = .ok (.iconst (-1), 1) := by decide +kernel
theorem dX8_strange_39 : decode cX8_strange 39 = .ok (.ixor, 1) := by decide +kernel
theorem dX8_strange_40 : decode cX8_strange 40 = .ok (.iand, 1) := by decide +kernel
theorem dX8_strange_41 : decode cX8_strange 41 = .ok (.goto 4, 3) := by decide +kernel
theorem dX8_strange_44 : decode cX8_strange 44 = .ok (.iload_n 1, 1) := by decide +kernel
theorem dX8_strange_45 : decode cX8_strange 45 = .ok (.istore_n 1, 1) := by decide +kernel
theorem dX8_strange_46 : decode cX8_strange 46 = .ok (.iinc 2 1, 3) := by decide +kernel
theorem dX8_strange_49 : decode cX8_strange 49 = .ok (.goto (-42), 3) := by decide +kernel
theorem dX8_strange_52 : decode cX8_strange 52 = .ok (.iload_n 1, 1) := by decide +kernel
theorem dX8_strange_53 : decode cX8_strange 53 = .ok (.ireturn, 1) := by decide +kernel
theorem dX8_meter_0 : decode cX8_meter 0 = .ok (.iload_n 1, 1) := by decide +kernel
theorem dX8_meter_1 : decode cX8_meter 1 = .ok (.bipush (-4), 2) := by decide +kernel
theorem dX8_meter_3 : decode cX8_meter 3 = .ok (.if_icmp .eq 21, 3) := by decide +kernel
theorem dX8_meter_6 : decode cX8_meter 6 = .ok (.iload_n 1, 1) := by decide +kernel
theorem dX8_meter_7 : decode cX8_meter 7 = .ok (.i2l, 1) := by decide +kernel
theorem dX8_meter_8 : decode cX8_meter 8 = .ok (.lconst 0, 1) := by decide +kernel
theorem dX8_meter_9 : decode cX8_meter 9 = .ok (.aload_n 0, 1) := by decide +kernel
theorem dX8_meter_10 : decode cX8_meter 10 = .ok (.getfield 200, 3) := by decide +kernel
theorem dX8_meter_13 : decode cX8_meter 13 = .ok (.iconst 1, 1) := by decide +kernel
theorem dX8_meter_14 : decode cX8_meter 14 = .ok (.isub, 1) := by decide +kernel
theorem dX8_meter_15 : decode cX8_meter 15 = .ok (.i2l, 1) := by decide +kernel
theorem dX8_meter_16 : decode cX8_meter 16 = .ok (.invokestatic 102, 3) := by decide +kernel
theorem dX8_meter_19 : decode cX8_meter 19 = .ok (.ifCond .ne 5, 3) := by decide +kernel
theorem dX8_meter_22 : decode cX8_meter 22 = .ok (.iconst (-1), 1) := by decide +kernel
theorem dX8_meter_23 : decode cX8_meter 23 = .ok (.ireturn, 1) := by decide +kernel
theorem dX8_meter_24 : decode cX8_meter 24 = .ok (.aload_n 0, 1) := by decide +kernel
theorem dX8_meter_25 : decode cX8_meter 25 = .ok (.getfield 200, 3) := by decide +kernel
theorem dX8_meter_28 : decode cX8_meter 28 = .ok (.bipush 12, 2) := by decide +kernel
theorem dX8_meter_30 : decode cX8_meter 30 = .ok (.if_icmp .ne 6, 3) := by decide +kernel
theorem dX8_meter_33 : decode cX8_meter 33 = .ok (.bipush (-3), 2) := by decide +kernel
theorem dX8_meter_35 : decode cX8_meter 35 = .ok (.ireturn, 1) := by decide +kernel
theorem dX8_meter_36 : decode cX8_meter 36 = .ok (.aload_n 0, 1) := by decide +kernel
theorem dX8_meter_37 : decode cX8_meter 37 = .ok (.getfield 85, 3) := by decide +kernel
theorem dX8_meter_40 : decode cX8_meter 40 = .ok (.aload_n 0, 1) := by decide +kernel
theorem dX8_meter_41 : decode cX8_meter 41 = .ok (.getfield 200, 3) := by decide +kernel
theorem dX8_meter_44 : decode cX8_meter 44 = .ok (.iload_n 1, 1) := by decide +kernel
theorem dX8_meter_45 : decode cX8_meter 45 = .ok (.iastore, 1) := by decide +kernel
theorem dX8_meter_46 : decode cX8_meter 46 = .ok (.aload_n 0, 1) := by decide +kernel
theorem dX8_meter_47 : decode cX8_meter 47 = .ok (.getfield 88, 3) := by decide +kernel
theorem dX8_meter_50 : decode cX8_meter 50 = .ok (.aload_n 0, 1) := by decide +kernel
theorem dX8_meter_51 : decode cX8_meter 51 = .ok (.getfield 200, 3) := by decide +kernel
theorem dX8_meter_54 : decode cX8_meter 54 = .ok (.iconst 0, 1) := by decide +kernel
theorem dX8_meter_55 : decode cX8_meter 55 = .ok (.bastore, 1) := by decide +kernel
theorem dX8_meter_56 : decode cX8_meter 56 = .ok (.aload_n 0, 1) := by decide +kernel
theorem dX8_meter_57 : decode cX8_meter 57 = .ok (.dup, 1) := by decide +kernel
theorem dX8_meter_58 : decode cX8_meter 58 = .ok (.getfield 200, 3) := by decide +kernel
theorem dX8_meter_61 : decode cX8_meter 61 = .ok (.iconst 1, 1) := by decide +kernel
theorem dX8_meter_62 : decode cX8_meter 62 = .ok (.iadd, 1) := by decide +kernel
theorem dX8_meter_63 : decode cX8_meter 63 = .ok (.putfield 200, 3) := by decide +kernel
theorem dX8_meter_66 : decode cX8_meter 66 = .ok (.aload_n 0, 1) := by decide +kernel
theorem dX8_meter_67 : decode cX8_meter 67 = .ok (.getfield 200, 3) := by decide +kernel
theorem dX8_meter_70 : decode cX8_meter 70 = .ok (.iconst 1, 1) := by decide +kernel
theorem dX8_meter_71 : decode cX8_meter 71 = .ok (.isub, 1) := by decide +kernel
theorem dX8_meter_72 : decode cX8_meter 72 = .ok (.ireturn, 1) := by decide +kernel
theorem dX8_isMeter_0 : decode cX8_isMeter 0 = .ok (.iload_n 1, 1) := by decide +kernel
theorem dX8_isMeter_1 : decode cX8_isMeter 1 = .ok (.i2l, 1) := by decide +kernel
theorem dX8_isMeter_2 : decode cX8_isMeter 2 = .ok (.lconst 0, 1) := by decide +kernel
theorem dX8_isMeter_3 : decode cX8_isMeter 3 = .ok (.aload_n 0, 1) := by decide +kernel
theorem dX8_isMeter_4 : decode cX8_isMeter 4 = .ok (.getfield 200, 3) := by decide +kernel
theorem dX8_isMeter_7 : decode cX8_isMeter 7 = .ok (.iconst 1, 1) := by decide +kernel
theorem dX8_isMeter_8 : decode cX8_isMeter 8 = .ok (.isub, 1) := by decide +kernel
theorem dX8_isMeter_9 : decode cX8_isMeter 9 = .ok (.i2l, 1) := by decide +kernel
theorem dX8_isMeter_10 : decode cX8_isMeter 10 = .ok (.invokestatic 102, 3) := by decide +kernel
theorem dX8_isMeter_13 : decode cX8_isMeter 13 = .ok (.ireturn, 1) := by decide +kernel
theorem dX8_reads_0 : decode cX8_reads 0 = .ok (.aload_n 0, 1) := by decide +kernel
theorem dX8_reads_1 : decode cX8_reads 1 = .ok (.iload_n 1, 1) := by decide +kernel
theorem dX8_reads_2 : decode cX8_reads 2 = .ok (.invokevirtual 203, 3) := by decide +kernel
theorem dX8_reads_5 : decode cX8_reads 5 = .ok (.ifCond .eq 17, 3) := by decide +kernel
theorem dX8_reads_8 : decode cX8_reads 8 = .ok (.iload_n 2, 1) := by decide +kernel
theorem dX8_reads_9 : decode cX8_reads 9 = .ok (.i2l, 1) := by decide +kernel
theorem dX8_reads_10 : decode cX8_reads 10 = .ok (.ldc2_w 206, 3) := by decide +kernel
theorem dX8_reads_13 : decode cX8_reads 13 = .ok (.ldc2_w 208, 3) := by decide +kernel
theorem dX8_reads_16 : decode cX8_reads 16 = .ok (.invokestatic 102, 3) := by decide +kernel
theorem dX8_reads_19 : decode cX8_reads 19 = .ok (.ifCond .ne 5, 3) := by decide +kernel
theorem dX8_reads_22 : decode cX8_reads 22 = .ok (.iconst (-1), 1) := by decide +kernel
theorem dX8_reads_23 : decode cX8_reads 23 = .ok (.ireturn, 1) := by decide +kernel
theorem dX8_reads_24 : decode cX8_reads 24 = .ok (.aload_n 0, 1) := by decide +kernel
theorem dX8_reads_25 : decode cX8_reads 25 = .ok (.getfield 88, 3) := by decide +kernel
theorem dX8_reads_28 : decode cX8_reads 28 = .ok (.iload_n 1, 1) := by decide +kernel
theorem dX8_reads_29 : decode cX8_reads 29 = .ok (.iconst 1, 1) := by decide +kernel
theorem dX8_reads_30 : decode cX8_reads 30 = .ok (.bastore, 1) := by decide +kernel
theorem dX8_reads_31 : decode cX8_reads 31 = .ok (.aload_n 0, 1) := by decide +kernel
theorem dX8_reads_32 : decode cX8_reads 32 = .ok (.getfield 91, 3) := by decide +kernel
theorem dX8_reads_35 : decode cX8_reads 35 = .ok (.iload_n 1, 1) := by decide +kernel
theorem dX8_reads_36 : decode cX8_reads 36 = .ok (.iload_n 2, 1) := by decide +kernel
theorem dX8_reads_37 : decode cX8_reads 37 = .ok (.iastore, 1) := by decide +kernel
theorem dX8_reads_38 : decode cX8_reads 38 = .ok (.iconst 1, 1) := by decide +kernel
theorem dX8_reads_39 : decode cX8_reads 39 = .ok (.ireturn, 1) := by decide +kernel
theorem dX8_loses_0 : decode cX8_loses 0 = .ok (.aload_n 0, 1) := by decide +kernel
theorem dX8_loses_1 : decode cX8_loses 1 = .ok (.iload_n 1, 1) := by decide +kernel
theorem dX8_loses_2 : decode cX8_loses 2 = .ok (.invokevirtual 203, 3) := by decide +kernel
theorem dX8_loses_5 : decode cX8_loses 5 = .ok (.ifCond .ne 5, 3) := by decide +kernel
theorem dX8_loses_8 : decode cX8_loses 8 = .ok (.iconst (-1), 1) := by decide +kernel
theorem dX8_loses_9 : decode cX8_loses 9 = .ok (.ireturn, 1) := by decide +kernel
theorem dX8_loses_10 : decode cX8_loses 10 = .ok (.aload_n 0, 1) := by decide +kernel
theorem dX8_loses_11 : decode cX8_loses 11 = .ok (.getfield 88, 3) := by decide +kernel
theorem dX8_loses_14 : decode cX8_loses 14 = .ok (.iload_n 1, 1) := by decide +kernel
theorem dX8_loses_15 : decode cX8_loses 15 = .ok (.baload, 1) := by decide +kernel
theorem dX8_loses_16 : decode cX8_loses 16 = .ok (.ifCond .eq 7, 3) := by decide +kernel
theorem dX8_loses_19 : decode cX8_loses 19 = .ok (.iconst 1, 1) := by decide +kernel
theorem dX8_loses_20 : decode cX8_loses 20 = .ok (.goto 4, 3) := by decide +kernel
theorem dX8_loses_23 : decode cX8_loses 23 = .ok (.iconst 0, 1) := by decide +kernel
theorem dX8_loses_24 : decode cX8_loses 24 = .ok (.istore_n 2, 1) := by decide +kernel
theorem dX8_loses_25 : decode cX8_loses 25 = .ok (.aload_n 0, 1) := by decide +kernel
theorem dX8_loses_26 : decode cX8_loses 26 = .ok (.getfield 88, 3) := by decide +kernel
theorem dX8_loses_29 : decode cX8_loses 29 = .ok (.iload_n 1, 1) := by decide +kernel
theorem dX8_loses_30 : decode cX8_loses 30 = .ok (.iconst 0, 1) := by decide +kernel
theorem dX8_loses_31 : decode cX8_loses 31 = .ok (.bastore, 1) := by decide +kernel
theorem dX8_loses_32 : decode cX8_loses 32 = .ok (.iload_n 2, 1) := by decide +kernel
theorem dX8_loses_33 : decode cX8_loses 33 = .ok (.ireturn, 1) := by decide +kernel
theorem dX8_areKnown_0 : decode cX8_areKnown 0 = .ok (.iconst 1, 1) := by decide +kernel
theorem dX8_areKnown_1 : decode cX8_areKnown 1 = .ok (.istore 4, 2) := by decide +kernel
theorem dX8_areKnown_3 : decode cX8_areKnown 3 = .ok (.iconst 0, 1) := by decide +kernel
theorem dX8_areKnown_4 : decode cX8_areKnown 4 = .ok (.istore 5, 2) := by decide +kernel
theorem dX8_areKnown_6 : decode cX8_areKnown 6 = .ok (.aload_n 0, 1) := by decide +kernel
theorem dX8_areKnown_7 : decode cX8_areKnown 7 = .ok (.iconst 0, 1) := by decide +kernel
theorem dX8_areKnown_8 : decode cX8_areKnown 8 = .ok (.putfield 210, 3) := by decide +kernel
theorem dX8_areKnown_11 : decode cX8_areKnown 11 = .ok (.iconst 0, 1) := by decide +kernel
theorem dX8_areKnown_12 : decode cX8_areKnown 12 = .ok (.istore 6, 2) := by decide +kernel
theorem dX8_areKnown_14 : decode cX8_areKnown 14 = .ok (.iload 6, 2) := by decide +kernel
theorem dX8_areKnown_16 : decode cX8_areKnown 16 = .ok (.aload_n 0, 1) := by decide +kernel
theorem dX8_areKnown_17 : decode cX8_areKnown 17 = .ok (.getfield 200, 3) := by decide +kernel
theorem dX8_areKnown_20 : decode cX8_areKnown 20 = .ok (.if_icmp .ge 81, 3) := by decide +kernel
theorem dX8_areKnown_23 : decode cX8_areKnown 23 = .ok (.aload_n 0, 1) := by decide +kernel
theorem dX8_areKnown_24 : decode cX8_areKnown 24 = .ok (.getfield 85, 3) := by decide +kernel
theorem dX8_areKnown_27 : decode cX8_areKnown 27 = .ok (.iload 6, 2) := by decide +kernel
theorem dX8_areKnown_29 : decode cX8_areKnown 29 = .ok (.iaload, 1) := by decide +kernel
theorem dX8_areKnown_30 : decode cX8_areKnown 30 = .ok (.iload_n 1, 1) := by decide +kernel
theorem dX8_areKnown_31 : decode cX8_areKnown 31 = .ok (.if_icmp .ne 64, 3) := by decide +kernel
theorem dX8_areKnown_34 : decode cX8_areKnown 34 = .ok (.iload 6, 2) := by decide +kernel
theorem dX8_areKnown_36 : decode cX8_areKnown 36 = .ok (.iload_n 2, 1) := by decide +kernel
theorem dX8_areKnown_37 : decode cX8_areKnown 37 = .ok (.if_icmp .eq 58, 3) := by decide +kernel
theorem dX8_areKnown_40 : decode cX8_areKnown 40 = .ok (.iinc 5 1, 3) := by decide +kernel
theorem dX8_areKnown_43 : decode cX8_areKnown 43 = .ok (.iload 4, 2) := by decide +kernel
theorem dX8_areKnown_45 : decode cX8_areKnown 45 = .ok (.ifCond .eq 17, 3) := by decide +kernel
theorem dX8_areKnown_48 : decode cX8_areKnown 48 = .ok (.aload_n 0, 1) := by decide +kernel
theorem dX8_areKnown_49 : decode cX8_areKnown 49 = .ok (.getfield 94, 3) := by decide +kernel
theorem dX8_areKnown_52 : decode cX8_areKnown 52 = .ok (.iload 6, 2) := by decide +kernel
theorem dX8_areKnown_54 : decode cX8_areKnown 54 = .ok (.baload, 1) := by decide +kernel
theorem dX8_areKnown_55 : decode cX8_areKnown 55 = .ok (.ifCond .eq 7, 3) := by decide +kernel
theorem dX8_areKnown_58 : decode cX8_areKnown 58 = .ok (.iconst 1, 1) := by decide +kernel
theorem dX8_areKnown_59 : decode cX8_areKnown 59 = .ok (.goto 4, 3) := by decide +kernel
theorem dX8_areKnown_62 : decode cX8_areKnown 62 = .ok (.iconst 0, 1) := by decide +kernel
theorem dX8_areKnown_63 : decode cX8_areKnown 63 = .ok (.istore 4, 2) := by decide +kernel
theorem dX8_areKnown_65 : decode cX8_areKnown 65 = .ok (.aload_n 0, 1) := by decide +kernel
theorem dX8_areKnown_66 : decode cX8_areKnown 66 = .ok (.dup, 1) := by decide +kernel
theorem dX8_areKnown_67 : decode cX8_areKnown 67 = .ok (.getfield 210, 3) := by decide +kernel
theorem dX8_areKnown_70 : decode cX8_areKnown 70 = .ok (.aload_n 0, 1) := by decide +kernel
theorem dX8_areKnown_71 : decode cX8_areKnown 71 = .ok (.getfield 94, 3) := by decide +kernel
theorem dX8_areKnown_74 : decode cX8_areKnown 74 = .ok (.iload 6, 2) := by decide +kernel
theorem dX8_areKnown_76 : decode cX8_areKnown 76 = .ok (.baload, 1) := by decide +kernel
theorem dX8_areKnown_77 : decode cX8_areKnown 77 = .ok (.ifCond .eq 13, 3) := by decide +kernel
theorem dX8_areKnown_80 : decode cX8_areKnown 80 = .ok (.aload_n 0, 1) := by decide +kernel
theorem dX8_areKnown_81 : decode cX8_areKnown 81 = .ok (.getfield 97, 3) := by decide +kernel
theorem dX8_areKnown_84 : decode cX8_areKnown 84 = .ok (.iload 6, 2) := by decide +kernel
theorem dX8_areKnown_86 : decode cX8_areKnown 86 = .ok (.iaload, 1) := by decide +kernel
theorem dX8_areKnown_87 : decode cX8_areKnown 87 = .ok (.goto 4, 3) := by decide +kernel
theorem dX8_areKnown_90 : decode cX8_areKnown 90 = .ok (.iconst 0, 1) := by decide +kernel
theorem dX8_areKnown_91 : decode cX8_areKnown 91 = .ok (.iadd, 1) := by decide +kernel
theorem dX8_areKnown_92 : decode cX8_areKnown 92 = .ok (.putfield 210, 3) := by decide +kernel
theorem dX8_areKnown_95 : decode cX8_areKnown 95 = .ok (.iinc 6 1, 3) := by decide +kernel
theorem dX8_areKnown_98 : decode cX8_areKnown 98 = .ok (.goto (-84), 3) := by decide +kernel
theorem dX8_areKnown_101 : decode cX8_areKnown 101 = .ok (.iload 4, 2) := by decide +kernel
theorem dX8_areKnown_103 : decode cX8_areKnown 103 = .ok (.ifCond .eq 13, 3) := by decide +kernel
theorem dX8_areKnown_106 : decode cX8_areKnown 106 = .ok (.iload 5, 2) := by decide +kernel
theorem dX8_areKnown_108 : decode cX8_areKnown 108 = .ok (.iload_n 3, 1) := by decide +kernel
theorem dX8_areKnown_109 : decode cX8_areKnown 109 = .ok (.if_icmp .lt 7, 3) := by decide +kernel
theorem dX8_areKnown_112 : decode cX8_areKnown 112 = .ok (.iconst 1, 1) := by decide +kernel
theorem dX8_areKnown_113 : decode cX8_areKnown 113 = .ok (.goto 4, 3) := by decide +kernel
theorem dX8_areKnown_116 : decode cX8_areKnown 116 = .ok (.iconst 0, 1) := by decide +kernel
theorem dX8_areKnown_117 : decode cX8_areKnown 117 = .ok (.ireturn, 1) := by decide +kernel
theorem dX8_know_0 : decode cX8_know 0 = .ok (.iconst 0, 1) := by decide +kernel
theorem dX8_know_1 : decode cX8_know 1 = .ok (.istore_n 1, 1) := by decide +kernel
theorem dX8_know_2 : decode cX8_know 2 = .ok (.iload_n 1, 1) := by decide +kernel
theorem dX8_know_3 : decode cX8_know 3 = .ok (.aload_n 0, 1) := by decide +kernel
theorem dX8_know_4 : decode cX8_know 4 = .ok (.getfield 200, 3) := by decide +kernel
theorem dX8_know_7 : decode cX8_know 7 = .ok (.if_icmp .ge 33, 3) := by decide +kernel
theorem dX8_know_10 : decode cX8_know 10 = .ok (.aload_n 0, 1) := by decide +kernel
theorem dX8_know_11 : decode cX8_know 11 = .ok (.getfield 94, 3) := by decide +kernel
theorem dX8_know_14 : decode cX8_know 14 = .ok (.iload_n 1, 1) := by decide +kernel
theorem dX8_know_15 : decode cX8_know 15 = .ok (.aload_n 0, 1) := by decide +kernel
theorem dX8_know_16 : decode cX8_know 16 = .ok (.getfield 88, 3) := by decide +kernel
theorem dX8_know_19 : decode cX8_know 19 = .ok (.iload_n 1, 1) := by decide +kernel
theorem dX8_know_20 : decode cX8_know 20 = .ok (.baload, 1) := by decide +kernel
theorem dX8_know_21 : decode cX8_know 21 = .ok (.bastore, 1) := by decide +kernel
theorem dX8_know_22 : decode cX8_know 22 = .ok (.aload_n 0, 1) := by decide +kernel
theorem dX8_know_23 : decode cX8_know 23 = .ok (.getfield 97, 3) := by decide +kernel
theorem dX8_know_26 : decode cX8_know 26 = .ok (.iload_n 1, 1) := by decide +kernel
theorem dX8_know_27 : decode cX8_know 27 = .ok (.aload_n 0, 1) := by decide +kernel
theorem dX8_know_28 : decode cX8_know 28 = .ok (.getfield 91, 3) := by decide +kernel
theorem dX8_know_31 : decode cX8_know 31 = .ok (.iload_n 1, 1) := by decide +kernel
theorem dX8_know_32 : decode cX8_know 32 = .ok (.iaload, 1) := by decide +kernel
theorem dX8_know_33 : decode cX8_know 33 = .ok (.iastore, 1) := by decide +kernel
theorem dX8_know_34 : decode cX8_know 34 = .ok (.iinc 1 1, 3) := by decide +kernel
theorem dX8_know_37 : decode cX8_know 37 = .ok (.goto (-35), 3) := by decide +kernel
theorem dX8_know_40 : decode cX8_know 40 = .ok (.iconst 1, 1) := by decide +kernel
theorem dX8_know_41 : decode cX8_know 41 = .ok (.istore_n 1, 1) := by decide +kernel
theorem dX8_know_42 : decode cX8_know 42 = .ok (.iload_n 1, 1) := by decide +kernel
theorem dX8_know_43 : decode cX8_know 43 = .ok (.ifCond .eq 152, 3) := by decide +kernel
theorem dX8_know_46 : decode cX8_know 46 = .ok (.iconst 0, 1) := by decide +kernel
theorem dX8_know_47 : decode cX8_know 47 = .ok (.istore_n 1, 1) := by decide +kernel
theorem dX8_know_48 : decode cX8_know 48 = .ok (.iconst 0, 1) := by decide +kernel
theorem dX8_know_49 : decode cX8_know 49 = .ok (.istore_n 2, 1) := by decide +kernel
theorem dX8_know_50 : decode cX8_know 50 = .ok (.iload_n 2, 1) := by decide +kernel
theorem dX8_know_51 : decode cX8_know 51 = .ok (.aload_n 0, 1) := by decide +kernel
theorem dX8_know_52 : decode cX8_know 52 = .ok (.getfield 200, 3) := by decide +kernel
theorem dX8_know_55 : decode cX8_know 55 = .ok (.if_icmp .ge 137, 3) := by decide +kernel
theorem dX8_know_58 : decode cX8_know 58 = .ok (.aload_n 0, 1) := by decide +kernel
theorem dX8_know_59 : decode cX8_know 59 = .ok (.getfield 94, 3) := by decide +kernel
theorem dX8_know_62 : decode cX8_know 62 = .ok (.iload_n 2, 1) := by decide +kernel
theorem dX8_know_63 : decode cX8_know 63 = .ok (.baload, 1) := by decide +kernel
theorem dX8_know_64 : decode cX8_know 64 = .ok (.ifCond .ne 122, 3) := by decide +kernel
theorem dX8_know_67 : decode cX8_know 67 = .ok (.aload_n 0, 1) := by decide +kernel
theorem dX8_know_68 : decode cX8_know 68 = .ok (.iload_n 2, 1) := by decide +kernel
theorem dX8_know_69 : decode cX8_know 69 = .ok (.bipush (-4), 2) := by decide +kernel
theorem dX8_know_71 : decode cX8_know 71 = .ok (.iconst 1, 1) := by decide +kernel
theorem dX8_know_72 : decode cX8_know 72 = .ok (.invokevirtual 213, 3) := by decide +kernel
theorem dX8_know_75 : decode cX8_know 75 = .ok (.ifCond .eq 23, 3) := by decide +kernel
theorem dX8_know_78 : decode cX8_know 78 = .ok (.aload_n 0, 1) := by decide +kernel
theorem dX8_know_79 : decode cX8_know 79 = .ok (.getfield 94, 3) := by decide +kernel
theorem dX8_know_82 : decode cX8_know 82 = .ok (.iload_n 2, 1) := by decide +kernel
theorem dX8_know_83 : decode cX8_know 83 = .ok (.iconst 1, 1) := by decide +kernel
theorem dX8_know_84 : decode cX8_know 84 = .ok (.bastore, 1) := by decide +kernel
theorem dX8_know_85 : decode cX8_know 85 = .ok (.aload_n 0, 1) := by decide +kernel
theorem dX8_know_86 : decode cX8_know 86 = .ok (.getfield 97, 3) := by decide +kernel
theorem dX8_know_89 : decode cX8_know 89 = .ok (.iload_n 2, 1) := by decide +kernel
theorem dX8_know_90 : decode cX8_know 90 = .ok (.aload_n 0, 1) := by decide +kernel
theorem dX8_know_91 : decode cX8_know 91 = .ok (.getfield 210, 3) := by decide +kernel
theorem dX8_know_94 : decode cX8_know 94 = .ok (.iastore, 1) := by decide +kernel
theorem dX8_know_95 : decode cX8_know 95 = .ok (.goto 72, 3) := by decide +kernel
theorem dX8_know_98 : decode cX8_know 98 = .ok (.aload_n 0, 1) := by decide +kernel
theorem dX8_know_99 : decode cX8_know 99 = .ok (.getfield 85, 3) := by decide +kernel
theorem dX8_know_102 : decode cX8_know 102 = .ok (.iload_n 2, 1) := by decide +kernel
theorem dX8_know_103 : decode cX8_know 103 = .ok (.iaload, 1) := by decide +kernel
theorem dX8_know_104 : decode cX8_know 104 = .ok (.bipush (-4), 2) := by decide +kernel
theorem dX8_know_106 : decode cX8_know 106 = .ok (.if_icmp .eq 61, 3) := by decide +kernel
theorem dX8_know_109 : decode cX8_know 109 = .ok (.aload_n 0, 1) := by decide +kernel
theorem dX8_know_110 : decode cX8_know 110 = .ok (.getfield 94, 3) := by decide +kernel
theorem dX8_know_113 : decode cX8_know 113 = .ok (.aload_n 0, 1) := by decide +kernel
theorem dX8_know_114 : decode cX8_know 114 = .ok (.getfield 85, 3) := by decide +kernel
theorem dX8_know_117 : decode cX8_know 117 = .ok (.iload_n 2, 1) := by decide +kernel
theorem dX8_know_118 : decode cX8_know 118 = .ok (.iaload, 1) := by decide +kernel
theorem dX8_know_119 : decode cX8_know 119 = .ok (.baload, 1) := by decide +kernel
theorem dX8_know_120 : decode cX8_know 120 = .ok (.ifCond .eq 47, 3) := by decide +kernel
theorem dX8_know_123 : decode cX8_know 123 = .ok (.aload_n 0, 1) := by decide +kernel
theorem dX8_know_124 : decode cX8_know 124 = .ok (.aload_n 0, 1) := by decide +kernel
theorem dX8_know_125 : decode cX8_know 125 = .ok (.getfield 85, 3) := by decide +kernel
theorem dX8_know_128 : decode cX8_know 128 = .ok (.iload_n 2, 1) := by decide +kernel
theorem dX8_know_129 : decode cX8_know 129 = .ok (.iaload, 1) := by decide +kernel
theorem dX8_know_130 : decode cX8_know 130 = .ok (.iload_n 2, 1) := by decide +kernel
theorem dX8_know_131 : decode cX8_know 131 = .ok (.iconst 0, 1) := by decide +kernel
theorem dX8_know_132 : decode cX8_know 132 = .ok (.invokevirtual 213, 3) := by decide +kernel
theorem dX8_know_135 : decode cX8_know 135 = .ok (.ifCond .eq 32, 3) := by decide +kernel
theorem dX8_know_138 : decode cX8_know 138 = .ok (.aload_n 0, 1) := by decide +kernel
theorem dX8_know_139 : decode cX8_know 139 = .ok (.getfield 94, 3) := by decide +kernel
theorem dX8_know_142 : decode cX8_know 142 = .ok (.iload_n 2, 1) := by decide +kernel
theorem dX8_know_143 : decode cX8_know 143 = .ok (.iconst 1, 1) := by decide +kernel
theorem dX8_know_144 : decode cX8_know 144 = .ok (.bastore, 1) := by decide +kernel
theorem dX8_know_145 : decode cX8_know 145 = .ok (.aload_n 0, 1) := by decide +kernel
theorem dX8_know_146 : decode cX8_know 146 = .ok (.getfield 97, 3) := by decide +kernel
theorem dX8_know_149 : decode cX8_know 149 = .ok (.iload_n 2, 1) := by decide +kernel
theorem dX8_know_150 : decode cX8_know 150 = .ok (.aload_n 0, 1) := by decide +kernel
theorem dX8_know_151 : decode cX8_know 151 = .ok (.getfield 97, 3) := by decide +kernel
theorem dX8_know_154 : decode cX8_know 154 = .ok (.aload_n 0, 1) := by decide +kernel
theorem dX8_know_155 : decode cX8_know 155 = .ok (.getfield 85, 3) := by decide +kernel
theorem dX8_know_158 : decode cX8_know 158 = .ok (.iload_n 2, 1) := by decide +kernel
theorem dX8_know_159 : decode cX8_know 159 = .ok (.iaload, 1) := by decide +kernel
theorem dX8_know_160 : decode cX8_know 160 = .ok (.iaload, 1) := by decide +kernel
theorem dX8_know_161 : decode cX8_know 161 = .ok (.aload_n 0, 1) := by decide +kernel
theorem dX8_know_162 : decode cX8_know 162 = .ok (.getfield 210, 3) := by decide +kernel
theorem dX8_know_165 : decode cX8_know 165 = .ok (.isub, 1) := by decide +kernel
theorem dX8_know_166 : decode cX8_know 166 = .ok (.iastore, 1) := by decide +kernel
theorem dX8_know_167 : decode cX8_know 167 = .ok (.iload_n 1, 1) := by decide +kernel
theorem dX8_know_168 : decode cX8_know 168 = .ok (.ifCond .ne 12, 3) := by decide +kernel
theorem dX8_know_171 : decode cX8_know 171 = .ok (.aload_n 0, 1) := by decide +kernel
theorem dX8_know_172 : decode cX8_know 172 = .ok (.getfield 94, 3) := by decide +kernel
theorem dX8_know_175 : decode cX8_know 175 = .ok (.iload_n 2, 1) := by decide +kernel
theorem dX8_know_176 : decode cX8_know 176 = .ok (.baload, 1) := by decide +kernel
theorem dX8_know_177 : decode cX8_know 177 = .ok (.ifCond .eq 7, 3) := by decide +kernel
theorem dX8_know_180 : decode cX8_know 180 = .ok (.iconst 1, 1) := by decide +kernel
theorem dX8_know_181 : decode cX8_know 181 = .ok (.goto 4, 3) := by decide +kernel
theorem dX8_know_184 : decode cX8_know 184 = .ok (.iconst 0, 1) := by decide +kernel
theorem dX8_know_185 : decode cX8_know 185 = .ok (.istore_n 1, 1) := by decide +kernel
theorem dX8_know_186 : decode cX8_know 186 = .ok (.iinc 2 1, 3) := by decide +kernel
theorem dX8_know_189 : decode cX8_know 189 = .ok (.goto (-139), 3) := by decide +kernel
theorem dX8_know_192 : decode cX8_know 192 = .ok (.goto (-150), 3) := by decide +kernel
theorem dX8_know_195 : decode cX8_know 195 = .ok (.return_, 1) := by decide +kernel
theorem dX8_known_0 : decode cX8_known 0 = .ok (.aload_n 0, 1) := by decide +kernel
theorem dX8_known_1 : decode cX8_known 1 = .ok (.invokevirtual 217, 3) := by decide +kernel
theorem dX8_known_4 : decode cX8_known 4 = .ok (.aload_n 0, 1) := by decide +kernel
theorem dX8_known_5 : decode cX8_known 5 = .ok (.iload_n 1, 1) := by decide +kernel
theorem dX8_known_6 : decode cX8_known 6 = .ok (.invokevirtual 203, 3) := by decide +kernel
theorem dX8_known_9 : decode cX8_known 9 = .ok (.ifCond .eq 21, 3) := by decide +kernel
theorem dX8_known_12 : decode cX8_known 12 = .ok (.aload_n 0, 1) := by decide +kernel
theorem dX8_known_13 : decode cX8_known 13 = .ok (.getfield 94, 3) := by decide +kernel
theorem dX8_known_16 : decode cX8_known 16 = .ok (.iload_n 1, 1) := by decide +kernel
theorem dX8_known_17 : decode cX8_known 17 = .ok (.baload, 1) := by decide +kernel
theorem dX8_known_18 : decode cX8_known 18 = .ok (.ifCond .eq 12, 3) := by decide +kernel
theorem dX8_known_21 : decode cX8_known 21 = .ok (.aload_n 0, 1) := by decide +kernel
theorem dX8_known_22 : decode cX8_known 22 = .ok (.getfield 97, 3) := by decide +kernel
theorem dX8_known_25 : decode cX8_known 25 = .ok (.iload_n 1, 1) := by decide +kernel
theorem dX8_known_26 : decode cX8_known 26 = .ok (.iaload, 1) := by decide +kernel
theorem dX8_known_27 : decode cX8_known 27 = .ok (.goto 5, 3) := by decide +kernel
theorem dX8_known_30 : decode cX8_known 30 = .ok (.ldc 220, 2) := by decide +kernel
theorem dX8_known_32 : decode cX8_known 32 = .ok (.ireturn, 1) := by decide +kernel
theorem dX8_quarrel_0 : decode cX8_quarrel 0 = .ok (.aload_n 0, 1) := by decide +kernel
theorem dX8_quarrel_1 : decode cX8_quarrel 1 = .ok (.invokevirtual 217, 3) := by decide +kernel
theorem dX8_quarrel_4 : decode cX8_quarrel 4 = .ok (.iconst 0, 1) := by decide +kernel
theorem dX8_quarrel_5 : decode cX8_quarrel 5 = .ok (.istore_n 1, 1) := by decide +kernel
theorem dX8_quarrel_6 : decode cX8_quarrel 6 = .ok (.iload_n 1, 1) := by decide +kernel
theorem dX8_quarrel_7 : decode cX8_quarrel 7 = .ok (.aload_n 0, 1) := by decide +kernel
theorem dX8_quarrel_8 : decode cX8_quarrel 8 = .ok (.getfield 200, 3) := by decide +kernel
theorem dX8_quarrel_11 : decode cX8_quarrel 11 = .ok (.if_icmp .ge 44, 3) := by decide +kernel
theorem dX8_quarrel_14 : decode cX8_quarrel 14 = .ok (.aload_n 0, 1) := by decide +kernel
theorem dX8_quarrel_15 : decode cX8_quarrel 15 = .ok (.getfield 94, 3) := by decide +kernel
theorem dX8_quarrel_18 : decode cX8_quarrel 18 = .ok (.iload_n 1, 1) := by decide +kernel
theorem dX8_quarrel_19 : decode cX8_quarrel 19 = .ok (.baload, 1) := by decide +kernel
theorem dX8_quarrel_20 : decode cX8_quarrel 20 = .ok (.ifCond .eq 29, 3) := by decide +kernel
theorem dX8_quarrel_23 : decode cX8_quarrel 23 = .ok (.aload_n 0, 1) := by decide +kernel
theorem dX8_quarrel_24 : decode cX8_quarrel 24 = .ok (.iload_n 1, 1) := by decide +kernel
theorem dX8_quarrel_25 : decode cX8_quarrel 25 = .ok (.bipush (-4), 2) := by decide +kernel
theorem dX8_quarrel_27 : decode cX8_quarrel 27 = .ok (.iconst 1, 1) := by decide +kernel
theorem dX8_quarrel_28 : decode cX8_quarrel 28 = .ok (.invokevirtual 213, 3) := by decide +kernel
theorem dX8_quarrel_31 : decode cX8_quarrel 31 = .ok (.ifCond .eq 18, 3) := by decide +kernel
theorem dX8_quarrel_34 : decode cX8_quarrel 34 = .ok (.aload_n 0, 1) := by decide +kernel
theorem dX8_quarrel_35 : decode cX8_quarrel 35 = .ok (.getfield 210, 3) := by decide +kernel
theorem dX8_quarrel_38 : decode cX8_quarrel 38 = .ok (.aload_n 0, 1) := by decide +kernel
theorem dX8_quarrel_39 : decode cX8_quarrel 39 = .ok (.getfield 97, 3) := by decide +kernel
theorem dX8_quarrel_42 : decode cX8_quarrel 42 = .ok (.iload_n 1, 1) := by decide +kernel
theorem dX8_quarrel_43 : decode cX8_quarrel 43 = .ok (.iaload, 1) := by decide +kernel
theorem dX8_quarrel_44 : decode cX8_quarrel 44 = .ok (.if_icmp .eq 5, 3) := by decide +kernel
theorem dX8_quarrel_47 : decode cX8_quarrel 47 = .ok (.iload_n 1, 1) := by decide +kernel
theorem dX8_quarrel_48 : decode cX8_quarrel 48 = .ok (.ireturn, 1) := by decide +kernel
theorem dX8_quarrel_49 : decode cX8_quarrel 49 = .ok (.iinc 1 1, 3) := by decide +kernel
theorem dX8_quarrel_52 : decode cX8_quarrel 52 = .ok (.goto (-46), 3) := by decide +kernel
theorem dX8_quarrel_55 : decode cX8_quarrel 55 = .ok (.bipush (-4), 2) := by decide +kernel
theorem dX8_quarrel_57 : decode cX8_quarrel 57 = .ok (.ireturn, 1) := by decide +kernel
theorem dX8_count_0 : decode cX8_count 0 = .ok (.iload_n 1, 1) := by decide +kernel
theorem dX8_count_1 : decode cX8_count 1 = .ok (.tableswitch 150 0 8 #[51, 56, 61, 66, 71, 76, 117, 140, 145], 51) := by decide +kernel
theorem dX8_count_52 : decode cX8_count 52 = .ok (.aload_n 0, 1) := by decide +kernel
theorem dX8_count_53 : decode cX8_count 53 = .ok (.getfield 112, 3) := by decide +kernel
theorem dX8_count_56 : decode cX8_count 56 = .ok (.ireturn, 1) := by decide +kernel
theorem dX8_count_57 : decode cX8_count 57 = .ok (.aload_n 0, 1) := by decide +kernel
theorem dX8_count_58 : decode cX8_count 58 = .ok (.getfield 164, 3) := by decide +kernel
theorem dX8_count_61 : decode cX8_count 61 = .ok (.ireturn, 1) := by decide +kernel
theorem dX8_count_62 : decode cX8_count 62 = .ok (.aload_n 0, 1) := by decide +kernel
theorem dX8_count_63 : decode cX8_count 63 = .ok (.getfield 149, 3) := by decide +kernel
theorem dX8_count_66 : decode cX8_count 66 = .ok (.ireturn, 1) := by decide +kernel
theorem dX8_count_67 : decode cX8_count 67 = .ok (.aload_n 0, 1) := by decide +kernel
theorem dX8_count_68 : decode cX8_count 68 = .ok (.getfield 194, 3) := by decide +kernel
theorem dX8_count_71 : decode cX8_count 71 = .ok (.ireturn, 1) := by decide +kernel
theorem dX8_count_72 : decode cX8_count 72 = .ok (.aload_n 0, 1) := by decide +kernel
theorem dX8_count_73 : decode cX8_count 73 = .ok (.getfield 200, 3) := by decide +kernel
theorem dX8_count_76 : decode cX8_count 76 = .ok (.ireturn, 1) := by decide +kernel
theorem dX8_count_77 : decode cX8_count 77 = .ok (.aload_n 0, 1) := by decide +kernel
theorem dX8_count_78 : decode cX8_count 78 = .ok (.invokevirtual 217, 3) := by decide +kernel
theorem dX8_count_81 : decode cX8_count 81 = .ok (.iconst 0, 1) := by decide +kernel
theorem dX8_count_82 : decode cX8_count 82 = .ok (.istore_n 2, 1) := by decide +kernel
theorem dX8_count_83 : decode cX8_count 83 = .ok (.iconst 0, 1) := by decide +kernel
theorem dX8_count_84 : decode cX8_count 84 = .ok (.istore_n 3, 1) := by decide +kernel
theorem dX8_count_85 : decode cX8_count 85 = .ok (.iload_n 3, 1) := by decide +kernel
theorem dX8_count_86 : decode cX8_count 86 = .ok (.aload_n 0, 1) := by decide +kernel
theorem dX8_count_87 : decode cX8_count 87 = .ok (.getfield 200, 3) := by decide +kernel
theorem dX8_count_90 : decode cX8_count 90 = .ok (.if_icmp .ge 26, 3) := by decide +kernel
theorem dX8_count_93 : decode cX8_count 93 = .ok (.iload_n 2, 1) := by decide +kernel
theorem dX8_count_94 : decode cX8_count 94 = .ok (.aload_n 0, 1) := by decide +kernel
theorem dX8_count_95 : decode cX8_count 95 = .ok (.getfield 94, 3) := by decide +kernel
theorem dX8_count_98 : decode cX8_count 98 = .ok (.iload_n 3, 1) := by decide +kernel
theorem dX8_count_99 : decode cX8_count 99 = .ok (.baload, 1) := by decide +kernel
theorem dX8_count_100 : decode cX8_count 100 = .ok (.ifCond .eq 7, 3) := by decide +kernel
theorem dX8_count_103 : decode cX8_count 103 = .ok (.iconst 1, 1) := by decide +kernel
theorem dX8_count_104 : decode cX8_count 104 = .ok (.goto 4, 3) := by decide +kernel
theorem dX8_count_107 : decode cX8_count 107 = .ok (.iconst 0, 1) := by decide +kernel
theorem dX8_count_108 : decode cX8_count 108 = .ok (.iadd, 1) := by decide +kernel
theorem dX8_count_109 : decode cX8_count 109 = .ok (.istore_n 2, 1) := by decide +kernel
theorem dX8_count_110 : decode cX8_count 110 = .ok (.iinc 3 1, 3) := by decide +kernel
theorem dX8_count_113 : decode cX8_count 113 = .ok (.goto (-28), 3) := by decide +kernel
theorem dX8_count_116 : decode cX8_count 116 = .ok (.iload_n 2, 1) := by decide +kernel
theorem dX8_count_117 : decode cX8_count 117 = .ok (.ireturn, 1) := by decide +kernel
theorem dX8_count_118 : decode cX8_count 118 = .ok (.aload_n 0, 1) := by decide +kernel
theorem dX8_count_119 : decode cX8_count 119 = .ok (.getfield 47, 3) := by decide +kernel
theorem dX8_count_122 : decode cX8_count 122 = .ok (.iconst 0, 1) := by decide +kernel
theorem dX8_count_123 : decode cX8_count 123 = .ok (.iaload, 1) := by decide +kernel
theorem dX8_count_124 : decode cX8_count 124 = .ok (.bipush (-4), 2) := by decide +kernel
theorem dX8_count_126 : decode cX8_count 126 = .ok (.if_icmp .ne 8, 3) := by decide +kernel
theorem dX8_count_129 : decode cX8_count 129 = .ok (.bipush (-4), 2) := by decide +kernel
theorem dX8_count_131 : decode cX8_count 131 = .ok (.goto 9, 3) := by decide +kernel
theorem dX8_count_134 : decode cX8_count 134 = .ok (.aload_n 0, 1) := by decide +kernel
theorem dX8_count_135 : decode cX8_count 135 = .ok (.getfield 50, 3) := by decide +kernel
theorem dX8_count_138 : decode cX8_count 138 = .ok (.iconst 0, 1) := by decide +kernel
theorem dX8_count_139 : decode cX8_count 139 = .ok (.iaload, 1) := by decide +kernel
theorem dX8_count_140 : decode cX8_count 140 = .ok (.ireturn, 1) := by decide +kernel
theorem dX8_count_141 : decode cX8_count 141 = .ok (.aload_n 0, 1) := by decide +kernel
theorem dX8_count_142 : decode cX8_count 142 = .ok (.getfield 25, 3) := by decide +kernel
theorem dX8_count_145 : decode cX8_count 145 = .ok (.ireturn, 1) := by decide +kernel
theorem dX8_count_146 : decode cX8_count 146 = .ok (.aload_n 0, 1) := by decide +kernel
theorem dX8_count_147 : decode cX8_count 147 = .ok (.getfield 29, 3) := by decide +kernel
theorem dX8_count_150 : decode cX8_count 150 = .ok (.ireturn, 1) := by decide +kernel
theorem dX8_count_151 : decode cX8_count 151 = .ok (.iconst (-1), 1) := by decide +kernel
theorem dX8_count_152 : decode cX8_count 152 = .ok (.ireturn, 1) := by decide +kernel
