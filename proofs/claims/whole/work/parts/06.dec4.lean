theorem dX11_readLine_147 : decode mX11_readLine.2.1 147 = .ok (.goto (-21), 3) := by decide +kernel
theorem dX11_readLine_150 : decode mX11_readLine.2.1 150 = .ok (.aload_n 0, 1) := by decide +kernel
theorem dX11_readLine_151 : decode mX11_readLine.2.1 151 = .ok (.getfield 311, 3) := by decide +kernel
theorem dX11_readLine_154 : decode mX11_readLine.2.1 154 = .ok (.ifCond .le 4, 3) := by decide +kernel
theorem dX11_readLine_157 : decode mX11_readLine.2.1 157 = .ok (.return_, 1) := by decide +kernel
theorem dX11_readLine_158 : decode mX11_readLine.2.1 158 = .ok (.aload_n 0, 1) := by decide +kernel
theorem dX11_readLine_159 : decode mX11_readLine.2.1 159 = .ok (.invokevirtual 324, 3) := by decide +kernel
theorem dX11_readLine_162 : decode mX11_readLine.2.1 162 = .ok (.aload_n 0, 1) := by decide +kernel
theorem dX11_readLine_163 : decode mX11_readLine.2.1 163 = .ok (.dup, 1) := by decide +kernel
theorem dX11_readLine_164 : decode mX11_readLine.2.1 164 = .ok (.getfield 357, 3) := by decide +kernel
theorem dX11_readLine_167 : decode mX11_readLine.2.1 167 = .ok (.iconst 1, 1) := by decide +kernel
theorem dX11_readLine_168 : decode mX11_readLine.2.1 168 = .ok (.iadd, 1) := by decide +kernel
theorem dX11_readLine_169 : decode mX11_readLine.2.1 169 = .ok (.putfield 357, 3) := by decide +kernel
theorem dX11_readLine_172 : decode mX11_readLine.2.1 172 = .ok (.aload_n 0, 1) := by decide +kernel
theorem dX11_readLine_173 : decode mX11_readLine.2.1 173 = .ok (.getfield 72, 3) := by decide +kernel
theorem dX11_readLine_176 : decode mX11_readLine.2.1 176 = .ok (.aload_n 0, 1) := by decide +kernel
theorem dX11_readLine_177 : decode mX11_readLine.2.1 177 = .ok (.getfield 357, 3) := by decide +kernel
theorem dX11_readLine_180 : decode mX11_readLine.2.1 180 = .ok (.aload_n 0, 1) := by decide +kernel
theorem dX11_readLine_181 : decode mX11_readLine.2.1 181 = .ok (.getfield 344, 3) := by decide +kernel
theorem dX11_readLine_184 : decode mX11_readLine.2.1 184 = .ok (.iastore, 1) := by decide +kernel
theorem dX11_readLine_185 : decode mX11_readLine.2.1 185 = .ok (.return_, 1) := by decide +kernel
theorem dX11_feed_0 : decode mX11_feed.2.1 0 = .ok (.aload_n 0, 1) := by decide +kernel
theorem dX11_feed_1 : decode mX11_feed.2.1 1 = .ok (.iconst 0, 1) := by decide +kernel
theorem dX11_feed_2 : decode mX11_feed.2.1 2 = .ok (.putfield 213, 3) := by decide +kernel
theorem dX11_feed_5 : decode mX11_feed.2.1 5 = .ok (.aload_n 0, 1) := by decide +kernel
theorem dX11_feed_6 : decode mX11_feed.2.1 6 = .ok (.getfield 360, 3) := by decide +kernel
theorem dX11_feed_9 : decode mX11_feed.2.1 9 = .ok (.bipush 20, 2) := by decide +kernel
theorem dX11_feed_11 : decode mX11_feed.2.1 11 = .ok (.iadd, 1) := by decide +kernel
theorem dX11_feed_12 : decode mX11_feed.2.1 12 = .ok (.sipush 500, 3) := by decide +kernel
theorem dX11_feed_15 : decode mX11_feed.2.1 15 = .ok (.if_icmp .le 5, 3) := by decide +kernel
theorem dX11_feed_18 : decode mX11_feed.2.1 18 = .ok (.iconst (-1), 1) := by decide +kernel
theorem dX11_feed_19 : decode mX11_feed.2.1 19 = .ok (.ireturn, 1) := by decide +kernel
theorem dX11_feed_20 : decode mX11_feed.2.1 20 = .ok (.aload_n 0, 1) := by decide +kernel
theorem dX11_feed_21 : decode mX11_feed.2.1 21 = .ok (.iload_n 1, 1) := by decide +kernel
theorem dX11_feed_22 : decode mX11_feed.2.1 22 = .ok (.invokevirtual 363, 3) := by decide +kernel
theorem dX11_feed_25 : decode mX11_feed.2.1 25 = .ok (.aload_n 0, 1) := by decide +kernel
theorem dX11_feed_26 : decode mX11_feed.2.1 26 = .ok (.iload_n 2, 1) := by decide +kernel
theorem dX11_feed_27 : decode mX11_feed.2.1 27 = .ok (.invokevirtual 363, 3) := by decide +kernel
theorem dX11_feed_30 : decode mX11_feed.2.1 30 = .ok (.aload_n 0, 1) := by decide +kernel
theorem dX11_feed_31 : decode mX11_feed.2.1 31 = .ok (.iload_n 3, 1) := by decide +kernel
theorem dX11_feed_32 : decode mX11_feed.2.1 32 = .ok (.invokevirtual 363, 3) := by decide +kernel
theorem dX11_feed_35 : decode mX11_feed.2.1 35 = .ok (.aload_n 0, 1) := by decide +kernel
theorem dX11_feed_36 : decode mX11_feed.2.1 36 = .ok (.iload 4, 2) := by decide +kernel
theorem dX11_feed_38 : decode mX11_feed.2.1 38 = .ok (.invokevirtual 363, 3) := by decide +kernel
theorem dX11_feed_41 : decode mX11_feed.2.1 41 = .ok (.aload_n 0, 1) := by decide +kernel
theorem dX11_feed_42 : decode mX11_feed.2.1 42 = .ok (.iload 5, 2) := by decide +kernel
theorem dX11_feed_44 : decode mX11_feed.2.1 44 = .ok (.invokevirtual 363, 3) := by decide +kernel
theorem dX11_feed_47 : decode mX11_feed.2.1 47 = .ok (.aload_n 0, 1) := by decide +kernel
theorem dX11_feed_48 : decode mX11_feed.2.1 48 = .ok (.getfield 360, 3) := by decide +kernel
theorem dX11_feed_51 : decode mX11_feed.2.1 51 = .ok (.ireturn, 1) := by decide +kernel
theorem dX11_lay_0 : decode mX11_lay.2.1 0 = .ok (.iconst 3, 1) := by decide +kernel
theorem dX11_lay_1 : decode mX11_lay.2.1 1 = .ok (.istore_n 2, 1) := by decide +kernel
theorem dX11_lay_2 : decode mX11_lay.2.1 2 = .ok (.iload_n 2, 1) := by decide +kernel
theorem dX11_lay_3 : decode mX11_lay.2.1 3 = .ok (.ifCond .lt 35, 3) := by decide +kernel
theorem dX11_lay_6 : decode mX11_lay.2.1 6 = .ok (.aload_n 0, 1) := by decide +kernel
theorem dX11_lay_7 : decode mX11_lay.2.1 7 = .ok (.getfield 47, 3) := by decide +kernel
theorem dX11_lay_10 : decode mX11_lay.2.1 10 = .ok (.aload_n 0, 1) := by decide +kernel
theorem dX11_lay_11 : decode mX11_lay.2.1 11 = .ok (.getfield 360, 3) := by decide +kernel
theorem dX11_lay_14 : decode mX11_lay.2.1 14 = .ok (.iload_n 1, 1) := by decide +kernel
theorem dX11_lay_15 : decode mX11_lay.2.1 15 = .ok (.bipush 8, 2) := by decide +kernel
theorem dX11_lay_17 : decode mX11_lay.2.1 17 = .ok (.iload_n 2, 1) := by decide +kernel
theorem dX11_lay_18 : decode mX11_lay.2.1 18 = .ok (.imul, 1) := by decide +kernel
theorem dX11_lay_19 : decode mX11_lay.2.1 19 = .ok (.ishr, 1) := by decide +kernel
theorem dX11_lay_20 : decode mX11_lay.2.1 20 = .ok (.i2b, 1) := by decide +kernel
theorem dX11_lay_21 : decode mX11_lay.2.1 21 = .ok (.bastore, 1) := by decide +kernel
theorem dX11_lay_22 : decode mX11_lay.2.1 22 = .ok (.aload_n 0, 1) := by decide +kernel
theorem dX11_lay_23 : decode mX11_lay.2.1 23 = .ok (.dup, 1) := by decide +kernel
theorem dX11_lay_24 : decode mX11_lay.2.1 24 = .ok (.getfield 360, 3) := by decide +kernel
theorem dX11_lay_27 : decode mX11_lay.2.1 27 = .ok (.iconst 1, 1) := by decide +kernel
theorem dX11_lay_28 : decode mX11_lay.2.1 28 = .ok (.iadd, 1) := by decide +kernel
theorem dX11_lay_29 : decode mX11_lay.2.1 29 = .ok (.putfield 360, 3) := by decide +kernel
theorem dX11_lay_32 : decode mX11_lay.2.1 32 = .ok (.iinc 2 (-1), 3) := by decide +kernel
theorem dX11_lay_35 : decode mX11_lay.2.1 35 = .ok (.goto (-33), 3) := by decide +kernel
theorem dX11_lay_38 : decode mX11_lay.2.1 38 = .ok (.return_, 1) := by decide +kernel
theorem dX11_orders_0 : decode mX11_orders.2.1 0 = .ok (.aload_n 0, 1) := by decide +kernel
theorem dX11_orders_1 : decode mX11_orders.2.1 1 = .ok (.iconst 0, 1) := by decide +kernel
theorem dX11_orders_2 : decode mX11_orders.2.1 2 = .ok (.putfield 213, 3) := by decide +kernel
theorem dX11_orders_5 : decode mX11_orders.2.1 5 = .ok (.aload_n 0, 1) := by decide +kernel
theorem dX11_orders_6 : decode mX11_orders.2.1 6 = .ok (.iconst 0, 1) := by decide +kernel
theorem dX11_orders_7 : decode mX11_orders.2.1 7 = .ok (.putfield 216, 3) := by decide +kernel
theorem dX11_orders_10 : decode mX11_orders.2.1 10 = .ok (.iload_n 1, 1) := by decide +kernel
theorem dX11_orders_11 : decode mX11_orders.2.1 11 = .ok (.ifCond .lt 11, 3) := by decide +kernel
theorem dX11_orders_14 : decode mX11_orders.2.1 14 = .ok (.iload_n 1, 1) := by decide +kernel
theorem dX11_orders_15 : decode mX11_orders.2.1 15 = .ok (.aload_n 0, 1) := by decide +kernel
theorem dX11_orders_16 : decode mX11_orders.2.1 16 = .ok (.getfield 360, 3) := by decide +kernel
theorem dX11_orders_19 : decode mX11_orders.2.1 19 = .ok (.if_icmp .le 9, 3) := by decide +kernel
theorem dX11_orders_22 : decode mX11_orders.2.1 22 = .ok (.aload_n 0, 1) := by decide +kernel
theorem dX11_orders_23 : decode mX11_orders.2.1 23 = .ok (.iconst 5, 1) := by decide +kernel
theorem dX11_orders_24 : decode mX11_orders.2.1 24 = .ok (.invokevirtual 254, 3) := by decide +kernel
theorem dX11_orders_27 : decode mX11_orders.2.1 27 = .ok (.ireturn, 1) := by decide +kernel
theorem dX11_orders_28 : decode mX11_orders.2.1 28 = .ok (.aload_n 0, 1) := by decide +kernel
theorem dX11_orders_29 : decode mX11_orders.2.1 29 = .ok (.iload_n 1, 1) := by decide +kernel
theorem dX11_orders_30 : decode mX11_orders.2.1 30 = .ok (.putfield 279, 3) := by decide +kernel
theorem dX11_orders_33 : decode mX11_orders.2.1 33 = .ok (.aload_n 0, 1) := by decide +kernel
theorem dX11_orders_34 : decode mX11_orders.2.1 34 = .ok (.iconst 0, 1) := by decide +kernel
theorem dX11_orders_35 : decode mX11_orders.2.1 35 = .ok (.putfield 360, 3) := by decide +kernel
theorem dX11_orders_38 : decode mX11_orders.2.1 38 = .ok (.aload_n 0, 1) := by decide +kernel
theorem dX11_orders_39 : decode mX11_orders.2.1 39 = .ok (.iconst 0, 1) := by decide +kernel
theorem dX11_orders_40 : decode mX11_orders.2.1 40 = .ok (.putfield 282, 3) := by decide +kernel
theorem dX11_orders_43 : decode mX11_orders.2.1 43 = .ok (.aload_n 0, 1) := by decide +kernel
theorem dX11_orders_44 : decode mX11_orders.2.1 44 = .ok (.iconst 0, 1) := by decide +kernel
theorem dX11_orders_45 : decode mX11_orders.2.1 45 = .ok (.putfield 311, 3) := by decide +kernel
theorem dX11_orders_48 : decode mX11_orders.2.1 48 = .ok (.aload_n 0, 1) := by decide +kernel
theorem dX11_orders_49 : decode mX11_orders.2.1 49 = .ok (.iconst 0, 1) := by decide +kernel
theorem dX11_orders_50 : decode mX11_orders.2.1 50 = .ok (.putfield 357, 3) := by decide +kernel
theorem dX11_orders_53 : decode mX11_orders.2.1 53 = .ok (.aload_n 0, 1) := by decide +kernel
theorem dX11_orders_54 : decode mX11_orders.2.1 54 = .ok (.iconst 0, 1) := by decide +kernel
theorem dX11_orders_55 : decode mX11_orders.2.1 55 = .ok (.putfield 344, 3) := by decide +kernel
theorem dX11_orders_58 : decode mX11_orders.2.1 58 = .ok (.aload_n 0, 1) := by decide +kernel
theorem dX11_orders_59 : decode mX11_orders.2.1 59 = .ok (.getfield 72, 3) := by decide +kernel
theorem dX11_orders_62 : decode mX11_orders.2.1 62 = .ok (.iconst 0, 1) := by decide +kernel
theorem dX11_orders_63 : decode mX11_orders.2.1 63 = .ok (.iconst 0, 1) := by decide +kernel
theorem dX11_orders_64 : decode mX11_orders.2.1 64 = .ok (.iastore, 1) := by decide +kernel
theorem dX11_orders_65 : decode mX11_orders.2.1 65 = .ok (.aload_n 0, 1) := by decide +kernel
theorem dX11_orders_66 : decode mX11_orders.2.1 66 = .ok (.invokevirtual 324, 3) := by decide +kernel
theorem dX11_orders_69 : decode mX11_orders.2.1 69 = .ok (.aload_n 0, 1) := by decide +kernel
theorem dX11_orders_70 : decode mX11_orders.2.1 70 = .ok (.getfield 311, 3) := by decide +kernel
theorem dX11_orders_73 : decode mX11_orders.2.1 73 = .ok (.ifCond .ne 17, 3) := by decide +kernel
theorem dX11_orders_76 : decode mX11_orders.2.1 76 = .ok (.aload_n 0, 1) := by decide +kernel
theorem dX11_orders_77 : decode mX11_orders.2.1 77 = .ok (.getfield 291, 3) := by decide +kernel
theorem dX11_orders_80 : decode mX11_orders.2.1 80 = .ok (.ifCond .eq 10, 3) := by decide +kernel
theorem dX11_orders_83 : decode mX11_orders.2.1 83 = .ok (.aload_n 0, 1) := by decide +kernel
theorem dX11_orders_84 : decode mX11_orders.2.1 84 = .ok (.invokevirtual 366, 3) := by decide +kernel
theorem dX11_orders_87 : decode mX11_orders.2.1 87 = .ok (.goto (-18), 3) := by decide +kernel
theorem dX11_orders_90 : decode mX11_orders.2.1 90 = .ok (.aload_n 0, 1) := by decide +kernel
theorem dX11_orders_91 : decode mX11_orders.2.1 91 = .ok (.aload_n 0, 1) := by decide +kernel
theorem dX11_orders_92 : decode mX11_orders.2.1 92 = .ok (.getfield 311, 3) := by decide +kernel
theorem dX11_orders_95 : decode mX11_orders.2.1 95 = .ok (.putfield 51, 3) := by decide +kernel
theorem dX11_orders_98 : decode mX11_orders.2.1 98 = .ok (.aload_n 0, 1) := by decide +kernel
theorem dX11_orders_99 : decode mX11_orders.2.1 99 = .ok (.aload_n 0, 1) := by decide +kernel
theorem dX11_orders_100 : decode mX11_orders.2.1 100 = .ok (.getfield 311, 3) := by decide +kernel
theorem dX11_orders_103 : decode mX11_orders.2.1 103 = .ok (.ifCond .ne 7, 3) := by decide +kernel
theorem dX11_orders_106 : decode mX11_orders.2.1 106 = .ok (.iconst (-1), 1) := by decide +kernel
theorem dX11_orders_107 : decode mX11_orders.2.1 107 = .ok (.goto 7, 3) := by decide +kernel
theorem dX11_orders_110 : decode mX11_orders.2.1 110 = .ok (.aload_n 0, 1) := by decide +kernel
theorem dX11_orders_111 : decode mX11_orders.2.1 111 = .ok (.getfield 314, 3) := by decide +kernel
theorem dX11_orders_114 : decode mX11_orders.2.1 114 = .ok (.putfield 54, 3) := by decide +kernel
theorem dX11_orders_117 : decode mX11_orders.2.1 117 = .ok (.aload_n 0, 1) := by decide +kernel
theorem dX11_orders_118 : decode mX11_orders.2.1 118 = .ok (.getfield 311, 3) := by decide +kernel
theorem dX11_orders_121 : decode mX11_orders.2.1 121 = .ok (.ifCond .le 10, 3) := by decide +kernel
theorem dX11_orders_124 : decode mX11_orders.2.1 124 = .ok (.aload_n 0, 1) := by decide +kernel
theorem dX11_orders_125 : decode mX11_orders.2.1 125 = .ok (.bipush 10, 2) := by decide +kernel
theorem dX11_orders_127 : decode mX11_orders.2.1 127 = .ok (.invokevirtual 254, 3) := by decide +kernel
theorem dX11_orders_130 : decode mX11_orders.2.1 130 = .ok (.ireturn, 1) := by decide +kernel
theorem dX11_orders_131 : decode mX11_orders.2.1 131 = .ok (.aload_n 0, 1) := by decide +kernel
theorem dX11_orders_132 : decode mX11_orders.2.1 132 = .ok (.aload_n 0, 1) := by decide +kernel
theorem dX11_orders_133 : decode mX11_orders.2.1 133 = .ok (.getfield 357, 3) := by decide +kernel
theorem dX11_orders_136 : decode mX11_orders.2.1 136 = .ok (.putfield 57, 3) := by decide +kernel
theorem dX11_orders_139 : decode mX11_orders.2.1 139 = .ok (.iconst 0, 1) := by decide +kernel
theorem dX11_orders_140 : decode mX11_orders.2.1 140 = .ok (.istore_n 2, 1) := by decide +kernel
theorem dX11_orders_141 : decode mX11_orders.2.1 141 = .ok (.iload_n 2, 1) := by decide +kernel
theorem dX11_orders_142 : decode mX11_orders.2.1 142 = .ok (.aload_n 0, 1) := by decide +kernel
theorem dX11_orders_143 : decode mX11_orders.2.1 143 = .ok (.getfield 57, 3) := by decide +kernel
theorem dX11_orders_146 : decode mX11_orders.2.1 146 = .ok (.if_icmp .gt 21, 3) := by decide +kernel
theorem dX11_orders_149 : decode mX11_orders.2.1 149 = .ok (.aload_n 0, 1) := by decide +kernel
theorem dX11_orders_150 : decode mX11_orders.2.1 150 = .ok (.getfield 63, 3) := by decide +kernel
theorem dX11_orders_153 : decode mX11_orders.2.1 153 = .ok (.iload_n 2, 1) := by decide +kernel
theorem dX11_orders_154 : decode mX11_orders.2.1 154 = .ok (.aload_n 0, 1) := by decide +kernel
theorem dX11_orders_155 : decode mX11_orders.2.1 155 = .ok (.getfield 72, 3) := by decide +kernel
theorem dX11_orders_158 : decode mX11_orders.2.1 158 = .ok (.iload_n 2, 1) := by decide +kernel
theorem dX11_orders_159 : decode mX11_orders.2.1 159 = .ok (.iaload, 1) := by decide +kernel
theorem dX11_orders_160 : decode mX11_orders.2.1 160 = .ok (.iastore, 1) := by decide +kernel
theorem dX11_orders_161 : decode mX11_orders.2.1 161 = .ok (.iinc 2 1, 3) := by decide +kernel
theorem dX11_orders_164 : decode mX11_orders.2.1 164 = .ok (.goto (-23), 3) := by decide +kernel
theorem dX11_orders_167 : decode mX11_orders.2.1 167 = .ok (.iconst 0, 1) := by decide +kernel
theorem dX11_orders_168 : decode mX11_orders.2.1 168 = .ok (.istore_n 2, 1) := by decide +kernel
theorem dX11_orders_169 : decode mX11_orders.2.1 169 = .ok (.iload_n 2, 1) := by decide +kernel
theorem dX11_orders_170 : decode mX11_orders.2.1 170 = .ok (.aload_n 0, 1) := by decide +kernel
theorem dX11_orders_171 : decode mX11_orders.2.1 171 = .ok (.getfield 57, 3) := by decide +kernel
theorem dX11_orders_174 : decode mX11_orders.2.1 174 = .ok (.if_icmp .ge 21, 3) := by decide +kernel
theorem dX11_orders_177 : decode mX11_orders.2.1 177 = .ok (.aload_n 0, 1) := by decide +kernel
theorem dX11_orders_178 : decode mX11_orders.2.1 178 = .ok (.getfield 60, 3) := by decide +kernel
theorem dX11_orders_181 : decode mX11_orders.2.1 181 = .ok (.iload_n 2, 1) := by decide +kernel
theorem dX11_orders_182 : decode mX11_orders.2.1 182 = .ok (.aload_n 0, 1) := by decide +kernel
theorem dX11_orders_183 : decode mX11_orders.2.1 183 = .ok (.getfield 66, 3) := by decide +kernel
theorem dX11_orders_186 : decode mX11_orders.2.1 186 = .ok (.iload_n 2, 1) := by decide +kernel
theorem dX11_orders_187 : decode mX11_orders.2.1 187 = .ok (.iaload, 1) := by decide +kernel
theorem dX11_orders_188 : decode mX11_orders.2.1 188 = .ok (.iastore, 1) := by decide +kernel
theorem dX11_orders_189 : decode mX11_orders.2.1 189 = .ok (.iinc 2 1, 3) := by decide +kernel
theorem dX11_orders_192 : decode mX11_orders.2.1 192 = .ok (.goto (-23), 3) := by decide +kernel
theorem dX11_orders_195 : decode mX11_orders.2.1 195 = .ok (.iconst 0, 1) := by decide +kernel
theorem dX11_orders_196 : decode mX11_orders.2.1 196 = .ok (.istore_n 2, 1) := by decide +kernel
theorem dX11_orders_197 : decode mX11_orders.2.1 197 = .ok (.iload_n 2, 1) := by decide +kernel
theorem dX11_orders_198 : decode mX11_orders.2.1 198 = .ok (.aload_n 0, 1) := by decide +kernel
theorem dX11_orders_199 : decode mX11_orders.2.1 199 = .ok (.getfield 344, 3) := by decide +kernel
theorem dX11_orders_202 : decode mX11_orders.2.1 202 = .ok (.if_icmp .ge 81, 3) := by decide +kernel
theorem dX11_orders_205 : decode mX11_orders.2.1 205 = .ok (.aload_n 0, 1) := by decide +kernel
theorem dX11_orders_206 : decode mX11_orders.2.1 206 = .ok (.getfield 75, 3) := by decide +kernel
theorem dX11_orders_209 : decode mX11_orders.2.1 209 = .ok (.iload_n 2, 1) := by decide +kernel
theorem dX11_orders_210 : decode mX11_orders.2.1 210 = .ok (.aload_n 0, 1) := by decide +kernel
theorem dX11_orders_211 : decode mX11_orders.2.1 211 = .ok (.getfield 93, 3) := by decide +kernel
theorem dX11_orders_214 : decode mX11_orders.2.1 214 = .ok (.iload_n 2, 1) := by decide +kernel
theorem dX11_orders_215 : decode mX11_orders.2.1 215 = .ok (.iaload, 1) := by decide +kernel
theorem dX11_orders_216 : decode mX11_orders.2.1 216 = .ok (.iastore, 1) := by decide +kernel
theorem dX11_orders_217 : decode mX11_orders.2.1 217 = .ok (.aload_n 0, 1) := by decide +kernel
theorem dX11_orders_218 : decode mX11_orders.2.1 218 = .ok (.getfield 78, 3) := by decide +kernel
theorem dX11_orders_221 : decode mX11_orders.2.1 221 = .ok (.iload_n 2, 1) := by decide +kernel
theorem dX11_orders_222 : decode mX11_orders.2.1 222 = .ok (.aload_n 0, 1) := by decide +kernel
theorem dX11_orders_223 : decode mX11_orders.2.1 223 = .ok (.getfield 96, 3) := by decide +kernel
theorem dX11_orders_226 : decode mX11_orders.2.1 226 = .ok (.iload_n 2, 1) := by decide +kernel
theorem dX11_orders_227 : decode mX11_orders.2.1 227 = .ok (.iaload, 1) := by decide +kernel
theorem dX11_orders_228 : decode mX11_orders.2.1 228 = .ok (.iastore, 1) := by decide +kernel
theorem dX11_orders_229 : decode mX11_orders.2.1 229 = .ok (.aload_n 0, 1) := by decide +kernel
theorem dX11_orders_230 : decode mX11_orders.2.1 230 = .ok (.getfield 81, 3) := by decide +kernel
theorem dX11_orders_233 : decode mX11_orders.2.1 233 = .ok (.iload_n 2, 1) := by decide +kernel
theorem dX11_orders_234 : decode mX11_orders.2.1 234 = .ok (.aload_n 0, 1) := by decide +kernel
theorem dX11_orders_235 : decode mX11_orders.2.1 235 = .ok (.getfield 99, 3) := by decide +kernel
theorem dX11_orders_238 : decode mX11_orders.2.1 238 = .ok (.iload_n 2, 1) := by decide +kernel
theorem dX11_orders_239 : decode mX11_orders.2.1 239 = .ok (.iaload, 1) := by decide +kernel
theorem dX11_orders_240 : decode mX11_orders.2.1 240 = .ok (.iastore, 1) := by decide +kernel
theorem dX11_orders_241 : decode mX11_orders.2.1 241 = .ok (.aload_n 0, 1) := by decide +kernel
theorem dX11_orders_242 : decode mX11_orders.2.1 242 = .ok (.getfield 84, 3) := by decide +kernel
theorem dX11_orders_245 : decode mX11_orders.2.1 245 = .ok (.iload_n 2, 1) := by decide +kernel
theorem dX11_orders_246 : decode mX11_orders.2.1 246 = .ok (.aload_n 0, 1) := by decide +kernel
theorem dX11_orders_247 : decode mX11_orders.2.1 247 = .ok (.getfield 102, 3) := by decide +kernel
theorem dX11_orders_250 : decode mX11_orders.2.1 250 = .ok (.iload_n 2, 1) := by decide +kernel
theorem dX11_orders_251 : decode mX11_orders.2.1 251 = .ok (.iaload, 1) := by decide +kernel
theorem dX11_orders_252 : decode mX11_orders.2.1 252 = .ok (.iastore, 1) := by decide +kernel
theorem dX11_orders_253 : decode mX11_orders.2.1 253 = .ok (.aload_n 0, 1) := by decide +kernel
theorem dX11_orders_254 : decode mX11_orders.2.1 254 = .ok (.getfield 87, 3) := by decide +kernel
theorem dX11_orders_257 : decode mX11_orders.2.1 257 = .ok (.iload_n 2, 1) := by decide +kernel
theorem dX11_orders_258 : decode mX11_orders.2.1 258 = .ok (.aload_n 0, 1) := by decide +kernel
theorem dX11_orders_259 : decode mX11_orders.2.1 259 = .ok (.getfield 105, 3) := by decide +kernel
theorem dX11_orders_262 : decode mX11_orders.2.1 262 = .ok (.iload_n 2, 1) := by decide +kernel
theorem dX11_orders_263 : decode mX11_orders.2.1 263 = .ok (.iaload, 1) := by decide +kernel
theorem dX11_orders_264 : decode mX11_orders.2.1 264 = .ok (.iastore, 1) := by decide +kernel
theorem dX11_orders_265 : decode mX11_orders.2.1 265 = .ok (.aload_n 0, 1) := by decide +kernel
theorem dX11_orders_266 : decode mX11_orders.2.1 266 = .ok (.getfield 90, 3) := by decide +kernel
theorem dX11_orders_269 : decode mX11_orders.2.1 269 = .ok (.iload_n 2, 1) := by decide +kernel
theorem dX11_orders_270 : decode mX11_orders.2.1 270 = .ok (.aload_n 0, 1) := by decide +kernel
theorem dX11_orders_271 : decode mX11_orders.2.1 271 = .ok (.getfield 108, 3) := by decide +kernel
theorem dX11_orders_274 : decode mX11_orders.2.1 274 = .ok (.iload_n 2, 1) := by decide +kernel
theorem dX11_orders_275 : decode mX11_orders.2.1 275 = .ok (.iaload, 1) := by decide +kernel
theorem dX11_orders_276 : decode mX11_orders.2.1 276 = .ok (.iastore, 1) := by decide +kernel
theorem dX11_orders_277 : decode mX11_orders.2.1 277 = .ok (.iinc 2 1, 3) := by decide +kernel
theorem dX11_orders_280 : decode mX11_orders.2.1 280 = .ok (.goto (-83), 3) := by decide +kernel
theorem dX11_orders_283 : decode mX11_orders.2.1 283 = .ok (.aload_n 0, 1) := by decide +kernel
theorem dX11_orders_284 : decode mX11_orders.2.1 284 = .ok (.getfield 344, 3) := by decide +kernel
theorem dX11_orders_287 : decode mX11_orders.2.1 287 = .ok (.ireturn, 1) := by decide +kernel
theorem dX11_fault_0 : decode mX11_fault.2.1 0 = .ok (.aload_n 0, 1) := by decide +kernel
theorem dX11_fault_1 : decode mX11_fault.2.1 1 = .ok (.iconst 0, 1) := by decide +kernel
theorem dX11_fault_2 : decode mX11_fault.2.1 2 = .ok (.putfield 213, 3) := by decide +kernel
theorem dX11_fault_5 : decode mX11_fault.2.1 5 = .ok (.iload_n 1, 1) := by decide +kernel
theorem dX11_fault_6 : decode mX11_fault.2.1 6 = .ok (.ifCond .ne 10, 3) := by decide +kernel
theorem dX11_fault_9 : decode mX11_fault.2.1 9 = .ok (.aload_n 0, 1) := by decide +kernel
theorem dX11_fault_10 : decode mX11_fault.2.1 10 = .ok (.getfield 51, 3) := by decide +kernel
theorem dX11_fault_13 : decode mX11_fault.2.1 13 = .ok (.goto 16, 3) := by decide +kernel
theorem dX11_fault_16 : decode mX11_fault.2.1 16 = .ok (.iload_n 1, 1) := by decide +kernel
theorem dX11_fault_17 : decode mX11_fault.2.1 17 = .ok (.iconst 1, 1) := by decide +kernel
theorem dX11_fault_18 : decode mX11_fault.2.1 18 = .ok (.if_icmp .ne 10, 3) := by decide +kernel
theorem dX11_fault_21 : decode mX11_fault.2.1 21 = .ok (.aload_n 0, 1) := by decide +kernel
theorem dX11_fault_22 : decode mX11_fault.2.1 22 = .ok (.getfield 54, 3) := by decide +kernel
theorem dX11_fault_25 : decode mX11_fault.2.1 25 = .ok (.goto 4, 3) := by decide +kernel
theorem dX11_fault_28 : decode mX11_fault.2.1 28 = .ok (.iconst (-1), 1) := by decide +kernel
theorem dX11_fault_29 : decode mX11_fault.2.1 29 = .ok (.ireturn, 1) := by decide +kernel
theorem dX11_cell_0 : decode mX11_cell.2.1 0 = .ok (.bipush 20, 2) := by decide +kernel
theorem dX11_cell_2 : decode mX11_cell.2.1 2 = .ok (.iload_n 0, 1) := by decide +kernel
theorem dX11_cell_3 : decode mX11_cell.2.1 3 = .ok (.imul, 1) := by decide +kernel
theorem dX11_cell_4 : decode mX11_cell.2.1 4 = .ok (.iload_n 1, 1) := by decide +kernel
theorem dX11_cell_5 : decode mX11_cell.2.1 5 = .ok (.iadd, 1) := by decide +kernel
theorem dX11_cell_6 : decode mX11_cell.2.1 6 = .ok (.ireturn, 1) := by decide +kernel
theorem dX11_eastOf_0 : decode mX11_eastOf.2.1 0 = .ok (.iload_n 0, 1) := by decide +kernel
theorem dX11_eastOf_1 : decode mX11_eastOf.2.1 1 = .ok (.ifCond .eq 8, 3) := by decide +kernel
theorem dX11_eastOf_4 : decode mX11_eastOf.2.1 4 = .ok (.iload_n 0, 1) := by decide +kernel
theorem dX11_eastOf_5 : decode mX11_eastOf.2.1 5 = .ok (.iconst 4, 1) := by decide +kernel
theorem dX11_eastOf_6 : decode mX11_eastOf.2.1 6 = .ok (.if_icmp .ne 7, 3) := by decide +kernel
theorem dX11_eastOf_9 : decode mX11_eastOf.2.1 9 = .ok (.iconst 0, 1) := by decide +kernel
theorem dX11_eastOf_10 : decode mX11_eastOf.2.1 10 = .ok (.goto 13, 3) := by decide +kernel
theorem dX11_eastOf_13 : decode mX11_eastOf.2.1 13 = .ok (.iload_n 0, 1) := by decide +kernel
theorem dX11_eastOf_14 : decode mX11_eastOf.2.1 14 = .ok (.iconst 4, 1) := by decide +kernel
theorem dX11_eastOf_15 : decode mX11_eastOf.2.1 15 = .ok (.if_icmp .ge 7, 3) := by decide +kernel
theorem dX11_eastOf_18 : decode mX11_eastOf.2.1 18 = .ok (.iconst 1, 1) := by decide +kernel
theorem dX11_eastOf_19 : decode mX11_eastOf.2.1 19 = .ok (.goto 4, 3) := by decide +kernel
theorem dX11_eastOf_22 : decode mX11_eastOf.2.1 22 = .ok (.iconst (-1), 1) := by decide +kernel
theorem dX11_eastOf_23 : decode mX11_eastOf.2.1 23 = .ok (.ireturn, 1) := by decide +kernel
theorem dX11_northOf_0 : decode mX11_northOf.2.1 0 = .ok (.iload_n 0, 1) := by decide +kernel
theorem dX11_northOf_1 : decode mX11_northOf.2.1 1 = .ok (.iconst 2, 1) := by decide +kernel
theorem dX11_northOf_2 : decode mX11_northOf.2.1 2 = .ok (.if_icmp .eq 9, 3) := by decide +kernel
theorem dX11_northOf_5 : decode mX11_northOf.2.1 5 = .ok (.iload_n 0, 1) := by decide +kernel
theorem dX11_northOf_6 : decode mX11_northOf.2.1 6 = .ok (.bipush 6, 2) := by decide +kernel
theorem dX11_northOf_8 : decode mX11_northOf.2.1 8 = .ok (.if_icmp .ne 7, 3) := by decide +kernel
theorem dX11_northOf_11 : decode mX11_northOf.2.1 11 = .ok (.iconst 0, 1) := by decide +kernel
theorem dX11_northOf_12 : decode mX11_northOf.2.1 12 = .ok (.goto 19, 3) := by decide +kernel
theorem dX11_northOf_15 : decode mX11_northOf.2.1 15 = .ok (.iload_n 0, 1) := by decide +kernel
theorem dX11_northOf_16 : decode mX11_northOf.2.1 16 = .ok (.iconst 2, 1) := by decide +kernel
theorem dX11_northOf_17 : decode mX11_northOf.2.1 17 = .ok (.if_icmp .le 13, 3) := by decide +kernel
theorem dX11_northOf_20 : decode mX11_northOf.2.1 20 = .ok (.iload_n 0, 1) := by decide +kernel
theorem dX11_northOf_21 : decode mX11_northOf.2.1 21 = .ok (.bipush 6, 2) := by decide +kernel
theorem dX11_northOf_23 : decode mX11_northOf.2.1 23 = .ok (.if_icmp .ge 7, 3) := by decide +kernel
theorem dX11_northOf_26 : decode mX11_northOf.2.1 26 = .ok (.iconst (-1), 1) := by decide +kernel
theorem dX11_northOf_27 : decode mX11_northOf.2.1 27 = .ok (.goto 4, 3) := by decide +kernel
theorem dX11_northOf_30 : decode mX11_northOf.2.1 30 = .ok (.iconst 1, 1) := by decide +kernel
theorem dX11_northOf_31 : decode mX11_northOf.2.1 31 = .ok (.ireturn, 1) := by decide +kernel
theorem dX11_between_0 : decode mX11_between.2.1 0 = .ok (.iload_n 0, 1) := by decide +kernel
theorem dX11_between_1 : decode mX11_between.2.1 1 = .ok (.iconst 2, 1) := by decide +kernel
theorem dX11_between_2 : decode mX11_between.2.1 2 = .ok (.iload_n 2, 1) := by decide +kernel
theorem dX11_between_3 : decode mX11_between.2.1 3 = .ok (.imul, 1) := by decide +kernel
theorem dX11_between_4 : decode mX11_between.2.1 4 = .ok (.iload_n 1, 1) := by decide +kernel
theorem dX11_between_5 : decode mX11_between.2.1 5 = .ok (.imul, 1) := by decide +kernel
theorem dX11_between_6 : decode mX11_between.2.1 6 = .ok (.iload_n 3, 1) := by decide +kernel
theorem dX11_between_7 : decode mX11_between.2.1 7 = .ok (.iadd, 1) := by decide +kernel
theorem dX11_between_8 : decode mX11_between.2.1 8 = .ok (.iconst 2, 1) := by decide +kernel
theorem dX11_between_9 : decode mX11_between.2.1 9 = .ok (.iload_n 3, 1) := by decide +kernel
theorem dX11_between_10 : decode mX11_between.2.1 10 = .ok (.imul, 1) := by decide +kernel
theorem dX11_between_11 : decode mX11_between.2.1 11 = .ok (.invokestatic 369, 3) := by decide +kernel
theorem dX11_between_14 : decode mX11_between.2.1 14 = .ok (.iadd, 1) := by decide +kernel
theorem dX11_between_15 : decode mX11_between.2.1 15 = .ok (.ireturn, 1) := by decide +kernel
theorem dX11_fails_0 : decode mX11_fails.2.1 0 = .ok (.aload_n 0, 1) := by decide +kernel
theorem dX11_fails_1 : decode mX11_fails.2.1 1 = .ok (.getfield 374, 3) := by decide +kernel
theorem dX11_fails_4 : decode mX11_fails.2.1 4 = .ok (.ifCond .le 4, 3) := by decide +kernel
theorem dX11_fails_7 : decode mX11_fails.2.1 7 = .ok (.return_, 1) := by decide +kernel
theorem dX11_fails_8 : decode mX11_fails.2.1 8 = .ok (.aload_n 0, 1) := by decide +kernel
theorem dX11_fails_9 : decode mX11_fails.2.1 9 = .ok (.iload_n 1, 1) := by decide +kernel
theorem dX11_fails_10 : decode mX11_fails.2.1 10 = .ok (.putfield 374, 3) := by decide +kernel
theorem dX11_fails_13 : decode mX11_fails.2.1 13 = .ok (.aload_n 0, 1) := by decide +kernel
theorem dX11_fails_14 : decode mX11_fails.2.1 14 = .ok (.aload_n 0, 1) := by decide +kernel
theorem dX11_fails_15 : decode mX11_fails.2.1 15 = .ok (.getfield 87, 3) := by decide +kernel
theorem dX11_fails_18 : decode mX11_fails.2.1 18 = .ok (.iload_n 2, 1) := by decide +kernel
theorem dX11_fails_19 : decode mX11_fails.2.1 19 = .ok (.iaload, 1) := by decide +kernel
theorem dX11_fails_20 : decode mX11_fails.2.1 20 = .ok (.putfield 377, 3) := by decide +kernel
theorem dX11_fails_23 : decode mX11_fails.2.1 23 = .ok (.return_, 1) := by decide +kernel
theorem dX11_runOrders_0 : decode mX11_runOrders.2.1 0 = .ok (.iload_n 1, 1) := by decide +kernel
theorem dX11_runOrders_1 : decode mX11_runOrders.2.1 1 = .ok (.istore_n 3, 1) := by decide +kernel
theorem dX11_runOrders_2 : decode mX11_runOrders.2.1 2 = .ok (.iload_n 3, 1) := by decide +kernel
theorem dX11_runOrders_3 : decode mX11_runOrders.2.1 3 = .ok (.iload_n 2, 1) := by decide +kernel
theorem dX11_runOrders_4 : decode mX11_runOrders.2.1 4 = .ok (.if_icmp .ge 131, 3) := by decide +kernel
theorem dX11_runOrders_7 : decode mX11_runOrders.2.1 7 = .ok (.aload_n 0, 1) := by decide +kernel
theorem dX11_runOrders_8 : decode mX11_runOrders.2.1 8 = .ok (.getfield 374, 3) := by decide +kernel
theorem dX11_runOrders_11 : decode mX11_runOrders.2.1 11 = .ok (.ifCond .ne 124, 3) := by decide +kernel
theorem dX11_runOrders_14 : decode mX11_runOrders.2.1 14 = .ok (.aload_n 0, 1) := by decide +kernel
theorem dX11_runOrders_15 : decode mX11_runOrders.2.1 15 = .ok (.getfield 380, 3) := by decide +kernel
theorem dX11_runOrders_18 : decode mX11_runOrders.2.1 18 = .ok (.sipush 500, 3) := by decide +kernel
theorem dX11_runOrders_21 : decode mX11_runOrders.2.1 21 = .ok (.if_icmp .ne 12, 3) := by decide +kernel
theorem dX11_runOrders_24 : decode mX11_runOrders.2.1 24 = .ok (.aload_n 0, 1) := by decide +kernel
theorem dX11_runOrders_25 : decode mX11_runOrders.2.1 25 = .ok (.iconst 1, 1) := by decide +kernel
theorem dX11_runOrders_26 : decode mX11_runOrders.2.1 26 = .ok (.iload_n 3, 1) := by decide +kernel
theorem dX11_runOrders_27 : decode mX11_runOrders.2.1 27 = .ok (.invokevirtual 383, 3) := by decide +kernel
theorem dX11_runOrders_30 : decode mX11_runOrders.2.1 30 = .ok (.goto 95, 3) := by decide +kernel
theorem dX11_runOrders_33 : decode mX11_runOrders.2.1 33 = .ok (.aload_n 0, 1) := by decide +kernel
theorem dX11_runOrders_34 : decode mX11_runOrders.2.1 34 = .ok (.dup, 1) := by decide +kernel
theorem dX11_runOrders_35 : decode mX11_runOrders.2.1 35 = .ok (.getfield 380, 3) := by decide +kernel
theorem dX11_runOrders_38 : decode mX11_runOrders.2.1 38 = .ok (.iconst 1, 1) := by decide +kernel
theorem dX11_runOrders_39 : decode mX11_runOrders.2.1 39 = .ok (.iadd, 1) := by decide +kernel
theorem dX11_runOrders_40 : decode mX11_runOrders.2.1 40 = .ok (.putfield 380, 3) := by decide +kernel
theorem dX11_runOrders_43 : decode mX11_runOrders.2.1 43 = .ok (.aload_n 0, 1) := by decide +kernel
theorem dX11_runOrders_44 : decode mX11_runOrders.2.1 44 = .ok (.getfield 75, 3) := by decide +kernel
theorem dX11_runOrders_47 : decode mX11_runOrders.2.1 47 = .ok (.iload_n 3, 1) := by decide +kernel
theorem dX11_runOrders_48 : decode mX11_runOrders.2.1 48 = .ok (.iaload, 1) := by decide +kernel
theorem dX11_runOrders_49 : decode mX11_runOrders.2.1 49 = .ok (.bipush 10, 2) := by decide +kernel
theorem dX11_runOrders_51 : decode mX11_runOrders.2.1 51 = .ok (.if_icmp .ne 46, 3) := by decide +kernel
theorem dX11_runOrders_54 : decode mX11_runOrders.2.1 54 = .ok (.iconst 0, 1) := by decide +kernel
theorem dX11_runOrders_55 : decode mX11_runOrders.2.1 55 = .ok (.istore 4, 2) := by decide +kernel
theorem dX11_runOrders_57 : decode mX11_runOrders.2.1 57 = .ok (.iload 4, 2) := by decide +kernel
theorem dX11_runOrders_59 : decode mX11_runOrders.2.1 59 = .ok (.aload_n 0, 1) := by decide +kernel
theorem dX11_runOrders_60 : decode mX11_runOrders.2.1 60 = .ok (.getfield 78, 3) := by decide +kernel
theorem dX11_runOrders_63 : decode mX11_runOrders.2.1 63 = .ok (.iload_n 3, 1) := by decide +kernel
theorem dX11_runOrders_64 : decode mX11_runOrders.2.1 64 = .ok (.iaload, 1) := by decide +kernel
theorem dX11_runOrders_65 : decode mX11_runOrders.2.1 65 = .ok (.if_icmp .ge 29, 3) := by decide +kernel
theorem dX11_runOrders_68 : decode mX11_runOrders.2.1 68 = .ok (.aload_n 0, 1) := by decide +kernel
theorem dX11_runOrders_69 : decode mX11_runOrders.2.1 69 = .ok (.getfield 374, 3) := by decide +kernel
theorem dX11_runOrders_72 : decode mX11_runOrders.2.1 72 = .ok (.ifCond .ne 22, 3) := by decide +kernel
theorem dX11_runOrders_75 : decode mX11_runOrders.2.1 75 = .ok (.aload_n 0, 1) := by decide +kernel
theorem dX11_runOrders_76 : decode mX11_runOrders.2.1 76 = .ok (.iload_n 3, 1) := by decide +kernel
theorem dX11_runOrders_77 : decode mX11_runOrders.2.1 77 = .ok (.iconst 1, 1) := by decide +kernel
theorem dX11_runOrders_78 : decode mX11_runOrders.2.1 78 = .ok (.iadd, 1) := by decide +kernel
theorem dX11_runOrders_79 : decode mX11_runOrders.2.1 79 = .ok (.aload_n 0, 1) := by decide +kernel
theorem dX11_runOrders_80 : decode mX11_runOrders.2.1 80 = .ok (.getfield 90, 3) := by decide +kernel
theorem dX11_runOrders_83 : decode mX11_runOrders.2.1 83 = .ok (.iload_n 3, 1) := by decide +kernel
theorem dX11_runOrders_84 : decode mX11_runOrders.2.1 84 = .ok (.iaload, 1) := by decide +kernel
theorem dX11_runOrders_85 : decode mX11_runOrders.2.1 85 = .ok (.invokevirtual 385, 3) := by decide +kernel
theorem dX11_runOrders_88 : decode mX11_runOrders.2.1 88 = .ok (.iinc 4 1, 3) := by decide +kernel
theorem dX11_runOrders_91 : decode mX11_runOrders.2.1 91 = .ok (.goto (-34), 3) := by decide +kernel
theorem dX11_runOrders_94 : decode mX11_runOrders.2.1 94 = .ok (.goto 31, 3) := by decide +kernel
theorem dX11_runOrders_97 : decode mX11_runOrders.2.1 97 = .ok (.aload_n 0, 1) := by decide +kernel
theorem dX11_runOrders_98 : decode mX11_runOrders.2.1 98 = .ok (.getfield 75, 3) := by decide +kernel
theorem dX11_runOrders_101 : decode mX11_runOrders.2.1 101 = .ok (.iload_n 3, 1) := by decide +kernel
theorem dX11_runOrders_102 : decode mX11_runOrders.2.1 102 = .ok (.iaload, 1) := by decide +kernel
theorem dX11_runOrders_103 : decode mX11_runOrders.2.1 103 = .ok (.iconst 5, 1) := by decide +kernel
theorem dX11_runOrders_104 : decode mX11_runOrders.2.1 104 = .ok (.if_icmp .ne 16, 3) := by decide +kernel
theorem dX11_runOrders_107 : decode mX11_runOrders.2.1 107 = .ok (.aload_n 0, 1) := by decide +kernel
theorem dX11_runOrders_108 : decode mX11_runOrders.2.1 108 = .ok (.aload_n 0, 1) := by decide +kernel
theorem dX11_runOrders_109 : decode mX11_runOrders.2.1 109 = .ok (.getfield 78, 3) := by decide +kernel
theorem dX11_runOrders_112 : decode mX11_runOrders.2.1 112 = .ok (.iload_n 3, 1) := by decide +kernel
theorem dX11_runOrders_113 : decode mX11_runOrders.2.1 113 = .ok (.iaload, 1) := by decide +kernel
theorem dX11_runOrders_114 : decode mX11_runOrders.2.1 114 = .ok (.invokevirtual 388, 3) := by decide +kernel
theorem dX11_runOrders_117 : decode mX11_runOrders.2.1 117 = .ok (.goto 8, 3) := by decide +kernel
theorem dX11_runOrders_120 : decode mX11_runOrders.2.1 120 = .ok (.aload_n 0, 1) := by decide +kernel
theorem dX11_runOrders_121 : decode mX11_runOrders.2.1 121 = .ok (.iload_n 3, 1) := by decide +kernel
theorem dX11_runOrders_122 : decode mX11_runOrders.2.1 122 = .ok (.invokevirtual 391, 3) := by decide +kernel
theorem dX11_runOrders_125 : decode mX11_runOrders.2.1 125 = .ok (.aload_n 0, 1) := by decide +kernel
theorem dX11_runOrders_126 : decode mX11_runOrders.2.1 126 = .ok (.getfield 90, 3) := by decide +kernel
theorem dX11_runOrders_129 : decode mX11_runOrders.2.1 129 = .ok (.iload_n 3, 1) := by decide +kernel
theorem dX11_runOrders_130 : decode mX11_runOrders.2.1 130 = .ok (.iaload, 1) := by decide +kernel
theorem dX11_runOrders_131 : decode mX11_runOrders.2.1 131 = .ok (.istore_n 3, 1) := by decide +kernel
theorem dX11_runOrders_132 : decode mX11_runOrders.2.1 132 = .ok (.goto (-130), 3) := by decide +kernel
theorem dX11_runOrders_135 : decode mX11_runOrders.2.1 135 = .ok (.return_, 1) := by decide +kernel
theorem dX11_turns_0 : decode mX11_turns.2.1 0 = .ok (.aload_n 0, 1) := by decide +kernel
theorem dX11_turns_1 : decode mX11_turns.2.1 1 = .ok (.getfield 394, 3) := by decide +kernel
theorem dX11_turns_4 : decode mX11_turns.2.1 4 = .ok (.ifCond .eq 32, 3) := by decide +kernel
theorem dX11_turns_7 : decode mX11_turns.2.1 7 = .ok (.iload_n 1, 1) := by decide +kernel
theorem dX11_turns_8 : decode mX11_turns.2.1 8 = .ok (.iconst 4, 1) := by decide +kernel
theorem dX11_turns_9 : decode mX11_turns.2.1 9 = .ok (.if_icmp .eq 27, 3) := by decide +kernel
theorem dX11_turns_12 : decode mX11_turns.2.1 12 = .ok (.iload_n 1, 1) := by decide +kernel
theorem dX11_turns_13 : decode mX11_turns.2.1 13 = .ok (.iconst 4, 1) := by decide +kernel
theorem dX11_turns_14 : decode mX11_turns.2.1 14 = .ok (.if_icmp .ge 14, 3) := by decide +kernel
theorem dX11_turns_17 : decode mX11_turns.2.1 17 = .ok (.aload_n 0, 1) := by decide +kernel
theorem dX11_turns_18 : decode mX11_turns.2.1 18 = .ok (.getfield 394, 3) := by decide +kernel
theorem dX11_turns_21 : decode mX11_turns.2.1 21 = .ok (.iconst 1, 1) := by decide +kernel
theorem dX11_turns_22 : decode mX11_turns.2.1 22 = .ok (.if_icmp .ne 18, 3) := by decide +kernel
theorem dX11_turns_25 : decode mX11_turns.2.1 25 = .ok (.goto 11, 3) := by decide +kernel
theorem dX11_turns_28 : decode mX11_turns.2.1 28 = .ok (.aload_n 0, 1) := by decide +kernel
theorem dX11_turns_29 : decode mX11_turns.2.1 29 = .ok (.getfield 394, 3) := by decide +kernel
theorem dX11_turns_32 : decode mX11_turns.2.1 32 = .ok (.iconst 2, 1) := by decide +kernel
theorem dX11_turns_33 : decode mX11_turns.2.1 33 = .ok (.if_icmp .ne 7, 3) := by decide +kernel
theorem dX11_turns_36 : decode mX11_turns.2.1 36 = .ok (.iconst 1, 1) := by decide +kernel
theorem dX11_turns_37 : decode mX11_turns.2.1 37 = .ok (.goto 4, 3) := by decide +kernel
theorem dX11_turns_40 : decode mX11_turns.2.1 40 = .ok (.iconst 0, 1) := by decide +kernel
theorem dX11_turns_41 : decode mX11_turns.2.1 41 = .ok (.istore_n 2, 1) := by decide +kernel
theorem dX11_turns_42 : decode mX11_turns.2.1 42 = .ok (.aload_n 0, 1) := by decide +kernel
theorem dX11_turns_43 : decode mX11_turns.2.1 43 = .ok (.dup, 1) := by decide +kernel
theorem dX11_turns_44 : decode mX11_turns.2.1 44 = .ok (.getfield 397, 3) := by decide +kernel
theorem dX11_turns_47 : decode mX11_turns.2.1 47 = .ok (.iload_n 2, 1) := by decide +kernel
theorem dX11_turns_48 : decode mX11_turns.2.1 48 = .ok (.ifCond .eq 7, 3) := by decide +kernel
theorem dX11_turns_51 : decode mX11_turns.2.1 51 = .ok (.iconst 0, 1) := by decide +kernel
theorem dX11_turns_52 : decode mX11_turns.2.1 52 = .ok (.goto 4, 3) := by decide +kernel
theorem dX11_turns_55 : decode mX11_turns.2.1 55 = .ok (.iconst 1, 1) := by decide +kernel
theorem dX11_turns_56 : decode mX11_turns.2.1 56 = .ok (.iadd, 1) := by decide +kernel
theorem dX11_turns_57 : decode mX11_turns.2.1 57 = .ok (.putfield 397, 3) := by decide +kernel
theorem dX11_turns_60 : decode mX11_turns.2.1 60 = .ok (.iconst 0, 1) := by decide +kernel
theorem dX11_turns_61 : decode mX11_turns.2.1 61 = .ok (.istore_n 3, 1) := by decide +kernel
theorem dX11_turns_62 : decode mX11_turns.2.1 62 = .ok (.iload_n 3, 1) := by decide +kernel
theorem dX11_turns_63 : decode mX11_turns.2.1 63 = .ok (.aload_n 0, 1) := by decide +kernel
theorem dX11_turns_64 : decode mX11_turns.2.1 64 = .ok (.getfield 400, 3) := by decide +kernel
theorem dX11_turns_67 : decode mX11_turns.2.1 67 = .ok (.if_icmp .ge 43, 3) := by decide +kernel
theorem dX11_turns_70 : decode mX11_turns.2.1 70 = .ok (.aload_n 0, 1) := by decide +kernel
theorem dX11_turns_71 : decode mX11_turns.2.1 71 = .ok (.getfield 403, 3) := by decide +kernel
theorem dX11_turns_74 : decode mX11_turns.2.1 74 = .ok (.aload_n 0, 1) := by decide +kernel
theorem dX11_turns_75 : decode mX11_turns.2.1 75 = .ok (.getfield 138, 3) := by decide +kernel
theorem dX11_turns_78 : decode mX11_turns.2.1 78 = .ok (.iload_n 3, 1) := by decide +kernel
theorem dX11_turns_79 : decode mX11_turns.2.1 79 = .ok (.iaload, 1) := by decide +kernel
theorem dX11_turns_80 : decode mX11_turns.2.1 80 = .ok (.invokestatic 405, 3) := by decide +kernel
theorem dX11_turns_83 : decode mX11_turns.2.1 83 = .ok (.istore 4, 2) := by decide +kernel
theorem dX11_turns_85 : decode mX11_turns.2.1 85 = .ok (.aload_n 0, 1) := by decide +kernel
theorem dX11_turns_86 : decode mX11_turns.2.1 86 = .ok (.getfield 135, 3) := by decide +kernel
theorem dX11_turns_89 : decode mX11_turns.2.1 89 = .ok (.iload 4, 2) := by decide +kernel
theorem dX11_turns_91 : decode mX11_turns.2.1 91 = .ok (.aload_n 0, 1) := by decide +kernel
theorem dX11_turns_92 : decode mX11_turns.2.1 92 = .ok (.getfield 135, 3) := by decide +kernel
theorem dX11_turns_95 : decode mX11_turns.2.1 95 = .ok (.iload 4, 2) := by decide +kernel
theorem dX11_turns_97 : decode mX11_turns.2.1 97 = .ok (.iaload, 1) := by decide +kernel
theorem dX11_turns_98 : decode mX11_turns.2.1 98 = .ok (.iload_n 1, 1) := by decide +kernel
theorem dX11_turns_99 : decode mX11_turns.2.1 99 = .ok (.iadd, 1) := by decide +kernel
theorem dX11_turns_100 : decode mX11_turns.2.1 100 = .ok (.bipush 8, 2) := by decide +kernel
theorem dX11_turns_102 : decode mX11_turns.2.1 102 = .ok (.irem, 1) := by decide +kernel
theorem dX11_turns_103 : decode mX11_turns.2.1 103 = .ok (.iastore, 1) := by decide +kernel
theorem dX11_turns_104 : decode mX11_turns.2.1 104 = .ok (.iinc 3 1, 3) := by decide +kernel
theorem dX11_turns_107 : decode mX11_turns.2.1 107 = .ok (.goto (-45), 3) := by decide +kernel
theorem dX11_turns_110 : decode mX11_turns.2.1 110 = .ok (.return_, 1) := by decide +kernel
theorem dX11_steps__0 : decode mX11_steps_.2.1 0 = .ok (.aload_n 0, 1) := by decide +kernel
theorem dX11_steps__1 : decode mX11_steps_.2.1 1 = .ok (.aload_n 0, 1) := by decide +kernel
theorem dX11_steps__2 : decode mX11_steps_.2.1 2 = .ok (.getfield 394, 3) := by decide +kernel
theorem dX11_steps__5 : decode mX11_steps_.2.1 5 = .ok (.iconst 1, 1) := by decide +kernel
theorem dX11_steps__6 : decode mX11_steps_.2.1 6 = .ok (.if_icmp .ne 7, 3) := by decide +kernel
theorem dX11_steps__9 : decode mX11_steps_.2.1 9 = .ok (.iconst 2, 1) := by decide +kernel
theorem dX11_steps__10 : decode mX11_steps_.2.1 10 = .ok (.goto 4, 3) := by decide +kernel
theorem dX11_steps__13 : decode mX11_steps_.2.1 13 = .ok (.iconst 1, 1) := by decide +kernel
theorem dX11_steps__14 : decode mX11_steps_.2.1 14 = .ok (.putfield 394, 3) := by decide +kernel
theorem dX11_steps__17 : decode mX11_steps_.2.1 17 = .ok (.return_, 1) := by decide +kernel
theorem dX11_goes_0 : decode mX11_goes.2.1 0 = .ok (.aload_n 0, 1) := by decide +kernel
theorem dX11_goes_1 : decode mX11_goes.2.1 1 = .ok (.getfield 78, 3) := by decide +kernel
theorem dX11_goes_4 : decode mX11_goes.2.1 4 = .ok (.iload_n 1, 1) := by decide +kernel
theorem dX11_goes_5 : decode mX11_goes.2.1 5 = .ok (.iaload, 1) := by decide +kernel
theorem dX11_goes_6 : decode mX11_goes.2.1 6 = .ok (.istore_n 2, 1) := by decide +kernel
theorem dX11_goes_7 : decode mX11_goes.2.1 7 = .ok (.aload_n 0, 1) := by decide +kernel
theorem dX11_goes_8 : decode mX11_goes.2.1 8 = .ok (.getfield 403, 3) := by decide +kernel
theorem dX11_goes_11 : decode mX11_goes.2.1 11 = .ok (.iload_n 2, 1) := by decide +kernel
theorem dX11_goes_12 : decode mX11_goes.2.1 12 = .ok (.iadd, 1) := by decide +kernel
theorem dX11_goes_13 : decode mX11_goes.2.1 13 = .ok (.sipush 150, 3) := by decide +kernel
theorem dX11_goes_16 : decode mX11_goes.2.1 16 = .ok (.if_icmp .le 9, 3) := by decide +kernel
theorem dX11_goes_19 : decode mX11_goes.2.1 19 = .ok (.aload_n 0, 1) := by decide +kernel
theorem dX11_goes_20 : decode mX11_goes.2.1 20 = .ok (.iconst 2, 1) := by decide +kernel
theorem dX11_goes_21 : decode mX11_goes.2.1 21 = .ok (.iload_n 1, 1) := by decide +kernel
theorem dX11_goes_22 : decode mX11_goes.2.1 22 = .ok (.invokevirtual 383, 3) := by decide +kernel
theorem dX11_goes_25 : decode mX11_goes.2.1 25 = .ok (.aload_n 0, 1) := by decide +kernel
theorem dX11_goes_26 : decode mX11_goes.2.1 26 = .ok (.getfield 75, 3) := by decide +kernel
theorem dX11_goes_29 : decode mX11_goes.2.1 29 = .ok (.iload_n 1, 1) := by decide +kernel
theorem dX11_goes_30 : decode mX11_goes.2.1 30 = .ok (.iaload, 1) := by decide +kernel
theorem dX11_goes_31 : decode mX11_goes.2.1 31 = .ok (.bipush 8, 2) := by decide +kernel
theorem dX11_goes_33 : decode mX11_goes.2.1 33 = .ok (.if_icmp .ne 22, 3) := by decide +kernel
theorem dX11_goes_36 : decode mX11_goes.2.1 36 = .ok (.aload_n 0, 1) := by decide +kernel
theorem dX11_goes_37 : decode mX11_goes.2.1 37 = .ok (.aload_n 0, 1) := by decide +kernel
theorem dX11_goes_38 : decode mX11_goes.2.1 38 = .ok (.getfield 81, 3) := by decide +kernel
theorem dX11_goes_41 : decode mX11_goes.2.1 41 = .ok (.iload_n 1, 1) := by decide +kernel
theorem dX11_goes_42 : decode mX11_goes.2.1 42 = .ok (.iaload, 1) := by decide +kernel
theorem dX11_goes_43 : decode mX11_goes.2.1 43 = .ok (.invokevirtual 408, 3) := by decide +kernel
theorem dX11_goes_46 : decode mX11_goes.2.1 46 = .ok (.ifCond .ne 9, 3) := by decide +kernel
theorem dX11_goes_49 : decode mX11_goes.2.1 49 = .ok (.aload_n 0, 1) := by decide +kernel
theorem dX11_goes_50 : decode mX11_goes.2.1 50 = .ok (.iconst 3, 1) := by decide +kernel
theorem dX11_goes_51 : decode mX11_goes.2.1 51 = .ok (.iload_n 1, 1) := by decide +kernel
theorem dX11_goes_52 : decode mX11_goes.2.1 52 = .ok (.invokevirtual 383, 3) := by decide +kernel
theorem dX11_goes_55 : decode mX11_goes.2.1 55 = .ok (.aload_n 0, 1) := by decide +kernel
theorem dX11_goes_56 : decode mX11_goes.2.1 56 = .ok (.getfield 374, 3) := by decide +kernel
theorem dX11_goes_59 : decode mX11_goes.2.1 59 = .ok (.ifCond .le 4, 3) := by decide +kernel
theorem dX11_goes_62 : decode mX11_goes.2.1 62 = .ok (.return_, 1) := by decide +kernel
theorem dX11_goes_63 : decode mX11_goes.2.1 63 = .ok (.iconst 1, 1) := by decide +kernel
theorem dX11_goes_64 : decode mX11_goes.2.1 64 = .ok (.istore_n 3, 1) := by decide +kernel
theorem dX11_goes_65 : decode mX11_goes.2.1 65 = .ok (.iload_n 3, 1) := by decide +kernel
theorem dX11_goes_66 : decode mX11_goes.2.1 66 = .ok (.iload_n 2, 1) := by decide +kernel
theorem dX11_goes_67 : decode mX11_goes.2.1 67 = .ok (.if_icmp .gt 112, 3) := by decide +kernel
theorem dX11_goes_70 : decode mX11_goes.2.1 70 = .ok (.iconst 0, 1) := by decide +kernel
theorem dX11_goes_71 : decode mX11_goes.2.1 71 = .ok (.istore 4, 2) := by decide +kernel
theorem dX11_goes_73 : decode mX11_goes.2.1 73 = .ok (.iload 4, 2) := by decide +kernel
theorem dX11_goes_75 : decode mX11_goes.2.1 75 = .ok (.aload_n 0, 1) := by decide +kernel
theorem dX11_goes_76 : decode mX11_goes.2.1 76 = .ok (.getfield 400, 3) := by decide +kernel
theorem dX11_goes_79 : decode mX11_goes.2.1 79 = .ok (.if_icmp .ge 72, 3) := by decide +kernel
theorem dX11_goes_82 : decode mX11_goes.2.1 82 = .ok (.aload_n 0, 1) := by decide +kernel
theorem dX11_goes_83 : decode mX11_goes.2.1 83 = .ok (.iload_n 1, 1) := by decide +kernel
theorem dX11_goes_84 : decode mX11_goes.2.1 84 = .ok (.iload 4, 2) := by decide +kernel
theorem dX11_goes_86 : decode mX11_goes.2.1 86 = .ok (.iload_n 3, 1) := by decide +kernel
theorem dX11_goes_87 : decode mX11_goes.2.1 87 = .ok (.iload_n 2, 1) := by decide +kernel
theorem dX11_goes_88 : decode mX11_goes.2.1 88 = .ok (.invokevirtual 411, 3) := by decide +kernel
theorem dX11_goes_91 : decode mX11_goes.2.1 91 = .ok (.aload_n 0, 1) := by decide +kernel
theorem dX11_goes_92 : decode mX11_goes.2.1 92 = .ok (.getfield 129, 3) := by decide +kernel
theorem dX11_goes_95 : decode mX11_goes.2.1 95 = .ok (.aload_n 0, 1) := by decide +kernel
theorem dX11_goes_96 : decode mX11_goes.2.1 96 = .ok (.getfield 403, 3) := by decide +kernel
theorem dX11_goes_99 : decode mX11_goes.2.1 99 = .ok (.iload_n 3, 1) := by decide +kernel
theorem dX11_goes_100 : decode mX11_goes.2.1 100 = .ok (.iadd, 1) := by decide +kernel
theorem dX11_goes_101 : decode mX11_goes.2.1 101 = .ok (.aload_n 0, 1) := by decide +kernel
theorem dX11_goes_102 : decode mX11_goes.2.1 102 = .ok (.getfield 138, 3) := by decide +kernel
theorem dX11_goes_105 : decode mX11_goes.2.1 105 = .ok (.iload 4, 2) := by decide +kernel
theorem dX11_goes_107 : decode mX11_goes.2.1 107 = .ok (.iaload, 1) := by decide +kernel
theorem dX11_goes_108 : decode mX11_goes.2.1 108 = .ok (.invokestatic 405, 3) := by decide +kernel
theorem dX11_goes_111 : decode mX11_goes.2.1 111 = .ok (.iaload, 1) := by decide +kernel
theorem dX11_goes_112 : decode mX11_goes.2.1 112 = .ok (.aload_n 0, 1) := by decide +kernel
theorem dX11_goes_113 : decode mX11_goes.2.1 113 = .ok (.getfield 132, 3) := by decide +kernel
theorem dX11_goes_116 : decode mX11_goes.2.1 116 = .ok (.aload_n 0, 1) := by decide +kernel
theorem dX11_goes_117 : decode mX11_goes.2.1 117 = .ok (.getfield 403, 3) := by decide +kernel
theorem dX11_goes_120 : decode mX11_goes.2.1 120 = .ok (.iload_n 3, 1) := by decide +kernel
theorem dX11_goes_121 : decode mX11_goes.2.1 121 = .ok (.iadd, 1) := by decide +kernel
theorem dX11_goes_122 : decode mX11_goes.2.1 122 = .ok (.aload_n 0, 1) := by decide +kernel
theorem dX11_goes_123 : decode mX11_goes.2.1 123 = .ok (.getfield 138, 3) := by decide +kernel
theorem dX11_goes_126 : decode mX11_goes.2.1 126 = .ok (.iload 4, 2) := by decide +kernel
theorem dX11_goes_128 : decode mX11_goes.2.1 128 = .ok (.iaload, 1) := by decide +kernel
theorem dX11_goes_129 : decode mX11_goes.2.1 129 = .ok (.invokestatic 405, 3) := by decide +kernel
theorem dX11_goes_132 : decode mX11_goes.2.1 132 = .ok (.iaload, 1) := by decide +kernel
theorem dX11_goes_133 : decode mX11_goes.2.1 133 = .ok (.invokestatic 248, 3) := by decide +kernel
theorem dX11_goes_136 : decode mX11_goes.2.1 136 = .ok (.ifCond .ne 9, 3) := by decide +kernel
theorem dX11_goes_139 : decode mX11_goes.2.1 139 = .ok (.aload_n 0, 1) := by decide +kernel
theorem dX11_goes_140 : decode mX11_goes.2.1 140 = .ok (.iconst 4, 1) := by decide +kernel
theorem dX11_goes_141 : decode mX11_goes.2.1 141 = .ok (.iload_n 1, 1) := by decide +kernel
theorem dX11_goes_142 : decode mX11_goes.2.1 142 = .ok (.invokevirtual 383, 3) := by decide +kernel
theorem dX11_goes_145 : decode mX11_goes.2.1 145 = .ok (.iinc 4 1, 3) := by decide +kernel
theorem dX11_goes_148 : decode mX11_goes.2.1 148 = .ok (.goto (-75), 3) := by decide +kernel
theorem dX11_goes_151 : decode mX11_goes.2.1 151 = .ok (.aload_n 0, 1) := by decide +kernel
theorem dX11_goes_152 : decode mX11_goes.2.1 152 = .ok (.getfield 75, 3) := by decide +kernel
theorem dX11_goes_155 : decode mX11_goes.2.1 155 = .ok (.iload_n 1, 1) := by decide +kernel
theorem dX11_goes_156 : decode mX11_goes.2.1 156 = .ok (.iaload, 1) := by decide +kernel
theorem dX11_goes_157 : decode mX11_goes.2.1 157 = .ok (.iconst 3, 1) := by decide +kernel
theorem dX11_goes_158 : decode mX11_goes.2.1 158 = .ok (.if_icmp .ne 11, 3) := by decide +kernel
theorem dX11_goes_161 : decode mX11_goes.2.1 161 = .ok (.aload_n 0, 1) := by decide +kernel
theorem dX11_goes_162 : decode mX11_goes.2.1 162 = .ok (.iconst 0, 1) := by decide +kernel
theorem dX11_goes_163 : decode mX11_goes.2.1 163 = .ok (.putfield 394, 3) := by decide +kernel
theorem dX11_goes_166 : decode mX11_goes.2.1 166 = .ok (.goto 7, 3) := by decide +kernel
theorem dX11_goes_169 : decode mX11_goes.2.1 169 = .ok (.aload_n 0, 1) := by decide +kernel
theorem dX11_goes_170 : decode mX11_goes.2.1 170 = .ok (.invokevirtual 415, 3) := by decide +kernel
theorem dX11_goes_173 : decode mX11_goes.2.1 173 = .ok (.iinc 3 1, 3) := by decide +kernel
theorem dX11_goes_176 : decode mX11_goes.2.1 176 = .ok (.goto (-111), 3) := by decide +kernel
theorem dX11_goes_179 : decode mX11_goes.2.1 179 = .ok (.aload_n 0, 1) := by decide +kernel
theorem dX11_goes_180 : decode mX11_goes.2.1 180 = .ok (.getfield 75, 3) := by decide +kernel
theorem dX11_goes_183 : decode mX11_goes.2.1 183 = .ok (.iload_n 1, 1) := by decide +kernel
theorem dX11_goes_184 : decode mX11_goes.2.1 184 = .ok (.iaload, 1) := by decide +kernel
theorem dX11_goes_185 : decode mX11_goes.2.1 185 = .ok (.bipush 6, 2) := by decide +kernel
theorem dX11_goes_187 : decode mX11_goes.2.1 187 = .ok (.if_icmp .ne 65, 3) := by decide +kernel
theorem dX11_goes_190 : decode mX11_goes.2.1 190 = .ok (.iconst 0, 1) := by decide +kernel
theorem dX11_goes_191 : decode mX11_goes.2.1 191 = .ok (.istore_n 3, 1) := by decide +kernel
theorem dX11_goes_192 : decode mX11_goes.2.1 192 = .ok (.iload_n 3, 1) := by decide +kernel
theorem dX11_goes_193 : decode mX11_goes.2.1 193 = .ok (.aload_n 0, 1) := by decide +kernel
theorem dX11_goes_194 : decode mX11_goes.2.1 194 = .ok (.getfield 400, 3) := by decide +kernel
theorem dX11_goes_197 : decode mX11_goes.2.1 197 = .ok (.if_icmp .ge 55, 3) := by decide +kernel
theorem dX11_goes_200 : decode mX11_goes.2.1 200 = .ok (.aload_n 0, 1) := by decide +kernel
theorem dX11_goes_201 : decode mX11_goes.2.1 201 = .ok (.getfield 403, 3) := by decide +kernel
theorem dX11_goes_204 : decode mX11_goes.2.1 204 = .ok (.iload_n 2, 1) := by decide +kernel
theorem dX11_goes_205 : decode mX11_goes.2.1 205 = .ok (.iadd, 1) := by decide +kernel
theorem dX11_goes_206 : decode mX11_goes.2.1 206 = .ok (.aload_n 0, 1) := by decide +kernel
theorem dX11_goes_207 : decode mX11_goes.2.1 207 = .ok (.getfield 138, 3) := by decide +kernel
theorem dX11_goes_210 : decode mX11_goes.2.1 210 = .ok (.iload_n 3, 1) := by decide +kernel
theorem dX11_goes_211 : decode mX11_goes.2.1 211 = .ok (.iaload, 1) := by decide +kernel
theorem dX11_goes_212 : decode mX11_goes.2.1 212 = .ok (.invokestatic 405, 3) := by decide +kernel
theorem dX11_goes_215 : decode mX11_goes.2.1 215 = .ok (.istore 4, 2) := by decide +kernel
theorem dX11_goes_217 : decode mX11_goes.2.1 217 = .ok (.aload_n 0, 1) := by decide +kernel
theorem dX11_goes_218 : decode mX11_goes.2.1 218 = .ok (.getfield 135, 3) := by decide +kernel
theorem dX11_goes_221 : decode mX11_goes.2.1 221 = .ok (.iload 4, 2) := by decide +kernel
theorem dX11_goes_223 : decode mX11_goes.2.1 223 = .ok (.aload_n 0, 1) := by decide +kernel
theorem dX11_goes_224 : decode mX11_goes.2.1 224 = .ok (.getfield 135, 3) := by decide +kernel
theorem dX11_goes_227 : decode mX11_goes.2.1 227 = .ok (.iload 4, 2) := by decide +kernel
theorem dX11_goes_229 : decode mX11_goes.2.1 229 = .ok (.iaload, 1) := by decide +kernel
theorem dX11_goes_230 : decode mX11_goes.2.1 230 = .ok (.bipush 8, 2) := by decide +kernel
theorem dX11_goes_232 : decode mX11_goes.2.1 232 = .ok (.iadd, 1) := by decide +kernel
theorem dX11_goes_233 : decode mX11_goes.2.1 233 = .ok (.iconst 2, 1) := by decide +kernel
theorem dX11_goes_234 : decode mX11_goes.2.1 234 = .ok (.aload_n 0, 1) := by decide +kernel
theorem dX11_goes_235 : decode mX11_goes.2.1 235 = .ok (.getfield 81, 3) := by decide +kernel
theorem dX11_goes_238 : decode mX11_goes.2.1 238 = .ok (.iload_n 1, 1) := by decide +kernel
theorem dX11_goes_239 : decode mX11_goes.2.1 239 = .ok (.iaload, 1) := by decide +kernel
theorem dX11_goes_240 : decode mX11_goes.2.1 240 = .ok (.imul, 1) := by decide +kernel
theorem dX11_goes_241 : decode mX11_goes.2.1 241 = .ok (.iadd, 1) := by decide +kernel
theorem dX11_goes_242 : decode mX11_goes.2.1 242 = .ok (.bipush 8, 2) := by decide +kernel
theorem dX11_goes_244 : decode mX11_goes.2.1 244 = .ok (.irem, 1) := by decide +kernel
theorem dX11_goes_245 : decode mX11_goes.2.1 245 = .ok (.iastore, 1) := by decide +kernel
theorem dX11_goes_246 : decode mX11_goes.2.1 246 = .ok (.iinc 3 1, 3) := by decide +kernel
theorem dX11_goes_249 : decode mX11_goes.2.1 249 = .ok (.goto (-57), 3) := by decide +kernel
theorem dX11_goes_252 : decode mX11_goes.2.1 252 = .ok (.aload_n 0, 1) := by decide +kernel
theorem dX11_goes_253 : decode mX11_goes.2.1 253 = .ok (.dup, 1) := by decide +kernel
theorem dX11_goes_254 : decode mX11_goes.2.1 254 = .ok (.getfield 403, 3) := by decide +kernel
theorem dX11_goes_257 : decode mX11_goes.2.1 257 = .ok (.iload_n 2, 1) := by decide +kernel
theorem dX11_goes_258 : decode mX11_goes.2.1 258 = .ok (.iadd, 1) := by decide +kernel
theorem dX11_goes_259 : decode mX11_goes.2.1 259 = .ok (.putfield 403, 3) := by decide +kernel
theorem dX11_goes_262 : decode mX11_goes.2.1 262 = .ok (.return_, 1) := by decide +kernel
theorem dX11_isWhole_0 : decode mX11_isWhole.2.1 0 = .ok (.iconst 0, 1) := by decide +kernel
theorem dX11_isWhole_1 : decode mX11_isWhole.2.1 1 = .ok (.istore_n 2, 1) := by decide +kernel
theorem dX11_isWhole_2 : decode mX11_isWhole.2.1 2 = .ok (.iload_n 2, 1) := by decide +kernel
theorem dX11_isWhole_3 : decode mX11_isWhole.2.1 3 = .ok (.aload_n 0, 1) := by decide +kernel
theorem dX11_isWhole_4 : decode mX11_isWhole.2.1 4 = .ok (.getfield 400, 3) := by decide +kernel
theorem dX11_isWhole_7 : decode mX11_isWhole.2.1 7 = .ok (.if_icmp .ge 97, 3) := by decide +kernel
theorem dX11_isWhole_10 : decode mX11_isWhole.2.1 10 = .ok (.aload_n 0, 1) := by decide +kernel
theorem dX11_isWhole_11 : decode mX11_isWhole.2.1 11 = .ok (.getfield 129, 3) := by decide +kernel
theorem dX11_isWhole_14 : decode mX11_isWhole.2.1 14 = .ok (.aload_n 0, 1) := by decide +kernel
theorem dX11_isWhole_15 : decode mX11_isWhole.2.1 15 = .ok (.getfield 403, 3) := by decide +kernel
theorem dX11_isWhole_18 : decode mX11_isWhole.2.1 18 = .ok (.aload_n 0, 1) := by decide +kernel
theorem dX11_isWhole_19 : decode mX11_isWhole.2.1 19 = .ok (.getfield 138, 3) := by decide +kernel
theorem dX11_isWhole_22 : decode mX11_isWhole.2.1 22 = .ok (.iload_n 2, 1) := by decide +kernel
theorem dX11_isWhole_23 : decode mX11_isWhole.2.1 23 = .ok (.iaload, 1) := by decide +kernel
theorem dX11_isWhole_24 : decode mX11_isWhole.2.1 24 = .ok (.invokestatic 405, 3) := by decide +kernel
theorem dX11_isWhole_27 : decode mX11_isWhole.2.1 27 = .ok (.iaload, 1) := by decide +kernel
theorem dX11_isWhole_28 : decode mX11_isWhole.2.1 28 = .ok (.aload_n 0, 1) := by decide +kernel
theorem dX11_isWhole_29 : decode mX11_isWhole.2.1 29 = .ok (.getfield 129, 3) := by decide +kernel
theorem dX11_isWhole_32 : decode mX11_isWhole.2.1 32 = .ok (.aload_n 0, 1) := by decide +kernel
theorem dX11_isWhole_33 : decode mX11_isWhole.2.1 33 = .ok (.getfield 403, 3) := by decide +kernel
theorem dX11_isWhole_36 : decode mX11_isWhole.2.1 36 = .ok (.aload_n 0, 1) := by decide +kernel
theorem dX11_isWhole_37 : decode mX11_isWhole.2.1 37 = .ok (.getfield 138, 3) := by decide +kernel
theorem dX11_isWhole_40 : decode mX11_isWhole.2.1 40 = .ok (.iconst 0, 1) := by decide +kernel
theorem dX11_isWhole_41 : decode mX11_isWhole.2.1 41 = .ok (.iaload, 1) := by decide +kernel
theorem dX11_isWhole_42 : decode mX11_isWhole.2.1 42 = .ok (.invokestatic 405, 3) := by decide +kernel
theorem dX11_isWhole_45 : decode mX11_isWhole.2.1 45 = .ok (.iaload, 1) := by decide +kernel
theorem dX11_isWhole_46 : decode mX11_isWhole.2.1 46 = .ok (.isub, 1) := by decide +kernel
theorem dX11_isWhole_47 : decode mX11_isWhole.2.1 47 = .ok (.iload_n 1, 1) := by decide +kernel
theorem dX11_isWhole_48 : decode mX11_isWhole.2.1 48 = .ok (.irem, 1) := by decide +kernel
theorem dX11_isWhole_49 : decode mX11_isWhole.2.1 49 = .ok (.ifCond .eq 5, 3) := by decide +kernel
theorem dX11_isWhole_52 : decode mX11_isWhole.2.1 52 = .ok (.iconst 0, 1) := by decide +kernel
theorem dX11_isWhole_53 : decode mX11_isWhole.2.1 53 = .ok (.ireturn, 1) := by decide +kernel
theorem dX11_isWhole_54 : decode mX11_isWhole.2.1 54 = .ok (.aload_n 0, 1) := by decide +kernel
theorem dX11_isWhole_55 : decode mX11_isWhole.2.1 55 = .ok (.getfield 132, 3) := by decide +kernel
theorem dX11_isWhole_58 : decode mX11_isWhole.2.1 58 = .ok (.aload_n 0, 1) := by decide +kernel
theorem dX11_isWhole_59 : decode mX11_isWhole.2.1 59 = .ok (.getfield 403, 3) := by decide +kernel
theorem dX11_isWhole_62 : decode mX11_isWhole.2.1 62 = .ok (.aload_n 0, 1) := by decide +kernel
theorem dX11_isWhole_63 : decode mX11_isWhole.2.1 63 = .ok (.getfield 138, 3) := by decide +kernel
theorem dX11_isWhole_66 : decode mX11_isWhole.2.1 66 = .ok (.iload_n 2, 1) := by decide +kernel
theorem dX11_isWhole_67 : decode mX11_isWhole.2.1 67 = .ok (.iaload, 1) := by decide +kernel
theorem dX11_isWhole_68 : decode mX11_isWhole.2.1 68 = .ok (.invokestatic 405, 3) := by decide +kernel
theorem dX11_isWhole_71 : decode mX11_isWhole.2.1 71 = .ok (.iaload, 1) := by decide +kernel
theorem dX11_isWhole_72 : decode mX11_isWhole.2.1 72 = .ok (.aload_n 0, 1) := by decide +kernel
theorem dX11_isWhole_73 : decode mX11_isWhole.2.1 73 = .ok (.getfield 132, 3) := by decide +kernel
theorem dX11_isWhole_76 : decode mX11_isWhole.2.1 76 = .ok (.aload_n 0, 1) := by decide +kernel
theorem dX11_isWhole_77 : decode mX11_isWhole.2.1 77 = .ok (.getfield 403, 3) := by decide +kernel
theorem dX11_isWhole_80 : decode mX11_isWhole.2.1 80 = .ok (.aload_n 0, 1) := by decide +kernel
theorem dX11_isWhole_81 : decode mX11_isWhole.2.1 81 = .ok (.getfield 138, 3) := by decide +kernel
theorem dX11_isWhole_84 : decode mX11_isWhole.2.1 84 = .ok (.iconst 0, 1) := by decide +kernel
theorem dX11_isWhole_85 : decode mX11_isWhole.2.1 85 = .ok (.iaload, 1) := by decide +kernel
theorem dX11_isWhole_86 : decode mX11_isWhole.2.1 86 = .ok (.invokestatic 405, 3) := by decide +kernel
theorem dX11_isWhole_89 : decode mX11_isWhole.2.1 89 = .ok (.iaload, 1) := by decide +kernel
theorem dX11_isWhole_90 : decode mX11_isWhole.2.1 90 = .ok (.isub, 1) := by decide +kernel
theorem dX11_isWhole_91 : decode mX11_isWhole.2.1 91 = .ok (.iload_n 1, 1) := by decide +kernel
theorem dX11_isWhole_92 : decode mX11_isWhole.2.1 92 = .ok (.irem, 1) := by decide +kernel
theorem dX11_isWhole_93 : decode mX11_isWhole.2.1 93 = .ok (.ifCond .eq 5, 3) := by decide +kernel
theorem dX11_isWhole_96 : decode mX11_isWhole.2.1 96 = .ok (.iconst 0, 1) := by decide +kernel
theorem dX11_isWhole_97 : decode mX11_isWhole.2.1 97 = .ok (.ireturn, 1) := by decide +kernel
theorem dX11_isWhole_98 : decode mX11_isWhole.2.1 98 = .ok (.iinc 2 1, 3) := by decide +kernel
theorem dX11_isWhole_101 : decode mX11_isWhole.2.1 101 = .ok (.goto (-99), 3) := by decide +kernel
theorem dX11_isWhole_104 : decode mX11_isWhole.2.1 104 = .ok (.iconst 1, 1) := by decide +kernel
theorem dX11_isWhole_105 : decode mX11_isWhole.2.1 105 = .ok (.ireturn, 1) := by decide +kernel
theorem dX11_goesOne_0 : decode mX11_goesOne.2.1 0 = .ok (.aload_n 0, 1) := by decide +kernel
theorem dX11_goesOne_1 : decode mX11_goesOne.2.1 1 = .ok (.getfield 403, 3) := by decide +kernel
theorem dX11_goesOne_4 : decode mX11_goesOne.2.1 4 = .ok (.aload_n 0, 1) := by decide +kernel
theorem dX11_goesOne_5 : decode mX11_goesOne.2.1 5 = .ok (.getfield 138, 3) := by decide +kernel
theorem dX11_goesOne_8 : decode mX11_goesOne.2.1 8 = .ok (.iload_n 2, 1) := by decide +kernel
theorem dX11_goesOne_9 : decode mX11_goesOne.2.1 9 = .ok (.iaload, 1) := by decide +kernel
theorem dX11_goesOne_10 : decode mX11_goesOne.2.1 10 = .ok (.invokestatic 405, 3) := by decide +kernel
theorem dX11_goesOne_13 : decode mX11_goesOne.2.1 13 = .ok (.istore 5, 2) := by decide +kernel
theorem dX11_goesOne_15 : decode mX11_goesOne.2.1 15 = .ok (.aload_n 0, 1) := by decide +kernel
theorem dX11_goesOne_16 : decode mX11_goesOne.2.1 16 = .ok (.getfield 403, 3) := by decide +kernel
theorem dX11_goesOne_19 : decode mX11_goesOne.2.1 19 = .ok (.iload_n 3, 1) := by decide +kernel
theorem dX11_goesOne_20 : decode mX11_goesOne.2.1 20 = .ok (.iadd, 1) := by decide +kernel
theorem dX11_goesOne_21 : decode mX11_goesOne.2.1 21 = .ok (.iconst 1, 1) := by decide +kernel
theorem dX11_goesOne_22 : decode mX11_goesOne.2.1 22 = .ok (.isub, 1) := by decide +kernel
theorem dX11_goesOne_23 : decode mX11_goesOne.2.1 23 = .ok (.aload_n 0, 1) := by decide +kernel
theorem dX11_goesOne_24 : decode mX11_goesOne.2.1 24 = .ok (.getfield 138, 3) := by decide +kernel
theorem dX11_goesOne_27 : decode mX11_goesOne.2.1 27 = .ok (.iload_n 2, 1) := by decide +kernel
theorem dX11_goesOne_28 : decode mX11_goesOne.2.1 28 = .ok (.iaload, 1) := by decide +kernel
theorem dX11_goesOne_29 : decode mX11_goesOne.2.1 29 = .ok (.invokestatic 405, 3) := by decide +kernel
theorem dX11_goesOne_32 : decode mX11_goesOne.2.1 32 = .ok (.istore 6, 2) := by decide +kernel
theorem dX11_goesOne_34 : decode mX11_goesOne.2.1 34 = .ok (.aload_n 0, 1) := by decide +kernel
theorem dX11_goesOne_35 : decode mX11_goesOne.2.1 35 = .ok (.getfield 403, 3) := by decide +kernel
theorem dX11_goesOne_38 : decode mX11_goesOne.2.1 38 = .ok (.iload_n 3, 1) := by decide +kernel
theorem dX11_goesOne_39 : decode mX11_goesOne.2.1 39 = .ok (.iadd, 1) := by decide +kernel
theorem dX11_goesOne_40 : decode mX11_goesOne.2.1 40 = .ok (.aload_n 0, 1) := by decide +kernel
theorem dX11_goesOne_41 : decode mX11_goesOne.2.1 41 = .ok (.getfield 138, 3) := by decide +kernel
theorem dX11_goesOne_44 : decode mX11_goesOne.2.1 44 = .ok (.iload_n 2, 1) := by decide +kernel
theorem dX11_goesOne_45 : decode mX11_goesOne.2.1 45 = .ok (.iaload, 1) := by decide +kernel
theorem dX11_goesOne_46 : decode mX11_goesOne.2.1 46 = .ok (.invokestatic 405, 3) := by decide +kernel
theorem dX11_goesOne_49 : decode mX11_goesOne.2.1 49 = .ok (.istore 7, 2) := by decide +kernel
theorem dX11_goesOne_51 : decode mX11_goesOne.2.1 51 = .ok (.aload_n 0, 1) := by decide +kernel
theorem dX11_goesOne_52 : decode mX11_goesOne.2.1 52 = .ok (.getfield 403, 3) := by decide +kernel
theorem dX11_goesOne_55 : decode mX11_goesOne.2.1 55 = .ok (.aload_n 0, 1) := by decide +kernel
theorem dX11_goesOne_56 : decode mX11_goesOne.2.1 56 = .ok (.getfield 138, 3) := by decide +kernel
theorem dX11_goesOne_59 : decode mX11_goesOne.2.1 59 = .ok (.iconst 0, 1) := by decide +kernel
theorem dX11_goesOne_60 : decode mX11_goesOne.2.1 60 = .ok (.iaload, 1) := by decide +kernel
theorem dX11_goesOne_61 : decode mX11_goesOne.2.1 61 = .ok (.invokestatic 405, 3) := by decide +kernel
theorem dX11_goesOne_64 : decode mX11_goesOne.2.1 64 = .ok (.istore 8, 2) := by decide +kernel
theorem dX11_goesOne_66 : decode mX11_goesOne.2.1 66 = .ok (.aload_n 0, 1) := by decide +kernel
theorem dX11_goesOne_67 : decode mX11_goesOne.2.1 67 = .ok (.getfield 135, 3) := by decide +kernel
theorem dX11_goesOne_70 : decode mX11_goesOne.2.1 70 = .ok (.iload 6, 2) := by decide +kernel
theorem dX11_goesOne_72 : decode mX11_goesOne.2.1 72 = .ok (.iaload, 1) := by decide +kernel
theorem dX11_goesOne_73 : decode mX11_goesOne.2.1 73 = .ok (.istore 9, 2) := by decide +kernel
theorem dX11_goesOne_75 : decode mX11_goesOne.2.1 75 = .ok (.aload_n 0, 1) := by decide +kernel
theorem dX11_goesOne_76 : decode mX11_goesOne.2.1 76 = .ok (.getfield 129, 3) := by decide +kernel
theorem dX11_goesOne_79 : decode mX11_goesOne.2.1 79 = .ok (.iload 5, 2) := by decide +kernel
theorem dX11_goesOne_81 : decode mX11_goesOne.2.1 81 = .ok (.iaload, 1) := by decide +kernel
theorem dX11_goesOne_82 : decode mX11_goesOne.2.1 82 = .ok (.aload_n 0, 1) := by decide +kernel
theorem dX11_goesOne_83 : decode mX11_goesOne.2.1 83 = .ok (.getfield 129, 3) := by decide +kernel
theorem dX11_goesOne_86 : decode mX11_goesOne.2.1 86 = .ok (.iload 8, 2) := by decide +kernel
theorem dX11_goesOne_88 : decode mX11_goesOne.2.1 88 = .ok (.iaload, 1) := by decide +kernel
theorem dX11_goesOne_89 : decode mX11_goesOne.2.1 89 = .ok (.isub, 1) := by decide +kernel
theorem dX11_goesOne_90 : decode mX11_goesOne.2.1 90 = .ok (.istore 10, 2) := by decide +kernel
theorem dX11_goesOne_92 : decode mX11_goesOne.2.1 92 = .ok (.aload_n 0, 1) := by decide +kernel
theorem dX11_goesOne_93 : decode mX11_goesOne.2.1 93 = .ok (.getfield 132, 3) := by decide +kernel
theorem dX11_goesOne_96 : decode mX11_goesOne.2.1 96 = .ok (.iload 5, 2) := by decide +kernel
theorem dX11_goesOne_98 : decode mX11_goesOne.2.1 98 = .ok (.iaload, 1) := by decide +kernel
theorem dX11_goesOne_99 : decode mX11_goesOne.2.1 99 = .ok (.aload_n 0, 1) := by decide +kernel
theorem dX11_goesOne_100 : decode mX11_goesOne.2.1 100 = .ok (.getfield 132, 3) := by decide +kernel
theorem dX11_goesOne_103 : decode mX11_goesOne.2.1 103 = .ok (.iload 8, 2) := by decide +kernel
theorem dX11_goesOne_105 : decode mX11_goesOne.2.1 105 = .ok (.iaload, 1) := by decide +kernel
theorem dX11_goesOne_106 : decode mX11_goesOne.2.1 106 = .ok (.isub, 1) := by decide +kernel
theorem dX11_goesOne_107 : decode mX11_goesOne.2.1 107 = .ok (.istore 11, 2) := by decide +kernel
theorem dX11_goesOne_109 : decode mX11_goesOne.2.1 109 = .ok (.aload_n 0, 1) := by decide +kernel
theorem dX11_goesOne_110 : decode mX11_goesOne.2.1 110 = .ok (.getfield 135, 3) := by decide +kernel
theorem dX11_goesOne_113 : decode mX11_goesOne.2.1 113 = .ok (.iload 7, 2) := by decide +kernel
theorem dX11_goesOne_115 : decode mX11_goesOne.2.1 115 = .ok (.iload 9, 2) := by decide +kernel
theorem dX11_goesOne_117 : decode mX11_goesOne.2.1 117 = .ok (.iastore, 1) := by decide +kernel
theorem dX11_goesOne_118 : decode mX11_goesOne.2.1 118 = .ok (.aload_n 0, 1) := by decide +kernel
theorem dX11_goesOne_119 : decode mX11_goesOne.2.1 119 = .ok (.getfield 129, 3) := by decide +kernel
theorem dX11_goesOne_122 : decode mX11_goesOne.2.1 122 = .ok (.iload 6, 2) := by decide +kernel
theorem dX11_goesOne_124 : decode mX11_goesOne.2.1 124 = .ok (.iaload, 1) := by decide +kernel
theorem dX11_goesOne_125 : decode mX11_goesOne.2.1 125 = .ok (.istore 12, 2) := by decide +kernel
theorem dX11_goesOne_127 : decode mX11_goesOne.2.1 127 = .ok (.aload_n 0, 1) := by decide +kernel
theorem dX11_goesOne_128 : decode mX11_goesOne.2.1 128 = .ok (.getfield 132, 3) := by decide +kernel
theorem dX11_goesOne_131 : decode mX11_goesOne.2.1 131 = .ok (.iload 6, 2) := by decide +kernel
theorem dX11_goesOne_133 : decode mX11_goesOne.2.1 133 = .ok (.iaload, 1) := by decide +kernel
theorem dX11_goesOne_134 : decode mX11_goesOne.2.1 134 = .ok (.istore 13, 2) := by decide +kernel
theorem dX11_goesOne_136 : decode mX11_goesOne.2.1 136 = .ok (.aload_n 0, 1) := by decide +kernel
theorem dX11_goesOne_137 : decode mX11_goesOne.2.1 137 = .ok (.getfield 75, 3) := by decide +kernel
theorem dX11_goesOne_140 : decode mX11_goesOne.2.1 140 = .ok (.iload_n 1, 1) := by decide +kernel
theorem dX11_goesOne_141 : decode mX11_goesOne.2.1 141 = .ok (.iaload, 1) := by decide +kernel
theorem dX11_goesOne_142 : decode mX11_goesOne.2.1 142 = .ok (.tableswitch 398 0 9 #[54, 77, 398, 398, 100, 398, 183, 241, 296, 353], 54) := by decide +kernel
theorem dX11_goesOne_196 : decode mX11_goesOne.2.1 196 = .ok (.iload 12, 2) := by decide +kernel
theorem dX11_goesOne_198 : decode mX11_goesOne.2.1 198 = .ok (.iload 9, 2) := by decide +kernel
theorem dX11_goesOne_200 : decode mX11_goesOne.2.1 200 = .ok (.invokestatic 418, 3) := by decide +kernel
theorem dX11_goesOne_203 : decode mX11_goesOne.2.1 203 = .ok (.iadd, 1) := by decide +kernel
theorem dX11_goesOne_204 : decode mX11_goesOne.2.1 204 = .ok (.istore 12, 2) := by decide +kernel
theorem dX11_goesOne_206 : decode mX11_goesOne.2.1 206 = .ok (.iload 13, 2) := by decide +kernel
theorem dX11_goesOne_208 : decode mX11_goesOne.2.1 208 = .ok (.iload 9, 2) := by decide +kernel
theorem dX11_goesOne_210 : decode mX11_goesOne.2.1 210 = .ok (.invokestatic 421, 3) := by decide +kernel
theorem dX11_goesOne_213 : decode mX11_goesOne.2.1 213 = .ok (.iadd, 1) := by decide +kernel
theorem dX11_goesOne_214 : decode mX11_goesOne.2.1 214 = .ok (.istore 13, 2) := by decide +kernel
theorem dX11_goesOne_216 : decode mX11_goesOne.2.1 216 = .ok (.goto 324, 3) := by decide +kernel
theorem dX11_goesOne_219 : decode mX11_goesOne.2.1 219 = .ok (.iload 12, 2) := by decide +kernel
theorem dX11_goesOne_221 : decode mX11_goesOne.2.1 221 = .ok (.iload 9, 2) := by decide +kernel
theorem dX11_goesOne_223 : decode mX11_goesOne.2.1 223 = .ok (.invokestatic 418, 3) := by decide +kernel
theorem dX11_goesOne_226 : decode mX11_goesOne.2.1 226 = .ok (.isub, 1) := by decide +kernel
theorem dX11_goesOne_227 : decode mX11_goesOne.2.1 227 = .ok (.istore 12, 2) := by decide +kernel
theorem dX11_goesOne_229 : decode mX11_goesOne.2.1 229 = .ok (.iload 13, 2) := by decide +kernel
theorem dX11_goesOne_231 : decode mX11_goesOne.2.1 231 = .ok (.iload 9, 2) := by decide +kernel
theorem dX11_goesOne_233 : decode mX11_goesOne.2.1 233 = .ok (.invokestatic 421, 3) := by decide +kernel
theorem dX11_goesOne_236 : decode mX11_goesOne.2.1 236 = .ok (.isub, 1) := by decide +kernel
theorem dX11_goesOne_237 : decode mX11_goesOne.2.1 237 = .ok (.istore 13, 2) := by decide +kernel
theorem dX11_goesOne_239 : decode mX11_goesOne.2.1 239 = .ok (.goto 301, 3) := by decide +kernel
theorem dX11_goesOne_242 : decode mX11_goesOne.2.1 242 = .ok (.iload_n 2, 1) := by decide +kernel
theorem dX11_goesOne_243 : decode mX11_goesOne.2.1 243 = .ok (.ifCond .ne 26, 3) := by decide +kernel
theorem dX11_goesOne_246 : decode mX11_goesOne.2.1 246 = .ok (.iload 12, 2) := by decide +kernel
theorem dX11_goesOne_248 : decode mX11_goesOne.2.1 248 = .ok (.iload 9, 2) := by decide +kernel
theorem dX11_goesOne_250 : decode mX11_goesOne.2.1 250 = .ok (.invokestatic 418, 3) := by decide +kernel
theorem dX11_goesOne_253 : decode mX11_goesOne.2.1 253 = .ok (.iadd, 1) := by decide +kernel
theorem dX11_goesOne_254 : decode mX11_goesOne.2.1 254 = .ok (.istore 12, 2) := by decide +kernel
theorem dX11_goesOne_256 : decode mX11_goesOne.2.1 256 = .ok (.iload 13, 2) := by decide +kernel
theorem dX11_goesOne_258 : decode mX11_goesOne.2.1 258 = .ok (.iload 9, 2) := by decide +kernel
theorem dX11_goesOne_260 : decode mX11_goesOne.2.1 260 = .ok (.invokestatic 421, 3) := by decide +kernel
theorem dX11_goesOne_263 : decode mX11_goesOne.2.1 263 = .ok (.iadd, 1) := by decide +kernel
theorem dX11_goesOne_264 : decode mX11_goesOne.2.1 264 = .ok (.istore 13, 2) := by decide +kernel
theorem dX11_goesOne_266 : decode mX11_goesOne.2.1 266 = .ok (.goto 274, 3) := by decide +kernel
theorem dX11_goesOne_269 : decode mX11_goesOne.2.1 269 = .ok (.aload_n 0, 1) := by decide +kernel
theorem dX11_goesOne_270 : decode mX11_goesOne.2.1 270 = .ok (.getfield 403, 3) := by decide +kernel
theorem dX11_goesOne_273 : decode mX11_goesOne.2.1 273 = .ok (.iload_n 3, 1) := by decide +kernel
theorem dX11_goesOne_274 : decode mX11_goesOne.2.1 274 = .ok (.iadd, 1) := by decide +kernel
theorem dX11_goesOne_275 : decode mX11_goesOne.2.1 275 = .ok (.iconst 1, 1) := by decide +kernel
theorem dX11_goesOne_276 : decode mX11_goesOne.2.1 276 = .ok (.isub, 1) := by decide +kernel
theorem dX11_goesOne_277 : decode mX11_goesOne.2.1 277 = .ok (.aload_n 0, 1) := by decide +kernel
theorem dX11_goesOne_278 : decode mX11_goesOne.2.1 278 = .ok (.getfield 138, 3) := by decide +kernel
theorem dX11_goesOne_281 : decode mX11_goesOne.2.1 281 = .ok (.iload_n 2, 1) := by decide +kernel
theorem dX11_goesOne_282 : decode mX11_goesOne.2.1 282 = .ok (.iconst 1, 1) := by decide +kernel
theorem dX11_goesOne_283 : decode mX11_goesOne.2.1 283 = .ok (.isub, 1) := by decide +kernel
theorem dX11_goesOne_284 : decode mX11_goesOne.2.1 284 = .ok (.iaload, 1) := by decide +kernel
theorem dX11_goesOne_285 : decode mX11_goesOne.2.1 285 = .ok (.invokestatic 405, 3) := by decide +kernel
theorem dX11_goesOne_288 : decode mX11_goesOne.2.1 288 = .ok (.istore 14, 2) := by decide +kernel
theorem dX11_goesOne_290 : decode mX11_goesOne.2.1 290 = .ok (.aload_n 0, 1) := by decide +kernel
theorem dX11_goesOne_291 : decode mX11_goesOne.2.1 291 = .ok (.getfield 129, 3) := by decide +kernel
theorem dX11_goesOne_294 : decode mX11_goesOne.2.1 294 = .ok (.iload 14, 2) := by decide +kernel
theorem dX11_goesOne_296 : decode mX11_goesOne.2.1 296 = .ok (.iaload, 1) := by decide +kernel
theorem dX11_goesOne_297 : decode mX11_goesOne.2.1 297 = .ok (.istore 12, 2) := by decide +kernel
theorem dX11_goesOne_299 : decode mX11_goesOne.2.1 299 = .ok (.aload_n 0, 1) := by decide +kernel
theorem dX11_goesOne_300 : decode mX11_goesOne.2.1 300 = .ok (.getfield 132, 3) := by decide +kernel
theorem dX11_goesOne_303 : decode mX11_goesOne.2.1 303 = .ok (.iload 14, 2) := by decide +kernel
theorem dX11_goesOne_305 : decode mX11_goesOne.2.1 305 = .ok (.iaload, 1) := by decide +kernel
theorem dX11_goesOne_306 : decode mX11_goesOne.2.1 306 = .ok (.istore 13, 2) := by decide +kernel
theorem dX11_goesOne_308 : decode mX11_goesOne.2.1 308 = .ok (.aload_n 0, 1) := by decide +kernel
theorem dX11_goesOne_309 : decode mX11_goesOne.2.1 309 = .ok (.getfield 135, 3) := by decide +kernel
theorem dX11_goesOne_312 : decode mX11_goesOne.2.1 312 = .ok (.iload 7, 2) := by decide +kernel
theorem dX11_goesOne_314 : decode mX11_goesOne.2.1 314 = .ok (.aload_n 0, 1) := by decide +kernel
theorem dX11_goesOne_315 : decode mX11_goesOne.2.1 315 = .ok (.getfield 135, 3) := by decide +kernel
theorem dX11_goesOne_318 : decode mX11_goesOne.2.1 318 = .ok (.iload 14, 2) := by decide +kernel
theorem dX11_goesOne_320 : decode mX11_goesOne.2.1 320 = .ok (.iaload, 1) := by decide +kernel
theorem dX11_goesOne_321 : decode mX11_goesOne.2.1 321 = .ok (.iastore, 1) := by decide +kernel
theorem dX11_goesOne_322 : decode mX11_goesOne.2.1 322 = .ok (.goto 218, 3) := by decide +kernel
theorem dX11_goesOne_325 : decode mX11_goesOne.2.1 325 = .ok (.aload_n 0, 1) := by decide +kernel
theorem dX11_goesOne_326 : decode mX11_goesOne.2.1 326 = .ok (.getfield 129, 3) := by decide +kernel
theorem dX11_goesOne_329 : decode mX11_goesOne.2.1 329 = .ok (.iload 5, 2) := by decide +kernel
theorem dX11_goesOne_331 : decode mX11_goesOne.2.1 331 = .ok (.iaload, 1) := by decide +kernel
theorem dX11_goesOne_332 : decode mX11_goesOne.2.1 332 = .ok (.aload_n 0, 1) := by decide +kernel
theorem dX11_goesOne_333 : decode mX11_goesOne.2.1 333 = .ok (.getfield 81, 3) := by decide +kernel
theorem dX11_goesOne_336 : decode mX11_goesOne.2.1 336 = .ok (.iload_n 1, 1) := by decide +kernel
theorem dX11_goesOne_337 : decode mX11_goesOne.2.1 337 = .ok (.iaload, 1) := by decide +kernel
theorem dX11_goesOne_338 : decode mX11_goesOne.2.1 338 = .ok (.iload 11, 2) := by decide +kernel
theorem dX11_goesOne_340 : decode mX11_goesOne.2.1 340 = .ok (.imul, 1) := by decide +kernel
theorem dX11_goesOne_341 : decode mX11_goesOne.2.1 341 = .ok (.iload 10, 2) := by decide +kernel
theorem dX11_goesOne_343 : decode mX11_goesOne.2.1 343 = .ok (.isub, 1) := by decide +kernel
theorem dX11_goesOne_344 : decode mX11_goesOne.2.1 344 = .ok (.iload_n 3, 1) := by decide +kernel
theorem dX11_goesOne_345 : decode mX11_goesOne.2.1 345 = .ok (.iload 4, 2) := by decide +kernel
theorem dX11_goesOne_347 : decode mX11_goesOne.2.1 347 = .ok (.invokestatic 424, 3) := by decide +kernel
theorem dX11_goesOne_350 : decode mX11_goesOne.2.1 350 = .ok (.istore 12, 2) := by decide +kernel
theorem dX11_goesOne_352 : decode mX11_goesOne.2.1 352 = .ok (.aload_n 0, 1) := by decide +kernel
theorem dX11_goesOne_353 : decode mX11_goesOne.2.1 353 = .ok (.getfield 132, 3) := by decide +kernel
theorem dX11_goesOne_356 : decode mX11_goesOne.2.1 356 = .ok (.iload 5, 2) := by decide +kernel
theorem dX11_goesOne_358 : decode mX11_goesOne.2.1 358 = .ok (.iaload, 1) := by decide +kernel
theorem dX11_goesOne_359 : decode mX11_goesOne.2.1 359 = .ok (.aload_n 0, 1) := by decide +kernel
theorem dX11_goesOne_360 : decode mX11_goesOne.2.1 360 = .ok (.getfield 81, 3) := by decide +kernel
theorem dX11_goesOne_363 : decode mX11_goesOne.2.1 363 = .ok (.iload_n 1, 1) := by decide +kernel
theorem dX11_goesOne_364 : decode mX11_goesOne.2.1 364 = .ok (.iaload, 1) := by decide +kernel
theorem dX11_goesOne_365 : decode mX11_goesOne.2.1 365 = .ok (.ineg, 1) := by decide +kernel
theorem dX11_goesOne_366 : decode mX11_goesOne.2.1 366 = .ok (.iload 10, 2) := by decide +kernel
theorem dX11_goesOne_368 : decode mX11_goesOne.2.1 368 = .ok (.imul, 1) := by decide +kernel
theorem dX11_goesOne_369 : decode mX11_goesOne.2.1 369 = .ok (.iload 11, 2) := by decide +kernel
theorem dX11_goesOne_371 : decode mX11_goesOne.2.1 371 = .ok (.isub, 1) := by decide +kernel
theorem dX11_goesOne_372 : decode mX11_goesOne.2.1 372 = .ok (.iload_n 3, 1) := by decide +kernel
theorem dX11_goesOne_373 : decode mX11_goesOne.2.1 373 = .ok (.iload 4, 2) := by decide +kernel
theorem dX11_goesOne_375 : decode mX11_goesOne.2.1 375 = .ok (.invokestatic 424, 3) := by decide +kernel
theorem dX11_goesOne_378 : decode mX11_goesOne.2.1 378 = .ok (.istore 13, 2) := by decide +kernel
theorem dX11_goesOne_380 : decode mX11_goesOne.2.1 380 = .ok (.goto 160, 3) := by decide +kernel
theorem dX11_goesOne_383 : decode mX11_goesOne.2.1 383 = .ok (.aload_n 0, 1) := by decide +kernel
theorem dX11_goesOne_384 : decode mX11_goesOne.2.1 384 = .ok (.getfield 129, 3) := by decide +kernel
theorem dX11_goesOne_387 : decode mX11_goesOne.2.1 387 = .ok (.iload 5, 2) := by decide +kernel
theorem dX11_goesOne_389 : decode mX11_goesOne.2.1 389 = .ok (.iaload, 1) := by decide +kernel
theorem dX11_goesOne_390 : decode mX11_goesOne.2.1 390 = .ok (.aload_n 0, 1) := by decide +kernel
theorem dX11_goesOne_391 : decode mX11_goesOne.2.1 391 = .ok (.getfield 81, 3) := by decide +kernel
theorem dX11_goesOne_394 : decode mX11_goesOne.2.1 394 = .ok (.iload_n 1, 1) := by decide +kernel
theorem dX11_goesOne_395 : decode mX11_goesOne.2.1 395 = .ok (.iaload, 1) := by decide +kernel
theorem dX11_goesOne_396 : decode mX11_goesOne.2.1 396 = .ok (.iconst 1, 1) := by decide +kernel
theorem dX11_goesOne_397 : decode mX11_goesOne.2.1 397 = .ok (.isub, 1) := by decide +kernel
theorem dX11_goesOne_398 : decode mX11_goesOne.2.1 398 = .ok (.iload 10, 2) := by decide +kernel
theorem dX11_goesOne_400 : decode mX11_goesOne.2.1 400 = .ok (.imul, 1) := by decide +kernel
theorem dX11_goesOne_401 : decode mX11_goesOne.2.1 401 = .ok (.iload_n 3, 1) := by decide +kernel
theorem dX11_goesOne_402 : decode mX11_goesOne.2.1 402 = .ok (.iload 4, 2) := by decide +kernel
theorem dX11_goesOne_404 : decode mX11_goesOne.2.1 404 = .ok (.invokestatic 424, 3) := by decide +kernel
theorem dX11_goesOne_407 : decode mX11_goesOne.2.1 407 = .ok (.istore 12, 2) := by decide +kernel
theorem dX11_goesOne_409 : decode mX11_goesOne.2.1 409 = .ok (.aload_n 0, 1) := by decide +kernel
theorem dX11_goesOne_410 : decode mX11_goesOne.2.1 410 = .ok (.getfield 132, 3) := by decide +kernel
theorem dX11_goesOne_413 : decode mX11_goesOne.2.1 413 = .ok (.iload 5, 2) := by decide +kernel
theorem dX11_goesOne_415 : decode mX11_goesOne.2.1 415 = .ok (.iaload, 1) := by decide +kernel
theorem dX11_goesOne_416 : decode mX11_goesOne.2.1 416 = .ok (.aload_n 0, 1) := by decide +kernel
theorem dX11_goesOne_417 : decode mX11_goesOne.2.1 417 = .ok (.getfield 81, 3) := by decide +kernel
theorem dX11_goesOne_420 : decode mX11_goesOne.2.1 420 = .ok (.iload_n 1, 1) := by decide +kernel
theorem dX11_goesOne_421 : decode mX11_goesOne.2.1 421 = .ok (.iaload, 1) := by decide +kernel
theorem dX11_goesOne_422 : decode mX11_goesOne.2.1 422 = .ok (.iconst 1, 1) := by decide +kernel
theorem dX11_goesOne_423 : decode mX11_goesOne.2.1 423 = .ok (.isub, 1) := by decide +kernel
theorem dX11_goesOne_424 : decode mX11_goesOne.2.1 424 = .ok (.iload 11, 2) := by decide +kernel
theorem dX11_goesOne_426 : decode mX11_goesOne.2.1 426 = .ok (.imul, 1) := by decide +kernel
theorem dX11_goesOne_427 : decode mX11_goesOne.2.1 427 = .ok (.iload_n 3, 1) := by decide +kernel
theorem dX11_goesOne_428 : decode mX11_goesOne.2.1 428 = .ok (.iload 4, 2) := by decide +kernel
theorem dX11_goesOne_430 : decode mX11_goesOne.2.1 430 = .ok (.invokestatic 424, 3) := by decide +kernel
theorem dX11_goesOne_433 : decode mX11_goesOne.2.1 433 = .ok (.istore 13, 2) := by decide +kernel
theorem dX11_goesOne_435 : decode mX11_goesOne.2.1 435 = .ok (.goto 105, 3) := by decide +kernel
theorem dX11_goesOne_438 : decode mX11_goesOne.2.1 438 = .ok (.aload_n 0, 1) := by decide +kernel
theorem dX11_goesOne_439 : decode mX11_goesOne.2.1 439 = .ok (.getfield 129, 3) := by decide +kernel
theorem dX11_goesOne_442 : decode mX11_goesOne.2.1 442 = .ok (.iload 5, 2) := by decide +kernel
theorem dX11_goesOne_444 : decode mX11_goesOne.2.1 444 = .ok (.iaload, 1) := by decide +kernel
theorem dX11_goesOne_445 : decode mX11_goesOne.2.1 445 = .ok (.iload 10, 2) := by decide +kernel
theorem dX11_goesOne_447 : decode mX11_goesOne.2.1 447 = .ok (.aload_n 0, 1) := by decide +kernel
theorem dX11_goesOne_448 : decode mX11_goesOne.2.1 448 = .ok (.getfield 81, 3) := by decide +kernel
theorem dX11_goesOne_451 : decode mX11_goesOne.2.1 451 = .ok (.iload_n 1, 1) := by decide +kernel
theorem dX11_goesOne_452 : decode mX11_goesOne.2.1 452 = .ok (.iaload, 1) := by decide +kernel
theorem dX11_goesOne_453 : decode mX11_goesOne.2.1 453 = .ok (.idiv, 1) := by decide +kernel
theorem dX11_goesOne_454 : decode mX11_goesOne.2.1 454 = .ok (.iload 10, 2) := by decide +kernel
theorem dX11_goesOne_456 : decode mX11_goesOne.2.1 456 = .ok (.isub, 1) := by decide +kernel
theorem dX11_goesOne_457 : decode mX11_goesOne.2.1 457 = .ok (.iload_n 3, 1) := by decide +kernel
theorem dX11_goesOne_458 : decode mX11_goesOne.2.1 458 = .ok (.iload 4, 2) := by decide +kernel
theorem dX11_goesOne_460 : decode mX11_goesOne.2.1 460 = .ok (.invokestatic 424, 3) := by decide +kernel
theorem dX11_goesOne_463 : decode mX11_goesOne.2.1 463 = .ok (.istore 12, 2) := by decide +kernel
theorem dX11_goesOne_465 : decode mX11_goesOne.2.1 465 = .ok (.aload_n 0, 1) := by decide +kernel
theorem dX11_goesOne_466 : decode mX11_goesOne.2.1 466 = .ok (.getfield 132, 3) := by decide +kernel
theorem dX11_goesOne_469 : decode mX11_goesOne.2.1 469 = .ok (.iload 5, 2) := by decide +kernel
theorem dX11_goesOne_471 : decode mX11_goesOne.2.1 471 = .ok (.iaload, 1) := by decide +kernel
theorem dX11_goesOne_472 : decode mX11_goesOne.2.1 472 = .ok (.iload 11, 2) := by decide +kernel
theorem dX11_goesOne_474 : decode mX11_goesOne.2.1 474 = .ok (.aload_n 0, 1) := by decide +kernel
theorem dX11_goesOne_475 : decode mX11_goesOne.2.1 475 = .ok (.getfield 81, 3) := by decide +kernel
theorem dX11_goesOne_478 : decode mX11_goesOne.2.1 478 = .ok (.iload_n 1, 1) := by decide +kernel
theorem dX11_goesOne_479 : decode mX11_goesOne.2.1 479 = .ok (.iaload, 1) := by decide +kernel
theorem dX11_goesOne_480 : decode mX11_goesOne.2.1 480 = .ok (.idiv, 1) := by decide +kernel
theorem dX11_goesOne_481 : decode mX11_goesOne.2.1 481 = .ok (.iload 11, 2) := by decide +kernel
theorem dX11_goesOne_483 : decode mX11_goesOne.2.1 483 = .ok (.isub, 1) := by decide +kernel
theorem dX11_goesOne_484 : decode mX11_goesOne.2.1 484 = .ok (.iload_n 3, 1) := by decide +kernel
theorem dX11_goesOne_485 : decode mX11_goesOne.2.1 485 = .ok (.iload 4, 2) := by decide +kernel
theorem dX11_goesOne_487 : decode mX11_goesOne.2.1 487 = .ok (.invokestatic 424, 3) := by decide +kernel
theorem dX11_goesOne_490 : decode mX11_goesOne.2.1 490 = .ok (.istore 13, 2) := by decide +kernel
theorem dX11_goesOne_492 : decode mX11_goesOne.2.1 492 = .ok (.goto 48, 3) := by decide +kernel
theorem dX11_goesOne_495 : decode mX11_goesOne.2.1 495 = .ok (.aload_n 0, 1) := by decide +kernel
theorem dX11_goesOne_496 : decode mX11_goesOne.2.1 496 = .ok (.getfield 129, 3) := by decide +kernel
theorem dX11_goesOne_499 : decode mX11_goesOne.2.1 499 = .ok (.iload 5, 2) := by decide +kernel
theorem dX11_goesOne_501 : decode mX11_goesOne.2.1 501 = .ok (.iaload, 1) := by decide +kernel
theorem dX11_goesOne_502 : decode mX11_goesOne.2.1 502 = .ok (.aload_n 0, 1) := by decide +kernel
theorem dX11_goesOne_503 : decode mX11_goesOne.2.1 503 = .ok (.getfield 81, 3) := by decide +kernel
theorem dX11_goesOne_506 : decode mX11_goesOne.2.1 506 = .ok (.iload_n 1, 1) := by decide +kernel
theorem dX11_goesOne_507 : decode mX11_goesOne.2.1 507 = .ok (.iaload, 1) := by decide +kernel
theorem dX11_goesOne_508 : decode mX11_goesOne.2.1 508 = .ok (.iload_n 3, 1) := by decide +kernel
theorem dX11_goesOne_509 : decode mX11_goesOne.2.1 509 = .ok (.iload 4, 2) := by decide +kernel
theorem dX11_goesOne_511 : decode mX11_goesOne.2.1 511 = .ok (.invokestatic 424, 3) := by decide +kernel
theorem dX11_goesOne_514 : decode mX11_goesOne.2.1 514 = .ok (.istore 12, 2) := by decide +kernel
theorem dX11_goesOne_516 : decode mX11_goesOne.2.1 516 = .ok (.aload_n 0, 1) := by decide +kernel
theorem dX11_goesOne_517 : decode mX11_goesOne.2.1 517 = .ok (.getfield 132, 3) := by decide +kernel
theorem dX11_goesOne_520 : decode mX11_goesOne.2.1 520 = .ok (.iload 5, 2) := by decide +kernel
theorem dX11_goesOne_522 : decode mX11_goesOne.2.1 522 = .ok (.iaload, 1) := by decide +kernel
theorem dX11_goesOne_523 : decode mX11_goesOne.2.1 523 = .ok (.aload_n 0, 1) := by decide +kernel
theorem dX11_goesOne_524 : decode mX11_goesOne.2.1 524 = .ok (.getfield 84, 3) := by decide +kernel
theorem dX11_goesOne_527 : decode mX11_goesOne.2.1 527 = .ok (.iload_n 1, 1) := by decide +kernel
theorem dX11_goesOne_528 : decode mX11_goesOne.2.1 528 = .ok (.iaload, 1) := by decide +kernel
theorem dX11_goesOne_529 : decode mX11_goesOne.2.1 529 = .ok (.iload_n 3, 1) := by decide +kernel
theorem dX11_goesOne_530 : decode mX11_goesOne.2.1 530 = .ok (.iload 4, 2) := by decide +kernel
theorem dX11_goesOne_532 : decode mX11_goesOne.2.1 532 = .ok (.invokestatic 424, 3) := by decide +kernel
theorem dX11_goesOne_535 : decode mX11_goesOne.2.1 535 = .ok (.istore 13, 2) := by decide +kernel
theorem dX11_goesOne_537 : decode mX11_goesOne.2.1 537 = .ok (.goto 3, 3) := by decide +kernel
theorem dX11_goesOne_540 : decode mX11_goesOne.2.1 540 = .ok (.aload_n 0, 1) := by decide +kernel
theorem dX11_goesOne_541 : decode mX11_goesOne.2.1 541 = .ok (.getfield 129, 3) := by decide +kernel
theorem dX11_goesOne_544 : decode mX11_goesOne.2.1 544 = .ok (.iload 7, 2) := by decide +kernel
theorem dX11_goesOne_546 : decode mX11_goesOne.2.1 546 = .ok (.iload 12, 2) := by decide +kernel
theorem dX11_goesOne_548 : decode mX11_goesOne.2.1 548 = .ok (.iastore, 1) := by decide +kernel
theorem dX11_goesOne_549 : decode mX11_goesOne.2.1 549 = .ok (.aload_n 0, 1) := by decide +kernel
theorem dX11_goesOne_550 : decode mX11_goesOne.2.1 550 = .ok (.getfield 132, 3) := by decide +kernel
theorem dX11_goesOne_553 : decode mX11_goesOne.2.1 553 = .ok (.iload 7, 2) := by decide +kernel
theorem dX11_goesOne_555 : decode mX11_goesOne.2.1 555 = .ok (.iload 13, 2) := by decide +kernel
theorem dX11_goesOne_557 : decode mX11_goesOne.2.1 557 = .ok (.iastore, 1) := by decide +kernel
theorem dX11_goesOne_558 : decode mX11_goesOne.2.1 558 = .ok (.return_, 1) := by decide +kernel
theorem dX11_stays_0 : decode mX11_stays.2.1 0 = .ok (.iload_n 2, 1) := by decide +kernel
theorem dX11_stays_1 : decode mX11_stays.2.1 1 = .ok (.iconst 1, 1) := by decide +kernel
theorem dX11_stays_2 : decode mX11_stays.2.1 2 = .ok (.iadd, 1) := by decide +kernel
theorem dX11_stays_3 : decode mX11_stays.2.1 3 = .ok (.istore_n 3, 1) := by decide +kernel
theorem dX11_stays_4 : decode mX11_stays.2.1 4 = .ok (.iload_n 3, 1) := by decide +kernel
theorem dX11_stays_5 : decode mX11_stays.2.1 5 = .ok (.sipush 150, 3) := by decide +kernel
theorem dX11_stays_8 : decode mX11_stays.2.1 8 = .ok (.if_icmp .gt 69, 3) := by decide +kernel
theorem dX11_stays_11 : decode mX11_stays.2.1 11 = .ok (.aload_n 0, 1) := by decide +kernel
theorem dX11_stays_12 : decode mX11_stays.2.1 12 = .ok (.getfield 129, 3) := by decide +kernel
theorem dX11_stays_15 : decode mX11_stays.2.1 15 = .ok (.iload_n 3, 1) := by decide +kernel
theorem dX11_stays_16 : decode mX11_stays.2.1 16 = .ok (.iload_n 1, 1) := by decide +kernel
theorem dX11_stays_17 : decode mX11_stays.2.1 17 = .ok (.invokestatic 405, 3) := by decide +kernel
theorem dX11_stays_20 : decode mX11_stays.2.1 20 = .ok (.aload_n 0, 1) := by decide +kernel
theorem dX11_stays_21 : decode mX11_stays.2.1 21 = .ok (.getfield 129, 3) := by decide +kernel
theorem dX11_stays_24 : decode mX11_stays.2.1 24 = .ok (.iload_n 2, 1) := by decide +kernel
theorem dX11_stays_25 : decode mX11_stays.2.1 25 = .ok (.iload_n 1, 1) := by decide +kernel
theorem dX11_stays_26 : decode mX11_stays.2.1 26 = .ok (.invokestatic 405, 3) := by decide +kernel
theorem dX11_stays_29 : decode mX11_stays.2.1 29 = .ok (.iaload, 1) := by decide +kernel
theorem dX11_stays_30 : decode mX11_stays.2.1 30 = .ok (.iastore, 1) := by decide +kernel
theorem dX11_stays_31 : decode mX11_stays.2.1 31 = .ok (.aload_n 0, 1) := by decide +kernel
theorem dX11_stays_32 : decode mX11_stays.2.1 32 = .ok (.getfield 132, 3) := by decide +kernel
theorem dX11_stays_35 : decode mX11_stays.2.1 35 = .ok (.iload_n 3, 1) := by decide +kernel
theorem dX11_stays_36 : decode mX11_stays.2.1 36 = .ok (.iload_n 1, 1) := by decide +kernel
theorem dX11_stays_37 : decode mX11_stays.2.1 37 = .ok (.invokestatic 405, 3) := by decide +kernel
theorem dX11_stays_40 : decode mX11_stays.2.1 40 = .ok (.aload_n 0, 1) := by decide +kernel
theorem dX11_stays_41 : decode mX11_stays.2.1 41 = .ok (.getfield 132, 3) := by decide +kernel
theorem dX11_stays_44 : decode mX11_stays.2.1 44 = .ok (.iload_n 2, 1) := by decide +kernel
theorem dX11_stays_45 : decode mX11_stays.2.1 45 = .ok (.iload_n 1, 1) := by decide +kernel
theorem dX11_stays_46 : decode mX11_stays.2.1 46 = .ok (.invokestatic 405, 3) := by decide +kernel
theorem dX11_stays_49 : decode mX11_stays.2.1 49 = .ok (.iaload, 1) := by decide +kernel
theorem dX11_stays_50 : decode mX11_stays.2.1 50 = .ok (.iastore, 1) := by decide +kernel
theorem dX11_stays_51 : decode mX11_stays.2.1 51 = .ok (.aload_n 0, 1) := by decide +kernel
theorem dX11_stays_52 : decode mX11_stays.2.1 52 = .ok (.getfield 135, 3) := by decide +kernel
theorem dX11_stays_55 : decode mX11_stays.2.1 55 = .ok (.iload_n 3, 1) := by decide +kernel
theorem dX11_stays_56 : decode mX11_stays.2.1 56 = .ok (.iload_n 1, 1) := by decide +kernel
theorem dX11_stays_57 : decode mX11_stays.2.1 57 = .ok (.invokestatic 405, 3) := by decide +kernel
theorem dX11_stays_60 : decode mX11_stays.2.1 60 = .ok (.aload_n 0, 1) := by decide +kernel
theorem dX11_stays_61 : decode mX11_stays.2.1 61 = .ok (.getfield 135, 3) := by decide +kernel
theorem dX11_stays_64 : decode mX11_stays.2.1 64 = .ok (.iload_n 2, 1) := by decide +kernel
theorem dX11_stays_65 : decode mX11_stays.2.1 65 = .ok (.iload_n 1, 1) := by decide +kernel
theorem dX11_stays_66 : decode mX11_stays.2.1 66 = .ok (.invokestatic 405, 3) := by decide +kernel
theorem dX11_stays_69 : decode mX11_stays.2.1 69 = .ok (.iaload, 1) := by decide +kernel
theorem dX11_stays_70 : decode mX11_stays.2.1 70 = .ok (.iastore, 1) := by decide +kernel
theorem dX11_stays_71 : decode mX11_stays.2.1 71 = .ok (.iinc 3 1, 3) := by decide +kernel
theorem dX11_stays_74 : decode mX11_stays.2.1 74 = .ok (.goto (-70), 3) := by decide +kernel
theorem dX11_stays_77 : decode mX11_stays.2.1 77 = .ok (.return_, 1) := by decide +kernel
theorem dX11_run_0 : decode mX11_run.2.1 0 = .ok (.aload_n 0, 1) := by decide +kernel
theorem dX11_run_1 : decode mX11_run.2.1 1 = .ok (.iconst 0, 1) := by decide +kernel
theorem dX11_run_2 : decode mX11_run.2.1 2 = .ok (.putfield 213, 3) := by decide +kernel
theorem dX11_run_5 : decode mX11_run.2.1 5 = .ok (.aload_n 0, 1) := by decide +kernel
theorem dX11_run_6 : decode mX11_run.2.1 6 = .ok (.iconst 0, 1) := by decide +kernel
theorem dX11_run_7 : decode mX11_run.2.1 7 = .ok (.putfield 216, 3) := by decide +kernel
theorem dX11_run_10 : decode mX11_run.2.1 10 = .ok (.aload_n 0, 1) := by decide +kernel
theorem dX11_run_11 : decode mX11_run.2.1 11 = .ok (.getfield 57, 3) := by decide +kernel
theorem dX11_run_14 : decode mX11_run.2.1 14 = .ok (.ifCond .ge 10, 3) := by decide +kernel
theorem dX11_run_17 : decode mX11_run.2.1 17 = .ok (.aload_n 0, 1) := by decide +kernel
theorem dX11_run_18 : decode mX11_run.2.1 18 = .ok (.bipush 8, 2) := by decide +kernel
theorem dX11_run_20 : decode mX11_run.2.1 20 = .ok (.invokevirtual 254, 3) := by decide +kernel
theorem dX11_run_23 : decode mX11_run.2.1 23 = .ok (.ireturn, 1) := by decide +kernel
theorem dX11_run_24 : decode mX11_run.2.1 24 = .ok (.iconst 0, 1) := by decide +kernel
theorem dX11_run_25 : decode mX11_run.2.1 25 = .ok (.istore_n 1, 1) := by decide +kernel
theorem dX11_run_26 : decode mX11_run.2.1 26 = .ok (.iload_n 1, 1) := by decide +kernel
theorem dX11_run_27 : decode mX11_run.2.1 27 = .ok (.aload_n 0, 1) := by decide +kernel
theorem dX11_run_28 : decode mX11_run.2.1 28 = .ok (.getfield 245, 3) := by decide +kernel
theorem dX11_run_31 : decode mX11_run.2.1 31 = .ok (.if_icmp .ge 51, 3) := by decide +kernel
theorem dX11_run_34 : decode mX11_run.2.1 34 = .ok (.aload_n 0, 1) := by decide +kernel
theorem dX11_run_35 : decode mX11_run.2.1 35 = .ok (.getfield 129, 3) := by decide +kernel
theorem dX11_run_38 : decode mX11_run.2.1 38 = .ok (.iload_n 1, 1) := by decide +kernel
theorem dX11_run_39 : decode mX11_run.2.1 39 = .ok (.aload_n 0, 1) := by decide +kernel
theorem dX11_run_40 : decode mX11_run.2.1 40 = .ok (.getfield 28, 3) := by decide +kernel
theorem dX11_run_43 : decode mX11_run.2.1 43 = .ok (.iload_n 1, 1) := by decide +kernel
theorem dX11_run_44 : decode mX11_run.2.1 44 = .ok (.iaload, 1) := by decide +kernel
theorem dX11_run_45 : decode mX11_run.2.1 45 = .ok (.iastore, 1) := by decide +kernel
theorem dX11_run_46 : decode mX11_run.2.1 46 = .ok (.aload_n 0, 1) := by decide +kernel
theorem dX11_run_47 : decode mX11_run.2.1 47 = .ok (.getfield 132, 3) := by decide +kernel
theorem dX11_run_50 : decode mX11_run.2.1 50 = .ok (.iload_n 1, 1) := by decide +kernel
theorem dX11_run_51 : decode mX11_run.2.1 51 = .ok (.aload_n 0, 1) := by decide +kernel
theorem dX11_run_52 : decode mX11_run.2.1 52 = .ok (.getfield 31, 3) := by decide +kernel
theorem dX11_run_55 : decode mX11_run.2.1 55 = .ok (.iload_n 1, 1) := by decide +kernel
theorem dX11_run_56 : decode mX11_run.2.1 56 = .ok (.iaload, 1) := by decide +kernel
theorem dX11_run_57 : decode mX11_run.2.1 57 = .ok (.iastore, 1) := by decide +kernel
theorem dX11_run_58 : decode mX11_run.2.1 58 = .ok (.aload_n 0, 1) := by decide +kernel
theorem dX11_run_59 : decode mX11_run.2.1 59 = .ok (.getfield 135, 3) := by decide +kernel
theorem dX11_run_62 : decode mX11_run.2.1 62 = .ok (.iload_n 1, 1) := by decide +kernel
theorem dX11_run_63 : decode mX11_run.2.1 63 = .ok (.aload_n 0, 1) := by decide +kernel
theorem dX11_run_64 : decode mX11_run.2.1 64 = .ok (.getfield 34, 3) := by decide +kernel
theorem dX11_run_67 : decode mX11_run.2.1 67 = .ok (.iload_n 1, 1) := by decide +kernel
theorem dX11_run_68 : decode mX11_run.2.1 68 = .ok (.iaload, 1) := by decide +kernel
theorem dX11_run_69 : decode mX11_run.2.1 69 = .ok (.iastore, 1) := by decide +kernel
theorem dX11_run_70 : decode mX11_run.2.1 70 = .ok (.aload_n 0, 1) := by decide +kernel
theorem dX11_run_71 : decode mX11_run.2.1 71 = .ok (.iload_n 1, 1) := by decide +kernel
theorem dX11_run_72 : decode mX11_run.2.1 72 = .ok (.iconst 0, 1) := by decide +kernel
theorem dX11_run_73 : decode mX11_run.2.1 73 = .ok (.invokevirtual 428, 3) := by decide +kernel
theorem dX11_run_76 : decode mX11_run.2.1 76 = .ok (.iinc 1 1, 3) := by decide +kernel
theorem dX11_run_79 : decode mX11_run.2.1 79 = .ok (.goto (-53), 3) := by decide +kernel
theorem dX11_run_82 : decode mX11_run.2.1 82 = .ok (.aload_n 0, 1) := by decide +kernel
theorem dX11_run_83 : decode mX11_run.2.1 83 = .ok (.iconst 0, 1) := by decide +kernel
theorem dX11_run_84 : decode mX11_run.2.1 84 = .ok (.putfield 374, 3) := by decide +kernel
theorem dX11_run_87 : decode mX11_run.2.1 87 = .ok (.aload_n 0, 1) := by decide +kernel
theorem dX11_run_88 : decode mX11_run.2.1 88 = .ok (.iconst 0, 1) := by decide +kernel
theorem dX11_run_89 : decode mX11_run.2.1 89 = .ok (.putfield 397, 3) := by decide +kernel
theorem dX11_run_92 : decode mX11_run.2.1 92 = .ok (.iconst 0, 1) := by decide +kernel
theorem dX11_run_93 : decode mX11_run.2.1 93 = .ok (.istore_n 1, 1) := by decide +kernel
theorem dX11_run_94 : decode mX11_run.2.1 94 = .ok (.iconst 0, 1) := by decide +kernel
theorem dX11_run_95 : decode mX11_run.2.1 95 = .ok (.istore_n 2, 1) := by decide +kernel
theorem dX11_run_96 : decode mX11_run.2.1 96 = .ok (.iconst 0, 1) := by decide +kernel
theorem dX11_run_97 : decode mX11_run.2.1 97 = .ok (.istore_n 3, 1) := by decide +kernel
theorem dX11_run_98 : decode mX11_run.2.1 98 = .ok (.iload_n 3, 1) := by decide +kernel
theorem dX11_run_99 : decode mX11_run.2.1 99 = .ok (.aload_n 0, 1) := by decide +kernel
theorem dX11_run_100 : decode mX11_run.2.1 100 = .ok (.getfield 57, 3) := by decide +kernel
theorem dX11_run_103 : decode mX11_run.2.1 103 = .ok (.if_icmp .ge 178, 3) := by decide +kernel
theorem dX11_run_106 : decode mX11_run.2.1 106 = .ok (.aload_n 0, 1) := by decide +kernel
theorem dX11_run_107 : decode mX11_run.2.1 107 = .ok (.getfield 374, 3) := by decide +kernel
theorem dX11_run_110 : decode mX11_run.2.1 110 = .ok (.ifCond .ne 171, 3) := by decide +kernel
theorem dX11_run_113 : decode mX11_run.2.1 113 = .ok (.aload_n 0, 1) := by decide +kernel
theorem dX11_run_114 : decode mX11_run.2.1 114 = .ok (.iconst 0, 1) := by decide +kernel
theorem dX11_run_115 : decode mX11_run.2.1 115 = .ok (.putfield 400, 3) := by decide +kernel
theorem dX11_run_118 : decode mX11_run.2.1 118 = .ok (.iconst 0, 1) := by decide +kernel
theorem dX11_run_119 : decode mX11_run.2.1 119 = .ok (.istore 4, 2) := by decide +kernel
theorem dX11_run_121 : decode mX11_run.2.1 121 = .ok (.iload 4, 2) := by decide +kernel
theorem dX11_run_123 : decode mX11_run.2.1 123 = .ok (.aload_n 0, 1) := by decide +kernel
theorem dX11_run_124 : decode mX11_run.2.1 124 = .ok (.getfield 245, 3) := by decide +kernel
theorem dX11_run_127 : decode mX11_run.2.1 127 = .ok (.if_icmp .ge 57, 3) := by decide +kernel
theorem dX11_run_130 : decode mX11_run.2.1 130 = .ok (.aload_n 0, 1) := by decide +kernel
theorem dX11_run_131 : decode mX11_run.2.1 131 = .ok (.getfield 60, 3) := by decide +kernel
theorem dX11_run_134 : decode mX11_run.2.1 134 = .ok (.iload_n 3, 1) := by decide +kernel
theorem dX11_run_135 : decode mX11_run.2.1 135 = .ok (.iaload, 1) := by decide +kernel
theorem dX11_run_136 : decode mX11_run.2.1 136 = .ok (.iload 4, 2) := by decide +kernel
theorem dX11_run_138 : decode mX11_run.2.1 138 = .ok (.ishr, 1) := by decide +kernel
theorem dX11_run_139 : decode mX11_run.2.1 139 = .ok (.iconst 1, 1) := by decide +kernel
theorem dX11_run_140 : decode mX11_run.2.1 140 = .ok (.iand, 1) := by decide +kernel
theorem dX11_run_141 : decode mX11_run.2.1 141 = .ok (.ifCond .eq 37, 3) := by decide +kernel
theorem dX11_run_144 : decode mX11_run.2.1 144 = .ok (.iload_n 1, 1) := by decide +kernel
theorem dX11_run_145 : decode mX11_run.2.1 145 = .ok (.iload 4, 2) := by decide +kernel
theorem dX11_run_147 : decode mX11_run.2.1 147 = .ok (.ishr, 1) := by decide +kernel
theorem dX11_run_148 : decode mX11_run.2.1 148 = .ok (.iconst 1, 1) := by decide +kernel
theorem dX11_run_149 : decode mX11_run.2.1 149 = .ok (.iand, 1) := by decide +kernel
theorem dX11_run_150 : decode mX11_run.2.1 150 = .ok (.iconst 1, 1) := by decide +kernel
theorem dX11_run_151 : decode mX11_run.2.1 151 = .ok (.if_icmp .ne 6, 3) := by decide +kernel
theorem dX11_run_154 : decode mX11_run.2.1 154 = .ok (.goto 24, 3) := by decide +kernel
theorem dX11_run_157 : decode mX11_run.2.1 157 = .ok (.aload_n 0, 1) := by decide +kernel
theorem dX11_run_158 : decode mX11_run.2.1 158 = .ok (.getfield 138, 3) := by decide +kernel
theorem dX11_run_161 : decode mX11_run.2.1 161 = .ok (.aload_n 0, 1) := by decide +kernel
theorem dX11_run_162 : decode mX11_run.2.1 162 = .ok (.getfield 400, 3) := by decide +kernel
theorem dX11_run_165 : decode mX11_run.2.1 165 = .ok (.iload 4, 2) := by decide +kernel
theorem dX11_run_167 : decode mX11_run.2.1 167 = .ok (.iastore, 1) := by decide +kernel
theorem dX11_run_168 : decode mX11_run.2.1 168 = .ok (.aload_n 0, 1) := by decide +kernel
theorem dX11_run_169 : decode mX11_run.2.1 169 = .ok (.dup, 1) := by decide +kernel
theorem dX11_run_170 : decode mX11_run.2.1 170 = .ok (.getfield 400, 3) := by decide +kernel
theorem dX11_run_173 : decode mX11_run.2.1 173 = .ok (.iconst 1, 1) := by decide +kernel
theorem dX11_run_174 : decode mX11_run.2.1 174 = .ok (.iadd, 1) := by decide +kernel
theorem dX11_run_175 : decode mX11_run.2.1 175 = .ok (.putfield 400, 3) := by decide +kernel
theorem dX11_run_178 : decode mX11_run.2.1 178 = .ok (.iinc 4 1, 3) := by decide +kernel
theorem dX11_run_181 : decode mX11_run.2.1 181 = .ok (.goto (-60), 3) := by decide +kernel
theorem dX11_run_184 : decode mX11_run.2.1 184 = .ok (.iload_n 1, 1) := by decide +kernel
theorem dX11_run_185 : decode mX11_run.2.1 185 = .ok (.aload_n 0, 1) := by decide +kernel
theorem dX11_run_186 : decode mX11_run.2.1 186 = .ok (.getfield 60, 3) := by decide +kernel
theorem dX11_run_189 : decode mX11_run.2.1 189 = .ok (.iload_n 3, 1) := by decide +kernel
theorem dX11_run_190 : decode mX11_run.2.1 190 = .ok (.iaload, 1) := by decide +kernel
theorem dX11_run_191 : decode mX11_run.2.1 191 = .ok (.ior, 1) := by decide +kernel
theorem dX11_run_192 : decode mX11_run.2.1 192 = .ok (.istore_n 1, 1) := by decide +kernel
theorem dX11_run_193 : decode mX11_run.2.1 193 = .ok (.aload_n 0, 1) := by decide +kernel
theorem dX11_run_194 : decode mX11_run.2.1 194 = .ok (.iconst 0, 1) := by decide +kernel
theorem dX11_run_195 : decode mX11_run.2.1 195 = .ok (.putfield 403, 3) := by decide +kernel
theorem dX11_run_198 : decode mX11_run.2.1 198 = .ok (.aload_n 0, 1) := by decide +kernel
theorem dX11_run_199 : decode mX11_run.2.1 199 = .ok (.iconst 0, 1) := by decide +kernel
theorem dX11_run_200 : decode mX11_run.2.1 200 = .ok (.putfield 380, 3) := by decide +kernel
theorem dX11_run_203 : decode mX11_run.2.1 203 = .ok (.aload_n 0, 1) := by decide +kernel
theorem dX11_run_204 : decode mX11_run.2.1 204 = .ok (.iconst 0, 1) := by decide +kernel
theorem dX11_run_205 : decode mX11_run.2.1 205 = .ok (.putfield 394, 3) := by decide +kernel
theorem dX11_run_208 : decode mX11_run.2.1 208 = .ok (.aload_n 0, 1) := by decide +kernel
theorem dX11_run_209 : decode mX11_run.2.1 209 = .ok (.aload_n 0, 1) := by decide +kernel
theorem dX11_run_210 : decode mX11_run.2.1 210 = .ok (.getfield 63, 3) := by decide +kernel
theorem dX11_run_213 : decode mX11_run.2.1 213 = .ok (.iload_n 3, 1) := by decide +kernel
theorem dX11_run_214 : decode mX11_run.2.1 214 = .ok (.iaload, 1) := by decide +kernel
theorem dX11_run_215 : decode mX11_run.2.1 215 = .ok (.aload_n 0, 1) := by decide +kernel
theorem dX11_run_216 : decode mX11_run.2.1 216 = .ok (.getfield 63, 3) := by decide +kernel
theorem dX11_run_219 : decode mX11_run.2.1 219 = .ok (.iload_n 3, 1) := by decide +kernel
theorem dX11_run_220 : decode mX11_run.2.1 220 = .ok (.iconst 1, 1) := by decide +kernel
theorem dX11_run_221 : decode mX11_run.2.1 221 = .ok (.iadd, 1) := by decide +kernel
theorem dX11_run_222 : decode mX11_run.2.1 222 = .ok (.iaload, 1) := by decide +kernel
theorem dX11_run_223 : decode mX11_run.2.1 223 = .ok (.invokevirtual 385, 3) := by decide +kernel
theorem dX11_run_226 : decode mX11_run.2.1 226 = .ok (.iload_n 2, 1) := by decide +kernel
theorem dX11_run_227 : decode mX11_run.2.1 227 = .ok (.aload_n 0, 1) := by decide +kernel
theorem dX11_run_228 : decode mX11_run.2.1 228 = .ok (.getfield 403, 3) := by decide +kernel
theorem dX11_run_231 : decode mX11_run.2.1 231 = .ok (.invokestatic 431, 3) := by decide +kernel
theorem dX11_run_234 : decode mX11_run.2.1 234 = .ok (.istore_n 2, 1) := by decide +kernel
theorem dX11_run_235 : decode mX11_run.2.1 235 = .ok (.iconst 0, 1) := by decide +kernel
theorem dX11_run_236 : decode mX11_run.2.1 236 = .ok (.istore 4, 2) := by decide +kernel
theorem dX11_run_238 : decode mX11_run.2.1 238 = .ok (.iload 4, 2) := by decide +kernel
theorem dX11_run_240 : decode mX11_run.2.1 240 = .ok (.aload_n 0, 1) := by decide +kernel
theorem dX11_run_241 : decode mX11_run.2.1 241 = .ok (.getfield 400, 3) := by decide +kernel
theorem dX11_run_244 : decode mX11_run.2.1 244 = .ok (.if_icmp .ge 31, 3) := by decide +kernel
theorem dX11_run_247 : decode mX11_run.2.1 247 = .ok (.aload_n 0, 1) := by decide +kernel
theorem dX11_run_248 : decode mX11_run.2.1 248 = .ok (.getfield 374, 3) := by decide +kernel
theorem dX11_run_251 : decode mX11_run.2.1 251 = .ok (.ifCond .ne 24, 3) := by decide +kernel
theorem dX11_run_254 : decode mX11_run.2.1 254 = .ok (.aload_n 0, 1) := by decide +kernel
theorem dX11_run_255 : decode mX11_run.2.1 255 = .ok (.aload_n 0, 1) := by decide +kernel
theorem dX11_run_256 : decode mX11_run.2.1 256 = .ok (.getfield 138, 3) := by decide +kernel
theorem dX11_run_259 : decode mX11_run.2.1 259 = .ok (.iload 4, 2) := by decide +kernel
theorem dX11_run_261 : decode mX11_run.2.1 261 = .ok (.iaload, 1) := by decide +kernel
theorem dX11_run_262 : decode mX11_run.2.1 262 = .ok (.aload_n 0, 1) := by decide +kernel
theorem dX11_run_263 : decode mX11_run.2.1 263 = .ok (.getfield 403, 3) := by decide +kernel
theorem dX11_run_266 : decode mX11_run.2.1 266 = .ok (.invokevirtual 428, 3) := by decide +kernel
theorem dX11_run_269 : decode mX11_run.2.1 269 = .ok (.iinc 4 1, 3) := by decide +kernel
theorem dX11_run_272 : decode mX11_run.2.1 272 = .ok (.goto (-34), 3) := by decide +kernel
theorem dX11_run_275 : decode mX11_run.2.1 275 = .ok (.iinc 3 1, 3) := by decide +kernel
theorem dX11_run_278 : decode mX11_run.2.1 278 = .ok (.goto (-180), 3) := by decide +kernel
theorem dX11_run_281 : decode mX11_run.2.1 281 = .ok (.aload_n 0, 1) := by decide +kernel
theorem dX11_run_282 : decode mX11_run.2.1 282 = .ok (.aload_n 0, 1) := by decide +kernel
theorem dX11_run_283 : decode mX11_run.2.1 283 = .ok (.getfield 374, 3) := by decide +kernel
theorem dX11_run_286 : decode mX11_run.2.1 286 = .ok (.putfield 114, 3) := by decide +kernel
theorem dX11_run_289 : decode mX11_run.2.1 289 = .ok (.aload_n 0, 1) := by decide +kernel
theorem dX11_run_290 : decode mX11_run.2.1 290 = .ok (.aload_n 0, 1) := by decide +kernel
theorem dX11_run_291 : decode mX11_run.2.1 291 = .ok (.getfield 374, 3) := by decide +kernel
theorem dX11_run_294 : decode mX11_run.2.1 294 = .ok (.ifCond .ne 7, 3) := by decide +kernel
theorem dX11_run_297 : decode mX11_run.2.1 297 = .ok (.iconst (-1), 1) := by decide +kernel
theorem dX11_run_298 : decode mX11_run.2.1 298 = .ok (.goto 7, 3) := by decide +kernel
theorem dX11_run_301 : decode mX11_run.2.1 301 = .ok (.aload_n 0, 1) := by decide +kernel
theorem dX11_run_302 : decode mX11_run.2.1 302 = .ok (.getfield 377, 3) := by decide +kernel
theorem dX11_run_305 : decode mX11_run.2.1 305 = .ok (.putfield 117, 3) := by decide +kernel
theorem dX11_run_308 : decode mX11_run.2.1 308 = .ok (.aload_n 0, 1) := by decide +kernel
theorem dX11_run_309 : decode mX11_run.2.1 309 = .ok (.getfield 374, 3) := by decide +kernel
theorem dX11_run_312 : decode mX11_run.2.1 312 = .ok (.ifCond .le 10, 3) := by decide +kernel
theorem dX11_run_315 : decode mX11_run.2.1 315 = .ok (.aload_n 0, 1) := by decide +kernel
theorem dX11_run_316 : decode mX11_run.2.1 316 = .ok (.bipush 10, 2) := by decide +kernel
theorem dX11_run_318 : decode mX11_run.2.1 318 = .ok (.invokevirtual 254, 3) := by decide +kernel
theorem dX11_run_321 : decode mX11_run.2.1 321 = .ok (.ireturn, 1) := by decide +kernel
theorem dX11_run_322 : decode mX11_run.2.1 322 = .ok (.iconst 0, 1) := by decide +kernel
theorem dX11_run_323 : decode mX11_run.2.1 323 = .ok (.istore_n 3, 1) := by decide +kernel
theorem dX11_run_324 : decode mX11_run.2.1 324 = .ok (.iload_n 3, 1) := by decide +kernel
theorem dX11_run_325 : decode mX11_run.2.1 325 = .ok (.sipush 3020, 3) := by decide +kernel
theorem dX11_run_328 : decode mX11_run.2.1 328 = .ok (.if_icmp .ge 45, 3) := by decide +kernel
theorem dX11_run_331 : decode mX11_run.2.1 331 = .ok (.aload_n 0, 1) := by decide +kernel
theorem dX11_run_332 : decode mX11_run.2.1 332 = .ok (.getfield 120, 3) := by decide +kernel
theorem dX11_run_335 : decode mX11_run.2.1 335 = .ok (.iload_n 3, 1) := by decide +kernel
theorem dX11_run_336 : decode mX11_run.2.1 336 = .ok (.aload_n 0, 1) := by decide +kernel
theorem dX11_run_337 : decode mX11_run.2.1 337 = .ok (.getfield 129, 3) := by decide +kernel
theorem dX11_run_340 : decode mX11_run.2.1 340 = .ok (.iload_n 3, 1) := by decide +kernel
theorem dX11_run_341 : decode mX11_run.2.1 341 = .ok (.iaload, 1) := by decide +kernel
theorem dX11_run_342 : decode mX11_run.2.1 342 = .ok (.iastore, 1) := by decide +kernel
theorem dX11_run_343 : decode mX11_run.2.1 343 = .ok (.aload_n 0, 1) := by decide +kernel
theorem dX11_run_344 : decode mX11_run.2.1 344 = .ok (.getfield 123, 3) := by decide +kernel
theorem dX11_run_347 : decode mX11_run.2.1 347 = .ok (.iload_n 3, 1) := by decide +kernel
theorem dX11_run_348 : decode mX11_run.2.1 348 = .ok (.aload_n 0, 1) := by decide +kernel
theorem dX11_run_349 : decode mX11_run.2.1 349 = .ok (.getfield 132, 3) := by decide +kernel
theorem dX11_run_352 : decode mX11_run.2.1 352 = .ok (.iload_n 3, 1) := by decide +kernel
theorem dX11_run_353 : decode mX11_run.2.1 353 = .ok (.iaload, 1) := by decide +kernel
theorem dX11_run_354 : decode mX11_run.2.1 354 = .ok (.iastore, 1) := by decide +kernel
theorem dX11_run_355 : decode mX11_run.2.1 355 = .ok (.aload_n 0, 1) := by decide +kernel
theorem dX11_run_356 : decode mX11_run.2.1 356 = .ok (.getfield 126, 3) := by decide +kernel
theorem dX11_run_359 : decode mX11_run.2.1 359 = .ok (.iload_n 3, 1) := by decide +kernel
theorem dX11_run_360 : decode mX11_run.2.1 360 = .ok (.aload_n 0, 1) := by decide +kernel
theorem dX11_run_361 : decode mX11_run.2.1 361 = .ok (.getfield 135, 3) := by decide +kernel
theorem dX11_run_364 : decode mX11_run.2.1 364 = .ok (.iload_n 3, 1) := by decide +kernel
theorem dX11_run_365 : decode mX11_run.2.1 365 = .ok (.iaload, 1) := by decide +kernel
theorem dX11_run_366 : decode mX11_run.2.1 366 = .ok (.iastore, 1) := by decide +kernel
theorem dX11_run_367 : decode mX11_run.2.1 367 = .ok (.iinc 3 1, 3) := by decide +kernel
theorem dX11_run_370 : decode mX11_run.2.1 370 = .ok (.goto (-46), 3) := by decide +kernel
theorem dX11_run_373 : decode mX11_run.2.1 373 = .ok (.aload_n 0, 1) := by decide +kernel
theorem dX11_run_374 : decode mX11_run.2.1 374 = .ok (.aload_n 0, 1) := by decide +kernel
theorem dX11_run_375 : decode mX11_run.2.1 375 = .ok (.getfield 245, 3) := by decide +kernel
theorem dX11_run_378 : decode mX11_run.2.1 378 = .ok (.putfield 111, 3) := by decide +kernel
theorem dX11_run_381 : decode mX11_run.2.1 381 = .ok (.aload_n 0, 1) := by decide +kernel
theorem dX11_run_382 : decode mX11_run.2.1 382 = .ok (.iload_n 2, 1) := by decide +kernel
theorem dX11_run_383 : decode mX11_run.2.1 383 = .ok (.putfield 434, 3) := by decide +kernel
theorem dX11_run_386 : decode mX11_run.2.1 386 = .ok (.aload_n 0, 1) := by decide +kernel
theorem dX11_run_387 : decode mX11_run.2.1 387 = .ok (.aload_n 0, 1) := by decide +kernel
theorem dX11_run_388 : decode mX11_run.2.1 388 = .ok (.getfield 397, 3) := by decide +kernel
theorem dX11_run_391 : decode mX11_run.2.1 391 = .ok (.putfield 437, 3) := by decide +kernel
theorem dX11_run_394 : decode mX11_run.2.1 394 = .ok (.aload_n 0, 1) := by decide +kernel
theorem dX11_run_395 : decode mX11_run.2.1 395 = .ok (.getfield 434, 3) := by decide +kernel
theorem dX11_run_398 : decode mX11_run.2.1 398 = .ok (.ireturn, 1) := by decide +kernel
theorem dX11_error_0 : decode mX11_error.2.1 0 = .ok (.aload_n 0, 1) := by decide +kernel
theorem dX11_error_1 : decode mX11_error.2.1 1 = .ok (.iconst 0, 1) := by decide +kernel
theorem dX11_error_2 : decode mX11_error.2.1 2 = .ok (.putfield 213, 3) := by decide +kernel
theorem dX11_error_5 : decode mX11_error.2.1 5 = .ok (.iload_n 1, 1) := by decide +kernel
theorem dX11_error_6 : decode mX11_error.2.1 6 = .ok (.ifCond .ne 10, 3) := by decide +kernel
theorem dX11_error_9 : decode mX11_error.2.1 9 = .ok (.aload_n 0, 1) := by decide +kernel
theorem dX11_error_10 : decode mX11_error.2.1 10 = .ok (.getfield 114, 3) := by decide +kernel
theorem dX11_error_13 : decode mX11_error.2.1 13 = .ok (.goto 16, 3) := by decide +kernel
theorem dX11_error_16 : decode mX11_error.2.1 16 = .ok (.iload_n 1, 1) := by decide +kernel
theorem dX11_error_17 : decode mX11_error.2.1 17 = .ok (.iconst 1, 1) := by decide +kernel
theorem dX11_error_18 : decode mX11_error.2.1 18 = .ok (.if_icmp .ne 10, 3) := by decide +kernel
theorem dX11_error_21 : decode mX11_error.2.1 21 = .ok (.aload_n 0, 1) := by decide +kernel
theorem dX11_error_22 : decode mX11_error.2.1 22 = .ok (.getfield 117, 3) := by decide +kernel
theorem dX11_error_25 : decode mX11_error.2.1 25 = .ok (.goto 4, 3) := by decide +kernel
theorem dX11_error_28 : decode mX11_error.2.1 28 = .ok (.iconst (-1), 1) := by decide +kernel
theorem dX11_error_29 : decode mX11_error.2.1 29 = .ok (.ireturn, 1) := by decide +kernel
theorem dX11_isCount_0 : decode mX11_isCount.2.1 0 = .ok (.iload_n 1, 1) := by decide +kernel
theorem dX11_isCount_1 : decode mX11_isCount.2.1 1 = .ok (.i2l, 1) := by decide +kernel
theorem dX11_isCount_2 : decode mX11_isCount.2.1 2 = .ok (.lconst 0, 1) := by decide +kernel
theorem dX11_isCount_3 : decode mX11_isCount.2.1 3 = .ok (.aload_n 0, 1) := by decide +kernel
theorem dX11_isCount_4 : decode mX11_isCount.2.1 4 = .ok (.getfield 434, 3) := by decide +kernel
theorem dX11_isCount_7 : decode mX11_isCount.2.1 7 = .ok (.i2l, 1) := by decide +kernel
theorem dX11_isCount_8 : decode mX11_isCount.2.1 8 = .ok (.invokestatic 221, 3) := by decide +kernel
theorem dX11_isCount_11 : decode mX11_isCount.2.1 11 = .ok (.ireturn, 1) := by decide +kernel
theorem dX11_at_0 : decode mX11_at.2.1 0 = .ok (.aload_n 0, 1) := by decide +kernel
theorem dX11_at_1 : decode mX11_at.2.1 1 = .ok (.iconst 0, 1) := by decide +kernel
theorem dX11_at_2 : decode mX11_at.2.1 2 = .ok (.putfield 213, 3) := by decide +kernel
theorem dX11_at_5 : decode mX11_at.2.1 5 = .ok (.aload_n 0, 1) := by decide +kernel
theorem dX11_at_6 : decode mX11_at.2.1 6 = .ok (.iconst 0, 1) := by decide +kernel
theorem dX11_at_7 : decode mX11_at.2.1 7 = .ok (.putfield 216, 3) := by decide +kernel
theorem dX11_at_10 : decode mX11_at.2.1 10 = .ok (.aload_n 0, 1) := by decide +kernel
theorem dX11_at_11 : decode mX11_at.2.1 11 = .ok (.getfield 111, 3) := by decide +kernel
theorem dX11_at_14 : decode mX11_at.2.1 14 = .ok (.ifCond .ge 10, 3) := by decide +kernel
theorem dX11_at_17 : decode mX11_at.2.1 17 = .ok (.aload_n 0, 1) := by decide +kernel
theorem dX11_at_18 : decode mX11_at.2.1 18 = .ok (.bipush 8, 2) := by decide +kernel
theorem dX11_at_20 : decode mX11_at.2.1 20 = .ok (.invokevirtual 254, 3) := by decide +kernel
theorem dX11_at_23 : decode mX11_at.2.1 23 = .ok (.ireturn, 1) := by decide +kernel
theorem dX11_at_24 : decode mX11_at.2.1 24 = .ok (.aload_n 0, 1) := by decide +kernel
theorem dX11_at_25 : decode mX11_at.2.1 25 = .ok (.iload_n 1, 1) := by decide +kernel
theorem dX11_at_26 : decode mX11_at.2.1 26 = .ok (.invokevirtual 440, 3) := by decide +kernel
theorem dX11_at_29 : decode mX11_at.2.1 29 = .ok (.ifCond .eq 19, 3) := by decide +kernel
theorem dX11_at_32 : decode mX11_at.2.1 32 = .ok (.iload_n 2, 1) := by decide +kernel
theorem dX11_at_33 : decode mX11_at.2.1 33 = .ok (.i2l, 1) := by decide +kernel
theorem dX11_at_34 : decode mX11_at.2.1 34 = .ok (.lconst 0, 1) := by decide +kernel
theorem dX11_at_35 : decode mX11_at.2.1 35 = .ok (.aload_n 0, 1) := by decide +kernel
theorem dX11_at_36 : decode mX11_at.2.1 36 = .ok (.getfield 111, 3) := by decide +kernel
theorem dX11_at_39 : decode mX11_at.2.1 39 = .ok (.iconst 1, 1) := by decide +kernel
theorem dX11_at_40 : decode mX11_at.2.1 40 = .ok (.isub, 1) := by decide +kernel
theorem dX11_at_41 : decode mX11_at.2.1 41 = .ok (.i2l, 1) := by decide +kernel
theorem dX11_at_42 : decode mX11_at.2.1 42 = .ok (.invokestatic 221, 3) := by decide +kernel
theorem dX11_at_45 : decode mX11_at.2.1 45 = .ok (.ifCond .ne 9, 3) := by decide +kernel
theorem dX11_at_48 : decode mX11_at.2.1 48 = .ok (.aload_n 0, 1) := by decide +kernel
theorem dX11_at_49 : decode mX11_at.2.1 49 = .ok (.iconst 2, 1) := by decide +kernel
theorem dX11_at_50 : decode mX11_at.2.1 50 = .ok (.invokevirtual 254, 3) := by decide +kernel
theorem dX11_at_53 : decode mX11_at.2.1 53 = .ok (.ireturn, 1) := by decide +kernel
theorem dX11_at_54 : decode mX11_at.2.1 54 = .ok (.iload_n 3, 1) := by decide +kernel
theorem dX11_at_55 : decode mX11_at.2.1 55 = .ok (.ifCond .ne 16, 3) := by decide +kernel
theorem dX11_at_58 : decode mX11_at.2.1 58 = .ok (.aload_n 0, 1) := by decide +kernel
theorem dX11_at_59 : decode mX11_at.2.1 59 = .ok (.getfield 120, 3) := by decide +kernel
theorem dX11_at_62 : decode mX11_at.2.1 62 = .ok (.iload_n 1, 1) := by decide +kernel
theorem dX11_at_63 : decode mX11_at.2.1 63 = .ok (.iload_n 2, 1) := by decide +kernel
theorem dX11_at_64 : decode mX11_at.2.1 64 = .ok (.invokestatic 405, 3) := by decide +kernel
theorem dX11_at_67 : decode mX11_at.2.1 67 = .ok (.iaload, 1) := by decide +kernel
theorem dX11_at_68 : decode mX11_at.2.1 68 = .ok (.goto 44, 3) := by decide +kernel
theorem dX11_at_71 : decode mX11_at.2.1 71 = .ok (.iload_n 3, 1) := by decide +kernel
theorem dX11_at_72 : decode mX11_at.2.1 72 = .ok (.iconst 1, 1) := by decide +kernel
theorem dX11_at_73 : decode mX11_at.2.1 73 = .ok (.if_icmp .ne 16, 3) := by decide +kernel
theorem dX11_at_76 : decode mX11_at.2.1 76 = .ok (.aload_n 0, 1) := by decide +kernel
theorem dX11_at_77 : decode mX11_at.2.1 77 = .ok (.getfield 123, 3) := by decide +kernel
theorem dX11_at_80 : decode mX11_at.2.1 80 = .ok (.iload_n 1, 1) := by decide +kernel
theorem dX11_at_81 : decode mX11_at.2.1 81 = .ok (.iload_n 2, 1) := by decide +kernel
theorem dX11_at_82 : decode mX11_at.2.1 82 = .ok (.invokestatic 405, 3) := by decide +kernel
theorem dX11_at_85 : decode mX11_at.2.1 85 = .ok (.iaload, 1) := by decide +kernel
theorem dX11_at_86 : decode mX11_at.2.1 86 = .ok (.goto 26, 3) := by decide +kernel
theorem dX11_at_89 : decode mX11_at.2.1 89 = .ok (.iload_n 3, 1) := by decide +kernel
theorem dX11_at_90 : decode mX11_at.2.1 90 = .ok (.iconst 2, 1) := by decide +kernel
theorem dX11_at_91 : decode mX11_at.2.1 91 = .ok (.if_icmp .ne 16, 3) := by decide +kernel
theorem dX11_at_94 : decode mX11_at.2.1 94 = .ok (.aload_n 0, 1) := by decide +kernel
theorem dX11_at_95 : decode mX11_at.2.1 95 = .ok (.getfield 126, 3) := by decide +kernel
theorem dX11_at_98 : decode mX11_at.2.1 98 = .ok (.iload_n 1, 1) := by decide +kernel
theorem dX11_at_99 : decode mX11_at.2.1 99 = .ok (.iload_n 2, 1) := by decide +kernel
theorem dX11_at_100 : decode mX11_at.2.1 100 = .ok (.invokestatic 405, 3) := by decide +kernel
theorem dX11_at_103 : decode mX11_at.2.1 103 = .ok (.iaload, 1) := by decide +kernel
theorem dX11_at_104 : decode mX11_at.2.1 104 = .ok (.goto 8, 3) := by decide +kernel
theorem dX11_at_107 : decode mX11_at.2.1 107 = .ok (.aload_n 0, 1) := by decide +kernel
theorem dX11_at_108 : decode mX11_at.2.1 108 = .ok (.iconst 5, 1) := by decide +kernel
theorem dX11_at_109 : decode mX11_at.2.1 109 = .ok (.invokevirtual 254, 3) := by decide +kernel
theorem dX11_at_112 : decode mX11_at.2.1 112 = .ok (.ireturn, 1) := by decide +kernel
theorem dX11_areOn_0 : decode mX11_areOn.2.1 0 = .ok (.aload_n 0, 1) := by decide +kernel
theorem dX11_areOn_1 : decode mX11_areOn.2.1 1 = .ok (.getfield 120, 3) := by decide +kernel
theorem dX11_areOn_4 : decode mX11_areOn.2.1 4 = .ok (.iload_n 1, 1) := by decide +kernel
theorem dX11_areOn_5 : decode mX11_areOn.2.1 5 = .ok (.iload_n 2, 1) := by decide +kernel
theorem dX11_areOn_6 : decode mX11_areOn.2.1 6 = .ok (.invokestatic 405, 3) := by decide +kernel
theorem dX11_areOn_9 : decode mX11_areOn.2.1 9 = .ok (.iaload, 1) := by decide +kernel
theorem dX11_areOn_10 : decode mX11_areOn.2.1 10 = .ok (.aload_n 0, 1) := by decide +kernel
theorem dX11_areOn_11 : decode mX11_areOn.2.1 11 = .ok (.getfield 120, 3) := by decide +kernel
theorem dX11_areOn_14 : decode mX11_areOn.2.1 14 = .ok (.iload_n 3, 1) := by decide +kernel
theorem dX11_areOn_15 : decode mX11_areOn.2.1 15 = .ok (.iload 4, 2) := by decide +kernel
theorem dX11_areOn_17 : decode mX11_areOn.2.1 17 = .ok (.invokestatic 405, 3) := by decide +kernel
theorem dX11_areOn_20 : decode mX11_areOn.2.1 20 = .ok (.iaload, 1) := by decide +kernel
theorem dX11_areOn_21 : decode mX11_areOn.2.1 21 = .ok (.if_icmp .ne 31, 3) := by decide +kernel
theorem dX11_areOn_24 : decode mX11_areOn.2.1 24 = .ok (.aload_n 0, 1) := by decide +kernel
theorem dX11_areOn_25 : decode mX11_areOn.2.1 25 = .ok (.getfield 123, 3) := by decide +kernel
theorem dX11_areOn_28 : decode mX11_areOn.2.1 28 = .ok (.iload_n 1, 1) := by decide +kernel
theorem dX11_areOn_29 : decode mX11_areOn.2.1 29 = .ok (.iload_n 2, 1) := by decide +kernel
theorem dX11_areOn_30 : decode mX11_areOn.2.1 30 = .ok (.invokestatic 405, 3) := by decide +kernel
theorem dX11_areOn_33 : decode mX11_areOn.2.1 33 = .ok (.iaload, 1) := by decide +kernel
theorem dX11_areOn_34 : decode mX11_areOn.2.1 34 = .ok (.aload_n 0, 1) := by decide +kernel
theorem dX11_areOn_35 : decode mX11_areOn.2.1 35 = .ok (.getfield 123, 3) := by decide +kernel
theorem dX11_areOn_38 : decode mX11_areOn.2.1 38 = .ok (.iload_n 3, 1) := by decide +kernel
theorem dX11_areOn_39 : decode mX11_areOn.2.1 39 = .ok (.iload 4, 2) := by decide +kernel
theorem dX11_areOn_41 : decode mX11_areOn.2.1 41 = .ok (.invokestatic 405, 3) := by decide +kernel
theorem dX11_areOn_44 : decode mX11_areOn.2.1 44 = .ok (.iaload, 1) := by decide +kernel
theorem dX11_areOn_45 : decode mX11_areOn.2.1 45 = .ok (.if_icmp .ne 7, 3) := by decide +kernel
theorem dX11_areOn_48 : decode mX11_areOn.2.1 48 = .ok (.iconst 1, 1) := by decide +kernel
theorem dX11_areOn_49 : decode mX11_areOn.2.1 49 = .ok (.goto 4, 3) := by decide +kernel
theorem dX11_areOn_52 : decode mX11_areOn.2.1 52 = .ok (.iconst 0, 1) := by decide +kernel
theorem dX11_areOn_53 : decode mX11_areOn.2.1 53 = .ok (.ireturn, 1) := by decide +kernel
theorem dX11_clashes_0 : decode mX11_clashes.2.1 0 = .ok (.aload_n 0, 1) := by decide +kernel
theorem dX11_clashes_1 : decode mX11_clashes.2.1 1 = .ok (.iload_n 1, 1) := by decide +kernel
theorem dX11_clashes_2 : decode mX11_clashes.2.1 2 = .ok (.iload_n 2, 1) := by decide +kernel
theorem dX11_clashes_3 : decode mX11_clashes.2.1 3 = .ok (.iload_n 1, 1) := by decide +kernel
theorem dX11_clashes_4 : decode mX11_clashes.2.1 4 = .ok (.iload_n 3, 1) := by decide +kernel
theorem dX11_clashes_5 : decode mX11_clashes.2.1 5 = .ok (.invokevirtual 443, 3) := by decide +kernel
theorem dX11_clashes_8 : decode mX11_clashes.2.1 8 = .ok (.ifCond .eq 5, 3) := by decide +kernel
theorem dX11_clashes_11 : decode mX11_clashes.2.1 11 = .ok (.iconst 1, 1) := by decide +kernel
theorem dX11_clashes_12 : decode mX11_clashes.2.1 12 = .ok (.ireturn, 1) := by decide +kernel
theorem dX11_clashes_13 : decode mX11_clashes.2.1 13 = .ok (.iload_n 1, 1) := by decide +kernel
theorem dX11_clashes_14 : decode mX11_clashes.2.1 14 = .ok (.ifCond .le 33, 3) := by decide +kernel
theorem dX11_clashes_17 : decode mX11_clashes.2.1 17 = .ok (.aload_n 0, 1) := by decide +kernel
theorem dX11_clashes_18 : decode mX11_clashes.2.1 18 = .ok (.iload_n 1, 1) := by decide +kernel
theorem dX11_clashes_19 : decode mX11_clashes.2.1 19 = .ok (.iload_n 2, 1) := by decide +kernel
theorem dX11_clashes_20 : decode mX11_clashes.2.1 20 = .ok (.iload_n 1, 1) := by decide +kernel
theorem dX11_clashes_21 : decode mX11_clashes.2.1 21 = .ok (.iconst 1, 1) := by decide +kernel
theorem dX11_clashes_22 : decode mX11_clashes.2.1 22 = .ok (.isub, 1) := by decide +kernel
theorem dX11_clashes_23 : decode mX11_clashes.2.1 23 = .ok (.iload_n 3, 1) := by decide +kernel
theorem dX11_clashes_24 : decode mX11_clashes.2.1 24 = .ok (.invokevirtual 443, 3) := by decide +kernel
theorem dX11_clashes_27 : decode mX11_clashes.2.1 27 = .ok (.ifCond .eq 20, 3) := by decide +kernel
theorem dX11_clashes_30 : decode mX11_clashes.2.1 30 = .ok (.aload_n 0, 1) := by decide +kernel
theorem dX11_clashes_31 : decode mX11_clashes.2.1 31 = .ok (.iload_n 1, 1) := by decide +kernel
theorem dX11_clashes_32 : decode mX11_clashes.2.1 32 = .ok (.iload_n 3, 1) := by decide +kernel
theorem dX11_clashes_33 : decode mX11_clashes.2.1 33 = .ok (.iload_n 1, 1) := by decide +kernel
theorem dX11_clashes_34 : decode mX11_clashes.2.1 34 = .ok (.iconst 1, 1) := by decide +kernel
theorem dX11_clashes_35 : decode mX11_clashes.2.1 35 = .ok (.isub, 1) := by decide +kernel
theorem dX11_clashes_36 : decode mX11_clashes.2.1 36 = .ok (.iload_n 2, 1) := by decide +kernel
theorem dX11_clashes_37 : decode mX11_clashes.2.1 37 = .ok (.invokevirtual 443, 3) := by decide +kernel
theorem dX11_clashes_40 : decode mX11_clashes.2.1 40 = .ok (.ifCond .eq 7, 3) := by decide +kernel
theorem dX11_clashes_43 : decode mX11_clashes.2.1 43 = .ok (.iconst 1, 1) := by decide +kernel
theorem dX11_clashes_44 : decode mX11_clashes.2.1 44 = .ok (.goto 4, 3) := by decide +kernel
theorem dX11_clashes_47 : decode mX11_clashes.2.1 47 = .ok (.iconst 0, 1) := by decide +kernel
theorem dX11_clashes_48 : decode mX11_clashes.2.1 48 = .ok (.ireturn, 1) := by decide +kernel
theorem dX11_squareOf_0 : decode mX11_squareOf.2.1 0 = .ok (.aload_n 0, 1) := by decide +kernel
theorem dX11_squareOf_1 : decode mX11_squareOf.2.1 1 = .ok (.getfield 120, 3) := by decide +kernel
theorem dX11_squareOf_4 : decode mX11_squareOf.2.1 4 = .ok (.iload_n 1, 1) := by decide +kernel
theorem dX11_squareOf_5 : decode mX11_squareOf.2.1 5 = .ok (.iload_n 2, 1) := by decide +kernel
theorem dX11_squareOf_6 : decode mX11_squareOf.2.1 6 = .ok (.invokestatic 405, 3) := by decide +kernel
theorem dX11_squareOf_9 : decode mX11_squareOf.2.1 9 = .ok (.iaload, 1) := by decide +kernel
theorem dX11_squareOf_10 : decode mX11_squareOf.2.1 10 = .ok (.aload_n 0, 1) := by decide +kernel
theorem dX11_squareOf_11 : decode mX11_squareOf.2.1 11 = .ok (.getfield 120, 3) := by decide +kernel
theorem dX11_squareOf_14 : decode mX11_squareOf.2.1 14 = .ok (.iload_n 1, 1) := by decide +kernel
theorem dX11_squareOf_15 : decode mX11_squareOf.2.1 15 = .ok (.iconst 1, 1) := by decide +kernel
theorem dX11_squareOf_16 : decode mX11_squareOf.2.1 16 = .ok (.isub, 1) := by decide +kernel
theorem dX11_squareOf_17 : decode mX11_squareOf.2.1 17 = .ok (.iload_n 2, 1) := by decide +kernel
theorem dX11_squareOf_18 : decode mX11_squareOf.2.1 18 = .ok (.invokestatic 405, 3) := by decide +kernel
theorem dX11_squareOf_21 : decode mX11_squareOf.2.1 21 = .ok (.iaload, 1) := by decide +kernel
theorem dX11_squareOf_22 : decode mX11_squareOf.2.1 22 = .ok (.isub, 1) := by decide +kernel
theorem dX11_squareOf_23 : decode mX11_squareOf.2.1 23 = .ok (.istore_n 3, 1) := by decide +kernel
theorem dX11_squareOf_24 : decode mX11_squareOf.2.1 24 = .ok (.aload_n 0, 1) := by decide +kernel
theorem dX11_squareOf_25 : decode mX11_squareOf.2.1 25 = .ok (.getfield 123, 3) := by decide +kernel
theorem dX11_squareOf_28 : decode mX11_squareOf.2.1 28 = .ok (.iload_n 1, 1) := by decide +kernel
theorem dX11_squareOf_29 : decode mX11_squareOf.2.1 29 = .ok (.iload_n 2, 1) := by decide +kernel
theorem dX11_squareOf_30 : decode mX11_squareOf.2.1 30 = .ok (.invokestatic 405, 3) := by decide +kernel
theorem dX11_squareOf_33 : decode mX11_squareOf.2.1 33 = .ok (.iaload, 1) := by decide +kernel
theorem dX11_squareOf_34 : decode mX11_squareOf.2.1 34 = .ok (.aload_n 0, 1) := by decide +kernel
theorem dX11_squareOf_35 : decode mX11_squareOf.2.1 35 = .ok (.getfield 123, 3) := by decide +kernel
theorem dX11_squareOf_38 : decode mX11_squareOf.2.1 38 = .ok (.iload_n 1, 1) := by decide +kernel
theorem dX11_squareOf_39 : decode mX11_squareOf.2.1 39 = .ok (.iconst 1, 1) := by decide +kernel
theorem dX11_squareOf_40 : decode mX11_squareOf.2.1 40 = .ok (.isub, 1) := by decide +kernel
theorem dX11_squareOf_41 : decode mX11_squareOf.2.1 41 = .ok (.iload_n 2, 1) := by decide +kernel
theorem dX11_squareOf_42 : decode mX11_squareOf.2.1 42 = .ok (.invokestatic 405, 3) := by decide +kernel
theorem dX11_squareOf_45 : decode mX11_squareOf.2.1 45 = .ok (.iaload, 1) := by decide +kernel
theorem dX11_squareOf_46 : decode mX11_squareOf.2.1 46 = .ok (.isub, 1) := by decide +kernel
theorem dX11_squareOf_47 : decode mX11_squareOf.2.1 47 = .ok (.istore 4, 2) := by decide +kernel
theorem dX11_squareOf_49 : decode mX11_squareOf.2.1 49 = .ok (.iload_n 3, 1) := by decide +kernel
theorem dX11_squareOf_50 : decode mX11_squareOf.2.1 50 = .ok (.iload_n 3, 1) := by decide +kernel
theorem dX11_squareOf_51 : decode mX11_squareOf.2.1 51 = .ok (.imul, 1) := by decide +kernel
theorem dX11_squareOf_52 : decode mX11_squareOf.2.1 52 = .ok (.iload 4, 2) := by decide +kernel
theorem dX11_squareOf_54 : decode mX11_squareOf.2.1 54 = .ok (.iload 4, 2) := by decide +kernel
theorem dX11_squareOf_56 : decode mX11_squareOf.2.1 56 = .ok (.imul, 1) := by decide +kernel
theorem dX11_squareOf_57 : decode mX11_squareOf.2.1 57 = .ok (.iadd, 1) := by decide +kernel
theorem dX11_squareOf_58 : decode mX11_squareOf.2.1 58 = .ok (.ireturn, 1) := by decide +kernel
theorem dX11_told_0 : decode mX11_told.2.1 0 = .ok (.aload_n 0, 1) := by decide +kernel
theorem dX11_told_1 : decode mX11_told.2.1 1 = .ok (.iconst 0, 1) := by decide +kernel
theorem dX11_told_2 : decode mX11_told.2.1 2 = .ok (.putfield 213, 3) := by decide +kernel
theorem dX11_told_5 : decode mX11_told.2.1 5 = .ok (.aload_n 0, 1) := by decide +kernel
theorem dX11_told_6 : decode mX11_told.2.1 6 = .ok (.iconst 0, 1) := by decide +kernel
theorem dX11_told_7 : decode mX11_told.2.1 7 = .ok (.putfield 216, 3) := by decide +kernel
theorem dX11_told_10 : decode mX11_told.2.1 10 = .ok (.iload_n 1, 1) := by decide +kernel
theorem dX11_told_11 : decode mX11_told.2.1 11 = .ok (.i2l, 1) := by decide +kernel
theorem dX11_told_12 : decode mX11_told.2.1 12 = .ok (.lconst 0, 1) := by decide +kernel
theorem dX11_told_13 : decode mX11_told.2.1 13 = .ok (.ldc2_w 447, 3) := by decide +kernel
theorem dX11_told_16 : decode mX11_told.2.1 16 = .ok (.invokestatic 221, 3) := by decide +kernel
theorem dX11_told_19 : decode mX11_told.2.1 19 = .ok (.ifCond .ne 9, 3) := by decide +kernel
theorem dX11_told_22 : decode mX11_told.2.1 22 = .ok (.aload_n 0, 1) := by decide +kernel
theorem dX11_told_23 : decode mX11_told.2.1 23 = .ok (.iconst 5, 1) := by decide +kernel
theorem dX11_told_24 : decode mX11_told.2.1 24 = .ok (.invokevirtual 254, 3) := by decide +kernel
theorem dX11_told_27 : decode mX11_told.2.1 27 = .ok (.ireturn, 1) := by decide +kernel
theorem dX11_told_28 : decode mX11_told.2.1 28 = .ok (.aload_n 0, 1) := by decide +kernel
theorem dX11_told_29 : decode mX11_told.2.1 29 = .ok (.getfield 111, 3) := by decide +kernel
theorem dX11_told_32 : decode mX11_told.2.1 32 = .ok (.ifCond .ge 10, 3) := by decide +kernel
theorem dX11_told_35 : decode mX11_told.2.1 35 = .ok (.aload_n 0, 1) := by decide +kernel
theorem dX11_told_36 : decode mX11_told.2.1 36 = .ok (.bipush 8, 2) := by decide +kernel
theorem dX11_told_38 : decode mX11_told.2.1 38 = .ok (.invokevirtual 254, 3) := by decide +kernel
theorem dX11_told_41 : decode mX11_told.2.1 41 = .ok (.ireturn, 1) := by decide +kernel
theorem dX11_told_42 : decode mX11_told.2.1 42 = .ok (.iload_n 1, 1) := by decide +kernel
theorem dX11_told_43 : decode mX11_told.2.1 43 = .ok (.iconst 3, 1) := by decide +kernel
theorem dX11_told_44 : decode mX11_told.2.1 44 = .ok (.if_icmp .ne 8, 3) := by decide +kernel
theorem dX11_told_47 : decode mX11_told.2.1 47 = .ok (.aload_n 0, 1) := by decide +kernel
theorem dX11_told_48 : decode mX11_told.2.1 48 = .ok (.getfield 437, 3) := by decide +kernel
theorem dX11_told_51 : decode mX11_told.2.1 51 = .ok (.ireturn, 1) := by decide +kernel
theorem dX11_told_52 : decode mX11_told.2.1 52 = .ok (.iconst 0, 1) := by decide +kernel
theorem dX11_told_53 : decode mX11_told.2.1 53 = .ok (.istore_n 2, 1) := by decide +kernel
theorem dX11_told_54 : decode mX11_told.2.1 54 = .ok (.iconst 0, 1) := by decide +kernel
theorem dX11_told_55 : decode mX11_told.2.1 55 = .ok (.istore_n 3, 1) := by decide +kernel
theorem dX11_told_56 : decode mX11_told.2.1 56 = .ok (.iconst 0, 1) := by decide +kernel
theorem dX11_told_57 : decode mX11_told.2.1 57 = .ok (.istore 4, 2) := by decide +kernel
theorem dX11_told_59 : decode mX11_told.2.1 59 = .ok (.iload 4, 2) := by decide +kernel
theorem dX11_told_61 : decode mX11_told.2.1 61 = .ok (.aload_n 0, 1) := by decide +kernel
theorem dX11_told_62 : decode mX11_told.2.1 62 = .ok (.getfield 434, 3) := by decide +kernel
theorem dX11_told_65 : decode mX11_told.2.1 65 = .ok (.if_icmp .gt 169, 3) := by decide +kernel
theorem dX11_told_68 : decode mX11_told.2.1 68 = .ok (.iconst 0, 1) := by decide +kernel
theorem dX11_told_69 : decode mX11_told.2.1 69 = .ok (.istore 5, 2) := by decide +kernel
theorem dX11_told_71 : decode mX11_told.2.1 71 = .ok (.iload 5, 2) := by decide +kernel
theorem dX11_told_73 : decode mX11_told.2.1 73 = .ok (.aload_n 0, 1) := by decide +kernel
theorem dX11_told_74 : decode mX11_told.2.1 74 = .ok (.getfield 111, 3) := by decide +kernel
theorem dX11_told_77 : decode mX11_told.2.1 77 = .ok (.if_icmp .ge 151, 3) := by decide +kernel
theorem dX11_told_80 : decode mX11_told.2.1 80 = .ok (.iload_n 1, 1) := by decide +kernel
theorem dX11_told_81 : decode mX11_told.2.1 81 = .ok (.ifCond .ne 45, 3) := by decide +kernel
theorem dX11_told_84 : decode mX11_told.2.1 84 = .ok (.iload 5, 2) := by decide +kernel
theorem dX11_told_86 : decode mX11_told.2.1 86 = .ok (.iconst 1, 1) := by decide +kernel
theorem dX11_told_87 : decode mX11_told.2.1 87 = .ok (.iadd, 1) := by decide +kernel
theorem dX11_told_88 : decode mX11_told.2.1 88 = .ok (.istore 6, 2) := by decide +kernel
theorem dX11_told_90 : decode mX11_told.2.1 90 = .ok (.iload 6, 2) := by decide +kernel
theorem dX11_told_92 : decode mX11_told.2.1 92 = .ok (.aload_n 0, 1) := by decide +kernel
theorem dX11_told_93 : decode mX11_told.2.1 93 = .ok (.getfield 111, 3) := by decide +kernel
theorem dX11_told_96 : decode mX11_told.2.1 96 = .ok (.if_icmp .ge 30, 3) := by decide +kernel
theorem dX11_told_99 : decode mX11_told.2.1 99 = .ok (.iload_n 2, 1) := by decide +kernel
theorem dX11_told_100 : decode mX11_told.2.1 100 = .ok (.aload_n 0, 1) := by decide +kernel
theorem dX11_told_101 : decode mX11_told.2.1 101 = .ok (.iload 4, 2) := by decide +kernel
theorem dX11_told_103 : decode mX11_told.2.1 103 = .ok (.iload 5, 2) := by decide +kernel
theorem dX11_told_105 : decode mX11_told.2.1 105 = .ok (.iload 6, 2) := by decide +kernel
theorem dX11_told_107 : decode mX11_told.2.1 107 = .ok (.invokevirtual 449, 3) := by decide +kernel
theorem dX11_told_110 : decode mX11_told.2.1 110 = .ok (.ifCond .eq 7, 3) := by decide +kernel
theorem dX11_told_113 : decode mX11_told.2.1 113 = .ok (.iconst 1, 1) := by decide +kernel
theorem dX11_told_114 : decode mX11_told.2.1 114 = .ok (.goto 4, 3) := by decide +kernel
theorem dX11_told_117 : decode mX11_told.2.1 117 = .ok (.iconst 0, 1) := by decide +kernel
theorem dX11_told_118 : decode mX11_told.2.1 118 = .ok (.iadd, 1) := by decide +kernel
theorem dX11_told_119 : decode mX11_told.2.1 119 = .ok (.istore_n 2, 1) := by decide +kernel
theorem dX11_told_120 : decode mX11_told.2.1 120 = .ok (.iinc 6 1, 3) := by decide +kernel
theorem dX11_told_123 : decode mX11_told.2.1 123 = .ok (.goto (-33), 3) := by decide +kernel
theorem dX11_told_126 : decode mX11_told.2.1 126 = .ok (.iload_n 1, 1) := by decide +kernel
theorem dX11_told_127 : decode mX11_told.2.1 127 = .ok (.iconst 1, 1) := by decide +kernel
theorem dX11_told_128 : decode mX11_told.2.1 128 = .ok (.if_icmp .ne 47, 3) := by decide +kernel
theorem dX11_told_131 : decode mX11_told.2.1 131 = .ok (.iload_n 2, 1) := by decide +kernel
theorem dX11_told_132 : decode mX11_told.2.1 132 = .ok (.aload_n 0, 1) := by decide +kernel
theorem dX11_told_133 : decode mX11_told.2.1 133 = .ok (.getfield 40, 3) := by decide +kernel
theorem dX11_told_136 : decode mX11_told.2.1 136 = .ok (.bipush 40, 2) := by decide +kernel
theorem dX11_told_138 : decode mX11_told.2.1 138 = .ok (.aload_n 0, 1) := by decide +kernel
theorem dX11_told_139 : decode mX11_told.2.1 139 = .ok (.getfield 120, 3) := by decide +kernel
theorem dX11_told_142 : decode mX11_told.2.1 142 = .ok (.iload 4, 2) := by decide +kernel
theorem dX11_told_144 : decode mX11_told.2.1 144 = .ok (.iload 5, 2) := by decide +kernel
theorem dX11_told_146 : decode mX11_told.2.1 146 = .ok (.invokestatic 405, 3) := by decide +kernel
theorem dX11_told_149 : decode mX11_told.2.1 149 = .ok (.iaload, 1) := by decide +kernel
theorem dX11_told_150 : decode mX11_told.2.1 150 = .ok (.imul, 1) := by decide +kernel
theorem dX11_told_151 : decode mX11_told.2.1 151 = .ok (.aload_n 0, 1) := by decide +kernel
theorem dX11_told_152 : decode mX11_told.2.1 152 = .ok (.getfield 123, 3) := by decide +kernel
theorem dX11_told_155 : decode mX11_told.2.1 155 = .ok (.iload 4, 2) := by decide +kernel
theorem dX11_told_157 : decode mX11_told.2.1 157 = .ok (.iload 5, 2) := by decide +kernel
theorem dX11_told_159 : decode mX11_told.2.1 159 = .ok (.invokestatic 405, 3) := by decide +kernel
theorem dX11_told_162 : decode mX11_told.2.1 162 = .ok (.iaload, 1) := by decide +kernel
theorem dX11_told_163 : decode mX11_told.2.1 163 = .ok (.iadd, 1) := by decide +kernel
theorem dX11_told_164 : decode mX11_told.2.1 164 = .ok (.baload, 1) := by decide +kernel
theorem dX11_told_165 : decode mX11_told.2.1 165 = .ok (.ifCond .eq 7, 3) := by decide +kernel
theorem dX11_told_168 : decode mX11_told.2.1 168 = .ok (.iconst 1, 1) := by decide +kernel
theorem dX11_told_169 : decode mX11_told.2.1 169 = .ok (.goto 4, 3) := by decide +kernel
theorem dX11_told_172 : decode mX11_told.2.1 172 = .ok (.iconst 0, 1) := by decide +kernel
theorem dX11_told_173 : decode mX11_told.2.1 173 = .ok (.iadd, 1) := by decide +kernel
theorem dX11_told_174 : decode mX11_told.2.1 174 = .ok (.istore_n 2, 1) := by decide +kernel
theorem dX11_told_175 : decode mX11_told.2.1 175 = .ok (.iload_n 1, 1) := by decide +kernel
theorem dX11_told_176 : decode mX11_told.2.1 176 = .ok (.iconst 2, 1) := by decide +kernel
theorem dX11_told_177 : decode mX11_told.2.1 177 = .ok (.if_icmp .lt 45, 3) := by decide +kernel
theorem dX11_told_180 : decode mX11_told.2.1 180 = .ok (.iload 4, 2) := by decide +kernel
theorem dX11_told_182 : decode mX11_told.2.1 182 = .ok (.ifCond .ne 6, 3) := by decide +kernel
theorem dX11_told_185 : decode mX11_told.2.1 185 = .ok (.goto 37, 3) := by decide +kernel
theorem dX11_told_188 : decode mX11_told.2.1 188 = .ok (.aload_n 0, 1) := by decide +kernel
theorem dX11_told_189 : decode mX11_told.2.1 189 = .ok (.iload 4, 2) := by decide +kernel
theorem dX11_told_191 : decode mX11_told.2.1 191 = .ok (.iload 5, 2) := by decide +kernel
theorem dX11_told_193 : decode mX11_told.2.1 193 = .ok (.invokevirtual 453, 3) := by decide +kernel
theorem dX11_told_196 : decode mX11_told.2.1 196 = .ok (.istore 6, 2) := by decide +kernel
theorem dX11_told_198 : decode mX11_told.2.1 198 = .ok (.iload_n 2, 1) := by decide +kernel
theorem dX11_told_199 : decode mX11_told.2.1 199 = .ok (.iload 6, 2) := by decide +kernel
theorem dX11_told_201 : decode mX11_told.2.1 201 = .ok (.aload_n 0, 1) := by decide +kernel
theorem dX11_told_202 : decode mX11_told.2.1 202 = .ok (.getfield 24, 3) := by decide +kernel
theorem dX11_told_205 : decode mX11_told.2.1 205 = .ok (.if_icmp .le 7, 3) := by decide +kernel
theorem dX11_told_208 : decode mX11_told.2.1 208 = .ok (.iconst 1, 1) := by decide +kernel
theorem dX11_told_209 : decode mX11_told.2.1 209 = .ok (.goto 4, 3) := by decide +kernel
theorem dX11_told_212 : decode mX11_told.2.1 212 = .ok (.iconst 0, 1) := by decide +kernel
theorem dX11_told_213 : decode mX11_told.2.1 213 = .ok (.iadd, 1) := by decide +kernel
theorem dX11_told_214 : decode mX11_told.2.1 214 = .ok (.istore_n 2, 1) := by decide +kernel
theorem dX11_told_215 : decode mX11_told.2.1 215 = .ok (.iload_n 3, 1) := by decide +kernel
theorem dX11_told_216 : decode mX11_told.2.1 216 = .ok (.iload 6, 2) := by decide +kernel
theorem dX11_told_218 : decode mX11_told.2.1 218 = .ok (.invokestatic 431, 3) := by decide +kernel
theorem dX11_told_221 : decode mX11_told.2.1 221 = .ok (.istore_n 3, 1) := by decide +kernel
theorem dX11_told_222 : decode mX11_told.2.1 222 = .ok (.iinc 5 1, 3) := by decide +kernel
theorem dX11_told_225 : decode mX11_told.2.1 225 = .ok (.goto (-154), 3) := by decide +kernel
theorem dX11_told_228 : decode mX11_told.2.1 228 = .ok (.iinc 4 1, 3) := by decide +kernel
theorem dX11_told_231 : decode mX11_told.2.1 231 = .ok (.goto (-172), 3) := by decide +kernel
theorem dX11_told_234 : decode mX11_told.2.1 234 = .ok (.iload_n 1, 1) := by decide +kernel
theorem dX11_told_235 : decode mX11_told.2.1 235 = .ok (.iconst 4, 1) := by decide +kernel
theorem dX11_told_236 : decode mX11_told.2.1 236 = .ok (.if_icmp .ne 7, 3) := by decide +kernel
theorem dX11_told_239 : decode mX11_told.2.1 239 = .ok (.iload_n 3, 1) := by decide +kernel
theorem dX11_told_240 : decode mX11_told.2.1 240 = .ok (.goto 4, 3) := by decide +kernel
theorem dX11_told_243 : decode mX11_told.2.1 243 = .ok (.iload_n 2, 1) := by decide +kernel
theorem dX11_told_244 : decode mX11_told.2.1 244 = .ok (.ireturn, 1) := by decide +kernel
theorem dX11_clash_0 : decode mX11_clash.2.1 0 = .ok (.aload_n 0, 1) := by decide +kernel
theorem dX11_clash_1 : decode mX11_clash.2.1 1 = .ok (.iconst 0, 1) := by decide +kernel
theorem dX11_clash_2 : decode mX11_clash.2.1 2 = .ok (.putfield 213, 3) := by decide +kernel
theorem dX11_clash_5 : decode mX11_clash.2.1 5 = .ok (.aload_n 0, 1) := by decide +kernel
theorem dX11_clash_6 : decode mX11_clash.2.1 6 = .ok (.iconst 0, 1) := by decide +kernel
theorem dX11_clash_7 : decode mX11_clash.2.1 7 = .ok (.putfield 216, 3) := by decide +kernel
theorem dX11_clash_10 : decode mX11_clash.2.1 10 = .ok (.iload_n 2, 1) := by decide +kernel
theorem dX11_clash_11 : decode mX11_clash.2.1 11 = .ok (.i2l, 1) := by decide +kernel
theorem dX11_clash_12 : decode mX11_clash.2.1 12 = .ok (.lconst 0, 1) := by decide +kernel
theorem dX11_clash_13 : decode mX11_clash.2.1 13 = .ok (.ldc2_w 456, 3) := by decide +kernel
theorem dX11_clash_16 : decode mX11_clash.2.1 16 = .ok (.invokestatic 221, 3) := by decide +kernel
theorem dX11_clash_19 : decode mX11_clash.2.1 19 = .ok (.ifCond .ne 9, 3) := by decide +kernel
theorem dX11_clash_22 : decode mX11_clash.2.1 22 = .ok (.aload_n 0, 1) := by decide +kernel
theorem dX11_clash_23 : decode mX11_clash.2.1 23 = .ok (.iconst 5, 1) := by decide +kernel
theorem dX11_clash_24 : decode mX11_clash.2.1 24 = .ok (.invokevirtual 254, 3) := by decide +kernel
theorem dX11_clash_27 : decode mX11_clash.2.1 27 = .ok (.ireturn, 1) := by decide +kernel
theorem dX11_clash_28 : decode mX11_clash.2.1 28 = .ok (.aload_n 0, 1) := by decide +kernel
theorem dX11_clash_29 : decode mX11_clash.2.1 29 = .ok (.getfield 111, 3) := by decide +kernel
theorem dX11_clash_32 : decode mX11_clash.2.1 32 = .ok (.ifCond .ge 10, 3) := by decide +kernel
theorem dX11_clash_35 : decode mX11_clash.2.1 35 = .ok (.aload_n 0, 1) := by decide +kernel
theorem dX11_clash_36 : decode mX11_clash.2.1 36 = .ok (.bipush 8, 2) := by decide +kernel
theorem dX11_clash_38 : decode mX11_clash.2.1 38 = .ok (.invokevirtual 254, 3) := by decide +kernel
theorem dX11_clash_41 : decode mX11_clash.2.1 41 = .ok (.ireturn, 1) := by decide +kernel
theorem dX11_clash_42 : decode mX11_clash.2.1 42 = .ok (.iconst 0, 1) := by decide +kernel
theorem dX11_clash_43 : decode mX11_clash.2.1 43 = .ok (.istore_n 3, 1) := by decide +kernel
theorem dX11_clash_44 : decode mX11_clash.2.1 44 = .ok (.iconst 0, 1) := by decide +kernel
theorem dX11_clash_45 : decode mX11_clash.2.1 45 = .ok (.istore 4, 2) := by decide +kernel
theorem dX11_clash_47 : decode mX11_clash.2.1 47 = .ok (.iload 4, 2) := by decide +kernel
theorem dX11_clash_49 : decode mX11_clash.2.1 49 = .ok (.aload_n 0, 1) := by decide +kernel
theorem dX11_clash_50 : decode mX11_clash.2.1 50 = .ok (.getfield 434, 3) := by decide +kernel
theorem dX11_clash_53 : decode mX11_clash.2.1 53 = .ok (.if_icmp .gt 94, 3) := by decide +kernel
theorem dX11_clash_56 : decode mX11_clash.2.1 56 = .ok (.iconst 0, 1) := by decide +kernel
theorem dX11_clash_57 : decode mX11_clash.2.1 57 = .ok (.istore 5, 2) := by decide +kernel
theorem dX11_clash_59 : decode mX11_clash.2.1 59 = .ok (.iload 5, 2) := by decide +kernel
theorem dX11_clash_61 : decode mX11_clash.2.1 61 = .ok (.aload_n 0, 1) := by decide +kernel
theorem dX11_clash_62 : decode mX11_clash.2.1 62 = .ok (.getfield 111, 3) := by decide +kernel
theorem dX11_clash_65 : decode mX11_clash.2.1 65 = .ok (.if_icmp .ge 76, 3) := by decide +kernel
theorem dX11_clash_68 : decode mX11_clash.2.1 68 = .ok (.iload 5, 2) := by decide +kernel
theorem dX11_clash_70 : decode mX11_clash.2.1 70 = .ok (.iconst 1, 1) := by decide +kernel
theorem dX11_clash_71 : decode mX11_clash.2.1 71 = .ok (.iadd, 1) := by decide +kernel
theorem dX11_clash_72 : decode mX11_clash.2.1 72 = .ok (.istore 6, 2) := by decide +kernel
theorem dX11_clash_74 : decode mX11_clash.2.1 74 = .ok (.iload 6, 2) := by decide +kernel
theorem dX11_clash_76 : decode mX11_clash.2.1 76 = .ok (.aload_n 0, 1) := by decide +kernel
theorem dX11_clash_77 : decode mX11_clash.2.1 77 = .ok (.getfield 111, 3) := by decide +kernel
theorem dX11_clash_80 : decode mX11_clash.2.1 80 = .ok (.if_icmp .ge 55, 3) := by decide +kernel
theorem dX11_clash_83 : decode mX11_clash.2.1 83 = .ok (.aload_n 0, 1) := by decide +kernel
theorem dX11_clash_84 : decode mX11_clash.2.1 84 = .ok (.iload 4, 2) := by decide +kernel
theorem dX11_clash_86 : decode mX11_clash.2.1 86 = .ok (.iload 5, 2) := by decide +kernel
theorem dX11_clash_88 : decode mX11_clash.2.1 88 = .ok (.iload 6, 2) := by decide +kernel
theorem dX11_clash_90 : decode mX11_clash.2.1 90 = .ok (.invokevirtual 449, 3) := by decide +kernel
theorem dX11_clash_93 : decode mX11_clash.2.1 93 = .ok (.ifCond .ne 6, 3) := by decide +kernel
theorem dX11_clash_96 : decode mX11_clash.2.1 96 = .ok (.goto 33, 3) := by decide +kernel
theorem dX11_clash_99 : decode mX11_clash.2.1 99 = .ok (.iload_n 3, 1) := by decide +kernel
theorem dX11_clash_100 : decode mX11_clash.2.1 100 = .ok (.iload_n 1, 1) := by decide +kernel
theorem dX11_clash_101 : decode mX11_clash.2.1 101 = .ok (.if_icmp .ne 25, 3) := by decide +kernel
theorem dX11_clash_104 : decode mX11_clash.2.1 104 = .ok (.iload_n 2, 1) := by decide +kernel
theorem dX11_clash_105 : decode mX11_clash.2.1 105 = .ok (.ifCond .ne 8, 3) := by decide +kernel
theorem dX11_clash_108 : decode mX11_clash.2.1 108 = .ok (.iload 4, 2) := by decide +kernel
theorem dX11_clash_110 : decode mX11_clash.2.1 110 = .ok (.goto 15, 3) := by decide +kernel
theorem dX11_clash_113 : decode mX11_clash.2.1 113 = .ok (.iload_n 2, 1) := by decide +kernel
theorem dX11_clash_114 : decode mX11_clash.2.1 114 = .ok (.iconst 1, 1) := by decide +kernel
theorem dX11_clash_115 : decode mX11_clash.2.1 115 = .ok (.if_icmp .ne 8, 3) := by decide +kernel
theorem dX11_clash_118 : decode mX11_clash.2.1 118 = .ok (.iload 5, 2) := by decide +kernel
theorem dX11_clash_120 : decode mX11_clash.2.1 120 = .ok (.goto 5, 3) := by decide +kernel
theorem dX11_clash_123 : decode mX11_clash.2.1 123 = .ok (.iload 6, 2) := by decide +kernel
theorem dX11_clash_125 : decode mX11_clash.2.1 125 = .ok (.ireturn, 1) := by decide +kernel
theorem dX11_clash_126 : decode mX11_clash.2.1 126 = .ok (.iinc 3 1, 3) := by decide +kernel
theorem dX11_clash_129 : decode mX11_clash.2.1 129 = .ok (.iinc 6 1, 3) := by decide +kernel
theorem dX11_clash_132 : decode mX11_clash.2.1 132 = .ok (.goto (-58), 3) := by decide +kernel
theorem dX11_clash_135 : decode mX11_clash.2.1 135 = .ok (.iinc 5 1, 3) := by decide +kernel
theorem dX11_clash_138 : decode mX11_clash.2.1 138 = .ok (.goto (-79), 3) := by decide +kernel
theorem dX11_clash_141 : decode mX11_clash.2.1 141 = .ok (.iinc 4 1, 3) := by decide +kernel
theorem dX11_clash_144 : decode mX11_clash.2.1 144 = .ok (.goto (-97), 3) := by decide +kernel
theorem dX11_clash_147 : decode mX11_clash.2.1 147 = .ok (.aload_n 0, 1) := by decide +kernel
theorem dX11_clash_148 : decode mX11_clash.2.1 148 = .ok (.bipush 8, 2) := by decide +kernel
theorem dX11_clash_150 : decode mX11_clash.2.1 150 = .ok (.invokevirtual 254, 3) := by decide +kernel
theorem dX11_clash_153 : decode mX11_clash.2.1 153 = .ok (.ireturn, 1) := by decide +kernel
theorem dX11_dressed_0 : decode mX11_dressed.2.1 0 = .ok (.aload_n 0, 1) := by decide +kernel
theorem dX11_dressed_1 : decode mX11_dressed.2.1 1 = .ok (.iconst 0, 1) := by decide +kernel
theorem dX11_dressed_2 : decode mX11_dressed.2.1 2 = .ok (.putfield 213, 3) := by decide +kernel
theorem dX11_dressed_5 : decode mX11_dressed.2.1 5 = .ok (.aload_n 0, 1) := by decide +kernel
theorem dX11_dressed_6 : decode mX11_dressed.2.1 6 = .ok (.iconst 0, 1) := by decide +kernel
theorem dX11_dressed_7 : decode mX11_dressed.2.1 7 = .ok (.putfield 216, 3) := by decide +kernel
theorem dX11_dressed_10 : decode mX11_dressed.2.1 10 = .ok (.aload_n 0, 1) := by decide +kernel
theorem dX11_dressed_11 : decode mX11_dressed.2.1 11 = .ok (.getfield 111, 3) := by decide +kernel
theorem dX11_dressed_14 : decode mX11_dressed.2.1 14 = .ok (.ifCond .ge 10, 3) := by decide +kernel
theorem dX11_dressed_17 : decode mX11_dressed.2.1 17 = .ok (.aload_n 0, 1) := by decide +kernel
theorem dX11_dressed_18 : decode mX11_dressed.2.1 18 = .ok (.bipush 8, 2) := by decide +kernel
theorem dX11_dressed_20 : decode mX11_dressed.2.1 20 = .ok (.invokevirtual 254, 3) := by decide +kernel
theorem dX11_dressed_23 : decode mX11_dressed.2.1 23 = .ok (.ireturn, 1) := by decide +kernel
theorem dX11_dressed_24 : decode mX11_dressed.2.1 24 = .ok (.iload_n 1, 1) := by decide +kernel
theorem dX11_dressed_25 : decode mX11_dressed.2.1 25 = .ok (.i2l, 1) := by decide +kernel
theorem dX11_dressed_26 : decode mX11_dressed.2.1 26 = .ok (.lconst 0, 1) := by decide +kernel
theorem dX11_dressed_27 : decode mX11_dressed.2.1 27 = .ok (.aload_n 0, 1) := by decide +kernel
theorem dX11_dressed_28 : decode mX11_dressed.2.1 28 = .ok (.getfield 266, 3) := by decide +kernel
theorem dX11_dressed_31 : decode mX11_dressed.2.1 31 = .ok (.iconst 1, 1) := by decide +kernel
theorem dX11_dressed_32 : decode mX11_dressed.2.1 32 = .ok (.isub, 1) := by decide +kernel
theorem dX11_dressed_33 : decode mX11_dressed.2.1 33 = .ok (.i2l, 1) := by decide +kernel
theorem dX11_dressed_34 : decode mX11_dressed.2.1 34 = .ok (.invokestatic 221, 3) := by decide +kernel
theorem dX11_dressed_37 : decode mX11_dressed.2.1 37 = .ok (.ifCond .eq 26, 3) := by decide +kernel
theorem dX11_dressed_40 : decode mX11_dressed.2.1 40 = .ok (.aload_n 0, 1) := by decide +kernel
theorem dX11_dressed_41 : decode mX11_dressed.2.1 41 = .ok (.iload_n 2, 1) := by decide +kernel
theorem dX11_dressed_42 : decode mX11_dressed.2.1 42 = .ok (.invokevirtual 440, 3) := by decide +kernel
theorem dX11_dressed_45 : decode mX11_dressed.2.1 45 = .ok (.ifCond .eq 18, 3) := by decide +kernel
theorem dX11_dressed_48 : decode mX11_dressed.2.1 48 = .ok (.aload_n 0, 1) := by decide +kernel
theorem dX11_dressed_49 : decode mX11_dressed.2.1 49 = .ok (.getfield 37, 3) := by decide +kernel
theorem dX11_dressed_52 : decode mX11_dressed.2.1 52 = .ok (.iload_n 1, 1) := by decide +kernel
theorem dX11_dressed_53 : decode mX11_dressed.2.1 53 = .ok (.iaload, 1) := by decide +kernel
theorem dX11_dressed_54 : decode mX11_dressed.2.1 54 = .ok (.iconst 1, 1) := by decide +kernel
theorem dX11_dressed_55 : decode mX11_dressed.2.1 55 = .ok (.aload_n 0, 1) := by decide +kernel
theorem dX11_dressed_56 : decode mX11_dressed.2.1 56 = .ok (.getfield 111, 3) := by decide +kernel
theorem dX11_dressed_59 : decode mX11_dressed.2.1 59 = .ok (.ishl, 1) := by decide +kernel
theorem dX11_dressed_60 : decode mX11_dressed.2.1 60 = .ok (.if_icmp .lt 9, 3) := by decide +kernel
theorem dX11_dressed_63 : decode mX11_dressed.2.1 63 = .ok (.aload_n 0, 1) := by decide +kernel
theorem dX11_dressed_64 : decode mX11_dressed.2.1 64 = .ok (.iconst 2, 1) := by decide +kernel
theorem dX11_dressed_65 : decode mX11_dressed.2.1 65 = .ok (.invokevirtual 254, 3) := by decide +kernel
theorem dX11_dressed_68 : decode mX11_dressed.2.1 68 = .ok (.ireturn, 1) := by decide +kernel
theorem dX11_dressed_69 : decode mX11_dressed.2.1 69 = .ok (.iconst (-1), 1) := by decide +kernel
theorem dX11_dressed_70 : decode mX11_dressed.2.1 70 = .ok (.istore_n 3, 1) := by decide +kernel
theorem dX11_dressed_71 : decode mX11_dressed.2.1 71 = .ok (.iconst 0, 1) := by decide +kernel
theorem dX11_dressed_72 : decode mX11_dressed.2.1 72 = .ok (.istore 4, 2) := by decide +kernel
theorem dX11_dressed_74 : decode mX11_dressed.2.1 74 = .ok (.iconst 0, 1) := by decide +kernel
theorem dX11_dressed_75 : decode mX11_dressed.2.1 75 = .ok (.istore 5, 2) := by decide +kernel
theorem dX11_dressed_77 : decode mX11_dressed.2.1 77 = .ok (.iconst 0, 1) := by decide +kernel
theorem dX11_dressed_78 : decode mX11_dressed.2.1 78 = .ok (.istore 6, 2) := by decide +kernel
theorem dX11_dressed_80 : decode mX11_dressed.2.1 80 = .ok (.iconst 0, 1) := by decide +kernel
theorem dX11_dressed_81 : decode mX11_dressed.2.1 81 = .ok (.istore 7, 2) := by decide +kernel
theorem dX11_dressed_83 : decode mX11_dressed.2.1 83 = .ok (.iload 7, 2) := by decide +kernel
theorem dX11_dressed_85 : decode mX11_dressed.2.1 85 = .ok (.aload_n 0, 1) := by decide +kernel
theorem dX11_dressed_86 : decode mX11_dressed.2.1 86 = .ok (.getfield 111, 3) := by decide +kernel
theorem dX11_dressed_89 : decode mX11_dressed.2.1 89 = .ok (.if_icmp .ge 114, 3) := by decide +kernel
theorem dX11_dressed_92 : decode mX11_dressed.2.1 92 = .ok (.aload_n 0, 1) := by decide +kernel
theorem dX11_dressed_93 : decode mX11_dressed.2.1 93 = .ok (.getfield 37, 3) := by decide +kernel
theorem dX11_dressed_96 : decode mX11_dressed.2.1 96 = .ok (.iload_n 1, 1) := by decide +kernel
theorem dX11_dressed_97 : decode mX11_dressed.2.1 97 = .ok (.iaload, 1) := by decide +kernel
theorem dX11_dressed_98 : decode mX11_dressed.2.1 98 = .ok (.iload 7, 2) := by decide +kernel
theorem dX11_dressed_100 : decode mX11_dressed.2.1 100 = .ok (.ishr, 1) := by decide +kernel
theorem dX11_dressed_101 : decode mX11_dressed.2.1 101 = .ok (.iconst 1, 1) := by decide +kernel
theorem dX11_dressed_102 : decode mX11_dressed.2.1 102 = .ok (.iand, 1) := by decide +kernel
theorem dX11_dressed_103 : decode mX11_dressed.2.1 103 = .ok (.ifCond .ne 6, 3) := by decide +kernel
theorem dX11_dressed_106 : decode mX11_dressed.2.1 106 = .ok (.goto 91, 3) := by decide +kernel
theorem dX11_dressed_109 : decode mX11_dressed.2.1 109 = .ok (.iload_n 3, 1) := by decide +kernel
theorem dX11_dressed_110 : decode mX11_dressed.2.1 110 = .ok (.ifCond .lt 81, 3) := by decide +kernel
theorem dX11_dressed_113 : decode mX11_dressed.2.1 113 = .ok (.aload_n 0, 1) := by decide +kernel
theorem dX11_dressed_114 : decode mX11_dressed.2.1 114 = .ok (.getfield 120, 3) := by decide +kernel
theorem dX11_dressed_117 : decode mX11_dressed.2.1 117 = .ok (.iload_n 2, 1) := by decide +kernel
theorem dX11_dressed_118 : decode mX11_dressed.2.1 118 = .ok (.iload 7, 2) := by decide +kernel
theorem dX11_dressed_120 : decode mX11_dressed.2.1 120 = .ok (.invokestatic 405, 3) := by decide +kernel
theorem dX11_dressed_123 : decode mX11_dressed.2.1 123 = .ok (.iaload, 1) := by decide +kernel
theorem dX11_dressed_124 : decode mX11_dressed.2.1 124 = .ok (.aload_n 0, 1) := by decide +kernel
theorem dX11_dressed_125 : decode mX11_dressed.2.1 125 = .ok (.getfield 120, 3) := by decide +kernel
theorem dX11_dressed_128 : decode mX11_dressed.2.1 128 = .ok (.iload_n 2, 1) := by decide +kernel
theorem dX11_dressed_129 : decode mX11_dressed.2.1 129 = .ok (.iload_n 3, 1) := by decide +kernel
theorem dX11_dressed_130 : decode mX11_dressed.2.1 130 = .ok (.invokestatic 405, 3) := by decide +kernel
theorem dX11_dressed_133 : decode mX11_dressed.2.1 133 = .ok (.iaload, 1) := by decide +kernel
theorem dX11_dressed_134 : decode mX11_dressed.2.1 134 = .ok (.isub, 1) := by decide +kernel
theorem dX11_dressed_135 : decode mX11_dressed.2.1 135 = .ok (.istore 8, 2) := by decide +kernel
theorem dX11_dressed_137 : decode mX11_dressed.2.1 137 = .ok (.aload_n 0, 1) := by decide +kernel
theorem dX11_dressed_138 : decode mX11_dressed.2.1 138 = .ok (.getfield 123, 3) := by decide +kernel
theorem dX11_dressed_141 : decode mX11_dressed.2.1 141 = .ok (.iload_n 2, 1) := by decide +kernel
theorem dX11_dressed_142 : decode mX11_dressed.2.1 142 = .ok (.iload 7, 2) := by decide +kernel
theorem dX11_dressed_144 : decode mX11_dressed.2.1 144 = .ok (.invokestatic 405, 3) := by decide +kernel
theorem dX11_dressed_147 : decode mX11_dressed.2.1 147 = .ok (.iaload, 1) := by decide +kernel
theorem dX11_dressed_148 : decode mX11_dressed.2.1 148 = .ok (.aload_n 0, 1) := by decide +kernel
theorem dX11_dressed_149 : decode mX11_dressed.2.1 149 = .ok (.getfield 123, 3) := by decide +kernel
theorem dX11_dressed_152 : decode mX11_dressed.2.1 152 = .ok (.iload_n 2, 1) := by decide +kernel
theorem dX11_dressed_153 : decode mX11_dressed.2.1 153 = .ok (.iload_n 3, 1) := by decide +kernel
theorem dX11_dressed_154 : decode mX11_dressed.2.1 154 = .ok (.invokestatic 405, 3) := by decide +kernel
theorem dX11_dressed_157 : decode mX11_dressed.2.1 157 = .ok (.iaload, 1) := by decide +kernel
theorem dX11_dressed_158 : decode mX11_dressed.2.1 158 = .ok (.isub, 1) := by decide +kernel
theorem dX11_dressed_159 : decode mX11_dressed.2.1 159 = .ok (.istore 9, 2) := by decide +kernel
theorem dX11_dressed_161 : decode mX11_dressed.2.1 161 = .ok (.iload 4, 2) := by decide +kernel
theorem dX11_dressed_163 : decode mX11_dressed.2.1 163 = .ok (.iconst 1, 1) := by decide +kernel
theorem dX11_dressed_164 : decode mX11_dressed.2.1 164 = .ok (.if_icmp .le 19, 3) := by decide +kernel
theorem dX11_dressed_167 : decode mX11_dressed.2.1 167 = .ok (.iload 8, 2) := by decide +kernel
theorem dX11_dressed_169 : decode mX11_dressed.2.1 169 = .ok (.iload 5, 2) := by decide +kernel
theorem dX11_dressed_171 : decode mX11_dressed.2.1 171 = .ok (.if_icmp .ne 10, 3) := by decide +kernel
theorem dX11_dressed_174 : decode mX11_dressed.2.1 174 = .ok (.iload 9, 2) := by decide +kernel
theorem dX11_dressed_176 : decode mX11_dressed.2.1 176 = .ok (.iload 6, 2) := by decide +kernel
theorem dX11_dressed_178 : decode mX11_dressed.2.1 178 = .ok (.if_icmp .eq 5, 3) := by decide +kernel
theorem dX11_dressed_181 : decode mX11_dressed.2.1 181 = .ok (.iconst 0, 1) := by decide +kernel
theorem dX11_dressed_182 : decode mX11_dressed.2.1 182 = .ok (.ireturn, 1) := by decide +kernel
theorem dX11_dressed_183 : decode mX11_dressed.2.1 183 = .ok (.iload 8, 2) := by decide +kernel
theorem dX11_dressed_185 : decode mX11_dressed.2.1 185 = .ok (.istore 5, 2) := by decide +kernel
theorem dX11_dressed_187 : decode mX11_dressed.2.1 187 = .ok (.iload 9, 2) := by decide +kernel
theorem dX11_dressed_189 : decode mX11_dressed.2.1 189 = .ok (.istore 6, 2) := by decide +kernel
theorem dX11_dressed_191 : decode mX11_dressed.2.1 191 = .ok (.iload 7, 2) := by decide +kernel
theorem dX11_dressed_193 : decode mX11_dressed.2.1 193 = .ok (.istore_n 3, 1) := by decide +kernel
theorem dX11_dressed_194 : decode mX11_dressed.2.1 194 = .ok (.iinc 4 1, 3) := by decide +kernel
theorem dX11_dressed_197 : decode mX11_dressed.2.1 197 = .ok (.iinc 7 1, 3) := by decide +kernel
theorem dX11_dressed_200 : decode mX11_dressed.2.1 200 = .ok (.goto (-117), 3) := by decide +kernel
theorem dX11_dressed_203 : decode mX11_dressed.2.1 203 = .ok (.iconst 1, 1) := by decide +kernel
theorem dX11_dressed_204 : decode mX11_dressed.2.1 204 = .ok (.ireturn, 1) := by decide +kernel
theorem dX11_figure_0 : decode mX11_figure.2.1 0 = .ok (.sipush 1000, 3) := by decide +kernel
theorem dX11_figure_3 : decode mX11_figure.2.1 3 = .ok (.istore 4, 2) := by decide +kernel
theorem dX11_figure_5 : decode mX11_figure.2.1 5 = .ok (.sipush 1000, 3) := by decide +kernel
theorem dX11_figure_8 : decode mX11_figure.2.1 8 = .ok (.istore 5, 2) := by decide +kernel
theorem dX11_figure_10 : decode mX11_figure.2.1 10 = .ok (.iconst 0, 1) := by decide +kernel
theorem dX11_figure_11 : decode mX11_figure.2.1 11 = .ok (.istore 6, 2) := by decide +kernel
theorem dX11_figure_13 : decode mX11_figure.2.1 13 = .ok (.iload 6, 2) := by decide +kernel
theorem dX11_figure_15 : decode mX11_figure.2.1 15 = .ok (.aload_n 0, 1) := by decide +kernel
theorem dX11_figure_16 : decode mX11_figure.2.1 16 = .ok (.getfield 111, 3) := by decide +kernel
theorem dX11_figure_19 : decode mX11_figure.2.1 19 = .ok (.if_icmp .ge 127, 3) := by decide +kernel
theorem dX11_figure_22 : decode mX11_figure.2.1 22 = .ok (.iload_n 2, 1) := by decide +kernel
theorem dX11_figure_23 : decode mX11_figure.2.1 23 = .ok (.iconst 3, 1) := by decide +kernel
theorem dX11_figure_24 : decode mX11_figure.2.1 24 = .ok (.if_icmp .le 18, 3) := by decide +kernel
theorem dX11_figure_27 : decode mX11_figure.2.1 27 = .ok (.aload_n 0, 1) := by decide +kernel
theorem dX11_figure_28 : decode mX11_figure.2.1 28 = .ok (.getfield 120, 3) := by decide +kernel
theorem dX11_figure_31 : decode mX11_figure.2.1 31 = .ok (.iload_n 1, 1) := by decide +kernel
theorem dX11_figure_32 : decode mX11_figure.2.1 32 = .ok (.iload 6, 2) := by decide +kernel
theorem dX11_figure_34 : decode mX11_figure.2.1 34 = .ok (.invokestatic 405, 3) := by decide +kernel
theorem dX11_figure_37 : decode mX11_figure.2.1 37 = .ok (.iaload, 1) := by decide +kernel
theorem dX11_figure_38 : decode mX11_figure.2.1 38 = .ok (.ineg, 1) := by decide +kernel
theorem dX11_figure_39 : decode mX11_figure.2.1 39 = .ok (.goto 14, 3) := by decide +kernel
theorem dX11_figure_42 : decode mX11_figure.2.1 42 = .ok (.aload_n 0, 1) := by decide +kernel
theorem dX11_figure_43 : decode mX11_figure.2.1 43 = .ok (.getfield 120, 3) := by decide +kernel
theorem dX11_figure_46 : decode mX11_figure.2.1 46 = .ok (.iload_n 1, 1) := by decide +kernel
theorem dX11_figure_47 : decode mX11_figure.2.1 47 = .ok (.iload 6, 2) := by decide +kernel
theorem dX11_figure_49 : decode mX11_figure.2.1 49 = .ok (.invokestatic 405, 3) := by decide +kernel
theorem dX11_figure_52 : decode mX11_figure.2.1 52 = .ok (.iaload, 1) := by decide +kernel
theorem dX11_figure_53 : decode mX11_figure.2.1 53 = .ok (.istore 7, 2) := by decide +kernel
theorem dX11_figure_55 : decode mX11_figure.2.1 55 = .ok (.aload_n 0, 1) := by decide +kernel
theorem dX11_figure_56 : decode mX11_figure.2.1 56 = .ok (.getfield 123, 3) := by decide +kernel
theorem dX11_figure_59 : decode mX11_figure.2.1 59 = .ok (.iload_n 1, 1) := by decide +kernel
theorem dX11_figure_60 : decode mX11_figure.2.1 60 = .ok (.iload 6, 2) := by decide +kernel
theorem dX11_figure_62 : decode mX11_figure.2.1 62 = .ok (.invokestatic 405, 3) := by decide +kernel
theorem dX11_figure_65 : decode mX11_figure.2.1 65 = .ok (.iaload, 1) := by decide +kernel
theorem dX11_figure_66 : decode mX11_figure.2.1 66 = .ok (.istore 8, 2) := by decide +kernel
theorem dX11_figure_68 : decode mX11_figure.2.1 68 = .ok (.iload_n 2, 1) := by decide +kernel
theorem dX11_figure_69 : decode mX11_figure.2.1 69 = .ok (.iconst 4, 1) := by decide +kernel
theorem dX11_figure_70 : decode mX11_figure.2.1 70 = .ok (.irem, 1) := by decide +kernel
theorem dX11_figure_71 : decode mX11_figure.2.1 71 = .ok (.istore 9, 2) := by decide +kernel
theorem dX11_figure_73 : decode mX11_figure.2.1 73 = .ok (.iload 9, 2) := by decide +kernel
theorem dX11_figure_75 : decode mX11_figure.2.1 75 = .ok (.ifCond .le 22, 3) := by decide +kernel
theorem dX11_figure_78 : decode mX11_figure.2.1 78 = .ok (.iload 7, 2) := by decide +kernel
theorem dX11_figure_80 : decode mX11_figure.2.1 80 = .ok (.istore 10, 2) := by decide +kernel
theorem dX11_figure_82 : decode mX11_figure.2.1 82 = .ok (.iload 8, 2) := by decide +kernel
theorem dX11_figure_84 : decode mX11_figure.2.1 84 = .ok (.istore 7, 2) := by decide +kernel
theorem dX11_figure_86 : decode mX11_figure.2.1 86 = .ok (.iload 10, 2) := by decide +kernel
theorem dX11_figure_88 : decode mX11_figure.2.1 88 = .ok (.ineg, 1) := by decide +kernel
theorem dX11_figure_89 : decode mX11_figure.2.1 89 = .ok (.istore 8, 2) := by decide +kernel
theorem dX11_figure_91 : decode mX11_figure.2.1 91 = .ok (.iinc 9 (-1), 3) := by decide +kernel
theorem dX11_figure_94 : decode mX11_figure.2.1 94 = .ok (.goto (-21), 3) := by decide +kernel
theorem dX11_figure_97 : decode mX11_figure.2.1 97 = .ok (.aload_n 3, 1) := by decide +kernel
theorem dX11_figure_98 : decode mX11_figure.2.1 98 = .ok (.iload 6, 2) := by decide +kernel
theorem dX11_figure_100 : decode mX11_figure.2.1 100 = .ok (.sipush 1000, 3) := by decide +kernel
theorem dX11_figure_103 : decode mX11_figure.2.1 103 = .ok (.iload 7, 2) := by decide +kernel
theorem dX11_figure_105 : decode mX11_figure.2.1 105 = .ok (.bipush 100, 2) := by decide +kernel
theorem dX11_figure_107 : decode mX11_figure.2.1 107 = .ok (.iadd, 1) := by decide +kernel
theorem dX11_figure_108 : decode mX11_figure.2.1 108 = .ok (.imul, 1) := by decide +kernel
theorem dX11_figure_109 : decode mX11_figure.2.1 109 = .ok (.iload 8, 2) := by decide +kernel
theorem dX11_figure_111 : decode mX11_figure.2.1 111 = .ok (.iadd, 1) := by decide +kernel
theorem dX11_figure_112 : decode mX11_figure.2.1 112 = .ok (.bipush 100, 2) := by decide +kernel
theorem dX11_figure_114 : decode mX11_figure.2.1 114 = .ok (.iadd, 1) := by decide +kernel
theorem dX11_figure_115 : decode mX11_figure.2.1 115 = .ok (.iastore, 1) := by decide +kernel
theorem dX11_figure_116 : decode mX11_figure.2.1 116 = .ok (.iload 4, 2) := by decide +kernel
theorem dX11_figure_118 : decode mX11_figure.2.1 118 = .ok (.iload 7, 2) := by decide +kernel
theorem dX11_figure_120 : decode mX11_figure.2.1 120 = .ok (.bipush 100, 2) := by decide +kernel
theorem dX11_figure_122 : decode mX11_figure.2.1 122 = .ok (.iadd, 1) := by decide +kernel
theorem dX11_figure_123 : decode mX11_figure.2.1 123 = .ok (.invokestatic 458, 3) := by decide +kernel
theorem dX11_figure_126 : decode mX11_figure.2.1 126 = .ok (.istore 4, 2) := by decide +kernel
theorem dX11_figure_128 : decode mX11_figure.2.1 128 = .ok (.iload 5, 2) := by decide +kernel
theorem dX11_figure_130 : decode mX11_figure.2.1 130 = .ok (.iload 8, 2) := by decide +kernel
theorem dX11_figure_132 : decode mX11_figure.2.1 132 = .ok (.bipush 100, 2) := by decide +kernel
theorem dX11_figure_134 : decode mX11_figure.2.1 134 = .ok (.iadd, 1) := by decide +kernel
theorem dX11_figure_135 : decode mX11_figure.2.1 135 = .ok (.invokestatic 458, 3) := by decide +kernel
theorem dX11_figure_138 : decode mX11_figure.2.1 138 = .ok (.istore 5, 2) := by decide +kernel
theorem dX11_figure_140 : decode mX11_figure.2.1 140 = .ok (.iinc 6 1, 3) := by decide +kernel
theorem dX11_figure_143 : decode mX11_figure.2.1 143 = .ok (.goto (-130), 3) := by decide +kernel
theorem dX11_figure_146 : decode mX11_figure.2.1 146 = .ok (.iconst 0, 1) := by decide +kernel
theorem dX11_figure_147 : decode mX11_figure.2.1 147 = .ok (.istore 6, 2) := by decide +kernel
theorem dX11_figure_149 : decode mX11_figure.2.1 149 = .ok (.iload 6, 2) := by decide +kernel
theorem dX11_figure_151 : decode mX11_figure.2.1 151 = .ok (.aload_n 0, 1) := by decide +kernel
theorem dX11_figure_152 : decode mX11_figure.2.1 152 = .ok (.getfield 111, 3) := by decide +kernel
theorem dX11_figure_155 : decode mX11_figure.2.1 155 = .ok (.if_icmp .ge 67, 3) := by decide +kernel
theorem dX11_figure_158 : decode mX11_figure.2.1 158 = .ok (.aload_n 3, 1) := by decide +kernel
theorem dX11_figure_159 : decode mX11_figure.2.1 159 = .ok (.iload 6, 2) := by decide +kernel
theorem dX11_figure_161 : decode mX11_figure.2.1 161 = .ok (.iaload, 1) := by decide +kernel
theorem dX11_figure_162 : decode mX11_figure.2.1 162 = .ok (.sipush 1000, 3) := by decide +kernel
theorem dX11_figure_165 : decode mX11_figure.2.1 165 = .ok (.iload 4, 2) := by decide +kernel
theorem dX11_figure_167 : decode mX11_figure.2.1 167 = .ok (.imul, 1) := by decide +kernel
theorem dX11_figure_168 : decode mX11_figure.2.1 168 = .ok (.isub, 1) := by decide +kernel
theorem dX11_figure_169 : decode mX11_figure.2.1 169 = .ok (.iload 5, 2) := by decide +kernel
theorem dX11_figure_171 : decode mX11_figure.2.1 171 = .ok (.isub, 1) := by decide +kernel
theorem dX11_figure_172 : decode mX11_figure.2.1 172 = .ok (.istore 7, 2) := by decide +kernel
theorem dX11_figure_174 : decode mX11_figure.2.1 174 = .ok (.iload 6, 2) := by decide +kernel
theorem dX11_figure_176 : decode mX11_figure.2.1 176 = .ok (.istore 8, 2) := by decide +kernel
theorem dX11_figure_178 : decode mX11_figure.2.1 178 = .ok (.iload 8, 2) := by decide +kernel
theorem dX11_figure_180 : decode mX11_figure.2.1 180 = .ok (.ifCond .le 30, 3) := by decide +kernel
theorem dX11_figure_183 : decode mX11_figure.2.1 183 = .ok (.aload_n 3, 1) := by decide +kernel
theorem dX11_figure_184 : decode mX11_figure.2.1 184 = .ok (.iload 8, 2) := by decide +kernel
theorem dX11_figure_186 : decode mX11_figure.2.1 186 = .ok (.iconst 1, 1) := by decide +kernel
theorem dX11_figure_187 : decode mX11_figure.2.1 187 = .ok (.isub, 1) := by decide +kernel
theorem dX11_figure_188 : decode mX11_figure.2.1 188 = .ok (.iaload, 1) := by decide +kernel
theorem dX11_figure_189 : decode mX11_figure.2.1 189 = .ok (.iload 7, 2) := by decide +kernel
theorem dX11_figure_191 : decode mX11_figure.2.1 191 = .ok (.if_icmp .le 19, 3) := by decide +kernel
theorem dX11_figure_194 : decode mX11_figure.2.1 194 = .ok (.aload_n 3, 1) := by decide +kernel
theorem dX11_figure_195 : decode mX11_figure.2.1 195 = .ok (.iload 8, 2) := by decide +kernel
theorem dX11_figure_197 : decode mX11_figure.2.1 197 = .ok (.aload_n 3, 1) := by decide +kernel
theorem dX11_figure_198 : decode mX11_figure.2.1 198 = .ok (.iload 8, 2) := by decide +kernel
theorem dX11_figure_200 : decode mX11_figure.2.1 200 = .ok (.iconst 1, 1) := by decide +kernel
theorem dX11_figure_201 : decode mX11_figure.2.1 201 = .ok (.isub, 1) := by decide +kernel
theorem dX11_figure_202 : decode mX11_figure.2.1 202 = .ok (.iaload, 1) := by decide +kernel
theorem dX11_figure_203 : decode mX11_figure.2.1 203 = .ok (.iastore, 1) := by decide +kernel
theorem dX11_figure_204 : decode mX11_figure.2.1 204 = .ok (.iinc 8 (-1), 3) := by decide +kernel
theorem dX11_figure_207 : decode mX11_figure.2.1 207 = .ok (.goto (-29), 3) := by decide +kernel
theorem dX11_figure_210 : decode mX11_figure.2.1 210 = .ok (.aload_n 3, 1) := by decide +kernel
theorem dX11_figure_211 : decode mX11_figure.2.1 211 = .ok (.iload 8, 2) := by decide +kernel
theorem dX11_figure_213 : decode mX11_figure.2.1 213 = .ok (.iload 7, 2) := by decide +kernel
theorem dX11_figure_215 : decode mX11_figure.2.1 215 = .ok (.iastore, 1) := by decide +kernel
theorem dX11_figure_216 : decode mX11_figure.2.1 216 = .ok (.iinc 6 1, 3) := by decide +kernel
theorem dX11_figure_219 : decode mX11_figure.2.1 219 = .ok (.goto (-70), 3) := by decide +kernel
theorem dX11_figure_222 : decode mX11_figure.2.1 222 = .ok (.return_, 1) := by decide +kernel
theorem dX11_like_0 : decode mX11_like.2.1 0 = .ok (.aload_n 0, 1) := by decide +kernel
theorem dX11_like_1 : decode mX11_like.2.1 1 = .ok (.iconst 0, 1) := by decide +kernel
theorem dX11_like_2 : decode mX11_like.2.1 2 = .ok (.putfield 213, 3) := by decide +kernel
theorem dX11_like_5 : decode mX11_like.2.1 5 = .ok (.aload_n 0, 1) := by decide +kernel
theorem dX11_like_6 : decode mX11_like.2.1 6 = .ok (.iconst 0, 1) := by decide +kernel
theorem dX11_like_7 : decode mX11_like.2.1 7 = .ok (.putfield 216, 3) := by decide +kernel
theorem dX11_like_10 : decode mX11_like.2.1 10 = .ok (.aload_n 0, 1) := by decide +kernel
theorem dX11_like_11 : decode mX11_like.2.1 11 = .ok (.getfield 111, 3) := by decide +kernel
theorem dX11_like_14 : decode mX11_like.2.1 14 = .ok (.ifCond .ge 10, 3) := by decide +kernel
theorem dX11_like_17 : decode mX11_like.2.1 17 = .ok (.aload_n 0, 1) := by decide +kernel
theorem dX11_like_18 : decode mX11_like.2.1 18 = .ok (.bipush 8, 2) := by decide +kernel
theorem dX11_like_20 : decode mX11_like.2.1 20 = .ok (.invokevirtual 254, 3) := by decide +kernel
theorem dX11_like_23 : decode mX11_like.2.1 23 = .ok (.ireturn, 1) := by decide +kernel
theorem dX11_like_24 : decode mX11_like.2.1 24 = .ok (.aload_n 0, 1) := by decide +kernel
theorem dX11_like_25 : decode mX11_like.2.1 25 = .ok (.iload_n 1, 1) := by decide +kernel
theorem dX11_like_26 : decode mX11_like.2.1 26 = .ok (.invokevirtual 440, 3) := by decide +kernel
theorem dX11_like_29 : decode mX11_like.2.1 29 = .ok (.ifCond .eq 11, 3) := by decide +kernel
theorem dX11_like_32 : decode mX11_like.2.1 32 = .ok (.aload_n 0, 1) := by decide +kernel
theorem dX11_like_33 : decode mX11_like.2.1 33 = .ok (.iload_n 2, 1) := by decide +kernel
theorem dX11_like_34 : decode mX11_like.2.1 34 = .ok (.invokevirtual 440, 3) := by decide +kernel
theorem dX11_like_37 : decode mX11_like.2.1 37 = .ok (.ifCond .ne 9, 3) := by decide +kernel
theorem dX11_like_40 : decode mX11_like.2.1 40 = .ok (.aload_n 0, 1) := by decide +kernel
theorem dX11_like_41 : decode mX11_like.2.1 41 = .ok (.iconst 2, 1) := by decide +kernel
theorem dX11_like_42 : decode mX11_like.2.1 42 = .ok (.invokevirtual 254, 3) := by decide +kernel
theorem dX11_like_45 : decode mX11_like.2.1 45 = .ok (.ireturn, 1) := by decide +kernel
theorem dX11_like_46 : decode mX11_like.2.1 46 = .ok (.aload_n 0, 1) := by decide +kernel
theorem dX11_like_47 : decode mX11_like.2.1 47 = .ok (.iload_n 2, 1) := by decide +kernel
theorem dX11_like_48 : decode mX11_like.2.1 48 = .ok (.iconst 0, 1) := by decide +kernel
theorem dX11_like_49 : decode mX11_like.2.1 49 = .ok (.aload_n 0, 1) := by decide +kernel
theorem dX11_like_50 : decode mX11_like.2.1 50 = .ok (.getfield 144, 3) := by decide +kernel
theorem dX11_like_53 : decode mX11_like.2.1 53 = .ok (.invokevirtual 461, 3) := by decide +kernel
theorem dX11_like_56 : decode mX11_like.2.1 56 = .ok (.iconst 0, 1) := by decide +kernel
theorem dX11_like_57 : decode mX11_like.2.1 57 = .ok (.istore_n 3, 1) := by decide +kernel
theorem dX11_like_58 : decode mX11_like.2.1 58 = .ok (.iload_n 3, 1) := by decide +kernel
theorem dX11_like_59 : decode mX11_like.2.1 59 = .ok (.bipush 8, 2) := by decide +kernel
theorem dX11_like_61 : decode mX11_like.2.1 61 = .ok (.if_icmp .ge 76, 3) := by decide +kernel
theorem dX11_like_64 : decode mX11_like.2.1 64 = .ok (.aload_n 0, 1) := by decide +kernel
theorem dX11_like_65 : decode mX11_like.2.1 65 = .ok (.iload_n 1, 1) := by decide +kernel
theorem dX11_like_66 : decode mX11_like.2.1 66 = .ok (.iload_n 3, 1) := by decide +kernel
theorem dX11_like_67 : decode mX11_like.2.1 67 = .ok (.aload_n 0, 1) := by decide +kernel
theorem dX11_like_68 : decode mX11_like.2.1 68 = .ok (.getfield 141, 3) := by decide +kernel
theorem dX11_like_71 : decode mX11_like.2.1 71 = .ok (.invokevirtual 461, 3) := by decide +kernel
theorem dX11_like_74 : decode mX11_like.2.1 74 = .ok (.iconst 1, 1) := by decide +kernel
theorem dX11_like_75 : decode mX11_like.2.1 75 = .ok (.istore 4, 2) := by decide +kernel
theorem dX11_like_77 : decode mX11_like.2.1 77 = .ok (.iconst 0, 1) := by decide +kernel
theorem dX11_like_78 : decode mX11_like.2.1 78 = .ok (.istore 5, 2) := by decide +kernel
theorem dX11_like_80 : decode mX11_like.2.1 80 = .ok (.iload 5, 2) := by decide +kernel
theorem dX11_like_82 : decode mX11_like.2.1 82 = .ok (.aload_n 0, 1) := by decide +kernel
theorem dX11_like_83 : decode mX11_like.2.1 83 = .ok (.getfield 111, 3) := by decide +kernel
theorem dX11_like_86 : decode mX11_like.2.1 86 = .ok (.if_icmp .ge 38, 3) := by decide +kernel
theorem dX11_like_89 : decode mX11_like.2.1 89 = .ok (.iload 4, 2) := by decide +kernel
theorem dX11_like_91 : decode mX11_like.2.1 91 = .ok (.ifCond .eq 24, 3) := by decide +kernel
theorem dX11_like_94 : decode mX11_like.2.1 94 = .ok (.aload_n 0, 1) := by decide +kernel
theorem dX11_like_95 : decode mX11_like.2.1 95 = .ok (.getfield 141, 3) := by decide +kernel
theorem dX11_like_98 : decode mX11_like.2.1 98 = .ok (.iload 5, 2) := by decide +kernel
theorem dX11_like_100 : decode mX11_like.2.1 100 = .ok (.iaload, 1) := by decide +kernel
theorem dX11_like_101 : decode mX11_like.2.1 101 = .ok (.aload_n 0, 1) := by decide +kernel
theorem dX11_like_102 : decode mX11_like.2.1 102 = .ok (.getfield 144, 3) := by decide +kernel
theorem dX11_like_105 : decode mX11_like.2.1 105 = .ok (.iload 5, 2) := by decide +kernel
theorem dX11_like_107 : decode mX11_like.2.1 107 = .ok (.iaload, 1) := by decide +kernel
theorem dX11_like_108 : decode mX11_like.2.1 108 = .ok (.if_icmp .ne 7, 3) := by decide +kernel
theorem dX11_like_111 : decode mX11_like.2.1 111 = .ok (.iconst 1, 1) := by decide +kernel
theorem dX11_like_112 : decode mX11_like.2.1 112 = .ok (.goto 4, 3) := by decide +kernel
theorem dX11_like_115 : decode mX11_like.2.1 115 = .ok (.iconst 0, 1) := by decide +kernel
theorem dX11_like_116 : decode mX11_like.2.1 116 = .ok (.istore 4, 2) := by decide +kernel
theorem dX11_like_118 : decode mX11_like.2.1 118 = .ok (.iinc 5 1, 3) := by decide +kernel
theorem dX11_like_121 : decode mX11_like.2.1 121 = .ok (.goto (-41), 3) := by decide +kernel
theorem dX11_like_124 : decode mX11_like.2.1 124 = .ok (.iload 4, 2) := by decide +kernel
theorem dX11_like_126 : decode mX11_like.2.1 126 = .ok (.ifCond .eq 5, 3) := by decide +kernel
theorem dX11_like_129 : decode mX11_like.2.1 129 = .ok (.iload_n 3, 1) := by decide +kernel
theorem dX11_like_130 : decode mX11_like.2.1 130 = .ok (.ireturn, 1) := by decide +kernel
theorem dX11_like_131 : decode mX11_like.2.1 131 = .ok (.iinc 3 1, 3) := by decide +kernel
theorem dX11_like_134 : decode mX11_like.2.1 134 = .ok (.goto (-76), 3) := by decide +kernel
theorem dX11_like_137 : decode mX11_like.2.1 137 = .ok (.aload_n 0, 1) := by decide +kernel
theorem dX11_like_138 : decode mX11_like.2.1 138 = .ok (.bipush 8, 2) := by decide +kernel
theorem dX11_like_140 : decode mX11_like.2.1 140 = .ok (.invokevirtual 254, 3) := by decide +kernel
theorem dX11_like_143 : decode mX11_like.2.1 143 = .ok (.ireturn, 1) := by decide +kernel
theorem dX11_seen_0 : decode mX11_seen.2.1 0 = .ok (.aload_n 0, 1) := by decide +kernel
theorem dX11_seen_1 : decode mX11_seen.2.1 1 = .ok (.iconst 0, 1) := by decide +kernel
theorem dX11_seen_2 : decode mX11_seen.2.1 2 = .ok (.putfield 213, 3) := by decide +kernel
theorem dX11_seen_5 : decode mX11_seen.2.1 5 = .ok (.aload_n 0, 1) := by decide +kernel
theorem dX11_seen_6 : decode mX11_seen.2.1 6 = .ok (.iconst 0, 1) := by decide +kernel
theorem dX11_seen_7 : decode mX11_seen.2.1 7 = .ok (.putfield 216, 3) := by decide +kernel
theorem dX11_seen_10 : decode mX11_seen.2.1 10 = .ok (.aload_n 0, 1) := by decide +kernel
theorem dX11_seen_11 : decode mX11_seen.2.1 11 = .ok (.getfield 111, 3) := by decide +kernel
theorem dX11_seen_14 : decode mX11_seen.2.1 14 = .ok (.ifCond .ge 10, 3) := by decide +kernel
theorem dX11_seen_17 : decode mX11_seen.2.1 17 = .ok (.aload_n 0, 1) := by decide +kernel
theorem dX11_seen_18 : decode mX11_seen.2.1 18 = .ok (.bipush 8, 2) := by decide +kernel
theorem dX11_seen_20 : decode mX11_seen.2.1 20 = .ok (.invokevirtual 254, 3) := by decide +kernel
theorem dX11_seen_23 : decode mX11_seen.2.1 23 = .ok (.ireturn, 1) := by decide +kernel
theorem dX11_seen_24 : decode mX11_seen.2.1 24 = .ok (.aload_n 0, 1) := by decide +kernel
theorem dX11_seen_25 : decode mX11_seen.2.1 25 = .ok (.iload_n 1, 1) := by decide +kernel
theorem dX11_seen_26 : decode mX11_seen.2.1 26 = .ok (.invokevirtual 440, 3) := by decide +kernel
theorem dX11_seen_29 : decode mX11_seen.2.1 29 = .ok (.ifCond .ne 9, 3) := by decide +kernel
theorem dX11_seen_32 : decode mX11_seen.2.1 32 = .ok (.aload_n 0, 1) := by decide +kernel
theorem dX11_seen_33 : decode mX11_seen.2.1 33 = .ok (.iconst 2, 1) := by decide +kernel
theorem dX11_seen_34 : decode mX11_seen.2.1 34 = .ok (.invokevirtual 254, 3) := by decide +kernel
theorem dX11_seen_37 : decode mX11_seen.2.1 37 = .ok (.ireturn, 1) := by decide +kernel
theorem dX11_seen_38 : decode mX11_seen.2.1 38 = .ok (.iload_n 2, 1) := by decide +kernel
theorem dX11_seen_39 : decode mX11_seen.2.1 39 = .ok (.i2l, 1) := by decide +kernel
theorem dX11_seen_40 : decode mX11_seen.2.1 40 = .ok (.lconst 0, 1) := by decide +kernel
theorem dX11_seen_41 : decode mX11_seen.2.1 41 = .ok (.ldc2_w 219, 3) := by decide +kernel
theorem dX11_seen_44 : decode mX11_seen.2.1 44 = .ok (.invokestatic 221, 3) := by decide +kernel
theorem dX11_seen_47 : decode mX11_seen.2.1 47 = .ok (.ifCond .eq 15, 3) := by decide +kernel
theorem dX11_seen_50 : decode mX11_seen.2.1 50 = .ok (.iload_n 3, 1) := by decide +kernel
theorem dX11_seen_51 : decode mX11_seen.2.1 51 = .ok (.i2l, 1) := by decide +kernel
theorem dX11_seen_52 : decode mX11_seen.2.1 52 = .ok (.lconst 1, 1) := by decide +kernel
theorem dX11_seen_53 : decode mX11_seen.2.1 53 = .ok (.ldc2_w 465, 3) := by decide +kernel
theorem dX11_seen_56 : decode mX11_seen.2.1 56 = .ok (.invokestatic 221, 3) := by decide +kernel
theorem dX11_seen_59 : decode mX11_seen.2.1 59 = .ok (.ifCond .ne 9, 3) := by decide +kernel
theorem dX11_seen_62 : decode mX11_seen.2.1 62 = .ok (.aload_n 0, 1) := by decide +kernel
theorem dX11_seen_63 : decode mX11_seen.2.1 63 = .ok (.iconst 5, 1) := by decide +kernel
theorem dX11_seen_64 : decode mX11_seen.2.1 64 = .ok (.invokevirtual 254, 3) := by decide +kernel
theorem dX11_seen_67 : decode mX11_seen.2.1 67 = .ok (.ireturn, 1) := by decide +kernel
theorem dX11_seen_68 : decode mX11_seen.2.1 68 = .ok (.iconst 0, 1) := by decide +kernel
theorem dX11_seen_69 : decode mX11_seen.2.1 69 = .ok (.istore 4, 2) := by decide +kernel
theorem dX11_seen_71 : decode mX11_seen.2.1 71 = .ok (.iconst 0, 1) := by decide +kernel
theorem dX11_seen_72 : decode mX11_seen.2.1 72 = .ok (.istore 5, 2) := by decide +kernel
theorem dX11_seen_74 : decode mX11_seen.2.1 74 = .ok (.iload 5, 2) := by decide +kernel
theorem dX11_seen_76 : decode mX11_seen.2.1 76 = .ok (.aload_n 0, 1) := by decide +kernel
theorem dX11_seen_77 : decode mX11_seen.2.1 77 = .ok (.getfield 111, 3) := by decide +kernel
theorem dX11_seen_80 : decode mX11_seen.2.1 80 = .ok (.if_icmp .ge 71, 3) := by decide +kernel
theorem dX11_seen_83 : decode mX11_seen.2.1 83 = .ok (.iconst 1, 1) := by decide +kernel
theorem dX11_seen_84 : decode mX11_seen.2.1 84 = .ok (.istore 6, 2) := by decide +kernel
theorem dX11_seen_86 : decode mX11_seen.2.1 86 = .ok (.iconst 0, 1) := by decide +kernel
theorem dX11_seen_87 : decode mX11_seen.2.1 87 = .ok (.istore 7, 2) := by decide +kernel
theorem dX11_seen_89 : decode mX11_seen.2.1 89 = .ok (.iload 7, 2) := by decide +kernel
theorem dX11_seen_91 : decode mX11_seen.2.1 91 = .ok (.aload_n 0, 1) := by decide +kernel
theorem dX11_seen_92 : decode mX11_seen.2.1 92 = .ok (.getfield 111, 3) := by decide +kernel
theorem dX11_seen_95 : decode mX11_seen.2.1 95 = .ok (.if_icmp .ge 35, 3) := by decide +kernel
theorem dX11_seen_98 : decode mX11_seen.2.1 98 = .ok (.iload 6, 2) := by decide +kernel
theorem dX11_seen_100 : decode mX11_seen.2.1 100 = .ok (.ifCond .eq 21, 3) := by decide +kernel
theorem dX11_seen_103 : decode mX11_seen.2.1 103 = .ok (.aload_n 0, 1) := by decide +kernel
theorem dX11_seen_104 : decode mX11_seen.2.1 104 = .ok (.iload_n 1, 1) := by decide +kernel
theorem dX11_seen_105 : decode mX11_seen.2.1 105 = .ok (.iload 7, 2) := by decide +kernel
theorem dX11_seen_107 : decode mX11_seen.2.1 107 = .ok (.iload 5, 2) := by decide +kernel
theorem dX11_seen_109 : decode mX11_seen.2.1 109 = .ok (.iload_n 2, 1) := by decide +kernel
theorem dX11_seen_110 : decode mX11_seen.2.1 110 = .ok (.iload_n 3, 1) := by decide +kernel
theorem dX11_seen_111 : decode mX11_seen.2.1 111 = .ok (.invokevirtual 467, 3) := by decide +kernel
theorem dX11_seen_114 : decode mX11_seen.2.1 114 = .ok (.ifCond .ne 7, 3) := by decide +kernel
theorem dX11_seen_117 : decode mX11_seen.2.1 117 = .ok (.iconst 1, 1) := by decide +kernel
theorem dX11_seen_118 : decode mX11_seen.2.1 118 = .ok (.goto 4, 3) := by decide +kernel
theorem dX11_seen_121 : decode mX11_seen.2.1 121 = .ok (.iconst 0, 1) := by decide +kernel
theorem dX11_seen_122 : decode mX11_seen.2.1 122 = .ok (.istore 6, 2) := by decide +kernel
theorem dX11_seen_124 : decode mX11_seen.2.1 124 = .ok (.iinc 7 1, 3) := by decide +kernel
theorem dX11_seen_127 : decode mX11_seen.2.1 127 = .ok (.goto (-38), 3) := by decide +kernel
theorem dX11_seen_130 : decode mX11_seen.2.1 130 = .ok (.iload 4, 2) := by decide +kernel
theorem dX11_seen_132 : decode mX11_seen.2.1 132 = .ok (.iload 6, 2) := by decide +kernel
theorem dX11_seen_134 : decode mX11_seen.2.1 134 = .ok (.ifCond .eq 7, 3) := by decide +kernel
theorem dX11_seen_137 : decode mX11_seen.2.1 137 = .ok (.iconst 1, 1) := by decide +kernel
theorem dX11_seen_138 : decode mX11_seen.2.1 138 = .ok (.goto 4, 3) := by decide +kernel
theorem dX11_seen_141 : decode mX11_seen.2.1 141 = .ok (.iconst 0, 1) := by decide +kernel
theorem dX11_seen_142 : decode mX11_seen.2.1 142 = .ok (.iadd, 1) := by decide +kernel
theorem dX11_seen_143 : decode mX11_seen.2.1 143 = .ok (.istore 4, 2) := by decide +kernel
theorem dX11_seen_145 : decode mX11_seen.2.1 145 = .ok (.iinc 5 1, 3) := by decide +kernel
theorem dX11_seen_148 : decode mX11_seen.2.1 148 = .ok (.goto (-74), 3) := by decide +kernel
theorem dX11_seen_151 : decode mX11_seen.2.1 151 = .ok (.iload 4, 2) := by decide +kernel
theorem dX11_seen_153 : decode mX11_seen.2.1 153 = .ok (.ireturn, 1) := by decide +kernel
theorem dX11_hides_0 : decode mX11_hides.2.1 0 = .ok (.aload_n 0, 1) := by decide +kernel
theorem dX11_hides_1 : decode mX11_hides.2.1 1 = .ok (.getfield 120, 3) := by decide +kernel
theorem dX11_hides_4 : decode mX11_hides.2.1 4 = .ok (.iload_n 1, 1) := by decide +kernel
theorem dX11_hides_5 : decode mX11_hides.2.1 5 = .ok (.iload_n 3, 1) := by decide +kernel
theorem dX11_hides_6 : decode mX11_hides.2.1 6 = .ok (.invokestatic 405, 3) := by decide +kernel
theorem dX11_hides_9 : decode mX11_hides.2.1 9 = .ok (.iaload, 1) := by decide +kernel
theorem dX11_hides_10 : decode mX11_hides.2.1 10 = .ok (.iload 4, 2) := by decide +kernel
theorem dX11_hides_12 : decode mX11_hides.2.1 12 = .ok (.isub, 1) := by decide +kernel
theorem dX11_hides_13 : decode mX11_hides.2.1 13 = .ok (.istore 6, 2) := by decide +kernel
theorem dX11_hides_15 : decode mX11_hides.2.1 15 = .ok (.aload_n 0, 1) := by decide +kernel
theorem dX11_hides_16 : decode mX11_hides.2.1 16 = .ok (.getfield 123, 3) := by decide +kernel
theorem dX11_hides_19 : decode mX11_hides.2.1 19 = .ok (.iload_n 1, 1) := by decide +kernel
theorem dX11_hides_20 : decode mX11_hides.2.1 20 = .ok (.iload_n 3, 1) := by decide +kernel
theorem dX11_hides_21 : decode mX11_hides.2.1 21 = .ok (.invokestatic 405, 3) := by decide +kernel
theorem dX11_hides_24 : decode mX11_hides.2.1 24 = .ok (.iaload, 1) := by decide +kernel
theorem dX11_hides_25 : decode mX11_hides.2.1 25 = .ok (.iload 5, 2) := by decide +kernel
theorem dX11_hides_27 : decode mX11_hides.2.1 27 = .ok (.iadd, 1) := by decide +kernel
theorem dX11_hides_28 : decode mX11_hides.2.1 28 = .ok (.istore 7, 2) := by decide +kernel
theorem dX11_hides_30 : decode mX11_hides.2.1 30 = .ok (.aload_n 0, 1) := by decide +kernel
theorem dX11_hides_31 : decode mX11_hides.2.1 31 = .ok (.getfield 120, 3) := by decide +kernel
theorem dX11_hides_34 : decode mX11_hides.2.1 34 = .ok (.iload_n 1, 1) := by decide +kernel
theorem dX11_hides_35 : decode mX11_hides.2.1 35 = .ok (.iload_n 2, 1) := by decide +kernel
theorem dX11_hides_36 : decode mX11_hides.2.1 36 = .ok (.invokestatic 405, 3) := by decide +kernel
theorem dX11_hides_39 : decode mX11_hides.2.1 39 = .ok (.iaload, 1) := by decide +kernel
theorem dX11_hides_40 : decode mX11_hides.2.1 40 = .ok (.iload 4, 2) := by decide +kernel
theorem dX11_hides_42 : decode mX11_hides.2.1 42 = .ok (.isub, 1) := by decide +kernel
theorem dX11_hides_43 : decode mX11_hides.2.1 43 = .ok (.istore 8, 2) := by decide +kernel
theorem dX11_hides_45 : decode mX11_hides.2.1 45 = .ok (.aload_n 0, 1) := by decide +kernel
theorem dX11_hides_46 : decode mX11_hides.2.1 46 = .ok (.getfield 123, 3) := by decide +kernel
theorem dX11_hides_49 : decode mX11_hides.2.1 49 = .ok (.iload_n 1, 1) := by decide +kernel
theorem dX11_hides_50 : decode mX11_hides.2.1 50 = .ok (.iload_n 2, 1) := by decide +kernel
theorem dX11_hides_51 : decode mX11_hides.2.1 51 = .ok (.invokestatic 405, 3) := by decide +kernel
theorem dX11_hides_54 : decode mX11_hides.2.1 54 = .ok (.iaload, 1) := by decide +kernel
theorem dX11_hides_55 : decode mX11_hides.2.1 55 = .ok (.iload 5, 2) := by decide +kernel
theorem dX11_hides_57 : decode mX11_hides.2.1 57 = .ok (.iadd, 1) := by decide +kernel
theorem dX11_hides_58 : decode mX11_hides.2.1 58 = .ok (.istore 9, 2) := by decide +kernel
theorem dX11_hides_60 : decode mX11_hides.2.1 60 = .ok (.iload 6, 2) := by decide +kernel
theorem dX11_hides_62 : decode mX11_hides.2.1 62 = .ok (.iload 9, 2) := by decide +kernel
theorem dX11_hides_64 : decode mX11_hides.2.1 64 = .ok (.imul, 1) := by decide +kernel
theorem dX11_hides_65 : decode mX11_hides.2.1 65 = .ok (.iload 7, 2) := by decide +kernel
theorem dX11_hides_67 : decode mX11_hides.2.1 67 = .ok (.iload 8, 2) := by decide +kernel
theorem dX11_hides_69 : decode mX11_hides.2.1 69 = .ok (.imul, 1) := by decide +kernel
theorem dX11_hides_70 : decode mX11_hides.2.1 70 = .ok (.if_icmp .ne 14, 3) := by decide +kernel
theorem dX11_hides_73 : decode mX11_hides.2.1 73 = .ok (.iload 9, 2) := by decide +kernel
theorem dX11_hides_75 : decode mX11_hides.2.1 75 = .ok (.iload 7, 2) := by decide +kernel
theorem dX11_hides_77 : decode mX11_hides.2.1 77 = .ok (.if_icmp .ge 7, 3) := by decide +kernel
theorem dX11_hides_80 : decode mX11_hides.2.1 80 = .ok (.iconst 1, 1) := by decide +kernel
theorem dX11_hides_81 : decode mX11_hides.2.1 81 = .ok (.goto 4, 3) := by decide +kernel
theorem dX11_hides_84 : decode mX11_hides.2.1 84 = .ok (.iconst 0, 1) := by decide +kernel
theorem dX11_hides_85 : decode mX11_hides.2.1 85 = .ok (.ireturn, 1) := by decide +kernel
theorem dX11_wayOf_0 : decode mX11_wayOf.2.1 0 = .ok (.aload_n 0, 1) := by decide +kernel
theorem dX11_wayOf_1 : decode mX11_wayOf.2.1 1 = .ok (.getfield 147, 3) := by decide +kernel
theorem dX11_wayOf_4 : decode mX11_wayOf.2.1 4 = .ok (.iload_n 2, 1) := by decide +kernel
theorem dX11_wayOf_5 : decode mX11_wayOf.2.1 5 = .ok (.iaload, 1) := by decide +kernel
theorem dX11_wayOf_6 : decode mX11_wayOf.2.1 6 = .ok (.aload_n 0, 1) := by decide +kernel
theorem dX11_wayOf_7 : decode mX11_wayOf.2.1 7 = .ok (.getfield 28, 3) := by decide +kernel
theorem dX11_wayOf_10 : decode mX11_wayOf.2.1 10 = .ok (.iload_n 1, 1) := by decide +kernel
theorem dX11_wayOf_11 : decode mX11_wayOf.2.1 11 = .ok (.iaload, 1) := by decide +kernel
theorem dX11_wayOf_12 : decode mX11_wayOf.2.1 12 = .ok (.isub, 1) := by decide +kernel
theorem dX11_wayOf_13 : decode mX11_wayOf.2.1 13 = .ok (.istore_n 3, 1) := by decide +kernel
theorem dX11_wayOf_14 : decode mX11_wayOf.2.1 14 = .ok (.aload_n 0, 1) := by decide +kernel
theorem dX11_wayOf_15 : decode mX11_wayOf.2.1 15 = .ok (.getfield 150, 3) := by decide +kernel
theorem dX11_wayOf_18 : decode mX11_wayOf.2.1 18 = .ok (.iload_n 2, 1) := by decide +kernel
theorem dX11_wayOf_19 : decode mX11_wayOf.2.1 19 = .ok (.iaload, 1) := by decide +kernel
theorem dX11_wayOf_20 : decode mX11_wayOf.2.1 20 = .ok (.aload_n 0, 1) := by decide +kernel
theorem dX11_wayOf_21 : decode mX11_wayOf.2.1 21 = .ok (.getfield 31, 3) := by decide +kernel
theorem dX11_wayOf_24 : decode mX11_wayOf.2.1 24 = .ok (.iload_n 1, 1) := by decide +kernel
theorem dX11_wayOf_25 : decode mX11_wayOf.2.1 25 = .ok (.iaload, 1) := by decide +kernel
theorem dX11_wayOf_26 : decode mX11_wayOf.2.1 26 = .ok (.isub, 1) := by decide +kernel
theorem dX11_wayOf_27 : decode mX11_wayOf.2.1 27 = .ok (.istore 4, 2) := by decide +kernel
theorem dX11_wayOf_29 : decode mX11_wayOf.2.1 29 = .ok (.iload_n 3, 1) := by decide +kernel
theorem dX11_wayOf_30 : decode mX11_wayOf.2.1 30 = .ok (.iload_n 3, 1) := by decide +kernel
theorem dX11_wayOf_31 : decode mX11_wayOf.2.1 31 = .ok (.imul, 1) := by decide +kernel
theorem dX11_wayOf_32 : decode mX11_wayOf.2.1 32 = .ok (.iload 4, 2) := by decide +kernel
theorem dX11_wayOf_34 : decode mX11_wayOf.2.1 34 = .ok (.iload 4, 2) := by decide +kernel
theorem dX11_wayOf_36 : decode mX11_wayOf.2.1 36 = .ok (.imul, 1) := by decide +kernel
theorem dX11_wayOf_37 : decode mX11_wayOf.2.1 37 = .ok (.iadd, 1) := by decide +kernel
theorem dX11_wayOf_38 : decode mX11_wayOf.2.1 38 = .ok (.ireturn, 1) := by decide +kernel
theorem dX11_meets_0 : decode mX11_meets.2.1 0 = .ok (.iconst 0, 1) := by decide +kernel
theorem dX11_meets_1 : decode mX11_meets.2.1 1 = .ok (.istore_n 3, 1) := by decide +kernel
theorem dX11_meets_2 : decode mX11_meets.2.1 2 = .ok (.iload_n 3, 1) := by decide +kernel
theorem dX11_meets_3 : decode mX11_meets.2.1 3 = .ok (.iload_n 1, 1) := by decide +kernel
theorem dX11_meets_4 : decode mX11_meets.2.1 4 = .ok (.if_icmp .ge 39, 3) := by decide +kernel
theorem dX11_meets_7 : decode mX11_meets.2.1 7 = .ok (.iload_n 3, 1) := by decide +kernel
theorem dX11_meets_8 : decode mX11_meets.2.1 8 = .ok (.iconst 1, 1) := by decide +kernel
theorem dX11_meets_9 : decode mX11_meets.2.1 9 = .ok (.iadd, 1) := by decide +kernel
theorem dX11_meets_10 : decode mX11_meets.2.1 10 = .ok (.istore 4, 2) := by decide +kernel
theorem dX11_meets_12 : decode mX11_meets.2.1 12 = .ok (.iload 4, 2) := by decide +kernel
theorem dX11_meets_14 : decode mX11_meets.2.1 14 = .ok (.iload_n 1, 1) := by decide +kernel
theorem dX11_meets_15 : decode mX11_meets.2.1 15 = .ok (.if_icmp .ge 22, 3) := by decide +kernel
theorem dX11_meets_18 : decode mX11_meets.2.1 18 = .ok (.aload_n 0, 1) := by decide +kernel
theorem dX11_meets_19 : decode mX11_meets.2.1 19 = .ok (.iload_n 3, 1) := by decide +kernel
theorem dX11_meets_20 : decode mX11_meets.2.1 20 = .ok (.iload 4, 2) := by decide +kernel
theorem dX11_meets_22 : decode mX11_meets.2.1 22 = .ok (.iload_n 2, 1) := by decide +kernel
theorem dX11_meets_23 : decode mX11_meets.2.1 23 = .ok (.invokevirtual 471, 3) := by decide +kernel
theorem dX11_meets_26 : decode mX11_meets.2.1 26 = .ok (.ifCond .eq 5, 3) := by decide +kernel
theorem dX11_meets_29 : decode mX11_meets.2.1 29 = .ok (.iconst 1, 1) := by decide +kernel
theorem dX11_meets_30 : decode mX11_meets.2.1 30 = .ok (.ireturn, 1) := by decide +kernel
theorem dX11_meets_31 : decode mX11_meets.2.1 31 = .ok (.iinc 4 1, 3) := by decide +kernel
theorem dX11_meets_34 : decode mX11_meets.2.1 34 = .ok (.goto (-22), 3) := by decide +kernel
theorem dX11_meets_37 : decode mX11_meets.2.1 37 = .ok (.iinc 3 1, 3) := by decide +kernel
theorem dX11_meets_40 : decode mX11_meets.2.1 40 = .ok (.goto (-38), 3) := by decide +kernel
theorem dX11_meets_43 : decode mX11_meets.2.1 43 = .ok (.iconst 0, 1) := by decide +kernel
theorem dX11_meets_44 : decode mX11_meets.2.1 44 = .ok (.ireturn, 1) := by decide +kernel
theorem dX11_meetTwo_0 : decode mX11_meetTwo.2.1 0 = .ok (.aload_n 0, 1) := by decide +kernel
theorem dX11_meetTwo_1 : decode mX11_meetTwo.2.1 1 = .ok (.getfield 28, 3) := by decide +kernel
theorem dX11_meetTwo_4 : decode mX11_meetTwo.2.1 4 = .ok (.iload_n 1, 1) := by decide +kernel
theorem dX11_meetTwo_5 : decode mX11_meetTwo.2.1 5 = .ok (.iaload, 1) := by decide +kernel
theorem dX11_meetTwo_6 : decode mX11_meetTwo.2.1 6 = .ok (.istore 4, 2) := by decide +kernel
theorem dX11_meetTwo_8 : decode mX11_meetTwo.2.1 8 = .ok (.aload_n 0, 1) := by decide +kernel
theorem dX11_meetTwo_9 : decode mX11_meetTwo.2.1 9 = .ok (.getfield 31, 3) := by decide +kernel
theorem dX11_meetTwo_12 : decode mX11_meetTwo.2.1 12 = .ok (.iload_n 1, 1) := by decide +kernel
theorem dX11_meetTwo_13 : decode mX11_meetTwo.2.1 13 = .ok (.iaload, 1) := by decide +kernel
theorem dX11_meetTwo_14 : decode mX11_meetTwo.2.1 14 = .ok (.istore 5, 2) := by decide +kernel
theorem dX11_meetTwo_16 : decode mX11_meetTwo.2.1 16 = .ok (.aload_n 0, 1) := by decide +kernel
theorem dX11_meetTwo_17 : decode mX11_meetTwo.2.1 17 = .ok (.getfield 28, 3) := by decide +kernel
theorem dX11_meetTwo_20 : decode mX11_meetTwo.2.1 20 = .ok (.iload_n 2, 1) := by decide +kernel
theorem dX11_meetTwo_21 : decode mX11_meetTwo.2.1 21 = .ok (.iaload, 1) := by decide +kernel
theorem dX11_meetTwo_22 : decode mX11_meetTwo.2.1 22 = .ok (.istore 6, 2) := by decide +kernel
theorem dX11_meetTwo_24 : decode mX11_meetTwo.2.1 24 = .ok (.aload_n 0, 1) := by decide +kernel
theorem dX11_meetTwo_25 : decode mX11_meetTwo.2.1 25 = .ok (.getfield 31, 3) := by decide +kernel
theorem dX11_meetTwo_28 : decode mX11_meetTwo.2.1 28 = .ok (.iload_n 2, 1) := by decide +kernel
theorem dX11_meetTwo_29 : decode mX11_meetTwo.2.1 29 = .ok (.iaload, 1) := by decide +kernel
theorem dX11_meetTwo_30 : decode mX11_meetTwo.2.1 30 = .ok (.istore 7, 2) := by decide +kernel
theorem dX11_meetTwo_32 : decode mX11_meetTwo.2.1 32 = .ok (.iload 4, 2) := by decide +kernel
theorem dX11_meetTwo_34 : decode mX11_meetTwo.2.1 34 = .ok (.iload 6, 2) := by decide +kernel
theorem dX11_meetTwo_36 : decode mX11_meetTwo.2.1 36 = .ok (.if_icmp .ne 12, 3) := by decide +kernel
theorem dX11_meetTwo_39 : decode mX11_meetTwo.2.1 39 = .ok (.iload 5, 2) := by decide +kernel
theorem dX11_meetTwo_41 : decode mX11_meetTwo.2.1 41 = .ok (.iload 7, 2) := by decide +kernel
theorem dX11_meetTwo_43 : decode mX11_meetTwo.2.1 43 = .ok (.if_icmp .ne 5, 3) := by decide +kernel
theorem dX11_meetTwo_46 : decode mX11_meetTwo.2.1 46 = .ok (.iconst 1, 1) := by decide +kernel
theorem dX11_meetTwo_47 : decode mX11_meetTwo.2.1 47 = .ok (.ireturn, 1) := by decide +kernel
theorem dX11_meetTwo_48 : decode mX11_meetTwo.2.1 48 = .ok (.iconst 1, 1) := by decide +kernel
theorem dX11_meetTwo_49 : decode mX11_meetTwo.2.1 49 = .ok (.istore 8, 2) := by decide +kernel
theorem dX11_meetTwo_51 : decode mX11_meetTwo.2.1 51 = .ok (.iload 8, 2) := by decide +kernel
theorem dX11_meetTwo_53 : decode mX11_meetTwo.2.1 53 = .ok (.iload_n 3, 1) := by decide +kernel
theorem dX11_meetTwo_54 : decode mX11_meetTwo.2.1 54 = .ok (.if_icmp .gt 197, 3) := by decide +kernel
theorem dX11_meetTwo_57 : decode mX11_meetTwo.2.1 57 = .ok (.aload_n 0, 1) := by decide +kernel
theorem dX11_meetTwo_58 : decode mX11_meetTwo.2.1 58 = .ok (.getfield 28, 3) := by decide +kernel
theorem dX11_meetTwo_61 : decode mX11_meetTwo.2.1 61 = .ok (.iload_n 1, 1) := by decide +kernel
theorem dX11_meetTwo_62 : decode mX11_meetTwo.2.1 62 = .ok (.iaload, 1) := by decide +kernel
theorem dX11_meetTwo_63 : decode mX11_meetTwo.2.1 63 = .ok (.aload_n 0, 1) := by decide +kernel
theorem dX11_meetTwo_64 : decode mX11_meetTwo.2.1 64 = .ok (.getfield 147, 3) := by decide +kernel
theorem dX11_meetTwo_67 : decode mX11_meetTwo.2.1 67 = .ok (.aload_n 0, 1) := by decide +kernel
theorem dX11_meetTwo_68 : decode mX11_meetTwo.2.1 68 = .ok (.getfield 153, 3) := by decide +kernel
theorem dX11_meetTwo_71 : decode mX11_meetTwo.2.1 71 = .ok (.iload_n 1, 1) := by decide +kernel
theorem dX11_meetTwo_72 : decode mX11_meetTwo.2.1 72 = .ok (.iaload, 1) := by decide +kernel
theorem dX11_meetTwo_73 : decode mX11_meetTwo.2.1 73 = .ok (.iaload, 1) := by decide +kernel
theorem dX11_meetTwo_74 : decode mX11_meetTwo.2.1 74 = .ok (.aload_n 0, 1) := by decide +kernel
theorem dX11_meetTwo_75 : decode mX11_meetTwo.2.1 75 = .ok (.getfield 28, 3) := by decide +kernel
theorem dX11_meetTwo_78 : decode mX11_meetTwo.2.1 78 = .ok (.iload_n 1, 1) := by decide +kernel
theorem dX11_meetTwo_79 : decode mX11_meetTwo.2.1 79 = .ok (.iaload, 1) := by decide +kernel
theorem dX11_meetTwo_80 : decode mX11_meetTwo.2.1 80 = .ok (.isub, 1) := by decide +kernel
theorem dX11_meetTwo_81 : decode mX11_meetTwo.2.1 81 = .ok (.iload 8, 2) := by decide +kernel
theorem dX11_meetTwo_83 : decode mX11_meetTwo.2.1 83 = .ok (.iload_n 3, 1) := by decide +kernel
theorem dX11_meetTwo_84 : decode mX11_meetTwo.2.1 84 = .ok (.invokestatic 424, 3) := by decide +kernel
theorem dX11_meetTwo_87 : decode mX11_meetTwo.2.1 87 = .ok (.istore 9, 2) := by decide +kernel
theorem dX11_meetTwo_89 : decode mX11_meetTwo.2.1 89 = .ok (.aload_n 0, 1) := by decide +kernel
theorem dX11_meetTwo_90 : decode mX11_meetTwo.2.1 90 = .ok (.getfield 31, 3) := by decide +kernel
theorem dX11_meetTwo_93 : decode mX11_meetTwo.2.1 93 = .ok (.iload_n 1, 1) := by decide +kernel
theorem dX11_meetTwo_94 : decode mX11_meetTwo.2.1 94 = .ok (.iaload, 1) := by decide +kernel
theorem dX11_meetTwo_95 : decode mX11_meetTwo.2.1 95 = .ok (.aload_n 0, 1) := by decide +kernel
theorem dX11_meetTwo_96 : decode mX11_meetTwo.2.1 96 = .ok (.getfield 150, 3) := by decide +kernel
theorem dX11_meetTwo_99 : decode mX11_meetTwo.2.1 99 = .ok (.aload_n 0, 1) := by decide +kernel
theorem dX11_meetTwo_100 : decode mX11_meetTwo.2.1 100 = .ok (.getfield 153, 3) := by decide +kernel
theorem dX11_meetTwo_103 : decode mX11_meetTwo.2.1 103 = .ok (.iload_n 1, 1) := by decide +kernel
theorem dX11_meetTwo_104 : decode mX11_meetTwo.2.1 104 = .ok (.iaload, 1) := by decide +kernel
theorem dX11_meetTwo_105 : decode mX11_meetTwo.2.1 105 = .ok (.iaload, 1) := by decide +kernel
theorem dX11_meetTwo_106 : decode mX11_meetTwo.2.1 106 = .ok (.aload_n 0, 1) := by decide +kernel
theorem dX11_meetTwo_107 : decode mX11_meetTwo.2.1 107 = .ok (.getfield 31, 3) := by decide +kernel
theorem dX11_meetTwo_110 : decode mX11_meetTwo.2.1 110 = .ok (.iload_n 1, 1) := by decide +kernel
theorem dX11_meetTwo_111 : decode mX11_meetTwo.2.1 111 = .ok (.iaload, 1) := by decide +kernel
theorem dX11_meetTwo_112 : decode mX11_meetTwo.2.1 112 = .ok (.isub, 1) := by decide +kernel
theorem dX11_meetTwo_113 : decode mX11_meetTwo.2.1 113 = .ok (.iload 8, 2) := by decide +kernel
theorem dX11_meetTwo_115 : decode mX11_meetTwo.2.1 115 = .ok (.iload_n 3, 1) := by decide +kernel
theorem dX11_meetTwo_116 : decode mX11_meetTwo.2.1 116 = .ok (.invokestatic 424, 3) := by decide +kernel
theorem dX11_meetTwo_119 : decode mX11_meetTwo.2.1 119 = .ok (.istore 10, 2) := by decide +kernel
theorem dX11_meetTwo_121 : decode mX11_meetTwo.2.1 121 = .ok (.aload_n 0, 1) := by decide +kernel
theorem dX11_meetTwo_122 : decode mX11_meetTwo.2.1 122 = .ok (.getfield 28, 3) := by decide +kernel
theorem dX11_meetTwo_125 : decode mX11_meetTwo.2.1 125 = .ok (.iload_n 2, 1) := by decide +kernel
theorem dX11_meetTwo_126 : decode mX11_meetTwo.2.1 126 = .ok (.iaload, 1) := by decide +kernel
theorem dX11_meetTwo_127 : decode mX11_meetTwo.2.1 127 = .ok (.aload_n 0, 1) := by decide +kernel
theorem dX11_meetTwo_128 : decode mX11_meetTwo.2.1 128 = .ok (.getfield 147, 3) := by decide +kernel
theorem dX11_meetTwo_131 : decode mX11_meetTwo.2.1 131 = .ok (.aload_n 0, 1) := by decide +kernel
theorem dX11_meetTwo_132 : decode mX11_meetTwo.2.1 132 = .ok (.getfield 153, 3) := by decide +kernel
theorem dX11_meetTwo_135 : decode mX11_meetTwo.2.1 135 = .ok (.iload_n 2, 1) := by decide +kernel
theorem dX11_meetTwo_136 : decode mX11_meetTwo.2.1 136 = .ok (.iaload, 1) := by decide +kernel
theorem dX11_meetTwo_137 : decode mX11_meetTwo.2.1 137 = .ok (.iaload, 1) := by decide +kernel
theorem dX11_meetTwo_138 : decode mX11_meetTwo.2.1 138 = .ok (.aload_n 0, 1) := by decide +kernel
theorem dX11_meetTwo_139 : decode mX11_meetTwo.2.1 139 = .ok (.getfield 28, 3) := by decide +kernel
theorem dX11_meetTwo_142 : decode mX11_meetTwo.2.1 142 = .ok (.iload_n 2, 1) := by decide +kernel
theorem dX11_meetTwo_143 : decode mX11_meetTwo.2.1 143 = .ok (.iaload, 1) := by decide +kernel
theorem dX11_meetTwo_144 : decode mX11_meetTwo.2.1 144 = .ok (.isub, 1) := by decide +kernel
theorem dX11_meetTwo_145 : decode mX11_meetTwo.2.1 145 = .ok (.iload 8, 2) := by decide +kernel
theorem dX11_meetTwo_147 : decode mX11_meetTwo.2.1 147 = .ok (.iload_n 3, 1) := by decide +kernel
theorem dX11_meetTwo_148 : decode mX11_meetTwo.2.1 148 = .ok (.invokestatic 424, 3) := by decide +kernel
theorem dX11_meetTwo_151 : decode mX11_meetTwo.2.1 151 = .ok (.istore 11, 2) := by decide +kernel
theorem dX11_meetTwo_153 : decode mX11_meetTwo.2.1 153 = .ok (.aload_n 0, 1) := by decide +kernel
theorem dX11_meetTwo_154 : decode mX11_meetTwo.2.1 154 = .ok (.getfield 31, 3) := by decide +kernel
theorem dX11_meetTwo_157 : decode mX11_meetTwo.2.1 157 = .ok (.iload_n 2, 1) := by decide +kernel
theorem dX11_meetTwo_158 : decode mX11_meetTwo.2.1 158 = .ok (.iaload, 1) := by decide +kernel
theorem dX11_meetTwo_159 : decode mX11_meetTwo.2.1 159 = .ok (.aload_n 0, 1) := by decide +kernel
theorem dX11_meetTwo_160 : decode mX11_meetTwo.2.1 160 = .ok (.getfield 150, 3) := by decide +kernel
theorem dX11_meetTwo_163 : decode mX11_meetTwo.2.1 163 = .ok (.aload_n 0, 1) := by decide +kernel
theorem dX11_meetTwo_164 : decode mX11_meetTwo.2.1 164 = .ok (.getfield 153, 3) := by decide +kernel
theorem dX11_meetTwo_167 : decode mX11_meetTwo.2.1 167 = .ok (.iload_n 2, 1) := by decide +kernel
theorem dX11_meetTwo_168 : decode mX11_meetTwo.2.1 168 = .ok (.iaload, 1) := by decide +kernel
theorem dX11_meetTwo_169 : decode mX11_meetTwo.2.1 169 = .ok (.iaload, 1) := by decide +kernel
theorem dX11_meetTwo_170 : decode mX11_meetTwo.2.1 170 = .ok (.aload_n 0, 1) := by decide +kernel
theorem dX11_meetTwo_171 : decode mX11_meetTwo.2.1 171 = .ok (.getfield 31, 3) := by decide +kernel
theorem dX11_meetTwo_174 : decode mX11_meetTwo.2.1 174 = .ok (.iload_n 2, 1) := by decide +kernel
theorem dX11_meetTwo_175 : decode mX11_meetTwo.2.1 175 = .ok (.iaload, 1) := by decide +kernel
theorem dX11_meetTwo_176 : decode mX11_meetTwo.2.1 176 = .ok (.isub, 1) := by decide +kernel
theorem dX11_meetTwo_177 : decode mX11_meetTwo.2.1 177 = .ok (.iload 8, 2) := by decide +kernel
theorem dX11_meetTwo_179 : decode mX11_meetTwo.2.1 179 = .ok (.iload_n 3, 1) := by decide +kernel
theorem dX11_meetTwo_180 : decode mX11_meetTwo.2.1 180 = .ok (.invokestatic 424, 3) := by decide +kernel
theorem dX11_meetTwo_183 : decode mX11_meetTwo.2.1 183 = .ok (.istore 12, 2) := by decide +kernel
theorem dX11_meetTwo_185 : decode mX11_meetTwo.2.1 185 = .ok (.iload 9, 2) := by decide +kernel
theorem dX11_meetTwo_187 : decode mX11_meetTwo.2.1 187 = .ok (.iload 11, 2) := by decide +kernel
theorem dX11_meetTwo_189 : decode mX11_meetTwo.2.1 189 = .ok (.if_icmp .ne 10, 3) := by decide +kernel
theorem dX11_meetTwo_192 : decode mX11_meetTwo.2.1 192 = .ok (.iload 10, 2) := by decide +kernel
theorem dX11_meetTwo_194 : decode mX11_meetTwo.2.1 194 = .ok (.iload 12, 2) := by decide +kernel
theorem dX11_meetTwo_196 : decode mX11_meetTwo.2.1 196 = .ok (.if_icmp .eq 31, 3) := by decide +kernel
theorem dX11_meetTwo_199 : decode mX11_meetTwo.2.1 199 = .ok (.iload 9, 2) := by decide +kernel
theorem dX11_meetTwo_201 : decode mX11_meetTwo.2.1 201 = .ok (.iload 6, 2) := by decide +kernel
theorem dX11_meetTwo_203 : decode mX11_meetTwo.2.1 203 = .ok (.if_icmp .ne 26, 3) := by decide +kernel
theorem dX11_meetTwo_206 : decode mX11_meetTwo.2.1 206 = .ok (.iload 10, 2) := by decide +kernel
theorem dX11_meetTwo_208 : decode mX11_meetTwo.2.1 208 = .ok (.iload 7, 2) := by decide +kernel
theorem dX11_meetTwo_210 : decode mX11_meetTwo.2.1 210 = .ok (.if_icmp .ne 19, 3) := by decide +kernel
theorem dX11_meetTwo_213 : decode mX11_meetTwo.2.1 213 = .ok (.iload 11, 2) := by decide +kernel
theorem dX11_meetTwo_215 : decode mX11_meetTwo.2.1 215 = .ok (.iload 4, 2) := by decide +kernel
theorem dX11_meetTwo_217 : decode mX11_meetTwo.2.1 217 = .ok (.if_icmp .ne 12, 3) := by decide +kernel
theorem dX11_meetTwo_220 : decode mX11_meetTwo.2.1 220 = .ok (.iload 12, 2) := by decide +kernel
theorem dX11_meetTwo_222 : decode mX11_meetTwo.2.1 222 = .ok (.iload 5, 2) := by decide +kernel
theorem dX11_meetTwo_224 : decode mX11_meetTwo.2.1 224 = .ok (.if_icmp .ne 5, 3) := by decide +kernel
theorem dX11_meetTwo_227 : decode mX11_meetTwo.2.1 227 = .ok (.iconst 1, 1) := by decide +kernel
theorem dX11_meetTwo_228 : decode mX11_meetTwo.2.1 228 = .ok (.ireturn, 1) := by decide +kernel
theorem dX11_meetTwo_229 : decode mX11_meetTwo.2.1 229 = .ok (.iload 9, 2) := by decide +kernel
theorem dX11_meetTwo_231 : decode mX11_meetTwo.2.1 231 = .ok (.istore 4, 2) := by decide +kernel
theorem dX11_meetTwo_233 : decode mX11_meetTwo.2.1 233 = .ok (.iload 10, 2) := by decide +kernel
theorem dX11_meetTwo_235 : decode mX11_meetTwo.2.1 235 = .ok (.istore 5, 2) := by decide +kernel
theorem dX11_meetTwo_237 : decode mX11_meetTwo.2.1 237 = .ok (.iload 11, 2) := by decide +kernel
theorem dX11_meetTwo_239 : decode mX11_meetTwo.2.1 239 = .ok (.istore 6, 2) := by decide +kernel
theorem dX11_meetTwo_241 : decode mX11_meetTwo.2.1 241 = .ok (.iload 12, 2) := by decide +kernel
theorem dX11_meetTwo_243 : decode mX11_meetTwo.2.1 243 = .ok (.istore 7, 2) := by decide +kernel
theorem dX11_meetTwo_245 : decode mX11_meetTwo.2.1 245 = .ok (.iinc 8 1, 3) := by decide +kernel
theorem dX11_meetTwo_248 : decode mX11_meetTwo.2.1 248 = .ok (.goto (-197), 3) := by decide +kernel
theorem dX11_meetTwo_251 : decode mX11_meetTwo.2.1 251 = .ok (.iconst 0, 1) := by decide +kernel
theorem dX11_meetTwo_252 : decode mX11_meetTwo.2.1 252 = .ok (.ireturn, 1) := by decide +kernel
theorem dX11_tries_0 : decode mX11_tries.2.1 0 = .ok (.iload_n 1, 1) := by decide +kernel
theorem dX11_tries_1 : decode mX11_tries.2.1 1 = .ok (.iload_n 2, 1) := by decide +kernel
theorem dX11_tries_2 : decode mX11_tries.2.1 2 = .ok (.if_icmp .ne 89, 3) := by decide +kernel
theorem dX11_tries_5 : decode mX11_tries.2.1 5 = .ok (.aload_n 0, 1) := by decide +kernel
theorem dX11_tries_6 : decode mX11_tries.2.1 6 = .ok (.getfield 474, 3) := by decide +kernel
theorem dX11_tries_9 : decode mX11_tries.2.1 9 = .ok (.ifCond .lt 30, 3) := by decide +kernel
theorem dX11_tries_12 : decode mX11_tries.2.1 12 = .ok (.iload 5, 2) := by decide +kernel
theorem dX11_tries_14 : decode mX11_tries.2.1 14 = .ok (.aload_n 0, 1) := by decide +kernel
theorem dX11_tries_15 : decode mX11_tries.2.1 15 = .ok (.getfield 474, 3) := by decide +kernel
theorem dX11_tries_18 : decode mX11_tries.2.1 18 = .ok (.if_icmp .gt 30, 3) := by decide +kernel
theorem dX11_tries_21 : decode mX11_tries.2.1 21 = .ok (.iload 5, 2) := by decide +kernel
theorem dX11_tries_23 : decode mX11_tries.2.1 23 = .ok (.aload_n 0, 1) := by decide +kernel
theorem dX11_tries_24 : decode mX11_tries.2.1 24 = .ok (.getfield 474, 3) := by decide +kernel
theorem dX11_tries_27 : decode mX11_tries.2.1 27 = .ok (.if_icmp .ne 12, 3) := by decide +kernel
theorem dX11_tries_30 : decode mX11_tries.2.1 30 = .ok (.iload 6, 2) := by decide +kernel
theorem dX11_tries_32 : decode mX11_tries.2.1 32 = .ok (.aload_n 0, 1) := by decide +kernel
theorem dX11_tries_33 : decode mX11_tries.2.1 33 = .ok (.getfield 477, 3) := by decide +kernel
theorem dX11_tries_36 : decode mX11_tries.2.1 36 = .ok (.if_icmp .ge 12, 3) := by decide +kernel
theorem dX11_tries_39 : decode mX11_tries.2.1 39 = .ok (.aload_n 0, 1) := by decide +kernel
theorem dX11_tries_40 : decode mX11_tries.2.1 40 = .ok (.iload_n 2, 1) := by decide +kernel
theorem dX11_tries_41 : decode mX11_tries.2.1 41 = .ok (.iload_n 3, 1) := by decide +kernel
theorem dX11_tries_42 : decode mX11_tries.2.1 42 = .ok (.invokevirtual 480, 3) := by decide +kernel
theorem dX11_tries_45 : decode mX11_tries.2.1 45 = .ok (.ifCond .eq 4, 3) := by decide +kernel
theorem dX11_tries_48 : decode mX11_tries.2.1 48 = .ok (.return_, 1) := by decide +kernel
theorem dX11_tries_49 : decode mX11_tries.2.1 49 = .ok (.aload_n 0, 1) := by decide +kernel
theorem dX11_tries_50 : decode mX11_tries.2.1 50 = .ok (.iload 5, 2) := by decide +kernel
theorem dX11_tries_52 : decode mX11_tries.2.1 52 = .ok (.putfield 474, 3) := by decide +kernel
theorem dX11_tries_55 : decode mX11_tries.2.1 55 = .ok (.aload_n 0, 1) := by decide +kernel
theorem dX11_tries_56 : decode mX11_tries.2.1 56 = .ok (.iload 6, 2) := by decide +kernel
theorem dX11_tries_58 : decode mX11_tries.2.1 58 = .ok (.putfield 477, 3) := by decide +kernel
theorem dX11_tries_61 : decode mX11_tries.2.1 61 = .ok (.iconst 0, 1) := by decide +kernel
theorem dX11_tries_62 : decode mX11_tries.2.1 62 = .ok (.istore 7, 2) := by decide +kernel
theorem dX11_tries_64 : decode mX11_tries.2.1 64 = .ok (.iload 7, 2) := by decide +kernel
theorem dX11_tries_66 : decode mX11_tries.2.1 66 = .ok (.iload_n 2, 1) := by decide +kernel
theorem dX11_tries_67 : decode mX11_tries.2.1 67 = .ok (.if_icmp .ge 23, 3) := by decide +kernel
theorem dX11_tries_70 : decode mX11_tries.2.1 70 = .ok (.aload_n 0, 1) := by decide +kernel
theorem dX11_tries_71 : decode mX11_tries.2.1 71 = .ok (.getfield 156, 3) := by decide +kernel
theorem dX11_tries_74 : decode mX11_tries.2.1 74 = .ok (.iload 7, 2) := by decide +kernel
theorem dX11_tries_76 : decode mX11_tries.2.1 76 = .ok (.aload_n 0, 1) := by decide +kernel
theorem dX11_tries_77 : decode mX11_tries.2.1 77 = .ok (.getfield 153, 3) := by decide +kernel
theorem dX11_tries_80 : decode mX11_tries.2.1 80 = .ok (.iload 7, 2) := by decide +kernel
theorem dX11_tries_82 : decode mX11_tries.2.1 82 = .ok (.iaload, 1) := by decide +kernel
theorem dX11_tries_83 : decode mX11_tries.2.1 83 = .ok (.iastore, 1) := by decide +kernel
theorem dX11_tries_84 : decode mX11_tries.2.1 84 = .ok (.iinc 7 1, 3) := by decide +kernel
theorem dX11_tries_87 : decode mX11_tries.2.1 87 = .ok (.goto (-23), 3) := by decide +kernel
theorem dX11_tries_90 : decode mX11_tries.2.1 90 = .ok (.return_, 1) := by decide +kernel
theorem dX11_tries_91 : decode mX11_tries.2.1 91 = .ok (.iconst 0, 1) := by decide +kernel
theorem dX11_tries_92 : decode mX11_tries.2.1 92 = .ok (.istore 7, 2) := by decide +kernel
theorem dX11_tries_94 : decode mX11_tries.2.1 94 = .ok (.iload 7, 2) := by decide +kernel
theorem dX11_tries_96 : decode mX11_tries.2.1 96 = .ok (.iload_n 2, 1) := by decide +kernel
theorem dX11_tries_97 : decode mX11_tries.2.1 97 = .ok (.if_icmp .ge 69, 3) := by decide +kernel
theorem dX11_tries_100 : decode mX11_tries.2.1 100 = .ok (.iload 4, 2) := by decide +kernel
theorem dX11_tries_102 : decode mX11_tries.2.1 102 = .ok (.iload 7, 2) := by decide +kernel
theorem dX11_tries_104 : decode mX11_tries.2.1 104 = .ok (.ishr, 1) := by decide +kernel
theorem dX11_tries_105 : decode mX11_tries.2.1 105 = .ok (.iconst 1, 1) := by decide +kernel
theorem dX11_tries_106 : decode mX11_tries.2.1 106 = .ok (.iand, 1) := by decide +kernel
theorem dX11_tries_107 : decode mX11_tries.2.1 107 = .ok (.iconst 1, 1) := by decide +kernel
theorem dX11_tries_108 : decode mX11_tries.2.1 108 = .ok (.if_icmp .ne 6, 3) := by decide +kernel
theorem dX11_tries_111 : decode mX11_tries.2.1 111 = .ok (.goto 49, 3) := by decide +kernel
theorem dX11_tries_114 : decode mX11_tries.2.1 114 = .ok (.aload_n 0, 1) := by decide +kernel
theorem dX11_tries_115 : decode mX11_tries.2.1 115 = .ok (.getfield 153, 3) := by decide +kernel
theorem dX11_tries_118 : decode mX11_tries.2.1 118 = .ok (.iload_n 1, 1) := by decide +kernel
theorem dX11_tries_119 : decode mX11_tries.2.1 119 = .ok (.iload 7, 2) := by decide +kernel
theorem dX11_tries_121 : decode mX11_tries.2.1 121 = .ok (.iastore, 1) := by decide +kernel
theorem dX11_tries_122 : decode mX11_tries.2.1 122 = .ok (.aload_n 0, 1) := by decide +kernel
theorem dX11_tries_123 : decode mX11_tries.2.1 123 = .ok (.iload_n 1, 1) := by decide +kernel
theorem dX11_tries_124 : decode mX11_tries.2.1 124 = .ok (.iconst 1, 1) := by decide +kernel
theorem dX11_tries_125 : decode mX11_tries.2.1 125 = .ok (.iadd, 1) := by decide +kernel
theorem dX11_tries_126 : decode mX11_tries.2.1 126 = .ok (.iload_n 2, 1) := by decide +kernel
theorem dX11_tries_127 : decode mX11_tries.2.1 127 = .ok (.iload_n 3, 1) := by decide +kernel
theorem dX11_tries_128 : decode mX11_tries.2.1 128 = .ok (.iload 4, 2) := by decide +kernel
theorem dX11_tries_130 : decode mX11_tries.2.1 130 = .ok (.iconst 1, 1) := by decide +kernel
theorem dX11_tries_131 : decode mX11_tries.2.1 131 = .ok (.iload 7, 2) := by decide +kernel
theorem dX11_tries_133 : decode mX11_tries.2.1 133 = .ok (.ishl, 1) := by decide +kernel
theorem dX11_tries_134 : decode mX11_tries.2.1 134 = .ok (.ior, 1) := by decide +kernel
theorem dX11_tries_135 : decode mX11_tries.2.1 135 = .ok (.iload 5, 2) := by decide +kernel
theorem dX11_tries_137 : decode mX11_tries.2.1 137 = .ok (.aload_n 0, 1) := by decide +kernel
theorem dX11_tries_138 : decode mX11_tries.2.1 138 = .ok (.iload_n 1, 1) := by decide +kernel
theorem dX11_tries_139 : decode mX11_tries.2.1 139 = .ok (.iload 7, 2) := by decide +kernel
theorem dX11_tries_141 : decode mX11_tries.2.1 141 = .ok (.invokevirtual 483, 3) := by decide +kernel
theorem dX11_tries_144 : decode mX11_tries.2.1 144 = .ok (.invokestatic 431, 3) := by decide +kernel
theorem dX11_tries_147 : decode mX11_tries.2.1 147 = .ok (.iload 6, 2) := by decide +kernel
theorem dX11_tries_149 : decode mX11_tries.2.1 149 = .ok (.aload_n 0, 1) := by decide +kernel
theorem dX11_tries_150 : decode mX11_tries.2.1 150 = .ok (.iload_n 1, 1) := by decide +kernel
theorem dX11_tries_151 : decode mX11_tries.2.1 151 = .ok (.iload 7, 2) := by decide +kernel
theorem dX11_tries_153 : decode mX11_tries.2.1 153 = .ok (.invokevirtual 483, 3) := by decide +kernel
theorem dX11_tries_156 : decode mX11_tries.2.1 156 = .ok (.iadd, 1) := by decide +kernel
theorem dX11_tries_157 : decode mX11_tries.2.1 157 = .ok (.invokevirtual 486, 3) := by decide +kernel
theorem dX11_tries_160 : decode mX11_tries.2.1 160 = .ok (.iinc 7 1, 3) := by decide +kernel
theorem dX11_tries_163 : decode mX11_tries.2.1 163 = .ok (.goto (-69), 3) := by decide +kernel
theorem dX11_tries_166 : decode mX11_tries.2.1 166 = .ok (.return_, 1) := by decide +kernel
theorem dX11_goes__0 : decode mX11_goes_.2.1 0 = .ok (.aload_n 0, 1) := by decide +kernel
theorem dX11_goes__1 : decode mX11_goes_.2.1 1 = .ok (.iconst 0, 1) := by decide +kernel
theorem dX11_goes__2 : decode mX11_goes_.2.1 2 = .ok (.putfield 213, 3) := by decide +kernel
theorem dX11_goes__5 : decode mX11_goes_.2.1 5 = .ok (.aload_n 0, 1) := by decide +kernel
theorem dX11_goes__6 : decode mX11_goes_.2.1 6 = .ok (.aload_n 0, 1) := by decide +kernel
theorem dX11_goes__7 : decode mX11_goes_.2.1 7 = .ok (.iload_n 1, 1) := by decide +kernel
theorem dX11_goes__8 : decode mX11_goes_.2.1 8 = .ok (.invokevirtual 231, 3) := by decide +kernel
theorem dX11_goes__11 : decode mX11_goes_.2.1 11 = .ok (.putfield 216, 3) := by decide +kernel
theorem dX11_goes__14 : decode mX11_goes_.2.1 14 = .ok (.aload_n 0, 1) := by decide +kernel
theorem dX11_goes__15 : decode mX11_goes_.2.1 15 = .ok (.getfield 216, 3) := by decide +kernel
theorem dX11_goes__18 : decode mX11_goes_.2.1 18 = .ok (.ifCond .le 5, 3) := by decide +kernel
theorem dX11_goes__21 : decode mX11_goes_.2.1 21 = .ok (.iconst (-1), 1) := by decide +kernel
theorem dX11_goes__22 : decode mX11_goes_.2.1 22 = .ok (.ireturn, 1) := by decide +kernel
theorem dX11_goes__23 : decode mX11_goes_.2.1 23 = .ok (.iload_n 2, 1) := by decide +kernel
theorem dX11_goes__24 : decode mX11_goes_.2.1 24 = .ok (.i2l, 1) := by decide +kernel
theorem dX11_goes__25 : decode mX11_goes_.2.1 25 = .ok (.lconst 1, 1) := by decide +kernel
theorem dX11_goes__26 : decode mX11_goes_.2.1 26 = .ok (.ldc2_w 490, 3) := by decide +kernel
theorem dX11_goes__29 : decode mX11_goes_.2.1 29 = .ok (.invokestatic 221, 3) := by decide +kernel
theorem dX11_goes__32 : decode mX11_goes_.2.1 32 = .ok (.ifCond .eq 23, 3) := by decide +kernel
theorem dX11_goes__35 : decode mX11_goes_.2.1 35 = .ok (.iload_n 2, 1) := by decide +kernel
theorem dX11_goes__36 : decode mX11_goes_.2.1 36 = .ok (.aload_n 0, 1) := by decide +kernel
theorem dX11_goes__37 : decode mX11_goes_.2.1 37 = .ok (.getfield 245, 3) := by decide +kernel
theorem dX11_goes__40 : decode mX11_goes_.2.1 40 = .ok (.if_icmp .gt 15, 3) := by decide +kernel
theorem dX11_goes__43 : decode mX11_goes_.2.1 43 = .ok (.iload_n 3, 1) := by decide +kernel
theorem dX11_goes__44 : decode mX11_goes_.2.1 44 = .ok (.i2l, 1) := by decide +kernel
theorem dX11_goes__45 : decode mX11_goes_.2.1 45 = .ok (.lconst 1, 1) := by decide +kernel
theorem dX11_goes__46 : decode mX11_goes_.2.1 46 = .ok (.ldc2_w 465, 3) := by decide +kernel
theorem dX11_goes__49 : decode mX11_goes_.2.1 49 = .ok (.invokestatic 221, 3) := by decide +kernel
theorem dX11_goes__52 : decode mX11_goes_.2.1 52 = .ok (.ifCond .ne 9, 3) := by decide +kernel
theorem dX11_goes__55 : decode mX11_goes_.2.1 55 = .ok (.aload_n 0, 1) := by decide +kernel
theorem dX11_goes__56 : decode mX11_goes_.2.1 56 = .ok (.iconst 5, 1) := by decide +kernel
theorem dX11_goes__57 : decode mX11_goes_.2.1 57 = .ok (.invokevirtual 254, 3) := by decide +kernel
theorem dX11_goes__60 : decode mX11_goes_.2.1 60 = .ok (.ireturn, 1) := by decide +kernel
theorem dX11_goes__61 : decode mX11_goes_.2.1 61 = .ok (.aload_n 0, 1) := by decide +kernel
theorem dX11_goes__62 : decode mX11_goes_.2.1 62 = .ok (.getfield 17, 3) := by decide +kernel
theorem dX11_goes__65 : decode mX11_goes_.2.1 65 = .ok (.iload_n 1, 1) := by decide +kernel
theorem dX11_goes__66 : decode mX11_goes_.2.1 66 = .ok (.iaload, 1) := by decide +kernel
theorem dX11_goes__67 : decode mX11_goes_.2.1 67 = .ok (.iconst 2, 1) := by decide +kernel
theorem dX11_goes__68 : decode mX11_goes_.2.1 68 = .ok (.iload_n 2, 1) := by decide +kernel
theorem dX11_goes__69 : decode mX11_goes_.2.1 69 = .ok (.imul, 1) := by decide +kernel
theorem dX11_goes__70 : decode mX11_goes_.2.1 70 = .ok (.if_icmp .ge 9, 3) := by decide +kernel
theorem dX11_goes__73 : decode mX11_goes_.2.1 73 = .ok (.aload_n 0, 1) := by decide +kernel
theorem dX11_goes__74 : decode mX11_goes_.2.1 74 = .ok (.iconst 4, 1) := by decide +kernel
theorem dX11_goes__75 : decode mX11_goes_.2.1 75 = .ok (.invokevirtual 254, 3) := by decide +kernel
theorem dX11_goes__78 : decode mX11_goes_.2.1 78 = .ok (.ireturn, 1) := by decide +kernel
theorem dX11_goes__79 : decode mX11_goes_.2.1 79 = .ok (.iconst 0, 1) := by decide +kernel
theorem dX11_goes__80 : decode mX11_goes_.2.1 80 = .ok (.istore 4, 2) := by decide +kernel
theorem dX11_goes__82 : decode mX11_goes_.2.1 82 = .ok (.iload 4, 2) := by decide +kernel
theorem dX11_goes__84 : decode mX11_goes_.2.1 84 = .ok (.iload_n 2, 1) := by decide +kernel
theorem dX11_goes__85 : decode mX11_goes_.2.1 85 = .ok (.if_icmp .ge 143, 3) := by decide +kernel
theorem dX11_goes__88 : decode mX11_goes_.2.1 88 = .ok (.aload_n 0, 1) := by decide +kernel
theorem dX11_goes__89 : decode mX11_goes_.2.1 89 = .ok (.getfield 20, 3) := by decide +kernel
theorem dX11_goes__92 : decode mX11_goes_.2.1 92 = .ok (.bipush 40, 2) := by decide +kernel
theorem dX11_goes__94 : decode mX11_goes_.2.1 94 = .ok (.iload_n 1, 1) := by decide +kernel
theorem dX11_goes__95 : decode mX11_goes_.2.1 95 = .ok (.imul, 1) := by decide +kernel
theorem dX11_goes__96 : decode mX11_goes_.2.1 96 = .ok (.iconst 2, 1) := by decide +kernel
theorem dX11_goes__97 : decode mX11_goes_.2.1 97 = .ok (.iload 4, 2) := by decide +kernel
theorem dX11_goes__99 : decode mX11_goes_.2.1 99 = .ok (.imul, 1) := by decide +kernel
theorem dX11_goes__100 : decode mX11_goes_.2.1 100 = .ok (.iadd, 1) := by decide +kernel
theorem dX11_goes__101 : decode mX11_goes_.2.1 101 = .ok (.laload, 1) := by decide +kernel
theorem dX11_goes__102 : decode mX11_goes_.2.1 102 = .ok (.lstore 5, 2) := by decide +kernel
theorem dX11_goes__104 : decode mX11_goes_.2.1 104 = .ok (.aload_n 0, 1) := by decide +kernel
theorem dX11_goes__105 : decode mX11_goes_.2.1 105 = .ok (.getfield 20, 3) := by decide +kernel
theorem dX11_goes__108 : decode mX11_goes_.2.1 108 = .ok (.bipush 40, 2) := by decide +kernel
theorem dX11_goes__110 : decode mX11_goes_.2.1 110 = .ok (.iload_n 1, 1) := by decide +kernel
theorem dX11_goes__111 : decode mX11_goes_.2.1 111 = .ok (.imul, 1) := by decide +kernel
theorem dX11_goes__112 : decode mX11_goes_.2.1 112 = .ok (.iconst 2, 1) := by decide +kernel
theorem dX11_goes__113 : decode mX11_goes_.2.1 113 = .ok (.iload 4, 2) := by decide +kernel
theorem dX11_goes__115 : decode mX11_goes_.2.1 115 = .ok (.imul, 1) := by decide +kernel
theorem dX11_goes__116 : decode mX11_goes_.2.1 116 = .ok (.iadd, 1) := by decide +kernel
theorem dX11_goes__117 : decode mX11_goes_.2.1 117 = .ok (.iconst 1, 1) := by decide +kernel
theorem dX11_goes__118 : decode mX11_goes_.2.1 118 = .ok (.iadd, 1) := by decide +kernel
theorem dX11_goes__119 : decode mX11_goes_.2.1 119 = .ok (.laload, 1) := by decide +kernel
theorem dX11_goes__120 : decode mX11_goes_.2.1 120 = .ok (.lstore 7, 2) := by decide +kernel
theorem dX11_goes__122 : decode mX11_goes_.2.1 122 = .ok (.lload 5, 2) := by decide +kernel
theorem dX11_goes__124 : decode mX11_goes_.2.1 124 = .ok (.lconst 0, 1) := by decide +kernel
theorem dX11_goes__125 : decode mX11_goes_.2.1 125 = .ok (.ldc2_w 219, 3) := by decide +kernel
theorem dX11_goes__128 : decode mX11_goes_.2.1 128 = .ok (.invokestatic 221, 3) := by decide +kernel
theorem dX11_goes__131 : decode mX11_goes_.2.1 131 = .ok (.ifCond .eq 15, 3) := by decide +kernel
theorem dX11_goes__134 : decode mX11_goes_.2.1 134 = .ok (.lload 7, 2) := by decide +kernel
theorem dX11_goes__136 : decode mX11_goes_.2.1 136 = .ok (.lconst 0, 1) := by decide +kernel
theorem dX11_goes__137 : decode mX11_goes_.2.1 137 = .ok (.ldc2_w 225, 3) := by decide +kernel
theorem dX11_goes__140 : decode mX11_goes_.2.1 140 = .ok (.invokestatic 221, 3) := by decide +kernel
theorem dX11_goes__143 : decode mX11_goes_.2.1 143 = .ok (.ifCond .ne 9, 3) := by decide +kernel
theorem dX11_goes__146 : decode mX11_goes_.2.1 146 = .ok (.aload_n 0, 1) := by decide +kernel
theorem dX11_goes__147 : decode mX11_goes_.2.1 147 = .ok (.iconst 5, 1) := by decide +kernel
theorem dX11_goes__148 : decode mX11_goes_.2.1 148 = .ok (.invokevirtual 254, 3) := by decide +kernel
theorem dX11_goes__151 : decode mX11_goes_.2.1 151 = .ok (.ireturn, 1) := by decide +kernel
theorem dX11_goes__152 : decode mX11_goes_.2.1 152 = .ok (.aload_n 0, 1) := by decide +kernel
theorem dX11_goes__153 : decode mX11_goes_.2.1 153 = .ok (.getfield 147, 3) := by decide +kernel
theorem dX11_goes__156 : decode mX11_goes_.2.1 156 = .ok (.iload 4, 2) := by decide +kernel
theorem dX11_goes__158 : decode mX11_goes_.2.1 158 = .ok (.lload 5, 2) := by decide +kernel
theorem dX11_goes__160 : decode mX11_goes_.2.1 160 = .ok (.l2i, 1) := by decide +kernel
theorem dX11_goes__161 : decode mX11_goes_.2.1 161 = .ok (.iastore, 1) := by decide +kernel
theorem dX11_goes__162 : decode mX11_goes_.2.1 162 = .ok (.aload_n 0, 1) := by decide +kernel
theorem dX11_goes__163 : decode mX11_goes_.2.1 163 = .ok (.getfield 150, 3) := by decide +kernel
theorem dX11_goes__166 : decode mX11_goes_.2.1 166 = .ok (.iload 4, 2) := by decide +kernel
theorem dX11_goes__168 : decode mX11_goes_.2.1 168 = .ok (.lload 7, 2) := by decide +kernel
theorem dX11_goes__170 : decode mX11_goes_.2.1 170 = .ok (.l2i, 1) := by decide +kernel
theorem dX11_goes__171 : decode mX11_goes_.2.1 171 = .ok (.iastore, 1) := by decide +kernel
theorem dX11_goes__172 : decode mX11_goes_.2.1 172 = .ok (.iconst 0, 1) := by decide +kernel
theorem dX11_goes__173 : decode mX11_goes_.2.1 173 = .ok (.istore 9, 2) := by decide +kernel
theorem dX11_goes__175 : decode mX11_goes_.2.1 175 = .ok (.iload 9, 2) := by decide +kernel
theorem dX11_goes__177 : decode mX11_goes_.2.1 177 = .ok (.iload 4, 2) := by decide +kernel
theorem dX11_goes__179 : decode mX11_goes_.2.1 179 = .ok (.if_icmp .ge 43, 3) := by decide +kernel
theorem dX11_goes__182 : decode mX11_goes_.2.1 182 = .ok (.aload_n 0, 1) := by decide +kernel
theorem dX11_goes__183 : decode mX11_goes_.2.1 183 = .ok (.getfield 147, 3) := by decide +kernel
theorem dX11_goes__186 : decode mX11_goes_.2.1 186 = .ok (.iload 9, 2) := by decide +kernel
theorem dX11_goes__188 : decode mX11_goes_.2.1 188 = .ok (.iaload, 1) := by decide +kernel
theorem dX11_goes__189 : decode mX11_goes_.2.1 189 = .ok (.i2l, 1) := by decide +kernel
theorem dX11_goes__190 : decode mX11_goes_.2.1 190 = .ok (.lload 5, 2) := by decide +kernel
theorem dX11_goes__192 : decode mX11_goes_.2.1 192 = .ok (.lcmp, 1) := by decide +kernel
theorem dX11_goes__193 : decode mX11_goes_.2.1 193 = .ok (.ifCond .ne 23, 3) := by decide +kernel
theorem dX11_goes__196 : decode mX11_goes_.2.1 196 = .ok (.aload_n 0, 1) := by decide +kernel
theorem dX11_goes__197 : decode mX11_goes_.2.1 197 = .ok (.getfield 150, 3) := by decide +kernel
theorem dX11_goes__200 : decode mX11_goes_.2.1 200 = .ok (.iload 9, 2) := by decide +kernel
theorem dX11_goes__202 : decode mX11_goes_.2.1 202 = .ok (.iaload, 1) := by decide +kernel
theorem dX11_goes__203 : decode mX11_goes_.2.1 203 = .ok (.i2l, 1) := by decide +kernel
theorem dX11_goes__204 : decode mX11_goes_.2.1 204 = .ok (.lload 7, 2) := by decide +kernel
theorem dX11_goes__206 : decode mX11_goes_.2.1 206 = .ok (.lcmp, 1) := by decide +kernel
theorem dX11_goes__207 : decode mX11_goes_.2.1 207 = .ok (.ifCond .ne 9, 3) := by decide +kernel
theorem dX11_goes__210 : decode mX11_goes_.2.1 210 = .ok (.aload_n 0, 1) := by decide +kernel
theorem dX11_goes__211 : decode mX11_goes_.2.1 211 = .ok (.iconst 5, 1) := by decide +kernel
theorem dX11_goes__212 : decode mX11_goes_.2.1 212 = .ok (.invokevirtual 254, 3) := by decide +kernel
theorem dX11_goes__215 : decode mX11_goes_.2.1 215 = .ok (.ireturn, 1) := by decide +kernel
theorem dX11_goes__216 : decode mX11_goes_.2.1 216 = .ok (.iinc 9 1, 3) := by decide +kernel
theorem dX11_goes__219 : decode mX11_goes_.2.1 219 = .ok (.goto (-44), 3) := by decide +kernel
theorem dX11_goes__222 : decode mX11_goes_.2.1 222 = .ok (.iinc 4 1, 3) := by decide +kernel
theorem dX11_goes__225 : decode mX11_goes_.2.1 225 = .ok (.goto (-143), 3) := by decide +kernel
theorem dX11_goes__228 : decode mX11_goes_.2.1 228 = .ok (.aload_n 0, 1) := by decide +kernel
theorem dX11_goes__229 : decode mX11_goes_.2.1 229 = .ok (.iconst (-1), 1) := by decide +kernel
theorem dX11_goes__230 : decode mX11_goes_.2.1 230 = .ok (.putfield 474, 3) := by decide +kernel
theorem dX11_goes__233 : decode mX11_goes_.2.1 233 = .ok (.aload_n 0, 1) := by decide +kernel
theorem dX11_goes__234 : decode mX11_goes_.2.1 234 = .ok (.iconst 0, 1) := by decide +kernel
theorem dX11_goes__235 : decode mX11_goes_.2.1 235 = .ok (.iload_n 2, 1) := by decide +kernel
theorem dX11_goes__236 : decode mX11_goes_.2.1 236 = .ok (.iload_n 3, 1) := by decide +kernel
theorem dX11_goes__237 : decode mX11_goes_.2.1 237 = .ok (.iconst 0, 1) := by decide +kernel
theorem dX11_goes__238 : decode mX11_goes_.2.1 238 = .ok (.iconst 0, 1) := by decide +kernel
theorem dX11_goes__239 : decode mX11_goes_.2.1 239 = .ok (.iconst 0, 1) := by decide +kernel
theorem dX11_goes__240 : decode mX11_goes_.2.1 240 = .ok (.invokevirtual 486, 3) := by decide +kernel
theorem dX11_goes__243 : decode mX11_goes_.2.1 243 = .ok (.aload_n 0, 1) := by decide +kernel
theorem dX11_goes__244 : decode mX11_goes_.2.1 244 = .ok (.getfield 474, 3) := by decide +kernel
theorem dX11_goes__247 : decode mX11_goes_.2.1 247 = .ok (.ifCond .ge 10, 3) := by decide +kernel
theorem dX11_goes__250 : decode mX11_goes_.2.1 250 = .ok (.aload_n 0, 1) := by decide +kernel
theorem dX11_goes__251 : decode mX11_goes_.2.1 251 = .ok (.bipush 8, 2) := by decide +kernel
theorem dX11_goes__253 : decode mX11_goes_.2.1 253 = .ok (.invokevirtual 254, 3) := by decide +kernel
theorem dX11_goes__256 : decode mX11_goes_.2.1 256 = .ok (.ireturn, 1) := by decide +kernel
theorem dX11_goes__257 : decode mX11_goes_.2.1 257 = .ok (.aload_n 0, 1) := by decide +kernel
theorem dX11_goes__258 : decode mX11_goes_.2.1 258 = .ok (.iload_n 2, 1) := by decide +kernel
theorem dX11_goes__259 : decode mX11_goes_.2.1 259 = .ok (.putfield 492, 3) := by decide +kernel
theorem dX11_goes__262 : decode mX11_goes_.2.1 262 = .ok (.aload_n 0, 1) := by decide +kernel
theorem dX11_goes__263 : decode mX11_goes_.2.1 263 = .ok (.aload_n 0, 1) := by decide +kernel
theorem dX11_goes__264 : decode mX11_goes_.2.1 264 = .ok (.getfield 477, 3) := by decide +kernel
theorem dX11_goes__267 : decode mX11_goes_.2.1 267 = .ok (.putfield 495, 3) := by decide +kernel
theorem dX11_goes__270 : decode mX11_goes_.2.1 270 = .ok (.iconst 0, 1) := by decide +kernel
theorem dX11_goes__271 : decode mX11_goes_.2.1 271 = .ok (.istore 4, 2) := by decide +kernel
theorem dX11_goes__273 : decode mX11_goes_.2.1 273 = .ok (.iload 4, 2) := by decide +kernel
theorem dX11_goes__275 : decode mX11_goes_.2.1 275 = .ok (.iload_n 2, 1) := by decide +kernel
theorem dX11_goes__276 : decode mX11_goes_.2.1 276 = .ok (.if_icmp .ge 23, 3) := by decide +kernel
theorem dX11_goes__279 : decode mX11_goes_.2.1 279 = .ok (.aload_n 0, 1) := by decide +kernel
theorem dX11_goes__280 : decode mX11_goes_.2.1 280 = .ok (.getfield 159, 3) := by decide +kernel
theorem dX11_goes__283 : decode mX11_goes_.2.1 283 = .ok (.iload 4, 2) := by decide +kernel
theorem dX11_goes__285 : decode mX11_goes_.2.1 285 = .ok (.aload_n 0, 1) := by decide +kernel
theorem dX11_goes__286 : decode mX11_goes_.2.1 286 = .ok (.getfield 156, 3) := by decide +kernel
theorem dX11_goes__289 : decode mX11_goes_.2.1 289 = .ok (.iload 4, 2) := by decide +kernel
theorem dX11_goes__291 : decode mX11_goes_.2.1 291 = .ok (.iaload, 1) := by decide +kernel
theorem dX11_goes__292 : decode mX11_goes_.2.1 292 = .ok (.iastore, 1) := by decide +kernel
theorem dX11_goes__293 : decode mX11_goes_.2.1 293 = .ok (.iinc 4 1, 3) := by decide +kernel
theorem dX11_goes__296 : decode mX11_goes_.2.1 296 = .ok (.goto (-23), 3) := by decide +kernel
theorem dX11_goes__299 : decode mX11_goes_.2.1 299 = .ok (.aload_n 0, 1) := by decide +kernel
theorem dX11_goes__300 : decode mX11_goes_.2.1 300 = .ok (.getfield 474, 3) := by decide +kernel
theorem dX11_goes__303 : decode mX11_goes_.2.1 303 = .ok (.ireturn, 1) := by decide +kernel
theorem dX11_spotOf_0 : decode mX11_spotOf.2.1 0 = .ok (.aload_n 0, 1) := by decide +kernel
theorem dX11_spotOf_1 : decode mX11_spotOf.2.1 1 = .ok (.iconst 0, 1) := by decide +kernel
theorem dX11_spotOf_2 : decode mX11_spotOf.2.1 2 = .ok (.putfield 213, 3) := by decide +kernel
theorem dX11_spotOf_5 : decode mX11_spotOf.2.1 5 = .ok (.aload_n 0, 1) := by decide +kernel
theorem dX11_spotOf_6 : decode mX11_spotOf.2.1 6 = .ok (.iconst 0, 1) := by decide +kernel
theorem dX11_spotOf_7 : decode mX11_spotOf.2.1 7 = .ok (.putfield 216, 3) := by decide +kernel
theorem dX11_spotOf_10 : decode mX11_spotOf.2.1 10 = .ok (.aload_n 0, 1) := by decide +kernel
theorem dX11_spotOf_11 : decode mX11_spotOf.2.1 11 = .ok (.getfield 492, 3) := by decide +kernel
theorem dX11_spotOf_14 : decode mX11_spotOf.2.1 14 = .ok (.ifCond .eq 24, 3) := by decide +kernel
theorem dX11_spotOf_17 : decode mX11_spotOf.2.1 17 = .ok (.iload_n 1, 1) := by decide +kernel
theorem dX11_spotOf_18 : decode mX11_spotOf.2.1 18 = .ok (.iconst (-1), 1) := by decide +kernel
theorem dX11_spotOf_19 : decode mX11_spotOf.2.1 19 = .ok (.if_icmp .eq 26, 3) := by decide +kernel
theorem dX11_spotOf_22 : decode mX11_spotOf.2.1 22 = .ok (.iload_n 1, 1) := by decide +kernel
theorem dX11_spotOf_23 : decode mX11_spotOf.2.1 23 = .ok (.i2l, 1) := by decide +kernel
theorem dX11_spotOf_24 : decode mX11_spotOf.2.1 24 = .ok (.lconst 0, 1) := by decide +kernel
theorem dX11_spotOf_25 : decode mX11_spotOf.2.1 25 = .ok (.aload_n 0, 1) := by decide +kernel
theorem dX11_spotOf_26 : decode mX11_spotOf.2.1 26 = .ok (.getfield 492, 3) := by decide +kernel
theorem dX11_spotOf_29 : decode mX11_spotOf.2.1 29 = .ok (.iconst 1, 1) := by decide +kernel
theorem dX11_spotOf_30 : decode mX11_spotOf.2.1 30 = .ok (.isub, 1) := by decide +kernel
theorem dX11_spotOf_31 : decode mX11_spotOf.2.1 31 = .ok (.i2l, 1) := by decide +kernel
theorem dX11_spotOf_32 : decode mX11_spotOf.2.1 32 = .ok (.invokestatic 221, 3) := by decide +kernel
theorem dX11_spotOf_35 : decode mX11_spotOf.2.1 35 = .ok (.ifCond .ne 10, 3) := by decide +kernel
theorem dX11_spotOf_38 : decode mX11_spotOf.2.1 38 = .ok (.aload_n 0, 1) := by decide +kernel
theorem dX11_spotOf_39 : decode mX11_spotOf.2.1 39 = .ok (.bipush 8, 2) := by decide +kernel
theorem dX11_spotOf_41 : decode mX11_spotOf.2.1 41 = .ok (.invokevirtual 254, 3) := by decide +kernel
theorem dX11_spotOf_44 : decode mX11_spotOf.2.1 44 = .ok (.ireturn, 1) := by decide +kernel
theorem dX11_spotOf_45 : decode mX11_spotOf.2.1 45 = .ok (.iload_n 1, 1) := by decide +kernel
theorem dX11_spotOf_46 : decode mX11_spotOf.2.1 46 = .ok (.iconst (-1), 1) := by decide +kernel
theorem dX11_spotOf_47 : decode mX11_spotOf.2.1 47 = .ok (.if_icmp .ne 10, 3) := by decide +kernel
theorem dX11_spotOf_50 : decode mX11_spotOf.2.1 50 = .ok (.aload_n 0, 1) := by decide +kernel
theorem dX11_spotOf_51 : decode mX11_spotOf.2.1 51 = .ok (.getfield 495, 3) := by decide +kernel
theorem dX11_spotOf_54 : decode mX11_spotOf.2.1 54 = .ok (.goto 9, 3) := by decide +kernel
theorem dX11_spotOf_57 : decode mX11_spotOf.2.1 57 = .ok (.aload_n 0, 1) := by decide +kernel
theorem dX11_spotOf_58 : decode mX11_spotOf.2.1 58 = .ok (.getfield 159, 3) := by decide +kernel
theorem dX11_spotOf_61 : decode mX11_spotOf.2.1 61 = .ok (.iload_n 1, 1) := by decide +kernel
theorem dX11_spotOf_62 : decode mX11_spotOf.2.1 62 = .ok (.iaload, 1) := by decide +kernel
theorem dX11_spotOf_63 : decode mX11_spotOf.2.1 63 = .ok (.ireturn, 1) := by decide +kernel
theorem dX11_isFree_0 : decode mX11_isFree.2.1 0 = .ok (.iload_n 2, 1) := by decide +kernel
theorem dX11_isFree_1 : decode mX11_isFree.2.1 1 = .ok (.iload_n 3, 1) := by decide +kernel
theorem dX11_isFree_2 : decode mX11_isFree.2.1 2 = .ok (.invokestatic 248, 3) := by decide +kernel
theorem dX11_isFree_5 : decode mX11_isFree.2.1 5 = .ok (.ifCond .ne 5, 3) := by decide +kernel
theorem dX11_isFree_8 : decode mX11_isFree.2.1 8 = .ok (.iconst 0, 1) := by decide +kernel
theorem dX11_isFree_9 : decode mX11_isFree.2.1 9 = .ok (.ireturn, 1) := by decide +kernel
theorem dX11_isFree_10 : decode mX11_isFree.2.1 10 = .ok (.iload_n 2, 1) := by decide +kernel
theorem dX11_isFree_11 : decode mX11_isFree.2.1 11 = .ok (.aload_n 0, 1) := by decide +kernel
theorem dX11_isFree_12 : decode mX11_isFree.2.1 12 = .ok (.getfield 28, 3) := by decide +kernel
theorem dX11_isFree_15 : decode mX11_isFree.2.1 15 = .ok (.iload_n 1, 1) := by decide +kernel
theorem dX11_isFree_16 : decode mX11_isFree.2.1 16 = .ok (.iaload, 1) := by decide +kernel
theorem dX11_isFree_17 : decode mX11_isFree.2.1 17 = .ok (.if_icmp .ne 15, 3) := by decide +kernel
theorem dX11_isFree_20 : decode mX11_isFree.2.1 20 = .ok (.iload_n 3, 1) := by decide +kernel
theorem dX11_isFree_21 : decode mX11_isFree.2.1 21 = .ok (.aload_n 0, 1) := by decide +kernel
theorem dX11_isFree_22 : decode mX11_isFree.2.1 22 = .ok (.getfield 31, 3) := by decide +kernel
theorem dX11_isFree_25 : decode mX11_isFree.2.1 25 = .ok (.iload_n 1, 1) := by decide +kernel
theorem dX11_isFree_26 : decode mX11_isFree.2.1 26 = .ok (.iaload, 1) := by decide +kernel
theorem dX11_isFree_27 : decode mX11_isFree.2.1 27 = .ok (.if_icmp .ne 5, 3) := by decide +kernel
