theorem dX5_carryOut_226 : decode cX5_carryOut 226 = .ok (.iload_n 2, 1) := by decide +kernel
theorem dX5_carryOut_227 : decode cX5_carryOut 227 = .ok (.invokevirtual 135, 3) := by decide +kernel
theorem dX5_carryOut_230 : decode cX5_carryOut 230 = .ok (.goto 37, 3) := by decide +kernel
theorem dX5_carryOut_233 : decode cX5_carryOut 233 = .ok (.aload_n 0, 1) := by decide +kernel
theorem dX5_carryOut_234 : decode cX5_carryOut 234 = .ok (.iload_n 2, 1) := by decide +kernel
theorem dX5_carryOut_235 : decode cX5_carryOut 235 = .ok (.invokevirtual 138, 3) := by decide +kernel
theorem dX5_carryOut_238 : decode cX5_carryOut 238 = .ok (.goto 29, 3) := by decide +kernel
theorem dX5_carryOut_241 : decode cX5_carryOut 241 = .ok (.aload_n 0, 1) := by decide +kernel
theorem dX5_carryOut_242 : decode cX5_carryOut 242 = .ok (.iload_n 2, 1) := by decide +kernel
theorem dX5_carryOut_243 : decode cX5_carryOut 243 = .ok (.iload_n 1, 1) := by decide +kernel
theorem dX5_carryOut_244 : decode cX5_carryOut 244 = .ok (.iconst 4, 1) := by decide +kernel
theorem dX5_carryOut_245 : decode cX5_carryOut 245 = .ok (.ishr, 1) := by decide +kernel
theorem dX5_carryOut_246 : decode cX5_carryOut 246 = .ok (.bipush 7, 2) := by decide +kernel
theorem dX5_carryOut_248 : decode cX5_carryOut 248 = .ok (.iand, 1) := by decide +kernel
theorem dX5_carryOut_249 : decode cX5_carryOut 249 = .ok (.iload 4, 2) := by decide +kernel
theorem dX5_carryOut_251 : decode cX5_carryOut 251 = .ok (.invokevirtual 141, 3) := by decide +kernel
theorem dX5_carryOut_254 : decode cX5_carryOut 254 = .ok (.goto 13, 3) := by decide +kernel
theorem dX5_carryOut_257 : decode cX5_carryOut 257 = .ok (.aload_n 0, 1) := by decide +kernel
theorem dX5_carryOut_258 : decode cX5_carryOut 258 = .ok (.iload_n 2, 1) := by decide +kernel
theorem dX5_carryOut_259 : decode cX5_carryOut 259 = .ok (.iload 5, 2) := by decide +kernel
theorem dX5_carryOut_261 : decode cX5_carryOut 261 = .ok (.invokevirtual 145, 3) := by decide +kernel
theorem dX5_carryOut_264 : decode cX5_carryOut 264 = .ok (.goto 3, 3) := by decide +kernel
theorem dX5_carryOut_267 : decode cX5_carryOut 267 = .ok (.return_, 1) := by decide +kernel
set_option maxRecDepth 20000 in
theorem ggX5_fetch_X0_read : GoodIn wsX5_fetch wsX0_read := goodIn_r _ [8, 9, 10, 11, 7, 12, 13, 14, 15, 16, 17, 18, 19, 20, 21, 22, 23, 24, 25, 26, 27, 28, 29, 30, 31, 32, 33, 34, 35, 36, 37, 38, 39, 40, 41, 42, 43, 44, 45, 46, 47, 48, 49, 50, 51, 52, 53, 54, 55, 56, 57, 58, 59, 60, 61, 62, 63, 64, 65, 66, 67, 68, 84, 85, 86, 87, 88, 89, 90, 91, 92, 93, 94, 95, 96, 97, 98, 99, 100, 101, 102, 103] (by decide +kernel) (by decide +kernel)
set_option maxRecDepth 20000 in
theorem gX5_fetch_X0_read : GoodIn wsX5_fetch (wsV RX5 86 RX0 yX0_read wsX0_read) := goodIn_app (goodIn_of _ (by decide +kernel)) ggX5_fetch_X0_read
theorem dX5_fetch_0 : decode cX5_fetch 0 = .ok (.aload_n 0, 1) := by decide +kernel
theorem dX5_fetch_1 : decode cX5_fetch 1 = .ok (.getfield 20, 3) := by decide +kernel
theorem dX5_fetch_4 : decode cX5_fetch 4 = .ok (.aload_n 0, 1) := by decide +kernel
theorem dX5_fetch_5 : decode cX5_fetch 5 = .ok (.getfield 32, 3) := by decide +kernel
theorem dX5_fetch_8 : decode cX5_fetch 8 = .ok (.invokevirtual 86, 3) := by decide +kernel
theorem dX5_fetch_11 : decode cX5_fetch 11 = .ok (.istore_n 1, 1) := by decide +kernel
theorem dX5_fetch_12 : decode cX5_fetch 12 = .ok (.aload_n 0, 1) := by decide +kernel
theorem dX5_fetch_13 : decode cX5_fetch 13 = .ok (.aload_n 0, 1) := by decide +kernel
theorem dX5_fetch_14 : decode cX5_fetch 14 = .ok (.getfield 32, 3) := by decide +kernel
theorem dX5_fetch_17 : decode cX5_fetch 17 = .ok (.iconst 1, 1) := by decide +kernel
theorem dX5_fetch_18 : decode cX5_fetch 18 = .ok (.iadd, 1) := by decide +kernel
theorem dX5_fetch_19 : decode cX5_fetch 19 = .ok (.ldc 148, 2) := by decide +kernel
theorem dX5_fetch_21 : decode cX5_fetch 21 = .ok (.iand, 1) := by decide +kernel
theorem dX5_fetch_22 : decode cX5_fetch 22 = .ok (.putfield 32, 3) := by decide +kernel
theorem dX5_fetch_25 : decode cX5_fetch 25 = .ok (.iload_n 1, 1) := by decide +kernel
theorem dX5_fetch_26 : decode cX5_fetch 26 = .ok (.ireturn, 1) := by decide +kernel
set_option maxRecDepth 20000 in
theorem ggX5_addressOf_X5_indexed : GoodIn wsX5_addressOf wsX5_indexed := goodIn_r _ [7, 8, 9, 80, 81, 82, 83, 84, 85, 86, 87, 88, 89, 90, 91, 92, 93, 94] (by decide +kernel) (by decide +kernel)
set_option maxRecDepth 20000 in
theorem gX5_addressOf_X5_indexed : GoodIn wsX5_addressOf (wsV RX5 155 RX5 yX5_indexed wsX5_indexed) := goodIn_app (goodIn_of _ (by decide +kernel)) ggX5_addressOf_X5_indexed
set_option maxRecDepth 20000 in
theorem ggX5_addressOf_X5_pointerAt : GoodIn wsX5_addressOf wsX5_pointerAt := goodIn_r _ [13, 14, 15, 16, 17, 18, 19, 20, 21, 22, 23, 24, 25, 26, 27, 28, 29, 30, 31, 32, 33, 34, 35, 36, 37, 38, 39, 40, 41, 42, 43, 44, 45, 46, 47, 48, 49, 50, 51, 52, 53, 54, 55, 56, 57, 58, 59, 60, 61, 62, 63, 64, 65, 66, 67, 68, 69, 70, 71, 72, 73, 74, 75, 76, 77, 78, 79, 80, 81, 82, 83, 84, 85, 86, 87, 88, 89, 90, 91, 92, 93, 94, 95, 96, 97, 98, 99, 100, 101, 102, 103, 104, 105, 106, 107, 108, 109, 110, 111, 112, 113, 114] (by decide +kernel) (by decide +kernel)
set_option maxRecDepth 20000 in
theorem gX5_addressOf_X5_pointerAt : GoodIn wsX5_addressOf (wsV RX5 158 RX5 yX5_pointerAt wsX5_pointerAt) := goodIn_app (goodIn_of _ (by decide +kernel)) ggX5_addressOf_X5_pointerAt
theorem dX5_addressOf_0 : decode cX5_addressOf 0 = .ok (.iload_n 1, 1) := by decide +kernel
theorem dX5_addressOf_1 : decode cX5_addressOf 1 = .ok (.tableswitch 138 5 12 #[47, 60, 97, 114, 130, 138, 73, 85], 47) := by decide +kernel
theorem dX5_addressOf_48 : decode cX5_addressOf 48 = .ok (.iload_n 2, 1) := by decide +kernel
theorem dX5_addressOf_49 : decode cX5_addressOf 49 = .ok (.aload_n 0, 1) := by decide +kernel
theorem dX5_addressOf_50 : decode cX5_addressOf 50 = .ok (.getfield 149, 3) := by decide +kernel
theorem dX5_addressOf_53 : decode cX5_addressOf 53 = .ok (.iadd, 1) := by decide +kernel
theorem dX5_addressOf_54 : decode cX5_addressOf 54 = .ok (.sipush 255, 3) := by decide +kernel
theorem dX5_addressOf_57 : decode cX5_addressOf 57 = .ok (.iand, 1) := by decide +kernel
theorem dX5_addressOf_58 : decode cX5_addressOf 58 = .ok (.goto 82, 3) := by decide +kernel
theorem dX5_addressOf_61 : decode cX5_addressOf 61 = .ok (.iload_n 2, 1) := by decide +kernel
theorem dX5_addressOf_62 : decode cX5_addressOf 62 = .ok (.aload_n 0, 1) := by decide +kernel
theorem dX5_addressOf_63 : decode cX5_addressOf 63 = .ok (.getfield 152, 3) := by decide +kernel
theorem dX5_addressOf_66 : decode cX5_addressOf 66 = .ok (.iadd, 1) := by decide +kernel
theorem dX5_addressOf_67 : decode cX5_addressOf 67 = .ok (.sipush 255, 3) := by decide +kernel
theorem dX5_addressOf_70 : decode cX5_addressOf 70 = .ok (.iand, 1) := by decide +kernel
theorem dX5_addressOf_71 : decode cX5_addressOf 71 = .ok (.goto 69, 3) := by decide +kernel
theorem dX5_addressOf_74 : decode cX5_addressOf 74 = .ok (.aload_n 0, 1) := by decide +kernel
theorem dX5_addressOf_75 : decode cX5_addressOf 75 = .ok (.iload_n 2, 1) := by decide +kernel
theorem dX5_addressOf_76 : decode cX5_addressOf 76 = .ok (.aload_n 0, 1) := by decide +kernel
theorem dX5_addressOf_77 : decode cX5_addressOf 77 = .ok (.getfield 149, 3) := by decide +kernel
theorem dX5_addressOf_80 : decode cX5_addressOf 80 = .ok (.invokevirtual 155, 3) := by decide +kernel
theorem dX5_addressOf_83 : decode cX5_addressOf 83 = .ok (.goto 57, 3) := by decide +kernel
theorem dX5_addressOf_86 : decode cX5_addressOf 86 = .ok (.aload_n 0, 1) := by decide +kernel
theorem dX5_addressOf_87 : decode cX5_addressOf 87 = .ok (.iload_n 2, 1) := by decide +kernel
theorem dX5_addressOf_88 : decode cX5_addressOf 88 = .ok (.aload_n 0, 1) := by decide +kernel
theorem dX5_addressOf_89 : decode cX5_addressOf 89 = .ok (.getfield 152, 3) := by decide +kernel
theorem dX5_addressOf_92 : decode cX5_addressOf 92 = .ok (.invokevirtual 155, 3) := by decide +kernel
theorem dX5_addressOf_95 : decode cX5_addressOf 95 = .ok (.goto 45, 3) := by decide +kernel
theorem dX5_addressOf_98 : decode cX5_addressOf 98 = .ok (.aload_n 0, 1) := by decide +kernel
theorem dX5_addressOf_99 : decode cX5_addressOf 99 = .ok (.iload_n 2, 1) := by decide +kernel
theorem dX5_addressOf_100 : decode cX5_addressOf 100 = .ok (.aload_n 0, 1) := by decide +kernel
theorem dX5_addressOf_101 : decode cX5_addressOf 101 = .ok (.getfield 149, 3) := by decide +kernel
theorem dX5_addressOf_104 : decode cX5_addressOf 104 = .ok (.iadd, 1) := by decide +kernel
theorem dX5_addressOf_105 : decode cX5_addressOf 105 = .ok (.sipush 255, 3) := by decide +kernel
theorem dX5_addressOf_108 : decode cX5_addressOf 108 = .ok (.iand, 1) := by decide +kernel
theorem dX5_addressOf_109 : decode cX5_addressOf 109 = .ok (.invokevirtual 158, 3) := by decide +kernel
theorem dX5_addressOf_112 : decode cX5_addressOf 112 = .ok (.goto 28, 3) := by decide +kernel
theorem dX5_addressOf_115 : decode cX5_addressOf 115 = .ok (.aload_n 0, 1) := by decide +kernel
theorem dX5_addressOf_116 : decode cX5_addressOf 116 = .ok (.aload_n 0, 1) := by decide +kernel
theorem dX5_addressOf_117 : decode cX5_addressOf 117 = .ok (.iload_n 2, 1) := by decide +kernel
theorem dX5_addressOf_118 : decode cX5_addressOf 118 = .ok (.invokevirtual 158, 3) := by decide +kernel
theorem dX5_addressOf_121 : decode cX5_addressOf 121 = .ok (.aload_n 0, 1) := by decide +kernel
theorem dX5_addressOf_122 : decode cX5_addressOf 122 = .ok (.getfield 152, 3) := by decide +kernel
theorem dX5_addressOf_125 : decode cX5_addressOf 125 = .ok (.invokevirtual 155, 3) := by decide +kernel
theorem dX5_addressOf_128 : decode cX5_addressOf 128 = .ok (.goto 12, 3) := by decide +kernel
theorem dX5_addressOf_131 : decode cX5_addressOf 131 = .ok (.aload_n 0, 1) := by decide +kernel
theorem dX5_addressOf_132 : decode cX5_addressOf 132 = .ok (.iload_n 2, 1) := by decide +kernel
theorem dX5_addressOf_133 : decode cX5_addressOf 133 = .ok (.invokevirtual 158, 3) := by decide +kernel
theorem dX5_addressOf_136 : decode cX5_addressOf 136 = .ok (.goto 4, 3) := by decide +kernel
theorem dX5_addressOf_139 : decode cX5_addressOf 139 = .ok (.iload_n 2, 1) := by decide +kernel
theorem dX5_addressOf_140 : decode cX5_addressOf 140 = .ok (.ireturn, 1) := by decide +kernel
theorem dX5_indexed_0 : decode cX5_indexed 0 = .ok (.iload_n 1, 1) := by decide +kernel
theorem dX5_indexed_1 : decode cX5_indexed 1 = .ok (.iload_n 2, 1) := by decide +kernel
theorem dX5_indexed_2 : decode cX5_indexed 2 = .ok (.iadd, 1) := by decide +kernel
theorem dX5_indexed_3 : decode cX5_indexed 3 = .ok (.ldc 148, 2) := by decide +kernel
theorem dX5_indexed_5 : decode cX5_indexed 5 = .ok (.iand, 1) := by decide +kernel
theorem dX5_indexed_6 : decode cX5_indexed 6 = .ok (.istore_n 3, 1) := by decide +kernel
theorem dX5_indexed_7 : decode cX5_indexed 7 = .ok (.aload_n 0, 1) := by decide +kernel
theorem dX5_indexed_8 : decode cX5_indexed 8 = .ok (.iload_n 3, 1) := by decide +kernel
theorem dX5_indexed_9 : decode cX5_indexed 9 = .ok (.bipush 8, 2) := by decide +kernel
theorem dX5_indexed_11 : decode cX5_indexed 11 = .ok (.ishr, 1) := by decide +kernel
theorem dX5_indexed_12 : decode cX5_indexed 12 = .ok (.iload_n 1, 1) := by decide +kernel
theorem dX5_indexed_13 : decode cX5_indexed 13 = .ok (.bipush 8, 2) := by decide +kernel
theorem dX5_indexed_15 : decode cX5_indexed 15 = .ok (.ishr, 1) := by decide +kernel
theorem dX5_indexed_16 : decode cX5_indexed 16 = .ok (.if_icmp .eq 7, 3) := by decide +kernel
theorem dX5_indexed_19 : decode cX5_indexed 19 = .ok (.iconst 1, 1) := by decide +kernel
theorem dX5_indexed_20 : decode cX5_indexed 20 = .ok (.goto 4, 3) := by decide +kernel
theorem dX5_indexed_23 : decode cX5_indexed 23 = .ok (.iconst 0, 1) := by decide +kernel
theorem dX5_indexed_24 : decode cX5_indexed 24 = .ok (.putfield 105, 3) := by decide +kernel
theorem dX5_indexed_27 : decode cX5_indexed 27 = .ok (.iload_n 3, 1) := by decide +kernel
theorem dX5_indexed_28 : decode cX5_indexed 28 = .ok (.ireturn, 1) := by decide +kernel
set_option maxRecDepth 20000 in
theorem ggX5_pointerAt_X0_read : GoodIn wsX5_pointerAt wsX0_read := goodIn_r _ [6, 7, 8, 9, 5, 10, 11, 12, 13, 14, 15, 16, 17, 18, 19, 20, 21, 22, 23, 24, 25, 26, 27, 28, 29, 30, 31, 32, 33, 34, 35, 36, 37, 38, 39, 40, 41, 42, 43, 44, 45, 46, 47, 48, 49, 50, 51, 52, 53, 54, 55, 56, 57, 58, 59, 60, 61, 62, 63, 64, 65, 66, 82, 83, 84, 85, 86, 87, 88, 89, 90, 91, 92, 93, 94, 95, 96, 97, 98, 99, 100, 101] (by decide +kernel) (by decide +kernel)
set_option maxRecDepth 20000 in
theorem gX5_pointerAt_X0_read : GoodIn wsX5_pointerAt (wsV RX5 86 RX0 yX0_read wsX0_read) := goodIn_app (goodIn_of _ (by decide +kernel)) ggX5_pointerAt_X0_read
theorem dX5_pointerAt_0 : decode cX5_pointerAt 0 = .ok (.aload_n 0, 1) := by decide +kernel
theorem dX5_pointerAt_1 : decode cX5_pointerAt 1 = .ok (.getfield 20, 3) := by decide +kernel
theorem dX5_pointerAt_4 : decode cX5_pointerAt 4 = .ok (.iload_n 1, 1) := by decide +kernel
theorem dX5_pointerAt_5 : decode cX5_pointerAt 5 = .ok (.invokevirtual 86, 3) := by decide +kernel
theorem dX5_pointerAt_8 : decode cX5_pointerAt 8 = .ok (.istore_n 2, 1) := by decide +kernel
theorem dX5_pointerAt_9 : decode cX5_pointerAt 9 = .ok (.iload_n 2, 1) := by decide +kernel
theorem dX5_pointerAt_10 : decode cX5_pointerAt 10 = .ok (.aload_n 0, 1) := by decide +kernel
theorem dX5_pointerAt_11 : decode cX5_pointerAt 11 = .ok (.getfield 20, 3) := by decide +kernel
theorem dX5_pointerAt_14 : decode cX5_pointerAt 14 = .ok (.iload_n 1, 1) := by decide +kernel
theorem dX5_pointerAt_15 : decode cX5_pointerAt 15 = .ok (.iconst 1, 1) := by decide +kernel
theorem dX5_pointerAt_16 : decode cX5_pointerAt 16 = .ok (.iadd, 1) := by decide +kernel
theorem dX5_pointerAt_17 : decode cX5_pointerAt 17 = .ok (.sipush 255, 3) := by decide +kernel
theorem dX5_pointerAt_20 : decode cX5_pointerAt 20 = .ok (.iand, 1) := by decide +kernel
theorem dX5_pointerAt_21 : decode cX5_pointerAt 21 = .ok (.invokevirtual 86, 3) := by decide +kernel
theorem dX5_pointerAt_24 : decode cX5_pointerAt 24 = .ok (.bipush 8, 2) := by decide +kernel
theorem dX5_pointerAt_26 : decode cX5_pointerAt 26 = .ok (.ishl, 1) := by decide +kernel
theorem dX5_pointerAt_27 : decode cX5_pointerAt 27 = .ok (.ior, 1) := by decide +kernel
theorem dX5_pointerAt_28 : decode cX5_pointerAt 28 = .ok (.ireturn, 1) := by decide +kernel
set_option maxRecDepth 20000 in
theorem ggX5_wordAt_X0_read : GoodIn wsX5_wordAt wsX0_read := goodIn_r _ [7, 8, 9, 10, 6, 11, 12, 13, 14, 15, 16, 17, 18, 19, 20, 21, 22, 23, 24, 25, 26, 27, 28, 29, 30, 31, 32, 33, 34, 35, 36, 37, 38, 39, 40, 41, 42, 43, 44, 45, 46, 47, 48, 49, 50, 51, 52, 53, 54, 55, 56, 57, 58, 59, 60, 61, 62, 63, 64, 65, 66, 67, 83, 84, 85, 86, 87, 88, 89, 90, 91, 92, 93, 94, 95, 96, 97, 98, 99, 100, 101, 102] (by decide +kernel) (by decide +kernel)
set_option maxRecDepth 20000 in
theorem gX5_wordAt_X0_read : GoodIn wsX5_wordAt (wsV RX5 86 RX0 yX0_read wsX0_read) := goodIn_app (goodIn_of _ (by decide +kernel)) ggX5_wordAt_X0_read
theorem dX5_wordAt_0 : decode cX5_wordAt 0 = .ok (.aload_n 0, 1) := by decide +kernel
theorem dX5_wordAt_1 : decode cX5_wordAt 1 = .ok (.getfield 20, 3) := by decide +kernel
theorem dX5_wordAt_4 : decode cX5_wordAt 4 = .ok (.iload_n 1, 1) := by decide +kernel
theorem dX5_wordAt_5 : decode cX5_wordAt 5 = .ok (.invokevirtual 86, 3) := by decide +kernel
theorem dX5_wordAt_8 : decode cX5_wordAt 8 = .ok (.istore_n 2, 1) := by decide +kernel
theorem dX5_wordAt_9 : decode cX5_wordAt 9 = .ok (.iload_n 2, 1) := by decide +kernel
theorem dX5_wordAt_10 : decode cX5_wordAt 10 = .ok (.aload_n 0, 1) := by decide +kernel
theorem dX5_wordAt_11 : decode cX5_wordAt 11 = .ok (.getfield 20, 3) := by decide +kernel
theorem dX5_wordAt_14 : decode cX5_wordAt 14 = .ok (.iload_n 1, 1) := by decide +kernel
theorem dX5_wordAt_15 : decode cX5_wordAt 15 = .ok (.iconst 1, 1) := by decide +kernel
theorem dX5_wordAt_16 : decode cX5_wordAt 16 = .ok (.iadd, 1) := by decide +kernel
theorem dX5_wordAt_17 : decode cX5_wordAt 17 = .ok (.ldc 148, 2) := by decide +kernel
theorem dX5_wordAt_19 : decode cX5_wordAt 19 = .ok (.iand, 1) := by decide +kernel
theorem dX5_wordAt_20 : decode cX5_wordAt 20 = .ok (.invokevirtual 86, 3) := by decide +kernel
theorem dX5_wordAt_23 : decode cX5_wordAt 23 = .ok (.bipush 8, 2) := by decide +kernel
theorem dX5_wordAt_25 : decode cX5_wordAt 25 = .ok (.ishl, 1) := by decide +kernel
theorem dX5_wordAt_26 : decode cX5_wordAt 26 = .ok (.ior, 1) := by decide +kernel
theorem dX5_wordAt_27 : decode cX5_wordAt 27 = .ok (.ireturn, 1) := by decide +kernel
set_option maxRecDepth 20000 in
theorem ggX5_use_X5_shown : GoodIn wsX5_use wsX5_shown := goodIn_r _ [9, 4, 35, 36, 37, 38, 39, 40, 41, 42, 43, 44, 45, 46, 47, 48, 49] (by decide +kernel) (by decide +kernel)
set_option maxRecDepth 20000 in
theorem gX5_use_X5_shown : GoodIn wsX5_use (wsV RX5 164 RX5 yX5_shown wsX5_shown) := goodIn_app (goodIn_of _ (by decide +kernel)) ggX5_use_X5_shown
set_option maxRecDepth 20000 in
theorem ggX5_use_X5_compare : GoodIn wsX5_use wsX5_compare := goodIn_r _ [13, 14, 15, 16, 8, 17, 4, 5, 6, 7, 9, 35, 36, 37, 38, 39, 40, 41, 42, 43, 44, 45, 46, 47, 48, 49] (by decide +kernel) (by decide +kernel)
set_option maxRecDepth 20000 in
theorem gX5_use_X5_compare : GoodIn wsX5_use (wsV RX5 167 RX5 yX5_compare wsX5_compare) := goodIn_app (goodIn_of _ (by decide +kernel)) ggX5_use_X5_compare
set_option maxRecDepth 20000 in
theorem ggX5_use_X5_addDecimal : GoodIn wsX5_use wsX5_addDecimal := goodIn_r _ [21, 1, 4, 22, 23, 24, 25, 8, 26, 14, 15, 16, 17, 5, 6, 7, 9, 35, 36, 37, 38, 39, 40, 41, 42, 43, 44, 45, 46, 47, 48, 49] (by decide +kernel) (by decide +kernel)
set_option maxRecDepth 20000 in
theorem gX5_use_X5_addDecimal : GoodIn wsX5_use (wsV RX5 170 RX5 yX5_addDecimal wsX5_addDecimal) := goodIn_app (goodIn_of _ (by decide +kernel)) ggX5_use_X5_addDecimal
set_option maxRecDepth 20000 in
theorem ggX5_use_X5_add : GoodIn wsX5_use wsX5_add := goodIn_r _ [30, 1, 4, 23, 24, 25, 8, 26, 14, 15, 16, 17, 5, 6, 7, 9, 35, 36, 37, 38, 39, 40, 41, 42, 43, 44, 45, 46, 47, 48, 49] (by decide +kernel) (by decide +kernel)
set_option maxRecDepth 20000 in
theorem gX5_use_X5_add : GoodIn wsX5_use (wsV RX5 173 RX5 yX5_add wsX5_add) := goodIn_app (goodIn_of _ (by decide +kernel)) ggX5_use_X5_add
set_option maxRecDepth 20000 in
theorem ggX5_use_X5_subtractDecimal : GoodIn wsX5_use wsX5_subtractDecimal := goodIn_r _ [34, 4, 1, 22, 27, 28, 29, 8, 30, 23, 24, 25, 26, 14, 15, 16, 17, 5, 6, 7, 9, 35, 36, 37, 38, 39, 40, 41, 42, 43, 44, 45, 46, 47, 48, 49] (by decide +kernel) (by decide +kernel)
set_option maxRecDepth 20000 in
theorem gX5_use_X5_subtractDecimal : GoodIn wsX5_use (wsV RX5 176 RX5 yX5_subtractDecimal wsX5_subtractDecimal) := goodIn_app (goodIn_of _ (by decide +kernel)) ggX5_use_X5_subtractDecimal
set_option maxRecDepth 20000 in
theorem ggX5_use_X5_mark : GoodIn wsX5_use wsX5_mark := goodIn_r _ [17, 4, 35, 36, 37, 38, 39, 40, 41, 42, 43, 44, 45, 46, 47, 48, 49] (by decide +kernel) (by decide +kernel)
set_option maxRecDepth 20000 in
theorem gX5_use_X5_mark : GoodIn wsX5_use (wsV RX5 179 RX5 yX5_mark wsX5_mark) := goodIn_app (goodIn_of _ (by decide +kernel)) ggX5_use_X5_mark
theorem dX5_use_0 : decode cX5_use 0 = .ok (.iload_n 1, 1) := by decide +kernel
theorem dX5_use_1 : decode cX5_use 1 = .ok (.tableswitch 282 0 11 #[63, 80, 97, 186, 114, 150, 212, 126, 138, 162, 174, 242], 63) := by decide +kernel
theorem dX5_use_64 : decode cX5_use 64 = .ok (.aload_n 0, 1) := by decide +kernel
theorem dX5_use_65 : decode cX5_use 65 = .ok (.aload_n 0, 1) := by decide +kernel
theorem dX5_use_66 : decode cX5_use 66 = .ok (.aload_n 0, 1) := by decide +kernel
theorem dX5_use_67 : decode cX5_use 67 = .ok (.getfield 161, 3) := by decide +kernel
theorem dX5_use_70 : decode cX5_use 70 = .ok (.iload_n 2, 1) := by decide +kernel
theorem dX5_use_71 : decode cX5_use 71 = .ok (.ior, 1) := by decide +kernel
theorem dX5_use_72 : decode cX5_use 72 = .ok (.invokevirtual 164, 3) := by decide +kernel
theorem dX5_use_75 : decode cX5_use 75 = .ok (.putfield 161, 3) := by decide +kernel
theorem dX5_use_78 : decode cX5_use 78 = .ok (.goto 224, 3) := by decide +kernel
theorem dX5_use_81 : decode cX5_use 81 = .ok (.aload_n 0, 1) := by decide +kernel
theorem dX5_use_82 : decode cX5_use 82 = .ok (.aload_n 0, 1) := by decide +kernel
theorem dX5_use_83 : decode cX5_use 83 = .ok (.aload_n 0, 1) := by decide +kernel
theorem dX5_use_84 : decode cX5_use 84 = .ok (.getfield 161, 3) := by decide +kernel
theorem dX5_use_87 : decode cX5_use 87 = .ok (.iload_n 2, 1) := by decide +kernel
theorem dX5_use_88 : decode cX5_use 88 = .ok (.iand, 1) := by decide +kernel
theorem dX5_use_89 : decode cX5_use 89 = .ok (.invokevirtual 164, 3) := by decide +kernel
theorem dX5_use_92 : decode cX5_use 92 = .ok (.putfield 161, 3) := by decide +kernel
theorem dX5_use_95 : decode cX5_use 95 = .ok (.goto 207, 3) := by decide +kernel
theorem dX5_use_98 : decode cX5_use 98 = .ok (.aload_n 0, 1) := by decide +kernel
theorem dX5_use_99 : decode cX5_use 99 = .ok (.aload_n 0, 1) := by decide +kernel
theorem dX5_use_100 : decode cX5_use 100 = .ok (.aload_n 0, 1) := by decide +kernel
theorem dX5_use_101 : decode cX5_use 101 = .ok (.getfield 161, 3) := by decide +kernel
theorem dX5_use_104 : decode cX5_use 104 = .ok (.iload_n 2, 1) := by decide +kernel
theorem dX5_use_105 : decode cX5_use 105 = .ok (.ixor, 1) := by decide +kernel
theorem dX5_use_106 : decode cX5_use 106 = .ok (.invokevirtual 164, 3) := by decide +kernel
theorem dX5_use_109 : decode cX5_use 109 = .ok (.putfield 161, 3) := by decide +kernel
theorem dX5_use_112 : decode cX5_use 112 = .ok (.goto 190, 3) := by decide +kernel
theorem dX5_use_115 : decode cX5_use 115 = .ok (.aload_n 0, 1) := by decide +kernel
theorem dX5_use_116 : decode cX5_use 116 = .ok (.aload_n 0, 1) := by decide +kernel
theorem dX5_use_117 : decode cX5_use 117 = .ok (.iload_n 2, 1) := by decide +kernel
theorem dX5_use_118 : decode cX5_use 118 = .ok (.invokevirtual 164, 3) := by decide +kernel
theorem dX5_use_121 : decode cX5_use 121 = .ok (.putfield 161, 3) := by decide +kernel
theorem dX5_use_124 : decode cX5_use 124 = .ok (.goto 178, 3) := by decide +kernel
theorem dX5_use_127 : decode cX5_use 127 = .ok (.aload_n 0, 1) := by decide +kernel
theorem dX5_use_128 : decode cX5_use 128 = .ok (.aload_n 0, 1) := by decide +kernel
theorem dX5_use_129 : decode cX5_use 129 = .ok (.iload_n 2, 1) := by decide +kernel
theorem dX5_use_130 : decode cX5_use 130 = .ok (.invokevirtual 164, 3) := by decide +kernel
theorem dX5_use_133 : decode cX5_use 133 = .ok (.putfield 149, 3) := by decide +kernel
theorem dX5_use_136 : decode cX5_use 136 = .ok (.goto 166, 3) := by decide +kernel
theorem dX5_use_139 : decode cX5_use 139 = .ok (.aload_n 0, 1) := by decide +kernel
theorem dX5_use_140 : decode cX5_use 140 = .ok (.aload_n 0, 1) := by decide +kernel
theorem dX5_use_141 : decode cX5_use 141 = .ok (.iload_n 2, 1) := by decide +kernel
theorem dX5_use_142 : decode cX5_use 142 = .ok (.invokevirtual 164, 3) := by decide +kernel
theorem dX5_use_145 : decode cX5_use 145 = .ok (.putfield 152, 3) := by decide +kernel
theorem dX5_use_148 : decode cX5_use 148 = .ok (.goto 154, 3) := by decide +kernel
theorem dX5_use_151 : decode cX5_use 151 = .ok (.aload_n 0, 1) := by decide +kernel
theorem dX5_use_152 : decode cX5_use 152 = .ok (.aload_n 0, 1) := by decide +kernel
theorem dX5_use_153 : decode cX5_use 153 = .ok (.getfield 161, 3) := by decide +kernel
theorem dX5_use_156 : decode cX5_use 156 = .ok (.iload_n 2, 1) := by decide +kernel
theorem dX5_use_157 : decode cX5_use 157 = .ok (.invokevirtual 167, 3) := by decide +kernel
theorem dX5_use_160 : decode cX5_use 160 = .ok (.goto 142, 3) := by decide +kernel
theorem dX5_use_163 : decode cX5_use 163 = .ok (.aload_n 0, 1) := by decide +kernel
theorem dX5_use_164 : decode cX5_use 164 = .ok (.aload_n 0, 1) := by decide +kernel
theorem dX5_use_165 : decode cX5_use 165 = .ok (.getfield 149, 3) := by decide +kernel
theorem dX5_use_168 : decode cX5_use 168 = .ok (.iload_n 2, 1) := by decide +kernel
theorem dX5_use_169 : decode cX5_use 169 = .ok (.invokevirtual 167, 3) := by decide +kernel
theorem dX5_use_172 : decode cX5_use 172 = .ok (.goto 130, 3) := by decide +kernel
theorem dX5_use_175 : decode cX5_use 175 = .ok (.aload_n 0, 1) := by decide +kernel
theorem dX5_use_176 : decode cX5_use 176 = .ok (.aload_n 0, 1) := by decide +kernel
theorem dX5_use_177 : decode cX5_use 177 = .ok (.getfield 152, 3) := by decide +kernel
theorem dX5_use_180 : decode cX5_use 180 = .ok (.iload_n 2, 1) := by decide +kernel
theorem dX5_use_181 : decode cX5_use 181 = .ok (.invokevirtual 167, 3) := by decide +kernel
theorem dX5_use_184 : decode cX5_use 184 = .ok (.goto 118, 3) := by decide +kernel
theorem dX5_use_187 : decode cX5_use 187 = .ok (.aload_n 0, 1) := by decide +kernel
theorem dX5_use_188 : decode cX5_use 188 = .ok (.getfield 9, 3) := by decide +kernel
theorem dX5_use_191 : decode cX5_use 191 = .ok (.bipush 8, 2) := by decide +kernel
theorem dX5_use_193 : decode cX5_use 193 = .ok (.iand, 1) := by decide +kernel
theorem dX5_use_194 : decode cX5_use 194 = .ok (.ifCond .eq 11, 3) := by decide +kernel
theorem dX5_use_197 : decode cX5_use 197 = .ok (.aload_n 0, 1) := by decide +kernel
theorem dX5_use_198 : decode cX5_use 198 = .ok (.iload_n 2, 1) := by decide +kernel
theorem dX5_use_199 : decode cX5_use 199 = .ok (.invokevirtual 170, 3) := by decide +kernel
theorem dX5_use_202 : decode cX5_use 202 = .ok (.goto 100, 3) := by decide +kernel
theorem dX5_use_205 : decode cX5_use 205 = .ok (.aload_n 0, 1) := by decide +kernel
theorem dX5_use_206 : decode cX5_use 206 = .ok (.iload_n 2, 1) := by decide +kernel
theorem dX5_use_207 : decode cX5_use 207 = .ok (.invokevirtual 173, 3) := by decide +kernel
theorem dX5_use_210 : decode cX5_use 210 = .ok (.goto 92, 3) := by decide +kernel
theorem dX5_use_213 : decode cX5_use 213 = .ok (.aload_n 0, 1) := by decide +kernel
theorem dX5_use_214 : decode cX5_use 214 = .ok (.getfield 9, 3) := by decide +kernel
theorem dX5_use_217 : decode cX5_use 217 = .ok (.bipush 8, 2) := by decide +kernel
theorem dX5_use_219 : decode cX5_use 219 = .ok (.iand, 1) := by decide +kernel
theorem dX5_use_220 : decode cX5_use 220 = .ok (.ifCond .eq 11, 3) := by decide +kernel
theorem dX5_use_223 : decode cX5_use 223 = .ok (.aload_n 0, 1) := by decide +kernel
theorem dX5_use_224 : decode cX5_use 224 = .ok (.iload_n 2, 1) := by decide +kernel
theorem dX5_use_225 : decode cX5_use 225 = .ok (.invokevirtual 176, 3) := by decide +kernel
theorem dX5_use_228 : decode cX5_use 228 = .ok (.goto 74, 3) := by decide +kernel
theorem dX5_use_231 : decode cX5_use 231 = .ok (.aload_n 0, 1) := by decide +kernel
theorem dX5_use_232 : decode cX5_use 232 = .ok (.sipush 255, 3) := by decide +kernel
theorem dX5_use_235 : decode cX5_use 235 = .ok (.iload_n 2, 1) := by decide +kernel
theorem dX5_use_236 : decode cX5_use 236 = .ok (.isub, 1) := by decide +kernel
theorem dX5_use_237 : decode cX5_use 237 = .ok (.invokevirtual 173, 3) := by decide +kernel
theorem dX5_use_240 : decode cX5_use 240 = .ok (.goto 62, 3) := by decide +kernel
theorem dX5_use_243 : decode cX5_use 243 = .ok (.aload_n 0, 1) := by decide +kernel
theorem dX5_use_244 : decode cX5_use 244 = .ok (.iconst 2, 1) := by decide +kernel
theorem dX5_use_245 : decode cX5_use 245 = .ok (.aload_n 0, 1) := by decide +kernel
theorem dX5_use_246 : decode cX5_use 246 = .ok (.getfield 161, 3) := by decide +kernel
theorem dX5_use_249 : decode cX5_use 249 = .ok (.iload_n 2, 1) := by decide +kernel
theorem dX5_use_250 : decode cX5_use 250 = .ok (.iand, 1) := by decide +kernel
theorem dX5_use_251 : decode cX5_use 251 = .ok (.ifCond .ne 7, 3) := by decide +kernel
theorem dX5_use_254 : decode cX5_use 254 = .ok (.iconst 1, 1) := by decide +kernel
theorem dX5_use_255 : decode cX5_use 255 = .ok (.goto 4, 3) := by decide +kernel
theorem dX5_use_258 : decode cX5_use 258 = .ok (.iconst 0, 1) := by decide +kernel
theorem dX5_use_259 : decode cX5_use 259 = .ok (.invokevirtual 179, 3) := by decide +kernel
theorem dX5_use_262 : decode cX5_use 262 = .ok (.aload_n 0, 1) := by decide +kernel
theorem dX5_use_263 : decode cX5_use 263 = .ok (.aload_n 0, 1) := by decide +kernel
theorem dX5_use_264 : decode cX5_use 264 = .ok (.getfield 9, 3) := by decide +kernel
theorem dX5_use_267 : decode cX5_use 267 = .ok (.sipush (-193), 3) := by decide +kernel
theorem dX5_use_270 : decode cX5_use 270 = .ok (.iand, 1) := by decide +kernel
theorem dX5_use_271 : decode cX5_use 271 = .ok (.iload_n 2, 1) := by decide +kernel
theorem dX5_use_272 : decode cX5_use 272 = .ok (.sipush 192, 3) := by decide +kernel
theorem dX5_use_275 : decode cX5_use 275 = .ok (.iand, 1) := by decide +kernel
theorem dX5_use_276 : decode cX5_use 276 = .ok (.ior, 1) := by decide +kernel
theorem dX5_use_277 : decode cX5_use 277 = .ok (.putfield 9, 3) := by decide +kernel
theorem dX5_use_280 : decode cX5_use 280 = .ok (.goto 22, 3) := by decide +kernel
theorem dX5_use_283 : decode cX5_use 283 = .ok (.aload_n 0, 1) := by decide +kernel
theorem dX5_use_284 : decode cX5_use 284 = .ok (.iconst 2, 1) := by decide +kernel
theorem dX5_use_285 : decode cX5_use 285 = .ok (.aload_n 0, 1) := by decide +kernel
theorem dX5_use_286 : decode cX5_use 286 = .ok (.getfield 161, 3) := by decide +kernel
theorem dX5_use_289 : decode cX5_use 289 = .ok (.iload_n 2, 1) := by decide +kernel
theorem dX5_use_290 : decode cX5_use 290 = .ok (.iand, 1) := by decide +kernel
theorem dX5_use_291 : decode cX5_use 291 = .ok (.ifCond .ne 7, 3) := by decide +kernel
theorem dX5_use_294 : decode cX5_use 294 = .ok (.iconst 1, 1) := by decide +kernel
theorem dX5_use_295 : decode cX5_use 295 = .ok (.goto 4, 3) := by decide +kernel
theorem dX5_use_298 : decode cX5_use 298 = .ok (.iconst 0, 1) := by decide +kernel
theorem dX5_use_299 : decode cX5_use 299 = .ok (.invokevirtual 179, 3) := by decide +kernel
theorem dX5_use_302 : decode cX5_use 302 = .ok (.return_, 1) := by decide +kernel
set_option maxRecDepth 20000 in
theorem ggX5_add_X5_changesSign : GoodIn wsX5_add wsX5_changesSign := goodIn_r _ [7, 1, 16, 17, 18, 19, 20, 21, 22, 23, 24, 25, 26, 27, 28, 29, 30] (by decide +kernel) (by decide +kernel)
set_option maxRecDepth 20000 in
theorem gX5_add_X5_changesSign : GoodIn wsX5_add (wsV RX5 183 RX5 yX5_changesSign wsX5_changesSign) := goodIn_app (goodIn_of _ (by decide +kernel)) ggX5_add_X5_changesSign
set_option maxRecDepth 20000 in
theorem ggX5_add_X5_mark : GoodIn wsX5_add wsX5_mark := goodIn_r _ [11, 2, 16, 17, 18, 19, 20, 21, 22, 23, 24, 25, 26, 27, 28, 29, 30] (by decide +kernel) (by decide +kernel)
set_option maxRecDepth 20000 in
theorem gX5_add_X5_mark : GoodIn wsX5_add (wsV RX5 179 RX5 yX5_mark wsX5_mark) := goodIn_app (goodIn_of _ (by decide +kernel)) ggX5_add_X5_mark
set_option maxRecDepth 20000 in
theorem ggX5_add_X5_shown : GoodIn wsX5_add wsX5_shown := goodIn_r _ [15, 2, 16, 17, 18, 19, 20, 21, 22, 23, 24, 25, 26, 27, 28, 29, 30] (by decide +kernel) (by decide +kernel)
set_option maxRecDepth 20000 in
theorem gX5_add_X5_shown : GoodIn wsX5_add (wsV RX5 164 RX5 yX5_shown wsX5_shown) := goodIn_app (goodIn_of _ (by decide +kernel)) ggX5_add_X5_shown
theorem dX5_add_0 : decode cX5_add 0 = .ok (.aload_n 0, 1) := by decide +kernel
theorem dX5_add_1 : decode cX5_add 1 = .ok (.getfield 161, 3) := by decide +kernel
theorem dX5_add_4 : decode cX5_add 4 = .ok (.iload_n 1, 1) := by decide +kernel
theorem dX5_add_5 : decode cX5_add 5 = .ok (.iadd, 1) := by decide +kernel
theorem dX5_add_6 : decode cX5_add 6 = .ok (.aload_n 0, 1) := by decide +kernel
theorem dX5_add_7 : decode cX5_add 7 = .ok (.getfield 9, 3) := by decide +kernel
theorem dX5_add_10 : decode cX5_add 10 = .ok (.iconst 1, 1) := by decide +kernel
theorem dX5_add_11 : decode cX5_add 11 = .ok (.iand, 1) := by decide +kernel
theorem dX5_add_12 : decode cX5_add 12 = .ok (.iadd, 1) := by decide +kernel
theorem dX5_add_13 : decode cX5_add 13 = .ok (.istore_n 2, 1) := by decide +kernel
theorem dX5_add_14 : decode cX5_add 14 = .ok (.aload_n 0, 1) := by decide +kernel
theorem dX5_add_15 : decode cX5_add 15 = .ok (.bipush 64, 2) := by decide +kernel
theorem dX5_add_17 : decode cX5_add 17 = .ok (.aload_n 0, 1) := by decide +kernel
theorem dX5_add_18 : decode cX5_add 18 = .ok (.iload_n 1, 1) := by decide +kernel
theorem dX5_add_19 : decode cX5_add 19 = .ok (.iload_n 2, 1) := by decide +kernel
theorem dX5_add_20 : decode cX5_add 20 = .ok (.invokevirtual 183, 3) := by decide +kernel
theorem dX5_add_23 : decode cX5_add 23 = .ok (.invokevirtual 179, 3) := by decide +kernel
theorem dX5_add_26 : decode cX5_add 26 = .ok (.aload_n 0, 1) := by decide +kernel
theorem dX5_add_27 : decode cX5_add 27 = .ok (.iconst 1, 1) := by decide +kernel
theorem dX5_add_28 : decode cX5_add 28 = .ok (.iload_n 2, 1) := by decide +kernel
theorem dX5_add_29 : decode cX5_add 29 = .ok (.sipush 255, 3) := by decide +kernel
theorem dX5_add_32 : decode cX5_add 32 = .ok (.if_icmp .le 7, 3) := by decide +kernel
theorem dX5_add_35 : decode cX5_add 35 = .ok (.iconst 1, 1) := by decide +kernel
theorem dX5_add_36 : decode cX5_add 36 = .ok (.goto 4, 3) := by decide +kernel
theorem dX5_add_39 : decode cX5_add 39 = .ok (.iconst 0, 1) := by decide +kernel
theorem dX5_add_40 : decode cX5_add 40 = .ok (.invokevirtual 179, 3) := by decide +kernel
theorem dX5_add_43 : decode cX5_add 43 = .ok (.aload_n 0, 1) := by decide +kernel
theorem dX5_add_44 : decode cX5_add 44 = .ok (.aload_n 0, 1) := by decide +kernel
theorem dX5_add_45 : decode cX5_add 45 = .ok (.iload_n 2, 1) := by decide +kernel
theorem dX5_add_46 : decode cX5_add 46 = .ok (.invokevirtual 164, 3) := by decide +kernel
theorem dX5_add_49 : decode cX5_add 49 = .ok (.putfield 161, 3) := by decide +kernel
theorem dX5_add_52 : decode cX5_add 52 = .ok (.return_, 1) := by decide +kernel
set_option maxRecDepth 20000 in
theorem ggX5_addDecimal_X5_changesSign : GoodIn wsX5_addDecimal wsX5_changesSign := goodIn_r _ [8, 1, 17, 18, 19, 20, 21, 22, 23, 24, 25, 26, 27, 28, 29, 30, 31] (by decide +kernel) (by decide +kernel)
set_option maxRecDepth 20000 in
theorem gX5_addDecimal_X5_changesSign : GoodIn wsX5_addDecimal (wsV RX5 183 RX5 yX5_changesSign wsX5_changesSign) := goodIn_app (goodIn_of _ (by decide +kernel)) ggX5_addDecimal_X5_changesSign
set_option maxRecDepth 20000 in
theorem ggX5_addDecimal_X5_mark : GoodIn wsX5_addDecimal wsX5_mark := goodIn_r _ [12, 2, 17, 18, 19, 20, 21, 22, 23, 24, 25, 26, 27, 28, 29, 30, 31] (by decide +kernel) (by decide +kernel)
set_option maxRecDepth 20000 in
theorem gX5_addDecimal_X5_mark : GoodIn wsX5_addDecimal (wsV RX5 179 RX5 yX5_mark wsX5_mark) := goodIn_app (goodIn_of _ (by decide +kernel)) ggX5_addDecimal_X5_mark
set_option maxRecDepth 20000 in
theorem ggX5_addDecimal_X5_shown : GoodIn wsX5_addDecimal wsX5_shown := goodIn_r _ [16, 2, 17, 18, 19, 20, 21, 22, 23, 24, 25, 26, 27, 28, 29, 30, 31] (by decide +kernel) (by decide +kernel)
set_option maxRecDepth 20000 in
theorem gX5_addDecimal_X5_shown : GoodIn wsX5_addDecimal (wsV RX5 164 RX5 yX5_shown wsX5_shown) := goodIn_app (goodIn_of _ (by decide +kernel)) ggX5_addDecimal_X5_shown
theorem dX5_addDecimal_0 : decode cX5_addDecimal 0 = .ok (.aload_n 0, 1) := by decide +kernel
theorem dX5_addDecimal_1 : decode cX5_addDecimal 1 = .ok (.getfield 161, 3) := by decide +kernel
theorem dX5_addDecimal_4 : decode cX5_addDecimal 4 = .ok (.bipush 15, 2) := by decide +kernel
theorem dX5_addDecimal_6 : decode cX5_addDecimal 6 = .ok (.iand, 1) := by decide +kernel
theorem dX5_addDecimal_7 : decode cX5_addDecimal 7 = .ok (.iload_n 1, 1) := by decide +kernel
theorem dX5_addDecimal_8 : decode cX5_addDecimal 8 = .ok (.bipush 15, 2) := by decide +kernel
theorem dX5_addDecimal_10 : decode cX5_addDecimal 10 = .ok (.iand, 1) := by decide +kernel
theorem dX5_addDecimal_11 : decode cX5_addDecimal 11 = .ok (.iadd, 1) := by decide +kernel
theorem dX5_addDecimal_12 : decode cX5_addDecimal 12 = .ok (.aload_n 0, 1) := by decide +kernel
theorem dX5_addDecimal_13 : decode cX5_addDecimal 13 = .ok (.getfield 9, 3) := by decide +kernel
theorem dX5_addDecimal_16 : decode cX5_addDecimal 16 = .ok (.iconst 1, 1) := by decide +kernel
theorem dX5_addDecimal_17 : decode cX5_addDecimal 17 = .ok (.iand, 1) := by decide +kernel
theorem dX5_addDecimal_18 : decode cX5_addDecimal 18 = .ok (.iadd, 1) := by decide +kernel
theorem dX5_addDecimal_19 : decode cX5_addDecimal 19 = .ok (.istore_n 2, 1) := by decide +kernel
theorem dX5_addDecimal_20 : decode cX5_addDecimal 20 = .ok (.iload_n 2, 1) := by decide +kernel
theorem dX5_addDecimal_21 : decode cX5_addDecimal 21 = .ok (.bipush 9, 2) := by decide +kernel
theorem dX5_addDecimal_23 : decode cX5_addDecimal 23 = .ok (.if_icmp .le 14, 3) := by decide +kernel
theorem dX5_addDecimal_26 : decode cX5_addDecimal 26 = .ok (.iload_n 2, 1) := by decide +kernel
theorem dX5_addDecimal_27 : decode cX5_addDecimal 27 = .ok (.bipush 6, 2) := by decide +kernel
theorem dX5_addDecimal_29 : decode cX5_addDecimal 29 = .ok (.iadd, 1) := by decide +kernel
theorem dX5_addDecimal_30 : decode cX5_addDecimal 30 = .ok (.bipush 15, 2) := by decide +kernel
theorem dX5_addDecimal_32 : decode cX5_addDecimal 32 = .ok (.iand, 1) := by decide +kernel
theorem dX5_addDecimal_33 : decode cX5_addDecimal 33 = .ok (.bipush 16, 2) := by decide +kernel
theorem dX5_addDecimal_35 : decode cX5_addDecimal 35 = .ok (.iadd, 1) := by decide +kernel
theorem dX5_addDecimal_36 : decode cX5_addDecimal 36 = .ok (.istore_n 2, 1) := by decide +kernel
theorem dX5_addDecimal_37 : decode cX5_addDecimal 37 = .ok (.aload_n 0, 1) := by decide +kernel
theorem dX5_addDecimal_38 : decode cX5_addDecimal 38 = .ok (.getfield 161, 3) := by decide +kernel
theorem dX5_addDecimal_41 : decode cX5_addDecimal 41 = .ok (.sipush 240, 3) := by decide +kernel
theorem dX5_addDecimal_44 : decode cX5_addDecimal 44 = .ok (.iand, 1) := by decide +kernel
theorem dX5_addDecimal_45 : decode cX5_addDecimal 45 = .ok (.iload_n 1, 1) := by decide +kernel
theorem dX5_addDecimal_46 : decode cX5_addDecimal 46 = .ok (.sipush 240, 3) := by decide +kernel
theorem dX5_addDecimal_49 : decode cX5_addDecimal 49 = .ok (.iand, 1) := by decide +kernel
theorem dX5_addDecimal_50 : decode cX5_addDecimal 50 = .ok (.iadd, 1) := by decide +kernel
theorem dX5_addDecimal_51 : decode cX5_addDecimal 51 = .ok (.iload_n 2, 1) := by decide +kernel
theorem dX5_addDecimal_52 : decode cX5_addDecimal 52 = .ok (.iadd, 1) := by decide +kernel
theorem dX5_addDecimal_53 : decode cX5_addDecimal 53 = .ok (.istore_n 3, 1) := by decide +kernel
theorem dX5_addDecimal_54 : decode cX5_addDecimal 54 = .ok (.aload_n 0, 1) := by decide +kernel
theorem dX5_addDecimal_55 : decode cX5_addDecimal 55 = .ok (.bipush 64, 2) := by decide +kernel
theorem dX5_addDecimal_57 : decode cX5_addDecimal 57 = .ok (.aload_n 0, 1) := by decide +kernel
theorem dX5_addDecimal_58 : decode cX5_addDecimal 58 = .ok (.iload_n 1, 1) := by decide +kernel
theorem dX5_addDecimal_59 : decode cX5_addDecimal 59 = .ok (.iload_n 3, 1) := by decide +kernel
theorem dX5_addDecimal_60 : decode cX5_addDecimal 60 = .ok (.invokevirtual 183, 3) := by decide +kernel
theorem dX5_addDecimal_63 : decode cX5_addDecimal 63 = .ok (.invokevirtual 179, 3) := by decide +kernel
theorem dX5_addDecimal_66 : decode cX5_addDecimal 66 = .ok (.iload_n 3, 1) := by decide +kernel
theorem dX5_addDecimal_67 : decode cX5_addDecimal 67 = .ok (.sipush 159, 3) := by decide +kernel
theorem dX5_addDecimal_70 : decode cX5_addDecimal 70 = .ok (.if_icmp .le 6, 3) := by decide +kernel
theorem dX5_addDecimal_73 : decode cX5_addDecimal 73 = .ok (.iinc 3 96, 3) := by decide +kernel
theorem dX5_addDecimal_76 : decode cX5_addDecimal 76 = .ok (.aload_n 0, 1) := by decide +kernel
theorem dX5_addDecimal_77 : decode cX5_addDecimal 77 = .ok (.iconst 1, 1) := by decide +kernel
theorem dX5_addDecimal_78 : decode cX5_addDecimal 78 = .ok (.iload_n 3, 1) := by decide +kernel
theorem dX5_addDecimal_79 : decode cX5_addDecimal 79 = .ok (.sipush 255, 3) := by decide +kernel
theorem dX5_addDecimal_82 : decode cX5_addDecimal 82 = .ok (.if_icmp .le 7, 3) := by decide +kernel
theorem dX5_addDecimal_85 : decode cX5_addDecimal 85 = .ok (.iconst 1, 1) := by decide +kernel
theorem dX5_addDecimal_86 : decode cX5_addDecimal 86 = .ok (.goto 4, 3) := by decide +kernel
theorem dX5_addDecimal_89 : decode cX5_addDecimal 89 = .ok (.iconst 0, 1) := by decide +kernel
theorem dX5_addDecimal_90 : decode cX5_addDecimal 90 = .ok (.invokevirtual 179, 3) := by decide +kernel
theorem dX5_addDecimal_93 : decode cX5_addDecimal 93 = .ok (.aload_n 0, 1) := by decide +kernel
theorem dX5_addDecimal_94 : decode cX5_addDecimal 94 = .ok (.aload_n 0, 1) := by decide +kernel
theorem dX5_addDecimal_95 : decode cX5_addDecimal 95 = .ok (.iload_n 3, 1) := by decide +kernel
theorem dX5_addDecimal_96 : decode cX5_addDecimal 96 = .ok (.invokevirtual 164, 3) := by decide +kernel
theorem dX5_addDecimal_99 : decode cX5_addDecimal 99 = .ok (.putfield 161, 3) := by decide +kernel
theorem dX5_addDecimal_102 : decode cX5_addDecimal 102 = .ok (.aload_n 0, 1) := by decide +kernel
theorem dX5_addDecimal_103 : decode cX5_addDecimal 103 = .ok (.dup, 1) := by decide +kernel
theorem dX5_addDecimal_104 : decode cX5_addDecimal 104 = .ok (.getfield 57, 3) := by decide +kernel
theorem dX5_addDecimal_107 : decode cX5_addDecimal 107 = .ok (.iconst 1, 1) := by decide +kernel
theorem dX5_addDecimal_108 : decode cX5_addDecimal 108 = .ok (.iadd, 1) := by decide +kernel
theorem dX5_addDecimal_109 : decode cX5_addDecimal 109 = .ok (.putfield 57, 3) := by decide +kernel
theorem dX5_addDecimal_112 : decode cX5_addDecimal 112 = .ok (.return_, 1) := by decide +kernel
set_option maxRecDepth 20000 in
theorem ggX5_subtractDecimal_X5_add : GoodIn wsX5_subtractDecimal wsX5_add := goodIn_r _ [8, 2, 1, 9, 10, 11, 7, 12, 13, 14, 15, 16, 17, 18, 19, 20, 21, 22, 23, 24, 25, 26, 27, 28, 29, 30, 31, 32, 33, 34, 35] (by decide +kernel) (by decide +kernel)
set_option maxRecDepth 20000 in
theorem gX5_subtractDecimal_X5_add : GoodIn wsX5_subtractDecimal (wsV RX5 173 RX5 yX5_add wsX5_add) := goodIn_app (goodIn_of _ (by decide +kernel)) ggX5_subtractDecimal_X5_add
set_option maxRecDepth 20000 in
theorem ggX5_subtractDecimal_X5_shown : GoodIn wsX5_subtractDecimal wsX5_shown := goodIn_r _ [20, 1, 21, 22, 23, 24, 25, 26, 27, 28, 29, 30, 31, 32, 33, 34, 35] (by decide +kernel) (by decide +kernel)
set_option maxRecDepth 20000 in
theorem gX5_subtractDecimal_X5_shown : GoodIn wsX5_subtractDecimal (wsV RX5 164 RX5 yX5_shown wsX5_shown) := goodIn_app (goodIn_of _ (by decide +kernel)) ggX5_subtractDecimal_X5_shown
theorem dX5_subtractDecimal_0 : decode cX5_subtractDecimal 0 = .ok (.iconst 1, 1) := by decide +kernel
theorem dX5_subtractDecimal_1 : decode cX5_subtractDecimal 1 = .ok (.aload_n 0, 1) := by decide +kernel
theorem dX5_subtractDecimal_2 : decode cX5_subtractDecimal 2 = .ok (.getfield 9, 3) := by decide +kernel
theorem dX5_subtractDecimal_5 : decode cX5_subtractDecimal 5 = .ok (.iconst 1, 1) := by decide +kernel
theorem dX5_subtractDecimal_6 : decode cX5_subtractDecimal 6 = .ok (.iand, 1) := by decide +kernel
theorem dX5_subtractDecimal_7 : decode cX5_subtractDecimal 7 = .ok (.isub, 1) := by decide +kernel
theorem dX5_subtractDecimal_8 : decode cX5_subtractDecimal 8 = .ok (.istore_n 2, 1) := by decide +kernel
theorem dX5_subtractDecimal_9 : decode cX5_subtractDecimal 9 = .ok (.aload_n 0, 1) := by decide +kernel
theorem dX5_subtractDecimal_10 : decode cX5_subtractDecimal 10 = .ok (.getfield 161, 3) := by decide +kernel
theorem dX5_subtractDecimal_13 : decode cX5_subtractDecimal 13 = .ok (.bipush 15, 2) := by decide +kernel
theorem dX5_subtractDecimal_15 : decode cX5_subtractDecimal 15 = .ok (.iand, 1) := by decide +kernel
theorem dX5_subtractDecimal_16 : decode cX5_subtractDecimal 16 = .ok (.iload_n 1, 1) := by decide +kernel
theorem dX5_subtractDecimal_17 : decode cX5_subtractDecimal 17 = .ok (.bipush 15, 2) := by decide +kernel
theorem dX5_subtractDecimal_19 : decode cX5_subtractDecimal 19 = .ok (.iand, 1) := by decide +kernel
theorem dX5_subtractDecimal_20 : decode cX5_subtractDecimal 20 = .ok (.isub, 1) := by decide +kernel
theorem dX5_subtractDecimal_21 : decode cX5_subtractDecimal 21 = .ok (.iload_n 2, 1) := by decide +kernel
theorem dX5_subtractDecimal_22 : decode cX5_subtractDecimal 22 = .ok (.isub, 1) := by decide +kernel
theorem dX5_subtractDecimal_23 : decode cX5_subtractDecimal 23 = .ok (.istore_n 3, 1) := by decide +kernel
theorem dX5_subtractDecimal_24 : decode cX5_subtractDecimal 24 = .ok (.aload_n 0, 1) := by decide +kernel
theorem dX5_subtractDecimal_25 : decode cX5_subtractDecimal 25 = .ok (.getfield 161, 3) := by decide +kernel
theorem dX5_subtractDecimal_28 : decode cX5_subtractDecimal 28 = .ok (.iload_n 1, 1) := by decide +kernel
theorem dX5_subtractDecimal_29 : decode cX5_subtractDecimal 29 = .ok (.isub, 1) := by decide +kernel
theorem dX5_subtractDecimal_30 : decode cX5_subtractDecimal 30 = .ok (.iload_n 2, 1) := by decide +kernel
theorem dX5_subtractDecimal_31 : decode cX5_subtractDecimal 31 = .ok (.isub, 1) := by decide +kernel
theorem dX5_subtractDecimal_32 : decode cX5_subtractDecimal 32 = .ok (.istore 4, 2) := by decide +kernel
theorem dX5_subtractDecimal_34 : decode cX5_subtractDecimal 34 = .ok (.iload 4, 2) := by decide +kernel
theorem dX5_subtractDecimal_36 : decode cX5_subtractDecimal 36 = .ok (.ifCond .ge 6, 3) := by decide +kernel
theorem dX5_subtractDecimal_39 : decode cX5_subtractDecimal 39 = .ok (.iinc 4 (-96), 3) := by decide +kernel
theorem dX5_subtractDecimal_42 : decode cX5_subtractDecimal 42 = .ok (.iload_n 3, 1) := by decide +kernel
theorem dX5_subtractDecimal_43 : decode cX5_subtractDecimal 43 = .ok (.ifCond .ge 6, 3) := by decide +kernel
theorem dX5_subtractDecimal_46 : decode cX5_subtractDecimal 46 = .ok (.iinc 4 (-6), 3) := by decide +kernel
theorem dX5_subtractDecimal_49 : decode cX5_subtractDecimal 49 = .ok (.aload_n 0, 1) := by decide +kernel
theorem dX5_subtractDecimal_50 : decode cX5_subtractDecimal 50 = .ok (.sipush 255, 3) := by decide +kernel
theorem dX5_subtractDecimal_53 : decode cX5_subtractDecimal 53 = .ok (.iload_n 1, 1) := by decide +kernel
theorem dX5_subtractDecimal_54 : decode cX5_subtractDecimal 54 = .ok (.isub, 1) := by decide +kernel
theorem dX5_subtractDecimal_55 : decode cX5_subtractDecimal 55 = .ok (.invokevirtual 173, 3) := by decide +kernel
theorem dX5_subtractDecimal_58 : decode cX5_subtractDecimal 58 = .ok (.aload_n 0, 1) := by decide +kernel
theorem dX5_subtractDecimal_59 : decode cX5_subtractDecimal 59 = .ok (.aload_n 0, 1) := by decide +kernel
theorem dX5_subtractDecimal_60 : decode cX5_subtractDecimal 60 = .ok (.iload 4, 2) := by decide +kernel
theorem dX5_subtractDecimal_62 : decode cX5_subtractDecimal 62 = .ok (.invokevirtual 164, 3) := by decide +kernel
theorem dX5_subtractDecimal_65 : decode cX5_subtractDecimal 65 = .ok (.putfield 161, 3) := by decide +kernel
theorem dX5_subtractDecimal_68 : decode cX5_subtractDecimal 68 = .ok (.aload_n 0, 1) := by decide +kernel
theorem dX5_subtractDecimal_69 : decode cX5_subtractDecimal 69 = .ok (.dup, 1) := by decide +kernel
theorem dX5_subtractDecimal_70 : decode cX5_subtractDecimal 70 = .ok (.getfield 57, 3) := by decide +kernel
theorem dX5_subtractDecimal_73 : decode cX5_subtractDecimal 73 = .ok (.iconst 1, 1) := by decide +kernel
theorem dX5_subtractDecimal_74 : decode cX5_subtractDecimal 74 = .ok (.iadd, 1) := by decide +kernel
theorem dX5_subtractDecimal_75 : decode cX5_subtractDecimal 75 = .ok (.putfield 57, 3) := by decide +kernel
theorem dX5_subtractDecimal_78 : decode cX5_subtractDecimal 78 = .ok (.return_, 1) := by decide +kernel
theorem dX5_changesSign_0 : decode cX5_changesSign 0 = .ok (.aload_n 0, 1) := by decide +kernel
theorem dX5_changesSign_1 : decode cX5_changesSign 1 = .ok (.getfield 161, 3) := by decide +kernel
theorem dX5_changesSign_4 : decode cX5_changesSign 4 = .ok (.iload_n 2, 1) := by decide +kernel
theorem dX5_changesSign_5 : decode cX5_changesSign 5 = .ok (.ixor, 1) := by decide +kernel
theorem dX5_changesSign_6 : decode cX5_changesSign 6 = .ok (.iload_n 1, 1) := by decide +kernel
theorem dX5_changesSign_7 : decode cX5_changesSign 7 = .ok (.iload_n 2, 1) := by decide +kernel
theorem dX5_changesSign_8 : decode cX5_changesSign 8 = .ok (.ixor, 1) := by decide +kernel
theorem dX5_changesSign_9 : decode cX5_changesSign 9 = .ok (.iand, 1) := by decide +kernel
theorem dX5_changesSign_10 : decode cX5_changesSign 10 = .ok (.sipush 128, 3) := by decide +kernel
theorem dX5_changesSign_13 : decode cX5_changesSign 13 = .ok (.iand, 1) := by decide +kernel
theorem dX5_changesSign_14 : decode cX5_changesSign 14 = .ok (.ifCond .eq 7, 3) := by decide +kernel
theorem dX5_changesSign_17 : decode cX5_changesSign 17 = .ok (.iconst 1, 1) := by decide +kernel
theorem dX5_changesSign_18 : decode cX5_changesSign 18 = .ok (.goto 4, 3) := by decide +kernel
theorem dX5_changesSign_21 : decode cX5_changesSign 21 = .ok (.iconst 0, 1) := by decide +kernel
theorem dX5_changesSign_22 : decode cX5_changesSign 22 = .ok (.ireturn, 1) := by decide +kernel
set_option maxRecDepth 20000 in
theorem ggX5_compare_X5_mark : GoodIn wsX5_compare wsX5_mark := goodIn_r _ [5, 6, 11, 12, 13, 14, 15, 16, 17, 18, 19, 20, 21, 22, 23, 24, 25] (by decide +kernel) (by decide +kernel)
set_option maxRecDepth 20000 in
theorem gX5_compare_X5_mark : GoodIn wsX5_compare (wsV RX5 179 RX5 yX5_mark wsX5_mark) := goodIn_app (goodIn_of _ (by decide +kernel)) ggX5_compare_X5_mark
set_option maxRecDepth 20000 in
theorem ggX5_compare_X5_shown : GoodIn wsX5_compare wsX5_shown := goodIn_r _ [10, 6, 11, 12, 13, 14, 15, 16, 17, 18, 19, 20, 21, 22, 23, 24, 25] (by decide +kernel) (by decide +kernel)
set_option maxRecDepth 20000 in
theorem gX5_compare_X5_shown : GoodIn wsX5_compare (wsV RX5 164 RX5 yX5_shown wsX5_shown) := goodIn_app (goodIn_of _ (by decide +kernel)) ggX5_compare_X5_shown
theorem dX5_compare_0 : decode cX5_compare 0 = .ok (.aload_n 0, 1) := by decide +kernel
theorem dX5_compare_1 : decode cX5_compare 1 = .ok (.iconst 1, 1) := by decide +kernel
theorem dX5_compare_2 : decode cX5_compare 2 = .ok (.iload_n 1, 1) := by decide +kernel
theorem dX5_compare_3 : decode cX5_compare 3 = .ok (.iload_n 2, 1) := by decide +kernel
theorem dX5_compare_4 : decode cX5_compare 4 = .ok (.if_icmp .lt 7, 3) := by decide +kernel
theorem dX5_compare_7 : decode cX5_compare 7 = .ok (.iconst 1, 1) := by decide +kernel
theorem dX5_compare_8 : decode cX5_compare 8 = .ok (.goto 4, 3) := by decide +kernel
theorem dX5_compare_11 : decode cX5_compare 11 = .ok (.iconst 0, 1) := by decide +kernel
theorem dX5_compare_12 : decode cX5_compare 12 = .ok (.invokevirtual 179, 3) := by decide +kernel
theorem dX5_compare_15 : decode cX5_compare 15 = .ok (.aload_n 0, 1) := by decide +kernel
theorem dX5_compare_16 : decode cX5_compare 16 = .ok (.iload_n 1, 1) := by decide +kernel
theorem dX5_compare_17 : decode cX5_compare 17 = .ok (.iload_n 2, 1) := by decide +kernel
theorem dX5_compare_18 : decode cX5_compare 18 = .ok (.isub, 1) := by decide +kernel
theorem dX5_compare_19 : decode cX5_compare 19 = .ok (.invokevirtual 164, 3) := by decide +kernel
theorem dX5_compare_22 : decode cX5_compare 22 = .ok (.pop, 1) := by decide +kernel
theorem dX5_compare_23 : decode cX5_compare 23 = .ok (.return_, 1) := by decide +kernel
theorem dX5_stored_0 : decode cX5_stored 0 = .ok (.iload_n 1, 1) := by decide +kernel
theorem dX5_stored_1 : decode cX5_stored 1 = .ok (.tableswitch 48 16 18 #[27, 34, 41], 27) := by decide +kernel
theorem dX5_stored_28 : decode cX5_stored 28 = .ok (.aload_n 0, 1) := by decide +kernel
theorem dX5_stored_29 : decode cX5_stored 29 = .ok (.getfield 161, 3) := by decide +kernel
theorem dX5_stored_32 : decode cX5_stored 32 = .ok (.goto 18, 3) := by decide +kernel
theorem dX5_stored_35 : decode cX5_stored 35 = .ok (.aload_n 0, 1) := by decide +kernel
theorem dX5_stored_36 : decode cX5_stored 36 = .ok (.getfield 149, 3) := by decide +kernel
theorem dX5_stored_39 : decode cX5_stored 39 = .ok (.goto 11, 3) := by decide +kernel
theorem dX5_stored_42 : decode cX5_stored 42 = .ok (.aload_n 0, 1) := by decide +kernel
theorem dX5_stored_43 : decode cX5_stored 43 = .ok (.getfield 152, 3) := by decide +kernel
theorem dX5_stored_46 : decode cX5_stored 46 = .ok (.goto 4, 3) := by decide +kernel
theorem dX5_stored_49 : decode cX5_stored 49 = .ok (.iconst 0, 1) := by decide +kernel
theorem dX5_stored_50 : decode cX5_stored 50 = .ok (.ireturn, 1) := by decide +kernel
set_option maxRecDepth 20000 in
theorem ggX5_change_X5_changed : GoodIn wsX5_change wsX5_changed := goodIn_r _ [7, 8, 1, 9, 10, 11, 6, 12, 13, 14, 15, 16, 17, 18, 19, 20, 110, 111, 112, 113, 114, 115, 116, 117, 118, 119, 120, 121, 122, 123, 124] (by decide +kernel) (by decide +kernel)
set_option maxRecDepth 20000 in
theorem gX5_change_X5_changed : GoodIn wsX5_change (wsV RX5 187 RX5 yX5_changed wsX5_changed) := goodIn_app (goodIn_of _ (by decide +kernel)) ggX5_change_X5_changed
set_option maxRecDepth 20000 in
theorem ggX5_change_X0_read : GoodIn wsX5_change wsX0_read := goodIn_r _ [25, 26, 27, 28, 24, 29, 30, 31, 32, 33, 34, 35, 36, 37, 38, 39, 40, 41, 42, 43, 44, 45, 46, 47, 48, 49, 50, 51, 52, 53, 54, 55, 56, 57, 58, 59, 60, 61, 62, 63, 64, 65, 66, 67, 68, 69, 70, 71, 72, 73, 74, 75, 76, 77, 78, 79, 80, 81, 82, 83, 84, 85, 125, 126, 127, 128, 129, 130, 131, 132, 133, 134, 135, 136, 137, 138, 139, 140, 141, 142, 143, 144] (by decide +kernel) (by decide +kernel)
set_option maxRecDepth 20000 in
theorem gX5_change_X0_read : GoodIn wsX5_change (wsV RX5 86 RX0 yX0_read wsX0_read) := goodIn_app (goodIn_of _ (by decide +kernel)) ggX5_change_X0_read
set_option maxRecDepth 20000 in
theorem ggX5_change_X0_write : GoodIn wsX5_change wsX0_write := goodIn_r _ [89, 30, 26, 49, 50, 51, 52, 53, 37, 32, 33, 34, 24, 35, 36, 31, 38, 90, 91, 92, 42, 93, 44, 94, 95, 96, 97, 98, 57, 99, 60, 100, 59, 101, 63, 102, 61, 103, 62, 64, 104, 105, 106, 68, 107, 108, 109, 73, 125, 126, 127, 128, 129, 130, 131, 132, 133, 134, 135, 136, 137, 138, 139, 140, 141, 142, 143, 144] (by decide +kernel) (by decide +kernel)
set_option maxRecDepth 20000 in
theorem gX5_change_X0_write : GoodIn wsX5_change (wsV RX5 125 RX0 yX0_write wsX0_write) := goodIn_app (goodIn_of _ (by decide +kernel)) ggX5_change_X0_write
theorem dX5_change_0 : decode cX5_change 0 = .ok (.iload_n 3, 1) := by decide +kernel
theorem dX5_change_1 : decode cX5_change 1 = .ok (.iconst 1, 1) := by decide +kernel
theorem dX5_change_2 : decode cX5_change 2 = .ok (.if_icmp .ne 20, 3) := by decide +kernel
theorem dX5_change_5 : decode cX5_change 5 = .ok (.aload_n 0, 1) := by decide +kernel
theorem dX5_change_6 : decode cX5_change 6 = .ok (.aload_n 0, 1) := by decide +kernel
theorem dX5_change_7 : decode cX5_change 7 = .ok (.iload_n 1, 1) := by decide +kernel
theorem dX5_change_8 : decode cX5_change 8 = .ok (.iload_n 2, 1) := by decide +kernel
theorem dX5_change_9 : decode cX5_change 9 = .ok (.aload_n 0, 1) := by decide +kernel
theorem dX5_change_10 : decode cX5_change 10 = .ok (.getfield 161, 3) := by decide +kernel
theorem dX5_change_13 : decode cX5_change 13 = .ok (.invokevirtual 187, 3) := by decide +kernel
theorem dX5_change_16 : decode cX5_change 16 = .ok (.putfield 161, 3) := by decide +kernel
theorem dX5_change_19 : decode cX5_change 19 = .ok (.goto 27, 3) := by decide +kernel
theorem dX5_change_22 : decode cX5_change 22 = .ok (.aload_n 0, 1) := by decide +kernel
theorem dX5_change_23 : decode cX5_change 23 = .ok (.getfield 20, 3) := by decide +kernel
theorem dX5_change_26 : decode cX5_change 26 = .ok (.iload 4, 2) := by decide +kernel
theorem dX5_change_28 : decode cX5_change 28 = .ok (.aload_n 0, 1) := by decide +kernel
theorem dX5_change_29 : decode cX5_change 29 = .ok (.iload_n 1, 1) := by decide +kernel
theorem dX5_change_30 : decode cX5_change 30 = .ok (.iload_n 2, 1) := by decide +kernel
theorem dX5_change_31 : decode cX5_change 31 = .ok (.aload_n 0, 1) := by decide +kernel
theorem dX5_change_32 : decode cX5_change 32 = .ok (.getfield 20, 3) := by decide +kernel
theorem dX5_change_35 : decode cX5_change 35 = .ok (.iload 4, 2) := by decide +kernel
theorem dX5_change_37 : decode cX5_change 37 = .ok (.invokevirtual 86, 3) := by decide +kernel
theorem dX5_change_40 : decode cX5_change 40 = .ok (.invokevirtual 187, 3) := by decide +kernel
theorem dX5_change_43 : decode cX5_change 43 = .ok (.invokevirtual 125, 3) := by decide +kernel
theorem dX5_change_46 : decode cX5_change 46 = .ok (.return_, 1) := by decide +kernel
set_option maxRecDepth 20000 in
theorem ggX5_changed_X5_shifted : GoodIn wsX5_changed wsX5_shifted := goodIn_r _ [7, 8, 9, 10, 6, 11, 1, 12, 13, 14, 15, 16, 17, 18, 19, 20, 21, 22, 23, 24, 25, 26, 27, 28, 29, 30] (by decide +kernel) (by decide +kernel)
set_option maxRecDepth 20000 in
theorem gX5_changed_X5_shifted : GoodIn wsX5_changed (wsV RX5 191 RX5 yX5_shifted wsX5_shifted) := goodIn_app (goodIn_of _ (by decide +kernel)) ggX5_changed_X5_shifted
set_option maxRecDepth 20000 in
theorem ggX5_changed_X5_shown : GoodIn wsX5_changed wsX5_shown := goodIn_r _ [15, 1, 16, 17, 18, 19, 20, 21, 22, 23, 24, 25, 26, 27, 28, 29, 30] (by decide +kernel) (by decide +kernel)
set_option maxRecDepth 20000 in
theorem gX5_changed_X5_shown : GoodIn wsX5_changed (wsV RX5 164 RX5 yX5_shown wsX5_shown) := goodIn_app (goodIn_of _ (by decide +kernel)) ggX5_changed_X5_shown
set_option maxRecDepth 20000 in
theorem ggX5_changed_X5_mark : GoodIn wsX5_changed wsX5_mark := goodIn_r _ [11, 1, 16, 17, 18, 19, 20, 21, 22, 23, 24, 25, 26, 27, 28, 29, 30] (by decide +kernel) (by decide +kernel)
set_option maxRecDepth 20000 in
theorem gX5_changed_X5_mark : GoodIn wsX5_changed (wsV RX5 179 RX5 yX5_mark wsX5_mark) := goodIn_app (goodIn_of _ (by decide +kernel)) ggX5_changed_X5_mark
theorem dX5_changed_0 : decode cX5_changed 0 = .ok (.iload_n 1, 1) := by decide +kernel
theorem dX5_changed_1 : decode cX5_changed 1 = .ok (.tableswitch 192 32 40 #[51, 63, 82, 93, 114, 122, 130, 156, 184], 51) := by decide +kernel
theorem dX5_changed_52 : decode cX5_changed 52 = .ok (.aload_n 0, 1) := by decide +kernel
theorem dX5_changed_53 : decode cX5_changed 53 = .ok (.iload_n 3, 1) := by decide +kernel
theorem dX5_changed_54 : decode cX5_changed 54 = .ok (.iconst 1, 1) := by decide +kernel
theorem dX5_changed_55 : decode cX5_changed 55 = .ok (.ishl, 1) := by decide +kernel
theorem dX5_changed_56 : decode cX5_changed 56 = .ok (.iload_n 3, 1) := by decide +kernel
theorem dX5_changed_57 : decode cX5_changed 57 = .ok (.bipush 7, 2) := by decide +kernel
theorem dX5_changed_59 : decode cX5_changed 59 = .ok (.ishr, 1) := by decide +kernel
theorem dX5_changed_60 : decode cX5_changed 60 = .ok (.invokevirtual 191, 3) := by decide +kernel
theorem dX5_changed_63 : decode cX5_changed 63 = .ok (.ireturn, 1) := by decide +kernel
theorem dX5_changed_64 : decode cX5_changed 64 = .ok (.aload_n 0, 1) := by decide +kernel
theorem dX5_changed_65 : decode cX5_changed 65 = .ok (.iload_n 3, 1) := by decide +kernel
theorem dX5_changed_66 : decode cX5_changed 66 = .ok (.iconst 1, 1) := by decide +kernel
theorem dX5_changed_67 : decode cX5_changed 67 = .ok (.ishl, 1) := by decide +kernel
theorem dX5_changed_68 : decode cX5_changed 68 = .ok (.aload_n 0, 1) := by decide +kernel
theorem dX5_changed_69 : decode cX5_changed 69 = .ok (.getfield 9, 3) := by decide +kernel
theorem dX5_changed_72 : decode cX5_changed 72 = .ok (.iconst 1, 1) := by decide +kernel
theorem dX5_changed_73 : decode cX5_changed 73 = .ok (.iand, 1) := by decide +kernel
theorem dX5_changed_74 : decode cX5_changed 74 = .ok (.ior, 1) := by decide +kernel
theorem dX5_changed_75 : decode cX5_changed 75 = .ok (.iload_n 3, 1) := by decide +kernel
theorem dX5_changed_76 : decode cX5_changed 76 = .ok (.bipush 7, 2) := by decide +kernel
theorem dX5_changed_78 : decode cX5_changed 78 = .ok (.ishr, 1) := by decide +kernel
theorem dX5_changed_79 : decode cX5_changed 79 = .ok (.invokevirtual 191, 3) := by decide +kernel
theorem dX5_changed_82 : decode cX5_changed 82 = .ok (.ireturn, 1) := by decide +kernel
theorem dX5_changed_83 : decode cX5_changed 83 = .ok (.aload_n 0, 1) := by decide +kernel
theorem dX5_changed_84 : decode cX5_changed 84 = .ok (.iload_n 3, 1) := by decide +kernel
theorem dX5_changed_85 : decode cX5_changed 85 = .ok (.iconst 1, 1) := by decide +kernel
theorem dX5_changed_86 : decode cX5_changed 86 = .ok (.ishr, 1) := by decide +kernel
theorem dX5_changed_87 : decode cX5_changed 87 = .ok (.iload_n 3, 1) := by decide +kernel
theorem dX5_changed_88 : decode cX5_changed 88 = .ok (.iconst 1, 1) := by decide +kernel
theorem dX5_changed_89 : decode cX5_changed 89 = .ok (.iand, 1) := by decide +kernel
theorem dX5_changed_90 : decode cX5_changed 90 = .ok (.invokevirtual 191, 3) := by decide +kernel
theorem dX5_changed_93 : decode cX5_changed 93 = .ok (.ireturn, 1) := by decide +kernel
theorem dX5_changed_94 : decode cX5_changed 94 = .ok (.aload_n 0, 1) := by decide +kernel
theorem dX5_changed_95 : decode cX5_changed 95 = .ok (.iload_n 3, 1) := by decide +kernel
theorem dX5_changed_96 : decode cX5_changed 96 = .ok (.iconst 1, 1) := by decide +kernel
theorem dX5_changed_97 : decode cX5_changed 97 = .ok (.ishr, 1) := by decide +kernel
theorem dX5_changed_98 : decode cX5_changed 98 = .ok (.aload_n 0, 1) := by decide +kernel
theorem dX5_changed_99 : decode cX5_changed 99 = .ok (.getfield 9, 3) := by decide +kernel
theorem dX5_changed_102 : decode cX5_changed 102 = .ok (.iconst 1, 1) := by decide +kernel
theorem dX5_changed_103 : decode cX5_changed 103 = .ok (.iand, 1) := by decide +kernel
theorem dX5_changed_104 : decode cX5_changed 104 = .ok (.bipush 7, 2) := by decide +kernel
theorem dX5_changed_106 : decode cX5_changed 106 = .ok (.ishl, 1) := by decide +kernel
theorem dX5_changed_107 : decode cX5_changed 107 = .ok (.ior, 1) := by decide +kernel
theorem dX5_changed_108 : decode cX5_changed 108 = .ok (.iload_n 3, 1) := by decide +kernel
theorem dX5_changed_109 : decode cX5_changed 109 = .ok (.iconst 1, 1) := by decide +kernel
theorem dX5_changed_110 : decode cX5_changed 110 = .ok (.iand, 1) := by decide +kernel
theorem dX5_changed_111 : decode cX5_changed 111 = .ok (.invokevirtual 191, 3) := by decide +kernel
theorem dX5_changed_114 : decode cX5_changed 114 = .ok (.ireturn, 1) := by decide +kernel
theorem dX5_changed_115 : decode cX5_changed 115 = .ok (.aload_n 0, 1) := by decide +kernel
theorem dX5_changed_116 : decode cX5_changed 116 = .ok (.iload_n 3, 1) := by decide +kernel
theorem dX5_changed_117 : decode cX5_changed 117 = .ok (.iconst 1, 1) := by decide +kernel
theorem dX5_changed_118 : decode cX5_changed 118 = .ok (.iadd, 1) := by decide +kernel
theorem dX5_changed_119 : decode cX5_changed 119 = .ok (.invokevirtual 164, 3) := by decide +kernel
theorem dX5_changed_122 : decode cX5_changed 122 = .ok (.ireturn, 1) := by decide +kernel
theorem dX5_changed_123 : decode cX5_changed 123 = .ok (.aload_n 0, 1) := by decide +kernel
theorem dX5_changed_124 : decode cX5_changed 124 = .ok (.iload_n 3, 1) := by decide +kernel
theorem dX5_changed_125 : decode cX5_changed 125 = .ok (.iconst 1, 1) := by decide +kernel
theorem dX5_changed_126 : decode cX5_changed 126 = .ok (.isub, 1) := by decide +kernel
theorem dX5_changed_127 : decode cX5_changed 127 = .ok (.invokevirtual 164, 3) := by decide +kernel
theorem dX5_changed_130 : decode cX5_changed 130 = .ok (.ireturn, 1) := by decide +kernel
theorem dX5_changed_131 : decode cX5_changed 131 = .ok (.aload_n 0, 1) := by decide +kernel
theorem dX5_changed_132 : decode cX5_changed 132 = .ok (.iconst 2, 1) := by decide +kernel
theorem dX5_changed_133 : decode cX5_changed 133 = .ok (.aload_n 0, 1) := by decide +kernel
theorem dX5_changed_134 : decode cX5_changed 134 = .ok (.getfield 161, 3) := by decide +kernel
theorem dX5_changed_137 : decode cX5_changed 137 = .ok (.iload_n 3, 1) := by decide +kernel
theorem dX5_changed_138 : decode cX5_changed 138 = .ok (.iand, 1) := by decide +kernel
theorem dX5_changed_139 : decode cX5_changed 139 = .ok (.ifCond .ne 7, 3) := by decide +kernel
theorem dX5_changed_142 : decode cX5_changed 142 = .ok (.iconst 1, 1) := by decide +kernel
theorem dX5_changed_143 : decode cX5_changed 143 = .ok (.goto 4, 3) := by decide +kernel
theorem dX5_changed_146 : decode cX5_changed 146 = .ok (.iconst 0, 1) := by decide +kernel
theorem dX5_changed_147 : decode cX5_changed 147 = .ok (.invokevirtual 179, 3) := by decide +kernel
theorem dX5_changed_150 : decode cX5_changed 150 = .ok (.iload_n 3, 1) := by decide +kernel
theorem dX5_changed_151 : decode cX5_changed 151 = .ok (.aload_n 0, 1) := by decide +kernel
theorem dX5_changed_152 : decode cX5_changed 152 = .ok (.getfield 161, 3) := by decide +kernel
theorem dX5_changed_155 : decode cX5_changed 155 = .ok (.ior, 1) := by decide +kernel
theorem dX5_changed_156 : decode cX5_changed 156 = .ok (.ireturn, 1) := by decide +kernel
theorem dX5_changed_157 : decode cX5_changed 157 = .ok (.aload_n 0, 1) := by decide +kernel
theorem dX5_changed_158 : decode cX5_changed 158 = .ok (.iconst 2, 1) := by decide +kernel
theorem dX5_changed_159 : decode cX5_changed 159 = .ok (.aload_n 0, 1) := by decide +kernel
theorem dX5_changed_160 : decode cX5_changed 160 = .ok (.getfield 161, 3) := by decide +kernel
theorem dX5_changed_163 : decode cX5_changed 163 = .ok (.iload_n 3, 1) := by decide +kernel
theorem dX5_changed_164 : decode cX5_changed 164 = .ok (.iand, 1) := by decide +kernel
theorem dX5_changed_165 : decode cX5_changed 165 = .ok (.ifCond .ne 7, 3) := by decide +kernel
theorem dX5_changed_168 : decode cX5_changed 168 = .ok (.iconst 1, 1) := by decide +kernel
theorem dX5_changed_169 : decode cX5_changed 169 = .ok (.goto 4, 3) := by decide +kernel
theorem dX5_changed_172 : decode cX5_changed 172 = .ok (.iconst 0, 1) := by decide +kernel
theorem dX5_changed_173 : decode cX5_changed 173 = .ok (.invokevirtual 179, 3) := by decide +kernel
theorem dX5_changed_176 : decode cX5_changed 176 = .ok (.iload_n 3, 1) := by decide +kernel
theorem dX5_changed_177 : decode cX5_changed 177 = .ok (.aload_n 0, 1) := by decide +kernel
theorem dX5_changed_178 : decode cX5_changed 178 = .ok (.getfield 161, 3) := by decide +kernel
theorem dX5_changed_181 : decode cX5_changed 181 = .ok (.iconst (-1), 1) := by decide +kernel
theorem dX5_changed_182 : decode cX5_changed 182 = .ok (.ixor, 1) := by decide +kernel
theorem dX5_changed_183 : decode cX5_changed 183 = .ok (.iand, 1) := by decide +kernel
theorem dX5_changed_184 : decode cX5_changed 184 = .ok (.ireturn, 1) := by decide +kernel
theorem dX5_changed_185 : decode cX5_changed 185 = .ok (.iload_n 3, 1) := by decide +kernel
theorem dX5_changed_186 : decode cX5_changed 186 = .ok (.iconst 1, 1) := by decide +kernel
theorem dX5_changed_187 : decode cX5_changed 187 = .ok (.iload_n 2, 1) := by decide +kernel
theorem dX5_changed_188 : decode cX5_changed 188 = .ok (.ishl, 1) := by decide +kernel
theorem dX5_changed_189 : decode cX5_changed 189 = .ok (.iconst (-1), 1) := by decide +kernel
theorem dX5_changed_190 : decode cX5_changed 190 = .ok (.ixor, 1) := by decide +kernel
theorem dX5_changed_191 : decode cX5_changed 191 = .ok (.iand, 1) := by decide +kernel
theorem dX5_changed_192 : decode cX5_changed 192 = .ok (.ireturn, 1) := by decide +kernel
theorem dX5_changed_193 : decode cX5_changed 193 = .ok (.iload_n 3, 1) := by decide +kernel
theorem dX5_changed_194 : decode cX5_changed 194 = .ok (.iconst 1, 1) := by decide +kernel
theorem dX5_changed_195 : decode cX5_changed 195 = .ok (.iload_n 2, 1) := by decide +kernel
theorem dX5_changed_196 : decode cX5_changed 196 = .ok (.ishl, 1) := by decide +kernel
theorem dX5_changed_197 : decode cX5_changed 197 = .ok (.ior, 1) := by decide +kernel
theorem dX5_changed_198 : decode cX5_changed 198 = .ok (.ireturn, 1) := by decide +kernel
set_option maxRecDepth 20000 in
theorem ggX5_shifted_X5_mark : GoodIn wsX5_shifted wsX5_mark := goodIn_r _ [5, 6, 11, 12, 13, 14, 15, 16, 17, 18, 19, 20, 21, 22, 23, 24, 25] (by decide +kernel) (by decide +kernel)
set_option maxRecDepth 20000 in
theorem gX5_shifted_X5_mark : GoodIn wsX5_shifted (wsV RX5 179 RX5 yX5_mark wsX5_mark) := goodIn_app (goodIn_of _ (by decide +kernel)) ggX5_shifted_X5_mark
set_option maxRecDepth 20000 in
theorem ggX5_shifted_X5_shown : GoodIn wsX5_shifted wsX5_shown := goodIn_r _ [10, 6, 11, 12, 13, 14, 15, 16, 17, 18, 19, 20, 21, 22, 23, 24, 25] (by decide +kernel) (by decide +kernel)
set_option maxRecDepth 20000 in
theorem gX5_shifted_X5_shown : GoodIn wsX5_shifted (wsV RX5 164 RX5 yX5_shown wsX5_shown) := goodIn_app (goodIn_of _ (by decide +kernel)) ggX5_shifted_X5_shown
theorem dX5_shifted_0 : decode cX5_shifted 0 = .ok (.aload_n 0, 1) := by decide +kernel
theorem dX5_shifted_1 : decode cX5_shifted 1 = .ok (.iconst 1, 1) := by decide +kernel
theorem dX5_shifted_2 : decode cX5_shifted 2 = .ok (.iload_n 2, 1) := by decide +kernel
theorem dX5_shifted_3 : decode cX5_shifted 3 = .ok (.ifCond .eq 7, 3) := by decide +kernel
theorem dX5_shifted_6 : decode cX5_shifted 6 = .ok (.iconst 1, 1) := by decide +kernel
theorem dX5_shifted_7 : decode cX5_shifted 7 = .ok (.goto 4, 3) := by decide +kernel
theorem dX5_shifted_10 : decode cX5_shifted 10 = .ok (.iconst 0, 1) := by decide +kernel
theorem dX5_shifted_11 : decode cX5_shifted 11 = .ok (.invokevirtual 179, 3) := by decide +kernel
theorem dX5_shifted_14 : decode cX5_shifted 14 = .ok (.aload_n 0, 1) := by decide +kernel
theorem dX5_shifted_15 : decode cX5_shifted 15 = .ok (.iload_n 1, 1) := by decide +kernel
theorem dX5_shifted_16 : decode cX5_shifted 16 = .ok (.invokevirtual 164, 3) := by decide +kernel
theorem dX5_shifted_19 : decode cX5_shifted 19 = .ok (.ireturn, 1) := by decide +kernel
set_option maxRecDepth 20000 in
theorem ggX5_move_X5_shown : GoodIn wsX5_move wsX5_shown := goodIn_r _ [9, 10, 11, 12, 13, 14, 15, 16, 17, 18, 19, 20, 21, 22, 23, 24, 25] (by decide +kernel) (by decide +kernel)
set_option maxRecDepth 20000 in
theorem gX5_move_X5_shown : GoodIn wsX5_move (wsV RX5 164 RX5 yX5_shown wsX5_shown) := goodIn_app (goodIn_of _ (by decide +kernel)) ggX5_move_X5_shown
theorem dX5_move_0 : decode cX5_move 0 = .ok (.iload_n 1, 1) := by decide +kernel
theorem dX5_move_1 : decode cX5_move 1 = .ok (.tableswitch 194 48 56 #[51, 68, 85, 102, 119, 134, 149, 164, 179], 51) := by decide +kernel
theorem dX5_move_52 : decode cX5_move 52 = .ok (.aload_n 0, 1) := by decide +kernel
theorem dX5_move_53 : decode cX5_move 53 = .ok (.aload_n 0, 1) := by decide +kernel
theorem dX5_move_54 : decode cX5_move 54 = .ok (.aload_n 0, 1) := by decide +kernel
theorem dX5_move_55 : decode cX5_move 55 = .ok (.getfield 149, 3) := by decide +kernel
theorem dX5_move_58 : decode cX5_move 58 = .ok (.iconst 1, 1) := by decide +kernel
theorem dX5_move_59 : decode cX5_move 59 = .ok (.iadd, 1) := by decide +kernel
theorem dX5_move_60 : decode cX5_move 60 = .ok (.invokevirtual 164, 3) := by decide +kernel
theorem dX5_move_63 : decode cX5_move 63 = .ok (.putfield 149, 3) := by decide +kernel
theorem dX5_move_66 : decode cX5_move 66 = .ok (.goto 137, 3) := by decide +kernel
theorem dX5_move_69 : decode cX5_move 69 = .ok (.aload_n 0, 1) := by decide +kernel
theorem dX5_move_70 : decode cX5_move 70 = .ok (.aload_n 0, 1) := by decide +kernel
theorem dX5_move_71 : decode cX5_move 71 = .ok (.aload_n 0, 1) := by decide +kernel
theorem dX5_move_72 : decode cX5_move 72 = .ok (.getfield 152, 3) := by decide +kernel
theorem dX5_move_75 : decode cX5_move 75 = .ok (.iconst 1, 1) := by decide +kernel
theorem dX5_move_76 : decode cX5_move 76 = .ok (.iadd, 1) := by decide +kernel
theorem dX5_move_77 : decode cX5_move 77 = .ok (.invokevirtual 164, 3) := by decide +kernel
theorem dX5_move_80 : decode cX5_move 80 = .ok (.putfield 152, 3) := by decide +kernel
theorem dX5_move_83 : decode cX5_move 83 = .ok (.goto 120, 3) := by decide +kernel
theorem dX5_move_86 : decode cX5_move 86 = .ok (.aload_n 0, 1) := by decide +kernel
theorem dX5_move_87 : decode cX5_move 87 = .ok (.aload_n 0, 1) := by decide +kernel
theorem dX5_move_88 : decode cX5_move 88 = .ok (.aload_n 0, 1) := by decide +kernel
theorem dX5_move_89 : decode cX5_move 89 = .ok (.getfield 149, 3) := by decide +kernel
theorem dX5_move_92 : decode cX5_move 92 = .ok (.iconst 1, 1) := by decide +kernel
theorem dX5_move_93 : decode cX5_move 93 = .ok (.isub, 1) := by decide +kernel
theorem dX5_move_94 : decode cX5_move 94 = .ok (.invokevirtual 164, 3) := by decide +kernel
theorem dX5_move_97 : decode cX5_move 97 = .ok (.putfield 149, 3) := by decide +kernel
theorem dX5_move_100 : decode cX5_move 100 = .ok (.goto 103, 3) := by decide +kernel
theorem dX5_move_103 : decode cX5_move 103 = .ok (.aload_n 0, 1) := by decide +kernel
theorem dX5_move_104 : decode cX5_move 104 = .ok (.aload_n 0, 1) := by decide +kernel
theorem dX5_move_105 : decode cX5_move 105 = .ok (.aload_n 0, 1) := by decide +kernel
theorem dX5_move_106 : decode cX5_move 106 = .ok (.getfield 152, 3) := by decide +kernel
theorem dX5_move_109 : decode cX5_move 109 = .ok (.iconst 1, 1) := by decide +kernel
theorem dX5_move_110 : decode cX5_move 110 = .ok (.isub, 1) := by decide +kernel
theorem dX5_move_111 : decode cX5_move 111 = .ok (.invokevirtual 164, 3) := by decide +kernel
theorem dX5_move_114 : decode cX5_move 114 = .ok (.putfield 152, 3) := by decide +kernel
theorem dX5_move_117 : decode cX5_move 117 = .ok (.goto 86, 3) := by decide +kernel
theorem dX5_move_120 : decode cX5_move 120 = .ok (.aload_n 0, 1) := by decide +kernel
theorem dX5_move_121 : decode cX5_move 121 = .ok (.aload_n 0, 1) := by decide +kernel
theorem dX5_move_122 : decode cX5_move 122 = .ok (.aload_n 0, 1) := by decide +kernel
theorem dX5_move_123 : decode cX5_move 123 = .ok (.getfield 161, 3) := by decide +kernel
theorem dX5_move_126 : decode cX5_move 126 = .ok (.invokevirtual 164, 3) := by decide +kernel
theorem dX5_move_129 : decode cX5_move 129 = .ok (.putfield 149, 3) := by decide +kernel
theorem dX5_move_132 : decode cX5_move 132 = .ok (.goto 71, 3) := by decide +kernel
theorem dX5_move_135 : decode cX5_move 135 = .ok (.aload_n 0, 1) := by decide +kernel
theorem dX5_move_136 : decode cX5_move 136 = .ok (.aload_n 0, 1) := by decide +kernel
theorem dX5_move_137 : decode cX5_move 137 = .ok (.aload_n 0, 1) := by decide +kernel
theorem dX5_move_138 : decode cX5_move 138 = .ok (.getfield 161, 3) := by decide +kernel
theorem dX5_move_141 : decode cX5_move 141 = .ok (.invokevirtual 164, 3) := by decide +kernel
theorem dX5_move_144 : decode cX5_move 144 = .ok (.putfield 152, 3) := by decide +kernel
theorem dX5_move_147 : decode cX5_move 147 = .ok (.goto 56, 3) := by decide +kernel
theorem dX5_move_150 : decode cX5_move 150 = .ok (.aload_n 0, 1) := by decide +kernel
theorem dX5_move_151 : decode cX5_move 151 = .ok (.aload_n 0, 1) := by decide +kernel
theorem dX5_move_152 : decode cX5_move 152 = .ok (.aload_n 0, 1) := by decide +kernel
theorem dX5_move_153 : decode cX5_move 153 = .ok (.getfield 149, 3) := by decide +kernel
theorem dX5_move_156 : decode cX5_move 156 = .ok (.invokevirtual 164, 3) := by decide +kernel
theorem dX5_move_159 : decode cX5_move 159 = .ok (.putfield 161, 3) := by decide +kernel
theorem dX5_move_162 : decode cX5_move 162 = .ok (.goto 41, 3) := by decide +kernel
theorem dX5_move_165 : decode cX5_move 165 = .ok (.aload_n 0, 1) := by decide +kernel
theorem dX5_move_166 : decode cX5_move 166 = .ok (.aload_n 0, 1) := by decide +kernel
theorem dX5_move_167 : decode cX5_move 167 = .ok (.aload_n 0, 1) := by decide +kernel
theorem dX5_move_168 : decode cX5_move 168 = .ok (.getfield 152, 3) := by decide +kernel
theorem dX5_move_171 : decode cX5_move 171 = .ok (.invokevirtual 164, 3) := by decide +kernel
theorem dX5_move_174 : decode cX5_move 174 = .ok (.putfield 161, 3) := by decide +kernel
theorem dX5_move_177 : decode cX5_move 177 = .ok (.goto 26, 3) := by decide +kernel
theorem dX5_move_180 : decode cX5_move 180 = .ok (.aload_n 0, 1) := by decide +kernel
theorem dX5_move_181 : decode cX5_move 181 = .ok (.aload_n 0, 1) := by decide +kernel
theorem dX5_move_182 : decode cX5_move 182 = .ok (.aload_n 0, 1) := by decide +kernel
theorem dX5_move_183 : decode cX5_move 183 = .ok (.getfield 24, 3) := by decide +kernel
theorem dX5_move_186 : decode cX5_move 186 = .ok (.invokevirtual 164, 3) := by decide +kernel
theorem dX5_move_189 : decode cX5_move 189 = .ok (.putfield 149, 3) := by decide +kernel
theorem dX5_move_192 : decode cX5_move 192 = .ok (.goto 11, 3) := by decide +kernel
theorem dX5_move_195 : decode cX5_move 195 = .ok (.aload_n 0, 1) := by decide +kernel
theorem dX5_move_196 : decode cX5_move 196 = .ok (.aload_n 0, 1) := by decide +kernel
theorem dX5_move_197 : decode cX5_move 197 = .ok (.getfield 149, 3) := by decide +kernel
theorem dX5_move_200 : decode cX5_move 200 = .ok (.putfield 24, 3) := by decide +kernel
theorem dX5_move_203 : decode cX5_move 203 = .ok (.return_, 1) := by decide +kernel
set_option maxRecDepth 20000 in
theorem ggX5_changeState_X5_mark : GoodIn wsX5_changeState wsX5_mark := goodIn_r _ [7, 8, 9, 10, 11, 12, 13, 14, 15, 16, 17, 18, 19, 20, 21, 22, 23] (by decide +kernel) (by decide +kernel)
set_option maxRecDepth 20000 in
theorem gX5_changeState_X5_mark : GoodIn wsX5_changeState (wsV RX5 179 RX5 yX5_mark wsX5_mark) := goodIn_app (goodIn_of _ (by decide +kernel)) ggX5_changeState_X5_mark
theorem dX5_changeState_0 : decode cX5_changeState 0 = .ok (.iload_n 1, 1) := by decide +kernel
theorem dX5_changeState_1 : decode cX5_changeState 1 = .ok (.tableswitch 137 64 73 #[55, 64, 73, 82, 91, 101, 111, 137, 121, 129], 55) := by decide +kernel
theorem dX5_changeState_56 : decode cX5_changeState 56 = .ok (.aload_n 0, 1) := by decide +kernel
theorem dX5_changeState_57 : decode cX5_changeState 57 = .ok (.iconst 1, 1) := by decide +kernel
theorem dX5_changeState_58 : decode cX5_changeState 58 = .ok (.iconst 0, 1) := by decide +kernel
theorem dX5_changeState_59 : decode cX5_changeState 59 = .ok (.invokevirtual 179, 3) := by decide +kernel
theorem dX5_changeState_62 : decode cX5_changeState 62 = .ok (.goto 76, 3) := by decide +kernel
theorem dX5_changeState_65 : decode cX5_changeState 65 = .ok (.aload_n 0, 1) := by decide +kernel
theorem dX5_changeState_66 : decode cX5_changeState 66 = .ok (.iconst 1, 1) := by decide +kernel
theorem dX5_changeState_67 : decode cX5_changeState 67 = .ok (.iconst 1, 1) := by decide +kernel
theorem dX5_changeState_68 : decode cX5_changeState 68 = .ok (.invokevirtual 179, 3) := by decide +kernel
theorem dX5_changeState_71 : decode cX5_changeState 71 = .ok (.goto 67, 3) := by decide +kernel
theorem dX5_changeState_74 : decode cX5_changeState 74 = .ok (.aload_n 0, 1) := by decide +kernel
theorem dX5_changeState_75 : decode cX5_changeState 75 = .ok (.iconst 4, 1) := by decide +kernel
theorem dX5_changeState_76 : decode cX5_changeState 76 = .ok (.iconst 0, 1) := by decide +kernel
theorem dX5_changeState_77 : decode cX5_changeState 77 = .ok (.invokevirtual 179, 3) := by decide +kernel
theorem dX5_changeState_80 : decode cX5_changeState 80 = .ok (.goto 58, 3) := by decide +kernel
theorem dX5_changeState_83 : decode cX5_changeState 83 = .ok (.aload_n 0, 1) := by decide +kernel
theorem dX5_changeState_84 : decode cX5_changeState 84 = .ok (.iconst 4, 1) := by decide +kernel
theorem dX5_changeState_85 : decode cX5_changeState 85 = .ok (.iconst 1, 1) := by decide +kernel
theorem dX5_changeState_86 : decode cX5_changeState 86 = .ok (.invokevirtual 179, 3) := by decide +kernel
theorem dX5_changeState_89 : decode cX5_changeState 89 = .ok (.goto 49, 3) := by decide +kernel
theorem dX5_changeState_92 : decode cX5_changeState 92 = .ok (.aload_n 0, 1) := by decide +kernel
theorem dX5_changeState_93 : decode cX5_changeState 93 = .ok (.bipush 64, 2) := by decide +kernel
theorem dX5_changeState_95 : decode cX5_changeState 95 = .ok (.iconst 0, 1) := by decide +kernel
theorem dX5_changeState_96 : decode cX5_changeState 96 = .ok (.invokevirtual 179, 3) := by decide +kernel
theorem dX5_changeState_99 : decode cX5_changeState 99 = .ok (.goto 39, 3) := by decide +kernel
theorem dX5_changeState_102 : decode cX5_changeState 102 = .ok (.aload_n 0, 1) := by decide +kernel
theorem dX5_changeState_103 : decode cX5_changeState 103 = .ok (.bipush 8, 2) := by decide +kernel
theorem dX5_changeState_105 : decode cX5_changeState 105 = .ok (.iconst 0, 1) := by decide +kernel
theorem dX5_changeState_106 : decode cX5_changeState 106 = .ok (.invokevirtual 179, 3) := by decide +kernel
theorem dX5_changeState_109 : decode cX5_changeState 109 = .ok (.goto 29, 3) := by decide +kernel
theorem dX5_changeState_112 : decode cX5_changeState 112 = .ok (.aload_n 0, 1) := by decide +kernel
theorem dX5_changeState_113 : decode cX5_changeState 113 = .ok (.bipush 8, 2) := by decide +kernel
theorem dX5_changeState_115 : decode cX5_changeState 115 = .ok (.iconst 1, 1) := by decide +kernel
theorem dX5_changeState_116 : decode cX5_changeState 116 = .ok (.invokevirtual 179, 3) := by decide +kernel
theorem dX5_changeState_119 : decode cX5_changeState 119 = .ok (.goto 19, 3) := by decide +kernel
theorem dX5_changeState_122 : decode cX5_changeState 122 = .ok (.aload_n 0, 1) := by decide +kernel
theorem dX5_changeState_123 : decode cX5_changeState 123 = .ok (.iconst 1, 1) := by decide +kernel
theorem dX5_changeState_124 : decode cX5_changeState 124 = .ok (.putfield 35, 3) := by decide +kernel
theorem dX5_changeState_127 : decode cX5_changeState 127 = .ok (.goto 11, 3) := by decide +kernel
theorem dX5_changeState_130 : decode cX5_changeState 130 = .ok (.aload_n 0, 1) := by decide +kernel
theorem dX5_changeState_131 : decode cX5_changeState 131 = .ok (.iconst 1, 1) := by decide +kernel
theorem dX5_changeState_132 : decode cX5_changeState 132 = .ok (.putfield 39, 3) := by decide +kernel
theorem dX5_changeState_135 : decode cX5_changeState 135 = .ok (.goto 3, 3) := by decide +kernel
theorem dX5_changeState_138 : decode cX5_changeState 138 = .ok (.return_, 1) := by decide +kernel
set_option maxRecDepth 20000 in
theorem ggX5_pushOrPull_X5_push : GoodIn wsX5_pushOrPull wsX5_push := goodIn_r _ [9, 10, 11, 12, 13, 14, 15, 16, 17, 18, 19, 20, 21, 22, 23, 24, 25, 26, 27, 28, 29, 30, 31, 32, 33, 34, 35, 36, 37, 38, 39, 40, 41, 42, 43, 44, 45, 46, 47, 48, 49, 50, 51, 52, 53, 54, 55, 56, 57, 58, 59, 60, 61, 62, 109, 110, 111, 112, 113, 114, 115, 116, 117, 118, 119, 120, 121, 122, 123, 124, 125, 126, 127, 128, 129, 130, 131, 132, 133, 134, 135, 136, 137, 138, 139, 140, 141, 142, 143] (by decide +kernel) (by decide +kernel)
set_option maxRecDepth 20000 in
theorem gX5_pushOrPull_X5_push : GoodIn wsX5_pushOrPull (wsV RX5 83 RX5 yX5_push wsX5_push) := goodIn_app (goodIn_of _ (by decide +kernel)) ggX5_pushOrPull_X5_push
set_option maxRecDepth 20000 in
theorem ggX5_pushOrPull_X5_pull : GoodIn wsX5_pushOrPull wsX5_pull := goodIn_r _ [66, 11, 10, 67, 68, 69, 15, 70, 18, 71, 72, 73, 17, 30, 25, 26, 27, 28, 29, 24, 31, 74, 75, 76, 35, 77, 37, 78, 79, 80, 81, 19, 20, 21, 22, 23, 82, 83, 84, 43, 85, 47, 45, 51, 53, 49, 54, 86, 87, 88, 58, 89, 90, 91, 92, 62, 93, 94, 95, 96, 97, 98, 99, 100, 101, 102, 103, 104, 109, 110, 111, 112, 113, 114, 115, 116, 117, 118, 119, 120, 121, 122, 123, 124, 125, 126, 127, 128, 129, 130, 131, 132, 133, 134, 135, 136, 137, 138, 139, 140, 141, 142, 143] (by decide +kernel) (by decide +kernel)
set_option maxRecDepth 20000 in
theorem gX5_pushOrPull_X5_pull : GoodIn wsX5_pushOrPull (wsV RX5 194 RX5 yX5_pull wsX5_pull) := goodIn_app (goodIn_of _ (by decide +kernel)) ggX5_pushOrPull_X5_pull
set_option maxRecDepth 20000 in
theorem ggX5_pushOrPull_X5_shown : GoodIn wsX5_pushOrPull wsX5_shown := goodIn_r _ [108, 4, 109, 110, 111, 112, 113, 114, 115, 116, 117, 118, 119, 120, 121, 122, 123] (by decide +kernel) (by decide +kernel)
set_option maxRecDepth 20000 in
theorem gX5_pushOrPull_X5_shown : GoodIn wsX5_pushOrPull (wsV RX5 164 RX5 yX5_shown wsX5_shown) := goodIn_app (goodIn_of _ (by decide +kernel)) ggX5_pushOrPull_X5_shown
theorem dX5_pushOrPull_0 : decode cX5_pushOrPull 0 = .ok (.iload_n 1, 1) := by decide +kernel
theorem dX5_pushOrPull_1 : decode cX5_pushOrPull 1 = .ok (.tableswitch 132 80 86 #[43, 54, 65, 76, 87, 102, 117], 43) := by decide +kernel
theorem dX5_pushOrPull_44 : decode cX5_pushOrPull 44 = .ok (.aload_n 0, 1) := by decide +kernel
theorem dX5_pushOrPull_45 : decode cX5_pushOrPull 45 = .ok (.aload_n 0, 1) := by decide +kernel
theorem dX5_pushOrPull_46 : decode cX5_pushOrPull 46 = .ok (.getfield 161, 3) := by decide +kernel
theorem dX5_pushOrPull_49 : decode cX5_pushOrPull 49 = .ok (.invokevirtual 83, 3) := by decide +kernel
theorem dX5_pushOrPull_52 : decode cX5_pushOrPull 52 = .ok (.goto 92, 3) := by decide +kernel
theorem dX5_pushOrPull_55 : decode cX5_pushOrPull 55 = .ok (.aload_n 0, 1) := by decide +kernel
theorem dX5_pushOrPull_56 : decode cX5_pushOrPull 56 = .ok (.aload_n 0, 1) := by decide +kernel
theorem dX5_pushOrPull_57 : decode cX5_pushOrPull 57 = .ok (.getfield 149, 3) := by decide +kernel
theorem dX5_pushOrPull_60 : decode cX5_pushOrPull 60 = .ok (.invokevirtual 83, 3) := by decide +kernel
theorem dX5_pushOrPull_63 : decode cX5_pushOrPull 63 = .ok (.goto 81, 3) := by decide +kernel
theorem dX5_pushOrPull_66 : decode cX5_pushOrPull 66 = .ok (.aload_n 0, 1) := by decide +kernel
theorem dX5_pushOrPull_67 : decode cX5_pushOrPull 67 = .ok (.aload_n 0, 1) := by decide +kernel
theorem dX5_pushOrPull_68 : decode cX5_pushOrPull 68 = .ok (.getfield 152, 3) := by decide +kernel
theorem dX5_pushOrPull_71 : decode cX5_pushOrPull 71 = .ok (.invokevirtual 83, 3) := by decide +kernel
theorem dX5_pushOrPull_74 : decode cX5_pushOrPull 74 = .ok (.goto 70, 3) := by decide +kernel
theorem dX5_pushOrPull_77 : decode cX5_pushOrPull 77 = .ok (.aload_n 0, 1) := by decide +kernel
theorem dX5_pushOrPull_78 : decode cX5_pushOrPull 78 = .ok (.aload_n 0, 1) := by decide +kernel
theorem dX5_pushOrPull_79 : decode cX5_pushOrPull 79 = .ok (.getfield 9, 3) := by decide +kernel
theorem dX5_pushOrPull_82 : decode cX5_pushOrPull 82 = .ok (.invokevirtual 83, 3) := by decide +kernel
theorem dX5_pushOrPull_85 : decode cX5_pushOrPull 85 = .ok (.goto 59, 3) := by decide +kernel
theorem dX5_pushOrPull_88 : decode cX5_pushOrPull 88 = .ok (.aload_n 0, 1) := by decide +kernel
theorem dX5_pushOrPull_89 : decode cX5_pushOrPull 89 = .ok (.aload_n 0, 1) := by decide +kernel
theorem dX5_pushOrPull_90 : decode cX5_pushOrPull 90 = .ok (.aload_n 0, 1) := by decide +kernel
theorem dX5_pushOrPull_91 : decode cX5_pushOrPull 91 = .ok (.invokevirtual 194, 3) := by decide +kernel
theorem dX5_pushOrPull_94 : decode cX5_pushOrPull 94 = .ok (.invokevirtual 164, 3) := by decide +kernel
theorem dX5_pushOrPull_97 : decode cX5_pushOrPull 97 = .ok (.putfield 161, 3) := by decide +kernel
theorem dX5_pushOrPull_100 : decode cX5_pushOrPull 100 = .ok (.goto 44, 3) := by decide +kernel
theorem dX5_pushOrPull_103 : decode cX5_pushOrPull 103 = .ok (.aload_n 0, 1) := by decide +kernel
theorem dX5_pushOrPull_104 : decode cX5_pushOrPull 104 = .ok (.aload_n 0, 1) := by decide +kernel
theorem dX5_pushOrPull_105 : decode cX5_pushOrPull 105 = .ok (.aload_n 0, 1) := by decide +kernel
theorem dX5_pushOrPull_106 : decode cX5_pushOrPull 106 = .ok (.invokevirtual 194, 3) := by decide +kernel
theorem dX5_pushOrPull_109 : decode cX5_pushOrPull 109 = .ok (.invokevirtual 164, 3) := by decide +kernel
theorem dX5_pushOrPull_112 : decode cX5_pushOrPull 112 = .ok (.putfield 149, 3) := by decide +kernel
theorem dX5_pushOrPull_115 : decode cX5_pushOrPull 115 = .ok (.goto 29, 3) := by decide +kernel
theorem dX5_pushOrPull_118 : decode cX5_pushOrPull 118 = .ok (.aload_n 0, 1) := by decide +kernel
theorem dX5_pushOrPull_119 : decode cX5_pushOrPull 119 = .ok (.aload_n 0, 1) := by decide +kernel
theorem dX5_pushOrPull_120 : decode cX5_pushOrPull 120 = .ok (.aload_n 0, 1) := by decide +kernel
theorem dX5_pushOrPull_121 : decode cX5_pushOrPull 121 = .ok (.invokevirtual 194, 3) := by decide +kernel
theorem dX5_pushOrPull_124 : decode cX5_pushOrPull 124 = .ok (.invokevirtual 164, 3) := by decide +kernel
theorem dX5_pushOrPull_127 : decode cX5_pushOrPull 127 = .ok (.putfield 152, 3) := by decide +kernel
theorem dX5_pushOrPull_130 : decode cX5_pushOrPull 130 = .ok (.goto 14, 3) := by decide +kernel
theorem dX5_pushOrPull_133 : decode cX5_pushOrPull 133 = .ok (.aload_n 0, 1) := by decide +kernel
theorem dX5_pushOrPull_134 : decode cX5_pushOrPull 134 = .ok (.aload_n 0, 1) := by decide +kernel
theorem dX5_pushOrPull_135 : decode cX5_pushOrPull 135 = .ok (.invokevirtual 194, 3) := by decide +kernel
theorem dX5_pushOrPull_138 : decode cX5_pushOrPull 138 = .ok (.bipush 48, 2) := by decide +kernel
theorem dX5_pushOrPull_140 : decode cX5_pushOrPull 140 = .ok (.ior, 1) := by decide +kernel
theorem dX5_pushOrPull_141 : decode cX5_pushOrPull 141 = .ok (.putfield 9, 3) := by decide +kernel
theorem dX5_pushOrPull_144 : decode cX5_pushOrPull 144 = .ok (.return_, 1) := by decide +kernel
set_option maxRecDepth 20000 in
theorem ggX5_branch_X5_goIf : GoodIn wsX5_branch wsX5_goIf := goodIn_r _ [7, 8, 9, 10, 76, 77, 78, 79, 80, 81, 82, 83, 84, 85, 86, 87, 88, 89, 90] (by decide +kernel) (by decide +kernel)
set_option maxRecDepth 20000 in
theorem gX5_branch_X5_goIf : GoodIn wsX5_branch (wsV RX5 197 RX5 yX5_goIf wsX5_goIf) := goodIn_app (goodIn_of _ (by decide +kernel)) ggX5_branch_X5_goIf
set_option maxRecDepth 20000 in
theorem ggX5_branch_X0_read : GoodIn wsX5_branch wsX0_read := goodIn_r _ [15, 16, 17, 18, 14, 19, 20, 21, 22, 23, 24, 25, 26, 27, 28, 29, 30, 31, 32, 33, 34, 35, 36, 37, 38, 39, 40, 41, 42, 43, 44, 45, 46, 47, 48, 49, 50, 51, 52, 53, 54, 55, 56, 57, 58, 59, 60, 61, 62, 63, 64, 65, 66, 67, 68, 69, 70, 71, 72, 73, 74, 75, 91, 92, 93, 94, 95, 96, 97, 98, 99, 100, 101, 102, 103, 104, 105, 106, 107, 108, 109, 110] (by decide +kernel) (by decide +kernel)
set_option maxRecDepth 20000 in
theorem gX5_branch_X0_read : GoodIn wsX5_branch (wsV RX5 86 RX0 yX0_read wsX0_read) := goodIn_app (goodIn_of _ (by decide +kernel)) ggX5_branch_X0_read
theorem dX5_branch_0 : decode cX5_branch 0 = .ok (.iload_n 1, 1) := by decide +kernel
theorem dX5_branch_1 : decode cX5_branch 1 = .ok (.tableswitch 311 96 106 #[59, 83, 107, 130, 153, 175, 197, 219, 311, 241, 276], 59) := by decide +kernel
theorem dX5_branch_60 : decode cX5_branch 60 = .ok (.aload_n 0, 1) := by decide +kernel
theorem dX5_branch_61 : decode cX5_branch 61 = .ok (.aload_n 0, 1) := by decide +kernel
theorem dX5_branch_62 : decode cX5_branch 62 = .ok (.getfield 9, 3) := by decide +kernel
theorem dX5_branch_65 : decode cX5_branch 65 = .ok (.sipush 128, 3) := by decide +kernel
theorem dX5_branch_68 : decode cX5_branch 68 = .ok (.iand, 1) := by decide +kernel
theorem dX5_branch_69 : decode cX5_branch 69 = .ok (.ifCond .ne 7, 3) := by decide +kernel
theorem dX5_branch_72 : decode cX5_branch 72 = .ok (.iconst 1, 1) := by decide +kernel
theorem dX5_branch_73 : decode cX5_branch 73 = .ok (.goto 4, 3) := by decide +kernel
theorem dX5_branch_76 : decode cX5_branch 76 = .ok (.iconst 0, 1) := by decide +kernel
theorem dX5_branch_77 : decode cX5_branch 77 = .ok (.iload_n 3, 1) := by decide +kernel
theorem dX5_branch_78 : decode cX5_branch 78 = .ok (.invokevirtual 197, 3) := by decide +kernel
theorem dX5_branch_81 : decode cX5_branch 81 = .ok (.goto 237, 3) := by decide +kernel
theorem dX5_branch_84 : decode cX5_branch 84 = .ok (.aload_n 0, 1) := by decide +kernel
theorem dX5_branch_85 : decode cX5_branch 85 = .ok (.aload_n 0, 1) := by decide +kernel
theorem dX5_branch_86 : decode cX5_branch 86 = .ok (.getfield 9, 3) := by decide +kernel
theorem dX5_branch_89 : decode cX5_branch 89 = .ok (.sipush 128, 3) := by decide +kernel
theorem dX5_branch_92 : decode cX5_branch 92 = .ok (.iand, 1) := by decide +kernel
theorem dX5_branch_93 : decode cX5_branch 93 = .ok (.ifCond .eq 7, 3) := by decide +kernel
theorem dX5_branch_96 : decode cX5_branch 96 = .ok (.iconst 1, 1) := by decide +kernel
theorem dX5_branch_97 : decode cX5_branch 97 = .ok (.goto 4, 3) := by decide +kernel
theorem dX5_branch_100 : decode cX5_branch 100 = .ok (.iconst 0, 1) := by decide +kernel
theorem dX5_branch_101 : decode cX5_branch 101 = .ok (.iload_n 3, 1) := by decide +kernel
theorem dX5_branch_102 : decode cX5_branch 102 = .ok (.invokevirtual 197, 3) := by decide +kernel
theorem dX5_branch_105 : decode cX5_branch 105 = .ok (.goto 213, 3) := by decide +kernel
theorem dX5_branch_108 : decode cX5_branch 108 = .ok (.aload_n 0, 1) := by decide +kernel
theorem dX5_branch_109 : decode cX5_branch 109 = .ok (.aload_n 0, 1) := by decide +kernel
theorem dX5_branch_110 : decode cX5_branch 110 = .ok (.getfield 9, 3) := by decide +kernel
theorem dX5_branch_113 : decode cX5_branch 113 = .ok (.bipush 64, 2) := by decide +kernel
theorem dX5_branch_115 : decode cX5_branch 115 = .ok (.iand, 1) := by decide +kernel
theorem dX5_branch_116 : decode cX5_branch 116 = .ok (.ifCond .ne 7, 3) := by decide +kernel
theorem dX5_branch_119 : decode cX5_branch 119 = .ok (.iconst 1, 1) := by decide +kernel
theorem dX5_branch_120 : decode cX5_branch 120 = .ok (.goto 4, 3) := by decide +kernel
theorem dX5_branch_123 : decode cX5_branch 123 = .ok (.iconst 0, 1) := by decide +kernel
theorem dX5_branch_124 : decode cX5_branch 124 = .ok (.iload_n 3, 1) := by decide +kernel
theorem dX5_branch_125 : decode cX5_branch 125 = .ok (.invokevirtual 197, 3) := by decide +kernel
theorem dX5_branch_128 : decode cX5_branch 128 = .ok (.goto 190, 3) := by decide +kernel
theorem dX5_branch_131 : decode cX5_branch 131 = .ok (.aload_n 0, 1) := by decide +kernel
theorem dX5_branch_132 : decode cX5_branch 132 = .ok (.aload_n 0, 1) := by decide +kernel
theorem dX5_branch_133 : decode cX5_branch 133 = .ok (.getfield 9, 3) := by decide +kernel
theorem dX5_branch_136 : decode cX5_branch 136 = .ok (.bipush 64, 2) := by decide +kernel
theorem dX5_branch_138 : decode cX5_branch 138 = .ok (.iand, 1) := by decide +kernel
theorem dX5_branch_139 : decode cX5_branch 139 = .ok (.ifCond .eq 7, 3) := by decide +kernel
theorem dX5_branch_142 : decode cX5_branch 142 = .ok (.iconst 1, 1) := by decide +kernel
theorem dX5_branch_143 : decode cX5_branch 143 = .ok (.goto 4, 3) := by decide +kernel
theorem dX5_branch_146 : decode cX5_branch 146 = .ok (.iconst 0, 1) := by decide +kernel
theorem dX5_branch_147 : decode cX5_branch 147 = .ok (.iload_n 3, 1) := by decide +kernel
theorem dX5_branch_148 : decode cX5_branch 148 = .ok (.invokevirtual 197, 3) := by decide +kernel
theorem dX5_branch_151 : decode cX5_branch 151 = .ok (.goto 167, 3) := by decide +kernel
theorem dX5_branch_154 : decode cX5_branch 154 = .ok (.aload_n 0, 1) := by decide +kernel
theorem dX5_branch_155 : decode cX5_branch 155 = .ok (.aload_n 0, 1) := by decide +kernel
theorem dX5_branch_156 : decode cX5_branch 156 = .ok (.getfield 9, 3) := by decide +kernel
theorem dX5_branch_159 : decode cX5_branch 159 = .ok (.iconst 1, 1) := by decide +kernel
theorem dX5_branch_160 : decode cX5_branch 160 = .ok (.iand, 1) := by decide +kernel
theorem dX5_branch_161 : decode cX5_branch 161 = .ok (.ifCond .ne 7, 3) := by decide +kernel
theorem dX5_branch_164 : decode cX5_branch 164 = .ok (.iconst 1, 1) := by decide +kernel
theorem dX5_branch_165 : decode cX5_branch 165 = .ok (.goto 4, 3) := by decide +kernel
theorem dX5_branch_168 : decode cX5_branch 168 = .ok (.iconst 0, 1) := by decide +kernel
theorem dX5_branch_169 : decode cX5_branch 169 = .ok (.iload_n 3, 1) := by decide +kernel
theorem dX5_branch_170 : decode cX5_branch 170 = .ok (.invokevirtual 197, 3) := by decide +kernel
theorem dX5_branch_173 : decode cX5_branch 173 = .ok (.goto 145, 3) := by decide +kernel
theorem dX5_branch_176 : decode cX5_branch 176 = .ok (.aload_n 0, 1) := by decide +kernel
theorem dX5_branch_177 : decode cX5_branch 177 = .ok (.aload_n 0, 1) := by decide +kernel
theorem dX5_branch_178 : decode cX5_branch 178 = .ok (.getfield 9, 3) := by decide +kernel
theorem dX5_branch_181 : decode cX5_branch 181 = .ok (.iconst 1, 1) := by decide +kernel
theorem dX5_branch_182 : decode cX5_branch 182 = .ok (.iand, 1) := by decide +kernel
theorem dX5_branch_183 : decode cX5_branch 183 = .ok (.ifCond .eq 7, 3) := by decide +kernel
theorem dX5_branch_186 : decode cX5_branch 186 = .ok (.iconst 1, 1) := by decide +kernel
theorem dX5_branch_187 : decode cX5_branch 187 = .ok (.goto 4, 3) := by decide +kernel
theorem dX5_branch_190 : decode cX5_branch 190 = .ok (.iconst 0, 1) := by decide +kernel
theorem dX5_branch_191 : decode cX5_branch 191 = .ok (.iload_n 3, 1) := by decide +kernel
theorem dX5_branch_192 : decode cX5_branch 192 = .ok (.invokevirtual 197, 3) := by decide +kernel
theorem dX5_branch_195 : decode cX5_branch 195 = .ok (.goto 123, 3) := by decide +kernel
theorem dX5_branch_198 : decode cX5_branch 198 = .ok (.aload_n 0, 1) := by decide +kernel
theorem dX5_branch_199 : decode cX5_branch 199 = .ok (.aload_n 0, 1) := by decide +kernel
theorem dX5_branch_200 : decode cX5_branch 200 = .ok (.getfield 9, 3) := by decide +kernel
theorem dX5_branch_203 : decode cX5_branch 203 = .ok (.iconst 2, 1) := by decide +kernel
theorem dX5_branch_204 : decode cX5_branch 204 = .ok (.iand, 1) := by decide +kernel
theorem dX5_branch_205 : decode cX5_branch 205 = .ok (.ifCond .ne 7, 3) := by decide +kernel
theorem dX5_branch_208 : decode cX5_branch 208 = .ok (.iconst 1, 1) := by decide +kernel
theorem dX5_branch_209 : decode cX5_branch 209 = .ok (.goto 4, 3) := by decide +kernel
theorem dX5_branch_212 : decode cX5_branch 212 = .ok (.iconst 0, 1) := by decide +kernel
theorem dX5_branch_213 : decode cX5_branch 213 = .ok (.iload_n 3, 1) := by decide +kernel
theorem dX5_branch_214 : decode cX5_branch 214 = .ok (.invokevirtual 197, 3) := by decide +kernel
theorem dX5_branch_217 : decode cX5_branch 217 = .ok (.goto 101, 3) := by decide +kernel
theorem dX5_branch_220 : decode cX5_branch 220 = .ok (.aload_n 0, 1) := by decide +kernel
theorem dX5_branch_221 : decode cX5_branch 221 = .ok (.aload_n 0, 1) := by decide +kernel
theorem dX5_branch_222 : decode cX5_branch 222 = .ok (.getfield 9, 3) := by decide +kernel
theorem dX5_branch_225 : decode cX5_branch 225 = .ok (.iconst 2, 1) := by decide +kernel
theorem dX5_branch_226 : decode cX5_branch 226 = .ok (.iand, 1) := by decide +kernel
theorem dX5_branch_227 : decode cX5_branch 227 = .ok (.ifCond .eq 7, 3) := by decide +kernel
theorem dX5_branch_230 : decode cX5_branch 230 = .ok (.iconst 1, 1) := by decide +kernel
theorem dX5_branch_231 : decode cX5_branch 231 = .ok (.goto 4, 3) := by decide +kernel
theorem dX5_branch_234 : decode cX5_branch 234 = .ok (.iconst 0, 1) := by decide +kernel
theorem dX5_branch_235 : decode cX5_branch 235 = .ok (.iload_n 3, 1) := by decide +kernel
theorem dX5_branch_236 : decode cX5_branch 236 = .ok (.invokevirtual 197, 3) := by decide +kernel
theorem dX5_branch_239 : decode cX5_branch 239 = .ok (.goto 79, 3) := by decide +kernel
theorem dX5_branch_242 : decode cX5_branch 242 = .ok (.aload_n 0, 1) := by decide +kernel
theorem dX5_branch_243 : decode cX5_branch 243 = .ok (.aload_n 0, 1) := by decide +kernel
theorem dX5_branch_244 : decode cX5_branch 244 = .ok (.getfield 20, 3) := by decide +kernel
theorem dX5_branch_247 : decode cX5_branch 247 = .ok (.iload_n 3, 1) := by decide +kernel
theorem dX5_branch_248 : decode cX5_branch 248 = .ok (.sipush 255, 3) := by decide +kernel
theorem dX5_branch_251 : decode cX5_branch 251 = .ok (.iand, 1) := by decide +kernel
theorem dX5_branch_252 : decode cX5_branch 252 = .ok (.invokevirtual 86, 3) := by decide +kernel
theorem dX5_branch_255 : decode cX5_branch 255 = .ok (.iload_n 2, 1) := by decide +kernel
theorem dX5_branch_256 : decode cX5_branch 256 = .ok (.ishr, 1) := by decide +kernel
theorem dX5_branch_257 : decode cX5_branch 257 = .ok (.iconst 1, 1) := by decide +kernel
theorem dX5_branch_258 : decode cX5_branch 258 = .ok (.iand, 1) := by decide +kernel
theorem dX5_branch_259 : decode cX5_branch 259 = .ok (.ifCond .ne 7, 3) := by decide +kernel
theorem dX5_branch_262 : decode cX5_branch 262 = .ok (.iconst 1, 1) := by decide +kernel
theorem dX5_branch_263 : decode cX5_branch 263 = .ok (.goto 4, 3) := by decide +kernel
theorem dX5_branch_266 : decode cX5_branch 266 = .ok (.iconst 0, 1) := by decide +kernel
theorem dX5_branch_267 : decode cX5_branch 267 = .ok (.iload_n 3, 1) := by decide +kernel
theorem dX5_branch_268 : decode cX5_branch 268 = .ok (.bipush 8, 2) := by decide +kernel
theorem dX5_branch_270 : decode cX5_branch 270 = .ok (.ishr, 1) := by decide +kernel
theorem dX5_branch_271 : decode cX5_branch 271 = .ok (.invokevirtual 197, 3) := by decide +kernel
theorem dX5_branch_274 : decode cX5_branch 274 = .ok (.goto 44, 3) := by decide +kernel
theorem dX5_branch_277 : decode cX5_branch 277 = .ok (.aload_n 0, 1) := by decide +kernel
theorem dX5_branch_278 : decode cX5_branch 278 = .ok (.aload_n 0, 1) := by decide +kernel
theorem dX5_branch_279 : decode cX5_branch 279 = .ok (.getfield 20, 3) := by decide +kernel
theorem dX5_branch_282 : decode cX5_branch 282 = .ok (.iload_n 3, 1) := by decide +kernel
theorem dX5_branch_283 : decode cX5_branch 283 = .ok (.sipush 255, 3) := by decide +kernel
theorem dX5_branch_286 : decode cX5_branch 286 = .ok (.iand, 1) := by decide +kernel
theorem dX5_branch_287 : decode cX5_branch 287 = .ok (.invokevirtual 86, 3) := by decide +kernel
theorem dX5_branch_290 : decode cX5_branch 290 = .ok (.iload_n 2, 1) := by decide +kernel
theorem dX5_branch_291 : decode cX5_branch 291 = .ok (.ishr, 1) := by decide +kernel
theorem dX5_branch_292 : decode cX5_branch 292 = .ok (.iconst 1, 1) := by decide +kernel
theorem dX5_branch_293 : decode cX5_branch 293 = .ok (.iand, 1) := by decide +kernel
theorem dX5_branch_294 : decode cX5_branch 294 = .ok (.ifCond .eq 7, 3) := by decide +kernel
theorem dX5_branch_297 : decode cX5_branch 297 = .ok (.iconst 1, 1) := by decide +kernel
theorem dX5_branch_298 : decode cX5_branch 298 = .ok (.goto 4, 3) := by decide +kernel
theorem dX5_branch_301 : decode cX5_branch 301 = .ok (.iconst 0, 1) := by decide +kernel
theorem dX5_branch_302 : decode cX5_branch 302 = .ok (.iload_n 3, 1) := by decide +kernel
theorem dX5_branch_303 : decode cX5_branch 303 = .ok (.bipush 8, 2) := by decide +kernel
theorem dX5_branch_305 : decode cX5_branch 305 = .ok (.ishr, 1) := by decide +kernel
theorem dX5_branch_306 : decode cX5_branch 306 = .ok (.invokevirtual 197, 3) := by decide +kernel
theorem dX5_branch_309 : decode cX5_branch 309 = .ok (.goto 9, 3) := by decide +kernel
theorem dX5_branch_312 : decode cX5_branch 312 = .ok (.aload_n 0, 1) := by decide +kernel
theorem dX5_branch_313 : decode cX5_branch 313 = .ok (.iconst 1, 1) := by decide +kernel
theorem dX5_branch_314 : decode cX5_branch 314 = .ok (.iload_n 3, 1) := by decide +kernel
theorem dX5_branch_315 : decode cX5_branch 315 = .ok (.invokevirtual 197, 3) := by decide +kernel
theorem dX5_branch_318 : decode cX5_branch 318 = .ok (.return_, 1) := by decide +kernel
theorem dX5_goIf_0 : decode cX5_goIf 0 = .ok (.iload_n 1, 1) := by decide +kernel
theorem dX5_goIf_1 : decode cX5_goIf 1 = .ok (.ifCond .ne 4, 3) := by decide +kernel
theorem dX5_goIf_4 : decode cX5_goIf 4 = .ok (.return_, 1) := by decide +kernel
theorem dX5_goIf_5 : decode cX5_goIf 5 = .ok (.aload_n 0, 1) := by decide +kernel
theorem dX5_goIf_6 : decode cX5_goIf 6 = .ok (.getfield 32, 3) := by decide +kernel
theorem dX5_goIf_9 : decode cX5_goIf 9 = .ok (.istore_n 3, 1) := by decide +kernel
theorem dX5_goIf_10 : decode cX5_goIf 10 = .ok (.aload_n 0, 1) := by decide +kernel
theorem dX5_goIf_11 : decode cX5_goIf 11 = .ok (.aload_n 0, 1) := by decide +kernel
theorem dX5_goIf_12 : decode cX5_goIf 12 = .ok (.getfield 32, 3) := by decide +kernel
theorem dX5_goIf_15 : decode cX5_goIf 15 = .ok (.iload_n 2, 1) := by decide +kernel
theorem dX5_goIf_16 : decode cX5_goIf 16 = .ok (.i2b, 1) := by decide +kernel
theorem dX5_goIf_17 : decode cX5_goIf 17 = .ok (.iadd, 1) := by decide +kernel
theorem dX5_goIf_18 : decode cX5_goIf 18 = .ok (.ldc 148, 2) := by decide +kernel
theorem dX5_goIf_20 : decode cX5_goIf 20 = .ok (.iand, 1) := by decide +kernel
theorem dX5_goIf_21 : decode cX5_goIf 21 = .ok (.putfield 32, 3) := by decide +kernel
theorem dX5_goIf_24 : decode cX5_goIf 24 = .ok (.aload_n 0, 1) := by decide +kernel
theorem dX5_goIf_25 : decode cX5_goIf 25 = .ok (.dup, 1) := by decide +kernel
theorem dX5_goIf_26 : decode cX5_goIf 26 = .ok (.getfield 57, 3) := by decide +kernel
theorem dX5_goIf_29 : decode cX5_goIf 29 = .ok (.aload_n 0, 1) := by decide +kernel
theorem dX5_goIf_30 : decode cX5_goIf 30 = .ok (.getfield 32, 3) := by decide +kernel
theorem dX5_goIf_33 : decode cX5_goIf 33 = .ok (.bipush 8, 2) := by decide +kernel
theorem dX5_goIf_35 : decode cX5_goIf 35 = .ok (.ishr, 1) := by decide +kernel
theorem dX5_goIf_36 : decode cX5_goIf 36 = .ok (.iload_n 3, 1) := by decide +kernel
theorem dX5_goIf_37 : decode cX5_goIf 37 = .ok (.bipush 8, 2) := by decide +kernel
theorem dX5_goIf_39 : decode cX5_goIf 39 = .ok (.ishr, 1) := by decide +kernel
theorem dX5_goIf_40 : decode cX5_goIf 40 = .ok (.if_icmp .ne 7, 3) := by decide +kernel
theorem dX5_goIf_43 : decode cX5_goIf 43 = .ok (.iconst 1, 1) := by decide +kernel
theorem dX5_goIf_44 : decode cX5_goIf 44 = .ok (.goto 4, 3) := by decide +kernel
theorem dX5_goIf_47 : decode cX5_goIf 47 = .ok (.iconst 2, 1) := by decide +kernel
theorem dX5_goIf_48 : decode cX5_goIf 48 = .ok (.iadd, 1) := by decide +kernel
theorem dX5_goIf_49 : decode cX5_goIf 49 = .ok (.putfield 57, 3) := by decide +kernel
theorem dX5_goIf_52 : decode cX5_goIf 52 = .ok (.return_, 1) := by decide +kernel
set_option maxRecDepth 20000 in
theorem ggX5_jump_X5_wordAt : GoodIn wsX5_jump wsX5_wordAt := goodIn_r _ [9, 10, 2, 11, 12, 13, 14, 15, 16, 17, 18, 19, 20, 21, 22, 23, 24, 25, 26, 27, 28, 29, 30, 31, 32, 33, 34, 35, 36, 37, 38, 39, 40, 41, 42, 43, 44, 45, 46, 47, 48, 49, 50, 51, 52, 53, 54, 55, 56, 57, 58, 59, 60, 61, 62, 63, 64, 65, 66, 67, 68, 69, 70, 71, 72, 73, 74, 75, 113, 114, 115, 116, 117, 118, 119, 120, 121, 122, 123, 124, 125, 126, 127, 128, 129, 130, 131, 132, 133, 134, 135, 136, 137, 138, 139, 140, 141, 142, 143, 144, 145, 146, 147] (by decide +kernel) (by decide +kernel)
set_option maxRecDepth 20000 in
theorem gX5_jump_X5_wordAt : GoodIn wsX5_jump (wsV RX5 28 RX5 yX5_wordAt wsX5_wordAt) := goodIn_app (goodIn_of _ (by decide +kernel)) ggX5_jump_X5_wordAt
set_option maxRecDepth 20000 in
theorem ggX5_jump_X5_push : GoodIn wsX5_jump wsX5_push := goodIn_r _ [79, 10, 80, 81, 82, 83, 14, 84, 20, 16, 39, 40, 41, 42, 43, 27, 22, 23, 24, 25, 26, 21, 28, 85, 86, 87, 32, 88, 34, 89, 90, 91, 92, 93, 47, 94, 50, 95, 49, 96, 53, 97, 51, 98, 52, 54, 99, 100, 101, 58, 102, 103, 104, 63, 113, 114, 115, 116, 117, 118, 119, 120, 121, 122, 123, 124, 125, 126, 127, 128, 129, 130, 131, 132, 133, 134, 135, 136, 137, 138, 139, 140, 141, 142, 143, 144, 145, 146, 147] (by decide +kernel) (by decide +kernel)
set_option maxRecDepth 20000 in
theorem gX5_jump_X5_push : GoodIn wsX5_jump (wsV RX5 83 RX5 yX5_push wsX5_push) := goodIn_app (goodIn_of _ (by decide +kernel)) ggX5_jump_X5_push
set_option maxRecDepth 20000 in
theorem ggX5_jump_X5_pull : GoodIn wsX5_jump wsX5_pull := goodIn_r _ [108, 80, 10, 11, 12, 13, 14, 15, 16, 17, 18, 19, 20, 21, 22, 23, 24, 25, 26, 27, 28, 29, 30, 31, 32, 33, 34, 35, 36, 37, 38, 39, 40, 41, 42, 43, 44, 45, 46, 47, 48, 49, 50, 51, 52, 53, 54, 55, 56, 57, 58, 59, 60, 61, 62, 63, 64, 65, 66, 67, 68, 69, 70, 71, 72, 73, 74, 75, 113, 114, 115, 116, 117, 118, 119, 120, 121, 122, 123, 124, 125, 126, 127, 128, 129, 130, 131, 132, 133, 134, 135, 136, 137, 138, 139, 140, 141, 142, 143, 144, 145, 146, 147] (by decide +kernel) (by decide +kernel)
set_option maxRecDepth 20000 in
theorem gX5_jump_X5_pull : GoodIn wsX5_jump (wsV RX5 194 RX5 yX5_pull wsX5_pull) := goodIn_app (goodIn_of _ (by decide +kernel)) ggX5_jump_X5_pull
set_option maxRecDepth 20000 in
theorem ggX5_jump_X5_interrupt : GoodIn wsX5_jump wsX5_interrupt := goodIn_r _ [112, 1, 3, 10, 76, 77, 78, 8, 79, 80, 81, 82, 83, 14, 84, 20, 16, 39, 40, 41, 42, 43, 27, 22, 23, 24, 25, 26, 21, 28, 85, 86, 87, 32, 88, 34, 89, 90, 91, 92, 93, 47, 94, 50, 95, 49, 96, 53, 97, 51, 98, 52, 54, 99, 100, 101, 58, 102, 103, 104, 63, 11, 12, 13, 15, 17, 18, 19, 29, 30, 31, 33, 35, 36, 37, 38, 44, 45, 46, 48, 55, 56, 57, 59, 60, 61, 62, 64, 65, 66, 67, 68, 69, 70, 71, 72, 73, 74, 75, 113, 114, 115, 116, 117, 118, 119, 120, 121, 122, 123, 124, 125, 126, 127, 128, 129, 130, 131, 132, 133, 134, 135, 136, 137, 138, 139, 140, 141, 142, 143, 144, 145, 146, 147] (by decide +kernel) (by decide +kernel)
set_option maxRecDepth 20000 in
theorem gX5_jump_X5_interrupt : GoodIn wsX5_jump (wsV RX5 79 RX5 yX5_interrupt wsX5_interrupt) := goodIn_app (goodIn_of _ (by decide +kernel)) ggX5_jump_X5_interrupt
theorem dX5_jump_0 : decode cX5_jump 0 = .ok (.iload_n 1, 1) := by decide +kernel
theorem dX5_jump_1 : decode cX5_jump 1 = .ok (.tableswitch 148 112 116 #[35, 43, 55, 90, 116], 35) := by decide +kernel
theorem dX5_jump_36 : decode cX5_jump 36 = .ok (.aload_n 0, 1) := by decide +kernel
theorem dX5_jump_37 : decode cX5_jump 37 = .ok (.iload_n 2, 1) := by decide +kernel
theorem dX5_jump_38 : decode cX5_jump 38 = .ok (.putfield 32, 3) := by decide +kernel
theorem dX5_jump_41 : decode cX5_jump 41 = .ok (.goto 131, 3) := by decide +kernel
theorem dX5_jump_44 : decode cX5_jump 44 = .ok (.aload_n 0, 1) := by decide +kernel
theorem dX5_jump_45 : decode cX5_jump 45 = .ok (.aload_n 0, 1) := by decide +kernel
theorem dX5_jump_46 : decode cX5_jump 46 = .ok (.iload_n 2, 1) := by decide +kernel
theorem dX5_jump_47 : decode cX5_jump 47 = .ok (.invokevirtual 28, 3) := by decide +kernel
theorem dX5_jump_50 : decode cX5_jump 50 = .ok (.putfield 32, 3) := by decide +kernel
theorem dX5_jump_53 : decode cX5_jump 53 = .ok (.goto 119, 3) := by decide +kernel
theorem dX5_jump_56 : decode cX5_jump 56 = .ok (.aload_n 0, 1) := by decide +kernel
theorem dX5_jump_57 : decode cX5_jump 57 = .ok (.getfield 32, 3) := by decide +kernel
theorem dX5_jump_60 : decode cX5_jump 60 = .ok (.iconst 1, 1) := by decide +kernel
theorem dX5_jump_61 : decode cX5_jump 61 = .ok (.isub, 1) := by decide +kernel
theorem dX5_jump_62 : decode cX5_jump 62 = .ok (.ldc 148, 2) := by decide +kernel
theorem dX5_jump_64 : decode cX5_jump 64 = .ok (.iand, 1) := by decide +kernel
theorem dX5_jump_65 : decode cX5_jump 65 = .ok (.istore_n 3, 1) := by decide +kernel
theorem dX5_jump_66 : decode cX5_jump 66 = .ok (.aload_n 0, 1) := by decide +kernel
theorem dX5_jump_67 : decode cX5_jump 67 = .ok (.iload_n 3, 1) := by decide +kernel
theorem dX5_jump_68 : decode cX5_jump 68 = .ok (.bipush 8, 2) := by decide +kernel
theorem dX5_jump_70 : decode cX5_jump 70 = .ok (.ishr, 1) := by decide +kernel
theorem dX5_jump_71 : decode cX5_jump 71 = .ok (.invokevirtual 83, 3) := by decide +kernel
theorem dX5_jump_74 : decode cX5_jump 74 = .ok (.aload_n 0, 1) := by decide +kernel
theorem dX5_jump_75 : decode cX5_jump 75 = .ok (.iload_n 3, 1) := by decide +kernel
theorem dX5_jump_76 : decode cX5_jump 76 = .ok (.sipush 255, 3) := by decide +kernel
theorem dX5_jump_79 : decode cX5_jump 79 = .ok (.iand, 1) := by decide +kernel
theorem dX5_jump_80 : decode cX5_jump 80 = .ok (.invokevirtual 83, 3) := by decide +kernel
theorem dX5_jump_83 : decode cX5_jump 83 = .ok (.aload_n 0, 1) := by decide +kernel
theorem dX5_jump_84 : decode cX5_jump 84 = .ok (.iload_n 2, 1) := by decide +kernel
theorem dX5_jump_85 : decode cX5_jump 85 = .ok (.putfield 32, 3) := by decide +kernel
theorem dX5_jump_88 : decode cX5_jump 88 = .ok (.goto 84, 3) := by decide +kernel
theorem dX5_jump_91 : decode cX5_jump 91 = .ok (.aload_n 0, 1) := by decide +kernel
theorem dX5_jump_92 : decode cX5_jump 92 = .ok (.invokevirtual 194, 3) := by decide +kernel
theorem dX5_jump_95 : decode cX5_jump 95 = .ok (.istore_n 3, 1) := by decide +kernel
theorem dX5_jump_96 : decode cX5_jump 96 = .ok (.aload_n 0, 1) := by decide +kernel
theorem dX5_jump_97 : decode cX5_jump 97 = .ok (.iload_n 3, 1) := by decide +kernel
theorem dX5_jump_98 : decode cX5_jump 98 = .ok (.aload_n 0, 1) := by decide +kernel
theorem dX5_jump_99 : decode cX5_jump 99 = .ok (.invokevirtual 194, 3) := by decide +kernel
theorem dX5_jump_102 : decode cX5_jump 102 = .ok (.bipush 8, 2) := by decide +kernel
theorem dX5_jump_104 : decode cX5_jump 104 = .ok (.ishl, 1) := by decide +kernel
theorem dX5_jump_105 : decode cX5_jump 105 = .ok (.ior, 1) := by decide +kernel
theorem dX5_jump_106 : decode cX5_jump 106 = .ok (.iconst 1, 1) := by decide +kernel
theorem dX5_jump_107 : decode cX5_jump 107 = .ok (.iadd, 1) := by decide +kernel
theorem dX5_jump_108 : decode cX5_jump 108 = .ok (.ldc 148, 2) := by decide +kernel
theorem dX5_jump_110 : decode cX5_jump 110 = .ok (.iand, 1) := by decide +kernel
theorem dX5_jump_111 : decode cX5_jump 111 = .ok (.putfield 32, 3) := by decide +kernel
theorem dX5_jump_114 : decode cX5_jump 114 = .ok (.goto 58, 3) := by decide +kernel
theorem dX5_jump_117 : decode cX5_jump 117 = .ok (.aload_n 0, 1) := by decide +kernel
theorem dX5_jump_118 : decode cX5_jump 118 = .ok (.aload_n 0, 1) := by decide +kernel
theorem dX5_jump_119 : decode cX5_jump 119 = .ok (.invokevirtual 194, 3) := by decide +kernel
theorem dX5_jump_122 : decode cX5_jump 122 = .ok (.bipush 48, 2) := by decide +kernel
theorem dX5_jump_124 : decode cX5_jump 124 = .ok (.ior, 1) := by decide +kernel
theorem dX5_jump_125 : decode cX5_jump 125 = .ok (.putfield 9, 3) := by decide +kernel
theorem dX5_jump_128 : decode cX5_jump 128 = .ok (.aload_n 0, 1) := by decide +kernel
theorem dX5_jump_129 : decode cX5_jump 129 = .ok (.invokevirtual 194, 3) := by decide +kernel
theorem dX5_jump_132 : decode cX5_jump 132 = .ok (.istore_n 3, 1) := by decide +kernel
theorem dX5_jump_133 : decode cX5_jump 133 = .ok (.aload_n 0, 1) := by decide +kernel
theorem dX5_jump_134 : decode cX5_jump 134 = .ok (.iload_n 3, 1) := by decide +kernel
theorem dX5_jump_135 : decode cX5_jump 135 = .ok (.aload_n 0, 1) := by decide +kernel
theorem dX5_jump_136 : decode cX5_jump 136 = .ok (.invokevirtual 194, 3) := by decide +kernel
theorem dX5_jump_139 : decode cX5_jump 139 = .ok (.bipush 8, 2) := by decide +kernel
theorem dX5_jump_141 : decode cX5_jump 141 = .ok (.ishl, 1) := by decide +kernel
theorem dX5_jump_142 : decode cX5_jump 142 = .ok (.ior, 1) := by decide +kernel
theorem dX5_jump_143 : decode cX5_jump 143 = .ok (.putfield 32, 3) := by decide +kernel
theorem dX5_jump_146 : decode cX5_jump 146 = .ok (.goto 26, 3) := by decide +kernel
theorem dX5_jump_149 : decode cX5_jump 149 = .ok (.aload_n 0, 1) := by decide +kernel
theorem dX5_jump_150 : decode cX5_jump 150 = .ok (.aload_n 0, 1) := by decide +kernel
theorem dX5_jump_151 : decode cX5_jump 151 = .ok (.getfield 32, 3) := by decide +kernel
theorem dX5_jump_154 : decode cX5_jump 154 = .ok (.iconst 1, 1) := by decide +kernel
theorem dX5_jump_155 : decode cX5_jump 155 = .ok (.iadd, 1) := by decide +kernel
theorem dX5_jump_156 : decode cX5_jump 156 = .ok (.ldc 148, 2) := by decide +kernel
theorem dX5_jump_158 : decode cX5_jump 158 = .ok (.iand, 1) := by decide +kernel
theorem dX5_jump_159 : decode cX5_jump 159 = .ok (.putfield 32, 3) := by decide +kernel
theorem dX5_jump_162 : decode cX5_jump 162 = .ok (.aload_n 0, 1) := by decide +kernel
theorem dX5_jump_163 : decode cX5_jump 163 = .ok (.ldc 56, 2) := by decide +kernel
theorem dX5_jump_165 : decode cX5_jump 165 = .ok (.aload_n 0, 1) := by decide +kernel
theorem dX5_jump_166 : decode cX5_jump 166 = .ok (.getfield 9, 3) := by decide +kernel
theorem dX5_jump_169 : decode cX5_jump 169 = .ok (.invokevirtual 79, 3) := by decide +kernel
theorem dX5_jump_172 : decode cX5_jump 172 = .ok (.return_, 1) := by decide +kernel
set_option maxRecDepth 20000 in
theorem ggX5_push_X0_write : GoodIn wsX5_push wsX0_write := goodIn_r _ [7, 8, 9, 10, 11, 12, 13, 14, 15, 16, 17, 18, 6, 19, 20, 21, 22, 23, 24, 25, 26, 27, 28, 29, 30, 31, 32, 33, 34, 35, 36, 37, 38, 39, 40, 41, 42, 43, 44, 45, 46, 47, 48, 49, 50, 51, 52, 53, 69, 70, 71, 72, 73, 74, 75, 76, 77, 78, 79, 80, 81, 82, 83, 84, 85, 86, 87, 88] (by decide +kernel) (by decide +kernel)
set_option maxRecDepth 20000 in
theorem gX5_push_X0_write : GoodIn wsX5_push (wsV RX5 125 RX0 yX0_write wsX0_write) := goodIn_app (goodIn_of _ (by decide +kernel)) ggX5_push_X0_write
theorem dX5_push_0 : decode cX5_push 0 = .ok (.aload_n 0, 1) := by decide +kernel
theorem dX5_push_1 : decode cX5_push 1 = .ok (.getfield 20, 3) := by decide +kernel
theorem dX5_push_4 : decode cX5_push 4 = .ok (.sipush 256, 3) := by decide +kernel
theorem dX5_push_7 : decode cX5_push 7 = .ok (.aload_n 0, 1) := by decide +kernel
theorem dX5_push_8 : decode cX5_push 8 = .ok (.getfield 24, 3) := by decide +kernel
theorem dX5_push_11 : decode cX5_push 11 = .ok (.iadd, 1) := by decide +kernel
theorem dX5_push_12 : decode cX5_push 12 = .ok (.iload_n 1, 1) := by decide +kernel
theorem dX5_push_13 : decode cX5_push 13 = .ok (.invokevirtual 125, 3) := by decide +kernel
theorem dX5_push_16 : decode cX5_push 16 = .ok (.aload_n 0, 1) := by decide +kernel
theorem dX5_push_17 : decode cX5_push 17 = .ok (.aload_n 0, 1) := by decide +kernel
theorem dX5_push_18 : decode cX5_push 18 = .ok (.getfield 24, 3) := by decide +kernel
theorem dX5_push_21 : decode cX5_push 21 = .ok (.iconst 1, 1) := by decide +kernel
theorem dX5_push_22 : decode cX5_push 22 = .ok (.isub, 1) := by decide +kernel
theorem dX5_push_23 : decode cX5_push 23 = .ok (.sipush 255, 3) := by decide +kernel
theorem dX5_push_26 : decode cX5_push 26 = .ok (.iand, 1) := by decide +kernel
theorem dX5_push_27 : decode cX5_push 27 = .ok (.putfield 24, 3) := by decide +kernel
theorem dX5_push_30 : decode cX5_push 30 = .ok (.return_, 1) := by decide +kernel
set_option maxRecDepth 20000 in
theorem ggX5_pull_X0_read : GoodIn wsX5_pull wsX0_read := goodIn_r _ [7, 8, 9, 10, 6, 11, 12, 13, 14, 15, 16, 17, 18, 19, 20, 21, 22, 23, 24, 25, 26, 27, 28, 29, 30, 31, 32, 33, 34, 35, 36, 37, 38, 39, 40, 41, 42, 43, 44, 45, 46, 47, 48, 49, 50, 51, 52, 53, 54, 55, 56, 57, 58, 59, 60, 61, 62, 63, 64, 65, 66, 67, 83, 84, 85, 86, 87, 88, 89, 90, 91, 92, 93, 94, 95, 96, 97, 98, 99, 100, 101, 102] (by decide +kernel) (by decide +kernel)
set_option maxRecDepth 20000 in
theorem gX5_pull_X0_read : GoodIn wsX5_pull (wsV RX5 86 RX0 yX0_read wsX0_read) := goodIn_app (goodIn_of _ (by decide +kernel)) ggX5_pull_X0_read
theorem dX5_pull_0 : decode cX5_pull 0 = .ok (.aload_n 0, 1) := by decide +kernel
theorem dX5_pull_1 : decode cX5_pull 1 = .ok (.aload_n 0, 1) := by decide +kernel
theorem dX5_pull_2 : decode cX5_pull 2 = .ok (.getfield 24, 3) := by decide +kernel
theorem dX5_pull_5 : decode cX5_pull 5 = .ok (.iconst 1, 1) := by decide +kernel
theorem dX5_pull_6 : decode cX5_pull 6 = .ok (.iadd, 1) := by decide +kernel
theorem dX5_pull_7 : decode cX5_pull 7 = .ok (.sipush 255, 3) := by decide +kernel
theorem dX5_pull_10 : decode cX5_pull 10 = .ok (.iand, 1) := by decide +kernel
theorem dX5_pull_11 : decode cX5_pull 11 = .ok (.putfield 24, 3) := by decide +kernel
theorem dX5_pull_14 : decode cX5_pull 14 = .ok (.aload_n 0, 1) := by decide +kernel
theorem dX5_pull_15 : decode cX5_pull 15 = .ok (.getfield 20, 3) := by decide +kernel
theorem dX5_pull_18 : decode cX5_pull 18 = .ok (.sipush 256, 3) := by decide +kernel
theorem dX5_pull_21 : decode cX5_pull 21 = .ok (.aload_n 0, 1) := by decide +kernel
theorem dX5_pull_22 : decode cX5_pull 22 = .ok (.getfield 24, 3) := by decide +kernel
theorem dX5_pull_25 : decode cX5_pull 25 = .ok (.iadd, 1) := by decide +kernel
theorem dX5_pull_26 : decode cX5_pull 26 = .ok (.invokevirtual 86, 3) := by decide +kernel
theorem dX5_pull_29 : decode cX5_pull 29 = .ok (.ireturn, 1) := by decide +kernel
theorem dX5_mark_0 : decode cX5_mark 0 = .ok (.aload_n 0, 1) := by decide +kernel
theorem dX5_mark_1 : decode cX5_mark 1 = .ok (.iload_n 2, 1) := by decide +kernel
theorem dX5_mark_2 : decode cX5_mark 2 = .ok (.ifCond .eq 12, 3) := by decide +kernel
theorem dX5_mark_5 : decode cX5_mark 5 = .ok (.aload_n 0, 1) := by decide +kernel
theorem dX5_mark_6 : decode cX5_mark 6 = .ok (.getfield 9, 3) := by decide +kernel
theorem dX5_mark_9 : decode cX5_mark 9 = .ok (.iload_n 1, 1) := by decide +kernel
theorem dX5_mark_10 : decode cX5_mark 10 = .ok (.ior, 1) := by decide +kernel
theorem dX5_mark_11 : decode cX5_mark 11 = .ok (.goto 11, 3) := by decide +kernel
theorem dX5_mark_14 : decode cX5_mark 14 = .ok (.aload_n 0, 1) := by decide +kernel
theorem dX5_mark_15 : decode cX5_mark 15 = .ok (.getfield 9, 3) := by decide +kernel
theorem dX5_mark_18 : decode cX5_mark 18 = .ok (.iload_n 1, 1) := by decide +kernel
theorem dX5_mark_19 : decode cX5_mark 19 = .ok (.iconst (-1), 1) := by decide +kernel
theorem dX5_mark_20 : decode cX5_mark 20 = .ok (.ixor, 1) := by decide +kernel
theorem dX5_mark_21 : decode cX5_mark 21 = .ok (.iand, 1) := by decide +kernel
theorem dX5_mark_22 : decode cX5_mark 22 = .ok (.putfield 9, 3) := by decide +kernel
theorem dX5_mark_25 : decode cX5_mark 25 = .ok (.return_, 1) := by decide +kernel
theorem dX5_shown_0 : decode cX5_shown 0 = .ok (.iload_n 1, 1) := by decide +kernel
theorem dX5_shown_1 : decode cX5_shown 1 = .ok (.sipush 255, 3) := by decide +kernel
theorem dX5_shown_4 : decode cX5_shown 4 = .ok (.iand, 1) := by decide +kernel
theorem dX5_shown_5 : decode cX5_shown 5 = .ok (.istore_n 2, 1) := by decide +kernel
theorem dX5_shown_6 : decode cX5_shown 6 = .ok (.aload_n 0, 1) := by decide +kernel
theorem dX5_shown_7 : decode cX5_shown 7 = .ok (.aload_n 0, 1) := by decide +kernel
theorem dX5_shown_8 : decode cX5_shown 8 = .ok (.getfield 9, 3) := by decide +kernel
theorem dX5_shown_11 : decode cX5_shown 11 = .ok (.sipush (-131), 3) := by decide +kernel
theorem dX5_shown_14 : decode cX5_shown 14 = .ok (.iand, 1) := by decide +kernel
theorem dX5_shown_15 : decode cX5_shown 15 = .ok (.iload_n 2, 1) := by decide +kernel
theorem dX5_shown_16 : decode cX5_shown 16 = .ok (.sipush 128, 3) := by decide +kernel
theorem dX5_shown_19 : decode cX5_shown 19 = .ok (.iand, 1) := by decide +kernel
theorem dX5_shown_20 : decode cX5_shown 20 = .ok (.ior, 1) := by decide +kernel
theorem dX5_shown_21 : decode cX5_shown 21 = .ok (.iload_n 2, 1) := by decide +kernel
theorem dX5_shown_22 : decode cX5_shown 22 = .ok (.ifCond .ne 7, 3) := by decide +kernel
theorem dX5_shown_25 : decode cX5_shown 25 = .ok (.iconst 2, 1) := by decide +kernel
theorem dX5_shown_26 : decode cX5_shown 26 = .ok (.goto 4, 3) := by decide +kernel
theorem dX5_shown_29 : decode cX5_shown 29 = .ok (.iconst 0, 1) := by decide +kernel
theorem dX5_shown_30 : decode cX5_shown 30 = .ok (.ior, 1) := by decide +kernel
theorem dX5_shown_31 : decode cX5_shown 31 = .ok (.putfield 9, 3) := by decide +kernel
theorem dX5_shown_34 : decode cX5_shown 34 = .ok (.iload_n 2, 1) := by decide +kernel
theorem dX5_shown_35 : decode cX5_shown 35 = .ok (.ireturn, 1) := by decide +kernel
theorem dX6_init_0 : decode cX6_init 0 = .ok (.aload_n 0, 1) := by decide +kernel
theorem dX6_init_1 : decode cX6_init 1 = .ok (.invokespecial 1, 3) := by decide +kernel
theorem dX6_init_4 : decode cX6_init 4 = .ok (.aload_n 0, 1) := by decide +kernel
theorem dX6_init_5 : decode cX6_init 5 = .ok (.ldc 9, 2) := by decide +kernel
theorem dX6_init_7 : decode cX6_init 7 = .ok (.putfield 10, 3) := by decide +kernel
theorem dX6_init_10 : decode cX6_init 10 = .ok (.aload_n 0, 1) := by decide +kernel
theorem dX6_init_11 : decode cX6_init 11 = .ok (.ldc 9, 2) := by decide +kernel
theorem dX6_init_13 : decode cX6_init 13 = .ok (.putfield 14, 3) := by decide +kernel
theorem dX6_init_16 : decode cX6_init 16 = .ok (.return_, 1) := by decide +kernel
theorem dX6_restart_0 : decode cX6_restart 0 = .ok (.aload_n 0, 1) := by decide +kernel
theorem dX6_restart_1 : decode cX6_restart 1 = .ok (.ldc 9, 2) := by decide +kernel
theorem dX6_restart_3 : decode cX6_restart 3 = .ok (.putfield 10, 3) := by decide +kernel
theorem dX6_restart_6 : decode cX6_restart 6 = .ok (.aload_n 0, 1) := by decide +kernel
theorem dX6_restart_7 : decode cX6_restart 7 = .ok (.ldc 9, 2) := by decide +kernel
theorem dX6_restart_9 : decode cX6_restart 9 = .ok (.putfield 14, 3) := by decide +kernel
theorem dX6_restart_12 : decode cX6_restart 12 = .ok (.aload_n 0, 1) := by decide +kernel
theorem dX6_restart_13 : decode cX6_restart 13 = .ok (.iconst 0, 1) := by decide +kernel
theorem dX6_restart_14 : decode cX6_restart 14 = .ok (.putfield 17, 3) := by decide +kernel
theorem dX6_restart_17 : decode cX6_restart 17 = .ok (.aload_n 0, 1) := by decide +kernel
theorem dX6_restart_18 : decode cX6_restart 18 = .ok (.iconst 0, 1) := by decide +kernel
theorem dX6_restart_19 : decode cX6_restart 19 = .ok (.putfield 20, 3) := by decide +kernel
theorem dX6_restart_22 : decode cX6_restart 22 = .ok (.aload_n 0, 1) := by decide +kernel
theorem dX6_restart_23 : decode cX6_restart 23 = .ok (.iconst 0, 1) := by decide +kernel
theorem dX6_restart_24 : decode cX6_restart 24 = .ok (.putfield 23, 3) := by decide +kernel
theorem dX6_restart_27 : decode cX6_restart 27 = .ok (.aload_n 0, 1) := by decide +kernel
theorem dX6_restart_28 : decode cX6_restart 28 = .ok (.iconst 0, 1) := by decide +kernel
theorem dX6_restart_29 : decode cX6_restart 29 = .ok (.putfield 26, 3) := by decide +kernel
theorem dX6_restart_32 : decode cX6_restart 32 = .ok (.aload_n 0, 1) := by decide +kernel
theorem dX6_restart_33 : decode cX6_restart 33 = .ok (.iconst 0, 1) := by decide +kernel
theorem dX6_restart_34 : decode cX6_restart 34 = .ok (.putfield 29, 3) := by decide +kernel
theorem dX6_restart_37 : decode cX6_restart 37 = .ok (.aload_n 0, 1) := by decide +kernel
theorem dX6_restart_38 : decode cX6_restart 38 = .ok (.iconst 0, 1) := by decide +kernel
theorem dX6_restart_39 : decode cX6_restart 39 = .ok (.putfield 32, 3) := by decide +kernel
theorem dX6_restart_42 : decode cX6_restart 42 = .ok (.aload_n 0, 1) := by decide +kernel
theorem dX6_restart_43 : decode cX6_restart 43 = .ok (.iconst 0, 1) := by decide +kernel
theorem dX6_restart_44 : decode cX6_restart 44 = .ok (.putfield 36, 3) := by decide +kernel
theorem dX6_restart_47 : decode cX6_restart 47 = .ok (.return_, 1) := by decide +kernel
set_option maxRecDepth 20000 in
theorem ggX6_asks_X6_peek : GoodIn wsX6_asks wsX6_peek := goodIn_r _ [5, 6, 7, 8, 9, 10, 11, 12, 13, 14, 15, 16, 17, 18, 19, 20] (by decide +kernel) (by decide +kernel)
set_option maxRecDepth 20000 in
theorem gX6_asks_X6_peek : GoodIn wsX6_asks (wsV RX6 39 RX6 yX6_peek wsX6_peek) := goodIn_app (goodIn_of _ (by decide +kernel)) ggX6_asks_X6_peek
theorem dX6_asks_0 : decode cX6_asks 0 = .ok (.aload_n 0, 1) := by decide +kernel
theorem dX6_asks_1 : decode cX6_asks 1 = .ok (.bipush 13, 2) := by decide +kernel
theorem dX6_asks_3 : decode cX6_asks 3 = .ok (.invokevirtual 39, 3) := by decide +kernel
theorem dX6_asks_6 : decode cX6_asks 6 = .ok (.sipush 128, 3) := by decide +kernel
theorem dX6_asks_9 : decode cX6_asks 9 = .ok (.iand, 1) := by decide +kernel
theorem dX6_asks_10 : decode cX6_asks 10 = .ok (.ifCond .eq 7, 3) := by decide +kernel
theorem dX6_asks_13 : decode cX6_asks 13 = .ok (.iconst 1, 1) := by decide +kernel
theorem dX6_asks_14 : decode cX6_asks 14 = .ok (.goto 4, 3) := by decide +kernel
theorem dX6_asks_17 : decode cX6_asks 17 = .ok (.iconst 0, 1) := by decide +kernel
theorem dX6_asks_18 : decode cX6_asks 18 = .ok (.ireturn, 1) := by decide +kernel
theorem dX6_peek_0 : decode cX6_peek 0 = .ok (.iload_n 1, 1) := by decide +kernel
theorem dX6_peek_1 : decode cX6_peek 1 = .ok (.tableswitch 170 4 14 #[59, 70, 80, 91, 101, 112, 170, 122, 170, 129, 159], 59) := by decide +kernel
theorem dX6_peek_60 : decode cX6_peek 60 = .ok (.aload_n 0, 1) := by decide +kernel
theorem dX6_peek_61 : decode cX6_peek 61 = .ok (.getfield 10, 3) := by decide +kernel
theorem dX6_peek_64 : decode cX6_peek 64 = .ok (.sipush 255, 3) := by decide +kernel
theorem dX6_peek_67 : decode cX6_peek 67 = .ok (.iand, 1) := by decide +kernel
theorem dX6_peek_68 : decode cX6_peek 68 = .ok (.goto 104, 3) := by decide +kernel
theorem dX6_peek_71 : decode cX6_peek 71 = .ok (.aload_n 0, 1) := by decide +kernel
theorem dX6_peek_72 : decode cX6_peek 72 = .ok (.getfield 10, 3) := by decide +kernel
theorem dX6_peek_75 : decode cX6_peek 75 = .ok (.bipush 8, 2) := by decide +kernel
theorem dX6_peek_77 : decode cX6_peek 77 = .ok (.ishr, 1) := by decide +kernel
theorem dX6_peek_78 : decode cX6_peek 78 = .ok (.goto 94, 3) := by decide +kernel
theorem dX6_peek_81 : decode cX6_peek 81 = .ok (.aload_n 0, 1) := by decide +kernel
theorem dX6_peek_82 : decode cX6_peek 82 = .ok (.getfield 17, 3) := by decide +kernel
theorem dX6_peek_85 : decode cX6_peek 85 = .ok (.sipush 255, 3) := by decide +kernel
theorem dX6_peek_88 : decode cX6_peek 88 = .ok (.iand, 1) := by decide +kernel
theorem dX6_peek_89 : decode cX6_peek 89 = .ok (.goto 83, 3) := by decide +kernel
theorem dX6_peek_92 : decode cX6_peek 92 = .ok (.aload_n 0, 1) := by decide +kernel
theorem dX6_peek_93 : decode cX6_peek 93 = .ok (.getfield 17, 3) := by decide +kernel
theorem dX6_peek_96 : decode cX6_peek 96 = .ok (.bipush 8, 2) := by decide +kernel
theorem dX6_peek_98 : decode cX6_peek 98 = .ok (.ishr, 1) := by decide +kernel
theorem dX6_peek_99 : decode cX6_peek 99 = .ok (.goto 73, 3) := by decide +kernel
theorem dX6_peek_102 : decode cX6_peek 102 = .ok (.aload_n 0, 1) := by decide +kernel
theorem dX6_peek_103 : decode cX6_peek 103 = .ok (.getfield 14, 3) := by decide +kernel
theorem dX6_peek_106 : decode cX6_peek 106 = .ok (.sipush 255, 3) := by decide +kernel
theorem dX6_peek_109 : decode cX6_peek 109 = .ok (.iand, 1) := by decide +kernel
theorem dX6_peek_110 : decode cX6_peek 110 = .ok (.goto 62, 3) := by decide +kernel
theorem dX6_peek_113 : decode cX6_peek 113 = .ok (.aload_n 0, 1) := by decide +kernel
theorem dX6_peek_114 : decode cX6_peek 114 = .ok (.getfield 14, 3) := by decide +kernel
theorem dX6_peek_117 : decode cX6_peek 117 = .ok (.bipush 8, 2) := by decide +kernel
theorem dX6_peek_119 : decode cX6_peek 119 = .ok (.ishr, 1) := by decide +kernel
theorem dX6_peek_120 : decode cX6_peek 120 = .ok (.goto 52, 3) := by decide +kernel
theorem dX6_peek_123 : decode cX6_peek 123 = .ok (.aload_n 0, 1) := by decide +kernel
theorem dX6_peek_124 : decode cX6_peek 124 = .ok (.getfield 29, 3) := by decide +kernel
theorem dX6_peek_127 : decode cX6_peek 127 = .ok (.goto 45, 3) := by decide +kernel
theorem dX6_peek_130 : decode cX6_peek 130 = .ok (.aload_n 0, 1) := by decide +kernel
theorem dX6_peek_131 : decode cX6_peek 131 = .ok (.getfield 20, 3) := by decide +kernel
theorem dX6_peek_134 : decode cX6_peek 134 = .ok (.aload_n 0, 1) := by decide +kernel
theorem dX6_peek_135 : decode cX6_peek 135 = .ok (.getfield 23, 3) := by decide +kernel
theorem dX6_peek_138 : decode cX6_peek 138 = .ok (.iand, 1) := by decide +kernel
theorem dX6_peek_139 : decode cX6_peek 139 = .ok (.ifCond .eq 14, 3) := by decide +kernel
theorem dX6_peek_142 : decode cX6_peek 142 = .ok (.aload_n 0, 1) := by decide +kernel
theorem dX6_peek_143 : decode cX6_peek 143 = .ok (.getfield 20, 3) := by decide +kernel
theorem dX6_peek_146 : decode cX6_peek 146 = .ok (.sipush 128, 3) := by decide +kernel
theorem dX6_peek_149 : decode cX6_peek 149 = .ok (.ior, 1) := by decide +kernel
theorem dX6_peek_150 : decode cX6_peek 150 = .ok (.goto 22, 3) := by decide +kernel
theorem dX6_peek_153 : decode cX6_peek 153 = .ok (.aload_n 0, 1) := by decide +kernel
theorem dX6_peek_154 : decode cX6_peek 154 = .ok (.getfield 20, 3) := by decide +kernel
theorem dX6_peek_157 : decode cX6_peek 157 = .ok (.goto 15, 3) := by decide +kernel
theorem dX6_peek_160 : decode cX6_peek 160 = .ok (.aload_n 0, 1) := by decide +kernel
theorem dX6_peek_161 : decode cX6_peek 161 = .ok (.getfield 23, 3) := by decide +kernel
theorem dX6_peek_164 : decode cX6_peek 164 = .ok (.sipush 128, 3) := by decide +kernel
theorem dX6_peek_167 : decode cX6_peek 167 = .ok (.ior, 1) := by decide +kernel
theorem dX6_peek_168 : decode cX6_peek 168 = .ok (.goto 4, 3) := by decide +kernel
theorem dX6_peek_171 : decode cX6_peek 171 = .ok (.iconst 0, 1) := by decide +kernel
theorem dX6_peek_172 : decode cX6_peek 172 = .ok (.ireturn, 1) := by decide +kernel
theorem dX6_afterReading_0 : decode cX6_afterReading 0 = .ok (.iload_n 1, 1) := by decide +kernel
theorem dX6_afterReading_1 : decode cX6_afterReading 1 = .ok (.iconst 4, 1) := by decide +kernel
theorem dX6_afterReading_2 : decode cX6_afterReading 2 = .ok (.if_icmp .ne 17, 3) := by decide +kernel
theorem dX6_afterReading_5 : decode cX6_afterReading 5 = .ok (.aload_n 0, 1) := by decide +kernel
theorem dX6_afterReading_6 : decode cX6_afterReading 6 = .ok (.dup, 1) := by decide +kernel
theorem dX6_afterReading_7 : decode cX6_afterReading 7 = .ok (.getfield 20, 3) := by decide +kernel
theorem dX6_afterReading_10 : decode cX6_afterReading 10 = .ok (.bipush (-65), 2) := by decide +kernel
theorem dX6_afterReading_12 : decode cX6_afterReading 12 = .ok (.iand, 1) := by decide +kernel
theorem dX6_afterReading_13 : decode cX6_afterReading 13 = .ok (.putfield 20, 3) := by decide +kernel
theorem dX6_afterReading_16 : decode cX6_afterReading 16 = .ok (.goto 20, 3) := by decide +kernel
theorem dX6_afterReading_19 : decode cX6_afterReading 19 = .ok (.iload_n 1, 1) := by decide +kernel
theorem dX6_afterReading_20 : decode cX6_afterReading 20 = .ok (.bipush 8, 2) := by decide +kernel
theorem dX6_afterReading_22 : decode cX6_afterReading 22 = .ok (.if_icmp .ne 14, 3) := by decide +kernel
theorem dX6_afterReading_25 : decode cX6_afterReading 25 = .ok (.aload_n 0, 1) := by decide +kernel
theorem dX6_afterReading_26 : decode cX6_afterReading 26 = .ok (.dup, 1) := by decide +kernel
theorem dX6_afterReading_27 : decode cX6_afterReading 27 = .ok (.getfield 20, 3) := by decide +kernel
theorem dX6_afterReading_30 : decode cX6_afterReading 30 = .ok (.bipush (-33), 2) := by decide +kernel
theorem dX6_afterReading_32 : decode cX6_afterReading 32 = .ok (.iand, 1) := by decide +kernel
theorem dX6_afterReading_33 : decode cX6_afterReading 33 = .ok (.putfield 20, 3) := by decide +kernel
theorem dX6_afterReading_36 : decode cX6_afterReading 36 = .ok (.return_, 1) := by decide +kernel
theorem dX6_write_0 : decode cX6_write 0 = .ok (.iload_n 1, 1) := by decide +kernel
theorem dX6_write_1 : decode cX6_write 1 = .ok (.tableswitch 248 4 14 #[59, 75, 59, 119, 150, 158, 248, 190, 248, 198, 213], 59) := by decide +kernel
theorem dX6_write_60 : decode cX6_write 60 = .ok (.aload_n 0, 1) := by decide +kernel
theorem dX6_write_61 : decode cX6_write 61 = .ok (.aload_n 0, 1) := by decide +kernel
theorem dX6_write_62 : decode cX6_write 62 = .ok (.getfield 17, 3) := by decide +kernel
theorem dX6_write_65 : decode cX6_write 65 = .ok (.ldc 43, 2) := by decide +kernel
theorem dX6_write_67 : decode cX6_write 67 = .ok (.iand, 1) := by decide +kernel
theorem dX6_write_68 : decode cX6_write 68 = .ok (.iload_n 2, 1) := by decide +kernel
theorem dX6_write_69 : decode cX6_write 69 = .ok (.ior, 1) := by decide +kernel
theorem dX6_write_70 : decode cX6_write 70 = .ok (.putfield 17, 3) := by decide +kernel
theorem dX6_write_73 : decode cX6_write 73 = .ok (.goto 176, 3) := by decide +kernel
theorem dX6_write_76 : decode cX6_write 76 = .ok (.aload_n 0, 1) := by decide +kernel
theorem dX6_write_77 : decode cX6_write 77 = .ok (.aload_n 0, 1) := by decide +kernel
theorem dX6_write_78 : decode cX6_write 78 = .ok (.getfield 17, 3) := by decide +kernel
theorem dX6_write_81 : decode cX6_write 81 = .ok (.sipush 255, 3) := by decide +kernel
theorem dX6_write_84 : decode cX6_write 84 = .ok (.iand, 1) := by decide +kernel
theorem dX6_write_85 : decode cX6_write 85 = .ok (.iload_n 2, 1) := by decide +kernel
theorem dX6_write_86 : decode cX6_write 86 = .ok (.bipush 8, 2) := by decide +kernel
theorem dX6_write_88 : decode cX6_write 88 = .ok (.ishl, 1) := by decide +kernel
theorem dX6_write_89 : decode cX6_write 89 = .ok (.ior, 1) := by decide +kernel
theorem dX6_write_90 : decode cX6_write 90 = .ok (.putfield 17, 3) := by decide +kernel
theorem dX6_write_93 : decode cX6_write 93 = .ok (.aload_n 0, 1) := by decide +kernel
theorem dX6_write_94 : decode cX6_write 94 = .ok (.aload_n 0, 1) := by decide +kernel
theorem dX6_write_95 : decode cX6_write 95 = .ok (.getfield 17, 3) := by decide +kernel
theorem dX6_write_98 : decode cX6_write 98 = .ok (.putfield 10, 3) := by decide +kernel
theorem dX6_write_101 : decode cX6_write 101 = .ok (.aload_n 0, 1) := by decide +kernel
theorem dX6_write_102 : decode cX6_write 102 = .ok (.iconst 1, 1) := by decide +kernel
theorem dX6_write_103 : decode cX6_write 103 = .ok (.putfield 32, 3) := by decide +kernel
theorem dX6_write_106 : decode cX6_write 106 = .ok (.aload_n 0, 1) := by decide +kernel
theorem dX6_write_107 : decode cX6_write 107 = .ok (.dup, 1) := by decide +kernel
theorem dX6_write_108 : decode cX6_write 108 = .ok (.getfield 20, 3) := by decide +kernel
theorem dX6_write_111 : decode cX6_write 111 = .ok (.bipush (-65), 2) := by decide +kernel
theorem dX6_write_113 : decode cX6_write 113 = .ok (.iand, 1) := by decide +kernel
theorem dX6_write_114 : decode cX6_write 114 = .ok (.putfield 20, 3) := by decide +kernel
theorem dX6_write_117 : decode cX6_write 117 = .ok (.goto 132, 3) := by decide +kernel
theorem dX6_write_120 : decode cX6_write 120 = .ok (.aload_n 0, 1) := by decide +kernel
theorem dX6_write_121 : decode cX6_write 121 = .ok (.aload_n 0, 1) := by decide +kernel
theorem dX6_write_122 : decode cX6_write 122 = .ok (.getfield 17, 3) := by decide +kernel
theorem dX6_write_125 : decode cX6_write 125 = .ok (.sipush 255, 3) := by decide +kernel
theorem dX6_write_128 : decode cX6_write 128 = .ok (.iand, 1) := by decide +kernel
theorem dX6_write_129 : decode cX6_write 129 = .ok (.iload_n 2, 1) := by decide +kernel
theorem dX6_write_130 : decode cX6_write 130 = .ok (.bipush 8, 2) := by decide +kernel
theorem dX6_write_132 : decode cX6_write 132 = .ok (.ishl, 1) := by decide +kernel
theorem dX6_write_133 : decode cX6_write 133 = .ok (.ior, 1) := by decide +kernel
theorem dX6_write_134 : decode cX6_write 134 = .ok (.putfield 17, 3) := by decide +kernel
theorem dX6_write_137 : decode cX6_write 137 = .ok (.aload_n 0, 1) := by decide +kernel
theorem dX6_write_138 : decode cX6_write 138 = .ok (.dup, 1) := by decide +kernel
theorem dX6_write_139 : decode cX6_write 139 = .ok (.getfield 20, 3) := by decide +kernel
theorem dX6_write_142 : decode cX6_write 142 = .ok (.bipush (-65), 2) := by decide +kernel
theorem dX6_write_144 : decode cX6_write 144 = .ok (.iand, 1) := by decide +kernel
theorem dX6_write_145 : decode cX6_write 145 = .ok (.putfield 20, 3) := by decide +kernel
theorem dX6_write_148 : decode cX6_write 148 = .ok (.goto 101, 3) := by decide +kernel
theorem dX6_write_151 : decode cX6_write 151 = .ok (.aload_n 0, 1) := by decide +kernel
theorem dX6_write_152 : decode cX6_write 152 = .ok (.iload_n 2, 1) := by decide +kernel
theorem dX6_write_153 : decode cX6_write 153 = .ok (.putfield 26, 3) := by decide +kernel
theorem dX6_write_156 : decode cX6_write 156 = .ok (.goto 93, 3) := by decide +kernel
theorem dX6_write_159 : decode cX6_write 159 = .ok (.aload_n 0, 1) := by decide +kernel
theorem dX6_write_160 : decode cX6_write 160 = .ok (.iload_n 2, 1) := by decide +kernel
theorem dX6_write_161 : decode cX6_write 161 = .ok (.bipush 8, 2) := by decide +kernel
theorem dX6_write_163 : decode cX6_write 163 = .ok (.ishl, 1) := by decide +kernel
theorem dX6_write_164 : decode cX6_write 164 = .ok (.aload_n 0, 1) := by decide +kernel
theorem dX6_write_165 : decode cX6_write 165 = .ok (.getfield 26, 3) := by decide +kernel
theorem dX6_write_168 : decode cX6_write 168 = .ok (.ior, 1) := by decide +kernel
theorem dX6_write_169 : decode cX6_write 169 = .ok (.putfield 14, 3) := by decide +kernel
theorem dX6_write_172 : decode cX6_write 172 = .ok (.aload_n 0, 1) := by decide +kernel
theorem dX6_write_173 : decode cX6_write 173 = .ok (.iconst 1, 1) := by decide +kernel
theorem dX6_write_174 : decode cX6_write 174 = .ok (.putfield 36, 3) := by decide +kernel
theorem dX6_write_177 : decode cX6_write 177 = .ok (.aload_n 0, 1) := by decide +kernel
theorem dX6_write_178 : decode cX6_write 178 = .ok (.dup, 1) := by decide +kernel
theorem dX6_write_179 : decode cX6_write 179 = .ok (.getfield 20, 3) := by decide +kernel
theorem dX6_write_182 : decode cX6_write 182 = .ok (.bipush (-33), 2) := by decide +kernel
theorem dX6_write_184 : decode cX6_write 184 = .ok (.iand, 1) := by decide +kernel
theorem dX6_write_185 : decode cX6_write 185 = .ok (.putfield 20, 3) := by decide +kernel
theorem dX6_write_188 : decode cX6_write 188 = .ok (.goto 61, 3) := by decide +kernel
theorem dX6_write_191 : decode cX6_write 191 = .ok (.aload_n 0, 1) := by decide +kernel
theorem dX6_write_192 : decode cX6_write 192 = .ok (.iload_n 2, 1) := by decide +kernel
theorem dX6_write_193 : decode cX6_write 193 = .ok (.putfield 29, 3) := by decide +kernel
theorem dX6_write_196 : decode cX6_write 196 = .ok (.goto 53, 3) := by decide +kernel
theorem dX6_write_199 : decode cX6_write 199 = .ok (.aload_n 0, 1) := by decide +kernel
theorem dX6_write_200 : decode cX6_write 200 = .ok (.dup, 1) := by decide +kernel
theorem dX6_write_201 : decode cX6_write 201 = .ok (.getfield 20, 3) := by decide +kernel
theorem dX6_write_204 : decode cX6_write 204 = .ok (.iload_n 2, 1) := by decide +kernel
theorem dX6_write_205 : decode cX6_write 205 = .ok (.iconst (-1), 1) := by decide +kernel
theorem dX6_write_206 : decode cX6_write 206 = .ok (.ixor, 1) := by decide +kernel
theorem dX6_write_207 : decode cX6_write 207 = .ok (.iand, 1) := by decide +kernel
theorem dX6_write_208 : decode cX6_write 208 = .ok (.putfield 20, 3) := by decide +kernel
theorem dX6_write_211 : decode cX6_write 211 = .ok (.goto 38, 3) := by decide +kernel
theorem dX6_write_214 : decode cX6_write 214 = .ok (.aload_n 0, 1) := by decide +kernel
theorem dX6_write_215 : decode cX6_write 215 = .ok (.iload_n 2, 1) := by decide +kernel
theorem dX6_write_216 : decode cX6_write 216 = .ok (.sipush 128, 3) := by decide +kernel
theorem dX6_write_219 : decode cX6_write 219 = .ok (.iand, 1) := by decide +kernel
theorem dX6_write_220 : decode cX6_write 220 = .ok (.ifCond .eq 15, 3) := by decide +kernel
