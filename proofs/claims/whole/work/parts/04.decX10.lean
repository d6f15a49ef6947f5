set_option maxRecDepth 20000 in
theorem ggX10_init_X4_init : GoodIn wsX10_init wsX4_init := goodIn_r _ [47, 48, 2, 3, 49, 50, 51, 246, 247, 248] rfl (by decide +kernel)
set_option maxRecDepth 20000 in
theorem gX10_init_X4_init_n9 : GoodIn wsX10_init (wsX4_init) := ggX10_init_X4_init
set_option maxRecDepth 20000 in
theorem ggX10_init_X3_init : GoodIn wsX10_init wsX3_init := goodIn_r _ [53, 54, 2, 3, 49, 55, 56, 57, 58, 59, 60, 61, 62, 63, 261, 262, 263, 264, 265, 266, 267, 268, 269, 270, 271, 272, 273] rfl (by decide +kernel)
set_option maxRecDepth 20000 in
theorem gX10_init_X3_init_n18 : GoodIn wsX10_init (wsX3_init) := ggX10_init_X3_init
set_option maxRecDepth 20000 in
theorem ggX10_init_X9_init : GoodIn wsX10_init wsX9_init := goodIn_r _ [65, 66, 2, 3, 49, 67, 68, 69, 274, 275, 276, 277, 278] rfl (by decide +kernel)
set_option maxRecDepth 20000 in
theorem gX10_init_X9_init_n28 : GoodIn wsX10_init (wsX9_init) := ggX10_init_X9_init
set_option maxRecDepth 20000 in
theorem ggX10_init_X7_init : GoodIn wsX10_init wsX7_init := goodIn_r _ [72, 73, 2, 3, 74, 75, 14, 15, 64, 65, 66, 49, 67, 68, 69, 279, 280, 281, 274, 275, 276, 277, 278] rfl (by decide +kernel)
set_option maxRecDepth 20000 in
theorem gX10_init_X7_init : GoodIn wsX10_init (wsX7_init) := ggX10_init_X7_init
set_option maxRecDepth 20000 in
theorem ggX10_init_X2_init : GoodIn wsX10_init wsX2_init := goodIn_r _ [78, 79, 2, 3, 49, 80, 81, 282, 283] rfl (by decide +kernel)
set_option maxRecDepth 20000 in
theorem gX10_init_X2_init : GoodIn wsX10_init (wsX2_init) := ggX10_init_X2_init
set_option maxRecDepth 20000 in
theorem ggX10_init_X5_init : GoodIn wsX10_init wsX5_init := goodIn_r _ [83, 84, 2, 3, 49, 85, 86, 284, 285, 286] rfl (by decide +kernel)
set_option maxRecDepth 20000 in
theorem gX10_init_X5_init_n56 : GoodIn wsX10_init (wsX5_init) := ggX10_init_X5_init
set_option maxRecDepth 20000 in
theorem ggX10_init_X1_init : GoodIn wsX10_init wsX1_init := goodIn_r _ [89, 90, 2, 3, 91, 14, 15, 92, 93, 94, 64, 65, 66, 49, 67, 68, 69, 274, 275, 276, 277, 278, 287, 288, 289] rfl (by decide +kernel)
set_option maxRecDepth 20000 in
theorem gX10_init_X1_init : GoodIn wsX10_init (wsX1_init) := ggX10_init_X1_init
set_option maxRecDepth 20000 in
theorem ggX10_init_X6_init : GoodIn wsX10_init wsX6_init := goodIn_r _ [97, 98, 2, 3, 99, 14, 15, 100, 101, 49, 102, 103, 104, 105, 106, 64, 65, 66, 67, 68, 69, 274, 275, 276, 277, 278, 290, 291, 292, 293, 294, 295, 296] rfl (by decide +kernel)
set_option maxRecDepth 20000 in
theorem gX10_init_X6_init : GoodIn wsX10_init (wsX6_init) := ggX10_init_X6_init
set_option maxRecDepth 20000 in
theorem ggX10_init_X8_init : GoodIn wsX10_init wsX8_init := goodIn_r _ [109, 110, 2, 3, 111, 112, 49, 113, 114, 115, 14, 15, 64, 65, 66, 67, 68, 69, 297, 298, 299, 300, 274, 275, 276, 277, 278] rfl (by decide +kernel)
set_option maxRecDepth 20000 in
theorem gX10_init_X8_init : GoodIn wsX10_init (wsX8_init) := ggX10_init_X8_init
set_option maxRecDepth 20000 in
theorem ggX10_init_X0_init : GoodIn wsX10_init wsX0_init := goodIn_r _ [117, 118, 2, 3, 49, 119, 120, 301, 302] rfl (by decide +kernel)
set_option maxRecDepth 20000 in
theorem gX10_init_X0_init_n86 : GoodIn wsX10_init (wsX0_init) := ggX10_init_X0_init
set_option maxRecDepth 20000 in
theorem ggX10_init_J0_length_8abf5 : GoodIn wsX10_init wsJ0_length_8abf5 := goodIn_r _ [125, 126, 127, 128, 129, 124, 130, 131, 132] rfl (by decide +kernel)
set_option maxRecDepth 20000 in
theorem gX10_init_J0_length_8abf5 : GoodIn wsX10_init (wsV RX10 93 RJ0 yJ0_length_8abf5 wsJ0_length_8abf5) := goodIn_app (goodIn_of _ (by decide +kernel)) ggX10_init_J0_length_8abf5
set_option maxRecDepth 20000 in
theorem ggX10_init_J0_charAt_5068e : GoodIn wsX10_init wsJ0_charAt_5068e := goodIn_r _ [136, 126, 137, 138, 139, 124, 140, 131, 132, 141, 142, 143, 144, 145, 146, 147, 148, 149, 150, 151, 152, 153, 154, 155, 156, 157, 158, 159, 160, 161, 162, 163, 164, 165, 166, 167, 168, 169] rfl (by decide +kernel)
set_option maxRecDepth 20000 in
theorem gX10_init_J0_charAt_5068e : GoodIn wsX10_init (wsV RX10 99 RJ0 yJ0_charAt_5068e wsJ0_charAt_5068e) := goodIn_app (goodIn_of _ (by decide +kernel)) ggX10_init_J0_charAt_5068e
set_option maxRecDepth 20000 in
theorem ggX10_init_X4_add : GoodIn wsX10_init wsX4_add := goodIn_r _ [173, 174, 50, 246, 247, 248] rfl (by decide +kernel)
set_option maxRecDepth 20000 in
theorem gX10_init_X4_add : GoodIn wsX10_init (wsV RX10 103 RX4 yX4_add wsX4_add) := goodIn_app (goodIn_of _ (by decide +kernel)) ggX10_init_X4_add
set_option maxRecDepth 20000 in
theorem ggX10_init_X4_readInto : GoodIn wsX10_init wsX4_readInto := goodIn_r _ [178, 174, 50, 51, 179, 180, 181, 10, 182, 183, 184, 185, 186, 60, 61, 63, 187, 188, 189, 190, 191, 192, 193, 194, 195, 196, 197, 198, 199, 200, 201, 55, 56, 57, 58, 59, 202, 203, 204, 205, 206, 207, 208, 209, 210, 211, 212, 213, 62, 214, 215, 216, 217, 246, 247, 248, 261, 262, 263, 264, 265, 266, 267, 268, 269, 270, 271, 272, 273] rfl (by decide +kernel)
set_option maxRecDepth 20000 in
theorem gX10_init_X4_readInto : GoodIn wsX10_init (wsV RX10 106 RX4 yX4_readInto wsX4_readInto) := goodIn_app (goodIn_of _ (by decide +kernel)) ggX10_init_X4_readInto
set_option maxRecDepth 20000 in
theorem ggX10_init_X4_clear : GoodIn wsX10_init wsX4_clear := goodIn_r _ [221, 174, 246, 247, 248] rfl (by decide +kernel)
set_option maxRecDepth 20000 in
theorem gX10_init_X4_clear : GoodIn wsX10_init (wsV RX10 110 RX4 yX4_clear wsX4_clear) := goodIn_app (goodIn_of _ (by decide +kernel)) ggX10_init_X4_clear
set_option maxRecDepth 20000 in
theorem ggX10_init_X10_start : GoodIn wsX10_init wsX10_start := goodIn_r _ [225, 16, 11, 29, 20, 21, 226, 227, 228, 15, 229, 67, 230, 68, 231, 69, 232, 233, 234, 235, 236, 237, 238, 28, 239, 240, 241, 242, 243, 19, 244, 245, 249, 250, 251, 252, 253, 254, 255, 256, 257, 258, 259, 260, 274, 275, 276, 277, 278, 261, 262, 263, 264, 265, 266, 267, 268, 269, 270, 271, 272, 273, 284, 285, 286, 279, 280, 281] rfl (by decide +kernel)
set_option maxRecDepth 20000 in
theorem gX10_init_X10_start : GoodIn wsX10_init (wsV RX10 113 RX10 yX10_start wsX10_start) := goodIn_app (goodIn_of _ (by decide +kernel)) ggX10_init_X10_start
theorem dX10_init_0 : decode cX10_init 0 = .ok (.aload_n 0, 1) := by decide +kernel
theorem dX10_init_1 : decode cX10_init 1 = .ok (.invokespecial 1, 3) := by decide +kernel
theorem dX10_init_4 : decode cX10_init 4 = .ok (.aload_n 0, 1) := by decide +kernel
theorem dX10_init_5 : decode cX10_init 5 = .ok (.new 7, 3) := by decide +kernel
theorem dX10_init_8 : decode cX10_init 8 = .ok (.dup, 1) := by decide +kernel
theorem dX10_init_9 : decode cX10_init 9 = .ok (.invokespecial 9, 3) := by decide +kernel
theorem dX10_init_12 : decode cX10_init 12 = .ok (.putfield 10, 3) := by decide +kernel
theorem dX10_init_15 : decode cX10_init 15 = .ok (.aload_n 0, 1) := by decide +kernel
theorem dX10_init_16 : decode cX10_init 16 = .ok (.new 16, 3) := by decide +kernel
theorem dX10_init_19 : decode cX10_init 19 = .ok (.dup, 1) := by decide +kernel
theorem dX10_init_20 : decode cX10_init 20 = .ok (.invokespecial 18, 3) := by decide +kernel
theorem dX10_init_23 : decode cX10_init 23 = .ok (.putfield 19, 3) := by decide +kernel
theorem dX10_init_26 : decode cX10_init 26 = .ok (.aload_n 0, 1) := by decide +kernel
theorem dX10_init_27 : decode cX10_init 27 = .ok (.new 16, 3) := by decide +kernel
theorem dX10_init_30 : decode cX10_init 30 = .ok (.dup, 1) := by decide +kernel
theorem dX10_init_31 : decode cX10_init 31 = .ok (.invokespecial 18, 3) := by decide +kernel
theorem dX10_init_34 : decode cX10_init 34 = .ok (.putfield 23, 3) := by decide +kernel
theorem dX10_init_37 : decode cX10_init 37 = .ok (.aload_n 0, 1) := by decide +kernel
theorem dX10_init_38 : decode cX10_init 38 = .ok (.new 26, 3) := by decide +kernel
theorem dX10_init_41 : decode cX10_init 41 = .ok (.dup, 1) := by decide +kernel
theorem dX10_init_42 : decode cX10_init 42 = .ok (.invokespecial 28, 3) := by decide +kernel
theorem dX10_init_45 : decode cX10_init 45 = .ok (.putfield 29, 3) := by decide +kernel
theorem dX10_init_48 : decode cX10_init 48 = .ok (.aload_n 0, 1) := by decide +kernel
theorem dX10_init_49 : decode cX10_init 49 = .ok (.new 33, 3) := by decide +kernel
theorem dX10_init_52 : decode cX10_init 52 = .ok (.dup, 1) := by decide +kernel
theorem dX10_init_53 : decode cX10_init 53 = .ok (.bipush 8, 2) := by decide +kernel
theorem dX10_init_55 : decode cX10_init 55 = .ok (.invokespecial 35, 3) := by decide +kernel
theorem dX10_init_58 : decode cX10_init 58 = .ok (.putfield 38, 3) := by decide +kernel
theorem dX10_init_61 : decode cX10_init 61 = .ok (.aload_n 0, 1) := by decide +kernel
theorem dX10_init_62 : decode cX10_init 62 = .ok (.new 33, 3) := by decide +kernel
theorem dX10_init_65 : decode cX10_init 65 = .ok (.dup, 1) := by decide +kernel
theorem dX10_init_66 : decode cX10_init 66 = .ok (.iconst 2, 1) := by decide +kernel
theorem dX10_init_67 : decode cX10_init 67 = .ok (.invokespecial 35, 3) := by decide +kernel
theorem dX10_init_70 : decode cX10_init 70 = .ok (.putfield 42, 3) := by decide +kernel
theorem dX10_init_73 : decode cX10_init 73 = .ok (.aload_n 0, 1) := by decide +kernel
theorem dX10_init_74 : decode cX10_init 74 = .ok (.new 45, 3) := by decide +kernel
theorem dX10_init_77 : decode cX10_init 77 = .ok (.dup, 1) := by decide +kernel
theorem dX10_init_78 : decode cX10_init 78 = .ok (.aload_n 0, 1) := by decide +kernel
theorem dX10_init_79 : decode cX10_init 79 = .ok (.getfield 19, 3) := by decide +kernel
theorem dX10_init_82 : decode cX10_init 82 = .ok (.invokespecial 47, 3) := by decide +kernel
theorem dX10_init_85 : decode cX10_init 85 = .ok (.putfield 50, 3) := by decide +kernel
theorem dX10_init_88 : decode cX10_init 88 = .ok (.aload_n 0, 1) := by decide +kernel
theorem dX10_init_89 : decode cX10_init 89 = .ok (.new 54, 3) := by decide +kernel
theorem dX10_init_92 : decode cX10_init 92 = .ok (.dup, 1) := by decide +kernel
theorem dX10_init_93 : decode cX10_init 93 = .ok (.invokespecial 56, 3) := by decide +kernel
theorem dX10_init_96 : decode cX10_init 96 = .ok (.putfield 57, 3) := by decide +kernel
theorem dX10_init_99 : decode cX10_init 99 = .ok (.aload_n 0, 1) := by decide +kernel
theorem dX10_init_100 : decode cX10_init 100 = .ok (.new 61, 3) := by decide +kernel
theorem dX10_init_103 : decode cX10_init 103 = .ok (.dup, 1) := by decide +kernel
theorem dX10_init_104 : decode cX10_init 104 = .ok (.aload_n 0, 1) := by decide +kernel
theorem dX10_init_105 : decode cX10_init 105 = .ok (.getfield 19, 3) := by decide +kernel
theorem dX10_init_108 : decode cX10_init 108 = .ok (.aload_n 0, 1) := by decide +kernel
theorem dX10_init_109 : decode cX10_init 109 = .ok (.getfield 50, 3) := by decide +kernel
theorem dX10_init_112 : decode cX10_init 112 = .ok (.invokespecial 63, 3) := by decide +kernel
theorem dX10_init_115 : decode cX10_init 115 = .ok (.putfield 66, 3) := by decide +kernel
theorem dX10_init_118 : decode cX10_init 118 = .ok (.aload_n 0, 1) := by decide +kernel
theorem dX10_init_119 : decode cX10_init 119 = .ok (.new 70, 3) := by decide +kernel
theorem dX10_init_122 : decode cX10_init 122 = .ok (.dup, 1) := by decide +kernel
theorem dX10_init_123 : decode cX10_init 123 = .ok (.aload_n 0, 1) := by decide +kernel
theorem dX10_init_124 : decode cX10_init 124 = .ok (.getfield 19, 3) := by decide +kernel
theorem dX10_init_127 : decode cX10_init 127 = .ok (.aload_n 0, 1) := by decide +kernel
theorem dX10_init_128 : decode cX10_init 128 = .ok (.getfield 50, 3) := by decide +kernel
theorem dX10_init_131 : decode cX10_init 131 = .ok (.invokespecial 72, 3) := by decide +kernel
theorem dX10_init_134 : decode cX10_init 134 = .ok (.putfield 73, 3) := by decide +kernel
theorem dX10_init_137 : decode cX10_init 137 = .ok (.aload_n 0, 1) := by decide +kernel
theorem dX10_init_138 : decode cX10_init 138 = .ok (.new 77, 3) := by decide +kernel
theorem dX10_init_141 : decode cX10_init 141 = .ok (.dup, 1) := by decide +kernel
theorem dX10_init_142 : decode cX10_init 142 = .ok (.aload_n 0, 1) := by decide +kernel
theorem dX10_init_143 : decode cX10_init 143 = .ok (.getfield 19, 3) := by decide +kernel
theorem dX10_init_146 : decode cX10_init 146 = .ok (.aload_n 0, 1) := by decide +kernel
theorem dX10_init_147 : decode cX10_init 147 = .ok (.getfield 50, 3) := by decide +kernel
theorem dX10_init_150 : decode cX10_init 150 = .ok (.invokespecial 79, 3) := by decide +kernel
theorem dX10_init_153 : decode cX10_init 153 = .ok (.putfield 80, 3) := by decide +kernel
theorem dX10_init_156 : decode cX10_init 156 = .ok (.aload_n 0, 1) := by decide +kernel
theorem dX10_init_157 : decode cX10_init 157 = .ok (.new 84, 3) := by decide +kernel
theorem dX10_init_160 : decode cX10_init 160 = .ok (.dup, 1) := by decide +kernel
theorem dX10_init_161 : decode cX10_init 161 = .ok (.invokespecial 86, 3) := by decide +kernel
theorem dX10_init_164 : decode cX10_init 164 = .ok (.putfield 87, 3) := by decide +kernel
theorem dX10_init_167 : decode cX10_init 167 = .ok (.iconst 0, 1) := by decide +kernel
theorem dX10_init_168 : decode cX10_init 168 = .ok (.istore_n 1, 1) := by decide +kernel
theorem dX10_init_169 : decode cX10_init 169 = .ok (.iload_n 1, 1) := by decide +kernel
theorem dX10_init_170 : decode cX10_init 170 = .ok (.ldc 91, 2) := by decide +kernel
theorem dX10_init_172 : decode cX10_init 172 = .ok (.invokevirtual 93, 3) := by decide +kernel
theorem dX10_init_175 : decode cX10_init 175 = .ok (.if_icmp .ge 22, 3) := by decide +kernel
theorem dX10_init_178 : decode cX10_init 178 = .ok (.aload_n 0, 1) := by decide +kernel
theorem dX10_init_179 : decode cX10_init 179 = .ok (.getfield 10, 3) := by decide +kernel
theorem dX10_init_182 : decode cX10_init 182 = .ok (.ldc 91, 2) := by decide +kernel
theorem dX10_init_184 : decode cX10_init 184 = .ok (.iload_n 1, 1) := by decide +kernel
theorem dX10_init_185 : decode cX10_init 185 = .ok (.invokevirtual 99, 3) := by decide +kernel
theorem dX10_init_188 : decode cX10_init 188 = .ok (.invokevirtual 103, 3) := by decide +kernel
theorem dX10_init_191 : decode cX10_init 191 = .ok (.iinc 1 1, 3) := by decide +kernel
theorem dX10_init_194 : decode cX10_init 194 = .ok (.goto (-25), 3) := by decide +kernel
theorem dX10_init_197 : decode cX10_init 197 = .ok (.aload_n 0, 1) := by decide +kernel
theorem dX10_init_198 : decode cX10_init 198 = .ok (.getfield 10, 3) := by decide +kernel
theorem dX10_init_201 : decode cX10_init 201 = .ok (.aload_n 0, 1) := by decide +kernel
theorem dX10_init_202 : decode cX10_init 202 = .ok (.getfield 19, 3) := by decide +kernel
theorem dX10_init_205 : decode cX10_init 205 = .ok (.invokevirtual 106, 3) := by decide +kernel
theorem dX10_init_208 : decode cX10_init 208 = .ok (.pop, 1) := by decide +kernel
theorem dX10_init_209 : decode cX10_init 209 = .ok (.aload_n 0, 1) := by decide +kernel
theorem dX10_init_210 : decode cX10_init 210 = .ok (.getfield 10, 3) := by decide +kernel
theorem dX10_init_213 : decode cX10_init 213 = .ok (.invokevirtual 110, 3) := by decide +kernel
theorem dX10_init_216 : decode cX10_init 216 = .ok (.aload_n 0, 1) := by decide +kernel
theorem dX10_init_217 : decode cX10_init 217 = .ok (.invokevirtual 113, 3) := by decide +kernel
theorem dX10_init_220 : decode cX10_init 220 = .ok (.return_, 1) := by decide +kernel
set_option maxRecDepth 20000 in
theorem ggX10_write_X10_outside : GoodIn wsX10_write wsX10_outside := goodIn_r _ [6] rfl (by decide +kernel)
set_option maxRecDepth 20000 in
theorem gX10_write_X10_outside : GoodIn wsX10_write (va_wsS RX10 116 yX10_outside wsX10_outside) := goodIn_app (goodIn_of _ (by decide +kernel)) ggX10_write_X10_outside
set_option maxRecDepth 20000 in
theorem ggX10_write_X4_add : GoodIn wsX10_write wsX4_add := goodIn_r _ [11, 12, 13, 26, 27, 28] rfl (by decide +kernel)
set_option maxRecDepth 20000 in
theorem gX10_write_X4_add : GoodIn wsX10_write (wsV RX10 103 RX4 yX4_add wsX4_add) := goodIn_app (goodIn_of _ (by decide +kernel)) ggX10_write_X4_add
theorem dX10_write_0 : decode cX10_write 0 = .ok (.iload_n 1, 1) := by decide +kernel
theorem dX10_write_1 : decode cX10_write 1 = .ok (.bipush 32, 2) := by decide +kernel
theorem dX10_write_3 : decode cX10_write 3 = .ok (.bipush 126, 2) := by decide +kernel
theorem dX10_write_5 : decode cX10_write 5 = .ok (.invokestatic 116, 3) := by decide +kernel
theorem dX10_write_8 : decode cX10_write 8 = .ok (.ifCond .eq 5, 3) := by decide +kernel
theorem dX10_write_11 : decode cX10_write 11 = .ok (.iconst (-1), 1) := by decide +kernel
theorem dX10_write_12 : decode cX10_write 12 = .ok (.ireturn, 1) := by decide +kernel
theorem dX10_write_13 : decode cX10_write 13 = .ok (.aload_n 0, 1) := by decide +kernel
theorem dX10_write_14 : decode cX10_write 14 = .ok (.getfield 10, 3) := by decide +kernel
theorem dX10_write_17 : decode cX10_write 17 = .ok (.getfield 120, 3) := by decide +kernel
theorem dX10_write_20 : decode cX10_write 20 = .ok (.sipush 200, 3) := by decide +kernel
theorem dX10_write_23 : decode cX10_write 23 = .ok (.if_icmp .lt 6, 3) := by decide +kernel
theorem dX10_write_26 : decode cX10_write 26 = .ok (.bipush (-3), 2) := by decide +kernel
theorem dX10_write_28 : decode cX10_write 28 = .ok (.ireturn, 1) := by decide +kernel
theorem dX10_write_29 : decode cX10_write 29 = .ok (.aload_n 0, 1) := by decide +kernel
theorem dX10_write_30 : decode cX10_write 30 = .ok (.getfield 10, 3) := by decide +kernel
theorem dX10_write_33 : decode cX10_write 33 = .ok (.iload_n 1, 1) := by decide +kernel
theorem dX10_write_34 : decode cX10_write 34 = .ok (.invokevirtual 103, 3) := by decide +kernel
theorem dX10_write_37 : decode cX10_write 37 = .ok (.aload_n 0, 1) := by decide +kernel
theorem dX10_write_38 : decode cX10_write 38 = .ok (.getfield 10, 3) := by decide +kernel
theorem dX10_write_41 : decode cX10_write 41 = .ok (.getfield 120, 3) := by decide +kernel
theorem dX10_write_44 : decode cX10_write 44 = .ok (.ireturn, 1) := by decide +kernel
set_option maxRecDepth 20000 in
theorem ggX10_wipe_X4_clear : GoodIn wsX10_wipe wsX4_clear := goodIn_r _ [7, 8, 21, 22, 23] rfl (by decide +kernel)
set_option maxRecDepth 20000 in
theorem gX10_wipe_X4_clear : GoodIn wsX10_wipe (wsV RX10 110 RX4 yX4_clear wsX4_clear) := goodIn_app (goodIn_of _ (by decide +kernel)) ggX10_wipe_X4_clear
theorem dX10_wipe_0 : decode cX10_wipe 0 = .ok (.aload_n 0, 1) := by decide +kernel
theorem dX10_wipe_1 : decode cX10_wipe 1 = .ok (.getfield 10, 3) := by decide +kernel
theorem dX10_wipe_4 : decode cX10_wipe 4 = .ok (.getfield 120, 3) := by decide +kernel
theorem dX10_wipe_7 : decode cX10_wipe 7 = .ok (.istore_n 1, 1) := by decide +kernel
theorem dX10_wipe_8 : decode cX10_wipe 8 = .ok (.aload_n 0, 1) := by decide +kernel
theorem dX10_wipe_9 : decode cX10_wipe 9 = .ok (.getfield 10, 3) := by decide +kernel
theorem dX10_wipe_12 : decode cX10_wipe 12 = .ok (.invokevirtual 110, 3) := by decide +kernel
theorem dX10_wipe_15 : decode cX10_wipe 15 = .ok (.iload_n 1, 1) := by decide +kernel
theorem dX10_wipe_16 : decode cX10_wipe 16 = .ok (.ireturn, 1) := by decide +kernel
set_option maxRecDepth 20000 in
theorem ggX10_fault_X4_readInto : GoodIn wsX10_fault wsX4_readInto := goodIn_r _ [7, 8, 9, 10, 11, 12, 13, 14, 15, 16, 17, 18, 19, 20, 21, 22, 23, 24, 25, 26, 27, 28, 29, 30, 31, 32, 33, 34, 35, 36, 37, 38, 39, 40, 41, 42, 43, 44, 45, 46, 47, 48, 49, 50, 51, 52, 53, 54, 55, 56, 57, 58, 59, 72, 73, 74, 75, 76, 77, 78, 79, 80, 81, 82, 83, 84, 85, 86, 87] rfl (by decide +kernel)
set_option maxRecDepth 20000 in
theorem gX10_fault_X4_readInto : GoodIn wsX10_fault (wsV RX10 106 RX4 yX4_readInto wsX4_readInto) := goodIn_app (goodIn_of _ (by decide +kernel)) ggX10_fault_X4_readInto
theorem dX10_fault_0 : decode cX10_fault 0 = .ok (.aload_n 0, 1) := by decide +kernel
theorem dX10_fault_1 : decode cX10_fault 1 = .ok (.getfield 10, 3) := by decide +kernel
theorem dX10_fault_4 : decode cX10_fault 4 = .ok (.aload_n 0, 1) := by decide +kernel
theorem dX10_fault_5 : decode cX10_fault 5 = .ok (.getfield 23, 3) := by decide +kernel
theorem dX10_fault_8 : decode cX10_fault 8 = .ok (.invokevirtual 106, 3) := by decide +kernel
theorem dX10_fault_11 : decode cX10_fault 11 = .ok (.ireturn, 1) := by decide +kernel
set_option maxRecDepth 20000 in
theorem ggX10_lay_X4_readInto : GoodIn wsX10_lay wsX4_readInto := goodIn_r _ [9, 10, 11, 12, 13, 14, 15, 16, 17, 18, 19, 20, 21, 22, 23, 24, 25, 26, 27, 28, 29, 30, 31, 32, 33, 34, 35, 36, 37, 38, 39, 40, 41, 42, 43, 44, 45, 46, 47, 48, 49, 50, 51, 52, 53, 54, 55, 56, 57, 58, 59, 60, 61, 121, 122, 123, 108, 109, 110, 111, 112, 113, 114, 115, 116, 117, 118, 119, 120] rfl (by decide +kernel)
set_option maxRecDepth 20000 in
theorem gX10_lay_X4_readInto : GoodIn wsX10_lay (wsV RX10 106 RX4 yX4_readInto wsX4_readInto) := goodIn_app (goodIn_of _ (by decide +kernel)) ggX10_lay_X4_readInto
set_option maxRecDepth 20000 in
theorem ggX10_lay_X10_start : GoodIn wsX10_lay wsX10_start := goodIn_r _ [65, 66, 4, 67, 68, 69, 70, 71, 72, 73, 74, 75, 76, 77, 78, 79, 80, 81, 82, 83, 84, 85, 86, 87, 88, 89, 90, 91, 92, 93, 94, 95, 96, 97, 98, 99, 100, 101, 102, 103, 104, 105, 106, 107, 124, 125, 126, 127, 128, 108, 109, 110, 111, 112, 113, 114, 115, 116, 117, 118, 119, 120, 129, 130, 131, 132, 133, 134] rfl (by decide +kernel)
set_option maxRecDepth 20000 in
theorem gX10_lay_X10_start : GoodIn wsX10_lay (wsV RX10 113 RX10 yX10_start wsX10_start) := goodIn_app (goodIn_of _ (by decide +kernel)) ggX10_lay_X10_start
theorem dX10_lay_0 : decode cX10_lay 0 = .ok (.aload_n 0, 1) := by decide +kernel
theorem dX10_lay_1 : decode cX10_lay 1 = .ok (.getfield 10, 3) := by decide +kernel
theorem dX10_lay_4 : decode cX10_lay 4 = .ok (.aload_n 0, 1) := by decide +kernel
theorem dX10_lay_5 : decode cX10_lay 5 = .ok (.getfield 23, 3) := by decide +kernel
theorem dX10_lay_8 : decode cX10_lay 8 = .ok (.invokevirtual 106, 3) := by decide +kernel
theorem dX10_lay_11 : decode cX10_lay 11 = .ok (.bipush (-4), 2) := by decide +kernel
theorem dX10_lay_13 : decode cX10_lay 13 = .ok (.if_icmp .ne 13, 3) := by decide +kernel
theorem dX10_lay_16 : decode cX10_lay 16 = .ok (.aload_n 0, 1) := by decide +kernel
theorem dX10_lay_17 : decode cX10_lay 17 = .ok (.getfield 23, 3) := by decide +kernel
theorem dX10_lay_20 : decode cX10_lay 20 = .ok (.getfield 123, 3) := by decide +kernel
theorem dX10_lay_23 : decode cX10_lay 23 = .ok (.ifCond .ne 6, 3) := by decide +kernel
theorem dX10_lay_26 : decode cX10_lay 26 = .ok (.bipush (-2), 2) := by decide +kernel
theorem dX10_lay_28 : decode cX10_lay 28 = .ok (.ireturn, 1) := by decide +kernel
theorem dX10_lay_29 : decode cX10_lay 29 = .ok (.aload_n 0, 1) := by decide +kernel
theorem dX10_lay_30 : decode cX10_lay 30 = .ok (.getfield 10, 3) := by decide +kernel
theorem dX10_lay_33 : decode cX10_lay 33 = .ok (.aload_n 0, 1) := by decide +kernel
theorem dX10_lay_34 : decode cX10_lay 34 = .ok (.getfield 19, 3) := by decide +kernel
theorem dX10_lay_37 : decode cX10_lay 37 = .ok (.invokevirtual 106, 3) := by decide +kernel
theorem dX10_lay_40 : decode cX10_lay 40 = .ok (.pop, 1) := by decide +kernel
theorem dX10_lay_41 : decode cX10_lay 41 = .ok (.aload_n 0, 1) := by decide +kernel
theorem dX10_lay_42 : decode cX10_lay 42 = .ok (.invokevirtual 113, 3) := by decide +kernel
theorem dX10_lay_45 : decode cX10_lay 45 = .ok (.aload_n 0, 1) := by decide +kernel
theorem dX10_lay_46 : decode cX10_lay 46 = .ok (.getfield 19, 3) := by decide +kernel
theorem dX10_lay_49 : decode cX10_lay 49 = .ok (.getfield 123, 3) := by decide +kernel
theorem dX10_lay_52 : decode cX10_lay 52 = .ok (.ireturn, 1) := by decide +kernel
set_option maxRecDepth 20000 in
theorem ggX10_step_X10_noStep : GoodIn wsX10_step wsX10_noStep := goodIn_r _ [9, 10, 11, 12, 13, 8, 14, 54, 55, 56, 57, 58, 59, 60, 61, 62, 63, 64, 65, 71, 72, 73, 74, 75, 76, 77, 78, 79, 80, 81, 82, 83] rfl (by decide +kernel)
set_option maxRecDepth 20000 in
theorem gX10_step_X10_noStep : GoodIn wsX10_step (wsV RX10 126 RX10 yX10_noStep wsX10_noStep) := goodIn_app (goodIn_of _ (by decide +kernel)) ggX10_step_X10_noStep
set_option maxRecDepth 20000 in
theorem ggX10_step_X10_outside : GoodIn wsX10_step wsX10_outside := goodIn_r _ [14] rfl (by decide +kernel)
set_option maxRecDepth 20000 in
theorem gX10_step_X10_outside : GoodIn wsX10_step (va_wsS RX10 116 yX10_outside wsX10_outside) := goodIn_app (goodIn_of _ (by decide +kernel)) ggX10_step_X10_outside
set_option maxRecDepth 20000 in
theorem ggX10_step_X2_leftOverAt : GoodIn wsX10_step wsX2_leftOverAt := goodIn_r _ [19, 20, 21, 22, 23, 24, 18, 25, 26, 27, 28, 29, 30, 31, 32, 33, 34, 35, 36, 37, 38, 39, 40, 41, 42, 43, 44, 8, 45, 46, 47, 48, 49, 50, 51, 52, 66, 67, 68, 69, 70, 84, 85, 71, 72, 73, 74, 75, 76, 77, 78, 79, 80, 81, 82, 83] rfl (by decide +kernel)
set_option maxRecDepth 20000 in
theorem gX10_step_X2_leftOverAt : GoodIn wsX10_step (wsV RX10 137 RX2 yX2_leftOverAt wsX2_leftOverAt) := goodIn_app (goodIn_of _ (by decide +kernel)) ggX10_step_X2_leftOverAt
set_option maxRecDepth 20000 in
theorem ggX10_step_X2_notGoneAt : GoodIn wsX10_step wsX2_notGoneAt := goodIn_r _ [30, 31, 32, 33, 34, 84, 85, 71, 72, 73, 74, 75, 76, 77, 78, 79, 80, 81, 82, 83, 66, 67, 68, 69, 70] rfl (by decide +kernel)
set_option maxRecDepth 20000 in
theorem gX10_step_X2_notGoneAt : GoodIn wsX10_step (wsV RX10 141 RX2 yX2_notGoneAt wsX2_notGoneAt) := goodIn_app (goodIn_of _ (by decide +kernel)) ggX10_step_X2_notGoneAt
theorem dX10_step_0 : decode cX10_step 0 = .ok (.aload_n 0, 1) := by decide +kernel
theorem dX10_step_1 : decode cX10_step 1 = .ok (.iload_n 1, 1) := by decide +kernel
theorem dX10_step_2 : decode cX10_step 2 = .ok (.invokevirtual 126, 3) := by decide +kernel
theorem dX10_step_5 : decode cX10_step 5 = .ok (.ifCond .ne 12, 3) := by decide +kernel
theorem dX10_step_8 : decode cX10_step 8 = .ok (.iload_n 2, 1) := by decide +kernel
theorem dX10_step_9 : decode cX10_step 9 = .ok (.iconst 0, 1) := by decide +kernel
theorem dX10_step_10 : decode cX10_step 10 = .ok (.iconst 3, 1) := by decide +kernel
theorem dX10_step_11 : decode cX10_step 11 = .ok (.invokestatic 116, 3) := by decide +kernel
theorem dX10_step_14 : decode cX10_step 14 = .ok (.ifCond .eq 5, 3) := by decide +kernel
theorem dX10_step_17 : decode cX10_step 17 = .ok (.iconst (-1), 1) := by decide +kernel
theorem dX10_step_18 : decode cX10_step 18 = .ok (.ireturn, 1) := by decide +kernel
theorem dX10_step_19 : decode cX10_step 19 = .ok (.iload_n 2, 1) := by decide +kernel
theorem dX10_step_20 : decode cX10_step 20 = .ok (.tableswitch 61 0 2 #[28, 38, 48], 28) := by decide +kernel
theorem dX10_step_48 : decode cX10_step 48 = .ok (.aload_n 0, 1) := by decide +kernel
theorem dX10_step_49 : decode cX10_step 49 = .ok (.getfield 29, 3) := by decide +kernel
theorem dX10_step_52 : decode cX10_step 52 = .ok (.getfield 130, 3) := by decide +kernel
theorem dX10_step_55 : decode cX10_step 55 = .ok (.iload_n 1, 1) := by decide +kernel
theorem dX10_step_56 : decode cX10_step 56 = .ok (.iaload, 1) := by decide +kernel
theorem dX10_step_57 : decode cX10_step 57 = .ok (.ireturn, 1) := by decide +kernel
theorem dX10_step_58 : decode cX10_step 58 = .ok (.aload_n 0, 1) := by decide +kernel
theorem dX10_step_59 : decode cX10_step 59 = .ok (.getfield 29, 3) := by decide +kernel
theorem dX10_step_62 : decode cX10_step 62 = .ok (.getfield 134, 3) := by decide +kernel
theorem dX10_step_65 : decode cX10_step 65 = .ok (.iload_n 1, 1) := by decide +kernel
theorem dX10_step_66 : decode cX10_step 66 = .ok (.iaload, 1) := by decide +kernel
theorem dX10_step_67 : decode cX10_step 67 = .ok (.ireturn, 1) := by decide +kernel
theorem dX10_step_68 : decode cX10_step 68 = .ok (.aload_n 0, 1) := by decide +kernel
theorem dX10_step_69 : decode cX10_step 69 = .ok (.getfield 50, 3) := by decide +kernel
theorem dX10_step_72 : decode cX10_step 72 = .ok (.aload_n 0, 1) := by decide +kernel
theorem dX10_step_73 : decode cX10_step 73 = .ok (.getfield 29, 3) := by decide +kernel
theorem dX10_step_76 : decode cX10_step 76 = .ok (.iload_n 1, 1) := by decide +kernel
theorem dX10_step_77 : decode cX10_step 77 = .ok (.invokevirtual 137, 3) := by decide +kernel
theorem dX10_step_80 : decode cX10_step 80 = .ok (.ireturn, 1) := by decide +kernel
theorem dX10_step_81 : decode cX10_step 81 = .ok (.aload_n 0, 1) := by decide +kernel
theorem dX10_step_82 : decode cX10_step 82 = .ok (.getfield 50, 3) := by decide +kernel
theorem dX10_step_85 : decode cX10_step 85 = .ok (.aload_n 0, 1) := by decide +kernel
theorem dX10_step_86 : decode cX10_step 86 = .ok (.getfield 29, 3) := by decide +kernel
theorem dX10_step_89 : decode cX10_step 89 = .ok (.iload_n 1, 1) := by decide +kernel
theorem dX10_step_90 : decode cX10_step 90 = .ok (.invokevirtual 141, 3) := by decide +kernel
theorem dX10_step_93 : decode cX10_step 93 = .ok (.ireturn, 1) := by decide +kernel
set_option maxRecDepth 20000 in
theorem ggX10_younger_X10_noYounger : GoodIn wsX10_younger wsX10_noYounger := goodIn_r _ [14, 1, 15, 16, 17, 13, 18, 63, 64, 65, 66, 67, 68, 69, 70, 71, 72, 73, 74, 75, 76, 77, 78, 79, 80, 81, 82, 83, 84, 85, 86, 87] rfl (by decide +kernel)
set_option maxRecDepth 20000 in
theorem gX10_younger_X10_noYounger : GoodIn wsX10_younger (wsV RX10 144 RX10 yX10_noYounger wsX10_noYounger) := goodIn_app (goodIn_of _ (by decide +kernel)) ggX10_younger_X10_noYounger
set_option maxRecDepth 20000 in
theorem ggX10_younger_X10_outside : GoodIn wsX10_younger wsX10_outside := goodIn_r _ [18] rfl (by decide +kernel)
set_option maxRecDepth 20000 in
theorem gX10_younger_X10_outside : GoodIn wsX10_younger (va_wsS RX10 116 yX10_outside wsX10_outside) := goodIn_app (goodIn_of _ (by decide +kernel)) ggX10_younger_X10_outside
set_option maxRecDepth 20000 in
theorem ggX10_younger_X9_hasQuarrelled : GoodIn wsX10_younger wsX9_hasQuarrelled := goodIn_r _ [23, 24, 25, 13, 26, 88, 89, 90, 91, 92] rfl (by decide +kernel)
set_option maxRecDepth 20000 in
theorem gX10_younger_X9_hasQuarrelled : GoodIn wsX10_younger (wsV RX10 162 RX9 yX9_hasQuarrelled wsX9_hasQuarrelled) := goodIn_app (goodIn_of _ (by decide +kernel)) ggX10_younger_X9_hasQuarrelled
set_option maxRecDepth 20000 in
theorem ggX10_younger_X2_leftOverAt : GoodIn wsX10_younger wsX2_leftOverAt := goodIn_r _ [31, 32, 33, 34, 35, 36, 30, 37, 38, 39, 40, 41, 42, 43, 44, 45, 46, 47, 48, 49, 50, 51, 52, 53, 54, 55, 25, 13, 26, 56, 57, 58, 59, 60, 61, 62, 88, 89, 90, 91, 92, 93, 94, 75, 76, 77, 78, 79, 80, 81, 82, 83, 84, 85, 86, 87] rfl (by decide +kernel)
set_option maxRecDepth 20000 in
theorem gX10_younger_X2_leftOverAt : GoodIn wsX10_younger (wsV RX10 137 RX2 yX2_leftOverAt wsX2_leftOverAt) := goodIn_app (goodIn_of _ (by decide +kernel)) ggX10_younger_X2_leftOverAt
theorem dX10_younger_0 : decode cX10_younger 0 = .ok (.aload_n 0, 1) := by decide +kernel
theorem dX10_younger_1 : decode cX10_younger 1 = .ok (.iload_n 1, 1) := by decide +kernel
theorem dX10_younger_2 : decode cX10_younger 2 = .ok (.invokevirtual 144, 3) := by decide +kernel
theorem dX10_younger_5 : decode cX10_younger 5 = .ok (.ifCond .ne 13, 3) := by decide +kernel
theorem dX10_younger_8 : decode cX10_younger 8 = .ok (.iload_n 2, 1) := by decide +kernel
theorem dX10_younger_9 : decode cX10_younger 9 = .ok (.iconst 0, 1) := by decide +kernel
theorem dX10_younger_10 : decode cX10_younger 10 = .ok (.bipush 6, 2) := by decide +kernel
theorem dX10_younger_12 : decode cX10_younger 12 = .ok (.invokestatic 116, 3) := by decide +kernel
theorem dX10_younger_15 : decode cX10_younger 15 = .ok (.ifCond .eq 5, 3) := by decide +kernel
theorem dX10_younger_18 : decode cX10_younger 18 = .ok (.iconst (-1), 1) := by decide +kernel
theorem dX10_younger_19 : decode cX10_younger 19 = .ok (.ireturn, 1) := by decide +kernel
theorem dX10_younger_20 : decode cX10_younger 20 = .ok (.iload_n 2, 1) := by decide +kernel
theorem dX10_younger_21 : decode cX10_younger 21 = .ok (.tableswitch 106 0 5 #[39, 49, 59, 69, 79, 89], 39) := by decide +kernel
theorem dX10_younger_60 : decode cX10_younger 60 = .ok (.aload_n 0, 1) := by decide +kernel
theorem dX10_younger_61 : decode cX10_younger 61 = .ok (.getfield 19, 3) := by decide +kernel
theorem dX10_younger_64 : decode cX10_younger 64 = .ok (.getfield 147, 3) := by decide +kernel
theorem dX10_younger_67 : decode cX10_younger 67 = .ok (.iload_n 1, 1) := by decide +kernel
theorem dX10_younger_68 : decode cX10_younger 68 = .ok (.iaload, 1) := by decide +kernel
theorem dX10_younger_69 : decode cX10_younger 69 = .ok (.ireturn, 1) := by decide +kernel
theorem dX10_younger_70 : decode cX10_younger 70 = .ok (.aload_n 0, 1) := by decide +kernel
theorem dX10_younger_71 : decode cX10_younger 71 = .ok (.getfield 19, 3) := by decide +kernel
theorem dX10_younger_74 : decode cX10_younger 74 = .ok (.getfield 150, 3) := by decide +kernel
theorem dX10_younger_77 : decode cX10_younger 77 = .ok (.iload_n 1, 1) := by decide +kernel
theorem dX10_younger_78 : decode cX10_younger 78 = .ok (.iaload, 1) := by decide +kernel
theorem dX10_younger_79 : decode cX10_younger 79 = .ok (.ireturn, 1) := by decide +kernel
theorem dX10_younger_80 : decode cX10_younger 80 = .ok (.aload_n 0, 1) := by decide +kernel
theorem dX10_younger_81 : decode cX10_younger 81 = .ok (.getfield 19, 3) := by decide +kernel
theorem dX10_younger_84 : decode cX10_younger 84 = .ok (.getfield 153, 3) := by decide +kernel
theorem dX10_younger_87 : decode cX10_younger 87 = .ok (.iload_n 1, 1) := by decide +kernel
theorem dX10_younger_88 : decode cX10_younger 88 = .ok (.iaload, 1) := by decide +kernel
theorem dX10_younger_89 : decode cX10_younger 89 = .ok (.ireturn, 1) := by decide +kernel
theorem dX10_younger_90 : decode cX10_younger 90 = .ok (.aload_n 0, 1) := by decide +kernel
theorem dX10_younger_91 : decode cX10_younger 91 = .ok (.getfield 19, 3) := by decide +kernel
theorem dX10_younger_94 : decode cX10_younger 94 = .ok (.getfield 156, 3) := by decide +kernel
theorem dX10_younger_97 : decode cX10_younger 97 = .ok (.iload_n 1, 1) := by decide +kernel
theorem dX10_younger_98 : decode cX10_younger 98 = .ok (.iaload, 1) := by decide +kernel
theorem dX10_younger_99 : decode cX10_younger 99 = .ok (.ireturn, 1) := by decide +kernel
theorem dX10_younger_100 : decode cX10_younger 100 = .ok (.aload_n 0, 1) := by decide +kernel
theorem dX10_younger_101 : decode cX10_younger 101 = .ok (.getfield 29, 3) := by decide +kernel
theorem dX10_younger_104 : decode cX10_younger 104 = .ok (.getfield 159, 3) := by decide +kernel
theorem dX10_younger_107 : decode cX10_younger 107 = .ok (.iload_n 1, 1) := by decide +kernel
theorem dX10_younger_108 : decode cX10_younger 108 = .ok (.iaload, 1) := by decide +kernel
theorem dX10_younger_109 : decode cX10_younger 109 = .ok (.ireturn, 1) := by decide +kernel
theorem dX10_younger_110 : decode cX10_younger 110 = .ok (.aload_n 0, 1) := by decide +kernel
theorem dX10_younger_111 : decode cX10_younger 111 = .ok (.getfield 29, 3) := by decide +kernel
theorem dX10_younger_114 : decode cX10_younger 114 = .ok (.iload_n 1, 1) := by decide +kernel
theorem dX10_younger_115 : decode cX10_younger 115 = .ok (.invokevirtual 162, 3) := by decide +kernel
theorem dX10_younger_118 : decode cX10_younger 118 = .ok (.ifCond .eq 7, 3) := by decide +kernel
theorem dX10_younger_121 : decode cX10_younger 121 = .ok (.iconst 1, 1) := by decide +kernel
theorem dX10_younger_122 : decode cX10_younger 122 = .ok (.goto 4, 3) := by decide +kernel
theorem dX10_younger_125 : decode cX10_younger 125 = .ok (.iconst 0, 1) := by decide +kernel
theorem dX10_younger_126 : decode cX10_younger 126 = .ok (.ireturn, 1) := by decide +kernel
theorem dX10_younger_127 : decode cX10_younger 127 = .ok (.aload_n 0, 1) := by decide +kernel
theorem dX10_younger_128 : decode cX10_younger 128 = .ok (.getfield 50, 3) := by decide +kernel
theorem dX10_younger_131 : decode cX10_younger 131 = .ok (.aload_n 0, 1) := by decide +kernel
theorem dX10_younger_132 : decode cX10_younger 132 = .ok (.getfield 29, 3) := by decide +kernel
theorem dX10_younger_135 : decode cX10_younger 135 = .ok (.aload_n 0, 1) := by decide +kernel
theorem dX10_younger_136 : decode cX10_younger 136 = .ok (.getfield 19, 3) := by decide +kernel
theorem dX10_younger_139 : decode cX10_younger 139 = .ok (.getfield 150, 3) := by decide +kernel
theorem dX10_younger_142 : decode cX10_younger 142 = .ok (.iload_n 1, 1) := by decide +kernel
theorem dX10_younger_143 : decode cX10_younger 143 = .ok (.iaload, 1) := by decide +kernel
theorem dX10_younger_144 : decode cX10_younger 144 = .ok (.invokevirtual 137, 3) := by decide +kernel
theorem dX10_younger_147 : decode cX10_younger 147 = .ok (.pop, 1) := by decide +kernel
theorem dX10_younger_148 : decode cX10_younger 148 = .ok (.aload_n 0, 1) := by decide +kernel
theorem dX10_younger_149 : decode cX10_younger 149 = .ok (.getfield 50, 3) := by decide +kernel
theorem dX10_younger_152 : decode cX10_younger 152 = .ok (.getfield 165, 3) := by decide +kernel
theorem dX10_younger_155 : decode cX10_younger 155 = .ok (.iload_n 1, 1) := by decide +kernel
theorem dX10_younger_156 : decode cX10_younger 156 = .ok (.iaload, 1) := by decide +kernel
theorem dX10_younger_157 : decode cX10_younger 157 = .ok (.ireturn, 1) := by decide +kernel
set_option maxRecDepth 20000 in
theorem ggX10_pass_X10_outside : GoodIn wsX10_pass wsX10_outside := goodIn_r _ [8] rfl (by decide +kernel)
set_option maxRecDepth 20000 in
theorem gX10_pass_X10_outside : GoodIn wsX10_pass (va_wsS RX10 116 yX10_outside wsX10_outside) := goodIn_app (goodIn_of _ (by decide +kernel)) ggX10_pass_X10_outside
set_option maxRecDepth 20000 in
theorem ggX10_pass_X7_push : GoodIn wsX10_pass wsX7_push := goodIn_r _ [13, 14, 15, 16, 17, 18, 19, 20, 21, 22, 23, 24, 25, 26, 27, 28, 29, 30, 101, 102, 103, 96, 97, 98, 99, 100] rfl (by decide +kernel)
set_option maxRecDepth 20000 in
theorem gX10_pass_X7_push : GoodIn wsX10_pass (wsV RX10 168 RX7 yX7_push wsX7_push) := goodIn_app (goodIn_of _ (by decide +kernel)) ggX10_pass_X7_push
set_option maxRecDepth 20000 in
theorem ggX10_pass_X2_goBy : GoodIn wsX10_pass wsX2_goBy := goodIn_r _ [35, 36, 37, 38, 39, 40, 41, 42, 34, 43, 44, 45, 46, 47, 48, 49, 18, 19, 20, 50, 51, 52, 53, 54, 55, 56, 57, 58, 59, 60, 61, 62, 63, 64, 65, 66, 7, 67, 68, 69, 70, 71, 72, 73, 74, 75, 76, 77, 24, 78, 29, 79, 80, 81, 82, 83, 104, 105, 106, 107, 108, 109, 110, 111, 112, 113, 114, 115, 116, 117, 118, 96, 97, 98, 99, 100] rfl (by decide +kernel)
set_option maxRecDepth 20000 in
theorem gX10_pass_X2_goBy : GoodIn wsX10_pass (wsV RX10 172 RX2 yX2_goBy wsX2_goBy) := goodIn_app (goodIn_of _ (by decide +kernel)) ggX10_pass_X2_goBy
theorem dX10_pass_0 : decode cX10_pass 0 = .ok (.iload_n 1, 1) := by decide +kernel
theorem dX10_pass_1 : decode cX10_pass 1 = .ok (.iconst 1, 1) := by decide +kernel
theorem dX10_pass_2 : decode cX10_pass 2 = .ok (.bipush 20, 2) := by decide +kernel
theorem dX10_pass_4 : decode cX10_pass 4 = .ok (.invokestatic 116, 3) := by decide +kernel
theorem dX10_pass_7 : decode cX10_pass 7 = .ok (.ifCond .eq 5, 3) := by decide +kernel
theorem dX10_pass_10 : decode cX10_pass 10 = .ok (.iconst (-1), 1) := by decide +kernel
theorem dX10_pass_11 : decode cX10_pass 11 = .ok (.ireturn, 1) := by decide +kernel
theorem dX10_pass_12 : decode cX10_pass 12 = .ok (.aload_n 0, 1) := by decide +kernel
theorem dX10_pass_13 : decode cX10_pass 13 = .ok (.getfield 38, 3) := by decide +kernel
theorem dX10_pass_16 : decode cX10_pass 16 = .ok (.aload_n 0, 1) := by decide +kernel
theorem dX10_pass_17 : decode cX10_pass 17 = .ok (.getfield 29, 3) := by decide +kernel
theorem dX10_pass_20 : decode cX10_pass 20 = .ok (.invokevirtual 168, 3) := by decide +kernel
theorem dX10_pass_23 : decode cX10_pass 23 = .ok (.iconst 0, 1) := by decide +kernel
theorem dX10_pass_24 : decode cX10_pass 24 = .ok (.istore_n 2, 1) := by decide +kernel
theorem dX10_pass_25 : decode cX10_pass 25 = .ok (.iload_n 2, 1) := by decide +kernel
theorem dX10_pass_26 : decode cX10_pass 26 = .ok (.iload_n 1, 1) := by decide +kernel
theorem dX10_pass_27 : decode cX10_pass 27 = .ok (.if_icmp .ge 21, 3) := by decide +kernel
theorem dX10_pass_30 : decode cX10_pass 30 = .ok (.aload_n 0, 1) := by decide +kernel
theorem dX10_pass_31 : decode cX10_pass 31 = .ok (.getfield 50, 3) := by decide +kernel
theorem dX10_pass_34 : decode cX10_pass 34 = .ok (.aload_n 0, 1) := by decide +kernel
theorem dX10_pass_35 : decode cX10_pass 35 = .ok (.getfield 29, 3) := by decide +kernel
theorem dX10_pass_38 : decode cX10_pass 38 = .ok (.invokevirtual 172, 3) := by decide +kernel
theorem dX10_pass_41 : decode cX10_pass 41 = .ok (.pop, 1) := by decide +kernel
theorem dX10_pass_42 : decode cX10_pass 42 = .ok (.iinc 2 1, 3) := by decide +kernel
theorem dX10_pass_45 : decode cX10_pass 45 = .ok (.goto (-20), 3) := by decide +kernel
theorem dX10_pass_48 : decode cX10_pass 48 = .ok (.aload_n 0, 1) := by decide +kernel
theorem dX10_pass_49 : decode cX10_pass 49 = .ok (.getfield 29, 3) := by decide +kernel
theorem dX10_pass_52 : decode cX10_pass 52 = .ok (.getfield 176, 3) := by decide +kernel
theorem dX10_pass_55 : decode cX10_pass 55 = .ok (.ireturn, 1) := by decide +kernel
set_option maxRecDepth 20000 in
theorem ggX10_put_X10_noStep : GoodIn wsX10_put wsX10_noStep := goodIn_r _ [8, 9, 10, 11, 12, 7, 13, 36, 37, 38, 39, 40, 41, 42, 43, 44, 45, 46, 47, 53, 54, 55, 56, 57, 58, 59, 60, 61, 62, 63, 64, 65] rfl (by decide +kernel)
set_option maxRecDepth 20000 in
theorem gX10_put_X10_noStep : GoodIn wsX10_put (wsV RX10 126 RX10 yX10_noStep wsX10_noStep) := goodIn_app (goodIn_of _ (by decide +kernel)) ggX10_put_X10_noStep
set_option maxRecDepth 20000 in
theorem ggX10_put_X10_outside : GoodIn wsX10_put wsX10_outside := goodIn_r _ [13] rfl (by decide +kernel)
set_option maxRecDepth 20000 in
theorem gX10_put_X10_outside : GoodIn wsX10_put (va_wsS RX10 116 yX10_outside wsX10_outside) := goodIn_app (goodIn_of _ (by decide +kernel)) ggX10_put_X10_outside
set_option maxRecDepth 20000 in
theorem ggX10_put_X7_push : GoodIn wsX10_put wsX7_push := goodIn_r _ [18, 19, 20, 21, 22, 23, 24, 25, 26, 27, 28, 29, 30, 31, 32, 33, 34, 35, 66, 67, 68, 48, 49, 50, 51, 52] rfl (by decide +kernel)
set_option maxRecDepth 20000 in
theorem gX10_put_X7_push : GoodIn wsX10_put (wsV RX10 168 RX7 yX7_push wsX7_push) := goodIn_app (goodIn_of _ (by decide +kernel)) ggX10_put_X7_push
theorem dX10_put_0 : decode cX10_put 0 = .ok (.aload_n 0, 1) := by decide +kernel
theorem dX10_put_1 : decode cX10_put 1 = .ok (.iload_n 1, 1) := by decide +kernel
theorem dX10_put_2 : decode cX10_put 2 = .ok (.invokevirtual 126, 3) := by decide +kernel
theorem dX10_put_5 : decode cX10_put 5 = .ok (.ifCond .ne 13, 3) := by decide +kernel
theorem dX10_put_8 : decode cX10_put 8 = .ok (.iload_n 2, 1) := by decide +kernel
theorem dX10_put_9 : decode cX10_put 9 = .ok (.iconst 0, 1) := by decide +kernel
theorem dX10_put_10 : decode cX10_put 10 = .ok (.bipush 40, 2) := by decide +kernel
theorem dX10_put_12 : decode cX10_put 12 = .ok (.invokestatic 116, 3) := by decide +kernel
theorem dX10_put_15 : decode cX10_put 15 = .ok (.ifCond .eq 5, 3) := by decide +kernel
theorem dX10_put_18 : decode cX10_put 18 = .ok (.iconst (-1), 1) := by decide +kernel
theorem dX10_put_19 : decode cX10_put 19 = .ok (.ireturn, 1) := by decide +kernel
theorem dX10_put_20 : decode cX10_put 20 = .ok (.aload_n 0, 1) := by decide +kernel
theorem dX10_put_21 : decode cX10_put 21 = .ok (.getfield 38, 3) := by decide +kernel
theorem dX10_put_24 : decode cX10_put 24 = .ok (.aload_n 0, 1) := by decide +kernel
theorem dX10_put_25 : decode cX10_put 25 = .ok (.getfield 29, 3) := by decide +kernel
theorem dX10_put_28 : decode cX10_put 28 = .ok (.invokevirtual 168, 3) := by decide +kernel
theorem dX10_put_31 : decode cX10_put 31 = .ok (.aload_n 0, 1) := by decide +kernel
theorem dX10_put_32 : decode cX10_put 32 = .ok (.getfield 29, 3) := by decide +kernel
theorem dX10_put_35 : decode cX10_put 35 = .ok (.getfield 130, 3) := by decide +kernel
theorem dX10_put_38 : decode cX10_put 38 = .ok (.iload_n 1, 1) := by decide +kernel
theorem dX10_put_39 : decode cX10_put 39 = .ok (.iaload, 1) := by decide +kernel
theorem dX10_put_40 : decode cX10_put 40 = .ok (.istore_n 3, 1) := by decide +kernel
theorem dX10_put_41 : decode cX10_put 41 = .ok (.aload_n 0, 1) := by decide +kernel
theorem dX10_put_42 : decode cX10_put 42 = .ok (.getfield 29, 3) := by decide +kernel
theorem dX10_put_45 : decode cX10_put 45 = .ok (.getfield 130, 3) := by decide +kernel
theorem dX10_put_48 : decode cX10_put 48 = .ok (.iload_n 1, 1) := by decide +kernel
theorem dX10_put_49 : decode cX10_put 49 = .ok (.iload_n 2, 1) := by decide +kernel
theorem dX10_put_50 : decode cX10_put 50 = .ok (.iastore, 1) := by decide +kernel
theorem dX10_put_51 : decode cX10_put 51 = .ok (.iload_n 3, 1) := by decide +kernel
theorem dX10_put_52 : decode cX10_put 52 = .ok (.ireturn, 1) := by decide +kernel
set_option maxRecDepth 20000 in
theorem ggX10_quarrel_X10_noYounger : GoodIn wsX10_quarrel wsX10_noYounger := goodIn_r _ [9, 10, 11, 12, 13, 8, 14, 54, 55, 56, 57, 58, 59, 60, 61, 62, 63, 64, 65, 71, 72, 73, 74, 75, 76, 77, 78, 79, 80, 81, 82, 83] rfl (by decide +kernel)
set_option maxRecDepth 20000 in
theorem gX10_quarrel_X10_noYounger : GoodIn wsX10_quarrel (wsV RX10 144 RX10 yX10_noYounger wsX10_noYounger) := goodIn_app (goodIn_of _ (by decide +kernel)) ggX10_quarrel_X10_noYounger
set_option maxRecDepth 20000 in
theorem ggX10_quarrel_X10_outside : GoodIn wsX10_quarrel wsX10_outside := goodIn_r _ [14] rfl (by decide +kernel)
set_option maxRecDepth 20000 in
theorem gX10_quarrel_X10_outside : GoodIn wsX10_quarrel (va_wsS RX10 116 yX10_outside wsX10_outside) := goodIn_app (goodIn_of _ (by decide +kernel)) ggX10_quarrel_X10_outside
set_option maxRecDepth 20000 in
theorem ggX10_quarrel_X9_hasQuarrelled : GoodIn wsX10_quarrel wsX9_hasQuarrelled := goodIn_r _ [19, 20, 21, 8, 22, 66, 67, 68, 69, 70] rfl (by decide +kernel)
set_option maxRecDepth 20000 in
theorem gX10_quarrel_X9_hasQuarrelled : GoodIn wsX10_quarrel (wsV RX10 162 RX9 yX9_hasQuarrelled wsX9_hasQuarrelled) := goodIn_app (goodIn_of _ (by decide +kernel)) ggX10_quarrel_X9_hasQuarrelled
set_option maxRecDepth 20000 in
theorem ggX10_quarrel_X7_push : GoodIn wsX10_quarrel wsX7_push := goodIn_r _ [27, 28, 29, 30, 31, 32, 33, 34, 35, 36, 37, 18, 38, 39, 40, 41, 20, 42, 84, 85, 86, 66, 67, 68, 69, 70] rfl (by decide +kernel)
set_option maxRecDepth 20000 in
theorem gX10_quarrel_X7_push : GoodIn wsX10_quarrel (wsV RX10 168 RX7 yX7_push wsX7_push) := goodIn_app (goodIn_of _ (by decide +kernel)) ggX10_quarrel_X7_push
set_option maxRecDepth 20000 in
theorem ggX10_quarrel_X9_turn : GoodIn wsX10_quarrel wsX9_turn := goodIn_r _ [46, 20, 66, 67, 68, 69, 70] rfl (by decide +kernel)
set_option maxRecDepth 20000 in
theorem gX10_quarrel_X9_turn : GoodIn wsX10_quarrel (wsV RX10 179 RX9 yX9_turn wsX9_turn) := goodIn_app (goodIn_of _ (by decide +kernel)) ggX10_quarrel_X9_turn
set_option maxRecDepth 20000 in
theorem ggX10_quarrel_J6_bitCount_0f7a4 : GoodIn wsX10_quarrel wsJ6_bitCount_0f7a4 := goodIn_r _ [50, 51, 52, 53] rfl (by decide +kernel)
set_option maxRecDepth 20000 in
theorem gX10_quarrel_J6_bitCount_0f7a4 : GoodIn wsX10_quarrel (va_wsS RX10 185 yJ6_bitCount_0f7a4 wsJ6_bitCount_0f7a4) := goodIn_app (goodIn_of _ (by decide +kernel)) ggX10_quarrel_J6_bitCount_0f7a4
theorem dX10_quarrel_0 : decode cX10_quarrel 0 = .ok (.aload_n 0, 1) := by decide +kernel
theorem dX10_quarrel_1 : decode cX10_quarrel 1 = .ok (.iload_n 1, 1) := by decide +kernel
theorem dX10_quarrel_2 : decode cX10_quarrel 2 = .ok (.invokevirtual 144, 3) := by decide +kernel
theorem dX10_quarrel_5 : decode cX10_quarrel 5 = .ok (.ifCond .ne 12, 3) := by decide +kernel
theorem dX10_quarrel_8 : decode cX10_quarrel 8 = .ok (.iload_n 2, 1) := by decide +kernel
theorem dX10_quarrel_9 : decode cX10_quarrel 9 = .ok (.iconst 0, 1) := by decide +kernel
theorem dX10_quarrel_10 : decode cX10_quarrel 10 = .ok (.iconst 1, 1) := by decide +kernel
theorem dX10_quarrel_11 : decode cX10_quarrel 11 = .ok (.invokestatic 116, 3) := by decide +kernel
theorem dX10_quarrel_14 : decode cX10_quarrel 14 = .ok (.ifCond .eq 5, 3) := by decide +kernel
theorem dX10_quarrel_17 : decode cX10_quarrel 17 = .ok (.iconst (-1), 1) := by decide +kernel
theorem dX10_quarrel_18 : decode cX10_quarrel 18 = .ok (.ireturn, 1) := by decide +kernel
theorem dX10_quarrel_19 : decode cX10_quarrel 19 = .ok (.aload_n 0, 1) := by decide +kernel
theorem dX10_quarrel_20 : decode cX10_quarrel 20 = .ok (.getfield 29, 3) := by decide +kernel
theorem dX10_quarrel_23 : decode cX10_quarrel 23 = .ok (.iload_n 1, 1) := by decide +kernel
theorem dX10_quarrel_24 : decode cX10_quarrel 24 = .ok (.invokevirtual 162, 3) := by decide +kernel
theorem dX10_quarrel_27 : decode cX10_quarrel 27 = .ok (.iload_n 2, 1) := by decide +kernel
theorem dX10_quarrel_28 : decode cX10_quarrel 28 = .ok (.iconst 1, 1) := by decide +kernel
theorem dX10_quarrel_29 : decode cX10_quarrel 29 = .ok (.if_icmp .ne 7, 3) := by decide +kernel
theorem dX10_quarrel_32 : decode cX10_quarrel 32 = .ok (.iconst 1, 1) := by decide +kernel
theorem dX10_quarrel_33 : decode cX10_quarrel 33 = .ok (.goto 4, 3) := by decide +kernel
theorem dX10_quarrel_36 : decode cX10_quarrel 36 = .ok (.iconst 0, 1) := by decide +kernel
theorem dX10_quarrel_37 : decode cX10_quarrel 37 = .ok (.if_icmp .eq 15, 3) := by decide +kernel
theorem dX10_quarrel_40 : decode cX10_quarrel 40 = .ok (.aload_n 0, 1) := by decide +kernel
theorem dX10_quarrel_41 : decode cX10_quarrel 41 = .ok (.getfield 29, 3) := by decide +kernel
theorem dX10_quarrel_44 : decode cX10_quarrel 44 = .ok (.getfield 159, 3) := by decide +kernel
theorem dX10_quarrel_47 : decode cX10_quarrel 47 = .ok (.iload_n 1, 1) := by decide +kernel
theorem dX10_quarrel_48 : decode cX10_quarrel 48 = .ok (.iaload, 1) := by decide +kernel
theorem dX10_quarrel_49 : decode cX10_quarrel 49 = .ok (.ifCond .ne 6, 3) := by decide +kernel
theorem dX10_quarrel_52 : decode cX10_quarrel 52 = .ok (.bipush (-2), 2) := by decide +kernel
theorem dX10_quarrel_54 : decode cX10_quarrel 54 = .ok (.ireturn, 1) := by decide +kernel
theorem dX10_quarrel_55 : decode cX10_quarrel 55 = .ok (.aload_n 0, 1) := by decide +kernel
theorem dX10_quarrel_56 : decode cX10_quarrel 56 = .ok (.getfield 38, 3) := by decide +kernel
theorem dX10_quarrel_59 : decode cX10_quarrel 59 = .ok (.aload_n 0, 1) := by decide +kernel
theorem dX10_quarrel_60 : decode cX10_quarrel 60 = .ok (.getfield 29, 3) := by decide +kernel
theorem dX10_quarrel_63 : decode cX10_quarrel 63 = .ok (.invokevirtual 168, 3) := by decide +kernel
theorem dX10_quarrel_66 : decode cX10_quarrel 66 = .ok (.aload_n 0, 1) := by decide +kernel
theorem dX10_quarrel_67 : decode cX10_quarrel 67 = .ok (.getfield 29, 3) := by decide +kernel
theorem dX10_quarrel_70 : decode cX10_quarrel 70 = .ok (.iload_n 1, 1) := by decide +kernel
theorem dX10_quarrel_71 : decode cX10_quarrel 71 = .ok (.invokevirtual 179, 3) := by decide +kernel
theorem dX10_quarrel_74 : decode cX10_quarrel 74 = .ok (.aload_n 0, 1) := by decide +kernel
theorem dX10_quarrel_75 : decode cX10_quarrel 75 = .ok (.getfield 29, 3) := by decide +kernel
theorem dX10_quarrel_78 : decode cX10_quarrel 78 = .ok (.getfield 182, 3) := by decide +kernel
theorem dX10_quarrel_81 : decode cX10_quarrel 81 = .ok (.invokestatic 185, 3) := by decide +kernel
theorem dX10_quarrel_84 : decode cX10_quarrel 84 = .ok (.ireturn, 1) := by decide +kernel
set_option maxRecDepth 20000 in
theorem ggX10_cats_X10_noStep : GoodIn wsX10_cats wsX10_noStep := goodIn_r _ [8, 9, 10, 11, 12, 7, 13, 36, 37, 38, 39, 40, 41, 42, 43, 44, 45, 46, 47, 53, 54, 55, 56, 57, 58, 59, 60, 61, 62, 63, 64, 65] rfl (by decide +kernel)
set_option maxRecDepth 20000 in
theorem gX10_cats_X10_noStep : GoodIn wsX10_cats (wsV RX10 126 RX10 yX10_noStep wsX10_noStep) := goodIn_app (goodIn_of _ (by decide +kernel)) ggX10_cats_X10_noStep
set_option maxRecDepth 20000 in
theorem ggX10_cats_X10_outside : GoodIn wsX10_cats wsX10_outside := goodIn_r _ [13] rfl (by decide +kernel)
set_option maxRecDepth 20000 in
theorem gX10_cats_X10_outside : GoodIn wsX10_cats (va_wsS RX10 116 yX10_outside wsX10_outside) := goodIn_app (goodIn_of _ (by decide +kernel)) ggX10_cats_X10_outside
set_option maxRecDepth 20000 in
theorem ggX10_cats_X7_push : GoodIn wsX10_cats wsX7_push := goodIn_r _ [18, 19, 20, 21, 22, 23, 24, 25, 26, 27, 28, 29, 30, 31, 32, 33, 34, 35, 66, 67, 68, 48, 49, 50, 51, 52] rfl (by decide +kernel)
set_option maxRecDepth 20000 in
theorem gX10_cats_X7_push : GoodIn wsX10_cats (wsV RX10 168 RX7 yX7_push wsX7_push) := goodIn_app (goodIn_of _ (by decide +kernel)) ggX10_cats_X7_push
theorem dX10_cats_0 : decode cX10_cats 0 = .ok (.aload_n 0, 1) := by decide +kernel
theorem dX10_cats_1 : decode cX10_cats 1 = .ok (.iload_n 1, 1) := by decide +kernel
theorem dX10_cats_2 : decode cX10_cats 2 = .ok (.invokevirtual 126, 3) := by decide +kernel
theorem dX10_cats_5 : decode cX10_cats 5 = .ok (.ifCond .ne 13, 3) := by decide +kernel
theorem dX10_cats_8 : decode cX10_cats 8 = .ok (.iload_n 2, 1) := by decide +kernel
theorem dX10_cats_9 : decode cX10_cats 9 = .ok (.iconst 0, 1) := by decide +kernel
theorem dX10_cats_10 : decode cX10_cats 10 = .ok (.bipush 9, 2) := by decide +kernel
theorem dX10_cats_12 : decode cX10_cats 12 = .ok (.invokestatic 116, 3) := by decide +kernel
theorem dX10_cats_15 : decode cX10_cats 15 = .ok (.ifCond .eq 5, 3) := by decide +kernel
theorem dX10_cats_18 : decode cX10_cats 18 = .ok (.iconst (-1), 1) := by decide +kernel
theorem dX10_cats_19 : decode cX10_cats 19 = .ok (.ireturn, 1) := by decide +kernel
theorem dX10_cats_20 : decode cX10_cats 20 = .ok (.aload_n 0, 1) := by decide +kernel
theorem dX10_cats_21 : decode cX10_cats 21 = .ok (.getfield 38, 3) := by decide +kernel
theorem dX10_cats_24 : decode cX10_cats 24 = .ok (.aload_n 0, 1) := by decide +kernel
theorem dX10_cats_25 : decode cX10_cats 25 = .ok (.getfield 29, 3) := by decide +kernel
theorem dX10_cats_28 : decode cX10_cats 28 = .ok (.invokevirtual 168, 3) := by decide +kernel
theorem dX10_cats_31 : decode cX10_cats 31 = .ok (.aload_n 0, 1) := by decide +kernel
theorem dX10_cats_32 : decode cX10_cats 32 = .ok (.getfield 29, 3) := by decide +kernel
theorem dX10_cats_35 : decode cX10_cats 35 = .ok (.getfield 134, 3) := by decide +kernel
theorem dX10_cats_38 : decode cX10_cats 38 = .ok (.iload_n 1, 1) := by decide +kernel
theorem dX10_cats_39 : decode cX10_cats 39 = .ok (.iaload, 1) := by decide +kernel
theorem dX10_cats_40 : decode cX10_cats 40 = .ok (.istore_n 3, 1) := by decide +kernel
theorem dX10_cats_41 : decode cX10_cats 41 = .ok (.aload_n 0, 1) := by decide +kernel
theorem dX10_cats_42 : decode cX10_cats 42 = .ok (.getfield 29, 3) := by decide +kernel
theorem dX10_cats_45 : decode cX10_cats 45 = .ok (.getfield 134, 3) := by decide +kernel
theorem dX10_cats_48 : decode cX10_cats 48 = .ok (.iload_n 1, 1) := by decide +kernel
theorem dX10_cats_49 : decode cX10_cats 49 = .ok (.iload_n 2, 1) := by decide +kernel
theorem dX10_cats_50 : decode cX10_cats 50 = .ok (.iastore, 1) := by decide +kernel
theorem dX10_cats_51 : decode cX10_cats 51 = .ok (.iload_n 3, 1) := by decide +kernel
theorem dX10_cats_52 : decode cX10_cats 52 = .ok (.ireturn, 1) := by decide +kernel
set_option maxRecDepth 20000 in
theorem ggX10_undo_X7_popInto : GoodIn wsX10_undo wsX7_popInto := goodIn_r _ [8, 9, 10, 11, 12, 13, 14, 15, 16, 17, 18, 19, 20, 21, 34, 35, 36, 37, 38, 39, 40, 41] rfl (by decide +kernel)
set_option maxRecDepth 20000 in
theorem gX10_undo_X7_popInto : GoodIn wsX10_undo (wsV RX10 194 RX7 yX7_popInto wsX7_popInto) := goodIn_app (goodIn_of _ (by decide +kernel)) ggX10_undo_X7_popInto
theorem dX10_undo_0 : decode cX10_undo 0 = .ok (.aload_n 0, 1) := by decide +kernel
theorem dX10_undo_1 : decode cX10_undo 1 = .ok (.getfield 38, 3) := by decide +kernel
theorem dX10_undo_4 : decode cX10_undo 4 = .ok (.getfield 191, 3) := by decide +kernel
theorem dX10_undo_7 : decode cX10_undo 7 = .ok (.ifCond .ne 6, 3) := by decide +kernel
theorem dX10_undo_10 : decode cX10_undo 10 = .ok (.bipush (-2), 2) := by decide +kernel
theorem dX10_undo_12 : decode cX10_undo 12 = .ok (.ireturn, 1) := by decide +kernel
theorem dX10_undo_13 : decode cX10_undo 13 = .ok (.aload_n 0, 1) := by decide +kernel
theorem dX10_undo_14 : decode cX10_undo 14 = .ok (.getfield 38, 3) := by decide +kernel
theorem dX10_undo_17 : decode cX10_undo 17 = .ok (.aload_n 0, 1) := by decide +kernel
theorem dX10_undo_18 : decode cX10_undo 18 = .ok (.getfield 29, 3) := by decide +kernel
theorem dX10_undo_21 : decode cX10_undo 21 = .ok (.invokevirtual 194, 3) := by decide +kernel
theorem dX10_undo_24 : decode cX10_undo 24 = .ok (.aload_n 0, 1) := by decide +kernel
theorem dX10_undo_25 : decode cX10_undo 25 = .ok (.getfield 38, 3) := by decide +kernel
theorem dX10_undo_28 : decode cX10_undo 28 = .ok (.getfield 191, 3) := by decide +kernel
theorem dX10_undo_31 : decode cX10_undo 31 = .ok (.ireturn, 1) := by decide +kernel
set_option maxRecDepth 20000 in
theorem ggX10_behind_X10_outside : GoodIn wsX10_behind wsX10_outside := goodIn_r _ [6] rfl (by decide +kernel)
set_option maxRecDepth 20000 in
theorem gX10_behind_X10_outside : GoodIn wsX10_behind (va_wsS RX10 116 yX10_outside wsX10_outside) := goodIn_app (goodIn_of _ (by decide +kernel)) ggX10_behind_X10_outside
set_option maxRecDepth 20000 in
theorem ggX10_behind_X10_noYounger : GoodIn wsX10_behind wsX10_noYounger := goodIn_r _ [10, 11, 12, 3, 4, 5, 6, 91, 92, 93, 94, 95, 96, 97, 98, 99, 100, 101, 102, 103, 104, 105, 106, 107, 108, 109, 110, 111, 112, 113, 114, 115] rfl (by decide +kernel)
set_option maxRecDepth 20000 in
theorem gX10_behind_X10_noYounger : GoodIn wsX10_behind (wsV RX10 144 RX10 yX10_noYounger wsX10_noYounger) := goodIn_app (goodIn_of _ (by decide +kernel)) ggX10_behind_X10_noYounger
set_option maxRecDepth 20000 in
theorem ggX10_behind_X1_wellBehind : GoodIn wsX10_behind wsX1_wellBehind := goodIn_r _ [17, 18, 19, 20, 21, 16, 22, 23, 24, 25, 26, 27, 28, 29, 30, 31, 32, 33, 34, 35, 36, 37, 38, 39, 40, 41, 42, 43, 44, 45, 46, 47, 48, 49, 50, 51, 52, 53, 54, 55, 56, 57, 58, 59, 60, 61, 62, 63, 64, 65, 66, 67, 68, 69, 70, 71, 72, 73, 5, 74, 75, 76, 77, 78, 79, 80, 81, 82, 83, 84, 85, 86, 87, 88, 89, 90, 116, 117, 118, 119, 120, 121, 122, 123, 103, 104, 105, 106, 107, 108, 109, 110, 111, 112, 113, 114, 115, 124, 125] rfl (by decide +kernel)
set_option maxRecDepth 20000 in
theorem gX10_behind_X1_wellBehind : GoodIn wsX10_behind (wsV RX10 197 RX1 yX1_wellBehind wsX1_wellBehind) := goodIn_app (goodIn_of _ (by decide +kernel)) ggX10_behind_X1_wellBehind
theorem dX10_behind_0 : decode cX10_behind 0 = .ok (.iload_n 1, 1) := by decide +kernel
theorem dX10_behind_1 : decode cX10_behind 1 = .ok (.iconst 0, 1) := by decide +kernel
theorem dX10_behind_2 : decode cX10_behind 2 = .ok (.bipush 30, 2) := by decide +kernel
theorem dX10_behind_4 : decode cX10_behind 4 = .ok (.invokestatic 116, 3) := by decide +kernel
theorem dX10_behind_7 : decode cX10_behind 7 = .ok (.ifCond .ne 11, 3) := by decide +kernel
theorem dX10_behind_10 : decode cX10_behind 10 = .ok (.aload_n 0, 1) := by decide +kernel
theorem dX10_behind_11 : decode cX10_behind 11 = .ok (.iload_n 2, 1) := by decide +kernel
theorem dX10_behind_12 : decode cX10_behind 12 = .ok (.invokevirtual 144, 3) := by decide +kernel
theorem dX10_behind_15 : decode cX10_behind 15 = .ok (.ifCond .eq 5, 3) := by decide +kernel
theorem dX10_behind_18 : decode cX10_behind 18 = .ok (.iconst (-1), 1) := by decide +kernel
theorem dX10_behind_19 : decode cX10_behind 19 = .ok (.ireturn, 1) := by decide +kernel
theorem dX10_behind_20 : decode cX10_behind 20 = .ok (.aload_n 0, 1) := by decide +kernel
theorem dX10_behind_21 : decode cX10_behind 21 = .ok (.getfield 66, 3) := by decide +kernel
theorem dX10_behind_24 : decode cX10_behind 24 = .ok (.aload_n 0, 1) := by decide +kernel
theorem dX10_behind_25 : decode cX10_behind 25 = .ok (.getfield 29, 3) := by decide +kernel
theorem dX10_behind_28 : decode cX10_behind 28 = .ok (.iload_n 1, 1) := by decide +kernel
theorem dX10_behind_29 : decode cX10_behind 29 = .ok (.iload_n 2, 1) := by decide +kernel
theorem dX10_behind_30 : decode cX10_behind 30 = .ok (.invokevirtual 197, 3) := by decide +kernel
theorem dX10_behind_33 : decode cX10_behind 33 = .ok (.ireturn, 1) := by decide +kernel
set_option maxRecDepth 20000 in
theorem ggX10_goes_X10_noYounger : GoodIn wsX10_goes wsX10_noYounger := goodIn_r _ [7, 8, 9, 10, 11, 6, 12, 87, 88, 89, 90, 91, 92, 93, 94, 95, 96, 97, 98, 99, 100, 101, 102, 103, 104, 105, 106, 107, 108, 109, 110, 111] rfl (by decide +kernel)
set_option maxRecDepth 20000 in
theorem gX10_goes_X10_noYounger : GoodIn wsX10_goes (wsV RX10 144 RX10 yX10_noYounger wsX10_noYounger) := goodIn_app (goodIn_of _ (by decide +kernel)) ggX10_goes_X10_noYounger
set_option maxRecDepth 20000 in
theorem ggX10_goes_X1_daysToGo : GoodIn wsX10_goes wsX1_daysToGo := goodIn_r _ [17, 18, 19, 20, 21, 22, 23, 24, 25, 26, 27, 28, 29, 30, 31, 32, 33, 34, 16, 35, 36, 37, 38, 39, 40, 41, 42, 43, 44, 45, 46, 47, 48, 49, 50, 51, 52, 53, 54, 55, 56, 57, 58, 59, 60, 61, 62, 63, 64, 65, 66, 67, 68, 69, 6, 70, 71, 72, 73, 74, 75, 76, 77, 78, 79, 80, 81, 82, 83, 84, 85, 86, 112, 113, 114, 115, 116, 117, 118, 119, 99, 100, 101, 102, 103, 104, 105, 106, 107, 108, 109, 110, 111, 120, 121] rfl (by decide +kernel)
set_option maxRecDepth 20000 in
theorem gX10_goes_X1_daysToGo : GoodIn wsX10_goes (wsV RX10 201 RX1 yX1_daysToGo wsX1_daysToGo) := goodIn_app (goodIn_of _ (by decide +kernel)) ggX10_goes_X1_daysToGo
theorem dX10_goes_0 : decode cX10_goes 0 = .ok (.aload_n 0, 1) := by decide +kernel
theorem dX10_goes_1 : decode cX10_goes 1 = .ok (.iload_n 1, 1) := by decide +kernel
theorem dX10_goes_2 : decode cX10_goes 2 = .ok (.invokevirtual 144, 3) := by decide +kernel
theorem dX10_goes_5 : decode cX10_goes 5 = .ok (.ifCond .eq 7, 3) := by decide +kernel
theorem dX10_goes_8 : decode cX10_goes 8 = .ok (.iconst (-1), 1) := by decide +kernel
theorem dX10_goes_9 : decode cX10_goes 9 = .ok (.goto 15, 3) := by decide +kernel
theorem dX10_goes_12 : decode cX10_goes 12 = .ok (.aload_n 0, 1) := by decide +kernel
theorem dX10_goes_13 : decode cX10_goes 13 = .ok (.getfield 66, 3) := by decide +kernel
theorem dX10_goes_16 : decode cX10_goes 16 = .ok (.aload_n 0, 1) := by decide +kernel
theorem dX10_goes_17 : decode cX10_goes 17 = .ok (.getfield 29, 3) := by decide +kernel
theorem dX10_goes_20 : decode cX10_goes 20 = .ok (.iload_n 1, 1) := by decide +kernel
theorem dX10_goes_21 : decode cX10_goes 21 = .ok (.invokevirtual 201, 3) := by decide +kernel
theorem dX10_goes_24 : decode cX10_goes 24 = .ok (.ireturn, 1) := by decide +kernel
set_option maxRecDepth 20000 in
theorem ggX10_least_X10_noStep : GoodIn wsX10_least wsX10_noStep := goodIn_r _ [7, 8, 9, 10, 11, 6, 12, 85, 86, 87, 88, 89, 90, 91, 92, 93, 94, 95, 96, 97, 98, 99, 100, 101, 102, 103, 104, 105, 106, 107, 108, 109] rfl (by decide +kernel)
set_option maxRecDepth 20000 in
theorem gX10_least_X10_noStep : GoodIn wsX10_least (wsV RX10 126 RX10 yX10_noStep wsX10_noStep) := goodIn_app (goodIn_of _ (by decide +kernel)) ggX10_least_X10_noStep
set_option maxRecDepth 20000 in
theorem ggX10_least_X10_outside : GoodIn wsX10_least wsX10_outside := goodIn_r _ [12] rfl (by decide +kernel)
set_option maxRecDepth 20000 in
theorem gX10_least_X10_outside : GoodIn wsX10_least (va_wsS RX10 116 yX10_outside wsX10_outside) := goodIn_app (goodIn_of _ (by decide +kernel)) ggX10_least_X10_outside
set_option maxRecDepth 20000 in
theorem ggX10_least_X1_leastFor : GoodIn wsX10_least wsX1_leastFor := goodIn_r _ [17, 18, 19, 20, 21, 22, 23, 24, 25, 26, 27, 28, 29, 30, 31, 32, 33, 34, 35, 36, 37, 38, 39, 40, 41, 42, 16, 43, 44, 45, 46, 47, 48, 49, 50, 51, 52, 53, 54, 55, 56, 57, 58, 59, 60, 61, 62, 63, 64, 65, 66, 67, 6, 68, 69, 70, 71, 72, 73, 74, 75, 76, 77, 78, 79, 80, 81, 82, 83, 84, 110, 111, 112, 113, 114, 115, 116, 117, 118, 119, 97, 98, 99, 100, 101, 102, 103, 104, 105, 106, 107, 108, 109] rfl (by decide +kernel)
set_option maxRecDepth 20000 in
theorem gX10_least_X1_leastFor : GoodIn wsX10_least (wsV RX10 204 RX1 yX1_leastFor wsX1_leastFor) := goodIn_app (goodIn_of _ (by decide +kernel)) ggX10_least_X1_leastFor
theorem dX10_least_0 : decode cX10_least 0 = .ok (.aload_n 0, 1) := by decide +kernel
theorem dX10_least_1 : decode cX10_least 1 = .ok (.iload_n 1, 1) := by decide +kernel
theorem dX10_least_2 : decode cX10_least 2 = .ok (.invokevirtual 126, 3) := by decide +kernel
theorem dX10_least_5 : decode cX10_least 5 = .ok (.ifCond .ne 13, 3) := by decide +kernel
theorem dX10_least_8 : decode cX10_least 8 = .ok (.iload_n 2, 1) := by decide +kernel
theorem dX10_least_9 : decode cX10_least 9 = .ok (.iconst 1, 1) := by decide +kernel
theorem dX10_least_10 : decode cX10_least 10 = .ok (.bipush 20, 2) := by decide +kernel
theorem dX10_least_12 : decode cX10_least 12 = .ok (.invokestatic 116, 3) := by decide +kernel
theorem dX10_least_15 : decode cX10_least 15 = .ok (.ifCond .eq 5, 3) := by decide +kernel
theorem dX10_least_18 : decode cX10_least 18 = .ok (.iconst (-1), 1) := by decide +kernel
theorem dX10_least_19 : decode cX10_least 19 = .ok (.ireturn, 1) := by decide +kernel
theorem dX10_least_20 : decode cX10_least 20 = .ok (.aload_n 0, 1) := by decide +kernel
theorem dX10_least_21 : decode cX10_least 21 = .ok (.getfield 66, 3) := by decide +kernel
theorem dX10_least_24 : decode cX10_least 24 = .ok (.aload_n 0, 1) := by decide +kernel
theorem dX10_least_25 : decode cX10_least 25 = .ok (.getfield 29, 3) := by decide +kernel
theorem dX10_least_28 : decode cX10_least 28 = .ok (.iload_n 1, 1) := by decide +kernel
theorem dX10_least_29 : decode cX10_least 29 = .ok (.iload_n 2, 1) := by decide +kernel
theorem dX10_least_30 : decode cX10_least 30 = .ok (.invokevirtual 204, 3) := by decide +kernel
theorem dX10_least_33 : decode cX10_least 33 = .ok (.ireturn, 1) := by decide +kernel
set_option maxRecDepth 20000 in
theorem ggX10_round_X0_leastWay : GoodIn wsX10_round wsX0_leastWay := goodIn_r _ [10, 11, 12, 13, 14, 15, 16, 17, 18, 9, 19, 20, 51, 52] rfl (by decide +kernel)
set_option maxRecDepth 20000 in
theorem gX10_round_X0_leastWay : GoodIn wsX10_round (wsV RX10 210 RX0 yX0_leastWay wsX0_leastWay) := goodIn_app (goodIn_of _ (by decide +kernel)) ggX10_round_X0_leastWay
theorem dX10_round_0 : decode cX10_round 0 = .ok (.aload_n 0, 1) := by decide +kernel
theorem dX10_round_1 : decode cX10_round 1 = .ok (.getfield 87, 3) := by decide +kernel
theorem dX10_round_4 : decode cX10_round 4 = .ok (.aload_n 0, 1) := by decide +kernel
theorem dX10_round_5 : decode cX10_round 5 = .ok (.getfield 29, 3) := by decide +kernel
theorem dX10_round_8 : decode cX10_round 8 = .ok (.getfield 130, 3) := by decide +kernel
theorem dX10_round_11 : decode cX10_round 11 = .ok (.aload_n 0, 1) := by decide +kernel
theorem dX10_round_12 : decode cX10_round 12 = .ok (.getfield 19, 3) := by decide +kernel
theorem dX10_round_15 : decode cX10_round 15 = .ok (.getfield 207, 3) := by decide +kernel
theorem dX10_round_18 : decode cX10_round 18 = .ok (.invokevirtual 210, 3) := by decide +kernel
theorem dX10_round_21 : decode cX10_round 21 = .ok (.ireturn, 1) := by decide +kernel
set_option maxRecDepth 20000 in
theorem ggX10_best_X10_outside : GoodIn wsX10_best wsX10_outside := goodIn_r _ [8] rfl (by decide +kernel)
set_option maxRecDepth 20000 in
theorem gX10_best_X10_outside : GoodIn wsX10_best (va_wsS RX10 116 yX10_outside wsX10_outside) := goodIn_app (goodIn_of _ (by decide +kernel)) ggX10_best_X10_outside
set_option maxRecDepth 20000 in
theorem ggX10_best_X10_noStep : GoodIn wsX10_best wsX10_noStep := goodIn_r _ [12, 13, 14, 5, 6, 7, 8, 111, 112, 113, 114, 115, 116, 117, 118, 119, 120, 121, 122, 130, 131, 132, 133, 134, 135, 136, 137, 138, 139, 140, 141, 142] rfl (by decide +kernel)
set_option maxRecDepth 20000 in
theorem gX10_best_X10_noStep : GoodIn wsX10_best (wsV RX10 126 RX10 yX10_noStep wsX10_noStep) := goodIn_app (goodIn_of _ (by decide +kernel)) ggX10_best_X10_noStep
set_option maxRecDepth 20000 in
theorem ggX10_best_X6_dealOut : GoodIn wsX10_best wsX6_dealOut := goodIn_r _ [19, 20, 21, 22, 23, 24, 25, 18, 26, 27, 28, 29, 30, 31, 32, 33, 34, 35, 36, 37, 38, 39, 40, 41, 42, 43, 44, 45, 46, 47, 48, 49, 50, 51, 52, 53, 54, 55, 56, 57, 58, 59, 60, 61, 62, 63, 64, 65, 66, 67, 68, 69, 70, 71, 7, 72, 73, 74, 75, 76, 77, 78, 79, 80, 81, 82, 83, 84, 85, 86, 87, 88, 89, 90, 91, 92, 93, 94, 95, 96, 97, 98, 99, 100, 101, 102, 103, 104, 105, 106, 107, 108, 109, 110, 123, 124, 125, 126, 127, 128, 129, 130, 131, 132, 133, 134, 135, 136, 137, 138, 139, 140, 141, 142, 143, 144, 145, 146, 147, 148, 149] rfl (by decide +kernel)
set_option maxRecDepth 20000 in
theorem gX10_best_X6_dealOut : GoodIn wsX10_best (wsV RX10 214 RX6 yX6_dealOut wsX6_dealOut) := goodIn_app (goodIn_of _ (by decide +kernel)) ggX10_best_X6_dealOut
theorem dX10_best_0 : decode cX10_best 0 = .ok (.iload_n 1, 1) := by decide +kernel
theorem dX10_best_1 : decode cX10_best 1 = .ok (.iconst 0, 1) := by decide +kernel
theorem dX10_best_2 : decode cX10_best 2 = .ok (.bipush 99, 2) := by decide +kernel
theorem dX10_best_4 : decode cX10_best 4 = .ok (.invokestatic 116, 3) := by decide +kernel
theorem dX10_best_7 : decode cX10_best 7 = .ok (.ifCond .ne 26, 3) := by decide +kernel
theorem dX10_best_10 : decode cX10_best 10 = .ok (.iload_n 2, 1) := by decide +kernel
theorem dX10_best_11 : decode cX10_best 11 = .ok (.iconst 1, 1) := by decide +kernel
theorem dX10_best_12 : decode cX10_best 12 = .ok (.bipush 20, 2) := by decide +kernel
theorem dX10_best_14 : decode cX10_best 14 = .ok (.invokestatic 116, 3) := by decide +kernel
theorem dX10_best_17 : decode cX10_best 17 = .ok (.ifCond .ne 16, 3) := by decide +kernel
theorem dX10_best_20 : decode cX10_best 20 = .ok (.iload_n 3, 1) := by decide +kernel
theorem dX10_best_21 : decode cX10_best 21 = .ok (.iconst (-1), 1) := by decide +kernel
theorem dX10_best_22 : decode cX10_best 22 = .ok (.if_icmp .eq 13, 3) := by decide +kernel
theorem dX10_best_25 : decode cX10_best 25 = .ok (.aload_n 0, 1) := by decide +kernel
theorem dX10_best_26 : decode cX10_best 26 = .ok (.iload_n 3, 1) := by decide +kernel
theorem dX10_best_27 : decode cX10_best 27 = .ok (.invokevirtual 126, 3) := by decide +kernel
theorem dX10_best_30 : decode cX10_best 30 = .ok (.ifCond .eq 5, 3) := by decide +kernel
theorem dX10_best_33 : decode cX10_best 33 = .ok (.iconst (-1), 1) := by decide +kernel
theorem dX10_best_34 : decode cX10_best 34 = .ok (.ireturn, 1) := by decide +kernel
theorem dX10_best_35 : decode cX10_best 35 = .ok (.aload_n 0, 1) := by decide +kernel
theorem dX10_best_36 : decode cX10_best 36 = .ok (.getfield 73, 3) := by decide +kernel
theorem dX10_best_39 : decode cX10_best 39 = .ok (.aload_n 0, 1) := by decide +kernel
theorem dX10_best_40 : decode cX10_best 40 = .ok (.getfield 29, 3) := by decide +kernel
theorem dX10_best_43 : decode cX10_best 43 = .ok (.iload_n 1, 1) := by decide +kernel
theorem dX10_best_44 : decode cX10_best 44 = .ok (.iload_n 2, 1) := by decide +kernel
theorem dX10_best_45 : decode cX10_best 45 = .ok (.invokevirtual 214, 3) := by decide +kernel
theorem dX10_best_48 : decode cX10_best 48 = .ok (.iload_n 3, 1) := by decide +kernel
theorem dX10_best_49 : decode cX10_best 49 = .ok (.iconst (-1), 1) := by decide +kernel
theorem dX10_best_50 : decode cX10_best 50 = .ok (.if_icmp .ne 13, 3) := by decide +kernel
theorem dX10_best_53 : decode cX10_best 53 = .ok (.aload_n 0, 1) := by decide +kernel
theorem dX10_best_54 : decode cX10_best 54 = .ok (.getfield 73, 3) := by decide +kernel
theorem dX10_best_57 : decode cX10_best 57 = .ok (.getfield 218, 3) := by decide +kernel
theorem dX10_best_60 : decode cX10_best 60 = .ok (.goto 12, 3) := by decide +kernel
theorem dX10_best_63 : decode cX10_best 63 = .ok (.aload_n 0, 1) := by decide +kernel
theorem dX10_best_64 : decode cX10_best 64 = .ok (.getfield 73, 3) := by decide +kernel
theorem dX10_best_67 : decode cX10_best 67 = .ok (.getfield 221, 3) := by decide +kernel
theorem dX10_best_70 : decode cX10_best 70 = .ok (.iload_n 3, 1) := by decide +kernel
theorem dX10_best_71 : decode cX10_best 71 = .ok (.iaload, 1) := by decide +kernel
theorem dX10_best_72 : decode cX10_best 72 = .ok (.ireturn, 1) := by decide +kernel
set_option maxRecDepth 20000 in
theorem ggX10_help_X10_outside : GoodIn wsX10_help wsX10_outside := goodIn_r _ [6] rfl (by decide +kernel)
set_option maxRecDepth 20000 in
theorem gX10_help_X10_outside : GoodIn wsX10_help (va_wsS RX10 116 yX10_outside wsX10_outside) := goodIn_app (goodIn_of _ (by decide +kernel)) ggX10_help_X10_outside
set_option maxRecDepth 20000 in
theorem ggX10_help_X1_helper : GoodIn wsX10_help wsX1_helper := goodIn_r _ [11, 12, 13, 14, 15, 16, 17, 18, 19, 20, 21, 5, 22, 23, 24, 25, 10, 26, 27, 28, 29, 30, 31, 32, 33, 34, 35, 36, 37, 38, 39, 40, 41, 42, 43, 44, 45, 46, 47, 48, 49, 50, 51, 52, 53, 54, 55, 56, 57, 58, 59, 60, 61, 62, 63, 64, 65, 66, 67, 68, 69, 70, 71, 72, 73, 74, 75, 76, 77, 78, 79, 80, 81, 82, 83, 84, 85, 86, 87, 88, 89, 90, 91, 92, 93, 94, 95, 109, 110, 111, 112, 113, 114, 115, 116, 117, 118, 119, 120, 121, 122, 123, 124, 125, 126, 127, 128, 129, 130, 131] rfl (by decide +kernel)
set_option maxRecDepth 20000 in
theorem gX10_help_X1_helper : GoodIn wsX10_help (wsV RX10 224 RX1 yX1_helper wsX1_helper) := goodIn_app (goodIn_of _ (by decide +kernel)) ggX10_help_X1_helper
set_option maxRecDepth 20000 in
theorem ggX10_help_X1_othersKeptBy : GoodIn wsX10_help wsX1_othersKeptBy := goodIn_r _ [26, 27, 28, 14, 29, 30, 31, 18, 32, 33, 34, 35, 20, 36, 37, 38, 39, 40, 41, 42, 43, 44, 45, 46, 47, 48, 49, 50, 51, 52, 53, 54, 55, 56, 57, 58, 59, 60, 61, 62, 63, 64, 65, 66, 67, 68, 69, 70, 71, 72, 73, 74, 75, 76, 77, 78, 21, 5, 22, 79, 80, 81, 82, 83, 84, 85, 86, 16, 17, 19, 87, 88, 89, 90, 91, 92, 93, 94, 95, 109, 110, 111, 125, 126, 127, 128, 129, 130, 131, 112, 113, 114, 115, 116, 117, 118, 119, 120, 121, 122, 123, 124] rfl (by decide +kernel)
set_option maxRecDepth 20000 in
theorem gX10_help_X1_othersKeptBy : GoodIn wsX10_help (wsV RX10 227 RX1 yX1_othersKeptBy wsX1_othersKeptBy) := goodIn_app (goodIn_of _ (by decide +kernel)) ggX10_help_X1_othersKeptBy
theorem dX10_help_0 : decode cX10_help 0 = .ok (.iload_n 1, 1) := by decide +kernel
theorem dX10_help_1 : decode cX10_help 1 = .ok (.iconst 0, 1) := by decide +kernel
theorem dX10_help_2 : decode cX10_help 2 = .ok (.iconst 1, 1) := by decide +kernel
theorem dX10_help_3 : decode cX10_help 3 = .ok (.invokestatic 116, 3) := by decide +kernel
theorem dX10_help_6 : decode cX10_help 6 = .ok (.ifCond .eq 5, 3) := by decide +kernel
theorem dX10_help_9 : decode cX10_help 9 = .ok (.iconst (-1), 1) := by decide +kernel
theorem dX10_help_10 : decode cX10_help 10 = .ok (.ireturn, 1) := by decide +kernel
theorem dX10_help_11 : decode cX10_help 11 = .ok (.aload_n 0, 1) := by decide +kernel
theorem dX10_help_12 : decode cX10_help 12 = .ok (.getfield 66, 3) := by decide +kernel
theorem dX10_help_15 : decode cX10_help 15 = .ok (.aload_n 0, 1) := by decide +kernel
theorem dX10_help_16 : decode cX10_help 16 = .ok (.getfield 29, 3) := by decide +kernel
theorem dX10_help_19 : decode cX10_help 19 = .ok (.invokevirtual 224, 3) := by decide +kernel
theorem dX10_help_22 : decode cX10_help 22 = .ok (.istore_n 2, 1) := by decide +kernel
theorem dX10_help_23 : decode cX10_help 23 = .ok (.iload_n 2, 1) := by decide +kernel
theorem dX10_help_24 : decode cX10_help 24 = .ok (.bipush (-4), 2) := by decide +kernel
theorem dX10_help_26 : decode cX10_help 26 = .ok (.if_icmp .ne 6, 3) := by decide +kernel
theorem dX10_help_29 : decode cX10_help 29 = .ok (.bipush (-4), 2) := by decide +kernel
theorem dX10_help_31 : decode cX10_help 31 = .ok (.ireturn, 1) := by decide +kernel
theorem dX10_help_32 : decode cX10_help 32 = .ok (.iload_n 1, 1) := by decide +kernel
theorem dX10_help_33 : decode cX10_help 33 = .ok (.ifCond .ne 7, 3) := by decide +kernel
theorem dX10_help_36 : decode cX10_help 36 = .ok (.iload_n 2, 1) := by decide +kernel
theorem dX10_help_37 : decode cX10_help 37 = .ok (.goto 15, 3) := by decide +kernel
theorem dX10_help_40 : decode cX10_help 40 = .ok (.aload_n 0, 1) := by decide +kernel
theorem dX10_help_41 : decode cX10_help 41 = .ok (.getfield 66, 3) := by decide +kernel
theorem dX10_help_44 : decode cX10_help 44 = .ok (.aload_n 0, 1) := by decide +kernel
theorem dX10_help_45 : decode cX10_help 45 = .ok (.getfield 29, 3) := by decide +kernel
theorem dX10_help_48 : decode cX10_help 48 = .ok (.iload_n 2, 1) := by decide +kernel
theorem dX10_help_49 : decode cX10_help 49 = .ok (.invokevirtual 227, 3) := by decide +kernel
theorem dX10_help_52 : decode cX10_help 52 = .ok (.ireturn, 1) := by decide +kernel
set_option maxRecDepth 20000 in
theorem ggX10_see_X10_noStep : GoodIn wsX10_see wsX10_noStep := goodIn_r _ [7, 8, 9, 10, 11, 6, 12, 21, 22, 23, 24, 25, 26, 27, 28, 29, 30, 31, 32, 36, 37, 38, 39, 40, 41, 42, 43, 44, 45, 46, 47, 48] rfl (by decide +kernel)
set_option maxRecDepth 20000 in
theorem gX10_see_X10_noStep : GoodIn wsX10_see (wsV RX10 126 RX10 yX10_noStep wsX10_noStep) := goodIn_app (goodIn_of _ (by decide +kernel)) ggX10_see_X10_noStep
set_option maxRecDepth 20000 in
theorem ggX10_see_X10_outside : GoodIn wsX10_see wsX10_outside := goodIn_r _ [12] rfl (by decide +kernel)
set_option maxRecDepth 20000 in
theorem gX10_see_X10_outside : GoodIn wsX10_see (va_wsS RX10 116 yX10_outside wsX10_outside) := goodIn_app (goodIn_of _ (by decide +kernel)) ggX10_see_X10_outside
set_option maxRecDepth 20000 in
theorem ggX10_see_X5_add : GoodIn wsX10_see wsX5_add := goodIn_r _ [17, 18, 19, 20, 33, 34, 35] rfl (by decide +kernel)
set_option maxRecDepth 20000 in
theorem gX10_see_X5_add : GoodIn wsX10_see (wsV RX10 231 RX5 yX5_add wsX5_add) := goodIn_app (goodIn_of _ (by decide +kernel)) ggX10_see_X5_add
theorem dX10_see_0 : decode cX10_see 0 = .ok (.aload_n 0, 1) := by decide +kernel
theorem dX10_see_1 : decode cX10_see 1 = .ok (.iload_n 1, 1) := by decide +kernel
theorem dX10_see_2 : decode cX10_see 2 = .ok (.invokevirtual 126, 3) := by decide +kernel
theorem dX10_see_5 : decode cX10_see 5 = .ok (.ifCond .ne 13, 3) := by decide +kernel
theorem dX10_see_8 : decode cX10_see 8 = .ok (.iload_n 2, 1) := by decide +kernel
theorem dX10_see_9 : decode cX10_see 9 = .ok (.iconst 0, 1) := by decide +kernel
theorem dX10_see_10 : decode cX10_see 10 = .ok (.bipush 40, 2) := by decide +kernel
theorem dX10_see_12 : decode cX10_see 12 = .ok (.invokestatic 116, 3) := by decide +kernel
theorem dX10_see_15 : decode cX10_see 15 = .ok (.ifCond .eq 5, 3) := by decide +kernel
theorem dX10_see_18 : decode cX10_see 18 = .ok (.iconst (-1), 1) := by decide +kernel
theorem dX10_see_19 : decode cX10_see 19 = .ok (.ireturn, 1) := by decide +kernel
theorem dX10_see_20 : decode cX10_see 20 = .ok (.aload_n 0, 1) := by decide +kernel
theorem dX10_see_21 : decode cX10_see 21 = .ok (.getfield 57, 3) := by decide +kernel
theorem dX10_see_24 : decode cX10_see 24 = .ok (.getfield 230, 3) := by decide +kernel
theorem dX10_see_27 : decode cX10_see 27 = .ok (.bipush 6, 2) := by decide +kernel
theorem dX10_see_29 : decode cX10_see 29 = .ok (.if_icmp .lt 6, 3) := by decide +kernel
theorem dX10_see_32 : decode cX10_see 32 = .ok (.bipush (-3), 2) := by decide +kernel
theorem dX10_see_34 : decode cX10_see 34 = .ok (.ireturn, 1) := by decide +kernel
theorem dX10_see_35 : decode cX10_see 35 = .ok (.aload_n 0, 1) := by decide +kernel
theorem dX10_see_36 : decode cX10_see 36 = .ok (.getfield 57, 3) := by decide +kernel
theorem dX10_see_39 : decode cX10_see 39 = .ok (.iload_n 1, 1) := by decide +kernel
theorem dX10_see_40 : decode cX10_see 40 = .ok (.iload_n 2, 1) := by decide +kernel
theorem dX10_see_41 : decode cX10_see 41 = .ok (.invokevirtual 231, 3) := by decide +kernel
theorem dX10_see_44 : decode cX10_see 44 = .ok (.aload_n 0, 1) := by decide +kernel
theorem dX10_see_45 : decode cX10_see 45 = .ok (.getfield 57, 3) := by decide +kernel
theorem dX10_see_48 : decode cX10_see 48 = .ok (.getfield 230, 3) := by decide +kernel
theorem dX10_see_51 : decode cX10_see 51 = .ok (.ireturn, 1) := by decide +kernel
set_option maxRecDepth 20000 in
theorem ggX10_forget_X5_clear : GoodIn wsX10_forget wsX5_clear := goodIn_r _ [7, 8, 21, 22, 23] rfl (by decide +kernel)
set_option maxRecDepth 20000 in
theorem gX10_forget_X5_clear : GoodIn wsX10_forget (wsV RX10 234 RX5 yX5_clear wsX5_clear) := goodIn_app (goodIn_of _ (by decide +kernel)) ggX10_forget_X5_clear
theorem dX10_forget_0 : decode cX10_forget 0 = .ok (.aload_n 0, 1) := by decide +kernel
theorem dX10_forget_1 : decode cX10_forget 1 = .ok (.getfield 57, 3) := by decide +kernel
theorem dX10_forget_4 : decode cX10_forget 4 = .ok (.getfield 230, 3) := by decide +kernel
theorem dX10_forget_7 : decode cX10_forget 7 = .ok (.istore_n 1, 1) := by decide +kernel
theorem dX10_forget_8 : decode cX10_forget 8 = .ok (.aload_n 0, 1) := by decide +kernel
theorem dX10_forget_9 : decode cX10_forget 9 = .ok (.getfield 57, 3) := by decide +kernel
theorem dX10_forget_12 : decode cX10_forget 12 = .ok (.invokevirtual 234, 3) := by decide +kernel
theorem dX10_forget_15 : decode cX10_forget 15 = .ok (.iload_n 1, 1) := by decide +kernel
theorem dX10_forget_16 : decode cX10_forget 16 = .ok (.ireturn, 1) := by decide +kernel
set_option maxRecDepth 20000 in
theorem ggX10_within_X10_noStep : GoodIn wsX10_within wsX10_noStep := goodIn_r _ [10, 11, 12, 13, 14, 9, 15, 51, 52, 53, 54, 55, 56, 57, 58, 59, 60, 61, 62, 68, 69, 70, 71, 72, 73, 74, 75, 76, 77, 78, 79, 80] rfl (by decide +kernel)
set_option maxRecDepth 20000 in
theorem gX10_within_X10_noStep : GoodIn wsX10_within (wsV RX10 126 RX10 yX10_noStep wsX10_noStep) := goodIn_app (goodIn_of _ (by decide +kernel)) ggX10_within_X10_noStep
set_option maxRecDepth 20000 in
theorem ggX10_within_X10_outside : GoodIn wsX10_within wsX10_outside := goodIn_r _ [15] rfl (by decide +kernel)
set_option maxRecDepth 20000 in
theorem gX10_within_X10_outside : GoodIn wsX10_within (va_wsS RX10 116 yX10_outside wsX10_outside) := goodIn_app (goodIn_of _ (by decide +kernel)) ggX10_within_X10_outside
set_option maxRecDepth 20000 in
theorem ggX10_within_X2_notGoneAt : GoodIn wsX10_within wsX2_notGoneAt := goodIn_r _ [20, 21, 22, 23, 24, 81, 82, 68, 69, 70, 71, 72, 73, 74, 75, 76, 77, 78, 79, 80, 63, 64, 65, 66, 67] rfl (by decide +kernel)
set_option maxRecDepth 20000 in
theorem gX10_within_X2_notGoneAt : GoodIn wsX10_within (wsV RX10 141 RX2 yX2_notGoneAt wsX2_notGoneAt) := goodIn_app (goodIn_of _ (by decide +kernel)) ggX10_within_X2_notGoneAt
set_option maxRecDepth 20000 in
theorem ggX10_within_X2_leftOver : GoodIn wsX10_within wsX2_leftOver := goodIn_r _ [28, 29, 30, 31, 32, 21, 22, 23, 33, 34, 9, 35, 36, 37, 38, 39, 40, 41, 42, 81, 82, 68, 69, 70, 71, 72, 73, 74, 75, 76, 77, 78, 79, 80] rfl (by decide +kernel)
set_option maxRecDepth 20000 in
theorem gX10_within_X2_leftOver : GoodIn wsX10_within (wsV RX10 235 RX2 yX2_leftOver wsX2_leftOver) := goodIn_app (goodIn_of _ (by decide +kernel)) ggX10_within_X2_leftOver
set_option maxRecDepth 20000 in
theorem ggX10_within_X5_fits : GoodIn wsX10_within wsX5_fits := goodIn_r _ [47, 48, 49, 50, 83, 84, 85] rfl (by decide +kernel)
set_option maxRecDepth 20000 in
theorem gX10_within_X5_fits : GoodIn wsX10_within (wsV RX10 239 RX5 yX5_fits wsX5_fits) := goodIn_app (goodIn_of _ (by decide +kernel)) ggX10_within_X5_fits
theorem dX10_within_0 : decode cX10_within 0 = .ok (.aload_n 0, 1) := by decide +kernel
theorem dX10_within_1 : decode cX10_within 1 = .ok (.iload_n 1, 1) := by decide +kernel
theorem dX10_within_2 : decode cX10_within 2 = .ok (.invokevirtual 126, 3) := by decide +kernel
theorem dX10_within_5 : decode cX10_within 5 = .ok (.ifCond .ne 12, 3) := by decide +kernel
theorem dX10_within_8 : decode cX10_within 8 = .ok (.iload_n 2, 1) := by decide +kernel
theorem dX10_within_9 : decode cX10_within 9 = .ok (.iconst 0, 1) := by decide +kernel
theorem dX10_within_10 : decode cX10_within 10 = .ok (.iconst 1, 1) := by decide +kernel
theorem dX10_within_11 : decode cX10_within 11 = .ok (.invokestatic 116, 3) := by decide +kernel
theorem dX10_within_14 : decode cX10_within 14 = .ok (.ifCond .eq 5, 3) := by decide +kernel
theorem dX10_within_17 : decode cX10_within 17 = .ok (.iconst (-1), 1) := by decide +kernel
theorem dX10_within_18 : decode cX10_within 18 = .ok (.ireturn, 1) := by decide +kernel
theorem dX10_within_19 : decode cX10_within 19 = .ok (.iconst 0, 1) := by decide +kernel
theorem dX10_within_20 : decode cX10_within 20 = .ok (.istore_n 3, 1) := by decide +kernel
theorem dX10_within_21 : decode cX10_within 21 = .ok (.aload_n 0, 1) := by decide +kernel
theorem dX10_within_22 : decode cX10_within 22 = .ok (.getfield 50, 3) := by decide +kernel
theorem dX10_within_25 : decode cX10_within 25 = .ok (.aload_n 0, 1) := by decide +kernel
theorem dX10_within_26 : decode cX10_within 26 = .ok (.getfield 29, 3) := by decide +kernel
theorem dX10_within_29 : decode cX10_within 29 = .ok (.iload_n 1, 1) := by decide +kernel
theorem dX10_within_30 : decode cX10_within 30 = .ok (.invokevirtual 141, 3) := by decide +kernel
theorem dX10_within_33 : decode cX10_within 33 = .ok (.istore 4, 2) := by decide +kernel
theorem dX10_within_35 : decode cX10_within 35 = .ok (.iconst 0, 1) := by decide +kernel
theorem dX10_within_36 : decode cX10_within 36 = .ok (.istore 5, 2) := by decide +kernel
theorem dX10_within_38 : decode cX10_within 38 = .ok (.iload 5, 2) := by decide +kernel
theorem dX10_within_40 : decode cX10_within 40 = .ok (.sipush 256, 3) := by decide +kernel
theorem dX10_within_43 : decode cX10_within 43 = .ok (.if_icmp .ge 84, 3) := by decide +kernel
theorem dX10_within_46 : decode cX10_within 46 = .ok (.iload 5, 2) := by decide +kernel
theorem dX10_within_48 : decode cX10_within 48 = .ok (.iload 4, 2) := by decide +kernel
theorem dX10_within_50 : decode cX10_within 50 = .ok (.iconst (-1), 1) := by decide +kernel
theorem dX10_within_51 : decode cX10_within 51 = .ok (.ixor, 1) := by decide +kernel
theorem dX10_within_52 : decode cX10_within 52 = .ok (.iand, 1) := by decide +kernel
theorem dX10_within_53 : decode cX10_within 53 = .ok (.ifCond .ne 7, 3) := by decide +kernel
theorem dX10_within_56 : decode cX10_within 56 = .ok (.iconst 1, 1) := by decide +kernel
theorem dX10_within_57 : decode cX10_within 57 = .ok (.goto 4, 3) := by decide +kernel
theorem dX10_within_60 : decode cX10_within 60 = .ok (.iconst 0, 1) := by decide +kernel
theorem dX10_within_61 : decode cX10_within 61 = .ok (.istore 6, 2) := by decide +kernel
theorem dX10_within_63 : decode cX10_within 63 = .ok (.iload 6, 2) := by decide +kernel
theorem dX10_within_65 : decode cX10_within 65 = .ok (.ifCond .eq 56, 3) := by decide +kernel
theorem dX10_within_68 : decode cX10_within 68 = .ok (.aload_n 0, 1) := by decide +kernel
theorem dX10_within_69 : decode cX10_within 69 = .ok (.getfield 57, 3) := by decide +kernel
theorem dX10_within_72 : decode cX10_within 72 = .ok (.iload_n 1, 1) := by decide +kernel
theorem dX10_within_73 : decode cX10_within 73 = .ok (.aload_n 0, 1) := by decide +kernel
theorem dX10_within_74 : decode cX10_within 74 = .ok (.getfield 50, 3) := by decide +kernel
theorem dX10_within_77 : decode cX10_within 77 = .ok (.iload_n 1, 1) := by decide +kernel
theorem dX10_within_78 : decode cX10_within 78 = .ok (.aload_n 0, 1) := by decide +kernel
theorem dX10_within_79 : decode cX10_within 79 = .ok (.getfield 29, 3) := by decide +kernel
theorem dX10_within_82 : decode cX10_within 82 = .ok (.getfield 130, 3) := by decide +kernel
theorem dX10_within_85 : decode cX10_within 85 = .ok (.iload_n 1, 1) := by decide +kernel
theorem dX10_within_86 : decode cX10_within 86 = .ok (.iaload, 1) := by decide +kernel
theorem dX10_within_87 : decode cX10_within 87 = .ok (.aload_n 0, 1) := by decide +kernel
theorem dX10_within_88 : decode cX10_within 88 = .ok (.getfield 29, 3) := by decide +kernel
theorem dX10_within_91 : decode cX10_within 91 = .ok (.getfield 134, 3) := by decide +kernel
theorem dX10_within_94 : decode cX10_within 94 = .ok (.iload_n 1, 1) := by decide +kernel
theorem dX10_within_95 : decode cX10_within 95 = .ok (.iaload, 1) := by decide +kernel
theorem dX10_within_96 : decode cX10_within 96 = .ok (.iload 5, 2) := by decide +kernel
theorem dX10_within_98 : decode cX10_within 98 = .ok (.invokevirtual 235, 3) := by decide +kernel
theorem dX10_within_101 : decode cX10_within 101 = .ok (.invokevirtual 239, 3) := by decide +kernel
theorem dX10_within_104 : decode cX10_within 104 = .ok (.ifCond .ne 6, 3) := by decide +kernel
theorem dX10_within_107 : decode cX10_within 107 = .ok (.goto 14, 3) := by decide +kernel
theorem dX10_within_110 : decode cX10_within 110 = .ok (.iload_n 2, 1) := by decide +kernel
theorem dX10_within_111 : decode cX10_within 111 = .ok (.iconst 1, 1) := by decide +kernel
theorem dX10_within_112 : decode cX10_within 112 = .ok (.if_icmp .ne 6, 3) := by decide +kernel
theorem dX10_within_115 : decode cX10_within 115 = .ok (.iload 5, 2) := by decide +kernel
theorem dX10_within_117 : decode cX10_within 117 = .ok (.ireturn, 1) := by decide +kernel
theorem dX10_within_118 : decode cX10_within 118 = .ok (.iinc 3 1, 3) := by decide +kernel
theorem dX10_within_121 : decode cX10_within 121 = .ok (.iinc 5 1, 3) := by decide +kernel
theorem dX10_within_124 : decode cX10_within 124 = .ok (.goto (-86), 3) := by decide +kernel
theorem dX10_within_127 : decode cX10_within 127 = .ok (.iload_n 2, 1) := by decide +kernel
theorem dX10_within_128 : decode cX10_within 128 = .ok (.iconst 1, 1) := by decide +kernel
theorem dX10_within_129 : decode cX10_within 129 = .ok (.if_icmp .ne 8, 3) := by decide +kernel
theorem dX10_within_132 : decode cX10_within 132 = .ok (.bipush (-4), 2) := by decide +kernel
theorem dX10_within_134 : decode cX10_within 134 = .ok (.goto 4, 3) := by decide +kernel
theorem dX10_within_137 : decode cX10_within 137 = .ok (.iload_n 3, 1) := by decide +kernel
theorem dX10_within_138 : decode cX10_within 138 = .ok (.ireturn, 1) := by decide +kernel
set_option maxRecDepth 20000 in
theorem ggX10_isCats_X10_noStep : GoodIn wsX10_isCats wsX10_noStep := goodIn_r _ [9, 10, 11, 12, 13, 8, 14, 55, 56, 57, 58, 59, 60, 61, 62, 63, 64, 65, 66, 72, 73, 74, 75, 76, 77, 78, 79, 80, 81, 82, 83, 84] rfl (by decide +kernel)
set_option maxRecDepth 20000 in
theorem gX10_isCats_X10_noStep : GoodIn wsX10_isCats (wsV RX10 126 RX10 yX10_noStep wsX10_noStep) := goodIn_app (goodIn_of _ (by decide +kernel)) ggX10_isCats_X10_noStep
set_option maxRecDepth 20000 in
theorem ggX10_isCats_X2_drinkersAt : GoodIn wsX10_isCats wsX2_drinkersAt := goodIn_r _ [19, 20, 21, 22, 23, 18, 24, 25, 26, 27, 28, 67, 68, 69, 70, 71, 85, 86, 72, 73, 74, 75, 76, 77, 78, 79, 80, 81, 82, 83, 84] rfl (by decide +kernel)
set_option maxRecDepth 20000 in
theorem gX10_isCats_X2_drinkersAt : GoodIn wsX10_isCats (wsV RX10 243 RX2 yX2_drinkersAt wsX2_drinkersAt) := goodIn_app (goodIn_of _ (by decide +kernel)) ggX10_isCats_X2_drinkersAt
set_option maxRecDepth 20000 in
theorem ggX10_isCats_X2_leftOver : GoodIn wsX10_isCats wsX2_leftOver := goodIn_r _ [32, 33, 34, 35, 36, 25, 26, 27, 37, 38, 8, 39, 40, 41, 42, 43, 44, 45, 46, 85, 86, 72, 73, 74, 75, 76, 77, 78, 79, 80, 81, 82, 83, 84] rfl (by decide +kernel)
set_option maxRecDepth 20000 in
theorem gX10_isCats_X2_leftOver : GoodIn wsX10_isCats (wsV RX10 235 RX2 yX2_leftOver wsX2_leftOver) := goodIn_app (goodIn_of _ (by decide +kernel)) ggX10_isCats_X2_leftOver
set_option maxRecDepth 20000 in
theorem ggX10_isCats_X5_fits : GoodIn wsX10_isCats wsX5_fits := goodIn_r _ [51, 52, 53, 54, 87, 88, 89] rfl (by decide +kernel)
set_option maxRecDepth 20000 in
theorem gX10_isCats_X5_fits : GoodIn wsX10_isCats (wsV RX10 239 RX5 yX5_fits wsX5_fits) := goodIn_app (goodIn_of _ (by decide +kernel)) ggX10_isCats_X5_fits
theorem dX10_isCats_0 : decode cX10_isCats 0 = .ok (.aload_n 0, 1) := by decide +kernel
theorem dX10_isCats_1 : decode cX10_isCats 1 = .ok (.iload_n 1, 1) := by decide +kernel
theorem dX10_isCats_2 : decode cX10_isCats 2 = .ok (.invokevirtual 126, 3) := by decide +kernel
theorem dX10_isCats_5 : decode cX10_isCats 5 = .ok (.ifCond .eq 5, 3) := by decide +kernel
theorem dX10_isCats_8 : decode cX10_isCats 8 = .ok (.iconst (-1), 1) := by decide +kernel
theorem dX10_isCats_9 : decode cX10_isCats 9 = .ok (.ireturn, 1) := by decide +kernel
theorem dX10_isCats_10 : decode cX10_isCats 10 = .ok (.iconst 0, 1) := by decide +kernel
theorem dX10_isCats_11 : decode cX10_isCats 11 = .ok (.istore_n 2, 1) := by decide +kernel
theorem dX10_isCats_12 : decode cX10_isCats 12 = .ok (.aload_n 0, 1) := by decide +kernel
theorem dX10_isCats_13 : decode cX10_isCats 13 = .ok (.getfield 50, 3) := by decide +kernel
theorem dX10_isCats_16 : decode cX10_isCats 16 = .ok (.aload_n 0, 1) := by decide +kernel
theorem dX10_isCats_17 : decode cX10_isCats 17 = .ok (.getfield 29, 3) := by decide +kernel
theorem dX10_isCats_20 : decode cX10_isCats 20 = .ok (.iload_n 1, 1) := by decide +kernel
theorem dX10_isCats_21 : decode cX10_isCats 21 = .ok (.invokevirtual 243, 3) := by decide +kernel
theorem dX10_isCats_24 : decode cX10_isCats 24 = .ok (.istore_n 3, 1) := by decide +kernel
theorem dX10_isCats_25 : decode cX10_isCats 25 = .ok (.iconst 0, 1) := by decide +kernel
theorem dX10_isCats_26 : decode cX10_isCats 26 = .ok (.istore 4, 2) := by decide +kernel
theorem dX10_isCats_28 : decode cX10_isCats 28 = .ok (.iload 4, 2) := by decide +kernel
theorem dX10_isCats_30 : decode cX10_isCats 30 = .ok (.bipush 9, 2) := by decide +kernel
theorem dX10_isCats_32 : decode cX10_isCats 32 = .ok (.if_icmp .gt 47, 3) := by decide +kernel
theorem dX10_isCats_35 : decode cX10_isCats 35 = .ok (.aload_n 0, 1) := by decide +kernel
theorem dX10_isCats_36 : decode cX10_isCats 36 = .ok (.getfield 57, 3) := by decide +kernel
theorem dX10_isCats_39 : decode cX10_isCats 39 = .ok (.iload_n 1, 1) := by decide +kernel
theorem dX10_isCats_40 : decode cX10_isCats 40 = .ok (.aload_n 0, 1) := by decide +kernel
theorem dX10_isCats_41 : decode cX10_isCats 41 = .ok (.getfield 50, 3) := by decide +kernel
theorem dX10_isCats_44 : decode cX10_isCats 44 = .ok (.iload_n 1, 1) := by decide +kernel
theorem dX10_isCats_45 : decode cX10_isCats 45 = .ok (.aload_n 0, 1) := by decide +kernel
theorem dX10_isCats_46 : decode cX10_isCats 46 = .ok (.getfield 29, 3) := by decide +kernel
theorem dX10_isCats_49 : decode cX10_isCats 49 = .ok (.getfield 130, 3) := by decide +kernel
theorem dX10_isCats_52 : decode cX10_isCats 52 = .ok (.iload_n 1, 1) := by decide +kernel
theorem dX10_isCats_53 : decode cX10_isCats 53 = .ok (.iaload, 1) := by decide +kernel
theorem dX10_isCats_54 : decode cX10_isCats 54 = .ok (.iload 4, 2) := by decide +kernel
theorem dX10_isCats_56 : decode cX10_isCats 56 = .ok (.iload_n 3, 1) := by decide +kernel
theorem dX10_isCats_57 : decode cX10_isCats 57 = .ok (.invokevirtual 235, 3) := by decide +kernel
theorem dX10_isCats_60 : decode cX10_isCats 60 = .ok (.invokevirtual 239, 3) := by decide +kernel
theorem dX10_isCats_63 : decode cX10_isCats 63 = .ok (.ifCond .eq 10, 3) := by decide +kernel
theorem dX10_isCats_66 : decode cX10_isCats 66 = .ok (.iload_n 2, 1) := by decide +kernel
theorem dX10_isCats_67 : decode cX10_isCats 67 = .ok (.iconst 1, 1) := by decide +kernel
theorem dX10_isCats_68 : decode cX10_isCats 68 = .ok (.iload 4, 2) := by decide +kernel
theorem dX10_isCats_70 : decode cX10_isCats 70 = .ok (.ishl, 1) := by decide +kernel
theorem dX10_isCats_71 : decode cX10_isCats 71 = .ok (.ior, 1) := by decide +kernel
theorem dX10_isCats_72 : decode cX10_isCats 72 = .ok (.istore_n 2, 1) := by decide +kernel
theorem dX10_isCats_73 : decode cX10_isCats 73 = .ok (.iinc 4 1, 3) := by decide +kernel
theorem dX10_isCats_76 : decode cX10_isCats 76 = .ok (.goto (-48), 3) := by decide +kernel
theorem dX10_isCats_79 : decode cX10_isCats 79 = .ok (.iload_n 2, 1) := by decide +kernel
theorem dX10_isCats_80 : decode cX10_isCats 80 = .ok (.ireturn, 1) := by decide +kernel
set_option maxRecDepth 20000 in
theorem ggX10_was_X10_noYounger : GoodIn wsX10_was wsX10_noYounger := goodIn_r _ [8, 9, 10, 11, 12, 7, 13, 88, 89, 90, 91, 92, 93, 94, 95, 96, 97, 98, 99, 105, 106, 107, 108, 109, 110, 111, 112, 113, 114, 115, 116, 117] rfl (by decide +kernel)
set_option maxRecDepth 20000 in
theorem gX10_was_X10_noYounger : GoodIn wsX10_was (wsV RX10 144 RX10 yX10_noYounger wsX10_noYounger) := goodIn_app (goodIn_of _ (by decide +kernel)) ggX10_was_X10_noYounger
set_option maxRecDepth 20000 in
theorem ggX10_was_X10_outside : GoodIn wsX10_was wsX10_outside := goodIn_r _ [13] rfl (by decide +kernel)
set_option maxRecDepth 20000 in
theorem gX10_was_X10_outside : GoodIn wsX10_was (va_wsS RX10 116 yX10_outside wsX10_outside) := goodIn_app (goodIn_of _ (by decide +kernel)) ggX10_was_X10_outside
set_option maxRecDepth 20000 in
theorem ggX10_was_X1_wellBehindFrom : GoodIn wsX10_was wsX1_wellBehindFrom := goodIn_r _ [18, 19, 20, 21, 22, 23, 24, 25, 26, 27, 28, 29, 30, 31, 32, 33, 34, 35, 17, 36, 37, 38, 39, 40, 41, 42, 43, 44, 45, 46, 47, 48, 49, 50, 51, 52, 53, 54, 55, 56, 57, 58, 59, 60, 61, 62, 63, 64, 65, 66, 67, 68, 69, 70, 7, 71, 72, 73, 74, 75, 76, 77, 78, 79, 80, 81, 82, 83, 84, 85, 86, 87, 118, 119, 120, 100, 101, 102, 103, 104, 105, 106, 107, 108, 109, 110, 111, 112, 113, 114, 115, 116, 117, 121, 122] rfl (by decide +kernel)
set_option maxRecDepth 20000 in
theorem gX10_was_X1_wellBehindFrom : GoodIn wsX10_was (wsV RX10 246 RX1 yX1_wellBehindFrom wsX1_wellBehindFrom) := goodIn_app (goodIn_of _ (by decide +kernel)) ggX10_was_X1_wellBehindFrom
theorem dX10_was_0 : decode cX10_was 0 = .ok (.aload_n 0, 1) := by decide +kernel
theorem dX10_was_1 : decode cX10_was 1 = .ok (.iload_n 1, 1) := by decide +kernel
theorem dX10_was_2 : decode cX10_was 2 = .ok (.invokevirtual 144, 3) := by decide +kernel
theorem dX10_was_5 : decode cX10_was 5 = .ok (.ifCond .ne 22, 3) := by decide +kernel
theorem dX10_was_8 : decode cX10_was 8 = .ok (.iload_n 2, 1) := by decide +kernel
theorem dX10_was_9 : decode cX10_was 9 = .ok (.iconst 1, 1) := by decide +kernel
theorem dX10_was_10 : decode cX10_was 10 = .ok (.bipush 20, 2) := by decide +kernel
theorem dX10_was_12 : decode cX10_was 12 = .ok (.invokestatic 116, 3) := by decide +kernel
theorem dX10_was_15 : decode cX10_was 15 = .ok (.ifCond .ne 12, 3) := by decide +kernel
theorem dX10_was_18 : decode cX10_was 18 = .ok (.iload_n 3, 1) := by decide +kernel
theorem dX10_was_19 : decode cX10_was 19 = .ok (.iconst 0, 1) := by decide +kernel
theorem dX10_was_20 : decode cX10_was 20 = .ok (.iconst 1, 1) := by decide +kernel
theorem dX10_was_21 : decode cX10_was 21 = .ok (.invokestatic 116, 3) := by decide +kernel
theorem dX10_was_24 : decode cX10_was 24 = .ok (.ifCond .eq 5, 3) := by decide +kernel
theorem dX10_was_27 : decode cX10_was 27 = .ok (.iconst (-1), 1) := by decide +kernel
theorem dX10_was_28 : decode cX10_was 28 = .ok (.ireturn, 1) := by decide +kernel
theorem dX10_was_29 : decode cX10_was 29 = .ok (.aload_n 0, 1) := by decide +kernel
theorem dX10_was_30 : decode cX10_was 30 = .ok (.getfield 29, 3) := by decide +kernel
theorem dX10_was_33 : decode cX10_was 33 = .ok (.getfield 159, 3) := by decide +kernel
theorem dX10_was_36 : decode cX10_was 36 = .ok (.iload_n 1, 1) := by decide +kernel
theorem dX10_was_37 : decode cX10_was 37 = .ok (.iaload, 1) := by decide +kernel
theorem dX10_was_38 : decode cX10_was 38 = .ok (.ifCond .ne 6, 3) := by decide +kernel
theorem dX10_was_41 : decode cX10_was 41 = .ok (.bipush (-2), 2) := by decide +kernel
theorem dX10_was_43 : decode cX10_was 43 = .ok (.ireturn, 1) := by decide +kernel
theorem dX10_was_44 : decode cX10_was 44 = .ok (.iconst 0, 1) := by decide +kernel
theorem dX10_was_45 : decode cX10_was 45 = .ok (.istore 4, 2) := by decide +kernel
theorem dX10_was_47 : decode cX10_was 47 = .ok (.iconst 0, 1) := by decide +kernel
theorem dX10_was_48 : decode cX10_was 48 = .ok (.istore 5, 2) := by decide +kernel
theorem dX10_was_50 : decode cX10_was 50 = .ok (.iload 5, 2) := by decide +kernel
theorem dX10_was_52 : decode cX10_was 52 = .ok (.bipush 20, 2) := by decide +kernel
theorem dX10_was_54 : decode cX10_was 54 = .ok (.if_icmp .gt 50, 3) := by decide +kernel
theorem dX10_was_57 : decode cX10_was 57 = .ok (.aload_n 0, 1) := by decide +kernel
theorem dX10_was_58 : decode cX10_was 58 = .ok (.getfield 66, 3) := by decide +kernel
theorem dX10_was_61 : decode cX10_was 61 = .ok (.aload_n 0, 1) := by decide +kernel
theorem dX10_was_62 : decode cX10_was 62 = .ok (.getfield 29, 3) := by decide +kernel
theorem dX10_was_65 : decode cX10_was 65 = .ok (.iload_n 2, 1) := by decide +kernel
theorem dX10_was_66 : decode cX10_was 66 = .ok (.iload_n 1, 1) := by decide +kernel
theorem dX10_was_67 : decode cX10_was 67 = .ok (.iload 5, 2) := by decide +kernel
theorem dX10_was_69 : decode cX10_was 69 = .ok (.invokevirtual 246, 3) := by decide +kernel
theorem dX10_was_72 : decode cX10_was 72 = .ok (.aload_n 0, 1) := by decide +kernel
theorem dX10_was_73 : decode cX10_was 73 = .ok (.getfield 29, 3) := by decide +kernel
theorem dX10_was_76 : decode cX10_was 76 = .ok (.getfield 159, 3) := by decide +kernel
theorem dX10_was_79 : decode cX10_was 79 = .ok (.iload_n 1, 1) := by decide +kernel
theorem dX10_was_80 : decode cX10_was 80 = .ok (.iaload, 1) := by decide +kernel
theorem dX10_was_81 : decode cX10_was 81 = .ok (.if_icmp .eq 6, 3) := by decide +kernel
theorem dX10_was_84 : decode cX10_was 84 = .ok (.goto 14, 3) := by decide +kernel
theorem dX10_was_87 : decode cX10_was 87 = .ok (.iload_n 3, 1) := by decide +kernel
theorem dX10_was_88 : decode cX10_was 88 = .ok (.iconst 1, 1) := by decide +kernel
theorem dX10_was_89 : decode cX10_was 89 = .ok (.if_icmp .ne 6, 3) := by decide +kernel
theorem dX10_was_92 : decode cX10_was 92 = .ok (.iload 5, 2) := by decide +kernel
theorem dX10_was_94 : decode cX10_was 94 = .ok (.ireturn, 1) := by decide +kernel
theorem dX10_was_95 : decode cX10_was 95 = .ok (.iinc 4 1, 3) := by decide +kernel
theorem dX10_was_98 : decode cX10_was 98 = .ok (.iinc 5 1, 3) := by decide +kernel
theorem dX10_was_101 : decode cX10_was 101 = .ok (.goto (-51), 3) := by decide +kernel
theorem dX10_was_104 : decode cX10_was 104 = .ok (.iload_n 3, 1) := by decide +kernel
theorem dX10_was_105 : decode cX10_was 105 = .ok (.iconst 1, 1) := by decide +kernel
theorem dX10_was_106 : decode cX10_was 106 = .ok (.if_icmp .ne 8, 3) := by decide +kernel
theorem dX10_was_109 : decode cX10_was 109 = .ok (.bipush (-4), 2) := by decide +kernel
theorem dX10_was_111 : decode cX10_was 111 = .ok (.goto 5, 3) := by decide +kernel
theorem dX10_was_114 : decode cX10_was 114 = .ok (.iload 4, 2) := by decide +kernel
theorem dX10_was_116 : decode cX10_was 116 = .ok (.ireturn, 1) := by decide +kernel
set_option maxRecDepth 20000 in
theorem ggX10_snows_X10_noYounger : GoodIn wsX10_snows wsX10_noYounger := goodIn_r _ [11, 12, 13, 14, 15, 10, 16, 95, 96, 97, 98, 99, 100, 101, 102, 103, 104, 105, 106, 107, 108, 109, 110, 111, 112, 113, 114, 115, 116, 117, 118, 119] rfl (by decide +kernel)
set_option maxRecDepth 20000 in
theorem gX10_snows_X10_noYounger : GoodIn wsX10_snows (wsV RX10 144 RX10 yX10_noYounger wsX10_noYounger) := goodIn_app (goodIn_of _ (by decide +kernel)) ggX10_snows_X10_noYounger
set_option maxRecDepth 20000 in
theorem ggX10_snows_X10_outside : GoodIn wsX10_snows wsX10_outside := goodIn_r _ [16] rfl (by decide +kernel)
set_option maxRecDepth 20000 in
theorem gX10_snows_X10_outside : GoodIn wsX10_snows (va_wsS RX10 116 yX10_outside wsX10_outside) := goodIn_app (goodIn_of _ (by decide +kernel)) ggX10_snows_X10_outside
set_option maxRecDepth 20000 in
theorem ggX10_snows_X8_waysKept : GoodIn wsX10_snows wsX8_waysKept := goodIn_r _ [21, 22, 23, 24, 25, 26, 27, 28, 29, 30, 31, 32, 33, 34, 35, 36, 37, 38, 20, 39, 40, 10, 41, 42, 43, 44, 45, 46, 47, 48, 49, 50, 51, 52, 53, 54, 55, 56, 57, 58, 59, 60, 5, 61, 62, 4, 6, 63, 64, 65, 66, 67, 68, 69, 70, 71, 72, 73, 74, 75, 76, 77, 78, 79, 80, 81, 82, 83, 84, 85, 86, 87, 88, 89, 90, 91, 120, 121, 122, 123, 107, 108, 109, 110, 111, 112, 113, 114, 115, 116, 117, 118, 119, 124, 125, 126, 127, 128, 129, 130] rfl (by decide +kernel)
set_option maxRecDepth 20000 in
theorem gX10_snows_X8_waysKept : GoodIn wsX10_snows (wsV RX10 250 RX8 yX8_waysKept wsX8_waysKept) := goodIn_app (goodIn_of _ (by decide +kernel)) ggX10_snows_X8_waysKept
set_option maxRecDepth 20000 in
theorem ggX10_snows_X10_commonDivisor : GoodIn wsX10_snows wsX10_commonDivisor := goodIn_r _ [94] rfl (by decide +kernel)
set_option maxRecDepth 20000 in
theorem gX10_snows_X10_commonDivisor : GoodIn wsX10_snows (va_wsS RX10 253 yX10_commonDivisor wsX10_commonDivisor) := goodIn_app (goodIn_of _ (by decide +kernel)) ggX10_snows_X10_commonDivisor
theorem dX10_snows_0 : decode cX10_snows 0 = .ok (.aload_n 0, 1) := by decide +kernel
theorem dX10_snows_1 : decode cX10_snows 1 = .ok (.iload_n 1, 1) := by decide +kernel
theorem dX10_snows_2 : decode cX10_snows 2 = .ok (.invokevirtual 144, 3) := by decide +kernel
theorem dX10_snows_5 : decode cX10_snows 5 = .ok (.ifCond .ne 33, 3) := by decide +kernel
theorem dX10_snows_8 : decode cX10_snows 8 = .ok (.iload_n 2, 1) := by decide +kernel
theorem dX10_snows_9 : decode cX10_snows 9 = .ok (.iconst 0, 1) := by decide +kernel
theorem dX10_snows_10 : decode cX10_snows 10 = .ok (.bipush 8, 2) := by decide +kernel
theorem dX10_snows_12 : decode cX10_snows 12 = .ok (.invokestatic 116, 3) := by decide +kernel
theorem dX10_snows_15 : decode cX10_snows 15 = .ok (.ifCond .ne 23, 3) := by decide +kernel
theorem dX10_snows_18 : decode cX10_snows 18 = .ok (.iload_n 3, 1) := by decide +kernel
theorem dX10_snows_19 : decode cX10_snows 19 = .ok (.iconst 0, 1) := by decide +kernel
theorem dX10_snows_20 : decode cX10_snows 20 = .ok (.bipush 10, 2) := by decide +kernel
theorem dX10_snows_22 : decode cX10_snows 22 = .ok (.invokestatic 116, 3) := by decide +kernel
theorem dX10_snows_25 : decode cX10_snows 25 = .ok (.ifCond .ne 13, 3) := by decide +kernel
theorem dX10_snows_28 : decode cX10_snows 28 = .ok (.iload 4, 2) := by decide +kernel
theorem dX10_snows_30 : decode cX10_snows 30 = .ok (.iconst 0, 1) := by decide +kernel
theorem dX10_snows_31 : decode cX10_snows 31 = .ok (.iconst 1, 1) := by decide +kernel
theorem dX10_snows_32 : decode cX10_snows 32 = .ok (.invokestatic 116, 3) := by decide +kernel
theorem dX10_snows_35 : decode cX10_snows 35 = .ok (.ifCond .eq 5, 3) := by decide +kernel
theorem dX10_snows_38 : decode cX10_snows 38 = .ok (.iconst (-1), 1) := by decide +kernel
theorem dX10_snows_39 : decode cX10_snows 39 = .ok (.ireturn, 1) := by decide +kernel
theorem dX10_snows_40 : decode cX10_snows 40 = .ok (.aload_n 0, 1) := by decide +kernel
theorem dX10_snows_41 : decode cX10_snows 41 = .ok (.getfield 80, 3) := by decide +kernel
theorem dX10_snows_44 : decode cX10_snows 44 = .ok (.aload_n 0, 1) := by decide +kernel
theorem dX10_snows_45 : decode cX10_snows 45 = .ok (.getfield 29, 3) := by decide +kernel
theorem dX10_snows_48 : decode cX10_snows 48 = .ok (.iload_n 1, 1) := by decide +kernel
theorem dX10_snows_49 : decode cX10_snows 49 = .ok (.iload_n 2, 1) := by decide +kernel
theorem dX10_snows_50 : decode cX10_snows 50 = .ok (.iload_n 3, 1) := by decide +kernel
theorem dX10_snows_51 : decode cX10_snows 51 = .ok (.invokevirtual 250, 3) := by decide +kernel
theorem dX10_snows_54 : decode cX10_snows 54 = .ok (.istore 5, 2) := by decide +kernel
theorem dX10_snows_56 : decode cX10_snows 56 = .ok (.iconst 1, 1) := by decide +kernel
theorem dX10_snows_57 : decode cX10_snows 57 = .ok (.istore 6, 2) := by decide +kernel
theorem dX10_snows_59 : decode cX10_snows 59 = .ok (.iconst 0, 1) := by decide +kernel
theorem dX10_snows_60 : decode cX10_snows 60 = .ok (.istore 7, 2) := by decide +kernel
theorem dX10_snows_62 : decode cX10_snows 62 = .ok (.iload 7, 2) := by decide +kernel
theorem dX10_snows_64 : decode cX10_snows 64 = .ok (.iload_n 2, 1) := by decide +kernel
theorem dX10_snows_65 : decode cX10_snows 65 = .ok (.if_icmp .ge 16, 3) := by decide +kernel
theorem dX10_snows_68 : decode cX10_snows 68 = .ok (.iload 6, 2) := by decide +kernel
theorem dX10_snows_70 : decode cX10_snows 70 = .ok (.bipush 10, 2) := by decide +kernel
theorem dX10_snows_72 : decode cX10_snows 72 = .ok (.imul, 1) := by decide +kernel
theorem dX10_snows_73 : decode cX10_snows 73 = .ok (.istore 6, 2) := by decide +kernel
theorem dX10_snows_75 : decode cX10_snows 75 = .ok (.iinc 7 1, 3) := by decide +kernel
theorem dX10_snows_78 : decode cX10_snows 78 = .ok (.goto (-16), 3) := by decide +kernel
theorem dX10_snows_81 : decode cX10_snows 81 = .ok (.iconst 1, 1) := by decide +kernel
theorem dX10_snows_82 : decode cX10_snows 82 = .ok (.iload 5, 2) := by decide +kernel
theorem dX10_snows_84 : decode cX10_snows 84 = .ok (.iload 6, 2) := by decide +kernel
theorem dX10_snows_86 : decode cX10_snows 86 = .ok (.invokestatic 253, 3) := by decide +kernel
theorem dX10_snows_89 : decode cX10_snows 89 = .ok (.invokestatic 257, 3) := by decide +kernel
theorem dX10_snows_92 : decode cX10_snows 92 = .ok (.istore 7, 2) := by decide +kernel
theorem dX10_snows_94 : decode cX10_snows 94 = .ok (.iload 4, 2) := by decide +kernel
theorem dX10_snows_96 : decode cX10_snows 96 = .ok (.ifCond .ne 8, 3) := by decide +kernel
theorem dX10_snows_99 : decode cX10_snows 99 = .ok (.iload 5, 2) := by decide +kernel
theorem dX10_snows_101 : decode cX10_snows 101 = .ok (.goto 5, 3) := by decide +kernel
theorem dX10_snows_104 : decode cX10_snows 104 = .ok (.iload 6, 2) := by decide +kernel
theorem dX10_snows_106 : decode cX10_snows 106 = .ok (.iload 7, 2) := by decide +kernel
theorem dX10_snows_108 : decode cX10_snows 108 = .ok (.idiv, 1) := by decide +kernel
theorem dX10_snows_109 : decode cX10_snows 109 = .ok (.ireturn, 1) := by decide +kernel
set_option maxRecDepth 20000 in
theorem ggX10_year_X10_outside : GoodIn wsX10_year wsX10_outside := goodIn_r _ [7] rfl (by decide +kernel)
set_option maxRecDepth 20000 in
theorem gX10_year_X10_outside : GoodIn wsX10_year (va_wsS RX10 116 yX10_outside wsX10_outside) := goodIn_app (goodIn_of _ (by decide +kernel)) ggX10_year_X10_outside
set_option maxRecDepth 20000 in
theorem ggX10_year_X1_leftOverInYear : GoodIn wsX10_year wsX1_leftOverInYear := goodIn_r _ [12, 13, 14, 15, 16, 17, 18, 19, 20, 21, 22, 23, 24, 25, 26, 27, 28, 29, 30, 11, 31, 32, 33, 34, 35, 36, 37, 6, 38, 39, 40, 41, 42, 43, 44, 45, 46, 47, 48, 49, 50, 51, 52, 53, 54, 55, 56, 57, 58, 59, 60, 61, 62, 63, 64, 65, 66, 67, 68, 69, 70, 71, 72, 73, 74, 75, 76, 77, 78, 79, 80, 81, 82, 83, 84, 85, 86, 87, 88, 89, 90, 91, 92, 93, 94, 95, 96, 97, 98, 115, 116, 117, 118, 119, 120, 121, 122, 123, 124, 125, 126, 127, 128, 129, 130, 131, 132, 133, 134, 135, 136, 137] rfl (by decide +kernel)
set_option maxRecDepth 20000 in
theorem gX10_year_X1_leftOverInYear : GoodIn wsX10_year (wsV RX10 262 RX1 yX1_leftOverInYear wsX1_leftOverInYear) := goodIn_app (goodIn_of _ (by decide +kernel)) ggX10_year_X1_leftOverInYear
set_option maxRecDepth 20000 in
theorem ggX10_year_X9_notGone : GoodIn wsX10_year wsX9_notGone := goodIn_r _ [102, 25, 118, 119, 120, 121, 122] rfl (by decide +kernel)
set_option maxRecDepth 20000 in
theorem gX10_year_X9_notGone : GoodIn wsX10_year (wsV RX10 268 RX9 yX9_notGone wsX9_notGone) := goodIn_app (goodIn_of _ (by decide +kernel)) ggX10_year_X9_notGone
theorem dX10_year_0 : decode cX10_year 0 = .ok (.iload_n 1, 1) := by decide +kernel
theorem dX10_year_1 : decode cX10_year 1 = .ok (.iconst 0, 1) := by decide +kernel
theorem dX10_year_2 : decode cX10_year 2 = .ok (.sipush 9999, 3) := by decide +kernel
theorem dX10_year_5 : decode cX10_year 5 = .ok (.invokestatic 116, 3) := by decide +kernel
theorem dX10_year_8 : decode cX10_year 8 = .ok (.ifCond .ne 22, 3) := by decide +kernel
theorem dX10_year_11 : decode cX10_year 11 = .ok (.iload_n 2, 1) := by decide +kernel
theorem dX10_year_12 : decode cX10_year 12 = .ok (.iconst 1, 1) := by decide +kernel
theorem dX10_year_13 : decode cX10_year 13 = .ok (.bipush 60, 2) := by decide +kernel
theorem dX10_year_15 : decode cX10_year 15 = .ok (.invokestatic 116, 3) := by decide +kernel
theorem dX10_year_18 : decode cX10_year 18 = .ok (.ifCond .ne 12, 3) := by decide +kernel
theorem dX10_year_21 : decode cX10_year 21 = .ok (.iload_n 3, 1) := by decide +kernel
theorem dX10_year_22 : decode cX10_year 22 = .ok (.iconst 0, 1) := by decide +kernel
theorem dX10_year_23 : decode cX10_year 23 = .ok (.iconst 1, 1) := by decide +kernel
theorem dX10_year_24 : decode cX10_year 24 = .ok (.invokestatic 116, 3) := by decide +kernel
theorem dX10_year_27 : decode cX10_year 27 = .ok (.ifCond .eq 5, 3) := by decide +kernel
theorem dX10_year_30 : decode cX10_year 30 = .ok (.iconst (-1), 1) := by decide +kernel
theorem dX10_year_31 : decode cX10_year 31 = .ok (.ireturn, 1) := by decide +kernel
theorem dX10_year_32 : decode cX10_year 32 = .ok (.aload_n 0, 1) := by decide +kernel
theorem dX10_year_33 : decode cX10_year 33 = .ok (.getfield 66, 3) := by decide +kernel
theorem dX10_year_36 : decode cX10_year 36 = .ok (.aload_n 0, 1) := by decide +kernel
theorem dX10_year_37 : decode cX10_year 37 = .ok (.getfield 29, 3) := by decide +kernel
theorem dX10_year_40 : decode cX10_year 40 = .ok (.iload_n 1, 1) := by decide +kernel
theorem dX10_year_41 : decode cX10_year 41 = .ok (.iload_n 2, 1) := by decide +kernel
theorem dX10_year_42 : decode cX10_year 42 = .ok (.invokevirtual 262, 3) := by decide +kernel
theorem dX10_year_45 : decode cX10_year 45 = .ok (.istore 4, 2) := by decide +kernel
theorem dX10_year_47 : decode cX10_year 47 = .ok (.iload_n 3, 1) := by decide +kernel
theorem dX10_year_48 : decode cX10_year 48 = .ok (.ifCond .ne 16, 3) := by decide +kernel
theorem dX10_year_51 : decode cX10_year 51 = .ok (.aload_n 0, 1) := by decide +kernel
theorem dX10_year_52 : decode cX10_year 52 = .ok (.getfield 66, 3) := by decide +kernel
theorem dX10_year_55 : decode cX10_year 55 = .ok (.getfield 265, 3) := by decide +kernel
theorem dX10_year_58 : decode cX10_year 58 = .ok (.invokevirtual 268, 3) := by decide +kernel
theorem dX10_year_61 : decode cX10_year 61 = .ok (.goto 5, 3) := by decide +kernel
theorem dX10_year_64 : decode cX10_year 64 = .ok (.iload 4, 2) := by decide +kernel
theorem dX10_year_66 : decode cX10_year 66 = .ok (.ireturn, 1) := by decide +kernel
set_option maxRecDepth 20000 in
theorem ggX10_keep_X7_push : GoodIn wsX10_keep wsX7_push := goodIn_r _ [8, 9, 10, 11, 12, 13, 14, 15, 16, 17, 18, 19, 20, 21, 22, 23, 24, 25, 38, 39, 40, 41, 42, 43, 44, 45] rfl (by decide +kernel)
set_option maxRecDepth 20000 in
theorem gX10_keep_X7_push : GoodIn wsX10_keep (wsV RX10 168 RX7 yX7_push wsX7_push) := goodIn_app (goodIn_of _ (by decide +kernel)) ggX10_keep_X7_push
theorem dX10_keep_0 : decode cX10_keep 0 = .ok (.aload_n 0, 1) := by decide +kernel
theorem dX10_keep_1 : decode cX10_keep 1 = .ok (.getfield 42, 3) := by decide +kernel
theorem dX10_keep_4 : decode cX10_keep 4 = .ok (.getfield 191, 3) := by decide +kernel
theorem dX10_keep_7 : decode cX10_keep 7 = .ok (.iconst 2, 1) := by decide +kernel
theorem dX10_keep_8 : decode cX10_keep 8 = .ok (.if_icmp .lt 6, 3) := by decide +kernel
theorem dX10_keep_11 : decode cX10_keep 11 = .ok (.bipush (-3), 2) := by decide +kernel
theorem dX10_keep_13 : decode cX10_keep 13 = .ok (.ireturn, 1) := by decide +kernel
theorem dX10_keep_14 : decode cX10_keep 14 = .ok (.aload_n 0, 1) := by decide +kernel
theorem dX10_keep_15 : decode cX10_keep 15 = .ok (.getfield 42, 3) := by decide +kernel
theorem dX10_keep_18 : decode cX10_keep 18 = .ok (.aload_n 0, 1) := by decide +kernel
theorem dX10_keep_19 : decode cX10_keep 19 = .ok (.getfield 29, 3) := by decide +kernel
theorem dX10_keep_22 : decode cX10_keep 22 = .ok (.invokevirtual 168, 3) := by decide +kernel
theorem dX10_keep_25 : decode cX10_keep 25 = .ok (.aload_n 0, 1) := by decide +kernel
theorem dX10_keep_26 : decode cX10_keep 26 = .ok (.getfield 42, 3) := by decide +kernel
theorem dX10_keep_29 : decode cX10_keep 29 = .ok (.getfield 191, 3) := by decide +kernel
theorem dX10_keep_32 : decode cX10_keep 32 = .ok (.ireturn, 1) := by decide +kernel
set_option maxRecDepth 20000 in
theorem ggX10_back_X7_popInto : GoodIn wsX10_back wsX7_popInto := goodIn_r _ [9, 10, 11, 12, 13, 14, 15, 16, 17, 18, 19, 20, 21, 22, 39, 40, 41, 42, 43, 44, 45, 46] rfl (by decide +kernel)
set_option maxRecDepth 20000 in
theorem gX10_back_X7_popInto : GoodIn wsX10_back (wsV RX10 194 RX7 yX7_popInto wsX7_popInto) := goodIn_app (goodIn_of _ (by decide +kernel)) ggX10_back_X7_popInto
set_option maxRecDepth 20000 in
theorem ggX10_back_X7_clear : GoodIn wsX10_back wsX7_clear := goodIn_r _ [26, 12, 39, 40, 41] rfl (by decide +kernel)
set_option maxRecDepth 20000 in
theorem gX10_back_X7_clear : GoodIn wsX10_back (wsV RX10 271 RX7 yX7_clear wsX7_clear) := goodIn_app (goodIn_of _ (by decide +kernel)) ggX10_back_X7_clear
theorem dX10_back_0 : decode cX10_back 0 = .ok (.aload_n 0, 1) := by decide +kernel
theorem dX10_back_1 : decode cX10_back 1 = .ok (.getfield 42, 3) := by decide +kernel
theorem dX10_back_4 : decode cX10_back 4 = .ok (.getfield 191, 3) := by decide +kernel
theorem dX10_back_7 : decode cX10_back 7 = .ok (.ifCond .ne 6, 3) := by decide +kernel
theorem dX10_back_10 : decode cX10_back 10 = .ok (.bipush (-2), 2) := by decide +kernel
theorem dX10_back_12 : decode cX10_back 12 = .ok (.ireturn, 1) := by decide +kernel
theorem dX10_back_13 : decode cX10_back 13 = .ok (.aload_n 0, 1) := by decide +kernel
theorem dX10_back_14 : decode cX10_back 14 = .ok (.getfield 42, 3) := by decide +kernel
theorem dX10_back_17 : decode cX10_back 17 = .ok (.aload_n 0, 1) := by decide +kernel
theorem dX10_back_18 : decode cX10_back 18 = .ok (.getfield 29, 3) := by decide +kernel
theorem dX10_back_21 : decode cX10_back 21 = .ok (.invokevirtual 194, 3) := by decide +kernel
theorem dX10_back_24 : decode cX10_back 24 = .ok (.aload_n 0, 1) := by decide +kernel
theorem dX10_back_25 : decode cX10_back 25 = .ok (.getfield 38, 3) := by decide +kernel
theorem dX10_back_28 : decode cX10_back 28 = .ok (.invokevirtual 271, 3) := by decide +kernel
theorem dX10_back_31 : decode cX10_back 31 = .ok (.aload_n 0, 1) := by decide +kernel
theorem dX10_back_32 : decode cX10_back 32 = .ok (.getfield 42, 3) := by decide +kernel
theorem dX10_back_35 : decode cX10_back 35 = .ok (.getfield 191, 3) := by decide +kernel
theorem dX10_back_38 : decode cX10_back 38 = .ok (.ireturn, 1) := by decide +kernel
set_option maxRecDepth 20000 in
theorem ggX10_count_X9_notGone : GoodIn wsX10_count wsX9_notGone := goodIn_r _ [19, 20, 102, 103, 104, 105, 106] rfl (by decide +kernel)
set_option maxRecDepth 20000 in
theorem gX10_count_X9_notGone : GoodIn wsX10_count (wsV RX10 268 RX9 yX9_notGone wsX9_notGone) := goodIn_app (goodIn_of _ (by decide +kernel)) ggX10_count_X9_notGone
set_option maxRecDepth 20000 in
theorem ggX10_count_J6_bitCount_0f7a4 : GoodIn wsX10_count wsJ6_bitCount_0f7a4 := goodIn_r _ [24, 25, 26, 27] rfl (by decide +kernel)
set_option maxRecDepth 20000 in
theorem gX10_count_J6_bitCount_0f7a4 : GoodIn wsX10_count (va_wsS RX10 185 yJ6_bitCount_0f7a4 wsJ6_bitCount_0f7a4) := goodIn_app (goodIn_of _ (by decide +kernel)) ggX10_count_J6_bitCount_0f7a4
set_option maxRecDepth 20000 in
theorem ggX10_count_X10_downInAll : GoodIn wsX10_count wsX10_downInAll := goodIn_r _ [32, 1, 2, 5, 33, 77, 78, 79, 80, 81, 82, 83, 84, 85, 86, 87, 88, 89, 90, 91, 92, 93, 94, 95, 96, 97, 98, 99, 100, 101, 102, 103, 104, 105, 106] rfl (by decide +kernel)
set_option maxRecDepth 20000 in
theorem gX10_count_X10_downInAll : GoodIn wsX10_count (wsV RX10 275 RX10 yX10_downInAll wsX10_downInAll) := goodIn_app (goodIn_of _ (by decide +kernel)) ggX10_count_X10_downInAll
set_option maxRecDepth 20000 in
theorem ggX10_count_X10_leftOverInAll : GoodIn wsX10_count wsX10_leftOverInAll := goodIn_r _ [37, 1, 2, 38, 5, 39, 40, 41, 42, 43, 44, 45, 46, 47, 48, 49, 50, 51, 52, 53, 54, 55, 56, 57, 58, 59, 60, 61, 62, 63, 64, 65, 66, 67, 68, 31, 69, 70, 71, 72, 73, 74, 75, 76, 77, 78, 79, 80, 81, 82, 83, 84, 85, 86, 87, 88, 89, 90, 91, 92, 93, 94, 95, 96, 97, 98, 99, 100, 101, 102, 103, 104, 105, 106, 116, 117] rfl (by decide +kernel)
set_option maxRecDepth 20000 in
theorem gX10_count_X10_leftOverInAll : GoodIn wsX10_count (wsV RX10 278 RX10 yX10_leftOverInAll wsX10_leftOverInAll) := goodIn_app (goodIn_of _ (by decide +kernel)) ggX10_count_X10_leftOverInAll
theorem dX10_count_0 : decode cX10_count 0 = .ok (.iload_n 1, 1) := by decide +kernel
theorem dX10_count_1 : decode cX10_count 1 = .ok (.tableswitch 164 0 11 #[63, 71, 79, 87, 95, 111, 122, 127, 132, 140, 148, 156], 63) := by decide +kernel
theorem dX10_count_64 : decode cX10_count 64 = .ok (.aload_n 0, 1) := by decide +kernel
theorem dX10_count_65 : decode cX10_count 65 = .ok (.getfield 19, 3) := by decide +kernel
theorem dX10_count_68 : decode cX10_count 68 = .ok (.getfield 272, 3) := by decide +kernel
theorem dX10_count_71 : decode cX10_count 71 = .ok (.ireturn, 1) := by decide +kernel
theorem dX10_count_72 : decode cX10_count 72 = .ok (.aload_n 0, 1) := by decide +kernel
theorem dX10_count_73 : decode cX10_count 73 = .ok (.getfield 19, 3) := by decide +kernel
theorem dX10_count_76 : decode cX10_count 76 = .ok (.getfield 123, 3) := by decide +kernel
theorem dX10_count_79 : decode cX10_count 79 = .ok (.ireturn, 1) := by decide +kernel
theorem dX10_count_80 : decode cX10_count 80 = .ok (.aload_n 0, 1) := by decide +kernel
theorem dX10_count_81 : decode cX10_count 81 = .ok (.getfield 19, 3) := by decide +kernel
theorem dX10_count_84 : decode cX10_count 84 = .ok (.getfield 207, 3) := by decide +kernel
theorem dX10_count_87 : decode cX10_count 87 = .ok (.ireturn, 1) := by decide +kernel
theorem dX10_count_88 : decode cX10_count 88 = .ok (.aload_n 0, 1) := by decide +kernel
theorem dX10_count_89 : decode cX10_count 89 = .ok (.getfield 29, 3) := by decide +kernel
theorem dX10_count_92 : decode cX10_count 92 = .ok (.getfield 176, 3) := by decide +kernel
theorem dX10_count_95 : decode cX10_count 95 = .ok (.ireturn, 1) := by decide +kernel
theorem dX10_count_96 : decode cX10_count 96 = .ok (.aload_n 0, 1) := by decide +kernel
theorem dX10_count_97 : decode cX10_count 97 = .ok (.getfield 19, 3) := by decide +kernel
theorem dX10_count_100 : decode cX10_count 100 = .ok (.getfield 123, 3) := by decide +kernel
theorem dX10_count_103 : decode cX10_count 103 = .ok (.aload_n 0, 1) := by decide +kernel
theorem dX10_count_104 : decode cX10_count 104 = .ok (.getfield 29, 3) := by decide +kernel
theorem dX10_count_107 : decode cX10_count 107 = .ok (.invokevirtual 268, 3) := by decide +kernel
theorem dX10_count_110 : decode cX10_count 110 = .ok (.isub, 1) := by decide +kernel
theorem dX10_count_111 : decode cX10_count 111 = .ok (.ireturn, 1) := by decide +kernel
theorem dX10_count_112 : decode cX10_count 112 = .ok (.aload_n 0, 1) := by decide +kernel
theorem dX10_count_113 : decode cX10_count 113 = .ok (.getfield 29, 3) := by decide +kernel
theorem dX10_count_116 : decode cX10_count 116 = .ok (.getfield 182, 3) := by decide +kernel
theorem dX10_count_119 : decode cX10_count 119 = .ok (.invokestatic 185, 3) := by decide +kernel
theorem dX10_count_122 : decode cX10_count 122 = .ok (.ireturn, 1) := by decide +kernel
theorem dX10_count_123 : decode cX10_count 123 = .ok (.aload_n 0, 1) := by decide +kernel
theorem dX10_count_124 : decode cX10_count 124 = .ok (.invokevirtual 275, 3) := by decide +kernel
theorem dX10_count_127 : decode cX10_count 127 = .ok (.ireturn, 1) := by decide +kernel
theorem dX10_count_128 : decode cX10_count 128 = .ok (.aload_n 0, 1) := by decide +kernel
theorem dX10_count_129 : decode cX10_count 129 = .ok (.invokevirtual 278, 3) := by decide +kernel
theorem dX10_count_132 : decode cX10_count 132 = .ok (.ireturn, 1) := by decide +kernel
theorem dX10_count_133 : decode cX10_count 133 = .ok (.aload_n 0, 1) := by decide +kernel
theorem dX10_count_134 : decode cX10_count 134 = .ok (.getfield 57, 3) := by decide +kernel
theorem dX10_count_137 : decode cX10_count 137 = .ok (.getfield 230, 3) := by decide +kernel
theorem dX10_count_140 : decode cX10_count 140 = .ok (.ireturn, 1) := by decide +kernel
theorem dX10_count_141 : decode cX10_count 141 = .ok (.aload_n 0, 1) := by decide +kernel
theorem dX10_count_142 : decode cX10_count 142 = .ok (.getfield 38, 3) := by decide +kernel
theorem dX10_count_145 : decode cX10_count 145 = .ok (.getfield 191, 3) := by decide +kernel
theorem dX10_count_148 : decode cX10_count 148 = .ok (.ireturn, 1) := by decide +kernel
theorem dX10_count_149 : decode cX10_count 149 = .ok (.aload_n 0, 1) := by decide +kernel
theorem dX10_count_150 : decode cX10_count 150 = .ok (.getfield 42, 3) := by decide +kernel
theorem dX10_count_153 : decode cX10_count 153 = .ok (.getfield 191, 3) := by decide +kernel
theorem dX10_count_156 : decode cX10_count 156 = .ok (.ireturn, 1) := by decide +kernel
theorem dX10_count_157 : decode cX10_count 157 = .ok (.aload_n 0, 1) := by decide +kernel
theorem dX10_count_158 : decode cX10_count 158 = .ok (.getfield 10, 3) := by decide +kernel
theorem dX10_count_161 : decode cX10_count 161 = .ok (.getfield 120, 3) := by decide +kernel
theorem dX10_count_164 : decode cX10_count 164 = .ok (.ireturn, 1) := by decide +kernel
theorem dX10_count_165 : decode cX10_count 165 = .ok (.iconst (-1), 1) := by decide +kernel
theorem dX10_count_166 : decode cX10_count 166 = .ok (.ireturn, 1) := by decide +kernel
set_option maxRecDepth 20000 in
theorem ggX10_start_X9_startAs : GoodIn wsX10_start wsX9_startAs := goodIn_r _ [10, 11, 12, 13, 14, 15, 16, 17, 18, 19, 44, 45, 46, 47, 48, 49, 50, 51, 52, 53, 54, 55, 56, 57, 58, 59, 60, 61] rfl (by decide +kernel)
set_option maxRecDepth 20000 in
theorem gX10_start_X9_startAs : GoodIn wsX10_start (wsV RX10 281 RX9 yX9_startAs wsX9_startAs) := goodIn_app (goodIn_of _ (by decide +kernel)) ggX10_start_X9_startAs
set_option maxRecDepth 20000 in
theorem ggX10_start_X5_clear : GoodIn wsX10_start wsX5_clear := goodIn_r _ [24, 25, 62, 63, 64] rfl (by decide +kernel)
set_option maxRecDepth 20000 in
theorem gX10_start_X5_clear : GoodIn wsX10_start (wsV RX10 234 RX5 yX5_clear wsX5_clear) := goodIn_app (goodIn_of _ (by decide +kernel)) ggX10_start_X5_clear
set_option maxRecDepth 20000 in
theorem ggX10_start_X7_clear : GoodIn wsX10_start wsX7_clear := goodIn_r _ [30, 31, 65, 66, 67] rfl (by decide +kernel)
set_option maxRecDepth 20000 in
theorem gX10_start_X7_clear : GoodIn wsX10_start (wsV RX10 271 RX7 yX7_clear wsX7_clear) := goodIn_app (goodIn_of _ (by decide +kernel)) ggX10_start_X7_clear
theorem dX10_start_0 : decode cX10_start 0 = .ok (.aload_n 0, 1) := by decide +kernel
theorem dX10_start_1 : decode cX10_start 1 = .ok (.getfield 29, 3) := by decide +kernel
theorem dX10_start_4 : decode cX10_start 4 = .ok (.aload_n 0, 1) := by decide +kernel
theorem dX10_start_5 : decode cX10_start 5 = .ok (.getfield 19, 3) := by decide +kernel
theorem dX10_start_8 : decode cX10_start 8 = .ok (.invokevirtual 281, 3) := by decide +kernel
theorem dX10_start_11 : decode cX10_start 11 = .ok (.aload_n 0, 1) := by decide +kernel
theorem dX10_start_12 : decode cX10_start 12 = .ok (.getfield 57, 3) := by decide +kernel
theorem dX10_start_15 : decode cX10_start 15 = .ok (.invokevirtual 234, 3) := by decide +kernel
theorem dX10_start_18 : decode cX10_start 18 = .ok (.aload_n 0, 1) := by decide +kernel
theorem dX10_start_19 : decode cX10_start 19 = .ok (.getfield 38, 3) := by decide +kernel
theorem dX10_start_22 : decode cX10_start 22 = .ok (.invokevirtual 271, 3) := by decide +kernel
theorem dX10_start_25 : decode cX10_start 25 = .ok (.aload_n 0, 1) := by decide +kernel
theorem dX10_start_26 : decode cX10_start 26 = .ok (.getfield 42, 3) := by decide +kernel
theorem dX10_start_29 : decode cX10_start 29 = .ok (.invokevirtual 271, 3) := by decide +kernel
theorem dX10_start_32 : decode cX10_start 32 = .ok (.return_, 1) := by decide +kernel
theorem dX10_downInAll_0 : decode cX10_downInAll 0 = .ok (.iconst 0, 1) := by decide +kernel
theorem dX10_downInAll_1 : decode cX10_downInAll 1 = .ok (.istore_n 1, 1) := by decide +kernel
theorem dX10_downInAll_2 : decode cX10_downInAll 2 = .ok (.iconst 0, 1) := by decide +kernel
theorem dX10_downInAll_3 : decode cX10_downInAll 3 = .ok (.istore_n 2, 1) := by decide +kernel
theorem dX10_downInAll_4 : decode cX10_downInAll 4 = .ok (.iload_n 2, 1) := by decide +kernel
theorem dX10_downInAll_5 : decode cX10_downInAll 5 = .ok (.aload_n 0, 1) := by decide +kernel
theorem dX10_downInAll_6 : decode cX10_downInAll 6 = .ok (.getfield 19, 3) := by decide +kernel
theorem dX10_downInAll_9 : decode cX10_downInAll 9 = .ok (.getfield 272, 3) := by decide +kernel
theorem dX10_downInAll_12 : decode cX10_downInAll 12 = .ok (.if_icmp .ge 21, 3) := by decide +kernel
theorem dX10_downInAll_15 : decode cX10_downInAll 15 = .ok (.iload_n 1, 1) := by decide +kernel
theorem dX10_downInAll_16 : decode cX10_downInAll 16 = .ok (.aload_n 0, 1) := by decide +kernel
theorem dX10_downInAll_17 : decode cX10_downInAll 17 = .ok (.getfield 29, 3) := by decide +kernel
theorem dX10_downInAll_20 : decode cX10_downInAll 20 = .ok (.getfield 130, 3) := by decide +kernel
theorem dX10_downInAll_23 : decode cX10_downInAll 23 = .ok (.iload_n 2, 1) := by decide +kernel
theorem dX10_downInAll_24 : decode cX10_downInAll 24 = .ok (.iaload, 1) := by decide +kernel
theorem dX10_downInAll_25 : decode cX10_downInAll 25 = .ok (.iadd, 1) := by decide +kernel
theorem dX10_downInAll_26 : decode cX10_downInAll 26 = .ok (.istore_n 1, 1) := by decide +kernel
theorem dX10_downInAll_27 : decode cX10_downInAll 27 = .ok (.iinc 2 1, 3) := by decide +kernel
theorem dX10_downInAll_30 : decode cX10_downInAll 30 = .ok (.goto (-26), 3) := by decide +kernel
theorem dX10_downInAll_33 : decode cX10_downInAll 33 = .ok (.iload_n 1, 1) := by decide +kernel
theorem dX10_downInAll_34 : decode cX10_downInAll 34 = .ok (.ireturn, 1) := by decide +kernel
set_option maxRecDepth 20000 in
theorem ggX10_leftOverInAll_X2_leftOverAt : GoodIn wsX10_leftOverInAll wsX2_leftOverAt := goodIn_r _ [9, 10, 11, 12, 13, 14, 8, 15, 16, 17, 18, 19, 20, 21, 22, 23, 24, 25, 26, 27, 28, 29, 30, 31, 32, 33, 34, 35, 36, 37, 38, 39, 40, 41, 42, 43, 69, 70, 71, 72, 73, 74, 75, 56, 57, 58, 59, 60, 61, 62, 63, 64, 65, 66, 67, 68] rfl (by decide +kernel)
set_option maxRecDepth 20000 in
theorem gX10_leftOverInAll_X2_leftOverAt : GoodIn wsX10_leftOverInAll (wsV RX10 137 RX2 yX2_leftOverAt wsX2_leftOverAt) := goodIn_app (goodIn_of _ (by decide +kernel)) ggX10_leftOverInAll_X2_leftOverAt
theorem dX10_leftOverInAll_0 : decode cX10_leftOverInAll 0 = .ok (.iconst 0, 1) := by decide +kernel
theorem dX10_leftOverInAll_1 : decode cX10_leftOverInAll 1 = .ok (.istore_n 1, 1) := by decide +kernel
theorem dX10_leftOverInAll_2 : decode cX10_leftOverInAll 2 = .ok (.iconst 0, 1) := by decide +kernel
theorem dX10_leftOverInAll_3 : decode cX10_leftOverInAll 3 = .ok (.istore_n 2, 1) := by decide +kernel
theorem dX10_leftOverInAll_4 : decode cX10_leftOverInAll 4 = .ok (.iload_n 2, 1) := by decide +kernel
theorem dX10_leftOverInAll_5 : decode cX10_leftOverInAll 5 = .ok (.aload_n 0, 1) := by decide +kernel
theorem dX10_leftOverInAll_6 : decode cX10_leftOverInAll 6 = .ok (.getfield 19, 3) := by decide +kernel
theorem dX10_leftOverInAll_9 : decode cX10_leftOverInAll 9 = .ok (.getfield 272, 3) := by decide +kernel
theorem dX10_leftOverInAll_12 : decode cX10_leftOverInAll 12 = .ok (.if_icmp .ge 24, 3) := by decide +kernel
theorem dX10_leftOverInAll_15 : decode cX10_leftOverInAll 15 = .ok (.iload_n 1, 1) := by decide +kernel
theorem dX10_leftOverInAll_16 : decode cX10_leftOverInAll 16 = .ok (.aload_n 0, 1) := by decide +kernel
theorem dX10_leftOverInAll_17 : decode cX10_leftOverInAll 17 = .ok (.getfield 50, 3) := by decide +kernel
theorem dX10_leftOverInAll_20 : decode cX10_leftOverInAll 20 = .ok (.aload_n 0, 1) := by decide +kernel
theorem dX10_leftOverInAll_21 : decode cX10_leftOverInAll 21 = .ok (.getfield 29, 3) := by decide +kernel
theorem dX10_leftOverInAll_24 : decode cX10_leftOverInAll 24 = .ok (.iload_n 2, 1) := by decide +kernel
theorem dX10_leftOverInAll_25 : decode cX10_leftOverInAll 25 = .ok (.invokevirtual 137, 3) := by decide +kernel
theorem dX10_leftOverInAll_28 : decode cX10_leftOverInAll 28 = .ok (.iadd, 1) := by decide +kernel
theorem dX10_leftOverInAll_29 : decode cX10_leftOverInAll 29 = .ok (.istore_n 1, 1) := by decide +kernel
theorem dX10_leftOverInAll_30 : decode cX10_leftOverInAll 30 = .ok (.iinc 2 1, 3) := by decide +kernel
theorem dX10_leftOverInAll_33 : decode cX10_leftOverInAll 33 = .ok (.goto (-29), 3) := by decide +kernel
theorem dX10_leftOverInAll_36 : decode cX10_leftOverInAll 36 = .ok (.iload_n 1, 1) := by decide +kernel
theorem dX10_leftOverInAll_37 : decode cX10_leftOverInAll 37 = .ok (.ireturn, 1) := by decide +kernel
set_option maxRecDepth 20000 in
theorem ggX10_noStep_X10_outside : GoodIn wsX10_noStep wsX10_outside := goodIn_r _ [6] rfl (by decide +kernel)
set_option maxRecDepth 20000 in
theorem gX10_noStep_X10_outside : GoodIn wsX10_noStep (va_wsS RX10 116 yX10_outside wsX10_outside) := goodIn_app (goodIn_of _ (by decide +kernel)) ggX10_noStep_X10_outside
theorem dX10_noStep_0 : decode cX10_noStep 0 = .ok (.iload_n 1, 1) := by decide +kernel
theorem dX10_noStep_1 : decode cX10_noStep 1 = .ok (.iconst 0, 1) := by decide +kernel
theorem dX10_noStep_2 : decode cX10_noStep 2 = .ok (.aload_n 0, 1) := by decide +kernel
theorem dX10_noStep_3 : decode cX10_noStep 3 = .ok (.getfield 19, 3) := by decide +kernel
theorem dX10_noStep_6 : decode cX10_noStep 6 = .ok (.getfield 272, 3) := by decide +kernel
theorem dX10_noStep_9 : decode cX10_noStep 9 = .ok (.iconst 1, 1) := by decide +kernel
theorem dX10_noStep_10 : decode cX10_noStep 10 = .ok (.isub, 1) := by decide +kernel
theorem dX10_noStep_11 : decode cX10_noStep 11 = .ok (.invokestatic 116, 3) := by decide +kernel
theorem dX10_noStep_14 : decode cX10_noStep 14 = .ok (.ireturn, 1) := by decide +kernel
set_option maxRecDepth 20000 in
theorem ggX10_noYounger_X10_outside : GoodIn wsX10_noYounger wsX10_outside := goodIn_r _ [6] rfl (by decide +kernel)
set_option maxRecDepth 20000 in
theorem gX10_noYounger_X10_outside : GoodIn wsX10_noYounger (va_wsS RX10 116 yX10_outside wsX10_outside) := goodIn_app (goodIn_of _ (by decide +kernel)) ggX10_noYounger_X10_outside
theorem dX10_noYounger_0 : decode cX10_noYounger 0 = .ok (.iload_n 1, 1) := by decide +kernel
theorem dX10_noYounger_1 : decode cX10_noYounger 1 = .ok (.iconst 0, 1) := by decide +kernel
theorem dX10_noYounger_2 : decode cX10_noYounger 2 = .ok (.aload_n 0, 1) := by decide +kernel
theorem dX10_noYounger_3 : decode cX10_noYounger 3 = .ok (.getfield 19, 3) := by decide +kernel
theorem dX10_noYounger_6 : decode cX10_noYounger 6 = .ok (.getfield 123, 3) := by decide +kernel
theorem dX10_noYounger_9 : decode cX10_noYounger 9 = .ok (.iconst 1, 1) := by decide +kernel
theorem dX10_noYounger_10 : decode cX10_noYounger 10 = .ok (.isub, 1) := by decide +kernel
theorem dX10_noYounger_11 : decode cX10_noYounger 11 = .ok (.invokestatic 116, 3) := by decide +kernel
theorem dX10_noYounger_14 : decode cX10_noYounger 14 = .ok (.ireturn, 1) := by decide +kernel
theorem dX10_outside_0 : decode cX10_outside 0 = .ok (.iload_n 0, 1) := by decide +kernel
theorem dX10_outside_1 : decode cX10_outside 1 = .ok (.iload_n 1, 1) := by decide +kernel
theorem dX10_outside_2 : decode cX10_outside 2 = .ok (.if_icmp .lt 8, 3) := by decide +kernel
theorem dX10_outside_5 : decode cX10_outside 5 = .ok (.iload_n 0, 1) := by decide +kernel
theorem dX10_outside_6 : decode cX10_outside 6 = .ok (.iload_n 2, 1) := by decide +kernel
theorem dX10_outside_7 : decode cX10_outside 7 = .ok (.if_icmp .le 7, 3) := by decide +kernel
theorem dX10_outside_10 : decode cX10_outside 10 = .ok (.iconst 1, 1) := by decide +kernel
theorem dX10_outside_11 : decode cX10_outside 11 = .ok (.goto 4, 3) := by decide +kernel
theorem dX10_outside_14 : decode cX10_outside 14 = .ok (.iconst 0, 1) := by decide +kernel
theorem dX10_outside_15 : decode cX10_outside 15 = .ok (.ireturn, 1) := by decide +kernel
theorem dX10_has_0 : decode cX10_has 0 = .ok (.iload_n 0, 1) := by decide +kernel
theorem dX10_has_1 : decode cX10_has 1 = .ok (.iload_n 1, 1) := by decide +kernel
theorem dX10_has_2 : decode cX10_has 2 = .ok (.ishr, 1) := by decide +kernel
theorem dX10_has_3 : decode cX10_has 3 = .ok (.iconst 1, 1) := by decide +kernel
theorem dX10_has_4 : decode cX10_has 4 = .ok (.iand, 1) := by decide +kernel
theorem dX10_has_5 : decode cX10_has 5 = .ok (.ifCond .eq 7, 3) := by decide +kernel
theorem dX10_has_8 : decode cX10_has 8 = .ok (.iconst 1, 1) := by decide +kernel
theorem dX10_has_9 : decode cX10_has 9 = .ok (.goto 4, 3) := by decide +kernel
theorem dX10_has_12 : decode cX10_has 12 = .ok (.iconst 0, 1) := by decide +kernel
theorem dX10_has_13 : decode cX10_has 13 = .ok (.ireturn, 1) := by decide +kernel
theorem dX10_modulo_0 : decode cX10_modulo 0 = .ok (.iload_n 1, 1) := by decide +kernel
theorem dX10_modulo_1 : decode cX10_modulo 1 = .ok (.ifCond .le 9, 3) := by decide +kernel
theorem dX10_modulo_4 : decode cX10_modulo 4 = .ok (.iload_n 0, 1) := by decide +kernel
theorem dX10_modulo_5 : decode cX10_modulo 5 = .ok (.iload_n 1, 1) := by decide +kernel
theorem dX10_modulo_6 : decode cX10_modulo 6 = .ok (.irem, 1) := by decide +kernel
theorem dX10_modulo_7 : decode cX10_modulo 7 = .ok (.goto 4, 3) := by decide +kernel
theorem dX10_modulo_10 : decode cX10_modulo 10 = .ok (.iconst 0, 1) := by decide +kernel
theorem dX10_modulo_11 : decode cX10_modulo 11 = .ok (.ireturn, 1) := by decide +kernel
theorem dX10_commonDivisor_0 : decode cX10_commonDivisor 0 = .ok (.iconst 0, 1) := by decide +kernel
theorem dX10_commonDivisor_1 : decode cX10_commonDivisor 1 = .ok (.istore_n 2, 1) := by decide +kernel
theorem dX10_commonDivisor_2 : decode cX10_commonDivisor 2 = .ok (.iload_n 2, 1) := by decide +kernel
theorem dX10_commonDivisor_3 : decode cX10_commonDivisor 3 = .ok (.bipush 64, 2) := by decide +kernel
theorem dX10_commonDivisor_5 : decode cX10_commonDivisor 5 = .ok (.if_icmp .ge 21, 3) := by decide +kernel
theorem dX10_commonDivisor_8 : decode cX10_commonDivisor 8 = .ok (.iload_n 1, 1) := by decide +kernel
theorem dX10_commonDivisor_9 : decode cX10_commonDivisor 9 = .ok (.ifCond .eq 17, 3) := by decide +kernel
theorem dX10_commonDivisor_12 : decode cX10_commonDivisor 12 = .ok (.iload_n 0, 1) := by decide +kernel
theorem dX10_commonDivisor_13 : decode cX10_commonDivisor 13 = .ok (.iload_n 1, 1) := by decide +kernel
theorem dX10_commonDivisor_14 : decode cX10_commonDivisor 14 = .ok (.irem, 1) := by decide +kernel
theorem dX10_commonDivisor_15 : decode cX10_commonDivisor 15 = .ok (.istore_n 3, 1) := by decide +kernel
theorem dX10_commonDivisor_16 : decode cX10_commonDivisor 16 = .ok (.iload_n 1, 1) := by decide +kernel
theorem dX10_commonDivisor_17 : decode cX10_commonDivisor 17 = .ok (.istore_n 0, 1) := by decide +kernel
theorem dX10_commonDivisor_18 : decode cX10_commonDivisor 18 = .ok (.iload_n 3, 1) := by decide +kernel
theorem dX10_commonDivisor_19 : decode cX10_commonDivisor 19 = .ok (.istore_n 1, 1) := by decide +kernel
theorem dX10_commonDivisor_20 : decode cX10_commonDivisor 20 = .ok (.iinc 2 1, 3) := by decide +kernel
theorem dX10_commonDivisor_23 : decode cX10_commonDivisor 23 = .ok (.goto (-21), 3) := by decide +kernel
theorem dX10_commonDivisor_26 : decode cX10_commonDivisor 26 = .ok (.iload_n 0, 1) := by decide +kernel
theorem dX10_commonDivisor_27 : decode cX10_commonDivisor 27 = .ok (.ireturn, 1) := by decide +kernel
