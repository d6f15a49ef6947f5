theorem dX11_cats_17 : decode cX11_cats 17 = .ok (.ifCond .ne 5, 3) := by decide +kernel
theorem dX11_cats_20 : decode cX11_cats 20 = .ok (.iconst (-1), 1) := by decide +kernel
theorem dX11_cats_21 : decode cX11_cats 21 = .ok (.ireturn, 1) := by decide +kernel
theorem dX11_cats_22 : decode cX11_cats 22 = .ok (.aload_n 0, 1) := by decide +kernel
theorem dX11_cats_23 : decode cX11_cats 23 = .ok (.invokevirtual 198, 3) := by decide +kernel
theorem dX11_cats_26 : decode cX11_cats 26 = .ok (.aload_n 0, 1) := by decide +kernel
theorem dX11_cats_27 : decode cX11_cats 27 = .ok (.getfield 37, 3) := by decide +kernel
theorem dX11_cats_30 : decode cX11_cats 30 = .ok (.bipush 18, 2) := by decide +kernel
theorem dX11_cats_32 : decode cX11_cats 32 = .ok (.iload_n 1, 1) := by decide +kernel
theorem dX11_cats_33 : decode cX11_cats 33 = .ok (.iadd, 1) := by decide +kernel
theorem dX11_cats_34 : decode cX11_cats 34 = .ok (.iaload, 1) := by decide +kernel
theorem dX11_cats_35 : decode cX11_cats 35 = .ok (.istore_n 3, 1) := by decide +kernel
theorem dX11_cats_36 : decode cX11_cats 36 = .ok (.aload_n 0, 1) := by decide +kernel
theorem dX11_cats_37 : decode cX11_cats 37 = .ok (.getfield 37, 3) := by decide +kernel
theorem dX11_cats_40 : decode cX11_cats 40 = .ok (.bipush 18, 2) := by decide +kernel
theorem dX11_cats_42 : decode cX11_cats 42 = .ok (.iload_n 1, 1) := by decide +kernel
theorem dX11_cats_43 : decode cX11_cats 43 = .ok (.iadd, 1) := by decide +kernel
theorem dX11_cats_44 : decode cX11_cats 44 = .ok (.iload_n 2, 1) := by decide +kernel
theorem dX11_cats_45 : decode cX11_cats 45 = .ok (.iastore, 1) := by decide +kernel
theorem dX11_cats_46 : decode cX11_cats 46 = .ok (.iload_n 3, 1) := by decide +kernel
theorem dX11_cats_47 : decode cX11_cats 47 = .ok (.ireturn, 1) := by decide +kernel
set_option maxRecDepth 20000 in
theorem ggX11_undo_X11_copies : GoodIn wsX11_undo wsX11_copies := goodIn_r _ [6, 7, 8, 9, 10, 11, 12, 13, 14, 15, 16, 17, 18, 19, 20, 21, 22, 23, 24, 25, 26, 27, 28, 29, 30, 31, 32, 33, 34, 35, 36, 37, 38, 39] rfl (by decide +kernel)
set_option maxRecDepth 20000 in
theorem gX11_undo_X11_copies : GoodIn wsX11_undo (wsV RX11 97 RX11 yX11_copies wsX11_copies) := goodIn_app (goodIn_of _ (by decide +kernel)) ggX11_undo_X11_copies
theorem dX11_undo_0 : decode cX11_undo 0 = .ok (.aload_n 0, 1) := by decide +kernel
theorem dX11_undo_1 : decode cX11_undo 1 = .ok (.getfield 148, 3) := by decide +kernel
theorem dX11_undo_4 : decode cX11_undo 4 = .ok (.ifCond .ne 6, 3) := by decide +kernel
theorem dX11_undo_7 : decode cX11_undo 7 = .ok (.bipush (-2), 2) := by decide +kernel
theorem dX11_undo_9 : decode cX11_undo 9 = .ok (.ireturn, 1) := by decide +kernel
theorem dX11_undo_10 : decode cX11_undo 10 = .ok (.aload_n 0, 1) := by decide +kernel
theorem dX11_undo_11 : decode cX11_undo 11 = .ok (.aload_n 0, 1) := by decide +kernel
theorem dX11_undo_12 : decode cX11_undo 12 = .ok (.getfield 148, 3) := by decide +kernel
theorem dX11_undo_15 : decode cX11_undo 15 = .ok (.bipush 28, 2) := by decide +kernel
theorem dX11_undo_17 : decode cX11_undo 17 = .ok (.imul, 1) := by decide +kernel
theorem dX11_undo_18 : decode cX11_undo 18 = .ok (.iconst 0, 1) := by decide +kernel
theorem dX11_undo_19 : decode cX11_undo 19 = .ok (.invokevirtual 97, 3) := by decide +kernel
theorem dX11_undo_22 : decode cX11_undo 22 = .ok (.aload_n 0, 1) := by decide +kernel
theorem dX11_undo_23 : decode cX11_undo 23 = .ok (.dup, 1) := by decide +kernel
theorem dX11_undo_24 : decode cX11_undo 24 = .ok (.getfield 148, 3) := by decide +kernel
theorem dX11_undo_27 : decode cX11_undo 27 = .ok (.iconst 1, 1) := by decide +kernel
theorem dX11_undo_28 : decode cX11_undo 28 = .ok (.isub, 1) := by decide +kernel
theorem dX11_undo_29 : decode cX11_undo 29 = .ok (.putfield 148, 3) := by decide +kernel
theorem dX11_undo_32 : decode cX11_undo 32 = .ok (.aload_n 0, 1) := by decide +kernel
theorem dX11_undo_33 : decode cX11_undo 33 = .ok (.getfield 148, 3) := by decide +kernel
theorem dX11_undo_36 : decode cX11_undo 36 = .ok (.ireturn, 1) := by decide +kernel
set_option maxRecDepth 20000 in
theorem ggX11_tries_X11_goesOn : GoodIn wsX11_tries wsX11_goesOn := goodIn_r _ [5, 6, 7, 8, 9, 10, 11, 12, 4, 13, 14, 15, 16, 17, 18, 19, 20, 21, 22, 23, 24, 25, 26, 27, 28, 29, 30, 31, 32, 33, 34, 35, 36, 37, 38, 39, 40, 41, 42, 43, 44, 45, 46, 47, 48, 49, 50, 51, 52, 53, 54, 55, 56, 57, 58, 59, 60, 61, 62, 63, 64, 65, 66, 67, 68, 69, 70] rfl (by decide +kernel)
set_option maxRecDepth 20000 in
theorem gX11_tries_X11_goesOn : GoodIn wsX11_tries (wsV RX11 201 RX11 yX11_goesOn wsX11_goesOn) := goodIn_app (goodIn_of _ (by decide +kernel)) ggX11_tries_X11_goesOn
theorem dX11_tries_0 : decode cX11_tries 0 = .ok (.iconst 0, 1) := by decide +kernel
theorem dX11_tries_1 : decode cX11_tries 1 = .ok (.istore_n 2, 1) := by decide +kernel
theorem dX11_tries_2 : decode cX11_tries 2 = .ok (.iconst 0, 1) := by decide +kernel
theorem dX11_tries_3 : decode cX11_tries 3 = .ok (.istore_n 3, 1) := by decide +kernel
theorem dX11_tries_4 : decode cX11_tries 4 = .ok (.iload_n 3, 1) := by decide +kernel
theorem dX11_tries_5 : decode cX11_tries 5 = .ok (.iload_n 1, 1) := by decide +kernel
theorem dX11_tries_6 : decode cX11_tries 6 = .ok (.if_icmp .ge 24, 3) := by decide +kernel
theorem dX11_tries_9 : decode cX11_tries 9 = .ok (.iload_n 2, 1) := by decide +kernel
theorem dX11_tries_10 : decode cX11_tries 10 = .ok (.ifCond .lt 20, 3) := by decide +kernel
theorem dX11_tries_13 : decode cX11_tries 13 = .ok (.iload_n 2, 1) := by decide +kernel
theorem dX11_tries_14 : decode cX11_tries 14 = .ok (.aload_n 0, 1) := by decide +kernel
theorem dX11_tries_15 : decode cX11_tries 15 = .ok (.sipush 308, 3) := by decide +kernel
theorem dX11_tries_18 : decode cX11_tries 18 = .ok (.iconst 0, 1) := by decide +kernel
theorem dX11_tries_19 : decode cX11_tries 19 = .ok (.invokevirtual 201, 3) := by decide +kernel
theorem dX11_tries_22 : decode cX11_tries 22 = .ok (.iadd, 1) := by decide +kernel
theorem dX11_tries_23 : decode cX11_tries 23 = .ok (.istore_n 2, 1) := by decide +kernel
theorem dX11_tries_24 : decode cX11_tries 24 = .ok (.iinc 3 1, 3) := by decide +kernel
theorem dX11_tries_27 : decode cX11_tries 27 = .ok (.goto (-23), 3) := by decide +kernel
theorem dX11_tries_30 : decode cX11_tries 30 = .ok (.return_, 1) := by decide +kernel
set_option maxRecDepth 20000 in
theorem ggX11_behind_X11_in : GoodIn wsX11_behind wsX11_in := goodIn_r _ [6] rfl (by decide +kernel)
set_option maxRecDepth 20000 in
theorem gX11_behind_X11_in : GoodIn wsX11_behind (va_wsS RX11 101 yX11_in wsX11_in) := goodIn_app (goodIn_of _ (by decide +kernel)) ggX11_behind_X11_in
set_option maxRecDepth 20000 in
theorem ggX11_behind_X11_isOne : GoodIn wsX11_behind wsX11_isOne := goodIn_r _ [10, 11, 3, 4, 5, 6, 55, 56, 57, 58, 59, 60, 61, 62, 63, 64, 65, 66, 67, 68, 69, 70, 71, 72, 73, 74, 75, 76, 77, 78, 79, 80, 81, 82, 83, 84, 85, 86] rfl (by decide +kernel)
set_option maxRecDepth 20000 in
theorem gX11_behind_X11_isOne : GoodIn wsX11_behind (wsV RX11 184 RX11 yX11_isOne wsX11_isOne) := goodIn_app (goodIn_of _ (by decide +kernel)) ggX11_behind_X11_isOne
set_option maxRecDepth 20000 in
theorem ggX11_behind_X11_copies : GoodIn wsX11_behind wsX11_copies := goodIn_r _ [15, 2, 55, 56, 57, 58, 59, 60, 61, 62, 63, 64, 65, 66, 67, 68, 69, 70, 71, 72, 73, 74, 75, 76, 77, 78, 79, 80, 81, 82, 83, 84, 85, 86] rfl (by decide +kernel)
set_option maxRecDepth 20000 in
theorem gX11_behind_X11_copies : GoodIn wsX11_behind (wsV RX11 97 RX11 yX11_copies wsX11_copies) := goodIn_app (goodIn_of _ (by decide +kernel)) ggX11_behind_X11_copies
set_option maxRecDepth 20000 in
theorem ggX11_behind_X11_tries : GoodIn wsX11_behind wsX11_tries := goodIn_r _ [19, 20, 21, 22, 5, 23, 24, 2, 11, 25, 26, 27, 28, 29, 30, 31, 32, 33, 34, 35, 36, 37, 38, 39, 40, 41, 42, 43, 44, 45, 46, 47, 48, 49, 50, 51, 52, 53, 54, 55, 56, 57, 58, 59, 60, 61, 62, 63, 64, 65, 66, 67, 68, 69, 70, 71, 72, 73, 74, 75, 76, 77, 78, 79, 80, 81, 82, 83, 84, 85, 86] rfl (by decide +kernel)
set_option maxRecDepth 20000 in
theorem gX11_behind_X11_tries : GoodIn wsX11_behind (wsV RX11 214 RX11 yX11_tries wsX11_tries) := goodIn_app (goodIn_of _ (by decide +kernel)) ggX11_behind_X11_tries
theorem dX11_behind_0 : decode cX11_behind 0 = .ok (.iload_n 1, 1) := by decide +kernel
theorem dX11_behind_1 : decode cX11_behind 1 = .ok (.i2l, 1) := by decide +kernel
theorem dX11_behind_2 : decode cX11_behind 2 = .ok (.lconst 0, 1) := by decide +kernel
theorem dX11_behind_3 : decode cX11_behind 3 = .ok (.ldc2_w 212, 3) := by decide +kernel
theorem dX11_behind_6 : decode cX11_behind 6 = .ok (.invokestatic 101, 3) := by decide +kernel
theorem dX11_behind_9 : decode cX11_behind 9 = .ok (.ifCond .eq 11, 3) := by decide +kernel
theorem dX11_behind_12 : decode cX11_behind 12 = .ok (.aload_n 0, 1) := by decide +kernel
theorem dX11_behind_13 : decode cX11_behind 13 = .ok (.iload_n 2, 1) := by decide +kernel
theorem dX11_behind_14 : decode cX11_behind 14 = .ok (.invokevirtual 184, 3) := by decide +kernel
theorem dX11_behind_17 : decode cX11_behind 17 = .ok (.ifCond .ne 5, 3) := by decide +kernel
theorem dX11_behind_20 : decode cX11_behind 20 = .ok (.iconst (-1), 1) := by decide +kernel
theorem dX11_behind_21 : decode cX11_behind 21 = .ok (.ireturn, 1) := by decide +kernel
theorem dX11_behind_22 : decode cX11_behind 22 = .ok (.aload_n 0, 1) := by decide +kernel
theorem dX11_behind_23 : decode cX11_behind 23 = .ok (.iconst 0, 1) := by decide +kernel
theorem dX11_behind_24 : decode cX11_behind 24 = .ok (.sipush 308, 3) := by decide +kernel
theorem dX11_behind_27 : decode cX11_behind 27 = .ok (.invokevirtual 97, 3) := by decide +kernel
theorem dX11_behind_30 : decode cX11_behind 30 = .ok (.aload_n 0, 1) := by decide +kernel
theorem dX11_behind_31 : decode cX11_behind 31 = .ok (.iload_n 1, 1) := by decide +kernel
theorem dX11_behind_32 : decode cX11_behind 32 = .ok (.invokevirtual 214, 3) := by decide +kernel
theorem dX11_behind_35 : decode cX11_behind 35 = .ok (.aload_n 0, 1) := by decide +kernel
theorem dX11_behind_36 : decode cX11_behind 36 = .ok (.getfield 37, 3) := by decide +kernel
theorem dX11_behind_39 : decode cX11_behind 39 = .ok (.sipush 308, 3) := by decide +kernel
theorem dX11_behind_42 : decode cX11_behind 42 = .ok (.iload_n 2, 1) := by decide +kernel
theorem dX11_behind_43 : decode cX11_behind 43 = .ok (.iadd, 1) := by decide +kernel
theorem dX11_behind_44 : decode cX11_behind 44 = .ok (.iaload, 1) := by decide +kernel
theorem dX11_behind_45 : decode cX11_behind 45 = .ok (.ireturn, 1) := by decide +kernel
set_option maxRecDepth 20000 in
theorem ggX11_goes_X11_isOne : GoodIn wsX11_goes wsX11_isOne := goodIn_r _ [6, 7, 8, 9, 5, 10, 54, 55, 56, 57, 58, 59, 60, 61, 62, 63, 64, 65, 66, 67, 68, 69, 70, 71, 72, 73, 74, 75, 76, 77, 78, 79, 80, 81, 82, 83, 84, 85] rfl (by decide +kernel)
set_option maxRecDepth 20000 in
theorem gX11_goes_X11_isOne : GoodIn wsX11_goes (wsV RX11 184 RX11 yX11_isOne wsX11_isOne) := goodIn_app (goodIn_of _ (by decide +kernel)) ggX11_goes_X11_isOne
set_option maxRecDepth 20000 in
theorem ggX11_goes_X11_copies : GoodIn wsX11_goes wsX11_copies := goodIn_r _ [14, 1, 54, 55, 56, 57, 58, 59, 60, 61, 62, 63, 64, 65, 66, 67, 68, 69, 70, 71, 72, 73, 74, 75, 76, 77, 78, 79, 80, 81, 82, 83, 84, 85] rfl (by decide +kernel)
set_option maxRecDepth 20000 in
theorem gX11_goes_X11_copies : GoodIn wsX11_goes (wsV RX11 97 RX11 yX11_copies wsX11_copies) := goodIn_app (goodIn_of _ (by decide +kernel)) ggX11_goes_X11_copies
set_option maxRecDepth 20000 in
theorem ggX11_goes_X11_tries : GoodIn wsX11_goes wsX11_tries := goodIn_r _ [18, 19, 20, 21, 5, 22, 23, 1, 7, 24, 25, 26, 27, 28, 29, 30, 31, 32, 33, 34, 35, 36, 37, 38, 39, 40, 41, 42, 43, 44, 45, 46, 47, 48, 49, 50, 51, 52, 53, 54, 55, 56, 57, 58, 59, 60, 61, 62, 63, 64, 65, 66, 67, 68, 69, 70, 71, 72, 73, 74, 75, 76, 77, 78, 79, 80, 81, 82, 83, 84, 85] rfl (by decide +kernel)
set_option maxRecDepth 20000 in
theorem gX11_goes_X11_tries : GoodIn wsX11_goes (wsV RX11 214 RX11 yX11_tries wsX11_tries) := goodIn_app (goodIn_of _ (by decide +kernel)) ggX11_goes_X11_tries
theorem dX11_goes_0 : decode cX11_goes 0 = .ok (.aload_n 0, 1) := by decide +kernel
theorem dX11_goes_1 : decode cX11_goes 1 = .ok (.iload_n 1, 1) := by decide +kernel
theorem dX11_goes_2 : decode cX11_goes 2 = .ok (.invokevirtual 184, 3) := by decide +kernel
theorem dX11_goes_5 : decode cX11_goes 5 = .ok (.ifCond .ne 5, 3) := by decide +kernel
theorem dX11_goes_8 : decode cX11_goes 8 = .ok (.iconst (-1), 1) := by decide +kernel
theorem dX11_goes_9 : decode cX11_goes 9 = .ok (.ireturn, 1) := by decide +kernel
theorem dX11_goes_10 : decode cX11_goes 10 = .ok (.aload_n 0, 1) := by decide +kernel
theorem dX11_goes_11 : decode cX11_goes 11 = .ok (.iconst 0, 1) := by decide +kernel
theorem dX11_goes_12 : decode cX11_goes 12 = .ok (.sipush 308, 3) := by decide +kernel
theorem dX11_goes_15 : decode cX11_goes 15 = .ok (.invokevirtual 97, 3) := by decide +kernel
theorem dX11_goes_18 : decode cX11_goes 18 = .ok (.iconst 0, 1) := by decide +kernel
theorem dX11_goes_19 : decode cX11_goes 19 = .ok (.istore_n 2, 1) := by decide +kernel
theorem dX11_goes_20 : decode cX11_goes 20 = .ok (.iload_n 2, 1) := by decide +kernel
theorem dX11_goes_21 : decode cX11_goes 21 = .ok (.bipush 60, 2) := by decide +kernel
theorem dX11_goes_23 : decode cX11_goes 23 = .ok (.if_icmp .gt 29, 3) := by decide +kernel
theorem dX11_goes_26 : decode cX11_goes 26 = .ok (.aload_n 0, 1) := by decide +kernel
theorem dX11_goes_27 : decode cX11_goes 27 = .ok (.getfield 37, 3) := by decide +kernel
theorem dX11_goes_30 : decode cX11_goes 30 = .ok (.sipush 308, 3) := by decide +kernel
theorem dX11_goes_33 : decode cX11_goes 33 = .ok (.iload_n 1, 1) := by decide +kernel
theorem dX11_goes_34 : decode cX11_goes 34 = .ok (.iadd, 1) := by decide +kernel
theorem dX11_goes_35 : decode cX11_goes 35 = .ok (.iaload, 1) := by decide +kernel
theorem dX11_goes_36 : decode cX11_goes 36 = .ok (.ifCond .ne 5, 3) := by decide +kernel
theorem dX11_goes_39 : decode cX11_goes 39 = .ok (.iload_n 2, 1) := by decide +kernel
theorem dX11_goes_40 : decode cX11_goes 40 = .ok (.ireturn, 1) := by decide +kernel
theorem dX11_goes_41 : decode cX11_goes 41 = .ok (.aload_n 0, 1) := by decide +kernel
theorem dX11_goes_42 : decode cX11_goes 42 = .ok (.iconst 1, 1) := by decide +kernel
theorem dX11_goes_43 : decode cX11_goes 43 = .ok (.invokevirtual 214, 3) := by decide +kernel
theorem dX11_goes_46 : decode cX11_goes 46 = .ok (.iinc 2 1, 3) := by decide +kernel
theorem dX11_goes_49 : decode cX11_goes 49 = .ok (.goto (-29), 3) := by decide +kernel
theorem dX11_goes_52 : decode cX11_goes 52 = .ok (.bipush (-4), 2) := by decide +kernel
theorem dX11_goes_54 : decode cX11_goes 54 = .ok (.ireturn, 1) := by decide +kernel
set_option maxRecDepth 20000 in
theorem ggX11_staysAt_X11_copies : GoodIn wsX11_staysAt wsX11_copies := goodIn_r _ [6, 1, 47, 48, 49, 50, 51, 52, 53, 54, 55, 56, 57, 58, 59, 60, 61, 62, 63, 64, 65, 66, 67, 68, 69, 70, 71, 72, 73, 74, 75, 76, 77, 78] rfl (by decide +kernel)
set_option maxRecDepth 20000 in
theorem gX11_staysAt_X11_copies : GoodIn wsX11_staysAt (wsV RX11 97 RX11 yX11_copies wsX11_copies) := goodIn_app (goodIn_of _ (by decide +kernel)) ggX11_staysAt_X11_copies
set_option maxRecDepth 20000 in
theorem ggX11_staysAt_X11_tries : GoodIn wsX11_staysAt wsX11_tries := goodIn_r _ [10, 11, 12, 13, 5, 14, 15, 1, 16, 17, 18, 19, 20, 21, 22, 23, 24, 25, 26, 27, 28, 29, 30, 31, 32, 33, 34, 35, 36, 37, 38, 39, 40, 41, 42, 43, 44, 45, 46, 47, 48, 49, 50, 51, 52, 53, 54, 55, 56, 57, 58, 59, 60, 61, 62, 63, 64, 65, 66, 67, 68, 69, 70, 71, 72, 73, 74, 75, 76, 77, 78] rfl (by decide +kernel)
set_option maxRecDepth 20000 in
theorem gX11_staysAt_X11_tries : GoodIn wsX11_staysAt (wsV RX11 214 RX11 yX11_tries wsX11_tries) := goodIn_app (goodIn_of _ (by decide +kernel)) ggX11_staysAt_X11_tries
set_option maxRecDepth 20000 in
theorem ggX11_staysAt_X11_thereAt : GoodIn wsX11_staysAt wsX11_thereAt := goodIn_r _ [25, 16, 17, 1, 47, 48, 49, 50, 51, 52, 53, 54, 55, 56, 57, 58, 59, 60, 61, 62, 63, 64, 65, 66, 67, 68, 69, 70, 71, 72, 73, 74, 75, 76, 77, 78] rfl (by decide +kernel)
set_option maxRecDepth 20000 in
theorem gX11_staysAt_X11_thereAt : GoodIn wsX11_staysAt (wsV RX11 168 RX11 yX11_thereAt wsX11_thereAt) := goodIn_app (goodIn_of _ (by decide +kernel)) ggX11_staysAt_X11_thereAt
theorem dX11_staysAt_0 : decode cX11_staysAt 0 = .ok (.aload_n 0, 1) := by decide +kernel
theorem dX11_staysAt_1 : decode cX11_staysAt 1 = .ok (.iconst 0, 1) := by decide +kernel
theorem dX11_staysAt_2 : decode cX11_staysAt 2 = .ok (.sipush 308, 3) := by decide +kernel
theorem dX11_staysAt_5 : decode cX11_staysAt 5 = .ok (.invokevirtual 97, 3) := by decide +kernel
theorem dX11_staysAt_8 : decode cX11_staysAt 8 = .ok (.aload_n 0, 1) := by decide +kernel
theorem dX11_staysAt_9 : decode cX11_staysAt 9 = .ok (.getfield 37, 3) := by decide +kernel
theorem dX11_staysAt_12 : decode cX11_staysAt 12 = .ok (.sipush 317, 3) := by decide +kernel
theorem dX11_staysAt_15 : decode cX11_staysAt 15 = .ok (.iload_n 1, 1) := by decide +kernel
theorem dX11_staysAt_16 : decode cX11_staysAt 16 = .ok (.iadd, 1) := by decide +kernel
theorem dX11_staysAt_17 : decode cX11_staysAt 17 = .ok (.iload_n 2, 1) := by decide +kernel
theorem dX11_staysAt_18 : decode cX11_staysAt 18 = .ok (.iastore, 1) := by decide +kernel
theorem dX11_staysAt_19 : decode cX11_staysAt 19 = .ok (.aload_n 0, 1) := by decide +kernel
theorem dX11_staysAt_20 : decode cX11_staysAt 20 = .ok (.iload_n 3, 1) := by decide +kernel
theorem dX11_staysAt_21 : decode cX11_staysAt 21 = .ok (.invokevirtual 214, 3) := by decide +kernel
theorem dX11_staysAt_24 : decode cX11_staysAt 24 = .ok (.aload_n 0, 1) := by decide +kernel
theorem dX11_staysAt_25 : decode cX11_staysAt 25 = .ok (.sipush 308, 3) := by decide +kernel
theorem dX11_staysAt_28 : decode cX11_staysAt 28 = .ok (.iload_n 1, 1) := by decide +kernel
theorem dX11_staysAt_29 : decode cX11_staysAt 29 = .ok (.invokevirtual 168, 3) := by decide +kernel
theorem dX11_staysAt_32 : decode cX11_staysAt 32 = .ok (.ireturn, 1) := by decide +kernel
set_option maxRecDepth 20000 in
theorem ggX11_least_X11_isStep : GoodIn wsX11_least wsX11_isStep := goodIn_r _ [6, 7, 8, 9, 5, 10, 59, 60, 61, 62, 63, 64, 65, 66, 67, 68, 69, 70, 71, 72, 73, 74, 75, 76, 77, 78, 79, 80, 81, 82, 83, 84, 85, 86, 87, 88, 89, 90] rfl (by decide +kernel)
set_option maxRecDepth 20000 in
theorem gX11_least_X11_isStep : GoodIn wsX11_least (wsV RX11 175 RX11 yX11_isStep wsX11_isStep) := goodIn_app (goodIn_of _ (by decide +kernel)) ggX11_least_X11_isStep
set_option maxRecDepth 20000 in
theorem ggX11_least_X11_in : GoodIn wsX11_least wsX11_in := goodIn_r _ [10] rfl (by decide +kernel)
set_option maxRecDepth 20000 in
theorem gX11_least_X11_in : GoodIn wsX11_least (va_wsS RX11 101 yX11_in wsX11_in) := goodIn_app (goodIn_of _ (by decide +kernel)) ggX11_least_X11_in
set_option maxRecDepth 20000 in
theorem ggX11_least_X11_thereAt : GoodIn wsX11_least wsX11_thereAt := goodIn_r _ [14, 15, 16, 17, 59, 60, 61, 62, 63, 64, 65, 66, 67, 68, 69, 70, 71, 72, 73, 74, 75, 76, 77, 78, 79, 80, 81, 82, 83, 84, 85, 86, 87, 88, 89, 90] rfl (by decide +kernel)
set_option maxRecDepth 20000 in
theorem gX11_least_X11_thereAt : GoodIn wsX11_least (wsV RX11 168 RX11 yX11_thereAt wsX11_thereAt) := goodIn_app (goodIn_of _ (by decide +kernel)) ggX11_least_X11_thereAt
set_option maxRecDepth 20000 in
theorem ggX11_least_X11_staysAt : GoodIn wsX11_least wsX11_staysAt := goodIn_r _ [21, 17, 22, 23, 24, 5, 25, 26, 27, 28, 29, 30, 31, 32, 33, 7, 15, 16, 34, 35, 36, 37, 11, 12, 13, 14, 38, 39, 40, 41, 42, 43, 44, 45, 46, 47, 48, 49, 50, 51, 52, 53, 54, 55, 56, 57, 58, 59, 60, 61, 62, 63, 64, 65, 66, 67, 68, 69, 70, 71, 72, 73, 74, 75, 76, 77, 78, 79, 80, 81, 82, 83, 84, 85, 86, 87, 88, 89, 90] rfl (by decide +kernel)
set_option maxRecDepth 20000 in
theorem gX11_least_X11_staysAt : GoodIn wsX11_least (wsV RX11 218 RX11 yX11_staysAt wsX11_staysAt) := goodIn_app (goodIn_of _ (by decide +kernel)) ggX11_least_X11_staysAt
theorem dX11_least_0 : decode cX11_least 0 = .ok (.aload_n 0, 1) := by decide +kernel
theorem dX11_least_1 : decode cX11_least 1 = .ok (.iload_n 1, 1) := by decide +kernel
theorem dX11_least_2 : decode cX11_least 2 = .ok (.invokevirtual 175, 3) := by decide +kernel
theorem dX11_least_5 : decode cX11_least 5 = .ok (.ifCond .eq 15, 3) := by decide +kernel
theorem dX11_least_8 : decode cX11_least 8 = .ok (.iload_n 2, 1) := by decide +kernel
theorem dX11_least_9 : decode cX11_least 9 = .ok (.i2l, 1) := by decide +kernel
theorem dX11_least_10 : decode cX11_least 10 = .ok (.lconst 1, 1) := by decide +kernel
theorem dX11_least_11 : decode cX11_least 11 = .ok (.ldc2_w 196, 3) := by decide +kernel
theorem dX11_least_14 : decode cX11_least 14 = .ok (.invokestatic 101, 3) := by decide +kernel
theorem dX11_least_17 : decode cX11_least 17 = .ok (.ifCond .ne 5, 3) := by decide +kernel
theorem dX11_least_20 : decode cX11_least 20 = .ok (.iconst (-1), 1) := by decide +kernel
theorem dX11_least_21 : decode cX11_least 21 = .ok (.ireturn, 1) := by decide +kernel
theorem dX11_least_22 : decode cX11_least 22 = .ok (.aload_n 0, 1) := by decide +kernel
theorem dX11_least_23 : decode cX11_least 23 = .ok (.iconst 0, 1) := by decide +kernel
theorem dX11_least_24 : decode cX11_least 24 = .ok (.iload_n 1, 1) := by decide +kernel
theorem dX11_least_25 : decode cX11_least 25 = .ok (.invokevirtual 168, 3) := by decide +kernel
theorem dX11_least_28 : decode cX11_least 28 = .ok (.istore_n 3, 1) := by decide +kernel
theorem dX11_least_29 : decode cX11_least 29 = .ok (.iconst 0, 1) := by decide +kernel
theorem dX11_least_30 : decode cX11_least 30 = .ok (.istore 4, 2) := by decide +kernel
theorem dX11_least_32 : decode cX11_least 32 = .ok (.iload 4, 2) := by decide +kernel
theorem dX11_least_34 : decode cX11_least 34 = .ok (.bipush 40, 2) := by decide +kernel
theorem dX11_least_36 : decode cX11_least 36 = .ok (.if_icmp .gt 24, 3) := by decide +kernel
theorem dX11_least_39 : decode cX11_least 39 = .ok (.aload_n 0, 1) := by decide +kernel
theorem dX11_least_40 : decode cX11_least 40 = .ok (.iload_n 1, 1) := by decide +kernel
theorem dX11_least_41 : decode cX11_least 41 = .ok (.iload 4, 2) := by decide +kernel
theorem dX11_least_43 : decode cX11_least 43 = .ok (.iload_n 2, 1) := by decide +kernel
theorem dX11_least_44 : decode cX11_least 44 = .ok (.invokevirtual 218, 3) := by decide +kernel
theorem dX11_least_47 : decode cX11_least 47 = .ok (.iload_n 3, 1) := by decide +kernel
theorem dX11_least_48 : decode cX11_least 48 = .ok (.if_icmp .ne 6, 3) := by decide +kernel
theorem dX11_least_51 : decode cX11_least 51 = .ok (.iload 4, 2) := by decide +kernel
theorem dX11_least_53 : decode cX11_least 53 = .ok (.ireturn, 1) := by decide +kernel
theorem dX11_least_54 : decode cX11_least 54 = .ok (.iinc 4 1, 3) := by decide +kernel
theorem dX11_least_57 : decode cX11_least 57 = .ok (.goto (-25), 3) := by decide +kernel
theorem dX11_least_60 : decode cX11_least 60 = .ok (.bipush (-4), 2) := by decide +kernel
theorem dX11_least_62 : decode cX11_least 62 = .ok (.ireturn, 1) := by decide +kernel
set_option maxRecDepth 20000 in
theorem ggX11_load_X11_smaller : GoodIn wsX11_load wsX11_smaller := goodIn_r _ [6] rfl (by decide +kernel)
set_option maxRecDepth 20000 in
theorem gX11_load_X11_smaller : GoodIn wsX11_load (va_wsS RX11 157 yX11_smaller wsX11_smaller) := goodIn_app (goodIn_of _ (by decide +kernel)) ggX11_load_X11_smaller
theorem dX11_load_0 : decode cX11_load 0 = .ok (.aload_n 0, 1) := by decide +kernel
theorem dX11_load_1 : decode cX11_load 1 = .ok (.getfield 91, 3) := by decide +kernel
theorem dX11_load_4 : decode cX11_load 4 = .ok (.aload_n 0, 1) := by decide +kernel
theorem dX11_load_5 : decode cX11_load 5 = .ok (.getfield 37, 3) := by decide +kernel
theorem dX11_load_8 : decode cX11_load 8 = .ok (.bipush 9, 2) := by decide +kernel
theorem dX11_load_10 : decode cX11_load 10 = .ok (.iload_n 1, 1) := by decide +kernel
theorem dX11_load_11 : decode cX11_load 11 = .ok (.iadd, 1) := by decide +kernel
theorem dX11_load_12 : decode cX11_load 12 = .ok (.iaload, 1) := by decide +kernel
theorem dX11_load_13 : decode cX11_load 13 = .ok (.invokestatic 157, 3) := by decide +kernel
theorem dX11_load_16 : decode cX11_load 16 = .ok (.ireturn, 1) := by decide +kernel
set_option maxRecDepth 20000 in
theorem ggX11_journey_X11_has : GoodIn wsX11_journey wsX11_has := goodIn_r _ [6] rfl (by decide +kernel)
set_option maxRecDepth 20000 in
theorem gX11_journey_X11_has : GoodIn wsX11_journey (va_wsS RX11 160 yX11_has wsX11_has) := goodIn_app (goodIn_of _ (by decide +kernel)) ggX11_journey_X11_has
set_option maxRecDepth 20000 in
theorem ggX11_journey_X11_load : GoodIn wsX11_journey wsX11_load := goodIn_r _ [10, 2, 11, 12, 13, 5, 14, 15, 16, 17, 18, 19, 20, 21, 22, 23, 24, 25, 26, 27, 28, 29, 30, 31, 32, 33, 34, 35, 36, 37, 38, 39, 40, 41, 42, 43, 44, 45, 46] rfl (by decide +kernel)
set_option maxRecDepth 20000 in
theorem gX11_journey_X11_load : GoodIn wsX11_journey (wsV RX11 222 RX11 yX11_load wsX11_load) := goodIn_app (goodIn_of _ (by decide +kernel)) ggX11_journey_X11_load
theorem dX11_journey_0 : decode cX11_journey 0 = .ok (.iconst 0, 1) := by decide +kernel
theorem dX11_journey_1 : decode cX11_journey 1 = .ok (.istore_n 2, 1) := by decide +kernel
theorem dX11_journey_2 : decode cX11_journey 2 = .ok (.iconst 0, 1) := by decide +kernel
theorem dX11_journey_3 : decode cX11_journey 3 = .ok (.istore_n 3, 1) := by decide +kernel
theorem dX11_journey_4 : decode cX11_journey 4 = .ok (.iconst 0, 1) := by decide +kernel
theorem dX11_journey_5 : decode cX11_journey 5 = .ok (.istore 4, 2) := by decide +kernel
theorem dX11_journey_7 : decode cX11_journey 7 = .ok (.iload 4, 2) := by decide +kernel
theorem dX11_journey_9 : decode cX11_journey 9 = .ok (.aload_n 0, 1) := by decide +kernel
theorem dX11_journey_10 : decode cX11_journey 10 = .ok (.getfield 88, 3) := by decide +kernel
theorem dX11_journey_13 : decode cX11_journey 13 = .ok (.if_icmp .ge 49, 3) := by decide +kernel
theorem dX11_journey_16 : decode cX11_journey 16 = .ok (.iload_n 2, 1) := by decide +kernel
theorem dX11_journey_17 : decode cX11_journey 17 = .ok (.iload_n 1, 1) := by decide +kernel
theorem dX11_journey_18 : decode cX11_journey 18 = .ok (.iload 4, 2) := by decide +kernel
theorem dX11_journey_20 : decode cX11_journey 20 = .ok (.invokestatic 160, 3) := by decide +kernel
theorem dX11_journey_23 : decode cX11_journey 23 = .ok (.ifCond .eq 12, 3) := by decide +kernel
theorem dX11_journey_26 : decode cX11_journey 26 = .ok (.aload_n 0, 1) := by decide +kernel
theorem dX11_journey_27 : decode cX11_journey 27 = .ok (.iload 4, 2) := by decide +kernel
theorem dX11_journey_29 : decode cX11_journey 29 = .ok (.invokevirtual 222, 3) := by decide +kernel
theorem dX11_journey_32 : decode cX11_journey 32 = .ok (.goto 4, 3) := by decide +kernel
theorem dX11_journey_35 : decode cX11_journey 35 = .ok (.iconst 0, 1) := by decide +kernel
theorem dX11_journey_36 : decode cX11_journey 36 = .ok (.iadd, 1) := by decide +kernel
theorem dX11_journey_37 : decode cX11_journey 37 = .ok (.istore_n 2, 1) := by decide +kernel
theorem dX11_journey_38 : decode cX11_journey 38 = .ok (.iload_n 1, 1) := by decide +kernel
theorem dX11_journey_39 : decode cX11_journey 39 = .ok (.iload 4, 2) := by decide +kernel
theorem dX11_journey_41 : decode cX11_journey 41 = .ok (.invokestatic 160, 3) := by decide +kernel
theorem dX11_journey_44 : decode cX11_journey 44 = .ok (.ifCond .eq 10, 3) := by decide +kernel
theorem dX11_journey_47 : decode cX11_journey 47 = .ok (.iload 4, 2) := by decide +kernel
theorem dX11_journey_49 : decode cX11_journey 49 = .ok (.iconst 1, 1) := by decide +kernel
theorem dX11_journey_50 : decode cX11_journey 50 = .ok (.iadd, 1) := by decide +kernel
theorem dX11_journey_51 : decode cX11_journey 51 = .ok (.goto 4, 3) := by decide +kernel
theorem dX11_journey_54 : decode cX11_journey 54 = .ok (.iload_n 3, 1) := by decide +kernel
theorem dX11_journey_55 : decode cX11_journey 55 = .ok (.istore_n 3, 1) := by decide +kernel
theorem dX11_journey_56 : decode cX11_journey 56 = .ok (.iinc 4 1, 3) := by decide +kernel
theorem dX11_journey_59 : decode cX11_journey 59 = .ok (.goto (-52), 3) := by decide +kernel
theorem dX11_journey_62 : decode cX11_journey 62 = .ok (.iload_n 2, 1) := by decide +kernel
theorem dX11_journey_63 : decode cX11_journey 63 = .ok (.aload_n 0, 1) := by decide +kernel
theorem dX11_journey_64 : decode cX11_journey 64 = .ok (.getfield 91, 3) := by decide +kernel
theorem dX11_journey_67 : decode cX11_journey 67 = .ok (.if_icmp .le 8, 3) := by decide +kernel
theorem dX11_journey_70 : decode cX11_journey 70 = .ok (.bipush (-4), 2) := by decide +kernel
theorem dX11_journey_72 : decode cX11_journey 72 = .ok (.goto 6, 3) := by decide +kernel
theorem dX11_journey_75 : decode cX11_journey 75 = .ok (.iconst 2, 1) := by decide +kernel
theorem dX11_journey_76 : decode cX11_journey 76 = .ok (.iload_n 3, 1) := by decide +kernel
theorem dX11_journey_77 : decode cX11_journey 77 = .ok (.imul, 1) := by decide +kernel
theorem dX11_journey_78 : decode cX11_journey 78 = .ok (.ireturn, 1) := by decide +kernel
set_option maxRecDepth 20000 in
theorem ggX11_round_X11_journey : GoodIn wsX11_round wsX11_journey := goodIn_r _ [8, 1, 9, 10, 11, 7, 12, 13, 14, 15, 16, 2, 17, 18, 19, 20, 21, 22, 23, 24, 25, 26, 27, 28, 29, 30, 31, 32, 33, 34, 35, 36, 37, 38, 39, 40, 41, 42, 43, 44, 45, 46, 47, 48, 49, 50, 51] rfl (by decide +kernel)
set_option maxRecDepth 20000 in
theorem gX11_round_X11_journey : GoodIn wsX11_round (wsV RX11 225 RX11 yX11_journey wsX11_journey) := goodIn_app (goodIn_of _ (by decide +kernel)) ggX11_round_X11_journey
set_option maxRecDepth 20000 in
theorem ggX11_round_X11_smaller : GoodIn wsX11_round wsX11_smaller := goodIn_r _ [19] rfl (by decide +kernel)
set_option maxRecDepth 20000 in
theorem gX11_round_X11_smaller : GoodIn wsX11_round (va_wsS RX11 157 yX11_smaller wsX11_smaller) := goodIn_app (goodIn_of _ (by decide +kernel)) ggX11_round_X11_smaller
theorem dX11_round_0 : decode cX11_round 0 = .ok (.iconst 0, 1) := by decide +kernel
theorem dX11_round_1 : decode cX11_round 1 = .ok (.istore_n 1, 1) := by decide +kernel
theorem dX11_round_2 : decode cX11_round 2 = .ok (.iconst 0, 1) := by decide +kernel
theorem dX11_round_3 : decode cX11_round 3 = .ok (.istore_n 2, 1) := by decide +kernel
theorem dX11_round_4 : decode cX11_round 4 = .ok (.iload_n 2, 1) := by decide +kernel
theorem dX11_round_5 : decode cX11_round 5 = .ok (.aload_n 0, 1) := by decide +kernel
theorem dX11_round_6 : decode cX11_round 6 = .ok (.getfield 88, 3) := by decide +kernel
theorem dX11_round_9 : decode cX11_round 9 = .ok (.if_icmp .ge 31, 3) := by decide +kernel
theorem dX11_round_12 : decode cX11_round 12 = .ok (.iload_n 1, 1) := by decide +kernel
theorem dX11_round_13 : decode cX11_round 13 = .ok (.aload_n 0, 1) := by decide +kernel
theorem dX11_round_14 : decode cX11_round 14 = .ok (.getfield 37, 3) := by decide +kernel
theorem dX11_round_17 : decode cX11_round 17 = .ok (.bipush 9, 2) := by decide +kernel
theorem dX11_round_19 : decode cX11_round 19 = .ok (.iload_n 2, 1) := by decide +kernel
theorem dX11_round_20 : decode cX11_round 20 = .ok (.iadd, 1) := by decide +kernel
theorem dX11_round_21 : decode cX11_round 21 = .ok (.iaload, 1) := by decide +kernel
theorem dX11_round_22 : decode cX11_round 22 = .ok (.ifCond .le 9, 3) := by decide +kernel
theorem dX11_round_25 : decode cX11_round 25 = .ok (.iconst 1, 1) := by decide +kernel
theorem dX11_round_26 : decode cX11_round 26 = .ok (.iload_n 2, 1) := by decide +kernel
theorem dX11_round_27 : decode cX11_round 27 = .ok (.ishl, 1) := by decide +kernel
theorem dX11_round_28 : decode cX11_round 28 = .ok (.goto 4, 3) := by decide +kernel
theorem dX11_round_31 : decode cX11_round 31 = .ok (.iconst 0, 1) := by decide +kernel
theorem dX11_round_32 : decode cX11_round 32 = .ok (.ior, 1) := by decide +kernel
theorem dX11_round_33 : decode cX11_round 33 = .ok (.istore_n 1, 1) := by decide +kernel
theorem dX11_round_34 : decode cX11_round 34 = .ok (.iinc 2 1, 3) := by decide +kernel
theorem dX11_round_37 : decode cX11_round 37 = .ok (.goto (-33), 3) := by decide +kernel
theorem dX11_round_40 : decode cX11_round 40 = .ok (.iconst 0, 1) := by decide +kernel
theorem dX11_round_41 : decode cX11_round 41 = .ok (.istore_n 2, 1) := by decide +kernel
theorem dX11_round_42 : decode cX11_round 42 = .ok (.iload_n 2, 1) := by decide +kernel
theorem dX11_round_43 : decode cX11_round 43 = .ok (.iload_n 1, 1) := by decide +kernel
theorem dX11_round_44 : decode cX11_round 44 = .ok (.if_icmp .gt 92, 3) := by decide +kernel
theorem dX11_round_47 : decode cX11_round 47 = .ok (.aload_n 0, 1) := by decide +kernel
theorem dX11_round_48 : decode cX11_round 48 = .ok (.getfield 53, 3) := by decide +kernel
theorem dX11_round_51 : decode cX11_round 51 = .ok (.iload_n 2, 1) := by decide +kernel
theorem dX11_round_52 : decode cX11_round 52 = .ok (.iload_n 2, 1) := by decide +kernel
theorem dX11_round_53 : decode cX11_round 53 = .ok (.ifCond .ne 7, 3) := by decide +kernel
theorem dX11_round_56 : decode cX11_round 56 = .ok (.iconst 0, 1) := by decide +kernel
theorem dX11_round_57 : decode cX11_round 57 = .ok (.goto 6, 3) := by decide +kernel
theorem dX11_round_60 : decode cX11_round 60 = .ok (.sipush 9999, 3) := by decide +kernel
theorem dX11_round_63 : decode cX11_round 63 = .ok (.iastore, 1) := by decide +kernel
theorem dX11_round_64 : decode cX11_round 64 = .ok (.iload_n 2, 1) := by decide +kernel
theorem dX11_round_65 : decode cX11_round 65 = .ok (.iload_n 1, 1) := by decide +kernel
theorem dX11_round_66 : decode cX11_round 66 = .ok (.iand, 1) := by decide +kernel
theorem dX11_round_67 : decode cX11_round 67 = .ok (.istore_n 3, 1) := by decide +kernel
theorem dX11_round_68 : decode cX11_round 68 = .ok (.iload_n 3, 1) := by decide +kernel
theorem dX11_round_69 : decode cX11_round 69 = .ok (.ifCond .le 61, 3) := by decide +kernel
theorem dX11_round_72 : decode cX11_round 72 = .ok (.aload_n 0, 1) := by decide +kernel
theorem dX11_round_73 : decode cX11_round 73 = .ok (.iload_n 3, 1) := by decide +kernel
theorem dX11_round_74 : decode cX11_round 74 = .ok (.invokevirtual 225, 3) := by decide +kernel
theorem dX11_round_77 : decode cX11_round 77 = .ok (.istore 4, 2) := by decide +kernel
theorem dX11_round_79 : decode cX11_round 79 = .ok (.aload_n 0, 1) := by decide +kernel
theorem dX11_round_80 : decode cX11_round 80 = .ok (.getfield 53, 3) := by decide +kernel
theorem dX11_round_83 : decode cX11_round 83 = .ok (.iload_n 2, 1) := by decide +kernel
theorem dX11_round_84 : decode cX11_round 84 = .ok (.iload 4, 2) := by decide +kernel
theorem dX11_round_86 : decode cX11_round 86 = .ok (.ifCond .ge 12, 3) := by decide +kernel
theorem dX11_round_89 : decode cX11_round 89 = .ok (.aload_n 0, 1) := by decide +kernel
theorem dX11_round_90 : decode cX11_round 90 = .ok (.getfield 53, 3) := by decide +kernel
theorem dX11_round_93 : decode cX11_round 93 = .ok (.iload_n 2, 1) := by decide +kernel
theorem dX11_round_94 : decode cX11_round 94 = .ok (.iaload, 1) := by decide +kernel
theorem dX11_round_95 : decode cX11_round 95 = .ok (.goto 25, 3) := by decide +kernel
theorem dX11_round_98 : decode cX11_round 98 = .ok (.aload_n 0, 1) := by decide +kernel
theorem dX11_round_99 : decode cX11_round 99 = .ok (.getfield 53, 3) := by decide +kernel
theorem dX11_round_102 : decode cX11_round 102 = .ok (.iload_n 2, 1) := by decide +kernel
theorem dX11_round_103 : decode cX11_round 103 = .ok (.iaload, 1) := by decide +kernel
theorem dX11_round_104 : decode cX11_round 104 = .ok (.aload_n 0, 1) := by decide +kernel
theorem dX11_round_105 : decode cX11_round 105 = .ok (.getfield 53, 3) := by decide +kernel
theorem dX11_round_108 : decode cX11_round 108 = .ok (.iload_n 2, 1) := by decide +kernel
theorem dX11_round_109 : decode cX11_round 109 = .ok (.iload_n 3, 1) := by decide +kernel
theorem dX11_round_110 : decode cX11_round 110 = .ok (.iconst (-1), 1) := by decide +kernel
theorem dX11_round_111 : decode cX11_round 111 = .ok (.ixor, 1) := by decide +kernel
theorem dX11_round_112 : decode cX11_round 112 = .ok (.iand, 1) := by decide +kernel
theorem dX11_round_113 : decode cX11_round 113 = .ok (.iaload, 1) := by decide +kernel
theorem dX11_round_114 : decode cX11_round 114 = .ok (.iload 4, 2) := by decide +kernel
theorem dX11_round_116 : decode cX11_round 116 = .ok (.iadd, 1) := by decide +kernel
theorem dX11_round_117 : decode cX11_round 117 = .ok (.invokestatic 157, 3) := by decide +kernel
theorem dX11_round_120 : decode cX11_round 120 = .ok (.iastore, 1) := by decide +kernel
theorem dX11_round_121 : decode cX11_round 121 = .ok (.iload_n 3, 1) := by decide +kernel
theorem dX11_round_122 : decode cX11_round 122 = .ok (.iconst 1, 1) := by decide +kernel
theorem dX11_round_123 : decode cX11_round 123 = .ok (.isub, 1) := by decide +kernel
theorem dX11_round_124 : decode cX11_round 124 = .ok (.iload_n 2, 1) := by decide +kernel
theorem dX11_round_125 : decode cX11_round 125 = .ok (.iand, 1) := by decide +kernel
theorem dX11_round_126 : decode cX11_round 126 = .ok (.istore_n 3, 1) := by decide +kernel
theorem dX11_round_127 : decode cX11_round 127 = .ok (.goto (-59), 3) := by decide +kernel
theorem dX11_round_130 : decode cX11_round 130 = .ok (.iinc 2 1, 3) := by decide +kernel
theorem dX11_round_133 : decode cX11_round 133 = .ok (.goto (-91), 3) := by decide +kernel
theorem dX11_round_136 : decode cX11_round 136 = .ok (.aload_n 0, 1) := by decide +kernel
theorem dX11_round_137 : decode cX11_round 137 = .ok (.getfield 53, 3) := by decide +kernel
theorem dX11_round_140 : decode cX11_round 140 = .ok (.iload_n 1, 1) := by decide +kernel
theorem dX11_round_141 : decode cX11_round 141 = .ok (.iaload, 1) := by decide +kernel
theorem dX11_round_142 : decode cX11_round 142 = .ok (.ireturn, 1) := by decide +kernel
set_option maxRecDepth 20000 in
theorem ggX11_keepsBy_X11_staysAt : GoodIn wsX11_keepsBy wsX11_staysAt := goodIn_r _ [9, 10, 11, 12, 13, 8, 14, 15, 16, 17, 18, 19, 20, 21, 22, 1, 23, 24, 25, 26, 27, 28, 29, 30, 31, 32, 33, 34, 35, 36, 37, 38, 39, 40, 41, 42, 43, 44, 45, 46, 47, 48, 49, 50, 51, 52, 53, 57, 58, 59, 60, 61, 62, 63, 64, 65, 66, 67, 68, 69, 70, 71, 72, 73, 74, 75, 76, 77, 78, 79, 80, 81, 82, 83, 84, 85, 86, 87, 88] rfl (by decide +kernel)
set_option maxRecDepth 20000 in
theorem gX11_keepsBy_X11_staysAt : GoodIn wsX11_keepsBy (wsV RX11 218 RX11 yX11_staysAt wsX11_staysAt) := goodIn_app (goodIn_of _ (by decide +kernel)) ggX11_keepsBy_X11_staysAt
set_option maxRecDepth 20000 in
theorem ggX11_keepsBy_X11_bits : GoodIn wsX11_keepsBy wsX11_bits := goodIn_r _ [56] rfl (by decide +kernel)
set_option maxRecDepth 20000 in
theorem gX11_keepsBy_X11_bits : GoodIn wsX11_keepsBy (va_wsS RX11 206 yX11_bits wsX11_bits) := goodIn_app (goodIn_of _ (by decide +kernel)) ggX11_keepsBy_X11_bits
set_option maxRecDepth 20000 in
theorem ggX11_keepsBy_X11_smaller : GoodIn wsX11_keepsBy wsX11_smaller := goodIn_r _ [28] rfl (by decide +kernel)
set_option maxRecDepth 20000 in
theorem gX11_keepsBy_X11_smaller : GoodIn wsX11_keepsBy (va_wsS RX11 157 yX11_smaller wsX11_smaller) := goodIn_app (goodIn_of _ (by decide +kernel)) ggX11_keepsBy_X11_smaller
theorem dX11_keepsBy_0 : decode cX11_keepsBy 0 = .ok (.iconst 0, 1) := by decide +kernel
theorem dX11_keepsBy_1 : decode cX11_keepsBy 1 = .ok (.istore_n 3, 1) := by decide +kernel
theorem dX11_keepsBy_2 : decode cX11_keepsBy 2 = .ok (.iload_n 3, 1) := by decide +kernel
theorem dX11_keepsBy_3 : decode cX11_keepsBy 3 = .ok (.bipush 10, 2) := by decide +kernel
theorem dX11_keepsBy_5 : decode cX11_keepsBy 5 = .ok (.aload_n 0, 1) := by decide +kernel
theorem dX11_keepsBy_6 : decode cX11_keepsBy 6 = .ok (.getfield 88, 3) := by decide +kernel
theorem dX11_keepsBy_9 : decode cX11_keepsBy 9 = .ok (.imul, 1) := by decide +kernel
theorem dX11_keepsBy_10 : decode cX11_keepsBy 10 = .ok (.if_icmp .ge 31, 3) := by decide +kernel
theorem dX11_keepsBy_13 : decode cX11_keepsBy 13 = .ok (.aload_n 0, 1) := by decide +kernel
theorem dX11_keepsBy_14 : decode cX11_keepsBy 14 = .ok (.getfield 56, 3) := by decide +kernel
theorem dX11_keepsBy_17 : decode cX11_keepsBy 17 = .ok (.iload_n 3, 1) := by decide +kernel
theorem dX11_keepsBy_18 : decode cX11_keepsBy 18 = .ok (.aload_n 0, 1) := by decide +kernel
theorem dX11_keepsBy_19 : decode cX11_keepsBy 19 = .ok (.iload_n 3, 1) := by decide +kernel
theorem dX11_keepsBy_20 : decode cX11_keepsBy 20 = .ok (.bipush 10, 2) := by decide +kernel
theorem dX11_keepsBy_22 : decode cX11_keepsBy 22 = .ok (.idiv, 1) := by decide +kernel
theorem dX11_keepsBy_23 : decode cX11_keepsBy 23 = .ok (.iload_n 3, 1) := by decide +kernel
theorem dX11_keepsBy_24 : decode cX11_keepsBy 24 = .ok (.bipush 10, 2) := by decide +kernel
theorem dX11_keepsBy_26 : decode cX11_keepsBy 26 = .ok (.irem, 1) := by decide +kernel
theorem dX11_keepsBy_27 : decode cX11_keepsBy 27 = .ok (.iload_n 2, 1) := by decide +kernel
theorem dX11_keepsBy_28 : decode cX11_keepsBy 28 = .ok (.invokevirtual 218, 3) := by decide +kernel
theorem dX11_keepsBy_31 : decode cX11_keepsBy 31 = .ok (.invokestatic 206, 3) := by decide +kernel
theorem dX11_keepsBy_34 : decode cX11_keepsBy 34 = .ok (.iastore, 1) := by decide +kernel
theorem dX11_keepsBy_35 : decode cX11_keepsBy 35 = .ok (.iinc 3 1, 3) := by decide +kernel
theorem dX11_keepsBy_38 : decode cX11_keepsBy 38 = .ok (.goto (-36), 3) := by decide +kernel
theorem dX11_keepsBy_41 : decode cX11_keepsBy 41 = .ok (.iconst 0, 1) := by decide +kernel
theorem dX11_keepsBy_42 : decode cX11_keepsBy 42 = .ok (.istore_n 3, 1) := by decide +kernel
theorem dX11_keepsBy_43 : decode cX11_keepsBy 43 = .ok (.iload_n 3, 1) := by decide +kernel
theorem dX11_keepsBy_44 : decode cX11_keepsBy 44 = .ok (.iload_n 1, 1) := by decide +kernel
theorem dX11_keepsBy_45 : decode cX11_keepsBy 45 = .ok (.if_icmp .gt 39, 3) := by decide +kernel
theorem dX11_keepsBy_48 : decode cX11_keepsBy 48 = .ok (.aload_n 0, 1) := by decide +kernel
theorem dX11_keepsBy_49 : decode cX11_keepsBy 49 = .ok (.getfield 59, 3) := by decide +kernel
theorem dX11_keepsBy_52 : decode cX11_keepsBy 52 = .ok (.bipush 100, 2) := by decide +kernel
theorem dX11_keepsBy_54 : decode cX11_keepsBy 54 = .ok (.aload_n 0, 1) := by decide +kernel
theorem dX11_keepsBy_55 : decode cX11_keepsBy 55 = .ok (.getfield 88, 3) := by decide +kernel
theorem dX11_keepsBy_58 : decode cX11_keepsBy 58 = .ok (.imul, 1) := by decide +kernel
theorem dX11_keepsBy_59 : decode cX11_keepsBy 59 = .ok (.iload_n 3, 1) := by decide +kernel
theorem dX11_keepsBy_60 : decode cX11_keepsBy 60 = .ok (.iadd, 1) := by decide +kernel
theorem dX11_keepsBy_61 : decode cX11_keepsBy 61 = .ok (.iconst 0, 1) := by decide +kernel
theorem dX11_keepsBy_62 : decode cX11_keepsBy 62 = .ok (.iastore, 1) := by decide +kernel
theorem dX11_keepsBy_63 : decode cX11_keepsBy 63 = .ok (.aload_n 0, 1) := by decide +kernel
theorem dX11_keepsBy_64 : decode cX11_keepsBy 64 = .ok (.getfield 62, 3) := by decide +kernel
theorem dX11_keepsBy_67 : decode cX11_keepsBy 67 = .ok (.bipush 100, 2) := by decide +kernel
theorem dX11_keepsBy_69 : decode cX11_keepsBy 69 = .ok (.aload_n 0, 1) := by decide +kernel
theorem dX11_keepsBy_70 : decode cX11_keepsBy 70 = .ok (.getfield 88, 3) := by decide +kernel
theorem dX11_keepsBy_73 : decode cX11_keepsBy 73 = .ok (.imul, 1) := by decide +kernel
theorem dX11_keepsBy_74 : decode cX11_keepsBy 74 = .ok (.iload_n 3, 1) := by decide +kernel
theorem dX11_keepsBy_75 : decode cX11_keepsBy 75 = .ok (.iadd, 1) := by decide +kernel
theorem dX11_keepsBy_76 : decode cX11_keepsBy 76 = .ok (.iconst 0, 1) := by decide +kernel
theorem dX11_keepsBy_77 : decode cX11_keepsBy 77 = .ok (.iastore, 1) := by decide +kernel
theorem dX11_keepsBy_78 : decode cX11_keepsBy 78 = .ok (.iinc 3 1, 3) := by decide +kernel
theorem dX11_keepsBy_81 : decode cX11_keepsBy 81 = .ok (.goto (-38), 3) := by decide +kernel
theorem dX11_keepsBy_84 : decode cX11_keepsBy 84 = .ok (.aload_n 0, 1) := by decide +kernel
theorem dX11_keepsBy_85 : decode cX11_keepsBy 85 = .ok (.getfield 88, 3) := by decide +kernel
theorem dX11_keepsBy_88 : decode cX11_keepsBy 88 = .ok (.iconst 1, 1) := by decide +kernel
theorem dX11_keepsBy_89 : decode cX11_keepsBy 89 = .ok (.isub, 1) := by decide +kernel
theorem dX11_keepsBy_90 : decode cX11_keepsBy 90 = .ok (.istore_n 3, 1) := by decide +kernel
theorem dX11_keepsBy_91 : decode cX11_keepsBy 91 = .ok (.iload_n 3, 1) := by decide +kernel
theorem dX11_keepsBy_92 : decode cX11_keepsBy 92 = .ok (.ifCond .lt 197, 3) := by decide +kernel
theorem dX11_keepsBy_95 : decode cX11_keepsBy 95 = .ok (.iconst 0, 1) := by decide +kernel
theorem dX11_keepsBy_96 : decode cX11_keepsBy 96 = .ok (.istore 4, 2) := by decide +kernel
theorem dX11_keepsBy_98 : decode cX11_keepsBy 98 = .ok (.iload 4, 2) := by decide +kernel
theorem dX11_keepsBy_100 : decode cX11_keepsBy 100 = .ok (.iload_n 1, 1) := by decide +kernel
theorem dX11_keepsBy_101 : decode cX11_keepsBy 101 = .ok (.if_icmp .gt 182, 3) := by decide +kernel
theorem dX11_keepsBy_104 : decode cX11_keepsBy 104 = .ok (.bipush 100, 2) := by decide +kernel
theorem dX11_keepsBy_106 : decode cX11_keepsBy 106 = .ok (.iload_n 3, 1) := by decide +kernel
theorem dX11_keepsBy_107 : decode cX11_keepsBy 107 = .ok (.imul, 1) := by decide +kernel
theorem dX11_keepsBy_108 : decode cX11_keepsBy 108 = .ok (.iload 4, 2) := by decide +kernel
theorem dX11_keepsBy_110 : decode cX11_keepsBy 110 = .ok (.iadd, 1) := by decide +kernel
theorem dX11_keepsBy_111 : decode cX11_keepsBy 111 = .ok (.istore 5, 2) := by decide +kernel
theorem dX11_keepsBy_113 : decode cX11_keepsBy 113 = .ok (.aload_n 0, 1) := by decide +kernel
theorem dX11_keepsBy_114 : decode cX11_keepsBy 114 = .ok (.getfield 59, 3) := by decide +kernel
theorem dX11_keepsBy_117 : decode cX11_keepsBy 117 = .ok (.iload 5, 2) := by decide +kernel
theorem dX11_keepsBy_119 : decode cX11_keepsBy 119 = .ok (.iconst (-1), 1) := by decide +kernel
theorem dX11_keepsBy_120 : decode cX11_keepsBy 120 = .ok (.iastore, 1) := by decide +kernel
theorem dX11_keepsBy_121 : decode cX11_keepsBy 121 = .ok (.iconst 0, 1) := by decide +kernel
theorem dX11_keepsBy_122 : decode cX11_keepsBy 122 = .ok (.istore 6, 2) := by decide +kernel
theorem dX11_keepsBy_124 : decode cX11_keepsBy 124 = .ok (.iload 6, 2) := by decide +kernel
theorem dX11_keepsBy_126 : decode cX11_keepsBy 126 = .ok (.bipush 9, 2) := by decide +kernel
theorem dX11_keepsBy_128 : decode cX11_keepsBy 128 = .ok (.iload 4, 2) := by decide +kernel
theorem dX11_keepsBy_130 : decode cX11_keepsBy 130 = .ok (.invokestatic 157, 3) := by decide +kernel
theorem dX11_keepsBy_133 : decode cX11_keepsBy 133 = .ok (.if_icmp .gt 144, 3) := by decide +kernel
theorem dX11_keepsBy_136 : decode cX11_keepsBy 136 = .ok (.iload 5, 2) := by decide +kernel
theorem dX11_keepsBy_138 : decode cX11_keepsBy 138 = .ok (.bipush 100, 2) := by decide +kernel
theorem dX11_keepsBy_140 : decode cX11_keepsBy 140 = .ok (.iadd, 1) := by decide +kernel
theorem dX11_keepsBy_141 : decode cX11_keepsBy 141 = .ok (.iload 6, 2) := by decide +kernel
theorem dX11_keepsBy_143 : decode cX11_keepsBy 143 = .ok (.isub, 1) := by decide +kernel
theorem dX11_keepsBy_144 : decode cX11_keepsBy 144 = .ok (.istore 7, 2) := by decide +kernel
theorem dX11_keepsBy_146 : decode cX11_keepsBy 146 = .ok (.aload_n 0, 1) := by decide +kernel
theorem dX11_keepsBy_147 : decode cX11_keepsBy 147 = .ok (.getfield 56, 3) := by decide +kernel
theorem dX11_keepsBy_150 : decode cX11_keepsBy 150 = .ok (.bipush 10, 2) := by decide +kernel
theorem dX11_keepsBy_152 : decode cX11_keepsBy 152 = .ok (.iload_n 3, 1) := by decide +kernel
theorem dX11_keepsBy_153 : decode cX11_keepsBy 153 = .ok (.imul, 1) := by decide +kernel
theorem dX11_keepsBy_154 : decode cX11_keepsBy 154 = .ok (.iload 6, 2) := by decide +kernel
theorem dX11_keepsBy_156 : decode cX11_keepsBy 156 = .ok (.iadd, 1) := by decide +kernel
theorem dX11_keepsBy_157 : decode cX11_keepsBy 157 = .ok (.iaload, 1) := by decide +kernel
theorem dX11_keepsBy_158 : decode cX11_keepsBy 158 = .ok (.aload_n 0, 1) := by decide +kernel
theorem dX11_keepsBy_159 : decode cX11_keepsBy 159 = .ok (.getfield 59, 3) := by decide +kernel
theorem dX11_keepsBy_162 : decode cX11_keepsBy 162 = .ok (.iload 7, 2) := by decide +kernel
theorem dX11_keepsBy_164 : decode cX11_keepsBy 164 = .ok (.iaload, 1) := by decide +kernel
theorem dX11_keepsBy_165 : decode cX11_keepsBy 165 = .ok (.iadd, 1) := by decide +kernel
theorem dX11_keepsBy_166 : decode cX11_keepsBy 166 = .ok (.istore 8, 2) := by decide +kernel
theorem dX11_keepsBy_168 : decode cX11_keepsBy 168 = .ok (.iload 6, 2) := by decide +kernel
theorem dX11_keepsBy_170 : decode cX11_keepsBy 170 = .ok (.aload_n 0, 1) := by decide +kernel
theorem dX11_keepsBy_171 : decode cX11_keepsBy 171 = .ok (.getfield 62, 3) := by decide +kernel
theorem dX11_keepsBy_174 : decode cX11_keepsBy 174 = .ok (.iload 7, 2) := by decide +kernel
theorem dX11_keepsBy_176 : decode cX11_keepsBy 176 = .ok (.iaload, 1) := by decide +kernel
theorem dX11_keepsBy_177 : decode cX11_keepsBy 177 = .ok (.iadd, 1) := by decide +kernel
theorem dX11_keepsBy_178 : decode cX11_keepsBy 178 = .ok (.istore 9, 2) := by decide +kernel
theorem dX11_keepsBy_180 : decode cX11_keepsBy 180 = .ok (.iload 8, 2) := by decide +kernel
theorem dX11_keepsBy_182 : decode cX11_keepsBy 182 = .ok (.aload_n 0, 1) := by decide +kernel
theorem dX11_keepsBy_183 : decode cX11_keepsBy 183 = .ok (.getfield 59, 3) := by decide +kernel
theorem dX11_keepsBy_186 : decode cX11_keepsBy 186 = .ok (.iload 5, 2) := by decide +kernel
theorem dX11_keepsBy_188 : decode cX11_keepsBy 188 = .ok (.iaload, 1) := by decide +kernel
theorem dX11_keepsBy_189 : decode cX11_keepsBy 189 = .ok (.if_icmp .gt 27, 3) := by decide +kernel
theorem dX11_keepsBy_192 : decode cX11_keepsBy 192 = .ok (.iload 8, 2) := by decide +kernel
theorem dX11_keepsBy_194 : decode cX11_keepsBy 194 = .ok (.aload_n 0, 1) := by decide +kernel
theorem dX11_keepsBy_195 : decode cX11_keepsBy 195 = .ok (.getfield 59, 3) := by decide +kernel
theorem dX11_keepsBy_198 : decode cX11_keepsBy 198 = .ok (.iload 5, 2) := by decide +kernel
theorem dX11_keepsBy_200 : decode cX11_keepsBy 200 = .ok (.iaload, 1) := by decide +kernel
theorem dX11_keepsBy_201 : decode cX11_keepsBy 201 = .ok (.if_icmp .ne 19, 3) := by decide +kernel
theorem dX11_keepsBy_204 : decode cX11_keepsBy 204 = .ok (.iload 9, 2) := by decide +kernel
theorem dX11_keepsBy_206 : decode cX11_keepsBy 206 = .ok (.aload_n 0, 1) := by decide +kernel
theorem dX11_keepsBy_207 : decode cX11_keepsBy 207 = .ok (.getfield 62, 3) := by decide +kernel
theorem dX11_keepsBy_210 : decode cX11_keepsBy 210 = .ok (.iload 5, 2) := by decide +kernel
theorem dX11_keepsBy_212 : decode cX11_keepsBy 212 = .ok (.iaload, 1) := by decide +kernel
theorem dX11_keepsBy_213 : decode cX11_keepsBy 213 = .ok (.if_icmp .ge 7, 3) := by decide +kernel
theorem dX11_keepsBy_216 : decode cX11_keepsBy 216 = .ok (.iconst 1, 1) := by decide +kernel
theorem dX11_keepsBy_217 : decode cX11_keepsBy 217 = .ok (.goto 4, 3) := by decide +kernel
theorem dX11_keepsBy_220 : decode cX11_keepsBy 220 = .ok (.iconst 0, 1) := by decide +kernel
theorem dX11_keepsBy_221 : decode cX11_keepsBy 221 = .ok (.istore 10, 2) := by decide +kernel
theorem dX11_keepsBy_223 : decode cX11_keepsBy 223 = .ok (.aload_n 0, 1) := by decide +kernel
theorem dX11_keepsBy_224 : decode cX11_keepsBy 224 = .ok (.getfield 62, 3) := by decide +kernel
theorem dX11_keepsBy_227 : decode cX11_keepsBy 227 = .ok (.iload 5, 2) := by decide +kernel
theorem dX11_keepsBy_229 : decode cX11_keepsBy 229 = .ok (.iload 10, 2) := by decide +kernel
theorem dX11_keepsBy_231 : decode cX11_keepsBy 231 = .ok (.ifCond .eq 8, 3) := by decide +kernel
theorem dX11_keepsBy_234 : decode cX11_keepsBy 234 = .ok (.iload 9, 2) := by decide +kernel
theorem dX11_keepsBy_236 : decode cX11_keepsBy 236 = .ok (.goto 10, 3) := by decide +kernel
theorem dX11_keepsBy_239 : decode cX11_keepsBy 239 = .ok (.aload_n 0, 1) := by decide +kernel
theorem dX11_keepsBy_240 : decode cX11_keepsBy 240 = .ok (.getfield 62, 3) := by decide +kernel
theorem dX11_keepsBy_243 : decode cX11_keepsBy 243 = .ok (.iload 5, 2) := by decide +kernel
theorem dX11_keepsBy_245 : decode cX11_keepsBy 245 = .ok (.iaload, 1) := by decide +kernel
theorem dX11_keepsBy_246 : decode cX11_keepsBy 246 = .ok (.iastore, 1) := by decide +kernel
theorem dX11_keepsBy_247 : decode cX11_keepsBy 247 = .ok (.aload_n 0, 1) := by decide +kernel
theorem dX11_keepsBy_248 : decode cX11_keepsBy 248 = .ok (.getfield 59, 3) := by decide +kernel
theorem dX11_keepsBy_251 : decode cX11_keepsBy 251 = .ok (.iload 5, 2) := by decide +kernel
theorem dX11_keepsBy_253 : decode cX11_keepsBy 253 = .ok (.iload 10, 2) := by decide +kernel
theorem dX11_keepsBy_255 : decode cX11_keepsBy 255 = .ok (.ifCond .eq 8, 3) := by decide +kernel
theorem dX11_keepsBy_258 : decode cX11_keepsBy 258 = .ok (.iload 8, 2) := by decide +kernel
theorem dX11_keepsBy_260 : decode cX11_keepsBy 260 = .ok (.goto 10, 3) := by decide +kernel
theorem dX11_keepsBy_263 : decode cX11_keepsBy 263 = .ok (.aload_n 0, 1) := by decide +kernel
theorem dX11_keepsBy_264 : decode cX11_keepsBy 264 = .ok (.getfield 59, 3) := by decide +kernel
theorem dX11_keepsBy_267 : decode cX11_keepsBy 267 = .ok (.iload 5, 2) := by decide +kernel
theorem dX11_keepsBy_269 : decode cX11_keepsBy 269 = .ok (.iaload, 1) := by decide +kernel
theorem dX11_keepsBy_270 : decode cX11_keepsBy 270 = .ok (.iastore, 1) := by decide +kernel
theorem dX11_keepsBy_271 : decode cX11_keepsBy 271 = .ok (.iinc 6 1, 3) := by decide +kernel
theorem dX11_keepsBy_274 : decode cX11_keepsBy 274 = .ok (.goto (-150), 3) := by decide +kernel
theorem dX11_keepsBy_277 : decode cX11_keepsBy 277 = .ok (.iinc 4 1, 3) := by decide +kernel
theorem dX11_keepsBy_280 : decode cX11_keepsBy 280 = .ok (.goto (-182), 3) := by decide +kernel
theorem dX11_keepsBy_283 : decode cX11_keepsBy 283 = .ok (.iinc 3 (-1), 3) := by decide +kernel
theorem dX11_keepsBy_286 : decode cX11_keepsBy 286 = .ok (.goto (-195), 3) := by decide +kernel
theorem dX11_keepsBy_289 : decode cX11_keepsBy 289 = .ok (.return_, 1) := by decide +kernel
set_option maxRecDepth 20000 in
theorem ggX11_best_X11_in : GoodIn wsX11_best wsX11_in := goodIn_r _ [12] rfl (by decide +kernel)
set_option maxRecDepth 20000 in
theorem gX11_best_X11_in : GoodIn wsX11_best (va_wsS RX11 101 yX11_in wsX11_in) := goodIn_app (goodIn_of _ (by decide +kernel)) ggX11_best_X11_in
set_option maxRecDepth 20000 in
theorem ggX11_best_X11_keepsBy : GoodIn wsX11_best wsX11_keepsBy := goodIn_r _ [16, 4, 5, 6, 7, 17, 18, 19, 11, 20, 21, 22, 23, 24, 25, 26, 27, 28, 29, 30, 31, 32, 33, 34, 35, 36, 37, 38, 39, 40, 41, 42, 43, 44, 45, 46, 47, 48, 49, 50, 51, 52, 53, 54, 55, 56, 57, 58, 59, 60, 61, 62, 63, 64, 65, 66, 67, 68, 69, 70, 71, 72, 73, 74, 75, 76, 77, 78, 79, 80, 81, 82, 83, 84, 85, 86, 87, 88, 89, 90, 91, 92, 93, 94, 95, 96, 97, 98, 99] rfl (by decide +kernel)
set_option maxRecDepth 20000 in
theorem gX11_best_X11_keepsBy : GoodIn wsX11_best (wsV RX11 232 RX11 yX11_keepsBy wsX11_keepsBy) := goodIn_app (goodIn_of _ (by decide +kernel)) ggX11_best_X11_keepsBy
theorem dX11_best_0 : decode cX11_best 0 = .ok (.iload_n 1, 1) := by decide +kernel
theorem dX11_best_1 : decode cX11_best 1 = .ok (.i2l, 1) := by decide +kernel
theorem dX11_best_2 : decode cX11_best 2 = .ok (.lconst 0, 1) := by decide +kernel
theorem dX11_best_3 : decode cX11_best 3 = .ok (.ldc2_w 228, 3) := by decide +kernel
theorem dX11_best_6 : decode cX11_best 6 = .ok (.invokestatic 101, 3) := by decide +kernel
theorem dX11_best_9 : decode cX11_best 9 = .ok (.ifCond .eq 33, 3) := by decide +kernel
theorem dX11_best_12 : decode cX11_best 12 = .ok (.iload_n 2, 1) := by decide +kernel
theorem dX11_best_13 : decode cX11_best 13 = .ok (.i2l, 1) := by decide +kernel
theorem dX11_best_14 : decode cX11_best 14 = .ok (.lconst 1, 1) := by decide +kernel
theorem dX11_best_15 : decode cX11_best 15 = .ok (.ldc2_w 196, 3) := by decide +kernel
theorem dX11_best_18 : decode cX11_best 18 = .ok (.invokestatic 101, 3) := by decide +kernel
theorem dX11_best_21 : decode cX11_best 21 = .ok (.ifCond .eq 21, 3) := by decide +kernel
theorem dX11_best_24 : decode cX11_best 24 = .ok (.iload_n 3, 1) := by decide +kernel
theorem dX11_best_25 : decode cX11_best 25 = .ok (.i2l, 1) := by decide +kernel
theorem dX11_best_26 : decode cX11_best 26 = .ok (.ldc2_w 230, 3) := by decide +kernel
theorem dX11_best_29 : decode cX11_best 29 = .ok (.aload_n 0, 1) := by decide +kernel
theorem dX11_best_30 : decode cX11_best 30 = .ok (.getfield 88, 3) := by decide +kernel
theorem dX11_best_33 : decode cX11_best 33 = .ok (.iconst 1, 1) := by decide +kernel
theorem dX11_best_34 : decode cX11_best 34 = .ok (.isub, 1) := by decide +kernel
theorem dX11_best_35 : decode cX11_best 35 = .ok (.i2l, 1) := by decide +kernel
theorem dX11_best_36 : decode cX11_best 36 = .ok (.invokestatic 101, 3) := by decide +kernel
theorem dX11_best_39 : decode cX11_best 39 = .ok (.ifCond .ne 5, 3) := by decide +kernel
theorem dX11_best_42 : decode cX11_best 42 = .ok (.iconst (-1), 1) := by decide +kernel
theorem dX11_best_43 : decode cX11_best 43 = .ok (.ireturn, 1) := by decide +kernel
theorem dX11_best_44 : decode cX11_best 44 = .ok (.aload_n 0, 1) := by decide +kernel
theorem dX11_best_45 : decode cX11_best 45 = .ok (.iload_n 1, 1) := by decide +kernel
theorem dX11_best_46 : decode cX11_best 46 = .ok (.iload_n 2, 1) := by decide +kernel
theorem dX11_best_47 : decode cX11_best 47 = .ok (.invokevirtual 232, 3) := by decide +kernel
theorem dX11_best_50 : decode cX11_best 50 = .ok (.iload_n 1, 1) := by decide +kernel
theorem dX11_best_51 : decode cX11_best 51 = .ok (.istore 4, 2) := by decide +kernel
theorem dX11_best_53 : decode cX11_best 53 = .ok (.iconst 0, 1) := by decide +kernel
theorem dX11_best_54 : decode cX11_best 54 = .ok (.istore 5, 2) := by decide +kernel
theorem dX11_best_56 : decode cX11_best 56 = .ok (.iload 5, 2) := by decide +kernel
theorem dX11_best_58 : decode cX11_best 58 = .ok (.aload_n 0, 1) := by decide +kernel
theorem dX11_best_59 : decode cX11_best 59 = .ok (.getfield 88, 3) := by decide +kernel
theorem dX11_best_62 : decode cX11_best 62 = .ok (.if_icmp .ge 107, 3) := by decide +kernel
theorem dX11_best_65 : decode cX11_best 65 = .ok (.bipush 100, 2) := by decide +kernel
theorem dX11_best_67 : decode cX11_best 67 = .ok (.iload 5, 2) := by decide +kernel
theorem dX11_best_69 : decode cX11_best 69 = .ok (.imul, 1) := by decide +kernel
theorem dX11_best_70 : decode cX11_best 70 = .ok (.iload 4, 2) := by decide +kernel
theorem dX11_best_72 : decode cX11_best 72 = .ok (.iadd, 1) := by decide +kernel
theorem dX11_best_73 : decode cX11_best 73 = .ok (.istore 6, 2) := by decide +kernel
theorem dX11_best_75 : decode cX11_best 75 = .ok (.iconst 0, 1) := by decide +kernel
theorem dX11_best_76 : decode cX11_best 76 = .ok (.istore 7, 2) := by decide +kernel
theorem dX11_best_78 : decode cX11_best 78 = .ok (.aload_n 0, 1) := by decide +kernel
theorem dX11_best_79 : decode cX11_best 79 = .ok (.getfield 56, 3) := by decide +kernel
theorem dX11_best_82 : decode cX11_best 82 = .ok (.bipush 10, 2) := by decide +kernel
theorem dX11_best_84 : decode cX11_best 84 = .ok (.iload 5, 2) := by decide +kernel
theorem dX11_best_86 : decode cX11_best 86 = .ok (.imul, 1) := by decide +kernel
theorem dX11_best_87 : decode cX11_best 87 = .ok (.iload 7, 2) := by decide +kernel
theorem dX11_best_89 : decode cX11_best 89 = .ok (.iadd, 1) := by decide +kernel
theorem dX11_best_90 : decode cX11_best 90 = .ok (.iaload, 1) := by decide +kernel
theorem dX11_best_91 : decode cX11_best 91 = .ok (.aload_n 0, 1) := by decide +kernel
theorem dX11_best_92 : decode cX11_best 92 = .ok (.getfield 59, 3) := by decide +kernel
theorem dX11_best_95 : decode cX11_best 95 = .ok (.iload 6, 2) := by decide +kernel
theorem dX11_best_97 : decode cX11_best 97 = .ok (.bipush 100, 2) := by decide +kernel
theorem dX11_best_99 : decode cX11_best 99 = .ok (.iadd, 1) := by decide +kernel
theorem dX11_best_100 : decode cX11_best 100 = .ok (.iload 7, 2) := by decide +kernel
theorem dX11_best_102 : decode cX11_best 102 = .ok (.isub, 1) := by decide +kernel
theorem dX11_best_103 : decode cX11_best 103 = .ok (.iaload, 1) := by decide +kernel
theorem dX11_best_104 : decode cX11_best 104 = .ok (.iadd, 1) := by decide +kernel
theorem dX11_best_105 : decode cX11_best 105 = .ok (.aload_n 0, 1) := by decide +kernel
theorem dX11_best_106 : decode cX11_best 106 = .ok (.getfield 59, 3) := by decide +kernel
theorem dX11_best_109 : decode cX11_best 109 = .ok (.iload 6, 2) := by decide +kernel
theorem dX11_best_111 : decode cX11_best 111 = .ok (.iaload, 1) := by decide +kernel
theorem dX11_best_112 : decode cX11_best 112 = .ok (.if_icmp .ne 29, 3) := by decide +kernel
theorem dX11_best_115 : decode cX11_best 115 = .ok (.iload 7, 2) := by decide +kernel
theorem dX11_best_117 : decode cX11_best 117 = .ok (.aload_n 0, 1) := by decide +kernel
theorem dX11_best_118 : decode cX11_best 118 = .ok (.getfield 62, 3) := by decide +kernel
theorem dX11_best_121 : decode cX11_best 121 = .ok (.iload 6, 2) := by decide +kernel
theorem dX11_best_123 : decode cX11_best 123 = .ok (.bipush 100, 2) := by decide +kernel
theorem dX11_best_125 : decode cX11_best 125 = .ok (.iadd, 1) := by decide +kernel
theorem dX11_best_126 : decode cX11_best 126 = .ok (.iload 7, 2) := by decide +kernel
theorem dX11_best_128 : decode cX11_best 128 = .ok (.isub, 1) := by decide +kernel
theorem dX11_best_129 : decode cX11_best 129 = .ok (.iaload, 1) := by decide +kernel
theorem dX11_best_130 : decode cX11_best 130 = .ok (.iadd, 1) := by decide +kernel
theorem dX11_best_131 : decode cX11_best 131 = .ok (.aload_n 0, 1) := by decide +kernel
theorem dX11_best_132 : decode cX11_best 132 = .ok (.getfield 62, 3) := by decide +kernel
theorem dX11_best_135 : decode cX11_best 135 = .ok (.iload 6, 2) := by decide +kernel
theorem dX11_best_137 : decode cX11_best 137 = .ok (.iaload, 1) := by decide +kernel
theorem dX11_best_138 : decode cX11_best 138 = .ok (.if_icmp .eq 9, 3) := by decide +kernel
theorem dX11_best_141 : decode cX11_best 141 = .ok (.iinc 7 1, 3) := by decide +kernel
theorem dX11_best_144 : decode cX11_best 144 = .ok (.goto (-66), 3) := by decide +kernel
theorem dX11_best_147 : decode cX11_best 147 = .ok (.aload_n 0, 1) := by decide +kernel
theorem dX11_best_148 : decode cX11_best 148 = .ok (.getfield 65, 3) := by decide +kernel
theorem dX11_best_151 : decode cX11_best 151 = .ok (.iload 5, 2) := by decide +kernel
theorem dX11_best_153 : decode cX11_best 153 = .ok (.iload 7, 2) := by decide +kernel
theorem dX11_best_155 : decode cX11_best 155 = .ok (.iastore, 1) := by decide +kernel
theorem dX11_best_156 : decode cX11_best 156 = .ok (.iload 4, 2) := by decide +kernel
theorem dX11_best_158 : decode cX11_best 158 = .ok (.iload 7, 2) := by decide +kernel
theorem dX11_best_160 : decode cX11_best 160 = .ok (.isub, 1) := by decide +kernel
theorem dX11_best_161 : decode cX11_best 161 = .ok (.istore 4, 2) := by decide +kernel
theorem dX11_best_163 : decode cX11_best 163 = .ok (.iinc 5 1, 3) := by decide +kernel
theorem dX11_best_166 : decode cX11_best 166 = .ok (.goto (-110), 3) := by decide +kernel
theorem dX11_best_169 : decode cX11_best 169 = .ok (.iload_n 3, 1) := by decide +kernel
theorem dX11_best_170 : decode cX11_best 170 = .ok (.ifCond .ge 12, 3) := by decide +kernel
theorem dX11_best_173 : decode cX11_best 173 = .ok (.aload_n 0, 1) := by decide +kernel
theorem dX11_best_174 : decode cX11_best 174 = .ok (.getfield 59, 3) := by decide +kernel
theorem dX11_best_177 : decode cX11_best 177 = .ok (.iload_n 1, 1) := by decide +kernel
theorem dX11_best_178 : decode cX11_best 178 = .ok (.iaload, 1) := by decide +kernel
theorem dX11_best_179 : decode cX11_best 179 = .ok (.goto 9, 3) := by decide +kernel
theorem dX11_best_182 : decode cX11_best 182 = .ok (.aload_n 0, 1) := by decide +kernel
theorem dX11_best_183 : decode cX11_best 183 = .ok (.getfield 65, 3) := by decide +kernel
theorem dX11_best_186 : decode cX11_best 186 = .ok (.iload_n 3, 1) := by decide +kernel
theorem dX11_best_187 : decode cX11_best 187 = .ok (.iaload, 1) := by decide +kernel
theorem dX11_best_188 : decode cX11_best 188 = .ok (.ireturn, 1) := by decide +kernel
theorem dX11_alive_0 : decode cX11_alive 0 = .ok (.iconst 0, 1) := by decide +kernel
theorem dX11_alive_1 : decode cX11_alive 1 = .ok (.istore_n 2, 1) := by decide +kernel
theorem dX11_alive_2 : decode cX11_alive 2 = .ok (.iconst 0, 1) := by decide +kernel
theorem dX11_alive_3 : decode cX11_alive 3 = .ok (.istore_n 3, 1) := by decide +kernel
theorem dX11_alive_4 : decode cX11_alive 4 = .ok (.iload_n 3, 1) := by decide +kernel
theorem dX11_alive_5 : decode cX11_alive 5 = .ok (.aload_n 0, 1) := by decide +kernel
theorem dX11_alive_6 : decode cX11_alive 6 = .ok (.getfield 94, 3) := by decide +kernel
theorem dX11_alive_9 : decode cX11_alive 9 = .ok (.if_icmp .ge 28, 3) := by decide +kernel
theorem dX11_alive_12 : decode cX11_alive 12 = .ok (.iload_n 2, 1) := by decide +kernel
theorem dX11_alive_13 : decode cX11_alive 13 = .ok (.aload_n 0, 1) := by decide +kernel
theorem dX11_alive_14 : decode cX11_alive 14 = .ok (.getfield 37, 3) := by decide +kernel
theorem dX11_alive_17 : decode cX11_alive 17 = .ok (.iload_n 1, 1) := by decide +kernel
theorem dX11_alive_18 : decode cX11_alive 18 = .ok (.iload_n 3, 1) := by decide +kernel
theorem dX11_alive_19 : decode cX11_alive 19 = .ok (.iadd, 1) := by decide +kernel
theorem dX11_alive_20 : decode cX11_alive 20 = .ok (.iaload, 1) := by decide +kernel
theorem dX11_alive_21 : decode cX11_alive 21 = .ok (.ifCond .le 7, 3) := by decide +kernel
theorem dX11_alive_24 : decode cX11_alive 24 = .ok (.iconst 1, 1) := by decide +kernel
theorem dX11_alive_25 : decode cX11_alive 25 = .ok (.goto 4, 3) := by decide +kernel
theorem dX11_alive_28 : decode cX11_alive 28 = .ok (.iconst 0, 1) := by decide +kernel
theorem dX11_alive_29 : decode cX11_alive 29 = .ok (.iadd, 1) := by decide +kernel
theorem dX11_alive_30 : decode cX11_alive 30 = .ok (.istore_n 2, 1) := by decide +kernel
theorem dX11_alive_31 : decode cX11_alive 31 = .ok (.iinc 3 1, 3) := by decide +kernel
theorem dX11_alive_34 : decode cX11_alive 34 = .ok (.goto (-30), 3) := by decide +kernel
theorem dX11_alive_37 : decode cX11_alive 37 = .ok (.iload_n 2, 1) := by decide +kernel
theorem dX11_alive_38 : decode cX11_alive 38 = .ok (.ireturn, 1) := by decide +kernel
set_option maxRecDepth 20000 in
theorem ggX11_help_X11_in : GoodIn wsX11_help wsX11_in := goodIn_r _ [6] rfl (by decide +kernel)
set_option maxRecDepth 20000 in
theorem gX11_help_X11_in : GoodIn wsX11_help (va_wsS RX11 101 yX11_in wsX11_in) := goodIn_app (goodIn_of _ (by decide +kernel)) ggX11_help_X11_in
set_option maxRecDepth 20000 in
theorem ggX11_help_X11_has : GoodIn wsX11_help wsX11_has := goodIn_r _ [9] rfl (by decide +kernel)
set_option maxRecDepth 20000 in
theorem gX11_help_X11_has : GoodIn wsX11_help (va_wsS RX11 160 yX11_has wsX11_has) := goodIn_app (goodIn_of _ (by decide +kernel)) ggX11_help_X11_has
set_option maxRecDepth 20000 in
theorem ggX11_help_X11_copies : GoodIn wsX11_help wsX11_copies := goodIn_r _ [13, 2, 54, 55, 56, 57, 58, 59, 60, 61, 62, 63, 64, 65, 66, 67, 68, 69, 70, 71, 72, 73, 74, 75, 76, 77, 78, 79, 80, 81, 82, 83, 84, 85] rfl (by decide +kernel)
set_option maxRecDepth 20000 in
theorem gX11_help_X11_copies : GoodIn wsX11_help (wsV RX11 97 RX11 yX11_copies wsX11_copies) := goodIn_app (goodIn_of _ (by decide +kernel)) ggX11_help_X11_copies
set_option maxRecDepth 20000 in
theorem ggX11_help_X11_tries : GoodIn wsX11_help wsX11_tries := goodIn_r _ [17, 18, 19, 20, 5, 21, 22, 2, 1, 23, 24, 25, 26, 27, 28, 29, 30, 31, 32, 33, 34, 35, 36, 7, 8, 9, 37, 38, 39, 40, 41, 42, 43, 44, 45, 46, 47, 48, 49, 54, 55, 56, 57, 58, 59, 60, 61, 62, 63, 64, 65, 66, 67, 68, 69, 70, 71, 72, 73, 74, 75, 76, 77, 78, 79, 80, 81, 82, 83, 84, 85] rfl (by decide +kernel)
set_option maxRecDepth 20000 in
theorem gX11_help_X11_tries : GoodIn wsX11_help (wsV RX11 214 RX11 yX11_tries wsX11_tries) := goodIn_app (goodIn_of _ (by decide +kernel)) ggX11_help_X11_tries
set_option maxRecDepth 20000 in
theorem ggX11_help_X11_alive : GoodIn wsX11_help wsX11_alive := goodIn_r _ [53, 1, 2, 54, 55, 56, 57, 58, 59, 60, 61, 62, 63, 64, 65, 66, 67, 68, 69, 70, 71, 72, 73, 74, 75, 76, 77, 78, 79, 80, 81, 82, 83, 84, 85] rfl (by decide +kernel)
set_option maxRecDepth 20000 in
theorem gX11_help_X11_alive : GoodIn wsX11_help (wsV RX11 235 RX11 yX11_alive wsX11_alive) := goodIn_app (goodIn_of _ (by decide +kernel)) ggX11_help_X11_alive
set_option maxRecDepth 20000 in
theorem ggX11_help_X11_larger : GoodIn wsX11_help wsX11_larger := goodIn_r _ [49] rfl (by decide +kernel)
set_option maxRecDepth 20000 in
theorem gX11_help_X11_larger : GoodIn wsX11_help (va_wsS RX11 189 yX11_larger wsX11_larger) := goodIn_app (goodIn_of _ (by decide +kernel)) ggX11_help_X11_larger
theorem dX11_help_0 : decode cX11_help 0 = .ok (.iload_n 1, 1) := by decide +kernel
theorem dX11_help_1 : decode cX11_help 1 = .ok (.i2l, 1) := by decide +kernel
theorem dX11_help_2 : decode cX11_help 2 = .ok (.lconst 0, 1) := by decide +kernel
theorem dX11_help_3 : decode cX11_help 3 = .ok (.lconst 1, 1) := by decide +kernel
theorem dX11_help_4 : decode cX11_help 4 = .ok (.invokestatic 101, 3) := by decide +kernel
theorem dX11_help_7 : decode cX11_help 7 = .ok (.ifCond .ne 5, 3) := by decide +kernel
theorem dX11_help_10 : decode cX11_help 10 = .ok (.iconst (-1), 1) := by decide +kernel
theorem dX11_help_11 : decode cX11_help 11 = .ok (.ireturn, 1) := by decide +kernel
theorem dX11_help_12 : decode cX11_help 12 = .ok (.bipush (-4), 2) := by decide +kernel
theorem dX11_help_14 : decode cX11_help 14 = .ok (.istore_n 2, 1) := by decide +kernel
theorem dX11_help_15 : decode cX11_help 15 = .ok (.iconst (-1), 1) := by decide +kernel
theorem dX11_help_16 : decode cX11_help 16 = .ok (.istore_n 3, 1) := by decide +kernel
theorem dX11_help_17 : decode cX11_help 17 = .ok (.iconst 0, 1) := by decide +kernel
theorem dX11_help_18 : decode cX11_help 18 = .ok (.istore 4, 2) := by decide +kernel
theorem dX11_help_20 : decode cX11_help 20 = .ok (.iload 4, 2) := by decide +kernel
theorem dX11_help_22 : decode cX11_help 22 = .ok (.aload_n 0, 1) := by decide +kernel
theorem dX11_help_23 : decode cX11_help 23 = .ok (.getfield 94, 3) := by decide +kernel
theorem dX11_help_26 : decode cX11_help 26 = .ok (.if_icmp .ge 112, 3) := by decide +kernel
theorem dX11_help_29 : decode cX11_help 29 = .ok (.aload_n 0, 1) := by decide +kernel
theorem dX11_help_30 : decode cX11_help 30 = .ok (.getfield 37, 3) := by decide +kernel
theorem dX11_help_33 : decode cX11_help 33 = .ok (.iload 4, 2) := by decide +kernel
theorem dX11_help_35 : decode cX11_help 35 = .ok (.iaload, 1) := by decide +kernel
theorem dX11_help_36 : decode cX11_help 36 = .ok (.ifCond .le 96, 3) := by decide +kernel
theorem dX11_help_39 : decode cX11_help 39 = .ok (.aload_n 0, 1) := by decide +kernel
theorem dX11_help_40 : decode cX11_help 40 = .ok (.getfield 37, 3) := by decide +kernel
theorem dX11_help_43 : decode cX11_help 43 = .ok (.bipush 8, 2) := by decide +kernel
theorem dX11_help_45 : decode cX11_help 45 = .ok (.iaload, 1) := by decide +kernel
theorem dX11_help_46 : decode cX11_help 46 = .ok (.iload 4, 2) := by decide +kernel
theorem dX11_help_48 : decode cX11_help 48 = .ok (.invokestatic 160, 3) := by decide +kernel
theorem dX11_help_51 : decode cX11_help 51 = .ok (.ifCond .ne 81, 3) := by decide +kernel
theorem dX11_help_54 : decode cX11_help 54 = .ok (.aload_n 0, 1) := by decide +kernel
theorem dX11_help_55 : decode cX11_help 55 = .ok (.iconst 0, 1) := by decide +kernel
theorem dX11_help_56 : decode cX11_help 56 = .ok (.sipush 308, 3) := by decide +kernel
theorem dX11_help_59 : decode cX11_help 59 = .ok (.invokevirtual 97, 3) := by decide +kernel
theorem dX11_help_62 : decode cX11_help 62 = .ok (.aload_n 0, 1) := by decide +kernel
theorem dX11_help_63 : decode cX11_help 63 = .ok (.getfield 37, 3) := by decide +kernel
theorem dX11_help_66 : decode cX11_help 66 = .ok (.sipush 316, 3) := by decide +kernel
theorem dX11_help_69 : decode cX11_help 69 = .ok (.dup2, 1) := by decide +kernel
theorem dX11_help_70 : decode cX11_help 70 = .ok (.iaload, 1) := by decide +kernel
theorem dX11_help_71 : decode cX11_help 71 = .ok (.iconst 1, 1) := by decide +kernel
theorem dX11_help_72 : decode cX11_help 72 = .ok (.iload 4, 2) := by decide +kernel
theorem dX11_help_74 : decode cX11_help 74 = .ok (.ishl, 1) := by decide +kernel
theorem dX11_help_75 : decode cX11_help 75 = .ok (.ior, 1) := by decide +kernel
theorem dX11_help_76 : decode cX11_help 76 = .ok (.iastore, 1) := by decide +kernel
theorem dX11_help_77 : decode cX11_help 77 = .ok (.aload_n 0, 1) := by decide +kernel
theorem dX11_help_78 : decode cX11_help 78 = .ok (.bipush 10, 2) := by decide +kernel
theorem dX11_help_80 : decode cX11_help 80 = .ok (.invokevirtual 214, 3) := by decide +kernel
theorem dX11_help_83 : decode cX11_help 83 = .ok (.aload_n 0, 1) := by decide +kernel
theorem dX11_help_84 : decode cX11_help 84 = .ok (.sipush 308, 3) := by decide +kernel
theorem dX11_help_87 : decode cX11_help 87 = .ok (.invokevirtual 235, 3) := by decide +kernel
theorem dX11_help_90 : decode cX11_help 90 = .ok (.aload_n 0, 1) := by decide +kernel
theorem dX11_help_91 : decode cX11_help 91 = .ok (.getfield 37, 3) := by decide +kernel
theorem dX11_help_94 : decode cX11_help 94 = .ok (.sipush 308, 3) := by decide +kernel
theorem dX11_help_97 : decode cX11_help 97 = .ok (.iload 4, 2) := by decide +kernel
theorem dX11_help_99 : decode cX11_help 99 = .ok (.iadd, 1) := by decide +kernel
theorem dX11_help_100 : decode cX11_help 100 = .ok (.iaload, 1) := by decide +kernel
theorem dX11_help_101 : decode cX11_help 101 = .ok (.ifCond .le 7, 3) := by decide +kernel
theorem dX11_help_104 : decode cX11_help 104 = .ok (.iconst 1, 1) := by decide +kernel
theorem dX11_help_105 : decode cX11_help 105 = .ok (.goto 4, 3) := by decide +kernel
theorem dX11_help_108 : decode cX11_help 108 = .ok (.iconst 0, 1) := by decide +kernel
theorem dX11_help_109 : decode cX11_help 109 = .ok (.isub, 1) := by decide +kernel
theorem dX11_help_110 : decode cX11_help 110 = .ok (.istore 5, 2) := by decide +kernel
theorem dX11_help_112 : decode cX11_help 112 = .ok (.iload 5, 2) := by decide +kernel
theorem dX11_help_114 : decode cX11_help 114 = .ok (.iload_n 3, 1) := by decide +kernel
theorem dX11_help_115 : decode cX11_help 115 = .ok (.if_icmp .le 8, 3) := by decide +kernel
theorem dX11_help_118 : decode cX11_help 118 = .ok (.iload 4, 2) := by decide +kernel
theorem dX11_help_120 : decode cX11_help 120 = .ok (.goto 4, 3) := by decide +kernel
theorem dX11_help_123 : decode cX11_help 123 = .ok (.iload_n 2, 1) := by decide +kernel
theorem dX11_help_124 : decode cX11_help 124 = .ok (.istore_n 2, 1) := by decide +kernel
theorem dX11_help_125 : decode cX11_help 125 = .ok (.iload_n 3, 1) := by decide +kernel
theorem dX11_help_126 : decode cX11_help 126 = .ok (.iload 5, 2) := by decide +kernel
theorem dX11_help_128 : decode cX11_help 128 = .ok (.invokestatic 189, 3) := by decide +kernel
theorem dX11_help_131 : decode cX11_help 131 = .ok (.istore_n 3, 1) := by decide +kernel
theorem dX11_help_132 : decode cX11_help 132 = .ok (.iinc 4 1, 3) := by decide +kernel
theorem dX11_help_135 : decode cX11_help 135 = .ok (.goto (-115), 3) := by decide +kernel
theorem dX11_help_138 : decode cX11_help 138 = .ok (.iload_n 2, 1) := by decide +kernel
theorem dX11_help_139 : decode cX11_help 139 = .ok (.ifCond .lt 7, 3) := by decide +kernel
theorem dX11_help_142 : decode cX11_help 142 = .ok (.iload_n 1, 1) := by decide +kernel
theorem dX11_help_143 : decode cX11_help 143 = .ok (.ifCond .ne 7, 3) := by decide +kernel
theorem dX11_help_146 : decode cX11_help 146 = .ok (.iload_n 2, 1) := by decide +kernel
theorem dX11_help_147 : decode cX11_help 147 = .ok (.goto 4, 3) := by decide +kernel
theorem dX11_help_150 : decode cX11_help 150 = .ok (.iload_n 3, 1) := by decide +kernel
theorem dX11_help_151 : decode cX11_help 151 = .ok (.ireturn, 1) := by decide +kernel
set_option maxRecDepth 20000 in
theorem ggX11_see_X11_isStep : GoodIn wsX11_see wsX11_isStep := goodIn_r _ [9, 10, 11, 12, 8, 13, 14, 15, 16, 17, 18, 19, 20, 21, 22, 23, 24, 25, 26, 27, 28, 29, 30, 31, 32, 33, 34, 35, 36, 37, 38, 39, 40, 41, 42, 43, 44, 45] rfl (by decide +kernel)
set_option maxRecDepth 20000 in
theorem gX11_see_X11_isStep : GoodIn wsX11_see (wsV RX11 175 RX11 yX11_isStep wsX11_isStep) := goodIn_app (goodIn_of _ (by decide +kernel)) ggX11_see_X11_isStep
set_option maxRecDepth 20000 in
theorem ggX11_see_X11_in : GoodIn wsX11_see wsX11_in := goodIn_r _ [13] rfl (by decide +kernel)
set_option maxRecDepth 20000 in
theorem gX11_see_X11_in : GoodIn wsX11_see (va_wsS RX11 101 yX11_in wsX11_in) := goodIn_app (goodIn_of _ (by decide +kernel)) ggX11_see_X11_in
theorem dX11_see_0 : decode cX11_see 0 = .ok (.aload_n 0, 1) := by decide +kernel
theorem dX11_see_1 : decode cX11_see 1 = .ok (.iload_n 1, 1) := by decide +kernel
theorem dX11_see_2 : decode cX11_see 2 = .ok (.invokevirtual 175, 3) := by decide +kernel
theorem dX11_see_5 : decode cX11_see 5 = .ok (.ifCond .eq 15, 3) := by decide +kernel
theorem dX11_see_8 : decode cX11_see 8 = .ok (.iload_n 2, 1) := by decide +kernel
theorem dX11_see_9 : decode cX11_see 9 = .ok (.i2l, 1) := by decide +kernel
theorem dX11_see_10 : decode cX11_see 10 = .ok (.lconst 0, 1) := by decide +kernel
theorem dX11_see_11 : decode cX11_see 11 = .ok (.ldc2_w 204, 3) := by decide +kernel
theorem dX11_see_14 : decode cX11_see 14 = .ok (.invokestatic 101, 3) := by decide +kernel
theorem dX11_see_17 : decode cX11_see 17 = .ok (.ifCond .ne 5, 3) := by decide +kernel
theorem dX11_see_20 : decode cX11_see 20 = .ok (.iconst (-1), 1) := by decide +kernel
theorem dX11_see_21 : decode cX11_see 21 = .ok (.ireturn, 1) := by decide +kernel
theorem dX11_see_22 : decode cX11_see 22 = .ok (.aload_n 0, 1) := by decide +kernel
theorem dX11_see_23 : decode cX11_see 23 = .ok (.getfield 154, 3) := by decide +kernel
theorem dX11_see_26 : decode cX11_see 26 = .ok (.bipush 6, 2) := by decide +kernel
theorem dX11_see_28 : decode cX11_see 28 = .ok (.if_icmp .ne 6, 3) := by decide +kernel
theorem dX11_see_31 : decode cX11_see 31 = .ok (.bipush (-3), 2) := by decide +kernel
theorem dX11_see_33 : decode cX11_see 33 = .ok (.ireturn, 1) := by decide +kernel
theorem dX11_see_34 : decode cX11_see 34 = .ok (.aload_n 0, 1) := by decide +kernel
theorem dX11_see_35 : decode cX11_see 35 = .ok (.getfield 44, 3) := by decide +kernel
theorem dX11_see_38 : decode cX11_see 38 = .ok (.aload_n 0, 1) := by decide +kernel
theorem dX11_see_39 : decode cX11_see 39 = .ok (.getfield 154, 3) := by decide +kernel
theorem dX11_see_42 : decode cX11_see 42 = .ok (.iload_n 1, 1) := by decide +kernel
theorem dX11_see_43 : decode cX11_see 43 = .ok (.iastore, 1) := by decide +kernel
theorem dX11_see_44 : decode cX11_see 44 = .ok (.aload_n 0, 1) := by decide +kernel
theorem dX11_see_45 : decode cX11_see 45 = .ok (.getfield 47, 3) := by decide +kernel
theorem dX11_see_48 : decode cX11_see 48 = .ok (.aload_n 0, 1) := by decide +kernel
theorem dX11_see_49 : decode cX11_see 49 = .ok (.getfield 154, 3) := by decide +kernel
theorem dX11_see_52 : decode cX11_see 52 = .ok (.iload_n 2, 1) := by decide +kernel
theorem dX11_see_53 : decode cX11_see 53 = .ok (.iastore, 1) := by decide +kernel
theorem dX11_see_54 : decode cX11_see 54 = .ok (.aload_n 0, 1) := by decide +kernel
theorem dX11_see_55 : decode cX11_see 55 = .ok (.dup, 1) := by decide +kernel
theorem dX11_see_56 : decode cX11_see 56 = .ok (.getfield 154, 3) := by decide +kernel
theorem dX11_see_59 : decode cX11_see 59 = .ok (.iconst 1, 1) := by decide +kernel
theorem dX11_see_60 : decode cX11_see 60 = .ok (.iadd, 1) := by decide +kernel
theorem dX11_see_61 : decode cX11_see 61 = .ok (.putfield 154, 3) := by decide +kernel
theorem dX11_see_64 : decode cX11_see 64 = .ok (.aload_n 0, 1) := by decide +kernel
theorem dX11_see_65 : decode cX11_see 65 = .ok (.getfield 154, 3) := by decide +kernel
theorem dX11_see_68 : decode cX11_see 68 = .ok (.ireturn, 1) := by decide +kernel
theorem dX11_forget_0 : decode cX11_forget 0 = .ok (.aload_n 0, 1) := by decide +kernel
theorem dX11_forget_1 : decode cX11_forget 1 = .ok (.getfield 154, 3) := by decide +kernel
theorem dX11_forget_4 : decode cX11_forget 4 = .ok (.istore_n 1, 1) := by decide +kernel
theorem dX11_forget_5 : decode cX11_forget 5 = .ok (.aload_n 0, 1) := by decide +kernel
theorem dX11_forget_6 : decode cX11_forget 6 = .ok (.iconst 0, 1) := by decide +kernel
theorem dX11_forget_7 : decode cX11_forget 7 = .ok (.putfield 154, 3) := by decide +kernel
theorem dX11_forget_10 : decode cX11_forget 10 = .ok (.iload_n 1, 1) := by decide +kernel
theorem dX11_forget_11 : decode cX11_forget 11 = .ok (.ireturn, 1) := by decide +kernel
theorem dX11_isSo_0 : decode cX11_isSo 0 = .ok (.iconst 1, 1) := by decide +kernel
theorem dX11_isSo_1 : decode cX11_isSo 1 = .ok (.istore_n 3, 1) := by decide +kernel
theorem dX11_isSo_2 : decode cX11_isSo 2 = .ok (.iconst 0, 1) := by decide +kernel
theorem dX11_isSo_3 : decode cX11_isSo 3 = .ok (.istore 4, 2) := by decide +kernel
theorem dX11_isSo_5 : decode cX11_isSo 5 = .ok (.iload 4, 2) := by decide +kernel
theorem dX11_isSo_7 : decode cX11_isSo 7 = .ok (.aload_n 0, 1) := by decide +kernel
theorem dX11_isSo_8 : decode cX11_isSo 8 = .ok (.getfield 154, 3) := by decide +kernel
theorem dX11_isSo_11 : decode cX11_isSo 11 = .ok (.if_icmp .ge 41, 3) := by decide +kernel
theorem dX11_isSo_14 : decode cX11_isSo 14 = .ok (.iload_n 3, 1) := by decide +kernel
theorem dX11_isSo_15 : decode cX11_isSo 15 = .ok (.ifCond .eq 29, 3) := by decide +kernel
theorem dX11_isSo_18 : decode cX11_isSo 18 = .ok (.aload_n 0, 1) := by decide +kernel
theorem dX11_isSo_19 : decode cX11_isSo 19 = .ok (.getfield 44, 3) := by decide +kernel
theorem dX11_isSo_22 : decode cX11_isSo 22 = .ok (.iload 4, 2) := by decide +kernel
theorem dX11_isSo_24 : decode cX11_isSo 24 = .ok (.iaload, 1) := by decide +kernel
theorem dX11_isSo_25 : decode cX11_isSo 25 = .ok (.iload_n 1, 1) := by decide +kernel
theorem dX11_isSo_26 : decode cX11_isSo 26 = .ok (.if_icmp .ne 14, 3) := by decide +kernel
theorem dX11_isSo_29 : decode cX11_isSo 29 = .ok (.aload_n 0, 1) := by decide +kernel
theorem dX11_isSo_30 : decode cX11_isSo 30 = .ok (.getfield 47, 3) := by decide +kernel
theorem dX11_isSo_33 : decode cX11_isSo 33 = .ok (.iload 4, 2) := by decide +kernel
theorem dX11_isSo_35 : decode cX11_isSo 35 = .ok (.iaload, 1) := by decide +kernel
theorem dX11_isSo_36 : decode cX11_isSo 36 = .ok (.iload_n 2, 1) := by decide +kernel
theorem dX11_isSo_37 : decode cX11_isSo 37 = .ok (.if_icmp .ne 7, 3) := by decide +kernel
theorem dX11_isSo_40 : decode cX11_isSo 40 = .ok (.iconst 1, 1) := by decide +kernel
theorem dX11_isSo_41 : decode cX11_isSo 41 = .ok (.goto 4, 3) := by decide +kernel
theorem dX11_isSo_44 : decode cX11_isSo 44 = .ok (.iconst 0, 1) := by decide +kernel
theorem dX11_isSo_45 : decode cX11_isSo 45 = .ok (.istore_n 3, 1) := by decide +kernel
theorem dX11_isSo_46 : decode cX11_isSo 46 = .ok (.iinc 4 1, 3) := by decide +kernel
theorem dX11_isSo_49 : decode cX11_isSo 49 = .ok (.goto (-44), 3) := by decide +kernel
theorem dX11_isSo_52 : decode cX11_isSo 52 = .ok (.iload_n 3, 1) := by decide +kernel
theorem dX11_isSo_53 : decode cX11_isSo 53 = .ok (.ireturn, 1) := by decide +kernel
set_option maxRecDepth 20000 in
theorem ggX11_within_X11_isStep : GoodIn wsX11_within wsX11_isStep := goodIn_r _ [7, 8, 9, 10, 6, 11, 42, 43, 44, 45, 46, 47, 48, 49, 50, 51, 52, 53, 54, 55, 56, 57, 58, 59, 60, 61, 62, 63, 64, 65, 66, 67, 68, 69, 70, 71, 72, 73] rfl (by decide +kernel)
set_option maxRecDepth 20000 in
theorem gX11_within_X11_isStep : GoodIn wsX11_within (wsV RX11 175 RX11 yX11_isStep wsX11_isStep) := goodIn_app (goodIn_of _ (by decide +kernel)) ggX11_within_X11_isStep
set_option maxRecDepth 20000 in
theorem ggX11_within_X11_in : GoodIn wsX11_within wsX11_in := goodIn_r _ [11] rfl (by decide +kernel)
set_option maxRecDepth 20000 in
theorem gX11_within_X11_in : GoodIn wsX11_within (va_wsS RX11 101 yX11_in wsX11_in) := goodIn_app (goodIn_of _ (by decide +kernel)) ggX11_within_X11_in
set_option maxRecDepth 20000 in
theorem ggX11_within_X11_thereAt : GoodIn wsX11_within wsX11_thereAt := goodIn_r _ [15, 1, 16, 2, 42, 43, 44, 45, 46, 47, 48, 49, 50, 51, 52, 53, 54, 55, 56, 57, 58, 59, 60, 61, 62, 63, 64, 65, 66, 67, 68, 69, 70, 71, 72, 73] rfl (by decide +kernel)
set_option maxRecDepth 20000 in
theorem gX11_within_X11_thereAt : GoodIn wsX11_within (wsV RX11 168 RX11 yX11_thereAt wsX11_thereAt) := goodIn_app (goodIn_of _ (by decide +kernel)) ggX11_within_X11_thereAt
set_option maxRecDepth 20000 in
theorem ggX11_within_X11_pours : GoodIn wsX11_within wsX11_pours := goodIn_r _ [20, 1, 21, 16, 22, 23, 24, 6, 25, 26, 27, 28, 29, 30, 31, 32, 33, 34, 42, 43, 44, 45, 46, 47, 48, 49, 50, 51, 52, 53, 54, 55, 56, 57, 58, 59, 60, 61, 62, 63, 64, 65, 66, 67, 68, 69, 70, 71, 72, 73] rfl (by decide +kernel)
set_option maxRecDepth 20000 in
theorem gX11_within_X11_pours : GoodIn wsX11_within (wsV RX11 171 RX11 yX11_pours wsX11_pours) := goodIn_app (goodIn_of _ (by decide +kernel)) ggX11_within_X11_pours
set_option maxRecDepth 20000 in
theorem ggX11_within_X11_isSo : GoodIn wsX11_within wsX11_isSo := goodIn_r _ [38, 39, 40, 41, 42, 43, 44, 45, 46, 47, 48, 49, 50, 51, 52, 53, 54, 55, 56, 57, 58, 59, 60, 61, 62, 63, 64, 65, 66, 67, 68, 69, 70, 71, 72, 73] rfl (by decide +kernel)
set_option maxRecDepth 20000 in
theorem gX11_within_X11_isSo : GoodIn wsX11_within (wsV RX11 238 RX11 yX11_isSo wsX11_isSo) := goodIn_app (goodIn_of _ (by decide +kernel)) ggX11_within_X11_isSo
theorem dX11_within_0 : decode cX11_within 0 = .ok (.aload_n 0, 1) := by decide +kernel
theorem dX11_within_1 : decode cX11_within 1 = .ok (.iload_n 1, 1) := by decide +kernel
theorem dX11_within_2 : decode cX11_within 2 = .ok (.invokevirtual 175, 3) := by decide +kernel
theorem dX11_within_5 : decode cX11_within 5 = .ok (.ifCond .eq 13, 3) := by decide +kernel
theorem dX11_within_8 : decode cX11_within 8 = .ok (.iload_n 2, 1) := by decide +kernel
theorem dX11_within_9 : decode cX11_within 9 = .ok (.i2l, 1) := by decide +kernel
theorem dX11_within_10 : decode cX11_within 10 = .ok (.lconst 0, 1) := by decide +kernel
theorem dX11_within_11 : decode cX11_within 11 = .ok (.lconst 1, 1) := by decide +kernel
theorem dX11_within_12 : decode cX11_within 12 = .ok (.invokestatic 101, 3) := by decide +kernel
theorem dX11_within_15 : decode cX11_within 15 = .ok (.ifCond .ne 5, 3) := by decide +kernel
theorem dX11_within_18 : decode cX11_within 18 = .ok (.iconst (-1), 1) := by decide +kernel
theorem dX11_within_19 : decode cX11_within 19 = .ok (.ireturn, 1) := by decide +kernel
theorem dX11_within_20 : decode cX11_within 20 = .ok (.aload_n 0, 1) := by decide +kernel
theorem dX11_within_21 : decode cX11_within 21 = .ok (.iconst 0, 1) := by decide +kernel
theorem dX11_within_22 : decode cX11_within 22 = .ok (.iload_n 1, 1) := by decide +kernel
theorem dX11_within_23 : decode cX11_within 23 = .ok (.invokevirtual 168, 3) := by decide +kernel
theorem dX11_within_26 : decode cX11_within 26 = .ok (.istore_n 3, 1) := by decide +kernel
theorem dX11_within_27 : decode cX11_within 27 = .ok (.iconst 0, 1) := by decide +kernel
theorem dX11_within_28 : decode cX11_within 28 = .ok (.istore 4, 2) := by decide +kernel
theorem dX11_within_30 : decode cX11_within 30 = .ok (.bipush (-4), 2) := by decide +kernel
theorem dX11_within_32 : decode cX11_within 32 = .ok (.istore 5, 2) := by decide +kernel
theorem dX11_within_34 : decode cX11_within 34 = .ok (.iconst 1, 1) := by decide +kernel
theorem dX11_within_35 : decode cX11_within 35 = .ok (.aload_n 0, 1) := by decide +kernel
theorem dX11_within_36 : decode cX11_within 36 = .ok (.getfield 94, 3) := by decide +kernel
theorem dX11_within_39 : decode cX11_within 39 = .ok (.ishl, 1) := by decide +kernel
theorem dX11_within_40 : decode cX11_within 40 = .ok (.iconst 1, 1) := by decide +kernel
theorem dX11_within_41 : decode cX11_within 41 = .ok (.isub, 1) := by decide +kernel
theorem dX11_within_42 : decode cX11_within 42 = .ok (.istore 6, 2) := by decide +kernel
theorem dX11_within_44 : decode cX11_within 44 = .ok (.iload 6, 2) := by decide +kernel
theorem dX11_within_46 : decode cX11_within 46 = .ok (.ifCond .lt 87, 3) := by decide +kernel
theorem dX11_within_49 : decode cX11_within 49 = .ok (.iload 6, 2) := by decide +kernel
theorem dX11_within_51 : decode cX11_within 51 = .ok (.iload_n 3, 1) := by decide +kernel
theorem dX11_within_52 : decode cX11_within 52 = .ok (.iconst (-1), 1) := by decide +kernel
theorem dX11_within_53 : decode cX11_within 53 = .ok (.ixor, 1) := by decide +kernel
theorem dX11_within_54 : decode cX11_within 54 = .ok (.iand, 1) := by decide +kernel
theorem dX11_within_55 : decode cX11_within 55 = .ok (.ifCond .ne 40, 3) := by decide +kernel
theorem dX11_within_58 : decode cX11_within 58 = .ok (.aload_n 0, 1) := by decide +kernel
theorem dX11_within_59 : decode cX11_within 59 = .ok (.iload_n 1, 1) := by decide +kernel
theorem dX11_within_60 : decode cX11_within 60 = .ok (.aload_n 0, 1) := by decide +kernel
theorem dX11_within_61 : decode cX11_within 61 = .ok (.iload_n 1, 1) := by decide +kernel
theorem dX11_within_62 : decode cX11_within 62 = .ok (.aload_n 0, 1) := by decide +kernel
theorem dX11_within_63 : decode cX11_within 63 = .ok (.getfield 37, 3) := by decide +kernel
theorem dX11_within_66 : decode cX11_within 66 = .ok (.bipush 9, 2) := by decide +kernel
theorem dX11_within_68 : decode cX11_within 68 = .ok (.iload_n 1, 1) := by decide +kernel
theorem dX11_within_69 : decode cX11_within 69 = .ok (.iadd, 1) := by decide +kernel
theorem dX11_within_70 : decode cX11_within 70 = .ok (.iaload, 1) := by decide +kernel
theorem dX11_within_71 : decode cX11_within 71 = .ok (.aload_n 0, 1) := by decide +kernel
theorem dX11_within_72 : decode cX11_within 72 = .ok (.getfield 37, 3) := by decide +kernel
theorem dX11_within_75 : decode cX11_within 75 = .ok (.bipush 18, 2) := by decide +kernel
theorem dX11_within_77 : decode cX11_within 77 = .ok (.iload_n 1, 1) := by decide +kernel
theorem dX11_within_78 : decode cX11_within 78 = .ok (.iadd, 1) := by decide +kernel
theorem dX11_within_79 : decode cX11_within 79 = .ok (.iaload, 1) := by decide +kernel
theorem dX11_within_80 : decode cX11_within 80 = .ok (.iload 6, 2) := by decide +kernel
theorem dX11_within_82 : decode cX11_within 82 = .ok (.invokevirtual 171, 3) := by decide +kernel
theorem dX11_within_85 : decode cX11_within 85 = .ok (.invokevirtual 238, 3) := by decide +kernel
theorem dX11_within_88 : decode cX11_within 88 = .ok (.ifCond .eq 7, 3) := by decide +kernel
theorem dX11_within_91 : decode cX11_within 91 = .ok (.iconst 1, 1) := by decide +kernel
theorem dX11_within_92 : decode cX11_within 92 = .ok (.goto 4, 3) := by decide +kernel
theorem dX11_within_95 : decode cX11_within 95 = .ok (.iconst 0, 1) := by decide +kernel
theorem dX11_within_96 : decode cX11_within 96 = .ok (.istore 7, 2) := by decide +kernel
theorem dX11_within_98 : decode cX11_within 98 = .ok (.iload 4, 2) := by decide +kernel
theorem dX11_within_100 : decode cX11_within 100 = .ok (.iload 7, 2) := by decide +kernel
theorem dX11_within_102 : decode cX11_within 102 = .ok (.ifCond .eq 7, 3) := by decide +kernel
theorem dX11_within_105 : decode cX11_within 105 = .ok (.iconst 1, 1) := by decide +kernel
theorem dX11_within_106 : decode cX11_within 106 = .ok (.goto 4, 3) := by decide +kernel
theorem dX11_within_109 : decode cX11_within 109 = .ok (.iconst 0, 1) := by decide +kernel
theorem dX11_within_110 : decode cX11_within 110 = .ok (.iadd, 1) := by decide +kernel
theorem dX11_within_111 : decode cX11_within 111 = .ok (.istore 4, 2) := by decide +kernel
theorem dX11_within_113 : decode cX11_within 113 = .ok (.iload 7, 2) := by decide +kernel
theorem dX11_within_115 : decode cX11_within 115 = .ok (.ifCond .eq 8, 3) := by decide +kernel
theorem dX11_within_118 : decode cX11_within 118 = .ok (.iload 6, 2) := by decide +kernel
theorem dX11_within_120 : decode cX11_within 120 = .ok (.goto 5, 3) := by decide +kernel
theorem dX11_within_123 : decode cX11_within 123 = .ok (.iload 5, 2) := by decide +kernel
theorem dX11_within_125 : decode cX11_within 125 = .ok (.istore 5, 2) := by decide +kernel
theorem dX11_within_127 : decode cX11_within 127 = .ok (.iinc 6 (-1), 3) := by decide +kernel
theorem dX11_within_130 : decode cX11_within 130 = .ok (.goto (-86), 3) := by decide +kernel
theorem dX11_within_133 : decode cX11_within 133 = .ok (.iload_n 2, 1) := by decide +kernel
theorem dX11_within_134 : decode cX11_within 134 = .ok (.ifCond .ne 8, 3) := by decide +kernel
theorem dX11_within_137 : decode cX11_within 137 = .ok (.iload 4, 2) := by decide +kernel
theorem dX11_within_139 : decode cX11_within 139 = .ok (.goto 5, 3) := by decide +kernel
theorem dX11_within_142 : decode cX11_within 142 = .ok (.iload 5, 2) := by decide +kernel
theorem dX11_within_144 : decode cX11_within 144 = .ok (.ireturn, 1) := by decide +kernel
set_option maxRecDepth 20000 in
theorem ggX11_isCats_X11_isStep : GoodIn wsX11_isCats wsX11_isStep := goodIn_r _ [6, 7, 8, 9, 5, 10, 42, 43, 44, 45, 46, 47, 48, 49, 50, 51, 52, 53, 54, 55, 56, 57, 58, 59, 60, 61, 62, 63, 64, 65, 66, 67, 68, 69, 70, 71, 72, 73] rfl (by decide +kernel)
set_option maxRecDepth 20000 in
theorem gX11_isCats_X11_isStep : GoodIn wsX11_isCats (wsV RX11 175 RX11 yX11_isStep wsX11_isStep) := goodIn_app (goodIn_of _ (by decide +kernel)) ggX11_isCats_X11_isStep
set_option maxRecDepth 20000 in
theorem ggX11_isCats_X11_thereAt : GoodIn wsX11_isCats wsX11_thereAt := goodIn_r _ [14, 15, 16, 1, 42, 43, 44, 45, 46, 47, 48, 49, 50, 51, 52, 53, 54, 55, 56, 57, 58, 59, 60, 61, 62, 63, 64, 65, 66, 67, 68, 69, 70, 71, 72, 73] rfl (by decide +kernel)
set_option maxRecDepth 20000 in
theorem gX11_isCats_X11_thereAt : GoodIn wsX11_isCats (wsV RX11 168 RX11 yX11_thereAt wsX11_thereAt) := goodIn_app (goodIn_of _ (by decide +kernel)) ggX11_isCats_X11_thereAt
set_option maxRecDepth 20000 in
theorem ggX11_isCats_X11_pours : GoodIn wsX11_isCats wsX11_pours := goodIn_r _ [20, 15, 21, 16, 22, 23, 24, 5, 25, 26, 27, 28, 29, 30, 31, 32, 33, 34, 42, 43, 44, 45, 46, 47, 48, 49, 50, 51, 52, 53, 54, 55, 56, 57, 58, 59, 60, 61, 62, 63, 64, 65, 66, 67, 68, 69, 70, 71, 72, 73] rfl (by decide +kernel)
set_option maxRecDepth 20000 in
theorem gX11_isCats_X11_pours : GoodIn wsX11_isCats (wsV RX11 171 RX11 yX11_pours wsX11_pours) := goodIn_app (goodIn_of _ (by decide +kernel)) ggX11_isCats_X11_pours
set_option maxRecDepth 20000 in
theorem ggX11_isCats_X11_isSo : GoodIn wsX11_isCats wsX11_isSo := goodIn_r _ [38, 39, 40, 41, 42, 43, 44, 45, 46, 47, 48, 49, 50, 51, 52, 53, 54, 55, 56, 57, 58, 59, 60, 61, 62, 63, 64, 65, 66, 67, 68, 69, 70, 71, 72, 73] rfl (by decide +kernel)
set_option maxRecDepth 20000 in
theorem gX11_isCats_X11_isSo : GoodIn wsX11_isCats (wsV RX11 238 RX11 yX11_isSo wsX11_isSo) := goodIn_app (goodIn_of _ (by decide +kernel)) ggX11_isCats_X11_isSo
theorem dX11_isCats_0 : decode cX11_isCats 0 = .ok (.aload_n 0, 1) := by decide +kernel
theorem dX11_isCats_1 : decode cX11_isCats 1 = .ok (.iload_n 1, 1) := by decide +kernel
theorem dX11_isCats_2 : decode cX11_isCats 2 = .ok (.invokevirtual 175, 3) := by decide +kernel
theorem dX11_isCats_5 : decode cX11_isCats 5 = .ok (.ifCond .ne 5, 3) := by decide +kernel
theorem dX11_isCats_8 : decode cX11_isCats 8 = .ok (.iconst (-1), 1) := by decide +kernel
theorem dX11_isCats_9 : decode cX11_isCats 9 = .ok (.ireturn, 1) := by decide +kernel
theorem dX11_isCats_10 : decode cX11_isCats 10 = .ok (.iconst 0, 1) := by decide +kernel
theorem dX11_isCats_11 : decode cX11_isCats 11 = .ok (.istore_n 2, 1) := by decide +kernel
theorem dX11_isCats_12 : decode cX11_isCats 12 = .ok (.iconst 0, 1) := by decide +kernel
theorem dX11_isCats_13 : decode cX11_isCats 13 = .ok (.istore_n 3, 1) := by decide +kernel
theorem dX11_isCats_14 : decode cX11_isCats 14 = .ok (.iload_n 3, 1) := by decide +kernel
theorem dX11_isCats_15 : decode cX11_isCats 15 = .ok (.bipush 9, 2) := by decide +kernel
theorem dX11_isCats_17 : decode cX11_isCats 17 = .ok (.if_icmp .gt 58, 3) := by decide +kernel
theorem dX11_isCats_20 : decode cX11_isCats 20 = .ok (.iload_n 2, 1) := by decide +kernel
theorem dX11_isCats_21 : decode cX11_isCats 21 = .ok (.aload_n 0, 1) := by decide +kernel
theorem dX11_isCats_22 : decode cX11_isCats 22 = .ok (.iload_n 1, 1) := by decide +kernel
theorem dX11_isCats_23 : decode cX11_isCats 23 = .ok (.aload_n 0, 1) := by decide +kernel
theorem dX11_isCats_24 : decode cX11_isCats 24 = .ok (.iload_n 1, 1) := by decide +kernel
theorem dX11_isCats_25 : decode cX11_isCats 25 = .ok (.aload_n 0, 1) := by decide +kernel
theorem dX11_isCats_26 : decode cX11_isCats 26 = .ok (.getfield 37, 3) := by decide +kernel
theorem dX11_isCats_29 : decode cX11_isCats 29 = .ok (.bipush 9, 2) := by decide +kernel
theorem dX11_isCats_31 : decode cX11_isCats 31 = .ok (.iload_n 1, 1) := by decide +kernel
theorem dX11_isCats_32 : decode cX11_isCats 32 = .ok (.iadd, 1) := by decide +kernel
theorem dX11_isCats_33 : decode cX11_isCats 33 = .ok (.iaload, 1) := by decide +kernel
theorem dX11_isCats_34 : decode cX11_isCats 34 = .ok (.iload_n 3, 1) := by decide +kernel
theorem dX11_isCats_35 : decode cX11_isCats 35 = .ok (.aload_n 0, 1) := by decide +kernel
theorem dX11_isCats_36 : decode cX11_isCats 36 = .ok (.iconst 0, 1) := by decide +kernel
theorem dX11_isCats_37 : decode cX11_isCats 37 = .ok (.iload_n 1, 1) := by decide +kernel
theorem dX11_isCats_38 : decode cX11_isCats 38 = .ok (.invokevirtual 168, 3) := by decide +kernel
theorem dX11_isCats_41 : decode cX11_isCats 41 = .ok (.aload_n 0, 1) := by decide +kernel
theorem dX11_isCats_42 : decode cX11_isCats 42 = .ok (.getfield 37, 3) := by decide +kernel
theorem dX11_isCats_45 : decode cX11_isCats 45 = .ok (.bipush 8, 2) := by decide +kernel
theorem dX11_isCats_47 : decode cX11_isCats 47 = .ok (.iaload, 1) := by decide +kernel
theorem dX11_isCats_48 : decode cX11_isCats 48 = .ok (.iconst (-1), 1) := by decide +kernel
theorem dX11_isCats_49 : decode cX11_isCats 49 = .ok (.ixor, 1) := by decide +kernel
theorem dX11_isCats_50 : decode cX11_isCats 50 = .ok (.iand, 1) := by decide +kernel
theorem dX11_isCats_51 : decode cX11_isCats 51 = .ok (.invokevirtual 171, 3) := by decide +kernel
theorem dX11_isCats_54 : decode cX11_isCats 54 = .ok (.invokevirtual 238, 3) := by decide +kernel
theorem dX11_isCats_57 : decode cX11_isCats 57 = .ok (.ifCond .eq 9, 3) := by decide +kernel
theorem dX11_isCats_60 : decode cX11_isCats 60 = .ok (.iconst 1, 1) := by decide +kernel
theorem dX11_isCats_61 : decode cX11_isCats 61 = .ok (.iload_n 3, 1) := by decide +kernel
theorem dX11_isCats_62 : decode cX11_isCats 62 = .ok (.ishl, 1) := by decide +kernel
theorem dX11_isCats_63 : decode cX11_isCats 63 = .ok (.goto 4, 3) := by decide +kernel
theorem dX11_isCats_66 : decode cX11_isCats 66 = .ok (.iconst 0, 1) := by decide +kernel
theorem dX11_isCats_67 : decode cX11_isCats 67 = .ok (.ior, 1) := by decide +kernel
theorem dX11_isCats_68 : decode cX11_isCats 68 = .ok (.istore_n 2, 1) := by decide +kernel
theorem dX11_isCats_69 : decode cX11_isCats 69 = .ok (.iinc 3 1, 3) := by decide +kernel
theorem dX11_isCats_72 : decode cX11_isCats 72 = .ok (.goto (-58), 3) := by decide +kernel
theorem dX11_isCats_75 : decode cX11_isCats 75 = .ok (.iload_n 2, 1) := by decide +kernel
theorem dX11_isCats_76 : decode cX11_isCats 76 = .ok (.ireturn, 1) := by decide +kernel
set_option maxRecDepth 20000 in
theorem ggX11_was_X11_isOne : GoodIn wsX11_was wsX11_isOne := goodIn_r _ [7, 8, 9, 10, 6, 11, 55, 56, 57, 58, 59, 60, 61, 62, 63, 64, 65, 66, 67, 68, 69, 70, 71, 72, 73, 74, 75, 76, 77, 78, 79, 80, 81, 82, 83, 84, 85, 86] rfl (by decide +kernel)
set_option maxRecDepth 20000 in
theorem gX11_was_X11_isOne : GoodIn wsX11_was (wsV RX11 184 RX11 yX11_isOne wsX11_isOne) := goodIn_app (goodIn_of _ (by decide +kernel)) ggX11_was_X11_isOne
set_option maxRecDepth 20000 in
theorem ggX11_was_X11_in : GoodIn wsX11_was wsX11_in := goodIn_r _ [11] rfl (by decide +kernel)
set_option maxRecDepth 20000 in
theorem gX11_was_X11_in : GoodIn wsX11_was (va_wsS RX11 101 yX11_in wsX11_in) := goodIn_app (goodIn_of _ (by decide +kernel)) ggX11_was_X11_in
set_option maxRecDepth 20000 in
theorem ggX11_was_X11_copies : GoodIn wsX11_was wsX11_copies := goodIn_r _ [15, 2, 55, 56, 57, 58, 59, 60, 61, 62, 63, 64, 65, 66, 67, 68, 69, 70, 71, 72, 73, 74, 75, 76, 77, 78, 79, 80, 81, 82, 83, 84, 85, 86] rfl (by decide +kernel)
set_option maxRecDepth 20000 in
theorem gX11_was_X11_copies : GoodIn wsX11_was (wsV RX11 97 RX11 yX11_copies wsX11_copies) := goodIn_app (goodIn_of _ (by decide +kernel)) ggX11_was_X11_copies
set_option maxRecDepth 20000 in
theorem ggX11_was_X11_tries : GoodIn wsX11_was wsX11_tries := goodIn_r _ [19, 20, 21, 22, 6, 23, 24, 2, 8, 25, 26, 27, 28, 29, 30, 31, 32, 33, 34, 35, 36, 37, 38, 39, 40, 41, 42, 43, 44, 45, 46, 47, 48, 49, 50, 51, 52, 53, 54, 55, 56, 57, 58, 59, 60, 61, 62, 63, 64, 65, 66, 67, 68, 69, 70, 71, 72, 73, 74, 75, 76, 77, 78, 79, 80, 81, 82, 83, 84, 85, 86] rfl (by decide +kernel)
set_option maxRecDepth 20000 in
theorem gX11_was_X11_tries : GoodIn wsX11_was (wsV RX11 214 RX11 yX11_tries wsX11_tries) := goodIn_app (goodIn_of _ (by decide +kernel)) ggX11_was_X11_tries
theorem dX11_was_0 : decode cX11_was 0 = .ok (.aload_n 0, 1) := by decide +kernel
theorem dX11_was_1 : decode cX11_was 1 = .ok (.iload_n 1, 1) := by decide +kernel
theorem dX11_was_2 : decode cX11_was 2 = .ok (.invokevirtual 184, 3) := by decide +kernel
theorem dX11_was_5 : decode cX11_was 5 = .ok (.ifCond .eq 25, 3) := by decide +kernel
theorem dX11_was_8 : decode cX11_was 8 = .ok (.iload_n 2, 1) := by decide +kernel
theorem dX11_was_9 : decode cX11_was 9 = .ok (.i2l, 1) := by decide +kernel
theorem dX11_was_10 : decode cX11_was 10 = .ok (.lconst 1, 1) := by decide +kernel
theorem dX11_was_11 : decode cX11_was 11 = .ok (.ldc2_w 196, 3) := by decide +kernel
theorem dX11_was_14 : decode cX11_was 14 = .ok (.invokestatic 101, 3) := by decide +kernel
theorem dX11_was_17 : decode cX11_was 17 = .ok (.ifCond .eq 13, 3) := by decide +kernel
theorem dX11_was_20 : decode cX11_was 20 = .ok (.iload_n 3, 1) := by decide +kernel
theorem dX11_was_21 : decode cX11_was 21 = .ok (.i2l, 1) := by decide +kernel
theorem dX11_was_22 : decode cX11_was 22 = .ok (.lconst 0, 1) := by decide +kernel
theorem dX11_was_23 : decode cX11_was 23 = .ok (.lconst 1, 1) := by decide +kernel
theorem dX11_was_24 : decode cX11_was 24 = .ok (.invokestatic 101, 3) := by decide +kernel
theorem dX11_was_27 : decode cX11_was 27 = .ok (.ifCond .ne 5, 3) := by decide +kernel
theorem dX11_was_30 : decode cX11_was 30 = .ok (.iconst (-1), 1) := by decide +kernel
theorem dX11_was_31 : decode cX11_was 31 = .ok (.ireturn, 1) := by decide +kernel
theorem dX11_was_32 : decode cX11_was 32 = .ok (.aload_n 0, 1) := by decide +kernel
theorem dX11_was_33 : decode cX11_was 33 = .ok (.getfield 37, 3) := by decide +kernel
theorem dX11_was_36 : decode cX11_was 36 = .ok (.iload_n 1, 1) := by decide +kernel
theorem dX11_was_37 : decode cX11_was 37 = .ok (.iaload, 1) := by decide +kernel
theorem dX11_was_38 : decode cX11_was 38 = .ok (.ifCond .ne 6, 3) := by decide +kernel
theorem dX11_was_41 : decode cX11_was 41 = .ok (.bipush (-2), 2) := by decide +kernel
theorem dX11_was_43 : decode cX11_was 43 = .ok (.ireturn, 1) := by decide +kernel
theorem dX11_was_44 : decode cX11_was 44 = .ok (.iconst 0, 1) := by decide +kernel
theorem dX11_was_45 : decode cX11_was 45 = .ok (.istore 4, 2) := by decide +kernel
theorem dX11_was_47 : decode cX11_was 47 = .ok (.bipush (-4), 2) := by decide +kernel
theorem dX11_was_49 : decode cX11_was 49 = .ok (.istore 5, 2) := by decide +kernel
theorem dX11_was_51 : decode cX11_was 51 = .ok (.bipush 20, 2) := by decide +kernel
theorem dX11_was_53 : decode cX11_was 53 = .ok (.istore 6, 2) := by decide +kernel
theorem dX11_was_55 : decode cX11_was 55 = .ok (.iload 6, 2) := by decide +kernel
theorem dX11_was_57 : decode cX11_was 57 = .ok (.ifCond .lt 89, 3) := by decide +kernel
theorem dX11_was_60 : decode cX11_was 60 = .ok (.aload_n 0, 1) := by decide +kernel
theorem dX11_was_61 : decode cX11_was 61 = .ok (.iconst 0, 1) := by decide +kernel
theorem dX11_was_62 : decode cX11_was 62 = .ok (.sipush 308, 3) := by decide +kernel
theorem dX11_was_65 : decode cX11_was 65 = .ok (.invokevirtual 97, 3) := by decide +kernel
theorem dX11_was_68 : decode cX11_was 68 = .ok (.aload_n 0, 1) := by decide +kernel
theorem dX11_was_69 : decode cX11_was 69 = .ok (.getfield 37, 3) := by decide +kernel
theorem dX11_was_72 : decode cX11_was 72 = .ok (.sipush 308, 3) := by decide +kernel
theorem dX11_was_75 : decode cX11_was 75 = .ok (.iload_n 1, 1) := by decide +kernel
theorem dX11_was_76 : decode cX11_was 76 = .ok (.iadd, 1) := by decide +kernel
theorem dX11_was_77 : decode cX11_was 77 = .ok (.iload 6, 2) := by decide +kernel
theorem dX11_was_79 : decode cX11_was 79 = .ok (.iastore, 1) := by decide +kernel
theorem dX11_was_80 : decode cX11_was 80 = .ok (.aload_n 0, 1) := by decide +kernel
theorem dX11_was_81 : decode cX11_was 81 = .ok (.iload_n 2, 1) := by decide +kernel
theorem dX11_was_82 : decode cX11_was 82 = .ok (.invokevirtual 214, 3) := by decide +kernel
theorem dX11_was_85 : decode cX11_was 85 = .ok (.aload_n 0, 1) := by decide +kernel
theorem dX11_was_86 : decode cX11_was 86 = .ok (.getfield 37, 3) := by decide +kernel
theorem dX11_was_89 : decode cX11_was 89 = .ok (.sipush 308, 3) := by decide +kernel
theorem dX11_was_92 : decode cX11_was 92 = .ok (.iload_n 1, 1) := by decide +kernel
theorem dX11_was_93 : decode cX11_was 93 = .ok (.iadd, 1) := by decide +kernel
theorem dX11_was_94 : decode cX11_was 94 = .ok (.iaload, 1) := by decide +kernel
theorem dX11_was_95 : decode cX11_was 95 = .ok (.aload_n 0, 1) := by decide +kernel
theorem dX11_was_96 : decode cX11_was 96 = .ok (.getfield 37, 3) := by decide +kernel
theorem dX11_was_99 : decode cX11_was 99 = .ok (.iload_n 1, 1) := by decide +kernel
theorem dX11_was_100 : decode cX11_was 100 = .ok (.iaload, 1) := by decide +kernel
theorem dX11_was_101 : decode cX11_was 101 = .ok (.if_icmp .ne 7, 3) := by decide +kernel
theorem dX11_was_104 : decode cX11_was 104 = .ok (.iconst 1, 1) := by decide +kernel
theorem dX11_was_105 : decode cX11_was 105 = .ok (.goto 4, 3) := by decide +kernel
theorem dX11_was_108 : decode cX11_was 108 = .ok (.iconst 0, 1) := by decide +kernel
theorem dX11_was_109 : decode cX11_was 109 = .ok (.istore 7, 2) := by decide +kernel
theorem dX11_was_111 : decode cX11_was 111 = .ok (.iload 4, 2) := by decide +kernel
theorem dX11_was_113 : decode cX11_was 113 = .ok (.iload 7, 2) := by decide +kernel
theorem dX11_was_115 : decode cX11_was 115 = .ok (.ifCond .eq 7, 3) := by decide +kernel
theorem dX11_was_118 : decode cX11_was 118 = .ok (.iconst 1, 1) := by decide +kernel
theorem dX11_was_119 : decode cX11_was 119 = .ok (.goto 4, 3) := by decide +kernel
theorem dX11_was_122 : decode cX11_was 122 = .ok (.iconst 0, 1) := by decide +kernel
theorem dX11_was_123 : decode cX11_was 123 = .ok (.iadd, 1) := by decide +kernel
theorem dX11_was_124 : decode cX11_was 124 = .ok (.istore 4, 2) := by decide +kernel
theorem dX11_was_126 : decode cX11_was 126 = .ok (.iload 7, 2) := by decide +kernel
theorem dX11_was_128 : decode cX11_was 128 = .ok (.ifCond .eq 8, 3) := by decide +kernel
theorem dX11_was_131 : decode cX11_was 131 = .ok (.iload 6, 2) := by decide +kernel
theorem dX11_was_133 : decode cX11_was 133 = .ok (.goto 5, 3) := by decide +kernel
theorem dX11_was_136 : decode cX11_was 136 = .ok (.iload 5, 2) := by decide +kernel
theorem dX11_was_138 : decode cX11_was 138 = .ok (.istore 5, 2) := by decide +kernel
theorem dX11_was_140 : decode cX11_was 140 = .ok (.iinc 6 (-1), 3) := by decide +kernel
theorem dX11_was_143 : decode cX11_was 143 = .ok (.goto (-88), 3) := by decide +kernel
theorem dX11_was_146 : decode cX11_was 146 = .ok (.iload_n 3, 1) := by decide +kernel
theorem dX11_was_147 : decode cX11_was 147 = .ok (.ifCond .ne 8, 3) := by decide +kernel
theorem dX11_was_150 : decode cX11_was 150 = .ok (.iload 4, 2) := by decide +kernel
theorem dX11_was_152 : decode cX11_was 152 = .ok (.goto 5, 3) := by decide +kernel
theorem dX11_was_155 : decode cX11_was 155 = .ok (.iload 5, 2) := by decide +kernel
theorem dX11_was_157 : decode cX11_was 157 = .ok (.ireturn, 1) := by decide +kernel
set_option maxRecDepth 20000 in
theorem ggX11_snows_X11_isOne : GoodIn wsX11_snows wsX11_isOne := goodIn_r _ [8, 9, 10, 11, 7, 12, 52, 53, 54, 55, 56, 57, 58, 59, 60, 61, 62, 63, 64, 65, 66, 67, 68, 69, 70, 71, 72, 73, 74, 75, 76, 77, 78, 79, 80, 81, 82, 83] rfl (by decide +kernel)
set_option maxRecDepth 20000 in
theorem gX11_snows_X11_isOne : GoodIn wsX11_snows (wsV RX11 184 RX11 yX11_isOne wsX11_isOne) := goodIn_app (goodIn_of _ (by decide +kernel)) ggX11_snows_X11_isOne
set_option maxRecDepth 20000 in
theorem ggX11_snows_X11_in : GoodIn wsX11_snows wsX11_in := goodIn_r _ [12] rfl (by decide +kernel)
set_option maxRecDepth 20000 in
theorem gX11_snows_X11_in : GoodIn wsX11_snows (va_wsS RX11 101 yX11_in wsX11_in) := goodIn_app (goodIn_of _ (by decide +kernel)) ggX11_snows_X11_in
set_option maxRecDepth 20000 in
theorem ggX11_snows_X11_copies : GoodIn wsX11_snows wsX11_copies := goodIn_r _ [16, 3, 52, 53, 54, 55, 56, 57, 58, 59, 60, 61, 62, 63, 64, 65, 66, 67, 68, 69, 70, 71, 72, 73, 74, 75, 76, 77, 78, 79, 80, 81, 82, 83] rfl (by decide +kernel)
set_option maxRecDepth 20000 in
theorem gX11_snows_X11_copies : GoodIn wsX11_snows (wsV RX11 97 RX11 yX11_copies wsX11_copies) := goodIn_app (goodIn_of _ (by decide +kernel)) ggX11_snows_X11_copies
set_option maxRecDepth 20000 in
theorem ggX11_snows_X11_has : GoodIn wsX11_snows wsX11_has := goodIn_r _ [19] rfl (by decide +kernel)
set_option maxRecDepth 20000 in
theorem gX11_snows_X11_has : GoodIn wsX11_snows (va_wsS RX11 160 yX11_has wsX11_has) := goodIn_app (goodIn_of _ (by decide +kernel)) ggX11_snows_X11_has
set_option maxRecDepth 20000 in
theorem ggX11_snows_X11_goesOn : GoodIn wsX11_snows wsX11_goesOn := goodIn_r _ [23, 24, 3, 9, 25, 26, 27, 28, 7, 29, 30, 31, 32, 33, 34, 35, 36, 37, 38, 17, 18, 19, 39, 40, 41, 42, 43, 44, 45, 46, 47, 48, 49, 50, 51, 52, 53, 54, 55, 56, 57, 58, 59, 60, 61, 62, 63, 64, 65, 66, 67, 68, 69, 70, 71, 72, 73, 74, 75, 76, 77, 78, 79, 80, 81, 82, 83] rfl (by decide +kernel)
set_option maxRecDepth 20000 in
theorem gX11_snows_X11_goesOn : GoodIn wsX11_snows (wsV RX11 201 RX11 yX11_goesOn wsX11_goesOn) := goodIn_app (goodIn_of _ (by decide +kernel)) ggX11_snows_X11_goesOn
theorem dX11_snows_0 : decode cX11_snows 0 = .ok (.aload_n 0, 1) := by decide +kernel
theorem dX11_snows_1 : decode cX11_snows 1 = .ok (.iload_n 1, 1) := by decide +kernel
theorem dX11_snows_2 : decode cX11_snows 2 = .ok (.invokevirtual 184, 3) := by decide +kernel
theorem dX11_snows_5 : decode cX11_snows 5 = .ok (.ifCond .eq 38, 3) := by decide +kernel
theorem dX11_snows_8 : decode cX11_snows 8 = .ok (.iload_n 2, 1) := by decide +kernel
theorem dX11_snows_9 : decode cX11_snows 9 = .ok (.i2l, 1) := by decide +kernel
theorem dX11_snows_10 : decode cX11_snows 10 = .ok (.lconst 0, 1) := by decide +kernel
theorem dX11_snows_11 : decode cX11_snows 11 = .ok (.ldc2_w 241, 3) := by decide +kernel
theorem dX11_snows_14 : decode cX11_snows 14 = .ok (.invokestatic 101, 3) := by decide +kernel
theorem dX11_snows_17 : decode cX11_snows 17 = .ok (.ifCond .eq 26, 3) := by decide +kernel
theorem dX11_snows_20 : decode cX11_snows 20 = .ok (.iload_n 3, 1) := by decide +kernel
theorem dX11_snows_21 : decode cX11_snows 21 = .ok (.i2l, 1) := by decide +kernel
theorem dX11_snows_22 : decode cX11_snows 22 = .ok (.lconst 0, 1) := by decide +kernel
theorem dX11_snows_23 : decode cX11_snows 23 = .ok (.ldc2_w 243, 3) := by decide +kernel
theorem dX11_snows_26 : decode cX11_snows 26 = .ok (.invokestatic 101, 3) := by decide +kernel
theorem dX11_snows_29 : decode cX11_snows 29 = .ok (.ifCond .eq 14, 3) := by decide +kernel
theorem dX11_snows_32 : decode cX11_snows 32 = .ok (.iload 4, 2) := by decide +kernel
theorem dX11_snows_34 : decode cX11_snows 34 = .ok (.i2l, 1) := by decide +kernel
theorem dX11_snows_35 : decode cX11_snows 35 = .ok (.lconst 0, 1) := by decide +kernel
theorem dX11_snows_36 : decode cX11_snows 36 = .ok (.lconst 1, 1) := by decide +kernel
theorem dX11_snows_37 : decode cX11_snows 37 = .ok (.invokestatic 101, 3) := by decide +kernel
theorem dX11_snows_40 : decode cX11_snows 40 = .ok (.ifCond .ne 5, 3) := by decide +kernel
theorem dX11_snows_43 : decode cX11_snows 43 = .ok (.iconst (-1), 1) := by decide +kernel
theorem dX11_snows_44 : decode cX11_snows 44 = .ok (.ireturn, 1) := by decide +kernel
theorem dX11_snows_45 : decode cX11_snows 45 = .ok (.iconst 0, 1) := by decide +kernel
theorem dX11_snows_46 : decode cX11_snows 46 = .ok (.istore 5, 2) := by decide +kernel
theorem dX11_snows_48 : decode cX11_snows 48 = .ok (.iconst 0, 1) := by decide +kernel
theorem dX11_snows_49 : decode cX11_snows 49 = .ok (.istore 6, 2) := by decide +kernel
theorem dX11_snows_51 : decode cX11_snows 51 = .ok (.iconst 0, 1) := by decide +kernel
theorem dX11_snows_52 : decode cX11_snows 52 = .ok (.istore 7, 2) := by decide +kernel
theorem dX11_snows_54 : decode cX11_snows 54 = .ok (.iload 7, 2) := by decide +kernel
theorem dX11_snows_56 : decode cX11_snows 56 = .ok (.iconst 1, 1) := by decide +kernel
theorem dX11_snows_57 : decode cX11_snows 57 = .ok (.iload_n 2, 1) := by decide +kernel
theorem dX11_snows_58 : decode cX11_snows 58 = .ok (.ishl, 1) := by decide +kernel
theorem dX11_snows_59 : decode cX11_snows 59 = .ok (.if_icmp .ge 116, 3) := by decide +kernel
theorem dX11_snows_62 : decode cX11_snows 62 = .ok (.aload_n 0, 1) := by decide +kernel
theorem dX11_snows_63 : decode cX11_snows 63 = .ok (.iconst 0, 1) := by decide +kernel
theorem dX11_snows_64 : decode cX11_snows 64 = .ok (.sipush 308, 3) := by decide +kernel
theorem dX11_snows_67 : decode cX11_snows 67 = .ok (.invokevirtual 97, 3) := by decide +kernel
theorem dX11_snows_70 : decode cX11_snows 70 = .ok (.iconst 1, 1) := by decide +kernel
theorem dX11_snows_71 : decode cX11_snows 71 = .ok (.istore 8, 2) := by decide +kernel
theorem dX11_snows_73 : decode cX11_snows 73 = .ok (.iconst 0, 1) := by decide +kernel
theorem dX11_snows_74 : decode cX11_snows 74 = .ok (.istore 9, 2) := by decide +kernel
theorem dX11_snows_76 : decode cX11_snows 76 = .ok (.iconst 0, 1) := by decide +kernel
theorem dX11_snows_77 : decode cX11_snows 77 = .ok (.istore 10, 2) := by decide +kernel
theorem dX11_snows_79 : decode cX11_snows 79 = .ok (.iload 10, 2) := by decide +kernel
theorem dX11_snows_81 : decode cX11_snows 81 = .ok (.iload_n 2, 1) := by decide +kernel
theorem dX11_snows_82 : decode cX11_snows 82 = .ok (.if_icmp .ge 51, 3) := by decide +kernel
theorem dX11_snows_85 : decode cX11_snows 85 = .ok (.iload 8, 2) := by decide +kernel
theorem dX11_snows_87 : decode cX11_snows 87 = .ok (.iload 7, 2) := by decide +kernel
theorem dX11_snows_89 : decode cX11_snows 89 = .ok (.iload 10, 2) := by decide +kernel
theorem dX11_snows_91 : decode cX11_snows 91 = .ok (.invokestatic 160, 3) := by decide +kernel
theorem dX11_snows_94 : decode cX11_snows 94 = .ok (.ifCond .eq 7, 3) := by decide +kernel
theorem dX11_snows_97 : decode cX11_snows 97 = .ok (.iload_n 3, 1) := by decide +kernel
theorem dX11_snows_98 : decode cX11_snows 98 = .ok (.goto 7, 3) := by decide +kernel
theorem dX11_snows_101 : decode cX11_snows 101 = .ok (.bipush 10, 2) := by decide +kernel
theorem dX11_snows_103 : decode cX11_snows 103 = .ok (.iload_n 3, 1) := by decide +kernel
theorem dX11_snows_104 : decode cX11_snows 104 = .ok (.isub, 1) := by decide +kernel
theorem dX11_snows_105 : decode cX11_snows 105 = .ok (.imul, 1) := by decide +kernel
theorem dX11_snows_106 : decode cX11_snows 106 = .ok (.istore 8, 2) := by decide +kernel
theorem dX11_snows_108 : decode cX11_snows 108 = .ok (.iload 9, 2) := by decide +kernel
theorem dX11_snows_110 : decode cX11_snows 110 = .ok (.aload_n 0, 1) := by decide +kernel
theorem dX11_snows_111 : decode cX11_snows 111 = .ok (.sipush 308, 3) := by decide +kernel
theorem dX11_snows_114 : decode cX11_snows 114 = .ok (.iload 7, 2) := by decide +kernel
theorem dX11_snows_116 : decode cX11_snows 116 = .ok (.iload 10, 2) := by decide +kernel
theorem dX11_snows_118 : decode cX11_snows 118 = .ok (.invokestatic 160, 3) := by decide +kernel
theorem dX11_snows_121 : decode cX11_snows 121 = .ok (.invokevirtual 201, 3) := by decide +kernel
theorem dX11_snows_124 : decode cX11_snows 124 = .ok (.iadd, 1) := by decide +kernel
theorem dX11_snows_125 : decode cX11_snows 125 = .ok (.istore 9, 2) := by decide +kernel
theorem dX11_snows_127 : decode cX11_snows 127 = .ok (.iinc 10 1, 3) := by decide +kernel
theorem dX11_snows_130 : decode cX11_snows 130 = .ok (.goto (-51), 3) := by decide +kernel
theorem dX11_snows_133 : decode cX11_snows 133 = .ok (.iload 6, 2) := by decide +kernel
theorem dX11_snows_135 : decode cX11_snows 135 = .ok (.iload 8, 2) := by decide +kernel
theorem dX11_snows_137 : decode cX11_snows 137 = .ok (.iadd, 1) := by decide +kernel
theorem dX11_snows_138 : decode cX11_snows 138 = .ok (.istore 6, 2) := by decide +kernel
theorem dX11_snows_140 : decode cX11_snows 140 = .ok (.iload 5, 2) := by decide +kernel
theorem dX11_snows_142 : decode cX11_snows 142 = .ok (.iload 9, 2) := by decide +kernel
theorem dX11_snows_144 : decode cX11_snows 144 = .ok (.ifCond .lt 21, 3) := by decide +kernel
theorem dX11_snows_147 : decode cX11_snows 147 = .ok (.aload_n 0, 1) := by decide +kernel
theorem dX11_snows_148 : decode cX11_snows 148 = .ok (.getfield 37, 3) := by decide +kernel
theorem dX11_snows_151 : decode cX11_snows 151 = .ok (.sipush 308, 3) := by decide +kernel
theorem dX11_snows_154 : decode cX11_snows 154 = .ok (.iload_n 1, 1) := by decide +kernel
theorem dX11_snows_155 : decode cX11_snows 155 = .ok (.iadd, 1) := by decide +kernel
theorem dX11_snows_156 : decode cX11_snows 156 = .ok (.iaload, 1) := by decide +kernel
theorem dX11_snows_157 : decode cX11_snows 157 = .ok (.ifCond .le 8, 3) := by decide +kernel
theorem dX11_snows_160 : decode cX11_snows 160 = .ok (.iload 8, 2) := by decide +kernel
theorem dX11_snows_162 : decode cX11_snows 162 = .ok (.goto 4, 3) := by decide +kernel
theorem dX11_snows_165 : decode cX11_snows 165 = .ok (.iconst 0, 1) := by decide +kernel
theorem dX11_snows_166 : decode cX11_snows 166 = .ok (.iadd, 1) := by decide +kernel
theorem dX11_snows_167 : decode cX11_snows 167 = .ok (.istore 5, 2) := by decide +kernel
theorem dX11_snows_169 : decode cX11_snows 169 = .ok (.iinc 7 1, 3) := by decide +kernel
theorem dX11_snows_172 : decode cX11_snows 172 = .ok (.goto (-118), 3) := by decide +kernel
theorem dX11_snows_175 : decode cX11_snows 175 = .ok (.iload 5, 2) := by decide +kernel
theorem dX11_snows_177 : decode cX11_snows 177 = .ok (.istore 7, 2) := by decide +kernel
theorem dX11_snows_179 : decode cX11_snows 179 = .ok (.iload 6, 2) := by decide +kernel
theorem dX11_snows_181 : decode cX11_snows 181 = .ok (.istore 8, 2) := by decide +kernel
theorem dX11_snows_183 : decode cX11_snows 183 = .ok (.iload 8, 2) := by decide +kernel
theorem dX11_snows_185 : decode cX11_snows 185 = .ok (.ifCond .eq 21, 3) := by decide +kernel
theorem dX11_snows_188 : decode cX11_snows 188 = .ok (.iload 7, 2) := by decide +kernel
theorem dX11_snows_190 : decode cX11_snows 190 = .ok (.iload 8, 2) := by decide +kernel
theorem dX11_snows_192 : decode cX11_snows 192 = .ok (.irem, 1) := by decide +kernel
theorem dX11_snows_193 : decode cX11_snows 193 = .ok (.istore 9, 2) := by decide +kernel
theorem dX11_snows_195 : decode cX11_snows 195 = .ok (.iload 8, 2) := by decide +kernel
theorem dX11_snows_197 : decode cX11_snows 197 = .ok (.istore 7, 2) := by decide +kernel
theorem dX11_snows_199 : decode cX11_snows 199 = .ok (.iload 9, 2) := by decide +kernel
theorem dX11_snows_201 : decode cX11_snows 201 = .ok (.istore 8, 2) := by decide +kernel
theorem dX11_snows_203 : decode cX11_snows 203 = .ok (.goto (-20), 3) := by decide +kernel
theorem dX11_snows_206 : decode cX11_snows 206 = .ok (.iload 4, 2) := by decide +kernel
theorem dX11_snows_208 : decode cX11_snows 208 = .ok (.ifCond .ne 11, 3) := by decide +kernel
theorem dX11_snows_211 : decode cX11_snows 211 = .ok (.iload 5, 2) := by decide +kernel
theorem dX11_snows_213 : decode cX11_snows 213 = .ok (.iload 7, 2) := by decide +kernel
theorem dX11_snows_215 : decode cX11_snows 215 = .ok (.idiv, 1) := by decide +kernel
theorem dX11_snows_216 : decode cX11_snows 216 = .ok (.goto 8, 3) := by decide +kernel
theorem dX11_snows_219 : decode cX11_snows 219 = .ok (.iload 6, 2) := by decide +kernel
theorem dX11_snows_221 : decode cX11_snows 221 = .ok (.iload 7, 2) := by decide +kernel
theorem dX11_snows_223 : decode cX11_snows 223 = .ok (.idiv, 1) := by decide +kernel
theorem dX11_snows_224 : decode cX11_snows 224 = .ok (.ireturn, 1) := by decide +kernel
theorem dX11_does_0 : decode cX11_does 0 = .ok (.iload_n 2, 1) := by decide +kernel
theorem dX11_does_1 : decode cX11_does 1 = .ok (.bipush 8, 2) := by decide +kernel
theorem dX11_does_3 : decode cX11_does 3 = .ok (.irem, 1) := by decide +kernel
theorem dX11_does_4 : decode cX11_does 4 = .ok (.istore_n 3, 1) := by decide +kernel
theorem dX11_does_5 : decode cX11_does 5 = .ok (.iload_n 3, 1) := by decide +kernel
theorem dX11_does_6 : decode cX11_does 6 = .ok (.iconst 2, 1) := by decide +kernel
theorem dX11_does_7 : decode cX11_does 7 = .ok (.if_icmp .ge 32, 3) := by decide +kernel
theorem dX11_does_10 : decode cX11_does 10 = .ok (.aload_n 0, 1) := by decide +kernel
theorem dX11_does_11 : decode cX11_does 11 = .ok (.getfield 37, 3) := by decide +kernel
theorem dX11_does_14 : decode cX11_does 14 = .ok (.iload_n 1, 1) := by decide +kernel
theorem dX11_does_15 : decode cX11_does 15 = .ok (.bipush 9, 2) := by decide +kernel
theorem dX11_does_17 : decode cX11_does 17 = .ok (.iadd, 1) := by decide +kernel
theorem dX11_does_18 : decode cX11_does 18 = .ok (.iload_n 2, 1) := by decide +kernel
theorem dX11_does_19 : decode cX11_does 19 = .ok (.bipush 8, 2) := by decide +kernel
theorem dX11_does_21 : decode cX11_does 21 = .ok (.idiv, 1) := by decide +kernel
theorem dX11_does_22 : decode cX11_does 22 = .ok (.aload_n 0, 1) := by decide +kernel
theorem dX11_does_23 : decode cX11_does 23 = .ok (.getfield 88, 3) := by decide +kernel
theorem dX11_does_26 : decode cX11_does 26 = .ok (.irem, 1) := by decide +kernel
theorem dX11_does_27 : decode cX11_does 27 = .ok (.iadd, 1) := by decide +kernel
theorem dX11_does_28 : decode cX11_does 28 = .ok (.iload_n 2, 1) := by decide +kernel
theorem dX11_does_29 : decode cX11_does 29 = .ok (.bipush 64, 2) := by decide +kernel
theorem dX11_does_31 : decode cX11_does 31 = .ok (.idiv, 1) := by decide +kernel
theorem dX11_does_32 : decode cX11_does 32 = .ok (.bipush 41, 2) := by decide +kernel
theorem dX11_does_34 : decode cX11_does 34 = .ok (.irem, 1) := by decide +kernel
theorem dX11_does_35 : decode cX11_does 35 = .ok (.iastore, 1) := by decide +kernel
theorem dX11_does_36 : decode cX11_does 36 = .ok (.goto 65, 3) := by decide +kernel
theorem dX11_does_39 : decode cX11_does 39 = .ok (.iload_n 3, 1) := by decide +kernel
theorem dX11_does_40 : decode cX11_does 40 = .ok (.iconst 2, 1) := by decide +kernel
theorem dX11_does_41 : decode cX11_does 41 = .ok (.if_icmp .ne 29, 3) := by decide +kernel
theorem dX11_does_44 : decode cX11_does 44 = .ok (.aload_n 0, 1) := by decide +kernel
theorem dX11_does_45 : decode cX11_does 45 = .ok (.getfield 37, 3) := by decide +kernel
theorem dX11_does_48 : decode cX11_does 48 = .ok (.iload_n 1, 1) := by decide +kernel
theorem dX11_does_49 : decode cX11_does 49 = .ok (.bipush 8, 2) := by decide +kernel
theorem dX11_does_51 : decode cX11_does 51 = .ok (.iadd, 1) := by decide +kernel
theorem dX11_does_52 : decode cX11_does 52 = .ok (.dup2, 1) := by decide +kernel
theorem dX11_does_53 : decode cX11_does 53 = .ok (.iaload, 1) := by decide +kernel
theorem dX11_does_54 : decode cX11_does 54 = .ok (.iconst 1, 1) := by decide +kernel
theorem dX11_does_55 : decode cX11_does 55 = .ok (.iload_n 2, 1) := by decide +kernel
theorem dX11_does_56 : decode cX11_does 56 = .ok (.bipush 8, 2) := by decide +kernel
theorem dX11_does_58 : decode cX11_does 58 = .ok (.idiv, 1) := by decide +kernel
theorem dX11_does_59 : decode cX11_does 59 = .ok (.aload_n 0, 1) := by decide +kernel
theorem dX11_does_60 : decode cX11_does 60 = .ok (.getfield 94, 3) := by decide +kernel
theorem dX11_does_63 : decode cX11_does 63 = .ok (.irem, 1) := by decide +kernel
theorem dX11_does_64 : decode cX11_does 64 = .ok (.ishl, 1) := by decide +kernel
theorem dX11_does_65 : decode cX11_does 65 = .ok (.ixor, 1) := by decide +kernel
theorem dX11_does_66 : decode cX11_does 66 = .ok (.iastore, 1) := by decide +kernel
theorem dX11_does_67 : decode cX11_does 67 = .ok (.goto 34, 3) := by decide +kernel
theorem dX11_does_70 : decode cX11_does 70 = .ok (.iload_n 3, 1) := by decide +kernel
theorem dX11_does_71 : decode cX11_does 71 = .ok (.iconst 3, 1) := by decide +kernel
theorem dX11_does_72 : decode cX11_does 72 = .ok (.if_icmp .ne 29, 3) := by decide +kernel
theorem dX11_does_75 : decode cX11_does 75 = .ok (.aload_n 0, 1) := by decide +kernel
theorem dX11_does_76 : decode cX11_does 76 = .ok (.getfield 37, 3) := by decide +kernel
theorem dX11_does_79 : decode cX11_does 79 = .ok (.iload_n 1, 1) := by decide +kernel
theorem dX11_does_80 : decode cX11_does 80 = .ok (.bipush 18, 2) := by decide +kernel
theorem dX11_does_82 : decode cX11_does 82 = .ok (.iadd, 1) := by decide +kernel
theorem dX11_does_83 : decode cX11_does 83 = .ok (.iload_n 2, 1) := by decide +kernel
theorem dX11_does_84 : decode cX11_does 84 = .ok (.bipush 8, 2) := by decide +kernel
theorem dX11_does_86 : decode cX11_does 86 = .ok (.idiv, 1) := by decide +kernel
theorem dX11_does_87 : decode cX11_does 87 = .ok (.aload_n 0, 1) := by decide +kernel
theorem dX11_does_88 : decode cX11_does 88 = .ok (.getfield 88, 3) := by decide +kernel
theorem dX11_does_91 : decode cX11_does 91 = .ok (.irem, 1) := by decide +kernel
theorem dX11_does_92 : decode cX11_does 92 = .ok (.iadd, 1) := by decide +kernel
theorem dX11_does_93 : decode cX11_does 93 = .ok (.iload_n 2, 1) := by decide +kernel
theorem dX11_does_94 : decode cX11_does 94 = .ok (.bipush 64, 2) := by decide +kernel
theorem dX11_does_96 : decode cX11_does 96 = .ok (.idiv, 1) := by decide +kernel
theorem dX11_does_97 : decode cX11_does 97 = .ok (.bipush 10, 2) := by decide +kernel
theorem dX11_does_99 : decode cX11_does 99 = .ok (.irem, 1) := by decide +kernel
theorem dX11_does_100 : decode cX11_does 100 = .ok (.iastore, 1) := by decide +kernel
theorem dX11_does_101 : decode cX11_does 101 = .ok (.return_, 1) := by decide +kernel
set_option maxRecDepth 20000 in
theorem ggX11_year_X11_in : GoodIn wsX11_year wsX11_in := goodIn_r _ [9] rfl (by decide +kernel)
set_option maxRecDepth 20000 in
theorem gX11_year_X11_in : GoodIn wsX11_year (va_wsS RX11 101 yX11_in wsX11_in) := goodIn_app (goodIn_of _ (by decide +kernel)) ggX11_year_X11_in
set_option maxRecDepth 20000 in
theorem ggX11_year_X11_copies : GoodIn wsX11_year wsX11_copies := goodIn_r _ [13, 14, 59, 60, 61, 62, 63, 64, 65, 66, 67, 68, 69, 70, 71, 72, 73, 74, 75, 76, 77, 78, 79, 80, 81, 82, 83, 84, 85, 86, 87, 88, 89, 90] rfl (by decide +kernel)
set_option maxRecDepth 20000 in
theorem gX11_year_X11_copies : GoodIn wsX11_year (wsV RX11 97 RX11 yX11_copies wsX11_copies) := goodIn_app (goodIn_of _ (by decide +kernel)) ggX11_year_X11_copies
set_option maxRecDepth 20000 in
theorem ggX11_year_X11_does : GoodIn wsX11_year wsX11_does := goodIn_r _ [18, 14, 19, 20, 59, 60, 61, 62, 63, 64, 65, 66, 67, 68, 69, 70, 71, 72, 73, 74, 75, 76, 77, 78, 79, 80, 81, 82, 83, 84, 85, 86, 87, 88, 89, 90] rfl (by decide +kernel)
set_option maxRecDepth 20000 in
theorem gX11_year_X11_does : GoodIn wsX11_year (wsV RX11 255 RX11 yX11_does wsX11_does) := goodIn_app (goodIn_of _ (by decide +kernel)) ggX11_year_X11_does
set_option maxRecDepth 20000 in
theorem ggX11_year_X11_goesOn : GoodIn wsX11_year wsX11_goesOn := goodIn_r _ [24, 19, 14, 20, 25, 26, 27, 28, 8, 29, 30, 31, 32, 33, 34, 35, 36, 37, 38, 39, 40, 41, 42, 43, 44, 45, 46, 47, 48, 49, 50, 51, 52, 53, 54, 59, 60, 61, 62, 63, 64, 65, 66, 67, 68, 69, 70, 71, 72, 73, 74, 75, 76, 77, 78, 79, 80, 81, 82, 83, 84, 85, 86, 87, 88, 89, 90] rfl (by decide +kernel)
set_option maxRecDepth 20000 in
theorem gX11_year_X11_goesOn : GoodIn wsX11_year (wsV RX11 201 RX11 yX11_goesOn wsX11_goesOn) := goodIn_app (goodIn_of _ (by decide +kernel)) ggX11_year_X11_goesOn
set_option maxRecDepth 20000 in
theorem ggX11_year_X11_alive : GoodIn wsX11_year wsX11_alive := goodIn_r _ [58, 20, 14, 59, 60, 61, 62, 63, 64, 65, 66, 67, 68, 69, 70, 71, 72, 73, 74, 75, 76, 77, 78, 79, 80, 81, 82, 83, 84, 85, 86, 87, 88, 89, 90] rfl (by decide +kernel)
set_option maxRecDepth 20000 in
theorem gX11_year_X11_alive : GoodIn wsX11_year (wsV RX11 235 RX11 yX11_alive wsX11_alive) := goodIn_app (goodIn_of _ (by decide +kernel)) ggX11_year_X11_alive
theorem dX11_year_0 : decode cX11_year 0 = .ok (.iload_n 1, 1) := by decide +kernel
theorem dX11_year_1 : decode cX11_year 1 = .ok (.i2l, 1) := by decide +kernel
theorem dX11_year_2 : decode cX11_year 2 = .ok (.lconst 0, 1) := by decide +kernel
theorem dX11_year_3 : decode cX11_year 3 = .ok (.ldc2_w 245, 3) := by decide +kernel
theorem dX11_year_6 : decode cX11_year 6 = .ok (.invokestatic 101, 3) := by decide +kernel
theorem dX11_year_9 : decode cX11_year 9 = .ok (.ifCond .eq 25, 3) := by decide +kernel
theorem dX11_year_12 : decode cX11_year 12 = .ok (.iload_n 2, 1) := by decide +kernel
theorem dX11_year_13 : decode cX11_year 13 = .ok (.i2l, 1) := by decide +kernel
theorem dX11_year_14 : decode cX11_year 14 = .ok (.lconst 1, 1) := by decide +kernel
theorem dX11_year_15 : decode cX11_year 15 = .ok (.ldc2_w 247, 3) := by decide +kernel
theorem dX11_year_18 : decode cX11_year 18 = .ok (.invokestatic 101, 3) := by decide +kernel
theorem dX11_year_21 : decode cX11_year 21 = .ok (.ifCond .eq 13, 3) := by decide +kernel
theorem dX11_year_24 : decode cX11_year 24 = .ok (.iload_n 3, 1) := by decide +kernel
theorem dX11_year_25 : decode cX11_year 25 = .ok (.i2l, 1) := by decide +kernel
theorem dX11_year_26 : decode cX11_year 26 = .ok (.lconst 0, 1) := by decide +kernel
theorem dX11_year_27 : decode cX11_year 27 = .ok (.lconst 1, 1) := by decide +kernel
theorem dX11_year_28 : decode cX11_year 28 = .ok (.invokestatic 101, 3) := by decide +kernel
theorem dX11_year_31 : decode cX11_year 31 = .ok (.ifCond .ne 5, 3) := by decide +kernel
theorem dX11_year_34 : decode cX11_year 34 = .ok (.iconst (-1), 1) := by decide +kernel
theorem dX11_year_35 : decode cX11_year 35 = .ok (.ireturn, 1) := by decide +kernel
theorem dX11_year_36 : decode cX11_year 36 = .ok (.aload_n 0, 1) := by decide +kernel
theorem dX11_year_37 : decode cX11_year 37 = .ok (.iconst 0, 1) := by decide +kernel
theorem dX11_year_38 : decode cX11_year 38 = .ok (.sipush 308, 3) := by decide +kernel
theorem dX11_year_41 : decode cX11_year 41 = .ok (.invokevirtual 97, 3) := by decide +kernel
theorem dX11_year_44 : decode cX11_year 44 = .ok (.iconst 0, 1) := by decide +kernel
theorem dX11_year_45 : decode cX11_year 45 = .ok (.istore 4, 2) := by decide +kernel
theorem dX11_year_47 : decode cX11_year 47 = .ok (.iconst 0, 1) := by decide +kernel
theorem dX11_year_48 : decode cX11_year 48 = .ok (.istore 5, 2) := by decide +kernel
theorem dX11_year_50 : decode cX11_year 50 = .ok (.iload 5, 2) := by decide +kernel
theorem dX11_year_52 : decode cX11_year 52 = .ok (.iload_n 2, 1) := by decide +kernel
theorem dX11_year_53 : decode cX11_year 53 = .ok (.if_icmp .ge 57, 3) := by decide +kernel
theorem dX11_year_56 : decode cX11_year 56 = .ok (.ldc2_w 249, 3) := by decide +kernel
theorem dX11_year_59 : decode cX11_year 59 = .ok (.iload_n 1, 1) := by decide +kernel
theorem dX11_year_60 : decode cX11_year 60 = .ok (.i2l, 1) := by decide +kernel
theorem dX11_year_61 : decode cX11_year 61 = .ok (.lmul, 1) := by decide +kernel
theorem dX11_year_62 : decode cX11_year 62 = .ok (.ldc2_w 251, 3) := by decide +kernel
theorem dX11_year_65 : decode cX11_year 65 = .ok (.iload 5, 2) := by decide +kernel
theorem dX11_year_67 : decode cX11_year 67 = .ok (.i2l, 1) := by decide +kernel
theorem dX11_year_68 : decode cX11_year 68 = .ok (.lmul, 1) := by decide +kernel
theorem dX11_year_69 : decode cX11_year 69 = .ok (.ladd, 1) := by decide +kernel
theorem dX11_year_70 : decode cX11_year 70 = .ok (.lconst 1, 1) := by decide +kernel
theorem dX11_year_71 : decode cX11_year 71 = .ok (.ladd, 1) := by decide +kernel
theorem dX11_year_72 : decode cX11_year 72 = .ok (.lstore 6, 2) := by decide +kernel
theorem dX11_year_74 : decode cX11_year 74 = .ok (.aload_n 0, 1) := by decide +kernel
theorem dX11_year_75 : decode cX11_year 75 = .ok (.sipush 308, 3) := by decide +kernel
theorem dX11_year_78 : decode cX11_year 78 = .ok (.lload 6, 2) := by decide +kernel
theorem dX11_year_80 : decode cX11_year 80 = .ok (.lload 6, 2) := by decide +kernel
theorem dX11_year_82 : decode cX11_year 82 = .ok (.lmul, 1) := by decide +kernel
theorem dX11_year_83 : decode cX11_year 83 = .ok (.ldc2_w 253, 3) := by decide +kernel
theorem dX11_year_86 : decode cX11_year 86 = .ok (.lrem, 1) := by decide +kernel
theorem dX11_year_87 : decode cX11_year 87 = .ok (.l2i, 1) := by decide +kernel
theorem dX11_year_88 : decode cX11_year 88 = .ok (.invokevirtual 255, 3) := by decide +kernel
theorem dX11_year_91 : decode cX11_year 91 = .ok (.iload 4, 2) := by decide +kernel
theorem dX11_year_93 : decode cX11_year 93 = .ok (.aload_n 0, 1) := by decide +kernel
theorem dX11_year_94 : decode cX11_year 94 = .ok (.sipush 308, 3) := by decide +kernel
theorem dX11_year_97 : decode cX11_year 97 = .ok (.iconst 0, 1) := by decide +kernel
theorem dX11_year_98 : decode cX11_year 98 = .ok (.invokevirtual 201, 3) := by decide +kernel
theorem dX11_year_101 : decode cX11_year 101 = .ok (.iadd, 1) := by decide +kernel
theorem dX11_year_102 : decode cX11_year 102 = .ok (.istore 4, 2) := by decide +kernel
theorem dX11_year_104 : decode cX11_year 104 = .ok (.iinc 5 1, 3) := by decide +kernel
theorem dX11_year_107 : decode cX11_year 107 = .ok (.goto (-57), 3) := by decide +kernel
theorem dX11_year_110 : decode cX11_year 110 = .ok (.iload_n 3, 1) := by decide +kernel
theorem dX11_year_111 : decode cX11_year 111 = .ok (.ifCond .ne 13, 3) := by decide +kernel
theorem dX11_year_114 : decode cX11_year 114 = .ok (.aload_n 0, 1) := by decide +kernel
theorem dX11_year_115 : decode cX11_year 115 = .ok (.sipush 308, 3) := by decide +kernel
theorem dX11_year_118 : decode cX11_year 118 = .ok (.invokevirtual 235, 3) := by decide +kernel
theorem dX11_year_121 : decode cX11_year 121 = .ok (.goto 5, 3) := by decide +kernel
theorem dX11_year_124 : decode cX11_year 124 = .ok (.iload 4, 2) := by decide +kernel
theorem dX11_year_126 : decode cX11_year 126 = .ok (.ireturn, 1) := by decide +kernel
set_option maxRecDepth 20000 in
theorem ggX11_keep_X11_copies : GoodIn wsX11_keep wsX11_copies := goodIn_r _ [6, 7, 8, 9, 10, 11, 12, 13, 14, 15, 16, 17, 18, 19, 20, 21, 22, 23, 24, 25, 26, 27, 28, 29, 30, 31, 32, 33, 34, 35, 36, 37, 38, 39] rfl (by decide +kernel)
set_option maxRecDepth 20000 in
theorem gX11_keep_X11_copies : GoodIn wsX11_keep (wsV RX11 97 RX11 yX11_copies wsX11_copies) := goodIn_app (goodIn_of _ (by decide +kernel)) ggX11_keep_X11_copies
theorem dX11_keep_0 : decode cX11_keep 0 = .ok (.aload_n 0, 1) := by decide +kernel
theorem dX11_keep_1 : decode cX11_keep 1 = .ok (.getfield 151, 3) := by decide +kernel
theorem dX11_keep_4 : decode cX11_keep 4 = .ok (.iconst 2, 1) := by decide +kernel
theorem dX11_keep_5 : decode cX11_keep 5 = .ok (.if_icmp .ne 6, 3) := by decide +kernel
theorem dX11_keep_8 : decode cX11_keep 8 = .ok (.bipush (-3), 2) := by decide +kernel
theorem dX11_keep_10 : decode cX11_keep 10 = .ok (.ireturn, 1) := by decide +kernel
theorem dX11_keep_11 : decode cX11_keep 11 = .ok (.aload_n 0, 1) := by decide +kernel
theorem dX11_keep_12 : decode cX11_keep 12 = .ok (.iconst 0, 1) := by decide +kernel
theorem dX11_keep_13 : decode cX11_keep 13 = .ok (.bipush 9, 2) := by decide +kernel
theorem dX11_keep_15 : decode cX11_keep 15 = .ok (.aload_n 0, 1) := by decide +kernel
theorem dX11_keep_16 : decode cX11_keep 16 = .ok (.getfield 151, 3) := by decide +kernel
theorem dX11_keep_19 : decode cX11_keep 19 = .ok (.iadd, 1) := by decide +kernel
theorem dX11_keep_20 : decode cX11_keep 20 = .ok (.bipush 28, 2) := by decide +kernel
theorem dX11_keep_22 : decode cX11_keep 22 = .ok (.imul, 1) := by decide +kernel
theorem dX11_keep_23 : decode cX11_keep 23 = .ok (.invokevirtual 97, 3) := by decide +kernel
theorem dX11_keep_26 : decode cX11_keep 26 = .ok (.aload_n 0, 1) := by decide +kernel
theorem dX11_keep_27 : decode cX11_keep 27 = .ok (.dup, 1) := by decide +kernel
theorem dX11_keep_28 : decode cX11_keep 28 = .ok (.getfield 151, 3) := by decide +kernel
theorem dX11_keep_31 : decode cX11_keep 31 = .ok (.iconst 1, 1) := by decide +kernel
theorem dX11_keep_32 : decode cX11_keep 32 = .ok (.iadd, 1) := by decide +kernel
theorem dX11_keep_33 : decode cX11_keep 33 = .ok (.putfield 151, 3) := by decide +kernel
theorem dX11_keep_36 : decode cX11_keep 36 = .ok (.aload_n 0, 1) := by decide +kernel
theorem dX11_keep_37 : decode cX11_keep 37 = .ok (.getfield 151, 3) := by decide +kernel
theorem dX11_keep_40 : decode cX11_keep 40 = .ok (.ireturn, 1) := by decide +kernel
set_option maxRecDepth 20000 in
theorem ggX11_back_X11_copies : GoodIn wsX11_back wsX11_copies := goodIn_r _ [7, 8, 9, 10, 11, 12, 13, 14, 15, 16, 17, 18, 19, 20, 21, 22, 23, 24, 25, 26, 27, 28, 29, 30, 31, 32, 33, 34, 35, 36, 37, 38, 39, 40] rfl (by decide +kernel)
set_option maxRecDepth 20000 in
theorem gX11_back_X11_copies : GoodIn wsX11_back (wsV RX11 97 RX11 yX11_copies wsX11_copies) := goodIn_app (goodIn_of _ (by decide +kernel)) ggX11_back_X11_copies
theorem dX11_back_0 : decode cX11_back 0 = .ok (.aload_n 0, 1) := by decide +kernel
theorem dX11_back_1 : decode cX11_back 1 = .ok (.getfield 151, 3) := by decide +kernel
theorem dX11_back_4 : decode cX11_back 4 = .ok (.ifCond .ne 6, 3) := by decide +kernel
theorem dX11_back_7 : decode cX11_back 7 = .ok (.bipush (-2), 2) := by decide +kernel
theorem dX11_back_9 : decode cX11_back 9 = .ok (.ireturn, 1) := by decide +kernel
theorem dX11_back_10 : decode cX11_back 10 = .ok (.aload_n 0, 1) := by decide +kernel
theorem dX11_back_11 : decode cX11_back 11 = .ok (.dup, 1) := by decide +kernel
theorem dX11_back_12 : decode cX11_back 12 = .ok (.getfield 151, 3) := by decide +kernel
theorem dX11_back_15 : decode cX11_back 15 = .ok (.iconst 1, 1) := by decide +kernel
theorem dX11_back_16 : decode cX11_back 16 = .ok (.isub, 1) := by decide +kernel
theorem dX11_back_17 : decode cX11_back 17 = .ok (.putfield 151, 3) := by decide +kernel
theorem dX11_back_20 : decode cX11_back 20 = .ok (.aload_n 0, 1) := by decide +kernel
theorem dX11_back_21 : decode cX11_back 21 = .ok (.bipush 9, 2) := by decide +kernel
theorem dX11_back_23 : decode cX11_back 23 = .ok (.aload_n 0, 1) := by decide +kernel
theorem dX11_back_24 : decode cX11_back 24 = .ok (.getfield 151, 3) := by decide +kernel
theorem dX11_back_27 : decode cX11_back 27 = .ok (.iadd, 1) := by decide +kernel
theorem dX11_back_28 : decode cX11_back 28 = .ok (.bipush 28, 2) := by decide +kernel
theorem dX11_back_30 : decode cX11_back 30 = .ok (.imul, 1) := by decide +kernel
theorem dX11_back_31 : decode cX11_back 31 = .ok (.iconst 0, 1) := by decide +kernel
theorem dX11_back_32 : decode cX11_back 32 = .ok (.invokevirtual 97, 3) := by decide +kernel
theorem dX11_back_35 : decode cX11_back 35 = .ok (.aload_n 0, 1) := by decide +kernel
theorem dX11_back_36 : decode cX11_back 36 = .ok (.iconst 0, 1) := by decide +kernel
theorem dX11_back_37 : decode cX11_back 37 = .ok (.putfield 148, 3) := by decide +kernel
theorem dX11_back_40 : decode cX11_back 40 = .ok (.aload_n 0, 1) := by decide +kernel
theorem dX11_back_41 : decode cX11_back 41 = .ok (.getfield 151, 3) := by decide +kernel
theorem dX11_back_44 : decode cX11_back 44 = .ok (.ireturn, 1) := by decide +kernel
set_option maxRecDepth 20000 in
theorem ggX11_sumOf_X11_leftAt : GoodIn wsX11_sumOf wsX11_leftAt := goodIn_r _ [7, 2, 8, 9, 10, 6, 11, 12, 13, 14, 15, 16, 17, 18, 19, 20, 21, 22, 23, 24, 25, 26, 27, 28, 29, 30, 31, 32, 33, 34, 35, 36, 37, 38, 39, 40, 41, 42, 43, 44, 45, 46, 47, 48, 49, 50, 51, 52, 53, 54, 55, 56, 57, 58, 59, 60, 61, 62, 63] rfl (by decide +kernel)
set_option maxRecDepth 20000 in
theorem gX11_sumOf_X11_leftAt : GoodIn wsX11_sumOf (wsV RX11 181 RX11 yX11_leftAt wsX11_leftAt) := goodIn_app (goodIn_of _ (by decide +kernel)) ggX11_sumOf_X11_leftAt
theorem dX11_sumOf_0 : decode cX11_sumOf 0 = .ok (.iconst 0, 1) := by decide +kernel
theorem dX11_sumOf_1 : decode cX11_sumOf 1 = .ok (.istore_n 2, 1) := by decide +kernel
theorem dX11_sumOf_2 : decode cX11_sumOf 2 = .ok (.iconst 0, 1) := by decide +kernel
theorem dX11_sumOf_3 : decode cX11_sumOf 3 = .ok (.istore_n 3, 1) := by decide +kernel
theorem dX11_sumOf_4 : decode cX11_sumOf 4 = .ok (.iload_n 3, 1) := by decide +kernel
theorem dX11_sumOf_5 : decode cX11_sumOf 5 = .ok (.aload_n 0, 1) := by decide +kernel
theorem dX11_sumOf_6 : decode cX11_sumOf 6 = .ok (.getfield 88, 3) := by decide +kernel
theorem dX11_sumOf_9 : decode cX11_sumOf 9 = .ok (.if_icmp .ge 34, 3) := by decide +kernel
theorem dX11_sumOf_12 : decode cX11_sumOf 12 = .ok (.iload_n 2, 1) := by decide +kernel
theorem dX11_sumOf_13 : decode cX11_sumOf 13 = .ok (.iload_n 1, 1) := by decide +kernel
theorem dX11_sumOf_14 : decode cX11_sumOf 14 = .ok (.ifCond .eq 12, 3) := by decide +kernel
theorem dX11_sumOf_17 : decode cX11_sumOf 17 = .ok (.aload_n 0, 1) := by decide +kernel
theorem dX11_sumOf_18 : decode cX11_sumOf 18 = .ok (.iconst 0, 1) := by decide +kernel
theorem dX11_sumOf_19 : decode cX11_sumOf 19 = .ok (.iload_n 3, 1) := by decide +kernel
theorem dX11_sumOf_20 : decode cX11_sumOf 20 = .ok (.invokevirtual 181, 3) := by decide +kernel
theorem dX11_sumOf_23 : decode cX11_sumOf 23 = .ok (.goto 12, 3) := by decide +kernel
theorem dX11_sumOf_26 : decode cX11_sumOf 26 = .ok (.aload_n 0, 1) := by decide +kernel
theorem dX11_sumOf_27 : decode cX11_sumOf 27 = .ok (.getfield 37, 3) := by decide +kernel
theorem dX11_sumOf_30 : decode cX11_sumOf 30 = .ok (.bipush 9, 2) := by decide +kernel
theorem dX11_sumOf_32 : decode cX11_sumOf 32 = .ok (.iload_n 3, 1) := by decide +kernel
theorem dX11_sumOf_33 : decode cX11_sumOf 33 = .ok (.iadd, 1) := by decide +kernel
theorem dX11_sumOf_34 : decode cX11_sumOf 34 = .ok (.iaload, 1) := by decide +kernel
theorem dX11_sumOf_35 : decode cX11_sumOf 35 = .ok (.iadd, 1) := by decide +kernel
theorem dX11_sumOf_36 : decode cX11_sumOf 36 = .ok (.istore_n 2, 1) := by decide +kernel
theorem dX11_sumOf_37 : decode cX11_sumOf 37 = .ok (.iinc 3 1, 3) := by decide +kernel
theorem dX11_sumOf_40 : decode cX11_sumOf 40 = .ok (.goto (-36), 3) := by decide +kernel
theorem dX11_sumOf_43 : decode cX11_sumOf 43 = .ok (.iload_n 2, 1) := by decide +kernel
theorem dX11_sumOf_44 : decode cX11_sumOf 44 = .ok (.ireturn, 1) := by decide +kernel
set_option maxRecDepth 20000 in
theorem ggX11_count_X11_alive : GoodIn wsX11_count wsX11_alive := goodIn_r _ [13, 2, 4, 48, 49, 50, 51, 52, 53, 54, 55, 56, 57, 58, 59, 60, 61, 62, 63, 64, 65, 66, 67, 68, 69, 70, 71, 72, 73, 74, 75, 76, 77, 78, 79] rfl (by decide +kernel)
set_option maxRecDepth 20000 in
theorem gX11_count_X11_alive : GoodIn wsX11_count (wsV RX11 235 RX11 yX11_alive wsX11_alive) := goodIn_app (goodIn_of _ (by decide +kernel)) ggX11_count_X11_alive
set_option maxRecDepth 20000 in
theorem ggX11_count_X11_bits : GoodIn wsX11_count wsX11_bits := goodIn_r _ [16] rfl (by decide +kernel)
set_option maxRecDepth 20000 in
theorem gX11_count_X11_bits : GoodIn wsX11_count (va_wsS RX11 206 yX11_bits wsX11_bits) := goodIn_app (goodIn_of _ (by decide +kernel)) ggX11_count_X11_bits
set_option maxRecDepth 20000 in
theorem ggX11_count_X11_sumOf : GoodIn wsX11_count wsX11_sumOf := goodIn_r _ [20, 1, 4, 21, 22, 23, 12, 24, 25, 26, 27, 28, 2, 29, 30, 31, 32, 33, 34, 35, 36, 37, 38, 39, 40, 41, 42, 43, 44, 45, 46, 47, 48, 49, 50, 51, 52, 53, 54, 55, 56, 57, 58, 59, 60, 61, 62, 63, 64, 65, 66, 67, 68, 69, 70, 71, 72, 73, 74, 75, 76, 77, 78, 79] rfl (by decide +kernel)
set_option maxRecDepth 20000 in
theorem gX11_count_X11_sumOf : GoodIn wsX11_count (wsV RX11 258 RX11 yX11_sumOf wsX11_sumOf) := goodIn_app (goodIn_of _ (by decide +kernel)) ggX11_count_X11_sumOf
theorem dX11_count_0 : decode cX11_count 0 = .ok (.iload_n 1, 1) := by decide +kernel
theorem dX11_count_1 : decode cX11_count 1 = .ok (.ifCond .ne 10, 3) := by decide +kernel
theorem dX11_count_4 : decode cX11_count 4 = .ok (.aload_n 0, 1) := by decide +kernel
theorem dX11_count_5 : decode cX11_count 5 = .ok (.getfield 88, 3) := by decide +kernel
theorem dX11_count_8 : decode cX11_count 8 = .ok (.goto 159, 3) := by decide +kernel
theorem dX11_count_11 : decode cX11_count 11 = .ok (.iload_n 1, 1) := by decide +kernel
theorem dX11_count_12 : decode cX11_count 12 = .ok (.iconst 1, 1) := by decide +kernel
theorem dX11_count_13 : decode cX11_count 13 = .ok (.if_icmp .ne 10, 3) := by decide +kernel
theorem dX11_count_16 : decode cX11_count 16 = .ok (.aload_n 0, 1) := by decide +kernel
theorem dX11_count_17 : decode cX11_count 17 = .ok (.getfield 94, 3) := by decide +kernel
theorem dX11_count_20 : decode cX11_count 20 = .ok (.goto 147, 3) := by decide +kernel
theorem dX11_count_23 : decode cX11_count 23 = .ok (.iload_n 1, 1) := by decide +kernel
theorem dX11_count_24 : decode cX11_count 24 = .ok (.iconst 2, 1) := by decide +kernel
theorem dX11_count_25 : decode cX11_count 25 = .ok (.if_icmp .ne 10, 3) := by decide +kernel
theorem dX11_count_28 : decode cX11_count 28 = .ok (.aload_n 0, 1) := by decide +kernel
theorem dX11_count_29 : decode cX11_count 29 = .ok (.getfield 91, 3) := by decide +kernel
theorem dX11_count_32 : decode cX11_count 32 = .ok (.goto 135, 3) := by decide +kernel
theorem dX11_count_35 : decode cX11_count 35 = .ok (.iload_n 1, 1) := by decide +kernel
theorem dX11_count_36 : decode cX11_count 36 = .ok (.iconst 3, 1) := by decide +kernel
theorem dX11_count_37 : decode cX11_count 37 = .ok (.if_icmp .ne 13, 3) := by decide +kernel
theorem dX11_count_40 : decode cX11_count 40 = .ok (.aload_n 0, 1) := by decide +kernel
theorem dX11_count_41 : decode cX11_count 41 = .ok (.getfield 37, 3) := by decide +kernel
theorem dX11_count_44 : decode cX11_count 44 = .ok (.bipush 27, 2) := by decide +kernel
theorem dX11_count_46 : decode cX11_count 46 = .ok (.iaload, 1) := by decide +kernel
theorem dX11_count_47 : decode cX11_count 47 = .ok (.goto 120, 3) := by decide +kernel
theorem dX11_count_50 : decode cX11_count 50 = .ok (.iload_n 1, 1) := by decide +kernel
theorem dX11_count_51 : decode cX11_count 51 = .ok (.iconst 4, 1) := by decide +kernel
theorem dX11_count_52 : decode cX11_count 52 = .ok (.if_icmp .ne 16, 3) := by decide +kernel
theorem dX11_count_55 : decode cX11_count 55 = .ok (.aload_n 0, 1) := by decide +kernel
theorem dX11_count_56 : decode cX11_count 56 = .ok (.getfield 94, 3) := by decide +kernel
theorem dX11_count_59 : decode cX11_count 59 = .ok (.aload_n 0, 1) := by decide +kernel
theorem dX11_count_60 : decode cX11_count 60 = .ok (.iconst 0, 1) := by decide +kernel
theorem dX11_count_61 : decode cX11_count 61 = .ok (.invokevirtual 235, 3) := by decide +kernel
theorem dX11_count_64 : decode cX11_count 64 = .ok (.isub, 1) := by decide +kernel
theorem dX11_count_65 : decode cX11_count 65 = .ok (.goto 102, 3) := by decide +kernel
theorem dX11_count_68 : decode cX11_count 68 = .ok (.iload_n 1, 1) := by decide +kernel
theorem dX11_count_69 : decode cX11_count 69 = .ok (.iconst 5, 1) := by decide +kernel
theorem dX11_count_70 : decode cX11_count 70 = .ok (.if_icmp .ne 16, 3) := by decide +kernel
theorem dX11_count_73 : decode cX11_count 73 = .ok (.aload_n 0, 1) := by decide +kernel
theorem dX11_count_74 : decode cX11_count 74 = .ok (.getfield 37, 3) := by decide +kernel
theorem dX11_count_77 : decode cX11_count 77 = .ok (.bipush 8, 2) := by decide +kernel
theorem dX11_count_79 : decode cX11_count 79 = .ok (.iaload, 1) := by decide +kernel
theorem dX11_count_80 : decode cX11_count 80 = .ok (.invokestatic 206, 3) := by decide +kernel
theorem dX11_count_83 : decode cX11_count 83 = .ok (.goto 84, 3) := by decide +kernel
theorem dX11_count_86 : decode cX11_count 86 = .ok (.iload_n 1, 1) := by decide +kernel
theorem dX11_count_87 : decode cX11_count 87 = .ok (.bipush 6, 2) := by decide +kernel
theorem dX11_count_89 : decode cX11_count 89 = .ok (.if_icmp .ne 11, 3) := by decide +kernel
theorem dX11_count_92 : decode cX11_count 92 = .ok (.aload_n 0, 1) := by decide +kernel
theorem dX11_count_93 : decode cX11_count 93 = .ok (.iconst 0, 1) := by decide +kernel
theorem dX11_count_94 : decode cX11_count 94 = .ok (.invokevirtual 258, 3) := by decide +kernel
theorem dX11_count_97 : decode cX11_count 97 = .ok (.goto 70, 3) := by decide +kernel
theorem dX11_count_100 : decode cX11_count 100 = .ok (.iload_n 1, 1) := by decide +kernel
theorem dX11_count_101 : decode cX11_count 101 = .ok (.bipush 7, 2) := by decide +kernel
theorem dX11_count_103 : decode cX11_count 103 = .ok (.if_icmp .ne 11, 3) := by decide +kernel
theorem dX11_count_106 : decode cX11_count 106 = .ok (.aload_n 0, 1) := by decide +kernel
theorem dX11_count_107 : decode cX11_count 107 = .ok (.iconst 1, 1) := by decide +kernel
theorem dX11_count_108 : decode cX11_count 108 = .ok (.invokevirtual 258, 3) := by decide +kernel
theorem dX11_count_111 : decode cX11_count 111 = .ok (.goto 56, 3) := by decide +kernel
theorem dX11_count_114 : decode cX11_count 114 = .ok (.iload_n 1, 1) := by decide +kernel
theorem dX11_count_115 : decode cX11_count 115 = .ok (.bipush 8, 2) := by decide +kernel
theorem dX11_count_117 : decode cX11_count 117 = .ok (.if_icmp .ne 10, 3) := by decide +kernel
theorem dX11_count_120 : decode cX11_count 120 = .ok (.aload_n 0, 1) := by decide +kernel
theorem dX11_count_121 : decode cX11_count 121 = .ok (.getfield 154, 3) := by decide +kernel
theorem dX11_count_124 : decode cX11_count 124 = .ok (.goto 43, 3) := by decide +kernel
theorem dX11_count_127 : decode cX11_count 127 = .ok (.iload_n 1, 1) := by decide +kernel
theorem dX11_count_128 : decode cX11_count 128 = .ok (.bipush 9, 2) := by decide +kernel
theorem dX11_count_130 : decode cX11_count 130 = .ok (.if_icmp .ne 10, 3) := by decide +kernel
theorem dX11_count_133 : decode cX11_count 133 = .ok (.aload_n 0, 1) := by decide +kernel
theorem dX11_count_134 : decode cX11_count 134 = .ok (.getfield 148, 3) := by decide +kernel
theorem dX11_count_137 : decode cX11_count 137 = .ok (.goto 30, 3) := by decide +kernel
theorem dX11_count_140 : decode cX11_count 140 = .ok (.iload_n 1, 1) := by decide +kernel
theorem dX11_count_141 : decode cX11_count 141 = .ok (.bipush 10, 2) := by decide +kernel
theorem dX11_count_143 : decode cX11_count 143 = .ok (.if_icmp .ne 10, 3) := by decide +kernel
theorem dX11_count_146 : decode cX11_count 146 = .ok (.aload_n 0, 1) := by decide +kernel
theorem dX11_count_147 : decode cX11_count 147 = .ok (.getfield 151, 3) := by decide +kernel
theorem dX11_count_150 : decode cX11_count 150 = .ok (.goto 17, 3) := by decide +kernel
theorem dX11_count_153 : decode cX11_count 153 = .ok (.iload_n 1, 1) := by decide +kernel
theorem dX11_count_154 : decode cX11_count 154 = .ok (.bipush 11, 2) := by decide +kernel
theorem dX11_count_156 : decode cX11_count 156 = .ok (.if_icmp .ne 10, 3) := by decide +kernel
theorem dX11_count_159 : decode cX11_count 159 = .ok (.aload_n 0, 1) := by decide +kernel
theorem dX11_count_160 : decode cX11_count 160 = .ok (.getfield 109, 3) := by decide +kernel
theorem dX11_count_163 : decode cX11_count 163 = .ok (.goto 4, 3) := by decide +kernel
theorem dX11_count_166 : decode cX11_count 166 = .ok (.iconst (-1), 1) := by decide +kernel
theorem dX11_count_167 : decode cX11_count 167 = .ok (.ireturn, 1) := by decide +kernel
