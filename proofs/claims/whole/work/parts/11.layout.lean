/-- the cells of the class -/
def shC : List Sh := [.inr (.inl (10, [some 1, some 4, some 14, some 24, some 28, some 62, some 72, some 74, some 77, some 82, some 108, some 147])), .inr (.inl (4, [some 2, some 3, none])), .inl (0, 200), .inl (0, 5), .inr (.inl (3, [some 5, some 6, some 7, some 8, some 9, some 10, some 11, some 12, some 13, none, none, none, none])), .inl (0, 8), .inl (0, 8), .inl (0, 8), .inl (0, 8), .inl (0, 8), .inl (0, 9), .inl (0, 9), .inl (0, 8), .inl (0, 10), .inr (.inl (3, [some 15, some 16, some 17, some 18, some 19, some 20, some 21, some 22, some 23, none, none, none, none])), .inl (0, 8), .inl (0, 8), .inl (0, 8), .inl (0, 8), .inl (0, 8), .inl (0, 9), .inl (0, 9), .inl (0, 8), .inl (0, 10), .inr (.inl (9, [some 25, some 26, some 27, none, none])), .inl (0, 9), .inl (0, 9), .inl (0, 8), .inr (.inl (7, [some 29, none, none])), .inr (.inr (2, 8, 30, 4)), .inr (.inl (9, [some 31, some 32, some 33, none, none])), .inl (0, 9), .inl (0, 9), .inl (0, 8), .inr (.inl (9, [some 35, some 36, some 37, none, none])), .inl (0, 9), .inl (0, 9), .inl (0, 8), .inr (.inl (9, [some 39, some 40, some 41, none, none])), .inl (0, 9), .inl (0, 9), .inl (0, 8), .inr (.inl (9, [some 43, some 44, some 45, none, none])), .inl (0, 9), .inl (0, 9), .inl (0, 8), .inr (.inl (9, [some 47, some 48, some 49, none, none])), .inl (0, 9), .inl (0, 9), .inl (0, 8), .inr (.inl (9, [some 51, some 52, some 53, none, none])), .inl (0, 9), .inl (0, 9), .inl (0, 8), .inr (.inl (9, [some 55, some 56, some 57, none, none])), .inl (0, 9), .inl (0, 9), .inl (0, 8), .inr (.inl (9, [some 59, some 60, some 61, none, none])), .inl (0, 9), .inl (0, 9), .inl (0, 8), .inr (.inl (7, [some 63, none, none])), .inr (.inr (2, 2, 64, 4)), .inr (.inl (9, [some 65, some 66, some 67, none, none])), .inl (0, 9), .inl (0, 9), .inl (0, 8), .inr (.inl (9, [some 69, some 70, some 71, none, none])), .inl (0, 9), .inl (0, 9), .inl (0, 8), .inr (.inl (2, [some 4, some 73])), .inl (0, 8), .inr (.inl (5, [some 75, some 76, none])), .inl (0, 6), .inl (0, 6), .inr (.inl (1, [some 4, some 72, some 78])), .inr (.inl (9, [some 79, some 80, some 81, none, none])), .inl (0, 9), .inl (0, 9), .inl (0, 8), .inr (.inl (6, [some 4, some 72, some 83, some 87, some 97, some 107, none])), .inr (.inl (9, [some 84, some 85, some 86, none, none])), .inl (0, 9), .inl (0, 9), .inl (0, 8), .inr (.inr (3, 9, 88, 1)), .inl (0, 10), .inl (0, 10), .inl (0, 10), .inl (0, 10), .inl (0, 10), .inl (0, 10), .inl (0, 10), .inl (0, 10), .inl (0, 10), .inr (.inr (3, 9, 98, 1)), .inl (0, 100), .inl (0, 100), .inl (0, 100), .inl (0, 100), .inl (0, 100), .inl (0, 100), .inl (0, 100), .inl (0, 100), .inl (0, 100), .inl (0, 9), .inr (.inl (8, [some 4, some 72, some 109, some 146])), .inr (.inr (2, 9, 110, 4)), .inr (.inl (9, [some 111, some 112, some 113, none, none])), .inl (0, 9), .inl (0, 9), .inl (0, 8), .inr (.inl (9, [some 115, some 116, some 117, none, none])), .inl (0, 9), .inl (0, 9), .inl (0, 8), .inr (.inl (9, [some 119, some 120, some 121, none, none])), .inl (0, 9), .inl (0, 9), .inl (0, 8), .inr (.inl (9, [some 123, some 124, some 125, none, none])), .inl (0, 9), .inl (0, 9), .inl (0, 8), .inr (.inl (9, [some 127, some 128, some 129, none, none])), .inl (0, 9), .inl (0, 9), .inl (0, 8), .inr (.inl (9, [some 131, some 132, some 133, none, none])), .inl (0, 9), .inl (0, 9), .inl (0, 8), .inr (.inl (9, [some 135, some 136, some 137, none, none])), .inl (0, 9), .inl (0, 9), .inl (0, 8), .inr (.inl (9, [some 139, some 140, some 141, none, none])), .inl (0, 9), .inl (0, 9), .inl (0, 8), .inr (.inl (9, [some 143, some 144, some 145, none, none])), .inl (0, 9), .inl (0, 9), .inl (0, 8), .inl (0, 9), .inr (.inl (0, [some 148, some 149])), .inl (0, 512), .inl (0, 512)]
theorem sc_0 {w : Wl} (hw : w.2.2.2 = shC) : w.2.2.2[0]? = some (.inr (.inl (10, [some 1, some 4, some 14, some 24, some 28, some 62, some 72, some 74, some 77, some 82, some 108, some 147]))) := by rw [hw]; rfl
theorem sc_1 {w : Wl} (hw : w.2.2.2 = shC) : w.2.2.2[1]? = some (.inr (.inl (4, [some 2, some 3, none]))) := by rw [hw]; rfl
theorem sc_2 {w : Wl} (hw : w.2.2.2 = shC) : w.2.2.2[2]? = some (.inl (0, 200)) := by rw [hw]; rfl
theorem sc_3 {w : Wl} (hw : w.2.2.2 = shC) : w.2.2.2[3]? = some (.inl (0, 5)) := by rw [hw]; rfl
theorem sc_4 {w : Wl} (hw : w.2.2.2 = shC) : w.2.2.2[4]? = some (.inr (.inl (3, [some 5, some 6, some 7, some 8, some 9, some 10, some 11, some 12, some 13, none, none, none, none]))) := by rw [hw]; rfl
theorem sc_5 {w : Wl} (hw : w.2.2.2 = shC) : w.2.2.2[5]? = some (.inl (0, 8)) := by rw [hw]; rfl
theorem sc_6 {w : Wl} (hw : w.2.2.2 = shC) : w.2.2.2[6]? = some (.inl (0, 8)) := by rw [hw]; rfl
theorem sc_7 {w : Wl} (hw : w.2.2.2 = shC) : w.2.2.2[7]? = some (.inl (0, 8)) := by rw [hw]; rfl
theorem sc_8 {w : Wl} (hw : w.2.2.2 = shC) : w.2.2.2[8]? = some (.inl (0, 8)) := by rw [hw]; rfl
theorem sc_9 {w : Wl} (hw : w.2.2.2 = shC) : w.2.2.2[9]? = some (.inl (0, 8)) := by rw [hw]; rfl
theorem sc_10 {w : Wl} (hw : w.2.2.2 = shC) : w.2.2.2[10]? = some (.inl (0, 9)) := by rw [hw]; rfl
theorem sc_11 {w : Wl} (hw : w.2.2.2 = shC) : w.2.2.2[11]? = some (.inl (0, 9)) := by rw [hw]; rfl
theorem sc_12 {w : Wl} (hw : w.2.2.2 = shC) : w.2.2.2[12]? = some (.inl (0, 8)) := by rw [hw]; rfl
theorem sc_13 {w : Wl} (hw : w.2.2.2 = shC) : w.2.2.2[13]? = some (.inl (0, 10)) := by rw [hw]; rfl
theorem sc_14 {w : Wl} (hw : w.2.2.2 = shC) : w.2.2.2[14]? = some (.inr (.inl (3, [some 15, some 16, some 17, some 18, some 19, some 20, some 21, some 22, some 23, none, none, none, none]))) := by rw [hw]; rfl
theorem sc_15 {w : Wl} (hw : w.2.2.2 = shC) : w.2.2.2[15]? = some (.inl (0, 8)) := by rw [hw]; rfl
theorem sc_16 {w : Wl} (hw : w.2.2.2 = shC) : w.2.2.2[16]? = some (.inl (0, 8)) := by rw [hw]; rfl
theorem sc_17 {w : Wl} (hw : w.2.2.2 = shC) : w.2.2.2[17]? = some (.inl (0, 8)) := by rw [hw]; rfl
theorem sc_18 {w : Wl} (hw : w.2.2.2 = shC) : w.2.2.2[18]? = some (.inl (0, 8)) := by rw [hw]; rfl
theorem sc_19 {w : Wl} (hw : w.2.2.2 = shC) : w.2.2.2[19]? = some (.inl (0, 8)) := by rw [hw]; rfl
theorem sc_20 {w : Wl} (hw : w.2.2.2 = shC) : w.2.2.2[20]? = some (.inl (0, 9)) := by rw [hw]; rfl
theorem sc_21 {w : Wl} (hw : w.2.2.2 = shC) : w.2.2.2[21]? = some (.inl (0, 9)) := by rw [hw]; rfl
theorem sc_22 {w : Wl} (hw : w.2.2.2 = shC) : w.2.2.2[22]? = some (.inl (0, 8)) := by rw [hw]; rfl
theorem sc_23 {w : Wl} (hw : w.2.2.2 = shC) : w.2.2.2[23]? = some (.inl (0, 10)) := by rw [hw]; rfl
theorem sc_24 {w : Wl} (hw : w.2.2.2 = shC) : w.2.2.2[24]? = some (.inr (.inl (9, [some 25, some 26, some 27, none, none]))) := by rw [hw]; rfl
theorem sc_25 {w : Wl} (hw : w.2.2.2 = shC) : w.2.2.2[25]? = some (.inl (0, 9)) := by rw [hw]; rfl
theorem sc_26 {w : Wl} (hw : w.2.2.2 = shC) : w.2.2.2[26]? = some (.inl (0, 9)) := by rw [hw]; rfl
theorem sc_27 {w : Wl} (hw : w.2.2.2 = shC) : w.2.2.2[27]? = some (.inl (0, 8)) := by rw [hw]; rfl
theorem sc_28 {w : Wl} (hw : w.2.2.2 = shC) : w.2.2.2[28]? = some (.inr (.inl (7, [some 29, none, none]))) := by rw [hw]; rfl
theorem sc_29 {w : Wl} (hw : w.2.2.2 = shC) : w.2.2.2[29]? = some (.inr (.inr (2, 8, 30, 4))) := by rw [hw]; rfl
theorem sc_30 {w : Wl} (hw : w.2.2.2 = shC) : w.2.2.2[30]? = some (.inr (.inl (9, [some 31, some 32, some 33, none, none]))) := by rw [hw]; rfl
theorem sc_31 {w : Wl} (hw : w.2.2.2 = shC) : w.2.2.2[31]? = some (.inl (0, 9)) := by rw [hw]; rfl
theorem sc_32 {w : Wl} (hw : w.2.2.2 = shC) : w.2.2.2[32]? = some (.inl (0, 9)) := by rw [hw]; rfl
theorem sc_33 {w : Wl} (hw : w.2.2.2 = shC) : w.2.2.2[33]? = some (.inl (0, 8)) := by rw [hw]; rfl
theorem sc_34 {w : Wl} (hw : w.2.2.2 = shC) : w.2.2.2[34]? = some (.inr (.inl (9, [some 35, some 36, some 37, none, none]))) := by rw [hw]; rfl
theorem sc_35 {w : Wl} (hw : w.2.2.2 = shC) : w.2.2.2[35]? = some (.inl (0, 9)) := by rw [hw]; rfl
theorem sc_36 {w : Wl} (hw : w.2.2.2 = shC) : w.2.2.2[36]? = some (.inl (0, 9)) := by rw [hw]; rfl
theorem sc_37 {w : Wl} (hw : w.2.2.2 = shC) : w.2.2.2[37]? = some (.inl (0, 8)) := by rw [hw]; rfl
theorem sc_38 {w : Wl} (hw : w.2.2.2 = shC) : w.2.2.2[38]? = some (.inr (.inl (9, [some 39, some 40, some 41, none, none]))) := by rw [hw]; rfl
theorem sc_39 {w : Wl} (hw : w.2.2.2 = shC) : w.2.2.2[39]? = some (.inl (0, 9)) := by rw [hw]; rfl
theorem sc_40 {w : Wl} (hw : w.2.2.2 = shC) : w.2.2.2[40]? = some (.inl (0, 9)) := by rw [hw]; rfl
theorem sc_41 {w : Wl} (hw : w.2.2.2 = shC) : w.2.2.2[41]? = some (.inl (0, 8)) := by rw [hw]; rfl
theorem sc_42 {w : Wl} (hw : w.2.2.2 = shC) : w.2.2.2[42]? = some (.inr (.inl (9, [some 43, some 44, some 45, none, none]))) := by rw [hw]; rfl
theorem sc_43 {w : Wl} (hw : w.2.2.2 = shC) : w.2.2.2[43]? = some (.inl (0, 9)) := by rw [hw]; rfl
theorem sc_44 {w : Wl} (hw : w.2.2.2 = shC) : w.2.2.2[44]? = some (.inl (0, 9)) := by rw [hw]; rfl
theorem sc_45 {w : Wl} (hw : w.2.2.2 = shC) : w.2.2.2[45]? = some (.inl (0, 8)) := by rw [hw]; rfl
theorem sc_46 {w : Wl} (hw : w.2.2.2 = shC) : w.2.2.2[46]? = some (.inr (.inl (9, [some 47, some 48, some 49, none, none]))) := by rw [hw]; rfl
theorem sc_47 {w : Wl} (hw : w.2.2.2 = shC) : w.2.2.2[47]? = some (.inl (0, 9)) := by rw [hw]; rfl
theorem sc_48 {w : Wl} (hw : w.2.2.2 = shC) : w.2.2.2[48]? = some (.inl (0, 9)) := by rw [hw]; rfl
theorem sc_49 {w : Wl} (hw : w.2.2.2 = shC) : w.2.2.2[49]? = some (.inl (0, 8)) := by rw [hw]; rfl
theorem sc_50 {w : Wl} (hw : w.2.2.2 = shC) : w.2.2.2[50]? = some (.inr (.inl (9, [some 51, some 52, some 53, none, none]))) := by rw [hw]; rfl
theorem sc_51 {w : Wl} (hw : w.2.2.2 = shC) : w.2.2.2[51]? = some (.inl (0, 9)) := by rw [hw]; rfl
theorem sc_52 {w : Wl} (hw : w.2.2.2 = shC) : w.2.2.2[52]? = some (.inl (0, 9)) := by rw [hw]; rfl
theorem sc_53 {w : Wl} (hw : w.2.2.2 = shC) : w.2.2.2[53]? = some (.inl (0, 8)) := by rw [hw]; rfl
theorem sc_54 {w : Wl} (hw : w.2.2.2 = shC) : w.2.2.2[54]? = some (.inr (.inl (9, [some 55, some 56, some 57, none, none]))) := by rw [hw]; rfl
theorem sc_55 {w : Wl} (hw : w.2.2.2 = shC) : w.2.2.2[55]? = some (.inl (0, 9)) := by rw [hw]; rfl
theorem sc_56 {w : Wl} (hw : w.2.2.2 = shC) : w.2.2.2[56]? = some (.inl (0, 9)) := by rw [hw]; rfl
theorem sc_57 {w : Wl} (hw : w.2.2.2 = shC) : w.2.2.2[57]? = some (.inl (0, 8)) := by rw [hw]; rfl
theorem sc_58 {w : Wl} (hw : w.2.2.2 = shC) : w.2.2.2[58]? = some (.inr (.inl (9, [some 59, some 60, some 61, none, none]))) := by rw [hw]; rfl
theorem sc_59 {w : Wl} (hw : w.2.2.2 = shC) : w.2.2.2[59]? = some (.inl (0, 9)) := by rw [hw]; rfl
theorem sc_60 {w : Wl} (hw : w.2.2.2 = shC) : w.2.2.2[60]? = some (.inl (0, 9)) := by rw [hw]; rfl
theorem sc_61 {w : Wl} (hw : w.2.2.2 = shC) : w.2.2.2[61]? = some (.inl (0, 8)) := by rw [hw]; rfl
theorem sc_62 {w : Wl} (hw : w.2.2.2 = shC) : w.2.2.2[62]? = some (.inr (.inl (7, [some 63, none, none]))) := by rw [hw]; rfl
theorem sc_63 {w : Wl} (hw : w.2.2.2 = shC) : w.2.2.2[63]? = some (.inr (.inr (2, 2, 64, 4))) := by rw [hw]; rfl
theorem sc_64 {w : Wl} (hw : w.2.2.2 = shC) : w.2.2.2[64]? = some (.inr (.inl (9, [some 65, some 66, some 67, none, none]))) := by rw [hw]; rfl
theorem sc_65 {w : Wl} (hw : w.2.2.2 = shC) : w.2.2.2[65]? = some (.inl (0, 9)) := by rw [hw]; rfl
theorem sc_66 {w : Wl} (hw : w.2.2.2 = shC) : w.2.2.2[66]? = some (.inl (0, 9)) := by rw [hw]; rfl
theorem sc_67 {w : Wl} (hw : w.2.2.2 = shC) : w.2.2.2[67]? = some (.inl (0, 8)) := by rw [hw]; rfl
theorem sc_68 {w : Wl} (hw : w.2.2.2 = shC) : w.2.2.2[68]? = some (.inr (.inl (9, [some 69, some 70, some 71, none, none]))) := by rw [hw]; rfl
theorem sc_69 {w : Wl} (hw : w.2.2.2 = shC) : w.2.2.2[69]? = some (.inl (0, 9)) := by rw [hw]; rfl
theorem sc_70 {w : Wl} (hw : w.2.2.2 = shC) : w.2.2.2[70]? = some (.inl (0, 9)) := by rw [hw]; rfl
theorem sc_71 {w : Wl} (hw : w.2.2.2 = shC) : w.2.2.2[71]? = some (.inl (0, 8)) := by rw [hw]; rfl
theorem sc_72 {w : Wl} (hw : w.2.2.2 = shC) : w.2.2.2[72]? = some (.inr (.inl (2, [some 4, some 73]))) := by rw [hw]; rfl
theorem sc_73 {w : Wl} (hw : w.2.2.2 = shC) : w.2.2.2[73]? = some (.inl (0, 8)) := by rw [hw]; rfl
theorem sc_74 {w : Wl} (hw : w.2.2.2 = shC) : w.2.2.2[74]? = some (.inr (.inl (5, [some 75, some 76, none]))) := by rw [hw]; rfl
theorem sc_75 {w : Wl} (hw : w.2.2.2 = shC) : w.2.2.2[75]? = some (.inl (0, 6)) := by rw [hw]; rfl
theorem sc_76 {w : Wl} (hw : w.2.2.2 = shC) : w.2.2.2[76]? = some (.inl (0, 6)) := by rw [hw]; rfl
theorem sc_77 {w : Wl} (hw : w.2.2.2 = shC) : w.2.2.2[77]? = some (.inr (.inl (1, [some 4, some 72, some 78]))) := by rw [hw]; rfl
theorem sc_78 {w : Wl} (hw : w.2.2.2 = shC) : w.2.2.2[78]? = some (.inr (.inl (9, [some 79, some 80, some 81, none, none]))) := by rw [hw]; rfl
theorem sc_79 {w : Wl} (hw : w.2.2.2 = shC) : w.2.2.2[79]? = some (.inl (0, 9)) := by rw [hw]; rfl
theorem sc_80 {w : Wl} (hw : w.2.2.2 = shC) : w.2.2.2[80]? = some (.inl (0, 9)) := by rw [hw]; rfl
theorem sc_81 {w : Wl} (hw : w.2.2.2 = shC) : w.2.2.2[81]? = some (.inl (0, 8)) := by rw [hw]; rfl
theorem sc_82 {w : Wl} (hw : w.2.2.2 = shC) : w.2.2.2[82]? = some (.inr (.inl (6, [some 4, some 72, some 83, some 87, some 97, some 107, none]))) := by rw [hw]; rfl
theorem sc_83 {w : Wl} (hw : w.2.2.2 = shC) : w.2.2.2[83]? = some (.inr (.inl (9, [some 84, some 85, some 86, none, none]))) := by rw [hw]; rfl
theorem sc_84 {w : Wl} (hw : w.2.2.2 = shC) : w.2.2.2[84]? = some (.inl (0, 9)) := by rw [hw]; rfl
theorem sc_85 {w : Wl} (hw : w.2.2.2 = shC) : w.2.2.2[85]? = some (.inl (0, 9)) := by rw [hw]; rfl
theorem sc_86 {w : Wl} (hw : w.2.2.2 = shC) : w.2.2.2[86]? = some (.inl (0, 8)) := by rw [hw]; rfl
theorem sc_87 {w : Wl} (hw : w.2.2.2 = shC) : w.2.2.2[87]? = some (.inr (.inr (3, 9, 88, 1))) := by rw [hw]; rfl
theorem sc_88 {w : Wl} (hw : w.2.2.2 = shC) : w.2.2.2[88]? = some (.inl (0, 10)) := by rw [hw]; rfl
theorem sc_89 {w : Wl} (hw : w.2.2.2 = shC) : w.2.2.2[89]? = some (.inl (0, 10)) := by rw [hw]; rfl
theorem sc_90 {w : Wl} (hw : w.2.2.2 = shC) : w.2.2.2[90]? = some (.inl (0, 10)) := by rw [hw]; rfl
theorem sc_91 {w : Wl} (hw : w.2.2.2 = shC) : w.2.2.2[91]? = some (.inl (0, 10)) := by rw [hw]; rfl
theorem sc_92 {w : Wl} (hw : w.2.2.2 = shC) : w.2.2.2[92]? = some (.inl (0, 10)) := by rw [hw]; rfl
theorem sc_93 {w : Wl} (hw : w.2.2.2 = shC) : w.2.2.2[93]? = some (.inl (0, 10)) := by rw [hw]; rfl
theorem sc_94 {w : Wl} (hw : w.2.2.2 = shC) : w.2.2.2[94]? = some (.inl (0, 10)) := by rw [hw]; rfl
theorem sc_95 {w : Wl} (hw : w.2.2.2 = shC) : w.2.2.2[95]? = some (.inl (0, 10)) := by rw [hw]; rfl
theorem sc_96 {w : Wl} (hw : w.2.2.2 = shC) : w.2.2.2[96]? = some (.inl (0, 10)) := by rw [hw]; rfl
theorem sc_97 {w : Wl} (hw : w.2.2.2 = shC) : w.2.2.2[97]? = some (.inr (.inr (3, 9, 98, 1))) := by rw [hw]; rfl
theorem sc_98 {w : Wl} (hw : w.2.2.2 = shC) : w.2.2.2[98]? = some (.inl (0, 100)) := by rw [hw]; rfl
theorem sc_99 {w : Wl} (hw : w.2.2.2 = shC) : w.2.2.2[99]? = some (.inl (0, 100)) := by rw [hw]; rfl
theorem sc_100 {w : Wl} (hw : w.2.2.2 = shC) : w.2.2.2[100]? = some (.inl (0, 100)) := by rw [hw]; rfl
theorem sc_101 {w : Wl} (hw : w.2.2.2 = shC) : w.2.2.2[101]? = some (.inl (0, 100)) := by rw [hw]; rfl
theorem sc_102 {w : Wl} (hw : w.2.2.2 = shC) : w.2.2.2[102]? = some (.inl (0, 100)) := by rw [hw]; rfl
theorem sc_103 {w : Wl} (hw : w.2.2.2 = shC) : w.2.2.2[103]? = some (.inl (0, 100)) := by rw [hw]; rfl
theorem sc_104 {w : Wl} (hw : w.2.2.2 = shC) : w.2.2.2[104]? = some (.inl (0, 100)) := by rw [hw]; rfl
theorem sc_105 {w : Wl} (hw : w.2.2.2 = shC) : w.2.2.2[105]? = some (.inl (0, 100)) := by rw [hw]; rfl
theorem sc_106 {w : Wl} (hw : w.2.2.2 = shC) : w.2.2.2[106]? = some (.inl (0, 100)) := by rw [hw]; rfl
theorem sc_107 {w : Wl} (hw : w.2.2.2 = shC) : w.2.2.2[107]? = some (.inl (0, 9)) := by rw [hw]; rfl
theorem sc_108 {w : Wl} (hw : w.2.2.2 = shC) : w.2.2.2[108]? = some (.inr (.inl (8, [some 4, some 72, some 109, some 146]))) := by rw [hw]; rfl
theorem sc_109 {w : Wl} (hw : w.2.2.2 = shC) : w.2.2.2[109]? = some (.inr (.inr (2, 9, 110, 4))) := by rw [hw]; rfl
theorem sc_110 {w : Wl} (hw : w.2.2.2 = shC) : w.2.2.2[110]? = some (.inr (.inl (9, [some 111, some 112, some 113, none, none]))) := by rw [hw]; rfl
theorem sc_111 {w : Wl} (hw : w.2.2.2 = shC) : w.2.2.2[111]? = some (.inl (0, 9)) := by rw [hw]; rfl
theorem sc_112 {w : Wl} (hw : w.2.2.2 = shC) : w.2.2.2[112]? = some (.inl (0, 9)) := by rw [hw]; rfl
theorem sc_113 {w : Wl} (hw : w.2.2.2 = shC) : w.2.2.2[113]? = some (.inl (0, 8)) := by rw [hw]; rfl
theorem sc_114 {w : Wl} (hw : w.2.2.2 = shC) : w.2.2.2[114]? = some (.inr (.inl (9, [some 115, some 116, some 117, none, none]))) := by rw [hw]; rfl
theorem sc_115 {w : Wl} (hw : w.2.2.2 = shC) : w.2.2.2[115]? = some (.inl (0, 9)) := by rw [hw]; rfl
theorem sc_116 {w : Wl} (hw : w.2.2.2 = shC) : w.2.2.2[116]? = some (.inl (0, 9)) := by rw [hw]; rfl
theorem sc_117 {w : Wl} (hw : w.2.2.2 = shC) : w.2.2.2[117]? = some (.inl (0, 8)) := by rw [hw]; rfl
theorem sc_118 {w : Wl} (hw : w.2.2.2 = shC) : w.2.2.2[118]? = some (.inr (.inl (9, [some 119, some 120, some 121, none, none]))) := by rw [hw]; rfl
theorem sc_119 {w : Wl} (hw : w.2.2.2 = shC) : w.2.2.2[119]? = some (.inl (0, 9)) := by rw [hw]; rfl
theorem sc_120 {w : Wl} (hw : w.2.2.2 = shC) : w.2.2.2[120]? = some (.inl (0, 9)) := by rw [hw]; rfl
theorem sc_121 {w : Wl} (hw : w.2.2.2 = shC) : w.2.2.2[121]? = some (.inl (0, 8)) := by rw [hw]; rfl
theorem sc_122 {w : Wl} (hw : w.2.2.2 = shC) : w.2.2.2[122]? = some (.inr (.inl (9, [some 123, some 124, some 125, none, none]))) := by rw [hw]; rfl
theorem sc_123 {w : Wl} (hw : w.2.2.2 = shC) : w.2.2.2[123]? = some (.inl (0, 9)) := by rw [hw]; rfl
theorem sc_124 {w : Wl} (hw : w.2.2.2 = shC) : w.2.2.2[124]? = some (.inl (0, 9)) := by rw [hw]; rfl
theorem sc_125 {w : Wl} (hw : w.2.2.2 = shC) : w.2.2.2[125]? = some (.inl (0, 8)) := by rw [hw]; rfl
theorem sc_126 {w : Wl} (hw : w.2.2.2 = shC) : w.2.2.2[126]? = some (.inr (.inl (9, [some 127, some 128, some 129, none, none]))) := by rw [hw]; rfl
theorem sc_127 {w : Wl} (hw : w.2.2.2 = shC) : w.2.2.2[127]? = some (.inl (0, 9)) := by rw [hw]; rfl
theorem sc_128 {w : Wl} (hw : w.2.2.2 = shC) : w.2.2.2[128]? = some (.inl (0, 9)) := by rw [hw]; rfl
theorem sc_129 {w : Wl} (hw : w.2.2.2 = shC) : w.2.2.2[129]? = some (.inl (0, 8)) := by rw [hw]; rfl
theorem sc_130 {w : Wl} (hw : w.2.2.2 = shC) : w.2.2.2[130]? = some (.inr (.inl (9, [some 131, some 132, some 133, none, none]))) := by rw [hw]; rfl
theorem sc_131 {w : Wl} (hw : w.2.2.2 = shC) : w.2.2.2[131]? = some (.inl (0, 9)) := by rw [hw]; rfl
theorem sc_132 {w : Wl} (hw : w.2.2.2 = shC) : w.2.2.2[132]? = some (.inl (0, 9)) := by rw [hw]; rfl
theorem sc_133 {w : Wl} (hw : w.2.2.2 = shC) : w.2.2.2[133]? = some (.inl (0, 8)) := by rw [hw]; rfl
theorem sc_134 {w : Wl} (hw : w.2.2.2 = shC) : w.2.2.2[134]? = some (.inr (.inl (9, [some 135, some 136, some 137, none, none]))) := by rw [hw]; rfl
theorem sc_135 {w : Wl} (hw : w.2.2.2 = shC) : w.2.2.2[135]? = some (.inl (0, 9)) := by rw [hw]; rfl
theorem sc_136 {w : Wl} (hw : w.2.2.2 = shC) : w.2.2.2[136]? = some (.inl (0, 9)) := by rw [hw]; rfl
theorem sc_137 {w : Wl} (hw : w.2.2.2 = shC) : w.2.2.2[137]? = some (.inl (0, 8)) := by rw [hw]; rfl
theorem sc_138 {w : Wl} (hw : w.2.2.2 = shC) : w.2.2.2[138]? = some (.inr (.inl (9, [some 139, some 140, some 141, none, none]))) := by rw [hw]; rfl
theorem sc_139 {w : Wl} (hw : w.2.2.2 = shC) : w.2.2.2[139]? = some (.inl (0, 9)) := by rw [hw]; rfl
theorem sc_140 {w : Wl} (hw : w.2.2.2 = shC) : w.2.2.2[140]? = some (.inl (0, 9)) := by rw [hw]; rfl
theorem sc_141 {w : Wl} (hw : w.2.2.2 = shC) : w.2.2.2[141]? = some (.inl (0, 8)) := by rw [hw]; rfl
theorem sc_142 {w : Wl} (hw : w.2.2.2 = shC) : w.2.2.2[142]? = some (.inr (.inl (9, [some 143, some 144, some 145, none, none]))) := by rw [hw]; rfl
theorem sc_143 {w : Wl} (hw : w.2.2.2 = shC) : w.2.2.2[143]? = some (.inl (0, 9)) := by rw [hw]; rfl
theorem sc_144 {w : Wl} (hw : w.2.2.2 = shC) : w.2.2.2[144]? = some (.inl (0, 9)) := by rw [hw]; rfl
theorem sc_145 {w : Wl} (hw : w.2.2.2 = shC) : w.2.2.2[145]? = some (.inl (0, 8)) := by rw [hw]; rfl
theorem sc_146 {w : Wl} (hw : w.2.2.2 = shC) : w.2.2.2[146]? = some (.inl (0, 9)) := by rw [hw]; rfl
theorem sc_147 {w : Wl} (hw : w.2.2.2 = shC) : w.2.2.2[147]? = some (.inr (.inl (0, [some 148, some 149]))) := by rw [hw]; rfl
theorem sc_148 {w : Wl} (hw : w.2.2.2 = shC) : w.2.2.2[148]? = some (.inl (0, 512)) := by rw [hw]; rfl
theorem sc_149 {w : Wl} (hw : w.2.2.2 = shC) : w.2.2.2[149]? = some (.inl (0, 512)) := by rw [hw]; rfl
/-- the cells of the reference -/
def shM : List Sh := [.inr (.inl (11, [none, none, none, some 1, some 2, some 3, some 4, some 5, none, none, none, some 6, some 7, some 8, some 9, some 10, none, none, none, some 11, none, none, none, none, some 12, some 13, some 14, some 15, some 16, some 17, some 18, some 19])), .inl (0, 8), .inl (0, 8), .inl (0, 8), .inl (0, 8), .inl (0, 8), .inl (0, 8), .inl (0, 8), .inl (0, 8), .inl (0, 8), .inl (0, 336), .inl (1, 200), .inl (0, 6), .inl (0, 6), .inl (0, 8), .inl (0, 512), .inl (0, 90), .inl (0, 1000), .inl (0, 1000), .inl (0, 9)]
theorem scm_0 {w : Wl} (hw : w.2.2.2 = shM) : w.2.2.2[0]? = some (.inr (.inl (11, [none, none, none, some 1, some 2, some 3, some 4, some 5, none, none, none, some 6, some 7, some 8, some 9, some 10, none, none, none, some 11, none, none, none, none, some 12, some 13, some 14, some 15, some 16, some 17, some 18, some 19]))) := by rw [hw]; rfl
theorem scm_1 {w : Wl} (hw : w.2.2.2 = shM) : w.2.2.2[1]? = some (.inl (0, 8)) := by rw [hw]; rfl
theorem scm_2 {w : Wl} (hw : w.2.2.2 = shM) : w.2.2.2[2]? = some (.inl (0, 8)) := by rw [hw]; rfl
theorem scm_3 {w : Wl} (hw : w.2.2.2 = shM) : w.2.2.2[3]? = some (.inl (0, 8)) := by rw [hw]; rfl
theorem scm_4 {w : Wl} (hw : w.2.2.2 = shM) : w.2.2.2[4]? = some (.inl (0, 8)) := by rw [hw]; rfl
theorem scm_5 {w : Wl} (hw : w.2.2.2 = shM) : w.2.2.2[5]? = some (.inl (0, 8)) := by rw [hw]; rfl
theorem scm_6 {w : Wl} (hw : w.2.2.2 = shM) : w.2.2.2[6]? = some (.inl (0, 8)) := by rw [hw]; rfl
theorem scm_7 {w : Wl} (hw : w.2.2.2 = shM) : w.2.2.2[7]? = some (.inl (0, 8)) := by rw [hw]; rfl
theorem scm_8 {w : Wl} (hw : w.2.2.2 = shM) : w.2.2.2[8]? = some (.inl (0, 8)) := by rw [hw]; rfl
theorem scm_9 {w : Wl} (hw : w.2.2.2 = shM) : w.2.2.2[9]? = some (.inl (0, 8)) := by rw [hw]; rfl
theorem scm_10 {w : Wl} (hw : w.2.2.2 = shM) : w.2.2.2[10]? = some (.inl (0, 336)) := by rw [hw]; rfl
theorem scm_11 {w : Wl} (hw : w.2.2.2 = shM) : w.2.2.2[11]? = some (.inl (1, 200)) := by rw [hw]; rfl
theorem scm_12 {w : Wl} (hw : w.2.2.2 = shM) : w.2.2.2[12]? = some (.inl (0, 6)) := by rw [hw]; rfl
theorem scm_13 {w : Wl} (hw : w.2.2.2 = shM) : w.2.2.2[13]? = some (.inl (0, 6)) := by rw [hw]; rfl
theorem scm_14 {w : Wl} (hw : w.2.2.2 = shM) : w.2.2.2[14]? = some (.inl (0, 8)) := by rw [hw]; rfl
theorem scm_15 {w : Wl} (hw : w.2.2.2 = shM) : w.2.2.2[15]? = some (.inl (0, 512)) := by rw [hw]; rfl
theorem scm_16 {w : Wl} (hw : w.2.2.2 = shM) : w.2.2.2[16]? = some (.inl (0, 90)) := by rw [hw]; rfl
theorem scm_17 {w : Wl} (hw : w.2.2.2 = shM) : w.2.2.2[17]? = some (.inl (0, 1000)) := by rw [hw]; rfl
theorem scm_18 {w : Wl} (hw : w.2.2.2 = shM) : w.2.2.2[18]? = some (.inl (0, 1000)) := by rw [hw]; rfl
theorem scm_19 {w : Wl} (hw : w.2.2.2 = shM) : w.2.2.2[19]? = some (.inl (0, 9)) := by rw [hw]; rfl
theorem st_24 {w : Wl} (hw : w.2.2.2 = shC) : gSt w 24 := ⟨sc_24 hw, sc_25 hw, sc_26 hw, sc_27 hw⟩
theorem st_30 {w : Wl} (hw : w.2.2.2 = shC) : gSt w 30 := ⟨sc_30 hw, sc_31 hw, sc_32 hw, sc_33 hw⟩
theorem st_34 {w : Wl} (hw : w.2.2.2 = shC) : gSt w 34 := ⟨sc_34 hw, sc_35 hw, sc_36 hw, sc_37 hw⟩
theorem st_38 {w : Wl} (hw : w.2.2.2 = shC) : gSt w 38 := ⟨sc_38 hw, sc_39 hw, sc_40 hw, sc_41 hw⟩
theorem st_42 {w : Wl} (hw : w.2.2.2 = shC) : gSt w 42 := ⟨sc_42 hw, sc_43 hw, sc_44 hw, sc_45 hw⟩
theorem st_46 {w : Wl} (hw : w.2.2.2 = shC) : gSt w 46 := ⟨sc_46 hw, sc_47 hw, sc_48 hw, sc_49 hw⟩
theorem st_50 {w : Wl} (hw : w.2.2.2 = shC) : gSt w 50 := ⟨sc_50 hw, sc_51 hw, sc_52 hw, sc_53 hw⟩
theorem st_54 {w : Wl} (hw : w.2.2.2 = shC) : gSt w 54 := ⟨sc_54 hw, sc_55 hw, sc_56 hw, sc_57 hw⟩
theorem st_58 {w : Wl} (hw : w.2.2.2 = shC) : gSt w 58 := ⟨sc_58 hw, sc_59 hw, sc_60 hw, sc_61 hw⟩
theorem st_64 {w : Wl} (hw : w.2.2.2 = shC) : gSt w 64 := ⟨sc_64 hw, sc_65 hw, sc_66 hw, sc_67 hw⟩
theorem st_68 {w : Wl} (hw : w.2.2.2 = shC) : gSt w 68 := ⟨sc_68 hw, sc_69 hw, sc_70 hw, sc_71 hw⟩
theorem st_78 {w : Wl} (hw : w.2.2.2 = shC) : gSt w 78 := ⟨sc_78 hw, sc_79 hw, sc_80 hw, sc_81 hw⟩
theorem st_83 {w : Wl} (hw : w.2.2.2 = shC) : gSt w 83 := ⟨sc_83 hw, sc_84 hw, sc_85 hw, sc_86 hw⟩
theorem st_110 {w : Wl} (hw : w.2.2.2 = shC) : gSt w 110 := ⟨sc_110 hw, sc_111 hw, sc_112 hw, sc_113 hw⟩
theorem st_114 {w : Wl} (hw : w.2.2.2 = shC) : gSt w 114 := ⟨sc_114 hw, sc_115 hw, sc_116 hw, sc_117 hw⟩
theorem st_118 {w : Wl} (hw : w.2.2.2 = shC) : gSt w 118 := ⟨sc_118 hw, sc_119 hw, sc_120 hw, sc_121 hw⟩
theorem st_122 {w : Wl} (hw : w.2.2.2 = shC) : gSt w 122 := ⟨sc_122 hw, sc_123 hw, sc_124 hw, sc_125 hw⟩
theorem st_126 {w : Wl} (hw : w.2.2.2 = shC) : gSt w 126 := ⟨sc_126 hw, sc_127 hw, sc_128 hw, sc_129 hw⟩
theorem st_130 {w : Wl} (hw : w.2.2.2 = shC) : gSt w 130 := ⟨sc_130 hw, sc_131 hw, sc_132 hw, sc_133 hw⟩
theorem st_134 {w : Wl} (hw : w.2.2.2 = shC) : gSt w 134 := ⟨sc_134 hw, sc_135 hw, sc_136 hw, sc_137 hw⟩
theorem st_138 {w : Wl} (hw : w.2.2.2 = shC) : gSt w 138 := ⟨sc_138 hw, sc_139 hw, sc_140 hw, sc_141 hw⟩
theorem st_142 {w : Wl} (hw : w.2.2.2 = shC) : gSt w 142 := ⟨sc_142 hw, sc_143 hw, sc_144 hw, sc_145 hw⟩
theorem pl_4 {w : Wl} (hw : w.2.2.2 = shC) : gPl w 4 := ⟨sc_4 hw, sc_5 hw, sc_6 hw, sc_7 hw, sc_8 hw, sc_9 hw, sc_10 hw, sc_11 hw, sc_12 hw, sc_13 hw⟩
theorem pl_14 {w : Wl} (hw : w.2.2.2 = shC) : gPl w 14 := ⟨sc_14 hw, sc_15 hw, sc_16 hw, sc_17 hw, sc_18 hw, sc_19 hw, sc_20 hw, sc_21 hw, sc_22 hw, sc_23 hw⟩
theorem st_29 {w : Wl} (hw : w.2.2.2 = shC) (i : Nat) (h : i < 8) : gSt w (30 + 4 * i) := by
  match i, h with
  | 0, _ => exact st_30 hw
  | 1, _ => exact st_34 hw
  | 2, _ => exact st_38 hw
  | 3, _ => exact st_42 hw
  | 4, _ => exact st_46 hw
  | 5, _ => exact st_50 hw
  | 6, _ => exact st_54 hw
  | 7, _ => exact st_58 hw
theorem st_63 {w : Wl} (hw : w.2.2.2 = shC) (i : Nat) (h : i < 2) : gSt w (64 + 4 * i) := by
  match i, h with
  | 0, _ => exact st_64 hw
  | 1, _ => exact st_68 hw
theorem st_109 {w : Wl} (hw : w.2.2.2 = shC) (i : Nat) (h : i < 9) : gSt w (110 + 4 * i) := by
  match i, h with
  | 0, _ => exact st_110 hw
  | 1, _ => exact st_114 hw
  | 2, _ => exact st_118 hw
  | 3, _ => exact st_122 hw
  | 4, _ => exact st_126 hw
  | 5, _ => exact st_130 hw
  | 6, _ => exact st_134 hw
  | 7, _ => exact st_138 hw
  | 8, _ => exact st_142 hw
theorem sh_28 {w : Wl} (hw : w.2.2.2 = shC) : gSh w 28 8 30 := ⟨sc_28 hw, sc_29 hw, st_29 hw⟩
theorem sh_62 {w : Wl} (hw : w.2.2.2 = shC) : gSh w 62 2 64 := ⟨sc_62 hw, sc_63 hw, st_63 hw⟩
theorem ar_87 {w : Wl} (hw : w.2.2.2 = shC) (i : Nat) (h : i < 9) : w.2.2.2[88 + 1 * i]? = some (.inl (0, 10)) := by
  match i, h with
  | 0, _ => exact sc_88 hw
  | 1, _ => exact sc_89 hw
  | 2, _ => exact sc_90 hw
  | 3, _ => exact sc_91 hw
  | 4, _ => exact sc_92 hw
  | 5, _ => exact sc_93 hw
  | 6, _ => exact sc_94 hw
  | 7, _ => exact sc_95 hw
  | 8, _ => exact sc_96 hw
theorem ar_97 {w : Wl} (hw : w.2.2.2 = shC) (i : Nat) (h : i < 9) : w.2.2.2[98 + 1 * i]? = some (.inl (0, 100)) := by
  match i, h with
  | 0, _ => exact sc_98 hw
  | 1, _ => exact sc_99 hw
  | 2, _ => exact sc_100 hw
  | 3, _ => exact sc_101 hw
  | 4, _ => exact sc_102 hw
  | 5, _ => exact sc_103 hw
  | 6, _ => exact sc_104 hw
  | 7, _ => exact sc_105 hw
  | 8, _ => exact sc_106 hw
