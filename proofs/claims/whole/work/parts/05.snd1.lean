/-! ===== soundness, 2: what the tables must say; a frame's standing facts; the plain instructions ===== -/
def hx_LW : List Cond := lw_tbl.filter goodWord
def hx_R (ci : Nat) : String := match ci with
  | 0 => RX0
  | 1 => RX1
  | 2 => RX2
  | 3 => RX3
  | 4 => RX4
  | 5 => RX5
  | _ => RL
def hx_E (E : Nat) : String := match E with
  | 0 => "java/lang/IllegalArgumentException"
  | 1 => "java/lang/IllegalStateException"
  | _ => "java/lang/IndexOutOfBoundsException"
def hx_En : List String := ["java/lang/RuntimeException", "java/lang/Exception"]
def hx_nests : List (Nat × MethodName) := [(11, yX3_init), (43, yX2_init), (50, yX0_init), (57, yX1_init)]
def hx_ncs : List (String × String) := [(hx_E 0, hx_E 1), (hx_E 0, hx_E 2), (hx_E 1, hx_E 0), (hx_E 1, hx_E 2), (hx_E 2, hx_E 0), (hx_E 2, hx_E 1)]
def hx_wd (w : Jvm.Cond) : Bool := decide (w ∈ lw_tbl) && goodWord w
theorem hx_wd_in {w : Jvm.Cond} (h : hx_wd w = true) : w ∈ hx_LW := by
  unfold hx_wd at h
  rw [Bool.and_eq_true, decide_eq_true_eq] at h
  exact List.mem_filter.mpr h
def hx_il (i : Instr) (v : Value) : Nat := match i with
  | .iload _ => 2
  | .lload _ => 2
  | .fload _ => 2
  | .dload _ => 2
  | .aload _ => 2
  | .istore _ => 2
  | .lstore _ => 2
  | .fstore _ => 2
  | .dstore _ => 2
  | .astore _ => 2
  | .bipush _ => 2
  | .ldc _ => 2
  | .newarray _ => 2
  | .sipush _ => 3
  | .ldc_w _ => 3
  | .ldc2_w _ => 3
  | .ifCond _ _ => 3
  | .if_icmp _ _ => 3
  | .goto _ => 3
  | .iinc _ _ => 3
  | .getfield _ => 3
  | .putfield _ => 3
  | .new _ => 3
  | .anewarray _ => 3
  | .invokevirtual _ => 3
  | .invokestatic _ => 3
  | .invokespecial _ => 3
  | .tableswitch _ _ _ _ => (match v with
    | .retAddr n => n
    | _ => 0)
  | _ => 1
def hx_isd (by_ : ByteArray) (pc : Nat) (i : Instr) (n : Nat) : Bool := match decode by_ pc with
  | .ok q => decide (q = (i, n))
  | _ => false
theorem hx_isd_ok {by_ : ByteArray} {pc : Nat} {i : Instr} {n : Nat} (h : hx_isd by_ pc i n = true) : decode by_ pc = .ok (i, n) := by
  unfold hx_isd at h
  split at h
  · rename_i q hq
    rw [hq]
    rw [decide_eq_true_eq.mp h]
  · cases h
/-! ===== soundness, 2: the links, by their places in the tables ===== -/
def hx_FL : List ((Nat × Nat × Nat × Nat) × Nat) := [((0, 9, 0, 0), 194), ((0, 15, 0, 1), 195), ((0, 18, 0, 2), 196), ((0, 34, 3, 0), 109), ((1, 9, 1, 0), 211), ((1, 15, 1, 1), 212), ((1, 18, 1, 2), 213), ((1, 22, 1, 3), 215), ((1, 25, 1, 4), 216), ((1, 28, 3, 7), 126), ((1, 33, 3, 0), 108), ((1, 36, 3, 4), 118), ((1, 39, 3, 5), 121), ((1, 41, 3, 2), 113), ((2, 9, 2, 0), 153), ((2, 15, 2, 1), 155), ((2, 18, 2, 2), 157), ((2, 22, 2, 3), 159), ((2, 25, 2, 4), 161), ((2, 28, 2, 5), 163), ((2, 31, 2, 6), 164), ((2, 34, 2, 7), 165), ((2, 38, 2, 8), 166), ((3, 9, 3, 0), 106), ((3, 15, 3, 1), 110), ((3, 18, 3, 2), 112), ((3, 22, 3, 3), 115), ((3, 25, 3, 4), 117), ((3, 28, 3, 5), 120), ((3, 31, 3, 6), 123), ((3, 34, 3, 7), 125), ((4, 12, 4, 0), 228), ((4, 16, 4, 1), 229), ((4, 20, 4, 2), 230), ((4, 24, 4, 3), 231), ((4, 27, 4, 4), 232), ((4, 30, 4, 5), 233), ((4, 34, 4, 6), 234), ((4, 38, 4, 7), 235), ((4, 44, 4, 8), 236), ((4, 51, 4, 9), 237), ((4, 58, 4, 10), 238), ((4, 62, 4, 11), 239), ((4, 73, 3, 0), 107), ((4, 106, 3, 4), 119), ((4, 126, 3, 6), 124), ((4, 135, 3, 1), 111), ((4, 146, 0, 2), 197), ((4, 152, 3, 7), 127), ((4, 169, 2, 0), 154), ((4, 263, 3, 2), 114), ((4, 276, 3, 3), 116), ((4, 292, 2, 1), 156), ((4, 295, 2, 2), 158), ((4, 296, 2, 4), 162), ((4, 299, 3, 5), 122), ((4, 300, 2, 3), 160), ((4, 313, 1, 2), 214), ((5, 7, 5, 1), 859), ((5, 13, 5, 2), 860), ((5, 16, 5, 3), 861), ((5, 19, 5, 5), 863), ((5, 22, 5, 7), 865), ((5, 25, 5, 9), 867), ((5, 28, 5, 11), 869), ((5, 31, 5, 12), 870), ((5, 34, 5, 15), 873), ((5, 37, 5, 0), 858), ((5, 45, 5, 4), 862), ((5, 74, 5, 10), 868), ((5, 124, 5, 8), 866), ((5, 127, 5, 14), 872), ((5, 131, 5, 13), 871), ((5, 160, 5, 6), 864), ((5, 220, 5, 16), 874)]
def hx_ML : List ((Nat × Nat × Nat) × Nat) := [((0, 21, 3), 442), ((0, 25, 47), 443), ((0, 31, 4), 284), ((0, 38, 8), 448), ((0, 42, 5), 295), ((0, 46, 6), 299), ((0, 50, 46), 288), ((0, 54, 7), 303), ((1, 44, 12), 392), ((1, 48, 14), 388), ((1, 52, 15), 458), ((1, 55, 13), 396), ((2, 41, 21), 329), ((2, 44, 25), 337), ((2, 48, 26), 344), ((2, 51, 27), 348), ((2, 54, 28), 356), ((2, 57, 30), 360), ((2, 61, 32), 341), ((2, 65, 29), 352), ((2, 69, 31), 364), ((2, 72, 24), 368), ((3, 43, 37), 694), ((3, 47, 43), 474), ((3, 51, 44), 434), ((3, 59, 46), 312), ((3, 63, 48), 486), ((4, 81, 85), 269), ((4, 84, 35), 612), ((4, 88, 80), 624), ((4, 94, 84), 645), ((4, 98, 81), 665), ((4, 102, 39), 670), ((4, 111, 41), 675), ((4, 114, 40), 679), ((4, 117, 36), 690), ((4, 122, 38), 492), ((4, 138, 47), 308), ((4, 142, 3), 280), ((4, 147, 82), 712), ((4, 159, 86), 321), ((4, 163, 23), 733), ((4, 174, 87), 739), ((4, 177, 83), 755), ((4, 180, 34), 273), ((4, 189, 42), 470), ((4, 197, 46), 806), ((4, 204, 90), 405), ((4, 208, 11), 500), ((4, 211, 89), 426), ((4, 214, 48), 478), ((4, 217, 49), 482), ((4, 220, 91), 488), ((4, 223, 92), 376), ((4, 226, 18), 409), ((4, 230, 93), 417), ((4, 236, 94), 462), ((4, 240, 95), 466), ((4, 244, 96), 496), ((4, 247, 98), 504), ((4, 251, 99), 509), ((4, 255, 97), 515), ((4, 279, 20), 325), ((4, 282, 22), 333), ((4, 286, 24), 743), ((4, 289, 88), 744), ((4, 303, 45), 430), ((4, 306, 1), 438), ((4, 310, 2), 444), ((4, 315, 16), 384), ((4, 318, 17), 454), ((4, 321, 10), 380), ((5, 41, 102), 918), ((5, 48, 105), 933), ((5, 52, 109), 996), ((5, 56, 110), 992), ((5, 59, 112), 980), ((5, 62, 115), 1011), ((5, 66, 114), 1007), ((5, 70, 118), 964), ((5, 77, 121), 1115), ((5, 80, 122), 1119), ((5, 84, 120), 1111), ((5, 87, 123), 1123), ((5, 90, 103), 921), ((5, 93, 106), 925), ((5, 96, 125), 929), ((5, 99, 104), 940), ((5, 102, 127), 944), ((5, 105, 119), 968), ((5, 108, 130), 956), ((5, 111, 131), 960), ((5, 114, 117), 976), ((5, 118, 111), 988), ((5, 121, 116), 1003), ((5, 134, 139), 1044), ((5, 137, 141), 1048), ((5, 140, 140), 1051), ((5, 143, 142), 1040), ((5, 146, 143), 1055), ((5, 150, 144), 1059), ((5, 153, 145), 1036), ((5, 156, 146), 1032), ((5, 163, 113), 1087), ((5, 166, 152), 1083), ((5, 169, 157), 1107), ((5, 172, 159), 1135), ((5, 175, 124), 1139), ((5, 178, 160), 1131), ((5, 181, 163), 1151), ((5, 184, 165), 1159), ((5, 187, 107), 1171), ((5, 190, 108), 1175), ((5, 193, 167), 1167), ((5, 196, 169), 1183), ((5, 199, 171), 1191), ((5, 203, 173), 1199), ((5, 224, 177), 1208), ((5, 230, 178), 1213), ((5, 233, 175), 1217), ((5, 237, 176), 1223), ((6, 7, 51), 524), ((6, 17, 52), 620), ((6, 23, 53), 654), ((6, 27, 54), 661), ((6, 31, 55), 686), ((6, 34, 56), 700), ((6, 37, 58), 708), ((6, 40, 59), 720), ((6, 43, 62), 729), ((6, 47, 63), 751), ((6, 50, 64), 762), ((6, 53, 65), 770), ((6, 56, 66), 778), ((6, 59, 67), 786), ((6, 62, 68), 793), ((6, 65, 69), 801), ((6, 68, 70), 810), ((6, 71, 71), 819), ((6, 74, 72), 827), ((6, 77, 73), 834), ((6, 80, 74), 841), ((6, 83, 75), 848), ((6, 86, 50), 94), ((6, 89, 100), 854), ((6, 90, 180), 519), ((6, 95, 126), 914), ((6, 96, 101), 910), ((6, 99, 181), 616), ((6, 102, 128), 936), ((6, 103, 182), 651), ((6, 106, 129), 948), ((6, 107, 183), 658), ((6, 110, 132), 952), ((6, 111, 184), 683), ((6, 113, 133), 972), ((6, 114, 185), 697), ((6, 116, 134), 984), ((6, 117, 57), 265), ((6, 120, 135), 999), ((6, 121, 186), 705), ((6, 123, 136), 1016), ((6, 124, 187), 717), ((6, 126, 137), 1020), ((6, 127, 60), 313), ((6, 130, 138), 1024), ((6, 131, 61), 317), ((6, 134, 147), 1028), ((6, 135, 188), 726), ((6, 138, 148), 1063), ((6, 139, 189), 748), ((6, 141, 149), 1067), ((6, 142, 190), 759), ((6, 144, 150), 1071), ((6, 145, 191), 767), ((6, 147, 151), 1075), ((6, 148, 192), 775), ((6, 150, 153), 1079), ((6, 151, 193), 783), ((6, 153, 154), 1091), ((6, 154, 194), 790), ((6, 156, 155), 1095), ((6, 157, 195), 798), ((6, 159, 156), 1099), ((6, 160, 196), 807), ((6, 162, 158), 1103), ((6, 163, 197), 816), ((6, 165, 161), 1127), ((6, 166, 198), 824), ((6, 168, 162), 1143), ((6, 169, 199), 831), ((6, 171, 164), 1147), ((6, 172, 200), 838), ((6, 174, 166), 1155), ((6, 175, 201), 845), ((6, 177, 168), 1163), ((6, 178, 76), 372), ((6, 181, 170), 1179), ((6, 182, 77), 401), ((6, 186, 172), 1187), ((6, 187, 78), 413), ((6, 191, 174), 1195), ((6, 192, 79), 421), ((6, 196, 179), 1203)]
def hx_KL : List ((Nat × Nat × Value) × Nat) := [((4, 234, .long (3541)), 425), ((4, 325, .long (31)), 465), ((4, 327, .int (-2147483648)), 507), ((4, 328, .float (1258291200)), 508), ((4, 329, .long (1023)), 512), ((4, 331, .double (4611686018427387904)), 513), ((4, 333, .double (4841369599423283200)), 514), ((5, 65, .int (1000000)), 1015), ((5, 207, .int (8388608)), 1220), ((5, 208, .float (1258291200)), 1221), ((5, 209, .int (-2147483648)), 1222), ((5, 210, .long (1023)), 1226), ((5, 212, .double (4611686018427387904)), 1227), ((5, 214, .long (4503599627370496)), 1228), ((5, 216, .double (4841369599423283200)), 1229), ((5, 218, .long (31)), 1212), ((5, 228, .long (3541)), 1207)]
def hx_NL : List ((Nat × Nat × Nat) × Nat) := [((4, 9, 3), 1), ((4, 41, 2), 1), ((4, 48, 0), 1), ((4, 55, 1), 1), ((6, 8, 4), 1), ((6, 87, 5), 1)]
def hx_SL : List ((Nat × Nat × Nat) × Nat) := [((0, 3, 0), 193), ((0, 57, 2), 451), ((1, 3, 0), 210), ((1, 58, 1), 400), ((2, 3, 0), 152), ((3, 3, 0), 105), ((3, 37, 3), 277), ((3, 54, 1), 292), ((3, 66, 2), 487), ((4, 3, 0), 97), ((4, 129, 3), 307), ((5, 1, 0), 857)]
def hx_XL : List ((Nat × Nat × Nat × Nat) × Nat) := [((4, 66, 0, 70), 1), ((4, 76, 1, 80), 1), ((4, 258, 2, 262), 1)]
def hx_CL : List ((Nat × Nat × Nat) × Nat) := [((6, 13, 0), 1), ((6, 15, 1), 1), ((6, 21, 2), 1)]
def hx_mp : List (Nat × Nat × Nat × Nat) := [(192, 191, 0, 81), (441, 439, 440, 81), (447, 445, 446, 81), (283, 281, 282, 81), (287, 286, 1, 81), (298, 297, 2, 81), (302, 301, 3, 81), (306, 305, 4, 81), (450, 449, 0, 81), (209, 208, 0, 82), (383, 381, 382, 82), (503, 501, 502, 82), (395, 394, 16, 82), (399, 398, 17, 82), (391, 390, 15, 82), (461, 460, 22, 82), (387, 385, 386, 82), (457, 455, 456, 82), (412, 410, 411, 82), (151, 150, 0, 80), (328, 326, 327, 80), (332, 331, 6, 80), (336, 334, 335, 80), (736, 734, 735, 80), (371, 369, 370, 80), (340, 339, 7, 80), (347, 346, 8, 80), (351, 350, 9, 80), (359, 358, 11, 80), (355, 354, 10, 80), (363, 362, 12, 80), (367, 366, 13, 80), (343, 342, 0, 80), (104, 103, 0, 79), (276, 274, 275, 79), (615, 613, 614, 79), (693, 691, 692, 79), (696, 695, 0, 79), (495, 493, 494, 79), (673, 671, 672, 79), (682, 680, 681, 79), (678, 676, 677, 79), (473, 471, 472, 79), (477, 476, 24, 79), (437, 436, 21, 79), (433, 431, 432, 79), (291, 289, 290, 79), (311, 309, 310, 79), (481, 479, 480, 79), (485, 483, 484, 79), (96, 95, 0, 78), (527, 525, 526, 78), (623, 621, 622, 78), (657, 655, 656, 78), (664, 662, 663, 78), (689, 687, 688, 78), (703, 701, 702, 78), (268, 266, 267, 78), (711, 709, 710, 78), (723, 721, 722, 78), (316, 314, 315, 78), (320, 318, 319, 78), (732, 730, 731, 78), (754, 752, 753, 78), (765, 763, 764, 78), (773, 771, 772, 78), (781, 779, 780, 78), (789, 787, 788, 78), (796, 794, 795, 78), (804, 802, 803, 78), (813, 811, 812, 78), (822, 820, 821, 78), (830, 828, 829, 78), (837, 835, 836, 78), (844, 842, 843, 78), (851, 849, 850, 78), (375, 373, 374, 78), (404, 402, 403, 78), (416, 414, 415, 78), (424, 422, 423, 78), (627, 626, 29, 78), (668, 667, 31, 78), (714, 713, 0, 78), (757, 756, 0, 78), (648, 647, 30, 78), (272, 271, 0, 78), (324, 323, 5, 78), (742, 741, 32, 78), (747, 746, 33, 78), (429, 428, 20, 78), (408, 407, 18, 78), (491, 490, 25, 78), (379, 378, 14, 78), (420, 419, 19, 78), (464, 463, 0, 78), (469, 468, 23, 78), (499, 498, 26, 78), (518, 517, 27, 78), (506, 505, 0, 78), (511, 510, 0, 78), (856, 855, 0, 83), (913, 911, 912, 83), (920, 919, 0, 83), (924, 923, 34, 83), (943, 942, 37, 83), (935, 934, 0, 83), (928, 927, 35, 83), (1174, 1173, 70, 83), (1178, 1177, 71, 83), (998, 997, 0, 83), (995, 994, 46, 83), (991, 990, 45, 83), (983, 982, 44, 83), (1090, 1089, 58, 83), (1010, 1009, 48, 83), (1014, 1013, 49, 83), (1006, 1005, 47, 83), (979, 978, 43, 83), (967, 966, 41, 83), (971, 970, 42, 83), (1114, 1113, 60, 83), (1118, 1117, 61, 83), (1122, 1121, 62, 83), (1126, 1125, 63, 83), (1142, 1141, 66, 83), (932, 931, 36, 83), (917, 915, 916, 83), (947, 946, 38, 83), (939, 937, 938, 83), (951, 949, 950, 83), (959, 958, 39, 83), (963, 962, 40, 83), (955, 953, 954, 83), (975, 973, 974, 83), (987, 985, 986, 83), (1002, 1000, 1001, 83), (1019, 1017, 1018, 83), (1023, 1021, 1022, 83), (1027, 1025, 1026, 83), (1047, 1046, 53, 83), (1054, 1053, 54, 83), (1050, 1049, 0, 83), (1043, 1042, 52, 83), (1058, 1057, 55, 83), (1062, 1061, 56, 83), (1039, 1038, 51, 83), (1035, 1034, 50, 83), (1031, 1029, 1030, 83), (1066, 1064, 1065, 83), (1070, 1068, 1069, 83), (1074, 1072, 1073, 83), (1078, 1076, 1077, 83), (1086, 1085, 57, 83), (1082, 1080, 1081, 83), (1094, 1092, 1093, 83), (1098, 1096, 1097, 83), (1102, 1100, 1101, 83), (1110, 1109, 59, 83), (1106, 1104, 1105, 83), (1138, 1137, 65, 83), (1134, 1133, 64, 83), (1130, 1128, 1129, 83), (1146, 1144, 1145, 83), (1154, 1153, 67, 83), (1150, 1148, 1149, 83), (1162, 1161, 68, 83), (1158, 1156, 1157, 83), (1170, 1169, 69, 83), (1166, 1164, 1165, 83), (1186, 1185, 72, 83), (1182, 1180, 1181, 83), (1194, 1193, 73, 83), (1190, 1188, 1189, 83), (1202, 1201, 74, 83), (1198, 1196, 1197, 83), (1219, 1218, 0, 83), (1225, 1224, 0, 83), (1211, 1210, 75, 83), (1216, 1215, 76, 83), (1206, 1204, 1205, 83), (521, 520, 0, 77), (618, 617, 0, 77), (653, 652, 0, 77), (660, 659, 0, 77), (685, 684, 0, 77), (699, 698, 0, 77), (707, 706, 0, 77), (719, 718, 0, 77), (728, 727, 0, 77), (750, 749, 0, 77), (761, 760, 0, 77), (769, 768, 0, 77), (777, 776, 0, 77), (785, 784, 0, 77), (792, 791, 0, 77), (800, 799, 0, 77), (809, 808, 0, 77), (818, 817, 0, 77), (826, 825, 0, 77), (833, 832, 0, 77), (840, 839, 0, 77), (847, 846, 0, 77), (0, 0, 0, 0)]
/-- the word at a place of the tables -/
def hx_wi (i : Nat) (w : Jvm.Cond) : Bool := (match hx_nth lw_tbl i with
  | some x => decide (x = w)
  | none => false) && goodWord w
theorem hx_wi_in {i : Nat} {w : Jvm.Cond} (h : hx_wi i w = true) : w ∈ hx_LW := by
  unfold hx_wi at h
  rw [Bool.and_eq_true] at h
  obtain ⟨h1, h2⟩ := h
  split at h1
  · rename_i x hx
    rw [hx_nth_eq] at hx
    have e := decide_eq_true_eq.mp h1
    subst e
    exact List.mem_filter.mpr ⟨List.mem_of_getElem? hx, h2⟩
  · cases h1
def hx_has {α : Type} [DecidableEq α] (l : List (α × Nat)) (q : α) : Bool := l.any fun r => decide (r.1 = q)
theorem hx_has_in {α : Type} [DecidableEq α] {l : List (α × Nat)} {q : α} (h : hx_has l q = true) : ∃ i, (q, i) ∈ l := by
  obtain ⟨r, h1, h2⟩ := List.any_eq_true.mp h
  have e := decide_eq_true_eq.mp h2
  subst e
  exact ⟨r.2, h1⟩
def hx_lk (k pc : Nat) (ce : hx_CE) : Bool := match ce with
  | (ins, a, bb, v, tg) => match ins with
    | .iconst n => decide (v = .int (Int32.ofInt n))
    | .bipush n => decide (v = .int (Int8.ofInt n).toInt32)
    | .sipush n => decide (v = .int (Int16.ofInt n).toInt32)
    | .lconst n => decide (v = .long (Int64.ofNat n.val))
    | .fconst n => (match n with
      | 0 => decide (v = .float FP.fconst0)
      | 1 => decide (v = .float FP.fconst1)
      | 2 => decide (v = .float FP.fconst2))
    | .dconst n => (match n with
      | 0 => decide (v = .double FP.dconst0)
      | 1 => decide (v = .double FP.dconst1))
    | .ldc i => hx_has hx_KL (hx_own k, i, v) && !hx_c2 v
    | .ldc_w i => hx_has hx_KL (hx_own k, i, v) && !hx_c2 v
    | .ldc2_w i => hx_has hx_KL (hx_own k, i, v) && hx_c2 v
    | .ifCond _ o => decide ((pc : Int) + o = (a : Int))
    | .if_icmp _ o => decide ((pc : Int) + o = (a : Int))
    | .goto o => decide ((pc : Int) + o = (a : Int))
    | .tableswitch df _ _ os => decide ((pc : Int) + df = (a : Int)) && decide (os.toList.map (fun o => (pc : Int) + o) = tg.map Int.ofNat)
    | .getfield i => hx_has hx_FL (hx_own k, i, a, bb)
    | .putfield i => hx_has hx_FL (hx_own k, i, a, bb) && (match hx_nth vwCl a with
      | some (_, T, _) => decide ((T bb).2.2.2 = false) || (decide ((hx_y k).name = "<init>") && decide (hx_own k = a))
      | none => false)
    | .new i => (match tg with
      | [] => hx_has hx_NL (hx_own k, i, a)
      | [si, ic, ln] => hx_has hx_XL (hx_own k, i, a, ic) &&
          (match hx_nth hx_strs bb with
            | some q => decide (q.1 = hx_R (hx_own k) ∧ q.2.1 = si)
            | none => false) && decide (hx_hh k = []) &&
          hx_isd (hx_by k) (pc + 3) .dup 1 && hx_isd (hx_by k) (pc + 4 + ln) (.invokespecial ic) 3 && hx_isd (hx_by k) (pc + 7 + ln) .athrow 1 && (if ln = 2 then hx_isd (hx_by k) (pc + 4) (.ldc si) 2 else decide (ln = 3) && hx_isd (hx_by k) (pc + 4) (.ldc_w si) 3)
      | _ => false)
    | .newarray t => decide (t = .int ∨ t = .boolean ∨ t = .char ∨ t = .long)
    | .anewarray i => hx_has hx_NL (hx_own k, i, 3)
    | .invokevirtual i => (match tg with
      | [ci] => decide (a < 202) && decide (hx_own a = ci) && decide (ci < 6) && decide (bb = hx_np a + 1) && hx_has hx_ML (hx_own k, i, a) && decide (hx_stat a = false) && decide ((hx_y a).name ≠ "<init>") && decide (hx_hh a = []) && (hx_hh k).all (fun h => decide (h.1 ≤ pc) && decide (pc < h.2.1))
      | _ => false)
    | .invokestatic i => (match tg with
      | [] => decide (a < 202) && decide (bb = hx_np a) && hx_has hx_ML (hx_own k, i, a) && hx_stat a && decide (hx_hh k = [])
      | [z] => hx_has hx_SL (hx_own k, i, z)
      | _ => false)
    | .invokespecial i => (match tg with
      | [ci] => decide (a < 202) && decide (hx_own a = ci) && decide (ci < 6) && decide (bb = hx_np a + 1) && decide ((hx_y a).name = "<init>") && decide (hx_rt a = none) && decide (hx_stat a = false) && decide (hx_hh a = []) && decide (hx_hh k = []) &&
          (match v with
            | .long _ => decide ((i, hx_y a) ∈ hx_nests) && decide (hx_own k = 4)
            | _ => hx_has hx_ML (hx_own k, i, a))
      | [_, _] => hx_has hx_SL (hx_own k, i, 0)
      | _ => false)
    | _ => true
def hx_ck (k : Nat) (q : Nat × hx_CE) : Bool := hx_isd (hx_by k) q.1 q.2.1 (hx_il q.2.1 q.2.2.2.2.1) && hx_lk k q.1 q.2
def hx_chk (k : Nat) : Bool := match hx_nth hx_cds k with
  | some l => l.all (hx_ck k)
  | none => true
def hx_cw (k : Nat) : Jvm.Cond := match hx_hh k with
  | [] => .code (hx_y k) (hx_by k) (hx_ml k) (hx_rt k)
  | h :: t => .codeWith (hx_y k) (hx_by k) (hx_ml k) (hx_rt k) (h :: t)
/-- a catch row beside the table's row -/
def hx_hk (k : Nat) : List (Nat × Nat × Nat × Nat) → List (Nat × Nat × Nat × Nat) → Bool
  | [], [] => true
  | h :: hs, q :: qs => decide (h.2.2.1 = q.2.1) && decide (q.1 < 3) && decide (h.2.2.2 ≠ 0) && hx_has hx_CL (hx_own k, h.2.2.2, q.1) &&
      (if q.2.2.2 = q.2.1 + 1 then (match decode (hx_by k) q.2.1 with
        | .ok (.astore_n j, 1) => decide (j.val = q.2.2.1)
        | _ => false) else decide (q.2.2.2 = q.2.1 + 2) && hx_isd (hx_by k) q.2.1 (.astore q.2.2.1) 2) && hx_hk k hs qs
  | _, _ => false
def hx_mok (k : Nat) : Bool := match hx_nth hx_mp k with
  | none => false
  | some (cp, sp, ep, ip) => hx_wi cp (hx_cw k) && (if hx_stat k then hx_wi sp (.static (hx_y k)) else hx_wi sp (.instanceMethod (hx_y k)) && (decide ((hx_y k).name = "<init>") || hx_wi ep (.selects (hx_y k).cls (hx_y k) (hx_y k)))) && hx_wi ip (.initialized (hx_y k).cls) &&
    plainName (hx_y k).cls && decide ((hx_y k).cls = hx_R (hx_own k)) && decide ((hx_y k).cls ≠ "java/lang/invoke/MethodHandle") && decide ((hx_y k).cls ≠ "java/lang/invoke/VarHandle") &&
    decide ((parseMethodDescriptor (hx_y k).desc).map (fun d => d.parameters.length) = some (hx_np k)) && decide (hx_ml k ≤ 40) && hx_hk k (hx_hh k) (hx_ct k)
def hx_xw : List Jvm.Cond := [.castable (hx_E 0) (hx_E 0), .castable (hx_E 1) (hx_E 1), .castable (hx_E 2) (hx_E 2), .declares ⟨"java/lang/RuntimeException", "<init>", "()V"⟩, .declares ⟨"java/lang/RuntimeException", "<init>", "(Ljava/lang/String;)V"⟩, .declares ⟨"java/lang/Exception", "<init>", "()V"⟩, .declares ⟨"java/lang/Exception", "<init>", "(Ljava/lang/String;)V"⟩, .declares ⟨"java/lang/Throwable", "<init>", "()V"⟩, .declares ⟨"java/lang/Throwable", "<init>", "(Ljava/lang/String;)V"⟩]
def hx_flok (q : (Nat × Nat × Nat × Nat) × Nat) : Bool := match hx_nth vwCl q.1.2.2.1 with
  | some (C, T, N) => decide (q.1.2.2.1 < 6) && decide (q.1.2.2.2 < N) && decide ((T q.1.2.2.2).1 = C) && hx_wi q.2 (.fieldLink (hx_R q.1.1) q.1.2.1 C (T q.1.2.2.2).2.1 (T q.1.2.2.2).2.2.1)
  | none => false
def hx_klok (q : (Nat × Nat × Value) × Nat) : Bool := match q.1.2.2 with
  | .int x => hx_wi q.2 (.constant (hx_R q.1.1) q.1.2.1 x)
  | .long x => hx_wi q.2 (.constantLong (hx_R q.1.1) q.1.2.1 x)
  | .float x => hx_wi q.2 (.constantFloat (hx_R q.1.1) q.1.2.1 x)
  | .double x => hx_wi q.2 (.constantDouble (hx_R q.1.1) q.1.2.1 x)
  | _ => false
def hx_nlok (q : (Nat × Nat × Nat) × Nat) : Bool := match hx_nth vwCl q.1.2.2 with
  | some (C, _, N) => decide (q.1.2.2 < 6) && hx_wd (.classLink (hx_R q.1.1) q.1.2.1 C) && hx_wd (.instantiable C N) && hx_wd (.initialized C)
  | none => false
def hx_slok (q : (Nat × Nat × Nat) × Nat) : Bool := match q.1.2.2 with
  | 0 => hx_wi q.2 (.methodLink (hx_R q.1.1) q.1.2.1 Lib.objectInit)
  | 1 => hx_wi q.2 (.methodLink (hx_R q.1.1) q.1.2.1 Lib.Math.abs.name)
  | 2 => hx_wi q.2 (.methodLink (hx_R q.1.1) q.1.2.1 Lib.Math.min.name)
  | 3 => hx_wi q.2 (.methodLink (hx_R q.1.1) q.1.2.1 arraycopyName)
  | _ => false
def hx_xlok (q : (Nat × Nat × Nat × Nat) × Nat) : Bool := decide (q.1.2.2.1 < 3) && hx_wd (.classLink (hx_R q.1.1) q.1.2.1 (hx_E q.1.2.2.1)) && hx_wd (.initialized (hx_E q.1.2.2.1)) && (vx_atS (hx_R q.1.1) q.1.2.2.2 (hx_E q.1.2.2.1) hx_En).all (fun w => hx_wd w || (decide (w ∈ hx_xw) && w.onTables))
def hx_clok (q : (Nat × Nat × Nat) × Nat) : Bool := hx_wd (.classLink (hx_R q.1.1) q.1.2.1 (hx_E q.1.2.2))
theorem hx_FL_ok : ∀ q ∈ hx_FL, hx_flok q = true := by decide +kernel
theorem hx_KL_ok : ∀ q ∈ hx_KL, hx_klok q = true := by decide +kernel
theorem hx_NL_ok : ∀ q ∈ hx_NL, hx_nlok q = true := by decide +kernel
theorem hx_SL_ok : ∀ q ∈ hx_SL, hx_slok q = true := by decide +kernel
theorem hx_XL_ok : ∀ q ∈ hx_XL, hx_xlok q = true := by decide +kernel
theorem hx_CL_ok : ∀ q ∈ hx_CL, hx_clok q = true := by decide +kernel
theorem hx_ML_ok : ∀ q ∈ hx_ML, hx_wi q.2 (.methodLink (hx_R q.1.1) q.1.2.1 (hx_y q.1.2.2)) = true := by decide +kernel
theorem hx_w_abs : hx_wd (.static Lib.Math.abs.name) = true ∧ hx_wd (.initialized "java/lang/Math") = true ∧ hx_wd (.code Lib.Math.abs.name Lib.Math.abs.code 1 (some .int)) = true := by decide +kernel
theorem hx_w_min : hx_wd (.static Lib.Math.min.name) = true ∧ hx_wd (.code Lib.Math.min.name Lib.Math.min.code 2 (some .int)) = true := by decide +kernel
theorem hx_w_copy : hx_wd (.native arraycopyName) = true ∧ hx_wd (.static arraycopyName) = true ∧ hx_wd (.initialized "java/lang/System") = true := by decide +kernel
theorem hx_w_obj : hx_wd (.instanceMethod Lib.objectInit) = true ∧ hx_wd (.code Lib.objectInit ⟨#[0xb1]⟩ 1 none) = true := by decide +kernel
theorem hx_w_arr : hx_wd (.arrayClass .int) = true ∧ hx_wd (.arrayClass .boolean) = true ∧ hx_wd (.arrayClass .char) = true ∧ hx_wd (.arrayClass .long) = true := by decide +kernel
