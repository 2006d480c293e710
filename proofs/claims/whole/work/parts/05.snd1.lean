/-! ===== soundness, 2: what the tables must say; a frame's standing facts; the plain instructions ===== -/
def hx_LW : List Cond := lw_tbl.filter goodWord
def hx_R (ci : Nat) : String := match ci with
  | 0 => RX0
  | 1 => RX1
  | 2 => RX2
  | 3 => RX3
  | 4 => RX4
  | 5 => RX5
  | _ => RL
def hx_E (E : Nat) : String := match E with
  | 0 => "java/lang/IllegalArgumentException"
  | 1 => "java/lang/IllegalStateException"
  | _ => "java/lang/IndexOutOfBoundsException"
def hx_En : List String := ["java/lang/RuntimeException", "java/lang/Exception"]
def hx_nests : List (Nat × MethodName) := [(11, yX3_init), (43, yX2_init), (50, yX0_init), (57, yX1_init)]
def hx_ncs : List (String × String) := [(hx_E 0, hx_E 1), (hx_E 0, hx_E 2), (hx_E 1, hx_E 0), (hx_E 1, hx_E 2), (hx_E 2, hx_E 0), (hx_E 2, hx_E 1)]
def hx_wd (w : Jvm.Cond) : Bool := decide (w ∈ lw_tbl) && goodWord w
theorem hx_wd_in {w : Jvm.Cond} (h : hx_wd w = true) : w ∈ hx_LW := by
  unfold hx_wd at h
  rw [Bool.and_eq_true, decide_eq_true_eq] at h
  exact List.mem_filter.mpr h
def hx_il (i : Instr) (v : Value) : Nat := match i with
  | .iload _ => 2
  | .lload _ => 2
  | .fload _ => 2
  | .dload _ => 2
  | .aload _ => 2
  | .istore _ => 2
  | .lstore _ => 2
  | .fstore _ => 2
  | .dstore _ => 2
  | .astore _ => 2
  | .bipush _ => 2
  | .ldc _ => 2
  | .newarray _ => 2
  | .sipush _ => 3
  | .ldc_w _ => 3
  | .ldc2_w _ => 3
  | .ifCond _ _ => 3
  | .if_icmp _ _ => 3
  | .goto _ => 3
  | .iinc _ _ => 3
  | .getfield _ => 3
  | .putfield _ => 3
  | .new _ => 3
  | .anewarray _ => 3
  | .invokevirtual _ => 3
  | .invokestatic _ => 3
  | .invokespecial _ => 3
  | .tableswitch _ _ _ _ => (match v with
    | .retAddr n => n
    | _ => 0)
  | _ => 1
def hx_isd (by_ : ByteArray) (pc : Nat) (i : Instr) (n : Nat) : Bool := match decode by_ pc with
  | .ok q => decide (q = (i, n))
  | _ => false
theorem hx_isd_ok {by_ : ByteArray} {pc : Nat} {i : Instr} {n : Nat} (h : hx_isd by_ pc i n = true) : decode by_ pc = .ok (i, n) := by
  unfold hx_isd at h
  split at h
  · rename_i q hq
    rw [hq]
    rw [decide_eq_true_eq.mp h]
  · cases h
/-! ===== soundness, 2: the links, by their places in the tables ===== -/
def hx_FL : List ((Nat × Nat × Nat × Nat) × Nat) := [((0, 9, 0, 0), 194), ((0, 15, 0, 1), 195), ((0, 18, 0, 2), 196), ((0, 34, 3, 0), 109), ((1, 9, 1, 0), 211), ((1, 15, 1, 1), 212), ((1, 18, 1, 2), 213), ((1, 22, 1, 3), 215), ((1, 25, 1, 4), 216), ((1, 28, 3, 7), 126), ((1, 33, 3, 0), 108), ((1, 36, 3, 4), 118), ((1, 39, 3, 5), 121), ((1, 41, 3, 2), 113), ((2, 9, 2, 0), 153), ((2, 15, 2, 1), 155), ((2, 18, 2, 2), 157), ((2, 22, 2, 3), 159), ((2, 25, 2, 4), 161), ((2, 28, 2, 5), 163), ((2, 31, 2, 6), 164), ((2, 34, 2, 7), 165), ((2, 38, 2, 8), 166), ((3, 9, 3, 0), 106), ((3, 15, 3, 1), 110), ((3, 18, 3, 2), 112), ((3, 22, 3, 3), 115), ((3, 25, 3, 4), 117), ((3, 28, 3, 5), 120), ((3, 31, 3, 6), 123), ((3, 34, 3, 7), 125), ((4, 12, 4, 0), 228), ((4, 16, 4, 1), 229), ((4, 20, 4, 2), 230), ((4, 24, 4, 3), 231), ((4, 27, 4, 4), 232), ((4, 30, 4, 5), 233), ((4, 34, 4, 6), 234), ((4, 38, 4, 7), 235), ((4, 44, 4, 8), 236), ((4, 51, 4, 9), 237), ((4, 58, 4, 10), 238), ((4, 62, 4, 11), 239), ((4, 73, 3, 0), 107), ((4, 106, 3, 4), 119), ((4, 126, 3, 6), 124), ((4, 135, 3, 1), 111), ((4, 146, 0, 2), 197), ((4, 152, 3, 7), 127), ((4, 169, 2, 0), 154), ((4, 263, 3, 2), 114), ((4, 276, 3, 3), 116), ((4, 292, 2, 1), 156), ((4, 295, 2, 2), 158), ((4, 296, 2, 4), 162), ((4, 299, 3, 5), 122), ((4, 300, 2, 3), 160), ((4, 316, 1, 2), 214), ((5, 7, 5, 1), 862), ((5, 13, 5, 2), 863), ((5, 16, 5, 3), 864), ((5, 19, 5, 5), 866), ((5, 22, 5, 7), 868), ((5, 25, 5, 9), 870), ((5, 28, 5, 11), 872), ((5, 31, 5, 12), 873), ((5, 34, 5, 15), 876), ((5, 37, 5, 0), 861), ((5, 45, 5, 4), 865), ((5, 74, 5, 10), 871), ((5, 124, 5, 8), 869), ((5, 127, 5, 14), 875), ((5, 131, 5, 13), 874), ((5, 160, 5, 6), 867), ((5, 220, 5, 16), 877)]
def hx_ML : List ((Nat × Nat × Nat) × Nat) := [((0, 21, 3), 439), ((0, 25, 47), 440), ((0, 31, 4), 284), ((0, 41, 8), 445), ((0, 45, 5), 295), ((0, 49, 6), 299), ((0, 53, 46), 288), ((0, 57, 7), 304), ((1, 44, 12), 393), ((1, 48, 14), 389), ((1, 52, 15), 459), ((1, 55, 13), 397), ((2, 41, 21), 330), ((2, 44, 25), 338), ((2, 48, 26), 345), ((2, 51, 27), 349), ((2, 54, 28), 357), ((2, 57, 30), 361), ((2, 61, 32), 342), ((2, 65, 29), 353), ((2, 69, 31), 365), ((2, 72, 24), 369), ((3, 43, 37), 697), ((3, 47, 43), 475), ((3, 51, 44), 431), ((3, 59, 46), 313), ((3, 66, 48), 488), ((4, 81, 85), 269), ((4, 84, 35), 615), ((4, 88, 80), 627), ((4, 94, 84), 648), ((4, 98, 81), 668), ((4, 102, 39), 673), ((4, 111, 41), 678), ((4, 114, 40), 682), ((4, 117, 36), 693), ((4, 122, 38), 495), ((4, 138, 47), 309), ((4, 142, 3), 280), ((4, 147, 82), 715), ((4, 159, 86), 322), ((4, 163, 23), 736), ((4, 174, 87), 742), ((4, 177, 83), 758), ((4, 180, 34), 273), ((4, 189, 42), 471), ((4, 197, 46), 809), ((4, 204, 10), 381), ((4, 208, 11), 503), ((4, 211, 89), 423), ((4, 214, 48), 479), ((4, 217, 49), 484), ((4, 220, 91), 490), ((4, 223, 92), 377), ((4, 226, 18), 406), ((4, 230, 93), 414), ((4, 236, 94), 463), ((4, 240, 95), 467), ((4, 244, 96), 499), ((4, 247, 98), 507), ((4, 251, 99), 512), ((4, 255, 97), 518), ((4, 279, 20), 326), ((4, 282, 22), 334), ((4, 286, 24), 746), ((4, 289, 88), 747), ((4, 303, 45), 427), ((4, 306, 1), 435), ((4, 310, 2), 441), ((4, 313, 90), 451), ((4, 318, 16), 385), ((4, 321, 17), 455), ((5, 41, 102), 921), ((5, 48, 105), 936), ((5, 52, 109), 999), ((5, 56, 110), 995), ((5, 59, 112), 983), ((5, 62, 115), 1014), ((5, 66, 114), 1010), ((5, 70, 118), 967), ((5, 77, 121), 1118), ((5, 80, 122), 1122), ((5, 84, 120), 1114), ((5, 87, 123), 1126), ((5, 90, 103), 924), ((5, 93, 106), 928), ((5, 96, 125), 932), ((5, 99, 104), 943), ((5, 102, 127), 947), ((5, 105, 119), 971), ((5, 108, 130), 959), ((5, 111, 131), 963), ((5, 114, 117), 979), ((5, 118, 111), 991), ((5, 121, 116), 1006), ((5, 134, 139), 1047), ((5, 137, 141), 1051), ((5, 140, 140), 1054), ((5, 143, 142), 1043), ((5, 146, 143), 1058), ((5, 150, 144), 1062), ((5, 153, 145), 1039), ((5, 156, 146), 1035), ((5, 163, 113), 1090), ((5, 166, 152), 1086), ((5, 169, 157), 1110), ((5, 172, 159), 1138), ((5, 175, 124), 1142), ((5, 178, 160), 1134), ((5, 181, 163), 1154), ((5, 184, 165), 1162), ((5, 187, 107), 1174), ((5, 190, 108), 1178), ((5, 193, 167), 1170), ((5, 196, 169), 1186), ((5, 199, 171), 1194), ((5, 203, 173), 1202), ((5, 224, 177), 1211), ((5, 230, 178), 1216), ((5, 233, 175), 1220), ((5, 237, 176), 1226), ((6, 7, 51), 527), ((6, 17, 52), 623), ((6, 23, 53), 657), ((6, 27, 54), 664), ((6, 31, 55), 689), ((6, 34, 56), 703), ((6, 37, 58), 711), ((6, 40, 59), 723), ((6, 43, 62), 732), ((6, 47, 63), 754), ((6, 50, 64), 765), ((6, 53, 65), 773), ((6, 56, 66), 781), ((6, 59, 67), 789), ((6, 62, 68), 796), ((6, 65, 69), 804), ((6, 68, 70), 813), ((6, 71, 71), 822), ((6, 74, 72), 830), ((6, 77, 73), 837), ((6, 80, 74), 844), ((6, 83, 75), 851), ((6, 86, 50), 94), ((6, 89, 100), 857), ((6, 90, 180), 522), ((6, 95, 126), 917), ((6, 96, 101), 913), ((6, 99, 181), 619), ((6, 102, 128), 939), ((6, 103, 182), 654), ((6, 106, 129), 951), ((6, 107, 183), 661), ((6, 110, 132), 955), ((6, 111, 184), 686), ((6, 113, 133), 975), ((6, 114, 185), 700), ((6, 116, 134), 987), ((6, 117, 57), 265), ((6, 120, 135), 1002), ((6, 121, 186), 708), ((6, 123, 136), 1019), ((6, 124, 187), 720), ((6, 126, 137), 1023), ((6, 127, 60), 314), ((6, 130, 138), 1027), ((6, 131, 61), 318), ((6, 134, 147), 1031), ((6, 135, 188), 729), ((6, 138, 148), 1066), ((6, 139, 189), 751), ((6, 141, 149), 1070), ((6, 142, 190), 762), ((6, 144, 150), 1074), ((6, 145, 191), 770), ((6, 147, 151), 1078), ((6, 148, 192), 778), ((6, 150, 153), 1082), ((6, 151, 193), 786), ((6, 153, 154), 1094), ((6, 154, 194), 793), ((6, 156, 155), 1098), ((6, 157, 195), 801), ((6, 159, 156), 1102), ((6, 160, 196), 810), ((6, 162, 158), 1106), ((6, 163, 197), 819), ((6, 165, 161), 1130), ((6, 166, 198), 827), ((6, 168, 162), 1146), ((6, 169, 199), 834), ((6, 171, 164), 1150), ((6, 172, 200), 841), ((6, 174, 166), 1158), ((6, 175, 201), 848), ((6, 177, 168), 1166), ((6, 178, 76), 373), ((6, 181, 170), 1182), ((6, 182, 77), 402), ((6, 186, 172), 1190), ((6, 187, 78), 410), ((6, 191, 174), 1198), ((6, 192, 79), 418), ((6, 196, 179), 1206)]
def hx_KL : List ((Nat × Nat × Value) × Nat) := [((0, 40, .int (2147483647)), 303), ((3, 65, .int (2147483647)), 483), ((4, 234, .long (3541)), 422), ((4, 326, .int (2147483647)), 494), ((4, 327, .long (31)), 466), ((4, 329, .int (-2147483648)), 510), ((4, 330, .float (1258291200)), 511), ((4, 331, .long (1023)), 515), ((4, 333, .double (4611686018427387904)), 516), ((4, 335, .double (4841369599423283200)), 517), ((5, 65, .int (1000000)), 1018), ((5, 207, .int (8388608)), 1223), ((5, 208, .float (1258291200)), 1224), ((5, 209, .int (-2147483648)), 1225), ((5, 210, .long (1023)), 1229), ((5, 212, .double (4611686018427387904)), 1230), ((5, 214, .long (4503599627370496)), 1231), ((5, 216, .double (4841369599423283200)), 1232), ((5, 218, .long (31)), 1215), ((5, 228, .long (3541)), 1210)]
def hx_NL : List ((Nat × Nat × Nat) × Nat) := [((4, 9, 3), 1), ((4, 41, 2), 1), ((4, 48, 0), 1), ((4, 55, 1), 1), ((6, 8, 4), 1), ((6, 87, 5), 1)]
def hx_SL : List ((Nat × Nat × Nat) × Nat) := [((0, 3, 0), 193), ((0, 60, 2), 448), ((1, 3, 0), 210), ((1, 58, 1), 401), ((2, 3, 0), 152), ((3, 3, 0), 105), ((3, 37, 3), 277), ((3, 54, 1), 292), ((3, 69, 2), 489), ((4, 3, 0), 97), ((4, 129, 3), 308), ((5, 1, 0), 860)]
def hx_XL : List ((Nat × Nat × Nat × Nat) × Nat) := [((4, 66, 0, 70), 1), ((4, 76, 1, 80), 1), ((4, 258, 2, 262), 1)]
def hx_CL : List ((Nat × Nat × Nat) × Nat) := [((6, 13, 0), 1), ((6, 15, 1), 1), ((6, 21, 2), 1)]
def hx_mp : List (Nat × Nat × Nat × Nat) := [(192, 191, 0, 81), (438, 436, 437, 81), (444, 442, 443, 81), (283, 281, 282, 81), (287, 286, 1, 81), (298, 297, 2, 81), (302, 301, 3, 81), (307, 306, 4, 81), (447, 446, 0, 81), (209, 208, 0, 82), (384, 382, 383, 82), (506, 504, 505, 82), (396, 395, 16, 82), (400, 399, 17, 82), (392, 391, 15, 82), (462, 461, 22, 82), (388, 386, 387, 82), (458, 456, 457, 82), (409, 407, 408, 82), (151, 150, 0, 80), (329, 327, 328, 80), (333, 332, 6, 80), (337, 335, 336, 80), (739, 737, 738, 80), (372, 370, 371, 80), (341, 340, 7, 80), (348, 347, 8, 80), (352, 351, 9, 80), (360, 359, 11, 80), (356, 355, 10, 80), (364, 363, 12, 80), (368, 367, 13, 80), (344, 343, 0, 80), (104, 103, 0, 79), (276, 274, 275, 79), (618, 616, 617, 79), (696, 694, 695, 79), (699, 698, 0, 79), (498, 496, 497, 79), (676, 674, 675, 79), (685, 683, 684, 79), (681, 679, 680, 79), (474, 472, 473, 79), (478, 477, 24, 79), (434, 433, 20, 79), (430, 428, 429, 79), (291, 289, 290, 79), (312, 310, 311, 79), (482, 480, 481, 79), (487, 485, 486, 79), (96, 95, 0, 78), (530, 528, 529, 78), (626, 624, 625, 78), (660, 658, 659, 78), (667, 665, 666, 78), (692, 690, 691, 78), (706, 704, 705, 78), (268, 266, 267, 78), (714, 712, 713, 78), (726, 724, 725, 78), (317, 315, 316, 78), (321, 319, 320, 78), (735, 733, 734, 78), (757, 755, 756, 78), (768, 766, 767, 78), (776, 774, 775, 78), (784, 782, 783, 78), (792, 790, 791, 78), (799, 797, 798, 78), (807, 805, 806, 78), (816, 814, 815, 78), (825, 823, 824, 78), (833, 831, 832, 78), (840, 838, 839, 78), (847, 845, 846, 78), (854, 852, 853, 78), (376, 374, 375, 78), (405, 403, 404, 78), (413, 411, 412, 78), (421, 419, 420, 78), (630, 629, 29, 78), (671, 670, 31, 78), (717, 716, 0, 78), (760, 759, 0, 78), (651, 650, 30, 78), (272, 271, 0, 78), (325, 324, 5, 78), (745, 744, 32, 78), (750, 749, 33, 78), (426, 425, 19, 78), (454, 453, 21, 78), (493, 492, 25, 78), (380, 379, 14, 78), (417, 416, 18, 78), (465, 464, 0, 78), (470, 469, 23, 78), (502, 501, 26, 78), (521, 520, 27, 78), (509, 508, 0, 78), (514, 513, 0, 78), (859, 858, 0, 83), (916, 914, 915, 83), (923, 922, 0, 83), (927, 926, 34, 83), (946, 945, 37, 83), (938, 937, 0, 83), (931, 930, 35, 83), (1177, 1176, 70, 83), (1181, 1180, 71, 83), (1001, 1000, 0, 83), (998, 997, 46, 83), (994, 993, 45, 83), (986, 985, 44, 83), (1093, 1092, 58, 83), (1013, 1012, 48, 83), (1017, 1016, 49, 83), (1009, 1008, 47, 83), (982, 981, 43, 83), (970, 969, 41, 83), (974, 973, 42, 83), (1117, 1116, 60, 83), (1121, 1120, 61, 83), (1125, 1124, 62, 83), (1129, 1128, 63, 83), (1145, 1144, 66, 83), (935, 934, 36, 83), (920, 918, 919, 83), (950, 949, 38, 83), (942, 940, 941, 83), (954, 952, 953, 83), (962, 961, 39, 83), (966, 965, 40, 83), (958, 956, 957, 83), (978, 976, 977, 83), (990, 988, 989, 83), (1005, 1003, 1004, 83), (1022, 1020, 1021, 83), (1026, 1024, 1025, 83), (1030, 1028, 1029, 83), (1050, 1049, 53, 83), (1057, 1056, 54, 83), (1053, 1052, 0, 83), (1046, 1045, 52, 83), (1061, 1060, 55, 83), (1065, 1064, 56, 83), (1042, 1041, 51, 83), (1038, 1037, 50, 83), (1034, 1032, 1033, 83), (1069, 1067, 1068, 83), (1073, 1071, 1072, 83), (1077, 1075, 1076, 83), (1081, 1079, 1080, 83), (1089, 1088, 57, 83), (1085, 1083, 1084, 83), (1097, 1095, 1096, 83), (1101, 1099, 1100, 83), (1105, 1103, 1104, 83), (1113, 1112, 59, 83), (1109, 1107, 1108, 83), (1141, 1140, 65, 83), (1137, 1136, 64, 83), (1133, 1131, 1132, 83), (1149, 1147, 1148, 83), (1157, 1156, 67, 83), (1153, 1151, 1152, 83), (1165, 1164, 68, 83), (1161, 1159, 1160, 83), (1173, 1172, 69, 83), (1169, 1167, 1168, 83), (1189, 1188, 72, 83), (1185, 1183, 1184, 83), (1197, 1196, 73, 83), (1193, 1191, 1192, 83), (1205, 1204, 74, 83), (1201, 1199, 1200, 83), (1222, 1221, 0, 83), (1228, 1227, 0, 83), (1214, 1213, 75, 83), (1219, 1218, 76, 83), (1209, 1207, 1208, 83), (524, 523, 0, 77), (621, 620, 0, 77), (656, 655, 0, 77), (663, 662, 0, 77), (688, 687, 0, 77), (702, 701, 0, 77), (710, 709, 0, 77), (722, 721, 0, 77), (731, 730, 0, 77), (753, 752, 0, 77), (764, 763, 0, 77), (772, 771, 0, 77), (780, 779, 0, 77), (788, 787, 0, 77), (795, 794, 0, 77), (803, 802, 0, 77), (812, 811, 0, 77), (821, 820, 0, 77), (829, 828, 0, 77), (836, 835, 0, 77), (843, 842, 0, 77), (850, 849, 0, 77), (0, 0, 0, 0)]
/-- the word at a place of the tables -/
def hx_wi (i : Nat) (w : Jvm.Cond) : Bool := (match hx_nth lw_tbl i with
  | some x => decide (x = w)
  | none => false) && goodWord w
theorem hx_wi_in {i : Nat} {w : Jvm.Cond} (h : hx_wi i w = true) : w ∈ hx_LW := by
  unfold hx_wi at h
  rw [Bool.and_eq_true] at h
  obtain ⟨h1, h2⟩ := h
  split at h1
  · rename_i x hx
    rw [hx_nth_eq] at hx
    have e := decide_eq_true_eq.mp h1
    subst e
    exact List.mem_filter.mpr ⟨List.mem_of_getElem? hx, h2⟩
  · cases h1
def hx_has {α : Type} [DecidableEq α] (l : List (α × Nat)) (q : α) : Bool := l.any fun r => decide (r.1 = q)
theorem hx_has_in {α : Type} [DecidableEq α] {l : List (α × Nat)} {q : α} (h : hx_has l q = true) : ∃ i, (q, i) ∈ l := by
  obtain ⟨r, h1, h2⟩ := List.any_eq_true.mp h
  have e := decide_eq_true_eq.mp h2
  subst e
  exact ⟨r.2, h1⟩
def hx_lk (k pc : Nat) (ce : hx_CE) : Bool := match ce with
  | (ins, a, bb, v, tg) => match ins with
    | .iconst n => decide (v = .int (Int32.ofInt n))
    | .bipush n => decide (v = .int (Int8.ofInt n).toInt32)
    | .sipush n => decide (v = .int (Int16.ofInt n).toInt32)
    | .lconst n => decide (v = .long (Int64.ofNat n.val))
    | .fconst n => (match n with
      | 0 => decide (v = .float FP.fconst0)
      | 1 => decide (v = .float FP.fconst1)
      | 2 => decide (v = .float FP.fconst2))
    | .dconst n => (match n with
      | 0 => decide (v = .double FP.dconst0)
      | 1 => decide (v = .double FP.dconst1))
    | .ldc i => hx_has hx_KL (hx_own k, i, v) && !hx_c2 v
    | .ldc_w i => hx_has hx_KL (hx_own k, i, v) && !hx_c2 v
    | .ldc2_w i => hx_has hx_KL (hx_own k, i, v) && hx_c2 v
    | .ifCond _ o => decide ((pc : Int) + o = (a : Int))
    | .if_icmp _ o => decide ((pc : Int) + o = (a : Int))
    | .goto o => decide ((pc : Int) + o = (a : Int))
    | .tableswitch df _ _ os => decide ((pc : Int) + df = (a : Int)) && decide (os.toList.map (fun o => (pc : Int) + o) = tg.map Int.ofNat)
    | .getfield i => hx_has hx_FL (hx_own k, i, a, bb)
    | .putfield i => hx_has hx_FL (hx_own k, i, a, bb) && (match hx_nth vwCl a with
      | some (_, T, _) => decide ((T bb).2.2.2 = false) || (decide ((hx_y k).name = "<init>") && decide (hx_own k = a))
      | none => false)
    | .new i => (match tg with
      | [] => hx_has hx_NL (hx_own k, i, a)
      | [si, ic, ln] => hx_has hx_XL (hx_own k, i, a, ic) &&
          (match hx_nth hx_strs bb with
            | some q => decide (q.1 = hx_R (hx_own k) ∧ q.2.1 = si)
            | none => false) && decide (hx_hh k = []) &&
          hx_isd (hx_by k) (pc + 3) .dup 1 && hx_isd (hx_by k) (pc + 4 + ln) (.invokespecial ic) 3 && hx_isd (hx_by k) (pc + 7 + ln) .athrow 1 && (if ln = 2 then hx_isd (hx_by k) (pc + 4) (.ldc si) 2 else decide (ln = 3) && hx_isd (hx_by k) (pc + 4) (.ldc_w si) 3)
      | _ => false)
    | .newarray t => decide (t = .int ∨ t = .boolean ∨ t = .char ∨ t = .long)
    | .anewarray i => hx_has hx_NL (hx_own k, i, 3)
    | .invokevirtual i => (match tg with
      | [ci] => decide (a < 202) && decide (hx_own a = ci) && decide (ci < 6) && decide (bb = hx_np a + 1) && hx_has hx_ML (hx_own k, i, a) && decide (hx_stat a = false) && decide ((hx_y a).name ≠ "<init>") && decide (hx_hh a = []) && (hx_hh k).all (fun h => decide (h.1 ≤ pc) && decide (pc < h.2.1))
      | _ => false)
    | .invokestatic i => (match tg with
      | [] => decide (a < 202) && decide (bb = hx_np a) && hx_has hx_ML (hx_own k, i, a) && hx_stat a && decide (hx_hh k = [])
      | [z] => hx_has hx_SL (hx_own k, i, z)
      | _ => false)
    | .invokespecial i => (match tg with
      | [ci] => decide (a < 202) && decide (hx_own a = ci) && decide (ci < 6) && decide (bb = hx_np a + 1) && decide ((hx_y a).name = "<init>") && decide (hx_rt a = none) && decide (hx_stat a = false) && decide (hx_hh a = []) && decide (hx_hh k = []) &&
          (match v with
            | .long _ => decide ((i, hx_y a) ∈ hx_nests) && decide (hx_own k = 4)
            | _ => hx_has hx_ML (hx_own k, i, a))
      | [_, _] => hx_has hx_SL (hx_own k, i, 0)
      | _ => false)
    | _ => true
def hx_ck (k : Nat) (q : Nat × hx_CE) : Bool := hx_isd (hx_by k) q.1 q.2.1 (hx_il q.2.1 q.2.2.2.2.1) && hx_lk k q.1 q.2
def hx_chk (k : Nat) : Bool := match hx_nth hx_cds k with
  | some l => l.all (hx_ck k)
  | none => true
def hx_cw (k : Nat) : Jvm.Cond := match hx_hh k with
  | [] => .code (hx_y k) (hx_by k) (hx_ml k) (hx_rt k)
  | h :: t => .codeWith (hx_y k) (hx_by k) (hx_ml k) (hx_rt k) (h :: t)
/-- a catch row beside the table's row -/
def hx_hk (k : Nat) : List (Nat × Nat × Nat × Nat) → List (Nat × Nat × Nat × Nat) → Bool
  | [], [] => true
  | h :: hs, q :: qs => decide (h.2.2.1 = q.2.1) && decide (q.1 < 3) && decide (h.2.2.2 ≠ 0) && hx_has hx_CL (hx_own k, h.2.2.2, q.1) &&
      (if q.2.2.2 = q.2.1 + 1 then (match decode (hx_by k) q.2.1 with
        | .ok (.astore_n j, 1) => decide (j.val = q.2.2.1)
        | _ => false) else decide (q.2.2.2 = q.2.1 + 2) && hx_isd (hx_by k) q.2.1 (.astore q.2.2.1) 2) && hx_hk k hs qs
  | _, _ => false
def hx_mok (k : Nat) : Bool := match hx_nth hx_mp k with
  | none => false
  | some (cp, sp, ep, ip) => hx_wi cp (hx_cw k) && (if hx_stat k then hx_wi sp (.static (hx_y k)) else hx_wi sp (.instanceMethod (hx_y k)) && (decide ((hx_y k).name = "<init>") || hx_wi ep (.selects (hx_y k).cls (hx_y k) (hx_y k)))) && hx_wi ip (.initialized (hx_y k).cls) &&
    plainName (hx_y k).cls && decide ((hx_y k).cls = hx_R (hx_own k)) && decide ((hx_y k).cls ≠ "java/lang/invoke/MethodHandle") && decide ((hx_y k).cls ≠ "java/lang/invoke/VarHandle") &&
    decide ((parseMethodDescriptor (hx_y k).desc).map (fun d => d.parameters.length) = some (hx_np k)) && decide (hx_ml k ≤ 40) && hx_hk k (hx_hh k) (hx_ct k)
def hx_xw : List Jvm.Cond := [.castable (hx_E 0) (hx_E 0), .castable (hx_E 1) (hx_E 1), .castable (hx_E 2) (hx_E 2), .declares ⟨"java/lang/RuntimeException", "<init>", "()V"⟩, .declares ⟨"java/lang/RuntimeException", "<init>", "(Ljava/lang/String;)V"⟩, .declares ⟨"java/lang/Exception", "<init>", "()V"⟩, .declares ⟨"java/lang/Exception", "<init>", "(Ljava/lang/String;)V"⟩, .declares ⟨"java/lang/Throwable", "<init>", "()V"⟩, .declares ⟨"java/lang/Throwable", "<init>", "(Ljava/lang/String;)V"⟩]
def hx_flok (q : (Nat × Nat × Nat × Nat) × Nat) : Bool := match hx_nth vwCl q.1.2.2.1 with
  | some (C, T, N) => decide (q.1.2.2.1 < 6) && decide (q.1.2.2.2 < N) && decide ((T q.1.2.2.2).1 = C) && hx_wi q.2 (.fieldLink (hx_R q.1.1) q.1.2.1 C (T q.1.2.2.2).2.1 (T q.1.2.2.2).2.2.1)
  | none => false
def hx_klok (q : (Nat × Nat × Value) × Nat) : Bool := match q.1.2.2 with
  | .int x => hx_wi q.2 (.constant (hx_R q.1.1) q.1.2.1 x)
  | .long x => hx_wi q.2 (.constantLong (hx_R q.1.1) q.1.2.1 x)
  | .float x => hx_wi q.2 (.constantFloat (hx_R q.1.1) q.1.2.1 x)
  | .double x => hx_wi q.2 (.constantDouble (hx_R q.1.1) q.1.2.1 x)
  | _ => false
def hx_nlok (q : (Nat × Nat × Nat) × Nat) : Bool := match hx_nth vwCl q.1.2.2 with
  | some (C, _, N) => decide (q.1.2.2 < 6) && hx_wd (.classLink (hx_R q.1.1) q.1.2.1 C) && hx_wd (.instantiable C N) && hx_wd (.initialized C)
  | none => false
def hx_slok (q : (Nat × Nat × Nat) × Nat) : Bool := match q.1.2.2 with
  | 0 => hx_wi q.2 (.methodLink (hx_R q.1.1) q.1.2.1 Lib.objectInit)
  | 1 => hx_wi q.2 (.methodLink (hx_R q.1.1) q.1.2.1 Lib.Math.abs.name)
  | 2 => hx_wi q.2 (.methodLink (hx_R q.1.1) q.1.2.1 Lib.Math.min.name)
  | 3 => hx_wi q.2 (.methodLink (hx_R q.1.1) q.1.2.1 arraycopyName)
  | _ => false
def hx_xlok (q : (Nat × Nat × Nat × Nat) × Nat) : Bool := decide (q.1.2.2.1 < 3) && hx_wd (.classLink (hx_R q.1.1) q.1.2.1 (hx_E q.1.2.2.1)) && hx_wd (.initialized (hx_E q.1.2.2.1)) && (vx_atS (hx_R q.1.1) q.1.2.2.2 (hx_E q.1.2.2.1) hx_En).all (fun w => hx_wd w || (decide (w ∈ hx_xw) && w.onTables))
def hx_clok (q : (Nat × Nat × Nat) × Nat) : Bool := hx_wd (.classLink (hx_R q.1.1) q.1.2.1 (hx_E q.1.2.2))
theorem hx_FL_ok : ∀ q ∈ hx_FL, hx_flok q = true := by decide +kernel
theorem hx_KL_ok : ∀ q ∈ hx_KL, hx_klok q = true := by decide +kernel
theorem hx_NL_ok : ∀ q ∈ hx_NL, hx_nlok q = true := by decide +kernel
theorem hx_SL_ok : ∀ q ∈ hx_SL, hx_slok q = true := by decide +kernel
theorem hx_XL_ok : ∀ q ∈ hx_XL, hx_xlok q = true := by decide +kernel
theorem hx_CL_ok : ∀ q ∈ hx_CL, hx_clok q = true := by decide +kernel
theorem hx_ML_ok : ∀ q ∈ hx_ML, hx_wi q.2 (.methodLink (hx_R q.1.1) q.1.2.1 (hx_y q.1.2.2)) = true := by decide +kernel
theorem hx_w_abs : hx_wd (.static Lib.Math.abs.name) = true ∧ hx_wd (.initialized "java/lang/Math") = true ∧ hx_wd (.code Lib.Math.abs.name Lib.Math.abs.code 1 (some .int)) = true := by decide +kernel
theorem hx_w_min : hx_wd (.static Lib.Math.min.name) = true ∧ hx_wd (.code Lib.Math.min.name Lib.Math.min.code 2 (some .int)) = true := by decide +kernel
theorem hx_w_copy : hx_wd (.native arraycopyName) = true ∧ hx_wd (.static arraycopyName) = true ∧ hx_wd (.initialized "java/lang/System") = true := by decide +kernel
theorem hx_w_obj : hx_wd (.instanceMethod Lib.objectInit) = true ∧ hx_wd (.code Lib.objectInit ⟨#[0xb1]⟩ 1 none) = true := by decide +kernel
theorem hx_w_arr : hx_wd (.arrayClass .int) = true ∧ hx_wd (.arrayClass .boolean) = true ∧ hx_wd (.arrayClass .char) = true ∧ hx_wd (.arrayClass .long) = true := by decide +kernel
