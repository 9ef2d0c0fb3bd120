/-! the law's words lie in the tables -/
theorem in_at {big : List Cond} (ws : List Cond) (ps : List Nat) (hp : ws = ps.filterMap (fun i => big[i]?)) : ∀ w ∈ ws, w ∈ big := fun w h => by
  rw [hp] at h
  obtain ⟨i, -, e⟩ := List.mem_filterMap.mp h
  exact List.mem_of_getElem? e
set_option maxRecDepth 100000 in
theorem wl_r1 : ∀ w ∈ wsL_law_r1, w ∈ lw_tbl := in_at _ [59, 60, 43, 814, 815, 54, 1139, 61, 62, 63, 64, 65, 66, 67, 68, 44, 222, 81, 82, 45, 223, 132, 88, 46] (by decide +kernel)
set_option maxRecDepth 100000 in
theorem wl_r2 : ∀ w ∈ wsL_law_r2, w ∈ lw_tbl := in_at _ [224, 134, 107, 47, 225, 136, 137, 48, 226, 154, 155, 49, 227, 173, 174, 50, 228, 183, 184, 51, 229, 196, 197, 52] (by decide +kernel)
set_option maxRecDepth 100000 in
theorem wl_r3 : ∀ w ∈ wsL_law_r3, w ∈ lw_tbl := in_at _ [230, 209, 210, 53, 231, 70, 71, 72, 80, 73, 84, 85, 86, 87, 122, 106, 123, 90, 91, 92, 109, 110, 111, 112] (by decide +kernel)
set_option maxRecDepth 100000 in
theorem wl_r4 : ∀ w ∈ wsL_law_r4, w ∈ lw_tbl := in_at _ [113, 139, 140, 141, 153, 143, 142, 144, 157, 158, 159, 160, 161, 162, 163, 176, 177, 178, 179, 186, 187, 188, 189, 190] (by decide +kernel)
set_option maxRecDepth 100000 in
theorem wl_r5 : ∀ w ∈ wsL_law_r5, w ∈ lw_tbl := in_at _ [199, 200, 201, 202, 212, 213, 214, 215, 816, 817, 818, 819, 820, 826, 832, 836, 840, 841, 842, 843, 844, 845, 846, 847] (by decide +kernel)
set_option maxRecDepth 100000 in
theorem wl_r6 : ∀ w ∈ wsL_law_r6, w ∈ lw_tbl := in_at _ [849, 850, 923, 852, 853, 253, 254, 255, 256, 257, 258, 259, 260, 74, 261, 262, 263, 264, 924, 925, 926, 927, 928, 833] (by decide +kernel)
set_option maxRecDepth 100000 in
theorem wl_r7 : ∀ w ∈ wsL_law_r7, w ∈ lw_tbl := in_at _ [932, 929, 930, 931, 265, 266, 267, 268, 269, 270, 271, 272, 933, 934, 935, 936, 273, 274, 275, 276, 277, 278, 279, 280] (by decide +kernel)
set_option maxRecDepth 100000 in
theorem wl_r8 : ∀ w ∈ wsL_law_r8, w ∈ lw_tbl := in_at _ [281, 282, 283, 284, 93, 94, 95, 96, 285, 286, 287, 288, 114, 289, 290, 55, 291, 292, 293, 294, 295, 296, 297, 299] (by decide +kernel)
set_option maxRecDepth 100000 in
theorem wl_r9 : ∀ w ∈ wsL_law_r9, w ∈ lw_tbl := in_at _ [0, 300, 301, 303, 1, 304, 124, 305, 306, 307, 308, 309, 310, 311, 312, 313, 314, 56, 315, 316, 317, 318, 319, 321] (by decide +kernel)
set_option maxRecDepth 100000 in
theorem wl_r10 : ∀ w ∈ wsL_law_r10, w ∈ lw_tbl := in_at _ [2, 322, 323, 325, 3, 326, 327, 328, 329, 330, 332, 333, 334, 335, 336, 337, 340, 342, 4, 343, 344, 345, 346, 347] (by decide +kernel)
set_option maxRecDepth 100000 in
theorem wl_r11 : ∀ w ∈ wsL_law_r11, w ∈ lw_tbl := in_at _ [348, 349, 350, 351, 352, 353, 354, 355, 356, 358, 5, 359, 360, 361, 362, 363, 364, 365, 366, 367, 937, 938, 939, 940] (by decide +kernel)
set_option maxRecDepth 100000 in
theorem wl_r12 : ∀ w ∈ wsL_law_r12, w ∈ lw_tbl := in_at _ [941, 943, 24, 944, 834, 835, 821, 822, 823, 824, 825, 945, 947, 25, 948, 949, 950, 952, 26, 953, 954, 955, 956, 368] (by decide +kernel)
set_option maxRecDepth 100000 in
theorem wl_r13 : ∀ w ∈ wsL_law_r13, w ∈ lw_tbl := in_at _ [369, 370, 371, 372, 373, 374, 375, 376, 377, 378, 379, 380, 381, 382, 383, 384, 385, 386, 387, 388, 389, 390, 391, 393] (by decide +kernel)
set_option maxRecDepth 100000 in
theorem wl_r14 : ∀ w ∈ wsL_law_r14, w ∈ lw_tbl := in_at _ [392, 394, 395, 396, 397, 398, 145, 399, 400, 401, 402, 403, 404, 405, 406, 957, 958, 959, 960, 827, 828, 829, 830, 831] (by decide +kernel)
set_option maxRecDepth 100000 in
theorem wl_r15 : ∀ w ∈ wsL_law_r15, w ∈ lw_tbl := in_at _ [838, 407, 408, 409, 410, 411, 412, 413, 414, 415, 416, 417, 418, 419, 420, 421, 422, 423, 424, 425, 427, 6, 428, 429] (by decide +kernel)
set_option maxRecDepth 100000 in
theorem wl_r16 : ∀ w ∈ wsL_law_r16, w ∈ lw_tbl := in_at _ [430, 431, 432, 433, 434, 435, 436, 437, 439, 7, 440, 441, 442, 444, 8, 445, 446, 447, 448, 449, 450, 451, 452, 453] (by decide +kernel)
set_option maxRecDepth 100000 in
theorem wl_r17 : ∀ w ∈ wsL_law_r17, w ∈ lw_tbl := in_at _ [454, 456, 9, 457, 458, 459, 461, 10, 462, 463, 464, 961, 962, 963, 964, 965, 967, 27, 968, 969, 971, 28, 972, 837] (by decide +kernel)
set_option maxRecDepth 100000 in
theorem wl_r18 : ∀ w ∈ wsL_law_r18, w ∈ lw_tbl := in_at _ [973, 975, 29, 976, 977, 979, 30, 980, 981, 983, 31, 984, 985, 987, 32, 988, 989, 991, 33, 992, 993, 995, 34, 996] (by decide +kernel)
set_option maxRecDepth 100000 in
theorem wl_r19 : ∀ w ∈ wsL_law_r19, w ∈ lw_tbl := in_at _ [465, 466, 467, 468, 469, 997, 998, 999, 1000, 470, 471, 472, 473, 474, 476, 11, 477, 478, 479, 480, 481, 482, 483, 485] (by decide +kernel)
set_option maxRecDepth 100000 in
theorem wl_r20 : ∀ w ∈ wsL_law_r20, w ∈ lw_tbl := in_at _ [484, 57, 486, 487, 488, 489, 1001, 1002, 1003, 1004, 1005, 1007, 35, 1008, 839, 490, 491, 492, 493, 494, 1009, 1010, 1011, 1012] (by decide +kernel)
set_option maxRecDepth 100000 in
theorem wl_r21 : ∀ w ∈ wsL_law_r21, w ∈ lw_tbl := in_at _ [495, 496, 497, 498, 499, 500, 501, 502, 1013, 1014, 1015, 1016, 503, 504, 505, 506, 507, 508, 509, 510, 512, 511, 513, 514] (by decide +kernel)
set_option maxRecDepth 100000 in
theorem wl_r22 : ∀ w ∈ wsL_law_r22, w ∈ lw_tbl := in_at _ [515, 516, 517, 518, 519, 1017, 1018, 1019, 1020, 1021, 1023, 36, 1024, 1025, 1027, 37, 1028, 520, 521, 522, 523, 524, 525, 526] (by decide +kernel)
set_option maxRecDepth 100000 in
theorem wl_r23 : ∀ w ∈ wsL_law_r23, w ∈ lw_tbl := in_at _ [527, 528, 529, 530, 531, 1029, 1030, 1031, 1032, 532, 533, 534, 535, 536, 537, 538, 539, 540, 542, 12, 543, 544, 1033, 1034] (by decide +kernel)
set_option maxRecDepth 100000 in
theorem wl_r24 : ∀ w ∈ wsL_law_r24, w ∈ lw_tbl := in_at _ [1035, 1036, 546, 547, 548, 549, 550, 551, 552, 553, 554, 555, 556, 557, 558, 559, 560, 561, 563, 564, 566, 13, 567, 568] (by decide +kernel)
set_option maxRecDepth 100000 in
theorem wl_r25 : ∀ w ∈ wsL_law_r25, w ∈ lw_tbl := in_at _ [1037, 1038, 1039, 1040, 1041, 1043, 38, 1044, 1045, 1046, 1047, 1048, 1049, 1050, 569, 570, 571, 572, 573, 574, 575, 576, 577, 579] (by decide +kernel)
set_option maxRecDepth 100000 in
theorem wl_r26 : ∀ w ∈ wsL_law_r26, w ∈ lw_tbl := in_at _ [14, 580, 581, 582, 584, 15, 585, 586, 587, 58, 588, 1051, 1052, 1053, 1054, 589, 590, 591, 592, 593, 594, 595, 596, 597] (by decide +kernel)
set_option maxRecDepth 100000 in
theorem wl_r27 : ∀ w ∈ wsL_law_r27, w ∈ lw_tbl := in_at _ [599, 16, 600, 601, 602, 603, 604, 606, 17, 607, 608, 610, 18, 611, 1055, 1056, 1057, 1058, 1059, 1061, 39, 1062, 613, 614] (by decide +kernel)
set_option maxRecDepth 100000 in
theorem wl_r28 : ∀ w ∈ wsL_law_r28, w ∈ lw_tbl := in_at _ [615, 616, 617, 618, 619, 620, 621, 623, 19, 624, 1063, 1064, 1065, 1066, 625, 626, 627, 628, 629, 630, 631, 632, 1067, 1068] (by decide +kernel)
set_option maxRecDepth 100000 in
theorem wl_r29 : ∀ w ∈ wsL_law_r29, w ∈ lw_tbl := in_at _ [1069, 1070, 1071, 634, 635, 636, 637, 651, 638, 640, 20, 641, 642, 643, 644, 645, 646, 647, 648, 649, 650, 652, 653, 654] (by decide +kernel)
set_option maxRecDepth 100000 in
theorem wl_r30 : ∀ w ∈ wsL_law_r30, w ∈ lw_tbl := in_at _ [655, 656, 657, 661, 658, 659, 660, 1072, 1073, 1074, 1075, 1076, 1084, 1077, 1079, 40, 1080, 1081, 1082, 1083, 662, 663, 664, 665] (by decide +kernel)
set_option maxRecDepth 100000 in
theorem wl_r31 : ∀ w ∈ wsL_law_r31, w ∈ lw_tbl := in_at _ [666, 667, 668, 669, 670, 671, 672, 673, 675, 676, 1085, 1086, 1087, 1088, 678, 679, 680, 681, 682, 683, 684, 685, 686, 687] (by decide +kernel)
set_option maxRecDepth 100000 in
theorem wl_r32 : ∀ w ∈ wsL_law_r32, w ∈ lw_tbl := in_at _ [1089, 1090, 1091, 1092, 1093, 688, 689, 690, 691, 692, 693, 694, 695, 696, 697, 698, 699, 700, 701, 702, 703, 704, 1094, 1095] (by decide +kernel)
set_option maxRecDepth 100000 in
theorem wl_r33 : ∀ w ∈ wsL_law_r33, w ∈ lw_tbl := in_at _ [1096, 1097, 1098, 706, 707, 708, 709, 710, 711, 712, 713, 203, 714, 715, 716, 717, 1099, 1100, 1101, 1102, 1103, 848, 718, 719] (by decide +kernel)
set_option maxRecDepth 100000 in
theorem wl_r34 : ∀ w ∈ wsL_law_r34, w ∈ lw_tbl := in_at _ [720, 721, 722, 723, 724, 725, 726, 1104, 1105, 1106, 1107, 727, 728, 729, 730, 731, 732, 733, 734, 1108, 1109, 1110, 1111, 735] (by decide +kernel)
set_option maxRecDepth 100000 in
theorem wl_r35 : ∀ w ∈ wsL_law_r35, w ∈ lw_tbl := in_at _ [736, 737, 738, 739, 740, 741, 742, 216, 1112, 1113, 1114, 1115, 851, 743, 744, 745, 746, 747, 748, 749, 750, 751, 752, 754] (by decide +kernel)
set_option maxRecDepth 100000 in
theorem wl_r36 : ∀ w ∈ wsL_law_r36, w ∈ lw_tbl := in_at _ [21, 755, 756, 757, 758, 759, 760, 761, 762, 764, 765, 1116, 1117, 1118, 1119, 1120, 1121, 1122, 1123, 1125, 41, 1126, 766, 767] (by decide +kernel)
set_option maxRecDepth 100000 in
theorem wl_r37 : ∀ w ∈ wsL_law_r37, w ∈ lw_tbl := in_at _ [768, 769, 770, 771, 772, 773, 774, 775, 776, 1127, 1128, 1129, 1130, 778, 779, 780, 781, 782, 783, 784, 785, 1131, 1132, 1133] (by decide +kernel)
set_option maxRecDepth 100000 in
theorem wl_r38 : ∀ w ∈ wsL_law_r38, w ∈ lw_tbl := in_at _ [1134, 786, 787, 788, 789, 790, 792, 22, 793, 794, 795, 796, 797, 798, 799, 800, 801, 802, 803, 804, 805, 806, 807, 808] (by decide +kernel)
set_option maxRecDepth 100000 in
theorem wl_r39 : ∀ w ∈ wsL_law_r39, w ∈ lw_tbl := in_at _ [809, 810, 812, 23, 813, 1135, 1136, 1137, 1138] (by decide +kernel)
set_option maxRecDepth 100000 in
theorem wl_X10 : ∀ w ∈ wsX100, w ∈ lw_tbl := in_at _ [232, 234, 236, 238, 240, 242, 244, 246, 248, 250] (by decide +kernel)
set_option maxRecDepth 100000 in
theorem wl_X11 : ∀ w ∈ wsX110, w ∈ lw_tbl := in_at _ [854, 856, 858, 860, 862, 864, 866, 868, 870, 872, 874, 876, 878, 880, 882, 884, 886, 888, 890, 892, 894, 896, 898, 900, 902, 904, 906, 908, 910, 912, 914, 916, 918, 920] (by decide +kernel)
set_option maxRecDepth 100000 in
theorem wl_X9 : ∀ w ∈ wsX90, w ∈ lw_tbl := in_at _ [75, 77] (by decide +kernel)
set_option maxRecDepth 100000 in
theorem wl_X6 : ∀ w ∈ wsX60, w ∈ lw_tbl := in_at _ [125, 127, 129] (by decide +kernel)
set_option maxRecDepth 100000 in
theorem wl_X8 : ∀ w ∈ wsX80, w ∈ lw_tbl := in_at _ [97, 99, 101, 103] (by decide +kernel)
set_option maxRecDepth 100000 in
theorem wl_X5 : ∀ w ∈ wsX50, w ∈ lw_tbl := in_at _ [115, 117, 119] (by decide +kernel)
set_option maxRecDepth 100000 in
theorem wl_X2 : ∀ w ∈ wsX20, w ∈ lw_tbl := in_at _ [146, 148, 150] (by decide +kernel)
set_option maxRecDepth 100000 in
theorem wl_X7 : ∀ w ∈ wsX70, w ∈ lw_tbl := in_at _ [164, 166, 168, 170] (by decide +kernel)
set_option maxRecDepth 100000 in
theorem wl_X0 : ∀ w ∈ wsX00, w ∈ lw_tbl := in_at _ [180] (by decide +kernel)
set_option maxRecDepth 100000 in
theorem wl_X3 : ∀ w ∈ wsX30, w ∈ lw_tbl := in_at _ [191, 193] (by decide +kernel)
set_option maxRecDepth 100000 in
theorem wl_X4 : ∀ w ∈ wsX40, w ∈ lw_tbl := in_at _ [204, 206] (by decide +kernel)
set_option maxRecDepth 100000 in
theorem wl_X1 : ∀ w ∈ wsX10, w ∈ lw_tbl := in_at _ [217, 219] (by decide +kernel)
theorem wsL_law_in : ∀ w ∈ wsL_law, w ∈ lw_tbl := List.forall_mem_append.mpr ⟨List.forall_mem_append.mpr ⟨List.forall_mem_append.mpr ⟨List.forall_mem_append.mpr ⟨List.forall_mem_append.mpr ⟨List.forall_mem_append.mpr ⟨List.forall_mem_append.mpr ⟨List.forall_mem_append.mpr ⟨List.forall_mem_append.mpr ⟨List.forall_mem_append.mpr ⟨List.forall_mem_append.mpr ⟨List.forall_mem_append.mpr ⟨List.forall_mem_append.mpr ⟨List.forall_mem_append.mpr ⟨wl_r1, List.forall_mem_append.mpr ⟨wl_r2, List.forall_mem_append.mpr ⟨wl_r3, List.forall_mem_append.mpr ⟨wl_r4, List.forall_mem_append.mpr ⟨wl_r5, List.forall_mem_append.mpr ⟨wl_r6, List.forall_mem_append.mpr ⟨wl_r7, List.forall_mem_append.mpr ⟨wl_r8, List.forall_mem_append.mpr ⟨wl_r9, List.forall_mem_append.mpr ⟨wl_r10, List.forall_mem_append.mpr ⟨wl_r11, List.forall_mem_append.mpr ⟨wl_r12, List.forall_mem_append.mpr ⟨wl_r13, List.forall_mem_append.mpr ⟨wl_r14, List.forall_mem_append.mpr ⟨wl_r15, List.forall_mem_append.mpr ⟨wl_r16, List.forall_mem_append.mpr ⟨wl_r17, List.forall_mem_append.mpr ⟨wl_r18, List.forall_mem_append.mpr ⟨wl_r19, List.forall_mem_append.mpr ⟨wl_r20, List.forall_mem_append.mpr ⟨wl_r21, List.forall_mem_append.mpr ⟨wl_r22, List.forall_mem_append.mpr ⟨wl_r23, List.forall_mem_append.mpr ⟨wl_r24, List.forall_mem_append.mpr ⟨wl_r25, List.forall_mem_append.mpr ⟨wl_r26, List.forall_mem_append.mpr ⟨wl_r27, List.forall_mem_append.mpr ⟨wl_r28, List.forall_mem_append.mpr ⟨wl_r29, List.forall_mem_append.mpr ⟨wl_r30, List.forall_mem_append.mpr ⟨wl_r31, List.forall_mem_append.mpr ⟨wl_r32, List.forall_mem_append.mpr ⟨wl_r33, List.forall_mem_append.mpr ⟨wl_r34, List.forall_mem_append.mpr ⟨wl_r35, List.forall_mem_append.mpr ⟨wl_r36, List.forall_mem_append.mpr ⟨wl_r37, List.forall_mem_append.mpr ⟨wl_r38, wl_r39⟩⟩⟩⟩⟩⟩⟩⟩⟩⟩⟩⟩⟩⟩⟩⟩⟩⟩⟩⟩⟩⟩⟩⟩⟩⟩⟩⟩⟩⟩⟩⟩⟩⟩⟩⟩⟩⟩, wl_X10⟩, wl_X11⟩, wl_X9⟩, wl_X6⟩, wl_X8⟩, wl_X5⟩, wl_X2⟩, wl_X7⟩, wl_X0⟩, wl_X3⟩, wl_X4⟩, wl_X1⟩, fun _ h => absurd h List.not_mem_nil⟩
theorem inX0 : ∀ w ∈ wsX00, w ∈ lw_tbl := wl_X0
theorem inX1 : ∀ w ∈ wsX10, w ∈ lw_tbl := wl_X1
theorem inX2 : ∀ w ∈ wsX20, w ∈ lw_tbl := wl_X2
theorem inX3 : ∀ w ∈ wsX30, w ∈ lw_tbl := wl_X3
theorem inX4 : ∀ w ∈ wsX40, w ∈ lw_tbl := wl_X4
theorem inX5 : ∀ w ∈ wsX50, w ∈ lw_tbl := wl_X5
theorem inX6 : ∀ w ∈ wsX60, w ∈ lw_tbl := wl_X6
theorem inX7 : ∀ w ∈ wsX70, w ∈ lw_tbl := wl_X7
theorem inX8 : ∀ w ∈ wsX80, w ∈ lw_tbl := wl_X8
theorem inX9 : ∀ w ∈ wsX90, w ∈ lw_tbl := wl_X9
theorem inX10 : ∀ w ∈ wsX100, w ∈ lw_tbl := wl_X10
theorem inX11 : ∀ w ∈ wsX110, w ∈ lw_tbl := wl_X11
