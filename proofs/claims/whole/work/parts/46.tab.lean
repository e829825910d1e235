/-! THE START: the tables' words, the classes, what is known of the machine -/
/-- a private method of an abstract class: an object of a class below it selects it -/
theorem sel_priv {y y0 : MethodName} {C : String} {s : State} {args : Array Value} (hy : y.cls ≠ "java/lang/invoke/MethodHandle" ∧ y.cls ≠ "java/lang/invoke/VarHandle") (hc0 : y0.cls = y.cls) {x0 : MethodName} (hsel : (Cond.selects C x0 y0).before args s = true) (hpriv : (Cond.privateMethod y).before args s = true) (hinst : (Cond.instanceMethod y).before args s = true) : (Cond.selects C y y).before args s = true := by
  obtain ⟨c, r0, m0, hc, -, hm0, -, k, hk, hni⟩ := Cond.selects_spec hsel
  obtain ⟨mk, methM, hnamed, hmethM, -, -⟩ := Cond.instanceMethod_spec hinst
  have hfound : s.methodFound? y.cls y.name y.desc = some mk := State.methodFound?_of_named hnamed hy
  have h0 := findClass_of_methodNamed hm0
  rw [hc0] at h0
  have hcls : mk.cls = m0.cls := Option.some.inj ((findClass_of_methodNamed hnamed).symm.trans h0)
  have hsl : selectMethod {} s.vm c mk = .method mk := selectMethod_private hmethM (Cond.privateMethod_at hpriv mk methM hnamed hmethM)
  simp only [Cond.before, Cond.holds, Cond.value, hc, hfound, hnamed, hsl, hcls, hk]
  simp
  exact hni
def zSel4 : List Cond := [Cond.selects RX2 ⟨"Assetmerge$Finder", "joinClusters", "(LAssetmerge$Inventory;I)V"⟩ yX0_joinClusters, Cond.selects RX2 ⟨"Assetmerge$Finder", "membersOf", "(ILAssetmerge$Inventory;)I"⟩ yX0_membersOf, Cond.selects RX3 ⟨"Assetmerge$Finder", "joinClusters", "(LAssetmerge$Inventory;I)V"⟩ yX0_joinClusters, Cond.selects RX3 ⟨"Assetmerge$Finder", "membersOf", "(ILAssetmerge$Inventory;)I"⟩ yX0_membersOf]
def zTb : List Cond := lw_tbl ++ zSel4
theorem tS2 : Cond.selects RX2 ⟨"Assetmerge$Finder", "groupBefore", "(II)I"⟩ yX0_groupBefore ∈ lw_tbl := by decide +kernel
theorem tS3 : Cond.selects RX3 ⟨"Assetmerge$Finder", "groupBefore", "(II)I"⟩ yX0_groupBefore ∈ lw_tbl := by decide +kernel
theorem tPj : Cond.privateMethod yX0_joinClusters ∈ lw_tbl := by decide +kernel
theorem tPm : Cond.privateMethod yX0_membersOf ∈ lw_tbl := by decide +kernel
theorem tIj : Cond.instanceMethod yX0_joinClusters ∈ lw_tbl := by decide +kernel
theorem tIm : Cond.instanceMethod yX0_membersOf ∈ lw_tbl := by decide +kernel
theorem zTb_hts {args : Array Value} {s : State} (hts : ∀ w ∈ lw_tbl, w.before args s = true) : ∀ w ∈ zTb, w.before args s = true := by
  intro w h
  rcases List.mem_append.mp h with h | h
  · exact hts w h
  · simp only [zSel4, List.mem_cons, List.not_mem_nil, or_false] at h
    rcases h with rfl | rfl | rfl | rfl
    · exact sel_priv ⟨by decide +kernel, by decide +kernel⟩ (y0 := yX0_groupBefore) rfl (hts _ tS2) (hts _ tPj) (hts _ tIj)
    · exact sel_priv ⟨by decide +kernel, by decide +kernel⟩ (y0 := yX0_groupBefore) rfl (hts _ tS2) (hts _ tPm) (hts _ tIm)
    · exact sel_priv ⟨by decide +kernel, by decide +kernel⟩ (y0 := yX0_groupBefore) rfl (hts _ tS3) (hts _ tPj) (hts _ tIj)
    · exact sel_priv ⟨by decide +kernel, by decide +kernel⟩ (y0 := yX0_groupBefore) rfl (hts _ tS3) (hts _ tPm) (hts _ tIm)
theorem zTb_in (ws : List Cond) (ps : List Nat) (hp : ws = ps.filterMap (fun i => zTb[i]?)) : ∀ w ∈ ws, w ∈ zTb := by
  intro w hw
  rw [hp] at hw
  obtain ⟨i, -, hi⟩ := List.mem_filterMap.mp hw
  exact List.mem_of_getElem? hi
set_option maxRecDepth 20000 in
theorem zi_1 : ∀ w ∈ wsL_law0_r1, w ∈ zTb := zTb_in wsL_law0_r1 [61, 62, 46, 768, 769, 51, 1066, 1067, 63, 64, 65, 66, 67, 68, 69, 70, 47, 152, 118, 119, 49, 153, 143, 144] (by decide +kernel)
set_option maxRecDepth 20000 in
theorem zi_2 : ∀ w ∈ wsL_law0_r2, w ∈ zTb := zTb_in wsL_law0_r2 [50, 154, 117, 155, 157, 72, 73, 74, 77, 79, 80, 75, 82, 84, 86, 121, 122, 124, 48, 125, 126, 127, 128, 133] (by decide +kernel)
set_option maxRecDepth 20000 in
theorem zi_3 : ∀ w ∈ wsL_law0_r3, w ∈ zTb := zTb_in wsL_law0_r3 [146, 147, 770, 771, 772, 773, 775, 777, 778, 774, 779, 780, 830, 781, 783, 784, 786, 789, 790, 791, 792, 320, 321, 45] (by decide +kernel)
set_option maxRecDepth 20000 in
theorem zi_4 : ∀ w ∈ wsL_law0_r4, w ∈ zTb := zTb_in wsL_law0_r4 [322, 323, 324, 325, 326, 327, 328, 401, 56, 89, 329, 330, 331, 332, 55, 417, 418, 419, 420, 88, 835, 836, 837, 838] (by decide +kernel)
set_option maxRecDepth 20000 in
theorem zi_5 : ∀ w ∈ wsL_law0_r5, w ∈ zTb := zTb_in wsL_law0_r5 [776, 788, 839, 840, 841, 831, 832, 833, 834, 421, 422, 423, 424, 425, 426, 427, 428, 78, 429, 431, 14, 432, 433, 57] (by decide +kernel)
set_option maxRecDepth 20000 in
theorem zi_6 : ∀ w ∈ wsL_law0_r6, w ∈ zTb := zTb_in wsL_law0_r6 [842, 843, 844, 845, 449, 450, 451, 452, 453, 454, 455, 94, 156, 83, 457, 458, 459, 460, 91, 461, 462, 463, 464, 87] (by decide +kernel)
set_option maxRecDepth 20000 in
theorem zi_7 : ∀ w ∈ wsL_law0_r7, w ∈ zTb := zTb_in wsL_law0_r7 [846, 847, 848, 849, 782, 787, 850, 851, 852, 465, 466, 467, 468, 469, 470, 471, 472, 474, 15, 475, 277, 216, 217, 218] (by decide +kernel)
set_option maxRecDepth 20000 in
theorem zi_8 : ∀ w ∈ wsL_law0_r8, w ∈ zTb := zTb_in wsL_law0_r8 [262, 263, 264, 477, 478, 479, 853, 854, 855, 856, 857, 859, 26, 860, 481, 482, 483, 484, 485, 486, 487, 85, 488, 489] (by decide +kernel)
set_option maxRecDepth 20000 in
theorem zi_9 : ∀ w ∈ wsL_law0_r9, w ∈ zTb := zTb_in wsL_law0_r9 [490, 861, 862, 863, 864, 492, 493, 494, 495, 496, 497, 498, 81, 865, 866, 867, 868, 869, 871, 27, 872, 499, 500, 501] (by decide +kernel)
set_option maxRecDepth 20000 in
theorem zi_10 : ∀ w ∈ wsL_law0_r10, w ∈ zTb := zTb_in wsL_law0_r10 [502, 503, 504, 505, 506, 507, 508, 509, 175, 176, 177, 178, 179, 180, 58, 181, 182, 183, 184, 873, 874, 875, 876, 877] (by decide +kernel)
set_option maxRecDepth 20000 in
theorem zi_11 : ∀ w ∈ wsL_law0_r11, w ∈ zTb := zTb_in wsL_law0_r11 [879, 28, 880, 510, 511, 512, 513, 514, 515, 516, 95, 517, 518, 519, 521, 522, 523, 524, 527, 528, 529, 530, 531, 532] (by decide +kernel)
set_option maxRecDepth 20000 in
theorem zi_12 : ∀ w ∈ wsL_law0_r12, w ∈ zTb := zTb_in wsL_law0_r12 [533, 534, 215, 881, 882, 883, 884, 785, 885, 887, 29, 888, 889, 891, 30, 892, 535, 536, 537, 538, 539, 540, 541, 542] (by decide +kernel)
set_option maxRecDepth 20000 in
theorem zi_13 : ∀ w ∈ wsL_law0_r13, w ∈ zTb := zTb_in wsL_law0_r13 [543, 545, 16, 546, 547, 59, 563, 564, 565, 566, 893, 894, 895, 896, 897, 899, 31, 900, 171, 172, 173, 174, 901, 902] (by decide +kernel)
set_option maxRecDepth 20000 in
theorem zi_14 : ∀ w ∈ wsL_law0_r14, w ∈ zTb := zTb_in wsL_law0_r14 [903, 904, 567, 568, 569, 570, 571, 572, 573, 905, 906, 907, 908, 574, 575, 576, 577, 578, 579, 580, 909, 910, 911, 912] (by decide +kernel)
set_option maxRecDepth 20000 in
theorem zi_15 : ∀ w ∈ wsL_law0_r15, w ∈ zTb := zTb_in wsL_law0_r15 [581, 582, 583, 584, 585, 586, 587, 588, 590, 17, 591, 131, 132, 193, 194, 196, 197, 198, 93, 199, 201, 202, 200, 204] (by decide +kernel)
set_option maxRecDepth 20000 in
theorem zi_16 : ∀ w ∈ wsL_law0_r16, w ∈ zTb := zTb_in wsL_law0_r16 [203, 205, 207, 208, 209, 210, 90, 134, 135, 211, 212, 213, 214, 219, 221, 1, 222, 223, 224, 60, 225, 226, 227, 228] (by decide +kernel)
set_option maxRecDepth 20000 in
theorem zi_17 : ∀ w ∈ wsL_law0_r17, w ∈ zTb := zTb_in wsL_law0_r17 [229, 230, 231, 232, 234, 2, 235, 92, 136, 137, 236, 238, 3, 239, 240, 241, 243, 244, 245, 1068, 1082, 247, 248, 249] (by decide +kernel)
set_option maxRecDepth 20000 in
theorem zi_18 : ∀ w ∈ wsL_law0_r18, w ∈ zTb := zTb_in wsL_law0_r18 [1069, 1083, 251, 252, 253, 1085, 254, 255, 256, 257, 258, 260, 4, 261, 265, 267, 5, 268, 1084, 913, 914, 915, 916, 917] (by decide +kernel)
set_option maxRecDepth 20000 in
theorem zi_19 : ∀ w ∈ wsL_law0_r19, w ∈ zTb := zTb_in wsL_law0_r19 [919, 32, 920, 921, 923, 33, 924, 925, 927, 34, 928, 929, 931, 35, 932, 933, 935, 36, 936, 937, 939, 37, 940, 592] (by decide +kernel)
set_option maxRecDepth 20000 in
theorem zi_20 : ∀ w ∈ wsL_law0_r20, w ∈ zTb := zTb_in wsL_law0_r20 [593, 594, 595, 596, 597, 598, 129, 130, 599, 600, 601, 941, 942, 943, 944, 945, 185, 186, 187, 188, 189, 191, 0, 192] (by decide +kernel)
set_option maxRecDepth 20000 in
theorem zi_21 : ∀ w ∈ wsL_law0_r21, w ∈ zTb := zTb_in wsL_law0_r21 [269, 271, 6, 272, 273, 275, 7, 276, 946, 947, 948, 949, 950, 952, 38, 953, 602, 603, 604, 605, 606, 607, 608, 312] (by decide +kernel)
set_option maxRecDepth 20000 in
theorem zi_22 : ∀ w ∈ wsL_law0_r22, w ∈ zTb := zTb_in wsL_law0_r22 [314, 11, 315, 954, 955, 956, 957, 958, 960, 39, 961, 609, 610, 611, 612, 613, 614, 615, 616, 618, 18, 619, 962, 963] (by decide +kernel)
set_option maxRecDepth 20000 in
theorem zi_23 : ∀ w ∈ wsL_law0_r23, w ∈ zTb := zTb_in wsL_law0_r23 [964, 965, 621, 622, 623, 624, 625, 626, 627, 966, 967, 968, 969, 628, 629, 630, 631, 632, 633, 634, 635, 637, 19, 638] (by decide +kernel)
set_option maxRecDepth 20000 in
theorem zi_24 : ∀ w ∈ wsL_law0_r24, w ∈ zTb := zTb_in wsL_law0_r24 [970, 971, 972, 973, 640, 641, 642, 643, 644, 645, 646, 647, 648, 649, 650, 651, 652, 654, 20, 655, 656, 974, 975, 976] (by decide +kernel)
set_option maxRecDepth 20000 in
theorem zi_25 : ∀ w ∈ wsL_law0_r25, w ∈ zTb := zTb_in wsL_law0_r25 [977, 978, 980, 40, 981, 657, 658, 659, 660, 661, 662, 663, 664, 982, 983, 984, 985, 665, 666, 667, 668, 669, 670, 671] (by decide +kernel)
set_option maxRecDepth 20000 in
theorem zi_26 : ∀ w ∈ wsL_law0_r26, w ∈ zTb := zTb_in wsL_law0_r26 [986, 987, 988, 989, 990, 672, 673, 674, 675, 676, 677, 678, 991, 992, 993, 994, 679, 680, 681, 682, 683, 684, 685, 686] (by decide +kernel)
set_option maxRecDepth 20000 in
theorem zi_27 : ∀ w ∈ wsL_law0_r27, w ∈ zTb := zTb_in wsL_law0_r27 [687, 688, 689, 995, 996, 997, 998, 999, 1001, 41, 1002, 690, 691, 692, 693, 694, 695, 696, 697, 699, 21, 700, 701, 703] (by decide +kernel)
set_option maxRecDepth 20000 in
theorem zi_28 : ∀ w ∈ wsL_law0_r28, w ∈ zTb := zTb_in wsL_law0_r28 [22, 704, 705, 706, 707, 708, 709, 710, 711, 712, 1003, 1004, 1005, 1006, 1007, 1009, 42, 1010, 1011, 1013, 43, 1014, 714, 715] (by decide +kernel)
set_option maxRecDepth 20000 in
theorem zi_29 : ∀ w ∈ wsL_law0_r29, w ∈ zTb := zTb_in wsL_law0_r29 [716, 717, 718, 719, 720, 721, 723, 23, 724, 725, 727, 24, 728, 729, 731, 25, 732, 1015, 1016, 1017, 1018, 1019, 733, 734] (by decide +kernel)
set_option maxRecDepth 20000 in
theorem zi_30 : ∀ w ∈ wsL_law0_r30, w ∈ zTb := zTb_in wsL_law0_r30 [735, 736, 737, 738, 739, 1020, 1021, 1022, 1023, 740, 741, 742, 743, 744, 745, 746, 1024, 1025, 1026, 1027, 747, 748, 749, 750] (by decide +kernel)
set_option maxRecDepth 20000 in
theorem zi_31 : ∀ w ∈ wsL_law0_r31, w ∈ zTb := zTb_in wsL_law0_r31 [751, 752, 753, 1028, 1029, 1030, 1031, 754, 755, 756, 757, 758, 759, 760, 282, 284, 8, 285, 286, 288, 9, 289, 290, 1032] (by decide +kernel)
set_option maxRecDepth 20000 in
theorem zi_32 : ∀ w ∈ wsL_law0_r32, w ∈ zTb := zTb_in wsL_law0_r32 [1033, 1034, 1035, 1036, 1038, 44, 1039, 1040, 278, 279, 280, 281, 1041, 1042, 1043, 1044, 291, 292, 293, 294, 1045, 1046, 1047, 1048] (by decide +kernel)
set_option maxRecDepth 20000 in
theorem zi_33 : ∀ w ∈ wsL_law0_r33, w ∈ zTb := zTb_in wsL_law0_r33 [295, 296, 297, 298, 299, 300, 302, 10, 303, 1049, 1050, 1051, 1052, 1053, 761, 762, 763, 764, 765, 766, 767, 1054, 1055, 1056] (by decide +kernel)
set_option maxRecDepth 20000 in
theorem zi_34 : ∀ w ∈ wsL_law0_r34, w ∈ zTb := zTb_in wsL_law0_r34 [1057, 304, 305, 306, 307, 1058, 1059, 1060, 1061, 308, 309, 310, 311, 316, 318, 12, 319, 1062, 1063, 1064, 1065] (by decide +kernel)
theorem zin_law0 : ∀ w ∈ zR, w ∈ zTb := by
  intro w h
  rcases List.mem_append.mp h with h | h
  · exact zi_1 w h
  rcases List.mem_append.mp h with h | h
  · exact zi_2 w h
  rcases List.mem_append.mp h with h | h
  · exact zi_3 w h
  rcases List.mem_append.mp h with h | h
  · exact zi_4 w h
  rcases List.mem_append.mp h with h | h
  · exact zi_5 w h
  rcases List.mem_append.mp h with h | h
  · exact zi_6 w h
  rcases List.mem_append.mp h with h | h
  · exact zi_7 w h
  rcases List.mem_append.mp h with h | h
  · exact zi_8 w h
  rcases List.mem_append.mp h with h | h
  · exact zi_9 w h
  rcases List.mem_append.mp h with h | h
  · exact zi_10 w h
  rcases List.mem_append.mp h with h | h
  · exact zi_11 w h
  rcases List.mem_append.mp h with h | h
  · exact zi_12 w h
  rcases List.mem_append.mp h with h | h
  · exact zi_13 w h
  rcases List.mem_append.mp h with h | h
  · exact zi_14 w h
  rcases List.mem_append.mp h with h | h
  · exact zi_15 w h
  rcases List.mem_append.mp h with h | h
  · exact zi_16 w h
  rcases List.mem_append.mp h with h | h
  · exact zi_17 w h
  rcases List.mem_append.mp h with h | h
  · exact zi_18 w h
  rcases List.mem_append.mp h with h | h
  · exact zi_19 w h
  rcases List.mem_append.mp h with h | h
  · exact zi_20 w h
  rcases List.mem_append.mp h with h | h
  · exact zi_21 w h
  rcases List.mem_append.mp h with h | h
  · exact zi_22 w h
  rcases List.mem_append.mp h with h | h
  · exact zi_23 w h
  rcases List.mem_append.mp h with h | h
  · exact zi_24 w h
  rcases List.mem_append.mp h with h | h
  · exact zi_25 w h
  rcases List.mem_append.mp h with h | h
  · exact zi_26 w h
  rcases List.mem_append.mp h with h | h
  · exact zi_27 w h
  rcases List.mem_append.mp h with h | h
  · exact zi_28 w h
  rcases List.mem_append.mp h with h | h
  · exact zi_29 w h
  rcases List.mem_append.mp h with h | h
  · exact zi_30 w h
  rcases List.mem_append.mp h with h | h
  · exact zi_31 w h
  rcases List.mem_append.mp h with h | h
  · exact zi_32 w h
  rcases List.mem_append.mp h with h | h
  · exact zi_33 w h
  exact zi_34 w h
theorem tX1 : ∀ w ∈ wsX10, w ∈ lw_tbl := by decide +kernel
theorem tX2 : ∀ w ∈ wsX20, w ∈ lw_tbl := by decide +kernel
theorem tX3 : ∀ w ∈ wsX30, w ∈ lw_tbl := by decide +kernel
theorem tX4 : ∀ w ∈ wsX40, w ∈ lw_tbl := by decide +kernel
theorem tX5 : ∀ w ∈ wsX50, w ∈ lw_tbl := by decide +kernel
theorem tT1 : ∀ w ∈ zT1 "java/lang/IllegalStateException" 49 7 zSix, w ∈ lw_tbl := by decide +kernel
theorem tT2 : ∀ w ∈ zT1 "java/lang/IllegalArgumentException" 223 7 zSix, w ∈ lw_tbl := by decide +kernel
theorem tT3 : ∀ w ∈ zT1 "java/lang/IndexOutOfBoundsException" 209 7 zSix, w ∈ lw_tbl := by decide +kernel
theorem tT4 : ∀ w ∈ zT1 "java/util/NoSuchElementException" 151 13 zRx, w ∈ lw_tbl := by decide +kernel
theorem zin_tbl : ∀ w ∈ zAll, w ∈ zTb := by
  intro w h
  rcases List.mem_append.mp h with h | h
  · exact zin_law0 w h
  rcases List.mem_append.mp h with h | h
  · exact List.mem_append_left _ (tX4 w h)
  rcases List.mem_append.mp h with h | h
  · exact List.mem_append_left _ (tX5 w h)
  rcases List.mem_append.mp h with h | h
  · exact List.mem_append_left _ (tX1 w h)
  rcases List.mem_append.mp h with h | h
  · exact List.mem_append_left _ (tX2 w h)
  rcases List.mem_append.mp h with h | h
  · exact List.mem_append_left _ (tX3 w h)
  rcases List.mem_append.mp h with h | h
  · exact List.mem_append_left _ (tT1 w h)
  rcases List.mem_append.mp h with h | h
  · exact List.mem_append_left _ (tT2 w h)
  rcases List.mem_append.mp h with h | h
  · exact List.mem_append_left _ (tT3 w h)
  · exact List.mem_append_left _ (tT4 w h)
theorem zBad_tbl : ∀ w ∈ zBad, w ∈ lw_tbl := by decide +kernel
theorem zStr_tbl : ∀ q ∈ zStr, Cond.stringRef RX4 q.1 q.2 ∈ lw_tbl := by decide +kernel
theorem zStr_giv : ∀ q ∈ zStr, Cond.exactly (.string RX4 q.1) "java/lang/String" ∈ flatC (Jvm.Cond.and given_1 narrow_1) := by decide +kernel
theorem zNW_tbl : ∀ q ∈ zNWl, Cond.methodLinkNest q.1 q.2.1 q.2.2 RX4 ∈ lw_tbl := by decide +kernel
theorem zNC_giv : ∀ q ∈ zNCl, Cond.not (.castable q.1 q.2) ∈ flatC (Jvm.Cond.and given_1 narrow_1) := by decide +kernel
theorem zAO_tbl : Cond.arrayOver (.array .int) ∈ lw_tbl := by decide +kernel
theorem zU_tbl : Cond.laysStatic Bundle.tN "UNASSIGNED_STACK" Bundle.steD ∈ lw_tbl := by decide +kernel
theorem zN_tbl : Cond.laysStatic Bundle.tN "SUPPRESSED_SENTINEL" Bundle.listD ∈ lw_tbl := by decide +kernel
theorem zI_tbl : Cond.initialized Bundle.tN ∈ lw_tbl := by decide +kernel
theorem zU_giv : Cond.isRef (.static Bundle.tN "UNASSIGNED_STACK" Bundle.steD) ∈ flatC (Jvm.Cond.and given_1 narrow_1) := by decide +kernel
theorem zN_giv : Cond.isRef (.static Bundle.tN "SUPPRESSED_SENTINEL" Bundle.listD) ∈ flatC (Jvm.Cond.and given_1 narrow_1) := by decide +kernel
theorem zE_start {b : Nat} {s : State} {A : Nat → Prop} (hts : ∀ w ∈ lw_tbl, w.before #[Value.ref b] s = true) (hgv : (Jvm.Cond.and given_1 narrow_1).before #[Value.ref b] s = true) (hA : ∀ a : Nat, a < s.heap.size → ¬ A a) : zE A s := by
  have hg := flat_of_before _ hgv
  refine ⟨fun w hw => va_tabs (zBad_ok w hw).1 (rfl : s.vm = s.vm) (hts w (zBad_tbl w hw)), fun q hq => ?_, vx_Zqof (hts _ zU_tbl) (hts _ zI_tbl) (hg _ zU_giv) hA, vx_Zqof (hts _ zN_tbl) (hts _ zI_tbl) (hg _ zN_giv) hA, over_moved (Vm.Alike.refl s.vm) (hts _ zAO_tbl), fun q hq => va_Nw.of rfl (hts _ (zNW_tbl q hq)), fun q hq => va_Nc.of (hg _ (zNC_giv q hq))⟩
  obtain ⟨a, c, cA, kA, q1, q2, q3, q4, q5, q6, -⟩ := Cond.exactly_spec (args := #[Value.ref b]) (first := s) (o := none) (s := s) (idx := []) (t := .string RX4 q.1) (cls := "java/lang/String") (hg _ (zStr_giv q hq))
  exact ⟨a, vk_R.of (hts _ (zStr_tbl q hq)) q1⟩
theorem arr_start {b : Nat} {s : State} {ty : FieldType} (h : (Cond.arrayClass ty).before #[Value.ref b] s = true) : ∃ cA, ArrOfT s cA ty ∧ s.vm.findClass ("[" ++ ty.toString) = some cA := by
  obtain ⟨c, k, comp, h1, h2, h3⟩ := Cond.arrayClass_spec h
  exact ⟨c, fun n z => ⟨fun k h => (by cases h), k, h2, comp, h3⟩, h1⟩
theorem arr2_start {b : Nat} {s : State} {t : FieldType} (h : (Cond.arrayOver (.array t)).before #[Value.ref b] s = true) : ∃ cA, ArrOfT s cA (.array t) ∧ s.vm.findClass ("[" ++ (FieldType.array t).toString) = some cA := by
  have h : (Cond.arrayOver (.array t)).holds #[Value.ref b] s none s [] = true := h
  simp only [Cond.holds, Cond.value, beq_iff_eq] at h
  cases hc : s.vm.findClass (FieldType.array t).toString with
  | none => simp [hc] at h
  | some comp =>
    simp only [hc, Option.bind_some, Option.bind_eq_some_iff, Option.map_eq_some_iff] at h
    obtain ⟨c, hi, k, hk, hb⟩ := h
    obtain ⟨hlt, hp, -⟩ := Array.findIdx?_eq_some_iff_getElem.mp hi
    have hkk : s.vm.classes[c] = k := (Array.getElem?_eq_some_iff.mp hk).2
    rw [hkk] at hp
    cases hkind : k.kind with
    | array component ty =>
      rw [hkind] at hb hp
      simp at hb hp
      exact ⟨c, fun n z => ⟨fun k h => (by cases h), k, hk, comp, by rw [hkind, hp, hb.1]⟩, hb.2⟩
    | _ => rw [hkind] at hb; simp at hb
theorem zK_start {b : Nat} {s : State} (hts : ∀ w ∈ lw_tbl, w.before #[Value.ref b] s = true) : ∃ (D : va_G) (cT : Nat → Nat), va_K D vwCl (ztys cT) s := by
  obtain ⟨c0, i0, h0⟩ := u_known (C := RX1) (T := TX1) (N := 10) (n := 10) hts tX1 (zTb_hts hts _ (zin_tbl _ (aw_1_15)))
  obtain ⟨c1, i1, h1⟩ := u_known (C := RX2) (T := TX2) (N := 2) (n := 2) hts tX2 (zTb_hts hts _ (zin_tbl _ (aw_1_19)))
  obtain ⟨c2, i2, h2⟩ := u_known (C := RX3) (T := TX3) (N := 2) (n := 2) hts tX3 (zTb_hts hts _ (zin_tbl _ (aw_1_23)))
  obtain ⟨c3, i3, h3⟩ := u_known (C := RX4) (T := TX4) (N := 6) (n := 6) hts tX4 (zTb_hts hts _ (zin_tbl _ (aw_1_1)))
  obtain ⟨c4, i4, h4⟩ := u_known (C := RX5) (T := TX5) (N := 18) (n := 18) hts tX5 (zTb_hts hts _ (zin_tbl _ (aw_1_4)))
  obtain ⟨a0, b0, e0⟩ := arr_start (ty := .int) (zTb_hts hts _ (zin_tbl _ aw_2_2))
  obtain ⟨a1, b1, e1⟩ := arr2_start (t := .int) (hts _ zAO_tbl)
  obtain ⟨a2, b2, e2⟩ := arr_start (ty := .boolean) (zTb_hts hts _ (zin_tbl _ aw_3_12))
  obtain ⟨a3, b3, e3⟩ := arr_start (ty := .long) (zTb_hts hts _ (zin_tbl _ aw_1_6))
  obtain ⟨a4, b4, e4⟩ := arr_start (ty := .double) (zTb_hts hts _ (zin_tbl _ aw_1_7))
  refine ⟨(fun k => match k with | 0 => c0 | 1 => c1 | 2 => c2 | 3 => c3 | _ => c4, fun k => match k with | 0 => i0 | 1 => i1 | 2 => i2 | 3 => i3 | _ => i4), fun k => match k with | 0 => a0 | 1 => a1 | 2 => a2 | 3 => a3 | _ => a4, fun k q hq => ?_, fun k q hq => ?_⟩
  · match k, hq with
    | 0, hq => cases hq; exact h0
    | 1, hq => cases hq; exact h1
    | 2, hq => cases hq; exact h2
    | 3, hq => cases hq; exact h3
    | 4, hq => cases hq; exact h4
    | k + 5, hq => simp [vwCl] at hq
  · match k, hq with
    | 0, hq => cases hq; exact ⟨b0, e0⟩
    | 1, hq => cases hq; exact ⟨b1, e1⟩
    | 2, hq => cases hq; exact ⟨b2, e2⟩
    | 3, hq => cases hq; exact ⟨b3, e3⟩
    | 4, hq => cases hq; exact ⟨b4, e4⟩
    | k + 5, hq => simp [ztys] at hq
theorem st_off {l : Launch} (h : l.flags = flags0) : l.stackTraces = false := by
  unfold Launch.stackTraces
  rw [h]
  decide +kernel
