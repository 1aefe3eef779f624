theorem j_memr {ws big : List Cond} (ps : List Nat) (h : ws = ps.filterMap (fun i => big[i]?)) : ∀ w ∈ ws, w ∈ big := by
  intro w hw
  rw [h] at hw
  obtain ⟨i, -, hi⟩ := List.mem_filterMap.mp hw
  exact List.mem_of_getElem? hi
set_option maxRecDepth 20000 in
theorem in_wsL_law0_r1 : ∀ w ∈ wsL_law0_r1, w ∈ lw_tbl := j_memr [45, 46, 19, 47, 48, 49, 20, 306, 214, 50, 51, 52, 53, 54, 55, 56, 57, 21, 210, 58, 59, 60, 61, 62] (by decide +kernel)
set_option maxRecDepth 20000 in
theorem in_wsL_law0_r2 : ∀ w ∈ wsL_law0_r2, w ∈ lw_tbl := j_memr [63, 24, 179, 181, 182, 184, 186, 88, 89, 25, 188, 99, 100, 26, 64, 65, 66, 74, 76, 67, 68, 23, 69, 78] (by decide +kernel)
set_option maxRecDepth 20000 in
theorem in_wsL_law0_r3 : ∀ w ∈ wsL_law0_r3, w ∈ lw_tbl := j_memr [70, 71, 22, 72, 73, 91, 92, 93, 98, 94, 101, 102, 103, 104, 107, 105, 119, 120, 121, 122, 79, 80, 77, 123] (by decide +kernel)
set_option maxRecDepth 20000 in
theorem in_wsL_law0_r4 : ∀ w ∈ wsL_law0_r4, w ∈ lw_tbl := j_memr [125, 0, 126, 127, 129, 1, 130, 131, 133, 2, 134, 177, 139, 28, 140, 178, 135, 136, 27, 137, 138, 141, 142, 143] (by decide +kernel)
set_option maxRecDepth 20000 in
theorem in_wsL_law0_r5 : ∀ w ∈ wsL_law0_r5, w ∈ lw_tbl := j_memr [144, 145, 146, 29, 147, 148, 1040, 149, 164, 165, 166, 167, 168, 170, 171, 172, 173, 174, 176, 175, 30, 215, 216, 217] (by decide +kernel)
set_option maxRecDepth 20000 in
theorem in_wsL_law0_r6 : ∀ w ∈ wsL_law0_r6, w ∈ lw_tbl := j_memr [218, 219, 220, 221, 222, 223, 612, 520, 642, 224, 225, 226, 227, 228, 229, 230, 231, 233, 3, 234, 239, 34, 187, 322] (by decide +kernel)
set_option maxRecDepth 20000 in
theorem in_wsL_law0_r7 : ∀ w ∈ wsL_law0_r7, w ∈ lw_tbl := j_memr [235, 236, 237, 238, 308, 309, 310, 311, 312, 313, 35, 314, 315, 316, 36, 317, 318, 319, 320, 321, 323, 324, 325, 327] (by decide +kernel)
set_option maxRecDepth 20000 in
theorem in_wsL_law0_r8 : ∀ w ∈ wsL_law0_r8, w ∈ lw_tbl := j_memr [329, 5, 330, 331, 37, 180, 347, 348, 349, 350, 352, 353, 38, 419, 420, 40, 351, 354, 355, 356, 357, 358, 405, 407] (by decide +kernel)
set_option maxRecDepth 20000 in
theorem in_wsL_law0_r9 : ∀ w ∈ wsL_law0_r9, w ∈ lw_tbl := j_memr [399, 360, 361, 39, 401, 403, 359, 362, 363, 364, 365, 398, 371, 372, 373, 376, 366, 367, 421, 422, 423, 424, 425, 437] (by decide +kernel)
set_option maxRecDepth 20000 in
theorem in_wsL_law0_r10 : ∀ w ∈ wsL_law0_r10, w ∈ lw_tbl := j_memr [427, 429, 432, 435, 426, 483, 485, 6, 486, 433, 406, 487, 488, 489, 490, 491, 493, 7, 494, 495, 41, 511, 512, 513] (by decide +kernel)
set_option maxRecDepth 20000 in
theorem in_wsL_law0_r11 : ∀ w ∈ wsL_law0_r11, w ∈ lw_tbl := j_memr [514, 515, 439, 516, 517, 518, 519, 521, 522, 523, 524, 525, 526, 527, 528, 529, 444, 530, 531, 532, 533, 430, 441, 443] (by decide +kernel)
set_option maxRecDepth 20000 in
theorem in_wsL_law0_r12 : ∀ w ∈ wsL_law0_r12, w ∈ lw_tbl := j_memr [535, 536, 537, 541, 542, 538, 539, 540, 543, 544, 545, 546, 547, 183, 548, 549, 550, 553, 554, 555, 556, 557, 558, 42] (by decide +kernel)
set_option maxRecDepth 20000 in
theorem in_wsL_law0_r13 : ∀ w ∈ wsL_law0_r13, w ∈ lw_tbl := j_memr [559, 560, 561, 562, 563, 564, 566, 596, 597, 598, 599, 602, 567, 600, 601, 603, 604, 605, 606, 611, 607, 609, 8, 610] (by decide +kernel)
set_option maxRecDepth 20000 in
theorem in_wsL_law0_r14 : ∀ w ∈ wsL_law0_r14, w ∈ lw_tbl := j_memr [613, 614, 615, 616, 617, 108, 618, 619, 620, 621, 189, 622, 623, 624, 625, 626, 627, 628, 629, 630, 631, 632, 633, 634] (by decide +kernel)
set_option maxRecDepth 20000 in
theorem in_wsL_law0_r15 : ∀ w ∈ wsL_law0_r15, w ∈ lw_tbl := j_memr [635, 636, 637, 638, 639, 640, 641, 643, 644, 645, 646, 453, 647, 648, 649, 650, 651, 652, 653, 655, 656, 657, 658, 659] (by decide +kernel)
set_option maxRecDepth 20000 in
theorem in_wsL_law0_r16 : ∀ w ∈ wsL_law0_r16, w ∈ lw_tbl := j_memr [660, 661, 191, 662, 663, 664, 665, 666, 667, 668, 669, 190, 192, 419, 557, 688, 670, 671, 672, 673, 674, 449, 456, 454] (by decide +kernel)
set_option maxRecDepth 20000 in
theorem in_wsL_law0_r17 : ∀ w ∈ wsL_law0_r17, w ∈ lw_tbl := j_memr [457, 675, 676, 677, 678, 679, 680, 681, 682, 368, 374, 369, 375, 683, 684, 685, 686, 687, 568, 574, 571, 575, 573, 576] (by decide +kernel)
set_option maxRecDepth 20000 in
theorem in_wsL_law0_r18 : ∀ w ∈ wsL_law0_r18, w ∈ lw_tbl := j_memr [689, 690, 691, 44, 692, 989, 992, 990, 993, 693, 694, 695, 696, 697, 698, 700, 9, 701, 702, 703, 704, 705, 985, 447] (by decide +kernel)
set_option maxRecDepth 20000 in
theorem in_wsL_law0_r19 : ∀ w ∈ wsL_law0_r19, w ∈ lw_tbl := j_memr [987, 988, 706, 707, 708, 709, 710, 711, 43, 712, 713, 714, 715, 438, 718, 446, 729, 724, 725, 431, 716, 717, 719, 720] (by decide +kernel)
set_option maxRecDepth 20000 in
theorem in_wsL_law0_r20 : ∀ w ∈ wsL_law0_r20, w ∈ lw_tbl := j_memr [721, 722, 440, 442, 723, 726, 727, 728, 730, 731, 732, 733, 734, 735, 445, 736, 737, 739, 10, 740, 741, 742, 743, 744] (by decide +kernel)
set_option maxRecDepth 20000 in
theorem in_wsL_law0_r21 : ∀ w ∈ wsL_law0_r21, w ∈ lw_tbl := j_memr [450, 745, 565, 569, 746, 747, 748, 749, 750, 751, 753, 11, 754, 755, 756, 757, 758, 759, 99, 110, 436, 452, 760, 761] (by decide +kernel)
set_option maxRecDepth 20000 in
theorem in_wsL_law0_r22 : ∀ w ∈ wsL_law0_r22, w ∈ lw_tbl := j_memr [763, 12, 764, 765, 766, 767, 768, 109, 769, 770, 771, 772, 773, 774, 775, 776, 777, 778, 779, 780, 106, 781, 782, 783] (by decide +kernel)
set_option maxRecDepth 20000 in
theorem in_wsL_law0_r23 : ∀ w ∈ wsL_law0_r23, w ∈ lw_tbl := j_memr [784, 785, 787, 13, 788, 789, 790, 791, 792, 793, 794, 795, 796, 797, 800, 448, 801, 798, 799, 802, 803, 804, 805, 806] (by decide +kernel)
set_option maxRecDepth 20000 in
theorem in_wsL_law0_r24 : ∀ w ∈ wsL_law0_r24, w ∈ lw_tbl := j_memr [808, 14, 809, 810, 811, 812, 813, 814, 815, 816, 817, 818, 819, 821, 15, 822, 823, 825, 16, 826, 827, 828, 829, 830] (by decide +kernel)
set_option maxRecDepth 20000 in
theorem in_wsL_law0_r25 : ∀ w ∈ wsL_law0_r25, w ∈ lw_tbl := j_memr [831, 832, 833, 834, 835, 836, 451, 837, 838, 839, 840, 841, 842, 843, 844, 845, 846, 847, 848, 849, 850, 851, 852, 853] (by decide +kernel)
set_option maxRecDepth 20000 in
theorem in_wsL_law0_r26 : ∀ w ∈ wsL_law0_r26, w ∈ lw_tbl := j_memr [854, 855, 856, 857, 858, 859, 860, 861, 862, 863, 864, 865, 866, 867, 868, 870, 871, 872, 873, 874, 875, 876, 877, 878] (by decide +kernel)
set_option maxRecDepth 20000 in
theorem in_wsL_law0_r27 : ∀ w ∈ wsL_law0_r27, w ∈ lw_tbl := j_memr [879, 880, 986, 881, 882, 883, 884, 885, 886, 887, 888, 889, 434, 402, 370, 404, 890, 891, 892, 893, 572, 894, 896, 17] (by decide +kernel)
set_option maxRecDepth 20000 in
theorem in_wsL_law0_r28 : ∀ w ∈ wsL_law0_r28, w ∈ lw_tbl := j_memr [897, 899, 900, 901, 902, 903, 570, 904, 905, 906, 907, 908, 909, 910, 111, 911, 912, 913, 914, 915, 916, 917, 918, 919] (by decide +kernel)
set_option maxRecDepth 20000 in
theorem in_wsL_law0_r29 : ∀ w ∈ wsL_law0_r29, w ∈ lw_tbl := j_memr [920, 921, 922, 924, 925, 926, 927, 928, 929, 930, 931, 932, 933, 934, 935, 936, 428, 937, 938, 939, 940, 941, 942, 943] (by decide +kernel)
set_option maxRecDepth 20000 in
theorem in_wsL_law0_r30 : ∀ w ∈ wsL_law0_r30, w ∈ lw_tbl := j_memr [944, 945, 946, 455, 947, 948, 949, 950, 400, 951, 952, 953, 954, 955, 956, 957, 958, 959, 960, 961, 962, 963, 964, 965] (by decide +kernel)
set_option maxRecDepth 20000 in
theorem in_wsL_law0_r31 : ∀ w ∈ wsL_law0_r31, w ∈ lw_tbl := j_memr [966, 967, 968, 969, 970, 971, 972, 973, 974, 975, 976, 977, 185, 979, 980, 981, 982, 983, 984, 1009, 1010, 1011, 1012, 1013] (by decide +kernel)
set_option maxRecDepth 20000 in
theorem in_wsL_law0_r32 : ∀ w ∈ wsL_law0_r32, w ∈ lw_tbl := j_memr [991, 1014, 1016, 18, 1017, 979, 1019, 1020, 1021, 1022] (by decide +kernel)
theorem in_wsX9 : ∀ w ∈ wsX90, w ∈ lw_tbl := by decide +kernel
theorem in_wsX3 : ∀ w ∈ wsX30, w ∈ lw_tbl := by decide +kernel
theorem in_wsJx4a65c : ∀ w ∈ wsJx4a65c0, w ∈ lw_tbl := by decide +kernel
theorem in_wsX2 : ∀ w ∈ wsX20, w ∈ lw_tbl := by decide +kernel
theorem in_wsX1 : ∀ w ∈ wsX10, w ∈ lw_tbl := by decide +kernel
theorem in_wsX6 : ∀ w ∈ wsX60, w ∈ lw_tbl := by decide +kernel
theorem in_wsX0 : ∀ w ∈ wsX00, w ∈ lw_tbl := by decide +kernel
theorem in_wsX7 : ∀ w ∈ wsX70, w ∈ lw_tbl := by decide +kernel
theorem in_wsX5 : ∀ w ∈ wsX50, w ∈ lw_tbl := by decide +kernel
theorem in_wsX4 : ∀ w ∈ wsX40, w ∈ lw_tbl := by decide +kernel
theorem j_memapp {a b big : List Cond} (ha : ∀ w ∈ a, w ∈ big) (hb : ∀ w ∈ b, w ∈ big) : ∀ w ∈ a ++ b, w ∈ big := fun w h => (List.mem_append.mp h).elim (ha w) (hb w)
theorem wsL_law_in0 : ∀ w ∈ wsL_law0, w ∈ lw_tbl := (j_memapp (j_memapp (j_memapp (j_memapp (j_memapp (j_memapp (j_memapp (j_memapp (j_memapp (j_memapp (j_memapp (fun w h0 => (List.mem_append.mp h0).elim (fun h => in_wsL_law0_r1 w h) (fun h1 => (List.mem_append.mp h1).elim (fun h => in_wsL_law0_r2 w h) (fun h2 => (List.mem_append.mp h2).elim (fun h => in_wsL_law0_r3 w h) (fun h3 => (List.mem_append.mp h3).elim (fun h => in_wsL_law0_r4 w h) (fun h4 => (List.mem_append.mp h4).elim (fun h => in_wsL_law0_r5 w h) (fun h5 => (List.mem_append.mp h5).elim (fun h => in_wsL_law0_r6 w h) (fun h6 => (List.mem_append.mp h6).elim (fun h => in_wsL_law0_r7 w h) (fun h7 => (List.mem_append.mp h7).elim (fun h => in_wsL_law0_r8 w h) (fun h8 => (List.mem_append.mp h8).elim (fun h => in_wsL_law0_r9 w h) (fun h9 => (List.mem_append.mp h9).elim (fun h => in_wsL_law0_r10 w h) (fun h10 => (List.mem_append.mp h10).elim (fun h => in_wsL_law0_r11 w h) (fun h11 => (List.mem_append.mp h11).elim (fun h => in_wsL_law0_r12 w h) (fun h12 => (List.mem_append.mp h12).elim (fun h => in_wsL_law0_r13 w h) (fun h13 => (List.mem_append.mp h13).elim (fun h => in_wsL_law0_r14 w h) (fun h14 => (List.mem_append.mp h14).elim (fun h => in_wsL_law0_r15 w h) (fun h15 => (List.mem_append.mp h15).elim (fun h => in_wsL_law0_r16 w h) (fun h16 => (List.mem_append.mp h16).elim (fun h => in_wsL_law0_r17 w h) (fun h17 => (List.mem_append.mp h17).elim (fun h => in_wsL_law0_r18 w h) (fun h18 => (List.mem_append.mp h18).elim (fun h => in_wsL_law0_r19 w h) (fun h19 => (List.mem_append.mp h19).elim (fun h => in_wsL_law0_r20 w h) (fun h20 => (List.mem_append.mp h20).elim (fun h => in_wsL_law0_r21 w h) (fun h21 => (List.mem_append.mp h21).elim (fun h => in_wsL_law0_r22 w h) (fun h22 => (List.mem_append.mp h22).elim (fun h => in_wsL_law0_r23 w h) (fun h23 => (List.mem_append.mp h23).elim (fun h => in_wsL_law0_r24 w h) (fun h24 => (List.mem_append.mp h24).elim (fun h => in_wsL_law0_r25 w h) (fun h25 => (List.mem_append.mp h25).elim (fun h => in_wsL_law0_r26 w h) (fun h26 => (List.mem_append.mp h26).elim (fun h => in_wsL_law0_r27 w h) (fun h27 => (List.mem_append.mp h27).elim (fun h => in_wsL_law0_r28 w h) (fun h28 => (List.mem_append.mp h28).elim (fun h => in_wsL_law0_r29 w h) (fun h29 => (List.mem_append.mp h29).elim (fun h => in_wsL_law0_r30 w h) (fun h30 => (List.mem_append.mp h30).elim (fun h => in_wsL_law0_r31 w h) (fun h31 => in_wsL_law0_r32 w h31)))))))))))))))))))))))))))))))) in_wsX9) in_wsX3) in_wsJx4a65c) in_wsX2) in_wsX1) in_wsX6) in_wsX0) in_wsX7) in_wsX5) in_wsX4) (fun _ h => absurd h List.not_mem_nil))
