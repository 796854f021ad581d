set_option maxRecDepth 20000 in
theorem wsL_law0_r1_in : ∀ w ∈ wsL_law0_r1, w ∈ lw_tbl := fun w h => (goodIn_r wsL_law0_r1 [50, 51, 30, 760, 761, 40, 1012, 1013, 1011, 52, 53, 54, 55, 56, 57, 58, 59, 31, 259, 80, 81, 32, 260, 105] (by decide +kernel) (by decide +kernel) w h).1
set_option maxRecDepth 20000 in
theorem wsL_law0_r2_in : ∀ w ∈ wsL_law0_r2, w ∈ lw_tbl := fun w h => (goodIn_r wsL_law0_r2 [106, 33, 261, 126, 127, 34, 262, 142, 143, 35, 263, 195, 196, 37, 264, 209, 210, 38, 265, 266, 244, 245, 39, 267] (by decide +kernel) (by decide +kernel) w h).1
set_option maxRecDepth 20000 in
theorem wsL_law0_r3_in : ∀ w ∈ wsL_law0_r3, w ∈ lw_tbl := fun w h => (goodIn_r wsL_law0_r3 [79, 268, 269, 61, 62, 63, 64, 68, 83, 84, 85, 86, 89, 91, 93, 108, 109, 110, 111, 113, 115, 129, 130, 131] (by decide +kernel) (by decide +kernel) w h).1
set_option maxRecDepth 20000 in
theorem wsL_law0_r4_in : ∀ w ∈ wsL_law0_r4, w ∈ lw_tbl := fun w h => (goodIn_r wsL_law0_r4 [132, 133, 134, 145, 146, 147, 148, 149, 36, 180, 181, 183, 184, 151, 152, 153, 154, 158, 156, 159, 160, 161, 162, 163] (by decide +kernel) (by decide +kernel) w h).1
set_option maxRecDepth 20000 in
theorem wsL_law0_r5_in : ∀ w ∈ wsL_law0_r5, w ∈ lw_tbl := fun w h => (goodIn_r wsL_law0_r5 [164, 198, 199, 200, 201, 203, 212, 213, 214, 215, 217, 219, 221, 223, 225, 227, 247, 248, 249, 250, 252, 762, 763, 764] (by decide +kernel) (by decide +kernel) w h).1
set_option maxRecDepth 20000 in
theorem wsL_law0_r6_in : ∀ w ∈ wsL_law0_r6, w ∈ lw_tbl := fun w h => (goodIn_r wsL_law0_r6 [765, 768, 769, 770, 771, 772, 776, 777, 778, 780, 782, 783, 784, 785, 786, 787, 788, 425, 426, 29, 427, 428, 429, 430] (by decide +kernel) (by decide +kernel) w h).1
set_option maxRecDepth 20000 in
theorem wsL_law0_r7_in : ∀ w ∈ wsL_law0_r7, w ∈ lw_tbl := fun w h => (goodIn_r wsL_law0_r7 [431, 432, 433, 435, 44, 71, 434, 332, 333, 504, 506, 9, 507, 508, 45, 524, 525, 526, 527, 528, 530, 10, 531, 253] (by decide +kernel) (by decide +kernel) w h).1
set_option maxRecDepth 20000 in
theorem wsL_law0_r8_in : ∀ w ∈ wsL_law0_r8, w ∈ lw_tbl := fun w h => (goodIn_r wsL_law0_r8 [840, 841, 842, 843, 766, 767, 844, 845, 846, 847, 849, 17, 850, 851, 853, 18, 854, 773, 779, 836, 837, 838, 839, 532] (by decide +kernel) (by decide +kernel) w h).1
set_option maxRecDepth 20000 in
theorem wsL_law0_r9_in : ∀ w ∈ wsL_law0_r9, w ∈ lw_tbl := fun w h => (goodIn_r wsL_law0_r9 [533, 534, 535, 536, 537, 538, 855, 856, 857, 858, 859, 540, 541, 542, 543, 544, 545, 546, 547, 548, 46, 67, 860, 861] (by decide +kernel) (by decide +kernel) w h).1
set_option maxRecDepth 20000 in
theorem wsL_law0_r10_in : ∀ w ∈ wsL_law0_r10, w ∈ lw_tbl := fun w h => (goodIn_r wsL_law0_r10 [862, 863, 565, 566, 567, 568, 569, 570, 571, 864, 865, 866, 867, 293, 294, 295, 296, 868, 869, 870, 871, 573, 574, 575] (by decide +kernel) (by decide +kernel) w h).1
set_option maxRecDepth 20000 in
theorem wsL_law0_r11_in : ∀ w ∈ wsL_law0_r11, w ∈ lw_tbl := fun w h => (goodIn_r wsL_law0_r11 [576, 577, 578, 579, 872, 873, 874, 875, 581, 582, 583, 584, 585, 586, 587, 88, 876, 877, 878, 879, 589, 590, 591, 592] (by decide +kernel) (by decide +kernel) w h).1
set_option maxRecDepth 20000 in
theorem wsL_law0_r12_in : ∀ w ∈ wsL_law0_r12, w ∈ lw_tbl := fun w h => (goodIn_r wsL_law0_r12 [593, 594, 595, 90, 92, 880, 881, 882, 883, 597, 598, 599, 600, 601, 602, 603, 95, 884, 885, 886, 887, 605, 606, 607] (by decide +kernel) (by decide +kernel) w h).1
set_option maxRecDepth 20000 in
theorem wsL_law0_r13_in : ∀ w ∈ wsL_law0_r13, w ∈ lw_tbl := fun w h => (goodIn_r wsL_law0_r13 [608, 609, 610, 611, 613, 615, 11, 616, 118, 363, 364, 365, 366, 368, 369, 48, 370, 72, 66, 367, 321, 322, 323, 324] (by decide +kernel) (by decide +kernel) w h).1
set_option maxRecDepth 20000 in
theorem wsL_law0_r14_in : ∀ w ∈ wsL_law0_r14, w ∈ lw_tbl := fun w h => (goodIn_r wsL_law0_r14 [325, 47, 326, 371, 328, 329, 330, 617, 338, 339, 340, 116, 114, 341, 343, 2, 344, 618, 356, 357, 358, 888, 889, 890] (by decide +kernel) (by decide +kernel) w h).1
set_option maxRecDepth 20000 in
theorem wsL_law0_r15_in : ∀ w ∈ wsL_law0_r15, w ∈ lw_tbl := fun w h => (goodIn_r wsL_law0_r15 [891, 908, 892, 894, 19, 895, 896, 898, 20, 899, 900, 902, 21, 903, 909, 314, 315, 904, 906, 22, 907, 297, 298, 299] (by decide +kernel) (by decide +kernel) w h).1
set_option maxRecDepth 20000 in
theorem wsL_law0_r16_in : ∀ w ∈ wsL_law0_r16, w ∈ lw_tbl := fun w h => (goodIn_r wsL_law0_r16 [300, 226, 216, 218, 202, 301, 302, 303, 304, 87, 69, 94, 345, 305, 306, 307, 308, 70, 65, 309, 311, 0, 312, 313] (by decide +kernel) (by decide +kernel) w h).1
set_option maxRecDepth 20000 in
theorem wsL_law0_r17_in : ∀ w ∈ wsL_law0_r17, w ∈ lw_tbl := fun w h => (goodIn_r wsL_law0_r17 [316, 318, 1, 319, 117, 320, 327, 334, 335, 336, 337, 346, 348, 3, 349, 350, 351, 352, 353, 354, 355, 359, 360, 361] (by decide +kernel) (by decide +kernel) w h).1
set_option maxRecDepth 20000 in
theorem wsL_law0_r18_in : ∀ w ∈ wsL_law0_r18, w ∈ lw_tbl := fun w h => (goodIn_r wsL_law0_r18 [362, 182, 73, 185, 372, 373, 374, 375, 112, 376, 378, 4, 379, 380, 385, 381, 383, 5, 384, 386, 388, 6, 389, 390] (by decide +kernel) (by decide +kernel) w h).1
set_option maxRecDepth 20000 in
theorem wsL_law0_r19_in : ∀ w ∈ wsL_law0_r19, w ∈ lw_tbl := fun w h => (goodIn_r wsL_law0_r19 [392, 7, 393, 394, 395, 396, 397, 398, 399, 400, 910, 911, 912, 913, 775, 914, 916, 23, 917, 774, 918, 920, 24, 921] (by decide +kernel) (by decide +kernel) w h).1
set_option maxRecDepth 20000 in
theorem wsL_law0_r20_in : ∀ w ∈ wsL_law0_r20, w ∈ lw_tbl := fun w h => (goodIn_r wsL_law0_r20 [922, 924, 25, 925, 926, 928, 26, 929, 402, 403, 404, 405, 930, 931, 932, 933, 619, 620, 621, 622, 623, 624, 625, 228] (by decide +kernel) (by decide +kernel) w h).1
set_option maxRecDepth 20000 in
theorem wsL_law0_r21_in : ∀ w ∈ wsL_law0_r21, w ∈ lw_tbl := fun w h => (goodIn_r wsL_law0_r21 [626, 628, 12, 629, 934, 935, 936, 937, 631, 632, 633, 634, 635, 636, 637, 638, 640, 13, 641, 938, 939, 940, 941, 942] (by decide +kernel) (by decide +kernel) w h).1
set_option maxRecDepth 20000 in
theorem wsL_law0_r22_in : ∀ w ∈ wsL_law0_r22, w ∈ lw_tbl := fun w h => (goodIn_r wsL_law0_r22 [944, 27, 945, 642, 643, 644, 645, 646, 647, 648, 222, 649, 651, 14, 652, 653, 946, 947, 948, 949, 654, 655, 656, 657] (by decide +kernel) (by decide +kernel) w h).1
set_option maxRecDepth 20000 in
theorem wsL_law0_r23_in : ∀ w ∈ wsL_law0_r23, w ∈ lw_tbl := fun w h => (goodIn_r wsL_law0_r23 [658, 659, 660, 224, 950, 951, 952, 953, 661, 662, 663, 664, 665, 666, 667, 954, 955, 956, 957, 668, 669, 670, 671, 672] (by decide +kernel) (by decide +kernel) w h).1
set_option maxRecDepth 20000 in
theorem wsL_law0_r24_in : ∀ w ∈ wsL_law0_r24, w ∈ lw_tbl := fun w h => (goodIn_r wsL_law0_r24 [673, 674, 676, 677, 678, 679, 958, 959, 960, 961, 962, 964, 28, 965, 680, 681, 682, 683, 684, 685, 686, 687, 688, 49] (by decide +kernel) (by decide +kernel) w h).1
set_option maxRecDepth 20000 in
theorem wsL_law0_r25_in : ∀ w ∈ wsL_law0_r25, w ∈ lw_tbl := fun w h => (goodIn_r wsL_law0_r25 [966, 967, 968, 969, 704, 705, 706, 707, 708, 709, 710, 220, 711, 712, 713, 714, 970, 971, 972, 973, 406, 407, 408, 409] (by decide +kernel) (by decide +kernel) w h).1
set_option maxRecDepth 20000 in
theorem wsL_law0_r26_in : ∀ w ∈ wsL_law0_r26, w ∈ lw_tbl := fun w h => (goodIn_r wsL_law0_r26 [974, 975, 976, 977, 715, 716, 717, 718, 719, 720, 721, 251, 722, 724, 15, 725, 978, 979, 980, 981, 727, 728, 729, 730] (by decide +kernel) (by decide +kernel) w h).1
set_option maxRecDepth 20000 in
theorem wsL_law0_r27_in : ∀ w ∈ wsL_law0_r27, w ∈ lw_tbl := fun w h => (goodIn_r wsL_law0_r27 [731, 732, 733, 982, 983, 984, 985, 734, 735, 736, 737, 738, 739, 740, 741, 743, 16, 744, 986, 987, 988, 989, 781, 745] (by decide +kernel) (by decide +kernel) w h).1
set_option maxRecDepth 20000 in
theorem wsL_law0_r28_in : ∀ w ∈ wsL_law0_r28, w ∈ lw_tbl := fun w h => (goodIn_r wsL_law0_r28 [746, 747, 748, 749, 750, 751, 990, 991, 992, 993, 410, 411, 412, 413, 414, 415, 994, 995, 996, 997, 998, 999, 1000, 753] (by decide +kernel) (by decide +kernel) w h).1
set_option maxRecDepth 20000 in
theorem wsL_law0_r29_in : ∀ w ∈ wsL_law0_r29, w ∈ lw_tbl := fun w h => (goodIn_r wsL_law0_r29 [754, 755, 756, 757, 758, 759, 1001, 1002, 1003, 1004, 416, 417, 418, 419, 420, 421, 422, 423, 424, 1005, 1006, 1007, 1008, 1009] (by decide +kernel) (by decide +kernel) w h).1
set_option maxRecDepth 20000 in
theorem wsL_law0_r30_in : ∀ w ∈ wsL_law0_r30, w ∈ lw_tbl := fun w h => (goodIn_r wsL_law0_r30 [1010] (by decide +kernel) (by decide +kernel) w h).1
set_option maxRecDepth 20000 in
theorem inX9 : ∀ w ∈ wsX90, w ∈ lw_tbl := fun w h => (goodIn_r wsX90 [270, 272, 274, 276, 278, 280, 282, 284, 286, 288, 290] (by decide +kernel) (by decide +kernel) w h).1
set_option maxRecDepth 20000 in
theorem inX10 : ∀ w ∈ wsX100, w ∈ lw_tbl := fun w h => (goodIn_r wsX100 [789, 791, 793, 795, 797, 799, 801, 803, 805, 807, 809, 811, 813, 815, 817, 819, 821, 823, 825, 827, 829, 831, 833] (by decide +kernel) (by decide +kernel) w h).1
set_option maxRecDepth 20000 in
theorem inX8 : ∀ w ∈ wsX80, w ∈ lw_tbl := fun w h => (goodIn_r wsX80 [74, 76] (by decide +kernel) (by decide +kernel) w h).1
set_option maxRecDepth 20000 in
theorem inX5 : ∀ w ∈ wsX50, w ∈ lw_tbl := fun w h => (goodIn_r wsX50 [96, 98, 100, 102] (by decide +kernel) (by decide +kernel) w h).1
set_option maxRecDepth 20000 in
theorem inX7 : ∀ w ∈ wsX70, w ∈ lw_tbl := fun w h => (goodIn_r wsX70 [119, 121, 123] (by decide +kernel) (by decide +kernel) w h).1
set_option maxRecDepth 20000 in
theorem inX3 : ∀ w ∈ wsX30, w ∈ lw_tbl := fun w h => (goodIn_r wsX30 [135, 137, 139] (by decide +kernel) (by decide +kernel) w h).1
set_option maxRecDepth 20000 in
theorem inX6 : ∀ w ∈ wsX60, w ∈ lw_tbl := fun w h => (goodIn_r wsX60 [186, 188, 190, 192] (by decide +kernel) (by decide +kernel) w h).1
set_option maxRecDepth 20000 in
theorem inX2 : ∀ w ∈ wsX20, w ∈ lw_tbl := fun w h => (goodIn_r wsX20 [204, 206] (by decide +kernel) (by decide +kernel) w h).1
set_option maxRecDepth 20000 in
theorem inX4 : ∀ w ∈ wsX40, w ∈ lw_tbl := fun w h => (goodIn_r wsX40 [229, 231, 233, 235, 237, 239, 241] (by decide +kernel) (by decide +kernel) w h).1
set_option maxRecDepth 20000 in
theorem inX0 : ∀ w ∈ wsX00, w ∈ lw_tbl := fun w h => (goodIn_r wsX00 [254, 256] (by decide +kernel) (by decide +kernel) w h).1
set_option maxRecDepth 20000 in
theorem inX1 : ∀ w ∈ wsX10, w ∈ lw_tbl := fun w h => (goodIn_r wsX10 [165, 167, 169, 171, 173, 175, 177] (by decide +kernel) (by decide +kernel) w h).1
theorem wsL_law_in0 : ∀ w ∈ wsL_law0, w ∈ lw_tbl := fun w h => (List.mem_append.mp h).elim (fun h => (List.mem_append.mp h).elim (fun h => (List.mem_append.mp h).elim (fun h => (List.mem_append.mp h).elim (fun h => (List.mem_append.mp h).elim (fun h => (List.mem_append.mp h).elim (fun h => (List.mem_append.mp h).elim (fun h => (List.mem_append.mp h).elim (fun h => (List.mem_append.mp h).elim (fun h => (List.mem_append.mp h).elim (fun h => (List.mem_append.mp h).elim (fun h => (List.mem_append.mp h).elim (fun h => (List.mem_append.mp h).elim (fun h => wsL_law0_r1_in w h) (fun h => (List.mem_append.mp h).elim (fun h => wsL_law0_r2_in w h) (fun h => (List.mem_append.mp h).elim (fun h => wsL_law0_r3_in w h) (fun h => (List.mem_append.mp h).elim (fun h => wsL_law0_r4_in w h) (fun h => (List.mem_append.mp h).elim (fun h => wsL_law0_r5_in w h) (fun h => (List.mem_append.mp h).elim (fun h => wsL_law0_r6_in w h) (fun h => (List.mem_append.mp h).elim (fun h => wsL_law0_r7_in w h) (fun h => (List.mem_append.mp h).elim (fun h => wsL_law0_r8_in w h) (fun h => (List.mem_append.mp h).elim (fun h => wsL_law0_r9_in w h) (fun h => (List.mem_append.mp h).elim (fun h => wsL_law0_r10_in w h) (fun h => (List.mem_append.mp h).elim (fun h => wsL_law0_r11_in w h) (fun h => (List.mem_append.mp h).elim (fun h => wsL_law0_r12_in w h) (fun h => (List.mem_append.mp h).elim (fun h => wsL_law0_r13_in w h) (fun h => (List.mem_append.mp h).elim (fun h => wsL_law0_r14_in w h) (fun h => (List.mem_append.mp h).elim (fun h => wsL_law0_r15_in w h) (fun h => (List.mem_append.mp h).elim (fun h => wsL_law0_r16_in w h) (fun h => (List.mem_append.mp h).elim (fun h => wsL_law0_r17_in w h) (fun h => (List.mem_append.mp h).elim (fun h => wsL_law0_r18_in w h) (fun h => (List.mem_append.mp h).elim (fun h => wsL_law0_r19_in w h) (fun h => (List.mem_append.mp h).elim (fun h => wsL_law0_r20_in w h) (fun h => (List.mem_append.mp h).elim (fun h => wsL_law0_r21_in w h) (fun h => (List.mem_append.mp h).elim (fun h => wsL_law0_r22_in w h) (fun h => (List.mem_append.mp h).elim (fun h => wsL_law0_r23_in w h) (fun h => (List.mem_append.mp h).elim (fun h => wsL_law0_r24_in w h) (fun h => (List.mem_append.mp h).elim (fun h => wsL_law0_r25_in w h) (fun h => (List.mem_append.mp h).elim (fun h => wsL_law0_r26_in w h) (fun h => (List.mem_append.mp h).elim (fun h => wsL_law0_r27_in w h) (fun h => (List.mem_append.mp h).elim (fun h => wsL_law0_r28_in w h) (fun h => (List.mem_append.mp h).elim (fun h => wsL_law0_r29_in w h) (fun h => wsL_law0_r30_in w h)))))))))))))))))))))))))))))) (fun h => inX9 w h)) (fun h => inX10 w h)) (fun h => inX8 w h)) (fun h => inX5 w h)) (fun h => inX7 w h)) (fun h => inX3 w h)) (fun h => inX6 w h)) (fun h => inX2 w h)) (fun h => inX4 w h)) (fun h => inX0 w h)) (fun h => inX1 w h)) (fun h => absurd h List.not_mem_nil)
theorem wsL_law_x0 : ∀ w ∈ (vx_atS RX9 85 "java/lang/IllegalArgumentException" ["java/lang/RuntimeException", "java/lang/Exception"]).filter goodWord, w ∈ lw_tbl := by decide +kernel
theorem wsL_law_x1 : ∀ w ∈ (vx_atS RX9 243 "java/lang/IllegalStateException" ["java/lang/RuntimeException", "java/lang/Exception"]).filter goodWord, w ∈ lw_tbl := by decide +kernel
theorem wsL_law_x2 : ∀ w ∈ (vx_atS RX9 107 "java/lang/IndexOutOfBoundsException" ["java/lang/RuntimeException", "java/lang/Exception"]).filter goodWord, w ∈ lw_tbl := by decide +kernel
theorem wsL_law_x3 : ∀ w ∈ (vn_atS RX9 202 "java/util/NoSuchElementException" ["java/lang/RuntimeException", "java/lang/Exception"]).filter goodWord, w ∈ lw_tbl := by decide +kernel
theorem wsL_law_in : ∀ w ∈ wsL_law, w ∈ lw_tbl := fun w h => (List.mem_append.mp h).elim (fun h => (List.mem_append.mp h).elim (fun h => (List.mem_append.mp h).elim (fun h => (List.mem_append.mp h).elim (fun h => wsL_law_in0 w h) (fun h => wsL_law_x0 w h)) (fun h => wsL_law_x1 w h)) (fun h => wsL_law_x2 w h)) (fun h => wsL_law_x3 w h)
theorem inlX0 : ∀ w ∈ wsX00, w ∈ wsL_law := fun _ h => List.mem_append_left _ (List.mem_append_left _ (List.mem_append_left _ (List.mem_append_left _ (List.mem_append_left _ (List.mem_append_left _ (List.mem_append_right _ h))))))
theorem inlX1 : ∀ w ∈ wsX10, w ∈ wsL_law := fun _ h => List.mem_append_left _ (List.mem_append_left _ (List.mem_append_left _ (List.mem_append_left _ (List.mem_append_left _ (List.mem_append_right _ h)))))
theorem inlX2 : ∀ w ∈ wsX20, w ∈ wsL_law := fun _ h => List.mem_append_left _ (List.mem_append_left _ (List.mem_append_left _ (List.mem_append_left _ (List.mem_append_left _ (List.mem_append_left _ (List.mem_append_left _ (List.mem_append_left _ (List.mem_append_right _ h))))))))
theorem inlX3 : ∀ w ∈ wsX30, w ∈ wsL_law := fun _ h => List.mem_append_left _ (List.mem_append_left _ (List.mem_append_left _ (List.mem_append_left _ (List.mem_append_left _ (List.mem_append_left _ (List.mem_append_left _ (List.mem_append_left _ (List.mem_append_left _ (List.mem_append_left _ (List.mem_append_right _ h))))))))))
theorem inlX4 : ∀ w ∈ wsX40, w ∈ wsL_law := fun _ h => List.mem_append_left _ (List.mem_append_left _ (List.mem_append_left _ (List.mem_append_left _ (List.mem_append_left _ (List.mem_append_left _ (List.mem_append_left _ (List.mem_append_right _ h)))))))
theorem inlX5 : ∀ w ∈ wsX50, w ∈ wsL_law := fun _ h => List.mem_append_left _ (List.mem_append_left _ (List.mem_append_left _ (List.mem_append_left _ (List.mem_append_left _ (List.mem_append_left _ (List.mem_append_left _ (List.mem_append_left _ (List.mem_append_left _ (List.mem_append_left _ (List.mem_append_left _ (List.mem_append_left _ (List.mem_append_right _ h))))))))))))
theorem inlX6 : ∀ w ∈ wsX60, w ∈ wsL_law := fun _ h => List.mem_append_left _ (List.mem_append_left _ (List.mem_append_left _ (List.mem_append_left _ (List.mem_append_left _ (List.mem_append_left _ (List.mem_append_left _ (List.mem_append_left _ (List.mem_append_left _ (List.mem_append_right _ h)))))))))
theorem inlX7 : ∀ w ∈ wsX70, w ∈ wsL_law := fun _ h => List.mem_append_left _ (List.mem_append_left _ (List.mem_append_left _ (List.mem_append_left _ (List.mem_append_left _ (List.mem_append_left _ (List.mem_append_left _ (List.mem_append_left _ (List.mem_append_left _ (List.mem_append_left _ (List.mem_append_left _ (List.mem_append_right _ h)))))))))))
theorem inlX8 : ∀ w ∈ wsX80, w ∈ wsL_law := fun _ h => List.mem_append_left _ (List.mem_append_left _ (List.mem_append_left _ (List.mem_append_left _ (List.mem_append_left _ (List.mem_append_left _ (List.mem_append_left _ (List.mem_append_left _ (List.mem_append_left _ (List.mem_append_left _ (List.mem_append_left _ (List.mem_append_left _ (List.mem_append_left _ (List.mem_append_right _ h)))))))))))))
theorem inlX9 : ∀ w ∈ wsX90, w ∈ wsL_law := fun _ h => List.mem_append_left _ (List.mem_append_left _ (List.mem_append_left _ (List.mem_append_left _ (List.mem_append_left _ (List.mem_append_left _ (List.mem_append_left _ (List.mem_append_left _ (List.mem_append_left _ (List.mem_append_left _ (List.mem_append_left _ (List.mem_append_left _ (List.mem_append_left _ (List.mem_append_left _ (List.mem_append_left _ (List.mem_append_right _ h)))))))))))))))
theorem inlX10 : ∀ w ∈ wsX100, w ∈ wsL_law := fun _ h => List.mem_append_left _ (List.mem_append_left _ (List.mem_append_left _ (List.mem_append_left _ (List.mem_append_left _ (List.mem_append_left _ (List.mem_append_left _ (List.mem_append_left _ (List.mem_append_left _ (List.mem_append_left _ (List.mem_append_left _ (List.mem_append_left _ (List.mem_append_left _ (List.mem_append_left _ (List.mem_append_right _ h))))))))))))))
theorem inJx145de : ∀ w ∈ wsJx145de0, w ∈ lw_tbl := by decide +kernel
theorem inJ9 : ∀ w ∈ wsJ90, w ∈ lw_tbl := by decide +kernel
theorem inJ0 : ∀ w ∈ wsJ00, w ∈ lw_tbl := by decide +kernel
theorem inJ7 : ∀ w ∈ wsJ70, w ∈ lw_tbl := by decide +kernel
