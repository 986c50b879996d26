/-! the law's words are among the tables' -/
theorem zz_inp {big ws : List Cond} (ps : List Nat) (hp : ws = ps.filterMap (fun i => big[i]?)) : ∀ w ∈ ws, w ∈ big := by
  intro w hw
  rw [hp] at hw
  obtain ⟨i, -, hi⟩ := List.mem_filterMap.mp hw
  exact List.mem_of_getElem? hi
set_option maxRecDepth 20000 in
theorem in_wsL_law_r1 : ∀ w ∈ wsL_law_r1, w ∈ lw_tbl := zz_inp [69, 70, 55, 668, 669, 64, 71, 72, 73, 74, 75, 76, 77, 78, 56, 218, 91, 92, 57, 219, 104, 105, 58, 220] (by decide +kernel)
set_option maxRecDepth 20000 in
theorem in_wsL_law_r2 : ∀ w ∈ wsL_law_r2, w ∈ lw_tbl := zz_inp [130, 131, 59, 221, 149, 150, 61, 222, 178, 179, 62, 223, 193, 194, 63, 224, 80, 81, 82, 90, 83, 94, 95, 96] (by decide +kernel)
set_option maxRecDepth 20000 in
theorem in_wsL_law_r3 : ∀ w ∈ wsL_law_r3, w ∈ lw_tbl := zz_inp [98, 107, 108, 109, 129, 110, 111, 112, 132, 133, 134, 135, 138, 139, 136, 137, 151, 152, 153, 154, 155, 60, 156, 157] (by decide +kernel)
set_option maxRecDepth 20000 in
theorem in_wsL_law_r4 : ∀ w ∈ wsL_law_r4, w ∈ lw_tbl := zz_inp [164, 165, 166, 158, 161, 180, 181, 182, 184, 183, 195, 196, 197, 198, 199, 200, 670, 671, 672, 673, 675, 677, 678, 679] (by decide +kernel)
set_option maxRecDepth 20000 in
theorem in_wsL_law_r5 : ∀ w ∈ wsL_law_r5, w ∈ lw_tbl := zz_inp [681, 686, 687, 688, 690, 691, 246, 247, 248, 249, 250, 251, 252, 253, 84, 254, 255, 256, 257, 258, 259, 260, 261, 262] (by decide +kernel)
set_option maxRecDepth 20000 in
theorem in_wsL_law_r6 : ∀ w ∈ wsL_law_r6, w ∈ lw_tbl := zz_inp [744, 745, 746, 747, 674, 748, 749, 750, 263, 264, 265, 266, 267, 268, 269, 270, 751, 752, 753, 754, 271, 272, 273, 274] (by decide +kernel)
set_option maxRecDepth 20000 in
theorem in_wsL_law_r7 : ∀ w ∈ wsL_law_r7, w ∈ lw_tbl := zz_inp [275, 276, 277, 278, 755, 756, 757, 758, 759, 761, 22, 762, 684, 685, 763, 765, 23, 766, 279, 280, 281, 282, 283, 284] (by decide +kernel)
set_option maxRecDepth 20000 in
theorem in_wsL_law_r8 : ∀ w ∈ wsL_law_r8, w ∈ lw_tbl := zz_inp [285, 286, 113, 115, 287, 288, 289, 290, 291, 292, 294, 0, 295, 114, 296, 297, 298, 299, 300, 301, 303, 1, 304, 225] (by decide +kernel)
set_option maxRecDepth 20000 in
theorem in_wsL_law_r9 : ∀ w ∈ wsL_law_r9, w ∈ lw_tbl := zz_inp [226, 305, 306, 307, 308, 767, 768, 769, 770, 676, 682, 689, 683, 309, 310, 311, 312, 313, 314, 315, 316, 317, 318, 319] (by decide +kernel)
set_option maxRecDepth 20000 in
theorem in_wsL_law_r10 : ∀ w ∈ wsL_law_r10, w ∈ lw_tbl := zz_inp [97, 320, 321, 322, 323, 324, 325, 326, 328, 329, 771, 772, 773, 774, 680, 775, 776, 777, 330, 331, 332, 333, 334, 335] (by decide +kernel)
set_option maxRecDepth 20000 in
theorem in_wsL_law_r11 : ∀ w ∈ wsL_law_r11, w ∈ lw_tbl := zz_inp [336, 337, 338, 339, 340, 341, 778, 779, 780, 781, 342, 343, 344, 345, 346, 347, 348, 349, 350, 351, 352, 353, 354, 355] (by decide +kernel)
set_option maxRecDepth 20000 in
theorem in_wsL_law_r12 : ∀ w ∈ wsL_law_r12, w ∈ lw_tbl := zz_inp [356, 357, 782, 783, 784, 785, 786, 788, 24, 789, 359, 360, 361, 362, 363, 365, 2, 366, 367, 368, 369, 370, 371, 372] (by decide +kernel)
set_option maxRecDepth 20000 in
theorem in_wsL_law_r13 : ∀ w ∈ wsL_law_r13, w ∈ lw_tbl := zz_inp [373, 374, 375, 376, 377, 378, 790, 791, 792, 793, 794, 796, 25, 797, 379, 380, 381, 382, 798, 799, 800, 801, 802, 803] (by decide +kernel)
set_option maxRecDepth 20000 in
theorem in_wsL_law_r14 : ∀ w ∈ wsL_law_r14, w ∈ lw_tbl := zz_inp [804, 383, 384, 385, 386, 387, 388, 389, 390, 391, 392, 393, 394, 805, 806, 807, 808, 809, 811, 26, 812, 813, 815, 27] (by decide +kernel)
set_option maxRecDepth 20000 in
theorem in_wsL_law_r15 : ∀ w ∈ wsL_law_r15, w ∈ lw_tbl := zz_inp [816, 395, 396, 397, 398, 399, 400, 401, 402, 404, 817, 818, 819, 820, 821, 823, 28, 824, 405, 406, 407, 408, 409, 411] (by decide +kernel)
set_option maxRecDepth 20000 in
theorem in_wsL_law_r16 : ∀ w ∈ wsL_law_r16, w ∈ lw_tbl := zz_inp [3, 412, 413, 415, 4, 416, 417, 418, 419, 420, 421, 422, 423, 424, 425, 426, 65, 427, 428, 429, 430, 431, 433, 5] (by decide +kernel)
set_option maxRecDepth 20000 in
theorem in_wsL_law_r17 : ∀ w ∈ wsL_law_r17, w ∈ lw_tbl := zz_inp [434, 435, 437, 438, 436, 440, 441, 442, 443, 445, 446, 447, 448, 449, 450, 451, 452, 453, 454, 455, 456, 457, 458, 459] (by decide +kernel)
set_option maxRecDepth 20000 in
theorem in_wsL_law_r18 : ∀ w ∈ wsL_law_r18, w ∈ lw_tbl := zz_inp [460, 461, 462, 463, 464, 465, 162, 163, 159, 160, 466, 467, 468, 470, 6, 471, 473, 475, 7, 476, 477, 478, 479, 439] (by decide +kernel)
set_option maxRecDepth 20000 in
theorem in_wsL_law_r19 : ∀ w ∈ wsL_law_r19, w ∈ lw_tbl := zz_inp [480, 481, 482, 483, 484, 486, 8, 487, 488, 489, 490, 491, 493, 9, 494, 495, 496, 498, 10, 499, 500, 501, 503, 11] (by decide +kernel)
set_option maxRecDepth 20000 in
theorem in_wsL_law_r20 : ∀ w ∈ wsL_law_r20, w ∈ lw_tbl := zz_inp [504, 506, 507, 66, 508, 509, 511, 12, 512, 513, 515, 516, 514, 518, 517, 519, 521, 522, 520, 524, 523, 525, 527, 528] (by decide +kernel)
set_option maxRecDepth 20000 in
theorem in_wsL_law_r21 : ∀ w ∈ wsL_law_r21, w ∈ lw_tbl := zz_inp [526, 530, 529, 531, 825, 826, 827, 828, 829, 831, 29, 832, 833, 835, 30, 836, 837, 839, 31, 840, 841, 842, 843, 844] (by decide +kernel)
set_option maxRecDepth 20000 in
theorem in_wsL_law_r22 : ∀ w ∈ wsL_law_r22, w ∈ lw_tbl := zz_inp [846, 32, 847, 848, 850, 33, 851, 692, 852, 854, 34, 855, 856, 858, 35, 859, 860, 862, 36, 863, 864, 866, 37, 867] (by decide +kernel)
set_option maxRecDepth 20000 in
theorem in_wsL_law_r23 : ∀ w ∈ wsL_law_r23, w ∈ lw_tbl := zz_inp [693, 694, 695, 868, 870, 38, 871, 876, 872, 874, 39, 875, 877, 879, 40, 880, 881, 883, 41, 884, 532, 533, 534, 535] (by decide +kernel)
set_option maxRecDepth 20000 in
theorem in_wsL_law_r24 : ∀ w ∈ wsL_law_r24, w ∈ lw_tbl := zz_inp [885, 886, 887, 888, 536, 537, 538, 539, 540, 542, 13, 543, 544, 546, 14, 547, 548, 550, 551, 549, 553, 554, 552, 555] (by decide +kernel)
set_option maxRecDepth 20000 in
theorem in_wsL_law_r25 : ∀ w ∈ wsL_law_r25, w ∈ lw_tbl := zz_inp [556, 557, 558, 559, 561, 562, 560, 564, 565, 563, 889, 890, 891, 892, 893, 895, 42, 896, 897, 899, 43, 900, 901, 903] (by decide +kernel)
set_option maxRecDepth 20000 in
theorem in_wsL_law_r26 : ∀ w ∈ wsL_law_r26, w ∈ lw_tbl := zz_inp [44, 904, 905, 907, 45, 908, 909, 911, 46, 912, 566, 567, 568, 569, 570, 571, 573, 15, 574, 581, 575, 576, 577, 578] (by decide +kernel)
set_option maxRecDepth 20000 in
theorem in_wsL_law_r27 : ∀ w ∈ wsL_law_r27, w ∈ lw_tbl := zz_inp [579, 580, 913, 914, 915, 916, 931, 917, 919, 47, 920, 921, 922, 67, 923, 927, 929, 928, 67, 930, 924, 925, 926, 582] (by decide +kernel)
set_option maxRecDepth 20000 in
theorem in_wsL_law_r28 : ∀ w ∈ wsL_law_r28, w ∈ lw_tbl := zz_inp [583, 584, 585, 586, 588, 16, 589, 590, 591, 592, 593, 932, 933, 934, 935, 936, 938, 48, 939, 940, 941, 68, 942, 946] (by decide +kernel)
set_option maxRecDepth 20000 in
theorem in_wsL_law_r29 : ∀ w ∈ wsL_law_r29, w ∈ lw_tbl := zz_inp [948, 947, 68, 949, 943, 944, 945, 594, 595, 596, 597, 598, 600, 17, 601, 602, 603, 604, 605, 201, 204, 606, 607, 608] (by decide +kernel)
set_option maxRecDepth 20000 in
theorem in_wsL_law_r30 : ∀ w ∈ wsL_law_r30, w ∈ lw_tbl := zz_inp [609, 611, 18, 612, 202, 203, 613, 615, 19, 616, 617, 618, 619, 620, 621, 622, 623, 624, 625, 626, 627, 628, 629, 630] (by decide +kernel)
set_option maxRecDepth 20000 in
theorem in_wsL_law_r31 : ∀ w ∈ wsL_law_r31, w ∈ lw_tbl := zz_inp [631, 632, 950, 951, 952, 953, 954, 956, 49, 957, 633, 634, 635, 636, 958, 959, 960, 961, 637, 638, 639, 640, 641, 642] (by decide +kernel)
set_option maxRecDepth 20000 in
theorem in_wsL_law_r32 : ∀ w ∈ wsL_law_r32, w ∈ lw_tbl := zz_inp [643, 644, 645, 646, 647, 648, 649, 962, 963, 964, 965, 966, 968, 50, 969, 970, 972, 51, 973, 650, 651, 652, 653, 654] (by decide +kernel)
set_option maxRecDepth 20000 in
theorem in_wsL_law_r33 : ∀ w ∈ wsL_law_r33, w ∈ lw_tbl := zz_inp [659, 655, 657, 20, 658, 660, 661, 662, 664, 21, 665, 666, 667, 974, 975, 976, 977, 978, 696, 979, 981, 52, 982, 983] (by decide +kernel)
set_option maxRecDepth 20000 in
theorem in_wsL_law_r34 : ∀ w ∈ wsL_law_r34, w ∈ lw_tbl := zz_inp [984, 986, 53, 987] (by decide +kernel)
set_option maxRecDepth 20000 in
theorem in_X0 : ∀ w ∈ wsX00, w ∈ lw_tbl := by decide +kernel
set_option maxRecDepth 20000 in
theorem in_X2 : ∀ w ∈ wsX20, w ∈ lw_tbl := by decide +kernel
set_option maxRecDepth 20000 in
theorem in_X3 : ∀ w ∈ wsX30, w ∈ lw_tbl := by decide +kernel
set_option maxRecDepth 20000 in
theorem in_X4 : ∀ w ∈ wsX40, w ∈ lw_tbl := by decide +kernel
set_option maxRecDepth 20000 in
theorem in_X5 : ∀ w ∈ wsX50, w ∈ lw_tbl := by decide +kernel
set_option maxRecDepth 20000 in
theorem in_X6 : ∀ w ∈ wsX60, w ∈ lw_tbl := by decide +kernel
set_option maxRecDepth 20000 in
theorem in_X7 : ∀ w ∈ wsX70, w ∈ lw_tbl := by decide +kernel
set_option maxRecDepth 20000 in
theorem in_X8 : ∀ w ∈ wsX80, w ∈ lw_tbl := by decide +kernel
set_option maxRecDepth 20000 in
theorem in_X9 : ∀ w ∈ wsX90, w ∈ lw_tbl := by decide +kernel
theorem wsL_law_in : ∀ w ∈ wsL_law, w ∈ lw_tbl := by
  unfold wsL_law
  exact List.forall_mem_append.mpr ⟨List.forall_mem_append.mpr ⟨List.forall_mem_append.mpr ⟨List.forall_mem_append.mpr ⟨List.forall_mem_append.mpr ⟨List.forall_mem_append.mpr ⟨List.forall_mem_append.mpr ⟨List.forall_mem_append.mpr ⟨List.forall_mem_append.mpr ⟨List.forall_mem_append.mpr ⟨List.forall_mem_append.mpr ⟨in_wsL_law_r1, List.forall_mem_append.mpr ⟨in_wsL_law_r2, List.forall_mem_append.mpr ⟨in_wsL_law_r3, List.forall_mem_append.mpr ⟨in_wsL_law_r4, List.forall_mem_append.mpr ⟨in_wsL_law_r5, List.forall_mem_append.mpr ⟨in_wsL_law_r6, List.forall_mem_append.mpr ⟨in_wsL_law_r7, List.forall_mem_append.mpr ⟨in_wsL_law_r8, List.forall_mem_append.mpr ⟨in_wsL_law_r9, List.forall_mem_append.mpr ⟨in_wsL_law_r10, List.forall_mem_append.mpr ⟨in_wsL_law_r11, List.forall_mem_append.mpr ⟨in_wsL_law_r12, List.forall_mem_append.mpr ⟨in_wsL_law_r13, List.forall_mem_append.mpr ⟨in_wsL_law_r14, List.forall_mem_append.mpr ⟨in_wsL_law_r15, List.forall_mem_append.mpr ⟨in_wsL_law_r16, List.forall_mem_append.mpr ⟨in_wsL_law_r17, List.forall_mem_append.mpr ⟨in_wsL_law_r18, List.forall_mem_append.mpr ⟨in_wsL_law_r19, List.forall_mem_append.mpr ⟨in_wsL_law_r20, List.forall_mem_append.mpr ⟨in_wsL_law_r21, List.forall_mem_append.mpr ⟨in_wsL_law_r22, List.forall_mem_append.mpr ⟨in_wsL_law_r23, List.forall_mem_append.mpr ⟨in_wsL_law_r24, List.forall_mem_append.mpr ⟨in_wsL_law_r25, List.forall_mem_append.mpr ⟨in_wsL_law_r26, List.forall_mem_append.mpr ⟨in_wsL_law_r27, List.forall_mem_append.mpr ⟨in_wsL_law_r28, List.forall_mem_append.mpr ⟨in_wsL_law_r29, List.forall_mem_append.mpr ⟨in_wsL_law_r30, List.forall_mem_append.mpr ⟨in_wsL_law_r31, List.forall_mem_append.mpr ⟨in_wsL_law_r32, List.forall_mem_append.mpr ⟨in_wsL_law_r33, in_wsL_law_r34⟩⟩⟩⟩⟩⟩⟩⟩⟩⟩⟩⟩⟩⟩⟩⟩⟩⟩⟩⟩⟩⟩⟩⟩⟩⟩⟩⟩⟩⟩⟩⟩⟩, in_X8⟩, in_X9⟩, in_X4⟩, in_X3⟩, in_X6⟩, in_X2⟩, in_X7⟩, in_X5⟩, in_X0⟩, fun _ h => absurd h List.not_mem_nil⟩
