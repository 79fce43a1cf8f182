theorem wIn_r {big : List Cond} (ws : List Cond) (ps : List Nat) (hp : ws = ps.filterMap (fun i => big[i]?)) : ∀ w ∈ ws, w ∈ big := by
  intro w hw
  rw [hp] at hw
  obtain ⟨i, -, hi⟩ := List.mem_filterMap.mp hw
  exact List.mem_of_getElem? hi
set_option maxRecDepth 20000 in
theorem wsL_law_r1_in : ∀ w ∈ wsL_law_r1, w ∈ lw_tbl := wIn_r _ [76, 77, 66, 632, 633, 70, 78, 79, 80, 81, 82, 83, 84, 85, 67, 166, 119, 120, 68, 167, 135, 136, 69, 168] (by decide +kernel)
set_option maxRecDepth 20000 in
theorem wsL_law_r2_in : ∀ w ∈ wsL_law_r2, w ∈ lw_tbl := wIn_r _ [86, 87, 88, 89, 118, 114, 90, 91, 92, 93, 94, 95, 96, 97, 98, 99, 100, 101, 102, 104, 0, 105, 106, 108] (by decide +kernel)
set_option maxRecDepth 20000 in
theorem wsL_law_r3_in : ∀ w ∈ wsL_law_r3, w ∈ lw_tbl := wIn_r _ [1, 109, 110, 111, 112, 113, 122, 123, 124, 125, 138, 139, 140, 141, 143, 144, 634, 635, 636, 637, 643, 644, 645, 647] (by decide +kernel)
set_option maxRecDepth 20000 in
theorem wsL_law_r4_in : ∀ w ∈ wsL_law_r4, w ∈ lw_tbl := wIn_r _ [649, 650, 655, 656, 638, 657, 658, 660, 710, 661, 662, 639, 641, 29, 642, 179, 180, 181, 182, 183, 184, 185, 186, 142] (by decide +kernel)
set_option maxRecDepth 20000 in
theorem wsL_law_r5_in : ∀ w ∈ wsL_law_r5, w ∈ lw_tbl := wIn_r _ [187, 188, 189, 190, 810, 811, 812, 813, 648, 719, 720, 721, 191, 192, 193, 194, 195, 196, 197, 198, 814, 815, 816, 817] (by decide +kernel)
set_option maxRecDepth 20000 in
theorem wsL_law_r6_in : ∀ w ∈ wsL_law_r6, w ∈ lw_tbl := wIn_r _ [199, 200, 201, 202, 203, 204, 205, 206, 207, 208, 209, 210, 148, 146, 147, 145, 211, 213, 2, 214, 215, 217, 3, 218] (by decide +kernel)
set_option maxRecDepth 20000 in
theorem wsL_law_r7_in : ∀ w ∈ wsL_law_r7, w ∈ lw_tbl := wIn_r _ [219, 221, 4, 222, 223, 224, 225, 226, 228, 5, 242, 244, 8, 245, 233, 234, 236, 7, 237, 238, 239, 240, 241, 246] (by decide +kernel)
set_option maxRecDepth 20000 in
theorem wsL_law_r8_in : ∀ w ∈ wsL_law_r8, w ∈ lw_tbl := wIn_r _ [248, 9, 249, 250, 252, 10, 253, 229, 230, 232, 6, 254, 256, 11, 257, 818, 819, 820, 821, 653, 822, 824, 43, 825] (by decide +kernel)
set_option maxRecDepth 20000 in
theorem wsL_law_r9_in : ∀ w ∈ wsL_law_r9, w ∈ lw_tbl := wIn_r _ [652, 651, 654, 826, 828, 44, 829, 830, 832, 45, 833, 834, 836, 46, 837, 838, 840, 47, 841, 842, 844, 48, 845, 846] (by decide +kernel)
set_option maxRecDepth 20000 in
theorem wsL_law_r10_in : ∀ w ∈ wsL_law_r10, w ∈ lw_tbl := wIn_r _ [848, 49, 849, 734, 736, 32, 737, 850, 852, 50, 853, 854, 856, 51, 857, 258, 259, 260, 261, 262, 263, 264, 265, 127] (by decide +kernel)
set_option maxRecDepth 20000 in
theorem wsL_law_r11_in : ∀ w ∈ wsL_law_r11, w ∈ lw_tbl := wIn_r _ [126, 273, 274, 72, 275, 266, 267, 268, 269, 270, 272, 271, 71, 276, 715, 716, 717, 718, 722, 724, 30, 725, 646, 726] (by decide +kernel)
set_option maxRecDepth 20000 in
theorem wsL_law_r12_in : ∀ w ∈ wsL_law_r12, w ∈ lw_tbl := wIn_r _ [728, 31, 729, 277, 278, 279, 280, 281, 282, 283, 284, 285, 286, 287, 730, 731, 732, 733, 738, 740, 33, 741, 288, 289] (by decide +kernel)
set_option maxRecDepth 20000 in
theorem wsL_law_r13_in : ∀ w ∈ wsL_law_r13, w ∈ lw_tbl := wIn_r _ [290, 291, 292, 742, 743, 744, 745, 293, 294, 295, 296, 297, 298, 299, 300, 301, 746, 747, 748, 749, 302, 303, 304, 305] (by decide +kernel)
set_option maxRecDepth 20000 in
theorem wsL_law_r14_in : ∀ w ∈ wsL_law_r14, w ∈ lw_tbl := wIn_r _ [306, 307, 308, 309, 310, 311, 312, 313, 314, 315, 316, 317, 750, 751, 752, 753, 754, 756, 34, 757, 318, 319, 320, 321] (by decide +kernel)
set_option maxRecDepth 20000 in
theorem wsL_law_r15_in : ∀ w ∈ wsL_law_r15, w ∈ lw_tbl := wIn_r _ [322, 323, 324, 325, 758, 759, 760, 761, 762, 764, 35, 765, 326, 327, 328, 329, 330, 331, 332, 333, 766, 767, 768, 769] (by decide +kernel)
set_option maxRecDepth 20000 in
theorem wsL_law_r16_in : ∀ w ∈ wsL_law_r16, w ∈ lw_tbl := wIn_r _ [770, 772, 36, 773, 334, 335, 336, 337, 338, 339, 340, 341, 342, 343, 344, 345, 346, 347, 348, 349, 350, 351, 352, 353] (by decide +kernel)
set_option maxRecDepth 20000 in
theorem wsL_law_r17_in : ∀ w ∈ wsL_law_r17, w ∈ lw_tbl := wIn_r _ [354, 356, 12, 357, 358, 360, 13, 361, 362, 364, 14, 365, 366, 368, 15, 369, 370, 371, 372, 774, 775, 776, 777, 778] (by decide +kernel)
set_option maxRecDepth 20000 in
theorem wsL_law_r18_in : ∀ w ∈ wsL_law_r18, w ∈ lw_tbl := wIn_r _ [780, 37, 781, 782, 784, 38, 785, 786, 788, 39, 789, 790, 792, 40, 793, 373, 374, 375, 376, 377, 794, 795, 796, 797] (by decide +kernel)
set_option maxRecDepth 20000 in
theorem wsL_law_r19_in : ∀ w ∈ wsL_law_r19, w ∈ lw_tbl := wIn_r _ [798, 800, 41, 801, 802, 804, 42, 805, 378, 379, 380, 381, 382, 383, 384, 385, 386, 387, 388, 389, 806, 807, 808, 809] (by decide +kernel)
set_option maxRecDepth 20000 in
theorem wsL_law_r20_in : ∀ w ∈ wsL_law_r20, w ∈ lw_tbl := wIn_r _ [390, 391, 392, 393, 394, 395, 396, 397, 398, 399, 400, 401, 402, 403, 404, 405, 406, 408, 16, 409, 858, 859, 860, 861] (by decide +kernel)
set_option maxRecDepth 20000 in
theorem wsL_law_r21_in : ∀ w ∈ wsL_law_r21, w ∈ lw_tbl := wIn_r _ [862, 864, 52, 865, 866, 868, 53, 869, 410, 411, 412, 413, 414, 415, 416, 417, 418, 419, 420, 421, 422, 423, 424, 425] (by decide +kernel)
set_option maxRecDepth 20000 in
theorem wsL_law_r22_in : ∀ w ∈ wsL_law_r22, w ∈ lw_tbl := wIn_r _ [711, 712, 713, 714, 426, 427, 428, 429, 430, 870, 871, 872, 873, 431, 432, 433, 434, 435, 436, 437, 438, 439, 440, 441] (by decide +kernel)
set_option maxRecDepth 20000 in
theorem wsL_law_r23_in : ∀ w ∈ wsL_law_r23, w ∈ lw_tbl := wIn_r _ [442, 874, 875, 876, 877, 443, 444, 445, 446, 447, 448, 449, 450, 452, 17, 453, 169, 454, 455, 73, 457, 458, 459, 460] (by decide +kernel)
set_option maxRecDepth 20000 in
theorem wsL_law_r24_in : ∀ w ∈ wsL_law_r24, w ∈ lw_tbl := wIn_r _ [462, 464, 465, 467, 494, 468, 495, 496, 497, 498, 461, 466, 469, 470, 499, 500, 501, 502, 503, 504, 506, 18, 507, 463] (by decide +kernel)
set_option maxRecDepth 20000 in
theorem wsL_law_r25_in : ∀ w ∈ wsL_law_r25, w ∈ lw_tbl := wIn_r _ [508, 509, 74, 510, 511, 512, 513, 514, 516, 19, 517, 518, 520, 20, 521, 522, 524, 21, 525, 526, 528, 22, 529, 530] (by decide +kernel)
set_option maxRecDepth 20000 in
theorem wsL_law_r26_in : ∀ w ∈ wsL_law_r26, w ∈ lw_tbl := wIn_r _ [531, 532, 533, 534, 535, 536, 537, 538, 539, 540, 541, 542, 543, 544, 545, 546, 548, 23, 549, 550, 552, 24, 553, 554] (by decide +kernel)
set_option maxRecDepth 20000 in
theorem wsL_law_r27_in : ∀ w ∈ wsL_law_r27, w ∈ lw_tbl := wIn_r _ [556, 25, 557, 558, 560, 26, 561, 562, 568, 564, 566, 27, 567, 569, 570, 571, 878, 879, 880, 881, 882, 884, 54, 885] (by decide +kernel)
set_option maxRecDepth 20000 in
theorem wsL_law_r28_in : ∀ w ∈ wsL_law_r28, w ∈ lw_tbl := wIn_r _ [886, 888, 55, 889, 890, 892, 56, 893, 659, 894, 895, 896, 897, 899, 57, 900, 901, 903, 58, 904, 905, 907, 59, 908] (by decide +kernel)
set_option maxRecDepth 20000 in
theorem wsL_law_r29_in : ∀ w ∈ wsL_law_r29, w ∈ lw_tbl := wIn_r _ [663, 909, 911, 60, 912, 913, 914, 915, 916, 918, 61, 919, 572, 573, 574, 575, 576, 577, 578, 579, 580, 581, 583, 28] (by decide +kernel)
set_option maxRecDepth 20000 in
theorem wsL_law_r30_in : ∀ w ∈ wsL_law_r30, w ∈ lw_tbl := wIn_r _ [584, 920, 921, 922, 923, 924, 926, 62, 927, 585, 586, 587, 588, 589, 590, 591, 592, 593, 594, 75, 595, 596, 597, 598] (by decide +kernel)
set_option maxRecDepth 20000 in
theorem wsL_law_r31_in : ∀ w ∈ wsL_law_r31, w ∈ lw_tbl := wIn_r _ [599, 600, 601, 928, 929, 930, 931, 932, 934, 63, 935, 602, 603, 604, 605, 606, 607, 608, 609, 610, 611, 612, 613, 614] (by decide +kernel)
set_option maxRecDepth 20000 in
theorem wsL_law_r32_in : ∀ w ∈ wsL_law_r32, w ∈ lw_tbl := wIn_r _ [615, 616, 617, 618, 619, 620, 621, 936, 937, 938, 939, 622, 623, 624, 625, 626, 627, 628, 629, 630, 631, 940, 941, 942] (by decide +kernel)
set_option maxRecDepth 20000 in
theorem wsL_law_r33_in : ∀ w ∈ wsL_law_r33, w ∈ lw_tbl := wIn_r _ [943, 944, 664, 945, 946, 948, 64, 949, 950, 951, 952] (by decide +kernel)
set_option maxRecDepth 20000 in
theorem wsX00_in : ∀ w ∈ wsX00, w ∈ lw_tbl := wIn_r _ [115] (by decide +kernel)
set_option maxRecDepth 20000 in
theorem wsX10_in : ∀ w ∈ wsX10, w ∈ lw_tbl := wIn_r _ [128, 130, 132] (by decide +kernel)
set_option maxRecDepth 20000 in
theorem wsX20_in : ∀ w ∈ wsX20, w ∈ lw_tbl := wIn_r _ [471, 473, 475, 477, 479, 481, 483, 485, 487, 489, 491] (by decide +kernel)
set_option maxRecDepth 20000 in
theorem wsX30_in : ∀ w ∈ wsX30, w ∈ lw_tbl := wIn_r _ [149, 151, 153, 155, 157, 159, 161, 163] (by decide +kernel)
set_option maxRecDepth 20000 in
theorem wsX40_in : ∀ w ∈ wsX40, w ∈ lw_tbl := wIn_r _ [170, 172, 174, 176] (by decide +kernel)
set_option maxRecDepth 20000 in
theorem wsX50_in : ∀ w ∈ wsX50, w ∈ lw_tbl := wIn_r _ [665, 667, 669, 671, 673, 675, 677, 679, 681, 683, 685, 687, 689, 691, 693, 695, 697, 699, 701, 703, 705, 707] (by decide +kernel)
theorem wsL_law_in : ∀ w ∈ wsL_law, w ∈ lw_tbl := (List.forall_mem_append.mpr ⟨(List.forall_mem_append.mpr ⟨(List.forall_mem_append.mpr ⟨(List.forall_mem_append.mpr ⟨(List.forall_mem_append.mpr ⟨(List.forall_mem_append.mpr ⟨(List.forall_mem_append.mpr ⟨(List.forall_mem_append.mpr ⟨wsL_law_r1_in, (List.forall_mem_append.mpr ⟨wsL_law_r2_in, (List.forall_mem_append.mpr ⟨wsL_law_r3_in, (List.forall_mem_append.mpr ⟨wsL_law_r4_in, (List.forall_mem_append.mpr ⟨wsL_law_r5_in, (List.forall_mem_append.mpr ⟨wsL_law_r6_in, (List.forall_mem_append.mpr ⟨wsL_law_r7_in, (List.forall_mem_append.mpr ⟨wsL_law_r8_in, (List.forall_mem_append.mpr ⟨wsL_law_r9_in, (List.forall_mem_append.mpr ⟨wsL_law_r10_in, (List.forall_mem_append.mpr ⟨wsL_law_r11_in, (List.forall_mem_append.mpr ⟨wsL_law_r12_in, (List.forall_mem_append.mpr ⟨wsL_law_r13_in, (List.forall_mem_append.mpr ⟨wsL_law_r14_in, (List.forall_mem_append.mpr ⟨wsL_law_r15_in, (List.forall_mem_append.mpr ⟨wsL_law_r16_in, (List.forall_mem_append.mpr ⟨wsL_law_r17_in, (List.forall_mem_append.mpr ⟨wsL_law_r18_in, (List.forall_mem_append.mpr ⟨wsL_law_r19_in, (List.forall_mem_append.mpr ⟨wsL_law_r20_in, (List.forall_mem_append.mpr ⟨wsL_law_r21_in, (List.forall_mem_append.mpr ⟨wsL_law_r22_in, (List.forall_mem_append.mpr ⟨wsL_law_r23_in, (List.forall_mem_append.mpr ⟨wsL_law_r24_in, (List.forall_mem_append.mpr ⟨wsL_law_r25_in, (List.forall_mem_append.mpr ⟨wsL_law_r26_in, (List.forall_mem_append.mpr ⟨wsL_law_r27_in, (List.forall_mem_append.mpr ⟨wsL_law_r28_in, (List.forall_mem_append.mpr ⟨wsL_law_r29_in, (List.forall_mem_append.mpr ⟨wsL_law_r30_in, (List.forall_mem_append.mpr ⟨wsL_law_r31_in, (List.forall_mem_append.mpr ⟨wsL_law_r32_in, wsL_law_r33_in⟩)⟩)⟩)⟩)⟩)⟩)⟩)⟩)⟩)⟩)⟩)⟩)⟩)⟩)⟩)⟩)⟩)⟩)⟩)⟩)⟩)⟩)⟩)⟩)⟩)⟩)⟩)⟩)⟩)⟩)⟩)⟩), wsX40_in⟩), wsX50_in⟩), wsX00_in⟩), wsX10_in⟩), wsX30_in⟩), wsX20_in⟩), (fun _ h => absurd h List.not_mem_nil)⟩)
