/-! The law words among the tables. -/
set_option maxRecDepth 100000 in
theorem in_wsL_law0_r1 : ∀ w ∈ wsL_law0_r1, w ∈ lw_tbl := memIn [48, 49, 34, 668, 669, 39, 935, 50, 51, 52, 53, 54, 55, 56, 57, 35, 203, 204, 172, 173, 37, 205, 189, 190] rfl
set_option maxRecDepth 100000 in
theorem in_wsL_law0_r2 : ∀ w ∈ wsL_law0_r2, w ∈ lw_tbl := memIn [38, 206, 58, 59, 60, 61, 64, 65, 66, 67, 68, 70, 106, 71, 108, 73, 36, 110, 112, 75, 76, 77, 175, 176] rfl
set_option maxRecDepth 100000 in
theorem in_wsL_law0_r3 : ∀ w ∈ wsL_law0_r3, w ∈ lw_tbl := memIn [177, 105, 178, 192, 193, 194, 195, 670, 671, 672, 673, 682, 683, 685, 694, 674, 676, 8, 677, 678, 679, 680, 458, 459] rfl
set_option maxRecDepth 100000 in
theorem in_wsL_law0_r4 : ∀ w ∈ wsL_law0_r4, w ∈ lw_tbl := memIn [33, 460, 461, 462, 463, 464, 465, 305, 43, 111, 467, 468, 469, 470, 381, 383, 382, 44, 115, 118, 121, 122, 123, 124] rfl
set_option maxRecDepth 100000 in
theorem in_wsL_law0_r5 : ∀ w ∈ wsL_law0_r5, w ∈ lw_tbl := memIn [125, 126, 128, 130, 132, 134, 136, 471, 472, 473, 474, 78, 80, 82, 84, 85, 87, 89, 475, 476, 477, 478, 179, 181] rfl
set_option maxRecDepth 100000 in
theorem in_wsL_law0_r6 : ∀ w ∈ wsL_law0_r6, w ∈ lw_tbl := memIn [731, 732, 733, 734, 681, 735, 736, 737, 727, 728, 729, 730, 479, 480, 481, 482, 483, 484, 485, 486, 490, 45, 107, 487] rfl
set_option maxRecDepth 100000 in
theorem in_wsL_law0_r7 : ∀ w ∈ wsL_law0_r7, w ∈ lw_tbl := memIn [488, 489, 506, 507, 508, 509, 511, 738, 739, 740, 741, 742, 743, 744, 745, 746, 747, 748, 749, 750, 751, 514, 515, 516] rfl
set_option maxRecDepth 100000 in
theorem in_wsL_law0_r8 : ∀ w ∈ wsL_law0_r8, w ∈ lw_tbl := memIn [517, 518, 519, 520, 752, 753, 754, 755, 521, 522, 523, 524, 525, 526, 527, 528, 530, 46, 120, 529, 393, 394, 395, 546] rfl
set_option maxRecDepth 100000 in
theorem in_wsL_law0_r9 : ∀ w ∈ wsL_law0_r9, w ∈ lw_tbl := memIn [547, 548, 549, 83, 756, 757, 758, 759, 760, 762, 9, 763, 764, 765, 766, 216, 217, 218, 219, 117, 220, 221, 222, 223] rfl
set_option maxRecDepth 100000 in
theorem in_wsL_law0_r10 : ∀ w ∈ wsL_law0_r10, w ∈ lw_tbl := memIn [81, 767, 768, 769, 770, 771, 773, 10, 774, 550, 551, 552, 553, 554, 555, 556, 557, 558, 559, 561, 563, 3, 564, 127] rfl
set_option maxRecDepth 100000 in
theorem in_wsL_law0_r11 : ∀ w ∈ wsL_law0_r11, w ∈ lw_tbl := memIn [565, 567, 569, 4, 570, 571, 290, 291, 292, 86, 388, 389, 390, 391, 257, 258, 47, 259, 260, 261, 262, 392, 396, 397] rfl
set_option maxRecDepth 100000 in
theorem in_wsL_law0_r12 : ∀ w ∈ wsL_law0_r12, w ∈ lw_tbl := memIn [398, 399, 400, 401, 402, 403, 404, 405, 406, 408, 409, 411, 412, 413, 414, 415, 416, 417, 418, 419, 420, 421, 422, 423] rfl
set_option maxRecDepth 100000 in
theorem in_wsL_law0_r13 : ∀ w ∈ wsL_law0_r13, w ∈ lw_tbl := memIn [424, 425, 426, 427, 428, 79, 429, 430, 431, 432, 433, 434, 435, 436, 437, 438, 439, 440, 441, 442, 443, 444, 445, 446] rfl
set_option maxRecDepth 100000 in
theorem in_wsL_law0_r14 : ∀ w ∈ wsL_law0_r14, w ∈ lw_tbl := memIn [447, 448, 449, 450, 451, 452, 453, 572, 573, 574, 575, 576, 119, 129, 113, 116, 577, 286, 287, 288, 775, 776, 777, 778] rfl
set_option maxRecDepth 100000 in
theorem in_wsL_law0_r15 : ∀ w ∈ wsL_law0_r15, w ∈ lw_tbl := memIn [779, 780, 782, 11, 783, 784, 686, 687, 688, 785, 787, 12, 788, 789, 791, 13, 792, 793, 795, 14, 796, 797, 798, 799] rfl
set_option maxRecDepth 100000 in
theorem in_wsL_law0_r16 : ∀ w ∈ wsL_law0_r16, w ∈ lw_tbl := memIn [800, 801, 803, 15, 804, 805, 807, 16, 808, 809, 811, 17, 812, 825, 813, 815, 18, 816, 817, 819, 19, 820, 821, 823] rfl
set_option maxRecDepth 100000 in
theorem in_wsL_law0_r17 : ∀ w ∈ wsL_law0_r17, w ∈ lw_tbl := memIn [20, 824, 826, 828, 21, 829, 578, 579, 580, 581, 582, 583, 584, 197, 586, 587, 588, 589, 196, 830, 831, 832, 833, 684] rfl
set_option maxRecDepth 100000 in
theorem in_wsL_law0_r18 : ∀ w ∈ wsL_law0_r18, w ∈ lw_tbl := memIn [224, 225, 226, 227, 834, 835, 836, 837, 228, 229, 230, 231, 232, 233, 234, 235, 236, 237, 238, 239, 240, 241, 242, 243] rfl
set_option maxRecDepth 100000 in
theorem in_wsL_law0_r19 : ∀ w ∈ wsL_law0_r19, w ∈ lw_tbl := memIn [244, 245, 247, 248, 838, 839, 840, 841, 842, 844, 22, 845, 689, 693, 846, 848, 23, 849, 691, 692, 850, 852, 24, 853] rfl
set_option maxRecDepth 100000 in
theorem in_wsL_law0_r20 : ∀ w ∈ wsL_law0_r20, w ∈ lw_tbl := memIn [690, 854, 856, 25, 857, 591, 592, 593, 594, 595, 596, 597, 598, 599, 600, 601, 457, 603, 605, 5, 606, 607, 608, 609] rfl
set_option maxRecDepth 100000 in
theorem in_wsL_law0_r21 : ∀ w ∈ wsL_law0_r21, w ∈ lw_tbl := memIn [610, 612, 6, 613, 614, 858, 859, 860, 861, 862, 864, 26, 865, 866, 867, 868, 869, 615, 616, 617, 618, 619, 620, 621] rfl
set_option maxRecDepth 100000 in
theorem in_wsL_law0_r22 : ∀ w ∈ wsL_law0_r22, w ∈ lw_tbl := memIn [277, 279, 0, 280, 180, 281, 282, 283, 284, 285, 289, 293, 294, 295, 296, 88, 870, 871, 872, 873, 874, 875, 876, 623] rfl
set_option maxRecDepth 100000 in
theorem in_wsL_law0_r23 : ∀ w ∈ wsL_law0_r23, w ∈ lw_tbl := memIn [624, 625, 626, 627, 628, 629, 109, 297, 298, 299, 300, 877, 878, 879, 880, 632, 633, 634, 635, 636, 637, 638, 267, 268] rfl
set_option maxRecDepth 100000 in
theorem in_wsL_law0_r24 : ∀ w ∈ wsL_law0_r24, w ∈ lw_tbl := memIn [269, 270, 881, 882, 883, 884, 641, 642, 643, 644, 645, 646, 647, 135, 649, 131, 650, 133, 651, 114, 373, 375, 2, 376] rfl
set_option maxRecDepth 100000 in
theorem in_wsL_law0_r25 : ∀ w ∈ wsL_law0_r25, w ∈ lw_tbl := memIn [377, 378, 379, 380, 384, 385, 386, 387, 885, 886, 887, 888, 889, 891, 27, 892, 893, 895, 28, 896, 652, 653, 654, 655] rfl
set_option maxRecDepth 100000 in
theorem in_wsL_law0_r26 : ∀ w ∈ wsL_law0_r26, w ∈ lw_tbl := memIn [302, 303, 304, 454, 455, 456, 897, 898, 899, 900, 901, 903, 29, 904, 656, 657, 658, 659, 660, 661, 662, 664, 666, 7] rfl
set_option maxRecDepth 100000 in
theorem in_wsL_law0_r27 : ∀ w ∈ wsL_law0_r27, w ∈ lw_tbl := memIn [667, 905, 906, 907, 908, 909, 911, 30, 912, 249, 250, 251, 252, 253, 254, 255, 256, 913, 914, 915, 916, 917, 919, 31] rfl
set_option maxRecDepth 100000 in
theorem in_wsL_law0_r28 : ∀ w ∈ wsL_law0_r28, w ∈ lw_tbl := memIn [920, 263, 264, 265, 266, 921, 922, 923, 924, 271, 272, 273, 274, 275, 276, 301, 925, 926, 927, 928, 929, 695, 930, 932] rfl
set_option maxRecDepth 100000 in
theorem in_wsL_law0_r29 : ∀ w ∈ wsL_law0_r29, w ∈ lw_tbl := memIn [32, 933, 934] rfl
set_option maxRecDepth 100000 in
theorem inX0 : ∀ w ∈ wsX00, w ∈ lw_tbl := memIn [182, 184, 186] rfl
set_option maxRecDepth 100000 in
theorem inX1 : ∀ w ∈ wsX10, w ∈ lw_tbl := memIn [90, 92, 94, 96, 98, 100, 102] rfl
set_option maxRecDepth 100000 in
theorem inX2 : ∀ w ∈ wsX20, w ∈ lw_tbl := memIn [137, 139, 141, 143, 145, 147, 149, 151, 153, 155, 157, 159, 161, 163, 165, 167, 169] rfl
set_option maxRecDepth 100000 in
theorem inX3 : ∀ w ∈ wsX30, w ∈ lw_tbl := memIn [198, 200] rfl
set_option maxRecDepth 100000 in
theorem inX4 : ∀ w ∈ wsX40, w ∈ lw_tbl := memIn [207, 209, 211, 213] rfl
set_option maxRecDepth 100000 in
theorem inX5 : ∀ w ∈ wsX50, w ∈ lw_tbl := memIn [696, 698, 700, 702, 704, 706, 708, 710, 712, 714, 716, 718, 720, 722, 724] rfl
theorem in_r29 : ∀ w ∈ wsL_law0_r29, w ∈ lw_tbl := in_wsL_law0_r29
theorem in_r28 : ∀ w ∈ wsL_law0_r28 ++ wsL_law0_r29, w ∈ lw_tbl := fun w h => (List.mem_append.mp h).elim (in_wsL_law0_r28 w) (in_r29 w)
theorem in_r27 : ∀ w ∈ wsL_law0_r27 ++ (wsL_law0_r28 ++ wsL_law0_r29), w ∈ lw_tbl := fun w h => (List.mem_append.mp h).elim (in_wsL_law0_r27 w) (in_r28 w)
theorem in_r26 : ∀ w ∈ wsL_law0_r26 ++ (wsL_law0_r27 ++ (wsL_law0_r28 ++ wsL_law0_r29)), w ∈ lw_tbl := fun w h => (List.mem_append.mp h).elim (in_wsL_law0_r26 w) (in_r27 w)
theorem in_r25 : ∀ w ∈ wsL_law0_r25 ++ (wsL_law0_r26 ++ (wsL_law0_r27 ++ (wsL_law0_r28 ++ wsL_law0_r29))), w ∈ lw_tbl := fun w h => (List.mem_append.mp h).elim (in_wsL_law0_r25 w) (in_r26 w)
theorem in_r24 : ∀ w ∈ wsL_law0_r24 ++ (wsL_law0_r25 ++ (wsL_law0_r26 ++ (wsL_law0_r27 ++ (wsL_law0_r28 ++ wsL_law0_r29)))), w ∈ lw_tbl := fun w h => (List.mem_append.mp h).elim (in_wsL_law0_r24 w) (in_r25 w)
theorem in_r23 : ∀ w ∈ wsL_law0_r23 ++ (wsL_law0_r24 ++ (wsL_law0_r25 ++ (wsL_law0_r26 ++ (wsL_law0_r27 ++ (wsL_law0_r28 ++ wsL_law0_r29))))), w ∈ lw_tbl := fun w h => (List.mem_append.mp h).elim (in_wsL_law0_r23 w) (in_r24 w)
theorem in_r22 : ∀ w ∈ wsL_law0_r22 ++ (wsL_law0_r23 ++ (wsL_law0_r24 ++ (wsL_law0_r25 ++ (wsL_law0_r26 ++ (wsL_law0_r27 ++ (wsL_law0_r28 ++ wsL_law0_r29)))))), w ∈ lw_tbl := fun w h => (List.mem_append.mp h).elim (in_wsL_law0_r22 w) (in_r23 w)
theorem in_r21 : ∀ w ∈ wsL_law0_r21 ++ (wsL_law0_r22 ++ (wsL_law0_r23 ++ (wsL_law0_r24 ++ (wsL_law0_r25 ++ (wsL_law0_r26 ++ (wsL_law0_r27 ++ (wsL_law0_r28 ++ wsL_law0_r29))))))), w ∈ lw_tbl := fun w h => (List.mem_append.mp h).elim (in_wsL_law0_r21 w) (in_r22 w)
theorem in_r20 : ∀ w ∈ wsL_law0_r20 ++ (wsL_law0_r21 ++ (wsL_law0_r22 ++ (wsL_law0_r23 ++ (wsL_law0_r24 ++ (wsL_law0_r25 ++ (wsL_law0_r26 ++ (wsL_law0_r27 ++ (wsL_law0_r28 ++ wsL_law0_r29)))))))), w ∈ lw_tbl := fun w h => (List.mem_append.mp h).elim (in_wsL_law0_r20 w) (in_r21 w)
theorem in_r19 : ∀ w ∈ wsL_law0_r19 ++ (wsL_law0_r20 ++ (wsL_law0_r21 ++ (wsL_law0_r22 ++ (wsL_law0_r23 ++ (wsL_law0_r24 ++ (wsL_law0_r25 ++ (wsL_law0_r26 ++ (wsL_law0_r27 ++ (wsL_law0_r28 ++ wsL_law0_r29))))))))), w ∈ lw_tbl := fun w h => (List.mem_append.mp h).elim (in_wsL_law0_r19 w) (in_r20 w)
theorem in_r18 : ∀ w ∈ wsL_law0_r18 ++ (wsL_law0_r19 ++ (wsL_law0_r20 ++ (wsL_law0_r21 ++ (wsL_law0_r22 ++ (wsL_law0_r23 ++ (wsL_law0_r24 ++ (wsL_law0_r25 ++ (wsL_law0_r26 ++ (wsL_law0_r27 ++ (wsL_law0_r28 ++ wsL_law0_r29)))))))))), w ∈ lw_tbl := fun w h => (List.mem_append.mp h).elim (in_wsL_law0_r18 w) (in_r19 w)
theorem in_r17 : ∀ w ∈ wsL_law0_r17 ++ (wsL_law0_r18 ++ (wsL_law0_r19 ++ (wsL_law0_r20 ++ (wsL_law0_r21 ++ (wsL_law0_r22 ++ (wsL_law0_r23 ++ (wsL_law0_r24 ++ (wsL_law0_r25 ++ (wsL_law0_r26 ++ (wsL_law0_r27 ++ (wsL_law0_r28 ++ wsL_law0_r29))))))))))), w ∈ lw_tbl := fun w h => (List.mem_append.mp h).elim (in_wsL_law0_r17 w) (in_r18 w)
theorem in_r16 : ∀ w ∈ wsL_law0_r16 ++ (wsL_law0_r17 ++ (wsL_law0_r18 ++ (wsL_law0_r19 ++ (wsL_law0_r20 ++ (wsL_law0_r21 ++ (wsL_law0_r22 ++ (wsL_law0_r23 ++ (wsL_law0_r24 ++ (wsL_law0_r25 ++ (wsL_law0_r26 ++ (wsL_law0_r27 ++ (wsL_law0_r28 ++ wsL_law0_r29)))))))))))), w ∈ lw_tbl := fun w h => (List.mem_append.mp h).elim (in_wsL_law0_r16 w) (in_r17 w)
theorem in_r15 : ∀ w ∈ wsL_law0_r15 ++ (wsL_law0_r16 ++ (wsL_law0_r17 ++ (wsL_law0_r18 ++ (wsL_law0_r19 ++ (wsL_law0_r20 ++ (wsL_law0_r21 ++ (wsL_law0_r22 ++ (wsL_law0_r23 ++ (wsL_law0_r24 ++ (wsL_law0_r25 ++ (wsL_law0_r26 ++ (wsL_law0_r27 ++ (wsL_law0_r28 ++ wsL_law0_r29))))))))))))), w ∈ lw_tbl := fun w h => (List.mem_append.mp h).elim (in_wsL_law0_r15 w) (in_r16 w)
theorem in_r14 : ∀ w ∈ wsL_law0_r14 ++ (wsL_law0_r15 ++ (wsL_law0_r16 ++ (wsL_law0_r17 ++ (wsL_law0_r18 ++ (wsL_law0_r19 ++ (wsL_law0_r20 ++ (wsL_law0_r21 ++ (wsL_law0_r22 ++ (wsL_law0_r23 ++ (wsL_law0_r24 ++ (wsL_law0_r25 ++ (wsL_law0_r26 ++ (wsL_law0_r27 ++ (wsL_law0_r28 ++ wsL_law0_r29)))))))))))))), w ∈ lw_tbl := fun w h => (List.mem_append.mp h).elim (in_wsL_law0_r14 w) (in_r15 w)
theorem in_r13 : ∀ w ∈ wsL_law0_r13 ++ (wsL_law0_r14 ++ (wsL_law0_r15 ++ (wsL_law0_r16 ++ (wsL_law0_r17 ++ (wsL_law0_r18 ++ (wsL_law0_r19 ++ (wsL_law0_r20 ++ (wsL_law0_r21 ++ (wsL_law0_r22 ++ (wsL_law0_r23 ++ (wsL_law0_r24 ++ (wsL_law0_r25 ++ (wsL_law0_r26 ++ (wsL_law0_r27 ++ (wsL_law0_r28 ++ wsL_law0_r29))))))))))))))), w ∈ lw_tbl := fun w h => (List.mem_append.mp h).elim (in_wsL_law0_r13 w) (in_r14 w)
theorem in_r12 : ∀ w ∈ wsL_law0_r12 ++ (wsL_law0_r13 ++ (wsL_law0_r14 ++ (wsL_law0_r15 ++ (wsL_law0_r16 ++ (wsL_law0_r17 ++ (wsL_law0_r18 ++ (wsL_law0_r19 ++ (wsL_law0_r20 ++ (wsL_law0_r21 ++ (wsL_law0_r22 ++ (wsL_law0_r23 ++ (wsL_law0_r24 ++ (wsL_law0_r25 ++ (wsL_law0_r26 ++ (wsL_law0_r27 ++ (wsL_law0_r28 ++ wsL_law0_r29)))))))))))))))), w ∈ lw_tbl := fun w h => (List.mem_append.mp h).elim (in_wsL_law0_r12 w) (in_r13 w)
theorem in_r11 : ∀ w ∈ wsL_law0_r11 ++ (wsL_law0_r12 ++ (wsL_law0_r13 ++ (wsL_law0_r14 ++ (wsL_law0_r15 ++ (wsL_law0_r16 ++ (wsL_law0_r17 ++ (wsL_law0_r18 ++ (wsL_law0_r19 ++ (wsL_law0_r20 ++ (wsL_law0_r21 ++ (wsL_law0_r22 ++ (wsL_law0_r23 ++ (wsL_law0_r24 ++ (wsL_law0_r25 ++ (wsL_law0_r26 ++ (wsL_law0_r27 ++ (wsL_law0_r28 ++ wsL_law0_r29))))))))))))))))), w ∈ lw_tbl := fun w h => (List.mem_append.mp h).elim (in_wsL_law0_r11 w) (in_r12 w)
theorem in_r10 : ∀ w ∈ wsL_law0_r10 ++ (wsL_law0_r11 ++ (wsL_law0_r12 ++ (wsL_law0_r13 ++ (wsL_law0_r14 ++ (wsL_law0_r15 ++ (wsL_law0_r16 ++ (wsL_law0_r17 ++ (wsL_law0_r18 ++ (wsL_law0_r19 ++ (wsL_law0_r20 ++ (wsL_law0_r21 ++ (wsL_law0_r22 ++ (wsL_law0_r23 ++ (wsL_law0_r24 ++ (wsL_law0_r25 ++ (wsL_law0_r26 ++ (wsL_law0_r27 ++ (wsL_law0_r28 ++ wsL_law0_r29)))))))))))))))))), w ∈ lw_tbl := fun w h => (List.mem_append.mp h).elim (in_wsL_law0_r10 w) (in_r11 w)
theorem in_r9 : ∀ w ∈ wsL_law0_r9 ++ (wsL_law0_r10 ++ (wsL_law0_r11 ++ (wsL_law0_r12 ++ (wsL_law0_r13 ++ (wsL_law0_r14 ++ (wsL_law0_r15 ++ (wsL_law0_r16 ++ (wsL_law0_r17 ++ (wsL_law0_r18 ++ (wsL_law0_r19 ++ (wsL_law0_r20 ++ (wsL_law0_r21 ++ (wsL_law0_r22 ++ (wsL_law0_r23 ++ (wsL_law0_r24 ++ (wsL_law0_r25 ++ (wsL_law0_r26 ++ (wsL_law0_r27 ++ (wsL_law0_r28 ++ wsL_law0_r29))))))))))))))))))), w ∈ lw_tbl := fun w h => (List.mem_append.mp h).elim (in_wsL_law0_r9 w) (in_r10 w)
theorem in_r8 : ∀ w ∈ wsL_law0_r8 ++ (wsL_law0_r9 ++ (wsL_law0_r10 ++ (wsL_law0_r11 ++ (wsL_law0_r12 ++ (wsL_law0_r13 ++ (wsL_law0_r14 ++ (wsL_law0_r15 ++ (wsL_law0_r16 ++ (wsL_law0_r17 ++ (wsL_law0_r18 ++ (wsL_law0_r19 ++ (wsL_law0_r20 ++ (wsL_law0_r21 ++ (wsL_law0_r22 ++ (wsL_law0_r23 ++ (wsL_law0_r24 ++ (wsL_law0_r25 ++ (wsL_law0_r26 ++ (wsL_law0_r27 ++ (wsL_law0_r28 ++ wsL_law0_r29)))))))))))))))))))), w ∈ lw_tbl := fun w h => (List.mem_append.mp h).elim (in_wsL_law0_r8 w) (in_r9 w)
theorem in_r7 : ∀ w ∈ wsL_law0_r7 ++ (wsL_law0_r8 ++ (wsL_law0_r9 ++ (wsL_law0_r10 ++ (wsL_law0_r11 ++ (wsL_law0_r12 ++ (wsL_law0_r13 ++ (wsL_law0_r14 ++ (wsL_law0_r15 ++ (wsL_law0_r16 ++ (wsL_law0_r17 ++ (wsL_law0_r18 ++ (wsL_law0_r19 ++ (wsL_law0_r20 ++ (wsL_law0_r21 ++ (wsL_law0_r22 ++ (wsL_law0_r23 ++ (wsL_law0_r24 ++ (wsL_law0_r25 ++ (wsL_law0_r26 ++ (wsL_law0_r27 ++ (wsL_law0_r28 ++ wsL_law0_r29))))))))))))))))))))), w ∈ lw_tbl := fun w h => (List.mem_append.mp h).elim (in_wsL_law0_r7 w) (in_r8 w)
theorem in_r6 : ∀ w ∈ wsL_law0_r6 ++ (wsL_law0_r7 ++ (wsL_law0_r8 ++ (wsL_law0_r9 ++ (wsL_law0_r10 ++ (wsL_law0_r11 ++ (wsL_law0_r12 ++ (wsL_law0_r13 ++ (wsL_law0_r14 ++ (wsL_law0_r15 ++ (wsL_law0_r16 ++ (wsL_law0_r17 ++ (wsL_law0_r18 ++ (wsL_law0_r19 ++ (wsL_law0_r20 ++ (wsL_law0_r21 ++ (wsL_law0_r22 ++ (wsL_law0_r23 ++ (wsL_law0_r24 ++ (wsL_law0_r25 ++ (wsL_law0_r26 ++ (wsL_law0_r27 ++ (wsL_law0_r28 ++ wsL_law0_r29)))))))))))))))))))))), w ∈ lw_tbl := fun w h => (List.mem_append.mp h).elim (in_wsL_law0_r6 w) (in_r7 w)
theorem in_r5 : ∀ w ∈ wsL_law0_r5 ++ (wsL_law0_r6 ++ (wsL_law0_r7 ++ (wsL_law0_r8 ++ (wsL_law0_r9 ++ (wsL_law0_r10 ++ (wsL_law0_r11 ++ (wsL_law0_r12 ++ (wsL_law0_r13 ++ (wsL_law0_r14 ++ (wsL_law0_r15 ++ (wsL_law0_r16 ++ (wsL_law0_r17 ++ (wsL_law0_r18 ++ (wsL_law0_r19 ++ (wsL_law0_r20 ++ (wsL_law0_r21 ++ (wsL_law0_r22 ++ (wsL_law0_r23 ++ (wsL_law0_r24 ++ (wsL_law0_r25 ++ (wsL_law0_r26 ++ (wsL_law0_r27 ++ (wsL_law0_r28 ++ wsL_law0_r29))))))))))))))))))))))), w ∈ lw_tbl := fun w h => (List.mem_append.mp h).elim (in_wsL_law0_r5 w) (in_r6 w)
theorem in_r4 : ∀ w ∈ wsL_law0_r4 ++ (wsL_law0_r5 ++ (wsL_law0_r6 ++ (wsL_law0_r7 ++ (wsL_law0_r8 ++ (wsL_law0_r9 ++ (wsL_law0_r10 ++ (wsL_law0_r11 ++ (wsL_law0_r12 ++ (wsL_law0_r13 ++ (wsL_law0_r14 ++ (wsL_law0_r15 ++ (wsL_law0_r16 ++ (wsL_law0_r17 ++ (wsL_law0_r18 ++ (wsL_law0_r19 ++ (wsL_law0_r20 ++ (wsL_law0_r21 ++ (wsL_law0_r22 ++ (wsL_law0_r23 ++ (wsL_law0_r24 ++ (wsL_law0_r25 ++ (wsL_law0_r26 ++ (wsL_law0_r27 ++ (wsL_law0_r28 ++ wsL_law0_r29)))))))))))))))))))))))), w ∈ lw_tbl := fun w h => (List.mem_append.mp h).elim (in_wsL_law0_r4 w) (in_r5 w)
theorem in_r3 : ∀ w ∈ wsL_law0_r3 ++ (wsL_law0_r4 ++ (wsL_law0_r5 ++ (wsL_law0_r6 ++ (wsL_law0_r7 ++ (wsL_law0_r8 ++ (wsL_law0_r9 ++ (wsL_law0_r10 ++ (wsL_law0_r11 ++ (wsL_law0_r12 ++ (wsL_law0_r13 ++ (wsL_law0_r14 ++ (wsL_law0_r15 ++ (wsL_law0_r16 ++ (wsL_law0_r17 ++ (wsL_law0_r18 ++ (wsL_law0_r19 ++ (wsL_law0_r20 ++ (wsL_law0_r21 ++ (wsL_law0_r22 ++ (wsL_law0_r23 ++ (wsL_law0_r24 ++ (wsL_law0_r25 ++ (wsL_law0_r26 ++ (wsL_law0_r27 ++ (wsL_law0_r28 ++ wsL_law0_r29))))))))))))))))))))))))), w ∈ lw_tbl := fun w h => (List.mem_append.mp h).elim (in_wsL_law0_r3 w) (in_r4 w)
theorem in_r2 : ∀ w ∈ wsL_law0_r2 ++ (wsL_law0_r3 ++ (wsL_law0_r4 ++ (wsL_law0_r5 ++ (wsL_law0_r6 ++ (wsL_law0_r7 ++ (wsL_law0_r8 ++ (wsL_law0_r9 ++ (wsL_law0_r10 ++ (wsL_law0_r11 ++ (wsL_law0_r12 ++ (wsL_law0_r13 ++ (wsL_law0_r14 ++ (wsL_law0_r15 ++ (wsL_law0_r16 ++ (wsL_law0_r17 ++ (wsL_law0_r18 ++ (wsL_law0_r19 ++ (wsL_law0_r20 ++ (wsL_law0_r21 ++ (wsL_law0_r22 ++ (wsL_law0_r23 ++ (wsL_law0_r24 ++ (wsL_law0_r25 ++ (wsL_law0_r26 ++ (wsL_law0_r27 ++ (wsL_law0_r28 ++ wsL_law0_r29)))))))))))))))))))))))))), w ∈ lw_tbl := fun w h => (List.mem_append.mp h).elim (in_wsL_law0_r2 w) (in_r3 w)
theorem in_r1 : ∀ w ∈ wsL_law0_r1 ++ (wsL_law0_r2 ++ (wsL_law0_r3 ++ (wsL_law0_r4 ++ (wsL_law0_r5 ++ (wsL_law0_r6 ++ (wsL_law0_r7 ++ (wsL_law0_r8 ++ (wsL_law0_r9 ++ (wsL_law0_r10 ++ (wsL_law0_r11 ++ (wsL_law0_r12 ++ (wsL_law0_r13 ++ (wsL_law0_r14 ++ (wsL_law0_r15 ++ (wsL_law0_r16 ++ (wsL_law0_r17 ++ (wsL_law0_r18 ++ (wsL_law0_r19 ++ (wsL_law0_r20 ++ (wsL_law0_r21 ++ (wsL_law0_r22 ++ (wsL_law0_r23 ++ (wsL_law0_r24 ++ (wsL_law0_r25 ++ (wsL_law0_r26 ++ (wsL_law0_r27 ++ (wsL_law0_r28 ++ wsL_law0_r29))))))))))))))))))))))))))), w ∈ lw_tbl := fun w h => (List.mem_append.mp h).elim (in_wsL_law0_r1 w) (in_r2 w)
theorem wsL_law_in0 : ∀ w ∈ wsL_law0, w ∈ lw_tbl := by
  intro w h
  unfold wsL_law0 at h
  rcases List.mem_append.mp h with h | h
  · rcases List.mem_append.mp h with h | h
    · rcases List.mem_append.mp h with h | h
      · rcases List.mem_append.mp h with h | h
        · rcases List.mem_append.mp h with h | h
          · rcases List.mem_append.mp h with h | h
            · rcases List.mem_append.mp h with h | h
              · exact in_r1 w h
              · exact inX4 w h
            · exact inX5 w h
          · exact inX2 w h
        · exact inX0 w h
      · exact inX3 w h
    · exact inX1 w h
  · exact absurd h List.not_mem_nil
theorem wsL_law_x0 : ∀ w ∈ (vx_atS RX4 39 "java/lang/IllegalArgumentException" ["java/lang/RuntimeException", "java/lang/Exception"]).filter goodWord, w ∈ lw_tbl := by decide +kernel
theorem wsL_law_x1 : ∀ w ∈ (vx_atS RX4 60 "java/lang/IndexOutOfBoundsException" ["java/lang/RuntimeException", "java/lang/Exception"]).filter goodWord, w ∈ lw_tbl := by decide +kernel
theorem wsL_law_x2 : ∀ w ∈ (vx_atS RX4 79 "java/lang/IllegalStateException" ["java/lang/RuntimeException", "java/lang/Exception"]).filter goodWord, w ∈ lw_tbl := by decide +kernel
theorem wsL_law_in : ∀ w ∈ wsL_law, w ∈ lw_tbl := fun w h => (List.mem_append.mp h).elim (fun h => (List.mem_append.mp h).elim (fun h => (List.mem_append.mp h).elim (fun h => wsL_law_in0 w h) (fun h => wsL_law_x0 w h)) (fun h => wsL_law_x1 w h)) (fun h => wsL_law_x2 w h)
