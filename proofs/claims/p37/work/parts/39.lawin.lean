theorem in_two {a b t : List Cond} (ha : ∀ w ∈ a, w ∈ t) (hb : ∀ w ∈ b, w ∈ t) : ∀ w ∈ a ++ b, w ∈ t := fun w h => (List.mem_append.mp h).elim (ha w) (hb w)
theorem wsL_in_r1 : ∀ w ∈ wsL_law0_r1, w ∈ lw_tbl := fun w h => (goodIn_r (big := lw_tbl) wsL_law0_r1 [56, 57, 31, 956, 422, 51, 423, 957, 455, 456, 58, 59, 60, 61, 62, 63, 64, 65, 32, 192, 96, 97, 33, 193] (by decide +kernel) (by decide +kernel) w h).1
theorem wsL_in_r2 : ∀ w ∈ wsL_law0_r2, w ∈ lw_tbl := fun w h => (goodIn_r (big := lw_tbl) wsL_law0_r2 [194, 167, 168, 38, 195, 196, 197, 198, 199, 200, 67, 68, 69, 70, 73, 76, 79, 82, 98, 99, 100, 101, 102, 103] (by decide +kernel) (by decide +kernel) w h).1
theorem wsL_in_r3 : ∀ w ∈ wsL_law0_r3, w ∈ lw_tbl := fun w h => (goodIn_r (big := lw_tbl) wsL_law0_r3 [36, 148, 150, 128, 129, 37, 152, 154, 147, 104, 105, 106, 114, 116, 107, 108, 35, 109, 118, 110, 111, 34, 112, 113] (by decide +kernel) (by decide +kernel) w h).1
theorem wsL_in_r4 : ∀ w ∈ wsL_law0_r4, w ∈ lw_tbl := fun w h => (goodIn_r (big := lw_tbl) wsL_law0_r4 [131, 132, 133, 146, 134, 135, 137, 170, 171, 172, 173, 174, 175, 176, 177, 178, 944, 945, 30, 946, 947, 940, 941, 942] (by decide +kernel) (by decide +kernel) w h).1
theorem wsL_in_r5 : ∀ w ∈ wsL_law0_r5, w ∈ lw_tbl := fun w h => (goodIn_r (big := lw_tbl) wsL_law0_r5 [943, 462, 463, 464, 465, 71, 224, 225, 226, 227, 228, 229, 230, 42, 466, 467, 468, 469, 74, 77, 470, 471, 472, 473] (by decide +kernel) (by decide +kernel) w h).1
theorem wsL_in_r6 : ∀ w ∈ wsL_law0_r6, w ∈ lw_tbl := fun w h => (goodIn_r (big := lw_tbl) wsL_law0_r6 [489, 386, 346, 347, 389, 474, 299, 300, 301, 117, 475, 476, 477, 478, 479, 480, 43, 481, 482, 483, 44, 484, 485, 486] (by decide +kernel) (by decide +kernel) w h).1
theorem wsL_in_r7 : ∀ w ∈ wsL_law0_r7, w ∈ lw_tbl := fun w h => (goodIn_r (big := lw_tbl) wsL_law0_r7 [487, 488, 302, 303, 304, 305, 45, 220, 221, 222, 223, 149, 321, 322, 46, 298, 323, 324, 325, 326, 327, 328, 48, 383] (by decide +kernel) (by decide +kernel) w h).1
theorem wsL_in_r8 : ∀ w ∈ wsL_law0_r8, w ∈ lw_tbl := fun w h => (goodIn_r (big := lw_tbl) wsL_law0_r8 [370, 371, 49, 385, 388, 381, 382, 330, 331, 336, 337, 338, 339, 342, 344, 333, 47, 334, 335, 345, 373, 374, 376, 402] (by decide +kernel) (by decide +kernel) w h).1
theorem wsL_in_r9 : ∀ w ∈ wsL_law0_r9, w ∈ lw_tbl := fun w h => (goodIn_r (big := lw_tbl) wsL_law0_r9 [403, 404, 405, 119, 120, 406, 408, 1, 409, 410, 412, 2, 413, 414, 416, 3, 417, 460, 461, 418, 419, 50, 420, 421] (by decide +kernel) (by decide +kernel) w h).1
theorem wsL_in_r10 : ∀ w ∈ wsL_law0_r10, w ∈ lw_tbl := fun w h => (goodIn_r (big := lw_tbl) wsL_law0_r10 [424, 425, 426, 427, 428, 429, 52, 430, 431, 975, 432, 447, 448, 449, 450, 451, 453, 454, 457, 459, 458, 53, 828, 829] (by decide +kernel) (by decide +kernel) w h).1
theorem wsL_in_r11 : ∀ w ∈ wsL_law0_r11, w ∈ lw_tbl := fun w h => (goodIn_r (big := lw_tbl) wsL_law0_r11 [830, 831, 832, 833, 151, 834, 715, 55, 321, 503, 505, 4, 506, 507, 54, 523, 835, 836, 837, 838, 846, 849, 839, 840] (by decide +kernel) (by decide +kernel) w h).1
theorem wsL_in_r12 : ∀ w ∈ wsL_law0_r12, w ∈ lw_tbl := fun w h => (goodIn_r (big := lw_tbl) wsL_law0_r12 [841, 842, 843, 844, 845, 729, 730, 731, 732, 155, 882, 883, 884, 885, 384, 524, 526, 5, 527, 528, 529, 530, 531, 532] (by decide +kernel) (by decide +kernel) w h).1
theorem wsL_in_r13 : ∀ w ∈ wsL_law0_r13, w ∈ lw_tbl := fun w h => (goodIn_r (big := lw_tbl) wsL_law0_r13 [537, 538, 539, 540, 886, 887, 888, 889, 343, 349, 350, 890, 550, 551, 552, 351, 553, 554, 555, 556, 891, 558, 559, 560] (by decide +kernel) (by decide +kernel) w h).1
theorem wsL_in_r14 : ∀ w ∈ wsL_law0_r14, w ∈ lw_tbl := fun w h => (goodIn_r (big := lw_tbl) wsL_law0_r14 [892, 570, 571, 572, 773, 775, 22, 776, 777, 778, 779, 780, 782, 23, 783, 784, 785, 787, 24, 788, 789, 790, 792, 25] (by decide +kernel) (by decide +kernel) w h).1
theorem wsL_in_r15 : ∀ w ∈ wsL_law0_r15, w ∈ lw_tbl := fun w h => (goodIn_r (big := lw_tbl) wsL_law0_r15 [793, 795, 797, 26, 798, 799, 737, 738, 739, 740, 741, 742, 743, 744, 733, 734, 735, 736, 499, 500, 501, 502, 533, 535] (by decide +kernel) (by decide +kernel) w h).1
theorem wsL_in_r16 : ∀ w ∈ wsL_law0_r16, w ∈ lw_tbl := fun w h => (goodIn_r (big := lw_tbl) wsL_law0_r16 [6, 536, 541, 542, 543, 544, 72, 545, 546, 547, 548, 549, 557, 561, 563, 7, 564, 565, 567, 8, 568, 569, 573, 574] (by decide +kernel) (by decide +kernel) w h).1
theorem wsL_in_r17 : ∀ w ∈ wsL_law0_r17, w ∈ lw_tbl := fun w h => (goodIn_r (big := lw_tbl) wsL_law0_r17 [575, 576, 577, 578, 579, 580, 581, 582, 584, 9, 585, 75, 586, 587, 588, 589, 590, 591, 592, 593, 594, 595, 596, 597] (by decide +kernel) (by decide +kernel) w h).1
theorem wsL_in_r18 : ∀ w ∈ wsL_law0_r18, w ∈ lw_tbl := fun w h => (goodIn_r (big := lw_tbl) wsL_law0_r18 [348, 611, 612, 598, 599, 600, 601, 602, 604, 605, 606, 607, 609, 10, 610, 613, 614, 615, 616, 617, 619, 11, 620, 78] (by decide +kernel) (by decide +kernel) w h).1
theorem wsL_in_r19 : ∀ w ∈ wsL_law0_r19, w ∈ lw_tbl := fun w h => (goodIn_r (big := lw_tbl) wsL_law0_r19 [621, 622, 623, 624, 625, 626, 627, 628, 629, 630, 631, 763, 764, 765, 766, 341, 749, 750, 751, 767, 768, 769, 770, 340] (by decide +kernel) (by decide +kernel) w h).1
theorem wsL_in_r20 : ∀ w ∈ wsL_law0_r20, w ∈ lw_tbl := fun w h => (goodIn_r (big := lw_tbl) wsL_law0_r20 [771, 759, 760, 761, 772, 490, 491, 492, 493, 81, 84, 917, 918, 919, 920, 498, 921, 649, 650, 651, 870, 871, 872, 873] (by decide +kernel) (by decide +kernel) w h).1
theorem wsL_in_r21 : ∀ w ∈ wsL_law0_r21, w ∈ lw_tbl := fun w h => (goodIn_r (big := lw_tbl) wsL_law0_r21 [153, 136, 893, 894, 895, 896, 138, 636, 638, 12, 639, 897, 898, 899, 900, 656, 901, 902, 903, 904, 905, 906, 907, 908] (by decide +kernel) (by decide +kernel) w h).1
theorem wsL_in_r22 : ∀ w ∈ wsL_law0_r22, w ∈ lw_tbl := fun w h => (goodIn_r (big := lw_tbl) wsL_law0_r22 [909, 910, 911, 912, 913, 914, 915, 916, 640, 641, 642, 643, 847, 644, 645, 646, 647, 80, 83, 648, 652, 654, 13, 655] (by decide +kernel) (by decide +kernel) w h).1
theorem wsL_in_r23 : ∀ w ∈ wsL_law0_r23, w ∈ lw_tbl := fun w h => (goodIn_r (big := lw_tbl) wsL_law0_r23 [352, 657, 658, 659, 660, 661, 662, 663, 664, 665, 666, 667, 668, 669, 670, 671, 672, 673, 674, 675, 676, 353, 677, 678] (by decide +kernel) (by decide +kernel) w h).1
theorem wsL_in_r24 : ∀ w ∈ wsL_law0_r24, w ∈ lw_tbl := fun w h => (goodIn_r (big := lw_tbl) wsL_law0_r24 [679, 680, 681, 683, 14, 684, 685, 686, 688, 15, 689, 690, 692, 16, 693, 694, 696, 17, 697, 698, 699, 701, 18, 702] (by decide +kernel) (by decide +kernel) w h).1
theorem wsL_in_r25 : ∀ w ∈ wsL_law0_r25, w ∈ lw_tbl := fun w h => (goodIn_r (big := lw_tbl) wsL_law0_r25 [703, 704, 705, 706, 707, 708, 709, 710, 711, 712, 714, 19, 716, 717, 719, 20, 720, 721, 723, 21, 724, 725, 726, 727] (by decide +kernel) (by decide +kernel) w h).1
theorem wsL_in_r26 : ∀ w ∈ wsL_law0_r26, w ∈ lw_tbl := fun w h => (goodIn_r (big := lw_tbl) wsL_law0_r26 [728, 632, 633, 634, 635, 874, 875, 876, 877, 878, 879, 880, 881, 922, 923, 924, 925, 926, 927, 387, 390, 834, 848, 850] (by decide +kernel) (by decide +kernel) w h).1
theorem wsL_in_r27 : ∀ w ∈ wsL_law0_r27, w ∈ lw_tbl := fun w h => (goodIn_r (big := lw_tbl) wsL_law0_r27 [928, 930, 28, 931, 753, 762, 932, 933, 934, 354, 812, 935, 937, 29, 938, 817, 819, 27, 820, 821, 939, 494, 495, 496] (by decide +kernel) (by decide +kernel) w h).1
theorem wsL_in_r28 : ∀ w ∈ wsL_law0_r28, w ∈ lw_tbl := fun w h => (goodIn_r (big := lw_tbl) wsL_law0_r28 [497, 813, 814, 815, 816, 800, 801, 802, 803, 804, 805, 806, 807, 808, 809, 810, 811, 745, 746, 747, 748, 754, 755, 756] (by decide +kernel) (by decide +kernel) w h).1
theorem wsL_in_r29 : ∀ w ∈ wsL_law0_r29, w ∈ lw_tbl := fun w h => (goodIn_r (big := lw_tbl) wsL_law0_r29 [757, 758, 822, 823, 824, 825, 826, 827, 948, 949, 950, 951, 952, 953, 954, 955] (by decide +kernel) (by decide +kernel) w h).1
theorem wsL_in_X90 : ∀ w ∈ wsX90, w ∈ lw_tbl := fun w h => (goodIn_r (big := lw_tbl) wsX90 [201, 203, 205, 207, 209, 211, 213, 215, 217] (by decide +kernel) (by decide +kernel) w h).1
theorem wsL_in_X70 : ∀ w ∈ wsX70, w ∈ lw_tbl := fun w h => (goodIn_r (big := lw_tbl) wsX70 [85, 87, 89, 91, 93] (by decide +kernel) (by decide +kernel) w h).1
theorem wsL_in_X80 : ∀ w ∈ wsX80, w ∈ lw_tbl := fun w h => (goodIn_r (big := lw_tbl) wsX80 [156, 158, 160, 162, 164] (by decide +kernel) (by decide +kernel) w h).1
theorem wsL_in_X30 : ∀ w ∈ wsX30, w ∈ lw_tbl := fun w h => (goodIn_r (big := lw_tbl) wsX30 [179, 181, 183, 185, 187, 189] (by decide +kernel) (by decide +kernel) w h).1
theorem wsL_in_Jx4a65c0 : ∀ w ∈ wsJx4a65c0, w ∈ lw_tbl := fun w h => (goodIn_r (big := lw_tbl) wsJx4a65c0 [125, 121, 123] (by decide +kernel) (by decide +kernel) w h).1
theorem wsL_in_X10 : ∀ w ∈ wsX10, w ∈ lw_tbl := fun w h => (goodIn_r (big := lw_tbl) wsX10 [139, 141, 143] (by decide +kernel) (by decide +kernel) w h).1
theorem wsL_in_X60 : ∀ w ∈ wsX60, w ∈ lw_tbl := fun w h => (goodIn_r (big := lw_tbl) wsX60 [391, 393, 395, 397, 399] (by decide +kernel) (by decide +kernel) w h).1
theorem wsL_in_X00 : ∀ w ∈ wsX00, w ∈ lw_tbl := fun w h => (goodIn_r (big := lw_tbl) wsX00 [379, 377] (by decide +kernel) (by decide +kernel) w h).1
theorem wsL_in_X40 : ∀ w ∈ wsX40, w ∈ lw_tbl := fun w h => (goodIn_r (big := lw_tbl) wsX40 [367, 355, 357, 359, 361, 363, 365] (by decide +kernel) (by decide +kernel) w h).1
theorem wsL_in_X50 : ∀ w ∈ wsX50, w ∈ lw_tbl := fun w h => (goodIn_r (big := lw_tbl) wsX50 [851, 853, 855, 857, 859, 861, 863, 865, 867] (by decide +kernel) (by decide +kernel) w h).1
theorem wsL_law_in0 : ∀ w ∈ wsL_law0, w ∈ lw_tbl := in_two (in_two (in_two (in_two (in_two (in_two (in_two (in_two (in_two (in_two (in_two (in_two wsL_in_r1 (in_two wsL_in_r2 (in_two wsL_in_r3 (in_two wsL_in_r4 (in_two wsL_in_r5 (in_two wsL_in_r6 (in_two wsL_in_r7 (in_two wsL_in_r8 (in_two wsL_in_r9 (in_two wsL_in_r10 (in_two wsL_in_r11 (in_two wsL_in_r12 (in_two wsL_in_r13 (in_two wsL_in_r14 (in_two wsL_in_r15 (in_two wsL_in_r16 (in_two wsL_in_r17 (in_two wsL_in_r18 (in_two wsL_in_r19 (in_two wsL_in_r20 (in_two wsL_in_r21 (in_two wsL_in_r22 (in_two wsL_in_r23 (in_two wsL_in_r24 (in_two wsL_in_r25 (in_two wsL_in_r26 (in_two wsL_in_r27 (in_two wsL_in_r28 wsL_in_r29)))))))))))))))))))))))))))) wsL_in_X90) wsL_in_X70) wsL_in_X80) wsL_in_X30) wsL_in_Jx4a65c0) wsL_in_X10) wsL_in_X60) wsL_in_X00) wsL_in_X40) wsL_in_X50) (fun w h => nomatch h)
theorem wsL_law_in : ∀ w ∈ wsL_law, w ∈ lw_tbl := fun w h => (List.mem_append.mp h).elim (fun h => (List.mem_append.mp h).elim (fun h => (List.mem_append.mp h).elim (fun h => wsL_law_in0 w h) (fun h => wsL_law_x0 w h)) (fun h => wsL_law_x1 w h)) (fun h => wsL_law_x2 w h)
theorem inX0 : ∀ w ∈ wsX00, w ∈ lw_tbl := fun w h => wsL_law_in w (inlX0 w h)
theorem inX1 : ∀ w ∈ wsX10, w ∈ lw_tbl := fun w h => wsL_law_in w (inlX1 w h)
theorem inX2 : ∀ w ∈ wsX20, w ∈ lw_tbl := by decide +kernel
theorem inX3 : ∀ w ∈ wsX30, w ∈ lw_tbl := fun w h => wsL_law_in w (inlX3 w h)
theorem inX4 : ∀ w ∈ wsX40, w ∈ lw_tbl := fun w h => wsL_law_in w (inlX4 w h)
theorem inX5 : ∀ w ∈ wsX50, w ∈ lw_tbl := fun w h => wsL_law_in w (inlX5 w h)
theorem inX6 : ∀ w ∈ wsX60, w ∈ lw_tbl := fun w h => wsL_law_in w (inlX6 w h)
theorem inX7 : ∀ w ∈ wsX70, w ∈ lw_tbl := fun w h => wsL_law_in w (inlX7 w h)
theorem inX8 : ∀ w ∈ wsX80, w ∈ lw_tbl := fun w h => wsL_law_in w (inlX8 w h)
theorem inX9 : ∀ w ∈ wsX90, w ∈ lw_tbl := fun w h => wsL_law_in w (inlX9 w h)
theorem inX10 : ∀ w ∈ wsX100, w ∈ lw_tbl := by decide +kernel
theorem inX11 : ∀ w ∈ wsX110, w ∈ lw_tbl := by decide +kernel
theorem inX12 : ∀ w ∈ wsX120, w ∈ lw_tbl := by decide +kernel
theorem inX13 : ∀ w ∈ wsX130, w ∈ lw_tbl := by decide +kernel
theorem inX14 : ∀ w ∈ wsX140, w ∈ lw_tbl := by decide +kernel
theorem inX15 : ∀ w ∈ wsX150, w ∈ lw_tbl := by decide +kernel
theorem inJx145de : ∀ w ∈ wsJx145de0, w ∈ lw_tbl := by decide +kernel
theorem inJx8e188 : ∀ w ∈ wsJx8e1880, w ∈ lw_tbl := by decide +kernel
theorem inJxab1ab : ∀ w ∈ wsJxab1ab0, w ∈ lw_tbl := by decide +kernel
theorem inJ9 : ∀ w ∈ wsJ90, w ∈ lw_tbl := by decide +kernel
theorem inJ0 : ∀ w ∈ wsJ00, w ∈ lw_tbl := by decide +kernel
theorem inJ10 : ∀ w ∈ wsJ100, w ∈ lw_tbl := by decide +kernel
theorem inJxa1e45 : ∀ w ∈ wsJxa1e450, w ∈ lw_tbl := by decide +kernel
theorem inJxc12de : ∀ w ∈ wsJxc12de0, w ∈ lw_tbl := by decide +kernel
theorem inJx4a65c : ∀ w ∈ wsJx4a65c0, w ∈ lw_tbl := fun w h => wsL_law_in w (inlJx4a65c w h)
theorem inJ7 : ∀ w ∈ wsJ70, w ∈ lw_tbl := by decide +kernel
theorem inJx5ef63 : ∀ w ∈ wsJx5ef630, w ∈ lw_tbl := by decide +kernel
theorem inJxbd725 : ∀ w ∈ wsJxbd7250, w ∈ lw_tbl := by decide +kernel
theorem inJ15 : ∀ w ∈ wsJ150, w ∈ lw_tbl := by decide +kernel
theorem inJxf0a74 : ∀ w ∈ wsJxf0a740, w ∈ lw_tbl := by decide +kernel
theorem inJxa66e6 : ∀ w ∈ wsJxa66e60, w ∈ lw_tbl := by decide +kernel
theorem inJ8 : ∀ w ∈ wsJ80, w ∈ lw_tbl := by decide +kernel
theorem inJ3 : ∀ w ∈ wsJ30, w ∈ lw_tbl := by decide +kernel
