/-! the law's words are the tables' -/
theorem in_at {big ws : List Cond} (ps : List Nat) (h : ps.map (fun i => big[i]?) = ws.map some) : ∀ w ∈ ws, w ∈ big := by
  intro w hw
  have h1 : some w ∈ ws.map some := List.mem_map.mpr ⟨w, hw, rfl⟩
  rw [← h] at h1
  obtain ⟨i, -, hi⟩ := List.mem_map.mp h1
  exact List.mem_of_getElem? hi
set_option maxRecDepth 100000 in
theorem wsLi_r1 : ∀ w ∈ wsL_law_r1, w ∈ lw_tbl := in_at [49, 50, 37, 586, 587, 44, 51, 52, 53, 54, 55, 56, 57, 58, 38, 184, 185, 123, 124, 41, 186, 140, 141, 42] rfl
set_option maxRecDepth 100000 in
theorem wsLi_r2 : ∀ w ∈ wsL_law_r2, w ∈ lw_tbl := in_at [187, 154, 155, 43, 188, 189, 59, 60, 61, 62, 63, 64, 39, 80, 76, 82, 83, 84, 86, 88, 90, 92, 94, 96] rfl
set_option maxRecDepth 100000 in
theorem wsLi_r3 : ∀ w ∈ wsL_law_r3, w ∈ lw_tbl := in_at [98, 65, 66, 67, 68, 72, 69, 70, 40, 71, 77, 78, 79, 125, 126, 127, 128, 129, 132, 133, 131, 143, 144, 145] rfl
set_option maxRecDepth 100000 in
theorem wsLi_r4 : ∀ w ∈ wsL_law_r4, w ∈ lw_tbl := in_at [146, 147, 157, 158, 159, 588, 589, 590, 591, 592, 593, 594, 596, 598, 203, 204, 205, 206, 207, 208, 209, 210, 211, 212] rfl
set_option maxRecDepth 100000 in
theorem wsLi_r5 : ∀ w ∈ wsL_law_r5, w ∈ lw_tbl := in_at [213, 214, 215, 216, 217, 218, 219, 220, 221, 222, 224, 0, 225, 226, 227, 228, 229, 230, 231, 232, 233, 234, 235, 236] rfl
set_option maxRecDepth 100000 in
theorem wsLi_r6 : ∀ w ∈ wsL_law_r6, w ∈ lw_tbl := in_at [237, 238, 239, 240, 241, 242, 243, 244, 245, 246, 632, 633, 634, 635, 636, 638, 10, 639, 640, 641, 642, 643, 645, 11] rfl
set_option maxRecDepth 100000 in
theorem wsLi_r7 : ∀ w ∈ wsL_law_r7, w ∈ lw_tbl := in_at [646, 647, 649, 12, 650, 597, 247, 248, 249, 250, 251, 252, 253, 254, 255, 256, 257, 258, 259, 260, 261, 262, 263, 264] rfl
set_option maxRecDepth 100000 in
theorem wsLi_r8 : ∀ w ∈ wsL_law_r8, w ∈ lw_tbl := in_at [265, 266, 267, 268, 269, 270, 271, 272, 273, 651, 652, 653, 654, 655, 657, 13, 658, 659, 661, 14, 662, 663, 665, 15] rfl
set_option maxRecDepth 100000 in
theorem wsLi_r9 : ∀ w ∈ wsL_law_r9, w ∈ lw_tbl := in_at [666, 274, 275, 276, 277, 278, 280, 1, 281, 282, 283, 284, 285, 286, 287, 288, 289, 290, 291, 292, 293, 294, 295, 296] rfl
set_option maxRecDepth 100000 in
theorem wsLi_r10 : ∀ w ∈ wsL_law_r10, w ∈ lw_tbl := in_at [297, 165, 167, 160, 161, 162, 163, 164, 298, 299, 300, 301, 302, 303, 304, 305, 45, 306, 307, 309, 2, 310, 332, 326] rfl
set_option maxRecDepth 100000 in
theorem wsLi_r11 : ∀ w ∈ wsL_law_r11, w ∈ lw_tbl := in_at [47, 327, 311, 312, 313, 314, 315, 316, 317, 318, 325, 319, 320, 46, 321, 322, 323, 324, 328, 329, 330, 331, 333, 335] rfl
set_option maxRecDepth 100000 in
theorem wsLi_r12 : ∀ w ∈ wsL_law_r12, w ∈ lw_tbl := in_at [3, 336, 667, 668, 669, 670, 600, 671, 673, 16, 674, 675, 677, 17, 678, 679, 681, 18, 682, 683, 685, 19, 686, 601] rfl
set_option maxRecDepth 100000 in
theorem wsLi_r13 : ∀ w ∈ wsL_law_r13, w ∈ lw_tbl := in_at [687, 688, 689, 690, 692, 20, 693, 694, 696, 21, 697, 698, 699, 700, 701, 703, 22, 704, 337, 338, 339, 340, 705, 706] rfl
set_option maxRecDepth 100000 in
theorem wsLi_r14 : ∀ w ∈ wsL_law_r14, w ∈ lw_tbl := in_at [707, 708, 341, 342, 343, 344, 345, 346, 347, 348, 349, 709, 710, 711, 712, 713, 715, 23, 716, 350, 351, 352, 353, 354] rfl
set_option maxRecDepth 100000 in
theorem wsLi_r15 : ∀ w ∈ wsL_law_r15, w ∈ lw_tbl := in_at [355, 356, 357, 358, 359, 360, 361, 362, 363, 717, 718, 719, 720, 364, 365, 366, 367, 721, 722, 723, 724, 368, 369, 370] rfl
set_option maxRecDepth 100000 in
theorem wsLi_r16 : ∀ w ∈ wsL_law_r16, w ∈ lw_tbl := in_at [371, 372, 373, 374, 375, 376, 377, 378, 379, 380, 381, 382, 383, 384, 385, 386, 387, 388, 389, 725, 726, 727, 728, 729] rfl
set_option maxRecDepth 100000 in
theorem wsLi_r17 : ∀ w ∈ wsL_law_r17, w ∈ lw_tbl := in_at [731, 24, 732, 390, 391, 392, 393, 394, 395, 396, 397, 398, 733, 734, 735, 736, 399, 400, 401, 402, 403, 404, 405, 406] rfl
set_option maxRecDepth 100000 in
theorem wsLi_r18 : ∀ w ∈ wsL_law_r18, w ∈ lw_tbl := in_at [407, 408, 409, 410, 411, 412, 413, 737, 738, 739, 740, 741, 743, 25, 744, 745, 747, 26, 748, 749, 750, 751, 414, 415] rfl
set_option maxRecDepth 100000 in
theorem wsLi_r19 : ∀ w ∈ wsL_law_r19, w ∈ lw_tbl := in_at [416, 417, 418, 419, 420, 421, 422, 423, 424, 425, 426, 427, 429, 4, 430, 431, 432, 433, 434, 435, 436, 752, 753, 754] rfl
set_option maxRecDepth 100000 in
theorem wsLi_r20 : ∀ w ∈ wsL_law_r20, w ∈ lw_tbl := in_at [755, 756, 758, 27, 759, 760, 762, 28, 763, 437, 438, 439, 440, 441, 442, 443, 444, 445, 764, 765, 766, 767, 446, 447] rfl
set_option maxRecDepth 100000 in
theorem wsLi_r21 : ∀ w ∈ wsL_law_r21, w ∈ lw_tbl := in_at [448, 449, 450, 451, 452, 453, 454, 455, 456, 457, 458, 768, 769, 770, 771, 772, 774, 29, 775, 459, 460, 461, 462, 463] rfl
set_option maxRecDepth 100000 in
theorem wsLi_r22 : ∀ w ∈ wsL_law_r22, w ∈ lw_tbl := in_at [464, 465, 466, 467, 468, 469, 470, 471, 472, 473, 474, 776, 777, 778, 779, 599, 595, 780, 782, 30, 783, 784, 786, 31] rfl
set_option maxRecDepth 100000 in
theorem wsLi_r23 : ∀ w ∈ wsL_law_r23, w ∈ lw_tbl := in_at [787, 475, 476, 477, 478, 788, 789, 790, 791, 479, 480, 481, 482, 792, 793, 794, 795, 483, 484, 485, 486, 487, 489, 5] rfl
set_option maxRecDepth 100000 in
theorem wsLi_r24 : ∀ w ∈ wsL_law_r24, w ∈ lw_tbl := in_at [490, 491, 492, 493, 494, 495, 796, 797, 798, 799, 800, 801, 48, 802, 806, 808, 807, 48, 809, 803, 804, 805, 496, 497] rfl
set_option maxRecDepth 100000 in
theorem wsLi_r25 : ∀ w ∈ wsL_law_r25, w ∈ lw_tbl := in_at [498, 499, 501, 500, 810, 811, 812, 813, 502, 503, 504, 505, 506, 814, 815, 816, 817, 507, 508, 509, 510, 818, 819, 820] rfl
set_option maxRecDepth 100000 in
theorem wsLi_r26 : ∀ w ∈ wsL_law_r26, w ∈ lw_tbl := in_at [821, 511, 512, 513, 514, 515, 516, 517, 518, 822, 823, 824, 825, 519, 520, 521, 522, 523, 524, 525, 526, 826, 827, 828] rfl
set_option maxRecDepth 100000 in
theorem wsLi_r27 : ∀ w ∈ wsL_law_r27, w ∈ lw_tbl := in_at [829, 527, 528, 529, 530, 830, 831, 832, 833, 531, 532, 533, 534, 535, 536, 537, 538, 539, 541, 6, 542, 563, 543, 544] rfl
set_option maxRecDepth 100000 in
theorem wsLi_r28 : ∀ w ∈ wsL_law_r28, w ∈ lw_tbl := in_at [545, 546, 547, 549, 7, 550, 551, 552, 553, 554, 555, 556, 557, 558, 559, 561, 8, 562, 564, 566, 9, 567, 568, 569] rfl
set_option maxRecDepth 100000 in
theorem wsLi_r29 : ∀ w ∈ wsL_law_r29, w ∈ lw_tbl := in_at [570, 571, 572, 573, 574, 834, 835, 836, 837, 602, 603, 838, 840, 32, 841, 604, 842, 844, 33, 845, 846, 848, 34, 849] rfl
set_option maxRecDepth 100000 in
theorem wsLi_r30 : ∀ w ∈ wsL_law_r30, w ∈ lw_tbl := in_at [850, 852, 35, 853, 575, 576, 577, 578, 579, 580, 581, 582, 583, 584, 585, 854, 855, 856, 857] rfl
set_option maxRecDepth 100000 in
theorem inX7 : ∀ w ∈ wsX70, w ∈ lw_tbl := in_at [190, 192, 194, 196, 198, 200] rfl
set_option maxRecDepth 100000 in
theorem inX8 : ∀ w ∈ wsX80, w ∈ lw_tbl := in_at [605, 607, 609, 611, 613, 615, 617, 619, 621, 623, 625, 627, 629] rfl
set_option maxRecDepth 100000 in
theorem inX0 : ∀ w ∈ wsX00, w ∈ lw_tbl := in_at [100, 102, 104, 106, 108, 110, 112, 114, 116, 118, 120] rfl
set_option maxRecDepth 100000 in
theorem inX2 : ∀ w ∈ wsX20, w ∈ lw_tbl := in_at [135, 137] rfl
set_option maxRecDepth 100000 in
theorem inX5 : ∀ w ∈ wsX50, w ∈ lw_tbl := in_at [149, 151] rfl
set_option maxRecDepth 100000 in
theorem inX1 : ∀ w ∈ wsX10, w ∈ lw_tbl := in_at [169, 171, 173, 175, 177, 179, 181] rfl
set_option maxRecDepth 100000 in
theorem inX3 : ∀ w ∈ wsX30, w ∈ lw_tbl := in_at [73] rfl
theorem wsL_law_in : ∀ w ∈ wsL_law, w ∈ lw_tbl := by
  intro w h
  unfold wsL_law at h
  simp only [List.mem_append] at h
  rcases h with (((((((((h | (h | (h | (h | (h | (h | (h | (h | (h | (h | (h | (h | (h | (h | (h | (h | (h | (h | (h | (h | (h | (h | (h | (h | (h | (h | (h | (h | (h | h)))))))))))))))))))))))))))))) | h) | h) | h) | h) | h) | h) | h) | h
  · exact wsLi_r1 w h
  · exact wsLi_r2 w h
  · exact wsLi_r3 w h
  · exact wsLi_r4 w h
  · exact wsLi_r5 w h
  · exact wsLi_r6 w h
  · exact wsLi_r7 w h
  · exact wsLi_r8 w h
  · exact wsLi_r9 w h
  · exact wsLi_r10 w h
  · exact wsLi_r11 w h
  · exact wsLi_r12 w h
  · exact wsLi_r13 w h
  · exact wsLi_r14 w h
  · exact wsLi_r15 w h
  · exact wsLi_r16 w h
  · exact wsLi_r17 w h
  · exact wsLi_r18 w h
  · exact wsLi_r19 w h
  · exact wsLi_r20 w h
  · exact wsLi_r21 w h
  · exact wsLi_r22 w h
  · exact wsLi_r23 w h
  · exact wsLi_r24 w h
  · exact wsLi_r25 w h
  · exact wsLi_r26 w h
  · exact wsLi_r27 w h
  · exact wsLi_r28 w h
  · exact wsLi_r29 w h
  · exact wsLi_r30 w h
  · exact inX7 w h
  · exact inX8 w h
  · exact inX0 w h
  · exact inX2 w h
  · exact inX5 w h
  · exact inX1 w h
  · exact inX3 w h
  · exact absurd h List.not_mem_nil
