/-! the law's words are the tables' -/
theorem in_at {big ws : List Cond} (ps : List Nat) (h : ps.map (fun i => big[i]?) = ws.map some) : ∀ w ∈ ws, w ∈ big := by
  intro w hw
  have h1 : some w ∈ ws.map some := List.mem_map.mpr ⟨w, hw, rfl⟩
  rw [← h] at h1
  obtain ⟨i, -, hi⟩ := List.mem_map.mp h1
  exact List.mem_of_getElem? hi
set_option maxRecDepth 100000 in
theorem wsLi_r1 : ∀ w ∈ wsL_law_r1, w ∈ lw_tbl := in_at [49, 50, 37, 590, 591, 43, 51, 52, 53, 54, 55, 56, 57, 58, 38, 180, 181, 119, 120, 40, 182, 136, 137, 41] rfl
set_option maxRecDepth 100000 in
theorem wsLi_r2 : ∀ w ∈ wsL_law_r2, w ∈ lw_tbl := in_at [183, 150, 151, 42, 184, 185, 60, 61, 62, 63, 64, 39, 74, 73, 76, 77, 78, 80, 82, 83, 84, 86, 88, 90] rfl
set_option maxRecDepth 100000 in
theorem wsLi_r3 : ∀ w ∈ wsL_law_r3, w ∈ lw_tbl := in_at [92, 65, 66, 67, 68, 69, 121, 122, 123, 124, 125, 128, 129, 139, 140, 141, 142, 143, 153, 154, 155, 592, 593, 594] rfl
set_option maxRecDepth 100000 in
theorem wsLi_r4 : ∀ w ∈ wsL_law_r4, w ∈ lw_tbl := in_at [595, 596, 597, 598, 600, 602, 199, 200, 201, 202, 203, 204, 205, 206, 207, 208, 209, 210, 211, 212, 213, 214, 215, 216] rfl
set_option maxRecDepth 100000 in
theorem wsLi_r5 : ∀ w ∈ wsL_law_r5, w ∈ lw_tbl := in_at [217, 218, 220, 0, 221, 222, 223, 224, 225, 226, 227, 228, 229, 230, 231, 44, 232, 233, 234, 235, 236, 237, 238, 239] rfl
set_option maxRecDepth 100000 in
theorem wsLi_r6 : ∀ w ∈ wsL_law_r6, w ∈ lw_tbl := in_at [240, 241, 242, 243, 244, 636, 637, 638, 639, 640, 642, 10, 643, 644, 645, 646, 647, 649, 11, 650, 651, 653, 12, 654] rfl
set_option maxRecDepth 100000 in
theorem wsLi_r7 : ∀ w ∈ wsL_law_r7, w ∈ lw_tbl := in_at [601, 245, 246, 247, 248, 249, 250, 251, 252, 253, 254, 255, 256, 257, 258, 259, 260, 261, 262, 263, 264, 265, 266, 267] rfl
set_option maxRecDepth 100000 in
theorem wsLi_r8 : ∀ w ∈ wsL_law_r8, w ∈ lw_tbl := in_at [268, 655, 656, 657, 658, 659, 661, 13, 662, 663, 665, 14, 666, 667, 669, 15, 670, 269, 270, 271, 272, 273, 275, 1] rfl
set_option maxRecDepth 100000 in
theorem wsLi_r9 : ∀ w ∈ wsL_law_r9, w ∈ lw_tbl := in_at [276, 277, 278, 279, 280, 281, 282, 283, 284, 285, 286, 287, 288, 289, 290, 291, 292, 161, 163, 156, 157, 158, 159, 160] rfl
set_option maxRecDepth 100000 in
theorem wsLi_r10 : ∀ w ∈ wsL_law_r10, w ∈ lw_tbl := in_at [293, 294, 295, 296, 297, 298, 299, 300, 45, 301, 302, 304, 2, 305, 327, 321, 47, 322, 306, 307, 308, 309, 310, 311] rfl
set_option maxRecDepth 100000 in
theorem wsLi_r11 : ∀ w ∈ wsL_law_r11, w ∈ lw_tbl := in_at [312, 313, 320, 314, 315, 46, 316, 317, 318, 319, 323, 324, 325, 326, 328, 330, 3, 331, 671, 672, 673, 674, 604, 675] rfl
set_option maxRecDepth 100000 in
theorem wsLi_r12 : ∀ w ∈ wsL_law_r12, w ∈ lw_tbl := in_at [677, 16, 678, 679, 681, 17, 682, 683, 685, 18, 686, 687, 689, 19, 690, 605, 691, 692, 693, 694, 696, 20, 697, 698] rfl
set_option maxRecDepth 100000 in
theorem wsLi_r13 : ∀ w ∈ wsL_law_r13, w ∈ lw_tbl := in_at [700, 21, 701, 702, 703, 704, 705, 707, 22, 708, 332, 333, 334, 335, 709, 710, 711, 712, 336, 337, 338, 339, 340, 341] rfl
set_option maxRecDepth 100000 in
theorem wsLi_r14 : ∀ w ∈ wsL_law_r14, w ∈ lw_tbl := in_at [342, 343, 344, 713, 714, 715, 716, 717, 719, 23, 720, 345, 346, 347, 348, 349, 350, 351, 352, 353, 354, 355, 356, 357] rfl
set_option maxRecDepth 100000 in
theorem wsLi_r15 : ∀ w ∈ wsL_law_r15, w ∈ lw_tbl := in_at [358, 721, 722, 723, 724, 359, 360, 361, 362, 725, 726, 727, 728, 363, 364, 365, 366, 367, 368, 369, 370, 371, 372, 373] rfl
set_option maxRecDepth 100000 in
theorem wsLi_r16 : ∀ w ∈ wsL_law_r16, w ∈ lw_tbl := in_at [374, 375, 376, 377, 378, 379, 380, 381, 382, 383, 384, 729, 730, 731, 732, 733, 735, 24, 736, 385, 386, 387, 388, 389] rfl
set_option maxRecDepth 100000 in
theorem wsLi_r17 : ∀ w ∈ wsL_law_r17, w ∈ lw_tbl := in_at [390, 391, 392, 393, 394, 395, 396, 397, 398, 399, 737, 738, 739, 740, 400, 401, 402, 403, 404, 405, 406, 407, 408, 409] rfl
set_option maxRecDepth 100000 in
theorem wsLi_r18 : ∀ w ∈ wsL_law_r18, w ∈ lw_tbl := in_at [410, 411, 412, 413, 414, 741, 742, 743, 744, 745, 747, 25, 748, 749, 751, 26, 752, 753, 754, 755, 415, 416, 417, 418] rfl
set_option maxRecDepth 100000 in
theorem wsLi_r19 : ∀ w ∈ wsL_law_r19, w ∈ lw_tbl := in_at [419, 420, 421, 422, 423, 424, 425, 426, 427, 428, 430, 4, 431, 432, 433, 434, 435, 436, 437, 756, 757, 758, 759, 760] rfl
set_option maxRecDepth 100000 in
theorem wsLi_r20 : ∀ w ∈ wsL_law_r20, w ∈ lw_tbl := in_at [762, 27, 763, 764, 766, 28, 767, 438, 439, 440, 441, 442, 443, 444, 445, 446, 768, 769, 770, 771, 447, 448, 449, 450] rfl
set_option maxRecDepth 100000 in
theorem wsLi_r21 : ∀ w ∈ wsL_law_r21, w ∈ lw_tbl := in_at [451, 452, 453, 454, 455, 456, 457, 458, 459, 772, 773, 774, 775, 776, 778, 29, 779, 460, 461, 462, 463, 464, 465, 466] rfl
set_option maxRecDepth 100000 in
theorem wsLi_r22 : ∀ w ∈ wsL_law_r22, w ∈ lw_tbl := in_at [467, 468, 469, 470, 471, 472, 473, 474, 475, 780, 781, 782, 783, 603, 599, 784, 786, 30, 787, 788, 790, 31, 791, 476] rfl
set_option maxRecDepth 100000 in
theorem wsLi_r23 : ∀ w ∈ wsL_law_r23, w ∈ lw_tbl := in_at [477, 478, 479, 792, 793, 794, 795, 480, 481, 482, 483, 796, 797, 798, 799, 484, 485, 486, 487, 488, 490, 5, 491, 492] rfl
set_option maxRecDepth 100000 in
theorem wsLi_r24 : ∀ w ∈ wsL_law_r24, w ∈ lw_tbl := in_at [493, 494, 495, 496, 800, 801, 802, 803, 804, 805, 48, 806, 810, 812, 811, 48, 813, 807, 808, 809, 497, 498, 499, 500] rfl
set_option maxRecDepth 100000 in
theorem wsLi_r25 : ∀ w ∈ wsL_law_r25, w ∈ lw_tbl := in_at [502, 501, 814, 815, 816, 817, 503, 504, 505, 506, 507, 818, 819, 820, 821, 508, 509, 510, 511, 822, 823, 824, 825, 512] rfl
set_option maxRecDepth 100000 in
theorem wsLi_r26 : ∀ w ∈ wsL_law_r26, w ∈ lw_tbl := in_at [513, 514, 515, 516, 517, 518, 519, 826, 827, 828, 829, 520, 521, 522, 523, 524, 525, 526, 527, 830, 831, 832, 833, 528] rfl
set_option maxRecDepth 100000 in
theorem wsLi_r27 : ∀ w ∈ wsL_law_r27, w ∈ lw_tbl := in_at [529, 530, 531, 834, 835, 836, 837, 532, 533, 534, 535, 536, 537, 538, 539, 540, 542, 6, 543, 564, 544, 545, 546, 547] rfl
set_option maxRecDepth 100000 in
theorem wsLi_r28 : ∀ w ∈ wsL_law_r28, w ∈ lw_tbl := in_at [548, 550, 7, 551, 552, 553, 554, 555, 556, 557, 558, 559, 560, 562, 8, 563, 565, 567, 9, 568, 569, 570, 571, 572] rfl
set_option maxRecDepth 100000 in
theorem wsLi_r29 : ∀ w ∈ wsL_law_r29, w ∈ lw_tbl := in_at [573, 574, 575, 838, 839, 840, 841, 606, 607, 842, 844, 32, 845, 608, 846, 848, 33, 849, 850, 852, 34, 853, 854, 856] rfl
set_option maxRecDepth 100000 in
theorem wsLi_r30 : ∀ w ∈ wsL_law_r30, w ∈ lw_tbl := in_at [35, 857, 576, 577, 578, 579, 580, 581, 582, 583, 584, 585, 586, 587, 588, 589, 858, 859, 860, 861] rfl
set_option maxRecDepth 100000 in
theorem inX7 : ∀ w ∈ wsX70, w ∈ lw_tbl := in_at [186, 188, 190, 192, 194, 196] rfl
set_option maxRecDepth 100000 in
theorem inX8 : ∀ w ∈ wsX80, w ∈ lw_tbl := in_at [609, 611, 613, 615, 617, 619, 621, 623, 625, 627, 629, 631, 633] rfl
set_option maxRecDepth 100000 in
theorem inX0 : ∀ w ∈ wsX00, w ∈ lw_tbl := in_at [94, 96, 98, 100, 102, 104, 106, 108, 110, 112, 114, 116] rfl
set_option maxRecDepth 100000 in
theorem inX2 : ∀ w ∈ wsX20, w ∈ lw_tbl := in_at [131, 133] rfl
set_option maxRecDepth 100000 in
theorem inX5 : ∀ w ∈ wsX50, w ∈ lw_tbl := in_at [145, 147] rfl
set_option maxRecDepth 100000 in
theorem inX1 : ∀ w ∈ wsX10, w ∈ lw_tbl := in_at [165, 167, 169, 171, 173, 175, 177] rfl
set_option maxRecDepth 100000 in
theorem inX3 : ∀ w ∈ wsX30, w ∈ lw_tbl := in_at [70] rfl
theorem wsL_law_in : ∀ w ∈ wsL_law, w ∈ lw_tbl := by
  intro w h
  unfold wsL_law at h
  simp only [List.mem_append] at h
  rcases h with (((((((((h | (h | (h | (h | (h | (h | (h | (h | (h | (h | (h | (h | (h | (h | (h | (h | (h | (h | (h | (h | (h | (h | (h | (h | (h | (h | (h | (h | (h | h)))))))))))))))))))))))))))))) | h) | h) | h) | h) | h) | h) | h) | h
  · exact wsLi_r1 w h
  · exact wsLi_r2 w h
  · exact wsLi_r3 w h
  · exact wsLi_r4 w h
  · exact wsLi_r5 w h
  · exact wsLi_r6 w h
  · exact wsLi_r7 w h
  · exact wsLi_r8 w h
  · exact wsLi_r9 w h
  · exact wsLi_r10 w h
  · exact wsLi_r11 w h
  · exact wsLi_r12 w h
  · exact wsLi_r13 w h
  · exact wsLi_r14 w h
  · exact wsLi_r15 w h
  · exact wsLi_r16 w h
  · exact wsLi_r17 w h
  · exact wsLi_r18 w h
  · exact wsLi_r19 w h
  · exact wsLi_r20 w h
  · exact wsLi_r21 w h
  · exact wsLi_r22 w h
  · exact wsLi_r23 w h
  · exact wsLi_r24 w h
  · exact wsLi_r25 w h
  · exact wsLi_r26 w h
  · exact wsLi_r27 w h
  · exact wsLi_r28 w h
  · exact wsLi_r29 w h
  · exact wsLi_r30 w h
  · exact inX7 w h
  · exact inX8 w h
  · exact inX0 w h
  · exact inX2 w h
  · exact inX5 w h
  · exact inX1 w h
  · exact inX3 w h
  · exact absurd h List.not_mem_nil
