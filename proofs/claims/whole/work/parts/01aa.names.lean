theorem mem_ps {big : List Cond} (ps : List Nat) {ws : List Cond} (hp : ws = ps.filterMap (fun i => big[i]?)) : ∀ w ∈ ws, w ∈ big := by
  intro w hw
  rw [hp] at hw
  obtain ⟨i, -, hi⟩ := List.mem_filterMap.mp hw
  exact List.mem_of_getElem? hi
set_option maxRecDepth 20000 in
theorem wsLr1_in : ∀ w ∈ wsL_law_r1, w ∈ lw_tbl := mem_ps [63, 64, 56, 538, 539, 60, 65, 66, 67, 68, 69, 70, 71, 72, 57, 169, 170, 116, 117, 58, 171, 135, 136, 59] rfl
set_option maxRecDepth 20000 in
theorem wsLr2_in : ∀ w ∈ wsL_law_r2, w ∈ lw_tbl := mem_ps [172, 73, 74, 75, 76, 115, 81, 82, 83, 84, 85, 77, 79, 0, 80, 118, 119, 120, 121, 122, 125, 124, 138, 139] rfl
set_option maxRecDepth 20000 in
theorem wsLr3_in : ∀ w ∈ wsL_law_r3, w ∈ lw_tbl := mem_ps [140, 141, 143, 144, 146, 147, 540, 541, 542, 543, 544, 545, 547, 548, 552, 553, 554, 182, 183, 184, 185, 186, 187, 188] rfl
set_option maxRecDepth 20000 in
theorem wsLr4_in : ∀ w ∈ wsL_law_r4, w ∈ lw_tbl := mem_ps [189, 190, 192, 1, 193, 126, 127, 194, 195, 61, 196, 197, 198, 199, 200, 201, 203, 202, 62, 86, 87, 88, 89, 90] rfl
set_option maxRecDepth 20000 in
theorem wsLr5_in : ∀ w ∈ wsL_law_r5, w ∈ lw_tbl := mem_ps [91, 204, 205, 206, 207, 208, 209, 210, 211, 213, 2, 214, 215, 216, 217, 218, 220, 3, 221, 222, 223, 224, 225, 582] rfl
set_option maxRecDepth 20000 in
theorem wsLr6_in : ∀ w ∈ wsL_law_r6, w ∈ lw_tbl := mem_ps [583, 584, 585, 586, 587, 588, 589, 590, 591, 592, 594, 22, 595, 596, 598, 23, 599, 600, 602, 24, 603, 604, 606, 25] rfl
set_option maxRecDepth 20000 in
theorem wsLr7_in : ∀ w ∈ wsL_law_r7, w ∈ lw_tbl := mem_ps [607, 551, 546, 608, 610, 26, 611, 226, 227, 228, 229, 230, 231, 232, 233, 612, 613, 614, 615, 234, 235, 236, 237, 238] rfl
set_option maxRecDepth 20000 in
theorem wsLr8_in : ∀ w ∈ wsL_law_r8, w ∈ lw_tbl := mem_ps [239, 240, 241, 242, 243, 244, 245, 246, 248, 4, 249, 250, 251, 252, 253, 254, 255, 256, 257, 258, 260, 5, 261, 262] rfl
set_option maxRecDepth 20000 in
theorem wsLr9_in : ∀ w ∈ wsL_law_r9, w ∈ lw_tbl := mem_ps [264, 6, 265, 266, 268, 7, 269, 270, 272, 8, 273, 274, 276, 9, 277, 282, 283, 61, 284, 278, 279, 280, 281, 285] rfl
set_option maxRecDepth 20000 in
theorem wsLr10_in : ∀ w ∈ wsL_law_r10, w ∈ lw_tbl := mem_ps [287, 10, 288, 289, 291, 11, 292, 616, 617, 618, 619, 620, 622, 27, 623, 624, 626, 28, 627, 628, 630, 29, 631, 632] rfl
set_option maxRecDepth 20000 in
theorem wsLr11_in : ∀ w ∈ wsL_law_r11, w ∈ lw_tbl := mem_ps [634, 30, 635, 636, 638, 31, 639, 640, 642, 32, 643, 644, 646, 33, 647, 648, 650, 34, 651, 652, 653, 654, 655, 657] rfl
set_option maxRecDepth 20000 in
theorem wsLr12_in : ∀ w ∈ wsL_law_r12, w ∈ lw_tbl := mem_ps [35, 658, 659, 661, 36, 662, 663, 664, 665, 293, 294, 295, 296, 297, 298, 299, 300, 301, 303, 12, 304, 305, 306, 307] rfl
set_option maxRecDepth 20000 in
theorem wsLr13_in : ∀ w ∈ wsL_law_r13, w ∈ lw_tbl := mem_ps [308, 666, 667, 668, 669, 670, 672, 37, 673, 309, 310, 311, 312, 313, 314, 315, 316, 317, 318, 319, 320, 321, 322, 323] rfl
set_option maxRecDepth 20000 in
theorem wsLr14_in : ∀ w ∈ wsL_law_r14, w ∈ lw_tbl := mem_ps [324, 325, 327, 13, 328, 674, 675, 676, 677, 678, 680, 38, 681, 682, 684, 39, 685, 686, 688, 40, 689, 690, 692, 41] rfl
set_option maxRecDepth 20000 in
theorem wsLr15_in : ∀ w ∈ wsL_law_r15, w ∈ lw_tbl := mem_ps [693, 329, 330, 331, 332, 333, 334, 335, 336, 337, 338, 339, 340, 341, 342, 343, 344, 578, 579, 580, 581, 345, 346, 347] rfl
set_option maxRecDepth 20000 in
theorem wsLr16_in : ∀ w ∈ wsL_law_r16, w ∈ lw_tbl := mem_ps [348, 349, 350, 351, 352, 142, 353, 354, 355, 356, 357, 358, 359, 360, 361, 694, 695, 696, 697, 549, 362, 363, 364, 365] rfl
set_option maxRecDepth 20000 in
theorem wsLr17_in : ∀ w ∈ wsL_law_r17, w ∈ lw_tbl := mem_ps [366, 367, 368, 369, 698, 699, 700, 701, 370, 371, 372, 373, 374, 375, 376, 377, 149, 145, 148, 378, 380, 14, 381, 382] rfl
set_option maxRecDepth 20000 in
theorem wsLr18_in : ∀ w ∈ wsL_law_r18, w ∈ lw_tbl := mem_ps [383, 384, 385, 386, 388, 15, 389, 390, 392, 16, 393, 394, 396, 17, 397, 398, 400, 18, 401, 402, 404, 19, 405, 406] rfl
set_option maxRecDepth 20000 in
theorem wsLr19_in : ∀ w ∈ wsL_law_r19, w ∈ lw_tbl := mem_ps [407, 408, 409, 411, 20, 412, 413, 414, 415, 416, 417, 418, 419, 420, 421, 422, 423, 424, 425, 426, 427, 428, 429, 431] rfl
set_option maxRecDepth 20000 in
theorem wsLr20_in : ∀ w ∈ wsL_law_r20, w ∈ lw_tbl := mem_ps [21, 432, 433, 434, 435, 436, 437, 702, 703, 704, 705, 550, 706, 708, 42, 709, 710, 712, 43, 713, 714, 715, 716, 717] rfl
set_option maxRecDepth 20000 in
theorem wsLr21_in : ∀ w ∈ wsL_law_r21, w ∈ lw_tbl := mem_ps [719, 44, 720, 721, 723, 45, 724, 725, 727, 46, 728, 729, 731, 47, 732, 733, 735, 48, 736, 737, 738, 739, 740, 741] rfl
set_option maxRecDepth 20000 in
theorem wsLr22_in : ∀ w ∈ wsL_law_r22, w ∈ lw_tbl := mem_ps [743, 49, 744, 745, 747, 50, 748, 438, 439, 440, 441, 442, 443, 444, 445, 446, 447, 448, 449, 450, 451, 452, 453, 454] rfl
set_option maxRecDepth 20000 in
theorem wsLr23_in : ∀ w ∈ wsL_law_r23, w ∈ lw_tbl := mem_ps [455, 456, 457, 458, 459, 460, 461, 462, 463, 464, 465, 466, 467, 468, 469, 470, 471, 472, 473, 474, 749, 750, 751, 752] rfl
set_option maxRecDepth 20000 in
theorem wsLr24_in : ∀ w ∈ wsL_law_r24, w ∈ lw_tbl := mem_ps [753, 755, 51, 756, 475, 476, 477, 478, 479, 480, 481, 482, 483, 757, 758, 759, 760, 484, 485, 486, 487, 488, 489, 490] rfl
set_option maxRecDepth 20000 in
theorem wsLr25_in : ∀ w ∈ wsL_law_r25, w ∈ lw_tbl := mem_ps [491, 492, 761, 762, 763, 764, 765, 767, 52, 768, 493, 494, 495, 496, 497, 498, 499, 500, 501, 502, 503, 504, 505, 506] rfl
set_option maxRecDepth 20000 in
theorem wsLr26_in : ∀ w ∈ wsL_law_r26, w ∈ lw_tbl := mem_ps [507, 508, 509, 769, 770, 771, 772, 773, 775, 53, 776, 510, 511, 512, 513, 518, 519, 520, 514, 515, 516, 517, 777, 778] rfl
set_option maxRecDepth 20000 in
theorem wsLr27_in : ∀ w ∈ wsL_law_r27, w ∈ lw_tbl := mem_ps [779, 780, 781, 783, 54, 784, 521, 522, 523, 524, 525, 526, 527, 785, 786, 787, 788, 528, 529, 530, 531, 532, 789, 790] rfl
set_option maxRecDepth 20000 in
theorem wsLr28_in : ∀ w ∈ wsL_law_r28, w ∈ lw_tbl := mem_ps [791, 792, 533, 534, 535, 536, 537, 793, 794, 795, 796] rfl
set_option maxRecDepth 20000 in
theorem wsX30_in : ∀ w ∈ wsX30, w ∈ lw_tbl := mem_ps [173, 175, 177, 179] rfl
set_option maxRecDepth 20000 in
theorem wsX40_in : ∀ w ∈ wsX40, w ∈ lw_tbl := mem_ps [555, 557, 559, 561, 563, 565, 567, 569, 571, 573, 575] rfl
set_option maxRecDepth 20000 in
theorem wsX10_in : ∀ w ∈ wsX10, w ∈ lw_tbl := mem_ps [92, 94, 96, 98, 100, 102, 104, 106, 108, 110, 112] rfl
set_option maxRecDepth 20000 in
theorem wsX00_in : ∀ w ∈ wsX00, w ∈ lw_tbl := mem_ps [128, 130, 132] rfl
set_option maxRecDepth 20000 in
theorem wsX20_in : ∀ w ∈ wsX20, w ∈ lw_tbl := mem_ps [150, 152, 154, 156, 158, 160, 162, 164, 166] rfl
theorem wsL_app {a b : List Cond} (h1 : ∀ w ∈ a, w ∈ lw_tbl) (h2 : ∀ w ∈ b, w ∈ lw_tbl) : ∀ w ∈ a ++ b, w ∈ lw_tbl := fun w h => (List.mem_append.mp h).elim (h1 w) (h2 w)
theorem wsL_law_in : ∀ w ∈ wsL_law, w ∈ lw_tbl := wsL_app (wsL_app (wsL_app (wsL_app (wsL_app (wsL_app (wsL_app wsLr1_in (wsL_app wsLr2_in (wsL_app wsLr3_in (wsL_app wsLr4_in (wsL_app wsLr5_in (wsL_app wsLr6_in (wsL_app wsLr7_in (wsL_app wsLr8_in (wsL_app wsLr9_in (wsL_app wsLr10_in (wsL_app wsLr11_in (wsL_app wsLr12_in (wsL_app wsLr13_in (wsL_app wsLr14_in (wsL_app wsLr15_in (wsL_app wsLr16_in (wsL_app wsLr17_in (wsL_app wsLr18_in (wsL_app wsLr19_in (wsL_app wsLr20_in (wsL_app wsLr21_in (wsL_app wsLr22_in (wsL_app wsLr23_in (wsL_app wsLr24_in (wsL_app wsLr25_in (wsL_app wsLr26_in (wsL_app wsLr27_in (wsLr28_in)))))))))))))))))))))))))))) wsX30_in) wsX40_in) wsX10_in) wsX00_in) wsX20_in) (fun _ h => absurd h List.not_mem_nil)
theorem inlX0 : ∀ w ∈ wsX00, w ∈ wsL_law := fun _ h => List.mem_append_left _ (List.mem_append_left _ (List.mem_append_right _ h))
theorem inX0 : ∀ w ∈ wsX00, w ∈ lw_tbl := fun w h => wsL_law_in w (inlX0 w h)
theorem inlX1 : ∀ w ∈ wsX10, w ∈ wsL_law := fun _ h => List.mem_append_left _ (List.mem_append_left _ (List.mem_append_left _ (List.mem_append_right _ h)))
theorem inX1 : ∀ w ∈ wsX10, w ∈ lw_tbl := fun w h => wsL_law_in w (inlX1 w h)
theorem inlX2 : ∀ w ∈ wsX20, w ∈ wsL_law := fun _ h => List.mem_append_left _ (List.mem_append_right _ h)
theorem inX2 : ∀ w ∈ wsX20, w ∈ lw_tbl := fun w h => wsL_law_in w (inlX2 w h)
theorem inlX3 : ∀ w ∈ wsX30, w ∈ wsL_law := fun _ h => List.mem_append_left _ (List.mem_append_left _ (List.mem_append_left _ (List.mem_append_left _ (List.mem_append_left _ (List.mem_append_right _ h)))))
theorem inX3 : ∀ w ∈ wsX30, w ∈ lw_tbl := fun w h => wsL_law_in w (inlX3 w h)
theorem inlX4 : ∀ w ∈ wsX40, w ∈ wsL_law := fun _ h => List.mem_append_left _ (List.mem_append_left _ (List.mem_append_left _ (List.mem_append_left _ (List.mem_append_right _ h))))
theorem inX4 : ∀ w ∈ wsX40, w ∈ lw_tbl := fun w h => wsL_law_in w (inlX4 w h)
theorem inJ9 : ∀ w ∈ wsJ90, w ∈ lw_tbl := by decide +kernel
theorem inJ10 : ∀ w ∈ wsJ100, w ∈ lw_tbl := by decide +kernel
