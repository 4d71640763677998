theorem gk_in {big ws : List Cond} (ps : List Nat) (hp : ws = ps.filterMap (fun i => big[i]?)) : ∀ w ∈ ws, w ∈ big := by
  intro w hw
  rw [hp] at hw
  obtain ⟨i, -, hi⟩ := List.mem_filterMap.mp hw
  first | exact List.mem_of_getElem? hi | exact List.getElem?_mem hi
set_option maxRecDepth 20000 in
theorem in_wsL_law_r1 : ∀ w ∈ wsL_law_r1, w ∈ lw_tbl := gk_in [56, 57, 44, 554, 555, 52, 58, 59, 60, 61, 62, 63, 64, 65, 45, 246, 125, 127, 128, 129, 130, 131, 133, 247] (by decide +kernel)
set_option maxRecDepth 20000 in
theorem in_wsL_law_r2 : ∀ w ∈ wsL_law_r2, w ∈ lw_tbl := gk_in [134, 135, 46, 248, 156, 157, 47, 249, 174, 175, 48, 250, 190, 191, 49, 208, 209, 50, 251, 230, 231, 51, 252, 67] (by decide +kernel)
set_option maxRecDepth 20000 in
theorem in_wsL_law_r3 : ∀ w ∈ wsL_law_r3, w ∈ lw_tbl := gk_in [68, 69, 124, 77, 83, 89, 94, 100, 106, 136, 137, 138, 139, 143, 145, 140, 158, 159, 160, 161, 162, 176, 177, 178] (by decide +kernel)
set_option maxRecDepth 20000 in
theorem in_wsL_law_r4 : ∀ w ∈ wsL_law_r4, w ∈ lw_tbl := gk_in [179, 180, 181, 182, 192, 193, 194, 195, 198, 196, 197, 210, 211, 212, 213, 216, 218, 214, 215, 232, 233, 234, 235, 238] (by decide +kernel)
set_option maxRecDepth 20000 in
theorem in_wsL_law_r5 : ∀ w ∈ wsL_law_r5, w ∈ lw_tbl := gk_in [236, 237, 556, 557, 558, 559, 561, 562, 563, 564, 566, 567, 568, 569, 560, 570, 268, 269, 270, 271, 71, 272, 274, 273] (by decide +kernel)
set_option maxRecDepth 20000 in
theorem in_wsL_law_r6 : ∀ w ∈ wsL_law_r6, w ∈ lw_tbl := gk_in [53, 592, 593, 594, 595, 565, 275, 276, 277, 278, 279, 280, 281, 282, 283, 284, 285, 286, 287, 288, 289, 70, 290, 291] (by decide +kernel)
set_option maxRecDepth 20000 in
theorem in_wsL_law_r7 : ∀ w ∈ wsL_law_r7, w ∈ lw_tbl := gk_in [292, 293, 294, 296, 0, 297, 298, 300, 1, 301, 596, 597, 598, 599, 600, 601, 602, 603, 604, 606, 19, 607, 608, 610] (by decide +kernel)
set_option maxRecDepth 20000 in
theorem in_wsL_law_r8 : ∀ w ∈ wsL_law_r8, w ∈ lw_tbl := gk_in [20, 611, 612, 614, 21, 615, 302, 303, 304, 305, 306, 307, 308, 309, 311, 616, 617, 618, 619, 312, 313, 314, 315, 620] (by decide +kernel)
set_option maxRecDepth 20000 in
theorem in_wsL_law_r9 : ∀ w ∈ wsL_law_r9, w ∈ lw_tbl := gk_in [621, 622, 623, 316, 317, 318, 319, 99, 624, 625, 626, 627, 320, 321, 322, 323, 324, 325, 326, 327, 328, 329, 330, 331] (by decide +kernel)
set_option maxRecDepth 20000 in
theorem in_wsL_law_r10 : ∀ w ∈ wsL_law_r10, w ∈ lw_tbl := gk_in [217, 332, 334, 2, 335, 76, 336, 337, 338, 54, 339, 340, 341, 342, 343, 344, 55, 345, 346, 347, 348, 349, 350, 351] (by decide +kernel)
set_option maxRecDepth 20000 in
theorem in_wsL_law_r11 : ∀ w ∈ wsL_law_r11, w ∈ lw_tbl := gk_in [352, 353, 354, 355, 356, 358, 3, 359, 104, 360, 361, 362, 363, 79, 85, 91, 368, 369, 370, 364, 366, 4, 367, 371] (by decide +kernel)
set_option maxRecDepth 20000 in
theorem in_wsL_law_r12 : ∀ w ∈ wsL_law_r12, w ∈ lw_tbl := gk_in [373, 5, 374, 200, 375, 377, 6, 378, 107, 379, 380, 381, 382, 98, 383, 385, 7, 386, 662, 663, 664, 665, 666, 629] (by decide +kernel)
set_option maxRecDepth 20000 in
theorem in_wsL_law_r13 : ∀ w ∈ wsL_law_r13, w ∈ lw_tbl := gk_in [630, 631, 649, 632, 634, 22, 635, 636, 638, 23, 639, 640, 642, 24, 643, 644, 645, 647, 25, 648, 650, 652, 26, 653] (by decide +kernel)
set_option maxRecDepth 20000 in
theorem in_wsL_law_r14 : ∀ w ∈ wsL_law_r14, w ∈ lw_tbl := gk_in [654, 656, 27, 657, 658, 660, 28, 661, 667, 669, 29, 670, 387, 628, 388, 389, 390, 391, 392, 393, 394, 395, 73, 101] (by decide +kernel)
set_option maxRecDepth 20000 in
theorem in_wsL_law_r15 : ∀ w ∈ wsL_law_r15, w ∈ lw_tbl := gk_in [199, 95, 402, 396, 397, 399, 8, 400, 401, 671, 672, 673, 674, 403, 404, 405, 406, 407, 408, 409, 410, 411, 412, 413] (by decide +kernel)
set_option maxRecDepth 20000 in
theorem in_wsL_law_r16 : ∀ w ∈ wsL_law_r16, w ∈ lw_tbl := gk_in [414, 415, 416, 417, 418, 419, 420, 421, 422, 423, 425, 9, 426, 75, 90, 428, 427, 429, 431, 10, 432, 80, 86, 433] (by decide +kernel)
set_option maxRecDepth 20000 in
theorem in_wsL_law_r17 : ∀ w ∈ wsL_law_r17, w ∈ lw_tbl := gk_in [435, 11, 436, 437, 438, 439, 440, 72, 103, 163, 165, 441, 443, 12, 444, 96, 445, 446, 448, 13, 449, 92, 450, 452] (by decide +kernel)
set_option maxRecDepth 20000 in
theorem in_wsL_law_r18 : ∀ w ∈ wsL_law_r18, w ∈ lw_tbl := gk_in [14, 453, 454, 456, 15, 457, 81, 87, 458, 460, 16, 461, 462, 463, 464, 465, 466, 467, 468, 469, 675, 676, 677, 678] (by decide +kernel)
set_option maxRecDepth 20000 in
theorem in_wsL_law_r19 : ∀ w ∈ wsL_law_r19, w ∈ lw_tbl := gk_in [679, 681, 30, 682, 683, 685, 31, 686, 687, 689, 32, 690, 691, 692, 693, 694, 695, 697, 33, 698, 699, 701, 34, 702] (by decide +kernel)
set_option maxRecDepth 20000 in
theorem in_wsL_law_r20 : ∀ w ∈ wsL_law_r20, w ∈ lw_tbl := gk_in [703, 705, 35, 706, 707, 709, 36, 710, 470, 471, 472, 473, 82, 88, 93, 108, 474, 475, 476, 477, 478, 711, 712, 713] (by decide +kernel)
set_option maxRecDepth 20000 in
theorem in_wsL_law_r21 : ∀ w ∈ wsL_law_r21, w ∈ lw_tbl := gk_in [714, 479, 480, 481, 482, 105, 715, 716, 717, 718, 483, 484, 485, 486, 487, 488, 489, 490, 719, 720, 721, 722, 723, 725] (by decide +kernel)
set_option maxRecDepth 20000 in
theorem in_wsL_law_r22 : ∀ w ∈ wsL_law_r22, w ∈ lw_tbl := gk_in [37, 726, 491, 492, 493, 494, 495, 496, 497, 498, 500, 499, 727, 728, 729, 730, 501, 502, 503, 504, 142, 505, 506, 507] (by decide +kernel)
set_option maxRecDepth 20000 in
theorem in_wsL_law_r23 : ∀ w ∈ wsL_law_r23, w ∈ lw_tbl := gk_in [508, 141, 74, 102, 78, 84, 517, 509, 511, 17, 512, 97, 513, 515, 18, 516, 518, 519, 520, 521, 731, 732, 733, 734] (by decide +kernel)
set_option maxRecDepth 20000 in
theorem in_wsL_law_r24 : ∀ w ∈ wsL_law_r24, w ∈ lw_tbl := gk_in [735, 737, 38, 738, 739, 741, 39, 742, 743, 745, 40, 746, 747, 749, 41, 750, 751, 753, 42, 754, 522, 523, 524, 525] (by decide +kernel)
set_option maxRecDepth 20000 in
theorem in_wsL_law_r25 : ∀ w ∈ wsL_law_r25, w ∈ lw_tbl := gk_in [144, 146, 755, 756, 757, 758, 526, 527, 528, 529, 530, 759, 531, 532, 533, 534, 164, 166, 760, 761, 762, 763, 535, 536] (by decide +kernel)
set_option maxRecDepth 20000 in
theorem in_wsL_law_r26 : ∀ w ∈ wsL_law_r26, w ∈ lw_tbl := gk_in [537, 538, 539, 540, 541, 542, 543, 544, 545, 546, 547, 764, 765, 766, 767, 548, 549, 550, 551, 552, 553, 768, 769, 770] (by decide +kernel)
set_option maxRecDepth 20000 in
theorem in_wsL_law_r27 : ∀ w ∈ wsL_law_r27, w ∈ lw_tbl := gk_in [771] (by decide +kernel)
set_option maxRecDepth 20000 in
theorem inX0 : ∀ w ∈ wsX00, w ∈ lw_tbl := by decide +kernel
set_option maxRecDepth 20000 in
theorem inX1 : ∀ w ∈ wsX10, w ∈ lw_tbl := by decide +kernel
set_option maxRecDepth 20000 in
theorem inX2 : ∀ w ∈ wsX20, w ∈ lw_tbl := by decide +kernel
set_option maxRecDepth 20000 in
theorem inX3 : ∀ w ∈ wsX30, w ∈ lw_tbl := by decide +kernel
set_option maxRecDepth 20000 in
theorem inX4 : ∀ w ∈ wsX40, w ∈ lw_tbl := by decide +kernel
set_option maxRecDepth 20000 in
theorem inX5 : ∀ w ∈ wsX50, w ∈ lw_tbl := by decide +kernel
set_option maxRecDepth 20000 in
theorem inX6 : ∀ w ∈ wsX60, w ∈ lw_tbl := by decide +kernel
set_option maxRecDepth 20000 in
theorem inX7 : ∀ w ∈ wsX70, w ∈ lw_tbl := by decide +kernel
set_option maxRecDepth 20000 in
theorem inX8 : ∀ w ∈ wsX80, w ∈ lw_tbl := by decide +kernel
theorem wsL_law_in : ∀ w ∈ wsL_law, w ∈ lw_tbl := List.forall_mem_append.mpr ⟨List.forall_mem_append.mpr ⟨List.forall_mem_append.mpr ⟨List.forall_mem_append.mpr ⟨List.forall_mem_append.mpr ⟨List.forall_mem_append.mpr ⟨List.forall_mem_append.mpr ⟨List.forall_mem_append.mpr ⟨List.forall_mem_append.mpr ⟨List.forall_mem_append.mpr ⟨List.forall_mem_append.mpr ⟨in_wsL_law_r1, List.forall_mem_append.mpr ⟨in_wsL_law_r2, List.forall_mem_append.mpr ⟨in_wsL_law_r3, List.forall_mem_append.mpr ⟨in_wsL_law_r4, List.forall_mem_append.mpr ⟨in_wsL_law_r5, List.forall_mem_append.mpr ⟨in_wsL_law_r6, List.forall_mem_append.mpr ⟨in_wsL_law_r7, List.forall_mem_append.mpr ⟨in_wsL_law_r8, List.forall_mem_append.mpr ⟨in_wsL_law_r9, List.forall_mem_append.mpr ⟨in_wsL_law_r10, List.forall_mem_append.mpr ⟨in_wsL_law_r11, List.forall_mem_append.mpr ⟨in_wsL_law_r12, List.forall_mem_append.mpr ⟨in_wsL_law_r13, List.forall_mem_append.mpr ⟨in_wsL_law_r14, List.forall_mem_append.mpr ⟨in_wsL_law_r15, List.forall_mem_append.mpr ⟨in_wsL_law_r16, List.forall_mem_append.mpr ⟨in_wsL_law_r17, List.forall_mem_append.mpr ⟨in_wsL_law_r18, List.forall_mem_append.mpr ⟨in_wsL_law_r19, List.forall_mem_append.mpr ⟨in_wsL_law_r20, List.forall_mem_append.mpr ⟨in_wsL_law_r21, List.forall_mem_append.mpr ⟨in_wsL_law_r22, List.forall_mem_append.mpr ⟨in_wsL_law_r23, List.forall_mem_append.mpr ⟨in_wsL_law_r24, List.forall_mem_append.mpr ⟨in_wsL_law_r25, List.forall_mem_append.mpr ⟨in_wsL_law_r26, in_wsL_law_r27⟩⟩⟩⟩⟩⟩⟩⟩⟩⟩⟩⟩⟩⟩⟩⟩⟩⟩⟩⟩⟩⟩⟩⟩⟩⟩, inX7⟩, inX8⟩, inX6⟩, inX5⟩, inX4⟩, inX0⟩, inX3⟩, inX1⟩, inX2⟩, fun _ h => absurd h List.not_mem_nil⟩
