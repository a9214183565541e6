/-! THE START: what the Statement gives of the constants; both objects; then the loop -/
def flN : List Cond := flatC (Jvm.Cond.and given_1 narrow_1)
def tmS (i : Nat) : Term := .string (sR i).1 (sR i).2.1
def pEx : List Nat := [9, 16, 21, 26, 33, 39, 45, 51, 57, 63, 72, 86, 92, 98, 104, 114, 123, 132, 138, 146, 153, 158, 164, 170, 177, 185, 193, 201, 209, 217, 225, 233, 241, 250, 260, 266, 273, 282, 293, 301, 308, 312, 317, 323, 330, 336, 342, 349, 355, 361, 367, 372, 377, 382, 387, 398, 405, 415, 423, 431, 439, 447, 455, 463, 470, 478, 486, 494, 500, 509, 516, 523, 528, 537, 544, 555, 564, 572, 581, 592, 599, 610, 617, 628, 637, 646, 656, 663, 672, 678, 687, 695, 704, 712, 721, 728, 734, 742, 749, 758, 766, 772, 779, 786]
def pCo : List Nat := [10, 17, 22, 27, 34, 40, 46, 52, 58, 64, 73, 87, 93, 99, 105, 115, 124, 133, 139, 147, 154, 159, 165, 171, 178, 186, 194, 202, 210, 218, 226, 234, 242, 251, 261, 267, 274, 283, 294, 302, 309, 313, 318, 324, 331, 337, 343, 350, 356, 362, 368, 373, 378, 383, 388, 399, 406, 416, 424, 432, 440, 448, 456, 464, 471, 479, 487, 495, 501, 510, 517, 524, 529, 538, 545, 556, 565, 573, 582, 593, 600, 611, 618, 629, 638, 647, 657, 664, 673, 679, 688, 696, 705, 713, 722, 729, 735, 743, 750, 759, 767, 773, 780, 787]
def pAr : List Nat := [11, 18, 23, 28, 35, 41, 47, 53, 59, 65, 74, 88, 94, 100, 106, 116, 125, 134, 140, 148, 155, 160, 166, 172, 179, 187, 195, 203, 211, 219, 227, 235, 243, 252, 262, 268, 275, 284, 295, 303, 310, 314, 319, 325, 332, 338, 344, 351, 357, 363, 369, 374, 379, 384, 389, 400, 407, 417, 425, 433, 441, 449, 457, 465, 472, 480, 488, 496, 502, 511, 518, 525, 530, 539, 546, 557, 566, 574, 583, 594, 601, 612, 619, 630, 639, 648, 658, 665, 674, 680, 689, 697, 706, 714, 723, 730, 736, 744, 751, 760, 768, 774, 781, 788]
def pLe : List Nat := [12, 19, 24, 29, 36, 42, 48, 54, 60, 66, 75, 89, 95, 101, 107, 117, 126, 135, 141, 149, 156, 161, 167, 173, 180, 188, 196, 204, 212, 220, 228, 236, 244, 253, 263, 269, 276, 285, 296, 304, 311, 315, 320, 326, 333, 339, 345, 352, 358, 364, 370, 375, 380, 385, 390, 401, 408, 418, 426, 434, 442, 450, 458, 466, 473, 481, 489, 497, 503, 512, 519, 526, 531, 540, 547, 558, 567, 575, 584, 595, 602, 613, 620, 631, 640, 649, 659, 666, 675, 681, 690, 698, 707, 715, 724, 731, 737, 745, 752, 761, 769, 775, 782, 789]
def pEl : List (List Nat) := [[13, 14, 15], [20], [25], [30, 31, 32], [37, 38], [43, 44], [49, 50], [55, 56], [61, 62], [67, 68, 69, 70, 71], [76, 77, 78, 79, 80, 81, 82, 83, 84, 85], [90, 91], [96, 97], [102, 103], [108, 109, 110, 111, 112, 113], [118, 119, 120, 121, 122], [127, 128, 129, 130, 131], [136, 137], [142, 143, 144, 145], [150, 151, 152], [157], [162, 163], [168, 169], [174, 175, 176], [181, 182, 183, 184], [189, 190, 191, 192], [197, 198, 199, 200], [205, 206, 207, 208], [213, 214, 215, 216], [221, 222, 223, 224], [229, 230, 231, 232], [237, 238, 239, 240], [245, 246, 247, 248, 249], [254, 255, 256, 257, 258, 259], [264, 265], [270, 271, 272], [277, 278, 279, 280, 281], [286, 287, 288, 289, 290, 291, 292], [297, 298, 299, 300], [305, 306, 307], [], [316], [321, 322], [327, 328, 329], [334, 335], [340, 341], [346, 347, 348], [353, 354], [359, 360], [365, 366], [371], [376], [381], [386], [391, 392, 393, 394, 395, 396, 397], [402, 403, 404], [409, 410, 411, 412, 413, 414], [419, 420, 421, 422], [427, 428, 429, 430], [435, 436, 437, 438], [443, 444, 445, 446], [451, 452, 453, 454], [459, 460, 461, 462], [467, 468, 469], [474, 475, 476, 477], [482, 483, 484, 485], [490, 491, 492, 493], [498, 499], [504, 505, 506, 507, 508], [513, 514, 515], [520, 521, 522], [527], [532, 533, 534, 535, 536], [541, 542, 543], [548, 549, 550, 551, 552, 553, 554], [559, 560, 561, 562, 563], [568, 569, 570, 571], [576, 577, 578, 579, 580], [585, 586, 587, 588, 589, 590, 591], [596, 597, 598], [603, 604, 605, 606, 607, 608, 609], [614, 615, 616], [621, 622, 623, 624, 625, 626, 627], [632, 633, 634, 635, 636], [641, 642, 643, 644, 645], [650, 651, 652, 653, 654, 655], [660, 661, 662], [667, 668, 669, 670, 671], [676, 677], [682, 683, 684, 685, 686], [691, 692, 693, 694], [699, 700, 701, 702, 703], [708, 709, 710, 711], [716, 717, 718, 719, 720], [725, 726, 727], [732, 733], [738, 739, 740, 741], [746, 747, 748], [753, 754, 755, 756, 757], [762, 763, 764, 765], [770, 771], [776, 777, 778], [783, 784, 785], [790, 791]]
def pRf : List Nat := [234, 317, 318, 319, 320, 321, 322, 323, 324, 325, 326, 327, 328, 329, 338, 350, 351, 352, 361, 362, 367, 387, 388, 389, 394, 395, 396, 397, 398, 399, 400, 401, 402, 403, 440, 442, 451, 458, 562, 569, 570, 577, 578, 583, 584, 597, 598, 603, 604, 605, 610, 611, 624, 625, 630, 631, 632, 633, 634, 635, 636, 637, 638, 639, 640, 641, 642, 643, 644, 645, 646, 647, 648, 649, 650, 651, 652, 653, 654, 655, 656, 657, 658, 659, 660, 661, 662, 667, 668, 669, 670, 671, 672, 673, 678, 679, 680, 681, 682, 683, 684, 685, 686, 691]
set_option maxRecDepth 20000 in
theorem yEx_0 : (List.range 13).all (fun j => decide (flN[pEx.getD (0 + j) 0]? = some (Cond.exactly (tmS (0 + j)) "java/lang/String"))) = true := by decide +kernel
set_option maxRecDepth 20000 in
theorem yEx_1 : (List.range 13).all (fun j => decide (flN[pEx.getD (13 + j) 0]? = some (Cond.exactly (tmS (13 + j)) "java/lang/String"))) = true := by decide +kernel
set_option maxRecDepth 20000 in
theorem yEx_2 : (List.range 13).all (fun j => decide (flN[pEx.getD (26 + j) 0]? = some (Cond.exactly (tmS (26 + j)) "java/lang/String"))) = true := by decide +kernel
set_option maxRecDepth 20000 in
theorem yEx_3 : (List.range 13).all (fun j => decide (flN[pEx.getD (39 + j) 0]? = some (Cond.exactly (tmS (39 + j)) "java/lang/String"))) = true := by decide +kernel
set_option maxRecDepth 20000 in
theorem yEx_4 : (List.range 13).all (fun j => decide (flN[pEx.getD (52 + j) 0]? = some (Cond.exactly (tmS (52 + j)) "java/lang/String"))) = true := by decide +kernel
set_option maxRecDepth 20000 in
theorem yEx_5 : (List.range 13).all (fun j => decide (flN[pEx.getD (65 + j) 0]? = some (Cond.exactly (tmS (65 + j)) "java/lang/String"))) = true := by decide +kernel
set_option maxRecDepth 20000 in
theorem yEx_6 : (List.range 13).all (fun j => decide (flN[pEx.getD (78 + j) 0]? = some (Cond.exactly (tmS (78 + j)) "java/lang/String"))) = true := by decide +kernel
set_option maxRecDepth 20000 in
theorem yEx_7 : (List.range 13).all (fun j => decide (flN[pEx.getD (91 + j) 0]? = some (Cond.exactly (tmS (91 + j)) "java/lang/String"))) = true := by decide +kernel
theorem yEx : ∀ i : Nat, i < nS → flN[pEx.getD i 0]? = some (Cond.exactly (tmS i) "java/lang/String") := by
  intro i hi
  have hi : i < 104 := hi
  by_cases h13 : i < 13
  · have q := List.all_eq_true.mp yEx_0 (i - 0) (List.mem_range.mpr (by omega))
    rw [show 0 + (i - 0) = i by omega] at q
    exact of_decide_eq_true q
  by_cases h26 : i < 26
  · have q := List.all_eq_true.mp yEx_1 (i - 13) (List.mem_range.mpr (by omega))
    rw [show 13 + (i - 13) = i by omega] at q
    exact of_decide_eq_true q
  by_cases h39 : i < 39
  · have q := List.all_eq_true.mp yEx_2 (i - 26) (List.mem_range.mpr (by omega))
    rw [show 26 + (i - 26) = i by omega] at q
    exact of_decide_eq_true q
  by_cases h52 : i < 52
  · have q := List.all_eq_true.mp yEx_3 (i - 39) (List.mem_range.mpr (by omega))
    rw [show 39 + (i - 39) = i by omega] at q
    exact of_decide_eq_true q
  by_cases h65 : i < 65
  · have q := List.all_eq_true.mp yEx_4 (i - 52) (List.mem_range.mpr (by omega))
    rw [show 52 + (i - 52) = i by omega] at q
    exact of_decide_eq_true q
  by_cases h78 : i < 78
  · have q := List.all_eq_true.mp yEx_5 (i - 65) (List.mem_range.mpr (by omega))
    rw [show 65 + (i - 65) = i by omega] at q
    exact of_decide_eq_true q
  by_cases h91 : i < 91
  · have q := List.all_eq_true.mp yEx_6 (i - 78) (List.mem_range.mpr (by omega))
    rw [show 78 + (i - 78) = i by omega] at q
    exact of_decide_eq_true q
  by_cases h104 : i < 104
  · have q := List.all_eq_true.mp yEx_7 (i - 91) (List.mem_range.mpr (by omega))
    rw [show 91 + (i - 91) = i by omega] at q
    exact of_decide_eq_true q
  omega
set_option maxRecDepth 20000 in
theorem yCo_0 : (List.range 13).all (fun j => decide (flN[pCo.getD (0 + j) 0]? = some (Cond.eq (.field (tmS (0 + j)) "java/lang/String" "coder" "B") (.int 0)))) = true := by decide +kernel
set_option maxRecDepth 20000 in
theorem yCo_1 : (List.range 13).all (fun j => decide (flN[pCo.getD (13 + j) 0]? = some (Cond.eq (.field (tmS (13 + j)) "java/lang/String" "coder" "B") (.int 0)))) = true := by decide +kernel
set_option maxRecDepth 20000 in
theorem yCo_2 : (List.range 13).all (fun j => decide (flN[pCo.getD (26 + j) 0]? = some (Cond.eq (.field (tmS (26 + j)) "java/lang/String" "coder" "B") (.int 0)))) = true := by decide +kernel
set_option maxRecDepth 20000 in
theorem yCo_3 : (List.range 13).all (fun j => decide (flN[pCo.getD (39 + j) 0]? = some (Cond.eq (.field (tmS (39 + j)) "java/lang/String" "coder" "B") (.int 0)))) = true := by decide +kernel
set_option maxRecDepth 20000 in
theorem yCo_4 : (List.range 13).all (fun j => decide (flN[pCo.getD (52 + j) 0]? = some (Cond.eq (.field (tmS (52 + j)) "java/lang/String" "coder" "B") (.int 0)))) = true := by decide +kernel
set_option maxRecDepth 20000 in
theorem yCo_5 : (List.range 13).all (fun j => decide (flN[pCo.getD (65 + j) 0]? = some (Cond.eq (.field (tmS (65 + j)) "java/lang/String" "coder" "B") (.int 0)))) = true := by decide +kernel
set_option maxRecDepth 20000 in
theorem yCo_6 : (List.range 13).all (fun j => decide (flN[pCo.getD (78 + j) 0]? = some (Cond.eq (.field (tmS (78 + j)) "java/lang/String" "coder" "B") (.int 0)))) = true := by decide +kernel
set_option maxRecDepth 20000 in
theorem yCo_7 : (List.range 13).all (fun j => decide (flN[pCo.getD (91 + j) 0]? = some (Cond.eq (.field (tmS (91 + j)) "java/lang/String" "coder" "B") (.int 0)))) = true := by decide +kernel
theorem yCo : ∀ i : Nat, i < nS → flN[pCo.getD i 0]? = some (Cond.eq (.field (tmS i) "java/lang/String" "coder" "B") (.int 0)) := by
  intro i hi
  have hi : i < 104 := hi
  by_cases h13 : i < 13
  · have q := List.all_eq_true.mp yCo_0 (i - 0) (List.mem_range.mpr (by omega))
    rw [show 0 + (i - 0) = i by omega] at q
    exact of_decide_eq_true q
  by_cases h26 : i < 26
  · have q := List.all_eq_true.mp yCo_1 (i - 13) (List.mem_range.mpr (by omega))
    rw [show 13 + (i - 13) = i by omega] at q
    exact of_decide_eq_true q
  by_cases h39 : i < 39
  · have q := List.all_eq_true.mp yCo_2 (i - 26) (List.mem_range.mpr (by omega))
    rw [show 26 + (i - 26) = i by omega] at q
    exact of_decide_eq_true q
  by_cases h52 : i < 52
  · have q := List.all_eq_true.mp yCo_3 (i - 39) (List.mem_range.mpr (by omega))
    rw [show 39 + (i - 39) = i by omega] at q
    exact of_decide_eq_true q
  by_cases h65 : i < 65
  · have q := List.all_eq_true.mp yCo_4 (i - 52) (List.mem_range.mpr (by omega))
    rw [show 52 + (i - 52) = i by omega] at q
    exact of_decide_eq_true q
  by_cases h78 : i < 78
  · have q := List.all_eq_true.mp yCo_5 (i - 65) (List.mem_range.mpr (by omega))
    rw [show 65 + (i - 65) = i by omega] at q
    exact of_decide_eq_true q
  by_cases h91 : i < 91
  · have q := List.all_eq_true.mp yCo_6 (i - 78) (List.mem_range.mpr (by omega))
    rw [show 78 + (i - 78) = i by omega] at q
    exact of_decide_eq_true q
  by_cases h104 : i < 104
  · have q := List.all_eq_true.mp yCo_7 (i - 91) (List.mem_range.mpr (by omega))
    rw [show 91 + (i - 91) = i by omega] at q
    exact of_decide_eq_true q
  omega
set_option maxRecDepth 20000 in
theorem yAr_0 : (List.range 13).all (fun j => decide (flN[pAr.getD (0 + j) 0]? = some (Cond.arrayOf (.field (tmS (0 + j)) "java/lang/String" "value" "[B") .byte))) = true := by decide +kernel
set_option maxRecDepth 20000 in
theorem yAr_1 : (List.range 13).all (fun j => decide (flN[pAr.getD (13 + j) 0]? = some (Cond.arrayOf (.field (tmS (13 + j)) "java/lang/String" "value" "[B") .byte))) = true := by decide +kernel
set_option maxRecDepth 20000 in
theorem yAr_2 : (List.range 13).all (fun j => decide (flN[pAr.getD (26 + j) 0]? = some (Cond.arrayOf (.field (tmS (26 + j)) "java/lang/String" "value" "[B") .byte))) = true := by decide +kernel
set_option maxRecDepth 20000 in
theorem yAr_3 : (List.range 13).all (fun j => decide (flN[pAr.getD (39 + j) 0]? = some (Cond.arrayOf (.field (tmS (39 + j)) "java/lang/String" "value" "[B") .byte))) = true := by decide +kernel
set_option maxRecDepth 20000 in
theorem yAr_4 : (List.range 13).all (fun j => decide (flN[pAr.getD (52 + j) 0]? = some (Cond.arrayOf (.field (tmS (52 + j)) "java/lang/String" "value" "[B") .byte))) = true := by decide +kernel
set_option maxRecDepth 20000 in
theorem yAr_5 : (List.range 13).all (fun j => decide (flN[pAr.getD (65 + j) 0]? = some (Cond.arrayOf (.field (tmS (65 + j)) "java/lang/String" "value" "[B") .byte))) = true := by decide +kernel
set_option maxRecDepth 20000 in
theorem yAr_6 : (List.range 13).all (fun j => decide (flN[pAr.getD (78 + j) 0]? = some (Cond.arrayOf (.field (tmS (78 + j)) "java/lang/String" "value" "[B") .byte))) = true := by decide +kernel
set_option maxRecDepth 20000 in
theorem yAr_7 : (List.range 13).all (fun j => decide (flN[pAr.getD (91 + j) 0]? = some (Cond.arrayOf (.field (tmS (91 + j)) "java/lang/String" "value" "[B") .byte))) = true := by decide +kernel
theorem yAr : ∀ i : Nat, i < nS → flN[pAr.getD i 0]? = some (Cond.arrayOf (.field (tmS i) "java/lang/String" "value" "[B") .byte) := by
  intro i hi
  have hi : i < 104 := hi
  by_cases h13 : i < 13
  · have q := List.all_eq_true.mp yAr_0 (i - 0) (List.mem_range.mpr (by omega))
    rw [show 0 + (i - 0) = i by omega] at q
    exact of_decide_eq_true q
  by_cases h26 : i < 26
  · have q := List.all_eq_true.mp yAr_1 (i - 13) (List.mem_range.mpr (by omega))
    rw [show 13 + (i - 13) = i by omega] at q
    exact of_decide_eq_true q
  by_cases h39 : i < 39
  · have q := List.all_eq_true.mp yAr_2 (i - 26) (List.mem_range.mpr (by omega))
    rw [show 26 + (i - 26) = i by omega] at q
    exact of_decide_eq_true q
  by_cases h52 : i < 52
  · have q := List.all_eq_true.mp yAr_3 (i - 39) (List.mem_range.mpr (by omega))
    rw [show 39 + (i - 39) = i by omega] at q
    exact of_decide_eq_true q
  by_cases h65 : i < 65
  · have q := List.all_eq_true.mp yAr_4 (i - 52) (List.mem_range.mpr (by omega))
    rw [show 52 + (i - 52) = i by omega] at q
    exact of_decide_eq_true q
  by_cases h78 : i < 78
  · have q := List.all_eq_true.mp yAr_5 (i - 65) (List.mem_range.mpr (by omega))
    rw [show 65 + (i - 65) = i by omega] at q
    exact of_decide_eq_true q
  by_cases h91 : i < 91
  · have q := List.all_eq_true.mp yAr_6 (i - 78) (List.mem_range.mpr (by omega))
    rw [show 78 + (i - 78) = i by omega] at q
    exact of_decide_eq_true q
  by_cases h104 : i < 104
  · have q := List.all_eq_true.mp yAr_7 (i - 91) (List.mem_range.mpr (by omega))
    rw [show 91 + (i - 91) = i by omega] at q
    exact of_decide_eq_true q
  omega
set_option maxRecDepth 20000 in
theorem yLe_0 : (List.range 13).all (fun j => decide (flN[pLe.getD (0 + j) 0]? = some (Cond.eq (.length (.field (tmS (0 + j)) "java/lang/String" "value" "[B")) (.int (Int32.ofNat (sB (0 + j)).length))))) = true := by decide +kernel
set_option maxRecDepth 20000 in
theorem yLe_1 : (List.range 13).all (fun j => decide (flN[pLe.getD (13 + j) 0]? = some (Cond.eq (.length (.field (tmS (13 + j)) "java/lang/String" "value" "[B")) (.int (Int32.ofNat (sB (13 + j)).length))))) = true := by decide +kernel
set_option maxRecDepth 20000 in
theorem yLe_2 : (List.range 13).all (fun j => decide (flN[pLe.getD (26 + j) 0]? = some (Cond.eq (.length (.field (tmS (26 + j)) "java/lang/String" "value" "[B")) (.int (Int32.ofNat (sB (26 + j)).length))))) = true := by decide +kernel
set_option maxRecDepth 20000 in
theorem yLe_3 : (List.range 13).all (fun j => decide (flN[pLe.getD (39 + j) 0]? = some (Cond.eq (.length (.field (tmS (39 + j)) "java/lang/String" "value" "[B")) (.int (Int32.ofNat (sB (39 + j)).length))))) = true := by decide +kernel
set_option maxRecDepth 20000 in
theorem yLe_4 : (List.range 13).all (fun j => decide (flN[pLe.getD (52 + j) 0]? = some (Cond.eq (.length (.field (tmS (52 + j)) "java/lang/String" "value" "[B")) (.int (Int32.ofNat (sB (52 + j)).length))))) = true := by decide +kernel
set_option maxRecDepth 20000 in
theorem yLe_5 : (List.range 13).all (fun j => decide (flN[pLe.getD (65 + j) 0]? = some (Cond.eq (.length (.field (tmS (65 + j)) "java/lang/String" "value" "[B")) (.int (Int32.ofNat (sB (65 + j)).length))))) = true := by decide +kernel
set_option maxRecDepth 20000 in
theorem yLe_6 : (List.range 13).all (fun j => decide (flN[pLe.getD (78 + j) 0]? = some (Cond.eq (.length (.field (tmS (78 + j)) "java/lang/String" "value" "[B")) (.int (Int32.ofNat (sB (78 + j)).length))))) = true := by decide +kernel
set_option maxRecDepth 20000 in
theorem yLe_7 : (List.range 13).all (fun j => decide (flN[pLe.getD (91 + j) 0]? = some (Cond.eq (.length (.field (tmS (91 + j)) "java/lang/String" "value" "[B")) (.int (Int32.ofNat (sB (91 + j)).length))))) = true := by decide +kernel
theorem yLe : ∀ i : Nat, i < nS → flN[pLe.getD i 0]? = some (Cond.eq (.length (.field (tmS i) "java/lang/String" "value" "[B")) (.int (Int32.ofNat (sB i).length))) := by
  intro i hi
  have hi : i < 104 := hi
  by_cases h13 : i < 13
  · have q := List.all_eq_true.mp yLe_0 (i - 0) (List.mem_range.mpr (by omega))
    rw [show 0 + (i - 0) = i by omega] at q
    exact of_decide_eq_true q
  by_cases h26 : i < 26
  · have q := List.all_eq_true.mp yLe_1 (i - 13) (List.mem_range.mpr (by omega))
    rw [show 13 + (i - 13) = i by omega] at q
    exact of_decide_eq_true q
  by_cases h39 : i < 39
  · have q := List.all_eq_true.mp yLe_2 (i - 26) (List.mem_range.mpr (by omega))
    rw [show 26 + (i - 26) = i by omega] at q
    exact of_decide_eq_true q
  by_cases h52 : i < 52
  · have q := List.all_eq_true.mp yLe_3 (i - 39) (List.mem_range.mpr (by omega))
    rw [show 39 + (i - 39) = i by omega] at q
    exact of_decide_eq_true q
  by_cases h65 : i < 65
  · have q := List.all_eq_true.mp yLe_4 (i - 52) (List.mem_range.mpr (by omega))
    rw [show 52 + (i - 52) = i by omega] at q
    exact of_decide_eq_true q
  by_cases h78 : i < 78
  · have q := List.all_eq_true.mp yLe_5 (i - 65) (List.mem_range.mpr (by omega))
    rw [show 65 + (i - 65) = i by omega] at q
    exact of_decide_eq_true q
  by_cases h91 : i < 91
  · have q := List.all_eq_true.mp yLe_6 (i - 78) (List.mem_range.mpr (by omega))
    rw [show 78 + (i - 78) = i by omega] at q
    exact of_decide_eq_true q
  by_cases h104 : i < 104
  · have q := List.all_eq_true.mp yLe_7 (i - 91) (List.mem_range.mpr (by omega))
    rw [show 91 + (i - 91) = i by omega] at q
    exact of_decide_eq_true q
  omega
set_option maxRecDepth 20000 in
theorem yRf_0 : (List.range 13).all (fun j => decide (tables_1[pRf.getD (0 + j) 0]? = some (Cond.stringRef (sR (0 + j)).1 (sR (0 + j)).2.1 (sR (0 + j)).2.2))) = true := by decide +kernel
set_option maxRecDepth 20000 in
theorem yRf_1 : (List.range 13).all (fun j => decide (tables_1[pRf.getD (13 + j) 0]? = some (Cond.stringRef (sR (13 + j)).1 (sR (13 + j)).2.1 (sR (13 + j)).2.2))) = true := by decide +kernel
set_option maxRecDepth 20000 in
theorem yRf_2 : (List.range 13).all (fun j => decide (tables_1[pRf.getD (26 + j) 0]? = some (Cond.stringRef (sR (26 + j)).1 (sR (26 + j)).2.1 (sR (26 + j)).2.2))) = true := by decide +kernel
set_option maxRecDepth 20000 in
theorem yRf_3 : (List.range 13).all (fun j => decide (tables_1[pRf.getD (39 + j) 0]? = some (Cond.stringRef (sR (39 + j)).1 (sR (39 + j)).2.1 (sR (39 + j)).2.2))) = true := by decide +kernel
set_option maxRecDepth 20000 in
theorem yRf_4 : (List.range 13).all (fun j => decide (tables_1[pRf.getD (52 + j) 0]? = some (Cond.stringRef (sR (52 + j)).1 (sR (52 + j)).2.1 (sR (52 + j)).2.2))) = true := by decide +kernel
set_option maxRecDepth 20000 in
theorem yRf_5 : (List.range 13).all (fun j => decide (tables_1[pRf.getD (65 + j) 0]? = some (Cond.stringRef (sR (65 + j)).1 (sR (65 + j)).2.1 (sR (65 + j)).2.2))) = true := by decide +kernel
set_option maxRecDepth 20000 in
theorem yRf_6 : (List.range 13).all (fun j => decide (tables_1[pRf.getD (78 + j) 0]? = some (Cond.stringRef (sR (78 + j)).1 (sR (78 + j)).2.1 (sR (78 + j)).2.2))) = true := by decide +kernel
set_option maxRecDepth 20000 in
theorem yRf_7 : (List.range 13).all (fun j => decide (tables_1[pRf.getD (91 + j) 0]? = some (Cond.stringRef (sR (91 + j)).1 (sR (91 + j)).2.1 (sR (91 + j)).2.2))) = true := by decide +kernel
theorem yRf : ∀ i : Nat, i < nS → tables_1[pRf.getD i 0]? = some (Cond.stringRef (sR i).1 (sR i).2.1 (sR i).2.2) := by
  intro i hi
  have hi : i < 104 := hi
  by_cases h13 : i < 13
  · have q := List.all_eq_true.mp yRf_0 (i - 0) (List.mem_range.mpr (by omega))
    rw [show 0 + (i - 0) = i by omega] at q
    exact of_decide_eq_true q
  by_cases h26 : i < 26
  · have q := List.all_eq_true.mp yRf_1 (i - 13) (List.mem_range.mpr (by omega))
    rw [show 13 + (i - 13) = i by omega] at q
    exact of_decide_eq_true q
  by_cases h39 : i < 39
  · have q := List.all_eq_true.mp yRf_2 (i - 26) (List.mem_range.mpr (by omega))
    rw [show 26 + (i - 26) = i by omega] at q
    exact of_decide_eq_true q
  by_cases h52 : i < 52
  · have q := List.all_eq_true.mp yRf_3 (i - 39) (List.mem_range.mpr (by omega))
    rw [show 39 + (i - 39) = i by omega] at q
    exact of_decide_eq_true q
  by_cases h65 : i < 65
  · have q := List.all_eq_true.mp yRf_4 (i - 52) (List.mem_range.mpr (by omega))
    rw [show 52 + (i - 52) = i by omega] at q
    exact of_decide_eq_true q
  by_cases h78 : i < 78
  · have q := List.all_eq_true.mp yRf_5 (i - 65) (List.mem_range.mpr (by omega))
    rw [show 65 + (i - 65) = i by omega] at q
    exact of_decide_eq_true q
  by_cases h91 : i < 91
  · have q := List.all_eq_true.mp yRf_6 (i - 78) (List.mem_range.mpr (by omega))
    rw [show 78 + (i - 78) = i by omega] at q
    exact of_decide_eq_true q
  by_cases h104 : i < 104
  · have q := List.all_eq_true.mp yRf_7 (i - 91) (List.mem_range.mpr (by omega))
    rw [show 91 + (i - 91) = i by omega] at q
    exact of_decide_eq_true q
  omega
set_option maxRecDepth 20000 in
theorem yEl_0 : (List.range 13).all (fun j => decide (((List.range (sB (0 + j)).length).all (fun k => decide (flN[(pEl.getD (0 + j) []).getD k 0]? = some (Cond.eq (.elem (.field (tmS (0 + j)) "java/lang/String" "value" "[B") (.int (Int32.ofNat k))) (.int ((sB (0 + j)).getD k 0)))))) = true)) = true := by decide +kernel
set_option maxRecDepth 20000 in
theorem yEl_1 : (List.range 13).all (fun j => decide (((List.range (sB (13 + j)).length).all (fun k => decide (flN[(pEl.getD (13 + j) []).getD k 0]? = some (Cond.eq (.elem (.field (tmS (13 + j)) "java/lang/String" "value" "[B") (.int (Int32.ofNat k))) (.int ((sB (13 + j)).getD k 0)))))) = true)) = true := by decide +kernel
set_option maxRecDepth 20000 in
theorem yEl_2 : (List.range 13).all (fun j => decide (((List.range (sB (26 + j)).length).all (fun k => decide (flN[(pEl.getD (26 + j) []).getD k 0]? = some (Cond.eq (.elem (.field (tmS (26 + j)) "java/lang/String" "value" "[B") (.int (Int32.ofNat k))) (.int ((sB (26 + j)).getD k 0)))))) = true)) = true := by decide +kernel
set_option maxRecDepth 20000 in
theorem yEl_3 : (List.range 13).all (fun j => decide (((List.range (sB (39 + j)).length).all (fun k => decide (flN[(pEl.getD (39 + j) []).getD k 0]? = some (Cond.eq (.elem (.field (tmS (39 + j)) "java/lang/String" "value" "[B") (.int (Int32.ofNat k))) (.int ((sB (39 + j)).getD k 0)))))) = true)) = true := by decide +kernel
set_option maxRecDepth 20000 in
theorem yEl_4 : (List.range 13).all (fun j => decide (((List.range (sB (52 + j)).length).all (fun k => decide (flN[(pEl.getD (52 + j) []).getD k 0]? = some (Cond.eq (.elem (.field (tmS (52 + j)) "java/lang/String" "value" "[B") (.int (Int32.ofNat k))) (.int ((sB (52 + j)).getD k 0)))))) = true)) = true := by decide +kernel
set_option maxRecDepth 20000 in
theorem yEl_5 : (List.range 13).all (fun j => decide (((List.range (sB (65 + j)).length).all (fun k => decide (flN[(pEl.getD (65 + j) []).getD k 0]? = some (Cond.eq (.elem (.field (tmS (65 + j)) "java/lang/String" "value" "[B") (.int (Int32.ofNat k))) (.int ((sB (65 + j)).getD k 0)))))) = true)) = true := by decide +kernel
set_option maxRecDepth 20000 in
theorem yEl_6 : (List.range 13).all (fun j => decide (((List.range (sB (78 + j)).length).all (fun k => decide (flN[(pEl.getD (78 + j) []).getD k 0]? = some (Cond.eq (.elem (.field (tmS (78 + j)) "java/lang/String" "value" "[B") (.int (Int32.ofNat k))) (.int ((sB (78 + j)).getD k 0)))))) = true)) = true := by decide +kernel
set_option maxRecDepth 20000 in
theorem yEl_7 : (List.range 13).all (fun j => decide (((List.range (sB (91 + j)).length).all (fun k => decide (flN[(pEl.getD (91 + j) []).getD k 0]? = some (Cond.eq (.elem (.field (tmS (91 + j)) "java/lang/String" "value" "[B") (.int (Int32.ofNat k))) (.int ((sB (91 + j)).getD k 0)))))) = true)) = true := by decide +kernel
theorem yEl : ∀ i : Nat, i < nS → ((List.range (sB i).length).all (fun k => decide (flN[(pEl.getD i []).getD k 0]? = some (Cond.eq (.elem (.field (tmS i) "java/lang/String" "value" "[B") (.int (Int32.ofNat k))) (.int ((sB i).getD k 0)))))) = true := by
  intro i hi
  have hi : i < 104 := hi
  by_cases h13 : i < 13
  · have q := List.all_eq_true.mp yEl_0 (i - 0) (List.mem_range.mpr (by omega))
    rw [show 0 + (i - 0) = i by omega] at q
    exact of_decide_eq_true q
  by_cases h26 : i < 26
  · have q := List.all_eq_true.mp yEl_1 (i - 13) (List.mem_range.mpr (by omega))
    rw [show 13 + (i - 13) = i by omega] at q
    exact of_decide_eq_true q
  by_cases h39 : i < 39
  · have q := List.all_eq_true.mp yEl_2 (i - 26) (List.mem_range.mpr (by omega))
    rw [show 26 + (i - 26) = i by omega] at q
    exact of_decide_eq_true q
  by_cases h52 : i < 52
  · have q := List.all_eq_true.mp yEl_3 (i - 39) (List.mem_range.mpr (by omega))
    rw [show 39 + (i - 39) = i by omega] at q
    exact of_decide_eq_true q
  by_cases h65 : i < 65
  · have q := List.all_eq_true.mp yEl_4 (i - 52) (List.mem_range.mpr (by omega))
    rw [show 52 + (i - 52) = i by omega] at q
    exact of_decide_eq_true q
  by_cases h78 : i < 78
  · have q := List.all_eq_true.mp yEl_5 (i - 65) (List.mem_range.mpr (by omega))
    rw [show 65 + (i - 65) = i by omega] at q
    exact of_decide_eq_true q
  by_cases h91 : i < 91
  · have q := List.all_eq_true.mp yEl_6 (i - 78) (List.mem_range.mpr (by omega))
    rw [show 78 + (i - 78) = i by omega] at q
    exact of_decide_eq_true q
  by_cases h104 : i < 104
  · have q := List.all_eq_true.mp yEl_7 (i - 91) (List.mem_range.mpr (by omega))
    rw [show 91 + (i - 91) = i by omega] at q
    exact of_decide_eq_true q
  omega
