set_option maxRecDepth 100000 in
theorem lwi_1 : ∀ w ∈ wsL_law_r1, w ∈ lw_tbl := fun w h => (goodIn_r (big := lw_tbl) wsL_law_r1 [38, 39, 31, 422, 423, 34, 40, 41, 42, 43, 44, 45, 46, 47, 32, 131, 132, 133, 107, 108, 33, 134, 49, 50] (by decide +kernel) (by decide +kernel) w h).1
set_option maxRecDepth 100000 in
theorem lwi_2 : ∀ w ∈ wsL_law_r2, w ∈ lw_tbl := fun w h => (goodIn_r (big := lw_tbl) wsL_law_r2 [51, 105, 60, 69, 70, 72, 73, 75, 77, 110, 111, 112, 115, 116, 117, 113, 118, 119, 424, 425, 426, 427, 428, 429] (by decide +kernel) (by decide +kernel) w h).1
set_option maxRecDepth 100000 in
theorem lwi_3 : ∀ w ∈ wsL_law_r3, w ∈ lw_tbl := fun w h => (goodIn_r (big := lw_tbl) wsL_law_r3 [453, 430, 431, 432, 433, 434, 435, 144, 145, 146, 147, 52, 148, 149, 150, 151, 55, 53, 152, 154, 0, 155, 156, 157] (by decide +kernel) (by decide +kernel) w h).1
set_option maxRecDepth 100000 in
theorem lwi_4 : ∀ w ∈ wsL_law_r4, w ∈ lw_tbl := fun w h => (goodIn_r (big := lw_tbl) wsL_law_r4 [158, 159, 63, 65, 454, 455, 456, 457, 458, 460, 8, 461, 462, 464, 9, 465, 160, 161, 162, 163, 164, 165, 166, 167] (by decide +kernel) (by decide +kernel) w h).1
set_option maxRecDepth 100000 in
theorem lwi_5 : ∀ w ∈ wsL_law_r5, w ∈ lw_tbl := fun w h => (goodIn_r (big := lw_tbl) wsL_law_r5 [168, 169, 170, 58, 466, 467, 468, 469, 470, 471, 472, 171, 172, 173, 174, 67, 175, 176, 177, 178, 179, 180, 181, 182] (by decide +kernel) (by decide +kernel) w h).1
set_option maxRecDepth 100000 in
theorem lwi_6 : ∀ w ∈ wsL_law_r6, w ∈ lw_tbl := fun w h => (goodIn_r (big := lw_tbl) wsL_law_r6 [66, 473, 474, 475, 476, 477, 479, 10, 480, 481, 483, 11, 484, 183, 184, 185, 186, 485, 486, 487, 488, 187, 188, 189] (by decide +kernel) (by decide +kernel) w h).1
set_option maxRecDepth 100000 in
theorem lwi_7 : ∀ w ∈ wsL_law_r7, w ∈ lw_tbl := fun w h => (goodIn_r (big := lw_tbl) wsL_law_r7 [190, 489, 490, 491, 492, 191, 192, 193, 194, 56, 493, 494, 495, 496, 497, 499, 12, 500, 195, 196, 197, 198, 199, 201] (by decide +kernel) (by decide +kernel) w h).1
set_option maxRecDepth 100000 in
theorem lwi_8 : ∀ w ∈ wsL_law_r8, w ∈ lw_tbl := fun w h => (goodIn_r (big := lw_tbl) wsL_law_r8 [1, 202, 203, 204, 205, 206, 207, 208, 209, 210, 211, 212, 213, 214, 501, 502, 503, 504, 505, 507, 13, 508, 215, 216] (by decide +kernel) (by decide +kernel) w h).1
set_option maxRecDepth 100000 in
theorem lwi_9 : ∀ w ∈ wsL_law_r9, w ∈ lw_tbl := fun w h => (goodIn_r (big := lw_tbl) wsL_law_r9 [217, 218, 509, 510, 511, 512, 219, 220, 221, 222, 223, 224, 225, 226, 227, 228, 229, 230, 231, 232, 35, 233, 234, 235] (by decide +kernel) (by decide +kernel) w h).1
set_option maxRecDepth 100000 in
theorem lwi_10 : ∀ w ∈ wsL_law_r10, w ∈ lw_tbl := fun w h => (goodIn_r (big := lw_tbl) wsL_law_r10 [236, 513, 514, 515, 516, 237, 238, 239, 240, 517, 518, 519, 520, 241, 242, 243, 244, 245, 521, 522, 523, 524, 246, 247] (by decide +kernel) (by decide +kernel) w h).1
set_option maxRecDepth 100000 in
theorem lwi_11 : ∀ w ∈ wsL_law_r11, w ∈ lw_tbl := fun w h => (goodIn_r (big := lw_tbl) wsL_law_r11 [248, 249, 250, 251, 252, 253, 254, 255, 256, 257, 258, 525, 526, 527, 528, 529, 531, 14, 532, 533, 535, 15, 536, 259] (by decide +kernel) (by decide +kernel) w h).1
set_option maxRecDepth 100000 in
theorem lwi_12 : ∀ w ∈ wsL_law_r12, w ∈ lw_tbl := fun w h => (goodIn_r (big := lw_tbl) wsL_law_r12 [260, 261, 262, 263, 264, 265, 266, 64, 62, 267, 269, 2, 270, 54, 68, 271, 272, 273, 274, 74, 76, 71, 275, 277] (by decide +kernel) (by decide +kernel) w h).1
set_option maxRecDepth 100000 in
theorem lwi_13 : ∀ w ∈ wsL_law_r13, w ∈ lw_tbl := fun w h => (goodIn_r (big := lw_tbl) wsL_law_r13 [3, 278, 57, 61, 59, 279, 280, 281, 282, 283, 36, 284, 285, 286, 287, 288, 289, 290, 291, 292, 294, 4, 295, 296] (by decide +kernel) (by decide +kernel) w h).1
set_option maxRecDepth 100000 in
theorem lwi_14 : ∀ w ∈ wsL_law_r14, w ∈ lw_tbl := fun w h => (goodIn_r (big := lw_tbl) wsL_law_r14 [297, 298, 299, 300, 301, 302, 537, 538, 539, 540, 541, 543, 16, 544, 545, 547, 17, 548, 549, 551, 18, 552, 553, 555] (by decide +kernel) (by decide +kernel) w h).1
set_option maxRecDepth 100000 in
theorem lwi_15 : ∀ w ∈ wsL_law_r15, w ∈ lw_tbl := fun w h => (goodIn_r (big := lw_tbl) wsL_law_r15 [19, 556, 557, 558, 559, 560, 562, 20, 563, 564, 566, 21, 567, 303, 304, 305, 306, 307, 308, 309, 310, 568, 569, 570] (by decide +kernel) (by decide +kernel) w h).1
set_option maxRecDepth 100000 in
theorem lwi_16 : ∀ w ∈ wsL_law_r16, w ∈ lw_tbl := fun w h => (goodIn_r (big := lw_tbl) wsL_law_r16 [571, 311, 312, 313, 314, 315, 316, 317, 318, 572, 573, 574, 575, 319, 320, 321, 322, 323, 324, 325, 326, 327, 329, 328] (by decide +kernel) (by decide +kernel) w h).1
set_option maxRecDepth 100000 in
theorem lwi_17 : ∀ w ∈ wsL_law_r17, w ∈ lw_tbl := fun w h => (goodIn_r (big := lw_tbl) wsL_law_r17 [37, 330, 332, 5, 333, 334, 335, 336, 337, 338, 339, 340, 341, 576, 577, 578, 579, 580, 582, 22, 583, 342, 343, 344] (by decide +kernel) (by decide +kernel) w h).1
set_option maxRecDepth 100000 in
theorem lwi_18 : ∀ w ∈ wsL_law_r18, w ∈ lw_tbl := fun w h => (goodIn_r (big := lw_tbl) wsL_law_r18 [345, 346, 347, 348, 349, 584, 585, 586, 587, 350, 351, 352, 353, 588, 589, 590, 591, 592, 594, 23, 595, 596, 598, 24] (by decide +kernel) (by decide +kernel) w h).1
set_option maxRecDepth 100000 in
theorem lwi_19 : ∀ w ∈ wsL_law_r19, w ∈ lw_tbl := fun w h => (goodIn_r (big := lw_tbl) wsL_law_r19 [599, 354, 355, 356, 357, 358, 359, 360, 361, 363, 6, 364, 600, 601, 602, 603, 604, 605, 606, 607, 609, 25, 610, 365] (by decide +kernel) (by decide +kernel) w h).1
set_option maxRecDepth 100000 in
theorem lwi_20 : ∀ w ∈ wsL_law_r20, w ∈ lw_tbl := fun w h => (goodIn_r (big := lw_tbl) wsL_law_r20 [366, 367, 368, 611, 612, 613, 614, 369, 370, 371, 372, 373, 374, 375, 376, 615, 616, 617, 618, 619, 621, 26, 622, 623] (by decide +kernel) (by decide +kernel) w h).1
set_option maxRecDepth 100000 in
theorem lwi_21 : ∀ w ∈ wsL_law_r21, w ∈ lw_tbl := fun w h => (goodIn_r (big := lw_tbl) wsL_law_r21 [625, 27, 626, 377, 378, 379, 380, 381, 382, 383, 384, 627, 628, 629, 630, 385, 386, 387, 388, 389, 390, 391, 392, 393] (by decide +kernel) (by decide +kernel) w h).1
set_option maxRecDepth 100000 in
theorem lwi_22 : ∀ w ∈ wsL_law_r22, w ∈ lw_tbl := fun w h => (goodIn_r (big := lw_tbl) wsL_law_r22 [631, 632, 633, 634, 394, 395, 396, 397, 398, 400, 7, 401, 402, 403, 404, 405, 406, 407, 408, 409, 635, 636, 637, 638] (by decide +kernel) (by decide +kernel) w h).1
set_option maxRecDepth 100000 in
theorem lwi_23 : ∀ w ∈ wsL_law_r23, w ∈ lw_tbl := fun w h => (goodIn_r (big := lw_tbl) wsL_law_r23 [639, 641, 28, 642, 643, 645, 29, 646, 410, 411, 412, 413, 647, 648, 649, 650, 414, 415, 416, 417, 651, 652, 653, 654] (by decide +kernel) (by decide +kernel) w h).1
set_option maxRecDepth 100000 in
theorem lwi_24 : ∀ w ∈ wsL_law_r24, w ∈ lw_tbl := fun w h => (goodIn_r (big := lw_tbl) wsL_law_r24 [418, 419, 420, 421, 655, 656, 657, 658] (by decide +kernel) (by decide +kernel) w h).1
set_option maxRecDepth 100000 in
theorem lwi_X2 : ∀ w ∈ wsX20, w ∈ lw_tbl := fun w h => (goodIn_r (big := lw_tbl) wsX20 [135, 137, 139, 141] (by decide +kernel) (by decide +kernel) w h).1
set_option maxRecDepth 100000 in
theorem lwi_X3 : ∀ w ∈ wsX30, w ∈ lw_tbl := fun w h => (goodIn_r (big := lw_tbl) wsX30 [436, 438, 440, 442, 444, 446, 448, 450] (by decide +kernel) (by decide +kernel) w h).1
set_option maxRecDepth 100000 in
theorem lwi_X0 : ∀ w ∈ wsX00, w ∈ lw_tbl := fun w h => (goodIn_r (big := lw_tbl) wsX00 [78, 80, 82, 84, 86, 88, 90, 92, 94, 96, 98, 100, 102] (by decide +kernel) (by decide +kernel) w h).1
set_option maxRecDepth 100000 in
theorem lwi_X1 : ∀ w ∈ wsX10, w ∈ lw_tbl := fun w h => (goodIn_r (big := lw_tbl) wsX10 [120, 122, 124, 126, 128] (by decide +kernel) (by decide +kernel) w h).1
theorem lwi : ∀ w ∈ wsL_law, w ∈ lw_tbl := by
  unfold wsL_law
  exact (List.forall_mem_append.mpr ⟨(List.forall_mem_append.mpr ⟨(List.forall_mem_append.mpr ⟨(List.forall_mem_append.mpr ⟨(List.forall_mem_append.mpr ⟨(List.forall_mem_append.mpr ⟨lwi_1, (List.forall_mem_append.mpr ⟨lwi_2, (List.forall_mem_append.mpr ⟨lwi_3, (List.forall_mem_append.mpr ⟨lwi_4, (List.forall_mem_append.mpr ⟨lwi_5, (List.forall_mem_append.mpr ⟨lwi_6, (List.forall_mem_append.mpr ⟨lwi_7, (List.forall_mem_append.mpr ⟨lwi_8, (List.forall_mem_append.mpr ⟨lwi_9, (List.forall_mem_append.mpr ⟨lwi_10, (List.forall_mem_append.mpr ⟨lwi_11, (List.forall_mem_append.mpr ⟨lwi_12, (List.forall_mem_append.mpr ⟨lwi_13, (List.forall_mem_append.mpr ⟨lwi_14, (List.forall_mem_append.mpr ⟨lwi_15, (List.forall_mem_append.mpr ⟨lwi_16, (List.forall_mem_append.mpr ⟨lwi_17, (List.forall_mem_append.mpr ⟨lwi_18, (List.forall_mem_append.mpr ⟨lwi_19, (List.forall_mem_append.mpr ⟨lwi_20, (List.forall_mem_append.mpr ⟨lwi_21, (List.forall_mem_append.mpr ⟨lwi_22, (List.forall_mem_append.mpr ⟨lwi_23, lwi_24⟩)⟩)⟩)⟩)⟩)⟩)⟩)⟩)⟩)⟩)⟩)⟩)⟩)⟩)⟩)⟩)⟩)⟩)⟩)⟩)⟩)⟩)⟩), lwi_X2⟩), lwi_X3⟩), lwi_X0⟩), lwi_X1⟩), fun _ h => by cases h⟩)
