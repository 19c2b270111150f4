theorem z_memIn {big : List Cond} (ws : List Cond) (ps : List Nat) (hp : ws = ps.filterMap (fun i => big[i]?)) : ∀ w ∈ ws, w ∈ big := by
  intro w hw
  rw [hp] at hw
  obtain ⟨i, -, hi⟩ := List.mem_filterMap.mp hw
  exact List.mem_of_getElem? hi
set_option maxRecDepth 20000 in
theorem wsL_law0_r1_in : ∀ w ∈ wsL_law0_r1, w ∈ lw_tbl := z_memIn _ [49, 50, 36, 453, 454, 39, 643, 51, 52, 53, 54, 55, 56, 57, 58, 37, 87, 71, 72, 38, 88, 89, 90, 70] rfl
set_option maxRecDepth 20000 in
theorem wsL_law0_r2_in : ∀ w ∈ wsL_law0_r2, w ∈ lw_tbl := z_memIn _ [91, 92, 93, 94, 95, 60, 61, 62, 63, 64, 73, 74, 75, 76, 77, 78, 79, 455, 456, 457, 458, 462, 463, 464] rfl
set_option maxRecDepth 20000 in
theorem wsL_law0_r3_in : ∀ w ∈ wsL_law0_r3, w ∈ lw_tbl := z_memIn _ [465, 469, 470, 471, 472, 201, 202, 35, 203, 204, 205, 206, 207, 208, 209, 43, 119, 120, 121, 122, 277, 278, 279, 280] rfl
set_option maxRecDepth 20000 in
theorem wsL_law0_r4_in : ∀ w ∈ wsL_law0_r4, w ∈ lw_tbl := z_memIn _ [281, 282, 283, 284, 139, 140, 141, 142, 285, 287, 12, 288, 289, 290, 291, 292, 293, 294, 296, 13, 297, 298, 299, 44] rfl
set_option maxRecDepth 20000 in
theorem wsL_law0_r5_in : ∀ w ∈ wsL_law0_r5, w ∈ lw_tbl := z_memIn _ [300, 301, 302, 303, 304, 136, 137, 138, 305, 307, 14, 308, 309, 311, 15, 312, 313, 315, 16, 316, 147, 148, 45, 149] rfl
set_option maxRecDepth 20000 in
theorem wsL_law0_r6_in : ∀ w ∈ wsL_law0_r6, w ∈ lw_tbl := z_memIn _ [166, 168, 6, 169, 170, 143, 145, 2, 146, 131, 132, 133, 134, 135, 317, 319, 17, 320, 181, 182, 183, 184, 185, 187] rfl
set_option maxRecDepth 20000 in
theorem wsL_law0_r7_in : ∀ w ∈ wsL_law0_r7, w ∈ lw_tbl := z_memIn _ [8, 188, 509, 510, 511, 512, 459, 460, 513, 515, 19, 516, 505, 506, 507, 508, 321, 322, 323, 324, 325, 326, 327, 328] rfl
set_option maxRecDepth 20000 in
theorem wsL_law0_r8_in : ∀ w ∈ wsL_law0_r8, w ∈ lw_tbl := z_memIn _ [329, 330, 46, 346, 47, 362, 517, 518, 519, 520, 521, 523, 20, 524, 525, 526, 527, 528, 530, 21, 531, 363, 364, 365] rfl
set_option maxRecDepth 20000 in
theorem wsL_law0_r9_in : ∀ w ∈ wsL_law0_r9, w ∈ lw_tbl := z_memIn _ [366, 367, 368, 369, 532, 533, 534, 535, 461, 371, 372, 373, 374, 375, 376, 377, 379, 380, 381, 382, 383, 536, 537, 538] rfl
set_option maxRecDepth 20000 in
theorem wsL_law0_r10_in : ∀ w ∈ wsL_law0_r10, w ∈ lw_tbl := z_memIn _ [539, 540, 542, 22, 543, 466, 468, 544, 546, 23, 547, 467, 548, 550, 24, 551, 552, 434, 433, 48, 553, 555, 25, 556] rfl
set_option maxRecDepth 20000 in
theorem wsL_law0_r11_in : ∀ w ∈ wsL_law0_r11, w ∈ lw_tbl := z_memIn _ [473, 557, 559, 26, 560, 561, 563, 27, 564, 384, 385, 386, 387, 388, 389, 390, 193, 195, 9, 196, 162, 164, 5, 165] rfl
set_option maxRecDepth 20000 in
theorem wsL_law0_r12_in : ∀ w ∈ wsL_law0_r12, w ∈ lw_tbl := z_memIn _ [158, 160, 4, 161, 197, 199, 10, 200, 127, 129, 1, 130, 565, 566, 567, 568, 569, 571, 28, 572, 573, 575, 29, 576] rfl
set_option maxRecDepth 20000 in
theorem wsL_law0_r13_in : ∀ w ∈ wsL_law0_r13, w ∈ lw_tbl := z_memIn _ [577, 579, 30, 580, 392, 393, 394, 395, 396, 397, 398, 581, 582, 583, 584, 399, 400, 401, 402, 403, 404, 405, 177, 179] rfl
set_option maxRecDepth 20000 in
theorem wsL_law0_r14_in : ∀ w ∈ wsL_law0_r14, w ∈ lw_tbl := z_memIn _ [7, 180, 189, 190, 191, 192, 154, 156, 3, 157, 585, 586, 587, 588, 589, 591, 31, 592, 407, 408, 409, 410, 411, 412] rfl
set_option maxRecDepth 20000 in
theorem wsL_law0_r15_in : ∀ w ∈ wsL_law0_r15, w ∈ lw_tbl := z_memIn _ [413, 593, 594, 595, 596, 414, 415, 416, 417, 418, 419, 420, 597, 598, 599, 600, 115, 116, 117, 118, 123, 125, 0, 126] rfl
set_option maxRecDepth 20000 in
theorem wsL_law0_r16_in : ∀ w ∈ wsL_law0_r16, w ∈ lw_tbl := z_memIn _ [601, 602, 603, 604, 609, 605, 607, 32, 608, 421, 422, 423, 424, 425, 426, 427, 428, 429, 430, 431, 432, 435, 437, 18] rfl
set_option maxRecDepth 20000 in
theorem wsL_law0_r17_in : ∀ w ∈ wsL_law0_r17, w ∈ lw_tbl := z_memIn _ [438, 610, 611, 612, 613, 614, 616, 33, 617, 439, 440, 441, 442, 443, 444, 445, 618, 619, 620, 621, 626, 627, 628, 622] rfl
set_option maxRecDepth 20000 in
theorem wsL_law0_r18_in : ∀ w ∈ wsL_law0_r18, w ∈ lw_tbl := z_memIn _ [624, 34, 625, 446, 447, 448, 449, 450, 451, 452, 629, 630, 631, 632, 150, 151, 152, 153, 633, 634, 635, 636, 171, 172] rfl
set_option maxRecDepth 20000 in
theorem wsL_law0_r19_in : ∀ w ∈ wsL_law0_r19, w ∈ lw_tbl := z_memIn _ [173, 174, 175, 176, 637, 638, 639, 640, 641, 642] rfl
set_option maxRecDepth 20000 in
theorem wsX20_inl0 : ∀ w ∈ wsX20, w ∈ lw_tbl := z_memIn _ [96, 98, 100, 102, 104, 106, 108, 110, 112] rfl
set_option maxRecDepth 20000 in
theorem wsX30_inl0 : ∀ w ∈ wsX30, w ∈ lw_tbl := z_memIn _ [474, 476, 478, 480, 482, 484, 486, 488, 490, 492, 494, 496, 498, 500, 502] rfl
set_option maxRecDepth 20000 in
theorem wsX00_inl0 : ∀ w ∈ wsX00, w ∈ lw_tbl := z_memIn _ [65, 67] rfl
set_option maxRecDepth 20000 in
theorem wsX10_inl0 : ∀ w ∈ wsX10, w ∈ lw_tbl := z_memIn _ [80, 82, 84] rfl
theorem wsL_law_in0 : ∀ w ∈ wsL_law0, w ∈ lw_tbl := by
  show ∀ w ∈ (wsL_law0_r1 ++ (wsL_law0_r2 ++ (wsL_law0_r3 ++ (wsL_law0_r4 ++ (wsL_law0_r5 ++ (wsL_law0_r6 ++ (wsL_law0_r7 ++ (wsL_law0_r8 ++ (wsL_law0_r9 ++ (wsL_law0_r10 ++ (wsL_law0_r11 ++ (wsL_law0_r12 ++ (wsL_law0_r13 ++ (wsL_law0_r14 ++ (wsL_law0_r15 ++ (wsL_law0_r16 ++ (wsL_law0_r17 ++ (wsL_law0_r18 ++ wsL_law0_r19)))))))))))))))))) ++ wsX20 ++ wsX30 ++ wsX00 ++ wsX10 ++ ([] : List Cond), w ∈ lw_tbl
  exact (List.forall_mem_append.mpr ⟨(List.forall_mem_append.mpr ⟨(List.forall_mem_append.mpr ⟨(List.forall_mem_append.mpr ⟨(List.forall_mem_append.mpr ⟨(List.forall_mem_append.mpr ⟨wsL_law0_r1_in, (List.forall_mem_append.mpr ⟨wsL_law0_r2_in, (List.forall_mem_append.mpr ⟨wsL_law0_r3_in, (List.forall_mem_append.mpr ⟨wsL_law0_r4_in, (List.forall_mem_append.mpr ⟨wsL_law0_r5_in, (List.forall_mem_append.mpr ⟨wsL_law0_r6_in, (List.forall_mem_append.mpr ⟨wsL_law0_r7_in, (List.forall_mem_append.mpr ⟨wsL_law0_r8_in, (List.forall_mem_append.mpr ⟨wsL_law0_r9_in, (List.forall_mem_append.mpr ⟨wsL_law0_r10_in, (List.forall_mem_append.mpr ⟨wsL_law0_r11_in, (List.forall_mem_append.mpr ⟨wsL_law0_r12_in, (List.forall_mem_append.mpr ⟨wsL_law0_r13_in, (List.forall_mem_append.mpr ⟨wsL_law0_r14_in, (List.forall_mem_append.mpr ⟨wsL_law0_r15_in, (List.forall_mem_append.mpr ⟨wsL_law0_r16_in, (List.forall_mem_append.mpr ⟨wsL_law0_r17_in, (List.forall_mem_append.mpr ⟨wsL_law0_r18_in, wsL_law0_r19_in⟩)⟩)⟩)⟩)⟩)⟩)⟩)⟩)⟩)⟩)⟩)⟩)⟩)⟩)⟩)⟩)⟩)⟩), wsX20_inl0⟩), wsX30_inl0⟩), wsX00_inl0⟩), wsX10_inl0⟩), (fun w h => absurd h List.not_mem_nil)⟩)
theorem wsL_law_x0 : ∀ w ∈ (vx_atS RX2 54 "java/lang/IllegalStateException" ["java/lang/RuntimeException", "java/lang/Exception"]).filter goodWord, w ∈ lw_tbl := by decide +kernel
theorem wsL_law_x1 : ∀ w ∈ (vx_atS RX2 71 "java/lang/IndexOutOfBoundsException" ["java/lang/RuntimeException", "java/lang/Exception"]).filter goodWord, w ∈ lw_tbl := by decide +kernel
theorem wsL_law_x2 : ∀ w ∈ (vx_atS RX2 76 "java/lang/IllegalArgumentException" ["java/lang/RuntimeException", "java/lang/Exception"]).filter goodWord, w ∈ lw_tbl := by decide +kernel
theorem wsL_law_in : ∀ w ∈ wsL_law, w ∈ lw_tbl := fun w h => (List.mem_append.mp h).elim (fun h => (List.mem_append.mp h).elim (fun h => (List.mem_append.mp h).elim (fun h => wsL_law_in0 w h) (fun h => wsL_law_x0 w h)) (fun h => wsL_law_x1 w h)) (fun h => wsL_law_x2 w h)
theorem inlX0 : ∀ w ∈ wsX00, w ∈ wsL_law := fun _ h => List.mem_append_left _ (List.mem_append_left _ (List.mem_append_left _ (List.mem_append_left _ (List.mem_append_left _ (List.mem_append_right _ h)))))
theorem inX0 : ∀ w ∈ wsX00, w ∈ lw_tbl := fun w h => wsL_law_in w (inlX0 w h)
theorem inlX1 : ∀ w ∈ wsX10, w ∈ wsL_law := fun _ h => List.mem_append_left _ (List.mem_append_left _ (List.mem_append_left _ (List.mem_append_left _ (List.mem_append_right _ h))))
theorem inX1 : ∀ w ∈ wsX10, w ∈ lw_tbl := fun w h => wsL_law_in w (inlX1 w h)
theorem inlX2 : ∀ w ∈ wsX20, w ∈ wsL_law := fun _ h => List.mem_append_left _ (List.mem_append_left _ (List.mem_append_left _ (List.mem_append_left _ (List.mem_append_left _ (List.mem_append_left _ (List.mem_append_left _ (List.mem_append_right _ h)))))))
theorem inX2 : ∀ w ∈ wsX20, w ∈ lw_tbl := fun w h => wsL_law_in w (inlX2 w h)
theorem inlX3 : ∀ w ∈ wsX30, w ∈ wsL_law := fun _ h => List.mem_append_left _ (List.mem_append_left _ (List.mem_append_left _ (List.mem_append_left _ (List.mem_append_left _ (List.mem_append_left _ (List.mem_append_right _ h))))))
theorem inX3 : ∀ w ∈ wsX30, w ∈ lw_tbl := fun w h => wsL_law_in w (inlX3 w h)
theorem inJ6 : ∀ w ∈ wsJ60, w ∈ lw_tbl := by decide +kernel
theorem inJ9 : ∀ w ∈ wsJ90, w ∈ lw_tbl := by decide +kernel
theorem inJ0 : ∀ w ∈ wsJ00, w ∈ lw_tbl := by decide +kernel
theorem inJ10 : ∀ w ∈ wsJ100, w ∈ lw_tbl := by decide +kernel
