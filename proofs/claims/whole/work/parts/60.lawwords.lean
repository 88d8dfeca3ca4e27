set_option maxRecDepth 100000 in
theorem inL_r1 : ∀ w ∈ wsL_law_r1, w ∈ lw_tbl := fun w h => (goodIn_p wsL_law_r1 [95, 98] (by decide +kernel) (by decide +kernel) w h).1
set_option maxRecDepth 100000 in
theorem inL_r2 : ∀ w ∈ wsL_law_r2, w ∈ lw_tbl := fun w h => (goodIn_p wsL_law_r2 [103] (by decide +kernel) (by decide +kernel) w h).1
set_option maxRecDepth 100000 in
theorem inL_r3 : ∀ w ∈ wsL_law_r3, w ∈ lw_tbl := fun w h => (goodIn_p wsL_law_r3 [118, 136, 165] (by decide +kernel) (by decide +kernel) w h).1
set_option maxRecDepth 100000 in
theorem inL_r4 : ∀ w ∈ wsL_law_r4, w ∈ lw_tbl := fun w h => (goodIn_p wsL_law_r4 [185, 204, 671] (by decide +kernel) (by decide +kernel) w h).1
set_option maxRecDepth 100000 in
theorem inL_r5 : ∀ w ∈ wsL_law_r5, w ∈ lw_tbl := fun w h => (goodIn_p wsL_law_r5 [262, 266, 776, 780] (by decide +kernel) (by decide +kernel) w h).1
set_option maxRecDepth 100000 in
theorem inL_r6 : ∀ w ∈ wsL_law_r6, w ∈ lw_tbl := fun w h => (goodIn_p wsL_law_r6 [270, 274, 784, 278, 282, 286] (by decide +kernel) (by decide +kernel) w h).1
set_option maxRecDepth 100000 in
theorem inL_r7 : ∀ w ∈ wsL_law_r7, w ∈ lw_tbl := fun w h => (goodIn_p wsL_law_r7 [290, 293, 297, 788, 792, 796] (by decide +kernel) (by decide +kernel) w h).1
set_option maxRecDepth 100000 in
theorem inL_r8 : ∀ w ∈ wsL_law_r8, w ∈ lw_tbl := fun w h => (goodIn_p wsL_law_r8 [799, 301, 305, 311, 316, 319] (by decide +kernel) (by decide +kernel) w h).1
set_option maxRecDepth 100000 in
theorem inL_r9 : ∀ w ∈ wsL_law_r9, w ∈ lw_tbl := fun w h => (goodIn_p wsL_law_r9 [324, 327, 334, 344, 351] (by decide +kernel) (by decide +kernel) w h).1
set_option maxRecDepth 100000 in
theorem inL_r10 : ∀ w ∈ wsL_law_r10, w ∈ lw_tbl := fun w h => (goodIn_p wsL_law_r10 [360, 364, 805, 368, 372] (by decide +kernel) (by decide +kernel) w h).1
set_option maxRecDepth 100000 in
theorem inL_r11 : ∀ w ∈ wsL_law_r11, w ∈ lw_tbl := fun w h => (goodIn_p wsL_law_r11 [376, 380, 387, 397, 390, 393, 396] (by decide +kernel) (by decide +kernel) w h).1
set_option maxRecDepth 100000 in
theorem inL_r12 : ∀ w ∈ wsL_law_r12, w ∈ lw_tbl := fun w h => (goodIn_p wsL_law_r12 [401, 404, 408, 413, 417, 421] (by decide +kernel) (by decide +kernel) w h).1
set_option maxRecDepth 100000 in
theorem inL_r13 : ∀ w ∈ wsL_law_r13, w ∈ lw_tbl := fun w h => (goodIn_p wsL_law_r13 [428, 439, 431, 435, 438, 443] (by decide +kernel) (by decide +kernel) w h).1
set_option maxRecDepth 100000 in
theorem inL_r14 : ∀ w ∈ wsL_law_r14, w ∈ lw_tbl := fun w h => (goodIn_p wsL_law_r14 [447, 451, 455, 459, 809, 813, 817] (by decide +kernel) (by decide +kernel) w h).1
set_option maxRecDepth 100000 in
theorem inL_r15 : ∀ w ∈ wsL_law_r15, w ∈ lw_tbl := fun w h => (goodIn_p wsL_law_r15 [821, 825, 829, 833, 836] (by decide +kernel) (by decide +kernel) w h).1
set_option maxRecDepth 100000 in
theorem inL_r16 : ∀ w ∈ wsL_law_r16, w ∈ lw_tbl := fun w h => (goodIn_p wsL_law_r16 [840, 844, 848, 464, 468] (by decide +kernel) (by decide +kernel) w h).1
set_option maxRecDepth 100000 in
theorem inL_r17 : ∀ w ∈ wsL_law_r17, w ∈ lw_tbl := fun w h => (goodIn_p wsL_law_r17 [852, 472, 857, 476, 480, 861] (by decide +kernel) (by decide +kernel) w h).1
set_option maxRecDepth 100000 in
theorem inL_r18 : ∀ w ∈ wsL_law_r18, w ∈ lw_tbl := fun w h => (goodIn_p wsL_law_r18 [865, 484, 487, 491, 494, 498, 502] (by decide +kernel) (by decide +kernel) w h).1
set_option maxRecDepth 100000 in
theorem inL_r19 : ∀ w ∈ wsL_law_r19, w ∈ lw_tbl := fun w h => (goodIn_p wsL_law_r19 [506, 509, 513, 516, 869, 874, 878] (by decide +kernel) (by decide +kernel) w h).1
set_option maxRecDepth 100000 in
theorem inL_r20 : ∀ w ∈ wsL_law_r20, w ∈ lw_tbl := fun w h => (goodIn_p wsL_law_r20 [524, 528, 533, 537, 541] (by decide +kernel) (by decide +kernel) w h).1
set_option maxRecDepth 100000 in
theorem inL_r21 : ∀ w ∈ wsL_law_r21, w ∈ lw_tbl := fun w h => (goodIn_p wsL_law_r21 [544, 882, 888, 892, 896, 548] (by decide +kernel) (by decide +kernel) w h).1
set_option maxRecDepth 100000 in
theorem inL_r22 : ∀ w ∈ wsL_law_r22, w ∈ lw_tbl := fun w h => (goodIn_p wsL_law_r22 [552, 556, 900, 560, 906, 564] (by decide +kernel) (by decide +kernel) w h).1
set_option maxRecDepth 100000 in
theorem inL_r23 : ∀ w ∈ wsL_law_r23, w ∈ lw_tbl := fun w h => (goodIn_p wsL_law_r23 [568, 573, 577, 580, 586, 594] (by decide +kernel) (by decide +kernel) w h).1
set_option maxRecDepth 100000 in
theorem inL_r24 : ∀ w ∈ wsL_law_r24, w ∈ lw_tbl := fun w h => (goodIn_p wsL_law_r24 [598, 910, 914, 918, 922, 925, 602] (by decide +kernel) (by decide +kernel) w h).1
set_option maxRecDepth 100000 in
theorem inL_r25 : ∀ w ∈ wsL_law_r25, w ∈ lw_tbl := fun w h => (goodIn_p wsL_law_r25 [606, 611, 615, 929, 933, 619] (by decide +kernel) (by decide +kernel) w h).1
set_option maxRecDepth 100000 in
theorem inL_r26 : ∀ w ∈ wsL_law_r26, w ∈ lw_tbl := fun w h => (goodIn_p wsL_law_r26 [623, 630, 635, 937, 942] (by decide +kernel) (by decide +kernel) w h).1
set_option maxRecDepth 100000 in
theorem inL_r27 : ∀ w ∈ wsL_law_r27, w ∈ lw_tbl := fun w h => (goodIn_p wsL_law_r27 [639, 643, 950, 647] (by decide +kernel) (by decide +kernel) w h).1
set_option maxRecDepth 100000 in
theorem inL_r28 : ∀ w ∈ wsL_law_r28, w ∈ lw_tbl := fun w h => (goodIn_p wsL_law_r28 [954, 651, 958, 962, 966, 655] (by decide +kernel) (by decide +kernel) w h).1
set_option maxRecDepth 100000 in
theorem inL_r29 : ∀ w ∈ wsL_law_r29, w ∈ lw_tbl := fun w h => (goodIn_p wsL_law_r29 [660, 970, 975, 979] (by decide +kernel) (by decide +kernel) w h).1
set_option maxRecDepth 100000 in
theorem inX11 : ∀ w ∈ wsX110, w ∈ lw_tbl := fun w h => (goodIn_p wsX110 [] (by decide +kernel) (by decide +kernel) w h).1
set_option maxRecDepth 100000 in
theorem inX12 : ∀ w ∈ wsX120, w ∈ lw_tbl := fun w h => (goodIn_p wsX120 [] (by decide +kernel) (by decide +kernel) w h).1
set_option maxRecDepth 100000 in
theorem inX4 : ∀ w ∈ wsX40, w ∈ lw_tbl := fun w h => (goodIn_p wsX40 [] (by decide +kernel) (by decide +kernel) w h).1
set_option maxRecDepth 100000 in
theorem inX5 : ∀ w ∈ wsX50, w ∈ lw_tbl := fun w h => (goodIn_p wsX50 [] (by decide +kernel) (by decide +kernel) w h).1
set_option maxRecDepth 100000 in
theorem inX8 : ∀ w ∈ wsX80, w ∈ lw_tbl := fun w h => (goodIn_p wsX80 [] (by decide +kernel) (by decide +kernel) w h).1
set_option maxRecDepth 100000 in
theorem inX3 : ∀ w ∈ wsX30, w ∈ lw_tbl := fun w h => (goodIn_p wsX30 [] (by decide +kernel) (by decide +kernel) w h).1
set_option maxRecDepth 100000 in
theorem inX0 : ∀ w ∈ wsX00, w ∈ lw_tbl := fun w h => (goodIn_p wsX00 [] (by decide +kernel) (by decide +kernel) w h).1
set_option maxRecDepth 100000 in
theorem inX10 : ∀ w ∈ wsX100, w ∈ lw_tbl := fun w h => (goodIn_p wsX100 [] (by decide +kernel) (by decide +kernel) w h).1
set_option maxRecDepth 100000 in
theorem inX1 : ∀ w ∈ wsX10, w ∈ lw_tbl := fun w h => (goodIn_p wsX10 [] (by decide +kernel) (by decide +kernel) w h).1
set_option maxRecDepth 100000 in
theorem inX7 : ∀ w ∈ wsX70, w ∈ lw_tbl := fun w h => (goodIn_p wsX70 [] (by decide +kernel) (by decide +kernel) w h).1
set_option maxRecDepth 100000 in
theorem inX9 : ∀ w ∈ wsX90, w ∈ lw_tbl := fun w h => (goodIn_p wsX90 [] (by decide +kernel) (by decide +kernel) w h).1
set_option maxRecDepth 100000 in
theorem inX2 : ∀ w ∈ wsX20, w ∈ lw_tbl := fun w h => (goodIn_p wsX20 [] (by decide +kernel) (by decide +kernel) w h).1
set_option maxRecDepth 100000 in
theorem inX6 : ∀ w ∈ wsX60, w ∈ lw_tbl := fun w h => (goodIn_p wsX60 [] (by decide +kernel) (by decide +kernel) w h).1
theorem wsL_law_in : ∀ w ∈ wsL_law, w ∈ lw_tbl := by
  unfold wsL_law
  exact List.forall_mem_append.mpr ⟨(List.forall_mem_append.mpr ⟨(List.forall_mem_append.mpr ⟨(List.forall_mem_append.mpr ⟨(List.forall_mem_append.mpr ⟨(List.forall_mem_append.mpr ⟨(List.forall_mem_append.mpr ⟨(List.forall_mem_append.mpr ⟨(List.forall_mem_append.mpr ⟨(List.forall_mem_append.mpr ⟨(List.forall_mem_append.mpr ⟨(List.forall_mem_append.mpr ⟨(List.forall_mem_append.mpr ⟨(List.forall_mem_append.mpr ⟨(List.forall_mem_append.mpr ⟨inL_r1, List.forall_mem_append.mpr ⟨inL_r2, List.forall_mem_append.mpr ⟨inL_r3, List.forall_mem_append.mpr ⟨inL_r4, List.forall_mem_append.mpr ⟨inL_r5, List.forall_mem_append.mpr ⟨inL_r6, List.forall_mem_append.mpr ⟨inL_r7, List.forall_mem_append.mpr ⟨inL_r8, List.forall_mem_append.mpr ⟨inL_r9, List.forall_mem_append.mpr ⟨inL_r10, List.forall_mem_append.mpr ⟨inL_r11, List.forall_mem_append.mpr ⟨inL_r12, List.forall_mem_append.mpr ⟨inL_r13, List.forall_mem_append.mpr ⟨inL_r14, List.forall_mem_append.mpr ⟨inL_r15, List.forall_mem_append.mpr ⟨inL_r16, List.forall_mem_append.mpr ⟨inL_r17, List.forall_mem_append.mpr ⟨inL_r18, List.forall_mem_append.mpr ⟨inL_r19, List.forall_mem_append.mpr ⟨inL_r20, List.forall_mem_append.mpr ⟨inL_r21, List.forall_mem_append.mpr ⟨inL_r22, List.forall_mem_append.mpr ⟨inL_r23, List.forall_mem_append.mpr ⟨inL_r24, List.forall_mem_append.mpr ⟨inL_r25, List.forall_mem_append.mpr ⟨inL_r26, List.forall_mem_append.mpr ⟨inL_r27, List.forall_mem_append.mpr ⟨inL_r28, inL_r29⟩⟩⟩⟩⟩⟩⟩⟩⟩⟩⟩⟩⟩⟩⟩⟩⟩⟩⟩⟩⟩⟩⟩⟩⟩⟩⟩⟩), inX11⟩), inX12⟩), inX4⟩), inX5⟩), inX8⟩), inX3⟩), inX0⟩), inX10⟩), inX1⟩), inX7⟩), inX9⟩), inX2⟩), inX6⟩), fun _ h => absurd h List.not_mem_nil⟩
