/-! the law: the words of each call -/
theorem inlX1 : ∀ w ∈ wsX10, w ∈ wsL_law := fun _ h => List.mem_append_left _ (List.mem_append_left _ (List.mem_append_left _ (List.mem_append_left _ (List.mem_append_right _ h))))
theorem inX1 : ∀ w ∈ wsX10, w ∈ lw_tbl := fun w h => wsL_law_in w (inlX1 w h)
theorem inlX2 : ∀ w ∈ wsX20, w ∈ wsL_law := fun _ h => List.mem_append_left _ (List.mem_append_left _ (List.mem_append_left _ (List.mem_append_left _ (List.mem_append_left _ (List.mem_append_right _ h)))))
theorem inX2 : ∀ w ∈ wsX20, w ∈ lw_tbl := fun w h => wsL_law_in w (inlX2 w h)
theorem inlX3 : ∀ w ∈ wsX30, w ∈ wsL_law := fun _ h => List.mem_append_left _ (List.mem_append_left _ (List.mem_append_right _ h))
theorem inX3 : ∀ w ∈ wsX30, w ∈ lw_tbl := fun w h => wsL_law_in w (inlX3 w h)
theorem inlX4 : ∀ w ∈ wsX40, w ∈ wsL_law := fun _ h => List.mem_append_left _ (List.mem_append_left _ (List.mem_append_left _ (List.mem_append_right _ h)))
theorem inX4 : ∀ w ∈ wsX40, w ∈ lw_tbl := fun w h => wsL_law_in w (inlX4 w h)
theorem inlX5 : ∀ w ∈ wsX50, w ∈ wsL_law := fun _ h => List.mem_append_left _ (List.mem_append_right _ h)
theorem inX5 : ∀ w ∈ wsX50, w ∈ lw_tbl := fun w h => wsL_law_in w (inlX5 w h)
theorem inlX8 : ∀ w ∈ wsX80, w ∈ wsL_law := fun _ h => List.mem_append_left _ (List.mem_append_left _ (List.mem_append_left _ (List.mem_append_left _ (List.mem_append_left _ (List.mem_append_left _ (List.mem_append_left _ (List.mem_append_right _ h)))))))
theorem inX8 : ∀ w ∈ wsX80, w ∈ lw_tbl := fun w h => wsL_law_in w (inlX8 w h)
theorem inlX9 : ∀ w ∈ wsX90, w ∈ wsL_law := fun _ h => List.mem_append_left _ (List.mem_append_left _ (List.mem_append_left _ (List.mem_append_left _ (List.mem_append_left _ (List.mem_append_left _ (List.mem_append_right _ h))))))
theorem inX9 : ∀ w ∈ wsX90, w ∈ lw_tbl := fun w h => wsL_law_in w (inlX9 w h)
set_option maxRecDepth 20000 in
theorem ggL_law_X8_init : GoodIn wsL_law wsX8_init := goodIn_r _ [9, 10, 11, 12, 13, 14, 15, 16, 17, 18, 19, 20, 21, 22, 23, 24, 25, 26, 27, 28, 29, 30, 31, 32, 33, 34, 35, 36, 37, 38, 39, 40, 41, 42, 43, 44, 45, 46, 47, 48, 49, 50, 51, 52, 53, 54, 55, 56, 57, 58, 59, 60, 61, 62, 63, 64, 65, 66, 67, 68, 69, 70, 71, 72, 73, 74, 75, 76, 77, 755, 756, 757, 758, 759, 760, 761, 762, 763, 764, 765, 787, 788, 789, 790, 791, 792, 793, 794, 795, 796, 797, 798, 799, 800, 801] (by decide +kernel) (by decide +kernel)
set_option maxRecDepth 20000 in
theorem gL_law_X8_init : GoodIn wsL_law (wsX8_init) := ggL_law_X8_init
set_option maxRecDepth 20000 in
theorem ggL_law_X9_init : GoodIn wsL_law wsX9_init := goodIn_r _ [80, 81, 11, 12, 44, 82, 83, 84, 85, 86, 87, 88, 30, 89, 90, 91, 92, 93, 94, 95, 766, 767, 768, 769, 770, 771, 772, 773, 774, 775, 776, 777, 778, 779, 780, 781, 782, 783, 784, 785, 786] (by decide +kernel) (by decide +kernel)
set_option maxRecDepth 20000 in
theorem gL_law_X9_init : GoodIn wsL_law (wsX9_init) := ggL_law_X9_init
set_option maxRecDepth 20000 in
theorem ggL_law_X8_append : GoodIn wsL_law wsX8_append := goodIn_r _ [99, 35, 100, 101, 102, 103, 34, 104, 69, 105, 106, 107, 108, 68, 109, 755, 756, 757, 758, 759, 760, 761, 762, 763, 764, 765, 796, 797] (by decide +kernel) (by decide +kernel)
set_option maxRecDepth 20000 in
theorem gL_law_X8_append : GoodIn wsL_law (wsV RL 13 RX8 yX8_append wsX8_append) := goodIn_app (goodIn_of _ (by decide +kernel)) ggL_law_X8_append
set_option maxRecDepth 20000 in
theorem ggL_law_X9_append : GoodIn wsL_law wsX9_append := goodIn_r _ [113, 114, 115, 116, 82, 117, 118, 5, 119, 766, 767, 768, 769, 770, 771, 772, 773, 774, 775, 776, 777, 778, 779, 780, 781, 782, 783, 784, 785, 786] (by decide +kernel) (by decide +kernel)
set_option maxRecDepth 20000 in
theorem gL_law_X9_append : GoodIn wsL_law (wsV RL 17 RX9 yX9_append wsX9_append) := goodIn_app (goodIn_of _ (by decide +kernel)) ggL_law_X9_append
set_option maxRecDepth 20000 in
theorem ggL_law_X8_clearText : GoodIn wsL_law wsX8_clearText := goodIn_r _ [123, 35, 100, 755, 756, 757, 758, 759, 760, 761, 762, 763, 764, 765, 796, 797] (by decide +kernel) (by decide +kernel)
set_option maxRecDepth 20000 in
theorem gL_law_X8_clearText : GoodIn wsL_law (wsV RL 18 RX8 yX8_clearText wsX8_clearText) := goodIn_app (goodIn_of _ (by decide +kernel)) ggL_law_X8_clearText
set_option maxRecDepth 20000 in
theorem ggL_law_X9_clearText : GoodIn wsL_law wsX9_clearText := goodIn_r _ [127, 114, 116, 766, 767, 768, 769, 770, 771, 772, 773, 774, 775, 776, 777, 778, 779, 780, 781, 782, 783, 784, 785, 786] (by decide +kernel) (by decide +kernel)
set_option maxRecDepth 20000 in
theorem gL_law_X9_clearText : GoodIn wsL_law (wsV RL 22 RX9 yX9_clearText wsX9_clearText) := goodIn_app (goodIn_of _ (by decide +kernel)) ggL_law_X9_clearText
set_option maxRecDepth 20000 in
theorem ggL_law_X8_errorPosition : GoodIn wsL_law wsX8_errorPosition := goodIn_r _ [131, 35, 132, 133, 134, 34, 135, 69, 136, 137, 138, 139, 68, 140, 141, 142, 143, 144, 145, 146, 147, 755, 756, 757, 758, 759, 760, 761, 762, 763, 764, 765, 796, 797] (by decide +kernel) (by decide +kernel)
set_option maxRecDepth 20000 in
theorem gL_law_X8_errorPosition : GoodIn wsL_law (wsV RL 23 RX8 yX8_errorPosition wsX8_errorPosition) := goodIn_app (goodIn_of _ (by decide +kernel)) ggL_law_X8_errorPosition
set_option maxRecDepth 20000 in
theorem ggL_law_X9_errorPosition : GoodIn wsL_law wsX9_errorPosition := goodIn_r _ [151, 114, 152, 83, 116, 82, 153, 154, 155, 156, 5, 157, 117, 118, 119, 158, 159, 160, 161, 162, 163, 164, 165, 166, 167, 168, 766, 767, 768, 769, 770, 771, 772, 773, 774, 775, 776, 777, 778, 779, 780, 781, 782, 783, 784, 785, 786] (by decide +kernel) (by decide +kernel)
set_option maxRecDepth 20000 in
theorem gL_law_X9_errorPosition : GoodIn wsL_law (wsV RL 26 RX9 yX9_errorPosition wsX9_errorPosition) := goodIn_app (goodIn_of _ (by decide +kernel)) ggL_law_X9_errorPosition
set_option maxRecDepth 20000 in
theorem ggL_law_X8_load : GoodIn wsL_law wsX8_load := goodIn_r _ [172, 35, 13, 18, 28, 31, 173, 132, 133, 134, 34, 135, 69, 136, 137, 138, 139, 68, 140, 141, 142, 143, 144, 145, 146, 147, 174, 175, 176, 177, 178, 179, 180, 181, 182, 17, 183, 45, 48, 46, 47, 184, 185, 186, 187, 188, 189, 190, 27, 191, 62, 755, 756, 757, 758, 759, 760, 761, 762, 763, 764, 765, 787, 788, 789, 790, 796, 797, 793, 794, 795] (by decide +kernel) (by decide +kernel)
set_option maxRecDepth 20000 in
theorem gL_law_X8_load : GoodIn wsL_law (wsV RL 27 RX8 yX8_load wsX8_load) := goodIn_app (goodIn_of _ (by decide +kernel)) ggL_law_X8_load
set_option maxRecDepth 20000 in
theorem ggL_law_X9_load : GoodIn wsL_law wsX9_load := goodIn_r _ [195, 114, 153, 84, 83, 85, 196, 89, 197, 149, 150, 5, 151, 152, 116, 82, 154, 155, 156, 157, 117, 118, 119, 158, 159, 160, 161, 162, 163, 164, 165, 166, 167, 168, 198, 199, 200, 766, 767, 768, 769, 770, 771, 772, 773, 774, 775, 776, 777, 778, 779, 780, 781, 782, 783, 784, 785, 786] (by decide +kernel) (by decide +kernel)
set_option maxRecDepth 20000 in
theorem gL_law_X9_load : GoodIn wsL_law (wsV RL 30 RX9 yX9_load wsX9_load) := goodIn_app (goodIn_of _ (by decide +kernel)) ggL_law_X9_load
set_option maxRecDepth 20000 in
theorem ggL_law_X8_vertexCount : GoodIn wsL_law wsX8_vertexCount := goodIn_r _ [204, 13, 755, 756, 757, 758, 759, 760, 761, 762, 763, 764, 765] (by decide +kernel) (by decide +kernel)
set_option maxRecDepth 20000 in
theorem gL_law_X8_vertexCount : GoodIn wsL_law (wsV RL 31 RX8 yX8_vertexCount wsX8_vertexCount) := goodIn_app (goodIn_of _ (by decide +kernel)) ggL_law_X8_vertexCount
set_option maxRecDepth 20000 in
theorem ggL_law_X9_vertexCount : GoodIn wsL_law wsX9_vertexCount := goodIn_r _ [208, 114, 84, 766, 767, 768, 769, 770, 771, 772, 773, 774, 775, 776, 777, 778, 779, 780, 781, 782, 783, 784, 785, 786] (by decide +kernel) (by decide +kernel)
set_option maxRecDepth 20000 in
theorem gL_law_X9_vertexCount : GoodIn wsL_law (wsV RL 34 RX9 yX9_vertexCount wsX9_vertexCount) := goodIn_app (goodIn_of _ (by decide +kernel)) ggL_law_X9_vertexCount
set_option maxRecDepth 20000 in
theorem ggL_law_X8_edgeCount : GoodIn wsL_law wsX8_edgeCount := goodIn_r _ [212, 18, 173, 755, 756, 757, 758, 759, 760, 761, 762, 763, 764, 765, 787, 788, 789, 790] (by decide +kernel) (by decide +kernel)
set_option maxRecDepth 20000 in
theorem gL_law_X8_edgeCount : GoodIn wsL_law (wsV RL 35 RX8 yX8_edgeCount wsX8_edgeCount) := goodIn_app (goodIn_of _ (by decide +kernel)) ggL_law_X8_edgeCount
set_option maxRecDepth 20000 in
theorem ggL_law_X9_edgeCount : GoodIn wsL_law wsX9_edgeCount := goodIn_r _ [216, 114, 85, 766, 767, 768, 769, 770, 771, 772, 773, 774, 775, 776, 777, 778, 779, 780, 781, 782, 783, 784, 785, 786] (by decide +kernel) (by decide +kernel)
set_option maxRecDepth 20000 in
theorem gL_law_X9_edgeCount : GoodIn wsL_law (wsV RL 38 RX9 yX9_edgeCount wsX9_edgeCount) := goodIn_app (goodIn_of _ (by decide +kernel)) ggL_law_X9_edgeCount
set_option maxRecDepth 20000 in
theorem ggL_law_X8_source : GoodIn wsL_law wsX8_source := goodIn_r _ [220, 18, 221, 222, 223, 224, 17, 225, 48, 755, 756, 757, 758, 759, 760, 761, 762, 763, 764, 765, 787, 788, 789, 790] (by decide +kernel) (by decide +kernel)
set_option maxRecDepth 20000 in
theorem gL_law_X8_source : GoodIn wsL_law (wsV RL 39 RX8 yX8_source wsX8_source) := goodIn_app (goodIn_of _ (by decide +kernel)) ggL_law_X8_source
set_option maxRecDepth 20000 in
theorem ggL_law_X9_source : GoodIn wsL_law wsX9_source := goodIn_r _ [229, 114, 85, 230, 231, 232, 5, 233, 117, 118, 119, 766, 767, 768, 769, 770, 771, 772, 773, 774, 775, 776, 777, 778, 779, 780, 781, 782, 783, 784, 785, 786] (by decide +kernel) (by decide +kernel)
set_option maxRecDepth 20000 in
theorem gL_law_X9_source : GoodIn wsL_law (wsV RL 42 RX9 yX9_source wsX9_source) := goodIn_app (goodIn_of _ (by decide +kernel)) ggL_law_X9_source
set_option maxRecDepth 20000 in
theorem ggL_law_X8_target : GoodIn wsL_law wsX8_target := goodIn_r _ [237, 18, 238, 222, 223, 224, 17, 225, 48, 755, 756, 757, 758, 759, 760, 761, 762, 763, 764, 765, 787, 788, 789, 790] (by decide +kernel) (by decide +kernel)
set_option maxRecDepth 20000 in
theorem gL_law_X8_target : GoodIn wsL_law (wsV RL 43 RX8 yX8_target wsX8_target) := goodIn_app (goodIn_of _ (by decide +kernel)) ggL_law_X8_target
set_option maxRecDepth 20000 in
theorem ggL_law_X9_target : GoodIn wsL_law wsX9_target := goodIn_r _ [242, 114, 85, 230, 231, 232, 5, 233, 117, 118, 119, 766, 767, 768, 769, 770, 771, 772, 773, 774, 775, 776, 777, 778, 779, 780, 781, 782, 783, 784, 785, 786] (by decide +kernel) (by decide +kernel)
set_option maxRecDepth 20000 in
theorem gL_law_X9_target : GoodIn wsL_law (wsV RL 46 RX9 yX9_target wsX9_target) := goodIn_app (goodIn_of _ (by decide +kernel)) ggL_law_X9_target
set_option maxRecDepth 20000 in
theorem ggL_law_X8_label : GoodIn wsL_law wsX8_label := goodIn_r _ [246, 18, 247, 222, 223, 224, 17, 225, 48, 755, 756, 757, 758, 759, 760, 761, 762, 763, 764, 765, 787, 788, 789, 790] (by decide +kernel) (by decide +kernel)
set_option maxRecDepth 20000 in
theorem gL_law_X8_label : GoodIn wsL_law (wsV RL 47 RX8 yX8_label wsX8_label) := goodIn_app (goodIn_of _ (by decide +kernel)) ggL_law_X8_label
set_option maxRecDepth 20000 in
theorem ggL_law_X9_label : GoodIn wsL_law wsX9_label := goodIn_r _ [251, 114, 85, 230, 231, 232, 5, 233, 117, 118, 119, 766, 767, 768, 769, 770, 771, 772, 773, 774, 775, 776, 777, 778, 779, 780, 781, 782, 783, 784, 785, 786] (by decide +kernel) (by decide +kernel)
set_option maxRecDepth 20000 in
theorem gL_law_X9_label : GoodIn wsL_law (wsV RL 50 RX9 yX9_label wsX9_label) := goodIn_app (goodIn_of _ (by decide +kernel)) ggL_law_X9_label
set_option maxRecDepth 20000 in
theorem ggL_law_X8_addEdge : GoodIn wsL_law wsX8_addEdge := goodIn_r _ [255, 18, 28, 173, 256, 257, 258, 2, 259, 13, 260, 261, 262, 263, 185, 186, 17, 187, 48, 45, 264, 265, 266, 27, 267, 60, 61, 62, 268, 269, 270, 271, 272, 273, 274, 275, 46, 47, 276, 181, 182, 183, 184, 277, 755, 756, 757, 758, 759, 760, 761, 762, 763, 764, 765, 787, 788, 789, 790, 793, 794, 795] (by decide +kernel) (by decide +kernel)
set_option maxRecDepth 20000 in
theorem gL_law_X8_addEdge : GoodIn wsL_law (wsV RL 51 RX8 yX8_addEdge wsX8_addEdge) := goodIn_app (goodIn_of _ (by decide +kernel)) ggL_law_X8_addEdge
set_option maxRecDepth 20000 in
theorem ggL_law_X9_addEdge : GoodIn wsL_law wsX9_addEdge := goodIn_r _ [281, 114, 282, 85, 283, 284, 285, 5, 286, 84, 117, 118, 119, 287, 288, 289, 290, 196, 87, 166, 167, 168, 766, 767, 768, 769, 770, 771, 772, 773, 774, 775, 776, 777, 778, 779, 780, 781, 782, 783, 784, 785, 786] (by decide +kernel) (by decide +kernel)
set_option maxRecDepth 20000 in
theorem gL_law_X9_addEdge : GoodIn wsL_law (wsV RL 55 RX9 yX9_addEdge wsX9_addEdge) := goodIn_app (goodIn_of _ (by decide +kernel)) ggL_law_X9_addEdge
set_option maxRecDepth 20000 in
theorem ggL_law_X8_removeEdge : GoodIn wsL_law wsX8_removeEdge := goodIn_r _ [294, 18, 28, 173, 222, 223, 224, 17, 225, 48, 264, 265, 266, 27, 267, 60, 61, 62, 268, 269, 270, 271, 272, 273, 274, 275, 45, 46, 47, 276, 181, 182, 183, 184, 185, 186, 187, 295, 296, 297, 298, 299, 755, 756, 757, 758, 759, 760, 761, 762, 763, 764, 765, 787, 788, 789, 790, 793, 794, 795] (by decide +kernel) (by decide +kernel)
set_option maxRecDepth 20000 in
theorem gL_law_X8_removeEdge : GoodIn wsL_law (wsV RL 56 RX8 yX8_removeEdge wsX8_removeEdge) := goodIn_app (goodIn_of _ (by decide +kernel)) ggL_law_X8_removeEdge
set_option maxRecDepth 20000 in
theorem ggL_law_X9_removeEdge : GoodIn wsL_law wsX9_removeEdge := goodIn_r _ [303, 114, 85, 230, 231, 232, 5, 233, 117, 118, 119, 287, 288, 289, 290, 196, 87, 304, 305, 306, 766, 767, 768, 769, 770, 771, 772, 773, 774, 775, 776, 777, 778, 779, 780, 781, 782, 783, 784, 785, 786] (by decide +kernel) (by decide +kernel)
set_option maxRecDepth 20000 in
theorem gL_law_X9_removeEdge : GoodIn wsL_law (wsV RL 59 RX9 yX9_removeEdge wsX9_removeEdge) := goodIn_app (goodIn_of _ (by decide +kernel)) ggL_law_X9_removeEdge
set_option maxRecDepth 20000 in
theorem ggL_law_X8_setLabel : GoodIn wsL_law wsX8_setLabel := goodIn_r _ [310, 18, 28, 247, 222, 223, 224, 17, 225, 48, 260, 261, 2, 262, 264, 265, 266, 27, 267, 60, 61, 62, 268, 269, 270, 271, 272, 273, 274, 275, 45, 46, 47, 276, 181, 182, 183, 184, 185, 186, 187, 755, 756, 757, 758, 759, 760, 761, 762, 763, 764, 765, 787, 788, 789, 790, 793, 794, 795] (by decide +kernel) (by decide +kernel)
set_option maxRecDepth 20000 in
theorem gL_law_X8_setLabel : GoodIn wsL_law (wsV RL 60 RX8 yX8_setLabel wsX8_setLabel) := goodIn_app (goodIn_of _ (by decide +kernel)) ggL_law_X8_setLabel
set_option maxRecDepth 20000 in
theorem ggL_law_X9_setLabel : GoodIn wsL_law wsX9_setLabel := goodIn_r _ [314, 114, 282, 85, 230, 231, 232, 5, 233, 117, 118, 119, 287, 288, 289, 290, 196, 87, 766, 767, 768, 769, 770, 771, 772, 773, 774, 775, 776, 777, 778, 779, 780, 781, 782, 783, 784, 785, 786] (by decide +kernel) (by decide +kernel)
set_option maxRecDepth 20000 in
theorem gL_law_X9_setLabel : GoodIn wsL_law (wsV RL 64 RX9 yX9_setLabel wsX9_setLabel) := goodIn_app (goodIn_of _ (by decide +kernel)) ggL_law_X9_setLabel
set_option maxRecDepth 20000 in
theorem ggL_law_X8_undo : GoodIn wsL_law wsX8_undo := goodIn_r _ [318, 28, 319, 18, 320, 321, 322, 27, 323, 62, 61, 60, 272, 273, 274, 17, 275, 48, 45, 46, 47, 276, 181, 182, 183, 184, 185, 186, 187, 755, 756, 757, 758, 759, 760, 761, 762, 763, 764, 765, 793, 794, 795, 787, 788, 789, 790] (by decide +kernel) (by decide +kernel)
set_option maxRecDepth 20000 in
theorem gL_law_X8_undo : GoodIn wsL_law (wsV RL 65 RX8 yX8_undo wsX8_undo) := goodIn_app (goodIn_of _ (by decide +kernel)) ggL_law_X8_undo
set_option maxRecDepth 20000 in
theorem ggL_law_X9_undo : GoodIn wsL_law wsX9_undo := goodIn_r _ [327, 114, 196, 85, 87, 766, 767, 768, 769, 770, 771, 772, 773, 774, 775, 776, 777, 778, 779, 780, 781, 782, 783, 784, 785, 786] (by decide +kernel) (by decide +kernel)
set_option maxRecDepth 20000 in
theorem gL_law_X9_undo : GoodIn wsL_law (wsV RL 68 RX9 yX9_undo wsX9_undo) := goodIn_app (goodIn_of _ (by decide +kernel)) ggL_law_X9_undo
set_option maxRecDepth 20000 in
theorem ggL_law_X8_reachableFrom : GoodIn wsL_law wsX8_reachableFrom := goodIn_r _ [331, 18, 13, 256, 257, 258, 2, 259, 332, 333, 334, 335, 336, 337, 338, 339, 340, 341, 342, 343, 344, 345, 346, 347, 348, 349, 350, 17, 351, 47, 352, 353, 354, 355, 356, 357, 358, 359, 360, 361, 362, 363, 364, 365, 366, 755, 756, 757, 758, 759, 760, 761, 762, 763, 764, 765, 787, 788, 789, 790] (by decide +kernel) (by decide +kernel)
set_option maxRecDepth 20000 in
theorem gL_law_X8_reachableFrom : GoodIn wsL_law (wsV RL 69 RX8 yX8_reachableFrom wsX8_reachableFrom) := goodIn_app (goodIn_of _ (by decide +kernel)) ggL_law_X8_reachableFrom
set_option maxRecDepth 20000 in
theorem ggL_law_X9_reachableFrom : GoodIn wsL_law wsX9_reachableFrom := goodIn_r _ [370, 114, 85, 371, 84, 283, 284, 285, 5, 286, 117, 118, 119, 372, 373, 374, 375, 95, 376, 377, 378, 379, 380, 381, 382, 93, 383, 384, 385, 386, 387, 388, 389, 390, 391, 392, 393, 766, 767, 768, 769, 770, 771, 772, 773, 774, 775, 776, 777, 778, 779, 780, 781, 782, 783, 784, 785, 786] (by decide +kernel) (by decide +kernel)
set_option maxRecDepth 20000 in
theorem gL_law_X9_reachableFrom : GoodIn wsL_law (wsV RL 72 RX9 yX9_reachableFrom wsX9_reachableFrom) := goodIn_app (goodIn_of _ (by decide +kernel)) ggL_law_X9_reachableFrom
set_option maxRecDepth 20000 in
theorem ggL_law_X8_pairCount : GoodIn wsL_law wsX8_pairCount := goodIn_r _ [397, 18, 398, 399, 400, 2, 401, 13, 332, 333, 334, 335, 336, 337, 338, 339, 340, 341, 342, 343, 344, 345, 346, 347, 348, 349, 350, 17, 351, 47, 352, 353, 354, 355, 356, 357, 358, 359, 360, 361, 362, 363, 364, 365, 402, 403, 404, 405, 406, 407, 408, 755, 756, 757, 758, 759, 760, 761, 762, 763, 764, 765, 787, 788, 789, 790] (by decide +kernel) (by decide +kernel)
set_option maxRecDepth 20000 in
theorem gL_law_X8_pairCount : GoodIn wsL_law (wsV RL 73 RX8 yX8_pairCount wsX8_pairCount) := goodIn_app (goodIn_of _ (by decide +kernel)) ggL_law_X8_pairCount
set_option maxRecDepth 20000 in
theorem ggL_law_X9_pairCount : GoodIn wsL_law wsX9_pairCount := goodIn_r _ [412, 114, 85, 371, 413, 414, 415, 5, 416, 372, 373, 374, 375, 95, 376, 377, 378, 379, 380, 381, 382, 93, 383, 384, 385, 386, 387, 388, 389, 117, 118, 119, 417, 418, 419, 420, 84, 766, 767, 768, 769, 770, 771, 772, 773, 774, 775, 776, 777, 778, 779, 780, 781, 782, 783, 784, 785, 786] (by decide +kernel) (by decide +kernel)
set_option maxRecDepth 20000 in
theorem gL_law_X9_pairCount : GoodIn wsL_law (wsV RL 76 RX9 yX9_pairCount wsX9_pairCount) := goodIn_app (goodIn_of _ (by decide +kernel)) ggL_law_X9_pairCount
