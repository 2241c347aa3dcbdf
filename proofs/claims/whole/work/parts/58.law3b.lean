/-! the law: the words of each call -/
set_option maxRecDepth 20000 in
theorem ggL_law_X8_distance : GoodIn wsL_law wsX8_distance := goodIn_r _ [424, 24, 18, 13, 256, 257, 258, 2, 259, 425, 426, 427, 23, 428, 429, 269, 270, 271, 54, 53, 430, 431, 432, 433, 434, 435, 436, 437, 438, 349, 350, 17, 351, 47, 439, 440, 441, 442, 443, 444, 445, 446, 447, 448, 449, 450, 451, 452, 453, 454, 356, 357, 358, 455, 360, 361, 362, 456, 457, 755, 756, 757, 758, 759, 760, 761, 762, 763, 764, 765, 791, 792, 787, 788, 789, 790] (by decide +kernel) (by decide +kernel)
set_option maxRecDepth 20000 in
theorem gL_law_X8_distance : GoodIn wsL_law (wsV RL 77 RX8 yX8_distance wsX8_distance) := goodIn_app (goodIn_of _ (by decide +kernel)) ggL_law_X8_distance
set_option maxRecDepth 20000 in
theorem ggL_law_X9_distance : GoodIn wsL_law wsX9_distance := goodIn_r _ [461, 114, 85, 371, 93, 283, 284, 285, 5, 286, 84, 117, 118, 119, 372, 373, 374, 375, 95, 376, 377, 378, 379, 380, 381, 382, 383, 384, 385, 386, 387, 388, 389, 390, 391, 392, 393, 766, 767, 768, 769, 770, 771, 772, 773, 774, 775, 776, 777, 778, 779, 780, 781, 782, 783, 784, 785, 786] (by decide +kernel) (by decide +kernel)
set_option maxRecDepth 20000 in
theorem gL_law_X9_distance : GoodIn wsL_law (wsV RL 80 RX9 yX9_distance wsX9_distance) := goodIn_app (goodIn_of _ (by decide +kernel)) ggL_law_X9_distance
set_option maxRecDepth 20000 in
theorem ggL_law_X8_witnessEdge : GoodIn wsL_law wsX8_witnessEdge := goodIn_r _ [465, 24, 18, 13, 256, 257, 258, 2, 259, 425, 426, 427, 23, 428, 429, 269, 270, 271, 54, 53, 430, 431, 432, 433, 434, 435, 436, 437, 438, 349, 350, 17, 351, 47, 439, 440, 441, 442, 443, 444, 445, 446, 447, 448, 449, 450, 451, 452, 453, 454, 356, 357, 358, 455, 360, 361, 362, 466, 467, 468, 469, 470, 471, 472, 473, 474, 475, 476, 477, 478, 479, 480, 481, 755, 756, 757, 758, 759, 760, 761, 762, 763, 764, 765, 791, 792, 787, 788, 789, 790] (by decide +kernel) (by decide +kernel)
set_option maxRecDepth 20000 in
theorem gL_law_X8_witnessEdge : GoodIn wsL_law (wsV RL 81 RX8 yX8_witnessEdge wsX8_witnessEdge) := goodIn_app (goodIn_of _ (by decide +kernel)) ggL_law_X8_witnessEdge
set_option maxRecDepth 20000 in
theorem ggL_law_X9_witnessEdge : GoodIn wsL_law wsX9_witnessEdge := goodIn_r _ [485, 114, 85, 371, 93, 389, 283, 284, 285, 5, 286, 84, 117, 118, 119, 372, 373, 374, 375, 95, 376, 377, 378, 379, 380, 381, 382, 383, 384, 385, 386, 387, 388, 486, 487, 488, 489, 490, 491, 492, 493, 766, 767, 768, 769, 770, 771, 772, 773, 774, 775, 776, 777, 778, 779, 780, 781, 782, 783, 784, 785, 786] (by decide +kernel) (by decide +kernel)
set_option maxRecDepth 20000 in
theorem gL_law_X9_witnessEdge : GoodIn wsL_law (wsV RL 84 RX9 yX9_witnessEdge wsX9_witnessEdge) := goodIn_app (goodIn_of _ (by decide +kernel)) ggL_law_X9_witnessEdge
set_option maxRecDepth 20000 in
theorem ggL_law_X8_depth : GoodIn wsL_law wsX8_depth := goodIn_r _ [497, 18, 13, 256, 257, 258, 2, 259, 498, 499, 334, 500, 336, 346, 337, 338, 339, 340, 341, 342, 501, 502, 503, 347, 348, 349, 350, 17, 351, 47, 355, 356, 357, 358, 359, 360, 361, 362, 363, 364, 365, 352, 353, 354, 504, 505, 506, 507, 755, 756, 757, 758, 759, 760, 761, 762, 763, 764, 765, 787, 788, 789, 790] (by decide +kernel) (by decide +kernel)
set_option maxRecDepth 20000 in
theorem gL_law_X8_depth : GoodIn wsL_law (wsV RL 85 RX8 yX8_depth wsX8_depth) := goodIn_app (goodIn_of _ (by decide +kernel)) ggL_law_X8_depth
set_option maxRecDepth 20000 in
theorem ggL_law_X9_depth : GoodIn wsL_law wsX9_depth := goodIn_r _ [511, 114, 94, 383, 283, 284, 285, 5, 286, 84, 117, 118, 119, 512, 513, 514, 515, 85, 384, 516, 517, 518, 519, 766, 767, 768, 769, 770, 771, 772, 773, 774, 775, 776, 777, 778, 779, 780, 781, 782, 783, 784, 785, 786] (by decide +kernel) (by decide +kernel)
set_option maxRecDepth 20000 in
theorem gL_law_X9_depth : GoodIn wsL_law (wsV RL 88 RX9 yX9_depth wsX9_depth) := goodIn_app (goodIn_of _ (by decide +kernel)) ggL_law_X9_depth
set_option maxRecDepth 20000 in
theorem ggL_law_X8_loss : GoodIn wsL_law wsX8_loss := goodIn_r _ [523, 18, 222, 223, 224, 17, 225, 48, 398, 399, 400, 2, 401, 13, 332, 333, 334, 335, 336, 337, 338, 339, 340, 341, 342, 343, 344, 345, 346, 347, 348, 349, 350, 351, 47, 352, 353, 354, 355, 356, 357, 358, 359, 360, 361, 362, 363, 364, 365, 402, 403, 404, 405, 406, 407, 408, 524, 525, 526, 527, 19, 528, 273, 274, 275, 45, 46, 276, 181, 182, 183, 184, 185, 186, 187, 295, 296, 297, 298, 299, 755, 756, 757, 758, 759, 760, 761, 762, 763, 764, 765, 787, 788, 789, 790] (by decide +kernel) (by decide +kernel)
set_option maxRecDepth 20000 in
theorem gL_law_X8_loss : GoodIn wsL_law (wsV RL 89 RX8 yX8_loss wsX8_loss) := goodIn_app (goodIn_of _ (by decide +kernel)) ggL_law_X8_loss
set_option maxRecDepth 20000 in
theorem ggL_law_X9_loss : GoodIn wsL_law wsX9_loss := goodIn_r _ [532, 114, 230, 231, 232, 5, 233, 85, 117, 118, 119, 533, 534, 535, 536, 371, 413, 414, 415, 416, 372, 373, 374, 375, 95, 376, 377, 378, 379, 380, 381, 382, 93, 383, 384, 385, 386, 387, 388, 389, 417, 418, 419, 420, 84, 766, 767, 768, 769, 770, 771, 772, 773, 774, 775, 776, 777, 778, 779, 780, 781, 782, 783, 784, 785, 786] (by decide +kernel) (by decide +kernel)
set_option maxRecDepth 20000 in
theorem gL_law_X9_loss : GoodIn wsL_law (wsV RL 92 RX9 yX9_loss wsX9_loss) := goodIn_app (goodIn_of _ (by decide +kernel)) ggL_law_X9_loss
set_option maxRecDepth 20000 in
theorem ggL_law_X8_criticalEdge : GoodIn wsL_law wsX8_criticalEdge := goodIn_r _ [540, 18, 173, 524, 525, 526, 2, 527, 19, 528, 273, 274, 17, 275, 48, 45, 46, 47, 276, 181, 182, 183, 184, 185, 186, 187, 295, 296, 297, 298, 299, 223, 224, 225, 398, 399, 400, 401, 13, 332, 333, 334, 335, 336, 337, 338, 339, 340, 341, 342, 343, 344, 345, 346, 347, 348, 349, 350, 351, 352, 353, 354, 355, 356, 357, 358, 359, 360, 361, 362, 363, 364, 365, 402, 403, 404, 405, 406, 407, 408, 755, 756, 757, 758, 759, 760, 761, 762, 763, 764, 765, 787, 788, 789, 790] (by decide +kernel) (by decide +kernel)
set_option maxRecDepth 20000 in
theorem gL_law_X8_criticalEdge : GoodIn wsL_law (wsV RL 93 RX8 yX8_criticalEdge wsX8_criticalEdge) := goodIn_app (goodIn_of _ (by decide +kernel)) ggL_law_X8_criticalEdge
set_option maxRecDepth 20000 in
theorem ggL_law_X9_criticalEdge : GoodIn wsL_law wsX9_criticalEdge := goodIn_r _ [544, 114, 85, 533, 534, 535, 5, 536, 371, 413, 414, 415, 416, 372, 373, 374, 375, 95, 376, 377, 378, 379, 380, 381, 382, 93, 383, 384, 385, 386, 387, 388, 389, 117, 118, 119, 417, 418, 419, 420, 84, 766, 767, 768, 769, 770, 771, 772, 773, 774, 775, 776, 777, 778, 779, 780, 781, 782, 783, 784, 785, 786] (by decide +kernel) (by decide +kernel)
set_option maxRecDepth 20000 in
theorem gL_law_X9_criticalEdge : GoodIn wsL_law (wsV RL 96 RX9 yX9_criticalEdge wsX9_criticalEdge) := goodIn_app (goodIn_of _ (by decide +kernel)) ggL_law_X9_criticalEdge
set_option maxRecDepth 20000 in
theorem ggL_law_X8_representative : GoodIn wsL_law wsX8_representative := goodIn_r _ [548, 20, 18, 13, 256, 257, 258, 2, 259, 549, 550, 551, 17, 552, 48, 46, 45, 47, 553, 273, 274, 275, 276, 181, 182, 183, 184, 185, 186, 187, 554, 555, 556, 332, 333, 334, 335, 336, 337, 338, 339, 340, 341, 342, 343, 344, 345, 346, 347, 348, 349, 350, 351, 352, 353, 354, 355, 356, 357, 358, 359, 360, 361, 362, 363, 364, 365, 366, 557, 558, 559, 560, 561, 755, 756, 757, 758, 759, 760, 761, 762, 763, 764, 765, 787, 788, 789, 790] (by decide +kernel) (by decide +kernel)
set_option maxRecDepth 20000 in
theorem gL_law_X8_representative : GoodIn wsL_law (wsV RL 97 RX8 yX8_representative wsX8_representative) := goodIn_app (goodIn_of _ (by decide +kernel)) ggL_law_X8_representative
set_option maxRecDepth 20000 in
theorem ggL_law_X9_representative : GoodIn wsL_law wsX9_representative := goodIn_r _ [565, 114, 85, 95, 283, 284, 285, 5, 286, 84, 117, 118, 119, 379, 380, 381, 382, 93, 383, 384, 385, 386, 387, 388, 389, 390, 391, 392, 393, 766, 767, 768, 769, 770, 771, 772, 773, 774, 775, 776, 777, 778, 779, 780, 781, 782, 783, 784, 785, 786] (by decide +kernel) (by decide +kernel)
set_option maxRecDepth 20000 in
theorem gL_law_X9_representative : GoodIn wsL_law (wsV RL 100 RX9 yX9_representative wsX9_representative) := goodIn_app (goodIn_of _ (by decide +kernel)) ggL_law_X9_representative
set_option maxRecDepth 20000 in
theorem ggL_law_X8_runScript : GoodIn wsL_law wsX8_runScript := goodIn_r _ [569, 19, 18, 13, 24, 570, 571, 572, 573, 574, 528, 273, 274, 17, 275, 48, 45, 46, 47, 276, 181, 182, 183, 184, 185, 186, 187, 575, 576, 577, 578, 579, 580, 581, 582, 583, 261, 2, 262, 584, 585, 586, 587, 588, 589, 223, 224, 225, 590, 296, 297, 298, 299, 591, 333, 334, 335, 336, 337, 338, 339, 340, 341, 342, 343, 344, 345, 346, 347, 348, 349, 350, 351, 352, 353, 354, 355, 356, 357, 358, 359, 360, 361, 362, 363, 364, 365, 592, 593, 403, 404, 405, 406, 407, 408, 594, 426, 427, 23, 428, 429, 269, 270, 271, 54, 53, 430, 431, 432, 433, 434, 435, 436, 437, 438, 439, 440, 441, 442, 443, 444, 445, 446, 447, 448, 449, 450, 451, 452, 453, 454, 455, 595, 755, 756, 757, 758, 759, 760, 761, 762, 763, 764, 765, 787, 788, 789, 790, 791, 792] (by decide +kernel) (by decide +kernel)
set_option maxRecDepth 20000 in
theorem gL_law_X8_runScript : GoodIn wsL_law (wsV RL 103 RX8 yX8_runScript wsX8_runScript) := goodIn_app (goodIn_of _ (by decide +kernel)) ggL_law_X8_runScript
set_option maxRecDepth 20000 in
theorem ggL_law_X9_runScript : GoodIn wsL_law wsX9_runScript := goodIn_r _ [599, 114, 600, 85, 86, 601, 117, 118, 5, 119, 602, 603, 604, 198, 199, 200, 605, 606, 607, 608, 371, 93, 283, 284, 285, 286, 84, 166, 167, 168, 304, 305, 306, 372, 373, 374, 375, 95, 376, 377, 378, 379, 380, 381, 382, 383, 384, 385, 386, 387, 388, 389, 390, 391, 392, 393, 413, 414, 415, 416, 417, 418, 419, 420, 766, 767, 768, 769, 770, 771, 772, 773, 774, 775, 776, 777, 778, 779, 780, 781, 782, 783, 784, 785, 786] (by decide +kernel) (by decide +kernel)
set_option maxRecDepth 20000 in
theorem gL_law_X9_runScript : GoodIn wsL_law (wsV RL 107 RX9 yX9_runScript wsX9_runScript) := goodIn_app (goodIn_of _ (by decide +kernel)) ggL_law_X9_runScript
set_option maxRecDepth 20000 in
theorem ggL_law_X8_observe : GoodIn wsL_law wsX8_observe := goodIn_r _ [612, 39, 613, 614, 444, 2, 445, 615, 616, 617, 38, 618, 77, 619, 620, 621, 622, 74, 75, 76, 623, 755, 756, 757, 758, 759, 760, 761, 762, 763, 764, 765, 798, 799, 800, 801] (by decide +kernel) (by decide +kernel)
set_option maxRecDepth 20000 in
theorem gL_law_X8_observe : GoodIn wsL_law (wsV RL 108 RX8 yX8_observe wsX8_observe) := goodIn_app (goodIn_of _ (by decide +kernel)) ggL_law_X8_observe
set_option maxRecDepth 20000 in
theorem ggL_law_X9_observe : GoodIn wsL_law wsX9_observe := goodIn_r _ [627, 114, 628, 629, 90, 91, 92, 117, 118, 5, 119, 766, 767, 768, 769, 770, 771, 772, 773, 774, 775, 776, 777, 778, 779, 780, 781, 782, 783, 784, 785, 786] (by decide +kernel) (by decide +kernel)
set_option maxRecDepth 20000 in
theorem gL_law_X9_observe : GoodIn wsL_law (wsV RL 111 RX9 yX9_observe wsX9_observe) := goodIn_app (goodIn_of _ (by decide +kernel)) ggL_law_X9_observe
set_option maxRecDepth 20000 in
theorem ggL_law_X8_clearObservations : GoodIn wsL_law wsX8_clearObservations := goodIn_r _ [633, 39, 613, 755, 756, 757, 758, 759, 760, 761, 762, 763, 764, 765, 798, 799, 800, 801] (by decide +kernel) (by decide +kernel)
set_option maxRecDepth 20000 in
theorem gL_law_X8_clearObservations : GoodIn wsL_law (wsV RL 112 RX8 yX8_clearObservations wsX8_clearObservations) := goodIn_app (goodIn_of _ (by decide +kernel)) ggL_law_X8_clearObservations
set_option maxRecDepth 20000 in
theorem ggL_law_X9_clearObservations : GoodIn wsL_law wsX9_clearObservations := goodIn_r _ [637, 114, 629, 766, 767, 768, 769, 770, 771, 772, 773, 774, 775, 776, 777, 778, 779, 780, 781, 782, 783, 784, 785, 786] (by decide +kernel) (by decide +kernel)
set_option maxRecDepth 20000 in
theorem gL_law_X9_clearObservations : GoodIn wsL_law (wsV RL 115 RX9 yX9_clearObservations wsX9_clearObservations) := goodIn_app (goodIn_of _ (by decide +kernel)) ggL_law_X9_clearObservations
set_option maxRecDepth 20000 in
theorem ggL_law_X8_possibleLabels : GoodIn wsL_law wsX8_possibleLabels := goodIn_r _ [641, 18, 19, 247, 39, 13, 222, 223, 224, 17, 225, 48, 528, 273, 274, 275, 45, 46, 47, 276, 181, 182, 183, 184, 185, 186, 187, 332, 333, 334, 335, 336, 337, 338, 339, 340, 341, 342, 343, 344, 345, 346, 347, 348, 349, 350, 351, 352, 353, 354, 355, 356, 357, 358, 359, 360, 361, 362, 363, 364, 365, 642, 643, 644, 38, 645, 77, 74, 75, 76, 646, 755, 756, 757, 758, 759, 760, 761, 762, 763, 764, 765, 787, 788, 789, 790, 798, 799, 800, 801] (by decide +kernel) (by decide +kernel)
set_option maxRecDepth 20000 in
theorem gL_law_X8_possibleLabels : GoodIn wsL_law (wsV RL 116 RX8 yX8_possibleLabels wsX8_possibleLabels) := goodIn_app (goodIn_of _ (by decide +kernel)) ggL_law_X8_possibleLabels
set_option maxRecDepth 20000 in
theorem ggL_law_X9_possibleLabels : GoodIn wsL_law wsX9_possibleLabels := goodIn_r _ [650, 114, 85, 86, 371, 629, 90, 91, 92, 230, 231, 232, 5, 233, 117, 118, 119, 198, 199, 200, 372, 373, 374, 375, 95, 376, 377, 378, 379, 380, 381, 382, 93, 383, 384, 385, 386, 387, 388, 389, 283, 284, 285, 286, 84, 390, 391, 392, 393, 766, 767, 768, 769, 770, 771, 772, 773, 774, 775, 776, 777, 778, 779, 780, 781, 782, 783, 784, 785, 786] (by decide +kernel) (by decide +kernel)
set_option maxRecDepth 20000 in
theorem gL_law_X9_possibleLabels : GoodIn wsL_law (wsV RL 119 RX9 yX9_possibleLabels wsX9_possibleLabels) := goodIn_app (goodIn_of _ (by decide +kernel)) ggL_law_X9_possibleLabels
set_option maxRecDepth 20000 in
theorem ggL_law_X8_share : GoodIn wsL_law wsX8_share := goodIn_r _ [654, 18, 173, 222, 223, 224, 17, 225, 48, 655, 656, 657, 2, 658, 19, 659, 660, 661, 662, 45, 46, 47, 276, 181, 182, 183, 184, 185, 186, 187, 398, 399, 400, 401, 13, 332, 333, 334, 335, 336, 337, 338, 339, 340, 341, 342, 343, 344, 345, 346, 347, 348, 349, 350, 351, 352, 353, 354, 355, 356, 357, 358, 359, 360, 361, 362, 363, 364, 365, 402, 403, 404, 405, 406, 407, 408, 663, 664, 559, 665, 666, 667, 668, 669, 670, 671, 672, 673, 674, 755, 756, 757, 758, 759, 760, 761, 762, 763, 764, 765, 787, 788, 789, 790] (by decide +kernel) (by decide +kernel)
set_option maxRecDepth 20000 in
theorem gL_law_X8_share : GoodIn wsL_law (wsV RL 120 RX8 yX8_share wsX8_share) := goodIn_app (goodIn_of _ (by decide +kernel)) ggL_law_X8_share
set_option maxRecDepth 20000 in
theorem ggL_law_X9_share : GoodIn wsL_law wsX9_share := goodIn_r _ [678, 114, 85, 679, 230, 231, 232, 5, 233, 117, 118, 119, 376, 377, 378, 680, 681, 682, 683, 684, 685, 413, 414, 415, 416, 372, 373, 374, 375, 95, 379, 380, 381, 382, 93, 383, 384, 385, 386, 387, 388, 389, 417, 418, 419, 420, 84, 766, 767, 768, 769, 770, 771, 772, 773, 774, 775, 776, 777, 778, 779, 780, 781, 782, 783, 784, 785, 786] (by decide +kernel) (by decide +kernel)
set_option maxRecDepth 20000 in
theorem gL_law_X9_share : GoodIn wsL_law (wsV RL 123 RX9 yX9_share wsX9_share) := goodIn_app (goodIn_of _ (by decide +kernel)) ggL_law_X9_share
set_option maxRecDepth 20000 in
theorem ggL_law_X8_reliability : GoodIn wsL_law wsX8_reliability := goodIn_r _ [689, 18, 173, 19, 13, 256, 257, 258, 2, 259, 659, 660, 661, 17, 662, 48, 45, 46, 47, 276, 181, 182, 183, 184, 185, 186, 187, 332, 333, 334, 335, 336, 337, 338, 339, 340, 341, 342, 343, 344, 345, 346, 347, 348, 349, 350, 351, 352, 353, 354, 355, 356, 357, 358, 359, 360, 361, 362, 363, 364, 365, 507, 690, 691, 671, 692, 755, 756, 757, 758, 759, 760, 761, 762, 763, 764, 765, 787, 788, 789, 790] (by decide +kernel) (by decide +kernel)
set_option maxRecDepth 20000 in
theorem gL_law_X8_reliability : GoodIn wsL_law (wsV RL 124 RX8 yX8_reliability wsX8_reliability) := goodIn_app (goodIn_of _ (by decide +kernel)) ggL_law_X8_reliability
set_option maxRecDepth 20000 in
theorem ggL_law_X9_reliability : GoodIn wsL_law wsX9_reliability := goodIn_r _ [696, 114, 697, 85, 283, 284, 285, 5, 286, 84, 117, 118, 119, 372, 373, 374, 375, 95, 376, 377, 378, 379, 380, 381, 382, 93, 383, 384, 385, 386, 387, 388, 389, 390, 391, 392, 393, 766, 767, 768, 769, 770, 771, 772, 773, 774, 775, 776, 777, 778, 779, 780, 781, 782, 783, 784, 785, 786] (by decide +kernel) (by decide +kernel)
set_option maxRecDepth 20000 in
theorem gL_law_X9_reliability : GoodIn wsL_law (wsV RL 127 RX9 yX9_reliability wsX9_reliability) := goodIn_app (goodIn_of _ (by decide +kernel)) ggL_law_X9_reliability
set_option maxRecDepth 20000 in
theorem ggL_law_X8_setSeed : GoodIn wsL_law wsX8_setSeed := goodIn_r _ [701, 14, 755, 756, 757, 758, 759, 760, 761, 762, 763, 764, 765] (by decide +kernel) (by decide +kernel)
set_option maxRecDepth 20000 in
theorem gL_law_X8_setSeed : GoodIn wsL_law (wsV RL 128 RX8 yX8_setSeed wsX8_setSeed) := goodIn_app (goodIn_of _ (by decide +kernel)) ggL_law_X8_setSeed
set_option maxRecDepth 20000 in
theorem ggL_law_X9_setSeed : GoodIn wsL_law wsX9_setSeed := goodIn_r _ [705, 114, 706, 766, 767, 768, 769, 770, 771, 772, 773, 774, 775, 776, 777, 778, 779, 780, 781, 782, 783, 784, 785, 786] (by decide +kernel) (by decide +kernel)
set_option maxRecDepth 20000 in
theorem gL_law_X9_setSeed : GoodIn wsL_law (wsV RL 132 RX9 yX9_setSeed wsX9_setSeed) := goodIn_app (goodIn_of _ (by decide +kernel)) ggL_law_X9_setSeed
set_option maxRecDepth 20000 in
theorem ggL_law_X8_simulate : GoodIn wsL_law wsX8_simulate := goodIn_r _ [710, 19, 18, 14, 13, 528, 273, 274, 17, 275, 48, 45, 46, 47, 276, 181, 182, 183, 184, 185, 186, 187, 711, 712, 671, 713, 714, 715, 716, 717, 718, 719, 720, 721, 722, 723, 724, 296, 297, 298, 299, 223, 224, 225, 398, 399, 400, 2, 401, 332, 333, 334, 335, 336, 337, 338, 339, 340, 341, 342, 343, 344, 345, 346, 347, 348, 349, 350, 351, 352, 353, 354, 355, 356, 357, 358, 359, 360, 361, 362, 363, 364, 365, 402, 403, 404, 405, 406, 407, 408, 755, 756, 757, 758, 759, 760, 761, 762, 763, 764, 765, 787, 788, 789, 790] (by decide +kernel) (by decide +kernel)
set_option maxRecDepth 20000 in
theorem gL_law_X8_simulate : GoodIn wsL_law (wsV RL 133 RX8 yX8_simulate wsX8_simulate) := goodIn_app (goodIn_of _ (by decide +kernel)) ggL_law_X8_simulate
set_option maxRecDepth 20000 in
theorem ggL_law_X9_simulate : GoodIn wsL_law wsX9_simulate := goodIn_r _ [728, 114, 729, 85, 86, 706, 730, 731, 84, 371, 117, 118, 5, 119, 198, 199, 200, 732, 733, 734, 735, 304, 305, 306, 166, 167, 168, 413, 414, 415, 416, 372, 373, 374, 375, 95, 376, 377, 378, 379, 380, 381, 382, 93, 383, 384, 385, 386, 387, 388, 389, 417, 418, 419, 420, 766, 767, 768, 769, 770, 771, 772, 773, 774, 775, 776, 777, 778, 779, 780, 781, 782, 783, 784, 785, 786] (by decide +kernel) (by decide +kernel)
set_option maxRecDepth 20000 in
theorem gL_law_X9_simulate : GoodIn wsL_law (wsV RL 136 RX9 yX9_simulate wsX9_simulate) := goodIn_app (goodIn_of _ (by decide +kernel)) ggL_law_X9_simulate
set_option maxRecDepth 20000 in
theorem ggL_law_X8_save : GoodIn wsL_law wsX8_save := goodIn_r _ [739, 29, 18, 31, 173, 740, 741, 2, 742, 528, 273, 274, 17, 275, 48, 45, 46, 47, 276, 181, 182, 183, 184, 185, 186, 187, 755, 756, 757, 758, 759, 760, 761, 762, 763, 764, 765, 787, 788, 789, 790] (by decide +kernel) (by decide +kernel)
set_option maxRecDepth 20000 in
theorem gL_law_X8_save : GoodIn wsL_law (wsV RL 137 RX8 yX8_save wsX8_save) := goodIn_app (goodIn_of _ (by decide +kernel)) ggL_law_X8_save
set_option maxRecDepth 20000 in
theorem ggL_law_X9_save : GoodIn wsL_law wsX9_save := goodIn_r _ [746, 114, 89, 88, 85, 117, 118, 5, 119, 766, 767, 768, 769, 770, 771, 772, 773, 774, 775, 776, 777, 778, 779, 780, 781, 782, 783, 784, 785, 786] (by decide +kernel) (by decide +kernel)
set_option maxRecDepth 20000 in
theorem gL_law_X9_save : GoodIn wsL_law (wsV RL 140 RX9 yX9_save wsX9_save) := goodIn_app (goodIn_of _ (by decide +kernel)) ggL_law_X9_save
set_option maxRecDepth 20000 in
theorem ggL_law_X8_restore : GoodIn wsL_law wsX8_restore := goodIn_r _ [750, 31, 18, 29, 28, 173, 740, 741, 2, 742, 528, 273, 274, 17, 275, 48, 45, 46, 47, 276, 181, 182, 183, 184, 185, 186, 187, 188, 189, 190, 27, 191, 62, 755, 756, 757, 758, 759, 760, 761, 762, 763, 764, 765, 787, 788, 789, 790, 793, 794, 795] (by decide +kernel) (by decide +kernel)
set_option maxRecDepth 20000 in
theorem gL_law_X8_restore : GoodIn wsL_law (wsV RL 141 RX8 yX8_restore wsX8_restore) := goodIn_app (goodIn_of _ (by decide +kernel)) ggL_law_X8_restore
set_option maxRecDepth 20000 in
theorem ggL_law_X9_restore : GoodIn wsL_law wsX9_restore := goodIn_r _ [754, 114, 89, 85, 88, 196, 117, 118, 5, 119, 766, 767, 768, 769, 770, 771, 772, 773, 774, 775, 776, 777, 778, 779, 780, 781, 782, 783, 784, 785, 786] (by decide +kernel) (by decide +kernel)
set_option maxRecDepth 20000 in
theorem gL_law_X9_restore : GoodIn wsL_law (wsV RL 144 RX9 yX9_restore wsX9_restore) := goodIn_app (goodIn_of _ (by decide +kernel)) ggL_law_X9_restore
