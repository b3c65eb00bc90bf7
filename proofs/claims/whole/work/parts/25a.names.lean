set_option maxRecDepth 20000 in
theorem ggL_law_X2_init : GoodIn wsL_law wsX2_init := goodIn_r _ [8, 9, 10, 11, 12, 13, 14, 15, 16, 17, 18, 19, 20, 21, 22, 23, 24, 25, 26, 27, 28, 29, 30, 31, 32, 33, 34, 35, 36, 37, 38, 39, 40, 41, 572, 573, 574, 575, 576, 577, 578, 579, 580, 581, 582, 583, 584, 560, 561, 562, 563, 585, 586, 587, 588, 589] (by decide +kernel) (by decide +kernel)
set_option maxRecDepth 20000 in
theorem gL_law_X2_init : GoodIn wsL_law (wsX2_init) := ggL_law_X2_init
set_option maxRecDepth 20000 in
theorem ggL_law_X3_init : GoodIn wsL_law wsX3_init := goodIn_r _ [44, 45, 10, 11, 25, 46, 47, 48, 49, 50, 51, 52, 53, 54, 564, 565, 566, 567, 568, 569, 570, 571] (by decide +kernel) (by decide +kernel)
set_option maxRecDepth 20000 in
theorem gL_law_X3_init : GoodIn wsL_law (wsX3_init) := ggL_law_X3_init
set_option maxRecDepth 20000 in
theorem ggL_law_X2_addInput : GoodIn wsL_law wsX2_addInput := goodIn_r _ [58, 15, 59, 60, 61, 62, 14, 63, 64, 65, 66, 67, 68, 69, 70, 71, 72, 73, 74, 75, 560, 561, 562, 563, 572, 573, 574, 575, 576, 577, 578, 579, 580, 581, 582, 583, 584] (by decide +kernel) (by decide +kernel)
set_option maxRecDepth 20000 in
theorem gL_law_X2_addInput : GoodIn wsL_law (wsV RL 13 RX2 yX2_addInput wsX2_addInput) := goodIn_app (goodIn_of _ (by decide +kernel)) ggL_law_X2_addInput
set_option maxRecDepth 20000 in
theorem ggL_law_X3_addInput : GoodIn wsL_law wsX3_addInput := goodIn_r _ [79, 80, 81, 82, 5, 83, 46, 84, 85, 86, 87, 564, 565, 566, 567, 568, 569, 570, 571] (by decide +kernel) (by decide +kernel)
set_option maxRecDepth 20000 in
theorem gL_law_X3_addInput : GoodIn wsL_law (wsV RL 17 RX3 yX3_addInput wsX3_addInput) := goodIn_app (goodIn_of _ (by decide +kernel)) ggL_law_X3_addInput
set_option maxRecDepth 20000 in
theorem ggL_law_X2_addStorage : GoodIn wsL_law wsX2_addStorage := goodIn_r _ [91, 15, 59, 92, 93, 2, 94, 95, 96, 97, 14, 98, 99, 65, 26, 66, 67, 68, 69, 70, 71, 72, 73, 74, 75, 560, 561, 562, 563, 572, 573, 574, 575, 576, 577, 578, 579, 580, 581, 582, 583, 584] (by decide +kernel) (by decide +kernel)
set_option maxRecDepth 20000 in
theorem gL_law_X2_addStorage : GoodIn wsL_law (wsV RL 18 RX2 yX2_addStorage wsX2_addStorage) := goodIn_app (goodIn_of _ (by decide +kernel)) ggL_law_X2_addStorage
set_option maxRecDepth 20000 in
theorem ggL_law_X3_addStorage : GoodIn wsL_law wsX3_addStorage := goodIn_r _ [103, 104, 105, 5, 106, 80, 81, 82, 83, 46, 84, 85, 86, 87, 564, 565, 566, 567, 568, 569, 570, 571] (by decide +kernel) (by decide +kernel)
set_option maxRecDepth 20000 in
theorem gL_law_X3_addStorage : GoodIn wsL_law (wsV RL 22 RX3 yX3_addStorage wsX3_addStorage) := goodIn_app (goodIn_of _ (by decide +kernel)) ggL_law_X3_addStorage
set_option maxRecDepth 20000 in
theorem ggL_law_X2_addTransistor : GoodIn wsL_law wsX2_addTransistor := goodIn_r _ [110, 15, 111, 112, 113, 114, 14, 115, 65, 92, 93, 2, 94, 116, 117, 118, 119, 120, 27, 28, 29, 30, 31, 32, 560, 561, 562, 563, 572, 573, 574, 575, 576, 577, 578, 579, 580, 581, 582, 583, 584] (by decide +kernel) (by decide +kernel)
set_option maxRecDepth 20000 in
theorem gL_law_X2_addTransistor : GoodIn wsL_law (wsV RL 23 RX2 yX2_addTransistor wsX2_addTransistor) := goodIn_app (goodIn_of _ (by decide +kernel)) ggL_law_X2_addTransistor
set_option maxRecDepth 20000 in
theorem ggL_law_X3_addTransistor : GoodIn wsL_law wsX3_addTransistor := goodIn_r _ [124, 46, 125, 126, 127, 5, 128, 80, 81, 82, 83, 104, 105, 106, 129, 130, 131, 132, 564, 565, 566, 567, 568, 569, 570, 571] (by decide +kernel) (by decide +kernel)
set_option maxRecDepth 20000 in
theorem gL_law_X3_addTransistor : GoodIn wsL_law (wsV RL 27 RX3 yX3_addTransistor wsX3_addTransistor) := goodIn_app (goodIn_of _ (by decide +kernel)) ggL_law_X3_addTransistor
set_option maxRecDepth 20000 in
theorem ggL_law_X2_nodeCount : GoodIn wsL_law wsX2_nodeCount := goodIn_r _ [136, 15, 59, 560, 561, 562, 563, 572, 573, 574, 575, 576, 577, 578, 579, 580, 581, 582, 583, 584] (by decide +kernel) (by decide +kernel)
set_option maxRecDepth 20000 in
theorem gL_law_X2_nodeCount : GoodIn wsL_law (wsV RL 28 RX2 yX2_nodeCount wsX2_nodeCount) := goodIn_app (goodIn_of _ (by decide +kernel)) ggL_law_X2_nodeCount
set_option maxRecDepth 20000 in
theorem ggL_law_X3_nodeCount : GoodIn wsL_law wsX3_nodeCount := goodIn_r _ [140, 80, 81, 82, 5, 83, 46, 564, 565, 566, 567, 568, 569, 570, 571] (by decide +kernel) (by decide +kernel)
set_option maxRecDepth 20000 in
theorem gL_law_X3_nodeCount : GoodIn wsL_law (wsV RL 31 RX3 yX3_nodeCount wsX3_nodeCount) := goodIn_app (goodIn_of _ (by decide +kernel)) ggL_law_X3_nodeCount
set_option maxRecDepth 20000 in
theorem ggL_law_X2_transistorCount : GoodIn wsL_law wsX2_transistorCount := goodIn_r _ [144, 15, 111, 560, 561, 562, 563, 572, 573, 574, 575, 576, 577, 578, 579, 580, 581, 582, 583, 584] (by decide +kernel) (by decide +kernel)
set_option maxRecDepth 20000 in
theorem gL_law_X2_transistorCount : GoodIn wsL_law (wsV RL 32 RX2 yX2_transistorCount wsX2_transistorCount) := goodIn_app (goodIn_of _ (by decide +kernel)) ggL_law_X2_transistorCount
set_option maxRecDepth 20000 in
theorem ggL_law_X3_transistorCount : GoodIn wsL_law wsX3_transistorCount := goodIn_r _ [148, 129, 130, 131, 5, 132, 46, 564, 565, 566, 567, 568, 569, 570, 571] (by decide +kernel) (by decide +kernel)
set_option maxRecDepth 20000 in
theorem gL_law_X3_transistorCount : GoodIn wsL_law (wsV RL 35 RX3 yX3_transistorCount wsX3_transistorCount) := goodIn_app (goodIn_of _ (by decide +kernel)) ggL_law_X3_transistorCount
set_option maxRecDepth 20000 in
theorem ggL_law_X2_inputs : GoodIn wsL_law wsX2_inputs := goodIn_r _ [152, 15, 153, 560, 561, 562, 563, 572, 573, 574, 575, 576, 577, 578, 579, 580, 581, 582, 583, 584] (by decide +kernel) (by decide +kernel)
set_option maxRecDepth 20000 in
theorem gL_law_X2_inputs : GoodIn wsL_law (wsV RL 36 RX2 yX2_inputs wsX2_inputs) := goodIn_app (goodIn_of _ (by decide +kernel)) ggL_law_X2_inputs
set_option maxRecDepth 20000 in
theorem ggL_law_X3_inputs : GoodIn wsL_law wsX3_inputs := goodIn_r _ [157, 80, 81, 82, 5, 83, 46, 158, 159, 160, 161, 564, 565, 566, 567, 568, 569, 570, 571] (by decide +kernel) (by decide +kernel)
set_option maxRecDepth 20000 in
theorem gL_law_X3_inputs : GoodIn wsL_law (wsV RL 39 RX3 yX3_inputs wsX3_inputs) := goodIn_app (goodIn_of _ (by decide +kernel)) ggL_law_X3_inputs
set_option maxRecDepth 20000 in
theorem ggL_law_X2_setInput : GoodIn wsL_law wsX2_setInput := goodIn_r _ [165, 166, 167, 168, 2, 169, 15, 112, 113, 114, 14, 115, 65, 170, 171, 172, 173, 64, 174, 175, 176, 92, 93, 94, 177, 178, 179, 180, 74, 75, 181, 71, 72, 73, 560, 561, 562, 563, 572, 573, 574, 575, 576, 577, 578, 579, 580, 581, 582, 583, 584] (by decide +kernel) (by decide +kernel)
set_option maxRecDepth 20000 in
theorem gL_law_X2_setInput : GoodIn wsL_law (wsV RL 40 RX2 yX2_setInput wsX2_setInput) := goodIn_app (goodIn_of _ (by decide +kernel)) ggL_law_X2_setInput
set_option maxRecDepth 20000 in
theorem ggL_law_X3_setInput : GoodIn wsL_law wsX3_setInput := goodIn_r _ [185, 125, 126, 127, 5, 128, 80, 81, 82, 83, 46, 104, 105, 106, 158, 159, 160, 161, 186, 187, 188, 189, 564, 565, 566, 567, 568, 569, 570, 571] (by decide +kernel) (by decide +kernel)
set_option maxRecDepth 20000 in
theorem gL_law_X3_setInput : GoodIn wsL_law (wsV RL 44 RX3 yX3_setInput wsX3_setInput) := goodIn_app (goodIn_of _ (by decide +kernel)) ggL_law_X3_setInput
set_option maxRecDepth 20000 in
theorem ggL_law_X2_setCharge : GoodIn wsL_law wsX2_setCharge := goodIn_r _ [193, 166, 167, 168, 2, 169, 15, 112, 113, 114, 14, 115, 65, 170, 171, 172, 173, 64, 174, 175, 176, 92, 93, 94, 177, 178, 179, 180, 74, 75, 181, 71, 72, 73, 560, 561, 562, 563, 572, 573, 574, 575, 576, 577, 578, 579, 580, 581, 582, 583, 584] (by decide +kernel) (by decide +kernel)
set_option maxRecDepth 20000 in
theorem gL_law_X2_setCharge : GoodIn wsL_law (wsV RL 45 RX2 yX2_setCharge wsX2_setCharge) := goodIn_app (goodIn_of _ (by decide +kernel)) ggL_law_X2_setCharge
set_option maxRecDepth 20000 in
theorem ggL_law_X3_setCharge : GoodIn wsL_law wsX3_setCharge := goodIn_r _ [197, 125, 126, 127, 5, 128, 80, 81, 82, 83, 46, 104, 105, 106, 158, 159, 160, 161, 186, 187, 188, 189, 564, 565, 566, 567, 568, 569, 570, 571] (by decide +kernel) (by decide +kernel)
set_option maxRecDepth 20000 in
theorem gL_law_X3_setCharge : GoodIn wsL_law (wsV RL 48 RX3 yX3_setCharge wsX3_setCharge) := goodIn_app (goodIn_of _ (by decide +kernel)) ggL_law_X3_setCharge
set_option maxRecDepth 20000 in
theorem ggL_law_X2_forget : GoodIn wsL_law wsX2_forget := goodIn_r _ [201, 15, 202, 203, 204, 14, 205, 99, 74, 75, 206, 207, 208, 209, 210, 211, 212, 213, 214, 215, 216, 560, 561, 562, 563, 572, 573, 574, 575, 576, 577, 578, 579, 580, 581, 582, 583, 584] (by decide +kernel) (by decide +kernel)
set_option maxRecDepth 20000 in
theorem gL_law_X2_forget : GoodIn wsL_law (wsV RL 49 RX2 yX2_forget wsX2_forget) := goodIn_app (goodIn_of _ (by decide +kernel)) ggL_law_X2_forget
set_option maxRecDepth 20000 in
theorem ggL_law_X3_forget : GoodIn wsL_law wsX3_forget := goodIn_r _ [220, 46, 80, 81, 82, 5, 83, 158, 159, 160, 161, 564, 565, 566, 567, 568, 569, 570, 571] (by decide +kernel) (by decide +kernel)
set_option maxRecDepth 20000 in
theorem gL_law_X3_forget : GoodIn wsL_law (wsV RL 52 RX3 yX3_forget wsX3_forget) := goodIn_app (goodIn_of _ (by decide +kernel)) ggL_law_X3_forget
set_option maxRecDepth 20000 in
theorem ggL_law_X2_value : GoodIn wsL_law wsX2_value := goodIn_r _ [224, 15, 112, 113, 114, 14, 115, 65, 177, 178, 179, 180, 74, 75, 560, 561, 562, 563, 572, 573, 574, 575, 576, 577, 578, 579, 580, 581, 582, 583, 584] (by decide +kernel) (by decide +kernel)
set_option maxRecDepth 20000 in
theorem gL_law_X2_value : GoodIn wsL_law (wsV RL 53 RX2 yX2_value wsX2_value) := goodIn_app (goodIn_of _ (by decide +kernel)) ggL_law_X2_value
set_option maxRecDepth 20000 in
theorem ggL_law_X3_value : GoodIn wsL_law wsX3_value := goodIn_r _ [228, 46, 125, 126, 127, 5, 128, 80, 81, 82, 83, 104, 105, 106, 564, 565, 566, 567, 568, 569, 570, 571] (by decide +kernel) (by decide +kernel)
set_option maxRecDepth 20000 in
theorem gL_law_X3_value : GoodIn wsL_law (wsV RL 56 RX3 yX3_value wsX3_value) := goodIn_app (goodIn_of _ (by decide +kernel)) ggL_law_X3_value
set_option maxRecDepth 20000 in
theorem ggL_law_X2_nodesWith : GoodIn wsL_law wsX2_nodesWith := goodIn_r _ [232, 15, 174, 175, 2, 176, 92, 93, 94, 233, 207, 208, 14, 209, 74, 75, 560, 561, 562, 563, 572, 573, 574, 575, 576, 577, 578, 579, 580, 581, 582, 583, 584] (by decide +kernel) (by decide +kernel)
set_option maxRecDepth 20000 in
theorem gL_law_X2_nodesWith : GoodIn wsL_law (wsV RL 57 RX2 yX2_nodesWith wsX2_nodesWith) := goodIn_app (goodIn_of _ (by decide +kernel)) ggL_law_X2_nodesWith
set_option maxRecDepth 20000 in
theorem ggL_law_X3_nodesWith : GoodIn wsL_law wsX3_nodesWith := goodIn_r _ [237, 46, 104, 105, 5, 106, 80, 81, 82, 83, 564, 565, 566, 567, 568, 569, 570, 571] (by decide +kernel) (by decide +kernel)
set_option maxRecDepth 20000 in
theorem gL_law_X3_nodesWith : GoodIn wsL_law (wsV RL 60 RX3 yX3_nodesWith wsX3_nodesWith) := goodIn_app (goodIn_of _ (by decide +kernel)) ggL_law_X3_nodesWith
set_option maxRecDepth 20000 in
theorem ggL_law_X2_switchState : GoodIn wsL_law wsX2_switchState := goodIn_r _ [241, 15, 242, 243, 244, 14, 245, 120, 246, 247, 248, 249, 32, 27, 29, 250, 178, 179, 180, 74, 75, 560, 561, 562, 563, 572, 573, 574, 575, 576, 577, 578, 579, 580, 581, 582, 583, 584] (by decide +kernel) (by decide +kernel)
set_option maxRecDepth 20000 in
theorem gL_law_X2_switchState : GoodIn wsL_law (wsV RL 61 RX2 yX2_switchState wsX2_switchState) := goodIn_app (goodIn_of _ (by decide +kernel)) ggL_law_X2_switchState
set_option maxRecDepth 20000 in
theorem ggL_law_X3_switchState : GoodIn wsL_law wsX3_switchState := goodIn_r _ [254, 255, 256, 257, 5, 258, 129, 130, 131, 132, 46, 104, 105, 106, 259, 260, 261, 262, 564, 565, 566, 567, 568, 569, 570, 571] (by decide +kernel) (by decide +kernel)
set_option maxRecDepth 20000 in
theorem gL_law_X3_switchState : GoodIn wsL_law (wsV RL 64 RX3 yX3_switchState wsX3_switchState) := goodIn_app (goodIn_of _ (by decide +kernel)) ggL_law_X3_switchState
set_option maxRecDepth 20000 in
theorem ggL_law_X2_definiteStrength : GoodIn wsL_law wsX2_definiteStrength := goodIn_r _ [266, 15, 21, 112, 113, 114, 14, 115, 65, 267, 268, 269, 20, 270, 37, 271, 38, 272, 273, 274, 275, 276, 277, 40, 41, 278, 279, 247, 248, 249, 32, 27, 29, 250, 178, 179, 180, 74, 75, 280, 281, 282, 283, 284, 285, 286, 287, 288, 289, 36, 290, 291, 292, 293, 294, 295, 296, 297, 298, 299, 300, 301, 302, 303, 304, 212, 305, 306, 307, 308, 309, 310, 311, 312, 313, 314, 315, 316, 317, 560, 561, 562, 563, 572, 573, 574, 575, 576, 577, 578, 579, 580, 581, 582, 583, 584, 585, 586, 587, 588, 589] (by decide +kernel) (by decide +kernel)
set_option maxRecDepth 20000 in
theorem gL_law_X2_definiteStrength : GoodIn wsL_law (wsV RL 65 RX2 yX2_definiteStrength wsX2_definiteStrength) := goodIn_app (goodIn_of _ (by decide +kernel)) ggL_law_X2_definiteStrength
set_option maxRecDepth 20000 in
theorem ggL_law_X3_definiteStrength : GoodIn wsL_law wsX3_definiteStrength := goodIn_r _ [321, 50, 125, 126, 127, 5, 128, 80, 81, 82, 83, 46, 104, 105, 106, 322, 323, 324, 325, 53, 51, 52, 129, 130, 131, 132, 259, 260, 261, 262, 326, 327, 328, 329, 158, 159, 160, 161, 330, 331, 332, 333, 334, 335, 336, 337, 338, 339, 340, 341, 342, 343, 344, 345, 346, 347, 348, 564, 565, 566, 567, 568, 569, 570, 571] (by decide +kernel) (by decide +kernel)
set_option maxRecDepth 20000 in
theorem gL_law_X3_definiteStrength : GoodIn wsL_law (wsV RL 68 RX3 yX3_definiteStrength wsX3_definiteStrength) := goodIn_app (goodIn_of _ (by decide +kernel)) ggL_law_X3_definiteStrength
set_option maxRecDepth 20000 in
theorem ggL_law_X2_upStrength : GoodIn wsL_law wsX2_upStrength := goodIn_r _ [352, 15, 21, 112, 113, 114, 14, 115, 65, 267, 268, 269, 20, 270, 37, 271, 38, 272, 273, 274, 275, 276, 277, 40, 41, 278, 279, 247, 248, 249, 32, 27, 29, 250, 178, 179, 180, 74, 75, 280, 281, 282, 283, 284, 285, 286, 287, 288, 289, 36, 290, 291, 292, 293, 294, 295, 296, 297, 298, 299, 300, 301, 302, 303, 304, 212, 305, 306, 307, 308, 309, 310, 353, 354, 355, 356, 315, 316, 317, 560, 561, 562, 563, 572, 573, 574, 575, 576, 577, 578, 579, 580, 581, 582, 583, 584, 585, 586, 587, 588, 589] (by decide +kernel) (by decide +kernel)
set_option maxRecDepth 20000 in
theorem gL_law_X2_upStrength : GoodIn wsL_law (wsV RL 69 RX2 yX2_upStrength wsX2_upStrength) := goodIn_app (goodIn_of _ (by decide +kernel)) ggL_law_X2_upStrength
set_option maxRecDepth 20000 in
theorem ggL_law_X3_upStrength : GoodIn wsL_law wsX3_upStrength := goodIn_r _ [360, 51, 125, 126, 127, 5, 128, 80, 81, 82, 83, 46, 104, 105, 106, 322, 323, 324, 325, 53, 52, 129, 130, 131, 132, 259, 260, 261, 262, 326, 327, 328, 329, 50, 158, 159, 160, 161, 330, 331, 332, 333, 334, 335, 336, 337, 338, 339, 340, 341, 342, 343, 344, 345, 346, 347, 348, 564, 565, 566, 567, 568, 569, 570, 571] (by decide +kernel) (by decide +kernel)
set_option maxRecDepth 20000 in
theorem gL_law_X3_upStrength : GoodIn wsL_law (wsV RL 72 RX3 yX3_upStrength wsX3_upStrength) := goodIn_app (goodIn_of _ (by decide +kernel)) ggL_law_X3_upStrength
set_option maxRecDepth 20000 in
theorem ggL_law_X2_downStrength : GoodIn wsL_law wsX2_downStrength := goodIn_r _ [364, 15, 21, 112, 113, 114, 14, 115, 65, 267, 268, 269, 20, 270, 37, 271, 38, 272, 273, 274, 275, 276, 277, 40, 41, 278, 279, 247, 248, 249, 32, 27, 29, 250, 178, 179, 180, 74, 75, 280, 281, 282, 283, 284, 285, 286, 287, 288, 289, 36, 290, 291, 292, 293, 294, 295, 296, 297, 298, 299, 300, 301, 302, 303, 304, 212, 305, 306, 307, 308, 309, 310, 365, 366, 367, 368, 315, 316, 317, 560, 561, 562, 563, 572, 573, 574, 575, 576, 577, 578, 579, 580, 581, 582, 583, 584, 585, 586, 587, 588, 589] (by decide +kernel) (by decide +kernel)
set_option maxRecDepth 20000 in
theorem gL_law_X2_downStrength : GoodIn wsL_law (wsV RL 73 RX2 yX2_downStrength wsX2_downStrength) := goodIn_app (goodIn_of _ (by decide +kernel)) ggL_law_X2_downStrength
set_option maxRecDepth 20000 in
theorem ggL_law_X3_downStrength : GoodIn wsL_law wsX3_downStrength := goodIn_r _ [372, 52, 125, 126, 127, 5, 128, 80, 81, 82, 83, 46, 104, 105, 106, 322, 323, 324, 325, 53, 51, 129, 130, 131, 132, 259, 260, 261, 262, 326, 327, 328, 329, 50, 158, 159, 160, 161, 330, 331, 332, 333, 334, 335, 336, 337, 338, 339, 340, 341, 342, 343, 344, 345, 346, 347, 348, 564, 565, 566, 567, 568, 569, 570, 571] (by decide +kernel) (by decide +kernel)
set_option maxRecDepth 20000 in
theorem gL_law_X3_downStrength : GoodIn wsL_law (wsV RL 76 RX3 yX3_downStrength wsX3_downStrength) := goodIn_app (goodIn_of _ (by decide +kernel)) ggL_law_X3_downStrength
set_option maxRecDepth 20000 in
theorem ggL_law_X2_steadyValue : GoodIn wsL_law wsX2_steadyValue := goodIn_r _ [376, 15, 16, 112, 113, 114, 14, 115, 65, 377, 378, 379, 380, 64, 99, 26, 381, 382, 383, 384, 74, 75, 120, 27, 28, 29, 30, 31, 32, 385, 386, 387, 2, 388, 21, 267, 268, 269, 20, 270, 37, 271, 38, 272, 273, 274, 275, 276, 277, 40, 41, 278, 279, 247, 248, 249, 250, 178, 179, 180, 280, 281, 282, 283, 284, 285, 286, 287, 288, 289, 36, 290, 291, 292, 293, 294, 295, 296, 297, 298, 299, 300, 301, 302, 303, 304, 212, 305, 306, 307, 308, 309, 310, 389, 390, 391, 392, 393, 394, 395, 396, 177, 560, 561, 562, 563, 572, 573, 574, 575, 576, 577, 578, 579, 580, 581, 582, 583, 584, 585, 586, 587, 588, 589] (by decide +kernel) (by decide +kernel)
set_option maxRecDepth 20000 in
theorem gL_law_X2_steadyValue : GoodIn wsL_law (wsV RL 77 RX2 yX2_steadyValue wsX2_steadyValue) := goodIn_app (goodIn_of _ (by decide +kernel)) ggL_law_X2_steadyValue
set_option maxRecDepth 20000 in
theorem ggL_law_X3_steadyValue : GoodIn wsL_law wsX3_steadyValue := goodIn_r _ [400, 125, 126, 127, 5, 128, 80, 81, 82, 83, 46, 104, 105, 106, 322, 323, 324, 325, 53, 51, 52, 129, 130, 131, 132, 259, 260, 261, 262, 326, 327, 328, 329, 50, 158, 159, 160, 161, 330, 331, 332, 333, 334, 335, 336, 337, 338, 339, 340, 341, 342, 343, 344, 345, 346, 347, 348, 401, 402, 403, 404, 564, 565, 566, 567, 568, 569, 570, 571] (by decide +kernel) (by decide +kernel)
set_option maxRecDepth 20000 in
theorem gL_law_X3_steadyValue : GoodIn wsL_law (wsV RL 80 RX3 yX3_steadyValue wsX3_steadyValue) := goodIn_app (goodIn_of _ (by decide +kernel)) ggL_law_X3_steadyValue
set_option maxRecDepth 20000 in
theorem ggL_law_X2_vicinity : GoodIn wsL_law wsX2_vicinity := goodIn_r _ [408, 15, 21, 112, 113, 114, 14, 115, 65, 170, 171, 172, 173, 64, 409, 410, 411, 20, 412, 41, 292, 273, 274, 275, 276, 277, 40, 278, 279, 247, 248, 249, 32, 27, 29, 250, 178, 179, 180, 74, 75, 280, 281, 282, 283, 284, 285, 300, 301, 302, 303, 304, 212, 305, 306, 560, 561, 562, 563, 572, 573, 574, 575, 576, 577, 578, 579, 580, 581, 582, 583, 584, 585, 586, 587, 588, 589] (by decide +kernel) (by decide +kernel)
set_option maxRecDepth 20000 in
theorem gL_law_X2_vicinity : GoodIn wsL_law (wsV RL 81 RX2 yX2_vicinity wsX2_vicinity) := goodIn_app (goodIn_of _ (by decide +kernel)) ggL_law_X2_vicinity
set_option maxRecDepth 20000 in
theorem ggL_law_X3_vicinity : GoodIn wsL_law wsX3_vicinity := goodIn_r _ [416, 46, 125, 126, 127, 5, 128, 80, 81, 82, 83, 104, 105, 106, 158, 159, 160, 161, 129, 130, 131, 132, 259, 260, 261, 262, 564, 565, 566, 567, 568, 569, 570, 571] (by decide +kernel) (by decide +kernel)
set_option maxRecDepth 20000 in
theorem gL_law_X3_vicinity : GoodIn wsL_law (wsV RL 84 RX3 yX3_vicinity wsX3_vicinity) := goodIn_app (goodIn_of _ (by decide +kernel)) ggL_law_X3_vicinity
set_option maxRecDepth 20000 in
theorem ggL_law_X2_step : GoodIn wsL_law wsX2_step := goodIn_r _ [420, 15, 385, 386, 387, 2, 388, 21, 267, 268, 269, 20, 270, 37, 271, 38, 272, 273, 274, 275, 276, 277, 40, 41, 278, 279, 247, 248, 14, 249, 32, 27, 29, 250, 178, 179, 180, 74, 75, 280, 281, 282, 283, 284, 285, 286, 287, 288, 289, 36, 290, 291, 292, 293, 294, 295, 296, 297, 298, 299, 300, 301, 302, 303, 304, 212, 305, 306, 307, 308, 309, 310, 389, 390, 391, 392, 393, 394, 395, 396, 560, 561, 562, 563, 585, 586, 587, 588, 589, 572, 573, 574, 575, 576, 577, 578, 579, 580, 581, 582, 583, 584] (by decide +kernel) (by decide +kernel)
set_option maxRecDepth 20000 in
theorem gL_law_X2_step : GoodIn wsL_law (wsV RL 85 RX2 yX2_step wsX2_step) := goodIn_app (goodIn_of _ (by decide +kernel)) ggL_law_X2_step
set_option maxRecDepth 20000 in
theorem ggL_law_X3_step : GoodIn wsL_law wsX3_step := goodIn_r _ [424, 425, 426, 427, 5, 428, 46, 429, 430, 431, 432, 322, 323, 324, 325, 53, 51, 52, 129, 130, 131, 132, 259, 260, 261, 262, 326, 327, 328, 329, 50, 80, 81, 82, 83, 158, 159, 160, 161, 330, 331, 332, 333, 334, 335, 336, 337, 338, 339, 340, 341, 342, 343, 344, 345, 346, 347, 348, 401, 402, 403, 404, 564, 565, 566, 567, 568, 569, 570, 571] (by decide +kernel) (by decide +kernel)
set_option maxRecDepth 20000 in
theorem gL_law_X3_step : GoodIn wsL_law (wsV RL 88 RX3 yX3_step wsX3_step) := goodIn_app (goodIn_of _ (by decide +kernel)) ggL_law_X3_step
set_option maxRecDepth 20000 in
theorem ggL_law_X2_settle : GoodIn wsL_law wsX2_settle := goodIn_r _ [436, 15, 437, 438, 2, 439, 92, 93, 94, 440, 441, 442, 443, 21, 267, 268, 269, 20, 270, 37, 271, 38, 272, 273, 274, 275, 276, 277, 40, 41, 278, 279, 247, 248, 14, 249, 32, 27, 29, 250, 178, 179, 180, 74, 75, 280, 281, 282, 283, 284, 285, 286, 287, 288, 289, 36, 290, 291, 292, 293, 294, 295, 296, 297, 298, 299, 300, 301, 302, 303, 304, 212, 305, 306, 307, 308, 309, 310, 389, 390, 391, 392, 393, 394, 395, 396, 560, 561, 562, 563, 585, 586, 587, 588, 589, 572, 573, 574, 575, 576, 577, 578, 579, 580, 581, 582, 583, 584] (by decide +kernel) (by decide +kernel)
set_option maxRecDepth 20000 in
theorem gL_law_X2_settle : GoodIn wsL_law (wsV RL 89 RX2 yX2_settle wsX2_settle) := goodIn_app (goodIn_of _ (by decide +kernel)) ggL_law_X2_settle
set_option maxRecDepth 20000 in
theorem ggL_law_X3_settle : GoodIn wsL_law wsX3_settle := goodIn_r _ [447, 448, 449, 5, 450, 104, 105, 106, 451, 452, 453, 454, 425, 426, 427, 428, 46, 429, 430, 431, 432, 322, 323, 324, 325, 53, 51, 52, 129, 130, 131, 132, 259, 260, 261, 262, 326, 327, 328, 329, 50, 80, 81, 82, 83, 158, 159, 160, 161, 330, 331, 332, 333, 334, 335, 336, 337, 338, 339, 340, 341, 342, 343, 344, 345, 346, 347, 348, 401, 402, 403, 404, 564, 565, 566, 567, 568, 569, 570, 571] (by decide +kernel) (by decide +kernel)
set_option maxRecDepth 20000 in
theorem gL_law_X3_settle : GoodIn wsL_law (wsV RL 92 RX3 yX3_settle wsX3_settle) := goodIn_app (goodIn_of _ (by decide +kernel)) ggL_law_X3_settle
set_option maxRecDepth 20000 in
theorem ggL_law_X2_active : GoodIn wsL_law wsX2_active := goodIn_r _ [458, 21, 15, 267, 268, 269, 20, 270, 37, 271, 38, 272, 273, 274, 275, 276, 277, 40, 41, 278, 279, 247, 248, 14, 249, 32, 27, 29, 250, 178, 179, 180, 74, 75, 280, 281, 282, 283, 284, 285, 286, 287, 288, 289, 36, 290, 291, 292, 293, 294, 295, 296, 297, 298, 299, 300, 301, 302, 303, 304, 212, 305, 306, 307, 308, 309, 310, 389, 390, 391, 392, 560, 561, 562, 563, 585, 586, 587, 588, 589, 572, 573, 574, 575, 576, 577, 578, 579, 580, 581, 582, 583, 584] (by decide +kernel) (by decide +kernel)
set_option maxRecDepth 20000 in
theorem gL_law_X2_active : GoodIn wsL_law (wsV RL 93 RX2 yX2_active wsX2_active) := goodIn_app (goodIn_of _ (by decide +kernel)) ggL_law_X2_active
set_option maxRecDepth 20000 in
theorem ggL_law_X3_active : GoodIn wsL_law wsX3_active := goodIn_r _ [462, 429, 430, 431, 5, 432, 46, 322, 323, 324, 325, 53, 51, 52, 129, 130, 131, 132, 259, 260, 261, 262, 326, 327, 328, 329, 50, 80, 81, 82, 83, 158, 159, 160, 161, 330, 331, 332, 333, 334, 335, 336, 337, 338, 339, 340, 341, 342, 343, 344, 345, 346, 347, 348, 401, 402, 403, 404, 564, 565, 566, 567, 568, 569, 570, 571] (by decide +kernel) (by decide +kernel)
set_option maxRecDepth 20000 in
theorem gL_law_X3_active : GoodIn wsL_law (wsV RL 96 RX3 yX3_active wsX3_active) := goodIn_app (goodIn_of _ (by decide +kernel)) ggL_law_X3_active
set_option maxRecDepth 20000 in
theorem ggL_law_X2_period : GoodIn wsL_law wsX2_period := goodIn_r _ [466, 16, 15, 437, 438, 2, 439, 92, 93, 94, 377, 378, 379, 14, 380, 65, 64, 99, 26, 381, 382, 383, 384, 74, 75, 120, 27, 28, 29, 30, 31, 32, 385, 386, 387, 388, 21, 267, 268, 269, 20, 270, 37, 271, 38, 272, 273, 274, 275, 276, 277, 40, 41, 278, 279, 247, 248, 249, 250, 178, 179, 180, 280, 281, 282, 283, 284, 285, 286, 287, 288, 289, 36, 290, 291, 292, 293, 294, 295, 296, 297, 298, 299, 300, 301, 302, 303, 304, 212, 305, 306, 307, 308, 309, 310, 389, 390, 391, 392, 393, 394, 395, 396, 467, 468, 469, 470, 560, 561, 562, 563, 572, 573, 574, 575, 576, 577, 578, 579, 580, 581, 582, 583, 584, 585, 586, 587, 588, 589] (by decide +kernel) (by decide +kernel)
set_option maxRecDepth 20000 in
theorem gL_law_X2_period : GoodIn wsL_law (wsV RL 97 RX2 yX2_period wsX2_period) := goodIn_app (goodIn_of _ (by decide +kernel)) ggL_law_X2_period
set_option maxRecDepth 20000 in
theorem ggL_law_X3_period : GoodIn wsL_law wsX3_period := goodIn_r _ [474, 46, 54, 448, 449, 5, 450, 104, 105, 106, 475, 476, 477, 478, 425, 426, 427, 428, 429, 430, 431, 432, 322, 323, 324, 325, 53, 51, 52, 129, 130, 131, 132, 259, 260, 261, 262, 326, 327, 328, 329, 50, 80, 81, 82, 83, 158, 159, 160, 161, 330, 331, 332, 333, 334, 335, 336, 337, 338, 339, 340, 341, 342, 343, 344, 345, 346, 347, 348, 401, 402, 403, 404, 479, 480, 481, 482, 564, 565, 566, 567, 568, 569, 570, 571] (by decide +kernel) (by decide +kernel)
set_option maxRecDepth 20000 in
theorem gL_law_X3_period : GoodIn wsL_law (wsV RL 100 RX3 yX3_period wsX3_period) := goodIn_app (goodIn_of _ (by decide +kernel)) ggL_law_X3_period
set_option maxRecDepth 20000 in
theorem ggL_law_X2_setFault : GoodIn wsL_law wsX2_setFault := goodIn_r _ [486, 15, 242, 243, 244, 14, 245, 120, 92, 93, 2, 94, 487, 488, 489, 490, 32, 560, 561, 562, 563, 572, 573, 574, 575, 576, 577, 578, 579, 580, 581, 582, 583, 584] (by decide +kernel) (by decide +kernel)
set_option maxRecDepth 20000 in
theorem gL_law_X2_setFault : GoodIn wsL_law (wsV RL 101 RX2 yX2_setFault wsX2_setFault) := goodIn_app (goodIn_of _ (by decide +kernel)) ggL_law_X2_setFault
set_option maxRecDepth 20000 in
theorem ggL_law_X3_setFault : GoodIn wsL_law wsX3_setFault := goodIn_r _ [494, 255, 256, 257, 5, 258, 129, 130, 131, 132, 46, 104, 105, 106, 186, 187, 188, 189, 564, 565, 566, 567, 568, 569, 570, 571] (by decide +kernel) (by decide +kernel)
set_option maxRecDepth 20000 in
theorem gL_law_X3_setFault : GoodIn wsL_law (wsV RL 104 RX3 yX3_setFault wsX3_setFault) := goodIn_app (goodIn_of _ (by decide +kernel)) ggL_law_X3_setFault
set_option maxRecDepth 20000 in
theorem ggL_law_X2_clearFaults : GoodIn wsL_law wsX2_clearFaults := goodIn_r _ [498, 15, 499, 500, 501, 14, 502, 120, 503, 488, 489, 490, 32, 560, 561, 562, 563, 572, 573, 574, 575, 576, 577, 578, 579, 580, 581, 582, 583, 584] (by decide +kernel) (by decide +kernel)
set_option maxRecDepth 20000 in
theorem gL_law_X2_clearFaults : GoodIn wsL_law (wsV RL 105 RX2 yX2_clearFaults wsX2_clearFaults) := goodIn_app (goodIn_of _ (by decide +kernel)) ggL_law_X2_clearFaults
set_option maxRecDepth 20000 in
theorem ggL_law_X3_clearFaults : GoodIn wsL_law wsX3_clearFaults := goodIn_r _ [507, 46, 129, 130, 131, 5, 132, 564, 565, 566, 567, 568, 569, 570, 571] (by decide +kernel) (by decide +kernel)
set_option maxRecDepth 20000 in
theorem gL_law_X3_clearFaults : GoodIn wsL_law (wsV RL 108 RX3 yX3_clearFaults wsX3_clearFaults) := goodIn_app (goodIn_of _ (by decide +kernel)) ggL_law_X3_clearFaults
set_option maxRecDepth 20000 in
theorem ggL_law_X2_detects : GoodIn wsL_law wsX2_detects := goodIn_r _ [511, 15, 16, 242, 243, 244, 14, 245, 120, 112, 113, 114, 115, 65, 92, 93, 2, 94, 437, 438, 439, 377, 378, 379, 380, 64, 99, 26, 381, 382, 383, 384, 74, 75, 27, 28, 29, 30, 31, 32, 512, 513, 514, 515, 440, 441, 442, 443, 21, 267, 268, 269, 20, 270, 37, 271, 38, 272, 273, 274, 275, 276, 277, 40, 41, 278, 279, 247, 248, 249, 250, 178, 179, 180, 280, 281, 282, 283, 284, 285, 286, 287, 288, 289, 36, 290, 291, 292, 293, 294, 295, 296, 297, 298, 299, 300, 301, 302, 303, 304, 212, 305, 306, 307, 308, 309, 310, 389, 390, 391, 392, 393, 394, 395, 396, 177, 516, 517, 518, 519, 520, 521, 522, 523, 560, 561, 562, 563, 572, 573, 574, 575, 576, 577, 578, 579, 580, 581, 582, 583, 584, 585, 586, 587, 588, 589] (by decide +kernel) (by decide +kernel)
set_option maxRecDepth 20000 in
theorem gL_law_X2_detects : GoodIn wsL_law (wsV RL 109 RX2 yX2_detects wsX2_detects) := goodIn_app (goodIn_of _ (by decide +kernel)) ggL_law_X2_detects
set_option maxRecDepth 20000 in
theorem ggL_law_X3_detects : GoodIn wsL_law wsX3_detects := goodIn_r _ [527, 255, 256, 257, 5, 258, 129, 130, 131, 132, 46, 104, 105, 106, 125, 126, 127, 128, 80, 81, 82, 83, 448, 449, 450, 475, 476, 477, 478, 54, 528, 529, 530, 531, 451, 452, 453, 454, 425, 426, 427, 428, 429, 430, 431, 432, 322, 323, 324, 325, 53, 51, 52, 259, 260, 261, 262, 326, 327, 328, 329, 50, 158, 159, 160, 161, 330, 331, 332, 333, 334, 335, 336, 337, 338, 339, 340, 341, 342, 343, 344, 345, 346, 347, 348, 401, 402, 403, 404, 479, 480, 481, 482, 532, 533, 534, 535, 564, 565, 566, 567, 568, 569, 570, 571] (by decide +kernel) (by decide +kernel)
set_option maxRecDepth 20000 in
theorem gL_law_X3_detects : GoodIn wsL_law (wsV RL 113 RX3 yX3_detects wsX3_detects) := goodIn_app (goodIn_of _ (by decide +kernel)) ggL_law_X3_detects
set_option maxRecDepth 20000 in
theorem ggL_law_X2_detectedFaults : GoodIn wsL_law wsX2_detectedFaults := goodIn_r _ [539, 15, 16, 111, 112, 113, 114, 14, 115, 65, 437, 438, 2, 439, 92, 93, 94, 377, 378, 379, 380, 64, 99, 26, 381, 382, 383, 384, 74, 75, 120, 27, 28, 29, 30, 31, 32, 512, 513, 514, 515, 440, 441, 442, 443, 21, 267, 268, 269, 20, 270, 37, 271, 38, 272, 273, 274, 275, 276, 277, 40, 41, 278, 279, 247, 248, 249, 250, 178, 179, 180, 280, 281, 282, 283, 284, 285, 286, 287, 288, 289, 36, 290, 291, 292, 293, 294, 295, 296, 297, 298, 299, 300, 301, 302, 303, 304, 212, 305, 306, 307, 308, 309, 310, 389, 390, 391, 392, 393, 394, 395, 396, 177, 516, 517, 518, 519, 520, 521, 522, 523, 560, 561, 562, 563, 572, 573, 574, 575, 576, 577, 578, 579, 580, 581, 582, 583, 584, 585, 586, 587, 588, 589] (by decide +kernel) (by decide +kernel)
set_option maxRecDepth 20000 in
theorem gL_law_X2_detectedFaults : GoodIn wsL_law (wsV RL 114 RX2 yX2_detectedFaults wsX2_detectedFaults) := goodIn_app (goodIn_of _ (by decide +kernel)) ggL_law_X2_detectedFaults
set_option maxRecDepth 20000 in
theorem ggL_law_X3_detectedFaults : GoodIn wsL_law wsX3_detectedFaults := goodIn_r _ [543, 125, 126, 127, 5, 128, 80, 81, 82, 83, 46, 104, 105, 106, 448, 449, 450, 475, 476, 477, 478, 54, 528, 529, 530, 531, 451, 452, 453, 454, 425, 426, 427, 428, 429, 430, 431, 432, 322, 323, 324, 325, 53, 51, 52, 129, 130, 131, 132, 259, 260, 261, 262, 326, 327, 328, 329, 50, 158, 159, 160, 161, 330, 331, 332, 333, 334, 335, 336, 337, 338, 339, 340, 341, 342, 343, 344, 345, 346, 347, 348, 401, 402, 403, 404, 479, 480, 481, 482, 532, 533, 534, 535, 564, 565, 566, 567, 568, 569, 570, 571] (by decide +kernel) (by decide +kernel)
set_option maxRecDepth 20000 in
theorem gL_law_X3_detectedFaults : GoodIn wsL_law (wsV RL 117 RX3 yX3_detectedFaults wsX3_detectedFaults) := goodIn_app (goodIn_of _ (by decide +kernel)) ggL_law_X3_detectedFaults
set_option maxRecDepth 20000 in
theorem ggL_law_X2_save : GoodIn wsL_law wsX2_save := goodIn_r _ [547, 17, 12, 13, 14, 15, 59, 92, 93, 2, 94, 22, 23, 24, 10, 11, 25, 26, 27, 28, 29, 30, 31, 32, 377, 378, 379, 380, 65, 64, 99, 381, 382, 383, 384, 74, 75, 120, 560, 561, 562, 563, 572, 573, 574, 575, 576, 577, 578, 579, 580, 581, 582, 583, 584] (by decide +kernel) (by decide +kernel)
set_option maxRecDepth 20000 in
theorem gL_law_X2_save : GoodIn wsL_law (wsV RL 118 RX2 yX2_save wsX2_save) := goodIn_app (goodIn_of _ (by decide +kernel)) ggL_law_X2_save
set_option maxRecDepth 20000 in
theorem ggL_law_X3_save : GoodIn wsL_law wsX3_save := goodIn_r _ [551, 47, 46, 49, 104, 105, 5, 106, 80, 81, 82, 83, 564, 565, 566, 567, 568, 569, 570, 571] (by decide +kernel) (by decide +kernel)
set_option maxRecDepth 20000 in
theorem gL_law_X3_save : GoodIn wsL_law (wsV RL 121 RX3 yX3_save wsX3_save) := goodIn_app (goodIn_of _ (by decide +kernel)) ggL_law_X3_save
set_option maxRecDepth 20000 in
theorem ggL_law_X2_restore : GoodIn wsL_law wsX2_restore := goodIn_r _ [555, 17, 15, 59, 92, 93, 2, 94, 377, 378, 379, 14, 380, 65, 64, 99, 26, 381, 382, 383, 384, 74, 75, 120, 27, 28, 29, 30, 31, 32, 560, 561, 562, 563, 572, 573, 574, 575, 576, 577, 578, 579, 580, 581, 582, 583, 584] (by decide +kernel) (by decide +kernel)
set_option maxRecDepth 20000 in
theorem gL_law_X2_restore : GoodIn wsL_law (wsV RL 122 RX2 yX2_restore wsX2_restore) := goodIn_app (goodIn_of _ (by decide +kernel)) ggL_law_X2_restore
set_option maxRecDepth 20000 in
theorem ggL_law_X3_restore : GoodIn wsL_law wsX3_restore := goodIn_r _ [559, 49, 46, 47, 104, 105, 5, 106, 80, 81, 82, 83, 564, 565, 566, 567, 568, 569, 570, 571] (by decide +kernel) (by decide +kernel)
set_option maxRecDepth 20000 in
theorem gL_law_X3_restore : GoodIn wsL_law (wsV RL 125 RX3 yX3_restore wsX3_restore) := goodIn_app (goodIn_of _ (by decide +kernel)) ggL_law_X3_restore
theorem dL_law_0 : decode cL_law 0 = .ok (.new 7, 3) := by decide +kernel
theorem dL_law_3 : decode cL_law 3 = .ok (.dup, 1) := by decide +kernel
theorem dL_law_4 : decode cL_law 4 = .ok (.invokespecial 9, 3) := by decide +kernel
theorem dL_law_7 : decode cL_law 7 = .ok (.astore_n 1, 1) := by decide +kernel
theorem dL_law_8 : decode cL_law 8 = .ok (.new 10, 3) := by decide +kernel
theorem dL_law_11 : decode cL_law 11 = .ok (.dup, 1) := by decide +kernel
theorem dL_law_12 : decode cL_law 12 = .ok (.invokespecial 12, 3) := by decide +kernel
theorem dL_law_15 : decode cL_law 15 = .ok (.astore_n 2, 1) := by decide +kernel
theorem dL_law_16 : decode cL_law 16 = .ok (.iconst 0, 1) := by decide +kernel
theorem dL_law_17 : decode cL_law 17 = .ok (.istore_n 3, 1) := by decide +kernel
theorem dL_law_18 : decode cL_law 18 = .ok (.iload_n 3, 1) := by decide +kernel
theorem dL_law_19 : decode cL_law 19 = .ok (.aload_n 0, 1) := by decide +kernel
theorem dL_law_20 : decode cL_law 20 = .ok (.arraylength, 1) := by decide +kernel
theorem dL_law_21 : decode cL_law 21 = .ok (.bipush 6, 2) := by decide +kernel
theorem dL_law_23 : decode cL_law 23 = .ok (.isub, 1) := by decide +kernel
theorem dL_law_24 : decode cL_law 24 = .ok (.if_icmp .gt 789, 3) := by decide +kernel
theorem dL_law_27 : decode cL_law 27 = .ok (.aload_n 0, 1) := by decide +kernel
theorem dL_law_28 : decode cL_law 28 = .ok (.iload_n 3, 1) := by decide +kernel
theorem dL_law_29 : decode cL_law 29 = .ok (.iaload, 1) := by decide +kernel
theorem dL_law_30 : decode cL_law 30 = .ok (.bipush 31, 2) := by decide +kernel
theorem dL_law_32 : decode cL_law 32 = .ok (.iand, 1) := by decide +kernel
theorem dL_law_33 : decode cL_law 33 = .ok (.tableswitch 774 0 26 #[123, 136, 159, 222, 235, 248, 261, 294, 327, 340, 363, 386, 409, 432, 455, 478, 501, 524, 537, 560, 573, 596, 629, 642, 695, 728, 751], 123) := by decide +kernel
theorem dL_law_156 : decode cL_law 156 = .ok (.aload_n 1, 1) := by decide +kernel
theorem dL_law_157 : decode cL_law 157 = .ok (.invokevirtual 13, 3) := by decide +kernel
theorem dL_law_160 : decode cL_law 160 = .ok (.aload_n 2, 1) := by decide +kernel
theorem dL_law_161 : decode cL_law 161 = .ok (.invokevirtual 17, 3) := by decide +kernel
theorem dL_law_164 : decode cL_law 164 = .ok (.if_icmp .eq 643, 3) := by decide +kernel
theorem dL_law_167 : decode cL_law 167 = .ok (.iconst 0, 1) := by decide +kernel
theorem dL_law_168 : decode cL_law 168 = .ok (.ireturn, 1) := by decide +kernel
theorem dL_law_169 : decode cL_law 169 = .ok (.aload_n 1, 1) := by decide +kernel
theorem dL_law_170 : decode cL_law 170 = .ok (.aload_n 0, 1) := by decide +kernel
theorem dL_law_171 : decode cL_law 171 = .ok (.iload_n 3, 1) := by decide +kernel
theorem dL_law_172 : decode cL_law 172 = .ok (.iconst 1, 1) := by decide +kernel
theorem dL_law_173 : decode cL_law 173 = .ok (.iadd, 1) := by decide +kernel
theorem dL_law_174 : decode cL_law 174 = .ok (.iaload, 1) := by decide +kernel
theorem dL_law_175 : decode cL_law 175 = .ok (.invokevirtual 18, 3) := by decide +kernel
theorem dL_law_178 : decode cL_law 178 = .ok (.aload_n 2, 1) := by decide +kernel
theorem dL_law_179 : decode cL_law 179 = .ok (.aload_n 0, 1) := by decide +kernel
theorem dL_law_180 : decode cL_law 180 = .ok (.iload_n 3, 1) := by decide +kernel
theorem dL_law_181 : decode cL_law 181 = .ok (.iconst 1, 1) := by decide +kernel
theorem dL_law_182 : decode cL_law 182 = .ok (.iadd, 1) := by decide +kernel
theorem dL_law_183 : decode cL_law 183 = .ok (.iaload, 1) := by decide +kernel
theorem dL_law_184 : decode cL_law 184 = .ok (.invokevirtual 22, 3) := by decide +kernel
theorem dL_law_187 : decode cL_law 187 = .ok (.if_icmp .eq 620, 3) := by decide +kernel
theorem dL_law_190 : decode cL_law 190 = .ok (.iconst 0, 1) := by decide +kernel
theorem dL_law_191 : decode cL_law 191 = .ok (.ireturn, 1) := by decide +kernel
theorem dL_law_192 : decode cL_law 192 = .ok (.aload_n 1, 1) := by decide +kernel
theorem dL_law_193 : decode cL_law 193 = .ok (.aload_n 0, 1) := by decide +kernel
theorem dL_law_194 : decode cL_law 194 = .ok (.iload_n 3, 1) := by decide +kernel
theorem dL_law_195 : decode cL_law 195 = .ok (.iconst 1, 1) := by decide +kernel
theorem dL_law_196 : decode cL_law 196 = .ok (.iadd, 1) := by decide +kernel
theorem dL_law_197 : decode cL_law 197 = .ok (.iaload, 1) := by decide +kernel
theorem dL_law_198 : decode cL_law 198 = .ok (.aload_n 0, 1) := by decide +kernel
theorem dL_law_199 : decode cL_law 199 = .ok (.iload_n 3, 1) := by decide +kernel
theorem dL_law_200 : decode cL_law 200 = .ok (.iconst 2, 1) := by decide +kernel
theorem dL_law_201 : decode cL_law 201 = .ok (.iadd, 1) := by decide +kernel
theorem dL_law_202 : decode cL_law 202 = .ok (.iaload, 1) := by decide +kernel
theorem dL_law_203 : decode cL_law 203 = .ok (.aload_n 0, 1) := by decide +kernel
theorem dL_law_204 : decode cL_law 204 = .ok (.iload_n 3, 1) := by decide +kernel
theorem dL_law_205 : decode cL_law 205 = .ok (.iconst 3, 1) := by decide +kernel
theorem dL_law_206 : decode cL_law 206 = .ok (.iadd, 1) := by decide +kernel
theorem dL_law_207 : decode cL_law 207 = .ok (.iaload, 1) := by decide +kernel
theorem dL_law_208 : decode cL_law 208 = .ok (.aload_n 0, 1) := by decide +kernel
theorem dL_law_209 : decode cL_law 209 = .ok (.iload_n 3, 1) := by decide +kernel
theorem dL_law_210 : decode cL_law 210 = .ok (.iconst 4, 1) := by decide +kernel
theorem dL_law_211 : decode cL_law 211 = .ok (.iadd, 1) := by decide +kernel
theorem dL_law_212 : decode cL_law 212 = .ok (.iaload, 1) := by decide +kernel
theorem dL_law_213 : decode cL_law 213 = .ok (.aload_n 0, 1) := by decide +kernel
theorem dL_law_214 : decode cL_law 214 = .ok (.iload_n 3, 1) := by decide +kernel
theorem dL_law_215 : decode cL_law 215 = .ok (.iconst 5, 1) := by decide +kernel
theorem dL_law_216 : decode cL_law 216 = .ok (.iadd, 1) := by decide +kernel
theorem dL_law_217 : decode cL_law 217 = .ok (.iaload, 1) := by decide +kernel
theorem dL_law_218 : decode cL_law 218 = .ok (.invokevirtual 23, 3) := by decide +kernel
theorem dL_law_221 : decode cL_law 221 = .ok (.aload_n 2, 1) := by decide +kernel
theorem dL_law_222 : decode cL_law 222 = .ok (.aload_n 0, 1) := by decide +kernel
theorem dL_law_223 : decode cL_law 223 = .ok (.iload_n 3, 1) := by decide +kernel
theorem dL_law_224 : decode cL_law 224 = .ok (.iconst 1, 1) := by decide +kernel
theorem dL_law_225 : decode cL_law 225 = .ok (.iadd, 1) := by decide +kernel
theorem dL_law_226 : decode cL_law 226 = .ok (.iaload, 1) := by decide +kernel
theorem dL_law_227 : decode cL_law 227 = .ok (.aload_n 0, 1) := by decide +kernel
theorem dL_law_228 : decode cL_law 228 = .ok (.iload_n 3, 1) := by decide +kernel
theorem dL_law_229 : decode cL_law 229 = .ok (.iconst 2, 1) := by decide +kernel
theorem dL_law_230 : decode cL_law 230 = .ok (.iadd, 1) := by decide +kernel
theorem dL_law_231 : decode cL_law 231 = .ok (.iaload, 1) := by decide +kernel
theorem dL_law_232 : decode cL_law 232 = .ok (.aload_n 0, 1) := by decide +kernel
theorem dL_law_233 : decode cL_law 233 = .ok (.iload_n 3, 1) := by decide +kernel
theorem dL_law_234 : decode cL_law 234 = .ok (.iconst 3, 1) := by decide +kernel
theorem dL_law_235 : decode cL_law 235 = .ok (.iadd, 1) := by decide +kernel
theorem dL_law_236 : decode cL_law 236 = .ok (.iaload, 1) := by decide +kernel
theorem dL_law_237 : decode cL_law 237 = .ok (.aload_n 0, 1) := by decide +kernel
theorem dL_law_238 : decode cL_law 238 = .ok (.iload_n 3, 1) := by decide +kernel
theorem dL_law_239 : decode cL_law 239 = .ok (.iconst 4, 1) := by decide +kernel
theorem dL_law_240 : decode cL_law 240 = .ok (.iadd, 1) := by decide +kernel
theorem dL_law_241 : decode cL_law 241 = .ok (.iaload, 1) := by decide +kernel
theorem dL_law_242 : decode cL_law 242 = .ok (.aload_n 0, 1) := by decide +kernel
theorem dL_law_243 : decode cL_law 243 = .ok (.iload_n 3, 1) := by decide +kernel
theorem dL_law_244 : decode cL_law 244 = .ok (.iconst 5, 1) := by decide +kernel
theorem dL_law_245 : decode cL_law 245 = .ok (.iadd, 1) := by decide +kernel
theorem dL_law_246 : decode cL_law 246 = .ok (.iaload, 1) := by decide +kernel
theorem dL_law_247 : decode cL_law 247 = .ok (.invokevirtual 27, 3) := by decide +kernel
theorem dL_law_250 : decode cL_law 250 = .ok (.if_icmp .eq 557, 3) := by decide +kernel
theorem dL_law_253 : decode cL_law 253 = .ok (.iconst 0, 1) := by decide +kernel
theorem dL_law_254 : decode cL_law 254 = .ok (.ireturn, 1) := by decide +kernel
theorem dL_law_255 : decode cL_law 255 = .ok (.aload_n 1, 1) := by decide +kernel
theorem dL_law_256 : decode cL_law 256 = .ok (.invokevirtual 28, 3) := by decide +kernel
theorem dL_law_259 : decode cL_law 259 = .ok (.aload_n 2, 1) := by decide +kernel
theorem dL_law_260 : decode cL_law 260 = .ok (.invokevirtual 31, 3) := by decide +kernel
theorem dL_law_263 : decode cL_law 263 = .ok (.if_icmp .eq 544, 3) := by decide +kernel
theorem dL_law_266 : decode cL_law 266 = .ok (.iconst 0, 1) := by decide +kernel
theorem dL_law_267 : decode cL_law 267 = .ok (.ireturn, 1) := by decide +kernel
theorem dL_law_268 : decode cL_law 268 = .ok (.aload_n 1, 1) := by decide +kernel
theorem dL_law_269 : decode cL_law 269 = .ok (.invokevirtual 32, 3) := by decide +kernel
theorem dL_law_272 : decode cL_law 272 = .ok (.aload_n 2, 1) := by decide +kernel
theorem dL_law_273 : decode cL_law 273 = .ok (.invokevirtual 35, 3) := by decide +kernel
theorem dL_law_276 : decode cL_law 276 = .ok (.if_icmp .eq 531, 3) := by decide +kernel
theorem dL_law_279 : decode cL_law 279 = .ok (.iconst 0, 1) := by decide +kernel
theorem dL_law_280 : decode cL_law 280 = .ok (.ireturn, 1) := by decide +kernel
theorem dL_law_281 : decode cL_law 281 = .ok (.aload_n 1, 1) := by decide +kernel
theorem dL_law_282 : decode cL_law 282 = .ok (.invokevirtual 36, 3) := by decide +kernel
theorem dL_law_285 : decode cL_law 285 = .ok (.aload_n 2, 1) := by decide +kernel
theorem dL_law_286 : decode cL_law 286 = .ok (.invokevirtual 39, 3) := by decide +kernel
theorem dL_law_289 : decode cL_law 289 = .ok (.if_icmp .eq 518, 3) := by decide +kernel
theorem dL_law_292 : decode cL_law 292 = .ok (.iconst 0, 1) := by decide +kernel
theorem dL_law_293 : decode cL_law 293 = .ok (.ireturn, 1) := by decide +kernel
theorem dL_law_294 : decode cL_law 294 = .ok (.aload_n 1, 1) := by decide +kernel
theorem dL_law_295 : decode cL_law 295 = .ok (.aload_n 0, 1) := by decide +kernel
theorem dL_law_296 : decode cL_law 296 = .ok (.iload_n 3, 1) := by decide +kernel
theorem dL_law_297 : decode cL_law 297 = .ok (.iconst 1, 1) := by decide +kernel
theorem dL_law_298 : decode cL_law 298 = .ok (.iadd, 1) := by decide +kernel
theorem dL_law_299 : decode cL_law 299 = .ok (.iaload, 1) := by decide +kernel
theorem dL_law_300 : decode cL_law 300 = .ok (.aload_n 0, 1) := by decide +kernel
theorem dL_law_301 : decode cL_law 301 = .ok (.iload_n 3, 1) := by decide +kernel
theorem dL_law_302 : decode cL_law 302 = .ok (.iconst 2, 1) := by decide +kernel
theorem dL_law_303 : decode cL_law 303 = .ok (.iadd, 1) := by decide +kernel
theorem dL_law_304 : decode cL_law 304 = .ok (.iaload, 1) := by decide +kernel
theorem dL_law_305 : decode cL_law 305 = .ok (.invokevirtual 40, 3) := by decide +kernel
theorem dL_law_308 : decode cL_law 308 = .ok (.aload_n 2, 1) := by decide +kernel
theorem dL_law_309 : decode cL_law 309 = .ok (.aload_n 0, 1) := by decide +kernel
theorem dL_law_310 : decode cL_law 310 = .ok (.iload_n 3, 1) := by decide +kernel
theorem dL_law_311 : decode cL_law 311 = .ok (.iconst 1, 1) := by decide +kernel
theorem dL_law_312 : decode cL_law 312 = .ok (.iadd, 1) := by decide +kernel
theorem dL_law_313 : decode cL_law 313 = .ok (.iaload, 1) := by decide +kernel
theorem dL_law_314 : decode cL_law 314 = .ok (.aload_n 0, 1) := by decide +kernel
theorem dL_law_315 : decode cL_law 315 = .ok (.iload_n 3, 1) := by decide +kernel
theorem dL_law_316 : decode cL_law 316 = .ok (.iconst 2, 1) := by decide +kernel
theorem dL_law_317 : decode cL_law 317 = .ok (.iadd, 1) := by decide +kernel
theorem dL_law_318 : decode cL_law 318 = .ok (.iaload, 1) := by decide +kernel
theorem dL_law_319 : decode cL_law 319 = .ok (.invokevirtual 44, 3) := by decide +kernel
theorem dL_law_322 : decode cL_law 322 = .ok (.if_icmp .eq 485, 3) := by decide +kernel
theorem dL_law_325 : decode cL_law 325 = .ok (.iconst 0, 1) := by decide +kernel
theorem dL_law_326 : decode cL_law 326 = .ok (.ireturn, 1) := by decide +kernel
theorem dL_law_327 : decode cL_law 327 = .ok (.aload_n 1, 1) := by decide +kernel
theorem dL_law_328 : decode cL_law 328 = .ok (.aload_n 0, 1) := by decide +kernel
theorem dL_law_329 : decode cL_law 329 = .ok (.iload_n 3, 1) := by decide +kernel
theorem dL_law_330 : decode cL_law 330 = .ok (.iconst 1, 1) := by decide +kernel
theorem dL_law_331 : decode cL_law 331 = .ok (.iadd, 1) := by decide +kernel
theorem dL_law_332 : decode cL_law 332 = .ok (.iaload, 1) := by decide +kernel
theorem dL_law_333 : decode cL_law 333 = .ok (.aload_n 0, 1) := by decide +kernel
theorem dL_law_334 : decode cL_law 334 = .ok (.iload_n 3, 1) := by decide +kernel
theorem dL_law_335 : decode cL_law 335 = .ok (.iconst 2, 1) := by decide +kernel
theorem dL_law_336 : decode cL_law 336 = .ok (.iadd, 1) := by decide +kernel
theorem dL_law_337 : decode cL_law 337 = .ok (.iaload, 1) := by decide +kernel
theorem dL_law_338 : decode cL_law 338 = .ok (.invokevirtual 45, 3) := by decide +kernel
theorem dL_law_341 : decode cL_law 341 = .ok (.aload_n 2, 1) := by decide +kernel
theorem dL_law_342 : decode cL_law 342 = .ok (.aload_n 0, 1) := by decide +kernel
theorem dL_law_343 : decode cL_law 343 = .ok (.iload_n 3, 1) := by decide +kernel
theorem dL_law_344 : decode cL_law 344 = .ok (.iconst 1, 1) := by decide +kernel
theorem dL_law_345 : decode cL_law 345 = .ok (.iadd, 1) := by decide +kernel
theorem dL_law_346 : decode cL_law 346 = .ok (.iaload, 1) := by decide +kernel
theorem dL_law_347 : decode cL_law 347 = .ok (.aload_n 0, 1) := by decide +kernel
theorem dL_law_348 : decode cL_law 348 = .ok (.iload_n 3, 1) := by decide +kernel
theorem dL_law_349 : decode cL_law 349 = .ok (.iconst 2, 1) := by decide +kernel
theorem dL_law_350 : decode cL_law 350 = .ok (.iadd, 1) := by decide +kernel
theorem dL_law_351 : decode cL_law 351 = .ok (.iaload, 1) := by decide +kernel
theorem dL_law_352 : decode cL_law 352 = .ok (.invokevirtual 48, 3) := by decide +kernel
theorem dL_law_355 : decode cL_law 355 = .ok (.if_icmp .eq 452, 3) := by decide +kernel
theorem dL_law_358 : decode cL_law 358 = .ok (.iconst 0, 1) := by decide +kernel
theorem dL_law_359 : decode cL_law 359 = .ok (.ireturn, 1) := by decide +kernel
theorem dL_law_360 : decode cL_law 360 = .ok (.aload_n 1, 1) := by decide +kernel
theorem dL_law_361 : decode cL_law 361 = .ok (.invokevirtual 49, 3) := by decide +kernel
theorem dL_law_364 : decode cL_law 364 = .ok (.aload_n 2, 1) := by decide +kernel
theorem dL_law_365 : decode cL_law 365 = .ok (.invokevirtual 52, 3) := by decide +kernel
theorem dL_law_368 : decode cL_law 368 = .ok (.if_icmp .eq 439, 3) := by decide +kernel
theorem dL_law_371 : decode cL_law 371 = .ok (.iconst 0, 1) := by decide +kernel
theorem dL_law_372 : decode cL_law 372 = .ok (.ireturn, 1) := by decide +kernel
theorem dL_law_373 : decode cL_law 373 = .ok (.aload_n 1, 1) := by decide +kernel
theorem dL_law_374 : decode cL_law 374 = .ok (.aload_n 0, 1) := by decide +kernel
theorem dL_law_375 : decode cL_law 375 = .ok (.iload_n 3, 1) := by decide +kernel
theorem dL_law_376 : decode cL_law 376 = .ok (.iconst 1, 1) := by decide +kernel
theorem dL_law_377 : decode cL_law 377 = .ok (.iadd, 1) := by decide +kernel
theorem dL_law_378 : decode cL_law 378 = .ok (.iaload, 1) := by decide +kernel
theorem dL_law_379 : decode cL_law 379 = .ok (.invokevirtual 53, 3) := by decide +kernel
theorem dL_law_382 : decode cL_law 382 = .ok (.aload_n 2, 1) := by decide +kernel
theorem dL_law_383 : decode cL_law 383 = .ok (.aload_n 0, 1) := by decide +kernel
theorem dL_law_384 : decode cL_law 384 = .ok (.iload_n 3, 1) := by decide +kernel
theorem dL_law_385 : decode cL_law 385 = .ok (.iconst 1, 1) := by decide +kernel
theorem dL_law_386 : decode cL_law 386 = .ok (.iadd, 1) := by decide +kernel
theorem dL_law_387 : decode cL_law 387 = .ok (.iaload, 1) := by decide +kernel
theorem dL_law_388 : decode cL_law 388 = .ok (.invokevirtual 56, 3) := by decide +kernel
theorem dL_law_391 : decode cL_law 391 = .ok (.if_icmp .eq 416, 3) := by decide +kernel
theorem dL_law_394 : decode cL_law 394 = .ok (.iconst 0, 1) := by decide +kernel
theorem dL_law_395 : decode cL_law 395 = .ok (.ireturn, 1) := by decide +kernel
theorem dL_law_396 : decode cL_law 396 = .ok (.aload_n 1, 1) := by decide +kernel
theorem dL_law_397 : decode cL_law 397 = .ok (.aload_n 0, 1) := by decide +kernel
theorem dL_law_398 : decode cL_law 398 = .ok (.iload_n 3, 1) := by decide +kernel
theorem dL_law_399 : decode cL_law 399 = .ok (.iconst 1, 1) := by decide +kernel
theorem dL_law_400 : decode cL_law 400 = .ok (.iadd, 1) := by decide +kernel
theorem dL_law_401 : decode cL_law 401 = .ok (.iaload, 1) := by decide +kernel
theorem dL_law_402 : decode cL_law 402 = .ok (.invokevirtual 57, 3) := by decide +kernel
theorem dL_law_405 : decode cL_law 405 = .ok (.aload_n 2, 1) := by decide +kernel
theorem dL_law_406 : decode cL_law 406 = .ok (.aload_n 0, 1) := by decide +kernel
theorem dL_law_407 : decode cL_law 407 = .ok (.iload_n 3, 1) := by decide +kernel
theorem dL_law_408 : decode cL_law 408 = .ok (.iconst 1, 1) := by decide +kernel
theorem dL_law_409 : decode cL_law 409 = .ok (.iadd, 1) := by decide +kernel
theorem dL_law_410 : decode cL_law 410 = .ok (.iaload, 1) := by decide +kernel
theorem dL_law_411 : decode cL_law 411 = .ok (.invokevirtual 60, 3) := by decide +kernel
theorem dL_law_414 : decode cL_law 414 = .ok (.if_icmp .eq 393, 3) := by decide +kernel
theorem dL_law_417 : decode cL_law 417 = .ok (.iconst 0, 1) := by decide +kernel
theorem dL_law_418 : decode cL_law 418 = .ok (.ireturn, 1) := by decide +kernel
theorem dL_law_419 : decode cL_law 419 = .ok (.aload_n 1, 1) := by decide +kernel
theorem dL_law_420 : decode cL_law 420 = .ok (.aload_n 0, 1) := by decide +kernel
theorem dL_law_421 : decode cL_law 421 = .ok (.iload_n 3, 1) := by decide +kernel
theorem dL_law_422 : decode cL_law 422 = .ok (.iconst 1, 1) := by decide +kernel
theorem dL_law_423 : decode cL_law 423 = .ok (.iadd, 1) := by decide +kernel
theorem dL_law_424 : decode cL_law 424 = .ok (.iaload, 1) := by decide +kernel
theorem dL_law_425 : decode cL_law 425 = .ok (.invokevirtual 61, 3) := by decide +kernel
theorem dL_law_428 : decode cL_law 428 = .ok (.aload_n 2, 1) := by decide +kernel
theorem dL_law_429 : decode cL_law 429 = .ok (.aload_n 0, 1) := by decide +kernel
theorem dL_law_430 : decode cL_law 430 = .ok (.iload_n 3, 1) := by decide +kernel
theorem dL_law_431 : decode cL_law 431 = .ok (.iconst 1, 1) := by decide +kernel
theorem dL_law_432 : decode cL_law 432 = .ok (.iadd, 1) := by decide +kernel
theorem dL_law_433 : decode cL_law 433 = .ok (.iaload, 1) := by decide +kernel
theorem dL_law_434 : decode cL_law 434 = .ok (.invokevirtual 64, 3) := by decide +kernel
theorem dL_law_437 : decode cL_law 437 = .ok (.if_icmp .eq 370, 3) := by decide +kernel
theorem dL_law_440 : decode cL_law 440 = .ok (.iconst 0, 1) := by decide +kernel
theorem dL_law_441 : decode cL_law 441 = .ok (.ireturn, 1) := by decide +kernel
theorem dL_law_442 : decode cL_law 442 = .ok (.aload_n 1, 1) := by decide +kernel
theorem dL_law_443 : decode cL_law 443 = .ok (.aload_n 0, 1) := by decide +kernel
theorem dL_law_444 : decode cL_law 444 = .ok (.iload_n 3, 1) := by decide +kernel
theorem dL_law_445 : decode cL_law 445 = .ok (.iconst 1, 1) := by decide +kernel
theorem dL_law_446 : decode cL_law 446 = .ok (.iadd, 1) := by decide +kernel
theorem dL_law_447 : decode cL_law 447 = .ok (.iaload, 1) := by decide +kernel
theorem dL_law_448 : decode cL_law 448 = .ok (.invokevirtual 65, 3) := by decide +kernel
theorem dL_law_451 : decode cL_law 451 = .ok (.aload_n 2, 1) := by decide +kernel
theorem dL_law_452 : decode cL_law 452 = .ok (.aload_n 0, 1) := by decide +kernel
theorem dL_law_453 : decode cL_law 453 = .ok (.iload_n 3, 1) := by decide +kernel
theorem dL_law_454 : decode cL_law 454 = .ok (.iconst 1, 1) := by decide +kernel
theorem dL_law_455 : decode cL_law 455 = .ok (.iadd, 1) := by decide +kernel
theorem dL_law_456 : decode cL_law 456 = .ok (.iaload, 1) := by decide +kernel
theorem dL_law_457 : decode cL_law 457 = .ok (.invokevirtual 68, 3) := by decide +kernel
theorem dL_law_460 : decode cL_law 460 = .ok (.if_icmp .eq 347, 3) := by decide +kernel
theorem dL_law_463 : decode cL_law 463 = .ok (.iconst 0, 1) := by decide +kernel
theorem dL_law_464 : decode cL_law 464 = .ok (.ireturn, 1) := by decide +kernel
theorem dL_law_465 : decode cL_law 465 = .ok (.aload_n 1, 1) := by decide +kernel
theorem dL_law_466 : decode cL_law 466 = .ok (.aload_n 0, 1) := by decide +kernel
theorem dL_law_467 : decode cL_law 467 = .ok (.iload_n 3, 1) := by decide +kernel
theorem dL_law_468 : decode cL_law 468 = .ok (.iconst 1, 1) := by decide +kernel
theorem dL_law_469 : decode cL_law 469 = .ok (.iadd, 1) := by decide +kernel
theorem dL_law_470 : decode cL_law 470 = .ok (.iaload, 1) := by decide +kernel
theorem dL_law_471 : decode cL_law 471 = .ok (.invokevirtual 69, 3) := by decide +kernel
theorem dL_law_474 : decode cL_law 474 = .ok (.aload_n 2, 1) := by decide +kernel
theorem dL_law_475 : decode cL_law 475 = .ok (.aload_n 0, 1) := by decide +kernel
theorem dL_law_476 : decode cL_law 476 = .ok (.iload_n 3, 1) := by decide +kernel
theorem dL_law_477 : decode cL_law 477 = .ok (.iconst 1, 1) := by decide +kernel
theorem dL_law_478 : decode cL_law 478 = .ok (.iadd, 1) := by decide +kernel
theorem dL_law_479 : decode cL_law 479 = .ok (.iaload, 1) := by decide +kernel
theorem dL_law_480 : decode cL_law 480 = .ok (.invokevirtual 72, 3) := by decide +kernel
theorem dL_law_483 : decode cL_law 483 = .ok (.if_icmp .eq 324, 3) := by decide +kernel
theorem dL_law_486 : decode cL_law 486 = .ok (.iconst 0, 1) := by decide +kernel
theorem dL_law_487 : decode cL_law 487 = .ok (.ireturn, 1) := by decide +kernel
theorem dL_law_488 : decode cL_law 488 = .ok (.aload_n 1, 1) := by decide +kernel
theorem dL_law_489 : decode cL_law 489 = .ok (.aload_n 0, 1) := by decide +kernel
theorem dL_law_490 : decode cL_law 490 = .ok (.iload_n 3, 1) := by decide +kernel
theorem dL_law_491 : decode cL_law 491 = .ok (.iconst 1, 1) := by decide +kernel
theorem dL_law_492 : decode cL_law 492 = .ok (.iadd, 1) := by decide +kernel
theorem dL_law_493 : decode cL_law 493 = .ok (.iaload, 1) := by decide +kernel
theorem dL_law_494 : decode cL_law 494 = .ok (.invokevirtual 73, 3) := by decide +kernel
theorem dL_law_497 : decode cL_law 497 = .ok (.aload_n 2, 1) := by decide +kernel
theorem dL_law_498 : decode cL_law 498 = .ok (.aload_n 0, 1) := by decide +kernel
theorem dL_law_499 : decode cL_law 499 = .ok (.iload_n 3, 1) := by decide +kernel
theorem dL_law_500 : decode cL_law 500 = .ok (.iconst 1, 1) := by decide +kernel
theorem dL_law_501 : decode cL_law 501 = .ok (.iadd, 1) := by decide +kernel
theorem dL_law_502 : decode cL_law 502 = .ok (.iaload, 1) := by decide +kernel
theorem dL_law_503 : decode cL_law 503 = .ok (.invokevirtual 76, 3) := by decide +kernel
theorem dL_law_506 : decode cL_law 506 = .ok (.if_icmp .eq 301, 3) := by decide +kernel
theorem dL_law_509 : decode cL_law 509 = .ok (.iconst 0, 1) := by decide +kernel
theorem dL_law_510 : decode cL_law 510 = .ok (.ireturn, 1) := by decide +kernel
theorem dL_law_511 : decode cL_law 511 = .ok (.aload_n 1, 1) := by decide +kernel
theorem dL_law_512 : decode cL_law 512 = .ok (.aload_n 0, 1) := by decide +kernel
theorem dL_law_513 : decode cL_law 513 = .ok (.iload_n 3, 1) := by decide +kernel
theorem dL_law_514 : decode cL_law 514 = .ok (.iconst 1, 1) := by decide +kernel
theorem dL_law_515 : decode cL_law 515 = .ok (.iadd, 1) := by decide +kernel
theorem dL_law_516 : decode cL_law 516 = .ok (.iaload, 1) := by decide +kernel
theorem dL_law_517 : decode cL_law 517 = .ok (.invokevirtual 77, 3) := by decide +kernel
theorem dL_law_520 : decode cL_law 520 = .ok (.aload_n 2, 1) := by decide +kernel
theorem dL_law_521 : decode cL_law 521 = .ok (.aload_n 0, 1) := by decide +kernel
theorem dL_law_522 : decode cL_law 522 = .ok (.iload_n 3, 1) := by decide +kernel
theorem dL_law_523 : decode cL_law 523 = .ok (.iconst 1, 1) := by decide +kernel
theorem dL_law_524 : decode cL_law 524 = .ok (.iadd, 1) := by decide +kernel
theorem dL_law_525 : decode cL_law 525 = .ok (.iaload, 1) := by decide +kernel
theorem dL_law_526 : decode cL_law 526 = .ok (.invokevirtual 80, 3) := by decide +kernel
theorem dL_law_529 : decode cL_law 529 = .ok (.if_icmp .eq 278, 3) := by decide +kernel
theorem dL_law_532 : decode cL_law 532 = .ok (.iconst 0, 1) := by decide +kernel
theorem dL_law_533 : decode cL_law 533 = .ok (.ireturn, 1) := by decide +kernel
theorem dL_law_534 : decode cL_law 534 = .ok (.aload_n 1, 1) := by decide +kernel
theorem dL_law_535 : decode cL_law 535 = .ok (.aload_n 0, 1) := by decide +kernel
theorem dL_law_536 : decode cL_law 536 = .ok (.iload_n 3, 1) := by decide +kernel
theorem dL_law_537 : decode cL_law 537 = .ok (.iconst 1, 1) := by decide +kernel
theorem dL_law_538 : decode cL_law 538 = .ok (.iadd, 1) := by decide +kernel
theorem dL_law_539 : decode cL_law 539 = .ok (.iaload, 1) := by decide +kernel
theorem dL_law_540 : decode cL_law 540 = .ok (.invokevirtual 81, 3) := by decide +kernel
theorem dL_law_543 : decode cL_law 543 = .ok (.aload_n 2, 1) := by decide +kernel
theorem dL_law_544 : decode cL_law 544 = .ok (.aload_n 0, 1) := by decide +kernel
theorem dL_law_545 : decode cL_law 545 = .ok (.iload_n 3, 1) := by decide +kernel
theorem dL_law_546 : decode cL_law 546 = .ok (.iconst 1, 1) := by decide +kernel
theorem dL_law_547 : decode cL_law 547 = .ok (.iadd, 1) := by decide +kernel
theorem dL_law_548 : decode cL_law 548 = .ok (.iaload, 1) := by decide +kernel
theorem dL_law_549 : decode cL_law 549 = .ok (.invokevirtual 84, 3) := by decide +kernel
theorem dL_law_552 : decode cL_law 552 = .ok (.if_icmp .eq 255, 3) := by decide +kernel
theorem dL_law_555 : decode cL_law 555 = .ok (.iconst 0, 1) := by decide +kernel
theorem dL_law_556 : decode cL_law 556 = .ok (.ireturn, 1) := by decide +kernel
theorem dL_law_557 : decode cL_law 557 = .ok (.aload_n 1, 1) := by decide +kernel
theorem dL_law_558 : decode cL_law 558 = .ok (.invokevirtual 85, 3) := by decide +kernel
theorem dL_law_561 : decode cL_law 561 = .ok (.aload_n 2, 1) := by decide +kernel
theorem dL_law_562 : decode cL_law 562 = .ok (.invokevirtual 88, 3) := by decide +kernel
theorem dL_law_565 : decode cL_law 565 = .ok (.if_icmp .eq 242, 3) := by decide +kernel
theorem dL_law_568 : decode cL_law 568 = .ok (.iconst 0, 1) := by decide +kernel
theorem dL_law_569 : decode cL_law 569 = .ok (.ireturn, 1) := by decide +kernel
theorem dL_law_570 : decode cL_law 570 = .ok (.aload_n 1, 1) := by decide +kernel
theorem dL_law_571 : decode cL_law 571 = .ok (.aload_n 0, 1) := by decide +kernel
theorem dL_law_572 : decode cL_law 572 = .ok (.iload_n 3, 1) := by decide +kernel
theorem dL_law_573 : decode cL_law 573 = .ok (.iconst 1, 1) := by decide +kernel
theorem dL_law_574 : decode cL_law 574 = .ok (.iadd, 1) := by decide +kernel
theorem dL_law_575 : decode cL_law 575 = .ok (.iaload, 1) := by decide +kernel
theorem dL_law_576 : decode cL_law 576 = .ok (.invokevirtual 89, 3) := by decide +kernel
theorem dL_law_579 : decode cL_law 579 = .ok (.aload_n 2, 1) := by decide +kernel
theorem dL_law_580 : decode cL_law 580 = .ok (.aload_n 0, 1) := by decide +kernel
theorem dL_law_581 : decode cL_law 581 = .ok (.iload_n 3, 1) := by decide +kernel
theorem dL_law_582 : decode cL_law 582 = .ok (.iconst 1, 1) := by decide +kernel
theorem dL_law_583 : decode cL_law 583 = .ok (.iadd, 1) := by decide +kernel
theorem dL_law_584 : decode cL_law 584 = .ok (.iaload, 1) := by decide +kernel
theorem dL_law_585 : decode cL_law 585 = .ok (.invokevirtual 92, 3) := by decide +kernel
theorem dL_law_588 : decode cL_law 588 = .ok (.if_icmp .eq 219, 3) := by decide +kernel
theorem dL_law_591 : decode cL_law 591 = .ok (.iconst 0, 1) := by decide +kernel
theorem dL_law_592 : decode cL_law 592 = .ok (.ireturn, 1) := by decide +kernel
theorem dL_law_593 : decode cL_law 593 = .ok (.aload_n 1, 1) := by decide +kernel
theorem dL_law_594 : decode cL_law 594 = .ok (.invokevirtual 93, 3) := by decide +kernel
theorem dL_law_597 : decode cL_law 597 = .ok (.aload_n 2, 1) := by decide +kernel
theorem dL_law_598 : decode cL_law 598 = .ok (.invokevirtual 96, 3) := by decide +kernel
theorem dL_law_601 : decode cL_law 601 = .ok (.if_icmp .eq 206, 3) := by decide +kernel
theorem dL_law_604 : decode cL_law 604 = .ok (.iconst 0, 1) := by decide +kernel
theorem dL_law_605 : decode cL_law 605 = .ok (.ireturn, 1) := by decide +kernel
theorem dL_law_606 : decode cL_law 606 = .ok (.aload_n 1, 1) := by decide +kernel
theorem dL_law_607 : decode cL_law 607 = .ok (.aload_n 0, 1) := by decide +kernel
theorem dL_law_608 : decode cL_law 608 = .ok (.iload_n 3, 1) := by decide +kernel
theorem dL_law_609 : decode cL_law 609 = .ok (.iconst 1, 1) := by decide +kernel
theorem dL_law_610 : decode cL_law 610 = .ok (.iadd, 1) := by decide +kernel
theorem dL_law_611 : decode cL_law 611 = .ok (.iaload, 1) := by decide +kernel
theorem dL_law_612 : decode cL_law 612 = .ok (.invokevirtual 97, 3) := by decide +kernel
theorem dL_law_615 : decode cL_law 615 = .ok (.aload_n 2, 1) := by decide +kernel
theorem dL_law_616 : decode cL_law 616 = .ok (.aload_n 0, 1) := by decide +kernel
theorem dL_law_617 : decode cL_law 617 = .ok (.iload_n 3, 1) := by decide +kernel
theorem dL_law_618 : decode cL_law 618 = .ok (.iconst 1, 1) := by decide +kernel
theorem dL_law_619 : decode cL_law 619 = .ok (.iadd, 1) := by decide +kernel
theorem dL_law_620 : decode cL_law 620 = .ok (.iaload, 1) := by decide +kernel
theorem dL_law_621 : decode cL_law 621 = .ok (.invokevirtual 100, 3) := by decide +kernel
theorem dL_law_624 : decode cL_law 624 = .ok (.if_icmp .eq 183, 3) := by decide +kernel
theorem dL_law_627 : decode cL_law 627 = .ok (.iconst 0, 1) := by decide +kernel
theorem dL_law_628 : decode cL_law 628 = .ok (.ireturn, 1) := by decide +kernel
theorem dL_law_629 : decode cL_law 629 = .ok (.aload_n 1, 1) := by decide +kernel
theorem dL_law_630 : decode cL_law 630 = .ok (.aload_n 0, 1) := by decide +kernel
theorem dL_law_631 : decode cL_law 631 = .ok (.iload_n 3, 1) := by decide +kernel
theorem dL_law_632 : decode cL_law 632 = .ok (.iconst 1, 1) := by decide +kernel
theorem dL_law_633 : decode cL_law 633 = .ok (.iadd, 1) := by decide +kernel
theorem dL_law_634 : decode cL_law 634 = .ok (.iaload, 1) := by decide +kernel
theorem dL_law_635 : decode cL_law 635 = .ok (.aload_n 0, 1) := by decide +kernel
theorem dL_law_636 : decode cL_law 636 = .ok (.iload_n 3, 1) := by decide +kernel
theorem dL_law_637 : decode cL_law 637 = .ok (.iconst 2, 1) := by decide +kernel
theorem dL_law_638 : decode cL_law 638 = .ok (.iadd, 1) := by decide +kernel
theorem dL_law_639 : decode cL_law 639 = .ok (.iaload, 1) := by decide +kernel
theorem dL_law_640 : decode cL_law 640 = .ok (.invokevirtual 101, 3) := by decide +kernel
theorem dL_law_643 : decode cL_law 643 = .ok (.aload_n 2, 1) := by decide +kernel
theorem dL_law_644 : decode cL_law 644 = .ok (.aload_n 0, 1) := by decide +kernel
theorem dL_law_645 : decode cL_law 645 = .ok (.iload_n 3, 1) := by decide +kernel
theorem dL_law_646 : decode cL_law 646 = .ok (.iconst 1, 1) := by decide +kernel
theorem dL_law_647 : decode cL_law 647 = .ok (.iadd, 1) := by decide +kernel
theorem dL_law_648 : decode cL_law 648 = .ok (.iaload, 1) := by decide +kernel
theorem dL_law_649 : decode cL_law 649 = .ok (.aload_n 0, 1) := by decide +kernel
theorem dL_law_650 : decode cL_law 650 = .ok (.iload_n 3, 1) := by decide +kernel
theorem dL_law_651 : decode cL_law 651 = .ok (.iconst 2, 1) := by decide +kernel
theorem dL_law_652 : decode cL_law 652 = .ok (.iadd, 1) := by decide +kernel
theorem dL_law_653 : decode cL_law 653 = .ok (.iaload, 1) := by decide +kernel
theorem dL_law_654 : decode cL_law 654 = .ok (.invokevirtual 104, 3) := by decide +kernel
theorem dL_law_657 : decode cL_law 657 = .ok (.if_icmp .eq 150, 3) := by decide +kernel
theorem dL_law_660 : decode cL_law 660 = .ok (.iconst 0, 1) := by decide +kernel
theorem dL_law_661 : decode cL_law 661 = .ok (.ireturn, 1) := by decide +kernel
theorem dL_law_662 : decode cL_law 662 = .ok (.aload_n 1, 1) := by decide +kernel
theorem dL_law_663 : decode cL_law 663 = .ok (.invokevirtual 105, 3) := by decide +kernel
theorem dL_law_666 : decode cL_law 666 = .ok (.aload_n 2, 1) := by decide +kernel
theorem dL_law_667 : decode cL_law 667 = .ok (.invokevirtual 108, 3) := by decide +kernel
theorem dL_law_670 : decode cL_law 670 = .ok (.if_icmp .eq 137, 3) := by decide +kernel
theorem dL_law_673 : decode cL_law 673 = .ok (.iconst 0, 1) := by decide +kernel
theorem dL_law_674 : decode cL_law 674 = .ok (.ireturn, 1) := by decide +kernel
theorem dL_law_675 : decode cL_law 675 = .ok (.aload_n 1, 1) := by decide +kernel
theorem dL_law_676 : decode cL_law 676 = .ok (.aload_n 0, 1) := by decide +kernel
theorem dL_law_677 : decode cL_law 677 = .ok (.iload_n 3, 1) := by decide +kernel
theorem dL_law_678 : decode cL_law 678 = .ok (.iconst 1, 1) := by decide +kernel
theorem dL_law_679 : decode cL_law 679 = .ok (.iadd, 1) := by decide +kernel
theorem dL_law_680 : decode cL_law 680 = .ok (.iaload, 1) := by decide +kernel
theorem dL_law_681 : decode cL_law 681 = .ok (.aload_n 0, 1) := by decide +kernel
theorem dL_law_682 : decode cL_law 682 = .ok (.iload_n 3, 1) := by decide +kernel
theorem dL_law_683 : decode cL_law 683 = .ok (.iconst 2, 1) := by decide +kernel
theorem dL_law_684 : decode cL_law 684 = .ok (.iadd, 1) := by decide +kernel
theorem dL_law_685 : decode cL_law 685 = .ok (.iaload, 1) := by decide +kernel
theorem dL_law_686 : decode cL_law 686 = .ok (.aload_n 0, 1) := by decide +kernel
theorem dL_law_687 : decode cL_law 687 = .ok (.iload_n 3, 1) := by decide +kernel
theorem dL_law_688 : decode cL_law 688 = .ok (.iconst 3, 1) := by decide +kernel
theorem dL_law_689 : decode cL_law 689 = .ok (.iadd, 1) := by decide +kernel
theorem dL_law_690 : decode cL_law 690 = .ok (.iaload, 1) := by decide +kernel
theorem dL_law_691 : decode cL_law 691 = .ok (.aload_n 0, 1) := by decide +kernel
theorem dL_law_692 : decode cL_law 692 = .ok (.iload_n 3, 1) := by decide +kernel
theorem dL_law_693 : decode cL_law 693 = .ok (.iconst 4, 1) := by decide +kernel
theorem dL_law_694 : decode cL_law 694 = .ok (.iadd, 1) := by decide +kernel
theorem dL_law_695 : decode cL_law 695 = .ok (.iaload, 1) := by decide +kernel
theorem dL_law_696 : decode cL_law 696 = .ok (.invokevirtual 109, 3) := by decide +kernel
theorem dL_law_699 : decode cL_law 699 = .ok (.aload_n 2, 1) := by decide +kernel
theorem dL_law_700 : decode cL_law 700 = .ok (.aload_n 0, 1) := by decide +kernel
theorem dL_law_701 : decode cL_law 701 = .ok (.iload_n 3, 1) := by decide +kernel
theorem dL_law_702 : decode cL_law 702 = .ok (.iconst 1, 1) := by decide +kernel
theorem dL_law_703 : decode cL_law 703 = .ok (.iadd, 1) := by decide +kernel
theorem dL_law_704 : decode cL_law 704 = .ok (.iaload, 1) := by decide +kernel
theorem dL_law_705 : decode cL_law 705 = .ok (.aload_n 0, 1) := by decide +kernel
theorem dL_law_706 : decode cL_law 706 = .ok (.iload_n 3, 1) := by decide +kernel
theorem dL_law_707 : decode cL_law 707 = .ok (.iconst 2, 1) := by decide +kernel
theorem dL_law_708 : decode cL_law 708 = .ok (.iadd, 1) := by decide +kernel
theorem dL_law_709 : decode cL_law 709 = .ok (.iaload, 1) := by decide +kernel
theorem dL_law_710 : decode cL_law 710 = .ok (.aload_n 0, 1) := by decide +kernel
theorem dL_law_711 : decode cL_law 711 = .ok (.iload_n 3, 1) := by decide +kernel
theorem dL_law_712 : decode cL_law 712 = .ok (.iconst 3, 1) := by decide +kernel
theorem dL_law_713 : decode cL_law 713 = .ok (.iadd, 1) := by decide +kernel
theorem dL_law_714 : decode cL_law 714 = .ok (.iaload, 1) := by decide +kernel
theorem dL_law_715 : decode cL_law 715 = .ok (.aload_n 0, 1) := by decide +kernel
theorem dL_law_716 : decode cL_law 716 = .ok (.iload_n 3, 1) := by decide +kernel
theorem dL_law_717 : decode cL_law 717 = .ok (.iconst 4, 1) := by decide +kernel
theorem dL_law_718 : decode cL_law 718 = .ok (.iadd, 1) := by decide +kernel
theorem dL_law_719 : decode cL_law 719 = .ok (.iaload, 1) := by decide +kernel
theorem dL_law_720 : decode cL_law 720 = .ok (.invokevirtual 113, 3) := by decide +kernel
theorem dL_law_723 : decode cL_law 723 = .ok (.if_icmp .eq 84, 3) := by decide +kernel
theorem dL_law_726 : decode cL_law 726 = .ok (.iconst 0, 1) := by decide +kernel
theorem dL_law_727 : decode cL_law 727 = .ok (.ireturn, 1) := by decide +kernel
theorem dL_law_728 : decode cL_law 728 = .ok (.aload_n 1, 1) := by decide +kernel
theorem dL_law_729 : decode cL_law 729 = .ok (.aload_n 0, 1) := by decide +kernel
theorem dL_law_730 : decode cL_law 730 = .ok (.iload_n 3, 1) := by decide +kernel
theorem dL_law_731 : decode cL_law 731 = .ok (.iconst 1, 1) := by decide +kernel
theorem dL_law_732 : decode cL_law 732 = .ok (.iadd, 1) := by decide +kernel
theorem dL_law_733 : decode cL_law 733 = .ok (.iaload, 1) := by decide +kernel
theorem dL_law_734 : decode cL_law 734 = .ok (.aload_n 0, 1) := by decide +kernel
theorem dL_law_735 : decode cL_law 735 = .ok (.iload_n 3, 1) := by decide +kernel
theorem dL_law_736 : decode cL_law 736 = .ok (.iconst 2, 1) := by decide +kernel
theorem dL_law_737 : decode cL_law 737 = .ok (.iadd, 1) := by decide +kernel
theorem dL_law_738 : decode cL_law 738 = .ok (.iaload, 1) := by decide +kernel
theorem dL_law_739 : decode cL_law 739 = .ok (.invokevirtual 114, 3) := by decide +kernel
theorem dL_law_742 : decode cL_law 742 = .ok (.aload_n 2, 1) := by decide +kernel
theorem dL_law_743 : decode cL_law 743 = .ok (.aload_n 0, 1) := by decide +kernel
theorem dL_law_744 : decode cL_law 744 = .ok (.iload_n 3, 1) := by decide +kernel
theorem dL_law_745 : decode cL_law 745 = .ok (.iconst 1, 1) := by decide +kernel
theorem dL_law_746 : decode cL_law 746 = .ok (.iadd, 1) := by decide +kernel
theorem dL_law_747 : decode cL_law 747 = .ok (.iaload, 1) := by decide +kernel
theorem dL_law_748 : decode cL_law 748 = .ok (.aload_n 0, 1) := by decide +kernel
theorem dL_law_749 : decode cL_law 749 = .ok (.iload_n 3, 1) := by decide +kernel
theorem dL_law_750 : decode cL_law 750 = .ok (.iconst 2, 1) := by decide +kernel
theorem dL_law_751 : decode cL_law 751 = .ok (.iadd, 1) := by decide +kernel
theorem dL_law_752 : decode cL_law 752 = .ok (.iaload, 1) := by decide +kernel
theorem dL_law_753 : decode cL_law 753 = .ok (.invokevirtual 117, 3) := by decide +kernel
theorem dL_law_756 : decode cL_law 756 = .ok (.if_icmp .eq 51, 3) := by decide +kernel
theorem dL_law_759 : decode cL_law 759 = .ok (.iconst 0, 1) := by decide +kernel
theorem dL_law_760 : decode cL_law 760 = .ok (.ireturn, 1) := by decide +kernel
theorem dL_law_761 : decode cL_law 761 = .ok (.aload_n 1, 1) := by decide +kernel
theorem dL_law_762 : decode cL_law 762 = .ok (.aload_n 0, 1) := by decide +kernel
theorem dL_law_763 : decode cL_law 763 = .ok (.iload_n 3, 1) := by decide +kernel
theorem dL_law_764 : decode cL_law 764 = .ok (.iconst 1, 1) := by decide +kernel
theorem dL_law_765 : decode cL_law 765 = .ok (.iadd, 1) := by decide +kernel
theorem dL_law_766 : decode cL_law 766 = .ok (.iaload, 1) := by decide +kernel
theorem dL_law_767 : decode cL_law 767 = .ok (.invokevirtual 118, 3) := by decide +kernel
theorem dL_law_770 : decode cL_law 770 = .ok (.aload_n 2, 1) := by decide +kernel
theorem dL_law_771 : decode cL_law 771 = .ok (.aload_n 0, 1) := by decide +kernel
theorem dL_law_772 : decode cL_law 772 = .ok (.iload_n 3, 1) := by decide +kernel
theorem dL_law_773 : decode cL_law 773 = .ok (.iconst 1, 1) := by decide +kernel
theorem dL_law_774 : decode cL_law 774 = .ok (.iadd, 1) := by decide +kernel
theorem dL_law_775 : decode cL_law 775 = .ok (.iaload, 1) := by decide +kernel
theorem dL_law_776 : decode cL_law 776 = .ok (.invokevirtual 121, 3) := by decide +kernel
theorem dL_law_779 : decode cL_law 779 = .ok (.if_icmp .eq 28, 3) := by decide +kernel
theorem dL_law_782 : decode cL_law 782 = .ok (.iconst 0, 1) := by decide +kernel
theorem dL_law_783 : decode cL_law 783 = .ok (.ireturn, 1) := by decide +kernel
theorem dL_law_784 : decode cL_law 784 = .ok (.aload_n 1, 1) := by decide +kernel
theorem dL_law_785 : decode cL_law 785 = .ok (.aload_n 0, 1) := by decide +kernel
theorem dL_law_786 : decode cL_law 786 = .ok (.iload_n 3, 1) := by decide +kernel
theorem dL_law_787 : decode cL_law 787 = .ok (.iconst 1, 1) := by decide +kernel
theorem dL_law_788 : decode cL_law 788 = .ok (.iadd, 1) := by decide +kernel
theorem dL_law_789 : decode cL_law 789 = .ok (.iaload, 1) := by decide +kernel
theorem dL_law_790 : decode cL_law 790 = .ok (.invokevirtual 122, 3) := by decide +kernel
theorem dL_law_793 : decode cL_law 793 = .ok (.aload_n 2, 1) := by decide +kernel
theorem dL_law_794 : decode cL_law 794 = .ok (.aload_n 0, 1) := by decide +kernel
theorem dL_law_795 : decode cL_law 795 = .ok (.iload_n 3, 1) := by decide +kernel
theorem dL_law_796 : decode cL_law 796 = .ok (.iconst 1, 1) := by decide +kernel
theorem dL_law_797 : decode cL_law 797 = .ok (.iadd, 1) := by decide +kernel
theorem dL_law_798 : decode cL_law 798 = .ok (.iaload, 1) := by decide +kernel
theorem dL_law_799 : decode cL_law 799 = .ok (.invokevirtual 125, 3) := by decide +kernel
theorem dL_law_802 : decode cL_law 802 = .ok (.if_icmp .eq 5, 3) := by decide +kernel
theorem dL_law_805 : decode cL_law 805 = .ok (.iconst 0, 1) := by decide +kernel
theorem dL_law_806 : decode cL_law 806 = .ok (.ireturn, 1) := by decide +kernel
theorem dL_law_807 : decode cL_law 807 = .ok (.iinc 3 6, 3) := by decide +kernel
theorem dL_law_810 : decode cL_law 810 = .ok (.goto (-792), 3) := by decide +kernel
theorem dL_law_813 : decode cL_law 813 = .ok (.iconst 1, 1) := by decide +kernel
theorem dL_law_814 : decode cL_law 814 = .ok (.ireturn, 1) := by decide +kernel

