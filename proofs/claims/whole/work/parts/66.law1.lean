set_option maxRecDepth 100000 in
theorem ggL_law_X6_init : GoodIn wsL_law wsX6_init := goodIn_r _ [8, 9, 10, 11, 12, 13, 14, 15, 16, 17, 18, 19, 20, 21, 22, 23, 24, 25, 26, 27, 28, 29, 30, 31, 32, 33, 34, 35, 36, 37, 38, 39, 40, 41, 42, 43, 44, 45, 46, 47, 48, 49, 50, 51, 52, 53, 54, 55, 56, 57, 58, 59, 60, 61, 62, 63, 64, 65, 66, 67, 68, 69, 70, 71, 72, 73, 74, 75, 76, 77, 78, 79, 80, 81, 82, 83, 84, 85, 86, 87, 88, 89, 90, 91, 92, 93, 94, 95, 96, 97, 98, 99, 100, 101, 102, 103, 104, 105, 106, 107, 108, 597, 598, 571, 572, 573, 574, 599, 600, 601, 602, 603, 604, 605, 606, 607, 608, 609, 610, 611, 612, 613, 614, 615, 616, 617, 618, 619, 620, 621, 622, 623, 624, 625, 626] rfl (by decide +kernel)
set_option maxRecDepth 100000 in
theorem gL_law_X6_init : GoodIn wsL_law (wsX6_init) := ggL_law_X6_init
set_option maxRecDepth 100000 in
theorem ggL_law_X7_init : GoodIn wsL_law wsX7_init := goodIn_r _ [111, 112, 10, 11, 29, 113, 114, 115, 116, 39, 117, 118, 119, 120, 121, 122, 123, 124, 125, 126, 127, 128, 129, 130, 131, 132, 133, 134, 135, 136, 5, 137, 138, 139, 140, 141, 575, 576, 577, 578, 579, 580, 581, 582, 583, 584, 585, 586, 587, 588, 589, 590, 591, 592, 593, 594, 595, 596] rfl (by decide +kernel)
set_option maxRecDepth 100000 in
theorem gL_law_X7_init : GoodIn wsL_law (wsX7_init) := ggL_law_X7_init
set_option maxRecDepth 100000 in
theorem ggL_law_X6_setting : GoodIn wsL_law wsX6_setting := goodIn_r _ [145, 15, 146, 147, 148, 14, 149, 150, 151, 30, 152, 2, 153, 154, 155, 156, 157, 571, 572, 573, 574, 597, 598] rfl (by decide +kernel)
set_option maxRecDepth 100000 in
theorem gL_law_X6_setting : GoodIn wsL_law (wsV RL 13 RX6 yX6_setting wsX6_setting) := goodIn_app (goodIn_of _ (by decide +kernel)) ggL_law_X6_setting
set_option maxRecDepth 100000 in
theorem ggL_law_X7_setting : GoodIn wsL_law wsX7_setting := goodIn_r _ [161, 162, 114, 115, 113, 163, 164, 5, 165, 575, 576, 577, 578, 579, 580, 581, 582, 583, 584, 585, 586, 587, 588, 589, 590, 591, 592, 593, 594, 595, 596] rfl (by decide +kernel)
set_option maxRecDepth 100000 in
theorem gL_law_X7_setting : GoodIn wsL_law (wsV RL 17 RX7 yX7_setting wsX7_setting) := goodIn_app (goodIn_of _ (by decide +kernel)) ggL_law_X7_setting
set_option maxRecDepth 100000 in
theorem ggL_law_X6_told : GoodIn wsL_law wsX6_told := goodIn_r _ [169, 15, 170, 171, 172, 14, 173, 30, 152, 2, 153, 571, 572, 573, 574, 597, 598] rfl (by decide +kernel)
set_option maxRecDepth 100000 in
theorem gL_law_X6_told : GoodIn wsL_law (wsV RL 18 RX6 yX6_told wsX6_told) := goodIn_app (goodIn_of _ (by decide +kernel)) ggL_law_X6_told
set_option maxRecDepth 100000 in
theorem ggL_law_X7_told : GoodIn wsL_law wsX7_told := goodIn_r _ [177, 162, 113, 163, 164, 5, 165, 575, 576, 577, 578, 579, 580, 581, 582, 583, 584, 585, 586, 587, 588, 589, 590, 591, 592, 593, 594, 595, 596] rfl (by decide +kernel)
set_option maxRecDepth 100000 in
theorem gL_law_X7_told : GoodIn wsL_law (wsV RL 22 RX7 yX7_told wsX7_told) := goodIn_app (goodIn_of _ (by decide +kernel)) ggL_law_X7_told
set_option maxRecDepth 100000 in
theorem ggL_law_X6_load : GoodIn wsL_law wsX6_load := goodIn_r _ [181, 19, 182, 152, 2, 153, 183, 184, 185, 18, 186, 38, 571, 572, 573, 574, 599, 600, 601, 602, 603, 604, 605, 606, 607, 608, 609, 610, 611, 612] rfl (by decide +kernel)
set_option maxRecDepth 100000 in
theorem gL_law_X6_load : GoodIn wsL_law (wsV RL 23 RX6 yX6_load wsX6_load) := goodIn_app (goodIn_of _ (by decide +kernel)) ggL_law_X6_load
set_option maxRecDepth 100000 in
theorem ggL_law_X7_load : GoodIn wsL_law wsX7_load := goodIn_r _ [190, 191, 119, 116, 192, 193, 5, 194, 195, 163, 164, 165, 575, 576, 577, 578, 579, 580, 581, 582, 583, 584, 585, 586, 587, 588, 589, 590, 591, 592, 593, 594, 595, 596] rfl (by decide +kernel)
set_option maxRecDepth 100000 in
theorem gL_law_X7_load : GoodIn wsL_law (wsV RL 26 RX7 yX7_load wsX7_load) := goodIn_app (goodIn_of _ (by decide +kernel)) ggL_law_X7_load
set_option maxRecDepth 100000 in
theorem ggL_law_X6_plan : GoodIn wsL_law wsX6_plan := goodIn_r _ [199, 15, 182, 152, 2, 153, 200, 201, 202, 14, 203, 31, 571, 572, 573, 574, 597, 598] rfl (by decide +kernel)
set_option maxRecDepth 100000 in
theorem gL_law_X6_plan : GoodIn wsL_law (wsV RL 27 RX6 yX6_plan wsX6_plan) := goodIn_app (goodIn_of _ (by decide +kernel)) ggL_law_X6_plan
set_option maxRecDepth 100000 in
theorem ggL_law_X7_plan : GoodIn wsL_law wsX7_plan := goodIn_r _ [207, 208, 209, 118, 163, 164, 5, 165, 575, 576, 577, 578, 579, 580, 581, 582, 583, 584, 585, 586, 587, 588, 589, 590, 591, 592, 593, 594, 595, 596] rfl (by decide +kernel)
set_option maxRecDepth 100000 in
theorem gL_law_X7_plan : GoodIn wsL_law (wsV RL 30 RX7 yX7_plan wsX7_plan) := goodIn_app (goodIn_of _ (by decide +kernel)) ggL_law_X7_plan
set_option maxRecDepth 100000 in
theorem ggL_law_X6_lose : GoodIn wsL_law wsX6_lose := goodIn_r _ [213, 19, 182, 152, 2, 153, 214, 215, 216, 18, 217, 40, 571, 572, 573, 574, 599, 600, 601, 602, 603, 604, 605, 606, 607, 608, 609, 610, 611, 612] rfl (by decide +kernel)
set_option maxRecDepth 100000 in
theorem gL_law_X6_lose : GoodIn wsL_law (wsV RL 31 RX6 yX6_lose wsX6_lose) := goodIn_app (goodIn_of _ (by decide +kernel)) ggL_law_X6_lose
set_option maxRecDepth 100000 in
theorem ggL_law_X7_lose : GoodIn wsL_law wsX7_lose := goodIn_r _ [221, 119, 117, 192, 193, 5, 194, 195, 163, 164, 165, 575, 576, 577, 578, 579, 580, 581, 582, 583, 584, 585, 586, 587, 588, 589, 590, 591, 592, 593, 594, 595, 596] rfl (by decide +kernel)
set_option maxRecDepth 100000 in
theorem gL_law_X7_lose : GoodIn wsL_law (wsV RL 35 RX7 yX7_lose wsX7_lose) := goodIn_app (goodIn_of _ (by decide +kernel)) ggL_law_X7_lose
set_option maxRecDepth 100000 in
theorem ggL_law_X6_tick : GoodIn wsL_law wsX6_tick := goodIn_r _ [225, 19, 182, 152, 2, 153, 226, 227, 228, 18, 229, 230, 231, 232, 233, 78, 48, 38, 52, 40, 37, 79, 44, 81, 82, 83, 84, 54, 234, 235, 236, 47, 237, 95, 96, 65, 66, 67, 238, 239, 240, 241, 93, 94, 68, 242, 243, 244, 245, 246, 247, 248, 51, 249, 73, 250, 171, 172, 14, 173, 30, 251, 252, 253, 254, 255, 256, 257, 258, 101, 259, 260, 261, 262, 263, 264, 265, 266, 43, 267, 268, 269, 270, 271, 59, 272, 273, 274, 275, 31, 276, 277, 278, 279, 280, 281, 282, 283, 284, 80, 285, 286, 287, 288, 289, 290, 291, 292, 60, 293, 294, 295, 296, 297, 298, 299, 300, 301, 302, 303, 304, 305, 306, 307, 308, 309, 310, 311, 312, 313, 314, 315, 316, 317, 318, 319, 320, 321, 322, 323, 324, 325, 326, 327, 328, 329, 330, 331, 332, 333, 334, 335, 336, 337, 571, 572, 573, 574, 599, 600, 601, 602, 603, 604, 605, 606, 607, 608, 609, 610, 611, 612, 617, 618, 619, 620, 621, 622, 623, 624, 625, 626, 597, 598, 615, 616] rfl (by decide +kernel)
set_option maxRecDepth 100000 in
theorem gL_law_X6_tick : GoodIn wsL_law (wsV RL 36 RX6 yX6_tick wsX6_tick) := goodIn_app (goodIn_of _ (by decide +kernel)) ggL_law_X6_tick
set_option maxRecDepth 100000 in
theorem ggL_law_X7_tick : GoodIn wsL_law wsX7_tick := goodIn_r _ [341, 342, 119, 117, 163, 164, 5, 165, 343, 344, 345, 346, 127, 125, 126, 116, 128, 120, 121, 113, 129, 347, 348, 349, 350, 122, 123, 124, 351, 352, 353, 354, 355, 356, 357, 358, 359, 360, 361, 362, 118, 363, 364, 365, 366, 367, 368, 369, 370, 371, 372, 373, 374, 375, 376, 377, 378, 379, 380, 381, 382, 383, 384, 385, 386, 387, 388, 389, 390, 391, 392, 393, 394, 395, 396, 575, 576, 577, 578, 579, 580, 581, 582, 583, 584, 585, 586, 587, 588, 589, 590, 591, 592, 593, 594, 595, 596] rfl (by decide +kernel)
set_option maxRecDepth 100000 in
theorem gL_law_X7_tick : GoodIn wsL_law (wsV RL 39 RX7 yX7_tick wsX7_tick) := goodIn_app (goodIn_of _ (by decide +kernel)) ggL_law_X7_tick
set_option maxRecDepth 100000 in
theorem ggL_law_X6_fail : GoodIn wsL_law wsX6_fail := goodIn_r _ [400, 19, 182, 152, 2, 153, 401, 402, 403, 43, 404, 59, 571, 572, 573, 574, 599, 600, 601, 602, 603, 604, 605, 606, 607, 608, 609, 610, 611, 612, 615, 616] rfl (by decide +kernel)
set_option maxRecDepth 100000 in
theorem gL_law_X6_fail : GoodIn wsL_law (wsV RL 40 RX6 yX6_fail wsX6_fail) := goodIn_app (goodIn_of _ (by decide +kernel)) ggL_law_X6_fail
set_option maxRecDepth 100000 in
theorem ggL_law_X7_fail : GoodIn wsL_law wsX7_fail := goodIn_r _ [408, 409, 120, 163, 164, 5, 165, 575, 576, 577, 578, 579, 580, 581, 582, 583, 584, 585, 586, 587, 588, 589, 590, 591, 592, 593, 594, 595, 596] rfl (by decide +kernel)
set_option maxRecDepth 100000 in
theorem gL_law_X7_fail : GoodIn wsL_law (wsV RL 43 RX7 yX7_fail wsX7_fail) := goodIn_app (goodIn_of _ (by decide +kernel)) ggL_law_X7_fail
set_option maxRecDepth 100000 in
theorem ggL_law_X6_again : GoodIn wsL_law wsX6_again := goodIn_r _ [413, 19, 414, 75, 76, 18, 77, 44, 48, 52, 78, 79, 80, 81, 82, 83, 84, 85, 86, 87, 43, 88, 59, 89, 90, 91, 47, 92, 93, 94, 95, 96, 97, 98, 99, 51, 100, 101, 571, 572, 573, 574, 599, 600, 601, 602, 603, 604, 605, 606, 607, 608, 609, 610, 611, 612, 615, 616, 617, 618, 619, 620, 621, 622, 623, 624, 625, 626] rfl (by decide +kernel)
set_option maxRecDepth 100000 in
theorem gL_law_X6_again : GoodIn wsL_law (wsV RL 44 RX6 yX6_again wsX6_again) := goodIn_app (goodIn_of _ (by decide +kernel)) ggL_law_X6_again
set_option maxRecDepth 100000 in
theorem ggL_law_X7_again : GoodIn wsL_law wsX7_again := goodIn_r _ [418, 119, 138, 139, 140, 5, 141, 120, 121, 127, 575, 576, 577, 578, 579, 580, 581, 582, 583, 584, 585, 586, 587, 588, 589, 590, 591, 592, 593, 594, 595, 596] rfl (by decide +kernel)
set_option maxRecDepth 100000 in
theorem gL_law_X7_again : GoodIn wsL_law (wsV RL 48 RX7 yX7_again wsX7_again) := goodIn_app (goodIn_of _ (by decide +kernel)) ggL_law_X7_again
set_option maxRecDepth 100000 in
theorem ggL_law_X6_server : GoodIn wsL_law wsX6_server := goodIn_r _ [422, 19, 182, 152, 2, 153, 423, 424, 425, 43, 426, 59, 427, 428, 429, 430, 60, 571, 572, 573, 574, 599, 600, 601, 602, 603, 604, 605, 606, 607, 608, 609, 610, 611, 612, 615, 616] rfl (by decide +kernel)
set_option maxRecDepth 100000 in
theorem gL_law_X6_server : GoodIn wsL_law (wsV RL 49 RX6 yX6_server wsX6_server) := goodIn_app (goodIn_of _ (by decide +kernel)) ggL_law_X6_server
set_option maxRecDepth 100000 in
theorem ggL_law_X7_server : GoodIn wsL_law wsX7_server := goodIn_r _ [434, 409, 120, 119, 121, 163, 164, 5, 165, 575, 576, 577, 578, 579, 580, 581, 582, 583, 584, 585, 586, 587, 588, 589, 590, 591, 592, 593, 594, 595, 596] rfl (by decide +kernel)
set_option maxRecDepth 100000 in
theorem gL_law_X7_server : GoodIn wsL_law (wsV RL 52 RX7 yX7_server wsX7_server) := goodIn_app (goodIn_of _ (by decide +kernel)) ggL_law_X7_server
set_option maxRecDepth 100000 in
theorem ggL_law_X6_now : GoodIn wsL_law wsX6_now := goodIn_r _ [438, 19, 439, 440, 441, 18, 442, 78, 48, 82, 83, 84, 52, 79, 44, 80, 81, 264, 265, 266, 43, 267, 268, 269, 270, 271, 59, 443, 571, 572, 573, 574, 599, 600, 601, 602, 603, 604, 605, 606, 607, 608, 609, 610, 611, 612, 617, 618, 619, 620, 621, 622, 623, 624, 625, 626, 615, 616] rfl (by decide +kernel)
set_option maxRecDepth 100000 in
theorem gL_law_X6_now : GoodIn wsL_law (wsV RL 53 RX6 yX6_now wsX6_now) := goodIn_app (goodIn_of _ (by decide +kernel)) ggL_law_X6_now
set_option maxRecDepth 100000 in
theorem ggL_law_X7_now : GoodIn wsL_law wsX7_now := goodIn_r _ [447, 119, 351, 352, 353, 5, 354, 127, 124, 448, 449, 450, 451, 126, 373, 374, 375, 376, 377, 378, 379, 380, 120, 575, 576, 577, 578, 579, 580, 581, 582, 583, 584, 585, 586, 587, 588, 589, 590, 591, 592, 593, 594, 595, 596] rfl (by decide +kernel)
set_option maxRecDepth 100000 in
theorem gL_law_X7_now : GoodIn wsL_law (wsV RL 56 RX7 yX7_now wsX7_now) := goodIn_app (goodIn_of _ (by decide +kernel)) ggL_law_X7_now
set_option maxRecDepth 100000 in
theorem ggL_law_X6_was : GoodIn wsL_law wsX6_was := goodIn_r _ [455, 19, 182, 152, 2, 153, 456, 457, 458, 18, 459, 54, 571, 572, 573, 574, 599, 600, 601, 602, 603, 604, 605, 606, 607, 608, 609, 610, 611, 612] rfl (by decide +kernel)
set_option maxRecDepth 100000 in
theorem gL_law_X6_was : GoodIn wsL_law (wsV RL 57 RX6 yX6_was wsX6_was) := goodIn_app (goodIn_of _ (by decide +kernel)) ggL_law_X6_was
set_option maxRecDepth 100000 in
theorem ggL_law_X7_was : GoodIn wsL_law wsX7_was := goodIn_r _ [463, 464, 119, 129, 192, 193, 5, 194, 195, 163, 164, 165, 575, 576, 577, 578, 579, 580, 581, 582, 583, 584, 585, 586, 587, 588, 589, 590, 591, 592, 593, 594, 595, 596] rfl (by decide +kernel)
set_option maxRecDepth 100000 in
theorem gL_law_X7_was : GoodIn wsL_law (wsV RL 60 RX7 yX7_was wsX7_was) := goodIn_app (goodIn_of _ (by decide +kernel)) ggL_law_X7_was
set_option maxRecDepth 100000 in
theorem ggL_law_X6_hindsight : GoodIn wsL_law wsX6_hindsight := goodIn_r _ [468, 24, 15, 19, 182, 152, 2, 153, 469, 470, 471, 23, 472, 107, 108, 473, 474, 278, 257, 279, 475, 476, 477, 478, 479, 480, 481, 482, 483, 484, 485, 171, 172, 14, 173, 30, 486, 487, 488, 489, 256, 258, 490, 491, 492, 18, 493, 38, 494, 495, 496, 497, 571, 572, 573, 574, 613, 614, 597, 598, 599, 600, 601, 602, 603, 604, 605, 606, 607, 608, 609, 610, 611, 612] rfl (by decide +kernel)
set_option maxRecDepth 100000 in
theorem gL_law_X6_hindsight : GoodIn wsL_law (wsV RL 61 RX6 yX6_hindsight wsX6_hindsight) := goodIn_app (goodIn_of _ (by decide +kernel)) ggL_law_X6_hindsight
set_option maxRecDepth 100000 in
theorem ggL_law_X7_hindsight : GoodIn wsL_law wsX7_hindsight := goodIn_r _ [501, 502, 131, 503, 113, 132, 116, 163, 164, 5, 165, 504, 505, 506, 507, 363, 364, 365, 366, 367, 368, 575, 576, 577, 578, 579, 580, 581, 582, 583, 584, 585, 586, 587, 588, 589, 590, 591, 592, 593, 594, 595, 596] rfl (by decide +kernel)
set_option maxRecDepth 100000 in
theorem gL_law_X7_hindsight : GoodIn wsL_law (wsV RL 64 RX7 yX7_hindsight wsX7_hindsight) := goodIn_app (goodIn_of _ (by decide +kernel)) ggL_law_X7_hindsight
set_option maxRecDepth 100000 in
theorem ggL_law_X6_worst : GoodIn wsL_law wsX6_worst := goodIn_r _ [511, 20, 182, 152, 2, 153, 512, 513, 514, 515, 516, 517, 18, 518, 83, 74, 75, 76, 77, 44, 48, 52, 78, 79, 80, 81, 82, 84, 85, 86, 87, 43, 88, 59, 89, 90, 91, 47, 92, 93, 94, 95, 96, 97, 98, 99, 51, 100, 101, 519, 184, 185, 186, 38, 520, 227, 228, 229, 230, 231, 232, 233, 40, 37, 54, 234, 235, 236, 237, 65, 66, 67, 238, 239, 240, 241, 68, 242, 243, 244, 245, 246, 247, 248, 249, 73, 250, 171, 172, 14, 173, 30, 251, 252, 253, 254, 255, 256, 257, 258, 259, 260, 261, 262, 263, 264, 265, 266, 267, 268, 269, 270, 271, 272, 273, 274, 275, 31, 276, 277, 278, 279, 280, 281, 282, 283, 284, 285, 286, 287, 288, 289, 290, 291, 292, 60, 293, 294, 295, 296, 297, 298, 299, 300, 301, 302, 303, 304, 305, 306, 307, 308, 309, 310, 311, 312, 313, 314, 315, 316, 317, 318, 319, 320, 321, 322, 323, 324, 325, 326, 327, 328, 329, 330, 331, 332, 333, 334, 335, 336, 337, 571, 572, 573, 574, 599, 600, 601, 602, 603, 604, 605, 606, 607, 608, 609, 610, 611, 612, 615, 616, 617, 618, 619, 620, 621, 622, 623, 624, 625, 626, 597, 598] rfl (by decide +kernel)
set_option maxRecDepth 100000 in
theorem gL_law_X6_worst : GoodIn wsL_law (wsV RL 65 RX6 yX6_worst wsX6_worst) := goodIn_app (goodIn_of _ (by decide +kernel)) ggL_law_X6_worst
set_option maxRecDepth 100000 in
theorem ggL_law_X7_worst : GoodIn wsL_law wsX7_worst := goodIn_r _ [524, 525, 191, 163, 164, 5, 165, 526, 527, 528, 529, 530, 119, 120, 121, 122, 123, 124, 125, 126, 127, 128, 129, 116, 133, 531, 532, 533, 534, 130, 535, 536, 537, 538, 138, 139, 140, 141, 343, 344, 345, 346, 113, 347, 348, 349, 350, 351, 352, 353, 354, 355, 356, 357, 358, 359, 360, 361, 362, 118, 363, 364, 365, 366, 367, 368, 369, 370, 371, 372, 373, 374, 375, 376, 377, 378, 379, 380, 381, 382, 383, 384, 385, 386, 387, 388, 389, 390, 391, 392, 393, 394, 395, 396, 575, 576, 577, 578, 579, 580, 581, 582, 583, 584, 585, 586, 587, 588, 589, 590, 591, 592, 593, 594, 595, 596] rfl (by decide +kernel)
set_option maxRecDepth 100000 in
theorem gL_law_X7_worst : GoodIn wsL_law (wsV RL 69 RX7 yX7_worst wsX7_worst) := goodIn_app (goodIn_of _ (by decide +kernel)) ggL_law_X7_worst
set_option maxRecDepth 100000 in
theorem ggL_law_X6_swing : GoodIn wsL_law wsX6_swing := goodIn_r _ [542, 20, 182, 152, 2, 153, 543, 544, 545, 18, 546, 74, 75, 76, 77, 44, 48, 52, 78, 79, 80, 81, 82, 83, 84, 85, 86, 87, 43, 88, 59, 89, 90, 91, 47, 92, 93, 94, 95, 96, 97, 98, 99, 51, 100, 101, 519, 184, 185, 186, 38, 520, 227, 228, 229, 230, 231, 232, 233, 40, 37, 54, 234, 235, 236, 237, 65, 66, 67, 238, 239, 240, 241, 68, 242, 243, 244, 245, 246, 247, 248, 249, 73, 250, 171, 172, 14, 173, 30, 251, 252, 253, 254, 255, 256, 257, 258, 259, 260, 261, 262, 263, 264, 265, 266, 267, 268, 269, 270, 271, 272, 273, 274, 275, 31, 276, 277, 278, 279, 280, 281, 282, 283, 284, 285, 286, 287, 288, 289, 290, 291, 292, 60, 293, 294, 295, 296, 297, 298, 299, 300, 301, 302, 303, 304, 305, 306, 307, 308, 309, 310, 311, 312, 313, 314, 315, 316, 317, 318, 319, 320, 321, 322, 323, 324, 325, 326, 327, 328, 329, 330, 331, 332, 333, 334, 335, 336, 337, 547, 548, 549, 550, 551, 552, 457, 458, 459, 553, 554, 555, 556, 571, 572, 573, 574, 599, 600, 601, 602, 603, 604, 605, 606, 607, 608, 609, 610, 611, 612, 615, 616, 617, 618, 619, 620, 621, 622, 623, 624, 625, 626, 597, 598] rfl (by decide +kernel)
set_option maxRecDepth 100000 in
theorem gL_law_X6_swing : GoodIn wsL_law (wsV RL 70 RX6 yX6_swing wsX6_swing) := goodIn_app (goodIn_of _ (by decide +kernel)) ggL_law_X6_swing
set_option maxRecDepth 100000 in
theorem ggL_law_X7_swing : GoodIn wsL_law wsX7_swing := goodIn_r _ [560, 191, 561, 116, 163, 164, 5, 165, 526, 527, 528, 529, 530, 119, 120, 121, 122, 123, 124, 125, 126, 127, 128, 129, 133, 531, 532, 533, 534, 130, 138, 139, 140, 141, 343, 344, 345, 346, 113, 347, 348, 349, 350, 351, 352, 353, 354, 355, 356, 357, 358, 359, 360, 361, 362, 118, 363, 364, 365, 366, 367, 368, 369, 370, 371, 372, 373, 374, 375, 376, 377, 378, 379, 380, 381, 382, 383, 384, 385, 386, 387, 388, 389, 390, 391, 392, 393, 394, 395, 396, 575, 576, 577, 578, 579, 580, 581, 582, 583, 584, 585, 586, 587, 588, 589, 590, 591, 592, 593, 594, 595, 596] rfl (by decide +kernel)
set_option maxRecDepth 100000 in
theorem gL_law_X7_swing : GoodIn wsL_law (wsV RL 73 RX7 yX7_swing wsX7_swing) := goodIn_app (goodIn_of _ (by decide +kernel)) ggL_law_X7_swing
set_option maxRecDepth 100000 in
theorem ggL_law_X6_digest : GoodIn wsL_law wsX6_digest := goodIn_r _ [565, 19, 439, 440, 441, 18, 442, 78, 48, 82, 83, 84, 52, 79, 44, 80, 81, 264, 265, 266, 43, 267, 268, 269, 270, 271, 59, 443, 423, 424, 425, 426, 152, 2, 153, 571, 572, 573, 574, 599, 600, 601, 602, 603, 604, 605, 606, 607, 608, 609, 610, 611, 612, 617, 618, 619, 620, 621, 622, 623, 624, 625, 626, 615, 616] rfl (by decide +kernel)
set_option maxRecDepth 100000 in
theorem gL_law_X6_digest : GoodIn wsL_law (wsV RL 74 RX6 yX6_digest wsX6_digest) := goodIn_app (goodIn_of _ (by decide +kernel)) ggL_law_X6_digest
set_option maxRecDepth 100000 in
theorem ggL_law_X7_digest : GoodIn wsL_law wsX7_digest := goodIn_r _ [569, 120, 570, 445, 446, 5, 447, 119, 351, 352, 353, 354, 127, 124, 448, 449, 450, 451, 126, 373, 374, 375, 376, 377, 378, 379, 380, 575, 576, 577, 578, 579, 580, 581, 582, 583, 584, 585, 586, 587, 588, 589, 590, 591, 592, 593, 594, 595, 596] rfl (by decide +kernel)
set_option maxRecDepth 100000 in
theorem gL_law_X7_digest : GoodIn wsL_law (wsV RL 77 RX7 yX7_digest wsX7_digest) := goodIn_app (goodIn_of _ (by decide +kernel)) ggL_law_X7_digest
