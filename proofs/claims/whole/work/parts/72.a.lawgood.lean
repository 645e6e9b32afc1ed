set_option maxRecDepth 20000 in
theorem ggL_law_X11_init : GoodIn wsL_law wsX11_init := goodIn_r _ [8, 9, 10, 11, 12, 13, 14, 15, 16, 17, 18, 19, 20, 21, 22, 23, 24, 25, 26, 27, 28, 29, 30, 31, 32, 33, 34, 35, 36, 37, 38, 39, 40, 41, 42, 43, 44, 45, 46, 47, 48, 49, 50, 51, 52, 53, 54, 55, 56, 57, 58, 59, 60, 61, 62, 63, 64, 65, 66, 67, 68, 69, 70, 71, 72, 73, 74, 75, 76, 77, 78, 79, 80, 81, 82, 83, 84, 85, 86, 87, 88, 89, 90, 91, 92, 93, 94, 95, 96, 97, 98, 99, 100, 101, 102, 103, 104, 105, 106, 107, 108, 109, 110, 111, 112, 113, 114, 115, 116, 117, 118, 119, 120, 121, 122, 123, 124, 125, 126, 127, 128, 129, 130, 131, 132, 133, 134, 135, 136, 137, 138, 139, 140, 141, 142, 143, 144, 145, 146, 147, 148, 149, 150, 151, 152, 153, 154, 155, 156, 157, 158, 159, 160, 161, 162, 163, 164, 165, 166, 167, 168, 169, 170, 171, 172, 968, 969, 970, 971, 972, 973, 939, 940, 941, 942, 943, 944, 945, 946, 947, 974, 975, 976, 977, 978, 979, 980, 981, 982, 983, 984, 985, 986, 987, 988, 989, 990, 991, 992, 993] (by decide +kernel) (by decide +kernel)
set_option maxRecDepth 20000 in
theorem gL_law_X11_init : GoodIn wsL_law (wsX11_init) := ggL_law_X11_init
set_option maxRecDepth 20000 in
theorem ggL_law_X12_init : GoodIn wsL_law wsX12_init := goodIn_r _ [175, 176, 10, 11, 39, 177, 178, 179, 180, 181, 182, 183, 184, 185, 186, 187, 188, 189, 190, 948, 949, 950, 951, 952, 953, 954, 955, 956, 957, 958, 959, 960, 961, 962, 963, 964, 965, 966, 967] (by decide +kernel) (by decide +kernel)
set_option maxRecDepth 20000 in
theorem gL_law_X12_init : GoodIn wsL_law (wsX12_init) := ggL_law_X12_init
set_option maxRecDepth 20000 in
theorem ggL_law_X11_feed : GoodIn wsL_law wsX11_feed := goodIn_r _ [194, 15, 195, 196, 197, 198, 47, 199, 200, 201, 202, 203, 204, 63, 939, 940, 941, 942, 943, 944, 945, 946, 947, 968, 969, 970, 971, 972, 973, 990, 991] (by decide +kernel) (by decide +kernel)
set_option maxRecDepth 20000 in
theorem gL_law_X11_feed : GoodIn wsL_law (wsV RL 13 RX11 yX11_feed wsX11_feed) := goodIn_app (goodIn_of _ (by decide +kernel)) ggL_law_X11_feed
set_option maxRecDepth 20000 in
theorem ggL_law_X12_feed : GoodIn wsL_law wsX12_feed := goodIn_r _ [208, 209, 178, 948, 949, 950, 951, 952, 953, 954, 955, 956, 957, 958, 959, 960, 961, 962, 963, 964, 965, 966, 967] (by decide +kernel) (by decide +kernel)
set_option maxRecDepth 20000 in
theorem gL_law_X12_feed : GoodIn wsL_law (wsV RL 17 RX12 yX12_feed wsX12_feed) := goodIn_app (goodIn_of _ (by decide +kernel)) ggL_law_X12_feed
set_option maxRecDepth 20000 in
theorem ggL_law_X11_end : GoodIn wsL_law wsX11_end := goodIn_r _ [213, 15, 195, 214, 215, 216, 47, 217, 200, 939, 940, 941, 942, 943, 944, 945, 946, 947, 968, 969, 970, 971, 972, 973, 990, 991] (by decide +kernel) (by decide +kernel)
set_option maxRecDepth 20000 in
theorem gL_law_X11_end : GoodIn wsL_law (wsV RL 18 RX11 yX11_end wsX11_end) := goodIn_app (goodIn_of _ (by decide +kernel)) ggL_law_X11_end
set_option maxRecDepth 20000 in
theorem ggL_law_X12_end : GoodIn wsL_law wsX12_end := goodIn_r _ [221, 209, 222, 223, 5, 224, 948, 949, 950, 951, 952, 953, 954, 955, 956, 957, 958, 959, 960, 961, 962, 963, 964, 965, 966, 967] (by decide +kernel) (by decide +kernel)
set_option maxRecDepth 20000 in
theorem gL_law_X12_end : GoodIn wsL_law (wsV RL 22 RX12 yX12_end wsX12_end) := goodIn_app (goodIn_of _ (by decide +kernel)) ggL_law_X12_end
set_option maxRecDepth 20000 in
theorem ggL_law_X11_words : GoodIn wsL_law wsX11_words := goodIn_r _ [228, 15, 195, 34, 229, 20, 230, 231, 232, 233, 234, 235, 73, 70, 74, 236, 237, 238, 33, 239, 240, 241, 242, 243, 56, 244, 87, 88, 245, 197, 198, 47, 199, 200, 246, 247, 248, 249, 250, 251, 252, 253, 254, 255, 256, 63, 257, 2, 258, 259, 260, 261, 262, 263, 264, 265, 266, 267, 268, 269, 270, 271, 272, 148, 149, 150, 151, 152, 153, 154, 155, 156, 157, 158, 159, 273, 274, 275, 276, 76, 277, 278, 279, 280, 281, 282, 283, 284, 285, 286, 287, 288, 214, 215, 216, 217, 289, 290, 291, 292, 19, 293, 294, 295, 296, 297, 298, 299, 300, 301, 302, 68, 69, 71, 303, 304, 305, 14, 306, 51, 50, 307, 308, 309, 310, 311, 312, 29, 30, 313, 314, 315, 28, 316, 169, 317, 318, 319, 320, 321, 322, 323, 324, 325, 326, 327, 328, 329, 330, 331, 332, 333, 334, 335, 336, 337, 338, 339, 340, 341, 342, 343, 344, 345, 346, 347, 348, 939, 940, 941, 942, 943, 944, 945, 946, 947, 968, 969, 970, 971, 972, 973, 986, 987, 992, 993, 990, 991, 974, 975, 985] (by decide +kernel) (by decide +kernel)
set_option maxRecDepth 20000 in
theorem gL_law_X11_words : GoodIn wsL_law (wsV RL 23 RX11 yX11_words wsX11_words) := goodIn_app (goodIn_of _ (by decide +kernel)) ggL_law_X11_words
set_option maxRecDepth 20000 in
theorem ggL_law_X12_words : GoodIn wsL_law wsX12_words := goodIn_r _ [352, 209, 353, 181, 177, 178, 354, 355, 356, 5, 357, 222, 223, 224, 358, 359, 360, 361, 362, 363, 364, 365, 366, 367, 368, 369, 370, 371, 372, 373, 374, 375, 376, 377, 378, 379, 380, 381, 382, 383, 384, 385, 386, 387, 388, 948, 949, 950, 951, 952, 953, 954, 955, 956, 957, 958, 959, 960, 961, 962, 963, 964, 965, 966, 967] (by decide +kernel) (by decide +kernel)
set_option maxRecDepth 20000 in
theorem gL_law_X12_words : GoodIn wsL_law (wsV RL 27 RX12 yX12_words wsX12_words) := goodIn_app (goodIn_of _ (by decide +kernel)) ggL_law_X12_words
set_option maxRecDepth 20000 in
theorem ggL_law_X11_pattern : GoodIn wsL_law wsX11_pattern := goodIn_r _ [392, 15, 195, 229, 25, 24, 393, 394, 233, 395, 245, 197, 198, 47, 199, 200, 241, 242, 243, 56, 244, 87, 88, 246, 247, 248, 249, 253, 254, 255, 256, 63, 396, 397, 37, 398, 257, 2, 258, 289, 399, 400, 401, 402, 403, 69, 70, 71, 82, 81, 404, 405, 105, 106, 107, 23, 108, 109, 110, 111, 112, 113, 114, 115, 116, 117, 118, 119, 120, 121, 122, 123, 124, 125, 126, 127, 128, 129, 130, 131, 132, 133, 134, 135, 136, 137, 138, 139, 140, 141, 142, 100, 104, 102, 143, 144, 145, 146, 101, 103, 147, 148, 149, 150, 151, 152, 153, 154, 155, 156, 157, 158, 159, 160, 161, 162, 163, 214, 215, 216, 217, 406, 407, 408, 409, 939, 940, 941, 942, 943, 944, 945, 946, 947, 968, 969, 970, 971, 972, 973, 990, 991, 992, 993, 988, 989, 976, 977, 978, 979, 980, 981, 982, 983, 984] (by decide +kernel) (by decide +kernel)
set_option maxRecDepth 20000 in
theorem gL_law_X11_pattern : GoodIn wsL_law (wsV RL 28 RX11 yX11_pattern wsX11_pattern) := goodIn_app (goodIn_of _ (by decide +kernel)) ggL_law_X11_pattern
set_option maxRecDepth 20000 in
theorem ggL_law_X12_pattern : GoodIn wsL_law wsX12_pattern := goodIn_r _ [413, 209, 353, 181, 178, 177, 414, 362, 363, 364, 5, 365, 355, 356, 357, 222, 223, 224, 415, 416, 417, 418, 419, 184, 420, 421, 422, 423, 424, 425, 426, 427, 428, 429, 430, 431, 185, 948, 949, 950, 951, 952, 953, 954, 955, 956, 957, 958, 959, 960, 961, 962, 963, 964, 965, 966, 967] (by decide +kernel) (by decide +kernel)
set_option maxRecDepth 20000 in
theorem gL_law_X12_pattern : GoodIn wsL_law (wsV RL 31 RX12 yX12_pattern wsX12_pattern) := goodIn_app (goodIn_of _ (by decide +kernel)) ggL_law_X12_pattern
set_option maxRecDepth 20000 in
theorem ggL_law_X11_fault : GoodIn wsL_law wsX11_fault := goodIn_r _ [435, 15, 229, 436, 437, 939, 940, 941, 942, 943, 944, 945, 946, 947, 968, 969, 970, 971, 972, 973, 992, 993] (by decide +kernel) (by decide +kernel)
set_option maxRecDepth 20000 in
theorem gL_law_X11_fault : GoodIn wsL_law (wsV RL 32 RX11 yX11_fault wsX11_fault) := goodIn_app (goodIn_of _ (by decide +kernel)) ggL_law_X11_fault
set_option maxRecDepth 20000 in
theorem ggL_law_X12_fault : GoodIn wsL_law wsX12_fault := goodIn_r _ [441, 353, 181, 948, 949, 950, 951, 952, 953, 954, 955, 956, 957, 958, 959, 960, 961, 962, 963, 964, 965, 966, 967] (by decide +kernel) (by decide +kernel)
set_option maxRecDepth 20000 in
theorem gL_law_X12_fault : GoodIn wsL_law (wsV RL 35 RX12 yX12_fault wsX12_fault) := goodIn_app (goodIn_of _ (by decide +kernel)) ggL_law_X12_fault
set_option maxRecDepth 20000 in
theorem ggL_law_X11_edit : GoodIn wsL_law wsX11_edit := goodIn_r _ [445, 15, 195, 446, 447, 448, 449, 233, 450, 250, 251, 252, 245, 197, 198, 47, 199, 200, 253, 254, 255, 256, 63, 257, 2, 258, 269, 270, 271, 272, 148, 149, 150, 151, 152, 153, 154, 155, 156, 157, 158, 159, 214, 215, 216, 217, 451, 452, 453, 33, 454, 240, 76, 277, 278, 279, 280, 281, 282, 283, 284, 285, 286, 287, 288, 455, 274, 275, 276, 939, 940, 941, 942, 943, 944, 945, 946, 947, 968, 969, 970, 971, 972, 973, 990, 991, 986, 987] (by decide +kernel) (by decide +kernel)
set_option maxRecDepth 20000 in
theorem gL_law_X11_edit : GoodIn wsL_law (wsV RL 36 RX11 yX11_edit wsX11_edit) := goodIn_app (goodIn_of _ (by decide +kernel)) ggL_law_X11_edit
set_option maxRecDepth 20000 in
theorem ggL_law_X12_edit : GoodIn wsL_law wsX12_edit := goodIn_r _ [459, 209, 178, 177, 222, 223, 5, 224, 355, 356, 357, 366, 367, 368, 369, 460, 461, 462, 463, 385, 386, 387, 388, 464, 465, 466, 370, 371, 372, 373, 374, 375, 376, 377, 378, 379, 380, 467, 468, 469, 470, 381, 382, 383, 384, 948, 949, 950, 951, 952, 953, 954, 955, 956, 957, 958, 959, 960, 961, 962, 963, 964, 965, 966, 967] (by decide +kernel) (by decide +kernel)
set_option maxRecDepth 20000 in
theorem gL_law_X12_edit : GoodIn wsL_law (wsV RL 40 RX12 yX12_edit wsX12_edit) := goodIn_app (goodIn_of _ (by decide +kernel)) ggL_law_X12_edit
set_option maxRecDepth 20000 in
theorem ggL_law_X11_cancel : GoodIn wsL_law wsX11_cancel := goodIn_r _ [474, 15, 446, 303, 304, 305, 14, 306, 51, 50, 307, 308, 300, 301, 33, 302, 240, 76, 68, 69, 70, 71, 277, 278, 279, 280, 939, 940, 941, 942, 943, 944, 945, 946, 947, 968, 969, 970, 971, 972, 973, 986, 987] (by decide +kernel) (by decide +kernel)
set_option maxRecDepth 20000 in
theorem gL_law_X11_cancel : GoodIn wsL_law (wsV RL 41 RX11 yX11_cancel wsX11_cancel) := goodIn_app (goodIn_of _ (by decide +kernel)) ggL_law_X11_cancel
set_option maxRecDepth 20000 in
theorem ggL_law_X12_cancel : GoodIn wsL_law wsX12_cancel := goodIn_r _ [478, 177, 948, 949, 950, 951, 952, 953, 954, 955, 956, 957, 958, 959, 960, 961, 962, 963, 964, 965, 966, 967] (by decide +kernel) (by decide +kernel)
set_option maxRecDepth 20000 in
theorem gL_law_X12_cancel : GoodIn wsL_law (wsV RL 44 RX12 yX12_cancel wsX12_cancel) := goodIn_app (goodIn_of _ (by decide +kernel)) ggL_law_X12_cancel
set_option maxRecDepth 20000 in
theorem ggL_law_X11_merge : GoodIn wsL_law wsX11_merge := goodIn_r _ [482, 15, 446, 20, 230, 29, 447, 483, 484, 485, 19, 486, 294, 94, 487, 488, 489, 490, 491, 300, 301, 33, 302, 240, 76, 68, 69, 70, 71, 277, 278, 279, 280, 295, 296, 297, 2, 298, 299, 303, 304, 305, 14, 306, 51, 50, 307, 308, 309, 310, 311, 312, 30, 313, 314, 315, 28, 316, 169, 317, 237, 238, 239, 318, 266, 267, 268, 319, 320, 321, 322, 323, 324, 325, 326, 327, 328, 149, 329, 330, 331, 332, 333, 334, 335, 336, 337, 338, 148, 150, 151, 152, 153, 154, 155, 156, 157, 158, 159, 339, 340, 341, 342, 343, 73, 74, 344, 345, 346, 347, 274, 275, 276, 281, 282, 283, 284, 285, 286, 287, 288, 492, 493, 494, 495, 496, 497, 498, 499, 500, 501, 502, 939, 940, 941, 942, 943, 944, 945, 946, 947, 968, 969, 970, 971, 972, 973, 974, 975, 986, 987, 985] (by decide +kernel) (by decide +kernel)
set_option maxRecDepth 20000 in
theorem gL_law_X11_merge : GoodIn wsL_law (wsV RL 45 RX11 yX11_merge wsX11_merge) := goodIn_app (goodIn_of _ (by decide +kernel)) ggL_law_X11_merge
set_option maxRecDepth 20000 in
theorem ggL_law_X12_merge : GoodIn wsL_law wsX12_merge := goodIn_r _ [506, 177, 354, 460, 461, 462, 5, 463, 385, 386, 387, 388, 464, 465, 466, 370, 371, 372, 373, 374, 375, 376, 377, 378, 379, 380, 467, 468, 469, 470, 381, 382, 383, 384, 507, 508, 509, 510, 511, 190, 182, 183, 512, 513, 514, 515, 516, 517, 518, 519, 520, 521, 522, 523, 524, 525, 526, 527, 948, 949, 950, 951, 952, 953, 954, 955, 956, 957, 958, 959, 960, 961, 962, 963, 964, 965, 966, 967] (by decide +kernel) (by decide +kernel)
set_option maxRecDepth 20000 in
theorem gL_law_X12_merge : GoodIn wsL_law (wsV RL 48 RX12 yX12_merge wsX12_merge) := goodIn_app (goodIn_of _ (by decide +kernel)) ggL_law_X12_merge
set_option maxRecDepth 20000 in
theorem ggL_law_X11_undo : GoodIn wsL_law wsX11_undo := goodIn_r _ [531, 20, 532, 533, 534, 19, 535, 294, 536, 537, 538, 539, 540, 73, 70, 74, 94, 295, 296, 297, 2, 298, 15, 230, 299, 300, 301, 33, 302, 240, 76, 68, 69, 71, 277, 278, 279, 280, 303, 304, 305, 14, 306, 51, 50, 307, 308, 309, 310, 311, 312, 29, 30, 313, 314, 315, 28, 316, 169, 317, 237, 238, 239, 318, 266, 267, 268, 319, 320, 321, 322, 323, 324, 325, 326, 327, 328, 149, 329, 330, 331, 332, 333, 334, 335, 336, 337, 338, 148, 150, 151, 152, 153, 154, 155, 156, 157, 158, 159, 339, 340, 341, 342, 343, 344, 345, 346, 347, 274, 275, 276, 281, 282, 283, 284, 285, 286, 287, 288, 939, 940, 941, 942, 943, 944, 945, 946, 947, 974, 975, 968, 969, 970, 971, 972, 973, 986, 987, 985] (by decide +kernel) (by decide +kernel)
set_option maxRecDepth 20000 in
theorem gL_law_X11_undo : GoodIn wsL_law (wsV RL 49 RX11 yX11_undo wsX11_undo) := goodIn_app (goodIn_of _ (by decide +kernel)) ggL_law_X11_undo
set_option maxRecDepth 20000 in
theorem ggL_law_X12_undo : GoodIn wsL_law wsX12_undo := goodIn_r _ [544, 354, 177, 385, 386, 387, 5, 388, 948, 949, 950, 951, 952, 953, 954, 955, 956, 957, 958, 959, 960, 961, 962, 963, 964, 965, 966, 967] (by decide +kernel) (by decide +kernel)
set_option maxRecDepth 20000 in
theorem gL_law_X12_undo : GoodIn wsL_law (wsV RL 52 RX12 yX12_undo wsX12_undo) := goodIn_app (goodIn_of _ (by decide +kernel)) ggL_law_X12_undo
set_option maxRecDepth 20000 in
theorem ggL_law_X11_count : GoodIn wsL_law wsX11_count := goodIn_r _ [548, 15, 230, 29, 446, 447, 25, 24, 348, 266, 267, 33, 268, 240, 549, 496, 497, 28, 498, 169, 318, 550, 551, 2, 552, 553, 320, 321, 322, 76, 323, 324, 325, 326, 554, 555, 556, 37, 557, 82, 81, 558, 328, 149, 329, 330, 331, 332, 559, 560, 561, 562, 563, 564, 154, 155, 156, 565, 566, 567, 568, 569, 570, 571, 572, 573, 574, 575, 406, 407, 408, 23, 409, 111, 576, 577, 578, 579, 110, 580, 581, 582, 583, 584, 585, 586, 587, 102, 588, 589, 590, 591, 592, 593, 594, 595, 596, 597, 598, 599, 600, 601, 602, 603, 104, 604, 605, 606, 607, 608, 609, 610, 151, 152, 153, 157, 158, 159, 611, 612, 613, 614, 615, 282, 283, 284, 616, 617, 618, 619, 620, 621, 622, 623, 624, 625, 626, 627, 628, 629, 630, 631, 632, 633, 319, 634, 635, 636, 637, 638, 20, 195, 639, 640, 641, 642, 643, 644, 645, 646, 647, 648, 649, 650, 651, 652, 653, 654, 655, 656, 657, 658, 659, 40, 660, 73, 70, 74, 661, 532, 533, 534, 19, 535, 294, 196, 197, 198, 47, 199, 200, 662, 663, 664, 665, 939, 940, 941, 942, 943, 944, 945, 946, 947, 968, 969, 970, 971, 972, 973, 986, 987, 985, 988, 989, 976, 977, 978, 979, 980, 981, 982, 983, 984, 974, 975, 990, 991] (by decide +kernel) (by decide +kernel)
set_option maxRecDepth 20000 in
theorem gL_law_X11_count : GoodIn wsL_law (wsV RL 53 RX11 yX11_count wsX11_count) := goodIn_app (goodIn_of _ (by decide +kernel)) ggL_law_X11_count
set_option maxRecDepth 20000 in
theorem ggL_law_X12_count : GoodIn wsL_law wsX12_count := goodIn_r _ [669, 177, 414, 670, 354, 209, 671, 672, 673, 5, 674, 374, 375, 376, 675, 676, 677, 678, 460, 461, 462, 463, 385, 386, 387, 388, 464, 465, 466, 370, 371, 372, 373, 377, 378, 379, 380, 467, 468, 469, 470, 381, 382, 383, 384, 679, 680, 681, 682, 683, 684, 685, 686, 687, 688, 689, 690, 415, 416, 417, 418, 419, 184, 420, 421, 422, 423, 424, 425, 426, 427, 428, 429, 430, 431, 185, 691, 692, 693, 694, 186, 187, 188, 695, 696, 697, 698, 699, 700, 701, 702, 512, 513, 514, 515, 511, 516, 517, 518, 519, 182, 183, 520, 521, 522, 523, 524, 525, 526, 527, 703, 704, 705, 706, 707, 708, 709, 710, 711, 712, 713, 714, 715, 716, 717, 718, 719, 720, 721, 722, 723, 724, 725, 726, 727, 728, 729, 730, 731, 732, 733, 734, 735, 736, 737, 738, 189, 739, 740, 741, 742, 948, 949, 950, 951, 952, 953, 954, 955, 956, 957, 958, 959, 960, 961, 962, 963, 964, 965, 966, 967] (by decide +kernel) (by decide +kernel)
set_option maxRecDepth 20000 in
theorem gL_law_X12_count : GoodIn wsL_law (wsV RL 56 RX12 yX12_count wsX12_count) := goodIn_app (goodIn_of _ (by decide +kernel)) ggL_law_X12_count
set_option maxRecDepth 20000 in
theorem ggL_law_X11_word : GoodIn wsL_law wsX11_word := goodIn_r _ [746, 15, 25, 747, 748, 749, 2, 750, 447, 230, 751, 324, 325, 33, 326, 240, 553, 320, 321, 322, 76, 323, 650, 328, 149, 329, 330, 331, 332, 554, 555, 556, 37, 557, 82, 81, 558, 559, 560, 561, 562, 563, 564, 154, 155, 156, 752, 753, 754, 939, 940, 941, 942, 943, 944, 945, 946, 947, 968, 969, 970, 971, 972, 973, 986, 987, 988, 989] (by decide +kernel) (by decide +kernel)
set_option maxRecDepth 20000 in
theorem gL_law_X11_word : GoodIn wsL_law (wsV RL 57 RX11 yX11_word wsX11_word) := goodIn_app (goodIn_of _ (by decide +kernel)) ggL_law_X11_word
set_option maxRecDepth 20000 in
theorem ggL_law_X12_word : GoodIn wsL_law wsX12_word := goodIn_r _ [758, 177, 675, 676, 677, 5, 678, 460, 461, 462, 463, 385, 386, 387, 388, 464, 465, 466, 370, 371, 372, 373, 374, 375, 376, 377, 378, 379, 380, 467, 468, 469, 470, 381, 382, 383, 384, 222, 223, 224, 683, 684, 685, 686, 687, 688, 689, 690, 948, 949, 950, 951, 952, 953, 954, 955, 956, 957, 958, 959, 960, 961, 962, 963, 964, 965, 966, 967] (by decide +kernel) (by decide +kernel)
set_option maxRecDepth 20000 in
theorem gL_law_X12_word : GoodIn wsL_law (wsV RL 61 RX12 yX12_word wsX12_word) := goodIn_app (goodIn_of _ (by decide +kernel)) ggL_law_X12_word
set_option maxRecDepth 20000 in
theorem ggL_law_X11_answer : GoodIn wsL_law wsX11_answer := goodIn_r _ [762, 15, 25, 747, 748, 749, 2, 750, 447, 230, 550, 551, 552, 348, 266, 267, 33, 268, 240, 553, 320, 321, 322, 76, 323, 324, 325, 326, 554, 555, 556, 37, 557, 82, 81, 558, 328, 149, 329, 330, 331, 332, 559, 560, 561, 562, 563, 564, 154, 155, 156, 565, 566, 567, 568, 643, 644, 645, 646, 647, 648, 649, 939, 940, 941, 942, 943, 944, 945, 946, 947, 968, 969, 970, 971, 972, 973, 986, 987, 988, 989] (by decide +kernel) (by decide +kernel)
set_option maxRecDepth 20000 in
theorem gL_law_X11_answer : GoodIn wsL_law (wsV RL 62 RX11 yX11_answer wsX11_answer) := goodIn_app (goodIn_of _ (by decide +kernel)) ggL_law_X11_answer
set_option maxRecDepth 20000 in
theorem ggL_law_X12_answer : GoodIn wsL_law wsX12_answer := goodIn_r _ [766, 177, 675, 676, 677, 5, 678, 460, 461, 462, 463, 385, 386, 387, 388, 464, 465, 466, 370, 371, 372, 373, 374, 375, 376, 377, 378, 379, 380, 467, 468, 469, 470, 381, 382, 383, 384, 683, 684, 685, 686, 687, 688, 689, 690, 948, 949, 950, 951, 952, 953, 954, 955, 956, 957, 958, 959, 960, 961, 962, 963, 964, 965, 966, 967] (by decide +kernel) (by decide +kernel)
set_option maxRecDepth 20000 in
theorem gL_law_X12_answer : GoodIn wsL_law (wsV RL 66 RX12 yX12_answer wsX12_answer) := goodIn_app (goodIn_of _ (by decide +kernel)) ggL_law_X12_answer
set_option maxRecDepth 20000 in
theorem ggL_law_X11_turn : GoodIn wsL_law wsX11_turn := goodIn_r _ [770, 29, 549, 496, 497, 28, 498, 169, 318, 266, 267, 33, 268, 240, 771, 631, 632, 633, 319, 320, 321, 322, 76, 323, 324, 325, 326, 772, 773, 774, 775, 776, 500, 501, 502, 752, 753, 149, 754, 330, 331, 332, 939, 940, 941, 942, 943, 944, 945, 946, 947, 985, 986, 987] (by decide +kernel) (by decide +kernel)
set_option maxRecDepth 20000 in
theorem gL_law_X11_turn : GoodIn wsL_law (wsV RL 67 RX11 yX11_turn wsX11_turn) := goodIn_app (goodIn_of _ (by decide +kernel)) ggL_law_X11_turn
set_option maxRecDepth 20000 in
theorem ggL_law_X12_turn : GoodIn wsL_law wsX12_turn := goodIn_r _ [780, 511, 182, 183, 177, 512, 513, 514, 5, 515, 374, 375, 376, 516, 517, 518, 519, 520, 521, 522, 523, 524, 525, 526, 527, 222, 223, 224, 948, 949, 950, 951, 952, 953, 954, 955, 956, 957, 958, 959, 960, 961, 962, 963, 964, 965, 966, 967] (by decide +kernel) (by decide +kernel)
set_option maxRecDepth 20000 in
theorem gL_law_X12_turn : GoodIn wsL_law (wsV RL 71 RX12 yX12_turn wsX12_turn) := goodIn_app (goodIn_of _ (by decide +kernel)) ggL_law_X12_turn
set_option maxRecDepth 20000 in
theorem ggL_law_X11_run : GoodIn wsL_law wsX11_run := goodIn_r _ [784, 24, 29, 785, 589, 590, 23, 591, 110, 584, 585, 586, 587, 102, 588, 786, 787, 788, 789, 103, 596, 597, 598, 2, 599, 600, 601, 602, 603, 104, 604, 605, 606, 28, 607, 608, 609, 149, 610, 151, 152, 153, 157, 158, 159, 611, 612, 613, 614, 169, 615, 282, 283, 33, 284, 240, 76, 616, 621, 622, 623, 624, 625, 626, 627, 628, 629, 630, 631, 632, 633, 319, 320, 321, 322, 323, 324, 325, 326, 634, 566, 567, 568, 569, 570, 571, 572, 573, 574, 575, 790, 791, 792, 793, 100, 101, 794, 939, 940, 941, 942, 943, 944, 945, 946, 947, 976, 977, 978, 979, 980, 981, 982, 983, 984, 985, 986, 987] (by decide +kernel) (by decide +kernel)
set_option maxRecDepth 20000 in
theorem gL_law_X11_run : GoodIn wsL_law (wsV RL 72 RX11 yX11_run wsX11_run) := goodIn_app (goodIn_of _ (by decide +kernel)) ggL_law_X11_run
set_option maxRecDepth 20000 in
theorem ggL_law_X12_run : GoodIn wsL_law wsX12_run := goodIn_r _ [798, 670, 187, 188, 511, 177, 184, 186, 699, 700, 701, 5, 702, 512, 513, 514, 515, 374, 375, 376, 516, 517, 518, 519, 182, 183, 520, 521, 522, 523, 524, 525, 526, 527, 691, 692, 693, 694, 414, 185, 415, 416, 417, 418, 419, 420, 421, 422, 423, 424, 425, 426, 427, 428, 429, 430, 431, 222, 223, 224, 711, 712, 713, 714, 707, 708, 709, 710, 723, 724, 725, 726, 948, 949, 950, 951, 952, 953, 954, 955, 956, 957, 958, 959, 960, 961, 962, 963, 964, 965, 966, 967] (by decide +kernel) (by decide +kernel)
set_option maxRecDepth 20000 in
theorem gL_law_X12_run : GoodIn wsL_law (wsV RL 75 RX12 yX12_run wsX12_run) := goodIn_app (goodIn_of _ (by decide +kernel)) ggL_law_X12_run
set_option maxRecDepth 20000 in
theorem ggL_law_X11_of : GoodIn wsL_law wsX11_of := goodIn_r _ [802, 24, 785, 589, 590, 23, 591, 110, 621, 622, 623, 2, 624, 29, 600, 601, 602, 603, 104, 588, 584, 585, 586, 587, 102, 625, 626, 627, 28, 628, 629, 605, 606, 607, 608, 609, 149, 610, 151, 152, 153, 157, 158, 159, 611, 612, 613, 614, 169, 615, 282, 283, 33, 284, 240, 76, 630, 631, 632, 633, 319, 320, 321, 322, 323, 324, 325, 326, 634, 566, 567, 568, 643, 644, 645, 646, 647, 648, 649, 939, 940, 941, 942, 943, 944, 945, 946, 947, 976, 977, 978, 979, 980, 981, 982, 983, 984, 985, 986, 987] (by decide +kernel) (by decide +kernel)
set_option maxRecDepth 20000 in
theorem gL_law_X11_of : GoodIn wsL_law (wsV RL 76 RX11 yX11_of wsX11_of) := goodIn_app (goodIn_of _ (by decide +kernel)) ggL_law_X11_of
set_option maxRecDepth 20000 in
theorem ggL_law_X12_of : GoodIn wsL_law wsX12_of := goodIn_r _ [806, 670, 177, 699, 700, 701, 5, 702, 512, 513, 514, 515, 511, 374, 375, 376, 516, 517, 518, 519, 182, 183, 520, 521, 522, 523, 524, 525, 526, 527, 691, 692, 693, 694, 414, 185, 184, 186, 187, 188, 415, 416, 417, 418, 419, 420, 421, 422, 423, 424, 425, 426, 427, 428, 429, 430, 431, 222, 223, 224, 723, 724, 725, 726, 711, 712, 713, 714, 948, 949, 950, 951, 952, 953, 954, 955, 956, 957, 958, 959, 960, 961, 962, 963, 964, 965, 966, 967] (by decide +kernel) (by decide +kernel)
set_option maxRecDepth 20000 in
theorem gL_law_X12_of : GoodIn wsL_law (wsV RL 79 RX12 yX12_of wsX12_of) := goodIn_app (goodIn_of _ (by decide +kernel)) ggL_law_X12_of
set_option maxRecDepth 20000 in
theorem ggL_law_X11_shared : GoodIn wsL_law wsX11_shared := goodIn_r _ [810, 617, 618, 619, 2, 620, 24, 621, 622, 623, 624, 29, 600, 601, 602, 23, 603, 104, 588, 589, 590, 591, 110, 584, 585, 586, 587, 102, 625, 626, 627, 28, 628, 629, 605, 606, 607, 608, 609, 149, 610, 151, 152, 153, 157, 158, 159, 611, 612, 613, 614, 169, 615, 282, 283, 33, 284, 240, 76, 630, 631, 632, 633, 319, 320, 321, 322, 323, 324, 325, 326, 634, 566, 567, 568, 576, 577, 578, 579, 643, 644, 645, 646, 647, 648, 649, 939, 940, 941, 942, 943, 944, 945, 946, 947, 976, 977, 978, 979, 980, 981, 982, 983, 984, 985, 986, 987] (by decide +kernel) (by decide +kernel)
set_option maxRecDepth 20000 in
theorem gL_law_X11_shared : GoodIn wsL_law (wsV RL 80 RX11 yX11_shared wsX11_shared) := goodIn_app (goodIn_of _ (by decide +kernel)) ggL_law_X11_shared
set_option maxRecDepth 20000 in
theorem ggL_law_X12_shared : GoodIn wsL_law wsX12_shared := goodIn_r _ [814, 177, 699, 700, 701, 5, 702, 512, 513, 514, 515, 511, 374, 375, 376, 516, 517, 518, 519, 182, 183, 520, 521, 522, 523, 524, 525, 526, 527, 691, 692, 693, 694, 670, 414, 185, 184, 186, 187, 188, 415, 416, 417, 418, 419, 420, 421, 422, 423, 424, 425, 426, 427, 428, 429, 430, 431, 719, 720, 721, 722, 723, 724, 725, 726, 711, 712, 713, 714, 948, 949, 950, 951, 952, 953, 954, 955, 956, 957, 958, 959, 960, 961, 962, 963, 964, 965, 966, 967] (by decide +kernel) (by decide +kernel)
set_option maxRecDepth 20000 in
theorem gL_law_X12_shared : GoodIn wsL_law (wsV RL 83 RX12 yX12_shared wsX12_shared) := goodIn_app (goodIn_of _ (by decide +kernel)) ggL_law_X12_shared
set_option maxRecDepth 20000 in
theorem ggL_law_X11_alone : GoodIn wsL_law wsX11_alone := goodIn_r _ [818, 15, 230, 29, 751, 324, 325, 33, 326, 240, 553, 320, 321, 322, 76, 323, 819, 820, 821, 28, 822, 327, 328, 149, 329, 330, 331, 332, 333, 334, 335, 336, 337, 338, 148, 150, 151, 152, 153, 154, 155, 156, 157, 158, 159, 339, 340, 341, 342, 69, 70, 71, 343, 73, 74, 823, 824, 626, 627, 628, 629, 605, 606, 607, 608, 609, 610, 611, 612, 613, 614, 169, 615, 282, 283, 284, 630, 631, 632, 633, 319, 634, 566, 567, 568, 825, 570, 571, 572, 573, 574, 575, 826, 827, 828, 829, 939, 940, 941, 942, 943, 944, 945, 946, 947, 968, 969, 970, 971, 972, 973, 986, 987, 985] (by decide +kernel) (by decide +kernel)
set_option maxRecDepth 20000 in
theorem gL_law_X11_alone : GoodIn wsL_law (wsV RL 84 RX11 yX11_alone wsX11_alone) := goodIn_app (goodIn_of _ (by decide +kernel)) ggL_law_X11_alone
set_option maxRecDepth 20000 in
theorem ggL_law_X12_alone : GoodIn wsL_law wsX12_alone := goodIn_r _ [833, 177, 222, 223, 5, 224, 512, 513, 514, 515, 511, 374, 375, 376, 516, 517, 518, 519, 182, 183, 520, 521, 522, 523, 524, 525, 526, 527, 834, 835, 836, 837, 838, 839, 840, 841, 948, 949, 950, 951, 952, 953, 954, 955, 956, 957, 958, 959, 960, 961, 962, 963, 964, 965, 966, 967] (by decide +kernel) (by decide +kernel)
set_option maxRecDepth 20000 in
theorem gL_law_X12_alone : GoodIn wsL_law (wsV RL 87 RX12 yX12_alone wsX12_alone) := goodIn_app (goodIn_of _ (by decide +kernel)) ggL_law_X12_alone
set_option maxRecDepth 20000 in
theorem ggL_law_X11_near : GoodIn wsL_law wsX11_near := goodIn_r _ [845, 15, 230, 751, 324, 325, 33, 326, 240, 553, 320, 321, 322, 76, 323, 846, 847, 848, 2, 849, 348, 266, 267, 268, 850, 851, 149, 852, 330, 331, 332, 337, 328, 329, 565, 566, 567, 568, 569, 570, 571, 572, 573, 574, 575, 643, 644, 645, 646, 647, 648, 649, 939, 940, 941, 942, 943, 944, 945, 946, 947, 968, 969, 970, 971, 972, 973, 986, 987] (by decide +kernel) (by decide +kernel)
set_option maxRecDepth 20000 in
theorem gL_law_X11_near : GoodIn wsL_law (wsV RL 88 RX11 yX11_near wsX11_near) := goodIn_app (goodIn_of _ (by decide +kernel)) ggL_law_X11_near
set_option maxRecDepth 20000 in
theorem ggL_law_X12_near : GoodIn wsL_law wsX12_near := goodIn_r _ [856, 177, 222, 223, 5, 224, 374, 375, 376, 857, 858, 859, 860, 948, 949, 950, 951, 952, 953, 954, 955, 956, 957, 958, 959, 960, 961, 962, 963, 964, 965, 966, 967] (by decide +kernel) (by decide +kernel)
set_option maxRecDepth 20000 in
theorem gL_law_X12_near : GoodIn wsL_law (wsV RL 91 RX12 yX12_near wsX12_near) := goodIn_app (goodIn_of _ (by decide +kernel)) ggL_law_X12_near
set_option maxRecDepth 20000 in
theorem ggL_law_X11_tally : GoodIn wsL_law wsX11_tally := goodIn_r _ [864, 865, 257, 2, 258, 866, 867, 868, 869, 15, 230, 348, 266, 267, 33, 268, 240, 553, 320, 321, 322, 76, 323, 324, 325, 326, 870, 563, 149, 564, 154, 155, 156, 330, 331, 332, 871, 872, 873, 874, 650, 328, 329, 939, 940, 941, 942, 943, 944, 945, 946, 947, 968, 969, 970, 971, 972, 973, 986, 987] (by decide +kernel) (by decide +kernel)
set_option maxRecDepth 20000 in
theorem gL_law_X11_tally : GoodIn wsL_law (wsV RL 92 RX11 yX11_tally wsX11_tally) := goodIn_app (goodIn_of _ (by decide +kernel)) ggL_law_X11_tally
set_option maxRecDepth 20000 in
theorem ggL_law_X12_tally : GoodIn wsL_law wsX12_tally := goodIn_r _ [878, 177, 355, 356, 5, 357, 222, 223, 224, 374, 375, 376, 879, 880, 881, 882, 948, 949, 950, 951, 952, 953, 954, 955, 956, 957, 958, 959, 960, 961, 962, 963, 964, 965, 966, 967] (by decide +kernel) (by decide +kernel)
set_option maxRecDepth 20000 in
theorem gL_law_X12_tally : GoodIn wsL_law (wsV RL 95 RX12 yX12_tally wsX12_tally) := goodIn_app (goodIn_of _ (by decide +kernel)) ggL_law_X12_tally
set_option maxRecDepth 20000 in
theorem ggL_law_X11_places : GoodIn wsL_law wsX11_places := goodIn_r _ [886, 15, 230, 751, 324, 325, 33, 326, 240, 865, 257, 2, 258, 553, 320, 321, 322, 76, 323, 870, 563, 149, 564, 154, 155, 156, 330, 331, 332, 939, 940, 941, 942, 943, 944, 945, 946, 947, 968, 969, 970, 971, 972, 973, 986, 987] (by decide +kernel) (by decide +kernel)
set_option maxRecDepth 20000 in
theorem gL_law_X11_places : GoodIn wsL_law (wsV RL 96 RX11 yX11_places wsX11_places) := goodIn_app (goodIn_of _ (by decide +kernel)) ggL_law_X11_places
set_option maxRecDepth 20000 in
theorem ggL_law_X12_places : GoodIn wsL_law wsX12_places := goodIn_r _ [890, 177, 222, 223, 5, 224, 355, 356, 357, 374, 375, 376, 879, 880, 881, 882, 948, 949, 950, 951, 952, 953, 954, 955, 956, 957, 958, 959, 960, 961, 962, 963, 964, 965, 966, 967] (by decide +kernel) (by decide +kernel)
set_option maxRecDepth 20000 in
theorem gL_law_X12_places : GoodIn wsL_law (wsV RL 99 RX12 yX12_places wsX12_places) := goodIn_app (goodIn_of _ (by decide +kernel)) ggL_law_X12_places
set_option maxRecDepth 20000 in
theorem ggL_law_X11_instead : GoodIn wsL_law wsX11_instead := goodIn_r _ [894, 15, 25, 38, 230, 895, 124, 125, 37, 126, 82, 896, 397, 398, 257, 2, 258, 897, 898, 899, 900, 81, 901, 278, 279, 280, 902, 903, 904, 905, 123, 550, 551, 552, 348, 266, 267, 33, 268, 240, 553, 320, 321, 322, 76, 323, 324, 325, 326, 554, 555, 556, 557, 558, 328, 149, 329, 330, 331, 332, 559, 560, 561, 562, 563, 564, 154, 155, 156, 565, 566, 567, 568, 569, 570, 571, 572, 573, 574, 575, 939, 940, 941, 942, 943, 944, 945, 946, 947, 968, 969, 970, 971, 972, 973, 988, 989, 986, 987] (by decide +kernel) (by decide +kernel)
set_option maxRecDepth 20000 in
theorem gL_law_X11_instead : GoodIn wsL_law (wsV RL 100 RX11 yX11_instead wsX11_instead) := goodIn_app (goodIn_of _ (by decide +kernel)) ggL_law_X11_instead
set_option maxRecDepth 20000 in
theorem ggL_law_X12_instead : GoodIn wsL_law wsX12_instead := goodIn_r _ [909, 177, 222, 223, 5, 224, 355, 356, 357, 679, 680, 681, 682, 374, 375, 376, 683, 684, 685, 686, 687, 688, 689, 690, 948, 949, 950, 951, 952, 953, 954, 955, 956, 957, 958, 959, 960, 961, 962, 963, 964, 965, 966, 967] (by decide +kernel) (by decide +kernel)
set_option maxRecDepth 20000 in
theorem gL_law_X12_instead : GoodIn wsL_law (wsV RL 103 RX12 yX12_instead wsX12_instead) := goodIn_app (goodIn_of _ (by decide +kernel)) ggL_law_X12_instead
set_option maxRecDepth 20000 in
theorem ggL_law_X11_image : GoodIn wsL_law wsX11_image := goodIn_r _ [913, 16, 12, 13, 14, 15, 41, 42, 43, 44, 10, 11, 45, 46, 47, 48, 49, 32, 33, 50, 51, 52, 36, 37, 53, 54, 55, 56, 57, 58, 59, 60, 61, 62, 63, 64, 65, 66, 67, 68, 69, 70, 71, 72, 73, 74, 75, 76, 77, 78, 79, 80, 39, 81, 82, 83, 84, 85, 86, 87, 88, 914, 915, 916, 917, 918, 919, 307, 920, 921, 922, 923, 200, 924, 278, 279, 280, 308, 300, 301, 302, 240, 277, 925, 898, 899, 900, 901, 926, 242, 243, 244, 939, 940, 941, 942, 943, 944, 945, 946, 947, 968, 969, 970, 971, 972, 973, 990, 991, 986, 987, 988, 989, 992, 993] (by decide +kernel) (by decide +kernel)
set_option maxRecDepth 20000 in
theorem gL_law_X11_image : GoodIn wsL_law (wsV RL 104 RX11 yX11_image wsX11_image) := goodIn_app (goodIn_of _ (by decide +kernel)) ggL_law_X11_image
set_option maxRecDepth 20000 in
theorem ggL_law_X12_image : GoodIn wsL_law wsX12_image := goodIn_r _ [930, 177, 178, 209, 353, 181, 180, 222, 223, 5, 224, 385, 386, 387, 388, 948, 949, 950, 951, 952, 953, 954, 955, 956, 957, 958, 959, 960, 961, 962, 963, 964, 965, 966, 967] (by decide +kernel) (by decide +kernel)
set_option maxRecDepth 20000 in
theorem gL_law_X12_image : GoodIn wsL_law (wsV RL 108 RX12 yX12_image wsX12_image) := goodIn_app (goodIn_of _ (by decide +kernel)) ggL_law_X12_image
set_option maxRecDepth 20000 in
theorem ggL_law_X11_again : GoodIn wsL_law wsX11_again := goodIn_r _ [934, 16, 15, 20, 24, 25, 914, 915, 916, 14, 917, 48, 50, 51, 53, 57, 918, 919, 307, 920, 921, 922, 47, 923, 200, 63, 924, 278, 279, 280, 308, 300, 301, 33, 302, 240, 76, 68, 69, 70, 71, 277, 925, 898, 899, 37, 900, 82, 81, 901, 926, 242, 243, 56, 244, 87, 88, 290, 291, 292, 19, 293, 294, 105, 106, 107, 23, 108, 109, 110, 111, 112, 113, 114, 115, 116, 117, 118, 119, 120, 121, 122, 123, 124, 125, 126, 127, 128, 129, 130, 131, 132, 133, 134, 135, 136, 137, 138, 139, 140, 141, 142, 100, 104, 102, 143, 144, 145, 146, 101, 103, 147, 148, 149, 150, 151, 152, 153, 154, 155, 156, 157, 158, 159, 160, 161, 162, 163, 309, 310, 311, 2, 312, 29, 30, 230, 313, 314, 315, 28, 316, 169, 317, 237, 238, 239, 318, 266, 267, 268, 319, 320, 321, 322, 323, 324, 325, 326, 327, 328, 329, 330, 331, 332, 333, 334, 335, 336, 337, 338, 339, 340, 341, 342, 343, 73, 74, 344, 345, 346, 347, 274, 275, 276, 281, 282, 283, 284, 285, 286, 287, 288, 939, 940, 941, 942, 943, 944, 945, 946, 947, 968, 969, 970, 971, 972, 973, 992, 993, 990, 991, 986, 987, 988, 989, 974, 975, 976, 977, 978, 979, 980, 981, 982, 983, 984, 985] (by decide +kernel) (by decide +kernel)
set_option maxRecDepth 20000 in
theorem gL_law_X11_again : GoodIn wsL_law (wsV RL 109 RX11 yX11_again wsX11_again) := goodIn_app (goodIn_of _ (by decide +kernel)) ggL_law_X11_again
set_option maxRecDepth 20000 in
theorem ggL_law_X12_again : GoodIn wsL_law wsX12_again := goodIn_r _ [938, 180, 178, 177, 209, 353, 181, 354, 222, 223, 5, 224, 385, 386, 387, 388, 948, 949, 950, 951, 952, 953, 954, 955, 956, 957, 958, 959, 960, 961, 962, 963, 964, 965, 966, 967] (by decide +kernel) (by decide +kernel)
set_option maxRecDepth 20000 in
theorem gL_law_X12_again : GoodIn wsL_law (wsV RL 112 RX12 yX12_again wsX12_again) := goodIn_app (goodIn_of _ (by decide +kernel)) ggL_law_X12_again
