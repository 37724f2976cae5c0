set_option maxRecDepth 20000 in
theorem ggL_law_X7_row : GoodIn wsL_law wsX7_row := goodIn_r _ [319, 19, 121, 122, 2, 123, 320, 321, 322, 18, 323, 305, 294, 295, 296, 297, 298, 42, 299, 203, 204, 300, 167, 168, 324, 325, 326, 327, 56, 973, 974, 975, 976, 977, 978, 979, 980, 981, 982, 983, 984, 985, 1031, 1032, 1033, 1034, 1035] (by decide +kernel) (by decide +kernel)
set_option maxRecDepth 20000 in
theorem gL_law_X7_row : GoodIn wsL_law (wsV RL 56 RX7 yX7_row wsX7_row) := goodIn_app (goodIn_of _ (by decide +kernel)) ggL_law_X7_row
set_option maxRecDepth 20000 in
theorem ggL_law_X8_row : GoodIn wsL_law wsX8_row := goodIn_r _ [331, 101, 143, 144, 5, 145, 332, 333, 334, 335, 310, 311, 312, 313, 314, 315, 92, 986, 987, 988, 989, 990, 991, 992, 993, 994, 995, 996, 997, 998, 999, 1000, 1001, 1002, 1003, 1004, 1005, 1006, 1007, 1008, 1009, 1010, 1011, 1012, 1013, 1014, 1015, 1016, 1017, 1018] (by decide +kernel) (by decide +kernel)
set_option maxRecDepth 20000 in
theorem gL_law_X8_row : GoodIn wsL_law (wsV RL 59 RX8 yX8_row wsX8_row) := goodIn_app (goodIn_of _ (by decide +kernel)) ggL_law_X8_row
set_option maxRecDepth 20000 in
theorem ggL_law_X7_tear : GoodIn wsL_law wsX7_tear := goodIn_r _ [339, 19, 320, 321, 322, 18, 323, 305, 122, 2, 123, 294, 295, 296, 297, 298, 42, 299, 203, 204, 300, 167, 168, 340, 341, 342, 343, 56, 324, 325, 326, 327, 973, 974, 975, 976, 977, 978, 979, 980, 981, 982, 983, 984, 985, 1031, 1032, 1033, 1034, 1035] (by decide +kernel) (by decide +kernel)
set_option maxRecDepth 20000 in
theorem gL_law_X7_tear : GoodIn wsL_law (wsV RL 60 RX7 yX7_tear wsX7_tear) := goodIn_app (goodIn_of _ (by decide +kernel)) ggL_law_X7_tear
set_option maxRecDepth 20000 in
theorem ggL_law_X8_tear : GoodIn wsL_law wsX8_tear := goodIn_r _ [347, 101, 332, 333, 334, 5, 335, 310, 143, 144, 145, 311, 312, 313, 314, 315, 92, 986, 987, 988, 989, 990, 991, 992, 993, 994, 995, 996, 997, 998, 999, 1000, 1001, 1002, 1003, 1004, 1005, 1006, 1007, 1008, 1009, 1010, 1011, 1012, 1013, 1014, 1015, 1016, 1017, 1018] (by decide +kernel) (by decide +kernel)
set_option maxRecDepth 20000 in
theorem gL_law_X8_tear : GoodIn wsL_law (wsV RL 63 RX8 yX8_tear wsX8_tear) := goodIn_app (goodIn_of _ (by decide +kernel)) ggL_law_X8_tear
set_option maxRecDepth 20000 in
theorem ggL_law_X7_copy : GoodIn wsL_law wsX7_copy := goodIn_r _ [351, 19, 352, 353, 354, 18, 355, 305, 122, 2, 123, 294, 295, 296, 297, 298, 42, 299, 203, 204, 300, 167, 168, 356, 357, 358, 359, 57, 56, 360, 341, 342, 343, 973, 974, 975, 976, 977, 978, 979, 980, 981, 982, 983, 984, 985, 1031, 1032, 1033, 1034, 1035] (by decide +kernel) (by decide +kernel)
set_option maxRecDepth 20000 in
theorem gL_law_X7_copy : GoodIn wsL_law (wsV RL 64 RX7 yX7_copy wsX7_copy) := goodIn_app (goodIn_of _ (by decide +kernel)) ggL_law_X7_copy
set_option maxRecDepth 20000 in
theorem ggL_law_X8_copy : GoodIn wsL_law wsX8_copy := goodIn_r _ [364, 310, 102, 101, 311, 312, 313, 5, 314, 315, 92, 986, 987, 988, 989, 990, 991, 992, 993, 994, 995, 996, 997, 998, 999, 1000, 1001, 1002, 1003, 1004, 1005, 1006, 1007, 1008, 1009, 1010, 1011, 1012, 1013, 1014, 1015, 1016, 1017, 1018] (by decide +kernel) (by decide +kernel)
set_option maxRecDepth 20000 in
theorem gL_law_X8_copy : GoodIn wsL_law (wsV RL 67 RX8 yX8_copy wsX8_copy) := goodIn_app (goodIn_of _ (by decide +kernel)) ggL_law_X8_copy
set_option maxRecDepth 20000 in
theorem ggL_law_X7_told : GoodIn wsL_law wsX7_told := goodIn_r _ [368, 19, 320, 321, 322, 18, 323, 305, 122, 2, 123, 294, 295, 296, 297, 298, 42, 299, 203, 204, 300, 167, 168, 340, 341, 342, 343, 56, 973, 974, 975, 976, 977, 978, 979, 980, 981, 982, 983, 984, 985, 1031, 1032, 1033, 1034, 1035] (by decide +kernel) (by decide +kernel)
set_option maxRecDepth 20000 in
theorem gL_law_X7_told : GoodIn wsL_law (wsV RL 68 RX7 yX7_told wsX7_told) := goodIn_app (goodIn_of _ (by decide +kernel)) ggL_law_X7_told
set_option maxRecDepth 20000 in
theorem ggL_law_X8_told : GoodIn wsL_law wsX8_told := goodIn_r _ [372, 101, 332, 333, 334, 5, 335, 310, 143, 144, 145, 311, 312, 313, 314, 315, 92, 986, 987, 988, 989, 990, 991, 992, 993, 994, 995, 996, 997, 998, 999, 1000, 1001, 1002, 1003, 1004, 1005, 1006, 1007, 1008, 1009, 1010, 1011, 1012, 1013, 1014, 1015, 1016, 1017, 1018] (by decide +kernel) (by decide +kernel)
set_option maxRecDepth 20000 in
theorem gL_law_X8_told : GoodIn wsL_law (wsV RL 71 RX8 yX8_told wsX8_told) := goodIn_app (goodIn_of _ (by decide +kernel)) ggL_law_X8_told
set_option maxRecDepth 20000 in
theorem ggL_law_X7_hold : GoodIn wsL_law wsX7_hold := goodIn_r _ [376, 19, 377, 378, 121, 122, 2, 123, 973, 974, 975, 976, 977, 978, 979, 980, 981, 982, 983, 984, 985, 1031, 1032, 1033, 1034, 1035] (by decide +kernel) (by decide +kernel)
set_option maxRecDepth 20000 in
theorem gL_law_X7_hold : GoodIn wsL_law (wsV RL 72 RX7 yX7_hold wsX7_hold) := goodIn_app (goodIn_of _ (by decide +kernel)) ggL_law_X7_hold
set_option maxRecDepth 20000 in
theorem ggL_law_X8_hold : GoodIn wsL_law wsX8_hold := goodIn_r _ [382, 383, 384, 143, 144, 5, 145, 986, 987, 988, 989, 990, 991, 992, 993, 994, 995, 996, 997, 998, 999, 1000, 1001, 1002, 1003, 1004, 1005, 1006, 1007, 1008, 1009, 1010, 1011, 1012, 1013, 1014, 1015, 1016, 1017, 1018] (by decide +kernel) (by decide +kernel)
set_option maxRecDepth 20000 in
theorem gL_law_X8_hold : GoodIn wsL_law (wsV RL 75 RX8 yX8_hold wsX8_hold) := goodIn_app (goodIn_of _ (by decide +kernel)) ggL_law_X8_hold
set_option maxRecDepth 20000 in
theorem ggL_law_X7_load : GoodIn wsL_law wsX7_load := goodIn_r _ [388, 19, 389, 390, 391, 392, 18, 393, 305, 360, 341, 342, 343, 56, 203, 2, 204, 394, 153, 154, 155, 156, 157, 158, 395, 396, 397, 398, 399, 400, 401, 402, 403, 404, 405, 406, 165, 407, 408, 409, 410, 411, 412, 413, 414, 415, 416, 321, 322, 323, 122, 123, 973, 974, 975, 976, 977, 978, 979, 980, 981, 982, 983, 984, 985, 1031, 1032, 1033, 1034, 1035] (by decide +kernel) (by decide +kernel)
set_option maxRecDepth 20000 in
theorem gL_law_X7_load : GoodIn wsL_law (wsV RL 76 RX7 yX7_load wsX7_load) := goodIn_app (goodIn_of _ (by decide +kernel)) ggL_law_X7_load
set_option maxRecDepth 20000 in
theorem ggL_law_X8_load : GoodIn wsL_law wsX8_load := goodIn_r _ [420, 310, 421, 422, 423, 5, 424, 425, 426, 427, 428, 101, 429, 430, 431, 432, 433, 434, 435, 436, 383, 384, 986, 987, 988, 989, 990, 991, 992, 993, 994, 995, 996, 997, 998, 999, 1000, 1001, 1002, 1003, 1004, 1005, 1006, 1007, 1008, 1009, 1010, 1011, 1012, 1013, 1014, 1015, 1016, 1017, 1018] (by decide +kernel) (by decide +kernel)
set_option maxRecDepth 20000 in
theorem gL_law_X8_load : GoodIn wsL_law (wsV RL 79 RX8 yX8_load wsX8_load) := goodIn_app (goodIn_of _ (by decide +kernel)) ggL_law_X8_load
set_option maxRecDepth 20000 in
theorem ggL_law_X7_free : GoodIn wsL_law wsX7_free := goodIn_r _ [440, 27, 441, 442, 443, 2, 444, 15, 445, 446, 447, 14, 448, 46, 47, 122, 123, 121, 449, 450, 451, 452, 19, 23, 453, 395, 396, 397, 18, 398, 305, 360, 341, 342, 343, 56, 203, 204, 399, 391, 392, 393, 394, 153, 154, 155, 156, 157, 158, 454, 455, 456, 22, 457, 63, 458, 459, 460, 133, 134, 461, 413, 414, 415, 416, 321, 322, 323, 462, 463, 464, 465, 466, 467, 468, 469, 61, 62, 470, 471, 472, 473, 167, 168, 474, 401, 402, 403, 404, 405, 406, 165, 407, 408, 409, 410, 411, 412, 475, 476, 477, 478, 479, 480, 481, 482, 483, 484, 26, 485, 486, 487, 488, 489, 67, 490, 491, 492, 493, 48, 200, 201, 202, 494, 495, 496, 497, 69, 498, 499, 500, 501, 502, 503, 504, 505, 506, 507, 508, 509, 510, 511, 512, 513, 514, 973, 974, 975, 976, 977, 978, 979, 980, 981, 982, 983, 984, 985, 1019, 1020, 1021, 1022, 1023, 1024, 1025, 1026, 1027, 1028, 1029, 1030, 1031, 1032, 1033, 1034, 1035, 1036, 1037, 1038, 1039, 1040, 1041, 1042, 1043] (by decide +kernel) (by decide +kernel)
set_option maxRecDepth 20000 in
theorem gL_law_X7_free : GoodIn wsL_law (wsV RL 80 RX7 yX7_free wsX7_free) := goodIn_app (goodIn_of _ (by decide +kernel)) ggL_law_X7_free
set_option maxRecDepth 20000 in
theorem ggL_law_X8_free : GoodIn wsL_law wsX8_free := goodIn_r _ [518, 519, 520, 521, 5, 522, 523, 524, 525, 526, 93, 94, 143, 144, 145, 527, 528, 529, 530, 531, 429, 430, 431, 432, 310, 101, 421, 422, 423, 424, 425, 426, 427, 428, 532, 533, 534, 535, 536, 105, 104, 537, 538, 539, 540, 103, 541, 542, 543, 544, 95, 141, 545, 217, 218, 219, 220, 433, 434, 435, 436, 383, 384, 546, 547, 548, 549, 550, 551, 552, 553, 554, 555, 556, 557, 558, 559, 560, 561, 562, 563, 564, 565, 566, 567, 568, 569, 570, 571, 572, 573, 986, 987, 988, 989, 990, 991, 992, 993, 994, 995, 996, 997, 998, 999, 1000, 1001, 1002, 1003, 1004, 1005, 1006, 1007, 1008, 1009, 1010, 1011, 1012, 1013, 1014, 1015, 1016, 1017, 1018] (by decide +kernel) (by decide +kernel)
set_option maxRecDepth 20000 in
theorem gL_law_X8_free : GoodIn wsL_law (wsV RL 83 RX8 yX8_free wsX8_free) := goodIn_app (goodIn_of _ (by decide +kernel)) ggL_law_X8_free
set_option maxRecDepth 20000 in
theorem ggL_law_X7_turning : GoodIn wsL_law wsX7_turning := goodIn_r _ [577, 15, 27, 445, 446, 447, 14, 448, 46, 47, 122, 2, 123, 449, 450, 451, 452, 19, 23, 453, 395, 396, 397, 18, 398, 305, 360, 341, 342, 343, 56, 203, 204, 399, 391, 392, 393, 394, 153, 154, 155, 156, 157, 158, 454, 455, 456, 22, 457, 63, 458, 459, 460, 133, 134, 461, 413, 414, 415, 416, 321, 322, 323, 462, 463, 464, 465, 466, 467, 468, 469, 61, 62, 470, 471, 472, 473, 167, 168, 474, 401, 402, 403, 404, 405, 406, 165, 407, 408, 409, 410, 411, 412, 475, 476, 477, 478, 479, 480, 481, 482, 483, 484, 26, 485, 486, 487, 488, 489, 67, 490, 491, 492, 493, 48, 200, 201, 202, 494, 495, 496, 497, 69, 498, 499, 500, 501, 502, 503, 504, 505, 506, 507, 508, 509, 510, 511, 512, 513, 514, 973, 974, 975, 976, 977, 978, 979, 980, 981, 982, 983, 984, 985, 1019, 1020, 1021, 1022, 1023, 1024, 1025, 1026, 1027, 1028, 1029, 1030, 1031, 1032, 1033, 1034, 1035, 1036, 1037, 1038, 1039, 1040, 1041, 1042, 1043] (by decide +kernel) (by decide +kernel)
set_option maxRecDepth 20000 in
theorem gL_law_X7_turning : GoodIn wsL_law (wsV RL 84 RX7 yX7_turning wsX7_turning) := goodIn_app (goodIn_of _ (by decide +kernel)) ggL_law_X7_turning
set_option maxRecDepth 20000 in
theorem ggL_law_X8_turning : GoodIn wsL_law wsX8_turning := goodIn_r _ [581, 523, 524, 525, 5, 526, 93, 94, 143, 144, 145, 527, 528, 529, 530, 531, 429, 430, 431, 432, 310, 101, 421, 422, 423, 424, 425, 426, 427, 428, 532, 533, 534, 535, 536, 105, 104, 537, 538, 539, 540, 103, 541, 542, 543, 544, 95, 141, 545, 217, 218, 219, 220, 433, 434, 435, 436, 383, 384, 546, 547, 548, 549, 550, 551, 552, 553, 554, 555, 556, 557, 558, 559, 560, 561, 562, 563, 564, 565, 566, 567, 568, 569, 582, 583, 584, 585, 986, 987, 988, 989, 990, 991, 992, 993, 994, 995, 996, 997, 998, 999, 1000, 1001, 1002, 1003, 1004, 1005, 1006, 1007, 1008, 1009, 1010, 1011, 1012, 1013, 1014, 1015, 1016, 1017, 1018] (by decide +kernel) (by decide +kernel)
set_option maxRecDepth 20000 in
theorem gL_law_X8_turning : GoodIn wsL_law (wsV RL 87 RX8 yX8_turning wsX8_turning) := goodIn_app (goodIn_of _ (by decide +kernel)) ggL_law_X8_turning
set_option maxRecDepth 20000 in
theorem ggL_law_X7_kind : GoodIn wsL_law wsX7_kind := goodIn_r _ [589, 27, 441, 442, 443, 2, 444, 15, 445, 446, 447, 14, 448, 46, 47, 122, 123, 121, 449, 450, 451, 452, 19, 23, 453, 395, 396, 397, 18, 398, 305, 360, 341, 342, 343, 56, 203, 204, 399, 391, 392, 393, 394, 153, 154, 155, 156, 157, 158, 454, 455, 456, 22, 457, 63, 458, 459, 460, 133, 134, 461, 413, 414, 415, 416, 321, 322, 323, 462, 463, 464, 465, 466, 467, 468, 469, 61, 62, 470, 471, 472, 473, 167, 168, 474, 401, 402, 403, 404, 405, 406, 165, 407, 408, 409, 410, 411, 412, 475, 476, 477, 478, 479, 480, 481, 482, 483, 484, 26, 485, 486, 487, 488, 489, 67, 490, 491, 492, 493, 48, 200, 201, 202, 494, 495, 496, 497, 69, 498, 499, 500, 501, 502, 503, 504, 505, 506, 507, 508, 509, 510, 590, 591, 592, 593, 594, 512, 513, 514, 595, 596, 597, 598, 599, 600, 601, 602, 603, 604, 605, 606, 607, 608, 609, 610, 973, 974, 975, 976, 977, 978, 979, 980, 981, 982, 983, 984, 985, 1019, 1020, 1021, 1022, 1023, 1024, 1025, 1026, 1027, 1028, 1029, 1030, 1031, 1032, 1033, 1034, 1035, 1036, 1037, 1038, 1039, 1040, 1041, 1042, 1043] (by decide +kernel) (by decide +kernel)
set_option maxRecDepth 20000 in
theorem gL_law_X7_kind : GoodIn wsL_law (wsV RL 88 RX7 yX7_kind wsX7_kind) := goodIn_app (goodIn_of _ (by decide +kernel)) ggL_law_X7_kind
set_option maxRecDepth 20000 in
theorem ggL_law_X8_kind : GoodIn wsL_law wsX8_kind := goodIn_r _ [614, 519, 520, 521, 5, 522, 523, 524, 525, 526, 93, 94, 143, 144, 145, 527, 528, 529, 530, 531, 429, 430, 431, 432, 310, 101, 421, 422, 423, 424, 425, 426, 427, 428, 532, 533, 534, 535, 536, 105, 104, 537, 538, 539, 540, 103, 541, 542, 543, 544, 95, 141, 545, 217, 218, 219, 220, 433, 434, 435, 436, 383, 384, 546, 547, 548, 549, 550, 551, 552, 553, 554, 555, 556, 557, 558, 559, 560, 561, 562, 563, 564, 565, 566, 567, 568, 569, 615, 616, 617, 618, 570, 571, 572, 573, 582, 583, 584, 585, 619, 620, 621, 622, 623, 624, 625, 626, 627, 628, 629, 630, 986, 987, 988, 989, 990, 991, 992, 993, 994, 995, 996, 997, 998, 999, 1000, 1001, 1002, 1003, 1004, 1005, 1006, 1007, 1008, 1009, 1010, 1011, 1012, 1013, 1014, 1015, 1016, 1017, 1018] (by decide +kernel) (by decide +kernel)
set_option maxRecDepth 20000 in
theorem gL_law_X8_kind : GoodIn wsL_law (wsV RL 91 RX8 yX8_kind wsX8_kind) := goodIn_app (goodIn_of _ (by decide +kernel)) ggL_law_X8_kind
set_option maxRecDepth 20000 in
theorem ggL_law_X7_steps : GoodIn wsL_law wsX7_steps := goodIn_r _ [634, 27, 441, 442, 443, 2, 444, 15, 445, 446, 447, 14, 448, 46, 47, 122, 123, 121, 449, 450, 451, 452, 19, 23, 453, 395, 396, 397, 18, 398, 305, 360, 341, 342, 343, 56, 203, 204, 399, 391, 392, 393, 394, 153, 154, 155, 156, 157, 158, 454, 455, 456, 22, 457, 63, 458, 459, 460, 133, 134, 461, 413, 414, 415, 416, 321, 322, 323, 462, 463, 464, 465, 466, 467, 468, 469, 61, 62, 470, 471, 472, 473, 167, 168, 474, 401, 402, 403, 404, 405, 406, 165, 407, 408, 409, 410, 411, 412, 475, 476, 477, 478, 479, 480, 481, 482, 483, 484, 26, 485, 486, 487, 488, 489, 67, 490, 491, 492, 493, 48, 200, 201, 202, 494, 495, 496, 497, 69, 498, 499, 500, 501, 502, 503, 504, 505, 506, 507, 508, 509, 510, 590, 591, 592, 593, 594, 512, 513, 514, 595, 596, 597, 598, 599, 600, 601, 602, 603, 604, 605, 606, 607, 608, 609, 610, 635, 636, 637, 294, 295, 296, 297, 298, 42, 299, 300, 511, 638, 639, 973, 974, 975, 976, 977, 978, 979, 980, 981, 982, 983, 984, 985, 1019, 1020, 1021, 1022, 1023, 1024, 1025, 1026, 1027, 1028, 1029, 1030, 1031, 1032, 1033, 1034, 1035, 1036, 1037, 1038, 1039, 1040, 1041, 1042, 1043] (by decide +kernel) (by decide +kernel)
set_option maxRecDepth 20000 in
theorem gL_law_X7_steps : GoodIn wsL_law (wsV RL 92 RX7 yX7_steps wsX7_steps) := goodIn_app (goodIn_of _ (by decide +kernel)) ggL_law_X7_steps
set_option maxRecDepth 20000 in
theorem ggL_law_X8_steps : GoodIn wsL_law wsX8_steps := goodIn_r _ [643, 519, 520, 521, 5, 522, 523, 524, 525, 526, 93, 94, 143, 144, 145, 527, 528, 529, 530, 531, 429, 430, 431, 432, 310, 101, 421, 422, 423, 424, 425, 426, 427, 428, 532, 533, 534, 535, 536, 105, 104, 537, 538, 539, 540, 103, 541, 542, 543, 544, 95, 141, 545, 217, 218, 219, 220, 433, 434, 435, 436, 383, 384, 546, 547, 548, 549, 550, 551, 552, 553, 554, 555, 556, 557, 558, 559, 560, 561, 562, 563, 564, 565, 566, 567, 568, 569, 615, 616, 617, 618, 570, 571, 572, 573, 582, 583, 584, 585, 619, 620, 621, 622, 623, 624, 625, 626, 627, 628, 629, 630, 311, 312, 313, 314, 315, 92, 986, 987, 988, 989, 990, 991, 992, 993, 994, 995, 996, 997, 998, 999, 1000, 1001, 1002, 1003, 1004, 1005, 1006, 1007, 1008, 1009, 1010, 1011, 1012, 1013, 1014, 1015, 1016, 1017, 1018] (by decide +kernel) (by decide +kernel)
set_option maxRecDepth 20000 in
theorem gL_law_X8_steps : GoodIn wsL_law (wsV RL 96 RX8 yX8_steps wsX8_steps) := goodIn_app (goodIn_of _ (by decide +kernel)) ggL_law_X8_steps
