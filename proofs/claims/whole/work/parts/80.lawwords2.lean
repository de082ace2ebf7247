set_option maxRecDepth 20000 in
theorem gL_law_X9_far : GoodIn wsL_law (wsV RL 43 RX9 yX9_far wsX9_far) := goodIn_app (goodIn_of _ (by decide +kernel)) ggL_law_X9_far
set_option maxRecDepth 20000 in
theorem ggL_law_X8_lifts : GoodIn wsL_law wsX8_lifts := goodIn_r _ [528, 24, 42, 529, 530, 531, 40, 532, 65, 533, 534, 535, 23, 536, 74, 70, 537, 538, 539, 73, 540, 78, 302, 301, 541, 209, 210, 211, 542, 543, 544, 545, 291, 284, 285, 286, 546, 272, 273, 274, 1071, 1072, 1073, 1074, 1075, 1076, 1077, 1078, 1079, 1143, 1144, 1145, 1155, 1156, 1157, 1158] (by decide +kernel) (by decide +kernel)
set_option maxRecDepth 20000 in
theorem gL_law_X8_lifts : GoodIn wsL_law (wsV RL 44 RX8 yX8_lifts wsX8_lifts) := goodIn_app (goodIn_of _ (by decide +kernel)) ggL_law_X8_lifts
set_option maxRecDepth 20000 in
theorem ggL_law_X9_lifts : GoodIn wsL_law wsX9_lifts := goodIn_r _ [550, 119, 149, 150, 5, 151, 551, 552, 553, 554, 121, 555, 320, 1080, 1081, 1082, 1083, 1084, 1085, 1086, 1087, 1088, 1089, 1090, 1091, 1092, 1093, 1094, 1095, 1096, 1097, 1098, 1099, 1100, 1101, 1102, 1103, 1104, 1105, 1106, 1107, 1108, 1109, 1110, 1111, 1112, 1113, 1114, 1115, 1116, 1117, 1118, 1119, 1120, 1121, 1122] (by decide +kernel) (by decide +kernel)
set_option maxRecDepth 20000 in
theorem gL_law_X9_lifts : GoodIn wsL_law (wsV RL 47 RX9 yX9_lifts wsX9_lifts) := goodIn_app (goodIn_of _ (by decide +kernel)) ggL_law_X9_lifts
set_option maxRecDepth 20000 in
theorem ggL_law_X8_tilts : GoodIn wsL_law wsX8_tilts := goodIn_r _ [559, 24, 42, 452, 560, 561, 562, 40, 563, 65, 533, 534, 535, 23, 536, 74, 70, 537, 538, 539, 73, 540, 78, 302, 301, 541, 209, 210, 211, 542, 543, 544, 545, 291, 284, 285, 286, 564, 276, 277, 278, 1071, 1072, 1073, 1074, 1075, 1076, 1077, 1078, 1079, 1143, 1144, 1145, 1155, 1156, 1157, 1158] (by decide +kernel) (by decide +kernel)
set_option maxRecDepth 20000 in
theorem gL_law_X8_tilts : GoodIn wsL_law (wsV RL 48 RX8 yX8_tilts wsX8_tilts) := goodIn_app (goodIn_of _ (by decide +kernel)) ggL_law_X8_tilts
set_option maxRecDepth 20000 in
theorem ggL_law_X9_tilts : GoodIn wsL_law wsX9_tilts := goodIn_r _ [568, 119, 484, 149, 150, 5, 151, 551, 552, 553, 554, 121, 555, 320, 1080, 1081, 1082, 1083, 1084, 1085, 1086, 1087, 1088, 1089, 1090, 1091, 1092, 1093, 1094, 1095, 1096, 1097, 1098, 1099, 1100, 1101, 1102, 1103, 1104, 1105, 1106, 1107, 1108, 1109, 1110, 1111, 1112, 1113, 1114, 1115, 1116, 1117, 1118, 1119, 1120, 1121, 1122] (by decide +kernel) (by decide +kernel)
set_option maxRecDepth 20000 in
theorem gL_law_X9_tilts : GoodIn wsL_law (wsV RL 51 RX9 yX9_tilts wsX9_tilts) := goodIn_app (goodIn_of _ (by decide +kernel)) ggL_law_X9_tilts
set_option maxRecDepth 20000 in
theorem ggL_law_X8_cuts : GoodIn wsL_law wsX8_cuts := goodIn_r _ [572, 24, 42, 454, 455, 456, 2, 457, 19, 458, 479, 407, 408, 40, 409, 65, 533, 534, 535, 23, 536, 74, 70, 537, 538, 539, 73, 540, 78, 302, 301, 541, 209, 210, 211, 542, 543, 544, 545, 291, 284, 285, 286, 573, 574, 575, 576, 577, 578, 579, 580, 581, 582, 583, 584, 585, 586, 587, 18, 588, 183, 473, 396, 397, 398, 184, 399, 400, 401, 402, 403, 404, 405, 406, 410, 411, 412, 413, 414, 415, 416, 417, 247, 248, 249, 250, 61, 589, 590, 591, 592, 593, 594, 595, 1071, 1072, 1073, 1074, 1075, 1076, 1077, 1078, 1079, 1143, 1144, 1145, 1132, 1133, 1134, 1135, 1136, 1137, 1138, 1139, 1140, 1141, 1142, 1155, 1156, 1157, 1158] (by decide +kernel) (by decide +kernel)
set_option maxRecDepth 20000 in
theorem gL_law_X8_cuts : GoodIn wsL_law (wsV RL 52 RX8 yX8_cuts wsX8_cuts) := goodIn_app (goodIn_of _ (by decide +kernel)) ggL_law_X8_cuts
set_option maxRecDepth 20000 in
theorem ggL_law_X9_cuts : GoodIn wsL_law wsX9_cuts := goodIn_r _ [599, 119, 485, 486, 487, 5, 488, 315, 149, 150, 151, 434, 435, 436, 551, 552, 553, 554, 121, 555, 320, 600, 601, 602, 603, 313, 430, 431, 432, 433, 437, 438, 439, 440, 118, 441, 442, 443, 604, 605, 606, 607, 608, 609, 1080, 1081, 1082, 1083, 1084, 1085, 1086, 1087, 1088, 1089, 1090, 1091, 1092, 1093, 1094, 1095, 1096, 1097, 1098, 1099, 1100, 1101, 1102, 1103, 1104, 1105, 1106, 1107, 1108, 1109, 1110, 1111, 1112, 1113, 1114, 1115, 1116, 1117, 1118, 1119, 1120, 1121, 1122] (by decide +kernel) (by decide +kernel)
set_option maxRecDepth 20000 in
theorem gL_law_X9_cuts : GoodIn wsL_law (wsV RL 55 RX9 yX9_cuts wsX9_cuts) := goodIn_app (goodIn_of _ (by decide +kernel)) ggL_law_X9_cuts
set_option maxRecDepth 20000 in
theorem ggL_law_X8_ties : GoodIn wsL_law wsX8_ties := goodIn_r _ [613, 24, 42, 454, 455, 456, 2, 457, 19, 458, 390, 391, 392, 393, 394, 479, 407, 408, 40, 409, 65, 533, 534, 535, 23, 536, 74, 70, 537, 538, 539, 73, 540, 78, 302, 301, 541, 209, 210, 211, 542, 543, 544, 545, 291, 284, 285, 286, 573, 574, 575, 576, 577, 578, 579, 580, 614, 256, 257, 258, 615, 264, 265, 266, 581, 582, 583, 584, 585, 586, 587, 18, 588, 183, 473, 396, 397, 398, 184, 399, 400, 401, 402, 403, 404, 405, 406, 410, 411, 412, 413, 414, 415, 416, 417, 247, 248, 249, 250, 61, 589, 590, 591, 592, 593, 594, 595, 1071, 1072, 1073, 1074, 1075, 1076, 1077, 1078, 1079, 1143, 1144, 1145, 1132, 1133, 1134, 1135, 1136, 1137, 1138, 1139, 1140, 1141, 1142, 1155, 1156, 1157, 1158] (by decide +kernel) (by decide +kernel)
set_option maxRecDepth 20000 in
theorem gL_law_X8_ties : GoodIn wsL_law (wsV RL 56 RX8 yX8_ties wsX8_ties) := goodIn_app (goodIn_of _ (by decide +kernel)) ggL_law_X8_ties
set_option maxRecDepth 20000 in
theorem ggL_law_X9_ties : GoodIn wsL_law wsX9_ties := goodIn_r _ [619, 119, 485, 486, 487, 5, 488, 315, 149, 150, 151, 426, 427, 428, 429, 313, 434, 435, 436, 551, 552, 553, 554, 121, 555, 320, 600, 601, 602, 603, 430, 431, 432, 433, 437, 438, 439, 440, 118, 441, 442, 443, 604, 605, 606, 607, 608, 609, 1080, 1081, 1082, 1083, 1084, 1085, 1086, 1087, 1088, 1089, 1090, 1091, 1092, 1093, 1094, 1095, 1096, 1097, 1098, 1099, 1100, 1101, 1102, 1103, 1104, 1105, 1106, 1107, 1108, 1109, 1110, 1111, 1112, 1113, 1114, 1115, 1116, 1117, 1118, 1119, 1120, 1121, 1122] (by decide +kernel) (by decide +kernel)
set_option maxRecDepth 20000 in
theorem gL_law_X9_ties : GoodIn wsL_law (wsV RL 60 RX9 yX9_ties wsX9_ties) := goodIn_app (goodIn_of _ (by decide +kernel)) ggL_law_X9_ties
set_option maxRecDepth 20000 in
theorem ggL_law_X8_hangs : GoodIn wsL_law wsX8_hangs := goodIn_r _ [623, 24, 42, 454, 455, 456, 2, 457, 19, 458, 460, 461, 462, 40, 463, 65, 533, 534, 535, 23, 536, 74, 70, 537, 538, 539, 73, 540, 78, 302, 301, 541, 209, 210, 211, 542, 543, 544, 545, 291, 284, 285, 286, 624, 260, 261, 262, 1071, 1072, 1073, 1074, 1075, 1076, 1077, 1078, 1079, 1143, 1144, 1145, 1132, 1133, 1134, 1135, 1136, 1137, 1138, 1139, 1140, 1141, 1142, 1155, 1156, 1157, 1158] (by decide +kernel) (by decide +kernel)
set_option maxRecDepth 20000 in
theorem gL_law_X8_hangs : GoodIn wsL_law (wsV RL 61 RX8 yX8_hangs wsX8_hangs) := goodIn_app (goodIn_of _ (by decide +kernel)) ggL_law_X8_hangs
set_option maxRecDepth 20000 in
theorem ggL_law_X9_hangs : GoodIn wsL_law wsX9_hangs := goodIn_r _ [628, 119, 485, 486, 487, 5, 488, 315, 149, 150, 151, 551, 552, 553, 554, 121, 555, 320, 1080, 1081, 1082, 1083, 1084, 1085, 1086, 1087, 1088, 1089, 1090, 1091, 1092, 1093, 1094, 1095, 1096, 1097, 1098, 1099, 1100, 1101, 1102, 1103, 1104, 1105, 1106, 1107, 1108, 1109, 1110, 1111, 1112, 1113, 1114, 1115, 1116, 1117, 1118, 1119, 1120, 1121, 1122] (by decide +kernel) (by decide +kernel)
set_option maxRecDepth 20000 in
theorem gL_law_X9_hangs : GoodIn wsL_law (wsV RL 64 RX9 yX9_hangs wsX9_hangs) := goodIn_app (goodIn_of _ (by decide +kernel)) ggL_law_X9_hangs
set_option maxRecDepth 20000 in
theorem ggL_law_X8_holds : GoodIn wsL_law wsX8_holds := goodIn_r _ [632, 24, 19, 42, 533, 534, 535, 23, 536, 74, 70, 537, 538, 539, 73, 540, 78, 302, 301, 541, 209, 210, 211, 542, 543, 544, 40, 545, 65, 291, 284, 285, 286, 633, 634, 635, 18, 636, 184, 56, 637, 475, 476, 477, 183, 55, 478, 419, 420, 421, 402, 403, 404, 405, 406, 407, 408, 409, 410, 411, 412, 413, 414, 415, 416, 417, 247, 248, 249, 250, 61, 573, 574, 575, 576, 577, 578, 579, 580, 1071, 1072, 1073, 1074, 1075, 1076, 1077, 1078, 1079, 1143, 1144, 1145, 1156, 1157, 1158, 1155, 1132, 1133, 1134, 1135, 1136, 1137, 1138, 1139, 1140, 1141, 1142] (by decide +kernel) (by decide +kernel)
set_option maxRecDepth 20000 in
theorem gL_law_X8_holds : GoodIn wsL_law (wsV RL 65 RX8 yX8_holds wsX8_holds) := goodIn_app (goodIn_of _ (by decide +kernel)) ggL_law_X8_holds
set_option maxRecDepth 20000 in
theorem ggL_law_X9_holds : GoodIn wsL_law wsX9_holds := goodIn_r _ [641, 119, 551, 552, 553, 5, 554, 121, 555, 320, 642, 643, 644, 645, 315, 115, 434, 435, 436, 493, 494, 495, 496, 313, 114, 444, 445, 446, 447, 430, 431, 432, 433, 437, 438, 439, 440, 118, 441, 442, 443, 1080, 1081, 1082, 1083, 1084, 1085, 1086, 1087, 1088, 1089, 1090, 1091, 1092, 1093, 1094, 1095, 1096, 1097, 1098, 1099, 1100, 1101, 1102, 1103, 1104, 1105, 1106, 1107, 1108, 1109, 1110, 1111, 1112, 1113, 1114, 1115, 1116, 1117, 1118, 1119, 1120, 1121, 1122] (by decide +kernel) (by decide +kernel)
set_option maxRecDepth 20000 in
theorem gL_law_X9_holds : GoodIn wsL_law (wsV RL 68 RX9 yX9_holds wsX9_holds) := goodIn_app (goodIn_of _ (by decide +kernel)) ggL_law_X9_holds
set_option maxRecDepth 20000 in
theorem ggL_law_X8_beats : GoodIn wsL_law wsX8_beats := goodIn_r _ [649, 24, 19, 42, 503, 504, 505, 2, 506, 507, 533, 534, 535, 23, 536, 74, 70, 537, 538, 539, 73, 540, 78, 302, 301, 541, 209, 210, 211, 542, 543, 544, 40, 545, 65, 291, 284, 285, 286, 650, 651, 652, 18, 653, 57, 58, 654, 272, 273, 274, 655, 276, 277, 278, 581, 582, 583, 584, 585, 586, 587, 588, 183, 473, 396, 397, 398, 184, 399, 400, 401, 402, 403, 404, 405, 406, 407, 408, 409, 410, 411, 412, 413, 414, 415, 416, 417, 247, 248, 249, 250, 61, 589, 590, 591, 592, 593, 594, 595, 1071, 1072, 1073, 1074, 1075, 1076, 1077, 1078, 1079, 1143, 1144, 1145, 1132, 1133, 1134, 1135, 1136, 1137, 1138, 1139, 1140, 1141, 1142, 1156, 1157, 1158, 1155] (by decide +kernel) (by decide +kernel)
set_option maxRecDepth 20000 in
theorem gL_law_X8_beats : GoodIn wsL_law (wsV RL 69 RX8 yX8_beats wsX8_beats) := goodIn_app (goodIn_of _ (by decide +kernel)) ggL_law_X8_beats
set_option maxRecDepth 20000 in
theorem ggL_law_X9_beats : GoodIn wsL_law wsX9_beats := goodIn_r _ [659, 119, 116, 117, 512, 513, 514, 5, 515, 317, 149, 150, 151, 551, 552, 553, 554, 121, 555, 320, 600, 601, 602, 603, 313, 430, 431, 432, 433, 315, 434, 435, 436, 437, 438, 439, 440, 118, 441, 442, 443, 604, 605, 606, 607, 608, 609, 1080, 1081, 1082, 1083, 1084, 1085, 1086, 1087, 1088, 1089, 1090, 1091, 1092, 1093, 1094, 1095, 1096, 1097, 1098, 1099, 1100, 1101, 1102, 1103, 1104, 1105, 1106, 1107, 1108, 1109, 1110, 1111, 1112, 1113, 1114, 1115, 1116, 1117, 1118, 1119, 1120, 1121, 1122] (by decide +kernel) (by decide +kernel)
set_option maxRecDepth 20000 in
theorem gL_law_X9_beats : GoodIn wsL_law (wsV RL 72 RX9 yX9_beats wsX9_beats) := goodIn_app (goodIn_of _ (by decide +kernel)) ggL_law_X9_beats
set_option maxRecDepth 20000 in
theorem ggL_law_X8_undo : GoodIn wsL_law wsX8_undo := goodIn_r _ [663, 24, 664, 42, 665, 666, 667, 73, 668, 301, 302, 78, 669, 670, 671, 40, 672, 65, 291, 284, 285, 286, 673, 674, 675, 676, 1071, 1072, 1073, 1074, 1075, 1076, 1077, 1078, 1079, 1143, 1144, 1145, 1156, 1157, 1158, 1155] (by decide +kernel) (by decide +kernel)
set_option maxRecDepth 20000 in
theorem gL_law_X8_undo : GoodIn wsL_law (wsV RL 73 RX8 yX8_undo wsX8_undo) := goodIn_app (goodIn_of _ (by decide +kernel)) ggL_law_X8_undo
set_option maxRecDepth 20000 in
theorem ggL_law_X9_undo : GoodIn wsL_law wsX9_undo := goodIn_r _ [680, 320, 555, 119, 121, 1080, 1081, 1082, 1083, 1084, 1085, 1086, 1087, 1088, 1089, 1090, 1091, 1092, 1093, 1094, 1095, 1096, 1097, 1098, 1099, 1100, 1101, 1102, 1103, 1104, 1105, 1106, 1107, 1108, 1109, 1110, 1111, 1112, 1113, 1114, 1115, 1116, 1117, 1118, 1119, 1120, 1121, 1122] (by decide +kernel) (by decide +kernel)
set_option maxRecDepth 20000 in
theorem gL_law_X9_undo : GoodIn wsL_law (wsV RL 76 RX9 yX9_undo wsX9_undo) := goodIn_app (goodIn_of _ (by decide +kernel)) ggL_law_X9_undo
set_option maxRecDepth 20000 in
theorem ggL_law_X8_now : GoodIn wsL_law wsX8_now := goodIn_r _ [684, 24, 42, 19, 452, 529, 530, 531, 40, 532, 65, 560, 561, 562, 563, 573, 574, 575, 576, 585, 586, 587, 18, 588, 183, 473, 396, 397, 398, 184, 399, 400, 210, 401, 402, 403, 404, 405, 406, 407, 408, 409, 410, 411, 412, 413, 414, 415, 416, 417, 247, 248, 249, 250, 61, 685, 686, 687, 688, 689, 470, 471, 472, 690, 691, 692, 693, 694, 695, 696, 2, 697, 458, 41, 698, 288, 289, 290, 291, 284, 285, 286, 589, 590, 591, 592, 593, 594, 595, 577, 578, 579, 580, 699, 700, 701, 702, 703, 704, 705, 706, 707, 461, 462, 463, 1071, 1072, 1073, 1074, 1075, 1076, 1077, 1078, 1079, 1143, 1144, 1145, 1155, 1132, 1133, 1134, 1135, 1136, 1137, 1138, 1139, 1140, 1141, 1142] (by decide +kernel) (by decide +kernel)
