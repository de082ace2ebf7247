set_option maxRecDepth 20000 in
theorem gL_law_X8_now : GoodIn wsL_law (wsV RL 77 RX8 yX8_now wsX8_now) := goodIn_app (goodIn_of _ (by decide +kernel)) ggL_law_X8_now
set_option maxRecDepth 20000 in
theorem ggL_law_X9_now : GoodIn wsL_law wsX9_now := goodIn_r _ [711, 119, 484, 600, 601, 602, 5, 603, 313, 430, 431, 432, 433, 315, 434, 435, 436, 437, 438, 439, 440, 118, 441, 442, 443, 604, 605, 606, 712, 713, 714, 715, 489, 490, 491, 492, 716, 717, 718, 719, 720, 721, 722, 723, 120, 724, 725, 726, 727, 728, 729, 730, 731, 607, 608, 609, 732, 733, 734, 735, 736, 737, 738, 739, 1080, 1081, 1082, 1083, 1084, 1085, 1086, 1087, 1088, 1089, 1090, 1091, 1092, 1093, 1094, 1095, 1096, 1097, 1098, 1099, 1100, 1101, 1102, 1103, 1104, 1105, 1106, 1107, 1108, 1109, 1110, 1111, 1112, 1113, 1114, 1115, 1116, 1117, 1118, 1119, 1120, 1121, 1122] (by decide +kernel) (by decide +kernel)
set_option maxRecDepth 20000 in
theorem gL_law_X9_now : GoodIn wsL_law (wsV RL 80 RX9 yX9_now wsX9_now) := goodIn_app (goodIn_of _ (by decide +kernel)) ggL_law_X9_now
set_option maxRecDepth 20000 in
theorem ggL_law_X8_reach : GoodIn wsL_law wsX8_reach := goodIn_r _ [743, 19, 394, 452, 744, 745, 746, 2, 747, 41, 24, 42, 748, 749, 210, 750, 698, 288, 289, 40, 290, 65, 291, 284, 285, 286, 529, 530, 531, 532, 560, 561, 562, 563, 546, 272, 273, 274, 564, 276, 277, 278, 751, 752, 753, 18, 754, 183, 473, 396, 397, 398, 184, 399, 400, 401, 402, 403, 404, 405, 406, 407, 408, 409, 410, 411, 412, 413, 414, 415, 416, 417, 247, 248, 249, 250, 61, 1071, 1072, 1073, 1074, 1075, 1076, 1077, 1078, 1079, 1132, 1133, 1134, 1135, 1136, 1137, 1138, 1139, 1140, 1141, 1142, 1143, 1144, 1145, 1155] (by decide +kernel) (by decide +kernel)
set_option maxRecDepth 20000 in
theorem gL_law_X8_reach : GoodIn wsL_law (wsV RL 81 RX8 yX8_reach wsX8_reach) := goodIn_app (goodIn_of _ (by decide +kernel)) ggL_law_X8_reach
set_option maxRecDepth 20000 in
theorem ggL_law_X9_reach : GoodIn wsL_law wsX9_reach := goodIn_r _ [758, 313, 484, 759, 119, 120, 149, 150, 5, 151, 728, 729, 730, 731, 760, 761, 762, 600, 601, 602, 603, 430, 431, 432, 433, 315, 434, 435, 436, 437, 438, 439, 440, 118, 441, 442, 443, 604, 605, 606, 1080, 1081, 1082, 1083, 1084, 1085, 1086, 1087, 1088, 1089, 1090, 1091, 1092, 1093, 1094, 1095, 1096, 1097, 1098, 1099, 1100, 1101, 1102, 1103, 1104, 1105, 1106, 1107, 1108, 1109, 1110, 1111, 1112, 1113, 1114, 1115, 1116, 1117, 1118, 1119, 1120, 1121, 1122] (by decide +kernel) (by decide +kernel)
set_option maxRecDepth 20000 in
theorem gL_law_X9_reach : GoodIn wsL_law (wsV RL 84 RX9 yX9_reach wsX9_reach) := goodIn_app (goodIn_of _ (by decide +kernel)) ggL_law_X9_reach
set_option maxRecDepth 20000 in
theorem ggL_law_X8_fell : GoodIn wsL_law wsX8_fell := goodIn_r _ [766, 19, 24, 42, 390, 391, 392, 2, 393, 394, 767, 768, 769, 18, 770, 184, 402, 403, 404, 405, 406, 407, 408, 40, 409, 65, 410, 411, 412, 413, 414, 415, 416, 417, 247, 248, 249, 250, 61, 1071, 1072, 1073, 1074, 1075, 1076, 1077, 1078, 1079, 1143, 1144, 1145, 1132, 1133, 1134, 1135, 1136, 1137, 1138, 1139, 1140, 1141, 1142, 1155] (by decide +kernel) (by decide +kernel)
set_option maxRecDepth 20000 in
theorem gL_law_X8_fell : GoodIn wsL_law (wsV RL 85 RX8 yX8_fell wsX8_fell) := goodIn_app (goodIn_of _ (by decide +kernel)) ggL_law_X8_fell
set_option maxRecDepth 20000 in
theorem ggL_law_X9_fell : GoodIn wsL_law wsX9_fell := goodIn_r _ [774, 119, 120, 426, 427, 428, 5, 429, 313, 149, 150, 151, 724, 725, 726, 727, 315, 728, 729, 730, 731, 607, 608, 609, 430, 431, 432, 433, 434, 435, 436, 437, 438, 439, 440, 118, 441, 442, 443, 1080, 1081, 1082, 1083, 1084, 1085, 1086, 1087, 1088, 1089, 1090, 1091, 1092, 1093, 1094, 1095, 1096, 1097, 1098, 1099, 1100, 1101, 1102, 1103, 1104, 1105, 1106, 1107, 1108, 1109, 1110, 1111, 1112, 1113, 1114, 1115, 1116, 1117, 1118, 1119, 1120, 1121, 1122] (by decide +kernel) (by decide +kernel)
set_option maxRecDepth 20000 in
theorem gL_law_X9_fell : GoodIn wsL_law (wsV RL 88 RX9 yX9_fell wsX9_fell) := goodIn_app (goodIn_of _ (by decide +kernel)) ggL_law_X9_fell
set_option maxRecDepth 20000 in
theorem ggL_law_X8_path : GoodIn wsL_law wsX8_path := goodIn_r _ [778, 390, 391, 392, 2, 393, 19, 394, 503, 504, 505, 506, 507, 779, 780, 781, 782, 41, 24, 42, 698, 288, 289, 40, 290, 65, 291, 284, 285, 286, 650, 651, 652, 18, 653, 57, 58, 654, 272, 273, 274, 655, 276, 277, 278, 395, 396, 397, 398, 184, 399, 400, 210, 401, 402, 403, 404, 405, 406, 407, 408, 409, 410, 411, 412, 413, 414, 415, 416, 417, 247, 248, 249, 250, 61, 1071, 1072, 1073, 1074, 1075, 1076, 1077, 1078, 1079, 1132, 1133, 1134, 1135, 1136, 1137, 1138, 1139, 1140, 1141, 1142, 1143, 1144, 1145, 1155] (by decide +kernel) (by decide +kernel)
set_option maxRecDepth 20000 in
theorem gL_law_X8_path : GoodIn wsL_law (wsV RL 89 RX8 yX8_path wsX8_path) := goodIn_app (goodIn_of _ (by decide +kernel)) ggL_law_X8_path
set_option maxRecDepth 20000 in
theorem ggL_law_X9_path : GoodIn wsL_law wsX9_path := goodIn_r _ [786, 426, 427, 428, 5, 429, 313, 149, 150, 151, 512, 513, 514, 515, 317, 787, 788, 789, 790, 120, 116, 117, 728, 729, 730, 731, 119, 430, 431, 432, 433, 315, 434, 435, 436, 437, 438, 439, 440, 118, 441, 442, 443, 1080, 1081, 1082, 1083, 1084, 1085, 1086, 1087, 1088, 1089, 1090, 1091, 1092, 1093, 1094, 1095, 1096, 1097, 1098, 1099, 1100, 1101, 1102, 1103, 1104, 1105, 1106, 1107, 1108, 1109, 1110, 1111, 1112, 1113, 1114, 1115, 1116, 1117, 1118, 1119, 1120, 1121, 1122] (by decide +kernel) (by decide +kernel)
set_option maxRecDepth 20000 in
theorem gL_law_X9_path : GoodIn wsL_law (wsV RL 92 RX9 yX9_path wsX9_path) := goodIn_app (goodIn_of _ (by decide +kernel)) ggL_law_X9_path
set_option maxRecDepth 20000 in
theorem ggL_law_X8_nods : GoodIn wsL_law wsX8_nods := goodIn_r _ [794, 19, 507, 390, 391, 392, 2, 393, 394, 779, 780, 781, 782, 41, 24, 42, 698, 288, 289, 40, 290, 65, 291, 284, 285, 286, 650, 651, 652, 18, 653, 57, 58, 654, 272, 273, 274, 655, 276, 277, 278, 395, 396, 397, 398, 184, 399, 400, 210, 401, 402, 403, 404, 405, 406, 407, 408, 409, 410, 411, 412, 413, 414, 415, 416, 417, 247, 248, 249, 250, 61, 1071, 1072, 1073, 1074, 1075, 1076, 1077, 1078, 1079, 1132, 1133, 1134, 1135, 1136, 1137, 1138, 1139, 1140, 1141, 1142, 1143, 1144, 1145, 1155] (by decide +kernel) (by decide +kernel)
set_option maxRecDepth 20000 in
theorem gL_law_X8_nods : GoodIn wsL_law (wsV RL 93 RX8 yX8_nods wsX8_nods) := goodIn_app (goodIn_of _ (by decide +kernel)) ggL_law_X8_nods
set_option maxRecDepth 20000 in
theorem ggL_law_X9_nods : GoodIn wsL_law wsX9_nods := goodIn_r _ [798, 317, 426, 427, 428, 5, 429, 313, 149, 150, 151, 787, 788, 789, 790, 120, 116, 117, 728, 729, 730, 731, 119, 430, 431, 432, 433, 315, 434, 435, 436, 437, 438, 439, 440, 118, 441, 442, 443, 1080, 1081, 1082, 1083, 1084, 1085, 1086, 1087, 1088, 1089, 1090, 1091, 1092, 1093, 1094, 1095, 1096, 1097, 1098, 1099, 1100, 1101, 1102, 1103, 1104, 1105, 1106, 1107, 1108, 1109, 1110, 1111, 1112, 1113, 1114, 1115, 1116, 1117, 1118, 1119, 1120, 1121, 1122] (by decide +kernel) (by decide +kernel)
set_option maxRecDepth 20000 in
theorem gL_law_X9_nods : GoodIn wsL_law (wsV RL 96 RX9 yX9_nods wsX9_nods) := goodIn_app (goodIn_of _ (by decide +kernel)) ggL_law_X9_nods
set_option maxRecDepth 20000 in
theorem ggL_law_X8_play : GoodIn wsL_law wsX8_play := goodIn_r _ [802, 19, 507, 33, 24, 42, 803, 804, 805, 32, 806, 807, 808, 91, 809, 810, 811, 812, 813, 814, 90, 815, 816, 817, 818, 819, 820, 821, 822, 823, 824, 825, 826, 749, 210, 750, 827, 530, 531, 40, 532, 65, 828, 561, 562, 563, 829, 830, 831, 832, 833, 834, 835, 836, 1071, 1072, 1073, 1074, 1075, 1076, 1077, 1078, 1079, 1132, 1133, 1134, 1135, 1136, 1137, 1138, 1139, 1140, 1141, 1142, 1143, 1144, 1145, 1151, 1152, 1153, 1155] (by decide +kernel) (by decide +kernel)
set_option maxRecDepth 20000 in
theorem gL_law_X8_play : GoodIn wsL_law (wsV RL 97 RX8 yX8_play wsX8_play) := goodIn_app (goodIn_of _ (by decide +kernel)) ggL_law_X8_play
set_option maxRecDepth 20000 in
theorem ggL_law_X9_play : GoodIn wsL_law wsX9_play := goodIn_r _ [840, 317, 122, 149, 150, 5, 151, 841, 842, 843, 844, 759, 434, 435, 436, 845, 846, 847, 848, 119, 116, 117, 760, 761, 762, 1080, 1081, 1082, 1083, 1084, 1085, 1086, 1087, 1088, 1089, 1090, 1091, 1092, 1093, 1094, 1095, 1096, 1097, 1098, 1099, 1100, 1101, 1102, 1103, 1104, 1105, 1106, 1107, 1108, 1109, 1110, 1111, 1112, 1113, 1114, 1115, 1116, 1117, 1118, 1119, 1120, 1121, 1122] (by decide +kernel) (by decide +kernel)
set_option maxRecDepth 20000 in
theorem gL_law_X9_play : GoodIn wsL_law (wsV RL 100 RX9 yX9_play wsX9_play) := goodIn_app (goodIn_of _ (by decide +kernel)) ggL_law_X9_play
set_option maxRecDepth 20000 in
theorem ggL_law_X8_odds : GoodIn wsL_law wsX8_odds := goodIn_r _ [852, 19, 24, 42, 390, 391, 392, 2, 393, 394, 767, 768, 769, 18, 770, 184, 402, 403, 404, 405, 406, 407, 408, 40, 409, 65, 410, 411, 412, 413, 414, 415, 416, 417, 247, 248, 249, 250, 61, 589, 590, 591, 592, 593, 594, 595, 853, 854, 855, 856, 857, 858, 1071, 1072, 1073, 1074, 1075, 1076, 1077, 1078, 1079, 1143, 1144, 1145, 1132, 1133, 1134, 1135, 1136, 1137, 1138, 1139, 1140, 1141, 1142, 1155] (by decide +kernel) (by decide +kernel)
set_option maxRecDepth 20000 in
theorem gL_law_X8_odds : GoodIn wsL_law (wsV RL 101 RX8 yX8_odds wsX8_odds) := goodIn_app (goodIn_of _ (by decide +kernel)) ggL_law_X8_odds
set_option maxRecDepth 20000 in
theorem ggL_law_X9_odds : GoodIn wsL_law wsX9_odds := goodIn_r _ [862, 119, 315, 120, 426, 427, 428, 5, 429, 313, 149, 150, 151, 724, 725, 726, 727, 434, 435, 436, 728, 729, 730, 731, 430, 431, 432, 433, 437, 438, 439, 440, 118, 441, 442, 443, 863, 864, 865, 1080, 1081, 1082, 1083, 1084, 1085, 1086, 1087, 1088, 1089, 1090, 1091, 1092, 1093, 1094, 1095, 1096, 1097, 1098, 1099, 1100, 1101, 1102, 1103, 1104, 1105, 1106, 1107, 1108, 1109, 1110, 1111, 1112, 1113, 1114, 1115, 1116, 1117, 1118, 1119, 1120, 1121, 1122] (by decide +kernel) (by decide +kernel)
set_option maxRecDepth 20000 in
theorem gL_law_X9_odds : GoodIn wsL_law (wsV RL 104 RX9 yX9_odds wsX9_odds) := goodIn_app (goodIn_of _ (by decide +kernel)) ggL_law_X9_odds
set_option maxRecDepth 20000 in
theorem ggL_law_X8_saw : GoodIn wsL_law wsX8_saw := goodIn_r _ [869, 29, 390, 391, 392, 2, 393, 19, 394, 870, 871, 872, 28, 873, 307, 82, 83, 874, 875, 876, 877, 1071, 1072, 1073, 1074, 1075, 1076, 1077, 1078, 1079, 1132, 1133, 1134, 1135, 1136, 1137, 1138, 1139, 1140, 1141, 1142, 1146, 1147, 1148, 1149, 1150] (by decide +kernel) (by decide +kernel)
set_option maxRecDepth 20000 in
theorem gL_law_X8_saw : GoodIn wsL_law (wsV RL 105 RX8 yX8_saw wsX8_saw) := goodIn_app (goodIn_of _ (by decide +kernel)) ggL_law_X8_saw
set_option maxRecDepth 20000 in
theorem ggL_law_X9_saw : GoodIn wsL_law wsX9_saw := goodIn_r _ [881, 321, 123, 124, 426, 427, 428, 5, 429, 313, 149, 150, 151, 1080, 1081, 1082, 1083, 1084, 1085, 1086, 1087, 1088, 1089, 1090, 1091, 1092, 1093, 1094, 1095, 1096, 1097, 1098, 1099, 1100, 1101, 1102, 1103, 1104, 1105, 1106, 1107, 1108, 1109, 1110, 1111, 1112, 1113, 1114, 1115, 1116, 1117, 1118, 1119, 1120, 1121, 1122] (by decide +kernel) (by decide +kernel)
set_option maxRecDepth 20000 in
theorem gL_law_X9_saw : GoodIn wsL_law (wsV RL 108 RX9 yX9_saw wsX9_saw) := goodIn_app (goodIn_of _ (by decide +kernel)) ggL_law_X9_saw
set_option maxRecDepth 20000 in
theorem ggL_law_X8_forget : GoodIn wsL_law wsX8_forget := goodIn_r _ [885, 29, 303, 304, 305, 28, 306, 307, 1071, 1072, 1073, 1074, 1075, 1076, 1077, 1078, 1079, 1146, 1147, 1148, 1149, 1150] (by decide +kernel) (by decide +kernel)
set_option maxRecDepth 20000 in
theorem gL_law_X8_forget : GoodIn wsL_law (wsV RL 109 RX8 yX8_forget wsX8_forget) := goodIn_app (goodIn_of _ (by decide +kernel)) ggL_law_X8_forget
set_option maxRecDepth 20000 in
theorem ggL_law_X9_forget : GoodIn wsL_law wsX9_forget := goodIn_r _ [889, 321, 1080, 1081, 1082, 1083, 1084, 1085, 1086, 1087, 1088, 1089, 1090, 1091, 1092, 1093, 1094, 1095, 1096, 1097, 1098, 1099, 1100, 1101, 1102, 1103, 1104, 1105, 1106, 1107, 1108, 1109, 1110, 1111, 1112, 1113, 1114, 1115, 1116, 1117, 1118, 1119, 1120, 1121, 1122] (by decide +kernel) (by decide +kernel)
