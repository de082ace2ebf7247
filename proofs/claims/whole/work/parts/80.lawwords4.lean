set_option maxRecDepth 20000 in
theorem gL_law_X9_forget : GoodIn wsL_law (wsV RL 112 RX9 yX9_forget wsX9_forget) := goodIn_app (goodIn_of _ (by decide +kernel)) ggL_law_X9_forget
set_option maxRecDepth 20000 in
theorem ggL_law_X8_suspects : GoodIn wsL_law wsX8_suspects := goodIn_r _ [893, 29, 19, 24, 42, 894, 895, 896, 28, 897, 898, 86, 899, 407, 408, 40, 409, 65, 900, 901, 902, 903, 904, 288, 289, 290, 291, 284, 285, 286, 905, 574, 575, 576, 906, 578, 579, 580, 907, 908, 909, 910, 307, 82, 83, 911, 396, 397, 18, 398, 184, 399, 400, 210, 401, 402, 403, 404, 405, 406, 410, 411, 412, 413, 414, 415, 416, 417, 247, 248, 249, 250, 61, 1071, 1072, 1073, 1074, 1075, 1076, 1077, 1078, 1079, 1143, 1144, 1145, 1132, 1133, 1134, 1135, 1136, 1137, 1138, 1139, 1140, 1141, 1142, 1146, 1147, 1148, 1149, 1150, 1155] (by decide +kernel) (by decide +kernel)
set_option maxRecDepth 20000 in
theorem gL_law_X8_suspects : GoodIn wsL_law (wsV RL 113 RX8 yX8_suspects wsX8_suspects) := goodIn_app (goodIn_of _ (by decide +kernel)) ggL_law_X8_suspects
set_option maxRecDepth 20000 in
theorem ggL_law_X9_suspects : GoodIn wsL_law wsX9_suspects := goodIn_r _ [915, 916, 917, 918, 5, 919, 315, 119, 120, 920, 921, 922, 923, 728, 729, 730, 731, 434, 435, 436, 924, 925, 926, 927, 321, 123, 124, 430, 431, 432, 433, 437, 438, 439, 440, 118, 441, 442, 443, 1080, 1081, 1082, 1083, 1084, 1085, 1086, 1087, 1088, 1089, 1090, 1091, 1092, 1093, 1094, 1095, 1096, 1097, 1098, 1099, 1100, 1101, 1102, 1103, 1104, 1105, 1106, 1107, 1108, 1109, 1110, 1111, 1112, 1113, 1114, 1115, 1116, 1117, 1118, 1119, 1120, 1121, 1122] (by decide +kernel) (by decide +kernel)
set_option maxRecDepth 20000 in
theorem gL_law_X9_suspects : GoodIn wsL_law (wsV RL 116 RX9 yX9_suspects wsX9_suspects) := goodIn_app (goodIn_of _ (by decide +kernel)) ggL_law_X9_suspects
set_option maxRecDepth 20000 in
theorem ggL_law_X8_holes : GoodIn wsL_law wsX8_holes := goodIn_r _ [931, 24, 42, 29, 19, 454, 455, 456, 2, 457, 458, 479, 407, 408, 40, 409, 65, 932, 933, 934, 28, 935, 86, 904, 288, 289, 290, 291, 284, 285, 286, 936, 260, 261, 262, 907, 908, 909, 910, 307, 82, 83, 911, 396, 397, 18, 398, 184, 399, 400, 210, 401, 402, 403, 404, 405, 406, 410, 411, 412, 413, 414, 415, 416, 417, 247, 248, 249, 250, 61, 1071, 1072, 1073, 1074, 1075, 1076, 1077, 1078, 1079, 1143, 1144, 1145, 1132, 1133, 1134, 1135, 1136, 1137, 1138, 1139, 1140, 1141, 1142, 1155, 1146, 1147, 1148, 1149, 1150] (by decide +kernel) (by decide +kernel)
set_option maxRecDepth 20000 in
theorem gL_law_X8_holes : GoodIn wsL_law (wsV RL 117 RX8 yX8_holes wsX8_holes) := goodIn_app (goodIn_of _ (by decide +kernel)) ggL_law_X8_holes
set_option maxRecDepth 20000 in
theorem ggL_law_X9_holes : GoodIn wsL_law wsX9_holes := goodIn_r _ [940, 119, 120, 485, 486, 487, 5, 488, 315, 149, 150, 151, 434, 435, 436, 728, 729, 730, 731, 924, 925, 926, 927, 321, 123, 124, 430, 431, 432, 433, 437, 438, 439, 440, 118, 441, 442, 443, 1080, 1081, 1082, 1083, 1084, 1085, 1086, 1087, 1088, 1089, 1090, 1091, 1092, 1093, 1094, 1095, 1096, 1097, 1098, 1099, 1100, 1101, 1102, 1103, 1104, 1105, 1106, 1107, 1108, 1109, 1110, 1111, 1112, 1113, 1114, 1115, 1116, 1117, 1118, 1119, 1120, 1121, 1122] (by decide +kernel) (by decide +kernel)
set_option maxRecDepth 20000 in
theorem gL_law_X9_holes : GoodIn wsL_law (wsV RL 120 RX9 yX9_holes wsX9_holes) := goodIn_app (goodIn_of _ (by decide +kernel)) ggL_law_X9_holes
set_option maxRecDepth 20000 in
theorem ggL_law_X8_look : GoodIn wsL_law wsX8_look := goodIn_r _ [944, 29, 19, 24, 42, 945, 946, 947, 28, 948, 949, 950, 895, 896, 897, 898, 86, 899, 407, 408, 40, 409, 65, 900, 901, 902, 903, 904, 288, 289, 290, 291, 284, 285, 286, 905, 574, 575, 576, 906, 578, 579, 580, 907, 908, 909, 910, 307, 82, 83, 911, 396, 397, 18, 398, 184, 399, 400, 210, 401, 402, 403, 404, 405, 406, 410, 411, 412, 413, 414, 415, 416, 417, 247, 248, 249, 250, 61, 951, 952, 953, 954, 84, 955, 956, 957, 958, 959, 1071, 1072, 1073, 1074, 1075, 1076, 1077, 1078, 1079, 1143, 1144, 1145, 1132, 1133, 1134, 1135, 1136, 1137, 1138, 1139, 1140, 1141, 1142, 1146, 1147, 1148, 1149, 1150, 1155] (by decide +kernel) (by decide +kernel)
set_option maxRecDepth 20000 in
theorem gL_law_X8_look : GoodIn wsL_law (wsV RL 121 RX8 yX8_look wsX8_look) := goodIn_app (goodIn_of _ (by decide +kernel)) ggL_law_X8_look
set_option maxRecDepth 20000 in
theorem ggL_law_X9_look : GoodIn wsL_law wsX9_look := goodIn_r _ [963, 759, 313, 916, 917, 918, 5, 919, 315, 119, 120, 920, 921, 922, 923, 728, 729, 730, 731, 434, 435, 436, 924, 925, 926, 927, 321, 123, 124, 430, 431, 432, 433, 437, 438, 439, 440, 118, 441, 442, 443, 964, 965, 966, 967, 968, 969, 970, 971, 1080, 1081, 1082, 1083, 1084, 1085, 1086, 1087, 1088, 1089, 1090, 1091, 1092, 1093, 1094, 1095, 1096, 1097, 1098, 1099, 1100, 1101, 1102, 1103, 1104, 1105, 1106, 1107, 1108, 1109, 1110, 1111, 1112, 1113, 1114, 1115, 1116, 1117, 1118, 1119, 1120, 1121, 1122] (by decide +kernel) (by decide +kernel)
set_option maxRecDepth 20000 in
theorem gL_law_X9_look : GoodIn wsL_law (wsV RL 124 RX9 yX9_look wsX9_look) := goodIn_app (goodIn_of _ (by decide +kernel)) ggL_law_X9_look
set_option maxRecDepth 20000 in
theorem ggL_law_X8_mark : GoodIn wsL_law wsX8_mark := goodIn_r _ [975, 452, 37, 19, 24, 42, 390, 391, 392, 2, 393, 394, 976, 977, 978, 36, 979, 980, 981, 396, 397, 18, 398, 184, 399, 400, 210, 401, 402, 403, 404, 405, 406, 407, 408, 40, 409, 65, 410, 411, 412, 413, 414, 415, 416, 417, 247, 248, 249, 250, 61, 982, 983, 984, 985, 986, 987, 988, 989, 990, 991, 992, 993, 994, 995, 996, 997, 998, 999, 1000, 1001, 1002, 1003, 1004, 1005, 1006, 1007, 1008, 1009, 1010, 1011, 1012, 530, 531, 532, 1071, 1072, 1073, 1074, 1075, 1076, 1077, 1078, 1079, 1143, 1144, 1145, 1132, 1133, 1134, 1135, 1136, 1137, 1138, 1139, 1140, 1141, 1142, 1154, 1155] (by decide +kernel) (by decide +kernel)
set_option maxRecDepth 20000 in
theorem gL_law_X8_mark : GoodIn wsL_law (wsV RL 125 RX8 yX8_mark wsX8_mark) := goodIn_app (goodIn_of _ (by decide +kernel)) ggL_law_X8_mark
set_option maxRecDepth 20000 in
theorem ggL_law_X9_mark : GoodIn wsL_law wsX9_mark := goodIn_r _ [1016, 484, 119, 1017, 1018, 114, 1019, 113, 1020, 1021, 1022, 149, 150, 5, 151, 426, 427, 428, 429, 313, 430, 431, 432, 433, 315, 434, 435, 436, 437, 438, 439, 440, 118, 441, 442, 443, 1080, 1081, 1082, 1083, 1084, 1085, 1086, 1087, 1088, 1089, 1090, 1091, 1092, 1093, 1094, 1095, 1096, 1097, 1098, 1099, 1100, 1101, 1102, 1103, 1104, 1105, 1106, 1107, 1108, 1109, 1110, 1111, 1112, 1113, 1114, 1115, 1116, 1117, 1118, 1119, 1120, 1121, 1122] (by decide +kernel) (by decide +kernel)
set_option maxRecDepth 20000 in
theorem gL_law_X9_mark : GoodIn wsL_law (wsV RL 128 RX9 yX9_mark wsX9_mark) := goodIn_app (goodIn_of _ (by decide +kernel)) ggL_law_X9_mark
set_option maxRecDepth 20000 in
theorem ggL_law_X8_keep : GoodIn wsL_law wsX8_keep := goodIn_r _ [1026, 25, 24, 169, 42, 1027, 1028, 2, 1029, 1030, 1031, 1032, 23, 1033, 70, 74, 296, 288, 289, 40, 290, 65, 291, 284, 285, 286, 1034, 1035, 1036, 73, 1037, 78, 1038, 301, 302, 529, 530, 531, 532, 1071, 1072, 1073, 1074, 1075, 1076, 1077, 1078, 1079, 1143, 1144, 1145, 1155, 1156, 1157, 1158] (by decide +kernel) (by decide +kernel)
set_option maxRecDepth 20000 in
theorem gL_law_X8_keep : GoodIn wsL_law (wsV RL 129 RX8 yX8_keep wsX8_keep) := goodIn_app (goodIn_of _ (by decide +kernel)) ggL_law_X8_keep
set_option maxRecDepth 20000 in
theorem ggL_law_X9_keep : GoodIn wsL_law wsX9_keep := goodIn_r _ [1042, 126, 129, 320, 130, 555, 127, 119, 128, 121, 149, 150, 5, 151, 1080, 1081, 1082, 1083, 1084, 1085, 1086, 1087, 1088, 1089, 1090, 1091, 1092, 1093, 1094, 1095, 1096, 1097, 1098, 1099, 1100, 1101, 1102, 1103, 1104, 1105, 1106, 1107, 1108, 1109, 1110, 1111, 1112, 1113, 1114, 1115, 1116, 1117, 1118, 1119, 1120, 1121, 1122] (by decide +kernel) (by decide +kernel)
set_option maxRecDepth 20000 in
theorem gL_law_X9_keep : GoodIn wsL_law (wsV RL 132 RX9 yX9_keep wsX9_keep) := goodIn_app (goodIn_of _ (by decide +kernel)) ggL_law_X9_keep
set_option maxRecDepth 20000 in
theorem ggL_law_X8_back : GoodIn wsL_law wsX8_back := goodIn_r _ [1046, 25, 169, 24, 42, 1027, 1028, 2, 1029, 1030, 1031, 1032, 23, 1033, 70, 74, 296, 288, 289, 40, 290, 65, 291, 284, 285, 286, 1034, 1035, 1036, 73, 1037, 78, 1038, 301, 302, 529, 530, 531, 532, 1071, 1072, 1073, 1074, 1075, 1076, 1077, 1078, 1079, 1143, 1144, 1145, 1155, 1156, 1157, 1158] (by decide +kernel) (by decide +kernel)
set_option maxRecDepth 20000 in
theorem gL_law_X8_back : GoodIn wsL_law (wsV RL 133 RX8 yX8_back wsX8_back) := goodIn_app (goodIn_of _ (by decide +kernel)) ggL_law_X8_back
set_option maxRecDepth 20000 in
theorem ggL_law_X9_back : GoodIn wsL_law wsX9_back := goodIn_r _ [1050, 126, 129, 320, 130, 555, 119, 127, 121, 128, 149, 150, 5, 151, 1080, 1081, 1082, 1083, 1084, 1085, 1086, 1087, 1088, 1089, 1090, 1091, 1092, 1093, 1094, 1095, 1096, 1097, 1098, 1099, 1100, 1101, 1102, 1103, 1104, 1105, 1106, 1107, 1108, 1109, 1110, 1111, 1112, 1113, 1114, 1115, 1116, 1117, 1118, 1119, 1120, 1121, 1122] (by decide +kernel) (by decide +kernel)
set_option maxRecDepth 20000 in
theorem gL_law_X9_back : GoodIn wsL_law (wsV RL 136 RX9 yX9_back wsX9_back) := goodIn_app (goodIn_of _ (by decide +kernel)) ggL_law_X9_back
set_option maxRecDepth 20000 in
theorem ggL_law_X8_count : GoodIn wsL_law wsX8_count := goodIn_r _ [1054, 19, 394, 458, 507, 29, 24, 664, 15, 874, 875, 876, 28, 877, 307, 673, 674, 675, 73, 676, 301, 140, 141, 142, 14, 143, 139, 1071, 1072, 1073, 1074, 1075, 1076, 1077, 1078, 1079, 1132, 1133, 1134, 1135, 1136, 1137, 1138, 1139, 1140, 1141, 1142, 1143, 1144, 1145, 1146, 1147, 1148, 1149, 1150, 1156, 1157, 1158, 1123, 1124, 1125, 1126, 1127, 1128, 1129, 1130, 1131] (by decide +kernel) (by decide +kernel)
set_option maxRecDepth 20000 in
theorem gL_law_X8_count : GoodIn wsL_law (wsV RL 137 RX8 yX8_count wsX8_count) := goodIn_app (goodIn_of _ (by decide +kernel)) ggL_law_X8_count
set_option maxRecDepth 20000 in
theorem ggL_law_X9_count : GoodIn wsL_law wsX9_count := goodIn_r _ [1058, 313, 315, 317, 321, 320, 148, 1080, 1081, 1082, 1083, 1084, 1085, 1086, 1087, 1088, 1089, 1090, 1091, 1092, 1093, 1094, 1095, 1096, 1097, 1098, 1099, 1100, 1101, 1102, 1103, 1104, 1105, 1106, 1107, 1108, 1109, 1110, 1111, 1112, 1113, 1114, 1115, 1116, 1117, 1118, 1119, 1120, 1121, 1122] (by decide +kernel) (by decide +kernel)
set_option maxRecDepth 20000 in
theorem gL_law_X9_count : GoodIn wsL_law (wsV RL 140 RX9 yX9_count wsX9_count) := goodIn_app (goodIn_of _ (by decide +kernel)) ggL_law_X9_count
set_option maxRecDepth 20000 in
theorem ggL_law_X8_trace : GoodIn wsL_law wsX8_trace := goodIn_r _ [1062, 37, 1063, 1064, 1065, 36, 1066, 980, 1071, 1072, 1073, 1074, 1075, 1076, 1077, 1078, 1079, 1154] (by decide +kernel) (by decide +kernel)
set_option maxRecDepth 20000 in
theorem gL_law_X8_trace : GoodIn wsL_law (wsV RL 141 RX8 yX8_trace wsX8_trace) := goodIn_app (goodIn_of _ (by decide +kernel)) ggL_law_X8_trace
set_option maxRecDepth 20000 in
theorem ggL_law_X9_trace : GoodIn wsL_law wsX9_trace := goodIn_r _ [1070, 1017, 1080, 1081, 1082, 1083, 1084, 1085, 1086, 1087, 1088, 1089, 1090, 1091, 1092, 1093, 1094, 1095, 1096, 1097, 1098, 1099, 1100, 1101, 1102, 1103, 1104, 1105, 1106, 1107, 1108, 1109, 1110, 1111, 1112, 1113, 1114, 1115, 1116, 1117, 1118, 1119, 1120, 1121, 1122] (by decide +kernel) (by decide +kernel)
set_option maxRecDepth 20000 in
theorem gL_law_X9_trace : GoodIn wsL_law (wsV RL 145 RX9 yX9_trace wsX9_trace) := goodIn_app (goodIn_of _ (by decide +kernel)) ggL_law_X9_trace
