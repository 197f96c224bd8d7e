/-! ===== BEGIN names of the law ===== -/
set_option maxRecDepth 20000 in
theorem ggL_law_X11_period : GoodIn wsL_law wsX11_period := goodIn_r _ [883, 170, 124, 443, 444, 445, 5, 446, 1331, 1332, 1333, 1334, 1335, 1336, 1337, 1338, 1339, 1340, 1341, 1342, 1343, 1344, 1345, 1346, 1347, 1348, 1349, 1350, 1351, 1352, 1353, 1354, 1355, 1356, 1357, 1358, 1359, 1360] (by decide +kernel) (by decide +kernel)
set_option maxRecDepth 20000 in
theorem gL_law_X11_period : GoodIn wsL_law (wsV RL 102 RX11 yX11_period wsX11_period) := goodIn_app (goodIn_of _ (by decide +kernel)) ggL_law_X11_period
set_option maxRecDepth 20000 in
theorem ggL_law_X10_reach : GoodIn wsL_law wsX10_reach := goodIn_r _ [887, 17, 180, 888, 787, 306, 307, 2, 308, 889, 890, 891, 892, 878, 879, 1317, 1318, 1319, 1320, 1321, 1322, 1323, 1324, 1325, 1326, 1327, 1328, 1329, 1330, 1361, 1362, 1363, 1364, 1365, 1366, 1367, 1368, 1369, 1370, 1371, 1372, 1373] (by decide +kernel) (by decide +kernel)
set_option maxRecDepth 20000 in
theorem gL_law_X10_reach : GoodIn wsL_law (wsV RL 103 RX10 yX10_reach wsX10_reach) := goodIn_app (goodIn_of _ (by decide +kernel)) ggL_law_X10_reach
set_option maxRecDepth 20000 in
theorem ggL_law_X11_reach : GoodIn wsL_law wsX11_reach := goodIn_r _ [896, 170, 124, 897, 353, 354, 5, 355, 898, 899, 900, 901, 443, 444, 445, 446, 902, 903, 904, 1331, 1332, 1333, 1334, 1335, 1336, 1337, 1338, 1339, 1340, 1341, 1342, 1343, 1344, 1345, 1346, 1347, 1348, 1349, 1350, 1351, 1352, 1353, 1354, 1355, 1356, 1357, 1358, 1359, 1360] (by decide +kernel) (by decide +kernel)
set_option maxRecDepth 20000 in
theorem gL_law_X11_reach : GoodIn wsL_law (wsV RL 106 RX11 yX11_reach wsX11_reach) := goodIn_app (goodIn_of _ (by decide +kernel)) ggL_law_X11_reach
set_option maxRecDepth 20000 in
theorem ggL_law_X10_joined : GoodIn wsL_law wsX10_joined := goodIn_r _ [908, 56, 17, 180, 787, 909, 910, 2, 911, 889, 890, 891, 892, 878, 879, 1317, 1318, 1319, 1320, 1321, 1322, 1323, 1324, 1325, 1326, 1327, 1328, 1329, 1330, 1361, 1362, 1363, 1364, 1365, 1366, 1367, 1368, 1369, 1370, 1371, 1372, 1373] (by decide +kernel) (by decide +kernel)
set_option maxRecDepth 20000 in
theorem gL_law_X10_joined : GoodIn wsL_law (wsV RL 107 RX10 yX10_joined wsX10_joined) := goodIn_app (goodIn_of _ (by decide +kernel)) ggL_law_X10_joined
set_option maxRecDepth 20000 in
theorem ggL_law_X11_joined : GoodIn wsL_law wsX11_joined := goodIn_r _ [915, 170, 134, 124, 443, 444, 445, 5, 446, 902, 903, 904, 1331, 1332, 1333, 1334, 1335, 1336, 1337, 1338, 1339, 1340, 1341, 1342, 1343, 1344, 1345, 1346, 1347, 1348, 1349, 1350, 1351, 1352, 1353, 1354, 1355, 1356, 1357, 1358, 1359, 1360] (by decide +kernel) (by decide +kernel)
set_option maxRecDepth 20000 in
theorem gL_law_X11_joined : GoodIn wsL_law (wsV RL 111 RX11 yX11_joined wsX11_joined) := goodIn_app (goodIn_of _ (by decide +kernel)) ggL_law_X11_joined
set_option maxRecDepth 20000 in
theorem ggL_law_X10_at : GoodIn wsL_law wsX10_at := goodIn_r _ [919, 17, 787, 38, 788, 430, 431, 16, 432, 193, 306, 307, 2, 308, 538, 539, 540, 37, 541, 542, 543, 544, 545, 546, 547, 92, 93, 548, 549, 304, 305, 550, 551, 552, 553, 62, 64, 554, 555, 556, 557, 63, 558, 559, 560, 561, 562, 563, 564, 920, 921, 922, 923, 924, 925, 926, 927, 1317, 1318, 1319, 1320, 1321, 1322, 1323, 1324, 1325, 1326, 1327, 1328, 1329, 1330, 1361, 1362, 1363, 1364, 1365, 1366, 1367, 1368, 1369, 1370, 1371, 1372, 1373, 1388, 1389, 1390, 1391, 1392, 1393] (by decide +kernel) (by decide +kernel)
set_option maxRecDepth 20000 in
theorem gL_law_X10_at : GoodIn wsL_law (wsV RL 112 RX10 yX10_at wsX10_at) := goodIn_app (goodIn_of _ (by decide +kernel)) ggL_law_X10_at
set_option maxRecDepth 20000 in
theorem ggL_law_X11_at : GoodIn wsL_law wsX11_at := goodIn_r _ [931, 170, 124, 802, 803, 804, 5, 805, 353, 354, 355, 443, 444, 445, 446, 634, 635, 636, 637, 522, 523, 524, 525, 638, 639, 640, 641, 642, 643, 644, 630, 631, 632, 633, 1331, 1332, 1333, 1334, 1335, 1336, 1337, 1338, 1339, 1340, 1341, 1342, 1343, 1344, 1345, 1346, 1347, 1348, 1349, 1350, 1351, 1352, 1353, 1354, 1355, 1356, 1357, 1358, 1359, 1360] (by decide +kernel) (by decide +kernel)
set_option maxRecDepth 20000 in
theorem gL_law_X11_at : GoodIn wsL_law (wsV RL 116 RX11 yX11_at wsX11_at) := goodIn_app (goodIn_of _ (by decide +kernel)) ggL_law_X11_at
set_option maxRecDepth 20000 in
theorem ggL_law_X10_hits : GoodIn wsL_law wsX10_hits := goodIn_r _ [935, 38, 17, 306, 307, 2, 308, 538, 539, 540, 37, 541, 542, 543, 544, 545, 546, 547, 92, 93, 548, 549, 304, 305, 550, 551, 552, 16, 553, 62, 64, 554, 555, 556, 557, 63, 558, 559, 560, 561, 562, 563, 564, 936, 722, 723, 724, 579, 580, 581, 582, 570, 1317, 1318, 1319, 1320, 1321, 1322, 1323, 1324, 1325, 1326, 1327, 1328, 1329, 1330, 1361, 1362, 1363, 1364, 1365, 1366, 1367, 1368, 1369, 1370, 1371, 1372, 1373, 1388, 1389, 1390, 1391, 1392, 1393] (by decide +kernel) (by decide +kernel)
set_option maxRecDepth 20000 in
theorem gL_law_X10_hits : GoodIn wsL_law (wsV RL 117 RX10 yX10_hits wsX10_hits) := goodIn_app (goodIn_of _ (by decide +kernel)) ggL_law_X10_hits
set_option maxRecDepth 20000 in
theorem ggL_law_X11_hits : GoodIn wsL_law wsX11_hits := goodIn_r _ [940, 170, 353, 354, 5, 355, 626, 627, 628, 629, 130, 124, 630, 631, 632, 633, 522, 523, 524, 525, 443, 444, 445, 446, 634, 635, 636, 637, 638, 639, 640, 641, 642, 643, 644, 764, 765, 766, 767, 752, 753, 754, 755, 1331, 1332, 1333, 1334, 1335, 1336, 1337, 1338, 1339, 1340, 1341, 1342, 1343, 1344, 1345, 1346, 1347, 1348, 1349, 1350, 1351, 1352, 1353, 1354, 1355, 1356, 1357, 1358, 1359, 1360] (by decide +kernel) (by decide +kernel)
set_option maxRecDepth 20000 in
theorem gL_law_X11_hits : GoodIn wsL_law (wsV RL 120 RX11 yX11_hits wsX11_hits) := goodIn_app (goodIn_of _ (by decide +kernel)) ggL_law_X11_hits
set_option maxRecDepth 20000 in
theorem ggL_law_X10_found : GoodIn wsL_law wsX10_found := goodIn_r _ [944, 38, 17, 538, 539, 540, 37, 541, 542, 543, 544, 545, 546, 547, 92, 93, 548, 549, 307, 2, 308, 304, 305, 306, 550, 551, 552, 16, 553, 62, 64, 554, 555, 556, 557, 63, 558, 559, 560, 561, 562, 563, 564, 945, 946, 947, 948, 570, 571, 572, 573, 574, 94, 575, 576, 577, 578, 579, 580, 581, 582, 583, 584, 585, 586, 587, 588, 535, 589, 701, 702, 703, 704, 590, 591, 592, 593, 594, 595, 596, 705, 706, 707, 708, 194, 1317, 1318, 1319, 1320, 1321, 1322, 1323, 1324, 1325, 1326, 1327, 1328, 1329, 1330, 1361, 1362, 1363, 1364, 1365, 1366, 1367, 1368, 1369, 1370, 1371, 1372, 1373, 1388, 1389, 1390, 1391, 1392, 1393] (by decide +kernel) (by decide +kernel)
set_option maxRecDepth 20000 in
theorem gL_law_X10_found : GoodIn wsL_law (wsV RL 121 RX10 yX10_found wsX10_found) := goodIn_app (goodIn_of _ (by decide +kernel)) ggL_law_X10_found
set_option maxRecDepth 20000 in
theorem ggL_law_X11_found : GoodIn wsL_law wsX11_found := goodIn_r _ [952, 170, 124, 626, 627, 628, 5, 629, 130, 630, 631, 632, 633, 522, 523, 524, 525, 443, 444, 445, 446, 634, 635, 636, 637, 638, 639, 640, 641, 642, 643, 644, 760, 761, 762, 763, 764, 765, 766, 767, 752, 753, 754, 755, 741, 742, 743, 768, 769, 770, 771, 1331, 1332, 1333, 1334, 1335, 1336, 1337, 1338, 1339, 1340, 1341, 1342, 1343, 1344, 1345, 1346, 1347, 1348, 1349, 1350, 1351, 1352, 1353, 1354, 1355, 1356, 1357, 1358, 1359, 1360] (by decide +kernel) (by decide +kernel)
set_option maxRecDepth 20000 in
theorem gL_law_X11_found : GoodIn wsL_law (wsV RL 124 RX11 yX11_found wsX11_found) := goodIn_app (goodIn_of _ (by decide +kernel)) ggL_law_X11_found
set_option maxRecDepth 20000 in
theorem ggL_law_X10_makers : GoodIn wsL_law wsX10_makers := goodIn_r _ [956, 38, 17, 306, 307, 2, 308, 538, 539, 540, 37, 541, 542, 543, 544, 545, 546, 547, 92, 93, 548, 549, 304, 305, 550, 551, 552, 16, 553, 62, 64, 554, 555, 556, 557, 63, 558, 559, 560, 561, 562, 563, 564, 957, 958, 959, 960, 579, 580, 581, 582, 570, 961, 925, 926, 927, 1317, 1318, 1319, 1320, 1321, 1322, 1323, 1324, 1325, 1326, 1327, 1328, 1329, 1330, 1361, 1362, 1363, 1364, 1365, 1366, 1367, 1368, 1369, 1370, 1371, 1372, 1373, 1388, 1389, 1390, 1391, 1392, 1393] (by decide +kernel) (by decide +kernel)
set_option maxRecDepth 20000 in
theorem gL_law_X10_makers : GoodIn wsL_law (wsV RL 125 RX10 yX10_makers wsX10_makers) := goodIn_app (goodIn_of _ (by decide +kernel)) ggL_law_X10_makers
set_option maxRecDepth 20000 in
theorem ggL_law_X11_makers : GoodIn wsL_law wsX11_makers := goodIn_r _ [965, 170, 124, 353, 354, 5, 355, 626, 627, 628, 629, 130, 630, 631, 632, 633, 522, 523, 524, 525, 443, 444, 445, 446, 634, 635, 636, 637, 638, 639, 640, 641, 642, 643, 644, 752, 753, 754, 755, 1331, 1332, 1333, 1334, 1335, 1336, 1337, 1338, 1339, 1340, 1341, 1342, 1343, 1344, 1345, 1346, 1347, 1348, 1349, 1350, 1351, 1352, 1353, 1354, 1355, 1356, 1357, 1358, 1359, 1360] (by decide +kernel) (by decide +kernel)
set_option maxRecDepth 20000 in
theorem gL_law_X11_makers : GoodIn wsL_law (wsV RL 128 RX11 yX11_makers wsX11_makers) := goodIn_app (goodIn_of _ (by decide +kernel)) ggL_law_X11_makers
set_option maxRecDepth 20000 in
theorem ggL_law_X10_picture : GoodIn wsL_law wsX10_picture := goodIn_r _ [969, 38, 17, 532, 970, 537, 538, 539, 540, 37, 541, 542, 543, 544, 545, 546, 547, 92, 93, 548, 549, 307, 2, 308, 304, 305, 306, 550, 551, 552, 16, 553, 62, 64, 554, 555, 556, 557, 63, 558, 559, 560, 561, 562, 563, 564, 565, 566, 567, 568, 569, 570, 94, 571, 572, 573, 574, 575, 576, 577, 578, 579, 580, 581, 582, 583, 584, 585, 586, 587, 588, 535, 589, 590, 591, 592, 593, 594, 595, 596, 597, 598, 599, 600, 95, 96, 601, 602, 603, 604, 1317, 1318, 1319, 1320, 1321, 1322, 1323, 1324, 1325, 1326, 1327, 1328, 1329, 1330, 1388, 1389, 1390, 1391, 1392, 1393, 1361, 1362, 1363, 1364, 1365, 1366, 1367, 1368, 1369, 1370, 1371, 1372, 1373] (by decide +kernel) (by decide +kernel)
set_option maxRecDepth 20000 in
theorem gL_law_X10_picture : GoodIn wsL_law (wsV RL 129 RX10 yX10_picture wsX10_picture) := goodIn_app (goodIn_of _ (by decide +kernel)) ggL_law_X10_picture
set_option maxRecDepth 20000 in
theorem ggL_law_X11_picture : GoodIn wsL_law wsX11_picture := goodIn_r _ [974, 170, 617, 132, 131, 622, 623, 624, 5, 625, 133, 130, 124, 626, 627, 628, 629, 630, 631, 632, 633, 522, 523, 524, 525, 443, 444, 445, 446, 634, 635, 636, 637, 638, 639, 640, 641, 642, 643, 644, 645, 646, 647, 648, 353, 354, 355, 1331, 1332, 1333, 1334, 1335, 1336, 1337, 1338, 1339, 1340, 1341, 1342, 1343, 1344, 1345, 1346, 1347, 1348, 1349, 1350, 1351, 1352, 1353, 1354, 1355, 1356, 1357, 1358, 1359, 1360] (by decide +kernel) (by decide +kernel)
set_option maxRecDepth 20000 in
theorem gL_law_X11_picture : GoodIn wsL_law (wsV RL 132 RX11 yX11_picture wsX11_picture) := goodIn_app (goodIn_of _ (by decide +kernel)) ggL_law_X11_picture
set_option maxRecDepth 20000 in
theorem ggL_law_X10_pairs : GoodIn wsL_law wsX10_pairs := goodIn_r _ [978, 38, 17, 306, 307, 2, 308, 538, 539, 540, 37, 541, 542, 543, 544, 545, 546, 547, 92, 93, 548, 549, 304, 305, 550, 551, 552, 16, 553, 62, 64, 554, 555, 556, 557, 63, 558, 559, 560, 561, 562, 563, 564, 979, 980, 981, 982, 693, 694, 695, 696, 579, 580, 581, 582, 570, 983, 984, 985, 986, 94, 571, 572, 573, 574, 575, 576, 577, 578, 583, 584, 585, 586, 587, 588, 535, 589, 890, 891, 892, 878, 879, 705, 706, 707, 708, 194, 1317, 1318, 1319, 1320, 1321, 1322, 1323, 1324, 1325, 1326, 1327, 1328, 1329, 1330, 1361, 1362, 1363, 1364, 1365, 1366, 1367, 1368, 1369, 1370, 1371, 1372, 1373, 1388, 1389, 1390, 1391, 1392, 1393] (by decide +kernel) (by decide +kernel)
set_option maxRecDepth 20000 in
theorem gL_law_X10_pairs : GoodIn wsL_law (wsV RL 133 RX10 yX10_pairs wsX10_pairs) := goodIn_app (goodIn_of _ (by decide +kernel)) ggL_law_X10_pairs
set_option maxRecDepth 20000 in
theorem ggL_law_X11_pairs : GoodIn wsL_law wsX11_pairs := goodIn_r _ [990, 170, 124, 353, 354, 5, 355, 626, 627, 628, 629, 130, 630, 631, 632, 633, 522, 523, 524, 525, 443, 444, 445, 446, 634, 635, 636, 637, 638, 639, 640, 641, 642, 643, 644, 748, 749, 750, 751, 752, 753, 754, 755, 898, 899, 900, 901, 902, 903, 904, 764, 765, 766, 767, 768, 769, 770, 771, 1331, 1332, 1333, 1334, 1335, 1336, 1337, 1338, 1339, 1340, 1341, 1342, 1343, 1344, 1345, 1346, 1347, 1348, 1349, 1350, 1351, 1352, 1353, 1354, 1355, 1356, 1357, 1358, 1359, 1360] (by decide +kernel) (by decide +kernel)
set_option maxRecDepth 20000 in
theorem gL_law_X11_pairs : GoodIn wsL_law (wsV RL 136 RX11 yX11_pairs wsX11_pairs) := goodIn_app (goodIn_of _ (by decide +kernel)) ggL_law_X11_pairs
set_option maxRecDepth 20000 in
theorem ggL_law_X10_track : GoodIn wsL_law wsX10_track := goodIn_r _ [994, 42, 17, 995, 530, 996, 997, 998, 41, 999, 1000, 1001, 1002, 1003, 1004, 1005, 1006, 1007, 101, 1008, 1009, 1010, 1011, 100, 1012, 1013, 1014, 1015, 1016, 1017, 1018, 1019, 1020, 1021, 1022, 1023, 1024, 1025, 591, 592, 593, 594, 595, 596, 1026, 1027, 1028, 306, 307, 2, 308, 1029, 1030, 1031, 1032, 1033, 1034, 1035, 1036, 1037, 1038, 1317, 1318, 1319, 1320, 1321, 1322, 1323, 1324, 1325, 1326, 1327, 1328, 1329, 1330, 1361, 1362, 1363, 1364, 1365, 1366, 1367, 1368, 1369, 1370, 1371, 1372, 1373, 1394, 1395, 1396] (by decide +kernel) (by decide +kernel)
set_option maxRecDepth 20000 in
theorem gL_law_X10_track : GoodIn wsL_law (wsV RL 137 RX10 yX10_track wsX10_track) := goodIn_app (goodIn_of _ (by decide +kernel)) ggL_law_X10_track
set_option maxRecDepth 20000 in
theorem ggL_law_X11_track : GoodIn wsL_law wsX11_track := goodIn_r _ [1042, 170, 124, 135, 1043, 353, 354, 5, 355, 618, 619, 620, 621, 1044, 1045, 1046, 1047, 1048, 1049, 1050, 1051, 1052, 1053, 1054, 1055, 1331, 1332, 1333, 1334, 1335, 1336, 1337, 1338, 1339, 1340, 1341, 1342, 1343, 1344, 1345, 1346, 1347, 1348, 1349, 1350, 1351, 1352, 1353, 1354, 1355, 1356, 1357, 1358, 1359, 1360] (by decide +kernel) (by decide +kernel)
set_option maxRecDepth 20000 in
theorem gL_law_X11_track : GoodIn wsL_law (wsV RL 140 RX11 yX11_track wsX11_track) := goodIn_app (goodIn_of _ (by decide +kernel)) ggL_law_X11_track
set_option maxRecDepth 20000 in
theorem ggL_law_X10_order : GoodIn wsL_law wsX10_order := goodIn_r _ [1059, 17, 180, 46, 1060, 1061, 306, 307, 2, 308, 1062, 1063, 1064, 45, 1065, 1066, 1067, 105, 107, 1068, 70, 71, 72, 1069, 1070, 1071, 1072, 1073, 1074, 1075, 1076, 1077, 1078, 1079, 1080, 106, 1081, 558, 559, 1082, 1083, 1084, 1085, 1086, 1087, 1088, 555, 556, 16, 557, 63, 1089, 1090, 1091, 1092, 1093, 588, 535, 589, 1094, 1095, 1096, 1097, 1098, 1099, 1100, 1101, 1317, 1318, 1319, 1320, 1321, 1322, 1323, 1324, 1325, 1326, 1327, 1328, 1329, 1330, 1361, 1362, 1363, 1364, 1365, 1366, 1367, 1368, 1369, 1370, 1371, 1372, 1373, 1397, 1398, 1399, 1400, 1401, 1402] (by decide +kernel) (by decide +kernel)
set_option maxRecDepth 20000 in
theorem gL_law_X10_order : GoodIn wsL_law (wsV RL 141 RX10 yX10_order wsX10_order) := goodIn_app (goodIn_of _ (by decide +kernel)) ggL_law_X10_order
set_option maxRecDepth 20000 in
theorem ggL_law_X11_order : GoodIn wsL_law wsX11_order := goodIn_r _ [1105, 170, 124, 138, 137, 353, 354, 5, 355, 1106, 1107, 1108, 1109, 1110, 1111, 1112, 1113, 1114, 136, 1115, 443, 444, 445, 446, 1116, 1117, 1118, 1119, 630, 631, 632, 633, 522, 523, 524, 525, 1120, 1121, 1122, 1123, 1124, 1125, 1126, 1127, 1331, 1332, 1333, 1334, 1335, 1336, 1337, 1338, 1339, 1340, 1341, 1342, 1343, 1344, 1345, 1346, 1347, 1348, 1349, 1350, 1351, 1352, 1353, 1354, 1355, 1356, 1357, 1358, 1359, 1360] (by decide +kernel) (by decide +kernel)
set_option maxRecDepth 20000 in
theorem gL_law_X11_order : GoodIn wsL_law (wsV RL 144 RX11 yX11_order wsX11_order) := goodIn_app (goodIn_of _ (by decide +kernel)) ggL_law_X11_order
set_option maxRecDepth 20000 in
theorem ggL_law_X10_choose : GoodIn wsL_law wsX10_choose := goodIn_r _ [1131, 50, 17, 1132, 1133, 1134, 306, 307, 2, 308, 433, 304, 305, 1135, 1136, 1137, 49, 1138, 1139, 1140, 1141, 534, 535, 536, 1142, 1143, 1144, 1145, 1146, 1147, 1148, 1149, 112, 113, 1150, 70, 71, 72, 1151, 1152, 1153, 1154, 111, 1155, 1156, 577, 1157, 1158, 561, 562, 16, 563, 62, 558, 559, 1159, 1160, 1161, 1162, 1163, 1164, 1165, 114, 890, 891, 892, 878, 879, 1166, 1167, 1168, 1169, 1170, 1171, 1172, 1173, 1174, 1175, 1176, 1177, 115, 1317, 1318, 1319, 1320, 1321, 1322, 1323, 1324, 1325, 1326, 1327, 1328, 1329, 1330, 1403, 1404, 1405, 1406, 1407, 1408, 1409, 1410, 1411, 1412, 1413, 1414, 1415, 1361, 1362, 1363, 1364, 1365, 1366, 1367, 1368, 1369, 1370, 1371, 1372, 1373] (by decide +kernel) (by decide +kernel)
set_option maxRecDepth 20000 in
theorem gL_law_X10_choose : GoodIn wsL_law (wsV RL 145 RX10 yX10_choose wsX10_choose) := goodIn_app (goodIn_of _ (by decide +kernel)) ggL_law_X10_choose
set_option maxRecDepth 20000 in
theorem ggL_law_X11_choose : GoodIn wsL_law wsX11_choose := goodIn_r _ [1181, 170, 139, 140, 353, 354, 5, 355, 649, 650, 651, 1182, 1183, 1184, 1185, 124, 902, 903, 904, 638, 639, 640, 641, 642, 643, 644, 1186, 1187, 1188, 1189, 1331, 1332, 1333, 1334, 1335, 1336, 1337, 1338, 1339, 1340, 1341, 1342, 1343, 1344, 1345, 1346, 1347, 1348, 1349, 1350, 1351, 1352, 1353, 1354, 1355, 1356, 1357, 1358, 1359, 1360] (by decide +kernel) (by decide +kernel)
set_option maxRecDepth 20000 in
theorem gL_law_X11_choose : GoodIn wsL_law (wsV RL 149 RX11 yX11_choose wsX11_choose) := goodIn_app (goodIn_of _ (by decide +kernel)) ggL_law_X11_choose
set_option maxRecDepth 20000 in
theorem ggL_law_X10_more : GoodIn wsL_law wsX10_more := goodIn_r _ [1193, 17, 180, 38, 54, 538, 539, 540, 37, 541, 542, 543, 544, 545, 546, 547, 92, 93, 548, 549, 307, 2, 308, 304, 305, 306, 550, 551, 552, 16, 553, 62, 64, 554, 555, 556, 557, 63, 558, 559, 560, 561, 562, 563, 564, 1194, 1195, 1196, 53, 1197, 1198, 119, 1199, 572, 573, 574, 94, 575, 576, 577, 578, 579, 580, 581, 582, 570, 583, 584, 585, 586, 587, 588, 535, 589, 1200, 1201, 1202, 1203, 1204, 1205, 1206, 1207, 1208, 590, 591, 592, 593, 594, 595, 596, 705, 706, 707, 708, 194, 1209, 1210, 1211, 1212, 1213, 1214, 1215, 676, 672, 677, 678, 679, 680, 681, 682, 683, 684, 1216, 1217, 1218, 1219, 1220, 1221, 310, 311, 312, 193, 61, 1317, 1318, 1319, 1320, 1321, 1322, 1323, 1324, 1325, 1326, 1327, 1328, 1329, 1330, 1361, 1362, 1363, 1364, 1365, 1366, 1367, 1368, 1369, 1370, 1371, 1372, 1373, 1388, 1389, 1390, 1391, 1392, 1393, 1416] (by decide +kernel) (by decide +kernel)
set_option maxRecDepth 20000 in
theorem gL_law_X10_more : GoodIn wsL_law (wsV RL 150 RX10 yX10_more wsX10_more) := goodIn_app (goodIn_of _ (by decide +kernel)) ggL_law_X10_more
set_option maxRecDepth 20000 in
theorem ggL_law_X11_more : GoodIn wsL_law wsX11_more := goodIn_r _ [1225, 170, 124, 1226, 1227, 1228, 5, 1229, 380, 381, 382, 383, 384, 385, 626, 627, 628, 629, 130, 630, 631, 632, 633, 522, 523, 524, 525, 443, 444, 445, 446, 634, 635, 636, 637, 638, 639, 640, 641, 642, 643, 644, 756, 757, 758, 759, 760, 761, 762, 763, 764, 765, 766, 767, 752, 753, 754, 755, 741, 742, 743, 768, 769, 770, 771, 729, 730, 731, 732, 733, 734, 735, 736, 737, 738, 739, 740, 1331, 1332, 1333, 1334, 1335, 1336, 1337, 1338, 1339, 1340, 1341, 1342, 1343, 1344, 1345, 1346, 1347, 1348, 1349, 1350, 1351, 1352, 1353, 1354, 1355, 1356, 1357, 1358, 1359, 1360] (by decide +kernel) (by decide +kernel)
set_option maxRecDepth 20000 in
theorem gL_law_X11_more : GoodIn wsL_law (wsV RL 153 RX11 yX11_more wsX11_more) := goodIn_app (goodIn_of _ (by decide +kernel)) ggL_law_X11_more
set_option maxRecDepth 20000 in
theorem ggL_law_X10_shaken : GoodIn wsL_law wsX10_shaken := goodIn_r _ [1233, 17, 306, 307, 2, 308, 1234, 1235, 672, 1236, 674, 678, 682, 1237, 1238, 1239, 683, 561, 562, 16, 563, 62, 558, 559, 1317, 1318, 1319, 1320, 1321, 1322, 1323, 1324, 1325, 1326, 1327, 1328, 1329, 1330, 1361, 1362, 1363, 1364, 1365, 1366, 1367, 1368, 1369, 1370, 1371, 1372, 1373] (by decide +kernel) (by decide +kernel)
set_option maxRecDepth 20000 in
theorem gL_law_X10_shaken : GoodIn wsL_law (wsV RL 154 RX10 yX10_shaken wsX10_shaken) := goodIn_app (goodIn_of _ (by decide +kernel)) ggL_law_X10_shaken
set_option maxRecDepth 20000 in
theorem ggL_law_X11_shaken : GoodIn wsL_law wsX11_shaken := goodIn_r _ [1243, 170, 124, 353, 354, 5, 355, 443, 444, 445, 446, 638, 639, 640, 641, 642, 643, 644, 1331, 1332, 1333, 1334, 1335, 1336, 1337, 1338, 1339, 1340, 1341, 1342, 1343, 1344, 1345, 1346, 1347, 1348, 1349, 1350, 1351, 1352, 1353, 1354, 1355, 1356, 1357, 1358, 1359, 1360] (by decide +kernel) (by decide +kernel)
set_option maxRecDepth 20000 in
theorem gL_law_X11_shaken : GoodIn wsL_law (wsV RL 157 RX11 yX11_shaken wsX11_shaken) := goodIn_app (goodIn_of _ (by decide +kernel)) ggL_law_X11_shaken
set_option maxRecDepth 20000 in
theorem ggL_law_X10_dwell : GoodIn wsL_law wsX10_dwell := goodIn_r _ [1247, 17, 180, 46, 462, 1248, 306, 307, 2, 308, 1249, 1070, 1071, 45, 1072, 1073, 1074, 1075, 105, 1068, 70, 71, 72, 1250, 1077, 1078, 1079, 1080, 106, 1081, 558, 559, 1251, 1252, 1253, 1254, 1255, 1256, 1257, 1258, 1086, 1088, 555, 556, 16, 557, 63, 1259, 1083, 1084, 1085, 1087, 1089, 1090, 1091, 1092, 1093, 588, 535, 589, 1260, 1261, 1262, 1263, 1317, 1318, 1319, 1320, 1321, 1322, 1323, 1324, 1325, 1326, 1327, 1328, 1329, 1330, 1361, 1362, 1363, 1364, 1365, 1366, 1367, 1368, 1369, 1370, 1371, 1372, 1373, 1397, 1398, 1399, 1400, 1401, 1402] (by decide +kernel) (by decide +kernel)
set_option maxRecDepth 20000 in
theorem gL_law_X10_dwell : GoodIn wsL_law (wsV RL 158 RX10 yX10_dwell wsX10_dwell) := goodIn_app (goodIn_of _ (by decide +kernel)) ggL_law_X10_dwell
set_option maxRecDepth 20000 in
theorem ggL_law_X11_dwell : GoodIn wsL_law wsX11_dwell := goodIn_r _ [1267, 170, 124, 136, 353, 354, 5, 355, 1106, 1107, 1108, 1109, 137, 1110, 1111, 1112, 1113, 1114, 1115, 443, 444, 445, 446, 1268, 1269, 1270, 1116, 1117, 1118, 1119, 630, 631, 632, 633, 522, 523, 524, 525, 1120, 1121, 1122, 1123, 1331, 1332, 1333, 1334, 1335, 1336, 1337, 1338, 1339, 1340, 1341, 1342, 1343, 1344, 1345, 1346, 1347, 1348, 1349, 1350, 1351, 1352, 1353, 1354, 1355, 1356, 1357, 1358, 1359, 1360] (by decide +kernel) (by decide +kernel)
set_option maxRecDepth 20000 in
theorem gL_law_X11_dwell : GoodIn wsL_law (wsV RL 161 RX11 yX11_dwell wsX11_dwell) := goodIn_app (goodIn_of _ (by decide +kernel)) ggL_law_X11_dwell
set_option maxRecDepth 20000 in
theorem ggL_law_X10_until : GoodIn wsL_law wsX10_until := goodIn_r _ [1274, 17, 475, 476, 477, 16, 478, 194, 306, 307, 2, 308, 1275, 1276, 1277, 1278, 506, 62, 193, 61, 507, 508, 509, 510, 63, 64, 558, 559, 1279, 1280, 1281, 1282, 65, 560, 561, 562, 563, 1317, 1318, 1319, 1320, 1321, 1322, 1323, 1324, 1325, 1326, 1327, 1328, 1329, 1330, 1361, 1362, 1363, 1364, 1365, 1366, 1367, 1368, 1369, 1370, 1371, 1372, 1373] (by decide +kernel) (by decide +kernel)
set_option maxRecDepth 20000 in
theorem gL_law_X10_until : GoodIn wsL_law (wsV RL 162 RX10 yX10_until wsX10_until) := goodIn_app (goodIn_of _ (by decide +kernel)) ggL_law_X10_until
set_option maxRecDepth 20000 in
theorem ggL_law_X11_until : GoodIn wsL_law wsX11_until := goodIn_r _ [1286, 170, 488, 489, 490, 5, 491, 124, 353, 354, 355, 1226, 1227, 1228, 1229, 1287, 1288, 1289, 1290, 521, 522, 523, 524, 525, 517, 518, 519, 520, 492, 493, 494, 495, 626, 627, 628, 629, 130, 630, 631, 632, 633, 443, 444, 445, 446, 634, 635, 636, 637, 638, 639, 640, 641, 642, 643, 644, 760, 761, 762, 763, 764, 765, 766, 767, 752, 753, 754, 755, 741, 742, 743, 1331, 1332, 1333, 1334, 1335, 1336, 1337, 1338, 1339, 1340, 1341, 1342, 1343, 1344, 1345, 1346, 1347, 1348, 1349, 1350, 1351, 1352, 1353, 1354, 1355, 1356, 1357, 1358, 1359, 1360] (by decide +kernel) (by decide +kernel)
set_option maxRecDepth 20000 in
theorem gL_law_X11_until : GoodIn wsL_law (wsV RL 165 RX11 yX11_until wsX11_until) := goodIn_app (goodIn_of _ (by decide +kernel)) ggL_law_X11_until
set_option maxRecDepth 20000 in
theorem ggL_law_X10_image : GoodIn wsL_law wsX10_image := goodIn_r _ [1294, 31, 17, 32, 22, 34, 306, 307, 2, 308, 326, 327, 328, 16, 329, 61, 69, 70, 71, 72, 62, 63, 64, 65, 66, 67, 68, 193, 194, 195, 196, 197, 1295, 1296, 1297, 21, 1298, 76, 1299, 165, 1300, 77, 1317, 1318, 1319, 1320, 1321, 1322, 1323, 1324, 1325, 1326, 1327, 1328, 1329, 1330, 1361, 1362, 1363, 1364, 1365, 1366, 1367, 1368, 1369, 1370, 1371, 1372, 1373, 1374, 1375, 1376, 1377] (by decide +kernel) (by decide +kernel)
set_option maxRecDepth 20000 in
theorem gL_law_X10_image : GoodIn wsL_law (wsV RL 166 RX10 yX10_image wsX10_image) := goodIn_app (goodIn_of _ (by decide +kernel)) ggL_law_X10_image
set_option maxRecDepth 20000 in
theorem ggL_law_X11_image : GoodIn wsL_law wsX11_image := goodIn_r _ [1304, 170, 127, 353, 354, 5, 355, 1305, 1306, 1307, 1308, 126, 1226, 1227, 1228, 1229, 124, 1331, 1332, 1333, 1334, 1335, 1336, 1337, 1338, 1339, 1340, 1341, 1342, 1343, 1344, 1345, 1346, 1347, 1348, 1349, 1350, 1351, 1352, 1353, 1354, 1355, 1356, 1357, 1358, 1359, 1360] (by decide +kernel) (by decide +kernel)
set_option maxRecDepth 20000 in
theorem gL_law_X11_image : GoodIn wsL_law (wsV RL 170 RX11 yX11_image wsX11_image) := goodIn_app (goodIn_of _ (by decide +kernel)) ggL_law_X11_image
set_option maxRecDepth 20000 in
theorem ggL_law_X10_again : GoodIn wsL_law wsX10_again := goodIn_r _ [1312, 34, 17, 31, 22, 32, 30, 306, 307, 2, 308, 326, 327, 328, 16, 329, 61, 69, 70, 71, 72, 62, 63, 64, 65, 66, 67, 68, 193, 194, 195, 196, 197, 1295, 1296, 1297, 21, 1298, 76, 1299, 165, 1300, 77, 330, 331, 332, 29, 333, 334, 1317, 1318, 1319, 1320, 1321, 1322, 1323, 1324, 1325, 1326, 1327, 1328, 1329, 1330, 1361, 1362, 1363, 1364, 1365, 1366, 1367, 1368, 1369, 1370, 1371, 1372, 1373, 1374, 1375, 1376, 1377, 1385, 1386, 1387] (by decide +kernel) (by decide +kernel)
set_option maxRecDepth 20000 in
theorem gL_law_X10_again : GoodIn wsL_law (wsV RL 171 RX10 yX10_again wsX10_again) := goodIn_app (goodIn_of _ (by decide +kernel)) ggL_law_X10_again
set_option maxRecDepth 20000 in
theorem ggL_law_X11_again : GoodIn wsL_law wsX11_again := goodIn_r _ [1316, 170, 127, 152, 353, 354, 5, 355, 1305, 1306, 1307, 1308, 126, 1226, 1227, 1228, 1229, 124, 1331, 1332, 1333, 1334, 1335, 1336, 1337, 1338, 1339, 1340, 1341, 1342, 1343, 1344, 1345, 1346, 1347, 1348, 1349, 1350, 1351, 1352, 1353, 1354, 1355, 1356, 1357, 1358, 1359, 1360] (by decide +kernel) (by decide +kernel)
set_option maxRecDepth 20000 in
theorem gL_law_X11_again : GoodIn wsL_law (wsV RL 174 RX11 yX11_again wsX11_again) := goodIn_app (goodIn_of _ (by decide +kernel)) ggL_law_X11_again
/-! ===== END ===== -/
