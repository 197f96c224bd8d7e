/-! ===== BEGIN names of the law ===== -/
set_option maxRecDepth 20000 in
theorem ggL_law_X10_init : GoodIn wsL_law wsX10_init := goodIn_r _ [10, 11, 12, 13, 14, 15, 16, 17, 18, 19, 20, 21, 22, 23, 24, 25, 26, 27, 28, 29, 30, 31, 32, 33, 34, 35, 36, 37, 38, 39, 40, 41, 42, 43, 44, 45, 46, 47, 48, 49, 50, 51, 52, 53, 54, 55, 56, 57, 58, 59, 60, 61, 62, 63, 64, 65, 66, 67, 68, 69, 70, 71, 72, 73, 74, 75, 76, 77, 78, 79, 80, 81, 82, 83, 84, 85, 86, 87, 88, 89, 90, 91, 92, 93, 94, 95, 96, 97, 98, 99, 100, 101, 102, 103, 104, 105, 106, 107, 108, 109, 110, 6, 111, 112, 113, 114, 115, 116, 117, 118, 119, 1361, 1362, 1363, 1364, 1365, 1366, 1367, 1368, 1369, 1370, 1371, 1372, 1373, 1317, 1318, 1319, 1320, 1321, 1322, 1323, 1324, 1325, 1326, 1327, 1328, 1329, 1330, 1374, 1375, 1376, 1377, 1378, 1379, 1380, 1381, 1382, 1383, 1384, 1385, 1386, 1387, 1388, 1389, 1390, 1391, 1392, 1393, 1394, 1395, 1396, 1397, 1398, 1399, 1400, 1401, 1402, 1403, 1404, 1405, 1406, 1407, 1408, 1409, 1410, 1411, 1412, 1413, 1414, 1415, 1416] (by decide +kernel) (by decide +kernel)
set_option maxRecDepth 20000 in
theorem gL_law_X10_init : GoodIn wsL_law (wsX10_init) := ggL_law_X10_init
set_option maxRecDepth 20000 in
theorem ggL_law_X11_init : GoodIn wsL_law wsX11_init := goodIn_r _ [122, 123, 12, 13, 55, 124, 125, 126, 33, 127, 128, 129, 130, 131, 132, 133, 134, 135, 136, 137, 138, 139, 140, 141, 142, 143, 5, 144, 145, 146, 147, 148, 149, 150, 151, 152, 1331, 1332, 1333, 1334, 1335, 1336, 1337, 1338, 1339, 1340, 1341, 1342, 1343, 1344, 1345, 1346, 1347, 1348, 1349, 1350, 1351, 1352, 1353, 1354, 1355, 1356, 1357, 1358, 1359, 1360] (by decide +kernel) (by decide +kernel)
set_option maxRecDepth 20000 in
theorem gL_law_X11_init : GoodIn wsL_law (wsX11_init) := ggL_law_X11_init
set_option maxRecDepth 20000 in
theorem ggL_law_X10_type : GoodIn wsL_law wsX10_type := goodIn_r _ [156, 22, 157, 158, 159, 2, 160, 161, 162, 163, 21, 164, 165, 76, 1317, 1318, 1319, 1320, 1321, 1322, 1323, 1324, 1325, 1326, 1327, 1328, 1329, 1330, 1374, 1375, 1376, 1377] (by decide +kernel) (by decide +kernel)
set_option maxRecDepth 20000 in
theorem gL_law_X10_type : GoodIn wsL_law (wsV RL 24 RX10 yX10_type wsX10_type) := goodIn_app (goodIn_of _ (by decide +kernel)) ggL_law_X10_type
set_option maxRecDepth 20000 in
theorem ggL_law_X11_type : GoodIn wsL_law wsX11_type := goodIn_r _ [169, 170, 171, 124, 126, 1331, 1332, 1333, 1334, 1335, 1336, 1337, 1338, 1339, 1340, 1341, 1342, 1343, 1344, 1345, 1346, 1347, 1348, 1349, 1350, 1351, 1352, 1353, 1354, 1355, 1356, 1357, 1358, 1359, 1360] (by decide +kernel) (by decide +kernel)
set_option maxRecDepth 20000 in
theorem gL_law_X11_type : GoodIn wsL_law (wsV RL 28 RX11 yX11_type wsX11_type) := goodIn_app (goodIn_of _ (by decide +kernel)) ggL_law_X11_type
set_option maxRecDepth 20000 in
theorem ggL_law_X10_read : GoodIn wsL_law wsX10_read := goodIn_r _ [175, 26, 22, 18, 157, 176, 177, 178, 179, 17, 30, 180, 181, 182, 183, 25, 184, 185, 186, 187, 188, 189, 190, 191, 16, 192, 62, 69, 70, 71, 72, 193, 194, 195, 196, 197, 198, 199, 200, 201, 202, 203, 204, 205, 206, 207, 208, 209, 210, 211, 212, 213, 214, 215, 216, 217, 218, 219, 220, 221, 222, 81, 223, 224, 225, 226, 227, 228, 229, 230, 231, 232, 233, 234, 235, 236, 237, 238, 239, 240, 241, 242, 243, 244, 245, 246, 247, 248, 249, 250, 251, 252, 253, 254, 255, 256, 257, 258, 259, 260, 261, 262, 263, 264, 265, 266, 267, 268, 269, 270, 271, 272, 273, 274, 275, 276, 277, 278, 279, 280, 281, 282, 283, 284, 285, 286, 287, 288, 289, 290, 291, 292, 293, 294, 295, 296, 297, 298, 299, 300, 301, 302, 303, 304, 2, 305, 306, 307, 308, 309, 310, 311, 312, 61, 313, 314, 315, 316, 317, 318, 319, 320, 321, 322, 323, 324, 325, 63, 64, 65, 326, 327, 328, 329, 66, 67, 68, 330, 331, 332, 29, 333, 334, 1317, 1318, 1319, 1320, 1321, 1322, 1323, 1324, 1325, 1326, 1327, 1328, 1329, 1330, 1374, 1375, 1376, 1377, 1378, 1379, 1380, 1381, 1382, 1383, 1384, 1361, 1362, 1363, 1364, 1365, 1366, 1367, 1368, 1369, 1370, 1371, 1372, 1373, 1385, 1386, 1387] (by decide +kernel) (by decide +kernel)
set_option maxRecDepth 20000 in
theorem gL_law_X10_read : GoodIn wsL_law (wsV RL 29 RX10 yX10_read wsX10_read) := goodIn_app (goodIn_of _ (by decide +kernel)) ggL_law_X10_read
set_option maxRecDepth 20000 in
theorem ggL_law_X11_read : GoodIn wsL_law wsX11_read := goodIn_r _ [338, 170, 124, 339, 340, 145, 146, 341, 141, 142, 143, 5, 144, 129, 147, 342, 343, 344, 345, 346, 347, 348, 349, 350, 351, 352, 126, 353, 354, 355, 356, 357, 358, 359, 360, 361, 362, 363, 364, 365, 366, 367, 368, 369, 370, 371, 372, 373, 374, 375, 376, 377, 378, 379, 380, 381, 382, 383, 384, 385, 386, 387, 388, 389, 390, 391, 392, 393, 394, 395, 396, 397, 398, 399, 400, 401, 402, 403, 404, 405, 148, 149, 150, 151, 152, 1331, 1332, 1333, 1334, 1335, 1336, 1337, 1338, 1339, 1340, 1341, 1342, 1343, 1344, 1345, 1346, 1347, 1348, 1349, 1350, 1351, 1352, 1353, 1354, 1355, 1356, 1357, 1358, 1359, 1360] (by decide +kernel) (by decide +kernel)
set_option maxRecDepth 20000 in
theorem gL_law_X11_read : GoodIn wsL_law (wsV RL 33 RX11 yX11_read wsX11_read) := goodIn_app (goodIn_of _ (by decide +kernel)) ggL_law_X11_read
set_option maxRecDepth 20000 in
theorem ggL_law_X10_fault : GoodIn wsL_law wsX10_fault := goodIn_r _ [409, 22, 179, 177, 1317, 1318, 1319, 1320, 1321, 1322, 1323, 1324, 1325, 1326, 1327, 1328, 1329, 1330, 1374, 1375, 1376, 1377] (by decide +kernel) (by decide +kernel)
set_option maxRecDepth 20000 in
theorem gL_law_X10_fault : GoodIn wsL_law (wsV RL 34 RX10 yX10_fault wsX10_fault) := goodIn_app (goodIn_of _ (by decide +kernel)) ggL_law_X10_fault
set_option maxRecDepth 20000 in
theorem ggL_law_X11_fault : GoodIn wsL_law wsX11_fault := goodIn_r _ [413, 170, 124, 1331, 1332, 1333, 1334, 1335, 1336, 1337, 1338, 1339, 1340, 1341, 1342, 1343, 1344, 1345, 1346, 1347, 1348, 1349, 1350, 1351, 1352, 1353, 1354, 1355, 1356, 1357, 1358, 1359, 1360] (by decide +kernel) (by decide +kernel)
set_option maxRecDepth 20000 in
theorem gL_law_X11_fault : GoodIn wsL_law (wsV RL 38 RX11 yX11_fault wsX11_fault) := goodIn_app (goodIn_of _ (by decide +kernel)) ggL_law_X11_fault
set_option maxRecDepth 20000 in
theorem ggL_law_X10_gap : GoodIn wsL_law wsX10_gap := goodIn_r _ [417, 17, 30, 180, 418, 310, 311, 16, 312, 193, 61, 419, 420, 421, 29, 422, 334, 423, 87, 424, 327, 328, 329, 69, 70, 71, 72, 62, 63, 64, 65, 66, 67, 68, 194, 195, 196, 197, 425, 426, 427, 428, 429, 430, 431, 432, 433, 304, 2, 305, 306, 307, 308, 434, 319, 320, 321, 1317, 1318, 1319, 1320, 1321, 1322, 1323, 1324, 1325, 1326, 1327, 1328, 1329, 1330, 1361, 1362, 1363, 1364, 1365, 1366, 1367, 1368, 1369, 1370, 1371, 1372, 1373, 1385, 1386, 1387] (by decide +kernel) (by decide +kernel)
set_option maxRecDepth 20000 in
theorem gL_law_X10_gap : GoodIn wsL_law (wsV RL 39 RX10 yX10_gap wsX10_gap) := goodIn_app (goodIn_of _ (by decide +kernel)) ggL_law_X10_gap
set_option maxRecDepth 20000 in
theorem ggL_law_X11_gap : GoodIn wsL_law wsX11_gap := goodIn_r _ [438, 170, 124, 353, 354, 5, 355, 380, 381, 382, 439, 440, 441, 442, 152, 128, 383, 384, 385, 443, 444, 445, 446, 1331, 1332, 1333, 1334, 1335, 1336, 1337, 1338, 1339, 1340, 1341, 1342, 1343, 1344, 1345, 1346, 1347, 1348, 1349, 1350, 1351, 1352, 1353, 1354, 1355, 1356, 1357, 1358, 1359, 1360] (by decide +kernel) (by decide +kernel)
set_option maxRecDepth 20000 in
theorem gL_law_X11_gap : GoodIn wsL_law (wsV RL 43 RX11 yX11_gap wsX11_gap) := goodIn_app (goodIn_of _ (by decide +kernel)) ggL_law_X11_gap
set_option maxRecDepth 20000 in
theorem ggL_law_X10_set : GoodIn wsL_law wsX10_set := goodIn_r _ [450, 451, 452, 17, 453, 30, 306, 307, 2, 308, 419, 420, 421, 29, 422, 334, 423, 87, 424, 327, 328, 16, 329, 61, 69, 70, 71, 72, 62, 63, 64, 65, 66, 67, 68, 193, 194, 195, 196, 197, 1317, 1318, 1319, 1320, 1321, 1322, 1323, 1324, 1325, 1326, 1327, 1328, 1329, 1330, 1361, 1362, 1363, 1364, 1365, 1366, 1367, 1368, 1369, 1370, 1371, 1372, 1373, 1385, 1386, 1387] (by decide +kernel) (by decide +kernel)
set_option maxRecDepth 20000 in
theorem gL_law_X10_set : GoodIn wsL_law (wsV RL 44 RX10 yX10_set wsX10_set) := goodIn_app (goodIn_of _ (by decide +kernel)) ggL_law_X10_set
set_option maxRecDepth 20000 in
theorem ggL_law_X11_set : GoodIn wsL_law wsX11_set := goodIn_r _ [457, 170, 124, 353, 354, 5, 355, 400, 401, 402, 403, 404, 405, 439, 440, 441, 442, 152, 128, 1331, 1332, 1333, 1334, 1335, 1336, 1337, 1338, 1339, 1340, 1341, 1342, 1343, 1344, 1345, 1346, 1347, 1348, 1349, 1350, 1351, 1352, 1353, 1354, 1355, 1356, 1357, 1358, 1359, 1360] (by decide +kernel) (by decide +kernel)
set_option maxRecDepth 20000 in
theorem gL_law_X11_set : GoodIn wsL_law (wsV RL 48 RX11 yX11_set wsX11_set) := goodIn_app (goodIn_of _ (by decide +kernel)) ggL_law_X11_set
set_option maxRecDepth 20000 in
theorem ggL_law_X10_target : GoodIn wsL_law wsX10_target := goodIn_r _ [461, 17, 462, 30, 306, 307, 2, 308, 463, 464, 465, 419, 420, 421, 29, 422, 334, 423, 87, 424, 327, 328, 16, 329, 61, 69, 70, 71, 72, 62, 63, 64, 65, 66, 67, 68, 193, 194, 195, 196, 197, 466, 323, 324, 325, 1317, 1318, 1319, 1320, 1321, 1322, 1323, 1324, 1325, 1326, 1327, 1328, 1329, 1330, 1361, 1362, 1363, 1364, 1365, 1366, 1367, 1368, 1369, 1370, 1371, 1372, 1373, 1385, 1386, 1387] (by decide +kernel) (by decide +kernel)
set_option maxRecDepth 20000 in
theorem gL_law_X10_target : GoodIn wsL_law (wsV RL 49 RX10 yX10_target wsX10_target) := goodIn_app (goodIn_of _ (by decide +kernel)) ggL_law_X10_target
set_option maxRecDepth 20000 in
theorem ggL_law_X11_target : GoodIn wsL_law wsX11_target := goodIn_r _ [470, 170, 124, 353, 354, 5, 355, 439, 440, 441, 442, 152, 128, 1331, 1332, 1333, 1334, 1335, 1336, 1337, 1338, 1339, 1340, 1341, 1342, 1343, 1344, 1345, 1346, 1347, 1348, 1349, 1350, 1351, 1352, 1353, 1354, 1355, 1356, 1357, 1358, 1359, 1360] (by decide +kernel) (by decide +kernel)
set_option maxRecDepth 20000 in
theorem gL_law_X11_target : GoodIn wsL_law (wsV RL 53 RX11 yX11_target wsX11_target) := goodIn_app (goodIn_of _ (by decide +kernel)) ggL_law_X11_target
set_option maxRecDepth 20000 in
theorem ggL_law_X10_leave : GoodIn wsL_law wsX10_leave := goodIn_r _ [474, 17, 30, 462, 475, 476, 477, 16, 478, 194, 419, 420, 421, 29, 422, 334, 423, 87, 424, 327, 328, 329, 61, 69, 70, 71, 72, 62, 63, 64, 65, 66, 67, 68, 193, 195, 196, 197, 479, 480, 481, 482, 483, 1317, 1318, 1319, 1320, 1321, 1322, 1323, 1324, 1325, 1326, 1327, 1328, 1329, 1330, 1361, 1362, 1363, 1364, 1365, 1366, 1367, 1368, 1369, 1370, 1371, 1372, 1373, 1385, 1386, 1387] (by decide +kernel) (by decide +kernel)
set_option maxRecDepth 20000 in
theorem gL_law_X10_leave : GoodIn wsL_law (wsV RL 54 RX10 yX10_leave wsX10_leave) := goodIn_app (goodIn_of _ (by decide +kernel)) ggL_law_X10_leave
set_option maxRecDepth 20000 in
theorem ggL_law_X11_leave : GoodIn wsL_law wsX11_leave := goodIn_r _ [487, 170, 124, 488, 489, 490, 5, 491, 353, 354, 355, 439, 440, 441, 442, 152, 128, 492, 493, 494, 495, 1331, 1332, 1333, 1334, 1335, 1336, 1337, 1338, 1339, 1340, 1341, 1342, 1343, 1344, 1345, 1346, 1347, 1348, 1349, 1350, 1351, 1352, 1353, 1354, 1355, 1356, 1357, 1358, 1359, 1360] (by decide +kernel) (by decide +kernel)
set_option maxRecDepth 20000 in
theorem gL_law_X11_leave : GoodIn wsL_law (wsV RL 58 RX11 yX11_leave wsX11_leave) := goodIn_app (goodIn_of _ (by decide +kernel)) ggL_law_X11_leave
set_option maxRecDepth 20000 in
theorem ggL_law_X10_move : GoodIn wsL_law wsX10_move := goodIn_r _ [499, 17, 500, 501, 30, 306, 307, 2, 308, 419, 420, 421, 29, 422, 334, 423, 87, 424, 327, 328, 16, 329, 61, 69, 70, 71, 72, 62, 63, 64, 65, 66, 67, 68, 193, 194, 195, 196, 197, 502, 503, 504, 505, 506, 507, 508, 509, 510, 511, 480, 481, 482, 483, 476, 477, 478, 1317, 1318, 1319, 1320, 1321, 1322, 1323, 1324, 1325, 1326, 1327, 1328, 1329, 1330, 1361, 1362, 1363, 1364, 1365, 1366, 1367, 1368, 1369, 1370, 1371, 1372, 1373, 1385, 1386, 1387] (by decide +kernel) (by decide +kernel)
set_option maxRecDepth 20000 in
theorem gL_law_X10_move : GoodIn wsL_law (wsV RL 59 RX10 yX10_move wsX10_move) := goodIn_app (goodIn_of _ (by decide +kernel)) ggL_law_X10_move
set_option maxRecDepth 20000 in
theorem ggL_law_X11_move : GoodIn wsL_law wsX11_move := goodIn_r _ [515, 170, 124, 516, 353, 354, 5, 355, 439, 440, 441, 442, 152, 128, 517, 518, 519, 520, 521, 522, 523, 524, 525, 492, 493, 494, 495, 1331, 1332, 1333, 1334, 1335, 1336, 1337, 1338, 1339, 1340, 1341, 1342, 1343, 1344, 1345, 1346, 1347, 1348, 1349, 1350, 1351, 1352, 1353, 1354, 1355, 1356, 1357, 1358, 1359, 1360] (by decide +kernel) (by decide +kernel)
set_option maxRecDepth 20000 in
theorem gL_law_X11_move : GoodIn wsL_law (wsV RL 62 RX11 yX11_move wsX11_move) := goodIn_app (goodIn_of _ (by decide +kernel)) ggL_law_X11_move
set_option maxRecDepth 20000 in
theorem ggL_law_X10_look : GoodIn wsL_law wsX10_look := goodIn_r _ [529, 17, 530, 531, 500, 30, 38, 532, 533, 534, 535, 536, 537, 419, 420, 421, 29, 422, 334, 423, 87, 424, 327, 328, 16, 329, 61, 69, 70, 71, 72, 62, 63, 64, 65, 66, 67, 68, 193, 194, 195, 196, 197, 538, 539, 540, 37, 541, 542, 543, 544, 545, 546, 547, 92, 93, 548, 549, 307, 2, 308, 304, 305, 306, 550, 551, 552, 553, 554, 555, 556, 557, 558, 559, 560, 561, 562, 563, 564, 565, 566, 567, 568, 569, 570, 94, 571, 572, 573, 574, 575, 576, 577, 578, 579, 580, 581, 582, 583, 584, 585, 586, 587, 588, 589, 590, 591, 592, 593, 594, 595, 596, 597, 598, 599, 600, 95, 96, 601, 602, 603, 604, 605, 606, 607, 608, 609, 610, 611, 612, 1317, 1318, 1319, 1320, 1321, 1322, 1323, 1324, 1325, 1326, 1327, 1328, 1329, 1330, 1361, 1362, 1363, 1364, 1365, 1366, 1367, 1368, 1369, 1370, 1371, 1372, 1373, 1388, 1389, 1390, 1391, 1392, 1393, 1385, 1386, 1387] (by decide +kernel) (by decide +kernel)
set_option maxRecDepth 20000 in
theorem gL_law_X10_look : GoodIn wsL_law (wsV RL 63 RX10 yX10_look wsX10_look) := goodIn_app (goodIn_of _ (by decide +kernel)) ggL_law_X10_look
set_option maxRecDepth 20000 in
theorem ggL_law_X11_look : GoodIn wsL_law wsX11_look := goodIn_r _ [616, 170, 124, 617, 131, 618, 619, 620, 5, 621, 439, 440, 441, 442, 152, 128, 622, 623, 624, 625, 133, 130, 132, 626, 627, 628, 629, 630, 631, 632, 633, 522, 523, 524, 525, 443, 444, 445, 446, 634, 635, 636, 637, 638, 639, 640, 641, 642, 643, 644, 645, 646, 647, 648, 649, 650, 651, 1331, 1332, 1333, 1334, 1335, 1336, 1337, 1338, 1339, 1340, 1341, 1342, 1343, 1344, 1345, 1346, 1347, 1348, 1349, 1350, 1351, 1352, 1353, 1354, 1355, 1356, 1357, 1358, 1359, 1360] (by decide +kernel) (by decide +kernel)
set_option maxRecDepth 20000 in
theorem gL_law_X11_look : GoodIn wsL_law (wsV RL 66 RX11 yX11_look wsX11_look) := goodIn_app (goodIn_of _ (by decide +kernel)) ggL_law_X11_look
set_option maxRecDepth 20000 in
theorem ggL_law_X10_undo : GoodIn wsL_law wsX10_undo := goodIn_r _ [655, 30, 656, 17, 657, 658, 659, 29, 660, 334, 87, 423, 424, 327, 328, 16, 329, 61, 69, 70, 71, 72, 62, 63, 64, 65, 66, 67, 68, 193, 194, 195, 196, 197, 1317, 1318, 1319, 1320, 1321, 1322, 1323, 1324, 1325, 1326, 1327, 1328, 1329, 1330, 1385, 1386, 1387, 1361, 1362, 1363, 1364, 1365, 1366, 1367, 1368, 1369, 1370, 1371, 1372, 1373] (by decide +kernel) (by decide +kernel)
set_option maxRecDepth 20000 in
theorem gL_law_X10_undo : GoodIn wsL_law (wsV RL 67 RX10 yX10_undo wsX10_undo) := goodIn_app (goodIn_of _ (by decide +kernel)) ggL_law_X10_undo
set_option maxRecDepth 20000 in
theorem ggL_law_X11_undo : GoodIn wsL_law wsX11_undo := goodIn_r _ [664, 170, 152, 124, 128, 1331, 1332, 1333, 1334, 1335, 1336, 1337, 1338, 1339, 1340, 1341, 1342, 1343, 1344, 1345, 1346, 1347, 1348, 1349, 1350, 1351, 1352, 1353, 1354, 1355, 1356, 1357, 1358, 1359, 1360] (by decide +kernel) (by decide +kernel)
set_option maxRecDepth 20000 in
theorem gL_law_X11_undo : GoodIn wsL_law (wsV RL 70 RX11 yX11_undo wsX11_undo) := goodIn_app (goodIn_of _ (by decide +kernel)) ggL_law_X11_undo
set_option maxRecDepth 20000 in
theorem ggL_law_X10_count : GoodIn wsL_law wsX10_count := goodIn_r _ [668, 17, 453, 180, 462, 500, 669, 30, 656, 22, 157, 530, 306, 307, 2, 308, 670, 671, 672, 673, 674, 675, 676, 677, 678, 679, 680, 681, 682, 683, 561, 562, 16, 563, 62, 558, 559, 684, 591, 592, 593, 594, 595, 596, 685, 686, 687, 688, 38, 532, 538, 539, 540, 37, 541, 542, 543, 544, 545, 546, 547, 92, 93, 548, 549, 304, 305, 550, 551, 552, 553, 64, 554, 555, 556, 557, 63, 560, 564, 689, 690, 691, 692, 693, 694, 695, 696, 579, 580, 581, 582, 570, 697, 698, 699, 700, 571, 572, 573, 574, 94, 575, 576, 577, 578, 583, 584, 585, 586, 587, 588, 535, 589, 701, 702, 703, 704, 590, 705, 706, 707, 708, 194, 709, 710, 711, 712, 713, 714, 715, 716, 717, 718, 719, 720, 721, 722, 723, 724, 565, 566, 567, 568, 569, 597, 598, 599, 600, 95, 96, 601, 602, 603, 604, 1317, 1318, 1319, 1320, 1321, 1322, 1323, 1324, 1325, 1326, 1327, 1328, 1329, 1330, 1361, 1362, 1363, 1364, 1365, 1366, 1367, 1368, 1369, 1370, 1371, 1372, 1373, 1385, 1386, 1387, 1374, 1375, 1376, 1377, 1388, 1389, 1390, 1391, 1392, 1393] (by decide +kernel) (by decide +kernel)
set_option maxRecDepth 20000 in
theorem gL_law_X10_count : GoodIn wsL_law (wsV RL 71 RX10 yX10_count wsX10_count) := goodIn_app (goodIn_of _ (by decide +kernel)) ggL_law_X10_count
set_option maxRecDepth 20000 in
theorem ggL_law_X11_count : GoodIn wsL_law wsX11_count := goodIn_r _ [728, 170, 124, 617, 152, 626, 627, 628, 5, 629, 130, 630, 631, 632, 633, 522, 523, 524, 525, 443, 444, 445, 446, 634, 635, 636, 637, 638, 639, 640, 641, 642, 643, 644, 729, 730, 731, 732, 733, 734, 735, 736, 737, 738, 739, 740, 741, 742, 743, 744, 745, 746, 747, 748, 749, 750, 751, 752, 753, 754, 755, 756, 757, 758, 759, 760, 761, 762, 763, 764, 765, 766, 767, 768, 769, 770, 771, 772, 773, 774, 775, 622, 623, 624, 625, 133, 131, 132, 645, 646, 647, 648, 1331, 1332, 1333, 1334, 1335, 1336, 1337, 1338, 1339, 1340, 1341, 1342, 1343, 1344, 1345, 1346, 1347, 1348, 1349, 1350, 1351, 1352, 1353, 1354, 1355, 1356, 1357, 1358, 1359, 1360] (by decide +kernel) (by decide +kernel)
set_option maxRecDepth 20000 in
theorem gL_law_X11_count : GoodIn wsL_law (wsV RL 74 RX11 yX11_count wsX11_count) := goodIn_app (goodIn_of _ (by decide +kernel)) ggL_law_X11_count
set_option maxRecDepth 20000 in
theorem ggL_law_L_gapOf : GoodIn wsL_law wsL_gapOf := goodIn_ca (goodIn_r _ [779, 780, 781, 782, 783, 2, 784, 785, 786, 17, 787, 38, 788, 430, 431, 16, 432, 193, 306, 307, 308, 538, 539, 540, 37, 541, 542, 543, 544, 545, 546, 547, 92, 93, 548, 549, 304, 305, 550, 551, 552, 553, 62, 64, 554, 555, 556, 557, 63, 558, 559, 560, 561, 562, 563, 564, 789, 694, 695, 696, 579, 580, 581, 582, 570, 790, 791, 792, 793, 194, 794, 795, 796, 672, 797, 674, 683, 1317, 1318, 1319, 1320, 1321, 1322, 1323, 1324, 1325, 1326, 1327, 1328, 1329, 1330, 1361, 1362, 1363, 1364, 1365, 1366, 1367, 1368, 1369, 1370, 1371, 1372, 1373, 1388, 1389, 1390, 1391, 1392, 1393] (by decide +kernel) (by decide +kernel)) (goodIn_sub (fun _ h => List.mem_append_right _ h) (by decide +kernel))
set_option maxRecDepth 20000 in
theorem gL_law_L_gapOf : GoodIn wsL_law (va_wsS RL 75 yL_gapOf wsL_gapOf) := goodIn_app (goodIn_of _ (by decide +kernel)) ggL_law_L_gapOf
set_option maxRecDepth 20000 in
theorem ggL_law_X11_gapOf : GoodIn wsL_law wsX11_gapOf := goodIn_r _ [801, 170, 802, 803, 804, 5, 805, 124, 353, 354, 355, 626, 627, 628, 629, 130, 630, 631, 632, 633, 522, 523, 524, 525, 443, 444, 445, 446, 634, 635, 636, 637, 638, 639, 640, 641, 642, 643, 644, 748, 749, 750, 751, 752, 753, 754, 755, 806, 807, 808, 809, 810, 811, 812, 813, 1331, 1332, 1333, 1334, 1335, 1336, 1337, 1338, 1339, 1340, 1341, 1342, 1343, 1344, 1345, 1346, 1347, 1348, 1349, 1350, 1351, 1352, 1353, 1354, 1355, 1356, 1357, 1358, 1359, 1360] (by decide +kernel) (by decide +kernel)
set_option maxRecDepth 20000 in
theorem gL_law_X11_gapOf : GoodIn wsL_law (wsV RL 80 RX11 yX11_gapOf wsX11_gapOf) := goodIn_app (goodIn_of _ (by decide +kernel)) ggL_law_X11_gapOf
set_option maxRecDepth 20000 in
theorem ggL_law_X11_thrown : GoodIn wsL_law wsX11_thrown := goodIn_r _ [817, 170, 1331, 1332, 1333, 1334, 1335, 1336, 1337, 1338, 1339, 1340, 1341, 1342, 1343, 1344, 1345, 1346, 1347, 1348, 1349, 1350, 1351, 1352, 1353, 1354, 1355, 1356, 1357, 1358, 1359, 1360] (by decide +kernel) (by decide +kernel)
set_option maxRecDepth 20000 in
theorem gL_law_X11_thrown : GoodIn wsL_law (wsV RL 81 RX11 yX11_thrown wsX11_thrown) := goodIn_app (goodIn_of _ (by decide +kernel)) ggL_law_X11_thrown
set_option maxRecDepth 20000 in
theorem ggL_law_L_targetOf : GoodIn wsL_law wsL_targetOf := goodIn_ca (goodIn_r _ [820, 780, 821, 822, 823, 2, 824, 785, 786, 17, 825, 826, 827, 38, 475, 476, 477, 16, 478, 194, 306, 307, 308, 828, 555, 556, 557, 63, 829, 830, 831, 832, 193, 61, 794, 551, 552, 553, 62, 64, 554, 558, 559, 560, 561, 562, 563, 833, 680, 672, 681, 678, 682, 683, 538, 539, 540, 37, 541, 542, 543, 544, 545, 546, 547, 92, 93, 548, 549, 304, 305, 550, 564, 834, 714, 715, 716, 570, 717, 718, 719, 720, 721, 722, 723, 724, 579, 580, 581, 582, 590, 591, 592, 593, 594, 595, 596, 1317, 1318, 1319, 1320, 1321, 1322, 1323, 1324, 1325, 1326, 1327, 1328, 1329, 1330, 1361, 1362, 1363, 1364, 1365, 1366, 1367, 1368, 1369, 1370, 1371, 1372, 1373, 1388, 1389, 1390, 1391, 1392, 1393] (by decide +kernel) (by decide +kernel)) (goodIn_sub (fun _ h => List.mem_append_right _ h) (by decide +kernel))
set_option maxRecDepth 20000 in
theorem gL_law_L_targetOf : GoodIn wsL_law (va_wsS RL 84 yL_targetOf wsL_targetOf) := goodIn_app (goodIn_of _ (by decide +kernel)) ggL_law_L_targetOf
set_option maxRecDepth 20000 in
theorem ggL_law_X11_targetOf : GoodIn wsL_law wsX11_targetOf := goodIn_r _ [838, 170, 124, 488, 489, 490, 5, 491, 353, 354, 355, 626, 627, 628, 629, 130, 630, 631, 632, 633, 522, 523, 524, 525, 443, 444, 445, 446, 634, 635, 636, 637, 638, 639, 640, 641, 642, 643, 644, 839, 840, 841, 842, 737, 738, 739, 740, 760, 761, 762, 763, 764, 765, 766, 767, 752, 753, 754, 755, 741, 742, 743, 1331, 1332, 1333, 1334, 1335, 1336, 1337, 1338, 1339, 1340, 1341, 1342, 1343, 1344, 1345, 1346, 1347, 1348, 1349, 1350, 1351, 1352, 1353, 1354, 1355, 1356, 1357, 1358, 1359, 1360] (by decide +kernel) (by decide +kernel)
set_option maxRecDepth 20000 in
theorem gL_law_X11_targetOf : GoodIn wsL_law (wsV RL 86 RX11 yX11_targetOf wsX11_targetOf) := goodIn_app (goodIn_of _ (by decide +kernel)) ggL_law_X11_targetOf
set_option maxRecDepth 20000 in
theorem ggL_law_X10_blind : GoodIn wsL_law wsX10_blind := goodIn_r _ [846, 17, 463, 464, 2, 465, 306, 307, 308, 833, 680, 672, 681, 678, 682, 683, 561, 562, 16, 563, 62, 558, 559, 1317, 1318, 1319, 1320, 1321, 1322, 1323, 1324, 1325, 1326, 1327, 1328, 1329, 1330, 1361, 1362, 1363, 1364, 1365, 1366, 1367, 1368, 1369, 1370, 1371, 1372, 1373] (by decide +kernel) (by decide +kernel)
set_option maxRecDepth 20000 in
theorem gL_law_X10_blind : GoodIn wsL_law (wsV RL 87 RX10 yX10_blind wsX10_blind) := goodIn_app (goodIn_of _ (by decide +kernel)) ggL_law_X10_blind
set_option maxRecDepth 20000 in
theorem ggL_law_X11_blind : GoodIn wsL_law wsX11_blind := goodIn_r _ [850, 170, 353, 354, 5, 355, 737, 738, 739, 740, 124, 443, 444, 445, 446, 638, 639, 640, 641, 642, 643, 644, 1331, 1332, 1333, 1334, 1335, 1336, 1337, 1338, 1339, 1340, 1341, 1342, 1343, 1344, 1345, 1346, 1347, 1348, 1349, 1350, 1351, 1352, 1353, 1354, 1355, 1356, 1357, 1358, 1359, 1360] (by decide +kernel) (by decide +kernel)
set_option maxRecDepth 20000 in
theorem gL_law_X11_blind : GoodIn wsL_law (wsV RL 90 RX11 yX11_blind wsX11_blind) := goodIn_app (goodIn_of _ (by decide +kernel)) ggL_law_X11_blind
set_option maxRecDepth 20000 in
theorem ggL_law_X10_doppler : GoodIn wsL_law wsX10_doppler := goodIn_r _ [854, 17, 787, 453, 463, 464, 2, 465, 306, 307, 308, 788, 430, 431, 16, 432, 193, 855, 558, 559, 1317, 1318, 1319, 1320, 1321, 1322, 1323, 1324, 1325, 1326, 1327, 1328, 1329, 1330, 1361, 1362, 1363, 1364, 1365, 1366, 1367, 1368, 1369, 1370, 1371, 1372, 1373] (by decide +kernel) (by decide +kernel)
set_option maxRecDepth 20000 in
theorem gL_law_X10_doppler : GoodIn wsL_law (wsV RL 91 RX10 yX10_doppler wsX10_doppler) := goodIn_app (goodIn_of _ (by decide +kernel)) ggL_law_X10_doppler
set_option maxRecDepth 20000 in
theorem ggL_law_X11_doppler : GoodIn wsL_law wsX11_doppler := goodIn_r _ [859, 170, 124, 353, 354, 5, 355, 802, 803, 804, 805, 443, 444, 445, 446, 642, 643, 644, 1331, 1332, 1333, 1334, 1335, 1336, 1337, 1338, 1339, 1340, 1341, 1342, 1343, 1344, 1345, 1346, 1347, 1348, 1349, 1350, 1351, 1352, 1353, 1354, 1355, 1356, 1357, 1358, 1359, 1360] (by decide +kernel) (by decide +kernel)
set_option maxRecDepth 20000 in
theorem gL_law_X11_doppler : GoodIn wsL_law (wsV RL 94 RX11 yX11_doppler wsX11_doppler) := goodIn_app (goodIn_of _ (by decide +kernel)) ggL_law_X11_doppler
set_option maxRecDepth 20000 in
theorem ggL_law_X10_dark : GoodIn wsL_law wsX10_dark := goodIn_r _ [863, 17, 864, 865, 672, 866, 674, 675, 676, 677, 678, 679, 680, 681, 682, 683, 561, 562, 16, 563, 62, 558, 2, 559, 684, 591, 592, 593, 594, 595, 596, 1317, 1318, 1319, 1320, 1321, 1322, 1323, 1324, 1325, 1326, 1327, 1328, 1329, 1330, 1361, 1362, 1363, 1364, 1365, 1366, 1367, 1368, 1369, 1370, 1371, 1372, 1373] (by decide +kernel) (by decide +kernel)
set_option maxRecDepth 20000 in
theorem gL_law_X10_dark : GoodIn wsL_law (wsV RL 95 RX10 yX10_dark wsX10_dark) := goodIn_app (goodIn_of _ (by decide +kernel)) ggL_law_X10_dark
set_option maxRecDepth 20000 in
theorem ggL_law_X11_dark : GoodIn wsL_law wsX11_dark := goodIn_r _ [870, 170, 124, 733, 734, 735, 5, 736, 737, 738, 739, 740, 443, 444, 445, 446, 638, 639, 640, 641, 642, 643, 644, 741, 742, 743, 1331, 1332, 1333, 1334, 1335, 1336, 1337, 1338, 1339, 1340, 1341, 1342, 1343, 1344, 1345, 1346, 1347, 1348, 1349, 1350, 1351, 1352, 1353, 1354, 1355, 1356, 1357, 1358, 1359, 1360] (by decide +kernel) (by decide +kernel)
set_option maxRecDepth 20000 in
theorem gL_law_X11_dark : GoodIn wsL_law (wsV RL 98 RX11 yX11_dark wsX11_dark) := goodIn_app (goodIn_of _ (by decide +kernel)) ggL_law_X11_dark
set_option maxRecDepth 20000 in
theorem ggL_law_X10_period : GoodIn wsL_law wsX10_period := goodIn_r _ [874, 17, 875, 876, 672, 877, 674, 678, 682, 878, 2, 879, 1317, 1318, 1319, 1320, 1321, 1322, 1323, 1324, 1325, 1326, 1327, 1328, 1329, 1330, 1361, 1362, 1363, 1364, 1365, 1366, 1367, 1368, 1369, 1370, 1371, 1372, 1373] (by decide +kernel) (by decide +kernel)
set_option maxRecDepth 20000 in
theorem gL_law_X10_period : GoodIn wsL_law (wsV RL 99 RX10 yX10_period wsX10_period) := goodIn_app (goodIn_of _ (by decide +kernel)) ggL_law_X10_period
/-! ===== END ===== -/
