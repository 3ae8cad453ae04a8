/-! ===== the words behind the mini machine's tables: each by its place in lw_tbl (places by program) ===== -/
def mj_gw : Cond → Bool
  | .arrayClass _ => true
  | .methodLinkNest .. => true
  | .arrayOver (.object _) => true
  | w => w.onTables && w.keepsFace
theorem mj_warm {s U : State} {args a' : Array Value} {c : Cond} (hW : s.WarmedH U.vm) (hc : mj_gw c = true) (h : c.before args s = true) : c.before a' U = true := by
  have key : (c.onTables && c.keepsFace) = true → c.before a' U = true := by
    intro hk
    simp only [Bool.and_eq_true] at hk
    exact va_tabs hk.1 (rfl : (s.setVm U.vm).vm = U.vm) (Cond.before_shiftedFace (State.Shifted.of_warmed hW) _ hk.2 h)
  cases c with
  | arrayClass ty => exact word_at hW (Or.inr ⟨_, rfl⟩) h
  | methodLinkNest a i x h' => exact va_Nw.use rfl (va_Nw.warmM hW (va_Nw.of rfl h))
  | arrayOver ty =>
    cases ty with
    | object C => exact va_AO.use (va_AO.moved hW.alike (va_AO.of h))
    | _ => exact key hc
  | _ => exact key hc
/-- all words that last -/
def mj_GT : List Cond := lw_tbl.filter mj_gw
theorem mj_GT_of {w : Cond} (h : w ∈ lw_tbl) (hg : mj_gw w = true) : w ∈ mj_GT := List.mem_filter.mpr ⟨h, hg⟩
theorem mj_GT_warm {s : State} {args : Array Value} (hts : ∀ w ∈ mj_GT, w.before args s = true) : ∀ w ∈ mj_GT, ∀ (a' : Array Value) (U : State), s.WarmedH U.vm → w.before a' U = true :=
  fun w hw a' U hW => mj_warm hW (List.mem_filter.mp hw).2 (hts w hw)
theorem mj_pl {w : Cond} {p : Nat} (h : lw_tbl[p]? = some w) (hg : mj_gw w = true) : w ∈ mj_GT := mj_GT_of (List.mem_of_getElem? h) hg
theorem mj_zip {α β : Type} {l : List α} {ps : List β} {f : α × β → Bool} (h : (l.zip ps).all f = true) (hn : l.length = ps.length) {q : α} (hq : q ∈ l) : ∃ p, f (q, p) = true := by
  obtain ⟨i, hi, rfl⟩ := List.getElem_of_mem hq
  have hz : (l[i], ps[i]'(hn ▸ hi)) ∈ l.zip ps := by
    have hlen : i < (l.zip ps).length := by rw [List.length_zip]; omega
    have := List.getElem_mem hlen
    rwa [List.getElem_zip] at this
  exact ⟨_, List.all_eq_true.mp h _ hz⟩
/-- the words ws stand in lw_tbl at the places ps -/
def mj_ats (ws : List Cond) (ps : List Nat) : Bool := decide (ws.map some = ps.map (fun p => lw_tbl[p]?)) && ws.all mj_gw
theorem mj_ats_in {ws : List Cond} {ps : List Nat} (h : mj_ats ws ps = true) : ∀ w ∈ ws, w ∈ mj_GT := by
  unfold mj_ats at h
  simp only [Bool.and_eq_true, decide_eq_true_eq] at h
  intro w hw
  have h1 : some w ∈ ps.map (fun p => lw_tbl[p]?) := by rw [← h.1]; exact List.mem_map.mpr ⟨w, hw, rfl⟩
  obtain ⟨p, -, hp⟩ := List.mem_map.mp h1
  exact mj_pl hp (List.all_eq_true.mp h.2 w hw)
def mj_cw (j : Nat) : Cond := if mj_h j = [] then .code (mj_y j) (mj_b j) (mj_l j) (mj_r j) else .codeWith (mj_y j) (mj_b j) (mj_l j) (mj_r j) (mj_h j)
def mj_host : String := "PickedForms"
/-- what a call site's words are -/
def mj_wd (q : Nat × Nat × Nat × Nat) : List Cond := match q with
  | (o, x, 0, j) => [.methodLink (mj_own o) x (mj_y j), .instanceMethod (mj_y j), .selects (mj_y j).cls (mj_y j) (mj_y j), .initialized (mj_y j).cls, mj_cw j]
  | (o, x, 1, j) => [.methodLink (mj_own o) x (mj_y j), .static (mj_y j), .initialized (mj_y j).cls, mj_cw j]
  | (o, x, 2, j) => [.methodLink (mj_own o) x (mj_y j), .instanceMethod (mj_y j), .initialized (mj_y j).cls, mj_cw j]
  | (o, x, 3, j) => [.methodLinkNest (mj_own o) x (mj_y j) mj_host, .instanceMethod (mj_y j), .initialized (mj_y j).cls, mj_cw j]
  | (o, x, 4, _) => [.methodLink (mj_own o) x Lib.objectInit, .instanceMethod Lib.objectInit, .code Lib.objectInit ⟨#[0xb1]⟩ 1 none]
  | (o, x, 6, _) => [.methodLink (mj_own o) x Lib.Math.max.name, .static Lib.Math.max.name, .initialized "java/lang/Math", .code Lib.Math.max.name Lib.Math.max.code 2 (some .int)]
  | (o, x, 7, _) => [.methodLink (mj_own o) x Lib.Math.min.name, .static Lib.Math.min.name, .initialized "java/lang/Math", .code Lib.Math.min.name Lib.Math.min.code 2 (some .int)]
  | (o, x, _, _) => [.methodLink (mj_own o) x arraycopyName, .native arraycopyName, .static arraycopyName, .initialized "java/lang/System"]
def mj_callp_0 : List (List Nat) := [[114, 115, 92, 116], [1064, 1065, 101, 1066], [689, 690, 91, 691], [1127, 1128, 1129, 101, 1130], [1123, 1124, 1125, 101, 1126], [814, 815, 91, 816], [1219, 1220, 1221, 101, 1222], [822, 823, 91, 824], [1223, 1224, 1225, 101, 1226], [854, 855, 91, 856], [1235, 1236, 1237, 101, 1238], [866, 867, 91, 868], [1243, 1244, 1245, 101, 1246], [883, 884, 91, 885], [1251, 1252, 1253, 101, 1254], [896, 897, 91, 898], [1267, 1268, 1269, 101, 1270], [907, 908, 91, 909], [1271, 1272, 1273, 101, 1274], [922, 923, 91, 924], [1275, 1276, 1277, 101, 1278], [369, 370, 371, 92, 372], [1279, 1280, 1281, 101, 1282], [373, 374, 375, 92, 376], [1283, 1284, 1285, 101, 1286], [936, 937, 91, 938], [1315, 1316, 1317, 101, 1318], [393, 394, 395, 92, 396], [1319, 1320, 1321, 101, 1322], [956, 957, 91, 958], [1323, 1324, 1325, 101, 1326], [964, 965, 91, 966], [1327, 1328, 1329, 101, 1330], [976, 977, 91, 978], [1331, 1332, 1333, 101, 1334], [984, 985, 91, 986], [1343, 1344, 1345, 101, 1346], [992, 993, 91, 994], [1351, 1352, 1353, 101, 1354], [1000, 1001, 91, 1002]]
def mj_callp_1 : List (List Nat) := [[1355, 1356, 1357, 101, 1358], [1008, 1009, 91, 1010], [1379, 1380, 1381, 101, 1382], [1016, 1017, 91, 1018], [1399, 1400, 1401, 101, 1402], [1023, 1024, 91, 1025], [1403, 1404, 1405, 101, 1406], [1035, 1036, 91, 1037], [1415, 1416, 1417, 101, 1418], [1047, 1048, 91, 1049], [1419, 1420, 1421, 101, 1422], [1054, 1055, 91, 1056], [1427, 1428, 1429, 101, 1430], [410, 411, 412, 92, 413], [1439, 1440, 1441, 101, 1442], [432, 433, 434, 92, 435], [1447, 1448, 1449, 101, 1450], [436, 437, 438, 92, 439], [1455, 1456, 1457, 101, 1458], [117, 118, 119], [122, 123, 93, 124], [172, 173, 94, 174], [192, 193, 95, 194], [219, 220, 96, 221], [264, 265, 97, 266], [284, 285, 98, 286], [304, 305, 99, 306], [322, 323, 100, 324], [125, 118, 119], [175, 118, 119], [178, 123, 93, 124], [195, 118, 119], [222, 118, 119], [267, 118, 119], [269, 220, 96, 221], [287, 118, 119], [289, 220, 96, 221], [307, 118, 119], [309, 220, 96, 221], [325, 118, 119]]
def mj_callp_2 : List (List Nat) := [[377, 378, 379, 95, 380], [381, 382, 106, 383], [384, 385, 95, 386], [387, 388, 95, 389], [390, 391, 95, 392], [397, 398, 399, 93, 400], [401, 402, 106, 403], [404, 405, 108, 406], [407, 409, 408, 109], [414, 416, 0, 92, 417], [418, 419, 420, 93, 421], [423, 424, 425, 93, 426], [422, 382, 106, 383], [427, 428, 429, 93, 430], [441, 443, 1, 92, 444], [496, 497, 92, 498], [500, 501, 502, 93, 503], [504, 506, 5, 92, 507], [521, 523, 8, 92, 524], [596, 598, 18, 92, 599], [636, 638, 23, 92, 639], [677, 411, 412, 92, 413], [678, 679, 111, 680], [684, 433, 434, 92, 435], [685, 686, 111, 687], [516, 382, 106, 383], [445, 447, 2, 92, 448], [492, 493, 494, 93, 495], [449, 451, 3, 92, 452], [481, 482, 483, 93, 484], [485, 486, 487, 96, 488], [453, 428, 429, 93, 430], [454, 455, 456, 93, 457], [458, 459, 460, 96, 461], [462, 463, 464, 96, 465], [466, 382, 106, 383], [467, 468, 469, 96, 470], [471, 472, 106, 473], [474, 475, 108, 476], [477, 479, 4, 96, 480]]
def mj_callp_3 : List (List Nat) := [[489, 490, 106, 491], [508, 510, 6, 92, 511], [512, 513, 514, 93, 515], [517, 519, 7, 92, 520], [525, 527, 9, 92, 528], [547, 549, 10, 92, 550], [592, 594, 17, 92, 595], [529, 530, 531, 93, 532], [533, 534, 535, 97, 536], [537, 382, 106, 383], [538, 405, 108, 406], [539, 463, 464, 96, 465], [540, 468, 469, 96, 470], [541, 542, 543, 96, 544], [546, 486, 487, 96, 488], [545, 486, 487, 96, 488], [551, 552, 553, 100, 554], [555, 428, 429, 93, 430], [556, 455, 456, 93, 457], [557, 482, 483, 93, 484], [558, 560, 11, 100, 561], [571, 573, 13, 100, 574], [575, 577, 14, 100, 578], [580, 582, 15, 100, 583], [588, 590, 16, 100, 591], [562, 490, 106, 491], [563, 565, 12, 100, 566], [570, 382, 106, 383], [567, 568, 106, 569], [579, 472, 106, 473], [584, 585, 586, 96, 587], [600, 601, 602, 98, 603], [628, 629, 630, 98, 631], [632, 633, 634, 98, 635], [604, 455, 456, 93, 457], [605, 459, 460, 96, 461], [606, 608, 19, 98, 609], [624, 626, 22, 98, 627], [610, 482, 483, 93, 484], [611, 613, 20, 98, 614]]
def mj_callp_4 : List (List Nat) := [[619, 621, 21, 98, 622], [615, 382, 106, 383], [616, 617, 98, 618], [623, 585, 586, 96, 587], [640, 641, 642, 99, 643], [665, 666, 667, 99, 668], [669, 670, 671, 99, 672], [673, 674, 675, 99, 676], [644, 501, 502, 93, 503], [645, 647, 24, 99, 648], [651, 405, 108, 406], [652, 463, 464, 96, 465], [653, 382, 106, 383], [654, 468, 469, 96, 470], [655, 657, 25, 99, 658], [661, 663, 26, 99, 664], [650, 568, 106, 569], [659, 542, 543, 96, 544], [660, 486, 487, 96, 488], [694, 695, 696, 92, 697], [698, 699, 92, 700], [769, 770, 771, 93, 772], [791, 792, 793, 94, 794], [800, 802, 29, 92, 803], [773, 424, 425, 93, 426], [774, 501, 502, 93, 503], [795, 797, 28, 94, 798], [799, 398, 399, 93, 400], [804, 568, 106, 569], [805, 806, 807, 93, 808], [810, 812, 30, 92, 813], [809, 568, 106, 569], [817, 818, 819, 92, 820], [826, 827, 828, 92, 829], [830, 831, 832, 93, 833], [850, 852, 31, 92, 853], [857, 858, 859, 92, 860], [861, 862, 863, 93, 864], [869, 870, 871, 92, 872], [875, 876, 877, 93, 878]]
def mj_callp_5 : List (List Nat) := [[879, 881, 32, 93, 882], [886, 887, 888, 92, 889], [892, 893, 894, 93, 895], [899, 900, 901, 92, 902], [903, 904, 905, 93, 906], [910, 911, 912, 92, 913], [914, 915, 92, 916], [918, 919, 92, 920], [925, 926, 927, 92, 928], [931, 932, 933, 95, 934], [935, 568, 106, 569], [939, 940, 941, 92, 942], [943, 944, 945, 95, 946], [948, 949, 950, 95, 951], [952, 954, 33, 95, 955], [959, 960, 961, 92, 962], [967, 968, 969, 92, 970], [972, 973, 974, 94, 975], [979, 980, 981, 92, 982], [987, 988, 989, 92, 990], [995, 996, 997, 92, 998], [1003, 1004, 1005, 92, 1006], [1011, 1012, 1013, 92, 1014], [1019, 1020, 1021, 92, 1022], [1026, 1027, 1028, 92, 1029], [1031, 1033, 34, 92, 1034], [1038, 1039, 1040, 92, 1041], [1043, 1045, 35, 92, 1046], [1050, 1051, 1052, 92, 1053], [1057, 1058, 1059, 92, 1060], [1067, 118, 119], [1131, 1132, 101, 1133], [1137, 1139, 36, 101, 1140], [1141, 1143, 37, 101, 1144], [1145, 1147, 38, 101, 1148], [1152, 1154, 39, 101, 1155], [1156, 1158, 40, 101, 1159], [1134, 1135, 101, 1136], [1149, 1150, 101, 1151], [1164, 1166, 42, 101, 1167]]
def mj_callp_6 : List (List Nat) := [[1160, 1162, 41, 101, 1163], [1168, 1170, 43, 101, 1171], [1172, 1174, 44, 101, 1175], [1215, 1217, 54, 101, 1218], [1176, 1178, 45, 101, 1179], [1180, 1182, 46, 101, 1183], [1184, 1186, 47, 101, 1187], [1188, 1190, 48, 101, 1191], [1192, 1193, 101, 1194], [1195, 1197, 49, 101, 1198], [1199, 1201, 50, 101, 1202], [1207, 1209, 52, 101, 1210], [1203, 1205, 51, 101, 1206], [1211, 1213, 53, 101, 1214], [1227, 1229, 55, 101, 1230], [1231, 1233, 56, 101, 1234], [1239, 1241, 57, 101, 1242], [1247, 1249, 58, 101, 1250], [1255, 1257, 59, 101, 1258], [1263, 1265, 61, 101, 1266], [1259, 1261, 60, 101, 1262], [1287, 1289, 62, 101, 1290], [1291, 1293, 63, 101, 1294], [1311, 1313, 68, 101, 1314], [1303, 1305, 66, 101, 1306], [1295, 1297, 64, 101, 1298], [1307, 1309, 67, 101, 1310], [1299, 1301, 65, 101, 1302], [1335, 1337, 69, 101, 1338], [1339, 1341, 70, 101, 1342], [1347, 1349, 71, 101, 1350], [1359, 1361, 72, 101, 1362], [1363, 1365, 73, 101, 1366], [1371, 1373, 75, 101, 1374], [1367, 1369, 74, 101, 1370], [1375, 1377, 76, 101, 1378], [1383, 1385, 77, 101, 1386], [1387, 1389, 78, 101, 1390], [1391, 1393, 79, 101, 1394], [1395, 1397, 80, 101, 1398]]
def mj_callp_7 : List (List Nat) := [[1407, 1409, 81, 101, 1410], [1411, 1413, 82, 101, 1414], [1423, 1425, 83, 101, 1426], [1431, 1433, 84, 101, 1434], [1435, 1437, 85, 101, 1438], [1443, 1445, 86, 101, 1446], [1451, 1453, 87, 101, 1454], [1460, 1462, 88, 101, 1463], [1465, 1467, 89, 101, 1468], [1469, 1471, 90, 101, 1472], [1473, 1474, 101, 1475], [1480, 1481, 101, 1482]]
theorem mj_call_ok : ∀ q ∈ mj_call, ∀ w ∈ mj_wd q, w ∈ mj_GT := by
  have h0 : (((mj_call.drop 0).take 40).zip mj_callp_0).all (fun z => mj_ats (mj_wd z.1) z.2) = true := by decide +kernel
  have n0 : ((mj_call.drop 0).take 40).length = mj_callp_0.length := by decide +kernel
  have h1 : (((mj_call.drop 40).take 40).zip mj_callp_1).all (fun z => mj_ats (mj_wd z.1) z.2) = true := by decide +kernel
  have n1 : ((mj_call.drop 40).take 40).length = mj_callp_1.length := by decide +kernel
  have h2 : (((mj_call.drop 80).take 40).zip mj_callp_2).all (fun z => mj_ats (mj_wd z.1) z.2) = true := by decide +kernel
  have n2 : ((mj_call.drop 80).take 40).length = mj_callp_2.length := by decide +kernel
  have h3 : (((mj_call.drop 120).take 40).zip mj_callp_3).all (fun z => mj_ats (mj_wd z.1) z.2) = true := by decide +kernel
  have n3 : ((mj_call.drop 120).take 40).length = mj_callp_3.length := by decide +kernel
  have h4 : (((mj_call.drop 160).take 40).zip mj_callp_4).all (fun z => mj_ats (mj_wd z.1) z.2) = true := by decide +kernel
  have n4 : ((mj_call.drop 160).take 40).length = mj_callp_4.length := by decide +kernel
  have h5 : (((mj_call.drop 200).take 40).zip mj_callp_5).all (fun z => mj_ats (mj_wd z.1) z.2) = true := by decide +kernel
  have n5 : ((mj_call.drop 200).take 40).length = mj_callp_5.length := by decide +kernel
  have h6 : (((mj_call.drop 240).take 40).zip mj_callp_6).all (fun z => mj_ats (mj_wd z.1) z.2) = true := by decide +kernel
  have n6 : ((mj_call.drop 240).take 40).length = mj_callp_6.length := by decide +kernel
  have h7 : (((mj_call.drop 280).take 40).zip mj_callp_7).all (fun z => mj_ats (mj_wd z.1) z.2) = true := by decide +kernel
  have n7 : ((mj_call.drop 280).take 40).length = mj_callp_7.length := by decide +kernel
  have e : mj_call = (mj_call.drop 0).take 40 ++ ((mj_call.drop 40).take 40 ++ ((mj_call.drop 80).take 40 ++ ((mj_call.drop 120).take 40 ++ ((mj_call.drop 160).take 40 ++ ((mj_call.drop 200).take 40 ++ ((mj_call.drop 240).take 40 ++ ((mj_call.drop 280).take 40))))))) := by decide +kernel
  intro q hq
  rw [e] at hq
  simp only [List.mem_append] at hq
  rcases hq with hq | hq | hq | hq | hq | hq | hq | hq
  · obtain ⟨p, hp⟩ := mj_zip h0 n0 hq
    exact mj_ats_in hp
  · obtain ⟨p, hp⟩ := mj_zip h1 n1 hq
    exact mj_ats_in hp
  · obtain ⟨p, hp⟩ := mj_zip h2 n2 hq
    exact mj_ats_in hp
  · obtain ⟨p, hp⟩ := mj_zip h3 n3 hq
    exact mj_ats_in hp
  · obtain ⟨p, hp⟩ := mj_zip h4 n4 hq
    exact mj_ats_in hp
  · obtain ⟨p, hp⟩ := mj_zip h5 n5 hq
    exact mj_ats_in hp
  · obtain ⟨p, hp⟩ := mj_zip h6 n6 hq
    exact mj_ats_in hp
  · obtain ⟨p, hp⟩ := mj_zip h7 n7 hq
    exact mj_ats_in hp
