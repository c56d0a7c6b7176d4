/-! THE TABLES' WORDS: every row of the small machine's tables is a word of the Statement's (printed by wip/whole/gen_words.py) -/
def ab_W : List Jvm.Cond := lw_tbl.filter goodWord
theorem ab_W_good : GoodIn ab_W ab_W := fun w h => ⟨h, good_of_word (List.mem_filter.mp h).2⟩
theorem ab_W_tbl {w : Jvm.Cond} (h : w ∈ ab_W) : w ∈ lw_tbl := (List.mem_filter.mp h).1
def ab_ats : List Jvm.Cond → List Nat → Bool
  | [], _ => true
  | w :: ws, i :: is => decide (lw_tbl[i]? = some w) && goodWord w && ab_ats ws is
  | _ :: _, [] => false
theorem ab_ats_mem : ∀ {ws : List Jvm.Cond} {is : List Nat}, ab_ats ws is = true → ∀ w ∈ ws, w ∈ ab_W
  | [], _, _, _, h => by cases h
  | w :: ws, [], h, _, _ => by cases h
  | w :: ws, i :: is, h, v, hv => by
    simp only [ab_ats, Bool.and_eq_true, decide_eq_true_eq] at h
    rcases List.mem_cons.mp hv with e | e
    · subst e
      exact List.mem_filter.mpr ⟨List.mem_of_getElem? h.1.1, h.1.2⟩
    · exact ab_ats_mem h.2 v e
def ab_all2 {α : Type} (f : α → List Nat → Bool) : List α → List (List Nat) → Bool
  | [], _ => true
  | a :: as, i :: is => f a i && ab_all2 f as is
  | _ :: _, [] => false
theorem ab_all2_mem {α : Type} {f : α → List Nat → Bool} : ∀ {as : List α} {is : List (List Nat)}, ab_all2 f as is = true → ∀ a ∈ as, ∃ i, f a i = true
  | [], _, _, _, h => by cases h
  | a :: as, [], h, _, _ => by cases h
  | a :: as, i :: is, h, v, hv => by
    simp only [ab_all2, Bool.and_eq_true] at h
    rcases List.mem_cons.mp hv with e | e
    · subst e
      exact ⟨i, h.1⟩
    · exact ab_all2_mem h.2 v e
def ab_mok (q : MethodName × ByteArray × Nat × Nat × Nat) (is : List Nat) : Bool := ab_ats [.code q.1 q.2.1 q.2.2.1 (ab_ret q.2.2.2.1)] is && decide (q.1.cls = ab_cl q.2.2.2.2) && plainName q.1.cls && (decide (q.2.2.2.1 = 3) == decide (q.1.name = "<init>")) && decide (q.2.2.1 ≤ 20) && decide (q.1.cls ≠ "java/lang/invoke/MethodHandle") && decide (q.1.cls ≠ "java/lang/invoke/VarHandle")
def ab_y (mid : Nat) : MethodName := match ab_mT[mid]? with
  | some q => q.1
  | none => ⟨"", "", ""⟩
def ab_np (y : MethodName) (n : Nat) : Bool := decide ((parseMethodDescriptor y.desc).map (fun d => d.parameters.length) = some n)
def ab_cw (q : Nat × Nat × Nat × Nat × Nat × Nat) : List Jvm.Cond :=
  let own := ab_cl q.1
  let y := ab_y q.2.2.2.1
  if q.2.2.1 = 0 then [.methodLink own q.2.1 y, .instanceMethod y, .selects y.cls y y, .initialized y.cls]
  else if q.2.2.1 = 1 then [.methodLink own q.2.1 y, .static y, .initialized y.cls]
  else if q.2.2.1 = 2 then [.methodLink own q.2.1 y, .instanceMethod y, .initialized y.cls]
  else if q.2.2.1 = 3 then [.instanceMethod y, .initialized y.cls]
  else if q.2.2.1 = 4 then [.methodLink own q.2.1 objectInit, .instanceMethod objectInit, .code objectInit ⟨#[0xb1]⟩ 1 none]
  else if q.2.2.1 = 5 then [.methodLink own q.2.1 Lib.Math.max.name, .static Lib.Math.max.name, .initialized "java/lang/Math", .code Lib.Math.max.name Lib.Math.max.code 2 (some .int)]
  else if q.2.2.1 = 6 then [.methodLink own q.2.1 Lib.Math.min.name, .static Lib.Math.min.name, .initialized "java/lang/Math", .code Lib.Math.min.name Lib.Math.min.code 2 (some .int)]
  else if q.2.2.1 = 7 then [.methodLink own q.2.1 Lib.Math.abs.name, .static Lib.Math.abs.name, .initialized "java/lang/Math", .code Lib.Math.abs.name Lib.Math.abs.code 1 (some .int)]
  else if q.2.2.1 = 8 then [.methodLink own q.2.1 arraycopyName, .native arraycopyName, .static arraycopyName, .initialized "java/lang/System"]
  else []
/-- the class number of a receiver is its method's class; a constructor's name -/
def ab_cok (q : Nat × Nat × Nat × Nat × Nat × Nat) (is : List Nat) : Bool := ab_ats (ab_cw q) is &&
  (if q.2.2.1 ≤ 3 then ab_np (ab_y q.2.2.2.1) q.2.2.2.2.1 && (q.2.2.1 == 1 || decide ((ab_vw[q.2.2.2.2.2]?).map (fun v => v.1) = some (ab_y q.2.2.2.1).cls)) && (decide (q.2.2.1 < 2) || decide ((ab_y q.2.2.2.1).name = "<init>")) && decide (q.2.2.2.1 < 267) else true)
def ab_T (ci : Nat) : u_T := ((ab_vw[ci]?).map (fun v => v.2.1)).getD (fun _ => ("", "", "", false))
def ab_N (ci : Nat) : Nat := ((ab_vw[ci]?).map (fun v => v.2.2)).getD 0
def ab_tco (ty : FieldType) (tc : Nat) : Bool := match ty with
  | .int => tc == 0
  | .boolean => tc == 1
  | .object _ => tc == 2
  | .array _ => tc == 2
  | _ => false
def ab_fok (q : Nat × Nat × Nat × Nat × Nat × Nat) (is : List Nat) : Bool :=
  let f := ab_T q.2.2.1 q.2.2.2.1
  ab_ats [.fieldLink (ab_cl q.1) q.2.1 f.1 f.2.1 f.2.2.1] is && decide (q.2.2.2.1 < ab_N q.2.2.1) && (f.2.2.2 == (q.2.2.2.2.1 == 1)) && decide (q.2.2.2.2.1 ≤ 1) && (match parseFieldDescriptor f.2.2.1 with
    | some ty => ab_tco ty q.2.2.2.2.2
    | none => false) && decide (q.2.2.1 < 8) && (q.2.2.2.2.1 == 0 || decide (f.1 = (((ab_vw[q.2.2.1]?).map (fun v => v.1)).getD "")))
def ab_nok (q : Nat × Nat × Nat × List Nat) (is : List Nat) : Bool := let C := ((ab_vw[q.2.2.1]?).map (fun v => v.1)).getD ""
  ab_ats [.classLink (ab_cl q.1) q.2.1 C, .instantiable C (ab_N q.2.2.1), .initialized C] is && decide (q.2.2.1 < 8) && decide (q.2.2.2.length = ab_N q.2.2.1) && (List.range (ab_N q.2.2.1)).all (fun k => match parseFieldDescriptor (ab_T q.2.2.1 k).2.2.1 with
    | some ty => ab_tco ty (q.2.2.2.getD k 9)
    | none => false)
def ab_kok (q : Nat × Nat × Int32) (is : List Nat) : Bool := ab_ats [.constant (ab_cl q.1) q.2.1 q.2.2] is
def ab_lok (q : Nat × Nat × Int64) (is : List Nat) : Bool := ab_ats [.constantLong (ab_cl q.1) q.2.1 q.2.2] is
def ab_sok (q : Nat × Nat × Nat) (is : List Nat) : Bool := ab_ats [.fieldLink (ab_cl q.1) q.2.1 "FairLabels$Maker" (ab_sn.getD q.2.2 "") "[I"] is && decide (1 ≤ q.2.2) && decide (q.2.2 ≤ 5)
set_option maxRecDepth 100000 in
theorem ab_mok0 : ab_all2 ab_mok ab_mT0 [[266], [825], [923], [759], [914], [859], [876], [872], [919], [904], [864], [154], [771], [684], [596], [404], [411], [554], [665], [619], [525], [709], [533], [588], [600], [584], [661], [609], [605], [592], [719], [645], [672], [693], [689], [238], [1034], [550], [205], [415]] = true := by decide +kernel
set_option maxRecDepth 100000 in
theorem ab_mok1 : ab_all2 ab_mok ab_mT1 [[517], [509], [422], [432], [521], [445], [440], [542], [537], [513], [505], [400], [501], [419], [449], [426], [436], [260], [780], [811], [941], [819], [840], [806], [833], [836], [843], [815], [802], [847], [789], [764], [829], [797], [793], [135], [385], [381], [1047], [127]] = true := by decide +kernel
set_option maxRecDepth 100000 in
theorem ab_mok2 : ab_all2 ab_mok ab_mT2 [[627], [931], [885], [568], [755], [641], [855], [1025], [964], [389], [981], [564], [377], [572], [968], [580], [635], [631], [900], [698], [701], [396], [546], [909], [649], [623], [576], [751], [951], [1055], [946], [851], [1017], [676], [653], [936], [927], [959], [889], [880]] = true := by decide +kernel
set_option maxRecDepth 100000 in
theorem ab_mok3 : ab_all2 ab_mok ab_mT3 [[1038], [393], [680], [1030], [893], [1021], [747], [657], [1042], [1051], [1060], [1317], [1346], [1388], [1485], [1252], [1396], [1477], [1177], [1545], [1457], [1276], [1325], [1304], [1181], [1392], [1158], [1505], [1513], [1189], [1549], [1272], [1221], [1185], [1432], [1529], [1255], [1229], [1465], [1165]] = true := by decide +kernel
set_option maxRecDepth 100000 in
theorem ab_mok4 : ab_all2 ab_mok ab_mT4 [[1420], [1408], [1509], [1201], [1416], [1481], [1404], [1436], [1363], [1343], [1440], [1284], [1412], [1321], [1233], [1161], [1288], [1300], [1211], [1245], [1259], [1469], [1329], [1268], [1372], [1313], [1376], [1309], [1241], [1280], [1533], [1541], [1568], [1572], [1553], [1563], [1577], [1558], [1424], [1517]] = true := by decide +kernel
set_option maxRecDepth 100000 in
theorem ab_mok5 : ab_all2 ab_mok ab_mT5 [[1384], [1217], [1197], [1605], [1248], [1296], [1292], [1225], [1537], [1169], [1489], [1264], [1237], [1206], [1173], [1501], [1448], [1581], [1597], [1593], [1601], [1428], [1350], [1333], [1493], [1497], [1473], [1521], [1461], [1453], [1589], [1193], [1356], [1154], [1444], [1585], [1360], [1368], [1380], [1525]] = true := by decide +kernel
set_option maxRecDepth 100000 in
theorem ab_mok6 : ab_all2 ab_mok ab_mT6 [[1339], [1400], [739], [954], [712], [726], [731], [742], [767], [775], [734], [704], [715], [722], [896], [976], [990], [984], [1011], [971], [987], [997], [994], [1008], [612], [867], [407]] = true := by decide +kernel
theorem ab_mT_ok : ∀ q ∈ ab_mT, ∃ i, ab_mok q i = true := by
  intro q hq
  unfold ab_mT at hq
  simp only [List.mem_append] at hq
  rcases hq with h | h | h | h | h | h | h
  · exact ab_all2_mem ab_mok0 q h
  · exact ab_all2_mem ab_mok1 q h
  · exact ab_all2_mem ab_mok2 q h
  · exact ab_all2_mem ab_mok3 q h
  · exact ab_all2_mem ab_mok4 q h
  · exact ab_all2_mem ab_mok5 q h
  · exact ab_all2_mem ab_mok6 q h
def ab_cI0 : List (List Nat) := [[128, 129, 130], [203, 204, 108], [236, 237, 109], [258, 259, 110], [378, 379, 380, 106], [394, 395, 105], [397, 398, 399, 108], [543, 545, 15, 105], [569, 571, 16, 105], [577, 579, 17, 105], [581, 582, 583, 107], [585, 586, 587, 107], [597, 598, 599, 107], [601, 590, 591, 107], [602, 603, 604, 107], [616, 617, 618, 107], [628, 630, 18, 105], [636, 523, 524, 107], [547, 548, 549, 109], [637, 531, 532, 107], [642, 643, 644, 107], [632, 634, 19, 105], [658, 659, 660, 107], [662, 663, 664, 107], [669, 670, 671, 107], [681, 682, 683, 107], [686, 687, 688, 107], [690, 691, 692, 107], [699, 700, 105], [702, 703, 121], [752, 754, 20, 105], [852, 854, 33, 105], [881, 611, 120], [894, 895, 121], [901, 902, 903, 111], [559, 552, 553, 107], [910, 409, 410, 107], [911, 912, 913, 111], [761, 762, 763, 110], [916, 917, 918, 111], [756, 757, 758, 111], [932, 766, 121], [937, 528, 114, 529], [938, 939, 940, 110], [947, 707, 708, 107], [952, 953, 121], [960, 717, 718, 107], [969, 970, 122], [982, 983, 122], [1018, 667, 114, 668], [1019, 1020, 105], [1026, 402, 403, 107], [1031, 1032, 1033, 109], [1039, 1041, 35, 105], [1048, 1050, 36, 105], [856, 857, 858, 111], [861, 862, 863, 111], [869, 870, 871, 111], [873, 874, 875, 111], [1043, 383, 384, 106], [1044, 1045, 1046, 106], [267, 129, 130], [760, 406, 113], [860, 757, 758, 111], [915, 557, 556, 119], [865, 866, 120], [905, 611, 120], [920, 922, 34, 111], [723, 586, 587, 107], [705, 682, 683, 107], [706, 707, 708, 107], [710, 711, 121], [713, 714, 121], [720, 721, 121], [724, 725, 121], [729, 730, 121], [716, 717, 718, 107], [727, 670, 671, 107], [728, 663, 664, 107], [732, 733, 121], [737, 738, 121], [740, 741, 121], [735, 428, 114, 429], [736, 528, 114, 529], [743, 667, 114, 668], [768, 769, 770, 107], [772, 598, 599, 107], [773, 774, 121], [776, 607, 608, 107], [955, 703, 121], [985, 986, 122], [992, 993, 122], [995, 996, 122], [1009, 1010, 122], [991, 402, 403, 107], [977, 531, 532, 107], [988, 989, 122], [1006, 1007, 122], [972, 717, 718, 107], [973, 552, 553, 107], [974, 975, 122], [155, 129, 130], [405, 406, 113], [408, 409, 410, 107], [555, 557, 556, 119], [526, 428, 114, 429], [527, 528, 114, 529], [610, 611, 120], [606, 607, 608, 107], [593, 594, 595, 107], [589, 590, 591, 107], [685, 582, 583, 107], [666, 667, 114, 668], [694, 663, 664, 107], [239, 129, 130], [551, 552, 553, 107], [558, 428, 114, 429], [206, 129, 130], [401, 402, 403, 107], [412, 414, 0, 108], [437, 439, 4, 108], [502, 504, 8, 108], [534, 536, 13, 108], [506, 508, 9, 108], [498, 500, 7, 108], [446, 448, 6, 108], [442, 444, 5, 108], [510, 512, 10, 108], [518, 520, 12, 108], [514, 516, 11, 108], [522, 523, 524, 107], [530, 531, 532, 107], [539, 541, 14, 108], [416, 418, 1, 108], [420, 421, 108], [423, 425, 2, 108], [430, 431, 108], [433, 435, 3, 108], [427, 428, 114, 429], [], [], [261, 129, 130], [765, 766, 121], [942, 757, 758, 111], [777, 779, 21, 110], [830, 832, 30, 110], [834, 835, 110], [786, 788, 22, 110], [803, 805, 26, 110], [813, 814, 110], [781, 711, 121], [782, 721, 121], [784, 582, 583, 107], [785, 406, 113], [790, 792, 23, 110], [799, 801, 25, 110], [807, 611, 120], [808, 810, 27, 110], [812, 607, 608, 107], [794, 796, 24, 110], [798, 667, 114, 668], [826, 828, 29, 110], [837, 839, 31, 110], [841, 842, 110], [844, 846, 32, 110], [816, 818, 28, 110], [820, 733, 121], [821, 741, 121], [822, 823, 824, 111], [136, 129, 130]]
def ab_cI1 : List (List Nat) := [[382, 383, 384, 106], [125, 126, 105], [1058, 1059, 112], [374, 375, 376, 105], [1182, 1183, 1184, 112], [386, 387, 388, 105], [1186, 1187, 1188, 112], [390, 391, 392, 105], [1190, 1191, 1192, 112], [561, 562, 563, 105], [1269, 1270, 1271, 112], [565, 566, 567, 105], [1273, 1274, 1275, 112], [573, 574, 575, 105], [1277, 1278, 1279, 112], [620, 621, 622, 105], [1306, 1307, 1308, 112], [624, 625, 626, 105], [1314, 1315, 1316, 112], [638, 639, 640, 105], [1322, 1323, 1324, 112], [646, 647, 648, 105], [1326, 1327, 1328, 112], [650, 651, 652, 105], [1330, 1331, 1332, 112], [654, 655, 656, 105], [1336, 1337, 1338, 112], [673, 674, 675, 105], [1347, 1348, 1349, 112], [677, 678, 679, 105], [1353, 1354, 1355, 112], [695, 696, 697, 105], [1417, 1418, 1419, 112], [744, 745, 746, 105], [1357, 1358, 1359, 112], [748, 749, 750, 105], [1421, 1422, 1423, 112], [848, 849, 850, 105], [1445, 1446, 1447, 112], [877, 878, 879, 105], [1450, 1451, 1452, 112], [882, 883, 884, 105], [1454, 1455, 1456, 112], [886, 887, 888, 105], [1458, 1459, 1460, 112], [890, 891, 892, 105], [1441, 1442, 1443, 112], [897, 898, 899, 105], [1462, 1463, 1464, 112], [906, 907, 908, 105], [1466, 1467, 1468, 112], [924, 925, 926, 105], [1470, 1471, 1472, 112], [928, 929, 930, 105], [1474, 1475, 1476, 112], [933, 934, 935, 105], [1490, 1491, 1492, 112], [943, 944, 945, 105], [1498, 1499, 1500, 112], [948, 949, 950, 105], [1514, 1515, 1516, 112], [956, 957, 958, 105], [1518, 1519, 1520, 112], [961, 962, 963, 105], [1502, 1503, 1504, 112], [965, 966, 967, 105], [1526, 1527, 1528, 112], [978, 979, 980, 105], [1546, 1547, 1548, 112], [1014, 1015, 1016, 105], [1578, 1579, 1580, 112], [1022, 1023, 1024, 105], [1155, 1156, 1157, 112], [1027, 1028, 1029, 105], [1151, 1152, 1153, 112], [1035, 1036, 1037, 105], [1586, 1587, 1588, 112], [1052, 1053, 1054, 105], [1602, 1603, 1604, 112], [1061, 129, 130], [1163, 1164, 112], [1159, 1160, 112], [1166, 1168, 37, 112], [1281, 1283, 57, 112], [1242, 1244, 52, 112], [1253, 1254, 112], [1246, 1247, 112], [1170, 1172, 38, 112], [1174, 1176, 39, 112], [1178, 1180, 40, 112], [1198, 1200, 42, 112], [1202, 428, 114, 429], [1194, 1196, 41, 112], [1218, 1220, 46, 112], [1222, 1224, 47, 112], [], [], [1226, 1228, 48, 112], [1238, 1240, 51, 112], [1230, 1232, 49, 112], [1214, 1216, 45, 112], [1249, 1251, 53, 112], [1256, 1258, 54, 112], [1265, 1267, 56, 112], [1208, 1210, 44, 112], [1234, 1236, 50, 112], [1261, 1263, 55, 112], [1203, 1205, 43, 112], [1293, 1295, 60, 112], [1289, 1291, 59, 112], [1305, 528, 114, 529], [1285, 1287, 58, 112], [1297, 1299, 61, 112], [1301, 1303, 62, 112], [1310, 1312, 63, 112], [1318, 1320, 64, 112], [1340, 1342, 65, 112], [1344, 1345, 112], [1351, 1337, 1338, 112], [1389, 1391, 72, 112], [1397, 1399, 74, 112], [1405, 1407, 76, 112], [1409, 1411, 77, 112], [1413, 1415, 78, 112], [1381, 1383, 70, 112], [1385, 1387, 71, 112], [1393, 1395, 73, 112], [1401, 1403, 75, 112], [1373, 1375, 68, 112], [1369, 1371, 67, 112], [1377, 1379, 69, 112], [1361, 1362, 112], [1365, 1367, 66, 112], [1437, 1439, 82, 112], [1433, 1435, 81, 112], [1429, 1431, 80, 112], [1425, 1427, 79, 112], [1482, 1484, 84, 112], [1478, 1480, 83, 112], [1486, 1488, 85, 112], [1494, 1496, 86, 112], [1506, 1508, 87, 112], [1510, 1512, 88, 112], [1522, 1524, 89, 112], [1530, 1532, 90, 112], [1534, 1536, 91, 112], [1538, 1540, 92, 112], [1542, 1544, 93, 112], [1565, 1567, 97, 112], [1550, 1552, 94, 112], [1555, 1557, 95, 112], [1560, 1562, 96, 112], [1569, 1571, 98, 112], [1574, 1576, 99, 112], [1582, 1584, 100, 112], [1598, 1600, 103, 112], [1594, 1596, 102, 112], [1590, 1592, 101, 112], [134, 106], [153, 107], [153, 107], [265, 111]]
set_option maxRecDepth 100000 in
theorem ab_cok0 : ab_all2 ab_cok ab_cT0 ab_cI0 = true := by decide +kernel
set_option maxRecDepth 100000 in
theorem ab_cok1 : ab_all2 ab_cok ab_cT1 ab_cI1 = true := by decide +kernel
theorem ab_cT_ok : ∀ q ∈ ab_cT, ∃ i, ab_cok q i = true := by
  intro q hq
  rcases List.mem_append.mp hq with h | h
  · exact ab_all2_mem ab_cok0 q h
  · exact ab_all2_mem ab_cok1 q h
set_option maxRecDepth 100000 in
theorem ab_fok0 : ab_all2 ab_fok ab_fT [[340], [342], [343], [344], [341], [345], [346], [347], [348], [349], [350], [141], [208], [210], [166], [243], [160], [171], [176], [184], [294], [270], [272], [139], [268], [271], [273], [274], [275], [276], [277], [161], [183], [165], [158], [181], [170], [175], [157], [180], [167], [172], [177], [156], [163], [169], [174], [179], [186], [242], [244], [245], [246], [207], [209], [213], [214], [215], [216], [211], [212], [168], [185], [162], [142], [138], [293], [295], [296], [297], [298], [300], [301], [302], [303], [304], [305], [306], [307], [308], [299], [164], [269], [159], [182], [187], [173], [178], [137], [140], [1062], [1063], [1064], [1066], [1069], [1075], [1076], [1078], [1081], [1082], [1086], [1087], [1088], [1089], [1065], [1067], [1070], [1071], [1073], [1072], [1074], [1068], [1090], [1077], [1079], [1080], [1085], [1083], [1084]] = true := by decide +kernel
theorem ab_fT_ok : ∀ q ∈ ab_fT, ∃ i, ab_fok q i = true := ab_all2_mem ab_fok0
set_option maxRecDepth 100000 in
theorem ab_sok0 : ab_all2 ab_sok ab_sT [[998], [1000], [1002], [1004], [1012]] = true := by decide +kernel
theorem ab_sT_ok : ∀ q ∈ ab_sT, ∃ i, ab_sok q i = true := ab_all2_mem ab_sok0
set_option maxRecDepth 100000 in
theorem ab_kok0 : ab_all2 ab_kok ab_kT [[783], [1449], [868], [613], [614], [615]] = true := by decide +kernel
theorem ab_kT_ok : ∀ q ∈ ab_kT, ∃ i, ab_kok q i = true := ab_all2_mem ab_kok0
set_option maxRecDepth 100000 in
theorem ab_lok0 : ab_all2 ab_lok ab_lT [[1162], [1364], [1334], [1335], [1352], [1554], [1559], [1564], [1573]] = true := by decide +kernel
theorem ab_lT_ok : ∀ q ∈ ab_lT, ∃ i, ab_lok q i = true := ab_all2_mem ab_lok0
set_option maxRecDepth 100000 in
theorem ab_nok0 : ab_all2 ab_nok ab_nT [[131, 132, 106], [149, 151, 107], [201, 202, 108], [234, 235, 109], [256, 257, 110], [240, 151, 107], [262, 263, 111], [123, 124, 105], [1056, 1057, 112]] = true := by decide +kernel
theorem ab_nT_ok : ∀ q ∈ ab_nT, ∃ i, ab_nok q i = true := ab_all2_mem ab_nok0
set_option maxRecDepth 100000 in
theorem ab_u0 : ab_ats (u_ws RX0 TX0 7) [278, 280, 282, 284, 286, 288, 290] = true := by decide +kernel
set_option maxRecDepth 100000 in
theorem ab_u1 : ab_ats (u_ws RX3 TX3 6) [188, 190, 192, 194, 196, 198] = true := by decide +kernel
set_option maxRecDepth 100000 in
theorem ab_u2 : ab_ats (u_ws RX4 TX4 4) [247, 249, 251, 253] = true := by decide +kernel
set_option maxRecDepth 100000 in
theorem ab_u3 : ab_ats (u_ws RX5 TX5 8) [217, 219, 221, 223, 225, 227, 229, 231] = true := by decide +kernel
set_option maxRecDepth 100000 in
theorem ab_u4 : ab_ats (u_ws RX6 TX6 15) [309, 311, 313, 315, 317, 319, 321, 323, 325, 327, 329, 331, 333, 335, 337] = true := by decide +kernel
set_option maxRecDepth 100000 in
theorem ab_u5 : ab_ats (u_ws RX7 TX7 2) [143, 145] = true := by decide +kernel
set_option maxRecDepth 100000 in
theorem ab_u6 : ab_ats (u_ws RX8 TX8 11) [351, 353, 355, 357, 359, 361, 363, 365, 367, 369, 371] = true := by decide +kernel
set_option maxRecDepth 100000 in
theorem ab_u7 : ab_ats (u_ws RX9 TX9 29) [1091, 1093, 1095, 1097, 1099, 1101, 1103, 1105, 1107, 1109, 1111, 1113, 1115, 1117, 1119, 1121, 1123, 1125, 1127, 1129, 1131, 1133, 1135, 1137, 1139, 1141, 1143, 1145, 1147] = true := by decide +kernel
set_option maxRecDepth 100000 in
theorem ab_aw : ab_ats [.arrayClass .int, .arrayClass .boolean] [148, 1150] = true := by decide +kernel
def ab_nest : List Jvm.Cond := [.methodLinkNest RX8 9 yX7_init "FairLabels", .methodLinkNest RX8 25 yX3_init "FairLabels", .methodLinkNest RX4 28 yX3_init "FairLabels", .methodLinkNest RX6 11 yX0_init "FairLabels"]
set_option maxRecDepth 100000 in
theorem ab_nest_in : ∀ w ∈ ab_nest, w ∈ lw_tbl := by
  intro w hw
  simp only [ab_nest, List.mem_cons, List.not_mem_nil, or_false] at hw
  rcases hw with rfl | rfl | rfl | rfl
  · exact List.mem_of_getElem? (i := 133) (by decide +kernel)
  · exact List.mem_of_getElem? (i := 152) (by decide +kernel)
  · exact List.mem_of_getElem? (i := 241) (by decide +kernel)
  · exact List.mem_of_getElem? (i := 264) (by decide +kernel)
/-- what a class of the worlds brings: types, unlike names, its words -/
theorem ab_vw_ok {ci : Nat} {C : String} {T : u_T} {N : Nat} (h : ab_vw[ci]? = some (C, T, N)) : ∃ ty0 : Nat → FieldType, (∀ k, k < N → parseFieldDescriptor (T k).2.2.1 = some (ty0 k)) ∧ (∀ a, a < N → ∀ b, b < N → a ≠ b → (T a).2.1 ≠ (T b).2.1) ∧ ∀ w ∈ u_ws C T N, w ∈ ab_W := by
  match ci, h with
  | 0, h => cases h; exact ⟨tyX0, tyX0_ok, nmX0, ab_ats_mem ab_u0⟩
  | 1, h => cases h; exact ⟨tyX3, tyX3_ok, nmX3, ab_ats_mem ab_u1⟩
  | 2, h => cases h; exact ⟨tyX4, tyX4_ok, nmX4, ab_ats_mem ab_u2⟩
  | 3, h => cases h; exact ⟨tyX5, tyX5_ok, nmX5, ab_ats_mem ab_u3⟩
  | 4, h => cases h; exact ⟨tyX6, tyX6_ok, nmX6, ab_ats_mem ab_u4⟩
  | 5, h => cases h; exact ⟨tyX7, tyX7_ok, nmX7, ab_ats_mem ab_u5⟩
  | 6, h => cases h; exact ⟨tyX8, tyX8_ok, nmX8, ab_ats_mem ab_u6⟩
  | 7, h => cases h; exact ⟨tyX9, tyX9_ok, nmX9, ab_ats_mem ab_u7⟩
  | ci + 8, h => simp [ab_vw] at h
