def md_L_law_18 : List (Nat × Instr × Nat) := [(1253, .iadd, 1), (1254, .iaload, 1), (1255, .aload_n 0, 1), (1256, .iload 4, 2), (1258, .iconst 3, 1), (1259, .iadd, 1), (1260, .iaload, 1), (1261, .invokevirtual 177, 3), (1264, .if_icmp .eq 168, 3), (1267, .iconst 0, 1), (1268, .ireturn, 1), (1269, .aload_n 1, 1), (1270, .aload_n 0, 1), (1271, .iload 4, 2), (1273, .iconst 1, 1), (1274, .iadd, 1), (1275, .iaload, 1), (1276, .invokevirtual 178, 3), (1279, .aload_n 2, 1), (1280, .aload_n 0, 1), (1281, .iload 4, 2), (1283, .iconst 1, 1), (1284, .iadd, 1), (1285, .iaload, 1), (1286, .invokevirtual 181, 3), (1289, .if_icmp .eq 143, 3), (1292, .iconst 0, 1), (1293, .ireturn, 1), (1294, .aload_n 1, 1), (1295, .aload_n 0, 1), (1296, .iload 4, 2), (1298, .iconst 1, 1), (1299, .iadd, 1), (1300, .iaload, 1), (1301, .invokevirtual 182, 3), (1304, .aload_n 2, 1), (1305, .aload_n 0, 1), (1306, .iload 4, 2), (1308, .iconst 1, 1), (1309, .iadd, 1)]
set_option maxRecDepth 20000 in
theorem me_L_law_18 : zdecs cL_law md_L_law_18 := by
  unfold zdecs md_L_law_18
  decide +kernel
def md_L_law_19 : List (Nat × Instr × Nat) := [(1310, .iaload, 1), (1311, .invokevirtual 185, 3), (1314, .if_icmp .eq 118, 3), (1317, .iconst 0, 1), (1318, .ireturn, 1), (1319, .aload_n 1, 1), (1320, .invokevirtual 186, 3), (1323, .aload_n 2, 1), (1324, .invokevirtual 189, 3), (1327, .if_icmp .eq 105, 3), (1330, .iconst 0, 1), (1331, .ireturn, 1), (1332, .aload_n 1, 1), (1333, .aload_n 0, 1), (1334, .iload 4, 2), (1336, .iconst 1, 1), (1337, .iadd, 1), (1338, .iaload, 1), (1339, .invokevirtual 190, 3), (1342, .aload_n 2, 1), (1343, .aload_n 0, 1), (1344, .iload 4, 2), (1346, .iconst 1, 1), (1347, .iadd, 1), (1348, .iaload, 1), (1349, .invokevirtual 193, 3), (1352, .if_icmp .eq 80, 3), (1355, .iconst 0, 1), (1356, .ireturn, 1), (1357, .aload_n 1, 1), (1358, .aload_n 0, 1), (1359, .iload 4, 2), (1361, .iconst 1, 1), (1362, .iadd, 1), (1363, .iaload, 1), (1364, .invokevirtual 194, 3), (1367, .aload_n 2, 1), (1368, .aload_n 0, 1), (1369, .iload 4, 2), (1371, .iconst 1, 1)]
set_option maxRecDepth 20000 in
theorem me_L_law_19 : zdecs cL_law md_L_law_19 := by
  unfold zdecs md_L_law_19
  decide +kernel
def md_L_law_20 : List (Nat × Instr × Nat) := [(1372, .iadd, 1), (1373, .iaload, 1), (1374, .invokevirtual 197, 3), (1377, .if_icmp .eq 55, 3), (1380, .iconst 0, 1), (1381, .ireturn, 1), (1382, .aload_n 1, 1), (1383, .aload_n 0, 1), (1384, .iload 4, 2), (1386, .iconst 1, 1), (1387, .iadd, 1), (1388, .iaload, 1), (1389, .invokevirtual 198, 3), (1392, .aload_n 2, 1), (1393, .aload_n 0, 1), (1394, .iload 4, 2), (1396, .iconst 1, 1), (1397, .iadd, 1), (1398, .iaload, 1), (1399, .invokevirtual 201, 3), (1402, .if_icmp .eq 30, 3), (1405, .iconst 0, 1), (1406, .ireturn, 1), (1407, .aload_n 1, 1), (1408, .aload_n 0, 1), (1409, .iload 4, 2), (1411, .iconst 1, 1), (1412, .iadd, 1), (1413, .iaload, 1), (1414, .invokevirtual 202, 3), (1417, .aload_n 2, 1), (1418, .aload_n 0, 1), (1419, .iload 4, 2), (1421, .iconst 1, 1), (1422, .iadd, 1), (1423, .iaload, 1), (1424, .invokevirtual 205, 3), (1427, .if_icmp .eq 5, 3), (1430, .iconst 0, 1), (1431, .ireturn, 1)]
set_option maxRecDepth 20000 in
theorem me_L_law_20 : zdecs cL_law md_L_law_20 := by
  unfold zdecs md_L_law_20
  decide +kernel
def md_L_law_21 : List (Nat × Instr × Nat) := [(1432, .iinc 4 6, 3), (1435, .goto (-1412), 3), (1438, .iconst 1, 1), (1439, .ireturn, 1)]
set_option maxRecDepth 20000 in
theorem me_L_law_21 : zdecs cL_law md_L_law_21 := by
  unfold zdecs md_L_law_21
  decide +kernel
