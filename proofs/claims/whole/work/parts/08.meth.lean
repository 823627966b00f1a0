/-! What the tables say of each method, by program. -/
def cw_MC_0 : List (Nat × Nat × Nat) := [(734, 18, 1), (529, 12, 2), (526, 12, 3), (594, 13, 4), (588, 13, 5), (598, 13, 6), (584, 13, 7), (601, 14, 8), (604, 13, 9), (609, 15, 10), (231, 7, 11), (478, 7, 12), (485, 7, 13), (489, 7, 14), (265, 8, 15), (493, 8, 16), (811, 8, 17), (866, 8, 18), (105, 3, 19), (751, 3, 20), (722, 3, 21), (271, 9, 22), (501, 9, 23), (815, 9, 24), (819, 9, 25), (836, 9, 26), (823, 9, 27), (828, 9, 28), (840, 9, 29), (505, 9, 30), (510, 9, 31), (128, 4, 32), (543, 4, 33), (567, 4, 34), (575, 4, 35), (676, 4, 36), (636, 4, 37), (672, 4, 38), (684, 4, 39), (689, 4, 40)]
def cw_MC_1 : List (Nat × Nat × Nat) := [(695, 4, 41), (640, 4, 42), (664, 4, 43), (668, 4, 44), (644, 4, 45), (632, 4, 46), (571, 4, 47), (648, 4, 48), (652, 4, 49), (580, 4, 50), (327, 10, 51), (874, 10, 52), (879, 10, 53), (216, 6, 54), (514, 6, 55), (519, 6, 56), (134, 5, 57), (705, 5, 58), (659, 5, 59), (700, 5, 60), (31, 2, 61), (717, 2, 62), (419, 2, 63), (430, 2, 64), (455, 2, 65), (466, 2, 66), (832, 2, 67), (497, 2, 68), (23, 1, 69), (415, 1, 70), (446, 1, 71), (451, 1, 72), (459, 1, 73), (533, 1, 74), (539, 1, 75), (547, 1, 76), (551, 1, 77), (559, 1, 78), (563, 1, 79), (713, 1, 80)]
def cw_MC_2 : List (Nat × Nat × Nat) := [(767, 1, 81), (771, 1, 82), (775, 1, 83), (779, 1, 84), (783, 1, 85), (787, 1, 86), (791, 1, 87), (795, 1, 88), (799, 1, 89), (803, 1, 90), (807, 1, 91), (849, 1, 92), (853, 1, 93), (862, 1, 94), (870, 1, 95), (886, 1, 96), (895, 1, 97), (899, 1, 98), (907, 1, 99), (916, 1, 100), (920, 1, 101), (928, 1, 102), (932, 1, 103), (939, 1, 104), (946, 1, 105), (961, 1, 106), (965, 1, 107), (969, 1, 108), (973, 1, 109), (977, 1, 110), (422, 1, 111), (462, 1, 112), (950, 1, 113), (442, 1, 114), (426, 1, 115), (438, 1, 116), (434, 1, 117), (474, 1, 118), (470, 1, 119), (857, 1, 120)]
def cw_MC_3 : List (Nat × Nat × Nat) := [(845, 1, 121), (891, 1, 122), (903, 1, 123), (911, 1, 124), (924, 1, 125), (957, 1, 126), (555, 1, 127), (747, 1, 128), (755, 1, 129), (759, 1, 130), (763, 1, 131), (727, 1, 132), (742, 1, 133), (731, 1, 134), (1156, 11, 135), (1514, 11, 136), (1210, 11, 137), (1160, 11, 138), (1164, 11, 139), (1172, 11, 140), (1474, 11, 141), (1183, 11, 142), (982, 11, 143), (1641, 11, 144), (1661, 11, 145), (1153, 11, 146), (1168, 11, 147), (1187, 11, 148), (1207, 11, 149), (1203, 11, 150), (1180, 11, 151), (1191, 11, 152), (1176, 11, 153), (1195, 11, 154), (1199, 11, 155), (1218, 11, 156), (1214, 11, 157), (1282, 11, 158), (1312, 11, 159), (1315, 11, 160)]
def cw_MC_4 : List (Nat × Nat × Nat) := [(1309, 11, 161), (1319, 11, 162), (1323, 11, 163), (1327, 11, 164), (1331, 11, 165), (1350, 11, 166), (1353, 11, 167), (1357, 11, 168), (1347, 11, 169), (1374, 11, 170), (1394, 11, 171), (1370, 11, 172), (1398, 11, 173), (1402, 11, 174), (1249, 11, 175), (1406, 11, 176), (1422, 11, 177), (1378, 11, 178), (1366, 11, 179), (1362, 11, 180), (1410, 11, 181), (1414, 11, 182), (1418, 11, 183), (1382, 11, 184), (1386, 11, 185), (1390, 11, 186), (1343, 11, 187), (1339, 11, 188), (1426, 11, 189), (1335, 11, 190), (1430, 11, 191), (1438, 11, 192), (1434, 11, 193), (1234, 11, 194), (1253, 11, 195), (1286, 11, 196), (1238, 11, 197), (1242, 11, 198), (1246, 11, 199), (1257, 11, 200)]
def cw_MC_5 : List (Nat × Nat × Nat) := [(1292, 11, 201), (1296, 11, 202), (1300, 11, 203), (1304, 11, 204), (1226, 11, 205), (1230, 11, 206), (1486, 11, 207), (1490, 11, 208), (1222, 11, 209), (1459, 11, 210), (1274, 11, 211), (1270, 11, 212), (1278, 11, 213), (1266, 11, 214), (1262, 11, 215), (1447, 11, 216), (1443, 11, 217), (1482, 11, 218), (1478, 11, 219), (1471, 11, 220), (1467, 11, 221), (1463, 11, 222), (1511, 11, 223), (1494, 11, 224), (1455, 11, 225), (1451, 11, 226), (1498, 11, 227), (1502, 11, 228), (1507, 11, 229), (1522, 11, 230), (1518, 11, 231), (1530, 11, 232), (1534, 11, 233), (1526, 11, 234), (1542, 11, 235), (1538, 11, 236), (1546, 11, 237), (1554, 11, 238), (1550, 11, 239), (1562, 11, 240)]
def cw_MC_6 : List (Nat × Nat × Nat) := [(1558, 11, 241), (1566, 11, 242), (1574, 11, 243), (1570, 11, 244), (1578, 11, 245), (1582, 11, 246), (1601, 11, 247), (1589, 11, 248), (1605, 11, 249), (1597, 11, 250), (1613, 11, 251), (1621, 11, 252), (1629, 11, 253), (1593, 11, 254), (1609, 11, 255), (1617, 11, 256), (1625, 11, 257), (1633, 11, 258), (1637, 11, 259), (1649, 11, 260), (1656, 11, 261), (1653, 11, 262), (1645, 11, 263), (1669, 11, 264), (1665, 11, 265), (1677, 11, 266), (1681, 11, 267), (1685, 11, 268)]
def cw_MC : List (Nat × Nat × Nat) := cw_MC_0 ++ cw_MC_1 ++ cw_MC_2 ++ cw_MC_3 ++ cw_MC_4 ++ cw_MC_5 ++ cw_MC_6
theorem cw_MC_ok : ∀ e ∈ cw_MC, tables_1[e.2.1]? = some (Cond.initialized (cw_nm e.2.2).cls) ∧ cw_nm e.2.2 = ⟨cw_cn (cw_oc e.2.2), (cw_nm e.2.2).name, (cw_nm e.2.2).desc⟩ ∧ plainFor (cw_nm e.2.2) = true ∧ ((cw_nm e.2.2).cls ≠ "java/lang/invoke/MethodHandle" ∧ (cw_nm e.2.2).cls ≠ "java/lang/invoke/VarHandle") ∧ (parseMethodDescriptor (cw_nm e.2.2).desc).map (fun d => d.parameters.length) = some (cw_np e.2.2) ∧ cw_ml e.2.2 ≤ 40 := by decide +kernel
set_option maxRecDepth 20000 in
theorem cw_co1 : tables_1[734]? = some (Cond.code (cw_nm 1) (cw_by 1) (cw_ml 1) (cw_rtt 1)) := rfl
set_option maxRecDepth 20000 in
theorem cw_co2 : tables_1[529]? = some (Cond.code (cw_nm 2) (cw_by 2) (cw_ml 2) (cw_rtt 2)) := rfl
set_option maxRecDepth 20000 in
theorem cw_co3 : tables_1[526]? = some (Cond.code (cw_nm 3) (cw_by 3) (cw_ml 3) (cw_rtt 3)) := rfl
set_option maxRecDepth 20000 in
theorem cw_co4 : tables_1[594]? = some (Cond.code (cw_nm 4) (cw_by 4) (cw_ml 4) (cw_rtt 4)) := rfl
set_option maxRecDepth 20000 in
theorem cw_co5 : tables_1[588]? = some (Cond.code (cw_nm 5) (cw_by 5) (cw_ml 5) (cw_rtt 5)) := rfl
set_option maxRecDepth 20000 in
theorem cw_co6 : tables_1[598]? = some (Cond.code (cw_nm 6) (cw_by 6) (cw_ml 6) (cw_rtt 6)) := rfl
set_option maxRecDepth 20000 in
theorem cw_co7 : tables_1[584]? = some (Cond.code (cw_nm 7) (cw_by 7) (cw_ml 7) (cw_rtt 7)) := rfl
set_option maxRecDepth 20000 in
theorem cw_co8 : tables_1[601]? = some (Cond.code (cw_nm 8) (cw_by 8) (cw_ml 8) (cw_rtt 8)) := rfl
set_option maxRecDepth 20000 in
theorem cw_co9 : tables_1[604]? = some (Cond.code (cw_nm 9) (cw_by 9) (cw_ml 9) (cw_rtt 9)) := rfl
set_option maxRecDepth 20000 in
theorem cw_co10 : tables_1[609]? = some (Cond.code (cw_nm 10) (cw_by 10) (cw_ml 10) (cw_rtt 10)) := rfl
set_option maxRecDepth 20000 in
theorem cw_co11 : tables_1[231]? = some (Cond.code (cw_nm 11) (cw_by 11) (cw_ml 11) (cw_rtt 11)) := rfl
set_option maxRecDepth 20000 in
theorem cw_co12 : tables_1[478]? = some (Cond.code (cw_nm 12) (cw_by 12) (cw_ml 12) (cw_rtt 12)) := rfl
set_option maxRecDepth 20000 in
theorem cw_co13 : tables_1[485]? = some (Cond.code (cw_nm 13) (cw_by 13) (cw_ml 13) (cw_rtt 13)) := rfl
set_option maxRecDepth 20000 in
theorem cw_co14 : tables_1[489]? = some (Cond.code (cw_nm 14) (cw_by 14) (cw_ml 14) (cw_rtt 14)) := rfl
set_option maxRecDepth 20000 in
theorem cw_co15 : tables_1[265]? = some (Cond.code (cw_nm 15) (cw_by 15) (cw_ml 15) (cw_rtt 15)) := rfl
set_option maxRecDepth 20000 in
theorem cw_co16 : tables_1[493]? = some (Cond.code (cw_nm 16) (cw_by 16) (cw_ml 16) (cw_rtt 16)) := rfl
set_option maxRecDepth 20000 in
theorem cw_co17 : tables_1[811]? = some (Cond.code (cw_nm 17) (cw_by 17) (cw_ml 17) (cw_rtt 17)) := rfl
set_option maxRecDepth 20000 in
theorem cw_co18 : tables_1[866]? = some (Cond.code (cw_nm 18) (cw_by 18) (cw_ml 18) (cw_rtt 18)) := rfl
set_option maxRecDepth 20000 in
theorem cw_co19 : tables_1[105]? = some (Cond.code (cw_nm 19) (cw_by 19) (cw_ml 19) (cw_rtt 19)) := rfl
set_option maxRecDepth 20000 in
theorem cw_co20 : tables_1[751]? = some (Cond.code (cw_nm 20) (cw_by 20) (cw_ml 20) (cw_rtt 20)) := rfl
set_option maxRecDepth 20000 in
theorem cw_co21 : tables_1[722]? = some (Cond.code (cw_nm 21) (cw_by 21) (cw_ml 21) (cw_rtt 21)) := rfl
set_option maxRecDepth 20000 in
theorem cw_co22 : tables_1[271]? = some (Cond.code (cw_nm 22) (cw_by 22) (cw_ml 22) (cw_rtt 22)) := rfl
set_option maxRecDepth 20000 in
theorem cw_co23 : tables_1[501]? = some (Cond.code (cw_nm 23) (cw_by 23) (cw_ml 23) (cw_rtt 23)) := rfl
set_option maxRecDepth 20000 in
theorem cw_co24 : tables_1[815]? = some (Cond.code (cw_nm 24) (cw_by 24) (cw_ml 24) (cw_rtt 24)) := rfl
set_option maxRecDepth 20000 in
theorem cw_co25 : tables_1[819]? = some (Cond.code (cw_nm 25) (cw_by 25) (cw_ml 25) (cw_rtt 25)) := rfl
set_option maxRecDepth 20000 in
theorem cw_co26 : tables_1[836]? = some (Cond.code (cw_nm 26) (cw_by 26) (cw_ml 26) (cw_rtt 26)) := rfl
set_option maxRecDepth 20000 in
theorem cw_co27 : tables_1[823]? = some (Cond.code (cw_nm 27) (cw_by 27) (cw_ml 27) (cw_rtt 27)) := rfl
set_option maxRecDepth 20000 in
theorem cw_co28 : tables_1[828]? = some (Cond.code (cw_nm 28) (cw_by 28) (cw_ml 28) (cw_rtt 28)) := rfl
set_option maxRecDepth 20000 in
theorem cw_co29 : tables_1[840]? = some (Cond.code (cw_nm 29) (cw_by 29) (cw_ml 29) (cw_rtt 29)) := rfl
set_option maxRecDepth 20000 in
theorem cw_co30 : tables_1[505]? = some (Cond.code (cw_nm 30) (cw_by 30) (cw_ml 30) (cw_rtt 30)) := rfl
set_option maxRecDepth 20000 in
theorem cw_co31 : tables_1[510]? = some (Cond.code (cw_nm 31) (cw_by 31) (cw_ml 31) (cw_rtt 31)) := rfl
set_option maxRecDepth 20000 in
theorem cw_co32 : tables_1[128]? = some (Cond.code (cw_nm 32) (cw_by 32) (cw_ml 32) (cw_rtt 32)) := rfl
set_option maxRecDepth 20000 in
theorem cw_co33 : tables_1[543]? = some (Cond.code (cw_nm 33) (cw_by 33) (cw_ml 33) (cw_rtt 33)) := rfl
set_option maxRecDepth 20000 in
theorem cw_co34 : tables_1[567]? = some (Cond.code (cw_nm 34) (cw_by 34) (cw_ml 34) (cw_rtt 34)) := rfl
set_option maxRecDepth 20000 in
theorem cw_co35 : tables_1[575]? = some (Cond.code (cw_nm 35) (cw_by 35) (cw_ml 35) (cw_rtt 35)) := rfl
set_option maxRecDepth 20000 in
theorem cw_co36 : tables_1[676]? = some (Cond.code (cw_nm 36) (cw_by 36) (cw_ml 36) (cw_rtt 36)) := rfl
set_option maxRecDepth 20000 in
theorem cw_co37 : tables_1[636]? = some (Cond.code (cw_nm 37) (cw_by 37) (cw_ml 37) (cw_rtt 37)) := rfl
set_option maxRecDepth 20000 in
theorem cw_co38 : tables_1[672]? = some (Cond.code (cw_nm 38) (cw_by 38) (cw_ml 38) (cw_rtt 38)) := rfl
set_option maxRecDepth 20000 in
theorem cw_co39 : tables_1[684]? = some (Cond.code (cw_nm 39) (cw_by 39) (cw_ml 39) (cw_rtt 39)) := rfl
set_option maxRecDepth 20000 in
theorem cw_co40 : tables_1[689]? = some (Cond.code (cw_nm 40) (cw_by 40) (cw_ml 40) (cw_rtt 40)) := rfl
set_option maxRecDepth 20000 in
theorem cw_co41 : tables_1[695]? = some (Cond.code (cw_nm 41) (cw_by 41) (cw_ml 41) (cw_rtt 41)) := rfl
set_option maxRecDepth 20000 in
theorem cw_co42 : tables_1[640]? = some (Cond.code (cw_nm 42) (cw_by 42) (cw_ml 42) (cw_rtt 42)) := rfl
set_option maxRecDepth 20000 in
theorem cw_co43 : tables_1[664]? = some (Cond.code (cw_nm 43) (cw_by 43) (cw_ml 43) (cw_rtt 43)) := rfl
set_option maxRecDepth 20000 in
theorem cw_co44 : tables_1[668]? = some (Cond.code (cw_nm 44) (cw_by 44) (cw_ml 44) (cw_rtt 44)) := rfl
set_option maxRecDepth 20000 in
theorem cw_co45 : tables_1[644]? = some (Cond.code (cw_nm 45) (cw_by 45) (cw_ml 45) (cw_rtt 45)) := rfl
set_option maxRecDepth 20000 in
theorem cw_co46 : tables_1[632]? = some (Cond.code (cw_nm 46) (cw_by 46) (cw_ml 46) (cw_rtt 46)) := rfl
set_option maxRecDepth 20000 in
theorem cw_co47 : tables_1[571]? = some (Cond.code (cw_nm 47) (cw_by 47) (cw_ml 47) (cw_rtt 47)) := rfl
set_option maxRecDepth 20000 in
theorem cw_co48 : tables_1[648]? = some (Cond.code (cw_nm 48) (cw_by 48) (cw_ml 48) (cw_rtt 48)) := rfl
set_option maxRecDepth 20000 in
theorem cw_co49 : tables_1[652]? = some (Cond.code (cw_nm 49) (cw_by 49) (cw_ml 49) (cw_rtt 49)) := rfl
set_option maxRecDepth 20000 in
theorem cw_co50 : tables_1[580]? = some (Cond.code (cw_nm 50) (cw_by 50) (cw_ml 50) (cw_rtt 50)) := rfl
set_option maxRecDepth 20000 in
theorem cw_co51 : tables_1[327]? = some (Cond.code (cw_nm 51) (cw_by 51) (cw_ml 51) (cw_rtt 51)) := rfl
set_option maxRecDepth 20000 in
theorem cw_co52 : tables_1[874]? = some (Cond.code (cw_nm 52) (cw_by 52) (cw_ml 52) (cw_rtt 52)) := rfl
set_option maxRecDepth 20000 in
theorem cw_co53 : tables_1[879]? = some (Cond.code (cw_nm 53) (cw_by 53) (cw_ml 53) (cw_rtt 53)) := rfl
set_option maxRecDepth 20000 in
theorem cw_co54 : tables_1[216]? = some (Cond.code (cw_nm 54) (cw_by 54) (cw_ml 54) (cw_rtt 54)) := rfl
set_option maxRecDepth 20000 in
theorem cw_co55 : tables_1[514]? = some (Cond.code (cw_nm 55) (cw_by 55) (cw_ml 55) (cw_rtt 55)) := rfl
set_option maxRecDepth 20000 in
theorem cw_co56 : tables_1[519]? = some (Cond.code (cw_nm 56) (cw_by 56) (cw_ml 56) (cw_rtt 56)) := rfl
set_option maxRecDepth 20000 in
theorem cw_co57 : tables_1[134]? = some (Cond.code (cw_nm 57) (cw_by 57) (cw_ml 57) (cw_rtt 57)) := rfl
set_option maxRecDepth 20000 in
theorem cw_co58 : tables_1[705]? = some (Cond.code (cw_nm 58) (cw_by 58) (cw_ml 58) (cw_rtt 58)) := rfl
set_option maxRecDepth 20000 in
theorem cw_co59 : tables_1[659]? = some (Cond.code (cw_nm 59) (cw_by 59) (cw_ml 59) (cw_rtt 59)) := rfl
set_option maxRecDepth 20000 in
theorem cw_co60 : tables_1[700]? = some (Cond.code (cw_nm 60) (cw_by 60) (cw_ml 60) (cw_rtt 60)) := rfl
set_option maxRecDepth 20000 in
theorem cw_co61 : tables_1[31]? = some (Cond.code (cw_nm 61) (cw_by 61) (cw_ml 61) (cw_rtt 61)) := rfl
set_option maxRecDepth 20000 in
theorem cw_co62 : tables_1[717]? = some (Cond.code (cw_nm 62) (cw_by 62) (cw_ml 62) (cw_rtt 62)) := rfl
set_option maxRecDepth 20000 in
theorem cw_co63 : tables_1[419]? = some (Cond.code (cw_nm 63) (cw_by 63) (cw_ml 63) (cw_rtt 63)) := rfl
set_option maxRecDepth 20000 in
theorem cw_co64 : tables_1[430]? = some (Cond.code (cw_nm 64) (cw_by 64) (cw_ml 64) (cw_rtt 64)) := rfl
set_option maxRecDepth 20000 in
theorem cw_co65 : tables_1[455]? = some (Cond.code (cw_nm 65) (cw_by 65) (cw_ml 65) (cw_rtt 65)) := rfl
set_option maxRecDepth 20000 in
theorem cw_co66 : tables_1[466]? = some (Cond.code (cw_nm 66) (cw_by 66) (cw_ml 66) (cw_rtt 66)) := rfl
set_option maxRecDepth 20000 in
theorem cw_co67 : tables_1[832]? = some (Cond.code (cw_nm 67) (cw_by 67) (cw_ml 67) (cw_rtt 67)) := rfl
set_option maxRecDepth 20000 in
theorem cw_co68 : tables_1[497]? = some (Cond.code (cw_nm 68) (cw_by 68) (cw_ml 68) (cw_rtt 68)) := rfl
set_option maxRecDepth 20000 in
theorem cw_co69 : tables_1[23]? = some (Cond.code (cw_nm 69) (cw_by 69) (cw_ml 69) (cw_rtt 69)) := rfl
set_option maxRecDepth 20000 in
theorem cw_co70 : tables_1[415]? = some (Cond.code (cw_nm 70) (cw_by 70) (cw_ml 70) (cw_rtt 70)) := rfl
set_option maxRecDepth 20000 in
theorem cw_co71 : tables_1[446]? = some (Cond.code (cw_nm 71) (cw_by 71) (cw_ml 71) (cw_rtt 71)) := rfl
set_option maxRecDepth 20000 in
theorem cw_co72 : tables_1[451]? = some (Cond.code (cw_nm 72) (cw_by 72) (cw_ml 72) (cw_rtt 72)) := rfl
set_option maxRecDepth 20000 in
theorem cw_co73 : tables_1[459]? = some (Cond.code (cw_nm 73) (cw_by 73) (cw_ml 73) (cw_rtt 73)) := rfl
set_option maxRecDepth 20000 in
theorem cw_co74 : tables_1[533]? = some (Cond.code (cw_nm 74) (cw_by 74) (cw_ml 74) (cw_rtt 74)) := rfl
set_option maxRecDepth 20000 in
theorem cw_co75 : tables_1[539]? = some (Cond.code (cw_nm 75) (cw_by 75) (cw_ml 75) (cw_rtt 75)) := rfl
set_option maxRecDepth 20000 in
theorem cw_co76 : tables_1[547]? = some (Cond.code (cw_nm 76) (cw_by 76) (cw_ml 76) (cw_rtt 76)) := rfl
set_option maxRecDepth 20000 in
theorem cw_co77 : tables_1[551]? = some (Cond.code (cw_nm 77) (cw_by 77) (cw_ml 77) (cw_rtt 77)) := rfl
set_option maxRecDepth 20000 in
theorem cw_co78 : tables_1[559]? = some (Cond.code (cw_nm 78) (cw_by 78) (cw_ml 78) (cw_rtt 78)) := rfl
set_option maxRecDepth 20000 in
theorem cw_co79 : tables_1[563]? = some (Cond.code (cw_nm 79) (cw_by 79) (cw_ml 79) (cw_rtt 79)) := rfl
set_option maxRecDepth 20000 in
theorem cw_co80 : tables_1[713]? = some (Cond.code (cw_nm 80) (cw_by 80) (cw_ml 80) (cw_rtt 80)) := rfl
set_option maxRecDepth 20000 in
theorem cw_co81 : tables_1[767]? = some (Cond.code (cw_nm 81) (cw_by 81) (cw_ml 81) (cw_rtt 81)) := rfl
set_option maxRecDepth 20000 in
theorem cw_co82 : tables_1[771]? = some (Cond.code (cw_nm 82) (cw_by 82) (cw_ml 82) (cw_rtt 82)) := rfl
set_option maxRecDepth 20000 in
theorem cw_co83 : tables_1[775]? = some (Cond.code (cw_nm 83) (cw_by 83) (cw_ml 83) (cw_rtt 83)) := rfl
set_option maxRecDepth 20000 in
theorem cw_co84 : tables_1[779]? = some (Cond.code (cw_nm 84) (cw_by 84) (cw_ml 84) (cw_rtt 84)) := rfl
set_option maxRecDepth 20000 in
theorem cw_co85 : tables_1[783]? = some (Cond.code (cw_nm 85) (cw_by 85) (cw_ml 85) (cw_rtt 85)) := rfl
set_option maxRecDepth 20000 in
theorem cw_co86 : tables_1[787]? = some (Cond.code (cw_nm 86) (cw_by 86) (cw_ml 86) (cw_rtt 86)) := rfl
set_option maxRecDepth 20000 in
theorem cw_co87 : tables_1[791]? = some (Cond.code (cw_nm 87) (cw_by 87) (cw_ml 87) (cw_rtt 87)) := rfl
set_option maxRecDepth 20000 in
theorem cw_co88 : tables_1[795]? = some (Cond.code (cw_nm 88) (cw_by 88) (cw_ml 88) (cw_rtt 88)) := rfl
set_option maxRecDepth 20000 in
theorem cw_co89 : tables_1[799]? = some (Cond.code (cw_nm 89) (cw_by 89) (cw_ml 89) (cw_rtt 89)) := rfl
set_option maxRecDepth 20000 in
theorem cw_co90 : tables_1[803]? = some (Cond.code (cw_nm 90) (cw_by 90) (cw_ml 90) (cw_rtt 90)) := rfl
set_option maxRecDepth 20000 in
theorem cw_co91 : tables_1[807]? = some (Cond.code (cw_nm 91) (cw_by 91) (cw_ml 91) (cw_rtt 91)) := rfl
set_option maxRecDepth 20000 in
theorem cw_co92 : tables_1[849]? = some (Cond.code (cw_nm 92) (cw_by 92) (cw_ml 92) (cw_rtt 92)) := rfl
set_option maxRecDepth 20000 in
theorem cw_co93 : tables_1[853]? = some (Cond.code (cw_nm 93) (cw_by 93) (cw_ml 93) (cw_rtt 93)) := rfl
set_option maxRecDepth 20000 in
theorem cw_co94 : tables_1[862]? = some (Cond.code (cw_nm 94) (cw_by 94) (cw_ml 94) (cw_rtt 94)) := rfl
set_option maxRecDepth 20000 in
theorem cw_co95 : tables_1[870]? = some (Cond.code (cw_nm 95) (cw_by 95) (cw_ml 95) (cw_rtt 95)) := rfl
set_option maxRecDepth 20000 in
theorem cw_co96 : tables_1[886]? = some (Cond.code (cw_nm 96) (cw_by 96) (cw_ml 96) (cw_rtt 96)) := rfl
set_option maxRecDepth 20000 in
theorem cw_co97 : tables_1[895]? = some (Cond.code (cw_nm 97) (cw_by 97) (cw_ml 97) (cw_rtt 97)) := rfl
set_option maxRecDepth 20000 in
theorem cw_co98 : tables_1[899]? = some (Cond.code (cw_nm 98) (cw_by 98) (cw_ml 98) (cw_rtt 98)) := rfl
set_option maxRecDepth 20000 in
theorem cw_co99 : tables_1[907]? = some (Cond.code (cw_nm 99) (cw_by 99) (cw_ml 99) (cw_rtt 99)) := rfl
set_option maxRecDepth 20000 in
theorem cw_co100 : tables_1[916]? = some (Cond.code (cw_nm 100) (cw_by 100) (cw_ml 100) (cw_rtt 100)) := rfl
set_option maxRecDepth 20000 in
theorem cw_co101 : tables_1[920]? = some (Cond.code (cw_nm 101) (cw_by 101) (cw_ml 101) (cw_rtt 101)) := rfl
set_option maxRecDepth 20000 in
theorem cw_co102 : tables_1[928]? = some (Cond.code (cw_nm 102) (cw_by 102) (cw_ml 102) (cw_rtt 102)) := rfl
set_option maxRecDepth 20000 in
theorem cw_co103 : tables_1[932]? = some (Cond.code (cw_nm 103) (cw_by 103) (cw_ml 103) (cw_rtt 103)) := rfl
set_option maxRecDepth 20000 in
theorem cw_co104 : tables_1[939]? = some (Cond.code (cw_nm 104) (cw_by 104) (cw_ml 104) (cw_rtt 104)) := rfl
set_option maxRecDepth 20000 in
theorem cw_co105 : tables_1[946]? = some (Cond.code (cw_nm 105) (cw_by 105) (cw_ml 105) (cw_rtt 105)) := rfl
set_option maxRecDepth 20000 in
theorem cw_co106 : tables_1[961]? = some (Cond.code (cw_nm 106) (cw_by 106) (cw_ml 106) (cw_rtt 106)) := rfl
set_option maxRecDepth 20000 in
theorem cw_co107 : tables_1[965]? = some (Cond.code (cw_nm 107) (cw_by 107) (cw_ml 107) (cw_rtt 107)) := rfl
set_option maxRecDepth 20000 in
theorem cw_co108 : tables_1[969]? = some (Cond.code (cw_nm 108) (cw_by 108) (cw_ml 108) (cw_rtt 108)) := rfl
set_option maxRecDepth 20000 in
theorem cw_co109 : tables_1[973]? = some (Cond.code (cw_nm 109) (cw_by 109) (cw_ml 109) (cw_rtt 109)) := rfl
set_option maxRecDepth 20000 in
theorem cw_co110 : tables_1[977]? = some (Cond.code (cw_nm 110) (cw_by 110) (cw_ml 110) (cw_rtt 110)) := rfl
set_option maxRecDepth 20000 in
theorem cw_co111 : tables_1[422]? = some (Cond.code (cw_nm 111) (cw_by 111) (cw_ml 111) (cw_rtt 111)) := rfl
set_option maxRecDepth 20000 in
theorem cw_co112 : tables_1[462]? = some (Cond.code (cw_nm 112) (cw_by 112) (cw_ml 112) (cw_rtt 112)) := rfl
set_option maxRecDepth 20000 in
theorem cw_co113 : tables_1[950]? = some (Cond.code (cw_nm 113) (cw_by 113) (cw_ml 113) (cw_rtt 113)) := rfl
set_option maxRecDepth 20000 in
theorem cw_co114 : tables_1[442]? = some (Cond.code (cw_nm 114) (cw_by 114) (cw_ml 114) (cw_rtt 114)) := rfl
set_option maxRecDepth 20000 in
theorem cw_co115 : tables_1[426]? = some (Cond.code (cw_nm 115) (cw_by 115) (cw_ml 115) (cw_rtt 115)) := rfl
set_option maxRecDepth 20000 in
theorem cw_co116 : tables_1[438]? = some (Cond.code (cw_nm 116) (cw_by 116) (cw_ml 116) (cw_rtt 116)) := rfl
set_option maxRecDepth 20000 in
theorem cw_co117 : tables_1[434]? = some (Cond.code (cw_nm 117) (cw_by 117) (cw_ml 117) (cw_rtt 117)) := rfl
set_option maxRecDepth 20000 in
theorem cw_co118 : tables_1[474]? = some (Cond.code (cw_nm 118) (cw_by 118) (cw_ml 118) (cw_rtt 118)) := rfl
set_option maxRecDepth 20000 in
theorem cw_co119 : tables_1[470]? = some (Cond.code (cw_nm 119) (cw_by 119) (cw_ml 119) (cw_rtt 119)) := rfl
set_option maxRecDepth 20000 in
theorem cw_co120 : tables_1[857]? = some (Cond.code (cw_nm 120) (cw_by 120) (cw_ml 120) (cw_rtt 120)) := rfl
set_option maxRecDepth 20000 in
theorem cw_co121 : tables_1[845]? = some (Cond.code (cw_nm 121) (cw_by 121) (cw_ml 121) (cw_rtt 121)) := rfl
set_option maxRecDepth 20000 in
theorem cw_co122 : tables_1[891]? = some (Cond.code (cw_nm 122) (cw_by 122) (cw_ml 122) (cw_rtt 122)) := rfl
set_option maxRecDepth 20000 in
theorem cw_co123 : tables_1[903]? = some (Cond.code (cw_nm 123) (cw_by 123) (cw_ml 123) (cw_rtt 123)) := rfl
set_option maxRecDepth 20000 in
theorem cw_co124 : tables_1[911]? = some (Cond.code (cw_nm 124) (cw_by 124) (cw_ml 124) (cw_rtt 124)) := rfl
set_option maxRecDepth 20000 in
theorem cw_co125 : tables_1[924]? = some (Cond.code (cw_nm 125) (cw_by 125) (cw_ml 125) (cw_rtt 125)) := rfl
set_option maxRecDepth 20000 in
theorem cw_co126 : tables_1[957]? = some (Cond.code (cw_nm 126) (cw_by 126) (cw_ml 126) (cw_rtt 126)) := rfl
set_option maxRecDepth 20000 in
theorem cw_co127 : tables_1[555]? = some (Cond.code (cw_nm 127) (cw_by 127) (cw_ml 127) (cw_rtt 127)) := rfl
set_option maxRecDepth 20000 in
theorem cw_co128 : tables_1[747]? = some (Cond.code (cw_nm 128) (cw_by 128) (cw_ml 128) (cw_rtt 128)) := rfl
set_option maxRecDepth 20000 in
theorem cw_co129 : tables_1[755]? = some (Cond.code (cw_nm 129) (cw_by 129) (cw_ml 129) (cw_rtt 129)) := rfl
set_option maxRecDepth 20000 in
theorem cw_co130 : tables_1[759]? = some (Cond.code (cw_nm 130) (cw_by 130) (cw_ml 130) (cw_rtt 130)) := rfl
set_option maxRecDepth 20000 in
theorem cw_co131 : tables_1[763]? = some (Cond.code (cw_nm 131) (cw_by 131) (cw_ml 131) (cw_rtt 131)) := rfl
set_option maxRecDepth 20000 in
theorem cw_co132 : tables_1[727]? = some (Cond.code (cw_nm 132) (cw_by 132) (cw_ml 132) (cw_rtt 132)) := rfl
set_option maxRecDepth 20000 in
theorem cw_co133 : tables_1[742]? = some (Cond.code (cw_nm 133) (cw_by 133) (cw_ml 133) (cw_rtt 133)) := rfl
set_option maxRecDepth 20000 in
theorem cw_co134 : tables_1[731]? = some (Cond.code (cw_nm 134) (cw_by 134) (cw_ml 134) (cw_rtt 134)) := rfl
set_option maxRecDepth 20000 in
theorem cw_co135 : tables_1[1156]? = some (Cond.code (cw_nm 135) (cw_by 135) (cw_ml 135) (cw_rtt 135)) := rfl
set_option maxRecDepth 20000 in
theorem cw_co136 : tables_1[1514]? = some (Cond.code (cw_nm 136) (cw_by 136) (cw_ml 136) (cw_rtt 136)) := rfl
set_option maxRecDepth 20000 in
theorem cw_co137 : tables_1[1210]? = some (Cond.code (cw_nm 137) (cw_by 137) (cw_ml 137) (cw_rtt 137)) := rfl
set_option maxRecDepth 20000 in
theorem cw_co138 : tables_1[1160]? = some (Cond.code (cw_nm 138) (cw_by 138) (cw_ml 138) (cw_rtt 138)) := rfl
set_option maxRecDepth 20000 in
theorem cw_co139 : tables_1[1164]? = some (Cond.code (cw_nm 139) (cw_by 139) (cw_ml 139) (cw_rtt 139)) := rfl
set_option maxRecDepth 20000 in
theorem cw_co140 : tables_1[1172]? = some (Cond.code (cw_nm 140) (cw_by 140) (cw_ml 140) (cw_rtt 140)) := rfl
set_option maxRecDepth 20000 in
theorem cw_co141 : tables_1[1474]? = some (Cond.code (cw_nm 141) (cw_by 141) (cw_ml 141) (cw_rtt 141)) := rfl
set_option maxRecDepth 20000 in
theorem cw_co142 : tables_1[1183]? = some (Cond.code (cw_nm 142) (cw_by 142) (cw_ml 142) (cw_rtt 142)) := rfl
set_option maxRecDepth 20000 in
theorem cw_co143 : tables_1[982]? = some (Cond.code (cw_nm 143) (cw_by 143) (cw_ml 143) (cw_rtt 143)) := rfl
set_option maxRecDepth 20000 in
theorem cw_co144 : tables_1[1641]? = some (Cond.code (cw_nm 144) (cw_by 144) (cw_ml 144) (cw_rtt 144)) := rfl
set_option maxRecDepth 20000 in
theorem cw_co145 : tables_1[1661]? = some (Cond.code (cw_nm 145) (cw_by 145) (cw_ml 145) (cw_rtt 145)) := rfl
set_option maxRecDepth 20000 in
theorem cw_co146 : tables_1[1153]? = some (Cond.code (cw_nm 146) (cw_by 146) (cw_ml 146) (cw_rtt 146)) := rfl
set_option maxRecDepth 20000 in
theorem cw_co147 : tables_1[1168]? = some (Cond.code (cw_nm 147) (cw_by 147) (cw_ml 147) (cw_rtt 147)) := rfl
set_option maxRecDepth 20000 in
theorem cw_co148 : tables_1[1187]? = some (Cond.code (cw_nm 148) (cw_by 148) (cw_ml 148) (cw_rtt 148)) := rfl
set_option maxRecDepth 20000 in
theorem cw_co149 : tables_1[1207]? = some (Cond.code (cw_nm 149) (cw_by 149) (cw_ml 149) (cw_rtt 149)) := rfl
set_option maxRecDepth 20000 in
theorem cw_co150 : tables_1[1203]? = some (Cond.code (cw_nm 150) (cw_by 150) (cw_ml 150) (cw_rtt 150)) := rfl
set_option maxRecDepth 20000 in
theorem cw_co151 : tables_1[1180]? = some (Cond.code (cw_nm 151) (cw_by 151) (cw_ml 151) (cw_rtt 151)) := rfl
set_option maxRecDepth 20000 in
theorem cw_co152 : tables_1[1191]? = some (Cond.code (cw_nm 152) (cw_by 152) (cw_ml 152) (cw_rtt 152)) := rfl
set_option maxRecDepth 20000 in
theorem cw_co153 : tables_1[1176]? = some (Cond.code (cw_nm 153) (cw_by 153) (cw_ml 153) (cw_rtt 153)) := rfl
set_option maxRecDepth 20000 in
theorem cw_co154 : tables_1[1195]? = some (Cond.code (cw_nm 154) (cw_by 154) (cw_ml 154) (cw_rtt 154)) := rfl
set_option maxRecDepth 20000 in
theorem cw_co155 : tables_1[1199]? = some (Cond.code (cw_nm 155) (cw_by 155) (cw_ml 155) (cw_rtt 155)) := rfl
set_option maxRecDepth 20000 in
theorem cw_co156 : tables_1[1218]? = some (Cond.code (cw_nm 156) (cw_by 156) (cw_ml 156) (cw_rtt 156)) := rfl
set_option maxRecDepth 20000 in
theorem cw_co157 : tables_1[1214]? = some (Cond.code (cw_nm 157) (cw_by 157) (cw_ml 157) (cw_rtt 157)) := rfl
set_option maxRecDepth 20000 in
theorem cw_co158 : tables_1[1282]? = some (Cond.code (cw_nm 158) (cw_by 158) (cw_ml 158) (cw_rtt 158)) := rfl
set_option maxRecDepth 20000 in
theorem cw_co159 : tables_1[1312]? = some (Cond.code (cw_nm 159) (cw_by 159) (cw_ml 159) (cw_rtt 159)) := rfl
set_option maxRecDepth 20000 in
theorem cw_co160 : tables_1[1315]? = some (Cond.code (cw_nm 160) (cw_by 160) (cw_ml 160) (cw_rtt 160)) := rfl
set_option maxRecDepth 20000 in
theorem cw_co161 : tables_1[1309]? = some (Cond.code (cw_nm 161) (cw_by 161) (cw_ml 161) (cw_rtt 161)) := rfl
set_option maxRecDepth 20000 in
theorem cw_co162 : tables_1[1319]? = some (Cond.code (cw_nm 162) (cw_by 162) (cw_ml 162) (cw_rtt 162)) := rfl
set_option maxRecDepth 20000 in
theorem cw_co163 : tables_1[1323]? = some (Cond.code (cw_nm 163) (cw_by 163) (cw_ml 163) (cw_rtt 163)) := rfl
set_option maxRecDepth 20000 in
theorem cw_co164 : tables_1[1327]? = some (Cond.code (cw_nm 164) (cw_by 164) (cw_ml 164) (cw_rtt 164)) := rfl
set_option maxRecDepth 20000 in
theorem cw_co165 : tables_1[1331]? = some (Cond.code (cw_nm 165) (cw_by 165) (cw_ml 165) (cw_rtt 165)) := rfl
set_option maxRecDepth 20000 in
theorem cw_co166 : tables_1[1350]? = some (Cond.code (cw_nm 166) (cw_by 166) (cw_ml 166) (cw_rtt 166)) := rfl
set_option maxRecDepth 20000 in
theorem cw_co167 : tables_1[1353]? = some (Cond.code (cw_nm 167) (cw_by 167) (cw_ml 167) (cw_rtt 167)) := rfl
set_option maxRecDepth 20000 in
theorem cw_co168 : tables_1[1357]? = some (Cond.code (cw_nm 168) (cw_by 168) (cw_ml 168) (cw_rtt 168)) := rfl
set_option maxRecDepth 20000 in
theorem cw_co169 : tables_1[1347]? = some (Cond.code (cw_nm 169) (cw_by 169) (cw_ml 169) (cw_rtt 169)) := rfl
set_option maxRecDepth 20000 in
theorem cw_co170 : tables_1[1374]? = some (Cond.code (cw_nm 170) (cw_by 170) (cw_ml 170) (cw_rtt 170)) := rfl
set_option maxRecDepth 20000 in
theorem cw_co171 : tables_1[1394]? = some (Cond.code (cw_nm 171) (cw_by 171) (cw_ml 171) (cw_rtt 171)) := rfl
set_option maxRecDepth 20000 in
theorem cw_co172 : tables_1[1370]? = some (Cond.code (cw_nm 172) (cw_by 172) (cw_ml 172) (cw_rtt 172)) := rfl
set_option maxRecDepth 20000 in
theorem cw_co173 : tables_1[1398]? = some (Cond.code (cw_nm 173) (cw_by 173) (cw_ml 173) (cw_rtt 173)) := rfl
set_option maxRecDepth 20000 in
theorem cw_co174 : tables_1[1402]? = some (Cond.code (cw_nm 174) (cw_by 174) (cw_ml 174) (cw_rtt 174)) := rfl
set_option maxRecDepth 20000 in
theorem cw_co175 : tables_1[1249]? = some (Cond.code (cw_nm 175) (cw_by 175) (cw_ml 175) (cw_rtt 175)) := rfl
set_option maxRecDepth 20000 in
theorem cw_co176 : tables_1[1406]? = some (Cond.code (cw_nm 176) (cw_by 176) (cw_ml 176) (cw_rtt 176)) := rfl
set_option maxRecDepth 20000 in
theorem cw_co177 : tables_1[1422]? = some (Cond.code (cw_nm 177) (cw_by 177) (cw_ml 177) (cw_rtt 177)) := rfl
set_option maxRecDepth 20000 in
theorem cw_co178 : tables_1[1378]? = some (Cond.code (cw_nm 178) (cw_by 178) (cw_ml 178) (cw_rtt 178)) := rfl
set_option maxRecDepth 20000 in
theorem cw_co179 : tables_1[1366]? = some (Cond.code (cw_nm 179) (cw_by 179) (cw_ml 179) (cw_rtt 179)) := rfl
set_option maxRecDepth 20000 in
theorem cw_co180 : tables_1[1362]? = some (Cond.code (cw_nm 180) (cw_by 180) (cw_ml 180) (cw_rtt 180)) := rfl
set_option maxRecDepth 20000 in
theorem cw_co181 : tables_1[1410]? = some (Cond.code (cw_nm 181) (cw_by 181) (cw_ml 181) (cw_rtt 181)) := rfl
set_option maxRecDepth 20000 in
theorem cw_co182 : tables_1[1414]? = some (Cond.code (cw_nm 182) (cw_by 182) (cw_ml 182) (cw_rtt 182)) := rfl
set_option maxRecDepth 20000 in
theorem cw_co183 : tables_1[1418]? = some (Cond.code (cw_nm 183) (cw_by 183) (cw_ml 183) (cw_rtt 183)) := rfl
set_option maxRecDepth 20000 in
theorem cw_co184 : tables_1[1382]? = some (Cond.code (cw_nm 184) (cw_by 184) (cw_ml 184) (cw_rtt 184)) := rfl
set_option maxRecDepth 20000 in
theorem cw_co185 : tables_1[1386]? = some (Cond.code (cw_nm 185) (cw_by 185) (cw_ml 185) (cw_rtt 185)) := rfl
set_option maxRecDepth 20000 in
theorem cw_co186 : tables_1[1390]? = some (Cond.code (cw_nm 186) (cw_by 186) (cw_ml 186) (cw_rtt 186)) := rfl
set_option maxRecDepth 20000 in
theorem cw_co187 : tables_1[1343]? = some (Cond.code (cw_nm 187) (cw_by 187) (cw_ml 187) (cw_rtt 187)) := rfl
set_option maxRecDepth 20000 in
theorem cw_co188 : tables_1[1339]? = some (Cond.code (cw_nm 188) (cw_by 188) (cw_ml 188) (cw_rtt 188)) := rfl
set_option maxRecDepth 20000 in
theorem cw_co189 : tables_1[1426]? = some (Cond.code (cw_nm 189) (cw_by 189) (cw_ml 189) (cw_rtt 189)) := rfl
set_option maxRecDepth 20000 in
theorem cw_co190 : tables_1[1335]? = some (Cond.code (cw_nm 190) (cw_by 190) (cw_ml 190) (cw_rtt 190)) := rfl
set_option maxRecDepth 20000 in
theorem cw_co191 : tables_1[1430]? = some (Cond.code (cw_nm 191) (cw_by 191) (cw_ml 191) (cw_rtt 191)) := rfl
set_option maxRecDepth 20000 in
theorem cw_co192 : tables_1[1438]? = some (Cond.code (cw_nm 192) (cw_by 192) (cw_ml 192) (cw_rtt 192)) := rfl
set_option maxRecDepth 20000 in
theorem cw_co193 : tables_1[1434]? = some (Cond.code (cw_nm 193) (cw_by 193) (cw_ml 193) (cw_rtt 193)) := rfl
set_option maxRecDepth 20000 in
theorem cw_co194 : tables_1[1234]? = some (Cond.code (cw_nm 194) (cw_by 194) (cw_ml 194) (cw_rtt 194)) := rfl
set_option maxRecDepth 20000 in
theorem cw_co195 : tables_1[1253]? = some (Cond.code (cw_nm 195) (cw_by 195) (cw_ml 195) (cw_rtt 195)) := rfl
set_option maxRecDepth 20000 in
theorem cw_co196 : tables_1[1286]? = some (Cond.code (cw_nm 196) (cw_by 196) (cw_ml 196) (cw_rtt 196)) := rfl
set_option maxRecDepth 20000 in
theorem cw_co197 : tables_1[1238]? = some (Cond.code (cw_nm 197) (cw_by 197) (cw_ml 197) (cw_rtt 197)) := rfl
set_option maxRecDepth 20000 in
theorem cw_co198 : tables_1[1242]? = some (Cond.code (cw_nm 198) (cw_by 198) (cw_ml 198) (cw_rtt 198)) := rfl
set_option maxRecDepth 20000 in
theorem cw_co199 : tables_1[1246]? = some (Cond.code (cw_nm 199) (cw_by 199) (cw_ml 199) (cw_rtt 199)) := rfl
set_option maxRecDepth 20000 in
theorem cw_co200 : tables_1[1257]? = some (Cond.code (cw_nm 200) (cw_by 200) (cw_ml 200) (cw_rtt 200)) := rfl
set_option maxRecDepth 20000 in
theorem cw_co201 : tables_1[1292]? = some (Cond.code (cw_nm 201) (cw_by 201) (cw_ml 201) (cw_rtt 201)) := rfl
set_option maxRecDepth 20000 in
theorem cw_co202 : tables_1[1296]? = some (Cond.code (cw_nm 202) (cw_by 202) (cw_ml 202) (cw_rtt 202)) := rfl
set_option maxRecDepth 20000 in
theorem cw_co203 : tables_1[1300]? = some (Cond.code (cw_nm 203) (cw_by 203) (cw_ml 203) (cw_rtt 203)) := rfl
set_option maxRecDepth 20000 in
theorem cw_co204 : tables_1[1304]? = some (Cond.code (cw_nm 204) (cw_by 204) (cw_ml 204) (cw_rtt 204)) := rfl
set_option maxRecDepth 20000 in
theorem cw_co205 : tables_1[1226]? = some (Cond.code (cw_nm 205) (cw_by 205) (cw_ml 205) (cw_rtt 205)) := rfl
set_option maxRecDepth 20000 in
theorem cw_co206 : tables_1[1230]? = some (Cond.code (cw_nm 206) (cw_by 206) (cw_ml 206) (cw_rtt 206)) := rfl
set_option maxRecDepth 20000 in
theorem cw_co207 : tables_1[1486]? = some (Cond.code (cw_nm 207) (cw_by 207) (cw_ml 207) (cw_rtt 207)) := rfl
set_option maxRecDepth 20000 in
theorem cw_co208 : tables_1[1490]? = some (Cond.code (cw_nm 208) (cw_by 208) (cw_ml 208) (cw_rtt 208)) := rfl
set_option maxRecDepth 20000 in
theorem cw_co209 : tables_1[1222]? = some (Cond.code (cw_nm 209) (cw_by 209) (cw_ml 209) (cw_rtt 209)) := rfl
set_option maxRecDepth 20000 in
theorem cw_co210 : tables_1[1459]? = some (Cond.code (cw_nm 210) (cw_by 210) (cw_ml 210) (cw_rtt 210)) := rfl
set_option maxRecDepth 20000 in
theorem cw_co211 : tables_1[1274]? = some (Cond.code (cw_nm 211) (cw_by 211) (cw_ml 211) (cw_rtt 211)) := rfl
set_option maxRecDepth 20000 in
theorem cw_co212 : tables_1[1270]? = some (Cond.code (cw_nm 212) (cw_by 212) (cw_ml 212) (cw_rtt 212)) := rfl
set_option maxRecDepth 20000 in
theorem cw_co213 : tables_1[1278]? = some (Cond.code (cw_nm 213) (cw_by 213) (cw_ml 213) (cw_rtt 213)) := rfl
set_option maxRecDepth 20000 in
theorem cw_co214 : tables_1[1266]? = some (Cond.code (cw_nm 214) (cw_by 214) (cw_ml 214) (cw_rtt 214)) := rfl
set_option maxRecDepth 20000 in
theorem cw_co215 : tables_1[1262]? = some (Cond.code (cw_nm 215) (cw_by 215) (cw_ml 215) (cw_rtt 215)) := rfl
set_option maxRecDepth 20000 in
theorem cw_co216 : tables_1[1447]? = some (Cond.code (cw_nm 216) (cw_by 216) (cw_ml 216) (cw_rtt 216)) := rfl
set_option maxRecDepth 20000 in
theorem cw_co217 : tables_1[1443]? = some (Cond.code (cw_nm 217) (cw_by 217) (cw_ml 217) (cw_rtt 217)) := rfl
set_option maxRecDepth 20000 in
theorem cw_co218 : tables_1[1482]? = some (Cond.code (cw_nm 218) (cw_by 218) (cw_ml 218) (cw_rtt 218)) := rfl
set_option maxRecDepth 20000 in
theorem cw_co219 : tables_1[1478]? = some (Cond.code (cw_nm 219) (cw_by 219) (cw_ml 219) (cw_rtt 219)) := rfl
set_option maxRecDepth 20000 in
theorem cw_co220 : tables_1[1471]? = some (Cond.code (cw_nm 220) (cw_by 220) (cw_ml 220) (cw_rtt 220)) := rfl
set_option maxRecDepth 20000 in
theorem cw_co221 : tables_1[1467]? = some (Cond.code (cw_nm 221) (cw_by 221) (cw_ml 221) (cw_rtt 221)) := rfl
set_option maxRecDepth 20000 in
theorem cw_co222 : tables_1[1463]? = some (Cond.code (cw_nm 222) (cw_by 222) (cw_ml 222) (cw_rtt 222)) := rfl
set_option maxRecDepth 20000 in
theorem cw_co223 : tables_1[1511]? = some (Cond.code (cw_nm 223) (cw_by 223) (cw_ml 223) (cw_rtt 223)) := rfl
set_option maxRecDepth 20000 in
theorem cw_co224 : tables_1[1494]? = some (Cond.code (cw_nm 224) (cw_by 224) (cw_ml 224) (cw_rtt 224)) := rfl
set_option maxRecDepth 20000 in
theorem cw_co225 : tables_1[1455]? = some (Cond.code (cw_nm 225) (cw_by 225) (cw_ml 225) (cw_rtt 225)) := rfl
set_option maxRecDepth 20000 in
theorem cw_co226 : tables_1[1451]? = some (Cond.code (cw_nm 226) (cw_by 226) (cw_ml 226) (cw_rtt 226)) := rfl
set_option maxRecDepth 20000 in
theorem cw_co227 : tables_1[1498]? = some (Cond.code (cw_nm 227) (cw_by 227) (cw_ml 227) (cw_rtt 227)) := rfl
set_option maxRecDepth 20000 in
theorem cw_co228 : tables_1[1502]? = some (Cond.code (cw_nm 228) (cw_by 228) (cw_ml 228) (cw_rtt 228)) := rfl
set_option maxRecDepth 20000 in
theorem cw_co229 : tables_1[1507]? = some (Cond.code (cw_nm 229) (cw_by 229) (cw_ml 229) (cw_rtt 229)) := rfl
set_option maxRecDepth 20000 in
theorem cw_co230 : tables_1[1522]? = some (Cond.code (cw_nm 230) (cw_by 230) (cw_ml 230) (cw_rtt 230)) := rfl
set_option maxRecDepth 20000 in
theorem cw_co231 : tables_1[1518]? = some (Cond.code (cw_nm 231) (cw_by 231) (cw_ml 231) (cw_rtt 231)) := rfl
set_option maxRecDepth 20000 in
theorem cw_co232 : tables_1[1530]? = some (Cond.code (cw_nm 232) (cw_by 232) (cw_ml 232) (cw_rtt 232)) := rfl
set_option maxRecDepth 20000 in
theorem cw_co233 : tables_1[1534]? = some (Cond.code (cw_nm 233) (cw_by 233) (cw_ml 233) (cw_rtt 233)) := rfl
set_option maxRecDepth 20000 in
theorem cw_co234 : tables_1[1526]? = some (Cond.code (cw_nm 234) (cw_by 234) (cw_ml 234) (cw_rtt 234)) := rfl
set_option maxRecDepth 20000 in
theorem cw_co235 : tables_1[1542]? = some (Cond.code (cw_nm 235) (cw_by 235) (cw_ml 235) (cw_rtt 235)) := rfl
set_option maxRecDepth 20000 in
theorem cw_co236 : tables_1[1538]? = some (Cond.code (cw_nm 236) (cw_by 236) (cw_ml 236) (cw_rtt 236)) := rfl
set_option maxRecDepth 20000 in
theorem cw_co237 : tables_1[1546]? = some (Cond.code (cw_nm 237) (cw_by 237) (cw_ml 237) (cw_rtt 237)) := rfl
set_option maxRecDepth 20000 in
theorem cw_co238 : tables_1[1554]? = some (Cond.code (cw_nm 238) (cw_by 238) (cw_ml 238) (cw_rtt 238)) := rfl
set_option maxRecDepth 20000 in
theorem cw_co239 : tables_1[1550]? = some (Cond.code (cw_nm 239) (cw_by 239) (cw_ml 239) (cw_rtt 239)) := rfl
set_option maxRecDepth 20000 in
theorem cw_co240 : tables_1[1562]? = some (Cond.code (cw_nm 240) (cw_by 240) (cw_ml 240) (cw_rtt 240)) := rfl
set_option maxRecDepth 20000 in
theorem cw_co241 : tables_1[1558]? = some (Cond.code (cw_nm 241) (cw_by 241) (cw_ml 241) (cw_rtt 241)) := rfl
set_option maxRecDepth 20000 in
theorem cw_co242 : tables_1[1566]? = some (Cond.code (cw_nm 242) (cw_by 242) (cw_ml 242) (cw_rtt 242)) := rfl
set_option maxRecDepth 20000 in
theorem cw_co243 : tables_1[1574]? = some (Cond.code (cw_nm 243) (cw_by 243) (cw_ml 243) (cw_rtt 243)) := rfl
set_option maxRecDepth 20000 in
theorem cw_co244 : tables_1[1570]? = some (Cond.code (cw_nm 244) (cw_by 244) (cw_ml 244) (cw_rtt 244)) := rfl
set_option maxRecDepth 20000 in
theorem cw_co245 : tables_1[1578]? = some (Cond.code (cw_nm 245) (cw_by 245) (cw_ml 245) (cw_rtt 245)) := rfl
set_option maxRecDepth 20000 in
theorem cw_co246 : tables_1[1582]? = some (Cond.code (cw_nm 246) (cw_by 246) (cw_ml 246) (cw_rtt 246)) := rfl
set_option maxRecDepth 20000 in
theorem cw_co247 : tables_1[1601]? = some (Cond.code (cw_nm 247) (cw_by 247) (cw_ml 247) (cw_rtt 247)) := rfl
set_option maxRecDepth 20000 in
theorem cw_co248 : tables_1[1589]? = some (Cond.code (cw_nm 248) (cw_by 248) (cw_ml 248) (cw_rtt 248)) := rfl
set_option maxRecDepth 20000 in
theorem cw_co249 : tables_1[1605]? = some (Cond.code (cw_nm 249) (cw_by 249) (cw_ml 249) (cw_rtt 249)) := rfl
set_option maxRecDepth 20000 in
theorem cw_co250 : tables_1[1597]? = some (Cond.code (cw_nm 250) (cw_by 250) (cw_ml 250) (cw_rtt 250)) := rfl
set_option maxRecDepth 20000 in
theorem cw_co251 : tables_1[1613]? = some (Cond.code (cw_nm 251) (cw_by 251) (cw_ml 251) (cw_rtt 251)) := rfl
set_option maxRecDepth 20000 in
theorem cw_co252 : tables_1[1621]? = some (Cond.code (cw_nm 252) (cw_by 252) (cw_ml 252) (cw_rtt 252)) := rfl
set_option maxRecDepth 20000 in
theorem cw_co253 : tables_1[1629]? = some (Cond.code (cw_nm 253) (cw_by 253) (cw_ml 253) (cw_rtt 253)) := rfl
set_option maxRecDepth 20000 in
theorem cw_co254 : tables_1[1593]? = some (Cond.code (cw_nm 254) (cw_by 254) (cw_ml 254) (cw_rtt 254)) := rfl
set_option maxRecDepth 20000 in
theorem cw_co255 : tables_1[1609]? = some (Cond.code (cw_nm 255) (cw_by 255) (cw_ml 255) (cw_rtt 255)) := rfl
set_option maxRecDepth 20000 in
theorem cw_co256 : tables_1[1617]? = some (Cond.code (cw_nm 256) (cw_by 256) (cw_ml 256) (cw_rtt 256)) := rfl
set_option maxRecDepth 20000 in
theorem cw_co257 : tables_1[1625]? = some (Cond.code (cw_nm 257) (cw_by 257) (cw_ml 257) (cw_rtt 257)) := rfl
set_option maxRecDepth 20000 in
theorem cw_co258 : tables_1[1633]? = some (Cond.code (cw_nm 258) (cw_by 258) (cw_ml 258) (cw_rtt 258)) := rfl
set_option maxRecDepth 20000 in
theorem cw_co259 : tables_1[1637]? = some (Cond.code (cw_nm 259) (cw_by 259) (cw_ml 259) (cw_rtt 259)) := rfl
set_option maxRecDepth 20000 in
theorem cw_co260 : tables_1[1649]? = some (Cond.code (cw_nm 260) (cw_by 260) (cw_ml 260) (cw_rtt 260)) := rfl
set_option maxRecDepth 20000 in
theorem cw_co261 : tables_1[1656]? = some (Cond.code (cw_nm 261) (cw_by 261) (cw_ml 261) (cw_rtt 261)) := rfl
set_option maxRecDepth 20000 in
theorem cw_co262 : tables_1[1653]? = some (Cond.code (cw_nm 262) (cw_by 262) (cw_ml 262) (cw_rtt 262)) := rfl
set_option maxRecDepth 20000 in
theorem cw_co263 : tables_1[1645]? = some (Cond.code (cw_nm 263) (cw_by 263) (cw_ml 263) (cw_rtt 263)) := rfl
set_option maxRecDepth 20000 in
theorem cw_co264 : tables_1[1669]? = some (Cond.code (cw_nm 264) (cw_by 264) (cw_ml 264) (cw_rtt 264)) := rfl
set_option maxRecDepth 20000 in
theorem cw_co265 : tables_1[1665]? = some (Cond.code (cw_nm 265) (cw_by 265) (cw_ml 265) (cw_rtt 265)) := rfl
set_option maxRecDepth 20000 in
theorem cw_co266 : tables_1[1677]? = some (Cond.code (cw_nm 266) (cw_by 266) (cw_ml 266) (cw_rtt 266)) := rfl
set_option maxRecDepth 20000 in
theorem cw_co267 : tables_1[1681]? = some (Cond.code (cw_nm 267) (cw_by 267) (cw_ml 267) (cw_rtt 267)) := rfl
set_option maxRecDepth 20000 in
theorem cw_co268 : tables_1[1685]? = some (Cond.code (cw_nm 268) (cw_by 268) (cw_ml 268) (cw_rtt 268)) := rfl
def cw_MS_0 : List (Nat × Nat) := [(733, 1), (528, 2), (525, 3), (600, 8), (603, 9), (608, 10), (518, 56), (421, 111), (461, 112), (949, 113), (1155, 135), (1513, 136), (1209, 137), (1473, 141), (1182, 142), (1311, 159), (1314, 160), (1349, 166), (1352, 167), (1248, 175), (1655, 261)]
def cw_MS : List (Nat × Nat) := cw_MS_0
theorem cw_MS_ok : ∀ e ∈ cw_MS, tables_1[e.1]? = some (Cond.static (cw_nm e.2)) ∧ cw_kn e.2 = 0 := by decide +kernel
def cw_MI_0 : List (Nat × Nat) := [(592, 4), (586, 5), (596, 6), (582, 7), (230, 11), (476, 12), (484, 13), (487, 14), (264, 15), (491, 16), (809, 17), (864, 18), (104, 19), (749, 20), (720, 21), (270, 22), (499, 23), (813, 24), (818, 25), (835, 26), (822, 27), (827, 28), (839, 29), (504, 30), (509, 31), (127, 32), (541, 33), (565, 34), (574, 35), (675, 36), (635, 37), (671, 38), (683, 39), (688, 40), (694, 41), (639, 42), (663, 43), (667, 44), (643, 45), (631, 46)]
def cw_MI_1 : List (Nat × Nat) := [(570, 47), (647, 48), (651, 49), (579, 50), (326, 51), (872, 52), (878, 53), (215, 54), (512, 55), (133, 57), (704, 58), (657, 59), (698, 60), (30, 61), (715, 62), (417, 63), (428, 64), (453, 65), (464, 66), (830, 67), (495, 68), (22, 69), (413, 70), (444, 71), (449, 72), (457, 73), (531, 74), (537, 75), (545, 76), (549, 77), (557, 78), (561, 79), (711, 80), (765, 81), (769, 82), (773, 83), (777, 84), (781, 85), (785, 86), (789, 87)]
def cw_MI_2 : List (Nat × Nat) := [(793, 88), (797, 89), (801, 90), (805, 91), (847, 92), (851, 93), (860, 94), (868, 95), (884, 96), (893, 97), (897, 98), (905, 99), (914, 100), (918, 101), (926, 102), (930, 103), (937, 104), (944, 105), (959, 106), (963, 107), (967, 108), (971, 109), (975, 110), (441, 114), (425, 115), (437, 116), (433, 117), (473, 118), (469, 119), (856, 120), (844, 121), (890, 122), (902, 123), (910, 124), (923, 125), (956, 126), (554, 127), (746, 128), (754, 129), (758, 130)]
def cw_MI_3 : List (Nat × Nat) := [(762, 131), (726, 132), (741, 133), (730, 134), (1159, 138), (1163, 139), (1171, 140), (981, 143), (1640, 144), (1660, 145), (1151, 146), (1166, 147), (1186, 148), (1206, 149), (1202, 150), (1179, 151), (1190, 152), (1174, 153), (1193, 154), (1197, 155), (1217, 156), (1212, 157), (1281, 158), (1307, 161), (1317, 162), (1321, 163), (1325, 164), (1329, 165), (1356, 168), (1346, 169), (1373, 170), (1393, 171), (1369, 172), (1397, 173), (1401, 174), (1405, 176), (1421, 177), (1377, 178), (1365, 179), (1361, 180)]
def cw_MI_4 : List (Nat × Nat) := [(1409, 181), (1413, 182), (1417, 183), (1381, 184), (1385, 185), (1389, 186), (1342, 187), (1338, 188), (1425, 189), (1333, 190), (1428, 191), (1437, 192), (1432, 193), (1233, 194), (1252, 195), (1285, 196), (1237, 197), (1241, 198), (1245, 199), (1256, 200), (1291, 201), (1295, 202), (1299, 203), (1303, 204), (1225, 205), (1229, 206), (1485, 207), (1489, 208), (1221, 209), (1458, 210), (1273, 211), (1269, 212), (1277, 213), (1265, 214), (1260, 215), (1446, 216), (1441, 217), (1481, 218), (1477, 219), (1470, 220)]
def cw_MI_5 : List (Nat × Nat) := [(1466, 221), (1462, 222), (1510, 223), (1493, 224), (1454, 225), (1449, 226), (1496, 227), (1500, 228), (1505, 229), (1521, 230), (1516, 231), (1529, 232), (1533, 233), (1524, 234), (1541, 235), (1536, 236), (1544, 237), (1553, 238), (1548, 239), (1561, 240), (1556, 241), (1564, 242), (1573, 243), (1568, 244), (1576, 245), (1580, 246), (1600, 247), (1587, 248), (1604, 249), (1596, 250), (1612, 251), (1620, 252), (1628, 253), (1591, 254), (1607, 255), (1615, 256), (1623, 257), (1631, 258), (1635, 259), (1648, 260)]
def cw_MI_6 : List (Nat × Nat) := [(1652, 262), (1644, 263), (1668, 264), (1663, 265), (1675, 266), (1679, 267), (1683, 268)]
def cw_MI : List (Nat × Nat) := cw_MI_0 ++ cw_MI_1 ++ cw_MI_2 ++ cw_MI_3 ++ cw_MI_4 ++ cw_MI_5 ++ cw_MI_6
theorem cw_MI_ok : ∀ e ∈ cw_MI, tables_1[e.1]? = some (Cond.instanceMethod (cw_nm e.2)) ∧ (cw_kn e.2 = 1 ∨ cw_kn e.2 = 2 ∧ (cw_nm e.2).name = "<init>") := by decide +kernel
def cw_MV_0 : List (Nat × Nat) := [(593, 4), (587, 5), (597, 6), (583, 7), (477, 12), (488, 14), (492, 16), (810, 17), (865, 18), (750, 20), (721, 21), (500, 23), (814, 24), (542, 33), (566, 34), (873, 52), (513, 55), (658, 59), (699, 60), (716, 62), (418, 63), (429, 64), (454, 65), (465, 66), (831, 67), (496, 68), (414, 70), (445, 71), (450, 72), (458, 73), (532, 74), (538, 75), (546, 76), (550, 77), (558, 78), (562, 79), (712, 80), (766, 81), (770, 82), (774, 83)]
def cw_MV_1 : List (Nat × Nat) := [(778, 84), (782, 85), (786, 86), (790, 87), (794, 88), (798, 89), (802, 90), (806, 91), (848, 92), (852, 93), (861, 94), (869, 95), (885, 96), (894, 97), (898, 98), (906, 99), (915, 100), (919, 101), (927, 102), (931, 103), (938, 104), (945, 105), (960, 106), (964, 107), (968, 108), (972, 109), (976, 110), (1152, 146), (1167, 147), (1175, 153), (1194, 154), (1198, 155), (1213, 157), (1308, 161), (1318, 162), (1322, 163), (1326, 164), (1330, 165), (1334, 190), (1429, 191)]
def cw_MV_2 : List (Nat × Nat) := [(1433, 193), (1261, 215), (1442, 217), (1450, 226), (1497, 227), (1501, 228), (1506, 229), (1517, 231), (1525, 234), (1537, 236), (1545, 237), (1549, 239), (1557, 241), (1565, 242), (1569, 244), (1577, 245), (1581, 246), (1588, 248), (1592, 254), (1608, 255), (1616, 256), (1624, 257), (1632, 258), (1636, 259), (1664, 265), (1676, 266), (1680, 267), (1684, 268)]
def cw_MV : List (Nat × Nat) := cw_MV_0 ++ cw_MV_1 ++ cw_MV_2
theorem cw_MV_ok : ∀ e ∈ cw_MV, tables_1[e.1]? = some (Cond.selects (cw_nm e.2).cls (cw_nm e.2) (cw_nm e.2)) := by decide +kernel
def cw_MP_0 : List (Nat × Nat) := [(6, 13), (33, 25), (36, 26), (34, 27), (35, 28), (37, 29), (7, 30), (8, 31), (11, 35), (22, 36), (14, 37), (21, 38), (23, 39), (24, 40), (25, 41), (15, 42), (19, 43), (20, 44), (16, 45), (13, 46), (10, 47), (17, 48), (18, 49), (12, 50), (40, 53), (3, 114), (0, 115), (2, 116), (1, 117), (5, 118), (4, 119), (39, 120), (38, 121), (41, 122), (42, 123), (43, 124), (44, 125), (45, 126), (9, 127), (29, 128)]
def cw_MP_1 : List (Nat × Nat) := [(30, 129), (31, 130), (32, 131), (26, 132), (28, 133), (27, 134), (46, 138), (47, 139), (48, 140), (121, 144), (125, 145), (50, 148), (53, 149), (52, 150), (49, 151), (51, 152), (54, 156), (68, 158), (77, 168), (76, 169), (81, 170), (86, 171), (80, 172), (87, 173), (88, 174), (89, 176), (93, 177), (82, 178), (79, 179), (78, 180), (90, 181), (91, 182), (92, 183), (83, 184), (84, 185), (85, 186), (75, 187), (74, 188), (94, 189), (95, 192)]
def cw_MP_2 : List (Nat × Nat) := [(58, 194), (62, 195), (69, 196), (59, 197), (60, 198), (61, 199), (63, 200), (70, 201), (71, 202), (72, 203), (73, 204), (56, 205), (57, 206), (104, 207), (105, 208), (55, 209), (98, 210), (66, 211), (65, 212), (67, 213), (64, 214), (96, 216), (103, 218), (102, 219), (101, 220), (100, 221), (99, 222), (107, 223), (106, 224), (97, 225), (108, 230), (109, 232), (110, 233), (111, 235), (112, 238), (113, 240), (114, 243), (116, 247), (117, 249), (115, 250)]
def cw_MP_3 : List (Nat × Nat) := [(118, 251), (119, 252), (120, 253), (123, 260), (124, 262), (122, 263), (126, 264)]
def cw_MP : List (Nat × Nat) := cw_MP_0 ++ cw_MP_1 ++ cw_MP_2 ++ cw_MP_3
theorem cw_MP_ok : ∀ e ∈ cw_MP, (k2_sels lw_privs)[e.1]? = some (Cond.selects (cw_nm e.2).cls (cw_nm e.2) (cw_nm e.2)) := by decide +kernel
