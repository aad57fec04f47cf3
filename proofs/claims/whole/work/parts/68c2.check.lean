/-! THE METHODS' CHECK, part 2 -/
set_option maxRecDepth 100000 in
theorem i_o118 : i_MOK i_m118 := i_MB_ok (c1 := 810) (c2 := 136) (c3 := 808) (c4 := 809) (by decide +kernel)
set_option maxRecDepth 100000 in
theorem i_o119 : i_MOK i_m119 := i_MB_ok (c1 := 790) (c2 := 136) (c3 := 788) (c4 := 789) (by decide +kernel)
set_option maxRecDepth 100000 in
theorem i_o120 : i_MOK i_m120 := i_MB_ok (c1 := 805) (c2 := 136) (c3 := 803) (c4 := 804) (by decide +kernel)
set_option maxRecDepth 100000 in
theorem i_o121 : i_MOK i_m121 := i_MB_ok (c1 := 814) (c2 := 136) (c3 := 812) (c4 := 813) (by decide +kernel)
set_option maxRecDepth 100000 in
theorem i_o122 : i_MOK i_m122 := i_MB_ok (c1 := 826) (c2 := 136) (c3 := 824) (c4 := 825) (by decide +kernel)
set_option maxRecDepth 100000 in
theorem i_o123 : i_MOK i_m123 := i_MB_ok (c1 := 838) (c2 := 136) (c3 := 836) (c4 := 837) (by decide +kernel)
set_option maxRecDepth 100000 in
theorem i_o124 : i_MOK i_m124 := i_MB_ok (c1 := 842) (c2 := 136) (c3 := 840) (c4 := 841) (by decide +kernel)
set_option maxRecDepth 100000 in
theorem i_o125 : i_MOK i_m125 := i_MB_ok (c1 := 1459) (c2 := 136) (c3 := 1457) (c4 := 1458) (by decide +kernel)
set_option maxRecDepth 100000 in
theorem i_o126 : i_MOK i_m126 := i_MB_ok (c1 := 1465) (c2 := 136) (c3 := 1463) (c4 := 1464) (by decide +kernel)
set_option maxRecDepth 100000 in
theorem i_o127 : i_MOK i_m127 := i_MB_ok (c1 := 1469) (c2 := 136) (c3 := 1468) (c4 := 53) (by decide +kernel)
set_option maxRecDepth 100000 in
theorem i_o128 : i_MOK i_m128 := i_MB_ok (c1 := 161) (c2 := 135) (c3 := 160) (c4 := 0) (by decide +kernel)
set_option maxRecDepth 100000 in
theorem i_o129 : i_MOK i_m129 := i_MB_ok (c1 := 764) (c2 := 135) (c3 := 762) (c4 := 763) (by decide +kernel)
set_option maxRecDepth 100000 in
theorem i_o130 : i_MOK i_m130 := i_MB_ok (c1 := 768) (c2 := 135) (c3 := 766) (c4 := 767) (by decide +kernel)
set_option maxRecDepth 100000 in
theorem i_o131 : i_MOK i_m131 := i_MB_ok (c1 := 772) (c2 := 135) (c3 := 770) (c4 := 771) (by decide +kernel)
set_option maxRecDepth 100000 in
theorem i_o132 : i_MOK i_m132 := i_MB_ok (c1 := 776) (c2 := 135) (c3 := 774) (c4 := 775) (by decide +kernel)
set_option maxRecDepth 100000 in
theorem i_o133 : i_MOK i_m133 := i_MB_ok (c1 := 801) (c2 := 135) (c3 := 799) (c4 := 800) (by decide +kernel)
set_option maxRecDepth 100000 in
theorem i_o134 : i_MOK i_m134 := i_MB_ok (c1 := 818) (c2 := 135) (c3 := 816) (c4 := 817) (by decide +kernel)
set_option maxRecDepth 100000 in
theorem i_o135 : i_MOK i_m135 := i_MB_ok (c1 := 834) (c2 := 135) (c3 := 832) (c4 := 833) (by decide +kernel)
set_option maxRecDepth 100000 in
theorem i_o136 : i_MOK i_m136 := i_MB_ok (c1 := 847) (c2 := 135) (c3 := 845) (c4 := 846) (by decide +kernel)
set_option maxRecDepth 100000 in
theorem i_o137 : i_MOK i_m137 := i_MB_ok (c1 := 855) (c2 := 135) (c3 := 853) (c4 := 854) (by decide +kernel)
set_option maxRecDepth 100000 in
theorem i_o138 : i_MOK i_m138 := i_MB_ok (c1 := 1043) (c2 := 135) (c3 := 1041) (c4 := 1042) (by decide +kernel)
set_option maxRecDepth 100000 in
theorem i_o139 : i_MOK i_m139 := i_MB_ok (c1 := 1103) (c2 := 135) (c3 := 1101) (c4 := 1102) (by decide +kernel)
set_option maxRecDepth 100000 in
theorem i_o140 : i_MOK i_m140 := i_MB_ok (c1 := 1107) (c2 := 135) (c3 := 1105) (c4 := 1106) (by decide +kernel)
set_option maxRecDepth 100000 in
theorem i_o141 : i_MOK i_m141 := i_MB_ok (c1 := 1112) (c2 := 135) (c3 := 1110) (c4 := 1111) (by decide +kernel)
set_option maxRecDepth 100000 in
theorem i_o142 : i_MOK i_m142 := i_MB_ok (c1 := 1121) (c2 := 135) (c3 := 1119) (c4 := 1120) (by decide +kernel)
set_option maxRecDepth 100000 in
theorem i_o143 : i_MOK i_m143 := i_MB_ok (c1 := 1125) (c2 := 135) (c3 := 1123) (c4 := 1124) (by decide +kernel)
set_option maxRecDepth 100000 in
theorem i_o144 : i_MOK i_m144 := i_MB_ok (c1 := 1136) (c2 := 135) (c3 := 1134) (c4 := 1135) (by decide +kernel)
set_option maxRecDepth 100000 in
theorem i_o145 : i_MOK i_m145 := i_MB_ok (c1 := 1140) (c2 := 135) (c3 := 1138) (c4 := 1139) (by decide +kernel)
set_option maxRecDepth 100000 in
theorem i_o146 : i_MOK i_m146 := i_MB_ok (c1 := 1148) (c2 := 135) (c3 := 1146) (c4 := 1147) (by decide +kernel)
set_option maxRecDepth 100000 in
theorem i_o147 : i_MOK i_m147 := i_MB_ok (c1 := 1156) (c2 := 135) (c3 := 1154) (c4 := 1155) (by decide +kernel)
set_option maxRecDepth 100000 in
theorem i_o148 : i_MOK i_m148 := i_MB_ok (c1 := 1164) (c2 := 135) (c3 := 1162) (c4 := 1163) (by decide +kernel)
set_option maxRecDepth 100000 in
theorem i_o149 : i_MOK i_m149 := i_MB_ok (c1 := 1175) (c2 := 135) (c3 := 1173) (c4 := 1174) (by decide +kernel)
set_option maxRecDepth 100000 in
theorem i_o150 : i_MOK i_m150 := i_MB_ok (c1 := 1199) (c2 := 135) (c3 := 1197) (c4 := 1198) (by decide +kernel)
set_option maxRecDepth 100000 in
theorem i_o151 : i_MOK i_m151 := i_MB_ok (c1 := 1227) (c2 := 135) (c3 := 1225) (c4 := 1226) (by decide +kernel)
set_option maxRecDepth 100000 in
theorem i_o152 : i_MOK i_m152 := i_MB_ok (c1 := 1235) (c2 := 135) (c3 := 1233) (c4 := 1234) (by decide +kernel)
set_option maxRecDepth 100000 in
theorem i_o153 : i_MOK i_m153 := i_MB_ok (c1 := 1245) (c2 := 135) (c3 := 1243) (c4 := 1244) (by decide +kernel)
set_option maxRecDepth 100000 in
theorem i_o154 : i_MOK i_m154 := i_MB_ok (c1 := 1249) (c2 := 135) (c3 := 1247) (c4 := 1248) (by decide +kernel)
set_option maxRecDepth 100000 in
theorem i_o155 : i_MOK i_m155 := i_MB_ok (c1 := 1257) (c2 := 135) (c3 := 1255) (c4 := 1256) (by decide +kernel)
set_option maxRecDepth 100000 in
theorem i_o156 : i_MOK i_m156 := i_MB_ok (c1 := 1305) (c2 := 135) (c3 := 1303) (c4 := 1304) (by decide +kernel)
set_option maxRecDepth 100000 in
theorem i_o157 : i_MOK i_m157 := i_MB_ok (c1 := 1309) (c2 := 135) (c3 := 1307) (c4 := 1308) (by decide +kernel)
set_option maxRecDepth 100000 in
theorem i_o158 : i_MOK i_m158 := i_MB_ok (c1 := 1331) (c2 := 135) (c3 := 1329) (c4 := 1330) (by decide +kernel)
set_option maxRecDepth 100000 in
theorem i_o159 : i_MOK i_m159 := i_MB_ok (c1 := 1356) (c2 := 135) (c3 := 1354) (c4 := 1355) (by decide +kernel)
set_option maxRecDepth 100000 in
theorem i_o160 : i_MOK i_m160 := i_MB_ok (c1 := 1388) (c2 := 135) (c3 := 1386) (c4 := 1387) (by decide +kernel)
set_option maxRecDepth 100000 in
theorem i_o161 : i_MOK i_m161 := i_MB_ok (c1 := 1399) (c2 := 135) (c3 := 1397) (c4 := 1398) (by decide +kernel)
set_option maxRecDepth 100000 in
theorem i_o162 : i_MOK i_m162 := i_MB_ok (c1 := 1420) (c2 := 135) (c3 := 1418) (c4 := 1419) (by decide +kernel)
set_option maxRecDepth 100000 in
theorem i_o163 : i_MOK i_m163 := i_MB_ok (c1 := 1433) (c2 := 135) (c3 := 1431) (c4 := 1432) (by decide +kernel)
set_option maxRecDepth 100000 in
theorem i_o164 : i_MOK i_m164 := i_MB_ok (c1 := 1455) (c2 := 135) (c3 := 1453) (c4 := 1454) (by decide +kernel)
set_option maxRecDepth 100000 in
theorem i_o165 : i_MOK i_m165 := i_MB_ok (c1 := 1473) (c2 := 135) (c3 := 1471) (c4 := 1472) (by decide +kernel)
set_option maxRecDepth 100000 in
theorem i_o166 : i_MOK i_m166 := i_MB_ok (c1 := 1482) (c2 := 135) (c3 := 1480) (c4 := 1481) (by decide +kernel)
set_option maxRecDepth 100000 in
theorem i_o167 : i_MOK i_m167 := i_MB_ok (c1 := 1491) (c2 := 135) (c3 := 1489) (c4 := 1490) (by decide +kernel)
set_option maxRecDepth 100000 in
theorem i_o168 : i_MOK i_m168 := i_MB_ok (c1 := 1495) (c2 := 135) (c3 := 1493) (c4 := 1494) (by decide +kernel)
set_option maxRecDepth 100000 in
theorem i_o169 : i_MOK i_m169 := i_MB_ok (c1 := 1500) (c2 := 135) (c3 := 1498) (c4 := 1499) (by decide +kernel)
set_option maxRecDepth 100000 in
theorem i_o170 : i_MOK i_m170 := i_MB_ok (c1 := 1513) (c2 := 135) (c3 := 1511) (c4 := 1512) (by decide +kernel)
set_option maxRecDepth 100000 in
theorem i_o171 : i_MOK i_m171 := i_MB_ok (c1 := 1519) (c2 := 135) (c3 := 1517) (c4 := 1518) (by decide +kernel)
set_option maxRecDepth 100000 in
theorem i_o172 : i_MOK i_m172 := i_MB_ok (c1 := 1529) (c2 := 135) (c3 := 1527) (c4 := 1528) (by decide +kernel)
set_option maxRecDepth 100000 in
theorem i_o173 : i_MOK i_m173 := i_MB_ok (c1 := 1537) (c2 := 135) (c3 := 1535) (c4 := 1536) (by decide +kernel)
set_option maxRecDepth 100000 in
theorem i_o174 : i_MOK i_m174 := i_MB_ok (c1 := 1557) (c2 := 135) (c3 := 1555) (c4 := 1556) (by decide +kernel)
set_option maxRecDepth 100000 in
theorem i_o175 : i_MOK i_m175 := i_MB_ok (c1 := 1561) (c2 := 135) (c3 := 1559) (c4 := 1560) (by decide +kernel)
set_option maxRecDepth 100000 in
theorem i_o176 : i_MOK i_m176 := i_MB_ok (c1 := 1565) (c2 := 135) (c3 := 1563) (c4 := 1564) (by decide +kernel)
