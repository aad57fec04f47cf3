/-! THE TABLES' CHECK: the methods; then all of it together -/
def i_MB (M : i_M) (c1 c2 c3 c4 : Nat) : Bool := i_isW c1 (.code (i_y M) (i_by M) (i_ml M) (i_re M)) && plainName (i_own M) && i_isW c2 (.initialized (i_own M)) && decide (i_own M ≠ "java/lang/invoke/MethodHandle") && decide (i_own M ≠ "java/lang/invoke/VarHandle") && decide ((parseMethodDescriptor (i_y M).desc).map (fun d => d.parameters.length) = some (i_na M)) &&
  (match i_ki M with
  | 0 => i_isW c3 (.static (i_y M))
  | 1 => i_isW c3 (.instanceMethod (i_y M)) && i_isW c4 (.selects (i_own M) (i_y M) (i_y M)) && ((decide (i_cl M < 13) && decide (i_cn (i_cl M) = i_own M)) || (decide (i_cl M = 100) && decide (i_own M = "java/lang/String")))
  | 2 => decide ((i_y M).name = "<init>") && i_isW c3 (.instanceMethod (i_y M)) && decide (i_re M = none)
  | _ => false)
theorem i_MB_ok {M : i_M} {c1 c2 c3 c4 : Nat} (h : i_MB M c1 c2 c3 c4 = true) : i_MOK M := by
  unfold i_MB at h
  simp only [Bool.and_eq_true, decide_eq_true_eq] at h
  obtain ⟨⟨⟨⟨⟨⟨h1, h2⟩, h3⟩, h4⟩, h5⟩, h6⟩, h7⟩ := h
  refine ⟨i_isW_ok h1, h2, i_isW_ok h3, ⟨h4, h5, h6⟩, ?_⟩
  split at h7
  · rename_i hk
    exact Or.inl ⟨hk, i_isW_ok h7⟩
  · rename_i hk
    simp only [Bool.and_eq_true, Bool.or_eq_true, decide_eq_true_eq] at h7
    exact Or.inr (Or.inl ⟨hk, i_isW_ok h7.1.1, i_isW_ok h7.1.2, h7.2⟩)
  · rename_i hk
    simp only [Bool.and_eq_true, decide_eq_true_eq] at h7
    exact Or.inr (Or.inr ⟨hk, h7.1.1, i_isW_ok h7.1.2, h7.2⟩)
  · cases h7
set_option maxRecDepth 100000 in
theorem i_o0 : i_MOK i_m0 := i_MB_ok (c1 := 506) (c2 := 148) (c3 := 505) (c4 := 0) (by decide +kernel)
set_option maxRecDepth 100000 in
theorem i_o1 : i_MOK i_m1 := i_MB_ok (c1 := 996) (c2 := 148) (c3 := 994) (c4 := 995) (by decide +kernel)
set_option maxRecDepth 100000 in
theorem i_o2 : i_MOK i_m2 := i_MB_ok (c1 := 1013) (c2 := 148) (c3 := 1012) (c4 := 17) (by decide +kernel)
set_option maxRecDepth 100000 in
theorem i_o3 : i_MOK i_m3 := i_MB_ok (c1 := 1029) (c2 := 148) (c3 := 1028) (c4 := 18) (by decide +kernel)
set_option maxRecDepth 100000 in
theorem i_o4 : i_MOK i_m4 := i_MB_ok (c1 := 1152) (c2 := 148) (c3 := 1150) (c4 := 1151) (by decide +kernel)
set_option maxRecDepth 100000 in
theorem i_o5 : i_MOK i_m5 := i_MB_ok (c1 := 1160) (c2 := 148) (c3 := 1158) (c4 := 1159) (by decide +kernel)
set_option maxRecDepth 100000 in
theorem i_o6 : i_MOK i_m6 := i_MB_ok (c1 := 1171) (c2 := 148) (c3 := 1169) (c4 := 1170) (by decide +kernel)
set_option maxRecDepth 100000 in
theorem i_o7 : i_MOK i_m7 := i_MB_ok (c1 := 1132) (c2 := 148) (c3 := 1130) (c4 := 1131) (by decide +kernel)
set_option maxRecDepth 100000 in
theorem i_o8 : i_MOK i_m8 := i_MB_ok (c1 := 1477) (c2 := 148) (c3 := 1475) (c4 := 1476) (by decide +kernel)
set_option maxRecDepth 100000 in
theorem i_o9 : i_MOK i_m9 := i_MB_ok (c1 := 1219) (c2 := 148) (c3 := 1217) (c4 := 1218) (by decide +kernel)
set_option maxRecDepth 100000 in
theorem i_o10 : i_MOK i_m10 := i_MB_ok (c1 := 1179) (c2 := 148) (c3 := 1177) (c4 := 1178) (by decide +kernel)
set_option maxRecDepth 100000 in
theorem i_o11 : i_MOK i_m11 := i_MB_ok (c1 := 1213) (c2 := 148) (c3 := 1211) (c4 := 1212) (by decide +kernel)
set_option maxRecDepth 100000 in
theorem i_o12 : i_MOK i_m12 := i_MB_ok (c1 := 1207) (c2 := 148) (c3 := 1205) (c4 := 1206) (by decide +kernel)
set_option maxRecDepth 100000 in
theorem i_o13 : i_MOK i_m13 := i_MB_ok (c1 := 1239) (c2 := 148) (c3 := 1237) (c4 := 1238) (by decide +kernel)
set_option maxRecDepth 100000 in
theorem i_o14 : i_MOK i_m14 := i_MB_ok (c1 := 1253) (c2 := 148) (c3 := 1251) (c4 := 1252) (by decide +kernel)
set_option maxRecDepth 100000 in
theorem i_o15 : i_MOK i_m15 := i_MB_ok (c1 := 1486) (c2 := 148) (c3 := 1484) (c4 := 1485) (by decide +kernel)
set_option maxRecDepth 100000 in
theorem i_o16 : i_MOK i_m16 := i_MB_ok (c1 := 690) (c2 := 152) (c3 := 689) (c4 := 0) (by decide +kernel)
set_option maxRecDepth 100000 in
theorem i_o17 : i_MOK i_m17 := i_MB_ok (c1 := 1541) (c2 := 152) (c3 := 1539) (c4 := 1540) (by decide +kernel)
set_option maxRecDepth 100000 in
theorem i_o18 : i_MOK i_m18 := i_MB_ok (c1 := 1547) (c2 := 152) (c3 := 1546) (c4 := 54) (by decide +kernel)
set_option maxRecDepth 100000 in
theorem i_o19 : i_MOK i_m19 := i_MB_ok (c1 := 1552) (c2 := 152) (c3 := 1551) (c4 := 55) (by decide +kernel)
set_option maxRecDepth 100000 in
theorem i_o20 : i_MOK i_m20 := i_MB_ok (c1 := 512) (c2 := 149) (c3 := 511) (c4 := 0) (by decide +kernel)
set_option maxRecDepth 100000 in
theorem i_o21 : i_MOK i_m21 := i_MB_ok (c1 := 1000) (c2 := 149) (c3 := 998) (c4 := 999) (by decide +kernel)
set_option maxRecDepth 100000 in
theorem i_o22 : i_MOK i_m22 := i_MB_ok (c1 := 1006) (c2 := 149) (c3 := 1005) (c4 := 16) (by decide +kernel)
set_option maxRecDepth 100000 in
theorem i_o23 : i_MOK i_m23 := i_MB_ok (c1 := 1290) (c2 := 149) (c3 := 1288) (c4 := 1289) (by decide +kernel)
set_option maxRecDepth 100000 in
theorem i_o24 : i_MOK i_m24 := i_MB_ok (c1 := 1383) (c2 := 149) (c3 := 1381) (c4 := 1382) (by decide +kernel)
set_option maxRecDepth 100000 in
theorem i_o25 : i_MOK i_m25 := i_MB_ok (c1 := 1020) (c2 := 149) (c3 := 1018) (c4 := 1019) (by decide +kernel)
set_option maxRecDepth 100000 in
theorem i_o26 : i_MOK i_m26 := i_MB_ok (c1 := 1033) (c2 := 149) (c3 := 1031) (c4 := 1032) (by decide +kernel)
set_option maxRecDepth 100000 in
theorem i_o27 : i_MOK i_m27 := i_MB_ok (c1 := 1191) (c2 := 149) (c3 := 1189) (c4 := 1190) (by decide +kernel)
set_option maxRecDepth 100000 in
theorem i_o28 : i_MOK i_m28 := i_MB_ok (c1 := 1509) (c2 := 149) (c3 := 1507) (c4 := 1508) (by decide +kernel)
set_option maxRecDepth 100000 in
theorem i_o29 : i_MOK i_m29 := i_MB_ok (c1 := 1195) (c2 := 149) (c3 := 1193) (c4 := 1194) (by decide +kernel)
set_option maxRecDepth 100000 in
theorem i_o30 : i_MOK i_m30 := i_MB_ok (c1 := 1187) (c2 := 149) (c3 := 1185) (c4 := 1186) (by decide +kernel)
set_option maxRecDepth 100000 in
theorem i_o31 : i_MOK i_m31 := i_MB_ok (c1 := 1183) (c2 := 149) (c3 := 1181) (c4 := 1182) (by decide +kernel)
set_option maxRecDepth 100000 in
theorem i_o32 : i_MOK i_m32 := i_MB_ok (c1 := 1297) (c2 := 149) (c3 := 1296) (c4 := 0) (by decide +kernel)
set_option maxRecDepth 100000 in
theorem i_o33 : i_MOK i_m33 := i_MB_ok (c1 := 308) (c2 := 144) (c3 := 307) (c4 := 0) (by decide +kernel)
set_option maxRecDepth 100000 in
theorem i_o34 : i_MOK i_m34 := i_MB_ok (c1 := 972) (c2 := 144) (c3 := 970) (c4 := 971) (by decide +kernel)
set_option maxRecDepth 100000 in
theorem i_o35 : i_MOK i_m35 := i_MB_ok (c1 := 976) (c2 := 144) (c3 := 974) (c4 := 975) (by decide +kernel)
set_option maxRecDepth 100000 in
theorem i_o36 : i_MOK i_m36 := i_MB_ok (c1 := 921) (c2 := 144) (c3 := 919) (c4 := 920) (by decide +kernel)
set_option maxRecDepth 100000 in
theorem i_o37 : i_MOK i_m37 := i_MB_ok (c1 := 1581) (c2 := 144) (c3 := 1579) (c4 := 1580) (by decide +kernel)
set_option maxRecDepth 100000 in
theorem i_o38 : i_MOK i_m38 := i_MB_ok (c1 := 469) (c2 := 147) (c3 := 468) (c4 := 0) (by decide +kernel)
set_option maxRecDepth 100000 in
theorem i_o39 : i_MOK i_m39 := i_MB_ok (c1 := 1050) (c2 := 147) (c3 := 1048) (c4 := 1049) (by decide +kernel)
set_option maxRecDepth 100000 in
theorem i_o40 : i_MOK i_m40 := i_MB_ok (c1 := 1056) (c2 := 147) (c3 := 1055) (c4 := 20) (by decide +kernel)
set_option maxRecDepth 100000 in
theorem i_o41 : i_MOK i_m41 := i_MB_ok (c1 := 1066) (c2 := 147) (c3 := 1065) (c4 := 21) (by decide +kernel)
set_option maxRecDepth 100000 in
theorem i_o42 : i_MOK i_m42 := i_MB_ok (c1 := 1078) (c2 := 147) (c3 := 1077) (c4 := 24) (by decide +kernel)
set_option maxRecDepth 100000 in
theorem i_o43 : i_MOK i_m43 := i_MB_ok (c1 := 1081) (c2 := 147) (c3 := 1080) (c4 := 0) (by decide +kernel)
set_option maxRecDepth 100000 in
theorem i_o44 : i_MOK i_m44 := i_MB_ok (c1 := 1085) (c2 := 147) (c3 := 1084) (c4 := 25) (by decide +kernel)
set_option maxRecDepth 100000 in
theorem i_o45 : i_MOK i_m45 := i_MB_ok (c1 := 1090) (c2 := 147) (c3 := 1089) (c4 := 26) (by decide +kernel)
set_option maxRecDepth 100000 in
theorem i_o46 : i_MOK i_m46 := i_MB_ok (c1 := 1095) (c2 := 147) (c3 := 1094) (c4 := 27) (by decide +kernel)
set_option maxRecDepth 100000 in
theorem i_o47 : i_MOK i_m47 := i_MB_ok (c1 := 1070) (c2 := 147) (c3 := 1069) (c4 := 22) (by decide +kernel)
set_option maxRecDepth 100000 in
theorem i_o48 : i_MOK i_m48 := i_MB_ok (c1 := 1074) (c2 := 147) (c3 := 1073) (c4 := 23) (by decide +kernel)
set_option maxRecDepth 100000 in
theorem i_o49 : i_MOK i_m49 := i_MB_ok (c1 := 644) (c2 := 151) (c3 := 643) (c4 := 0) (by decide +kernel)
set_option maxRecDepth 100000 in
theorem i_o50 : i_MOK i_m50 := i_MB_ok (c1 := 1361) (c2 := 151) (c3 := 1359) (c4 := 1360) (by decide +kernel)
set_option maxRecDepth 100000 in
theorem i_o51 : i_MOK i_m51 := i_MB_ok (c1 := 1367) (c2 := 151) (c3 := 1366) (c4 := 44) (by decide +kernel)
set_option maxRecDepth 100000 in
theorem i_o52 : i_MOK i_m52 := i_MB_ok (c1 := 1374) (c2 := 151) (c3 := 1373) (c4 := 45) (by decide +kernel)
set_option maxRecDepth 100000 in
theorem i_o53 : i_MOK i_m53 := i_MB_ok (c1 := 1379) (c2 := 151) (c3 := 1378) (c4 := 46) (by decide +kernel)
set_option maxRecDepth 100000 in
theorem i_o54 : i_MOK i_m54 := i_MB_ok (c1 := 1523) (c2 := 151) (c3 := 1521) (c4 := 1522) (by decide +kernel)
set_option maxRecDepth 100000 in
theorem i_o55 : i_MOK i_m55 := i_MB_ok (c1 := 1392) (c2 := 151) (c3 := 1390) (c4 := 1391) (by decide +kernel)
set_option maxRecDepth 100000 in
theorem i_o56 : i_MOK i_m56 := i_MB_ok (c1 := 1403) (c2 := 151) (c3 := 1401) (c4 := 1402) (by decide +kernel)
set_option maxRecDepth 100000 in
theorem i_o57 : i_MOK i_m57 := i_MB_ok (c1 := 1407) (c2 := 151) (c3 := 1406) (c4 := 47) (by decide +kernel)
set_option maxRecDepth 100000 in
theorem i_o58 : i_MOK i_m58 := i_MB_ok (c1 := 1411) (c2 := 151) (c3 := 1410) (c4 := 48) (by decide +kernel)
set_option maxRecDepth 100000 in
theorem i_o59 : i_MOK i_m59 := i_MB_ok (c1 := 1416) (c2 := 151) (c3 := 1415) (c4 := 49) (by decide +kernel)
set_option maxRecDepth 100000 in
theorem i_o60 : i_MOK i_m60 := i_MB_ok (c1 := 1424) (c2 := 151) (c3 := 1422) (c4 := 1423) (by decide +kernel)
set_option maxRecDepth 100000 in
theorem i_o61 : i_MOK i_m61 := i_MB_ok (c1 := 1428) (c2 := 151) (c3 := 1427) (c4 := 50) (by decide +kernel)
set_option maxRecDepth 100000 in
theorem i_o62 : i_MOK i_m62 := i_MB_ok (c1 := 1437) (c2 := 151) (c3 := 1435) (c4 := 1436) (by decide +kernel)
set_option maxRecDepth 100000 in
theorem i_o63 : i_MOK i_m63 := i_MB_ok (c1 := 1533) (c2 := 151) (c3 := 1531) (c4 := 1532) (by decide +kernel)
set_option maxRecDepth 100000 in
theorem i_o64 : i_MOK i_m64 := i_MB_ok (c1 := 1441) (c2 := 151) (c3 := 1440) (c4 := 51) (by decide +kernel)
set_option maxRecDepth 100000 in
theorem i_o65 : i_MOK i_m65 := i_MB_ok (c1 := 1451) (c2 := 151) (c3 := 1450) (c4 := 52) (by decide +kernel)
set_option maxRecDepth 100000 in
theorem i_o66 : i_MOK i_m66 := i_MB_ok (c1 := 593) (c2 := 150) (c3 := 592) (c4 := 0) (by decide +kernel)
set_option maxRecDepth 100000 in
theorem i_o67 : i_MOK i_m67 := i_MB_ok (c1 := 1269) (c2 := 150) (c3 := 1268) (c4 := 32) (by decide +kernel)
set_option maxRecDepth 100000 in
theorem i_o68 : i_MOK i_m68 := i_MB_ok (c1 := 1279) (c2 := 150) (c3 := 1278) (c4 := 34) (by decide +kernel)
set_option maxRecDepth 100000 in
theorem i_o69 : i_MOK i_m69 := i_MB_ok (c1 := 1274) (c2 := 150) (c3 := 1273) (c4 := 33) (by decide +kernel)
set_option maxRecDepth 100000 in
theorem i_o70 : i_MOK i_m70 := i_MB_ok (c1 := 1265) (c2 := 150) (c3 := 1263) (c4 := 1264) (by decide +kernel)
set_option maxRecDepth 100000 in
theorem i_o71 : i_MOK i_m71 := i_MB_ok (c1 := 1286) (c2 := 150) (c3 := 1285) (c4 := 35) (by decide +kernel)
set_option maxRecDepth 100000 in
theorem i_o72 : i_MOK i_m72 := i_MB_ok (c1 := 1294) (c2 := 150) (c3 := 1293) (c4 := 36) (by decide +kernel)
set_option maxRecDepth 100000 in
theorem i_o73 : i_MOK i_m73 := i_MB_ok (c1 := 1313) (c2 := 150) (c3 := 1311) (c4 := 1312) (by decide +kernel)
set_option maxRecDepth 100000 in
theorem i_o74 : i_MOK i_m74 := i_MB_ok (c1 := 1325) (c2 := 150) (c3 := 1324) (c4 := 39) (by decide +kernel)
set_option maxRecDepth 100000 in
theorem i_o75 : i_MOK i_m75 := i_MB_ok (c1 := 1319) (c2 := 150) (c3 := 1318) (c4 := 38) (by decide +kernel)
set_option maxRecDepth 100000 in
theorem i_o76 : i_MOK i_m76 := i_MB_ok (c1 := 1335) (c2 := 150) (c3 := 1333) (c4 := 1334) (by decide +kernel)
set_option maxRecDepth 100000 in
theorem i_o77 : i_MOK i_m77 := i_MB_ok (c1 := 1340) (c2 := 150) (c3 := 1339) (c4 := 40) (by decide +kernel)
set_option maxRecDepth 100000 in
theorem i_o78 : i_MOK i_m78 := i_MB_ok (c1 := 1344) (c2 := 150) (c3 := 1343) (c4 := 41) (by decide +kernel)
set_option maxRecDepth 100000 in
theorem i_o79 : i_MOK i_m79 := i_MB_ok (c1 := 1348) (c2 := 150) (c3 := 1347) (c4 := 42) (by decide +kernel)
set_option maxRecDepth 100000 in
theorem i_o80 : i_MOK i_m80 := i_MB_ok (c1 := 1352) (c2 := 150) (c3 := 1351) (c4 := 43) (by decide +kernel)
set_option maxRecDepth 100000 in
theorem i_o81 : i_MOK i_m81 := i_MB_ok (c1 := 1504) (c2 := 150) (c3 := 1502) (c4 := 1503) (by decide +kernel)
set_option maxRecDepth 100000 in
theorem i_o82 : i_MOK i_m82 := i_MB_ok (c1 := 192) (c2 := 137) (c3 := 191) (c4 := 0) (by decide +kernel)
set_option maxRecDepth 100000 in
theorem i_o83 : i_MOK i_m83 := i_MB_ok (c1 := 851) (c2 := 137) (c3 := 849) (c4 := 850) (by decide +kernel)
set_option maxRecDepth 100000 in
theorem i_o84 : i_MOK i_m84 := i_MB_ok (c1 := 859) (c2 := 137) (c3 := 857) (c4 := 858) (by decide +kernel)
set_option maxRecDepth 100000 in
theorem i_o85 : i_MOK i_m85 := i_MB_ok (c1 := 992) (c2 := 137) (c3 := 990) (c4 := 991) (by decide +kernel)
set_option maxRecDepth 100000 in
theorem i_o86 : i_MOK i_m86 := i_MB_ok (c1 := 893) (c2 := 137) (c3 := 891) (c4 := 892) (by decide +kernel)
set_option maxRecDepth 100000 in
theorem i_o87 : i_MOK i_m87 := i_MB_ok (c1 := 884) (c2 := 137) (c3 := 882) (c4 := 883) (by decide +kernel)
set_option maxRecDepth 100000 in
theorem i_o88 : i_MOK i_m88 := i_MB_ok (c1 := 880) (c2 := 137) (c3 := 878) (c4 := 879) (by decide +kernel)
set_option maxRecDepth 100000 in
theorem i_o89 : i_MOK i_m89 := i_MB_ok (c1 := 950) (c2 := 137) (c3 := 948) (c4 := 949) (by decide +kernel)
set_option maxRecDepth 100000 in
theorem i_o90 : i_MOK i_m90 := i_MB_ok (c1 := 968) (c2 := 137) (c3 := 966) (c4 := 967) (by decide +kernel)
set_option maxRecDepth 100000 in
theorem i_o91 : i_MOK i_m91 := i_MB_ok (c1 := 876) (c2 := 137) (c3 := 874) (c4 := 875) (by decide +kernel)
set_option maxRecDepth 100000 in
theorem i_o92 : i_MOK i_m92 := i_MB_ok (c1 := 946) (c2 := 137) (c3 := 944) (c4 := 945) (by decide +kernel)
set_option maxRecDepth 100000 in
theorem i_o93 : i_MOK i_m93 := i_MB_ok (c1 := 964) (c2 := 137) (c3 := 962) (c4 := 963) (by decide +kernel)
set_option maxRecDepth 100000 in
theorem i_o94 : i_MOK i_m94 := i_MB_ok (c1 := 897) (c2 := 137) (c3 := 895) (c4 := 896) (by decide +kernel)
set_option maxRecDepth 100000 in
theorem i_o95 : i_MOK i_m95 := i_MB_ok (c1 := 888) (c2 := 137) (c3 := 886) (c4 := 887) (by decide +kernel)
set_option maxRecDepth 100000 in
theorem i_o96 : i_MOK i_m96 := i_MB_ok (c1 := 302) (c2 := 143) (c3 := 301) (c4 := 0) (by decide +kernel)
set_option maxRecDepth 100000 in
theorem i_o97 : i_MOK i_m97 := i_MB_ok (c1 := 867) (c2 := 143) (c3 := 865) (c4 := 866) (by decide +kernel)
set_option maxRecDepth 100000 in
theorem i_o98 : i_MOK i_m98 := i_MB_ok (c1 := 1577) (c2 := 143) (c3 := 1575) (c4 := 1576) (by decide +kernel)
set_option maxRecDepth 100000 in
theorem i_o99 : i_MOK i_m99 := i_MB_ok (c1 := 1099) (c2 := 143) (c3 := 1097) (c4 := 1098) (by decide +kernel)
set_option maxRecDepth 100000 in
theorem i_o100 : i_MOK i_m100 := i_MB_ok (c1 := 914) (c2 := 143) (c3 := 912) (c4 := 913) (by decide +kernel)
set_option maxRecDepth 100000 in
theorem i_o101 : i_MOK i_m101 := i_MB_ok (c1 := 1223) (c2 := 143) (c3 := 1221) (c4 := 1222) (by decide +kernel)
set_option maxRecDepth 100000 in
theorem i_o102 : i_MOK i_m102 := i_MB_ok (c1 := 447) (c2 := 146) (c3 := 446) (c4 := 0) (by decide +kernel)
set_option maxRecDepth 100000 in
theorem i_o103 : i_MOK i_m103 := i_MB_ok (c1 := 863) (c2 := 146) (c3 := 861) (c4 := 862) (by decide +kernel)
set_option maxRecDepth 100000 in
theorem i_o104 : i_MOK i_m104 := i_MB_ok (c1 := 872) (c2 := 146) (c3 := 871) (c4 := 4) (by decide +kernel)
set_option maxRecDepth 100000 in
theorem i_o105 : i_MOK i_m105 := i_MB_ok (c1 := 902) (c2 := 146) (c3 := 901) (c4 := 5) (by decide +kernel)
set_option maxRecDepth 100000 in
theorem i_o106 : i_MOK i_m106 := i_MB_ok (c1 := 910) (c2 := 146) (c3 := 909) (c4 := 7) (by decide +kernel)
set_option maxRecDepth 100000 in
theorem i_o107 : i_MOK i_m107 := i_MB_ok (c1 := 937) (c2 := 146) (c3 := 936) (c4 := 9) (by decide +kernel)
set_option maxRecDepth 100000 in
theorem i_o108 : i_MOK i_m108 := i_MB_ok (c1 := 906) (c2 := 146) (c3 := 905) (c4 := 6) (by decide +kernel)
set_option maxRecDepth 100000 in
theorem i_o109 : i_MOK i_m109 := i_MB_ok (c1 := 927) (c2 := 146) (c3 := 926) (c4 := 8) (by decide +kernel)
set_option maxRecDepth 100000 in
theorem i_o110 : i_MOK i_m110 := i_MB_ok (c1 := 942) (c2 := 146) (c3 := 941) (c4 := 10) (by decide +kernel)
set_option maxRecDepth 100000 in
theorem i_o111 : i_MOK i_m111 := i_MB_ok (c1 := 956) (c2 := 146) (c3 := 955) (c4 := 11) (by decide +kernel)
set_option maxRecDepth 100000 in
theorem i_o112 : i_MOK i_m112 := i_MB_ok (c1 := 960) (c2 := 146) (c3 := 959) (c4 := 12) (by decide +kernel)
set_option maxRecDepth 100000 in
theorem i_o113 : i_MOK i_m113 := i_MB_ok (c1 := 980) (c2 := 146) (c3 := 979) (c4 := 13) (by decide +kernel)
set_option maxRecDepth 100000 in
theorem i_o114 : i_MOK i_m114 := i_MB_ok (c1 := 984) (c2 := 146) (c3 := 983) (c4 := 14) (by decide +kernel)
set_option maxRecDepth 100000 in
theorem i_o115 : i_MOK i_m115 := i_MB_ok (c1 := 988) (c2 := 146) (c3 := 987) (c4 := 15) (by decide +kernel)
set_option maxRecDepth 100000 in
theorem i_o116 : i_MOK i_m116 := i_MB_ok (c1 := 169) (c2 := 136) (c3 := 168) (c4 := 0) (by decide +kernel)
set_option maxRecDepth 100000 in
theorem i_o117 : i_MOK i_m117 := i_MB_ok (c1 := 779) (c2 := 136) (c3 := 778) (c4 := 0) (by decide +kernel)
set_option maxRecDepth 100000 in
theorem i_o118 : i_MOK i_m118 := i_MB_ok (c1 := 810) (c2 := 136) (c3 := 808) (c4 := 809) (by decide +kernel)
set_option maxRecDepth 100000 in
theorem i_o119 : i_MOK i_m119 := i_MB_ok (c1 := 790) (c2 := 136) (c3 := 788) (c4 := 789) (by decide +kernel)
set_option maxRecDepth 100000 in
theorem i_o120 : i_MOK i_m120 := i_MB_ok (c1 := 805) (c2 := 136) (c3 := 803) (c4 := 804) (by decide +kernel)
set_option maxRecDepth 100000 in
theorem i_o121 : i_MOK i_m121 := i_MB_ok (c1 := 814) (c2 := 136) (c3 := 812) (c4 := 813) (by decide +kernel)
set_option maxRecDepth 100000 in
theorem i_o122 : i_MOK i_m122 := i_MB_ok (c1 := 826) (c2 := 136) (c3 := 824) (c4 := 825) (by decide +kernel)
set_option maxRecDepth 100000 in
theorem i_o123 : i_MOK i_m123 := i_MB_ok (c1 := 838) (c2 := 136) (c3 := 836) (c4 := 837) (by decide +kernel)
set_option maxRecDepth 100000 in
theorem i_o124 : i_MOK i_m124 := i_MB_ok (c1 := 842) (c2 := 136) (c3 := 840) (c4 := 841) (by decide +kernel)
set_option maxRecDepth 100000 in
theorem i_o125 : i_MOK i_m125 := i_MB_ok (c1 := 1459) (c2 := 136) (c3 := 1457) (c4 := 1458) (by decide +kernel)
set_option maxRecDepth 100000 in
theorem i_o126 : i_MOK i_m126 := i_MB_ok (c1 := 1465) (c2 := 136) (c3 := 1463) (c4 := 1464) (by decide +kernel)
set_option maxRecDepth 100000 in
theorem i_o127 : i_MOK i_m127 := i_MB_ok (c1 := 1469) (c2 := 136) (c3 := 1468) (c4 := 53) (by decide +kernel)
set_option maxRecDepth 100000 in
theorem i_o128 : i_MOK i_m128 := i_MB_ok (c1 := 161) (c2 := 135) (c3 := 160) (c4 := 0) (by decide +kernel)
set_option maxRecDepth 100000 in
theorem i_o129 : i_MOK i_m129 := i_MB_ok (c1 := 764) (c2 := 135) (c3 := 762) (c4 := 763) (by decide +kernel)
set_option maxRecDepth 100000 in
theorem i_o130 : i_MOK i_m130 := i_MB_ok (c1 := 768) (c2 := 135) (c3 := 766) (c4 := 767) (by decide +kernel)
set_option maxRecDepth 100000 in
theorem i_o131 : i_MOK i_m131 := i_MB_ok (c1 := 772) (c2 := 135) (c3 := 770) (c4 := 771) (by decide +kernel)
set_option maxRecDepth 100000 in
theorem i_o132 : i_MOK i_m132 := i_MB_ok (c1 := 776) (c2 := 135) (c3 := 774) (c4 := 775) (by decide +kernel)
set_option maxRecDepth 100000 in
theorem i_o133 : i_MOK i_m133 := i_MB_ok (c1 := 801) (c2 := 135) (c3 := 799) (c4 := 800) (by decide +kernel)
set_option maxRecDepth 100000 in
theorem i_o134 : i_MOK i_m134 := i_MB_ok (c1 := 818) (c2 := 135) (c3 := 816) (c4 := 817) (by decide +kernel)
set_option maxRecDepth 100000 in
theorem i_o135 : i_MOK i_m135 := i_MB_ok (c1 := 834) (c2 := 135) (c3 := 832) (c4 := 833) (by decide +kernel)
set_option maxRecDepth 100000 in
theorem i_o136 : i_MOK i_m136 := i_MB_ok (c1 := 847) (c2 := 135) (c3 := 845) (c4 := 846) (by decide +kernel)
set_option maxRecDepth 100000 in
theorem i_o137 : i_MOK i_m137 := i_MB_ok (c1 := 855) (c2 := 135) (c3 := 853) (c4 := 854) (by decide +kernel)
set_option maxRecDepth 100000 in
theorem i_o138 : i_MOK i_m138 := i_MB_ok (c1 := 1043) (c2 := 135) (c3 := 1041) (c4 := 1042) (by decide +kernel)
set_option maxRecDepth 100000 in
theorem i_o139 : i_MOK i_m139 := i_MB_ok (c1 := 1103) (c2 := 135) (c3 := 1101) (c4 := 1102) (by decide +kernel)
set_option maxRecDepth 100000 in
theorem i_o140 : i_MOK i_m140 := i_MB_ok (c1 := 1107) (c2 := 135) (c3 := 1105) (c4 := 1106) (by decide +kernel)
set_option maxRecDepth 100000 in
theorem i_o141 : i_MOK i_m141 := i_MB_ok (c1 := 1112) (c2 := 135) (c3 := 1110) (c4 := 1111) (by decide +kernel)
set_option maxRecDepth 100000 in
theorem i_o142 : i_MOK i_m142 := i_MB_ok (c1 := 1121) (c2 := 135) (c3 := 1119) (c4 := 1120) (by decide +kernel)
set_option maxRecDepth 100000 in
theorem i_o143 : i_MOK i_m143 := i_MB_ok (c1 := 1125) (c2 := 135) (c3 := 1123) (c4 := 1124) (by decide +kernel)
set_option maxRecDepth 100000 in
theorem i_o144 : i_MOK i_m144 := i_MB_ok (c1 := 1136) (c2 := 135) (c3 := 1134) (c4 := 1135) (by decide +kernel)
set_option maxRecDepth 100000 in
theorem i_o145 : i_MOK i_m145 := i_MB_ok (c1 := 1140) (c2 := 135) (c3 := 1138) (c4 := 1139) (by decide +kernel)
set_option maxRecDepth 100000 in
theorem i_o146 : i_MOK i_m146 := i_MB_ok (c1 := 1148) (c2 := 135) (c3 := 1146) (c4 := 1147) (by decide +kernel)
set_option maxRecDepth 100000 in
theorem i_o147 : i_MOK i_m147 := i_MB_ok (c1 := 1156) (c2 := 135) (c3 := 1154) (c4 := 1155) (by decide +kernel)
set_option maxRecDepth 100000 in
theorem i_o148 : i_MOK i_m148 := i_MB_ok (c1 := 1164) (c2 := 135) (c3 := 1162) (c4 := 1163) (by decide +kernel)
set_option maxRecDepth 100000 in
theorem i_o149 : i_MOK i_m149 := i_MB_ok (c1 := 1175) (c2 := 135) (c3 := 1173) (c4 := 1174) (by decide +kernel)
set_option maxRecDepth 100000 in
theorem i_o150 : i_MOK i_m150 := i_MB_ok (c1 := 1199) (c2 := 135) (c3 := 1197) (c4 := 1198) (by decide +kernel)
set_option maxRecDepth 100000 in
theorem i_o151 : i_MOK i_m151 := i_MB_ok (c1 := 1227) (c2 := 135) (c3 := 1225) (c4 := 1226) (by decide +kernel)
set_option maxRecDepth 100000 in
theorem i_o152 : i_MOK i_m152 := i_MB_ok (c1 := 1235) (c2 := 135) (c3 := 1233) (c4 := 1234) (by decide +kernel)
set_option maxRecDepth 100000 in
theorem i_o153 : i_MOK i_m153 := i_MB_ok (c1 := 1245) (c2 := 135) (c3 := 1243) (c4 := 1244) (by decide +kernel)
set_option maxRecDepth 100000 in
theorem i_o154 : i_MOK i_m154 := i_MB_ok (c1 := 1249) (c2 := 135) (c3 := 1247) (c4 := 1248) (by decide +kernel)
set_option maxRecDepth 100000 in
theorem i_o155 : i_MOK i_m155 := i_MB_ok (c1 := 1257) (c2 := 135) (c3 := 1255) (c4 := 1256) (by decide +kernel)
set_option maxRecDepth 100000 in
theorem i_o156 : i_MOK i_m156 := i_MB_ok (c1 := 1305) (c2 := 135) (c3 := 1303) (c4 := 1304) (by decide +kernel)
set_option maxRecDepth 100000 in
theorem i_o157 : i_MOK i_m157 := i_MB_ok (c1 := 1309) (c2 := 135) (c3 := 1307) (c4 := 1308) (by decide +kernel)
set_option maxRecDepth 100000 in
theorem i_o158 : i_MOK i_m158 := i_MB_ok (c1 := 1331) (c2 := 135) (c3 := 1329) (c4 := 1330) (by decide +kernel)
set_option maxRecDepth 100000 in
theorem i_o159 : i_MOK i_m159 := i_MB_ok (c1 := 1356) (c2 := 135) (c3 := 1354) (c4 := 1355) (by decide +kernel)
set_option maxRecDepth 100000 in
theorem i_o160 : i_MOK i_m160 := i_MB_ok (c1 := 1388) (c2 := 135) (c3 := 1386) (c4 := 1387) (by decide +kernel)
set_option maxRecDepth 100000 in
theorem i_o161 : i_MOK i_m161 := i_MB_ok (c1 := 1399) (c2 := 135) (c3 := 1397) (c4 := 1398) (by decide +kernel)
set_option maxRecDepth 100000 in
theorem i_o162 : i_MOK i_m162 := i_MB_ok (c1 := 1420) (c2 := 135) (c3 := 1418) (c4 := 1419) (by decide +kernel)
set_option maxRecDepth 100000 in
theorem i_o163 : i_MOK i_m163 := i_MB_ok (c1 := 1433) (c2 := 135) (c3 := 1431) (c4 := 1432) (by decide +kernel)
set_option maxRecDepth 100000 in
theorem i_o164 : i_MOK i_m164 := i_MB_ok (c1 := 1455) (c2 := 135) (c3 := 1453) (c4 := 1454) (by decide +kernel)
set_option maxRecDepth 100000 in
theorem i_o165 : i_MOK i_m165 := i_MB_ok (c1 := 1473) (c2 := 135) (c3 := 1471) (c4 := 1472) (by decide +kernel)
set_option maxRecDepth 100000 in
theorem i_o166 : i_MOK i_m166 := i_MB_ok (c1 := 1482) (c2 := 135) (c3 := 1480) (c4 := 1481) (by decide +kernel)
set_option maxRecDepth 100000 in
theorem i_o167 : i_MOK i_m167 := i_MB_ok (c1 := 1491) (c2 := 135) (c3 := 1489) (c4 := 1490) (by decide +kernel)
set_option maxRecDepth 100000 in
theorem i_o168 : i_MOK i_m168 := i_MB_ok (c1 := 1495) (c2 := 135) (c3 := 1493) (c4 := 1494) (by decide +kernel)
set_option maxRecDepth 100000 in
theorem i_o169 : i_MOK i_m169 := i_MB_ok (c1 := 1500) (c2 := 135) (c3 := 1498) (c4 := 1499) (by decide +kernel)
set_option maxRecDepth 100000 in
theorem i_o170 : i_MOK i_m170 := i_MB_ok (c1 := 1513) (c2 := 135) (c3 := 1511) (c4 := 1512) (by decide +kernel)
set_option maxRecDepth 100000 in
theorem i_o171 : i_MOK i_m171 := i_MB_ok (c1 := 1519) (c2 := 135) (c3 := 1517) (c4 := 1518) (by decide +kernel)
set_option maxRecDepth 100000 in
theorem i_o172 : i_MOK i_m172 := i_MB_ok (c1 := 1529) (c2 := 135) (c3 := 1527) (c4 := 1528) (by decide +kernel)
set_option maxRecDepth 100000 in
theorem i_o173 : i_MOK i_m173 := i_MB_ok (c1 := 1537) (c2 := 135) (c3 := 1535) (c4 := 1536) (by decide +kernel)
set_option maxRecDepth 100000 in
theorem i_o174 : i_MOK i_m174 := i_MB_ok (c1 := 1557) (c2 := 135) (c3 := 1555) (c4 := 1556) (by decide +kernel)
set_option maxRecDepth 100000 in
theorem i_o175 : i_MOK i_m175 := i_MB_ok (c1 := 1561) (c2 := 135) (c3 := 1559) (c4 := 1560) (by decide +kernel)
set_option maxRecDepth 100000 in
theorem i_o176 : i_MOK i_m176 := i_MB_ok (c1 := 1565) (c2 := 135) (c3 := 1563) (c4 := 1564) (by decide +kernel)
set_option maxRecDepth 100000 in
theorem i_o177 : i_MOK i_m177 := i_MB_ok (c1 := 1573) (c2 := 135) (c3 := 1571) (c4 := 1572) (by decide +kernel)
set_option maxRecDepth 100000 in
theorem i_o178 : i_MOK i_m178 := i_MB_ok (c1 := 1587) (c2 := 135) (c3 := 1585) (c4 := 1586) (by decide +kernel)
set_option maxRecDepth 100000 in
theorem i_o179 : i_MOK i_m179 := i_MB_ok (c1 := 822) (c2 := 135) (c3 := 821) (c4 := 2) (by decide +kernel)
set_option maxRecDepth 100000 in
theorem i_o180 : i_MOK i_m180 := i_MB_ok (c1 := 786) (c2 := 135) (c3 := 785) (c4 := 0) (by decide +kernel)
set_option maxRecDepth 100000 in
theorem i_o181 : i_MOK i_m181 := i_MB_ok (c1 := 1039) (c2 := 135) (c3 := 1038) (c4 := 19) (by decide +kernel)
set_option maxRecDepth 100000 in
theorem i_o182 : i_MOK i_m182 := i_MB_ok (c1 := 830) (c2 := 135) (c3 := 829) (c4 := 3) (by decide +kernel)
set_option maxRecDepth 100000 in
theorem i_o183 : i_MOK i_m183 := i_MB_ok (c1 := 1301) (c2 := 135) (c3 := 1300) (c4 := 37) (by decide +kernel)
set_option maxRecDepth 100000 in
theorem i_o184 : i_MOK i_m184 := i_MB_ok (c1 := 797) (c2 := 135) (c3 := 796) (c4 := 1) (by decide +kernel)
set_option maxRecDepth 100000 in
theorem i_o185 : i_MOK i_m185 := i_MB_ok (c1 := 1569) (c2 := 135) (c3 := 1568) (c4 := 56) (by decide +kernel)
set_option maxRecDepth 100000 in
theorem i_o186 : i_MOK i_m186 := i_MB_ok (c1 := 1144) (c2 := 135) (c3 := 1143) (c4 := 29) (by decide +kernel)
set_option maxRecDepth 100000 in
theorem i_o187 : i_MOK i_m187 := i_MB_ok (c1 := 1203) (c2 := 135) (c3 := 1202) (c4 := 30) (by decide +kernel)
set_option maxRecDepth 100000 in
theorem i_o188 : i_MOK i_m188 := i_MB_ok (c1 := 1116) (c2 := 135) (c3 := 1115) (c4 := 28) (by decide +kernel)
set_option maxRecDepth 100000 in
theorem i_o189 : i_MOK i_m189 := i_MB_ok (c1 := 1261) (c2 := 135) (c3 := 1260) (c4 := 31) (by decide +kernel)
set_option maxRecDepth 100000 in
theorem i_o190 : i_MOK i_m190 := i_MB_ok (c1 := 1128) (c2 := 135) (c3 := 1127) (c4 := 0) (by decide +kernel)
set_option maxRecDepth 100000 in
theorem i_o191 : i_MOK i_m191 := i_MB_ok (c1 := 1167) (c2 := 135) (c3 := 1166) (c4 := 0) (by decide +kernel)
set_option maxRecDepth 100000 in
theorem i_o192 : i_MOK i_m192 := i_MB_ok (c1 := 782) (c2 := 135) (c3 := 781) (c4 := 0) (by decide +kernel)
set_option maxRecDepth 100000 in
theorem i_o193 : i_MOK i_m193 := i_MB_ok (c1 := 917) (c2 := 135) (c3 := 916) (c4 := 0) (by decide +kernel)
set_option maxRecDepth 100000 in
theorem i_o194 : i_MOK i_m194 := i_MB_ok (c1 := 1231) (c2 := 135) (c3 := 1230) (c4 := 0) (by decide +kernel)
set_option maxRecDepth 100000 in
theorem i_o195 : i_MOK i_m195 := i_MB_ok (c1 := 1592) (c2 := 153) (c3 := 1591) (c4 := 0) (by decide +kernel)
set_option maxRecDepth 100000 in
theorem i_o196 : i_MOK i_m196 := i_MB_ok (c1 := 1597) (c2 := 153) (c3 := 1596) (c4 := 57) (by decide +kernel)
set_option maxRecDepth 100000 in
theorem i_o197 : i_MOK i_m197 := i_MB_ok (c1 := 1793) (c2 := 153) (c3 := 1791) (c4 := 1792) (by decide +kernel)
set_option maxRecDepth 100000 in
theorem i_o198 : i_MOK i_m198 := i_MB_ok (c1 := 1797) (c2 := 153) (c3 := 1795) (c4 := 1796) (by decide +kernel)
set_option maxRecDepth 100000 in
theorem i_o199 : i_MOK i_m199 := i_MB_ok (c1 := 1801) (c2 := 153) (c3 := 1799) (c4 := 1800) (by decide +kernel)
set_option maxRecDepth 100000 in
theorem i_o200 : i_MOK i_m200 := i_MB_ok (c1 := 1812) (c2 := 153) (c3 := 1811) (c4 := 62) (by decide +kernel)
set_option maxRecDepth 100000 in
theorem i_o201 : i_MOK i_m201 := i_MB_ok (c1 := 1872) (c2 := 153) (c3 := 1871) (c4 := 68) (by decide +kernel)
set_option maxRecDepth 100000 in
theorem i_o202 : i_MOK i_m202 := i_MB_ok (c1 := 1970) (c2 := 153) (c3 := 1969) (c4 := 91) (by decide +kernel)
set_option maxRecDepth 100000 in
theorem i_o203 : i_MOK i_m203 := i_MB_ok (c1 := 2076) (c2 := 153) (c3 := 2075) (c4 := 104) (by decide +kernel)
set_option maxRecDepth 100000 in
theorem i_o204 : i_MOK i_m204 := i_MB_ok (c1 := 2316) (c2 := 153) (c3 := 2315) (c4 := 132) (by decide +kernel)
set_option maxRecDepth 100000 in
theorem i_o205 : i_MOK i_m205 := i_MB_ok (c1 := 1808) (c2 := 153) (c3 := 1807) (c4 := 0) (by decide +kernel)
set_option maxRecDepth 100000 in
theorem i_o206 : i_MOK i_m206 := i_MB_ok (c1 := 1823) (c2 := 153) (c3 := 1822) (c4 := 0) (by decide +kernel)
set_option maxRecDepth 100000 in
theorem i_o207 : i_MOK i_m207 := i_MB_ok (c1 := 1805) (c2 := 153) (c3 := 1803) (c4 := 1804) (by decide +kernel)
set_option maxRecDepth 100000 in
theorem i_o208 : i_MOK i_m208 := i_MB_ok (c1 := 1820) (c2 := 153) (c3 := 1819) (c4 := 63) (by decide +kernel)
set_option maxRecDepth 100000 in
theorem i_o209 : i_MOK i_m209 := i_MB_ok (c1 := 1816) (c2 := 153) (c3 := 1814) (c4 := 1815) (by decide +kernel)
set_option maxRecDepth 100000 in
theorem i_o210 : i_MOK i_m210 := i_MB_ok (c1 := 1827) (c2 := 153) (c3 := 1825) (c4 := 1826) (by decide +kernel)
set_option maxRecDepth 100000 in
theorem i_o211 : i_MOK i_m211 := i_MB_ok (c1 := 1832) (c2 := 153) (c3 := 1830) (c4 := 1831) (by decide +kernel)
set_option maxRecDepth 100000 in
theorem i_o212 : i_MOK i_m212 := i_MB_ok (c1 := 2113) (c2 := 153) (c3 := 2112) (c4 := 0) (by decide +kernel)
set_option maxRecDepth 100000 in
theorem i_o213 : i_MOK i_m213 := i_MB_ok (c1 := 1836) (c2 := 153) (c3 := 1834) (c4 := 1835) (by decide +kernel)
set_option maxRecDepth 100000 in
theorem i_o214 : i_MOK i_m214 := i_MB_ok (c1 := 1840) (c2 := 153) (c3 := 1839) (c4 := 64) (by decide +kernel)
set_option maxRecDepth 100000 in
theorem i_o215 : i_MOK i_m215 := i_MB_ok (c1 := 1860) (c2 := 153) (c3 := 1859) (c4 := 67) (by decide +kernel)
set_option maxRecDepth 100000 in
theorem i_o216 : i_MOK i_m216 := i_MB_ok (c1 := 1863) (c2 := 153) (c3 := 1862) (c4 := 0) (by decide +kernel)
set_option maxRecDepth 100000 in
theorem i_o217 : i_MOK i_m217 := i_MB_ok (c1 := 1866) (c2 := 153) (c3 := 1865) (c4 := 0) (by decide +kernel)
set_option maxRecDepth 100000 in
theorem i_o218 : i_MOK i_m218 := i_MB_ok (c1 := 1856) (c2 := 153) (c3 := 1855) (c4 := 66) (by decide +kernel)
set_option maxRecDepth 100000 in
theorem i_o219 : i_MOK i_m219 := i_MB_ok (c1 := 1899) (c2 := 153) (c3 := 1898) (c4 := 74) (by decide +kernel)
set_option maxRecDepth 100000 in
theorem i_o220 : i_MOK i_m220 := i_MB_ok (c1 := 1881) (c2 := 153) (c3 := 1880) (c4 := 70) (by decide +kernel)
set_option maxRecDepth 100000 in
theorem i_o221 : i_MOK i_m221 := i_MB_ok (c1 := 1887) (c2 := 153) (c3 := 1886) (c4 := 71) (by decide +kernel)
set_option maxRecDepth 100000 in
theorem i_o222 : i_MOK i_m222 := i_MB_ok (c1 := 1852) (c2 := 153) (c3 := 1851) (c4 := 65) (by decide +kernel)
set_option maxRecDepth 100000 in
theorem i_o223 : i_MOK i_m223 := i_MB_ok (c1 := 1895) (c2 := 153) (c3 := 1894) (c4 := 73) (by decide +kernel)
set_option maxRecDepth 100000 in
theorem i_o224 : i_MOK i_m224 := i_MB_ok (c1 := 1877) (c2 := 153) (c3 := 1876) (c4 := 69) (by decide +kernel)
set_option maxRecDepth 100000 in
theorem i_o225 : i_MOK i_m225 := i_MB_ok (c1 := 1891) (c2 := 153) (c3 := 1890) (c4 := 72) (by decide +kernel)
set_option maxRecDepth 100000 in
theorem i_o226 : i_MOK i_m226 := i_MB_ok (c1 := 1938) (c2 := 153) (c3 := 1937) (c4 := 83) (by decide +kernel)
set_option maxRecDepth 100000 in
theorem i_o227 : i_MOK i_m227 := i_MB_ok (c1 := 1946) (c2 := 153) (c3 := 1945) (c4 := 85) (by decide +kernel)
set_option maxRecDepth 100000 in
theorem i_o228 : i_MOK i_m228 := i_MB_ok (c1 := 1942) (c2 := 153) (c3 := 1941) (c4 := 84) (by decide +kernel)
set_option maxRecDepth 100000 in
theorem i_o229 : i_MOK i_m229 := i_MB_ok (c1 := 1844) (c2 := 153) (c3 := 1842) (c4 := 1843) (by decide +kernel)
set_option maxRecDepth 100000 in
theorem i_o230 : i_MOK i_m230 := i_MB_ok (c1 := 1966) (c2 := 153) (c3 := 1965) (c4 := 90) (by decide +kernel)
set_option maxRecDepth 100000 in
theorem i_o231 : i_MOK i_m231 := i_MB_ok (c1 := 1911) (c2 := 153) (c3 := 1910) (c4 := 77) (by decide +kernel)
set_option maxRecDepth 100000 in
theorem i_o232 : i_MOK i_m232 := i_MB_ok (c1 := 1918) (c2 := 153) (c3 := 1917) (c4 := 78) (by decide +kernel)
set_option maxRecDepth 100000 in
theorem i_o233 : i_MOK i_m233 := i_MB_ok (c1 := 1907) (c2 := 153) (c3 := 1906) (c4 := 76) (by decide +kernel)
set_option maxRecDepth 100000 in
theorem i_o234 : i_MOK i_m234 := i_MB_ok (c1 := 1914) (c2 := 153) (c3 := 1913) (c4 := 0) (by decide +kernel)
set_option maxRecDepth 100000 in
theorem i_o235 : i_MOK i_m235 := i_MB_ok (c1 := 1922) (c2 := 153) (c3 := 1921) (c4 := 79) (by decide +kernel)
set_option maxRecDepth 100000 in
theorem i_o236 : i_MOK i_m236 := i_MB_ok (c1 := 1926) (c2 := 153) (c3 := 1925) (c4 := 80) (by decide +kernel)
set_option maxRecDepth 100000 in
theorem i_o237 : i_MOK i_m237 := i_MB_ok (c1 := 1930) (c2 := 153) (c3 := 1929) (c4 := 81) (by decide +kernel)
set_option maxRecDepth 100000 in
theorem i_o238 : i_MOK i_m238 := i_MB_ok (c1 := 1934) (c2 := 153) (c3 := 1933) (c4 := 82) (by decide +kernel)
set_option maxRecDepth 100000 in
theorem i_o239 : i_MOK i_m239 := i_MB_ok (c1 := 1954) (c2 := 153) (c3 := 1953) (c4 := 87) (by decide +kernel)
set_option maxRecDepth 100000 in
theorem i_o240 : i_MOK i_m240 := i_MB_ok (c1 := 1950) (c2 := 153) (c3 := 1949) (c4 := 86) (by decide +kernel)
set_option maxRecDepth 100000 in
theorem i_o241 : i_MOK i_m241 := i_MB_ok (c1 := 1958) (c2 := 153) (c3 := 1957) (c4 := 88) (by decide +kernel)
set_option maxRecDepth 100000 in
theorem i_o242 : i_MOK i_m242 := i_MB_ok (c1 := 1903) (c2 := 153) (c3 := 1902) (c4 := 75) (by decide +kernel)
set_option maxRecDepth 100000 in
theorem i_o243 : i_MOK i_m243 := i_MB_ok (c1 := 1848) (c2 := 153) (c3 := 1846) (c4 := 1847) (by decide +kernel)
set_option maxRecDepth 100000 in
theorem i_o244 : i_MOK i_m244 := i_MB_ok (c1 := 1982) (c2 := 153) (c3 := 1981) (c4 := 93) (by decide +kernel)
set_option maxRecDepth 100000 in
theorem i_o245 : i_MOK i_m245 := i_MB_ok (c1 := 1986) (c2 := 153) (c3 := 1985) (c4 := 94) (by decide +kernel)
set_option maxRecDepth 100000 in
theorem i_o246 : i_MOK i_m246 := i_MB_ok (c1 := 1978) (c2 := 153) (c3 := 1977) (c4 := 92) (by decide +kernel)
set_option maxRecDepth 100000 in
theorem i_o247 : i_MOK i_m247 := i_MB_ok (c1 := 1974) (c2 := 153) (c3 := 1972) (c4 := 1973) (by decide +kernel)
set_option maxRecDepth 100000 in
theorem i_o248 : i_MOK i_m248 := i_MB_ok (c1 := 1962) (c2 := 153) (c3 := 1961) (c4 := 89) (by decide +kernel)
set_option maxRecDepth 100000 in
theorem i_o249 : i_MOK i_m249 := i_MB_ok (c1 := 1998) (c2 := 153) (c3 := 1997) (c4 := 95) (by decide +kernel)
set_option maxRecDepth 100000 in
theorem i_o250 : i_MOK i_m250 := i_MB_ok (c1 := 1613) (c2 := 153) (c3 := 1612) (c4 := 61) (by decide +kernel)
set_option maxRecDepth 100000 in
theorem i_o251 : i_MOK i_m251 := i_MB_ok (c1 := 1609) (c2 := 153) (c3 := 1608) (c4 := 60) (by decide +kernel)
set_option maxRecDepth 100000 in
theorem i_o252 : i_MOK i_m252 := i_MB_ok (c1 := 1601) (c2 := 153) (c3 := 1600) (c4 := 58) (by decide +kernel)
set_option maxRecDepth 100000 in
theorem i_o253 : i_MOK i_m253 := i_MB_ok (c1 := 1605) (c2 := 153) (c3 := 1604) (c4 := 59) (by decide +kernel)
set_option maxRecDepth 100000 in
theorem i_o254 : i_MOK i_m254 := i_MB_ok (c1 := 2026) (c2 := 153) (c3 := 2025) (c4 := 97) (by decide +kernel)
set_option maxRecDepth 100000 in
theorem i_o255 : i_MOK i_m255 := i_MB_ok (c1 := 2014) (c2 := 153) (c3 := 2013) (c4 := 0) (by decide +kernel)
set_option maxRecDepth 100000 in
theorem i_o256 : i_MOK i_m256 := i_MB_ok (c1 := 2030) (c2 := 153) (c3 := 2029) (c4 := 98) (by decide +kernel)
set_option maxRecDepth 100000 in
theorem i_o257 : i_MOK i_m257 := i_MB_ok (c1 := 1990) (c2 := 153) (c3 := 1988) (c4 := 1989) (by decide +kernel)
set_option maxRecDepth 100000 in
theorem i_o258 : i_MOK i_m258 := i_MB_ok (c1 := 1994) (c2 := 153) (c3 := 1992) (c4 := 1993) (by decide +kernel)
set_option maxRecDepth 100000 in
theorem i_o259 : i_MOK i_m259 := i_MB_ok (c1 := 2006) (c2 := 153) (c3 := 2005) (c4 := 96) (by decide +kernel)
set_option maxRecDepth 100000 in
theorem i_o260 : i_MOK i_m260 := i_MB_ok (c1 := 2002) (c2 := 153) (c3 := 2000) (c4 := 2001) (by decide +kernel)
set_option maxRecDepth 100000 in
theorem i_o261 : i_MOK i_m261 := i_MB_ok (c1 := 2011) (c2 := 153) (c3 := 2009) (c4 := 2010) (by decide +kernel)
set_option maxRecDepth 100000 in
theorem i_o262 : i_MOK i_m262 := i_MB_ok (c1 := 2018) (c2 := 153) (c3 := 2016) (c4 := 2017) (by decide +kernel)
set_option maxRecDepth 100000 in
theorem i_o263 : i_MOK i_m263 := i_MB_ok (c1 := 2022) (c2 := 153) (c3 := 2020) (c4 := 2021) (by decide +kernel)
set_option maxRecDepth 100000 in
theorem i_o264 : i_MOK i_m264 := i_MB_ok (c1 := 2034) (c2 := 153) (c3 := 2032) (c4 := 2033) (by decide +kernel)
set_option maxRecDepth 100000 in
theorem i_o265 : i_MOK i_m265 := i_MB_ok (c1 := 2038) (c2 := 153) (c3 := 2036) (c4 := 2037) (by decide +kernel)
set_option maxRecDepth 100000 in
theorem i_o266 : i_MOK i_m266 := i_MB_ok (c1 := 2042) (c2 := 153) (c3 := 2040) (c4 := 2041) (by decide +kernel)
set_option maxRecDepth 100000 in
theorem i_o267 : i_MOK i_m267 := i_MB_ok (c1 := 2072) (c2 := 153) (c3 := 2071) (c4 := 0) (by decide +kernel)
set_option maxRecDepth 100000 in
theorem i_o268 : i_MOK i_m268 := i_MB_ok (c1 := 2065) (c2 := 153) (c3 := 2064) (c4 := 102) (by decide +kernel)
set_option maxRecDepth 100000 in
theorem i_o269 : i_MOK i_m269 := i_MB_ok (c1 := 2069) (c2 := 153) (c3 := 2068) (c4 := 103) (by decide +kernel)
set_option maxRecDepth 100000 in
theorem i_o270 : i_MOK i_m270 := i_MB_ok (c1 := 2061) (c2 := 153) (c3 := 2060) (c4 := 101) (by decide +kernel)
set_option maxRecDepth 100000 in
theorem i_o271 : i_MOK i_m271 := i_MB_ok (c1 := 2054) (c2 := 153) (c3 := 2053) (c4 := 100) (by decide +kernel)
set_option maxRecDepth 100000 in
theorem i_o272 : i_MOK i_m272 := i_MB_ok (c1 := 2050) (c2 := 153) (c3 := 2049) (c4 := 99) (by decide +kernel)
set_option maxRecDepth 100000 in
theorem i_o273 : i_MOK i_m273 := i_MB_ok (c1 := 2046) (c2 := 153) (c3 := 2044) (c4 := 2045) (by decide +kernel)
set_option maxRecDepth 100000 in
theorem i_o274 : i_MOK i_m274 := i_MB_ok (c1 := 2096) (c2 := 153) (c3 := 2095) (c4 := 108) (by decide +kernel)
set_option maxRecDepth 100000 in
theorem i_o275 : i_MOK i_m275 := i_MB_ok (c1 := 2092) (c2 := 153) (c3 := 2091) (c4 := 107) (by decide +kernel)
set_option maxRecDepth 100000 in
theorem i_o276 : i_MOK i_m276 := i_MB_ok (c1 := 2088) (c2 := 153) (c3 := 2087) (c4 := 106) (by decide +kernel)
set_option maxRecDepth 100000 in
theorem i_o277 : i_MOK i_m277 := i_MB_ok (c1 := 2084) (c2 := 153) (c3 := 2083) (c4 := 105) (by decide +kernel)
set_option maxRecDepth 100000 in
theorem i_o278 : i_MOK i_m278 := i_MB_ok (c1 := 2080) (c2 := 153) (c3 := 2078) (c4 := 2079) (by decide +kernel)
set_option maxRecDepth 100000 in
theorem i_o279 : i_MOK i_m279 := i_MB_ok (c1 := 2100) (c2 := 153) (c3 := 2098) (c4 := 2099) (by decide +kernel)
set_option maxRecDepth 100000 in
theorem i_o280 : i_MOK i_m280 := i_MB_ok (c1 := 2105) (c2 := 153) (c3 := 2103) (c4 := 2104) (by decide +kernel)
set_option maxRecDepth 100000 in
theorem i_o281 : i_MOK i_m281 := i_MB_ok (c1 := 2109) (c2 := 153) (c3 := 2107) (c4 := 2108) (by decide +kernel)
set_option maxRecDepth 100000 in
theorem i_o282 : i_MOK i_m282 := i_MB_ok (c1 := 2121) (c2 := 153) (c3 := 2120) (c4 := 109) (by decide +kernel)
set_option maxRecDepth 100000 in
theorem i_o283 : i_MOK i_m283 := i_MB_ok (c1 := 2117) (c2 := 153) (c3 := 2115) (c4 := 2116) (by decide +kernel)
set_option maxRecDepth 100000 in
theorem i_o284 : i_MOK i_m284 := i_MB_ok (c1 := 2137) (c2 := 153) (c3 := 2136) (c4 := 112) (by decide +kernel)
set_option maxRecDepth 100000 in
theorem i_o285 : i_MOK i_m285 := i_MB_ok (c1 := 2129) (c2 := 153) (c3 := 2128) (c4 := 110) (by decide +kernel)
set_option maxRecDepth 100000 in
theorem i_o286 : i_MOK i_m286 := i_MB_ok (c1 := 2133) (c2 := 153) (c3 := 2132) (c4 := 111) (by decide +kernel)
set_option maxRecDepth 100000 in
theorem i_o287 : i_MOK i_m287 := i_MB_ok (c1 := 2125) (c2 := 153) (c3 := 2123) (c4 := 2124) (by decide +kernel)
set_option maxRecDepth 100000 in
theorem i_o288 : i_MOK i_m288 := i_MB_ok (c1 := 2141) (c2 := 153) (c3 := 2139) (c4 := 2140) (by decide +kernel)
set_option maxRecDepth 100000 in
theorem i_o289 : i_MOK i_m289 := i_MB_ok (c1 := 2150) (c2 := 153) (c3 := 2149) (c4 := 113) (by decide +kernel)
set_option maxRecDepth 100000 in
theorem i_o290 : i_MOK i_m290 := i_MB_ok (c1 := 2145) (c2 := 153) (c3 := 2143) (c4 := 2144) (by decide +kernel)
set_option maxRecDepth 100000 in
theorem i_o291 : i_MOK i_m291 := i_MB_ok (c1 := 2166) (c2 := 153) (c3 := 2165) (c4 := 116) (by decide +kernel)
set_option maxRecDepth 100000 in
theorem i_o292 : i_MOK i_m292 := i_MB_ok (c1 := 2162) (c2 := 153) (c3 := 2161) (c4 := 115) (by decide +kernel)
set_option maxRecDepth 100000 in
theorem i_o293 : i_MOK i_m293 := i_MB_ok (c1 := 2158) (c2 := 153) (c3 := 2157) (c4 := 114) (by decide +kernel)
set_option maxRecDepth 100000 in
theorem i_o294 : i_MOK i_m294 := i_MB_ok (c1 := 2154) (c2 := 153) (c3 := 2152) (c4 := 2153) (by decide +kernel)
set_option maxRecDepth 100000 in
theorem i_o295 : i_MOK i_m295 := i_MB_ok (c1 := 2178) (c2 := 153) (c3 := 2177) (c4 := 118) (by decide +kernel)
set_option maxRecDepth 100000 in
theorem i_o296 : i_MOK i_m296 := i_MB_ok (c1 := 2182) (c2 := 153) (c3 := 2181) (c4 := 119) (by decide +kernel)
set_option maxRecDepth 100000 in
theorem i_o297 : i_MOK i_m297 := i_MB_ok (c1 := 2174) (c2 := 153) (c3 := 2173) (c4 := 117) (by decide +kernel)
set_option maxRecDepth 100000 in
theorem i_o298 : i_MOK i_m298 := i_MB_ok (c1 := 2170) (c2 := 153) (c3 := 2168) (c4 := 2169) (by decide +kernel)
set_option maxRecDepth 100000 in
theorem i_o299 : i_MOK i_m299 := i_MB_ok (c1 := 2186) (c2 := 153) (c3 := 2184) (c4 := 2185) (by decide +kernel)
set_option maxRecDepth 100000 in
theorem i_o300 : i_MOK i_m300 := i_MB_ok (c1 := 2194) (c2 := 153) (c3 := 2193) (c4 := 120) (by decide +kernel)
set_option maxRecDepth 100000 in
theorem i_o301 : i_MOK i_m301 := i_MB_ok (c1 := 2206) (c2 := 153) (c3 := 2205) (c4 := 123) (by decide +kernel)
set_option maxRecDepth 100000 in
theorem i_o302 : i_MOK i_m302 := i_MB_ok (c1 := 2202) (c2 := 153) (c3 := 2201) (c4 := 122) (by decide +kernel)
set_option maxRecDepth 100000 in
theorem i_o303 : i_MOK i_m303 := i_MB_ok (c1 := 2190) (c2 := 153) (c3 := 2188) (c4 := 2189) (by decide +kernel)
set_option maxRecDepth 100000 in
theorem i_o304 : i_MOK i_m304 := i_MB_ok (c1 := 2198) (c2 := 153) (c3 := 2197) (c4 := 121) (by decide +kernel)
set_option maxRecDepth 100000 in
theorem i_o305 : i_MOK i_m305 := i_MB_ok (c1 := 2214) (c2 := 153) (c3 := 2213) (c4 := 124) (by decide +kernel)
set_option maxRecDepth 100000 in
theorem i_o306 : i_MOK i_m306 := i_MB_ok (c1 := 2210) (c2 := 153) (c3 := 2208) (c4 := 2209) (by decide +kernel)
set_option maxRecDepth 100000 in
theorem i_o307 : i_MOK i_m307 := i_MB_ok (c1 := 2226) (c2 := 153) (c3 := 2225) (c4 := 0) (by decide +kernel)
set_option maxRecDepth 100000 in
theorem i_o308 : i_MOK i_m308 := i_MB_ok (c1 := 2223) (c2 := 153) (c3 := 2222) (c4 := 125) (by decide +kernel)
set_option maxRecDepth 100000 in
theorem i_o309 : i_MOK i_m309 := i_MB_ok (c1 := 2218) (c2 := 153) (c3 := 2216) (c4 := 2217) (by decide +kernel)
set_option maxRecDepth 100000 in
theorem i_o310 : i_MOK i_m310 := i_MB_ok (c1 := 2230) (c2 := 153) (c3 := 2228) (c4 := 2229) (by decide +kernel)
set_option maxRecDepth 100000 in
theorem i_o311 : i_MOK i_m311 := i_MB_ok (c1 := 2237) (c2 := 153) (c3 := 2235) (c4 := 2236) (by decide +kernel)
set_option maxRecDepth 100000 in
theorem i_o312 : i_MOK i_m312 := i_MB_ok (c1 := 2245) (c2 := 153) (c3 := 2244) (c4 := 126) (by decide +kernel)
set_option maxRecDepth 100000 in
theorem i_o313 : i_MOK i_m313 := i_MB_ok (c1 := 2241) (c2 := 153) (c3 := 2239) (c4 := 2240) (by decide +kernel)
set_option maxRecDepth 100000 in
theorem i_o314 : i_MOK i_m314 := i_MB_ok (c1 := 2249) (c2 := 153) (c3 := 2247) (c4 := 2248) (by decide +kernel)
set_option maxRecDepth 100000 in
theorem i_o315 : i_MOK i_m315 := i_MB_ok (c1 := 2253) (c2 := 153) (c3 := 2251) (c4 := 2252) (by decide +kernel)
set_option maxRecDepth 100000 in
theorem i_o316 : i_MOK i_m316 := i_MB_ok (c1 := 2262) (c2 := 153) (c3 := 2261) (c4 := 127) (by decide +kernel)
set_option maxRecDepth 100000 in
theorem i_o317 : i_MOK i_m317 := i_MB_ok (c1 := 2257) (c2 := 153) (c3 := 2255) (c4 := 2256) (by decide +kernel)
set_option maxRecDepth 100000 in
theorem i_o318 : i_MOK i_m318 := i_MB_ok (c1 := 2266) (c2 := 153) (c3 := 2264) (c4 := 2265) (by decide +kernel)
set_option maxRecDepth 100000 in
theorem i_o319 : i_MOK i_m319 := i_MB_ok (c1 := 2275) (c2 := 153) (c3 := 2274) (c4 := 128) (by decide +kernel)
set_option maxRecDepth 100000 in
theorem i_o320 : i_MOK i_m320 := i_MB_ok (c1 := 2278) (c2 := 153) (c3 := 2277) (c4 := 0) (by decide +kernel)
set_option maxRecDepth 100000 in
theorem i_o321 : i_MOK i_m321 := i_MB_ok (c1 := 2271) (c2 := 153) (c3 := 2269) (c4 := 2270) (by decide +kernel)
set_option maxRecDepth 100000 in
theorem i_o322 : i_MOK i_m322 := i_MB_ok (c1 := 2286) (c2 := 153) (c3 := 2285) (c4 := 129) (by decide +kernel)
set_option maxRecDepth 100000 in
theorem i_o323 : i_MOK i_m323 := i_MB_ok (c1 := 2282) (c2 := 153) (c3 := 2280) (c4 := 2281) (by decide +kernel)
set_option maxRecDepth 100000 in
theorem i_o324 : i_MOK i_m324 := i_MB_ok (c1 := 2298) (c2 := 153) (c3 := 2297) (c4 := 131) (by decide +kernel)
set_option maxRecDepth 100000 in
theorem i_o325 : i_MOK i_m325 := i_MB_ok (c1 := 2294) (c2 := 153) (c3 := 2293) (c4 := 130) (by decide +kernel)
set_option maxRecDepth 100000 in
theorem i_o326 : i_MOK i_m326 := i_MB_ok (c1 := 2290) (c2 := 153) (c3 := 2288) (c4 := 2289) (by decide +kernel)
set_option maxRecDepth 100000 in
theorem i_o327 : i_MOK i_m327 := i_MB_ok (c1 := 2303) (c2 := 153) (c3 := 2301) (c4 := 2302) (by decide +kernel)
set_option maxRecDepth 100000 in
theorem i_o328 : i_MOK i_m328 := i_MB_ok (c1 := 2307) (c2 := 153) (c3 := 2305) (c4 := 2306) (by decide +kernel)
set_option maxRecDepth 100000 in
theorem i_o329 : i_MOK i_m329 := i_MB_ok (c1 := 2311) (c2 := 153) (c3 := 2309) (c4 := 2310) (by decide +kernel)
set_option maxRecDepth 100000 in
theorem i_o330 : i_MOK i_m330 := i_MB_ok (c1 := 2324) (c2 := 153) (c3 := 2323) (c4 := 133) (by decide +kernel)
set_option maxRecDepth 100000 in
theorem i_o331 : i_MOK i_m331 := i_MB_ok (c1 := 2320) (c2 := 153) (c3 := 2318) (c4 := 2319) (by decide +kernel)
set_option maxRecDepth 100000 in
theorem i_o332 : i_MOK i_m332 := i_MB_ok (c1 := 2328) (c2 := 153) (c3 := 2326) (c4 := 2327) (by decide +kernel)
set_option maxRecDepth 100000 in
theorem i_o333 : i_MOK i_m333 := i_MB_ok (c1 := 1444) (c2 := 156) (c3 := 1443) (c4 := 0) (by decide +kernel)
set_option maxRecDepth 100000 in
theorem i_o334 : i_MOK i_m334 := i_MB_ok (c1 := 930) (c2 := 154) (c3 := 929) (c4 := 0) (by decide +kernel)
set_option maxRecDepth 100000 in
theorem i_o335 : i_MOK i_m335 := i_MB_ok (c1 := 2057) (c2 := 155) (c3 := 2056) (c4 := 0) (by decide +kernel)
set_option maxRecDepth 100000 in
theorem i_o336 : i_MOK i_m336 := i_MB_ok (c1 := 1016) (c2 := 155) (c3 := 1015) (c4 := 0) (by decide +kernel)
set_option maxRecDepth 100000 in
theorem i_o337 : i_MOK i_m337 := i_MB_ok (c1 := 1046) (c2 := 155) (c3 := 1045) (c4 := 0) (by decide +kernel)
set_option maxRecDepth 100000 in
theorem i_o338 : i_MOK i_m338 := i_MB_ok (c1 := 201) (c2 := 139) (c3 := 199) (c4 := 200) (by decide +kernel)
set_option maxRecDepth 100000 in
theorem i_o339 : i_MOK i_m339 := i_MB_ok (c1 := 211) (c2 := 139) (c3 := 209) (c4 := 210) (by decide +kernel)
set_option maxRecDepth 100000 in
theorem i_o340 : i_MOK i_m340 := i_MB_ok (c1 := 205) (c2 := 139) (c3 := 203) (c4 := 204) (by decide +kernel)
set_option maxRecDepth 100000 in
theorem i_o341 : i_MOK i_m341 := i_MB_ok (c1 := 215) (c2 := 139) (c3 := 213) (c4 := 214) (by decide +kernel)
set_option maxRecDepth 100000 in
theorem i_o342 : i_MOK i_m342 := i_MB_ok (c1 := 221) (c2 := 139) (c3 := 220) (c4 := 0) (by decide +kernel)
set_option maxRecDepth 100000 in
theorem i_o343 : i_MOK i_m343 := i_MB_ok (c1 := 218) (c2 := 140) (c3 := 217) (c4 := 0) (by decide +kernel)
set_option maxRecDepth 100000 in
theorem i_o344 : i_MOK i_m344 := i_MB_ok (c1 := 239) (c2 := 142) (c3 := 238) (c4 := 0) (by decide +kernel)
set_option maxRecDepth 100000 in
theorem i_o345 : i_MOK i_m345 := i_MB_ok (c1 := 235) (c2 := 142) (c3 := 234) (c4 := 0) (by decide +kernel)
set_option maxRecDepth 100000 in
theorem i_o346 : i_MOK i_m346 := i_MB_ok (c1 := 229) (c2 := 142) (c3 := 228) (c4 := 0) (by decide +kernel)
set_option maxRecDepth 100000 in
theorem i_o347 : i_MOK i_m347 := i_MB_ok (c1 := 232) (c2 := 142) (c3 := 231) (c4 := 0) (by decide +kernel)
set_option maxRecDepth 100000 in
theorem i_o348 : i_MOK i_m348 := i_MB_ok (c1 := 793) (c2 := 138) (c3 := 792) (c4 := 0) (by decide +kernel)
set_option maxRecDepth 100000 in
theorem i_o349 : i_MOK i_m349 := i_MB_ok (c1 := 196) (c2 := 138) (c3 := 195) (c4 := 0) (by decide +kernel)
set_option maxRecDepth 100000 in
theorem i_o350 : i_MOK i_m350 := i_MB_ok (c1 := 226) (c2 := 141) (c3 := 225) (c4 := 0) (by decide +kernel)
