/-! THE TABLES' CHECK: the methods; then all of it together -/
def i_MB (M : i_M) (c1 c2 c3 c4 : Nat) : Bool := i_isW c1 (.code (i_y M) (i_by M) (i_ml M) (i_re M)) && plainName (i_own M) && i_isW c2 (.initialized (i_own M)) && decide (i_own M ≠ "java/lang/invoke/MethodHandle") && decide (i_own M ≠ "java/lang/invoke/VarHandle") && decide ((parseMethodDescriptor (i_y M).desc).map (fun d => d.parameters.length) = some (i_na M)) &&
  (match i_ki M with
  | 0 => i_isW c3 (.static (i_y M))
  | 1 => i_isW c3 (.instanceMethod (i_y M)) && i_isW c4 (.selects (i_own M) (i_y M) (i_y M)) && ((decide (i_cl M < 13) && decide (i_cn (i_cl M) = i_own M)) || (decide (i_cl M = 100) && decide (i_own M = "java/lang/String")))
  | 2 => decide ((i_y M).name = "<init>") && i_isW c3 (.instanceMethod (i_y M)) && decide (i_re M = none)
  | _ => false)
theorem i_MB_ok {M : i_M} {c1 c2 c3 c4 : Nat} (h : i_MB M c1 c2 c3 c4 = true) : i_MOK M := by
  unfold i_MB at h
  simp only [Bool.and_eq_true, decide_eq_true_eq] at h
  obtain ⟨⟨⟨⟨⟨⟨h1, h2⟩, h3⟩, h4⟩, h5⟩, h6⟩, h7⟩ := h
  refine ⟨i_isW_ok h1, h2, i_isW_ok h3, ⟨h4, h5, h6⟩, ?_⟩
  split at h7
  · rename_i hk
    exact Or.inl ⟨hk, i_isW_ok h7⟩
  · rename_i hk
    simp only [Bool.and_eq_true, Bool.or_eq_true, decide_eq_true_eq] at h7
    exact Or.inr (Or.inl ⟨hk, i_isW_ok h7.1.1, i_isW_ok h7.1.2, h7.2⟩)
  · rename_i hk
    simp only [Bool.and_eq_true, decide_eq_true_eq] at h7
    exact Or.inr (Or.inr ⟨hk, h7.1.1, i_isW_ok h7.1.2, h7.2⟩)
  · cases h7
set_option maxRecDepth 100000 in
theorem i_o0 : i_MOK i_m0 := i_MB_ok (c1 := 506) (c2 := 148) (c3 := 505) (c4 := 0) (by decide +kernel)
set_option maxRecDepth 100000 in
theorem i_o1 : i_MOK i_m1 := i_MB_ok (c1 := 996) (c2 := 148) (c3 := 994) (c4 := 995) (by decide +kernel)
set_option maxRecDepth 100000 in
theorem i_o2 : i_MOK i_m2 := i_MB_ok (c1 := 1013) (c2 := 148) (c3 := 1012) (c4 := 17) (by decide +kernel)
set_option maxRecDepth 100000 in
theorem i_o3 : i_MOK i_m3 := i_MB_ok (c1 := 1029) (c2 := 148) (c3 := 1028) (c4 := 18) (by decide +kernel)
set_option maxRecDepth 100000 in
theorem i_o4 : i_MOK i_m4 := i_MB_ok (c1 := 1152) (c2 := 148) (c3 := 1150) (c4 := 1151) (by decide +kernel)
set_option maxRecDepth 100000 in
theorem i_o5 : i_MOK i_m5 := i_MB_ok (c1 := 1160) (c2 := 148) (c3 := 1158) (c4 := 1159) (by decide +kernel)
set_option maxRecDepth 100000 in
theorem i_o6 : i_MOK i_m6 := i_MB_ok (c1 := 1171) (c2 := 148) (c3 := 1169) (c4 := 1170) (by decide +kernel)
set_option maxRecDepth 100000 in
theorem i_o7 : i_MOK i_m7 := i_MB_ok (c1 := 1132) (c2 := 148) (c3 := 1130) (c4 := 1131) (by decide +kernel)
set_option maxRecDepth 100000 in
theorem i_o8 : i_MOK i_m8 := i_MB_ok (c1 := 1477) (c2 := 148) (c3 := 1475) (c4 := 1476) (by decide +kernel)
set_option maxRecDepth 100000 in
theorem i_o9 : i_MOK i_m9 := i_MB_ok (c1 := 1219) (c2 := 148) (c3 := 1217) (c4 := 1218) (by decide +kernel)
set_option maxRecDepth 100000 in
theorem i_o10 : i_MOK i_m10 := i_MB_ok (c1 := 1179) (c2 := 148) (c3 := 1177) (c4 := 1178) (by decide +kernel)
set_option maxRecDepth 100000 in
theorem i_o11 : i_MOK i_m11 := i_MB_ok (c1 := 1213) (c2 := 148) (c3 := 1211) (c4 := 1212) (by decide +kernel)
set_option maxRecDepth 100000 in
theorem i_o12 : i_MOK i_m12 := i_MB_ok (c1 := 1207) (c2 := 148) (c3 := 1205) (c4 := 1206) (by decide +kernel)
set_option maxRecDepth 100000 in
theorem i_o13 : i_MOK i_m13 := i_MB_ok (c1 := 1239) (c2 := 148) (c3 := 1237) (c4 := 1238) (by decide +kernel)
set_option maxRecDepth 100000 in
theorem i_o14 : i_MOK i_m14 := i_MB_ok (c1 := 1253) (c2 := 148) (c3 := 1251) (c4 := 1252) (by decide +kernel)
set_option maxRecDepth 100000 in
theorem i_o15 : i_MOK i_m15 := i_MB_ok (c1 := 1486) (c2 := 148) (c3 := 1484) (c4 := 1485) (by decide +kernel)
set_option maxRecDepth 100000 in
theorem i_o16 : i_MOK i_m16 := i_MB_ok (c1 := 690) (c2 := 152) (c3 := 689) (c4 := 0) (by decide +kernel)
set_option maxRecDepth 100000 in
theorem i_o17 : i_MOK i_m17 := i_MB_ok (c1 := 1541) (c2 := 152) (c3 := 1539) (c4 := 1540) (by decide +kernel)
set_option maxRecDepth 100000 in
theorem i_o18 : i_MOK i_m18 := i_MB_ok (c1 := 1547) (c2 := 152) (c3 := 1546) (c4 := 54) (by decide +kernel)
set_option maxRecDepth 100000 in
theorem i_o19 : i_MOK i_m19 := i_MB_ok (c1 := 1552) (c2 := 152) (c3 := 1551) (c4 := 55) (by decide +kernel)
set_option maxRecDepth 100000 in
theorem i_o20 : i_MOK i_m20 := i_MB_ok (c1 := 512) (c2 := 149) (c3 := 511) (c4 := 0) (by decide +kernel)
set_option maxRecDepth 100000 in
theorem i_o21 : i_MOK i_m21 := i_MB_ok (c1 := 1000) (c2 := 149) (c3 := 998) (c4 := 999) (by decide +kernel)
set_option maxRecDepth 100000 in
theorem i_o22 : i_MOK i_m22 := i_MB_ok (c1 := 1006) (c2 := 149) (c3 := 1005) (c4 := 16) (by decide +kernel)
set_option maxRecDepth 100000 in
theorem i_o23 : i_MOK i_m23 := i_MB_ok (c1 := 1290) (c2 := 149) (c3 := 1288) (c4 := 1289) (by decide +kernel)
set_option maxRecDepth 100000 in
theorem i_o24 : i_MOK i_m24 := i_MB_ok (c1 := 1383) (c2 := 149) (c3 := 1381) (c4 := 1382) (by decide +kernel)
set_option maxRecDepth 100000 in
theorem i_o25 : i_MOK i_m25 := i_MB_ok (c1 := 1020) (c2 := 149) (c3 := 1018) (c4 := 1019) (by decide +kernel)
set_option maxRecDepth 100000 in
theorem i_o26 : i_MOK i_m26 := i_MB_ok (c1 := 1033) (c2 := 149) (c3 := 1031) (c4 := 1032) (by decide +kernel)
set_option maxRecDepth 100000 in
theorem i_o27 : i_MOK i_m27 := i_MB_ok (c1 := 1191) (c2 := 149) (c3 := 1189) (c4 := 1190) (by decide +kernel)
set_option maxRecDepth 100000 in
theorem i_o28 : i_MOK i_m28 := i_MB_ok (c1 := 1509) (c2 := 149) (c3 := 1507) (c4 := 1508) (by decide +kernel)
set_option maxRecDepth 100000 in
theorem i_o29 : i_MOK i_m29 := i_MB_ok (c1 := 1195) (c2 := 149) (c3 := 1193) (c4 := 1194) (by decide +kernel)
set_option maxRecDepth 100000 in
theorem i_o30 : i_MOK i_m30 := i_MB_ok (c1 := 1187) (c2 := 149) (c3 := 1185) (c4 := 1186) (by decide +kernel)
set_option maxRecDepth 100000 in
theorem i_o31 : i_MOK i_m31 := i_MB_ok (c1 := 1183) (c2 := 149) (c3 := 1181) (c4 := 1182) (by decide +kernel)
set_option maxRecDepth 100000 in
theorem i_o32 : i_MOK i_m32 := i_MB_ok (c1 := 1297) (c2 := 149) (c3 := 1296) (c4 := 0) (by decide +kernel)
set_option maxRecDepth 100000 in
theorem i_o33 : i_MOK i_m33 := i_MB_ok (c1 := 308) (c2 := 144) (c3 := 307) (c4 := 0) (by decide +kernel)
set_option maxRecDepth 100000 in
theorem i_o34 : i_MOK i_m34 := i_MB_ok (c1 := 972) (c2 := 144) (c3 := 970) (c4 := 971) (by decide +kernel)
set_option maxRecDepth 100000 in
theorem i_o35 : i_MOK i_m35 := i_MB_ok (c1 := 976) (c2 := 144) (c3 := 974) (c4 := 975) (by decide +kernel)
set_option maxRecDepth 100000 in
theorem i_o36 : i_MOK i_m36 := i_MB_ok (c1 := 921) (c2 := 144) (c3 := 919) (c4 := 920) (by decide +kernel)
set_option maxRecDepth 100000 in
theorem i_o37 : i_MOK i_m37 := i_MB_ok (c1 := 1581) (c2 := 144) (c3 := 1579) (c4 := 1580) (by decide +kernel)
set_option maxRecDepth 100000 in
theorem i_o38 : i_MOK i_m38 := i_MB_ok (c1 := 469) (c2 := 147) (c3 := 468) (c4 := 0) (by decide +kernel)
set_option maxRecDepth 100000 in
theorem i_o39 : i_MOK i_m39 := i_MB_ok (c1 := 1050) (c2 := 147) (c3 := 1048) (c4 := 1049) (by decide +kernel)
set_option maxRecDepth 100000 in
theorem i_o40 : i_MOK i_m40 := i_MB_ok (c1 := 1056) (c2 := 147) (c3 := 1055) (c4 := 20) (by decide +kernel)
set_option maxRecDepth 100000 in
theorem i_o41 : i_MOK i_m41 := i_MB_ok (c1 := 1066) (c2 := 147) (c3 := 1065) (c4 := 21) (by decide +kernel)
set_option maxRecDepth 100000 in
theorem i_o42 : i_MOK i_m42 := i_MB_ok (c1 := 1078) (c2 := 147) (c3 := 1077) (c4 := 24) (by decide +kernel)
set_option maxRecDepth 100000 in
theorem i_o43 : i_MOK i_m43 := i_MB_ok (c1 := 1081) (c2 := 147) (c3 := 1080) (c4 := 0) (by decide +kernel)
set_option maxRecDepth 100000 in
theorem i_o44 : i_MOK i_m44 := i_MB_ok (c1 := 1085) (c2 := 147) (c3 := 1084) (c4 := 25) (by decide +kernel)
set_option maxRecDepth 100000 in
theorem i_o45 : i_MOK i_m45 := i_MB_ok (c1 := 1090) (c2 := 147) (c3 := 1089) (c4 := 26) (by decide +kernel)
set_option maxRecDepth 100000 in
theorem i_o46 : i_MOK i_m46 := i_MB_ok (c1 := 1095) (c2 := 147) (c3 := 1094) (c4 := 27) (by decide +kernel)
set_option maxRecDepth 100000 in
theorem i_o47 : i_MOK i_m47 := i_MB_ok (c1 := 1070) (c2 := 147) (c3 := 1069) (c4 := 22) (by decide +kernel)
set_option maxRecDepth 100000 in
theorem i_o48 : i_MOK i_m48 := i_MB_ok (c1 := 1074) (c2 := 147) (c3 := 1073) (c4 := 23) (by decide +kernel)
set_option maxRecDepth 100000 in
theorem i_o49 : i_MOK i_m49 := i_MB_ok (c1 := 644) (c2 := 151) (c3 := 643) (c4 := 0) (by decide +kernel)
set_option maxRecDepth 100000 in
theorem i_o50 : i_MOK i_m50 := i_MB_ok (c1 := 1361) (c2 := 151) (c3 := 1359) (c4 := 1360) (by decide +kernel)
set_option maxRecDepth 100000 in
theorem i_o51 : i_MOK i_m51 := i_MB_ok (c1 := 1367) (c2 := 151) (c3 := 1366) (c4 := 44) (by decide +kernel)
set_option maxRecDepth 100000 in
theorem i_o52 : i_MOK i_m52 := i_MB_ok (c1 := 1374) (c2 := 151) (c3 := 1373) (c4 := 45) (by decide +kernel)
set_option maxRecDepth 100000 in
theorem i_o53 : i_MOK i_m53 := i_MB_ok (c1 := 1379) (c2 := 151) (c3 := 1378) (c4 := 46) (by decide +kernel)
set_option maxRecDepth 100000 in
theorem i_o54 : i_MOK i_m54 := i_MB_ok (c1 := 1523) (c2 := 151) (c3 := 1521) (c4 := 1522) (by decide +kernel)
set_option maxRecDepth 100000 in
theorem i_o55 : i_MOK i_m55 := i_MB_ok (c1 := 1392) (c2 := 151) (c3 := 1390) (c4 := 1391) (by decide +kernel)
set_option maxRecDepth 100000 in
theorem i_o56 : i_MOK i_m56 := i_MB_ok (c1 := 1403) (c2 := 151) (c3 := 1401) (c4 := 1402) (by decide +kernel)
set_option maxRecDepth 100000 in
theorem i_o57 : i_MOK i_m57 := i_MB_ok (c1 := 1407) (c2 := 151) (c3 := 1406) (c4 := 47) (by decide +kernel)
set_option maxRecDepth 100000 in
theorem i_o58 : i_MOK i_m58 := i_MB_ok (c1 := 1411) (c2 := 151) (c3 := 1410) (c4 := 48) (by decide +kernel)
