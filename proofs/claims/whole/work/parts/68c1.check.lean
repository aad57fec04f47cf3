/-! THE METHODS' CHECK, part 1 -/
set_option maxRecDepth 100000 in
theorem i_o59 : i_MOK i_m59 := i_MB_ok (c1 := 1416) (c2 := 151) (c3 := 1415) (c4 := 49) (by decide +kernel)
set_option maxRecDepth 100000 in
theorem i_o60 : i_MOK i_m60 := i_MB_ok (c1 := 1424) (c2 := 151) (c3 := 1422) (c4 := 1423) (by decide +kernel)
set_option maxRecDepth 100000 in
theorem i_o61 : i_MOK i_m61 := i_MB_ok (c1 := 1428) (c2 := 151) (c3 := 1427) (c4 := 50) (by decide +kernel)
set_option maxRecDepth 100000 in
theorem i_o62 : i_MOK i_m62 := i_MB_ok (c1 := 1437) (c2 := 151) (c3 := 1435) (c4 := 1436) (by decide +kernel)
set_option maxRecDepth 100000 in
theorem i_o63 : i_MOK i_m63 := i_MB_ok (c1 := 1533) (c2 := 151) (c3 := 1531) (c4 := 1532) (by decide +kernel)
set_option maxRecDepth 100000 in
theorem i_o64 : i_MOK i_m64 := i_MB_ok (c1 := 1441) (c2 := 151) (c3 := 1440) (c4 := 51) (by decide +kernel)
set_option maxRecDepth 100000 in
theorem i_o65 : i_MOK i_m65 := i_MB_ok (c1 := 1451) (c2 := 151) (c3 := 1450) (c4 := 52) (by decide +kernel)
set_option maxRecDepth 100000 in
theorem i_o66 : i_MOK i_m66 := i_MB_ok (c1 := 593) (c2 := 150) (c3 := 592) (c4 := 0) (by decide +kernel)
set_option maxRecDepth 100000 in
theorem i_o67 : i_MOK i_m67 := i_MB_ok (c1 := 1269) (c2 := 150) (c3 := 1268) (c4 := 32) (by decide +kernel)
set_option maxRecDepth 100000 in
theorem i_o68 : i_MOK i_m68 := i_MB_ok (c1 := 1279) (c2 := 150) (c3 := 1278) (c4 := 34) (by decide +kernel)
set_option maxRecDepth 100000 in
theorem i_o69 : i_MOK i_m69 := i_MB_ok (c1 := 1274) (c2 := 150) (c3 := 1273) (c4 := 33) (by decide +kernel)
set_option maxRecDepth 100000 in
theorem i_o70 : i_MOK i_m70 := i_MB_ok (c1 := 1265) (c2 := 150) (c3 := 1263) (c4 := 1264) (by decide +kernel)
set_option maxRecDepth 100000 in
theorem i_o71 : i_MOK i_m71 := i_MB_ok (c1 := 1286) (c2 := 150) (c3 := 1285) (c4 := 35) (by decide +kernel)
set_option maxRecDepth 100000 in
theorem i_o72 : i_MOK i_m72 := i_MB_ok (c1 := 1294) (c2 := 150) (c3 := 1293) (c4 := 36) (by decide +kernel)
set_option maxRecDepth 100000 in
theorem i_o73 : i_MOK i_m73 := i_MB_ok (c1 := 1313) (c2 := 150) (c3 := 1311) (c4 := 1312) (by decide +kernel)
set_option maxRecDepth 100000 in
theorem i_o74 : i_MOK i_m74 := i_MB_ok (c1 := 1325) (c2 := 150) (c3 := 1324) (c4 := 39) (by decide +kernel)
set_option maxRecDepth 100000 in
theorem i_o75 : i_MOK i_m75 := i_MB_ok (c1 := 1319) (c2 := 150) (c3 := 1318) (c4 := 38) (by decide +kernel)
set_option maxRecDepth 100000 in
theorem i_o76 : i_MOK i_m76 := i_MB_ok (c1 := 1335) (c2 := 150) (c3 := 1333) (c4 := 1334) (by decide +kernel)
set_option maxRecDepth 100000 in
theorem i_o77 : i_MOK i_m77 := i_MB_ok (c1 := 1340) (c2 := 150) (c3 := 1339) (c4 := 40) (by decide +kernel)
set_option maxRecDepth 100000 in
theorem i_o78 : i_MOK i_m78 := i_MB_ok (c1 := 1344) (c2 := 150) (c3 := 1343) (c4 := 41) (by decide +kernel)
set_option maxRecDepth 100000 in
theorem i_o79 : i_MOK i_m79 := i_MB_ok (c1 := 1348) (c2 := 150) (c3 := 1347) (c4 := 42) (by decide +kernel)
set_option maxRecDepth 100000 in
theorem i_o80 : i_MOK i_m80 := i_MB_ok (c1 := 1352) (c2 := 150) (c3 := 1351) (c4 := 43) (by decide +kernel)
set_option maxRecDepth 100000 in
theorem i_o81 : i_MOK i_m81 := i_MB_ok (c1 := 1504) (c2 := 150) (c3 := 1502) (c4 := 1503) (by decide +kernel)
set_option maxRecDepth 100000 in
theorem i_o82 : i_MOK i_m82 := i_MB_ok (c1 := 192) (c2 := 137) (c3 := 191) (c4 := 0) (by decide +kernel)
set_option maxRecDepth 100000 in
theorem i_o83 : i_MOK i_m83 := i_MB_ok (c1 := 851) (c2 := 137) (c3 := 849) (c4 := 850) (by decide +kernel)
set_option maxRecDepth 100000 in
theorem i_o84 : i_MOK i_m84 := i_MB_ok (c1 := 859) (c2 := 137) (c3 := 857) (c4 := 858) (by decide +kernel)
set_option maxRecDepth 100000 in
theorem i_o85 : i_MOK i_m85 := i_MB_ok (c1 := 992) (c2 := 137) (c3 := 990) (c4 := 991) (by decide +kernel)
set_option maxRecDepth 100000 in
theorem i_o86 : i_MOK i_m86 := i_MB_ok (c1 := 893) (c2 := 137) (c3 := 891) (c4 := 892) (by decide +kernel)
set_option maxRecDepth 100000 in
theorem i_o87 : i_MOK i_m87 := i_MB_ok (c1 := 884) (c2 := 137) (c3 := 882) (c4 := 883) (by decide +kernel)
set_option maxRecDepth 100000 in
theorem i_o88 : i_MOK i_m88 := i_MB_ok (c1 := 880) (c2 := 137) (c3 := 878) (c4 := 879) (by decide +kernel)
set_option maxRecDepth 100000 in
theorem i_o89 : i_MOK i_m89 := i_MB_ok (c1 := 950) (c2 := 137) (c3 := 948) (c4 := 949) (by decide +kernel)
set_option maxRecDepth 100000 in
theorem i_o90 : i_MOK i_m90 := i_MB_ok (c1 := 968) (c2 := 137) (c3 := 966) (c4 := 967) (by decide +kernel)
set_option maxRecDepth 100000 in
theorem i_o91 : i_MOK i_m91 := i_MB_ok (c1 := 876) (c2 := 137) (c3 := 874) (c4 := 875) (by decide +kernel)
set_option maxRecDepth 100000 in
theorem i_o92 : i_MOK i_m92 := i_MB_ok (c1 := 946) (c2 := 137) (c3 := 944) (c4 := 945) (by decide +kernel)
set_option maxRecDepth 100000 in
theorem i_o93 : i_MOK i_m93 := i_MB_ok (c1 := 964) (c2 := 137) (c3 := 962) (c4 := 963) (by decide +kernel)
set_option maxRecDepth 100000 in
theorem i_o94 : i_MOK i_m94 := i_MB_ok (c1 := 897) (c2 := 137) (c3 := 895) (c4 := 896) (by decide +kernel)
set_option maxRecDepth 100000 in
theorem i_o95 : i_MOK i_m95 := i_MB_ok (c1 := 888) (c2 := 137) (c3 := 886) (c4 := 887) (by decide +kernel)
set_option maxRecDepth 100000 in
theorem i_o96 : i_MOK i_m96 := i_MB_ok (c1 := 302) (c2 := 143) (c3 := 301) (c4 := 0) (by decide +kernel)
set_option maxRecDepth 100000 in
theorem i_o97 : i_MOK i_m97 := i_MB_ok (c1 := 867) (c2 := 143) (c3 := 865) (c4 := 866) (by decide +kernel)
set_option maxRecDepth 100000 in
theorem i_o98 : i_MOK i_m98 := i_MB_ok (c1 := 1577) (c2 := 143) (c3 := 1575) (c4 := 1576) (by decide +kernel)
set_option maxRecDepth 100000 in
theorem i_o99 : i_MOK i_m99 := i_MB_ok (c1 := 1099) (c2 := 143) (c3 := 1097) (c4 := 1098) (by decide +kernel)
set_option maxRecDepth 100000 in
theorem i_o100 : i_MOK i_m100 := i_MB_ok (c1 := 914) (c2 := 143) (c3 := 912) (c4 := 913) (by decide +kernel)
set_option maxRecDepth 100000 in
theorem i_o101 : i_MOK i_m101 := i_MB_ok (c1 := 1223) (c2 := 143) (c3 := 1221) (c4 := 1222) (by decide +kernel)
set_option maxRecDepth 100000 in
theorem i_o102 : i_MOK i_m102 := i_MB_ok (c1 := 447) (c2 := 146) (c3 := 446) (c4 := 0) (by decide +kernel)
set_option maxRecDepth 100000 in
theorem i_o103 : i_MOK i_m103 := i_MB_ok (c1 := 863) (c2 := 146) (c3 := 861) (c4 := 862) (by decide +kernel)
set_option maxRecDepth 100000 in
theorem i_o104 : i_MOK i_m104 := i_MB_ok (c1 := 872) (c2 := 146) (c3 := 871) (c4 := 4) (by decide +kernel)
set_option maxRecDepth 100000 in
theorem i_o105 : i_MOK i_m105 := i_MB_ok (c1 := 902) (c2 := 146) (c3 := 901) (c4 := 5) (by decide +kernel)
set_option maxRecDepth 100000 in
theorem i_o106 : i_MOK i_m106 := i_MB_ok (c1 := 910) (c2 := 146) (c3 := 909) (c4 := 7) (by decide +kernel)
set_option maxRecDepth 100000 in
theorem i_o107 : i_MOK i_m107 := i_MB_ok (c1 := 937) (c2 := 146) (c3 := 936) (c4 := 9) (by decide +kernel)
set_option maxRecDepth 100000 in
theorem i_o108 : i_MOK i_m108 := i_MB_ok (c1 := 906) (c2 := 146) (c3 := 905) (c4 := 6) (by decide +kernel)
set_option maxRecDepth 100000 in
theorem i_o109 : i_MOK i_m109 := i_MB_ok (c1 := 927) (c2 := 146) (c3 := 926) (c4 := 8) (by decide +kernel)
set_option maxRecDepth 100000 in
theorem i_o110 : i_MOK i_m110 := i_MB_ok (c1 := 942) (c2 := 146) (c3 := 941) (c4 := 10) (by decide +kernel)
set_option maxRecDepth 100000 in
theorem i_o111 : i_MOK i_m111 := i_MB_ok (c1 := 956) (c2 := 146) (c3 := 955) (c4 := 11) (by decide +kernel)
set_option maxRecDepth 100000 in
theorem i_o112 : i_MOK i_m112 := i_MB_ok (c1 := 960) (c2 := 146) (c3 := 959) (c4 := 12) (by decide +kernel)
set_option maxRecDepth 100000 in
theorem i_o113 : i_MOK i_m113 := i_MB_ok (c1 := 980) (c2 := 146) (c3 := 979) (c4 := 13) (by decide +kernel)
set_option maxRecDepth 100000 in
theorem i_o114 : i_MOK i_m114 := i_MB_ok (c1 := 984) (c2 := 146) (c3 := 983) (c4 := 14) (by decide +kernel)
set_option maxRecDepth 100000 in
theorem i_o115 : i_MOK i_m115 := i_MB_ok (c1 := 988) (c2 := 146) (c3 := 987) (c4 := 15) (by decide +kernel)
set_option maxRecDepth 100000 in
theorem i_o116 : i_MOK i_m116 := i_MB_ok (c1 := 169) (c2 := 136) (c3 := 168) (c4 := 0) (by decide +kernel)
set_option maxRecDepth 100000 in
theorem i_o117 : i_MOK i_m117 := i_MB_ok (c1 := 779) (c2 := 136) (c3 := 778) (c4 := 0) (by decide +kernel)
