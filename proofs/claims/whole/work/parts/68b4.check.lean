/-! THE TABLES' CHECK, part 4 -/
set_option maxRecDepth 100000 in
theorem i_t280 : i_c280.all (i_enB i_MT i_m280) = true := by decide +kernel
set_option maxRecDepth 100000 in
theorem i_t281 : i_c281.all (i_enB i_MT i_m281) = true := by decide +kernel
set_option maxRecDepth 100000 in
theorem i_t282 : i_c282.all (i_enB i_MT i_m282) = true := by decide +kernel
set_option maxRecDepth 100000 in
theorem i_t283 : i_c283.all (i_enB i_MT i_m283) = true := by decide +kernel
set_option maxRecDepth 100000 in
theorem i_t284 : i_c284.all (i_enB i_MT i_m284) = true := by decide +kernel
set_option maxRecDepth 100000 in
theorem i_t285 : i_c285.all (i_enB i_MT i_m285) = true := by decide +kernel
set_option maxRecDepth 100000 in
theorem i_t286 : i_c286.all (i_enB i_MT i_m286) = true := by decide +kernel
set_option maxRecDepth 100000 in
theorem i_t287 : i_c287.all (i_enB i_MT i_m287) = true := by decide +kernel
set_option maxRecDepth 100000 in
theorem i_t288 : i_c288.all (i_enB i_MT i_m288) = true := by decide +kernel
set_option maxRecDepth 100000 in
theorem i_t289 : i_c289.all (i_enB i_MT i_m289) = true := by decide +kernel
set_option maxRecDepth 100000 in
theorem i_t290 : i_c290.all (i_enB i_MT i_m290) = true := by decide +kernel
set_option maxRecDepth 100000 in
theorem i_t291 : i_c291.all (i_enB i_MT i_m291) = true := by decide +kernel
set_option maxRecDepth 100000 in
theorem i_t292 : i_c292.all (i_enB i_MT i_m292) = true := by decide +kernel
set_option maxRecDepth 100000 in
theorem i_t293 : i_c293.all (i_enB i_MT i_m293) = true := by decide +kernel
set_option maxRecDepth 100000 in
theorem i_t294 : i_c294.all (i_enB i_MT i_m294) = true := by decide +kernel
set_option maxRecDepth 100000 in
theorem i_t295 : i_c295.all (i_enB i_MT i_m295) = true := by decide +kernel
set_option maxRecDepth 100000 in
theorem i_t296 : i_c296.all (i_enB i_MT i_m296) = true := by decide +kernel
set_option maxRecDepth 100000 in
theorem i_t297 : i_c297.all (i_enB i_MT i_m297) = true := by decide +kernel
set_option maxRecDepth 100000 in
theorem i_t298 : i_c298.all (i_enB i_MT i_m298) = true := by decide +kernel
set_option maxRecDepth 100000 in
theorem i_t299 : i_c299.all (i_enB i_MT i_m299) = true := by decide +kernel
set_option maxRecDepth 100000 in
theorem i_t300 : i_c300.all (i_enB i_MT i_m300) = true := by decide +kernel
set_option maxRecDepth 100000 in
theorem i_t301 : i_c301.all (i_enB i_MT i_m301) = true := by decide +kernel
set_option maxRecDepth 100000 in
theorem i_t302 : i_c302.all (i_enB i_MT i_m302) = true := by decide +kernel
set_option maxRecDepth 100000 in
theorem i_t303 : i_c303.all (i_enB i_MT i_m303) = true := by decide +kernel
set_option maxRecDepth 100000 in
theorem i_t304 : i_c304.all (i_enB i_MT i_m304) = true := by decide +kernel
set_option maxRecDepth 100000 in
theorem i_t305 : i_c305.all (i_enB i_MT i_m305) = true := by decide +kernel
set_option maxRecDepth 100000 in
theorem i_t306 : i_c306.all (i_enB i_MT i_m306) = true := by decide +kernel
set_option maxRecDepth 100000 in
theorem i_t307 : i_c307.all (i_enB i_MT i_m307) = true := by decide +kernel
set_option maxRecDepth 100000 in
theorem i_t308 : i_c308.all (i_enB i_MT i_m308) = true := by decide +kernel
set_option maxRecDepth 100000 in
theorem i_t309 : i_c309.all (i_enB i_MT i_m309) = true := by decide +kernel
set_option maxRecDepth 100000 in
theorem i_t310 : i_c310.all (i_enB i_MT i_m310) = true := by decide +kernel
set_option maxRecDepth 100000 in
theorem i_t311 : i_c311.all (i_enB i_MT i_m311) = true := by decide +kernel
set_option maxRecDepth 100000 in
theorem i_t312 : i_c312.all (i_enB i_MT i_m312) = true := by decide +kernel
set_option maxRecDepth 100000 in
theorem i_t313 : i_c313.all (i_enB i_MT i_m313) = true := by decide +kernel
set_option maxRecDepth 100000 in
theorem i_t314 : i_c314.all (i_enB i_MT i_m314) = true := by decide +kernel
set_option maxRecDepth 100000 in
theorem i_t315 : i_c315.all (i_enB i_MT i_m315) = true := by decide +kernel
set_option maxRecDepth 100000 in
theorem i_t316 : i_c316.all (i_enB i_MT i_m316) = true := by decide +kernel
set_option maxRecDepth 100000 in
theorem i_t317 : i_c317.all (i_enB i_MT i_m317) = true := by decide +kernel
set_option maxRecDepth 100000 in
theorem i_t318 : i_c318.all (i_enB i_MT i_m318) = true := by decide +kernel
set_option maxRecDepth 100000 in
theorem i_t319 : i_c319.all (i_enB i_MT i_m319) = true := by decide +kernel
set_option maxRecDepth 100000 in
theorem i_t320 : i_c320.all (i_enB i_MT i_m320) = true := by decide +kernel
set_option maxRecDepth 100000 in
theorem i_t321 : i_c321.all (i_enB i_MT i_m321) = true := by decide +kernel
set_option maxRecDepth 100000 in
theorem i_t322 : i_c322.all (i_enB i_MT i_m322) = true := by decide +kernel
set_option maxRecDepth 100000 in
theorem i_t323 : i_c323.all (i_enB i_MT i_m323) = true := by decide +kernel
set_option maxRecDepth 100000 in
theorem i_t324 : i_c324.all (i_enB i_MT i_m324) = true := by decide +kernel
set_option maxRecDepth 100000 in
theorem i_t325 : i_c325.all (i_enB i_MT i_m325) = true := by decide +kernel
set_option maxRecDepth 100000 in
theorem i_t326 : i_c326.all (i_enB i_MT i_m326) = true := by decide +kernel
set_option maxRecDepth 100000 in
theorem i_t327 : i_c327.all (i_enB i_MT i_m327) = true := by decide +kernel
set_option maxRecDepth 100000 in
theorem i_t328 : i_c328.all (i_enB i_MT i_m328) = true := by decide +kernel
set_option maxRecDepth 100000 in
theorem i_t329 : i_c329.all (i_enB i_MT i_m329) = true := by decide +kernel
set_option maxRecDepth 100000 in
theorem i_t330 : i_c330.all (i_enB i_MT i_m330) = true := by decide +kernel
set_option maxRecDepth 100000 in
theorem i_t331 : i_c331.all (i_enB i_MT i_m331) = true := by decide +kernel
set_option maxRecDepth 100000 in
theorem i_t332 : i_c332.all (i_enB i_MT i_m332) = true := by decide +kernel
set_option maxRecDepth 100000 in
theorem i_t333 : i_c333.all (i_enB i_MT i_m333) = true := by decide +kernel
set_option maxRecDepth 100000 in
theorem i_t334 : i_c334.all (i_enB i_MT i_m334) = true := by decide +kernel
set_option maxRecDepth 100000 in
theorem i_t335 : i_c335.all (i_enB i_MT i_m335) = true := by decide +kernel
set_option maxRecDepth 100000 in
theorem i_t336 : i_c336.all (i_enB i_MT i_m336) = true := by decide +kernel
set_option maxRecDepth 100000 in
theorem i_t337 : i_c337.all (i_enB i_MT i_m337) = true := by decide +kernel
set_option maxRecDepth 100000 in
theorem i_t338 : i_c338.all (i_enB i_MT i_m338) = true := by decide +kernel
set_option maxRecDepth 100000 in
theorem i_t339 : i_c339.all (i_enB i_MT i_m339) = true := by decide +kernel
set_option maxRecDepth 100000 in
theorem i_t340 : i_c340.all (i_enB i_MT i_m340) = true := by decide +kernel
set_option maxRecDepth 100000 in
theorem i_t341 : i_c341.all (i_enB i_MT i_m341) = true := by decide +kernel
set_option maxRecDepth 100000 in
theorem i_t342 : i_c342.all (i_enB i_MT i_m342) = true := by decide +kernel
set_option maxRecDepth 100000 in
theorem i_t343 : i_c343.all (i_enB i_MT i_m343) = true := by decide +kernel
set_option maxRecDepth 100000 in
theorem i_t344 : i_c344.all (i_enB i_MT i_m344) = true := by decide +kernel
set_option maxRecDepth 100000 in
theorem i_t345 : i_c345.all (i_enB i_MT i_m345) = true := by decide +kernel
set_option maxRecDepth 100000 in
theorem i_t346 : i_c346.all (i_enB i_MT i_m346) = true := by decide +kernel
set_option maxRecDepth 100000 in
theorem i_t347 : i_c347.all (i_enB i_MT i_m347) = true := by decide +kernel
set_option maxRecDepth 100000 in
theorem i_t348 : i_c348.all (i_enB i_MT i_m348) = true := by decide +kernel
set_option maxRecDepth 100000 in
theorem i_t349 : i_c349.all (i_enB i_MT i_m349) = true := by decide +kernel
set_option maxRecDepth 100000 in
theorem i_t350 : i_c350.all (i_enB i_MT i_m350) = true := by decide +kernel
