/-! THE TABLES' CHECK, part 3 -/
set_option maxRecDepth 100000 in
theorem i_t210 : i_c210.all (i_enB i_MT i_m210) = true := by decide +kernel
set_option maxRecDepth 100000 in
theorem i_t211 : i_c211.all (i_enB i_MT i_m211) = true := by decide +kernel
set_option maxRecDepth 100000 in
theorem i_t212 : i_c212.all (i_enB i_MT i_m212) = true := by decide +kernel
set_option maxRecDepth 100000 in
theorem i_t213 : i_c213.all (i_enB i_MT i_m213) = true := by decide +kernel
set_option maxRecDepth 100000 in
theorem i_t214 : i_c214.all (i_enB i_MT i_m214) = true := by decide +kernel
set_option maxRecDepth 100000 in
theorem i_t215 : i_c215.all (i_enB i_MT i_m215) = true := by decide +kernel
set_option maxRecDepth 100000 in
theorem i_t216 : i_c216.all (i_enB i_MT i_m216) = true := by decide +kernel
set_option maxRecDepth 100000 in
theorem i_t217 : i_c217.all (i_enB i_MT i_m217) = true := by decide +kernel
set_option maxRecDepth 100000 in
theorem i_t218 : i_c218.all (i_enB i_MT i_m218) = true := by decide +kernel
set_option maxRecDepth 100000 in
theorem i_t219 : i_c219.all (i_enB i_MT i_m219) = true := by decide +kernel
set_option maxRecDepth 100000 in
theorem i_t220 : i_c220.all (i_enB i_MT i_m220) = true := by decide +kernel
set_option maxRecDepth 100000 in
theorem i_t221 : i_c221.all (i_enB i_MT i_m221) = true := by decide +kernel
set_option maxRecDepth 100000 in
theorem i_t222 : i_c222.all (i_enB i_MT i_m222) = true := by decide +kernel
set_option maxRecDepth 100000 in
theorem i_t223 : i_c223.all (i_enB i_MT i_m223) = true := by decide +kernel
set_option maxRecDepth 100000 in
theorem i_t224 : i_c224.all (i_enB i_MT i_m224) = true := by decide +kernel
set_option maxRecDepth 100000 in
theorem i_t225 : i_c225.all (i_enB i_MT i_m225) = true := by decide +kernel
set_option maxRecDepth 100000 in
theorem i_t226 : i_c226.all (i_enB i_MT i_m226) = true := by decide +kernel
set_option maxRecDepth 100000 in
theorem i_t227 : i_c227.all (i_enB i_MT i_m227) = true := by decide +kernel
set_option maxRecDepth 100000 in
theorem i_t228 : i_c228.all (i_enB i_MT i_m228) = true := by decide +kernel
set_option maxRecDepth 100000 in
theorem i_t229 : i_c229.all (i_enB i_MT i_m229) = true := by decide +kernel
set_option maxRecDepth 100000 in
theorem i_t230 : i_c230.all (i_enB i_MT i_m230) = true := by decide +kernel
set_option maxRecDepth 100000 in
theorem i_t231 : i_c231.all (i_enB i_MT i_m231) = true := by decide +kernel
set_option maxRecDepth 100000 in
theorem i_t232 : i_c232.all (i_enB i_MT i_m232) = true := by decide +kernel
set_option maxRecDepth 100000 in
theorem i_t233 : i_c233.all (i_enB i_MT i_m233) = true := by decide +kernel
set_option maxRecDepth 100000 in
theorem i_t234 : i_c234.all (i_enB i_MT i_m234) = true := by decide +kernel
set_option maxRecDepth 100000 in
theorem i_t235 : i_c235.all (i_enB i_MT i_m235) = true := by decide +kernel
set_option maxRecDepth 100000 in
theorem i_t236 : i_c236.all (i_enB i_MT i_m236) = true := by decide +kernel
set_option maxRecDepth 100000 in
theorem i_t237 : i_c237.all (i_enB i_MT i_m237) = true := by decide +kernel
set_option maxRecDepth 100000 in
theorem i_t238 : i_c238.all (i_enB i_MT i_m238) = true := by decide +kernel
set_option maxRecDepth 100000 in
theorem i_t239 : i_c239.all (i_enB i_MT i_m239) = true := by decide +kernel
set_option maxRecDepth 100000 in
theorem i_t240 : i_c240.all (i_enB i_MT i_m240) = true := by decide +kernel
set_option maxRecDepth 100000 in
theorem i_t241 : i_c241.all (i_enB i_MT i_m241) = true := by decide +kernel
set_option maxRecDepth 100000 in
theorem i_t242 : i_c242.all (i_enB i_MT i_m242) = true := by decide +kernel
set_option maxRecDepth 100000 in
theorem i_t243 : i_c243.all (i_enB i_MT i_m243) = true := by decide +kernel
set_option maxRecDepth 100000 in
theorem i_t244 : i_c244.all (i_enB i_MT i_m244) = true := by decide +kernel
set_option maxRecDepth 100000 in
theorem i_t245 : i_c245.all (i_enB i_MT i_m245) = true := by decide +kernel
set_option maxRecDepth 100000 in
theorem i_t246 : i_c246.all (i_enB i_MT i_m246) = true := by decide +kernel
set_option maxRecDepth 100000 in
theorem i_t247 : i_c247.all (i_enB i_MT i_m247) = true := by decide +kernel
set_option maxRecDepth 100000 in
theorem i_t248 : i_c248.all (i_enB i_MT i_m248) = true := by decide +kernel
set_option maxRecDepth 100000 in
theorem i_t249 : i_c249.all (i_enB i_MT i_m249) = true := by decide +kernel
set_option maxRecDepth 100000 in
theorem i_t250 : i_c250.all (i_enB i_MT i_m250) = true := by decide +kernel
set_option maxRecDepth 100000 in
theorem i_t251 : i_c251.all (i_enB i_MT i_m251) = true := by decide +kernel
set_option maxRecDepth 100000 in
theorem i_t252 : i_c252.all (i_enB i_MT i_m252) = true := by decide +kernel
set_option maxRecDepth 100000 in
theorem i_t253 : i_c253.all (i_enB i_MT i_m253) = true := by decide +kernel
set_option maxRecDepth 100000 in
theorem i_t254 : i_c254.all (i_enB i_MT i_m254) = true := by decide +kernel
set_option maxRecDepth 100000 in
theorem i_t255 : i_c255.all (i_enB i_MT i_m255) = true := by decide +kernel
set_option maxRecDepth 100000 in
theorem i_t256 : i_c256.all (i_enB i_MT i_m256) = true := by decide +kernel
set_option maxRecDepth 100000 in
theorem i_t257 : i_c257.all (i_enB i_MT i_m257) = true := by decide +kernel
set_option maxRecDepth 100000 in
theorem i_t258 : i_c258.all (i_enB i_MT i_m258) = true := by decide +kernel
set_option maxRecDepth 100000 in
theorem i_t259 : i_c259.all (i_enB i_MT i_m259) = true := by decide +kernel
set_option maxRecDepth 100000 in
theorem i_t260 : i_c260.all (i_enB i_MT i_m260) = true := by decide +kernel
set_option maxRecDepth 100000 in
theorem i_t261 : i_c261.all (i_enB i_MT i_m261) = true := by decide +kernel
set_option maxRecDepth 100000 in
theorem i_t262 : i_c262.all (i_enB i_MT i_m262) = true := by decide +kernel
set_option maxRecDepth 100000 in
theorem i_t263 : i_c263.all (i_enB i_MT i_m263) = true := by decide +kernel
set_option maxRecDepth 100000 in
theorem i_t264 : i_c264.all (i_enB i_MT i_m264) = true := by decide +kernel
set_option maxRecDepth 100000 in
theorem i_t265 : i_c265.all (i_enB i_MT i_m265) = true := by decide +kernel
set_option maxRecDepth 100000 in
theorem i_t266 : i_c266.all (i_enB i_MT i_m266) = true := by decide +kernel
set_option maxRecDepth 100000 in
theorem i_t267 : i_c267.all (i_enB i_MT i_m267) = true := by decide +kernel
set_option maxRecDepth 100000 in
theorem i_t268 : i_c268.all (i_enB i_MT i_m268) = true := by decide +kernel
set_option maxRecDepth 100000 in
theorem i_t269 : i_c269.all (i_enB i_MT i_m269) = true := by decide +kernel
set_option maxRecDepth 100000 in
theorem i_t270 : i_c270.all (i_enB i_MT i_m270) = true := by decide +kernel
set_option maxRecDepth 100000 in
theorem i_t271 : i_c271.all (i_enB i_MT i_m271) = true := by decide +kernel
set_option maxRecDepth 100000 in
theorem i_t272 : i_c272.all (i_enB i_MT i_m272) = true := by decide +kernel
set_option maxRecDepth 100000 in
theorem i_t273 : i_c273.all (i_enB i_MT i_m273) = true := by decide +kernel
set_option maxRecDepth 100000 in
theorem i_t274 : i_c274.all (i_enB i_MT i_m274) = true := by decide +kernel
set_option maxRecDepth 100000 in
theorem i_t275 : i_c275.all (i_enB i_MT i_m275) = true := by decide +kernel
set_option maxRecDepth 100000 in
theorem i_t276 : i_c276.all (i_enB i_MT i_m276) = true := by decide +kernel
set_option maxRecDepth 100000 in
theorem i_t277 : i_c277.all (i_enB i_MT i_m277) = true := by decide +kernel
set_option maxRecDepth 100000 in
theorem i_t278 : i_c278.all (i_enB i_MT i_m278) = true := by decide +kernel
set_option maxRecDepth 100000 in
theorem i_t279 : i_c279.all (i_enB i_MT i_m279) = true := by decide +kernel
