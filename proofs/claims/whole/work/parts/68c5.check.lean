/-! THE METHODS' CHECK, part 5 -/
set_option maxRecDepth 100000 in
theorem i_o295 : i_MOK i_m295 := i_MB_ok (c1 := 2178) (c2 := 153) (c3 := 2177) (c4 := 118) (by decide +kernel)
set_option maxRecDepth 100000 in
theorem i_o296 : i_MOK i_m296 := i_MB_ok (c1 := 2182) (c2 := 153) (c3 := 2181) (c4 := 119) (by decide +kernel)
set_option maxRecDepth 100000 in
theorem i_o297 : i_MOK i_m297 := i_MB_ok (c1 := 2174) (c2 := 153) (c3 := 2173) (c4 := 117) (by decide +kernel)
set_option maxRecDepth 100000 in
theorem i_o298 : i_MOK i_m298 := i_MB_ok (c1 := 2170) (c2 := 153) (c3 := 2168) (c4 := 2169) (by decide +kernel)
set_option maxRecDepth 100000 in
theorem i_o299 : i_MOK i_m299 := i_MB_ok (c1 := 2186) (c2 := 153) (c3 := 2184) (c4 := 2185) (by decide +kernel)
set_option maxRecDepth 100000 in
theorem i_o300 : i_MOK i_m300 := i_MB_ok (c1 := 2194) (c2 := 153) (c3 := 2193) (c4 := 120) (by decide +kernel)
set_option maxRecDepth 100000 in
theorem i_o301 : i_MOK i_m301 := i_MB_ok (c1 := 2206) (c2 := 153) (c3 := 2205) (c4 := 123) (by decide +kernel)
set_option maxRecDepth 100000 in
theorem i_o302 : i_MOK i_m302 := i_MB_ok (c1 := 2202) (c2 := 153) (c3 := 2201) (c4 := 122) (by decide +kernel)
set_option maxRecDepth 100000 in
theorem i_o303 : i_MOK i_m303 := i_MB_ok (c1 := 2190) (c2 := 153) (c3 := 2188) (c4 := 2189) (by decide +kernel)
set_option maxRecDepth 100000 in
theorem i_o304 : i_MOK i_m304 := i_MB_ok (c1 := 2198) (c2 := 153) (c3 := 2197) (c4 := 121) (by decide +kernel)
set_option maxRecDepth 100000 in
theorem i_o305 : i_MOK i_m305 := i_MB_ok (c1 := 2214) (c2 := 153) (c3 := 2213) (c4 := 124) (by decide +kernel)
set_option maxRecDepth 100000 in
theorem i_o306 : i_MOK i_m306 := i_MB_ok (c1 := 2210) (c2 := 153) (c3 := 2208) (c4 := 2209) (by decide +kernel)
set_option maxRecDepth 100000 in
theorem i_o307 : i_MOK i_m307 := i_MB_ok (c1 := 2226) (c2 := 153) (c3 := 2225) (c4 := 0) (by decide +kernel)
set_option maxRecDepth 100000 in
theorem i_o308 : i_MOK i_m308 := i_MB_ok (c1 := 2223) (c2 := 153) (c3 := 2222) (c4 := 125) (by decide +kernel)
set_option maxRecDepth 100000 in
theorem i_o309 : i_MOK i_m309 := i_MB_ok (c1 := 2218) (c2 := 153) (c3 := 2216) (c4 := 2217) (by decide +kernel)
set_option maxRecDepth 100000 in
theorem i_o310 : i_MOK i_m310 := i_MB_ok (c1 := 2230) (c2 := 153) (c3 := 2228) (c4 := 2229) (by decide +kernel)
set_option maxRecDepth 100000 in
theorem i_o311 : i_MOK i_m311 := i_MB_ok (c1 := 2237) (c2 := 153) (c3 := 2235) (c4 := 2236) (by decide +kernel)
set_option maxRecDepth 100000 in
theorem i_o312 : i_MOK i_m312 := i_MB_ok (c1 := 2245) (c2 := 153) (c3 := 2244) (c4 := 126) (by decide +kernel)
set_option maxRecDepth 100000 in
theorem i_o313 : i_MOK i_m313 := i_MB_ok (c1 := 2241) (c2 := 153) (c3 := 2239) (c4 := 2240) (by decide +kernel)
set_option maxRecDepth 100000 in
theorem i_o314 : i_MOK i_m314 := i_MB_ok (c1 := 2249) (c2 := 153) (c3 := 2247) (c4 := 2248) (by decide +kernel)
set_option maxRecDepth 100000 in
theorem i_o315 : i_MOK i_m315 := i_MB_ok (c1 := 2253) (c2 := 153) (c3 := 2251) (c4 := 2252) (by decide +kernel)
set_option maxRecDepth 100000 in
theorem i_o316 : i_MOK i_m316 := i_MB_ok (c1 := 2262) (c2 := 153) (c3 := 2261) (c4 := 127) (by decide +kernel)
set_option maxRecDepth 100000 in
theorem i_o317 : i_MOK i_m317 := i_MB_ok (c1 := 2257) (c2 := 153) (c3 := 2255) (c4 := 2256) (by decide +kernel)
set_option maxRecDepth 100000 in
theorem i_o318 : i_MOK i_m318 := i_MB_ok (c1 := 2266) (c2 := 153) (c3 := 2264) (c4 := 2265) (by decide +kernel)
set_option maxRecDepth 100000 in
theorem i_o319 : i_MOK i_m319 := i_MB_ok (c1 := 2275) (c2 := 153) (c3 := 2274) (c4 := 128) (by decide +kernel)
set_option maxRecDepth 100000 in
theorem i_o320 : i_MOK i_m320 := i_MB_ok (c1 := 2278) (c2 := 153) (c3 := 2277) (c4 := 0) (by decide +kernel)
set_option maxRecDepth 100000 in
theorem i_o321 : i_MOK i_m321 := i_MB_ok (c1 := 2271) (c2 := 153) (c3 := 2269) (c4 := 2270) (by decide +kernel)
set_option maxRecDepth 100000 in
theorem i_o322 : i_MOK i_m322 := i_MB_ok (c1 := 2286) (c2 := 153) (c3 := 2285) (c4 := 129) (by decide +kernel)
set_option maxRecDepth 100000 in
theorem i_o323 : i_MOK i_m323 := i_MB_ok (c1 := 2282) (c2 := 153) (c3 := 2280) (c4 := 2281) (by decide +kernel)
set_option maxRecDepth 100000 in
theorem i_o324 : i_MOK i_m324 := i_MB_ok (c1 := 2298) (c2 := 153) (c3 := 2297) (c4 := 131) (by decide +kernel)
set_option maxRecDepth 100000 in
theorem i_o325 : i_MOK i_m325 := i_MB_ok (c1 := 2294) (c2 := 153) (c3 := 2293) (c4 := 130) (by decide +kernel)
set_option maxRecDepth 100000 in
theorem i_o326 : i_MOK i_m326 := i_MB_ok (c1 := 2290) (c2 := 153) (c3 := 2288) (c4 := 2289) (by decide +kernel)
set_option maxRecDepth 100000 in
theorem i_o327 : i_MOK i_m327 := i_MB_ok (c1 := 2303) (c2 := 153) (c3 := 2301) (c4 := 2302) (by decide +kernel)
set_option maxRecDepth 100000 in
theorem i_o328 : i_MOK i_m328 := i_MB_ok (c1 := 2307) (c2 := 153) (c3 := 2305) (c4 := 2306) (by decide +kernel)
set_option maxRecDepth 100000 in
theorem i_o329 : i_MOK i_m329 := i_MB_ok (c1 := 2311) (c2 := 153) (c3 := 2309) (c4 := 2310) (by decide +kernel)
set_option maxRecDepth 100000 in
theorem i_o330 : i_MOK i_m330 := i_MB_ok (c1 := 2324) (c2 := 153) (c3 := 2323) (c4 := 133) (by decide +kernel)
set_option maxRecDepth 100000 in
theorem i_o331 : i_MOK i_m331 := i_MB_ok (c1 := 2320) (c2 := 153) (c3 := 2318) (c4 := 2319) (by decide +kernel)
set_option maxRecDepth 100000 in
theorem i_o332 : i_MOK i_m332 := i_MB_ok (c1 := 2328) (c2 := 153) (c3 := 2326) (c4 := 2327) (by decide +kernel)
set_option maxRecDepth 100000 in
theorem i_o333 : i_MOK i_m333 := i_MB_ok (c1 := 1444) (c2 := 156) (c3 := 1443) (c4 := 0) (by decide +kernel)
set_option maxRecDepth 100000 in
theorem i_o334 : i_MOK i_m334 := i_MB_ok (c1 := 930) (c2 := 154) (c3 := 929) (c4 := 0) (by decide +kernel)
set_option maxRecDepth 100000 in
theorem i_o338 : i_MOK i_m338 := i_MB_ok (c1 := 201) (c2 := 139) (c3 := 199) (c4 := 200) (by decide +kernel)
set_option maxRecDepth 100000 in
theorem i_o339 : i_MOK i_m339 := i_MB_ok (c1 := 211) (c2 := 139) (c3 := 209) (c4 := 210) (by decide +kernel)
set_option maxRecDepth 100000 in
theorem i_o340 : i_MOK i_m340 := i_MB_ok (c1 := 205) (c2 := 139) (c3 := 203) (c4 := 204) (by decide +kernel)
set_option maxRecDepth 100000 in
theorem i_o341 : i_MOK i_m341 := i_MB_ok (c1 := 215) (c2 := 139) (c3 := 213) (c4 := 214) (by decide +kernel)
set_option maxRecDepth 100000 in
theorem i_o342 : i_MOK i_m342 := i_MB_ok (c1 := 221) (c2 := 139) (c3 := 220) (c4 := 0) (by decide +kernel)
set_option maxRecDepth 100000 in
theorem i_o343 : i_MOK i_m343 := i_MB_ok (c1 := 218) (c2 := 140) (c3 := 217) (c4 := 0) (by decide +kernel)
set_option maxRecDepth 100000 in
theorem i_o344 : i_MOK i_m344 := i_MB_ok (c1 := 239) (c2 := 142) (c3 := 238) (c4 := 0) (by decide +kernel)
set_option maxRecDepth 100000 in
theorem i_o345 : i_MOK i_m345 := i_MB_ok (c1 := 235) (c2 := 142) (c3 := 234) (c4 := 0) (by decide +kernel)
set_option maxRecDepth 100000 in
theorem i_o346 : i_MOK i_m346 := i_MB_ok (c1 := 229) (c2 := 142) (c3 := 228) (c4 := 0) (by decide +kernel)
set_option maxRecDepth 100000 in
theorem i_o347 : i_MOK i_m347 := i_MB_ok (c1 := 232) (c2 := 142) (c3 := 231) (c4 := 0) (by decide +kernel)
set_option maxRecDepth 100000 in
theorem i_o348 : i_MOK i_m348 := i_MB_ok (c1 := 793) (c2 := 138) (c3 := 792) (c4 := 0) (by decide +kernel)
set_option maxRecDepth 100000 in
theorem i_o349 : i_MOK i_m349 := i_MB_ok (c1 := 196) (c2 := 138) (c3 := 195) (c4 := 0) (by decide +kernel)
set_option maxRecDepth 100000 in
theorem i_o350 : i_MOK i_m350 := i_MB_ok (c1 := 226) (c2 := 141) (c3 := 225) (c4 := 0) (by decide +kernel)
