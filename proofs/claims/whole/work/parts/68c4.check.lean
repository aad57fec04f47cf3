/-! THE METHODS' CHECK, part 4 -/
set_option maxRecDepth 100000 in
theorem i_o236 : i_MOK i_m236 := i_MB_ok (c1 := 1926) (c2 := 153) (c3 := 1925) (c4 := 80) (by decide +kernel)
set_option maxRecDepth 100000 in
theorem i_o237 : i_MOK i_m237 := i_MB_ok (c1 := 1930) (c2 := 153) (c3 := 1929) (c4 := 81) (by decide +kernel)
set_option maxRecDepth 100000 in
theorem i_o238 : i_MOK i_m238 := i_MB_ok (c1 := 1934) (c2 := 153) (c3 := 1933) (c4 := 82) (by decide +kernel)
set_option maxRecDepth 100000 in
theorem i_o239 : i_MOK i_m239 := i_MB_ok (c1 := 1954) (c2 := 153) (c3 := 1953) (c4 := 87) (by decide +kernel)
set_option maxRecDepth 100000 in
theorem i_o240 : i_MOK i_m240 := i_MB_ok (c1 := 1950) (c2 := 153) (c3 := 1949) (c4 := 86) (by decide +kernel)
set_option maxRecDepth 100000 in
theorem i_o241 : i_MOK i_m241 := i_MB_ok (c1 := 1958) (c2 := 153) (c3 := 1957) (c4 := 88) (by decide +kernel)
set_option maxRecDepth 100000 in
theorem i_o242 : i_MOK i_m242 := i_MB_ok (c1 := 1903) (c2 := 153) (c3 := 1902) (c4 := 75) (by decide +kernel)
set_option maxRecDepth 100000 in
theorem i_o243 : i_MOK i_m243 := i_MB_ok (c1 := 1848) (c2 := 153) (c3 := 1846) (c4 := 1847) (by decide +kernel)
set_option maxRecDepth 100000 in
theorem i_o244 : i_MOK i_m244 := i_MB_ok (c1 := 1982) (c2 := 153) (c3 := 1981) (c4 := 93) (by decide +kernel)
set_option maxRecDepth 100000 in
theorem i_o245 : i_MOK i_m245 := i_MB_ok (c1 := 1986) (c2 := 153) (c3 := 1985) (c4 := 94) (by decide +kernel)
set_option maxRecDepth 100000 in
theorem i_o246 : i_MOK i_m246 := i_MB_ok (c1 := 1978) (c2 := 153) (c3 := 1977) (c4 := 92) (by decide +kernel)
set_option maxRecDepth 100000 in
theorem i_o247 : i_MOK i_m247 := i_MB_ok (c1 := 1974) (c2 := 153) (c3 := 1972) (c4 := 1973) (by decide +kernel)
set_option maxRecDepth 100000 in
theorem i_o248 : i_MOK i_m248 := i_MB_ok (c1 := 1962) (c2 := 153) (c3 := 1961) (c4 := 89) (by decide +kernel)
set_option maxRecDepth 100000 in
theorem i_o249 : i_MOK i_m249 := i_MB_ok (c1 := 1998) (c2 := 153) (c3 := 1997) (c4 := 95) (by decide +kernel)
set_option maxRecDepth 100000 in
theorem i_o250 : i_MOK i_m250 := i_MB_ok (c1 := 1613) (c2 := 153) (c3 := 1612) (c4 := 61) (by decide +kernel)
set_option maxRecDepth 100000 in
theorem i_o251 : i_MOK i_m251 := i_MB_ok (c1 := 1609) (c2 := 153) (c3 := 1608) (c4 := 60) (by decide +kernel)
set_option maxRecDepth 100000 in
theorem i_o252 : i_MOK i_m252 := i_MB_ok (c1 := 1601) (c2 := 153) (c3 := 1600) (c4 := 58) (by decide +kernel)
set_option maxRecDepth 100000 in
theorem i_o253 : i_MOK i_m253 := i_MB_ok (c1 := 1605) (c2 := 153) (c3 := 1604) (c4 := 59) (by decide +kernel)
set_option maxRecDepth 100000 in
theorem i_o254 : i_MOK i_m254 := i_MB_ok (c1 := 2026) (c2 := 153) (c3 := 2025) (c4 := 97) (by decide +kernel)
set_option maxRecDepth 100000 in
theorem i_o255 : i_MOK i_m255 := i_MB_ok (c1 := 2014) (c2 := 153) (c3 := 2013) (c4 := 0) (by decide +kernel)
set_option maxRecDepth 100000 in
theorem i_o256 : i_MOK i_m256 := i_MB_ok (c1 := 2030) (c2 := 153) (c3 := 2029) (c4 := 98) (by decide +kernel)
set_option maxRecDepth 100000 in
theorem i_o257 : i_MOK i_m257 := i_MB_ok (c1 := 1990) (c2 := 153) (c3 := 1988) (c4 := 1989) (by decide +kernel)
set_option maxRecDepth 100000 in
theorem i_o258 : i_MOK i_m258 := i_MB_ok (c1 := 1994) (c2 := 153) (c3 := 1992) (c4 := 1993) (by decide +kernel)
set_option maxRecDepth 100000 in
theorem i_o259 : i_MOK i_m259 := i_MB_ok (c1 := 2006) (c2 := 153) (c3 := 2005) (c4 := 96) (by decide +kernel)
set_option maxRecDepth 100000 in
theorem i_o260 : i_MOK i_m260 := i_MB_ok (c1 := 2002) (c2 := 153) (c3 := 2000) (c4 := 2001) (by decide +kernel)
set_option maxRecDepth 100000 in
theorem i_o261 : i_MOK i_m261 := i_MB_ok (c1 := 2011) (c2 := 153) (c3 := 2009) (c4 := 2010) (by decide +kernel)
set_option maxRecDepth 100000 in
theorem i_o262 : i_MOK i_m262 := i_MB_ok (c1 := 2018) (c2 := 153) (c3 := 2016) (c4 := 2017) (by decide +kernel)
set_option maxRecDepth 100000 in
theorem i_o263 : i_MOK i_m263 := i_MB_ok (c1 := 2022) (c2 := 153) (c3 := 2020) (c4 := 2021) (by decide +kernel)
set_option maxRecDepth 100000 in
theorem i_o264 : i_MOK i_m264 := i_MB_ok (c1 := 2034) (c2 := 153) (c3 := 2032) (c4 := 2033) (by decide +kernel)
set_option maxRecDepth 100000 in
theorem i_o265 : i_MOK i_m265 := i_MB_ok (c1 := 2038) (c2 := 153) (c3 := 2036) (c4 := 2037) (by decide +kernel)
set_option maxRecDepth 100000 in
theorem i_o266 : i_MOK i_m266 := i_MB_ok (c1 := 2042) (c2 := 153) (c3 := 2040) (c4 := 2041) (by decide +kernel)
set_option maxRecDepth 100000 in
theorem i_o267 : i_MOK i_m267 := i_MB_ok (c1 := 2072) (c2 := 153) (c3 := 2071) (c4 := 0) (by decide +kernel)
set_option maxRecDepth 100000 in
theorem i_o268 : i_MOK i_m268 := i_MB_ok (c1 := 2065) (c2 := 153) (c3 := 2064) (c4 := 102) (by decide +kernel)
set_option maxRecDepth 100000 in
theorem i_o269 : i_MOK i_m269 := i_MB_ok (c1 := 2069) (c2 := 153) (c3 := 2068) (c4 := 103) (by decide +kernel)
set_option maxRecDepth 100000 in
theorem i_o270 : i_MOK i_m270 := i_MB_ok (c1 := 2061) (c2 := 153) (c3 := 2060) (c4 := 101) (by decide +kernel)
set_option maxRecDepth 100000 in
theorem i_o271 : i_MOK i_m271 := i_MB_ok (c1 := 2054) (c2 := 153) (c3 := 2053) (c4 := 100) (by decide +kernel)
set_option maxRecDepth 100000 in
theorem i_o272 : i_MOK i_m272 := i_MB_ok (c1 := 2050) (c2 := 153) (c3 := 2049) (c4 := 99) (by decide +kernel)
set_option maxRecDepth 100000 in
theorem i_o273 : i_MOK i_m273 := i_MB_ok (c1 := 2046) (c2 := 153) (c3 := 2044) (c4 := 2045) (by decide +kernel)
set_option maxRecDepth 100000 in
theorem i_o274 : i_MOK i_m274 := i_MB_ok (c1 := 2096) (c2 := 153) (c3 := 2095) (c4 := 108) (by decide +kernel)
set_option maxRecDepth 100000 in
theorem i_o275 : i_MOK i_m275 := i_MB_ok (c1 := 2092) (c2 := 153) (c3 := 2091) (c4 := 107) (by decide +kernel)
set_option maxRecDepth 100000 in
theorem i_o276 : i_MOK i_m276 := i_MB_ok (c1 := 2088) (c2 := 153) (c3 := 2087) (c4 := 106) (by decide +kernel)
set_option maxRecDepth 100000 in
theorem i_o277 : i_MOK i_m277 := i_MB_ok (c1 := 2084) (c2 := 153) (c3 := 2083) (c4 := 105) (by decide +kernel)
set_option maxRecDepth 100000 in
theorem i_o278 : i_MOK i_m278 := i_MB_ok (c1 := 2080) (c2 := 153) (c3 := 2078) (c4 := 2079) (by decide +kernel)
set_option maxRecDepth 100000 in
theorem i_o279 : i_MOK i_m279 := i_MB_ok (c1 := 2100) (c2 := 153) (c3 := 2098) (c4 := 2099) (by decide +kernel)
set_option maxRecDepth 100000 in
theorem i_o280 : i_MOK i_m280 := i_MB_ok (c1 := 2105) (c2 := 153) (c3 := 2103) (c4 := 2104) (by decide +kernel)
set_option maxRecDepth 100000 in
theorem i_o281 : i_MOK i_m281 := i_MB_ok (c1 := 2109) (c2 := 153) (c3 := 2107) (c4 := 2108) (by decide +kernel)
set_option maxRecDepth 100000 in
theorem i_o282 : i_MOK i_m282 := i_MB_ok (c1 := 2121) (c2 := 153) (c3 := 2120) (c4 := 109) (by decide +kernel)
set_option maxRecDepth 100000 in
theorem i_o283 : i_MOK i_m283 := i_MB_ok (c1 := 2117) (c2 := 153) (c3 := 2115) (c4 := 2116) (by decide +kernel)
set_option maxRecDepth 100000 in
theorem i_o284 : i_MOK i_m284 := i_MB_ok (c1 := 2137) (c2 := 153) (c3 := 2136) (c4 := 112) (by decide +kernel)
set_option maxRecDepth 100000 in
theorem i_o285 : i_MOK i_m285 := i_MB_ok (c1 := 2129) (c2 := 153) (c3 := 2128) (c4 := 110) (by decide +kernel)
set_option maxRecDepth 100000 in
theorem i_o286 : i_MOK i_m286 := i_MB_ok (c1 := 2133) (c2 := 153) (c3 := 2132) (c4 := 111) (by decide +kernel)
set_option maxRecDepth 100000 in
theorem i_o287 : i_MOK i_m287 := i_MB_ok (c1 := 2125) (c2 := 153) (c3 := 2123) (c4 := 2124) (by decide +kernel)
set_option maxRecDepth 100000 in
theorem i_o288 : i_MOK i_m288 := i_MB_ok (c1 := 2141) (c2 := 153) (c3 := 2139) (c4 := 2140) (by decide +kernel)
set_option maxRecDepth 100000 in
theorem i_o289 : i_MOK i_m289 := i_MB_ok (c1 := 2150) (c2 := 153) (c3 := 2149) (c4 := 113) (by decide +kernel)
set_option maxRecDepth 100000 in
theorem i_o290 : i_MOK i_m290 := i_MB_ok (c1 := 2145) (c2 := 153) (c3 := 2143) (c4 := 2144) (by decide +kernel)
set_option maxRecDepth 100000 in
theorem i_o291 : i_MOK i_m291 := i_MB_ok (c1 := 2166) (c2 := 153) (c3 := 2165) (c4 := 116) (by decide +kernel)
set_option maxRecDepth 100000 in
theorem i_o292 : i_MOK i_m292 := i_MB_ok (c1 := 2162) (c2 := 153) (c3 := 2161) (c4 := 115) (by decide +kernel)
set_option maxRecDepth 100000 in
theorem i_o293 : i_MOK i_m293 := i_MB_ok (c1 := 2158) (c2 := 153) (c3 := 2157) (c4 := 114) (by decide +kernel)
set_option maxRecDepth 100000 in
theorem i_o294 : i_MOK i_m294 := i_MB_ok (c1 := 2154) (c2 := 153) (c3 := 2152) (c4 := 2153) (by decide +kernel)
