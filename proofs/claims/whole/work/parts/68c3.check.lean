/-! THE METHODS' CHECK, part 3 -/
set_option maxRecDepth 100000 in
theorem i_o177 : i_MOK i_m177 := i_MB_ok (c1 := 1573) (c2 := 135) (c3 := 1571) (c4 := 1572) (by decide +kernel)
set_option maxRecDepth 100000 in
theorem i_o178 : i_MOK i_m178 := i_MB_ok (c1 := 1587) (c2 := 135) (c3 := 1585) (c4 := 1586) (by decide +kernel)
set_option maxRecDepth 100000 in
theorem i_o179 : i_MOK i_m179 := i_MB_ok (c1 := 822) (c2 := 135) (c3 := 821) (c4 := 2) (by decide +kernel)
set_option maxRecDepth 100000 in
theorem i_o180 : i_MOK i_m180 := i_MB_ok (c1 := 786) (c2 := 135) (c3 := 785) (c4 := 0) (by decide +kernel)
set_option maxRecDepth 100000 in
theorem i_o181 : i_MOK i_m181 := i_MB_ok (c1 := 1039) (c2 := 135) (c3 := 1038) (c4 := 19) (by decide +kernel)
set_option maxRecDepth 100000 in
theorem i_o182 : i_MOK i_m182 := i_MB_ok (c1 := 830) (c2 := 135) (c3 := 829) (c4 := 3) (by decide +kernel)
set_option maxRecDepth 100000 in
theorem i_o183 : i_MOK i_m183 := i_MB_ok (c1 := 1301) (c2 := 135) (c3 := 1300) (c4 := 37) (by decide +kernel)
set_option maxRecDepth 100000 in
theorem i_o184 : i_MOK i_m184 := i_MB_ok (c1 := 797) (c2 := 135) (c3 := 796) (c4 := 1) (by decide +kernel)
set_option maxRecDepth 100000 in
theorem i_o185 : i_MOK i_m185 := i_MB_ok (c1 := 1569) (c2 := 135) (c3 := 1568) (c4 := 56) (by decide +kernel)
set_option maxRecDepth 100000 in
theorem i_o186 : i_MOK i_m186 := i_MB_ok (c1 := 1144) (c2 := 135) (c3 := 1143) (c4 := 29) (by decide +kernel)
set_option maxRecDepth 100000 in
theorem i_o187 : i_MOK i_m187 := i_MB_ok (c1 := 1203) (c2 := 135) (c3 := 1202) (c4 := 30) (by decide +kernel)
set_option maxRecDepth 100000 in
theorem i_o188 : i_MOK i_m188 := i_MB_ok (c1 := 1116) (c2 := 135) (c3 := 1115) (c4 := 28) (by decide +kernel)
set_option maxRecDepth 100000 in
theorem i_o189 : i_MOK i_m189 := i_MB_ok (c1 := 1261) (c2 := 135) (c3 := 1260) (c4 := 31) (by decide +kernel)
set_option maxRecDepth 100000 in
theorem i_o190 : i_MOK i_m190 := i_MB_ok (c1 := 1128) (c2 := 135) (c3 := 1127) (c4 := 0) (by decide +kernel)
set_option maxRecDepth 100000 in
theorem i_o191 : i_MOK i_m191 := i_MB_ok (c1 := 1167) (c2 := 135) (c3 := 1166) (c4 := 0) (by decide +kernel)
set_option maxRecDepth 100000 in
theorem i_o192 : i_MOK i_m192 := i_MB_ok (c1 := 782) (c2 := 135) (c3 := 781) (c4 := 0) (by decide +kernel)
set_option maxRecDepth 100000 in
theorem i_o193 : i_MOK i_m193 := i_MB_ok (c1 := 917) (c2 := 135) (c3 := 916) (c4 := 0) (by decide +kernel)
set_option maxRecDepth 100000 in
theorem i_o194 : i_MOK i_m194 := i_MB_ok (c1 := 1231) (c2 := 135) (c3 := 1230) (c4 := 0) (by decide +kernel)
set_option maxRecDepth 100000 in
theorem i_o195 : i_MOK i_m195 := i_MB_ok (c1 := 1592) (c2 := 153) (c3 := 1591) (c4 := 0) (by decide +kernel)
set_option maxRecDepth 100000 in
theorem i_o196 : i_MOK i_m196 := i_MB_ok (c1 := 1597) (c2 := 153) (c3 := 1596) (c4 := 57) (by decide +kernel)
set_option maxRecDepth 100000 in
theorem i_o197 : i_MOK i_m197 := i_MB_ok (c1 := 1793) (c2 := 153) (c3 := 1791) (c4 := 1792) (by decide +kernel)
set_option maxRecDepth 100000 in
theorem i_o198 : i_MOK i_m198 := i_MB_ok (c1 := 1797) (c2 := 153) (c3 := 1795) (c4 := 1796) (by decide +kernel)
set_option maxRecDepth 100000 in
theorem i_o199 : i_MOK i_m199 := i_MB_ok (c1 := 1801) (c2 := 153) (c3 := 1799) (c4 := 1800) (by decide +kernel)
set_option maxRecDepth 100000 in
theorem i_o200 : i_MOK i_m200 := i_MB_ok (c1 := 1812) (c2 := 153) (c3 := 1811) (c4 := 62) (by decide +kernel)
set_option maxRecDepth 100000 in
theorem i_o201 : i_MOK i_m201 := i_MB_ok (c1 := 1872) (c2 := 153) (c3 := 1871) (c4 := 68) (by decide +kernel)
set_option maxRecDepth 100000 in
theorem i_o202 : i_MOK i_m202 := i_MB_ok (c1 := 1970) (c2 := 153) (c3 := 1969) (c4 := 91) (by decide +kernel)
set_option maxRecDepth 100000 in
theorem i_o203 : i_MOK i_m203 := i_MB_ok (c1 := 2076) (c2 := 153) (c3 := 2075) (c4 := 104) (by decide +kernel)
set_option maxRecDepth 100000 in
theorem i_o204 : i_MOK i_m204 := i_MB_ok (c1 := 2316) (c2 := 153) (c3 := 2315) (c4 := 132) (by decide +kernel)
set_option maxRecDepth 100000 in
theorem i_o205 : i_MOK i_m205 := i_MB_ok (c1 := 1808) (c2 := 153) (c3 := 1807) (c4 := 0) (by decide +kernel)
set_option maxRecDepth 100000 in
theorem i_o206 : i_MOK i_m206 := i_MB_ok (c1 := 1823) (c2 := 153) (c3 := 1822) (c4 := 0) (by decide +kernel)
set_option maxRecDepth 100000 in
theorem i_o207 : i_MOK i_m207 := i_MB_ok (c1 := 1805) (c2 := 153) (c3 := 1803) (c4 := 1804) (by decide +kernel)
set_option maxRecDepth 100000 in
theorem i_o208 : i_MOK i_m208 := i_MB_ok (c1 := 1820) (c2 := 153) (c3 := 1819) (c4 := 63) (by decide +kernel)
set_option maxRecDepth 100000 in
theorem i_o209 : i_MOK i_m209 := i_MB_ok (c1 := 1816) (c2 := 153) (c3 := 1814) (c4 := 1815) (by decide +kernel)
set_option maxRecDepth 100000 in
theorem i_o210 : i_MOK i_m210 := i_MB_ok (c1 := 1827) (c2 := 153) (c3 := 1825) (c4 := 1826) (by decide +kernel)
set_option maxRecDepth 100000 in
theorem i_o211 : i_MOK i_m211 := i_MB_ok (c1 := 1832) (c2 := 153) (c3 := 1830) (c4 := 1831) (by decide +kernel)
set_option maxRecDepth 100000 in
theorem i_o212 : i_MOK i_m212 := i_MB_ok (c1 := 2113) (c2 := 153) (c3 := 2112) (c4 := 0) (by decide +kernel)
set_option maxRecDepth 100000 in
theorem i_o213 : i_MOK i_m213 := i_MB_ok (c1 := 1836) (c2 := 153) (c3 := 1834) (c4 := 1835) (by decide +kernel)
set_option maxRecDepth 100000 in
theorem i_o214 : i_MOK i_m214 := i_MB_ok (c1 := 1840) (c2 := 153) (c3 := 1839) (c4 := 64) (by decide +kernel)
set_option maxRecDepth 100000 in
theorem i_o215 : i_MOK i_m215 := i_MB_ok (c1 := 1860) (c2 := 153) (c3 := 1859) (c4 := 67) (by decide +kernel)
set_option maxRecDepth 100000 in
theorem i_o216 : i_MOK i_m216 := i_MB_ok (c1 := 1863) (c2 := 153) (c3 := 1862) (c4 := 0) (by decide +kernel)
set_option maxRecDepth 100000 in
theorem i_o217 : i_MOK i_m217 := i_MB_ok (c1 := 1866) (c2 := 153) (c3 := 1865) (c4 := 0) (by decide +kernel)
set_option maxRecDepth 100000 in
theorem i_o218 : i_MOK i_m218 := i_MB_ok (c1 := 1856) (c2 := 153) (c3 := 1855) (c4 := 66) (by decide +kernel)
set_option maxRecDepth 100000 in
theorem i_o219 : i_MOK i_m219 := i_MB_ok (c1 := 1899) (c2 := 153) (c3 := 1898) (c4 := 74) (by decide +kernel)
set_option maxRecDepth 100000 in
theorem i_o220 : i_MOK i_m220 := i_MB_ok (c1 := 1881) (c2 := 153) (c3 := 1880) (c4 := 70) (by decide +kernel)
set_option maxRecDepth 100000 in
theorem i_o221 : i_MOK i_m221 := i_MB_ok (c1 := 1887) (c2 := 153) (c3 := 1886) (c4 := 71) (by decide +kernel)
set_option maxRecDepth 100000 in
theorem i_o222 : i_MOK i_m222 := i_MB_ok (c1 := 1852) (c2 := 153) (c3 := 1851) (c4 := 65) (by decide +kernel)
set_option maxRecDepth 100000 in
theorem i_o223 : i_MOK i_m223 := i_MB_ok (c1 := 1895) (c2 := 153) (c3 := 1894) (c4 := 73) (by decide +kernel)
set_option maxRecDepth 100000 in
theorem i_o224 : i_MOK i_m224 := i_MB_ok (c1 := 1877) (c2 := 153) (c3 := 1876) (c4 := 69) (by decide +kernel)
set_option maxRecDepth 100000 in
theorem i_o225 : i_MOK i_m225 := i_MB_ok (c1 := 1891) (c2 := 153) (c3 := 1890) (c4 := 72) (by decide +kernel)
set_option maxRecDepth 100000 in
theorem i_o226 : i_MOK i_m226 := i_MB_ok (c1 := 1938) (c2 := 153) (c3 := 1937) (c4 := 83) (by decide +kernel)
set_option maxRecDepth 100000 in
theorem i_o227 : i_MOK i_m227 := i_MB_ok (c1 := 1946) (c2 := 153) (c3 := 1945) (c4 := 85) (by decide +kernel)
set_option maxRecDepth 100000 in
theorem i_o228 : i_MOK i_m228 := i_MB_ok (c1 := 1942) (c2 := 153) (c3 := 1941) (c4 := 84) (by decide +kernel)
set_option maxRecDepth 100000 in
theorem i_o229 : i_MOK i_m229 := i_MB_ok (c1 := 1844) (c2 := 153) (c3 := 1842) (c4 := 1843) (by decide +kernel)
set_option maxRecDepth 100000 in
theorem i_o230 : i_MOK i_m230 := i_MB_ok (c1 := 1966) (c2 := 153) (c3 := 1965) (c4 := 90) (by decide +kernel)
set_option maxRecDepth 100000 in
theorem i_o231 : i_MOK i_m231 := i_MB_ok (c1 := 1911) (c2 := 153) (c3 := 1910) (c4 := 77) (by decide +kernel)
set_option maxRecDepth 100000 in
theorem i_o232 : i_MOK i_m232 := i_MB_ok (c1 := 1918) (c2 := 153) (c3 := 1917) (c4 := 78) (by decide +kernel)
set_option maxRecDepth 100000 in
theorem i_o233 : i_MOK i_m233 := i_MB_ok (c1 := 1907) (c2 := 153) (c3 := 1906) (c4 := 76) (by decide +kernel)
set_option maxRecDepth 100000 in
theorem i_o234 : i_MOK i_m234 := i_MB_ok (c1 := 1914) (c2 := 153) (c3 := 1913) (c4 := 0) (by decide +kernel)
set_option maxRecDepth 100000 in
theorem i_o235 : i_MOK i_m235 := i_MB_ok (c1 := 1922) (c2 := 153) (c3 := 1921) (c4 := 79) (by decide +kernel)
