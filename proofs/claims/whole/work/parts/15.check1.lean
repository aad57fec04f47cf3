/-! THE TABLES' CHECK, part 1 -/
set_option maxRecDepth 100000 in
theorem i_t88 : i_c88.all (i_enB i_MT i_m88) = true := by decide +kernel
set_option maxRecDepth 100000 in
theorem i_t89 : i_c89.all (i_enB i_MT i_m89) = true := by decide +kernel
set_option maxRecDepth 100000 in
theorem i_t90 : i_c90.all (i_enB i_MT i_m90) = true := by decide +kernel
set_option maxRecDepth 100000 in
theorem i_t91 : i_c91.all (i_enB i_MT i_m91) = true := by decide +kernel
set_option maxRecDepth 100000 in
theorem i_t92 : i_c92.all (i_enB i_MT i_m92) = true := by decide +kernel
set_option maxRecDepth 100000 in
theorem i_t93 : i_c93.all (i_enB i_MT i_m93) = true := by decide +kernel
set_option maxRecDepth 100000 in
theorem i_t94 : i_c94.all (i_enB i_MT i_m94) = true := by decide +kernel
set_option maxRecDepth 100000 in
theorem i_t95 : i_c95.all (i_enB i_MT i_m95) = true := by decide +kernel
set_option maxRecDepth 100000 in
theorem i_t96 : i_c96.all (i_enB i_MT i_m96) = true := by decide +kernel
set_option maxRecDepth 100000 in
theorem i_t97 : i_c97.all (i_enB i_MT i_m97) = true := by decide +kernel
set_option maxRecDepth 100000 in
theorem i_t98 : i_c98.all (i_enB i_MT i_m98) = true := by decide +kernel
set_option maxRecDepth 100000 in
theorem i_t99 : i_c99.all (i_enB i_MT i_m99) = true := by decide +kernel
set_option maxRecDepth 100000 in
theorem i_t100 : i_c100.all (i_enB i_MT i_m100) = true := by decide +kernel
set_option maxRecDepth 100000 in
theorem i_t101 : i_c101.all (i_enB i_MT i_m101) = true := by decide +kernel
set_option maxRecDepth 100000 in
theorem i_t102 : i_c102.all (i_enB i_MT i_m102) = true := by decide +kernel
set_option maxRecDepth 100000 in
theorem i_t103 : i_c103.all (i_enB i_MT i_m103) = true := by decide +kernel
set_option maxRecDepth 100000 in
theorem i_t104 : i_c104.all (i_enB i_MT i_m104) = true := by decide +kernel
set_option maxRecDepth 100000 in
theorem i_t105 : i_c105.all (i_enB i_MT i_m105) = true := by decide +kernel
set_option maxRecDepth 100000 in
theorem i_t106 : i_c106.all (i_enB i_MT i_m106) = true := by decide +kernel
set_option maxRecDepth 100000 in
theorem i_t107 : i_c107.all (i_enB i_MT i_m107) = true := by decide +kernel
set_option maxRecDepth 100000 in
theorem i_t108 : i_c108.all (i_enB i_MT i_m108) = true := by decide +kernel
set_option maxRecDepth 100000 in
theorem i_t109 : i_c109.all (i_enB i_MT i_m109) = true := by decide +kernel
set_option maxRecDepth 100000 in
theorem i_t110 : i_c110.all (i_enB i_MT i_m110) = true := by decide +kernel
set_option maxRecDepth 100000 in
theorem i_t111 : i_c111.all (i_enB i_MT i_m111) = true := by decide +kernel
set_option maxRecDepth 100000 in
theorem i_t112 : i_c112.all (i_enB i_MT i_m112) = true := by decide +kernel
set_option maxRecDepth 100000 in
theorem i_t113 : i_c113.all (i_enB i_MT i_m113) = true := by decide +kernel
set_option maxRecDepth 100000 in
theorem i_t114 : i_c114.all (i_enB i_MT i_m114) = true := by decide +kernel
set_option maxRecDepth 100000 in
theorem i_t115 : i_c115.all (i_enB i_MT i_m115) = true := by decide +kernel
set_option maxRecDepth 100000 in
theorem i_t116 : i_c116.all (i_enB i_MT i_m116) = true := by decide +kernel
set_option maxRecDepth 100000 in
theorem i_t117 : i_c117.all (i_enB i_MT i_m117) = true := by decide +kernel
set_option maxRecDepth 100000 in
theorem i_t118 : i_c118.all (i_enB i_MT i_m118) = true := by decide +kernel
set_option maxRecDepth 100000 in
theorem i_t119 : i_c119.all (i_enB i_MT i_m119) = true := by decide +kernel
set_option maxRecDepth 100000 in
theorem i_t120 : i_c120.all (i_enB i_MT i_m120) = true := by decide +kernel
set_option maxRecDepth 100000 in
theorem i_t121 : i_c121.all (i_enB i_MT i_m121) = true := by decide +kernel
set_option maxRecDepth 100000 in
theorem i_t122 : i_c122.all (i_enB i_MT i_m122) = true := by decide +kernel
set_option maxRecDepth 100000 in
theorem i_t123 : i_c123.all (i_enB i_MT i_m123) = true := by decide +kernel
set_option maxRecDepth 100000 in
theorem i_t124 : i_c124.all (i_enB i_MT i_m124) = true := by decide +kernel
set_option maxRecDepth 100000 in
theorem i_t125 : i_c125.all (i_enB i_MT i_m125) = true := by decide +kernel
set_option maxRecDepth 100000 in
theorem i_t126 : i_c126.all (i_enB i_MT i_m126) = true := by decide +kernel
set_option maxRecDepth 100000 in
theorem i_t127 : i_c127.all (i_enB i_MT i_m127) = true := by decide +kernel
set_option maxRecDepth 100000 in
theorem i_t128 : i_c128.all (i_enB i_MT i_m128) = true := by decide +kernel
set_option maxRecDepth 100000 in
theorem i_t129 : i_c129.all (i_enB i_MT i_m129) = true := by decide +kernel
set_option maxRecDepth 100000 in
theorem i_t130 : i_c130.all (i_enB i_MT i_m130) = true := by decide +kernel
set_option maxRecDepth 100000 in
theorem i_t131 : i_c131.all (i_enB i_MT i_m131) = true := by decide +kernel
set_option maxRecDepth 100000 in
theorem i_t132 : i_c132.all (i_enB i_MT i_m132) = true := by decide +kernel
set_option maxRecDepth 100000 in
theorem i_t133 : i_c133.all (i_enB i_MT i_m133) = true := by decide +kernel
set_option maxRecDepth 100000 in
theorem i_t134 : i_c134.all (i_enB i_MT i_m134) = true := by decide +kernel
set_option maxRecDepth 100000 in
theorem i_t135 : i_c135.all (i_enB i_MT i_m135) = true := by decide +kernel
set_option maxRecDepth 100000 in
theorem i_t136 : i_c136.all (i_enB i_MT i_m136) = true := by decide +kernel
set_option maxRecDepth 100000 in
theorem i_t137 : i_c137.all (i_enB i_MT i_m137) = true := by decide +kernel
set_option maxRecDepth 100000 in
theorem i_t138 : i_c138.all (i_enB i_MT i_m138) = true := by decide +kernel
set_option maxRecDepth 100000 in
theorem i_t139 : i_c139.all (i_enB i_MT i_m139) = true := by decide +kernel
set_option maxRecDepth 100000 in
theorem i_t140 : i_c140.all (i_enB i_MT i_m140) = true := by decide +kernel
set_option maxRecDepth 100000 in
theorem i_t141 : i_c141.all (i_enB i_MT i_m141) = true := by decide +kernel
set_option maxRecDepth 100000 in
theorem i_t142 : i_c142.all (i_enB i_MT i_m142) = true := by decide +kernel
set_option maxRecDepth 100000 in
theorem i_t143 : i_c143.all (i_enB i_MT i_m143) = true := by decide +kernel
set_option maxRecDepth 100000 in
theorem i_t144 : i_c144.all (i_enB i_MT i_m144) = true := by decide +kernel
set_option maxRecDepth 100000 in
theorem i_t145 : i_c145.all (i_enB i_MT i_m145) = true := by decide +kernel
set_option maxRecDepth 100000 in
theorem i_t146 : i_c146.all (i_enB i_MT i_m146) = true := by decide +kernel
set_option maxRecDepth 100000 in
theorem i_t147 : i_c147.all (i_enB i_MT i_m147) = true := by decide +kernel
set_option maxRecDepth 100000 in
theorem i_t148 : i_c148.all (i_enB i_MT i_m148) = true := by decide +kernel
set_option maxRecDepth 100000 in
theorem i_t149 : i_c149.all (i_enB i_MT i_m149) = true := by decide +kernel
set_option maxRecDepth 100000 in
theorem i_t150 : i_c150.all (i_enB i_MT i_m150) = true := by decide +kernel
set_option maxRecDepth 100000 in
theorem i_t151 : i_c151.all (i_enB i_MT i_m151) = true := by decide +kernel
set_option maxRecDepth 100000 in
theorem i_t152 : i_c152.all (i_enB i_MT i_m152) = true := by decide +kernel
set_option maxRecDepth 100000 in
theorem i_t153 : i_c153.all (i_enB i_MT i_m153) = true := by decide +kernel
set_option maxRecDepth 100000 in
theorem i_t154 : i_c154.all (i_enB i_MT i_m154) = true := by decide +kernel
set_option maxRecDepth 100000 in
theorem i_t155 : i_c155.all (i_enB i_MT i_m155) = true := by decide +kernel
set_option maxRecDepth 100000 in
theorem i_t156 : i_c156.all (i_enB i_MT i_m156) = true := by decide +kernel
set_option maxRecDepth 100000 in
theorem i_t157 : i_c157.all (i_enB i_MT i_m157) = true := by decide +kernel
set_option maxRecDepth 100000 in
theorem i_t158 : i_c158.all (i_enB i_MT i_m158) = true := by decide +kernel
set_option maxRecDepth 100000 in
theorem i_t159 : i_c159.all (i_enB i_MT i_m159) = true := by decide +kernel
set_option maxRecDepth 100000 in
theorem i_t160 : i_c160.all (i_enB i_MT i_m160) = true := by decide +kernel
set_option maxRecDepth 100000 in
theorem i_t161 : i_c161.all (i_enB i_MT i_m161) = true := by decide +kernel
set_option maxRecDepth 100000 in
theorem i_t162 : i_c162.all (i_enB i_MT i_m162) = true := by decide +kernel
set_option maxRecDepth 100000 in
theorem i_t163 : i_c163.all (i_enB i_MT i_m163) = true := by decide +kernel
set_option maxRecDepth 100000 in
theorem i_t164 : i_c164.all (i_enB i_MT i_m164) = true := by decide +kernel
set_option maxRecDepth 100000 in
theorem i_t165 : i_c165.all (i_enB i_MT i_m165) = true := by decide +kernel
set_option maxRecDepth 100000 in
theorem i_t166 : i_c166.all (i_enB i_MT i_m166) = true := by decide +kernel
set_option maxRecDepth 100000 in
theorem i_t167 : i_c167.all (i_enB i_MT i_m167) = true := by decide +kernel
set_option maxRecDepth 100000 in
theorem i_t168 : i_c168.all (i_enB i_MT i_m168) = true := by decide +kernel
set_option maxRecDepth 100000 in
theorem i_t169 : i_c169.all (i_enB i_MT i_m169) = true := by decide +kernel
set_option maxRecDepth 100000 in
theorem i_t170 : i_c170.all (i_enB i_MT i_m170) = true := by decide +kernel
set_option maxRecDepth 100000 in
theorem i_t171 : i_c171.all (i_enB i_MT i_m171) = true := by decide +kernel
set_option maxRecDepth 100000 in
theorem i_t172 : i_c172.all (i_enB i_MT i_m172) = true := by decide +kernel
set_option maxRecDepth 100000 in
theorem i_t173 : i_c173.all (i_enB i_MT i_m173) = true := by decide +kernel
set_option maxRecDepth 100000 in
theorem i_t174 : i_c174.all (i_enB i_MT i_m174) = true := by decide +kernel
set_option maxRecDepth 100000 in
theorem i_t175 : i_c175.all (i_enB i_MT i_m175) = true := by decide +kernel
