/-! THE TABLES' CHECK, part 1 -/
set_option maxRecDepth 100000 in
theorem i_t70 : i_c70.all (i_enB i_MT i_m70) = true := by decide +kernel
set_option maxRecDepth 100000 in
theorem i_t71 : i_c71.all (i_enB i_MT i_m71) = true := by decide +kernel
set_option maxRecDepth 100000 in
theorem i_t72 : i_c72.all (i_enB i_MT i_m72) = true := by decide +kernel
set_option maxRecDepth 100000 in
theorem i_t73 : i_c73.all (i_enB i_MT i_m73) = true := by decide +kernel
set_option maxRecDepth 100000 in
theorem i_t74 : i_c74.all (i_enB i_MT i_m74) = true := by decide +kernel
set_option maxRecDepth 100000 in
theorem i_t75 : i_c75.all (i_enB i_MT i_m75) = true := by decide +kernel
set_option maxRecDepth 100000 in
theorem i_t76 : i_c76.all (i_enB i_MT i_m76) = true := by decide +kernel
set_option maxRecDepth 100000 in
theorem i_t77 : i_c77.all (i_enB i_MT i_m77) = true := by decide +kernel
set_option maxRecDepth 100000 in
theorem i_t78 : i_c78.all (i_enB i_MT i_m78) = true := by decide +kernel
set_option maxRecDepth 100000 in
theorem i_t79 : i_c79.all (i_enB i_MT i_m79) = true := by decide +kernel
set_option maxRecDepth 100000 in
theorem i_t80 : i_c80.all (i_enB i_MT i_m80) = true := by decide +kernel
set_option maxRecDepth 100000 in
theorem i_t81 : i_c81.all (i_enB i_MT i_m81) = true := by decide +kernel
set_option maxRecDepth 100000 in
theorem i_t82 : i_c82.all (i_enB i_MT i_m82) = true := by decide +kernel
set_option maxRecDepth 100000 in
theorem i_t83 : i_c83.all (i_enB i_MT i_m83) = true := by decide +kernel
set_option maxRecDepth 100000 in
theorem i_t84 : i_c84.all (i_enB i_MT i_m84) = true := by decide +kernel
set_option maxRecDepth 100000 in
theorem i_t85 : i_c85.all (i_enB i_MT i_m85) = true := by decide +kernel
set_option maxRecDepth 100000 in
theorem i_t86 : i_c86.all (i_enB i_MT i_m86) = true := by decide +kernel
set_option maxRecDepth 100000 in
theorem i_t87 : i_c87.all (i_enB i_MT i_m87) = true := by decide +kernel
set_option maxRecDepth 100000 in
theorem i_t88 : i_c88.all (i_enB i_MT i_m88) = true := by decide +kernel
set_option maxRecDepth 100000 in
theorem i_t89 : i_c89.all (i_enB i_MT i_m89) = true := by decide +kernel
set_option maxRecDepth 100000 in
theorem i_t90 : i_c90.all (i_enB i_MT i_m90) = true := by decide +kernel
set_option maxRecDepth 100000 in
theorem i_t91 : i_c91.all (i_enB i_MT i_m91) = true := by decide +kernel
set_option maxRecDepth 100000 in
theorem i_t92 : i_c92.all (i_enB i_MT i_m92) = true := by decide +kernel
set_option maxRecDepth 100000 in
theorem i_t93 : i_c93.all (i_enB i_MT i_m93) = true := by decide +kernel
set_option maxRecDepth 100000 in
theorem i_t94 : i_c94.all (i_enB i_MT i_m94) = true := by decide +kernel
set_option maxRecDepth 100000 in
theorem i_t95 : i_c95.all (i_enB i_MT i_m95) = true := by decide +kernel
set_option maxRecDepth 100000 in
theorem i_t96 : i_c96.all (i_enB i_MT i_m96) = true := by decide +kernel
set_option maxRecDepth 100000 in
theorem i_t97 : i_c97.all (i_enB i_MT i_m97) = true := by decide +kernel
set_option maxRecDepth 100000 in
theorem i_t98 : i_c98.all (i_enB i_MT i_m98) = true := by decide +kernel
set_option maxRecDepth 100000 in
theorem i_t99 : i_c99.all (i_enB i_MT i_m99) = true := by decide +kernel
set_option maxRecDepth 100000 in
theorem i_t100 : i_c100.all (i_enB i_MT i_m100) = true := by decide +kernel
set_option maxRecDepth 100000 in
theorem i_t101 : i_c101.all (i_enB i_MT i_m101) = true := by decide +kernel
set_option maxRecDepth 100000 in
theorem i_t102 : i_c102.all (i_enB i_MT i_m102) = true := by decide +kernel
set_option maxRecDepth 100000 in
theorem i_t103 : i_c103.all (i_enB i_MT i_m103) = true := by decide +kernel
set_option maxRecDepth 100000 in
theorem i_t104 : i_c104.all (i_enB i_MT i_m104) = true := by decide +kernel
set_option maxRecDepth 100000 in
theorem i_t105 : i_c105.all (i_enB i_MT i_m105) = true := by decide +kernel
set_option maxRecDepth 100000 in
theorem i_t106 : i_c106.all (i_enB i_MT i_m106) = true := by decide +kernel
set_option maxRecDepth 100000 in
theorem i_t107 : i_c107.all (i_enB i_MT i_m107) = true := by decide +kernel
set_option maxRecDepth 100000 in
theorem i_t108 : i_c108.all (i_enB i_MT i_m108) = true := by decide +kernel
set_option maxRecDepth 100000 in
theorem i_t109 : i_c109.all (i_enB i_MT i_m109) = true := by decide +kernel
set_option maxRecDepth 100000 in
theorem i_t110 : i_c110.all (i_enB i_MT i_m110) = true := by decide +kernel
set_option maxRecDepth 100000 in
theorem i_t111 : i_c111.all (i_enB i_MT i_m111) = true := by decide +kernel
set_option maxRecDepth 100000 in
theorem i_t112 : i_c112.all (i_enB i_MT i_m112) = true := by decide +kernel
set_option maxRecDepth 100000 in
theorem i_t113 : i_c113.all (i_enB i_MT i_m113) = true := by decide +kernel
set_option maxRecDepth 100000 in
theorem i_t114 : i_c114.all (i_enB i_MT i_m114) = true := by decide +kernel
set_option maxRecDepth 100000 in
theorem i_t115 : i_c115.all (i_enB i_MT i_m115) = true := by decide +kernel
set_option maxRecDepth 100000 in
theorem i_t116 : i_c116.all (i_enB i_MT i_m116) = true := by decide +kernel
set_option maxRecDepth 100000 in
theorem i_t117 : i_c117.all (i_enB i_MT i_m117) = true := by decide +kernel
set_option maxRecDepth 100000 in
theorem i_t118 : i_c118.all (i_enB i_MT i_m118) = true := by decide +kernel
set_option maxRecDepth 100000 in
theorem i_t119 : i_c119.all (i_enB i_MT i_m119) = true := by decide +kernel
set_option maxRecDepth 100000 in
theorem i_t120 : i_c120.all (i_enB i_MT i_m120) = true := by decide +kernel
set_option maxRecDepth 100000 in
theorem i_t121 : i_c121.all (i_enB i_MT i_m121) = true := by decide +kernel
set_option maxRecDepth 100000 in
theorem i_t122 : i_c122.all (i_enB i_MT i_m122) = true := by decide +kernel
set_option maxRecDepth 100000 in
theorem i_t123 : i_c123.all (i_enB i_MT i_m123) = true := by decide +kernel
set_option maxRecDepth 100000 in
theorem i_t124 : i_c124.all (i_enB i_MT i_m124) = true := by decide +kernel
set_option maxRecDepth 100000 in
theorem i_t125 : i_c125.all (i_enB i_MT i_m125) = true := by decide +kernel
set_option maxRecDepth 100000 in
theorem i_t126 : i_c126.all (i_enB i_MT i_m126) = true := by decide +kernel
set_option maxRecDepth 100000 in
theorem i_t127 : i_c127.all (i_enB i_MT i_m127) = true := by decide +kernel
set_option maxRecDepth 100000 in
theorem i_t128 : i_c128.all (i_enB i_MT i_m128) = true := by decide +kernel
set_option maxRecDepth 100000 in
theorem i_t129 : i_c129.all (i_enB i_MT i_m129) = true := by decide +kernel
set_option maxRecDepth 100000 in
theorem i_t130 : i_c130.all (i_enB i_MT i_m130) = true := by decide +kernel
set_option maxRecDepth 100000 in
theorem i_t131 : i_c131.all (i_enB i_MT i_m131) = true := by decide +kernel
set_option maxRecDepth 100000 in
theorem i_t132 : i_c132.all (i_enB i_MT i_m132) = true := by decide +kernel
set_option maxRecDepth 100000 in
theorem i_t133 : i_c133.all (i_enB i_MT i_m133) = true := by decide +kernel
set_option maxRecDepth 100000 in
theorem i_t134 : i_c134.all (i_enB i_MT i_m134) = true := by decide +kernel
set_option maxRecDepth 100000 in
theorem i_t135 : i_c135.all (i_enB i_MT i_m135) = true := by decide +kernel
set_option maxRecDepth 100000 in
theorem i_t136 : i_c136.all (i_enB i_MT i_m136) = true := by decide +kernel
set_option maxRecDepth 100000 in
theorem i_t137 : i_c137.all (i_enB i_MT i_m137) = true := by decide +kernel
set_option maxRecDepth 100000 in
theorem i_t138 : i_c138.all (i_enB i_MT i_m138) = true := by decide +kernel
set_option maxRecDepth 100000 in
theorem i_t139 : i_c139.all (i_enB i_MT i_m139) = true := by decide +kernel
