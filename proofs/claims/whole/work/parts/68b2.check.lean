/-! THE TABLES' CHECK, part 2 -/
set_option maxRecDepth 100000 in
theorem i_t140 : i_c140.all (i_enB i_MT i_m140) = true := by decide +kernel
set_option maxRecDepth 100000 in
theorem i_t141 : i_c141.all (i_enB i_MT i_m141) = true := by decide +kernel
set_option maxRecDepth 100000 in
theorem i_t142 : i_c142.all (i_enB i_MT i_m142) = true := by decide +kernel
set_option maxRecDepth 100000 in
theorem i_t143 : i_c143.all (i_enB i_MT i_m143) = true := by decide +kernel
set_option maxRecDepth 100000 in
theorem i_t144 : i_c144.all (i_enB i_MT i_m144) = true := by decide +kernel
set_option maxRecDepth 100000 in
theorem i_t145 : i_c145.all (i_enB i_MT i_m145) = true := by decide +kernel
set_option maxRecDepth 100000 in
theorem i_t146 : i_c146.all (i_enB i_MT i_m146) = true := by decide +kernel
set_option maxRecDepth 100000 in
theorem i_t147 : i_c147.all (i_enB i_MT i_m147) = true := by decide +kernel
set_option maxRecDepth 100000 in
theorem i_t148 : i_c148.all (i_enB i_MT i_m148) = true := by decide +kernel
set_option maxRecDepth 100000 in
theorem i_t149 : i_c149.all (i_enB i_MT i_m149) = true := by decide +kernel
set_option maxRecDepth 100000 in
theorem i_t150 : i_c150.all (i_enB i_MT i_m150) = true := by decide +kernel
set_option maxRecDepth 100000 in
theorem i_t151 : i_c151.all (i_enB i_MT i_m151) = true := by decide +kernel
set_option maxRecDepth 100000 in
theorem i_t152 : i_c152.all (i_enB i_MT i_m152) = true := by decide +kernel
set_option maxRecDepth 100000 in
theorem i_t153 : i_c153.all (i_enB i_MT i_m153) = true := by decide +kernel
set_option maxRecDepth 100000 in
theorem i_t154 : i_c154.all (i_enB i_MT i_m154) = true := by decide +kernel
set_option maxRecDepth 100000 in
theorem i_t155 : i_c155.all (i_enB i_MT i_m155) = true := by decide +kernel
set_option maxRecDepth 100000 in
theorem i_t156 : i_c156.all (i_enB i_MT i_m156) = true := by decide +kernel
set_option maxRecDepth 100000 in
theorem i_t157 : i_c157.all (i_enB i_MT i_m157) = true := by decide +kernel
set_option maxRecDepth 100000 in
theorem i_t158 : i_c158.all (i_enB i_MT i_m158) = true := by decide +kernel
set_option maxRecDepth 100000 in
theorem i_t159 : i_c159.all (i_enB i_MT i_m159) = true := by decide +kernel
set_option maxRecDepth 100000 in
theorem i_t160 : i_c160.all (i_enB i_MT i_m160) = true := by decide +kernel
set_option maxRecDepth 100000 in
theorem i_t161 : i_c161.all (i_enB i_MT i_m161) = true := by decide +kernel
set_option maxRecDepth 100000 in
theorem i_t162 : i_c162.all (i_enB i_MT i_m162) = true := by decide +kernel
set_option maxRecDepth 100000 in
theorem i_t163 : i_c163.all (i_enB i_MT i_m163) = true := by decide +kernel
set_option maxRecDepth 100000 in
theorem i_t164 : i_c164.all (i_enB i_MT i_m164) = true := by decide +kernel
set_option maxRecDepth 100000 in
theorem i_t165 : i_c165.all (i_enB i_MT i_m165) = true := by decide +kernel
set_option maxRecDepth 100000 in
theorem i_t166 : i_c166.all (i_enB i_MT i_m166) = true := by decide +kernel
set_option maxRecDepth 100000 in
theorem i_t167 : i_c167.all (i_enB i_MT i_m167) = true := by decide +kernel
set_option maxRecDepth 100000 in
theorem i_t168 : i_c168.all (i_enB i_MT i_m168) = true := by decide +kernel
set_option maxRecDepth 100000 in
theorem i_t169 : i_c169.all (i_enB i_MT i_m169) = true := by decide +kernel
set_option maxRecDepth 100000 in
theorem i_t170 : i_c170.all (i_enB i_MT i_m170) = true := by decide +kernel
set_option maxRecDepth 100000 in
theorem i_t171 : i_c171.all (i_enB i_MT i_m171) = true := by decide +kernel
set_option maxRecDepth 100000 in
theorem i_t172 : i_c172.all (i_enB i_MT i_m172) = true := by decide +kernel
set_option maxRecDepth 100000 in
theorem i_t173 : i_c173.all (i_enB i_MT i_m173) = true := by decide +kernel
set_option maxRecDepth 100000 in
theorem i_t174 : i_c174.all (i_enB i_MT i_m174) = true := by decide +kernel
set_option maxRecDepth 100000 in
theorem i_t175 : i_c175.all (i_enB i_MT i_m175) = true := by decide +kernel
set_option maxRecDepth 100000 in
theorem i_t176 : i_c176.all (i_enB i_MT i_m176) = true := by decide +kernel
set_option maxRecDepth 100000 in
theorem i_t177 : i_c177.all (i_enB i_MT i_m177) = true := by decide +kernel
set_option maxRecDepth 100000 in
theorem i_t178 : i_c178.all (i_enB i_MT i_m178) = true := by decide +kernel
set_option maxRecDepth 100000 in
theorem i_t179 : i_c179.all (i_enB i_MT i_m179) = true := by decide +kernel
set_option maxRecDepth 100000 in
theorem i_t180 : i_c180.all (i_enB i_MT i_m180) = true := by decide +kernel
set_option maxRecDepth 100000 in
theorem i_t181 : i_c181.all (i_enB i_MT i_m181) = true := by decide +kernel
set_option maxRecDepth 100000 in
theorem i_t182 : i_c182.all (i_enB i_MT i_m182) = true := by decide +kernel
set_option maxRecDepth 100000 in
theorem i_t183 : i_c183.all (i_enB i_MT i_m183) = true := by decide +kernel
set_option maxRecDepth 100000 in
theorem i_t184 : i_c184.all (i_enB i_MT i_m184) = true := by decide +kernel
set_option maxRecDepth 100000 in
theorem i_t185 : i_c185.all (i_enB i_MT i_m185) = true := by decide +kernel
set_option maxRecDepth 100000 in
theorem i_t186 : i_c186.all (i_enB i_MT i_m186) = true := by decide +kernel
set_option maxRecDepth 100000 in
theorem i_t187 : i_c187.all (i_enB i_MT i_m187) = true := by decide +kernel
set_option maxRecDepth 100000 in
theorem i_t188 : i_c188.all (i_enB i_MT i_m188) = true := by decide +kernel
set_option maxRecDepth 100000 in
theorem i_t189 : i_c189.all (i_enB i_MT i_m189) = true := by decide +kernel
set_option maxRecDepth 100000 in
theorem i_t190 : i_c190.all (i_enB i_MT i_m190) = true := by decide +kernel
set_option maxRecDepth 100000 in
theorem i_t191 : i_c191.all (i_enB i_MT i_m191) = true := by decide +kernel
set_option maxRecDepth 100000 in
theorem i_t192 : i_c192.all (i_enB i_MT i_m192) = true := by decide +kernel
set_option maxRecDepth 100000 in
theorem i_t193 : i_c193.all (i_enB i_MT i_m193) = true := by decide +kernel
set_option maxRecDepth 100000 in
theorem i_t194 : i_c194.all (i_enB i_MT i_m194) = true := by decide +kernel
set_option maxRecDepth 100000 in
theorem i_t195 : i_c195.all (i_enB i_MT i_m195) = true := by decide +kernel
set_option maxRecDepth 100000 in
theorem i_t196 : i_c196.all (i_enB i_MT i_m196) = true := by decide +kernel
set_option maxRecDepth 100000 in
theorem i_t197 : i_c197.all (i_enB i_MT i_m197) = true := by decide +kernel
set_option maxRecDepth 100000 in
theorem i_t198 : i_c198.all (i_enB i_MT i_m198) = true := by decide +kernel
set_option maxRecDepth 100000 in
theorem i_t199 : i_c199.all (i_enB i_MT i_m199) = true := by decide +kernel
set_option maxRecDepth 100000 in
theorem i_t200 : i_c200.all (i_enB i_MT i_m200) = true := by decide +kernel
set_option maxRecDepth 100000 in
theorem i_t201 : i_c201.all (i_enB i_MT i_m201) = true := by decide +kernel
set_option maxRecDepth 100000 in
theorem i_t202 : i_c202.all (i_enB i_MT i_m202) = true := by decide +kernel
set_option maxRecDepth 100000 in
theorem i_t203 : i_c203.all (i_enB i_MT i_m203) = true := by decide +kernel
set_option maxRecDepth 100000 in
theorem i_t204 : i_c204.all (i_enB i_MT i_m204) = true := by decide +kernel
set_option maxRecDepth 100000 in
theorem i_t205 : i_c205.all (i_enB i_MT i_m205) = true := by decide +kernel
set_option maxRecDepth 100000 in
theorem i_t206 : i_c206.all (i_enB i_MT i_m206) = true := by decide +kernel
set_option maxRecDepth 100000 in
theorem i_t207 : i_c207.all (i_enB i_MT i_m207) = true := by decide +kernel
set_option maxRecDepth 100000 in
theorem i_t208 : i_c208.all (i_enB i_MT i_m208) = true := by decide +kernel
set_option maxRecDepth 100000 in
theorem i_t209 : i_c209.all (i_enB i_MT i_m209) = true := by decide +kernel
