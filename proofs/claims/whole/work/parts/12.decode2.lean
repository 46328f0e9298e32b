set_option maxRecDepth 100000 in
theorem pf_d129 : pf_dok sm_m129.2.1 sm_t129 := by unfold pf_dok; decide +kernel
set_option maxRecDepth 100000 in
theorem pf_d130 : pf_dok sm_m130.2.1 sm_t130 := by unfold pf_dok; decide +kernel
set_option maxRecDepth 100000 in
theorem pf_d131 : pf_dok sm_m131.2.1 sm_t131 := by unfold pf_dok; decide +kernel
set_option maxRecDepth 100000 in
theorem pf_d132 : pf_dok sm_m132.2.1 sm_t132 := by unfold pf_dok; decide +kernel
set_option maxRecDepth 100000 in
theorem pf_d133 : pf_dok sm_m133.2.1 sm_t133 := by unfold pf_dok; decide +kernel
set_option maxRecDepth 100000 in
theorem pf_d134 : pf_dok sm_m134.2.1 sm_t134 := by unfold pf_dok; decide +kernel
set_option maxRecDepth 100000 in
theorem pf_d135 : pf_dok sm_m135.2.1 sm_t135 := by unfold pf_dok; decide +kernel
set_option maxRecDepth 100000 in
theorem pf_d136 : pf_dok sm_m136.2.1 sm_t136 := by unfold pf_dok; decide +kernel
set_option maxRecDepth 100000 in
theorem pf_d137 : pf_dok sm_m137.2.1 sm_t137 := by unfold pf_dok; decide +kernel
set_option maxRecDepth 100000 in
theorem pf_d138 : pf_dok sm_m138.2.1 sm_t138 := by unfold pf_dok; decide +kernel
set_option maxRecDepth 100000 in
theorem pf_d139 : pf_dok sm_m139.2.1 sm_t139 := by unfold pf_dok; decide +kernel
set_option maxRecDepth 100000 in
theorem pf_d140 : pf_dok sm_m140.2.1 sm_t140 := by unfold pf_dok; decide +kernel
set_option maxRecDepth 100000 in
theorem pf_d141 : pf_dok sm_m141.2.1 sm_t141 := by unfold pf_dok; decide +kernel
set_option maxRecDepth 100000 in
theorem pf_d142 : pf_dok sm_m142.2.1 sm_t142 := by unfold pf_dok; decide +kernel
set_option maxRecDepth 100000 in
theorem pf_d143 : pf_dok sm_m143.2.1 sm_t143 := by unfold pf_dok; decide +kernel
set_option maxRecDepth 100000 in
theorem pf_d144 : pf_dok sm_m144.2.1 sm_t144 := by unfold pf_dok; decide +kernel
set_option maxRecDepth 100000 in
theorem pf_d145 : pf_dok sm_m145.2.1 sm_t145 := by unfold pf_dok; decide +kernel
set_option maxRecDepth 100000 in
theorem pf_d146 : pf_dok sm_m146.2.1 sm_t146 := by unfold pf_dok; decide +kernel
set_option maxRecDepth 100000 in
theorem pf_d147 : pf_dok sm_m147.2.1 sm_t147 := by unfold pf_dok; decide +kernel
set_option maxRecDepth 100000 in
theorem pf_d148 : pf_dok sm_m148.2.1 sm_t148 := by unfold pf_dok; decide +kernel
set_option maxRecDepth 100000 in
theorem pf_d149 : pf_dok sm_m149.2.1 sm_t149 := by unfold pf_dok; decide +kernel
set_option maxRecDepth 100000 in
theorem pf_d150 : pf_dok sm_m150.2.1 sm_t150 := by unfold pf_dok; decide +kernel
set_option maxRecDepth 100000 in
theorem pf_d151 : pf_dok sm_m151.2.1 sm_t151 := by unfold pf_dok; decide +kernel
set_option maxRecDepth 100000 in
theorem pf_d152 : pf_dok sm_m152.2.1 sm_t152 := by unfold pf_dok; decide +kernel
set_option maxRecDepth 100000 in
theorem pf_d153 : pf_dok sm_m153.2.1 sm_t153 := by unfold pf_dok; decide +kernel
set_option maxRecDepth 100000 in
theorem pf_d154 : pf_dok sm_m154.2.1 sm_t154 := by unfold pf_dok; decide +kernel
set_option maxRecDepth 100000 in
theorem pf_d155 : pf_dok sm_m155.2.1 sm_t155 := by unfold pf_dok; decide +kernel
set_option maxRecDepth 100000 in
theorem pf_d156 : pf_dok sm_m156.2.1 sm_t156 := by unfold pf_dok; decide +kernel
set_option maxRecDepth 100000 in
theorem pf_d157 : pf_dok sm_m157.2.1 sm_t157 := by unfold pf_dok; decide +kernel
set_option maxRecDepth 100000 in
theorem pf_d158 : pf_dok sm_m158.2.1 sm_t158 := by unfold pf_dok; decide +kernel
set_option maxRecDepth 100000 in
theorem pf_d159 : pf_dok sm_m159.2.1 sm_t159 := by unfold pf_dok; decide +kernel
set_option maxRecDepth 100000 in
theorem pf_d160 : pf_dok sm_m160.2.1 sm_t160 := by unfold pf_dok; decide +kernel
set_option maxRecDepth 100000 in
theorem pf_d161 : pf_dok sm_m161.2.1 sm_t161 := by unfold pf_dok; decide +kernel
set_option maxRecDepth 100000 in
theorem pf_d162 : pf_dok sm_m162.2.1 sm_t162 := by unfold pf_dok; decide +kernel
set_option maxRecDepth 100000 in
theorem pf_d163 : pf_dok sm_m163.2.1 sm_t163 := by unfold pf_dok; decide +kernel
set_option maxRecDepth 100000 in
theorem pf_d164 : pf_dok sm_m164.2.1 sm_t164 := by unfold pf_dok; decide +kernel
set_option maxRecDepth 100000 in
theorem pf_d165 : pf_dok sm_m165.2.1 sm_t165 := by unfold pf_dok; decide +kernel
set_option maxRecDepth 100000 in
theorem pf_d166 : pf_dok sm_m166.2.1 sm_t166 := by unfold pf_dok; decide +kernel
set_option maxRecDepth 100000 in
theorem pf_d167 : pf_dok sm_m167.2.1 sm_t167 := by unfold pf_dok; decide +kernel
set_option maxRecDepth 100000 in
theorem pf_d168 : pf_dok sm_m168.2.1 sm_t168 := by unfold pf_dok; decide +kernel
set_option maxRecDepth 100000 in
theorem pf_d169 : pf_dok sm_m169.2.1 sm_t169 := by unfold pf_dok; decide +kernel
set_option maxRecDepth 100000 in
theorem pf_d170 : pf_dok sm_m170.2.1 sm_t170 := by unfold pf_dok; decide +kernel
set_option maxRecDepth 100000 in
theorem pf_d171 : pf_dok sm_m171.2.1 sm_t171 := by unfold pf_dok; decide +kernel
set_option maxRecDepth 100000 in
theorem pf_d172 : pf_dok sm_m172.2.1 sm_t172 := by unfold pf_dok; decide +kernel
set_option maxRecDepth 100000 in
theorem pf_d173 : pf_dok sm_m173.2.1 sm_t173 := by unfold pf_dok; decide +kernel
set_option maxRecDepth 100000 in
theorem pf_d174 : pf_dok sm_m174.2.1 sm_t174 := by unfold pf_dok; decide +kernel
set_option maxRecDepth 100000 in
theorem pf_d175 : pf_dok sm_m175.2.1 sm_t175 := by unfold pf_dok; decide +kernel
set_option maxRecDepth 100000 in
theorem pf_d176 : pf_dok sm_m176.2.1 sm_t176 := by unfold pf_dok; decide +kernel
set_option maxRecDepth 100000 in
theorem pf_d177 : pf_dok sm_m177.2.1 sm_t177 := by unfold pf_dok; decide +kernel
set_option maxRecDepth 100000 in
theorem pf_d178 : pf_dok sm_m178.2.1 sm_t178 := by unfold pf_dok; decide +kernel
set_option maxRecDepth 100000 in
theorem pf_d179 : pf_dok sm_m179.2.1 sm_t179 := by unfold pf_dok; decide +kernel
set_option maxRecDepth 100000 in
theorem pf_d180 : pf_dok sm_m180.2.1 sm_t180 := by unfold pf_dok; decide +kernel
set_option maxRecDepth 100000 in
theorem pf_d181 : pf_dok sm_m181.2.1 sm_t181 := by unfold pf_dok; decide +kernel
set_option maxRecDepth 100000 in
theorem pf_d182 : pf_dok sm_m182.2.1 sm_t182 := by unfold pf_dok; decide +kernel
set_option maxRecDepth 100000 in
theorem pf_d183 : pf_dok sm_m183.2.1 sm_t183 := by unfold pf_dok; decide +kernel
set_option maxRecDepth 100000 in
theorem pf_d184 : pf_dok sm_m184.2.1 sm_t184 := by unfold pf_dok; decide +kernel
set_option maxRecDepth 100000 in
theorem pf_d185 : pf_dok sm_m185.2.1 sm_t185 := by unfold pf_dok; decide +kernel
set_option maxRecDepth 100000 in
theorem pf_d186 : pf_dok sm_m186.2.1 sm_t186 := by unfold pf_dok; decide +kernel
set_option maxRecDepth 100000 in
theorem pf_d187 : pf_dok sm_m187.2.1 sm_t187 := by unfold pf_dok; decide +kernel
set_option maxRecDepth 100000 in
theorem pf_d188 : pf_dok sm_m188.2.1 sm_t188 := by unfold pf_dok; decide +kernel
set_option maxRecDepth 100000 in
theorem pf_d189 : pf_dok sm_m189.2.1 sm_t189 := by unfold pf_dok; decide +kernel
set_option maxRecDepth 100000 in
theorem pf_d190 : pf_dok sm_m190.2.1 sm_t190 := by unfold pf_dok; decide +kernel
set_option maxRecDepth 100000 in
theorem pf_d191 : pf_dok sm_m191.2.1 sm_t191 := by unfold pf_dok; decide +kernel
set_option maxRecDepth 100000 in
theorem pf_d192 : pf_dok sm_m192.2.1 sm_t192 := by unfold pf_dok; decide +kernel
