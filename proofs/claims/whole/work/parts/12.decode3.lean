set_option maxRecDepth 100000 in
theorem pf_d193 : pf_dok sm_m193.2.1 sm_t193 := by unfold pf_dok; decide +kernel
set_option maxRecDepth 100000 in
theorem pf_d194 : pf_dok sm_m194.2.1 sm_t194 := by unfold pf_dok; decide +kernel
set_option maxRecDepth 100000 in
theorem pf_d195 : pf_dok sm_m195.2.1 sm_t195 := by unfold pf_dok; decide +kernel
set_option maxRecDepth 100000 in
theorem pf_d196 : pf_dok sm_m196.2.1 sm_t196 := by unfold pf_dok; decide +kernel
set_option maxRecDepth 100000 in
theorem pf_d197 : pf_dok sm_m197.2.1 sm_t197 := by unfold pf_dok; decide +kernel
set_option maxRecDepth 100000 in
theorem pf_d198 : pf_dok sm_m198.2.1 sm_t198 := by unfold pf_dok; decide +kernel
set_option maxRecDepth 100000 in
theorem pf_d199 : pf_dok sm_m199.2.1 sm_t199 := by unfold pf_dok; decide +kernel
set_option maxRecDepth 100000 in
theorem pf_d200 : pf_dok sm_m200.2.1 sm_t200 := by unfold pf_dok; decide +kernel
set_option maxRecDepth 100000 in
theorem pf_d201 : pf_dok sm_m201.2.1 sm_t201 := by unfold pf_dok; decide +kernel
set_option maxRecDepth 100000 in
theorem pf_d202 : pf_dok sm_m202.2.1 sm_t202 := by unfold pf_dok; decide +kernel
set_option maxRecDepth 100000 in
theorem pf_d203 : pf_dok sm_m203.2.1 sm_t203 := by unfold pf_dok; decide +kernel
set_option maxRecDepth 100000 in
theorem pf_d204 : pf_dok sm_m204.2.1 sm_t204 := by unfold pf_dok; decide +kernel
set_option maxRecDepth 100000 in
theorem pf_d205 : pf_dok sm_m205.2.1 sm_t205 := by unfold pf_dok; decide +kernel
set_option maxRecDepth 100000 in
theorem pf_d206 : pf_dok sm_m206.2.1 sm_t206 := by unfold pf_dok; decide +kernel
set_option maxRecDepth 100000 in
theorem pf_d207 : pf_dok sm_m207.2.1 sm_t207 := by unfold pf_dok; decide +kernel
set_option maxRecDepth 100000 in
theorem pf_d208 : pf_dok sm_m208.2.1 sm_t208 := by unfold pf_dok; decide +kernel
set_option maxRecDepth 100000 in
theorem pf_d209 : pf_dok sm_m209.2.1 sm_t209 := by unfold pf_dok; decide +kernel
set_option maxRecDepth 100000 in
theorem pf_d210 : pf_dok sm_m210.2.1 sm_t210 := by unfold pf_dok; decide +kernel
set_option maxRecDepth 100000 in
theorem pf_d211 : pf_dok sm_m211.2.1 sm_t211 := by unfold pf_dok; decide +kernel
set_option maxRecDepth 100000 in
theorem pf_d212 : pf_dok sm_m212.2.1 sm_t212 := by unfold pf_dok; decide +kernel
set_option maxRecDepth 100000 in
theorem pf_d213 : pf_dok sm_m213.2.1 sm_t213 := by unfold pf_dok; decide +kernel
set_option maxRecDepth 100000 in
theorem pf_d214 : pf_dok sm_m214.2.1 sm_t214 := by unfold pf_dok; decide +kernel
set_option maxRecDepth 100000 in
theorem pf_d215 : pf_dok sm_m215.2.1 sm_t215 := by unfold pf_dok; decide +kernel
set_option maxRecDepth 100000 in
theorem pf_d216 : pf_dok sm_m216.2.1 sm_t216 := by unfold pf_dok; decide +kernel
set_option maxRecDepth 100000 in
theorem pf_d217 : pf_dok sm_m217.2.1 sm_t217 := by unfold pf_dok; decide +kernel
set_option maxRecDepth 100000 in
theorem pf_d218 : pf_dok sm_m218.2.1 sm_t218 := by unfold pf_dok; decide +kernel
set_option maxRecDepth 100000 in
theorem pf_d219 : pf_dok sm_m219.2.1 sm_t219 := by unfold pf_dok; decide +kernel
set_option maxRecDepth 100000 in
theorem pf_d220 : pf_dok sm_m220.2.1 sm_t220 := by unfold pf_dok; decide +kernel
set_option maxRecDepth 100000 in
theorem pf_d221 : pf_dok sm_m221.2.1 sm_t221 := by unfold pf_dok; decide +kernel
set_option maxRecDepth 100000 in
theorem pf_d222 : pf_dok sm_m222.2.1 sm_t222 := by unfold pf_dok; decide +kernel
set_option maxRecDepth 100000 in
theorem pf_d223 : pf_dok sm_m223.2.1 sm_t223 := by unfold pf_dok; decide +kernel
set_option maxRecDepth 100000 in
theorem pf_d224 : pf_dok sm_m224.2.1 sm_t224 := by unfold pf_dok; decide +kernel
set_option maxRecDepth 100000 in
theorem pf_d225 : pf_dok sm_m225.2.1 sm_t225 := by unfold pf_dok; decide +kernel
set_option maxRecDepth 100000 in
theorem pf_d226 : pf_dok sm_m226.2.1 sm_t226 := by unfold pf_dok; decide +kernel
set_option maxRecDepth 100000 in
theorem pf_d227 : pf_dok sm_m227.2.1 sm_t227 := by unfold pf_dok; decide +kernel
set_option maxRecDepth 100000 in
theorem pf_d228 : pf_dok sm_m228.2.1 sm_t228 := by unfold pf_dok; decide +kernel
set_option maxRecDepth 100000 in
theorem pf_d229 : pf_dok sm_m229.2.1 sm_t229 := by unfold pf_dok; decide +kernel
set_option maxRecDepth 100000 in
theorem pf_d230 : pf_dok sm_m230.2.1 sm_t230 := by unfold pf_dok; decide +kernel
set_option maxRecDepth 100000 in
theorem pf_d231 : pf_dok sm_m231.2.1 sm_t231 := by unfold pf_dok; decide +kernel
set_option maxRecDepth 100000 in
theorem pf_d232 : pf_dok sm_m232.2.1 sm_t232 := by unfold pf_dok; decide +kernel
set_option maxRecDepth 100000 in
theorem pf_d233 : pf_dok sm_m233.2.1 sm_t233 := by unfold pf_dok; decide +kernel
set_option maxRecDepth 100000 in
theorem pf_d234 : pf_dok sm_m234.2.1 sm_t234 := by unfold pf_dok; decide +kernel
set_option maxRecDepth 100000 in
theorem pf_d235 : pf_dok sm_m235.2.1 sm_t235 := by unfold pf_dok; decide +kernel
set_option maxRecDepth 100000 in
theorem pf_d236 : pf_dok sm_m236.2.1 sm_t236 := by unfold pf_dok; decide +kernel
set_option maxRecDepth 100000 in
theorem pf_d237 : pf_dok sm_m237.2.1 sm_t237 := by unfold pf_dok; decide +kernel
