set_option maxRecDepth 100000 in
theorem pf_d238 : pf_dok sm_m238.2.1 sm_t238 := by unfold pf_dok; decide +kernel
set_option maxRecDepth 100000 in
theorem pf_d239 : pf_dok sm_m239.2.1 sm_t239 := by unfold pf_dok; decide +kernel
set_option maxRecDepth 100000 in
theorem pf_d240 : pf_dok sm_m240.2.1 sm_t240 := by unfold pf_dok; decide +kernel
set_option maxRecDepth 100000 in
theorem pf_d241 : pf_dok sm_m241.2.1 sm_t241 := by unfold pf_dok; decide +kernel
set_option maxRecDepth 100000 in
theorem pf_d242 : pf_dok sm_m242.2.1 sm_t242 := by unfold pf_dok; decide +kernel
set_option maxRecDepth 100000 in
theorem pf_d243 : pf_dok sm_m243.2.1 sm_t243 := by unfold pf_dok; decide +kernel
set_option maxRecDepth 100000 in
theorem pf_d244 : pf_dok sm_m244.2.1 sm_t244 := by unfold pf_dok; decide +kernel
set_option maxRecDepth 100000 in
theorem pf_d245 : pf_dok sm_m245.2.1 sm_t245 := by unfold pf_dok; decide +kernel
set_option maxRecDepth 100000 in
theorem pf_d246 : pf_dok sm_m246.2.1 sm_t246 := by unfold pf_dok; decide +kernel
set_option maxRecDepth 100000 in
theorem pf_d247 : pf_dok sm_m247.2.1 sm_t247 := by unfold pf_dok; decide +kernel
set_option maxRecDepth 100000 in
theorem pf_d248 : pf_dok sm_m248.2.1 sm_t248 := by unfold pf_dok; decide +kernel
set_option maxRecDepth 100000 in
theorem pf_d249 : pf_dok sm_m249.2.1 sm_t249 := by unfold pf_dok; decide +kernel
set_option maxRecDepth 100000 in
theorem pf_d250 : pf_dok sm_m250.2.1 sm_t250 := by unfold pf_dok; decide +kernel
set_option maxRecDepth 100000 in
theorem pf_d251 : pf_dok sm_m251.2.1 sm_t251 := by unfold pf_dok; decide +kernel
set_option maxRecDepth 100000 in
theorem pf_d252 : pf_dok sm_m252.2.1 sm_t252 := by unfold pf_dok; decide +kernel
set_option maxRecDepth 100000 in
theorem pf_d253 : pf_dok sm_m253.2.1 sm_t253 := by unfold pf_dok; decide +kernel
set_option maxRecDepth 100000 in
theorem pf_d254 : pf_dok sm_m254.2.1 sm_t254 := by unfold pf_dok; decide +kernel
set_option maxRecDepth 100000 in
theorem pf_d255 : pf_dok sm_m255.2.1 sm_t255 := by unfold pf_dok; decide +kernel
set_option maxRecDepth 100000 in
theorem pf_d256 : pf_dok sm_m256.2.1 sm_t256 := by unfold pf_dok; decide +kernel
set_option maxRecDepth 100000 in
theorem pf_d257 : pf_dok sm_m257.2.1 sm_t257 := by unfold pf_dok; decide +kernel
set_option maxRecDepth 100000 in
theorem pf_d258 : pf_dok sm_m258.2.1 sm_t258 := by unfold pf_dok; decide +kernel
set_option maxRecDepth 100000 in
theorem pf_d259 : pf_dok sm_m259.2.1 sm_t259 := by unfold pf_dok; decide +kernel
set_option maxRecDepth 100000 in
theorem pf_d260 : pf_dok sm_m260.2.1 sm_t260 := by unfold pf_dok; decide +kernel
set_option maxRecDepth 100000 in
theorem pf_d261 : pf_dok sm_m261.2.1 sm_t261 := by unfold pf_dok; decide +kernel
set_option maxRecDepth 100000 in
theorem pf_d262 : pf_dok sm_m262.2.1 sm_t262 := by unfold pf_dok; decide +kernel
set_option maxRecDepth 100000 in
theorem pf_d263 : pf_dok sm_m263.2.1 sm_t263 := by unfold pf_dok; decide +kernel
set_option maxRecDepth 100000 in
theorem pf_d264 : pf_dok sm_m264.2.1 sm_t264 := by unfold pf_dok; decide +kernel
set_option maxRecDepth 100000 in
theorem pf_d265 : pf_dok sm_m265.2.1 sm_t265 := by unfold pf_dok; decide +kernel
set_option maxRecDepth 100000 in
theorem pf_d266 : pf_dok sm_m266.2.1 sm_t266 := by unfold pf_dok; decide +kernel
set_option maxRecDepth 100000 in
theorem pf_d267 : pf_dok sm_m267.2.1 sm_t267 := by unfold pf_dok; decide +kernel
set_option maxRecDepth 100000 in
theorem pf_d268 : pf_dok sm_m268.2.1 sm_t268 := by unfold pf_dok; decide +kernel
set_option maxRecDepth 100000 in
theorem pf_d269 : pf_dok sm_m269.2.1 sm_t269 := by unfold pf_dok; decide +kernel
