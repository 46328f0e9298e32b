set_option maxRecDepth 100000 in
theorem pf_d64 : pf_dok sm_m64.2.1 sm_t64 := by unfold pf_dok; decide +kernel
set_option maxRecDepth 100000 in
theorem pf_d65 : pf_dok sm_m65.2.1 sm_t65 := by unfold pf_dok; decide +kernel
set_option maxRecDepth 100000 in
theorem pf_d66 : pf_dok sm_m66.2.1 sm_t66 := by unfold pf_dok; decide +kernel
set_option maxRecDepth 100000 in
theorem pf_d67 : pf_dok sm_m67.2.1 sm_t67 := by unfold pf_dok; decide +kernel
set_option maxRecDepth 100000 in
theorem pf_d68 : pf_dok sm_m68.2.1 sm_t68 := by unfold pf_dok; decide +kernel
set_option maxRecDepth 100000 in
theorem pf_d69 : pf_dok sm_m69.2.1 sm_t69 := by unfold pf_dok; decide +kernel
set_option maxRecDepth 100000 in
theorem pf_d70 : pf_dok sm_m70.2.1 sm_t70 := by unfold pf_dok; decide +kernel
set_option maxRecDepth 100000 in
theorem pf_d71 : pf_dok sm_m71.2.1 sm_t71 := by unfold pf_dok; decide +kernel
set_option maxRecDepth 100000 in
theorem pf_d72 : pf_dok sm_m72.2.1 sm_t72 := by unfold pf_dok; decide +kernel
set_option maxRecDepth 100000 in
theorem pf_d73 : pf_dok sm_m73.2.1 sm_t73 := by unfold pf_dok; decide +kernel
set_option maxRecDepth 100000 in
theorem pf_d74 : pf_dok sm_m74.2.1 sm_t74 := by unfold pf_dok; decide +kernel
set_option maxRecDepth 100000 in
theorem pf_d75 : pf_dok sm_m75.2.1 sm_t75 := by unfold pf_dok; decide +kernel
set_option maxRecDepth 100000 in
theorem pf_d76 : pf_dok sm_m76.2.1 sm_t76 := by unfold pf_dok; decide +kernel
set_option maxRecDepth 100000 in
theorem pf_d77 : pf_dok sm_m77.2.1 sm_t77 := by unfold pf_dok; decide +kernel
set_option maxRecDepth 100000 in
theorem pf_d78 : pf_dok sm_m78.2.1 sm_t78 := by unfold pf_dok; decide +kernel
set_option maxRecDepth 100000 in
theorem pf_d79 : pf_dok sm_m79.2.1 sm_t79 := by unfold pf_dok; decide +kernel
set_option maxRecDepth 100000 in
theorem pf_d80 : pf_dok sm_m80.2.1 sm_t80 := by unfold pf_dok; decide +kernel
set_option maxRecDepth 100000 in
theorem pf_d81 : pf_dok sm_m81.2.1 sm_t81 := by unfold pf_dok; decide +kernel
set_option maxRecDepth 100000 in
theorem pf_d82 : pf_dok sm_m82.2.1 sm_t82 := by unfold pf_dok; decide +kernel
set_option maxRecDepth 100000 in
theorem pf_d83 : pf_dok sm_m83.2.1 sm_t83 := by unfold pf_dok; decide +kernel
set_option maxRecDepth 100000 in
theorem pf_d84 : pf_dok sm_m84.2.1 sm_t84 := by unfold pf_dok; decide +kernel
set_option maxRecDepth 100000 in
theorem pf_d85 : pf_dok sm_m85.2.1 sm_t85 := by unfold pf_dok; decide +kernel
set_option maxRecDepth 100000 in
theorem pf_d86 : pf_dok sm_m86.2.1 sm_t86 := by unfold pf_dok; decide +kernel
set_option maxRecDepth 100000 in
theorem pf_d87 : pf_dok sm_m87.2.1 sm_t87 := by unfold pf_dok; decide +kernel
set_option maxRecDepth 100000 in
theorem pf_d88 : pf_dok sm_m88.2.1 sm_t88 := by unfold pf_dok; decide +kernel
set_option maxRecDepth 100000 in
theorem pf_d89 : pf_dok sm_m89.2.1 sm_t89 := by unfold pf_dok; decide +kernel
set_option maxRecDepth 100000 in
theorem pf_d90 : pf_dok sm_m90.2.1 sm_t90 := by unfold pf_dok; decide +kernel
set_option maxRecDepth 100000 in
theorem pf_d91 : pf_dok sm_m91.2.1 sm_t91 := by unfold pf_dok; decide +kernel
set_option maxRecDepth 100000 in
theorem pf_d92 : pf_dok sm_m92.2.1 sm_t92 := by unfold pf_dok; decide +kernel
set_option maxRecDepth 100000 in
theorem pf_d93 : pf_dok sm_m93.2.1 sm_t93 := by unfold pf_dok; decide +kernel
set_option maxRecDepth 100000 in
theorem pf_d94 : pf_dok sm_m94.2.1 sm_t94 := by unfold pf_dok; decide +kernel
set_option maxRecDepth 100000 in
theorem pf_d95 : pf_dok sm_m95.2.1 sm_t95 := by unfold pf_dok; decide +kernel
set_option maxRecDepth 100000 in
theorem pf_d96 : pf_dok sm_m96.2.1 sm_t96 := by unfold pf_dok; decide +kernel
set_option maxRecDepth 100000 in
theorem pf_d97 : pf_dok sm_m97.2.1 sm_t97 := by unfold pf_dok; decide +kernel
set_option maxRecDepth 100000 in
theorem pf_d98 : pf_dok sm_m98.2.1 sm_t98 := by unfold pf_dok; decide +kernel
set_option maxRecDepth 100000 in
theorem pf_d99 : pf_dok sm_m99.2.1 sm_t99 := by unfold pf_dok; decide +kernel
set_option maxRecDepth 100000 in
theorem pf_d100 : pf_dok sm_m100.2.1 sm_t100 := by unfold pf_dok; decide +kernel
set_option maxRecDepth 100000 in
theorem pf_d101 : pf_dok sm_m101.2.1 sm_t101 := by unfold pf_dok; decide +kernel
set_option maxRecDepth 100000 in
theorem pf_d102 : pf_dok sm_m102.2.1 sm_t102 := by unfold pf_dok; decide +kernel
set_option maxRecDepth 100000 in
theorem pf_d103 : pf_dok sm_m103.2.1 sm_t103 := by unfold pf_dok; decide +kernel
set_option maxRecDepth 100000 in
theorem pf_d104 : pf_dok sm_m104.2.1 sm_t104 := by unfold pf_dok; decide +kernel
set_option maxRecDepth 100000 in
theorem pf_d105 : pf_dok sm_m105.2.1 sm_t105 := by unfold pf_dok; decide +kernel
set_option maxRecDepth 100000 in
theorem pf_d106 : pf_dok sm_m106.2.1 sm_t106 := by unfold pf_dok; decide +kernel
set_option maxRecDepth 100000 in
theorem pf_d107 : pf_dok sm_m107.2.1 sm_t107 := by unfold pf_dok; decide +kernel
set_option maxRecDepth 100000 in
theorem pf_d108 : pf_dok sm_m108.2.1 sm_t108 := by unfold pf_dok; decide +kernel
set_option maxRecDepth 100000 in
theorem pf_d109 : pf_dok sm_m109.2.1 sm_t109 := by unfold pf_dok; decide +kernel
set_option maxRecDepth 100000 in
theorem pf_d110 : pf_dok sm_m110.2.1 sm_t110 := by unfold pf_dok; decide +kernel
set_option maxRecDepth 100000 in
theorem pf_d111 : pf_dok sm_m111.2.1 sm_t111 := by unfold pf_dok; decide +kernel
set_option maxRecDepth 100000 in
theorem pf_d112 : pf_dok sm_m112.2.1 sm_t112 := by unfold pf_dok; decide +kernel
set_option maxRecDepth 100000 in
theorem pf_d113 : pf_dok sm_m113.2.1 sm_t113 := by unfold pf_dok; decide +kernel
set_option maxRecDepth 100000 in
theorem pf_d114 : pf_dok sm_m114.2.1 sm_t114 := by unfold pf_dok; decide +kernel
set_option maxRecDepth 100000 in
theorem pf_d115 : pf_dok sm_m115.2.1 sm_t115 := by unfold pf_dok; decide +kernel
set_option maxRecDepth 100000 in
theorem pf_d116 : pf_dok sm_m116.2.1 sm_t116 := by unfold pf_dok; decide +kernel
set_option maxRecDepth 100000 in
theorem pf_d117 : pf_dok sm_m117.2.1 sm_t117 := by unfold pf_dok; decide +kernel
set_option maxRecDepth 100000 in
theorem pf_d118 : pf_dok sm_m118.2.1 sm_t118 := by unfold pf_dok; decide +kernel
set_option maxRecDepth 100000 in
theorem pf_d119 : pf_dok sm_m119.2.1 sm_t119 := by unfold pf_dok; decide +kernel
set_option maxRecDepth 100000 in
theorem pf_d120 : pf_dok sm_m120.2.1 sm_t120 := by unfold pf_dok; decide +kernel
set_option maxRecDepth 100000 in
theorem pf_d121 : pf_dok sm_m121.2.1 sm_t121 := by unfold pf_dok; decide +kernel
set_option maxRecDepth 100000 in
theorem pf_d122 : pf_dok sm_m122.2.1 sm_t122 := by unfold pf_dok; decide +kernel
set_option maxRecDepth 100000 in
theorem pf_d123 : pf_dok sm_m123.2.1 sm_t123 := by unfold pf_dok; decide +kernel
set_option maxRecDepth 100000 in
theorem pf_d124 : pf_dok sm_m124.2.1 sm_t124 := by unfold pf_dok; decide +kernel
set_option maxRecDepth 100000 in
theorem pf_d125 : pf_dok sm_m125.2.1 sm_t125 := by unfold pf_dok; decide +kernel
set_option maxRecDepth 100000 in
theorem pf_d126 : pf_dok sm_m126.2.1 sm_t126 := by unfold pf_dok; decide +kernel
set_option maxRecDepth 100000 in
theorem pf_d127 : pf_dok sm_m127.2.1 sm_t127 := by unfold pf_dok; decide +kernel
set_option maxRecDepth 100000 in
theorem pf_d128 : pf_dok sm_m128.2.1 sm_t128 := by unfold pf_dok; decide +kernel
