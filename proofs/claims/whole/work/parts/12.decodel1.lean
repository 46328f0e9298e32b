set_option maxRecDepth 100000 in
theorem pf_dl15 : pf_dok code ((sm_t270.drop 300).take 20) := by unfold pf_dok; decide +kernel
set_option maxRecDepth 100000 in
theorem pf_dl16 : pf_dok code ((sm_t270.drop 320).take 20) := by unfold pf_dok; decide +kernel
set_option maxRecDepth 100000 in
theorem pf_dl17 : pf_dok code ((sm_t270.drop 340).take 20) := by unfold pf_dok; decide +kernel
set_option maxRecDepth 100000 in
theorem pf_dl18 : pf_dok code ((sm_t270.drop 360).take 20) := by unfold pf_dok; decide +kernel
set_option maxRecDepth 100000 in
theorem pf_dl19 : pf_dok code ((sm_t270.drop 380).take 20) := by unfold pf_dok; decide +kernel
set_option maxRecDepth 100000 in
theorem pf_dl20 : pf_dok code ((sm_t270.drop 400).take 20) := by unfold pf_dok; decide +kernel
set_option maxRecDepth 100000 in
theorem pf_dl21 : pf_dok code ((sm_t270.drop 420).take 20) := by unfold pf_dok; decide +kernel
set_option maxRecDepth 100000 in
theorem pf_dl22 : pf_dok code ((sm_t270.drop 440).take 20) := by unfold pf_dok; decide +kernel
set_option maxRecDepth 100000 in
theorem pf_dl23 : pf_dok code ((sm_t270.drop 460).take 20) := by unfold pf_dok; decide +kernel
set_option maxRecDepth 100000 in
theorem pf_dl24 : pf_dok code ((sm_t270.drop 480).take 20) := by unfold pf_dok; decide +kernel
set_option maxRecDepth 100000 in
theorem pf_dl25 : pf_dok code ((sm_t270.drop 500).take 20) := by unfold pf_dok; decide +kernel
set_option maxRecDepth 100000 in
theorem pf_dl26 : pf_dok code ((sm_t270.drop 520).take 20) := by unfold pf_dok; decide +kernel
set_option maxRecDepth 100000 in
theorem pf_dl27 : pf_dok code ((sm_t270.drop 540).take 20) := by unfold pf_dok; decide +kernel
set_option maxRecDepth 100000 in
theorem pf_dl28 : pf_dok code ((sm_t270.drop 560).take 20) := by unfold pf_dok; decide +kernel
set_option maxRecDepth 100000 in
theorem pf_dl29 : pf_dok code ((sm_t270.drop 580).take 20) := by unfold pf_dok; decide +kernel
