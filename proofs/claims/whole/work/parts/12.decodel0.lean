set_option maxRecDepth 100000 in
theorem pf_dl0 : pf_dok code ((sm_t270.drop 0).take 20) := by unfold pf_dok; decide +kernel
set_option maxRecDepth 100000 in
theorem pf_dl1 : pf_dok code ((sm_t270.drop 20).take 20) := by unfold pf_dok; decide +kernel
set_option maxRecDepth 100000 in
theorem pf_dl2 : pf_dok code ((sm_t270.drop 40).take 20) := by unfold pf_dok; decide +kernel
set_option maxRecDepth 100000 in
theorem pf_dl3 : pf_dok code ((sm_t270.drop 60).take 20) := by unfold pf_dok; decide +kernel
set_option maxRecDepth 100000 in
theorem pf_dl4 : pf_dok code ((sm_t270.drop 80).take 20) := by unfold pf_dok; decide +kernel
set_option maxRecDepth 100000 in
theorem pf_dl5 : pf_dok code ((sm_t270.drop 100).take 20) := by unfold pf_dok; decide +kernel
set_option maxRecDepth 100000 in
theorem pf_dl6 : pf_dok code ((sm_t270.drop 120).take 20) := by unfold pf_dok; decide +kernel
set_option maxRecDepth 100000 in
theorem pf_dl7 : pf_dok code ((sm_t270.drop 140).take 20) := by unfold pf_dok; decide +kernel
set_option maxRecDepth 100000 in
theorem pf_dl8 : pf_dok code ((sm_t270.drop 160).take 20) := by unfold pf_dok; decide +kernel
set_option maxRecDepth 100000 in
theorem pf_dl9 : pf_dok code ((sm_t270.drop 180).take 20) := by unfold pf_dok; decide +kernel
set_option maxRecDepth 100000 in
theorem pf_dl10 : pf_dok code ((sm_t270.drop 200).take 20) := by unfold pf_dok; decide +kernel
set_option maxRecDepth 100000 in
theorem pf_dl11 : pf_dok code ((sm_t270.drop 220).take 20) := by unfold pf_dok; decide +kernel
set_option maxRecDepth 100000 in
theorem pf_dl12 : pf_dok code ((sm_t270.drop 240).take 20) := by unfold pf_dok; decide +kernel
set_option maxRecDepth 100000 in
theorem pf_dl13 : pf_dok code ((sm_t270.drop 260).take 20) := by unfold pf_dok; decide +kernel
set_option maxRecDepth 100000 in
theorem pf_dl14 : pf_dok code ((sm_t270.drop 280).take 20) := by unfold pf_dok; decide +kernel
