set_option maxRecDepth 65536 in
theorem rf_run : rf_pre start1.p0.tables start1.e0 43 rf_about = true := by decide +kernel
set_option maxRecDepth 65536 in
theorem rf_run_dead : rf_dead (stepsAlone start1.p0.tables start1.e0 43 rf_about) = true := by decide +kernel
