set_option maxRecDepth 100000 in
theorem lawB34 : lawB 34 = true := by decide +kernel
set_option maxRecDepth 100000 in
theorem lawB35 : lawB 35 = true := by decide +kernel
set_option maxRecDepth 100000 in
theorem lawB36 : lawB 36 = true := by decide +kernel
set_option maxRecDepth 100000 in
theorem lawB37 : lawB 37 = true := by decide +kernel
set_option maxRecDepth 100000 in
theorem lawB38 : lawB 38 = true := by decide +kernel
set_option maxRecDepth 100000 in
theorem lawB39 : lawB 39 = true := by decide +kernel
set_option maxRecDepth 100000 in
theorem lawB40 : lawB 40 = true := by decide +kernel
set_option maxRecDepth 100000 in
theorem lawB41 : lawB 41 = true := by decide +kernel
set_option maxRecDepth 100000 in
theorem lawB42 : lawB 42 = true := by decide +kernel
set_option maxRecDepth 100000 in
theorem lawB43 : lawB 43 = true := by decide +kernel
set_option maxRecDepth 100000 in
theorem lawB44 : lawB 44 = true := by decide +kernel
set_option maxRecDepth 100000 in
theorem lawB45 : lawB 45 = true := by decide +kernel
set_option maxRecDepth 100000 in
theorem lawB46 : lawB 46 = true := by decide +kernel
set_option maxRecDepth 100000 in
theorem lawB47 : lawB 47 = true := by decide +kernel
set_option maxRecDepth 100000 in
theorem lawB48 : lawB 48 = true := by decide +kernel
set_option maxRecDepth 100000 in
theorem lawB49 : lawB 49 = true := by decide +kernel
