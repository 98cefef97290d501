set_option maxRecDepth 100000 in
theorem lawB17 : lawB 17 = true := by decide +kernel
set_option maxRecDepth 100000 in
theorem lawB18 : lawB 18 = true := by decide +kernel
set_option maxRecDepth 100000 in
theorem lawB19 : lawB 19 = true := by decide +kernel
set_option maxRecDepth 100000 in
theorem lawB20 : lawB 20 = true := by decide +kernel
set_option maxRecDepth 100000 in
theorem lawB21 : lawB 21 = true := by decide +kernel
set_option maxRecDepth 100000 in
theorem lawB22 : lawB 22 = true := by decide +kernel
set_option maxRecDepth 100000 in
theorem lawB23 : lawB 23 = true := by decide +kernel
set_option maxRecDepth 100000 in
theorem lawB24 : lawB 24 = true := by decide +kernel
set_option maxRecDepth 100000 in
theorem lawB25 : lawB 25 = true := by decide +kernel
set_option maxRecDepth 100000 in
theorem lawB26 : lawB 26 = true := by decide +kernel
set_option maxRecDepth 100000 in
theorem lawB27 : lawB 27 = true := by decide +kernel
set_option maxRecDepth 100000 in
theorem lawB28 : lawB 28 = true := by decide +kernel
set_option maxRecDepth 100000 in
theorem lawB29 : lawB 29 = true := by decide +kernel
set_option maxRecDepth 100000 in
theorem lawB30 : lawB 30 = true := by decide +kernel
set_option maxRecDepth 100000 in
theorem lawB31 : lawB 31 = true := by decide +kernel
set_option maxRecDepth 100000 in
theorem lawB32 : lawB 32 = true := by decide +kernel
set_option maxRecDepth 100000 in
theorem lawB33 : lawB 33 = true := by decide +kernel
