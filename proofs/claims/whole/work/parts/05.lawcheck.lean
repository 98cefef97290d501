set_option maxRecDepth 100000 in
theorem ck13a : [me276, me277, me278, me279].all chkE = true := by decide +kernel
set_option maxRecDepth 100000 in
theorem ck13b : (mt13.take 14).all chkE = true := by decide +kernel
def lawB (i : Nat) : Bool := match (ePcs me275)[i]?, (eBs me275)[i]? with
  | some p, some b => xchk 12 2 false code (ePcs me275) p b
  | _, _ => false
set_option maxRecDepth 100000 in
theorem lawB0 : lawB 0 = true := by decide +kernel
set_option maxRecDepth 100000 in
theorem lawB1 : lawB 1 = true := by decide +kernel
set_option maxRecDepth 100000 in
theorem lawB2 : lawB 2 = true := by decide +kernel
set_option maxRecDepth 100000 in
theorem lawB3 : lawB 3 = true := by decide +kernel
set_option maxRecDepth 100000 in
theorem lawB4 : lawB 4 = true := by decide +kernel
set_option maxRecDepth 100000 in
theorem lawB5 : lawB 5 = true := by decide +kernel
set_option maxRecDepth 100000 in
theorem lawB6 : lawB 6 = true := by decide +kernel
set_option maxRecDepth 100000 in
theorem lawB7 : lawB 7 = true := by decide +kernel
set_option maxRecDepth 100000 in
theorem lawB8 : lawB 8 = true := by decide +kernel
set_option maxRecDepth 100000 in
theorem lawB9 : lawB 9 = true := by decide +kernel
set_option maxRecDepth 100000 in
theorem lawB10 : lawB 10 = true := by decide +kernel
set_option maxRecDepth 100000 in
theorem lawB11 : lawB 11 = true := by decide +kernel
set_option maxRecDepth 100000 in
theorem lawB12 : lawB 12 = true := by decide +kernel
set_option maxRecDepth 100000 in
theorem lawB13 : lawB 13 = true := by decide +kernel
set_option maxRecDepth 100000 in
theorem lawB14 : lawB 14 = true := by decide +kernel
set_option maxRecDepth 100000 in
theorem lawB15 : lawB 15 = true := by decide +kernel
set_option maxRecDepth 100000 in
theorem lawB16 : lawB 16 = true := by decide +kernel
