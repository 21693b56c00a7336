/-! the rows of the listing against the bytes -/
set_option maxRecDepth 100000 in
theorem okD_96 : ((mIdx1.drop 96).take 6).all chkD = true := by decide +kernel
set_option maxRecDepth 100000 in
theorem okD_102 : ((mIdx1.drop 102).take 6).all chkD = true := by decide +kernel
set_option maxRecDepth 100000 in
theorem okD_108 : ((mIdx1.drop 108).take 6).all chkD = true := by decide +kernel
set_option maxRecDepth 100000 in
theorem okD_114 : ((mIdx1.drop 114).take 6).all chkD = true := by decide +kernel
set_option maxRecDepth 100000 in
theorem okD_120 : ((mIdx1.drop 120).take 6).all chkD = true := by decide +kernel
set_option maxRecDepth 100000 in
theorem okD_126 : ((mIdx1.drop 126).take 6).all chkD = true := by decide +kernel
set_option maxRecDepth 100000 in
theorem okD_132 : ((mIdx1.drop 132).take 6).all chkD = true := by decide +kernel
set_option maxRecDepth 100000 in
theorem okD_138 : ((mIdx1.drop 138).take 6).all chkD = true := by decide +kernel
set_option maxRecDepth 100000 in
theorem okD_144 : ((mIdx1.drop 144).take 6).all chkD = true := by decide +kernel
set_option maxRecDepth 100000 in
theorem okD_150 : ((mIdx1.drop 150).take 6).all chkD = true := by decide +kernel
set_option maxRecDepth 100000 in
theorem okD_156 : ((mIdx1.drop 156).take 6).all chkD = true := by decide +kernel
set_option maxRecDepth 100000 in
theorem okD_162 : ((mIdx1.drop 162).take 6).all chkD = true := by decide +kernel
set_option maxRecDepth 100000 in
theorem okD_168 : ((mIdx1.drop 168).take 6).all chkD = true := by decide +kernel
set_option maxRecDepth 100000 in
theorem okD_174 : ((mIdx1.drop 174).take 6).all chkD = true := by decide +kernel
set_option maxRecDepth 100000 in
theorem okD_180 : ((mIdx1.drop 180).take 6).all chkD = true := by decide +kernel
set_option maxRecDepth 100000 in
theorem okD_186 : ((mIdx1.drop 186).take 6).all chkD = true := by decide +kernel
