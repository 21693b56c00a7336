/-! the rows of the listing against the bytes -/
set_option maxRecDepth 100000 in
theorem okD_0 : ((mIdx1.drop 0).take 6).all chkD = true := by decide +kernel
set_option maxRecDepth 100000 in
theorem okD_6 : ((mIdx1.drop 6).take 6).all chkD = true := by decide +kernel
set_option maxRecDepth 100000 in
theorem okD_12 : ((mIdx1.drop 12).take 6).all chkD = true := by decide +kernel
set_option maxRecDepth 100000 in
theorem okD_18 : ((mIdx1.drop 18).take 6).all chkD = true := by decide +kernel
set_option maxRecDepth 100000 in
theorem okD_24 : ((mIdx1.drop 24).take 6).all chkD = true := by decide +kernel
set_option maxRecDepth 100000 in
theorem okD_30 : ((mIdx1.drop 30).take 6).all chkD = true := by decide +kernel
set_option maxRecDepth 100000 in
theorem okD_36 : ((mIdx1.drop 36).take 6).all chkD = true := by decide +kernel
set_option maxRecDepth 100000 in
theorem okD_42 : ((mIdx1.drop 42).take 6).all chkD = true := by decide +kernel
set_option maxRecDepth 100000 in
theorem okD_48 : ((mIdx1.drop 48).take 6).all chkD = true := by decide +kernel
set_option maxRecDepth 100000 in
theorem okD_54 : ((mIdx1.drop 54).take 6).all chkD = true := by decide +kernel
set_option maxRecDepth 100000 in
theorem okD_60 : ((mIdx1.drop 60).take 6).all chkD = true := by decide +kernel
set_option maxRecDepth 100000 in
theorem okD_66 : ((mIdx1.drop 66).take 6).all chkD = true := by decide +kernel
set_option maxRecDepth 100000 in
theorem okD_72 : ((mIdx1.drop 72).take 6).all chkD = true := by decide +kernel
set_option maxRecDepth 100000 in
theorem okD_78 : ((mIdx1.drop 78).take 6).all chkD = true := by decide +kernel
set_option maxRecDepth 100000 in
theorem okD_84 : ((mIdx1.drop 84).take 6).all chkD = true := by decide +kernel
set_option maxRecDepth 100000 in
theorem okD_90 : ((mIdx1.drop 90).take 6).all chkD = true := by decide +kernel
