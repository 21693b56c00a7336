/-! the rows of the listing against the bytes -/
set_option maxRecDepth 100000 in
theorem okD_192 : ((mIdx1.drop 192).take 6).all chkD = true := by decide +kernel
set_option maxRecDepth 100000 in
theorem okD_198 : ((mIdx1.drop 198).take 6).all chkD = true := by decide +kernel
set_option maxRecDepth 100000 in
theorem okD_204 : ((mIdx1.drop 204).take 6).all chkD = true := by decide +kernel
set_option maxRecDepth 100000 in
theorem okD_210 : ((mIdx1.drop 210).take 6).all chkD = true := by decide +kernel
set_option maxRecDepth 100000 in
theorem okD_216 : ((mIdx1.drop 216).take 6).all chkD = true := by decide +kernel
set_option maxRecDepth 100000 in
theorem okD_222 : ((mIdx1.drop 222).take 6).all chkD = true := by decide +kernel
set_option maxRecDepth 100000 in
theorem okD_228 : ((mIdx1.drop 228).take 6).all chkD = true := by decide +kernel
set_option maxRecDepth 100000 in
theorem okD_234 : ((mIdx1.drop 234).take 6).all chkD = true := by decide +kernel
set_option maxRecDepth 100000 in
theorem okD_240 : ((mIdx1.drop 240).take 6).all chkD = true := by decide +kernel
set_option maxRecDepth 100000 in
theorem okD_246 : ((mIdx1.drop 246).take 6).all chkD = true := by decide +kernel
set_option maxRecDepth 100000 in
theorem okD_252 : ((mIdx1.drop 252).take 6).all chkD = true := by decide +kernel
set_option maxRecDepth 100000 in
theorem okD_258 : ((mIdx1.drop 258).take 6).all chkD = true := by decide +kernel
set_option maxRecDepth 100000 in
theorem okD_264 : ((mIdx1.drop 264).take 6).all chkD = true := by decide +kernel
set_option maxRecDepth 100000 in
theorem okD_270 : ((mIdx1.drop 270).take 6).all chkD = true := by decide +kernel
set_option maxRecDepth 100000 in
theorem okD_276 : ((mIdx1.drop 276).take 6).all chkD = true := by decide +kernel
