/-! the rows of the listing against the bytes -/
set_option maxRecDepth 100000 in
theorem okD_0 : ((mIdx1.drop 0).take 6).all chkD = true := by decide +kernel
set_option maxRecDepth 100000 in
theorem okD_6 : ((mIdx1.drop 6).take 6).all chkD = true := by decide +kernel
set_option maxRecDepth 100000 in
theorem okD_12 : ((mIdx1.drop 12).take 6).all chkD = true := by decide +kernel
set_option maxRecDepth 100000 in
theorem okD_18 : ((mIdx1.drop 18).take 6).all chkD = true := by decide +kernel
set_option maxRecDepth 100000 in
theorem okD_24 : ((mIdx1.drop 24).take 6).all chkD = true := by decide +kernel
set_option maxRecDepth 100000 in
theorem okD_30 : ((mIdx1.drop 30).take 6).all chkD = true := by decide +kernel
set_option maxRecDepth 100000 in
theorem okD_36 : ((mIdx1.drop 36).take 6).all chkD = true := by decide +kernel
set_option maxRecDepth 100000 in
theorem okD_42 : ((mIdx1.drop 42).take 6).all chkD = true := by decide +kernel
set_option maxRecDepth 100000 in
theorem okD_48 : ((mIdx1.drop 48).take 6).all chkD = true := by decide +kernel
set_option maxRecDepth 100000 in
theorem okD_54 : ((mIdx1.drop 54).take 6).all chkD = true := by decide +kernel
set_option maxRecDepth 100000 in
theorem okD_60 : ((mIdx1.drop 60).take 6).all chkD = true := by decide +kernel
set_option maxRecDepth 100000 in
theorem okD_66 : ((mIdx1.drop 66).take 6).all chkD = true := by decide +kernel
set_option maxRecDepth 100000 in
theorem okD_72 : ((mIdx1.drop 72).take 6).all chkD = true := by decide +kernel
set_option maxRecDepth 100000 in
theorem okD_78 : ((mIdx1.drop 78).take 6).all chkD = true := by decide +kernel
set_option maxRecDepth 100000 in
theorem okD_84 : ((mIdx1.drop 84).take 6).all chkD = true := by decide +kernel
set_option maxRecDepth 100000 in
theorem okD_90 : ((mIdx1.drop 90).take 6).all chkD = true := by decide +kernel
set_option maxRecDepth 100000 in
theorem okD_96 : ((mIdx1.drop 96).take 6).all chkD = true := by decide +kernel
set_option maxRecDepth 100000 in
theorem okD_102 : ((mIdx1.drop 102).take 6).all chkD = true := by decide +kernel
set_option maxRecDepth 100000 in
theorem okD_108 : ((mIdx1.drop 108).take 6).all chkD = true := by decide +kernel
set_option maxRecDepth 100000 in
theorem okD_114 : ((mIdx1.drop 114).take 6).all chkD = true := by decide +kernel
set_option maxRecDepth 100000 in
theorem okD_120 : ((mIdx1.drop 120).take 6).all chkD = true := by decide +kernel
set_option maxRecDepth 100000 in
theorem okD_126 : ((mIdx1.drop 126).take 6).all chkD = true := by decide +kernel
set_option maxRecDepth 100000 in
theorem okD_132 : ((mIdx1.drop 132).take 6).all chkD = true := by decide +kernel
set_option maxRecDepth 100000 in
theorem okD_138 : ((mIdx1.drop 138).take 6).all chkD = true := by decide +kernel
set_option maxRecDepth 100000 in
theorem okD_144 : ((mIdx1.drop 144).take 6).all chkD = true := by decide +kernel
set_option maxRecDepth 100000 in
theorem okD_150 : ((mIdx1.drop 150).take 6).all chkD = true := by decide +kernel
set_option maxRecDepth 100000 in
theorem okD_156 : ((mIdx1.drop 156).take 6).all chkD = true := by decide +kernel
set_option maxRecDepth 100000 in
theorem okD_162 : ((mIdx1.drop 162).take 6).all chkD = true := by decide +kernel
set_option maxRecDepth 100000 in
theorem okD_168 : ((mIdx1.drop 168).take 6).all chkD = true := by decide +kernel
set_option maxRecDepth 100000 in
theorem okD_174 : ((mIdx1.drop 174).take 6).all chkD = true := by decide +kernel
set_option maxRecDepth 100000 in
theorem okD_180 : ((mIdx1.drop 180).take 6).all chkD = true := by decide +kernel
set_option maxRecDepth 100000 in
theorem okD_186 : ((mIdx1.drop 186).take 6).all chkD = true := by decide +kernel
set_option maxRecDepth 100000 in
theorem okD_192 : ((mIdx1.drop 192).take 6).all chkD = true := by decide +kernel
set_option maxRecDepth 100000 in
theorem okD_198 : ((mIdx1.drop 198).take 6).all chkD = true := by decide +kernel
set_option maxRecDepth 100000 in
theorem okD_204 : ((mIdx1.drop 204).take 6).all chkD = true := by decide +kernel
set_option maxRecDepth 100000 in
theorem okD_210 : ((mIdx1.drop 210).take 6).all chkD = true := by decide +kernel
set_option maxRecDepth 100000 in
theorem okD_216 : ((mIdx1.drop 216).take 6).all chkD = true := by decide +kernel
set_option maxRecDepth 100000 in
theorem okD_222 : ((mIdx1.drop 222).take 6).all chkD = true := by decide +kernel
set_option maxRecDepth 100000 in
theorem okD_228 : ((mIdx1.drop 228).take 6).all chkD = true := by decide +kernel
set_option maxRecDepth 100000 in
theorem okD_234 : ((mIdx1.drop 234).take 6).all chkD = true := by decide +kernel
set_option maxRecDepth 100000 in
theorem okD_240 : ((mIdx1.drop 240).take 6).all chkD = true := by decide +kernel
set_option maxRecDepth 100000 in
theorem okD_246 : ((mIdx1.drop 246).take 6).all chkD = true := by decide +kernel
set_option maxRecDepth 100000 in
theorem okD_252 : ((mIdx1.drop 252).take 6).all chkD = true := by decide +kernel
set_option maxRecDepth 100000 in
theorem okD_258 : ((mIdx1.drop 258).take 6).all chkD = true := by decide +kernel
set_option maxRecDepth 100000 in
theorem okD_264 : ((mIdx1.drop 264).take 6).all chkD = true := by decide +kernel
set_option maxRecDepth 100000 in
theorem okD_270 : ((mIdx1.drop 270).take 6).all chkD = true := by decide +kernel
set_option maxRecDepth 100000 in
theorem okD_276 : ((mIdx1.drop 276).take 6).all chkD = true := by decide +kernel
set_option maxRecDepth 100000 in
theorem okD_282 : ((mIdx1.drop 282).take 6).all chkD = true := by decide +kernel
set_option maxRecDepth 100000 in
theorem okD_288 : ((mIdx1.drop 288).take 6).all chkD = true := by decide +kernel
set_option maxRecDepth 100000 in
theorem okD_294 : ((mIdx1.drop 294).take 6).all chkD = true := by decide +kernel
set_option maxRecDepth 100000 in
theorem okD_300 : ((mIdx1.drop 300).take 6).all chkD = true := by decide +kernel
set_option maxRecDepth 100000 in
theorem okD_306 : ((mIdx1.drop 306).take 6).all chkD = true := by decide +kernel
set_option maxRecDepth 100000 in
theorem okD_312 : ((mIdx1.drop 312).take 6).all chkD = true := by decide +kernel
set_option maxRecDepth 100000 in
theorem okD_318 : ((mIdx1.drop 318).take 6).all chkD = true := by decide +kernel
set_option maxRecDepth 100000 in
theorem okD_324 : ((mIdx1.drop 324).take 6).all chkD = true := by decide +kernel
set_option maxRecDepth 100000 in
theorem okD_330 : ((mIdx1.drop 330).take 6).all chkD = true := by decide +kernel
set_option maxRecDepth 100000 in
theorem okD_336 : ((mIdx1.drop 336).take 6).all chkD = true := by decide +kernel
set_option maxRecDepth 100000 in
theorem okD_342 : ((mIdx1.drop 342).take 6).all chkD = true := by decide +kernel
set_option maxRecDepth 100000 in
theorem okD_348 : ((mIdx1.drop 348).take 6).all chkD = true := by decide +kernel
set_option maxRecDepth 100000 in
theorem okD_354 : ((mIdx1.drop 354).take 6).all chkD = true := by decide +kernel
set_option maxRecDepth 100000 in
theorem okD_360 : ((mIdx1.drop 360).take 6).all chkD = true := by decide +kernel
set_option maxRecDepth 100000 in
theorem okD_366 : ((mIdx1.drop 366).take 6).all chkD = true := by decide +kernel
set_option maxRecDepth 100000 in
theorem okD_372 : ((mIdx1.drop 372).take 6).all chkD = true := by decide +kernel
set_option maxRecDepth 100000 in
theorem okD_378 : ((mIdx1.drop 378).take 6).all chkD = true := by decide +kernel
set_option maxRecDepth 100000 in
theorem okD_384 : ((mIdx1.drop 384).take 6).all chkD = true := by decide +kernel
set_option maxRecDepth 100000 in
theorem okD_390 : ((mIdx1.drop 390).take 6).all chkD = true := by decide +kernel
set_option maxRecDepth 100000 in
theorem okD_396 : ((mIdx1.drop 396).take 6).all chkD = true := by decide +kernel
set_option maxRecDepth 100000 in
theorem okD_402 : ((mIdx1.drop 402).take 6).all chkD = true := by decide +kernel
set_option maxRecDepth 100000 in
theorem okD_408 : ((mIdx1.drop 408).take 6).all chkD = true := by decide +kernel
set_option maxRecDepth 100000 in
theorem okD_414 : ((mIdx1.drop 414).take 6).all chkD = true := by decide +kernel
set_option maxRecDepth 100000 in
theorem okD_420 : ((mIdx1.drop 420).take 6).all chkD = true := by decide +kernel
set_option maxRecDepth 100000 in
theorem okD_426 : ((mIdx1.drop 426).take 6).all chkD = true := by decide +kernel
set_option maxRecDepth 100000 in
theorem okD_432 : ((mIdx1.drop 432).take 6).all chkD = true := by decide +kernel
set_option maxRecDepth 100000 in
theorem okD_438 : ((mIdx1.drop 438).take 6).all chkD = true := by decide +kernel
