set_option maxRecDepth 20000 in
theorem qk_315_0 : qa_ckr 315 0 60 = true := by decide +kernel
set_option maxRecDepth 20000 in
theorem qk_315_60 : qa_ckr 315 60 60 = true := by decide +kernel
set_option maxRecDepth 20000 in
theorem qk_315_120 : qa_ckr 315 120 60 = true := by decide +kernel
set_option maxRecDepth 20000 in
theorem qk_315_180 : qa_ckr 315 180 60 = true := by decide +kernel
set_option maxRecDepth 20000 in
theorem qk_315_240 : qa_ckr 315 240 60 = true := by decide +kernel
set_option maxRecDepth 20000 in
theorem qk_315_300 : qa_ckr 315 300 60 = true := by decide +kernel
set_option maxRecDepth 20000 in
theorem qk_315_360 : qa_ckr 315 360 60 = true := by decide +kernel
set_option maxRecDepth 20000 in
theorem qk_315_420 : qa_ckr 315 420 60 = true := by decide +kernel
set_option maxRecDepth 20000 in
theorem qk_315_480 : qa_ckr 315 480 60 = true := by decide +kernel
set_option maxRecDepth 20000 in
theorem qk_315_540 : qa_ckr 315 540 60 = true := by decide +kernel
set_option maxRecDepth 20000 in
theorem qk_315_600 : qa_ckr 315 600 60 = true := by decide +kernel
set_option maxRecDepth 20000 in
theorem qk_315_660 : qa_ckr 315 660 60 = true := by decide +kernel
set_option maxRecDepth 20000 in
theorem qk_315_720 : qa_ckr 315 720 60 = true := by decide +kernel
set_option maxRecDepth 20000 in
theorem qk_315_780 : qa_ckr 315 780 60 = true := by decide +kernel
set_option maxRecDepth 20000 in
theorem qk_315_840 : qa_ckr 315 840 60 = true := by decide +kernel
set_option maxRecDepth 20000 in
theorem qk_315_900 : qa_ckr 315 900 60 = true := by decide +kernel
set_option maxRecDepth 20000 in
theorem qk_315_960 : qa_ckr 315 960 60 = true := by decide +kernel
set_option maxRecDepth 20000 in
theorem qk_315_1020 : qa_ckr 315 1020 60 = true := by decide +kernel
set_option maxRecDepth 20000 in
theorem qk_315_1080 : qa_ckr 315 1080 60 = true := by decide +kernel
set_option maxRecDepth 20000 in
theorem qk_315_1140 : qa_ckr 315 1140 60 = true := by decide +kernel
set_option maxRecDepth 20000 in
theorem qk_315_1200 : qa_ckr 315 1200 60 = true := by decide +kernel
set_option maxRecDepth 20000 in
theorem qk_315_1260 : qa_ckr 315 1260 60 = true := by decide +kernel
set_option maxRecDepth 20000 in
theorem qk_315_1320 : qa_ckr 315 1320 60 = true := by decide +kernel
set_option maxRecDepth 20000 in
theorem qk_315_1380 : qa_ckr 315 1380 60 = true := by decide +kernel
set_option maxRecDepth 20000 in
theorem qk_315_1440 : qa_ckr 315 1440 60 = true := by decide +kernel
set_option maxRecDepth 20000 in
theorem qk_315_1500 : qa_ckr 315 1500 60 = true := by decide +kernel
set_option maxRecDepth 20000 in
theorem qk_315_1560 : qa_ckr 315 1560 60 = true := by decide +kernel
set_option maxRecDepth 20000 in
theorem qk_315_1620 : qa_ckr 315 1620 60 = true := by decide +kernel
set_option maxRecDepth 20000 in
theorem qk_315_1680 : qa_ckr 315 1680 60 = true := by decide +kernel
set_option maxRecDepth 20000 in
theorem qk_315_1740 : qa_ckr 315 1740 60 = true := by decide +kernel
set_option maxRecDepth 20000 in
theorem qk_315_1800 : qa_ckr 315 1800 60 = true := by decide +kernel
set_option maxRecDepth 20000 in
theorem qk_315_1860 : qa_ckr 315 1860 60 = true := by decide +kernel
set_option maxRecDepth 20000 in
theorem qk_315_1920 : qa_ckr 315 1920 60 = true := by decide +kernel
set_option maxRecDepth 20000 in
theorem qk_315_1980 : qa_ckr 315 1980 60 = true := by decide +kernel
set_option maxRecDepth 20000 in
theorem qk_315_2040 : qa_ckr 315 2040 41 = true := by decide +kernel
