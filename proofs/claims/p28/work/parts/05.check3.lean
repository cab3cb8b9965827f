set_option maxRecDepth 20000 in
theorem qk_314_0 : qa_ckr 314 0 60 = true := by decide +kernel
set_option maxRecDepth 20000 in
theorem qk_314_60 : qa_ckr 314 60 60 = true := by decide +kernel
set_option maxRecDepth 20000 in
theorem qk_314_120 : qa_ckr 314 120 60 = true := by decide +kernel
set_option maxRecDepth 20000 in
theorem qk_314_180 : qa_ckr 314 180 60 = true := by decide +kernel
set_option maxRecDepth 20000 in
theorem qk_314_240 : qa_ckr 314 240 60 = true := by decide +kernel
set_option maxRecDepth 20000 in
theorem qk_314_300 : qa_ckr 314 300 60 = true := by decide +kernel
set_option maxRecDepth 20000 in
theorem qk_314_360 : qa_ckr 314 360 60 = true := by decide +kernel
set_option maxRecDepth 20000 in
theorem qk_314_420 : qa_ckr 314 420 60 = true := by decide +kernel
set_option maxRecDepth 20000 in
theorem qk_314_480 : qa_ckr 314 480 60 = true := by decide +kernel
set_option maxRecDepth 20000 in
theorem qk_314_540 : qa_ckr 314 540 60 = true := by decide +kernel
set_option maxRecDepth 20000 in
theorem qk_314_600 : qa_ckr 314 600 60 = true := by decide +kernel
set_option maxRecDepth 20000 in
theorem qk_314_660 : qa_ckr 314 660 60 = true := by decide +kernel
set_option maxRecDepth 20000 in
theorem qk_314_720 : qa_ckr 314 720 60 = true := by decide +kernel
set_option maxRecDepth 20000 in
theorem qk_314_780 : qa_ckr 314 780 60 = true := by decide +kernel
set_option maxRecDepth 20000 in
theorem qk_314_840 : qa_ckr 314 840 60 = true := by decide +kernel
set_option maxRecDepth 20000 in
theorem qk_314_900 : qa_ckr 314 900 60 = true := by decide +kernel
set_option maxRecDepth 20000 in
theorem qk_314_960 : qa_ckr 314 960 60 = true := by decide +kernel
set_option maxRecDepth 20000 in
theorem qk_314_1020 : qa_ckr 314 1020 60 = true := by decide +kernel
set_option maxRecDepth 20000 in
theorem qk_314_1080 : qa_ckr 314 1080 60 = true := by decide +kernel
set_option maxRecDepth 20000 in
theorem qk_314_1140 : qa_ckr 314 1140 60 = true := by decide +kernel
set_option maxRecDepth 20000 in
theorem qk_314_1200 : qa_ckr 314 1200 60 = true := by decide +kernel
set_option maxRecDepth 20000 in
theorem qk_314_1260 : qa_ckr 314 1260 60 = true := by decide +kernel
set_option maxRecDepth 20000 in
theorem qk_314_1320 : qa_ckr 314 1320 60 = true := by decide +kernel
set_option maxRecDepth 20000 in
theorem qk_314_1380 : qa_ckr 314 1380 60 = true := by decide +kernel
set_option maxRecDepth 20000 in
theorem qk_314_1440 : qa_ckr 314 1440 60 = true := by decide +kernel
set_option maxRecDepth 20000 in
theorem qk_314_1500 : qa_ckr 314 1500 60 = true := by decide +kernel
set_option maxRecDepth 20000 in
theorem qk_314_1560 : qa_ckr 314 1560 60 = true := by decide +kernel
set_option maxRecDepth 20000 in
theorem qk_314_1620 : qa_ckr 314 1620 60 = true := by decide +kernel
set_option maxRecDepth 20000 in
theorem qk_314_1680 : qa_ckr 314 1680 60 = true := by decide +kernel
set_option maxRecDepth 20000 in
theorem qk_314_1740 : qa_ckr 314 1740 60 = true := by decide +kernel
set_option maxRecDepth 20000 in
theorem qk_314_1800 : qa_ckr 314 1800 60 = true := by decide +kernel
set_option maxRecDepth 20000 in
theorem qk_314_1860 : qa_ckr 314 1860 60 = true := by decide +kernel
set_option maxRecDepth 20000 in
theorem qk_314_1920 : qa_ckr 314 1920 60 = true := by decide +kernel
set_option maxRecDepth 20000 in
theorem qk_314_1980 : qa_ckr 314 1980 60 = true := by decide +kernel
set_option maxRecDepth 20000 in
theorem qk_314_2040 : qa_ckr 314 2040 13 = true := by decide +kernel
