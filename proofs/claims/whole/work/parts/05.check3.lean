set_option maxRecDepth 20000 in
theorem qk_311_0 : qa_ckr 311 0 60 = true := by decide +kernel
set_option maxRecDepth 20000 in
theorem qk_311_60 : qa_ckr 311 60 60 = true := by decide +kernel
set_option maxRecDepth 20000 in
theorem qk_311_120 : qa_ckr 311 120 60 = true := by decide +kernel
set_option maxRecDepth 20000 in
theorem qk_311_180 : qa_ckr 311 180 60 = true := by decide +kernel
set_option maxRecDepth 20000 in
theorem qk_311_240 : qa_ckr 311 240 60 = true := by decide +kernel
set_option maxRecDepth 20000 in
theorem qk_311_300 : qa_ckr 311 300 60 = true := by decide +kernel
set_option maxRecDepth 20000 in
theorem qk_311_360 : qa_ckr 311 360 60 = true := by decide +kernel
set_option maxRecDepth 20000 in
theorem qk_311_420 : qa_ckr 311 420 60 = true := by decide +kernel
set_option maxRecDepth 20000 in
theorem qk_311_480 : qa_ckr 311 480 60 = true := by decide +kernel
set_option maxRecDepth 20000 in
theorem qk_311_540 : qa_ckr 311 540 60 = true := by decide +kernel
set_option maxRecDepth 20000 in
theorem qk_311_600 : qa_ckr 311 600 60 = true := by decide +kernel
set_option maxRecDepth 20000 in
theorem qk_311_660 : qa_ckr 311 660 60 = true := by decide +kernel
set_option maxRecDepth 20000 in
theorem qk_311_720 : qa_ckr 311 720 60 = true := by decide +kernel
set_option maxRecDepth 20000 in
theorem qk_311_780 : qa_ckr 311 780 60 = true := by decide +kernel
set_option maxRecDepth 20000 in
theorem qk_311_840 : qa_ckr 311 840 60 = true := by decide +kernel
set_option maxRecDepth 20000 in
theorem qk_311_900 : qa_ckr 311 900 60 = true := by decide +kernel
set_option maxRecDepth 20000 in
theorem qk_311_960 : qa_ckr 311 960 60 = true := by decide +kernel
set_option maxRecDepth 20000 in
theorem qk_311_1020 : qa_ckr 311 1020 60 = true := by decide +kernel
set_option maxRecDepth 20000 in
theorem qk_311_1080 : qa_ckr 311 1080 60 = true := by decide +kernel
set_option maxRecDepth 20000 in
theorem qk_311_1140 : qa_ckr 311 1140 60 = true := by decide +kernel
set_option maxRecDepth 20000 in
theorem qk_311_1200 : qa_ckr 311 1200 60 = true := by decide +kernel
set_option maxRecDepth 20000 in
theorem qk_311_1260 : qa_ckr 311 1260 60 = true := by decide +kernel
set_option maxRecDepth 20000 in
theorem qk_311_1320 : qa_ckr 311 1320 60 = true := by decide +kernel
set_option maxRecDepth 20000 in
theorem qk_311_1380 : qa_ckr 311 1380 60 = true := by decide +kernel
set_option maxRecDepth 20000 in
theorem qk_311_1440 : qa_ckr 311 1440 60 = true := by decide +kernel
set_option maxRecDepth 20000 in
theorem qk_311_1500 : qa_ckr 311 1500 60 = true := by decide +kernel
set_option maxRecDepth 20000 in
theorem qk_311_1560 : qa_ckr 311 1560 60 = true := by decide +kernel
set_option maxRecDepth 20000 in
theorem qk_311_1620 : qa_ckr 311 1620 60 = true := by decide +kernel
set_option maxRecDepth 20000 in
theorem qk_311_1680 : qa_ckr 311 1680 60 = true := by decide +kernel
set_option maxRecDepth 20000 in
theorem qk_311_1740 : qa_ckr 311 1740 60 = true := by decide +kernel
set_option maxRecDepth 20000 in
theorem qk_311_1800 : qa_ckr 311 1800 60 = true := by decide +kernel
set_option maxRecDepth 20000 in
theorem qk_311_1860 : qa_ckr 311 1860 60 = true := by decide +kernel
set_option maxRecDepth 20000 in
theorem qk_311_1920 : qa_ckr 311 1920 60 = true := by decide +kernel
set_option maxRecDepth 20000 in
theorem qk_311_1980 : qa_ckr 311 1980 60 = true := by decide +kernel
set_option maxRecDepth 20000 in
theorem qk_311_2040 : qa_ckr 311 2040 41 = true := by decide +kernel
