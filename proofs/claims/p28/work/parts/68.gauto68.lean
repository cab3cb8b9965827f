/-! CONTRACTS by the checker. -/
def gk_X12_hit : YCt := (306, [.inr (.inr (33, (0, 0), (0, 0))), .inl ((-2147483648), 2147483647), .inl ((-2147483648), 0)], ([(48, 0, 272, .inl (0, 0))], []), [], [(some (.inl ((-2147483648), 2147483647)), [])], 2)
def gq_X12_hit : List YCut := []
theorem gt_X12_hit : y_chk gL_0 gk_X12_hit gq_X12_hit 4000 0 = true := by decide +kernel
def gk_X11_hit : YCt := (194, [.inr (.inr (0, (0, 0), (0, 0))), .inl ((-2147483648), 2147483647), .inl ((-2147483648), 0)], ([(17, 0, 5, .inl (0, 0))], []), [], [(some (.inl ((-2147483648), 2147483647)), [])], 2)
def gq_X11_hit : List YCut := []
theorem gt_X11_hit : y_chk gL_0 gk_X11_hit gq_X11_hit 4000 0 = true := by decide +kernel
def gk_X12_hit_1 : YCt := (306, [.inr (.inr (33, (0, 0), (0, 0))), .inl ((-2147483648), 2147483647), .inl ((-2147483648), 0)], ([(48, 0, 272, .inl (1, 1))], []), [], [(some (.inl ((-2147483648), 2147483647)), [])], 2)
def gq_X12_hit_1 : List YCut := []
theorem gt_X12_hit_1 : y_chk gL_0 gk_X12_hit_1 gq_X12_hit_1 4000 0 = true := by decide +kernel
def gk_X11_hit_1 : YCt := (194, [.inr (.inr (0, (0, 0), (0, 0))), .inl ((-2147483648), 2147483647), .inl ((-2147483648), 0)], ([(17, 0, 5, .inl (1, 1))], []), [], [(some (.inl ((-2147483648), 2147483647)), [])], 2)
def gq_X11_hit_1 : List YCut := []
theorem gt_X11_hit_1 : y_chk gL_0 gk_X11_hit_1 gq_X11_hit_1 4000 0 = true := by decide +kernel
def gk_X12_hit_2 : YCt := (306, [.inr (.inr (33, (0, 0), (0, 0))), .inl ((-2147483648), 2147483647), .inl ((-2147483648), 0)], ([(48, 0, 272, .inl (2, 2))], []), [], [(some (.inl ((-2147483648), 2147483647)), [])], 2)
def gq_X12_hit_2 : List YCut := []
theorem gt_X12_hit_2 : y_chk gL_0 gk_X12_hit_2 gq_X12_hit_2 4000 0 = true := by decide +kernel
def gk_X11_hit_2 : YCt := (194, [.inr (.inr (0, (0, 0), (0, 0))), .inl ((-2147483648), 2147483647), .inl ((-2147483648), 0)], ([(17, 0, 5, .inl (2, 2))], []), [], [(some (.inl ((-2147483648), 2147483647)), [])], 2)
def gq_X11_hit_2 : List YCut := []
theorem gt_X11_hit_2 : y_chk gL_0 gk_X11_hit_2 gq_X11_hit_2 4000 0 = true := by decide +kernel
def gk_X12_hit_3 : YCt := (306, [.inr (.inr (33, (0, 0), (0, 0))), .inl ((-2147483648), 2147483647), .inl ((-2147483648), 0)], ([(48, 0, 272, .inl (3, 3))], []), [], [(some (.inl ((-2147483648), 2147483647)), [])], 2)
def gq_X12_hit_3 : List YCut := []
theorem gt_X12_hit_3 : y_chk gL_0 gk_X12_hit_3 gq_X12_hit_3 4000 0 = true := by decide +kernel
def gk_X11_hit_3 : YCt := (194, [.inr (.inr (0, (0, 0), (0, 0))), .inl ((-2147483648), 2147483647), .inl ((-2147483648), 0)], ([(17, 0, 5, .inl (3, 3))], []), [], [(some (.inl ((-2147483648), 2147483647)), [])], 2)
def gq_X11_hit_3 : List YCut := []
theorem gt_X11_hit_3 : y_chk gL_0 gk_X11_hit_3 gq_X11_hit_3 4000 0 = true := by decide +kernel
def gk_X12_hit_4 : YCt := (306, [.inr (.inr (33, (0, 0), (0, 0))), .inl ((-2147483648), 2147483647), .inl ((-2147483648), 0)], ([(48, 0, 272, .inl (4, 4))], []), [], [(some (.inl ((-2147483648), 2147483647)), [])], 2)
def gq_X12_hit_4 : List YCut := []
theorem gt_X12_hit_4 : y_chk gL_0 gk_X12_hit_4 gq_X12_hit_4 4000 0 = true := by decide +kernel
def gk_X11_hit_4 : YCt := (194, [.inr (.inr (0, (0, 0), (0, 0))), .inl ((-2147483648), 2147483647), .inl ((-2147483648), 0)], ([(17, 0, 5, .inl (4, 4))], []), [], [(some (.inl ((-2147483648), 2147483647)), [])], 2)
def gq_X11_hit_4 : List YCut := []
theorem gt_X11_hit_4 : y_chk gL_0 gk_X11_hit_4 gq_X11_hit_4 4000 0 = true := by decide +kernel
def gk_X12_hit_5 : YCt := (306, [.inr (.inr (33, (0, 0), (0, 0))), .inl ((-2147483648), 2147483647), .inl ((-2147483648), 0)], ([(48, 0, 272, .inl (5, 5))], []), [], [(some (.inl ((-2147483648), 2147483647)), [])], 2)
def gq_X12_hit_5 : List YCut := []
theorem gt_X12_hit_5 : y_chk gL_0 gk_X12_hit_5 gq_X12_hit_5 4000 0 = true := by decide +kernel
def gk_X11_hit_5 : YCt := (194, [.inr (.inr (0, (0, 0), (0, 0))), .inl ((-2147483648), 2147483647), .inl ((-2147483648), 0)], ([(17, 0, 5, .inl (5, 5))], []), [], [(some (.inl ((-2147483648), 2147483647)), [])], 2)
def gq_X11_hit_5 : List YCut := []
theorem gt_X11_hit_5 : y_chk gL_0 gk_X11_hit_5 gq_X11_hit_5 4000 0 = true := by decide +kernel
def gk_X12_hit_6 : YCt := (306, [.inr (.inr (33, (0, 0), (0, 0))), .inl ((-2147483648), 2147483647), .inl ((-2147483648), 0)], ([(48, 0, 272, .inl (6, 6))], []), [], [(some (.inl ((-2147483648), 2147483647)), [])], 2)
def gq_X12_hit_6 : List YCut := []
theorem gt_X12_hit_6 : y_chk gL_0 gk_X12_hit_6 gq_X12_hit_6 4000 0 = true := by decide +kernel
def gk_X11_hit_6 : YCt := (194, [.inr (.inr (0, (0, 0), (0, 0))), .inl ((-2147483648), 2147483647), .inl ((-2147483648), 0)], ([(17, 0, 5, .inl (6, 6))], []), [], [(some (.inl ((-2147483648), 2147483647)), [])], 2)
def gq_X11_hit_6 : List YCut := []
theorem gt_X11_hit_6 : y_chk gL_0 gk_X11_hit_6 gq_X11_hit_6 4000 0 = true := by decide +kernel
def gk_X12_hit_7 : YCt := (306, [.inr (.inr (33, (0, 0), (0, 0))), .inl ((-2147483648), 2147483647), .inl ((-2147483648), 0)], ([(48, 0, 272, .inl (7, 7))], []), [], [(some (.inl ((-2147483648), 2147483647)), [])], 2)
def gq_X12_hit_7 : List YCut := []
theorem gt_X12_hit_7 : y_chk gL_0 gk_X12_hit_7 gq_X12_hit_7 4000 0 = true := by decide +kernel
def gk_X11_hit_7 : YCt := (194, [.inr (.inr (0, (0, 0), (0, 0))), .inl ((-2147483648), 2147483647), .inl ((-2147483648), 0)], ([(17, 0, 5, .inl (7, 7))], []), [], [(some (.inl ((-2147483648), 2147483647)), [])], 2)
def gq_X11_hit_7 : List YCut := []
theorem gt_X11_hit_7 : y_chk gL_0 gk_X11_hit_7 gq_X11_hit_7 4000 0 = true := by decide +kernel
def gk_X12_hit_8 : YCt := (306, [.inr (.inr (33, (0, 0), (0, 0))), .inl ((-2147483648), 2147483647), .inl ((-2147483648), 0)], ([(48, 0, 272, .inl (8, 8))], []), [], [(some (.inl ((-2147483648), 2147483647)), [])], 2)
def gq_X12_hit_8 : List YCut := []
theorem gt_X12_hit_8 : y_chk gL_0 gk_X12_hit_8 gq_X12_hit_8 4000 0 = true := by decide +kernel
def gk_X11_hit_8 : YCt := (194, [.inr (.inr (0, (0, 0), (0, 0))), .inl ((-2147483648), 2147483647), .inl ((-2147483648), 0)], ([(17, 0, 5, .inl (8, 8))], []), [], [(some (.inl ((-2147483648), 2147483647)), [])], 2)
def gq_X11_hit_8 : List YCut := []
theorem gt_X11_hit_8 : y_chk gL_0 gk_X11_hit_8 gq_X11_hit_8 4000 0 = true := by decide +kernel
def gk_X12_hit_9 : YCt := (306, [.inr (.inr (33, (0, 0), (0, 0))), .inl ((-2147483648), 2147483647), .inl ((-2147483648), 0)], ([(48, 0, 272, .inl (9, 9))], []), [], [(some (.inl ((-2147483648), 2147483647)), [])], 2)
def gq_X12_hit_9 : List YCut := []
theorem gt_X12_hit_9 : y_chk gL_0 gk_X12_hit_9 gq_X12_hit_9 4000 0 = true := by decide +kernel
def gk_X11_hit_9 : YCt := (194, [.inr (.inr (0, (0, 0), (0, 0))), .inl ((-2147483648), 2147483647), .inl ((-2147483648), 0)], ([(17, 0, 5, .inl (9, 9))], []), [], [(some (.inl ((-2147483648), 2147483647)), [])], 2)
def gq_X11_hit_9 : List YCut := []
theorem gt_X11_hit_9 : y_chk gL_0 gk_X11_hit_9 gq_X11_hit_9 4000 0 = true := by decide +kernel
def gk_X12_hit_10 : YCt := (306, [.inr (.inr (33, (0, 0), (0, 0))), .inl ((-2147483648), 2147483647), .inl ((-2147483648), 0)], ([(48, 0, 272, .inl (10, 10))], []), [], [(some (.inl ((-2147483648), 2147483647)), [])], 2)
def gq_X12_hit_10 : List YCut := []
theorem gt_X12_hit_10 : y_chk gL_0 gk_X12_hit_10 gq_X12_hit_10 4000 0 = true := by decide +kernel
def gk_X11_hit_10 : YCt := (194, [.inr (.inr (0, (0, 0), (0, 0))), .inl ((-2147483648), 2147483647), .inl ((-2147483648), 0)], ([(17, 0, 5, .inl (10, 10))], []), [], [(some (.inl ((-2147483648), 2147483647)), [])], 2)
def gq_X11_hit_10 : List YCut := []
theorem gt_X11_hit_10 : y_chk gL_0 gk_X11_hit_10 gq_X11_hit_10 4000 0 = true := by decide +kernel
def gk_X12_hit_11 : YCt := (306, [.inr (.inr (33, (0, 0), (0, 0))), .inl ((-2147483648), 2147483647), .inl ((-2147483648), 0)], ([(48, 0, 272, .inl (11, 11))], []), [], [(some (.inl ((-2147483648), 2147483647)), [])], 2)
def gq_X12_hit_11 : List YCut := []
theorem gt_X12_hit_11 : y_chk gL_0 gk_X12_hit_11 gq_X12_hit_11 4000 0 = true := by decide +kernel
def gk_X11_hit_11 : YCt := (194, [.inr (.inr (0, (0, 0), (0, 0))), .inl ((-2147483648), 2147483647), .inl ((-2147483648), 0)], ([(17, 0, 5, .inl (11, 11))], []), [], [(some (.inl ((-2147483648), 2147483647)), [])], 2)
def gq_X11_hit_11 : List YCut := []
theorem gt_X11_hit_11 : y_chk gL_0 gk_X11_hit_11 gq_X11_hit_11 4000 0 = true := by decide +kernel
def gk_X12_hit_12 : YCt := (306, [.inr (.inr (33, (0, 0), (0, 0))), .inl ((-2147483648), 2147483647), .inl ((-2147483648), 0)], ([(48, 0, 272, .inl (12, 12))], []), [], [(some (.inl ((-2147483648), 2147483647)), [])], 2)
def gq_X12_hit_12 : List YCut := []
theorem gt_X12_hit_12 : y_chk gL_0 gk_X12_hit_12 gq_X12_hit_12 4000 0 = true := by decide +kernel
def gk_X11_hit_12 : YCt := (194, [.inr (.inr (0, (0, 0), (0, 0))), .inl ((-2147483648), 2147483647), .inl ((-2147483648), 0)], ([(17, 0, 5, .inl (12, 12))], []), [], [(some (.inl ((-2147483648), 2147483647)), [])], 2)
def gq_X11_hit_12 : List YCut := []
theorem gt_X11_hit_12 : y_chk gL_0 gk_X11_hit_12 gq_X11_hit_12 4000 0 = true := by decide +kernel
def gk_X12_hit_13 : YCt := (306, [.inr (.inr (33, (0, 0), (0, 0))), .inl ((-2147483648), 2147483647), .inl ((-2147483648), 0)], ([(48, 0, 272, .inl (13, 13))], []), [], [(some (.inl ((-2147483648), 2147483647)), [])], 2)
def gq_X12_hit_13 : List YCut := []
theorem gt_X12_hit_13 : y_chk gL_0 gk_X12_hit_13 gq_X12_hit_13 4000 0 = true := by decide +kernel
def gk_X11_hit_13 : YCt := (194, [.inr (.inr (0, (0, 0), (0, 0))), .inl ((-2147483648), 2147483647), .inl ((-2147483648), 0)], ([(17, 0, 5, .inl (13, 13))], []), [], [(some (.inl ((-2147483648), 2147483647)), [])], 2)
def gq_X11_hit_13 : List YCut := []
theorem gt_X11_hit_13 : y_chk gL_0 gk_X11_hit_13 gq_X11_hit_13 4000 0 = true := by decide +kernel
def gk_X12_hit_14 : YCt := (306, [.inr (.inr (33, (0, 0), (0, 0))), .inl ((-2147483648), 2147483647), .inl ((-2147483648), 0)], ([(48, 0, 272, .inl (14, 14))], []), [], [(some (.inl ((-2147483648), 2147483647)), [])], 2)
def gq_X12_hit_14 : List YCut := []
theorem gt_X12_hit_14 : y_chk gL_0 gk_X12_hit_14 gq_X12_hit_14 4000 0 = true := by decide +kernel
def gk_X11_hit_14 : YCt := (194, [.inr (.inr (0, (0, 0), (0, 0))), .inl ((-2147483648), 2147483647), .inl ((-2147483648), 0)], ([(17, 0, 5, .inl (14, 14))], []), [], [(some (.inl ((-2147483648), 2147483647)), [])], 2)
def gq_X11_hit_14 : List YCut := []
theorem gt_X11_hit_14 : y_chk gL_0 gk_X11_hit_14 gq_X11_hit_14 4000 0 = true := by decide +kernel
def gk_X12_hit_15 : YCt := (306, [.inr (.inr (33, (0, 0), (0, 0))), .inl ((-2147483648), 2147483647), .inl ((-2147483648), 0)], ([(48, 0, 272, .inl (15, 15))], []), [], [(some (.inl ((-2147483648), 2147483647)), [])], 2)
def gq_X12_hit_15 : List YCut := []
theorem gt_X12_hit_15 : y_chk gL_0 gk_X12_hit_15 gq_X12_hit_15 4000 0 = true := by decide +kernel
def gk_X11_hit_15 : YCt := (194, [.inr (.inr (0, (0, 0), (0, 0))), .inl ((-2147483648), 2147483647), .inl ((-2147483648), 0)], ([(17, 0, 5, .inl (15, 15))], []), [], [(some (.inl ((-2147483648), 2147483647)), [])], 2)
def gq_X11_hit_15 : List YCut := []
theorem gt_X11_hit_15 : y_chk gL_0 gk_X11_hit_15 gq_X11_hit_15 4000 0 = true := by decide +kernel
def gk_X12_hit_16 : YCt := (306, [.inr (.inr (33, (0, 0), (0, 0))), .inl ((-2147483648), 2147483647), .inl ((-2147483648), 0)], ([(48, 0, 272, .inl (16, 16))], []), [], [(some (.inl ((-2147483648), 2147483647)), [])], 2)
def gq_X12_hit_16 : List YCut := []
theorem gt_X12_hit_16 : y_chk gL_0 gk_X12_hit_16 gq_X12_hit_16 4000 0 = true := by decide +kernel
def gk_X11_hit_16 : YCt := (194, [.inr (.inr (0, (0, 0), (0, 0))), .inl ((-2147483648), 2147483647), .inl ((-2147483648), 0)], ([(17, 0, 5, .inl (16, 16))], []), [], [(some (.inl ((-2147483648), 2147483647)), [])], 2)
def gq_X11_hit_16 : List YCut := []
theorem gt_X11_hit_16 : y_chk gL_0 gk_X11_hit_16 gq_X11_hit_16 4000 0 = true := by decide +kernel
def gk_X12_hit_17 : YCt := (306, [.inr (.inr (33, (0, 0), (0, 0))), .inl ((-2147483648), 2147483647), .inl ((-2147483648), 0)], ([(48, 0, 272, .inl (17, 17))], []), [], [(some (.inl ((-2147483648), 2147483647)), [])], 2)
def gq_X12_hit_17 : List YCut := []
theorem gt_X12_hit_17 : y_chk gL_0 gk_X12_hit_17 gq_X12_hit_17 4000 0 = true := by decide +kernel
def gk_X11_hit_17 : YCt := (194, [.inr (.inr (0, (0, 0), (0, 0))), .inl ((-2147483648), 2147483647), .inl ((-2147483648), 0)], ([(17, 0, 5, .inl (17, 17))], []), [], [(some (.inl ((-2147483648), 2147483647)), [])], 2)
def gq_X11_hit_17 : List YCut := []
theorem gt_X11_hit_17 : y_chk gL_0 gk_X11_hit_17 gq_X11_hit_17 4000 0 = true := by decide +kernel
def gk_X12_hit_18 : YCt := (306, [.inr (.inr (33, (0, 0), (0, 0))), .inl ((-2147483648), 2147483647), .inl ((-2147483648), 0)], ([(48, 0, 272, .inl (18, 18))], []), [], [(some (.inl ((-2147483648), 2147483647)), [])], 2)
def gq_X12_hit_18 : List YCut := []
theorem gt_X12_hit_18 : y_chk gL_0 gk_X12_hit_18 gq_X12_hit_18 4000 0 = true := by decide +kernel
def gk_X11_hit_18 : YCt := (194, [.inr (.inr (0, (0, 0), (0, 0))), .inl ((-2147483648), 2147483647), .inl ((-2147483648), 0)], ([(17, 0, 5, .inl (18, 18))], []), [], [(some (.inl ((-2147483648), 2147483647)), [])], 2)
def gq_X11_hit_18 : List YCut := []
theorem gt_X11_hit_18 : y_chk gL_0 gk_X11_hit_18 gq_X11_hit_18 4000 0 = true := by decide +kernel
def gk_X12_hit_19 : YCt := (306, [.inr (.inr (33, (0, 0), (0, 0))), .inl ((-2147483648), 2147483647), .inl ((-2147483648), 0)], ([(48, 0, 272, .inl (19, 19))], []), [], [(some (.inl ((-2147483648), 2147483647)), [])], 2)
def gq_X12_hit_19 : List YCut := []
theorem gt_X12_hit_19 : y_chk gL_0 gk_X12_hit_19 gq_X12_hit_19 4000 0 = true := by decide +kernel
def gk_X11_hit_19 : YCt := (194, [.inr (.inr (0, (0, 0), (0, 0))), .inl ((-2147483648), 2147483647), .inl ((-2147483648), 0)], ([(17, 0, 5, .inl (19, 19))], []), [], [(some (.inl ((-2147483648), 2147483647)), [])], 2)
def gq_X11_hit_19 : List YCut := []
theorem gt_X11_hit_19 : y_chk gL_0 gk_X11_hit_19 gq_X11_hit_19 4000 0 = true := by decide +kernel
def gk_X12_hit_20 : YCt := (306, [.inr (.inr (33, (0, 0), (0, 0))), .inl ((-2147483648), 2147483647), .inl ((-2147483648), 0)], ([(48, 0, 272, .inl (20, 20))], []), [], [(some (.inl ((-2147483648), 2147483647)), [])], 2)
def gq_X12_hit_20 : List YCut := []
theorem gt_X12_hit_20 : y_chk gL_0 gk_X12_hit_20 gq_X12_hit_20 4000 0 = true := by decide +kernel
def gk_X11_hit_20 : YCt := (194, [.inr (.inr (0, (0, 0), (0, 0))), .inl ((-2147483648), 2147483647), .inl ((-2147483648), 0)], ([(17, 0, 5, .inl (20, 20))], []), [], [(some (.inl ((-2147483648), 2147483647)), [])], 2)
def gq_X11_hit_20 : List YCut := []
theorem gt_X11_hit_20 : y_chk gL_0 gk_X11_hit_20 gq_X11_hit_20 4000 0 = true := by decide +kernel
def gk_X12_hit_21 : YCt := (306, [.inr (.inr (33, (0, 0), (0, 0))), .inl ((-2147483648), 2147483647), .inl (1, 1)], ([(48, 0, 272, .inl (0, 0))], []), [], [(some (.inl ((-2147483648), 2147483647)), [])], 2)
def gq_X12_hit_21 : List YCut := []
theorem gt_X12_hit_21 : y_chk gL_0 gk_X12_hit_21 gq_X12_hit_21 4000 0 = true := by decide +kernel
def gk_X11_hit_21 : YCt := (194, [.inr (.inr (0, (0, 0), (0, 0))), .inl ((-2147483648), 2147483647), .inl (1, 1)], ([(17, 0, 5, .inl (0, 0))], []), [], [(some (.inl ((-2147483648), 2147483647)), [])], 2)
def gq_X11_hit_21 : List YCut := []
theorem gt_X11_hit_21 : y_chk gL_0 gk_X11_hit_21 gq_X11_hit_21 4000 0 = true := by decide +kernel
def gk_X12_hit_22 : YCt := (306, [.inr (.inr (33, (0, 0), (0, 0))), .inl ((-2147483648), 2147483647), .inl (1, 1)], ([(48, 0, 272, .inl (1, 1))], []), [], [(some (.inl ((-2147483648), 2147483647)), [])], 2)
def gq_X12_hit_22 : List YCut := [(45, [some (.inr (.inr (33, (0, 0), (0, 0)))), some (.inl (0, 999)), some (.inl (1, 1)), some (.inl ((-2147483648), 2147483647)), some (.inl (0, 1)), none], [(48, 0, 272, .inl (1, 1))], [.inl 1, .inr (.inl (false, 4))])]
theorem gt_X12_hit_22 : y_chk gL_0 gk_X12_hit_22 gq_X12_hit_22 4000 2 = true := by decide +kernel
def gk_X12_hit_23 : YCt := (306, [.inr (.inr (33, (0, 0), (0, 0))), .inl ((-2147483648), 2147483647), .inl (1, 1)], ([(48, 0, 272, .inl (2, 2))], []), [], [(some (.inl ((-2147483648), 2147483647)), [])], 2)
def gq_X12_hit_23 : List YCut := [(45, [some (.inr (.inr (33, (0, 0), (0, 0)))), some (.inl (0, 999)), some (.inl (1, 1)), some (.inl ((-2147483648), 2147483647)), some (.inl (0, 2)), none], [(48, 0, 272, .inl (2, 2))], [.inl 1, .inr (.inl (false, 4))])]
theorem gt_X12_hit_23 : y_chk gL_0 gk_X12_hit_23 gq_X12_hit_23 4000 2 = true := by decide +kernel
def gk_X12_hit_24 : YCt := (306, [.inr (.inr (33, (0, 0), (0, 0))), .inl ((-2147483648), 2147483647), .inl (1, 1)], ([(48, 0, 272, .inl (3, 3))], []), [], [(some (.inl ((-2147483648), 2147483647)), [])], 2)
def gq_X12_hit_24 : List YCut := [(45, [some (.inr (.inr (33, (0, 0), (0, 0)))), some (.inl (0, 999)), some (.inl (1, 1)), some (.inl ((-2147483648), 2147483647)), some (.inl (0, 3)), none], [(48, 0, 272, .inl (3, 3))], [.inl 1, .inr (.inl (false, 4))])]
theorem gt_X12_hit_24 : y_chk gL_0 gk_X12_hit_24 gq_X12_hit_24 4000 2 = true := by decide +kernel
def gk_X12_hit_25 : YCt := (306, [.inr (.inr (33, (0, 0), (0, 0))), .inl ((-2147483648), 2147483647), .inl (1, 1)], ([(48, 0, 272, .inl (4, 4))], []), [], [(some (.inl ((-2147483648), 2147483647)), [])], 2)
def gq_X12_hit_25 : List YCut := [(45, [some (.inr (.inr (33, (0, 0), (0, 0)))), some (.inl (0, 999)), some (.inl (1, 1)), some (.inl ((-2147483648), 2147483647)), some (.inl (0, 4)), none], [(48, 0, 272, .inl (4, 4))], [.inl 1, .inr (.inl (false, 4))])]
theorem gt_X12_hit_25 : y_chk gL_0 gk_X12_hit_25 gq_X12_hit_25 4000 2 = true := by decide +kernel
def gk_X12_hit_26 : YCt := (306, [.inr (.inr (33, (0, 0), (0, 0))), .inl ((-2147483648), 2147483647), .inl (1, 1)], ([(48, 0, 272, .inl (5, 5))], []), [], [(some (.inl ((-2147483648), 2147483647)), [])], 2)
def gq_X12_hit_26 : List YCut := [(45, [some (.inr (.inr (33, (0, 0), (0, 0)))), some (.inl (0, 999)), some (.inl (1, 1)), some (.inl ((-2147483648), 2147483647)), some (.inl (0, 5)), none], [(48, 0, 272, .inl (5, 5))], [.inl 1, .inr (.inl (false, 4))])]
theorem gt_X12_hit_26 : y_chk gL_0 gk_X12_hit_26 gq_X12_hit_26 4000 2 = true := by decide +kernel
def gk_X12_hit_27 : YCt := (306, [.inr (.inr (33, (0, 0), (0, 0))), .inl ((-2147483648), 2147483647), .inl (1, 1)], ([(48, 0, 272, .inl (6, 6))], []), [], [(some (.inl ((-2147483648), 2147483647)), [])], 2)
def gq_X12_hit_27 : List YCut := [(45, [some (.inr (.inr (33, (0, 0), (0, 0)))), some (.inl (0, 999)), some (.inl (1, 1)), some (.inl ((-2147483648), 2147483647)), some (.inl (0, 6)), none], [(48, 0, 272, .inl (6, 6))], [.inl 1, .inr (.inl (false, 4))])]
theorem gt_X12_hit_27 : y_chk gL_0 gk_X12_hit_27 gq_X12_hit_27 4000 2 = true := by decide +kernel
def gk_X12_hit_28 : YCt := (306, [.inr (.inr (33, (0, 0), (0, 0))), .inl ((-2147483648), 2147483647), .inl (1, 1)], ([(48, 0, 272, .inl (7, 7))], []), [], [(some (.inl ((-2147483648), 2147483647)), [])], 2)
def gq_X12_hit_28 : List YCut := [(45, [some (.inr (.inr (33, (0, 0), (0, 0)))), some (.inl (0, 999)), some (.inl (1, 1)), some (.inl ((-2147483648), 2147483647)), some (.inl (0, 7)), none], [(48, 0, 272, .inl (7, 7))], [.inl 1, .inr (.inl (false, 4))])]
theorem gt_X12_hit_28 : y_chk gL_0 gk_X12_hit_28 gq_X12_hit_28 4000 2 = true := by decide +kernel
def gk_X12_hit_29 : YCt := (306, [.inr (.inr (33, (0, 0), (0, 0))), .inl ((-2147483648), 2147483647), .inl (1, 1)], ([(48, 0, 272, .inl (8, 8))], []), [], [(some (.inl ((-2147483648), 2147483647)), [])], 2)
def gq_X12_hit_29 : List YCut := [(45, [some (.inr (.inr (33, (0, 0), (0, 0)))), some (.inl (0, 999)), some (.inl (1, 1)), some (.inl ((-2147483648), 2147483647)), some (.inl (0, 8)), none], [(48, 0, 272, .inl (8, 8))], [.inl 1, .inr (.inl (false, 4))])]
theorem gt_X12_hit_29 : y_chk gL_0 gk_X12_hit_29 gq_X12_hit_29 4000 2 = true := by decide +kernel
def gk_X12_hit_30 : YCt := (306, [.inr (.inr (33, (0, 0), (0, 0))), .inl ((-2147483648), 2147483647), .inl (1, 1)], ([(48, 0, 272, .inl (9, 9))], []), [], [(some (.inl ((-2147483648), 2147483647)), [])], 2)
def gq_X12_hit_30 : List YCut := [(45, [some (.inr (.inr (33, (0, 0), (0, 0)))), some (.inl (0, 999)), some (.inl (1, 1)), some (.inl ((-2147483648), 2147483647)), some (.inl (0, 9)), none], [(48, 0, 272, .inl (9, 9))], [.inl 1, .inr (.inl (false, 4))])]
theorem gt_X12_hit_30 : y_chk gL_0 gk_X12_hit_30 gq_X12_hit_30 4000 2 = true := by decide +kernel
def gk_X12_hit_31 : YCt := (306, [.inr (.inr (33, (0, 0), (0, 0))), .inl ((-2147483648), 2147483647), .inl (1, 1)], ([(48, 0, 272, .inl (10, 10))], []), [], [(some (.inl ((-2147483648), 2147483647)), [])], 2)
def gq_X12_hit_31 : List YCut := [(45, [some (.inr (.inr (33, (0, 0), (0, 0)))), some (.inl (0, 999)), some (.inl (1, 1)), some (.inl ((-2147483648), 2147483647)), some (.inl (0, 10)), none], [(48, 0, 272, .inl (10, 10))], [.inl 1, .inr (.inl (false, 4))])]
theorem gt_X12_hit_31 : y_chk gL_0 gk_X12_hit_31 gq_X12_hit_31 4000 2 = true := by decide +kernel
def gk_X12_hit_32 : YCt := (306, [.inr (.inr (33, (0, 0), (0, 0))), .inl ((-2147483648), 2147483647), .inl (1, 1)], ([(48, 0, 272, .inl (11, 11))], []), [], [(some (.inl ((-2147483648), 2147483647)), [])], 2)
def gq_X12_hit_32 : List YCut := [(45, [some (.inr (.inr (33, (0, 0), (0, 0)))), some (.inl (0, 999)), some (.inl (1, 1)), some (.inl ((-2147483648), 2147483647)), some (.inl (0, 11)), none], [(48, 0, 272, .inl (11, 11))], [.inl 1, .inr (.inl (false, 4))])]
theorem gt_X12_hit_32 : y_chk gL_0 gk_X12_hit_32 gq_X12_hit_32 4000 2 = true := by decide +kernel
def gk_X12_hit_33 : YCt := (306, [.inr (.inr (33, (0, 0), (0, 0))), .inl ((-2147483648), 2147483647), .inl (1, 1)], ([(48, 0, 272, .inl (12, 12))], []), [], [(some (.inl ((-2147483648), 2147483647)), [])], 2)
def gq_X12_hit_33 : List YCut := [(45, [some (.inr (.inr (33, (0, 0), (0, 0)))), some (.inl (0, 999)), some (.inl (1, 1)), some (.inl ((-2147483648), 2147483647)), some (.inl (0, 12)), none], [(48, 0, 272, .inl (12, 12))], [.inl 1, .inr (.inl (false, 4))])]
theorem gt_X12_hit_33 : y_chk gL_0 gk_X12_hit_33 gq_X12_hit_33 4000 2 = true := by decide +kernel
def gk_X12_hit_34 : YCt := (306, [.inr (.inr (33, (0, 0), (0, 0))), .inl ((-2147483648), 2147483647), .inl (1, 1)], ([(48, 0, 272, .inl (13, 13))], []), [], [(some (.inl ((-2147483648), 2147483647)), [])], 2)
def gq_X12_hit_34 : List YCut := [(45, [some (.inr (.inr (33, (0, 0), (0, 0)))), some (.inl (0, 999)), some (.inl (1, 1)), some (.inl ((-2147483648), 2147483647)), some (.inl (0, 13)), none], [(48, 0, 272, .inl (13, 13))], [.inl 1, .inr (.inl (false, 4))])]
theorem gt_X12_hit_34 : y_chk gL_0 gk_X12_hit_34 gq_X12_hit_34 4000 2 = true := by decide +kernel
def gk_X12_hit_35 : YCt := (306, [.inr (.inr (33, (0, 0), (0, 0))), .inl ((-2147483648), 2147483647), .inl (1, 1)], ([(48, 0, 272, .inl (14, 14))], []), [], [(some (.inl ((-2147483648), 2147483647)), [])], 2)
def gq_X12_hit_35 : List YCut := [(45, [some (.inr (.inr (33, (0, 0), (0, 0)))), some (.inl (0, 999)), some (.inl (1, 1)), some (.inl ((-2147483648), 2147483647)), some (.inl (0, 14)), none], [(48, 0, 272, .inl (14, 14))], [.inl 1, .inr (.inl (false, 4))])]
theorem gt_X12_hit_35 : y_chk gL_0 gk_X12_hit_35 gq_X12_hit_35 4000 2 = true := by decide +kernel
def gk_X12_hit_36 : YCt := (306, [.inr (.inr (33, (0, 0), (0, 0))), .inl ((-2147483648), 2147483647), .inl (1, 1)], ([(48, 0, 272, .inl (15, 15))], []), [], [(some (.inl ((-2147483648), 2147483647)), [])], 2)
def gq_X12_hit_36 : List YCut := [(45, [some (.inr (.inr (33, (0, 0), (0, 0)))), some (.inl (0, 999)), some (.inl (1, 1)), some (.inl ((-2147483648), 2147483647)), some (.inl (0, 15)), none], [(48, 0, 272, .inl (15, 15))], [.inl 1, .inr (.inl (false, 4))])]
theorem gt_X12_hit_36 : y_chk gL_0 gk_X12_hit_36 gq_X12_hit_36 4000 2 = true := by decide +kernel
def gk_X12_hit_37 : YCt := (306, [.inr (.inr (33, (0, 0), (0, 0))), .inl ((-2147483648), 2147483647), .inl (1, 1)], ([(48, 0, 272, .inl (16, 16))], []), [], [(some (.inl ((-2147483648), 2147483647)), [])], 2)
def gq_X12_hit_37 : List YCut := [(45, [some (.inr (.inr (33, (0, 0), (0, 0)))), some (.inl (0, 999)), some (.inl (1, 1)), some (.inl ((-2147483648), 2147483647)), some (.inl (0, 16)), none], [(48, 0, 272, .inl (16, 16))], [.inl 1, .inr (.inl (false, 4))])]
theorem gt_X12_hit_37 : y_chk gL_0 gk_X12_hit_37 gq_X12_hit_37 4000 2 = true := by decide +kernel
def gk_X12_hit_38 : YCt := (306, [.inr (.inr (33, (0, 0), (0, 0))), .inl ((-2147483648), 2147483647), .inl (1, 1)], ([(48, 0, 272, .inl (17, 17))], []), [], [(some (.inl ((-2147483648), 2147483647)), [])], 2)
def gq_X12_hit_38 : List YCut := [(45, [some (.inr (.inr (33, (0, 0), (0, 0)))), some (.inl (0, 999)), some (.inl (1, 1)), some (.inl ((-2147483648), 2147483647)), some (.inl (0, 17)), none], [(48, 0, 272, .inl (17, 17))], [.inl 1, .inr (.inl (false, 4))])]
theorem gt_X12_hit_38 : y_chk gL_0 gk_X12_hit_38 gq_X12_hit_38 4000 2 = true := by decide +kernel
def gk_X12_hit_39 : YCt := (306, [.inr (.inr (33, (0, 0), (0, 0))), .inl ((-2147483648), 2147483647), .inl (1, 1)], ([(48, 0, 272, .inl (18, 18))], []), [], [(some (.inl ((-2147483648), 2147483647)), [])], 2)
def gq_X12_hit_39 : List YCut := [(45, [some (.inr (.inr (33, (0, 0), (0, 0)))), some (.inl (0, 999)), some (.inl (1, 1)), some (.inl ((-2147483648), 2147483647)), some (.inl (0, 18)), none], [(48, 0, 272, .inl (18, 18))], [.inl 1, .inr (.inl (false, 4))])]
theorem gt_X12_hit_39 : y_chk gL_0 gk_X12_hit_39 gq_X12_hit_39 4000 2 = true := by decide +kernel
def gk_X12_hit_40 : YCt := (306, [.inr (.inr (33, (0, 0), (0, 0))), .inl ((-2147483648), 2147483647), .inl (1, 1)], ([(48, 0, 272, .inl (19, 19))], []), [], [(some (.inl ((-2147483648), 2147483647)), [])], 2)
def gq_X12_hit_40 : List YCut := [(45, [some (.inr (.inr (33, (0, 0), (0, 0)))), some (.inl (0, 999)), some (.inl (1, 1)), some (.inl ((-2147483648), 2147483647)), some (.inl (0, 19)), none], [(48, 0, 272, .inl (19, 19))], [.inl 1, .inr (.inl (false, 4))])]
theorem gt_X12_hit_40 : y_chk gL_0 gk_X12_hit_40 gq_X12_hit_40 4000 2 = true := by decide +kernel
def gk_X12_hit_41 : YCt := (306, [.inr (.inr (33, (0, 0), (0, 0))), .inl ((-2147483648), 2147483647), .inl (1, 1)], ([(48, 0, 272, .inl (20, 20))], []), [], [(some (.inl ((-2147483648), 2147483647)), [])], 2)
def gq_X12_hit_41 : List YCut := [(45, [some (.inr (.inr (33, (0, 0), (0, 0)))), some (.inl (0, 999)), some (.inl (1, 1)), some (.inl ((-2147483648), 2147483647)), some (.inl (0, 20)), none], [(48, 0, 272, .inl (20, 20))], [.inl 1, .inr (.inl (false, 4))])]
theorem gt_X12_hit_41 : y_chk gL_0 gk_X12_hit_41 gq_X12_hit_41 4000 2 = true := by decide +kernel
def gk_X12_hit_42 : YCt := (306, [.inr (.inr (33, (0, 0), (0, 0))), .inl ((-2147483648), 2147483647), .inl (2, 2)], ([(48, 0, 272, .inl (0, 0))], []), [], [(some (.inl ((-2147483648), 2147483647)), [])], 2)
def gq_X12_hit_42 : List YCut := []
theorem gt_X12_hit_42 : y_chk gL_0 gk_X12_hit_42 gq_X12_hit_42 4000 0 = true := by decide +kernel
def gk_X11_hit_42 : YCt := (194, [.inr (.inr (0, (0, 0), (0, 0))), .inl ((-2147483648), 2147483647), .inl (2, 2)], ([(17, 0, 5, .inl (0, 0))], []), [], [(some (.inl ((-2147483648), 2147483647)), [])], 2)
def gq_X11_hit_42 : List YCut := []
theorem gt_X11_hit_42 : y_chk gL_0 gk_X11_hit_42 gq_X11_hit_42 4000 0 = true := by decide +kernel
def gk_X12_hit_43 : YCt := (306, [.inr (.inr (33, (0, 0), (0, 0))), .inl ((-2147483648), 2147483647), .inl (2, 2)], ([(48, 0, 272, .inl (1, 1))], []), [], [(some (.inl ((-2147483648), 2147483647)), [])], 2)
def gq_X12_hit_43 : List YCut := []
theorem gt_X12_hit_43 : y_chk gL_0 gk_X12_hit_43 gq_X12_hit_43 4000 0 = true := by decide +kernel
def gk_X11_hit_43 : YCt := (194, [.inr (.inr (0, (0, 0), (0, 0))), .inl ((-2147483648), 2147483647), .inl (2, 2)], ([(17, 0, 5, .inl (1, 1))], []), [], [(some (.inl ((-2147483648), 2147483647)), [])], 2)
def gq_X11_hit_43 : List YCut := []
theorem gt_X11_hit_43 : y_chk gL_0 gk_X11_hit_43 gq_X11_hit_43 4000 0 = true := by decide +kernel
def gk_X12_hit_44 : YCt := (306, [.inr (.inr (33, (0, 0), (0, 0))), .inl ((-2147483648), 2147483647), .inl (2, 2)], ([(48, 0, 272, .inl (2, 2))], []), [], [(some (.inl ((-2147483648), 2147483647)), [])], 2)
def gq_X12_hit_44 : List YCut := [(45, [some (.inr (.inr (33, (0, 0), (0, 0)))), some (.inl (0, 999)), some (.inl (2, 2)), some (.inl ((-2147483648), 2147483647)), some (.inl (0, 2)), none], [(48, 0, 272, .inl (2, 2))], [.inl 1, .inr (.inl (false, 4))])]
theorem gt_X12_hit_44 : y_chk gL_0 gk_X12_hit_44 gq_X12_hit_44 4000 2 = true := by decide +kernel
def gk_X12_hit_45 : YCt := (306, [.inr (.inr (33, (0, 0), (0, 0))), .inl ((-2147483648), 2147483647), .inl (2, 2)], ([(48, 0, 272, .inl (3, 3))], []), [], [(some (.inl ((-2147483648), 2147483647)), [])], 2)
def gq_X12_hit_45 : List YCut := [(45, [some (.inr (.inr (33, (0, 0), (0, 0)))), some (.inl (0, 999)), some (.inl (2, 2)), some (.inl ((-2147483648), 2147483647)), some (.inl (0, 3)), none], [(48, 0, 272, .inl (3, 3))], [.inl 1, .inr (.inl (false, 4))])]
theorem gt_X12_hit_45 : y_chk gL_0 gk_X12_hit_45 gq_X12_hit_45 4000 2 = true := by decide +kernel
def gk_X12_hit_46 : YCt := (306, [.inr (.inr (33, (0, 0), (0, 0))), .inl ((-2147483648), 2147483647), .inl (2, 2)], ([(48, 0, 272, .inl (4, 4))], []), [], [(some (.inl ((-2147483648), 2147483647)), [])], 2)
def gq_X12_hit_46 : List YCut := [(45, [some (.inr (.inr (33, (0, 0), (0, 0)))), some (.inl (0, 999)), some (.inl (2, 2)), some (.inl ((-2147483648), 2147483647)), some (.inl (0, 4)), none], [(48, 0, 272, .inl (4, 4))], [.inl 1, .inr (.inl (false, 4))])]
theorem gt_X12_hit_46 : y_chk gL_0 gk_X12_hit_46 gq_X12_hit_46 4000 2 = true := by decide +kernel
def gk_X12_hit_47 : YCt := (306, [.inr (.inr (33, (0, 0), (0, 0))), .inl ((-2147483648), 2147483647), .inl (2, 2)], ([(48, 0, 272, .inl (5, 5))], []), [], [(some (.inl ((-2147483648), 2147483647)), [])], 2)
def gq_X12_hit_47 : List YCut := [(45, [some (.inr (.inr (33, (0, 0), (0, 0)))), some (.inl (0, 999)), some (.inl (2, 2)), some (.inl ((-2147483648), 2147483647)), some (.inl (0, 5)), none], [(48, 0, 272, .inl (5, 5))], [.inl 1, .inr (.inl (false, 4))])]
theorem gt_X12_hit_47 : y_chk gL_0 gk_X12_hit_47 gq_X12_hit_47 4000 2 = true := by decide +kernel
def gk_X12_hit_48 : YCt := (306, [.inr (.inr (33, (0, 0), (0, 0))), .inl ((-2147483648), 2147483647), .inl (2, 2)], ([(48, 0, 272, .inl (6, 6))], []), [], [(some (.inl ((-2147483648), 2147483647)), [])], 2)
def gq_X12_hit_48 : List YCut := [(45, [some (.inr (.inr (33, (0, 0), (0, 0)))), some (.inl (0, 999)), some (.inl (2, 2)), some (.inl ((-2147483648), 2147483647)), some (.inl (0, 6)), none], [(48, 0, 272, .inl (6, 6))], [.inl 1, .inr (.inl (false, 4))])]
theorem gt_X12_hit_48 : y_chk gL_0 gk_X12_hit_48 gq_X12_hit_48 4000 2 = true := by decide +kernel
def gk_X12_hit_49 : YCt := (306, [.inr (.inr (33, (0, 0), (0, 0))), .inl ((-2147483648), 2147483647), .inl (2, 2)], ([(48, 0, 272, .inl (7, 7))], []), [], [(some (.inl ((-2147483648), 2147483647)), [])], 2)
def gq_X12_hit_49 : List YCut := [(45, [some (.inr (.inr (33, (0, 0), (0, 0)))), some (.inl (0, 999)), some (.inl (2, 2)), some (.inl ((-2147483648), 2147483647)), some (.inl (0, 7)), none], [(48, 0, 272, .inl (7, 7))], [.inl 1, .inr (.inl (false, 4))])]
theorem gt_X12_hit_49 : y_chk gL_0 gk_X12_hit_49 gq_X12_hit_49 4000 2 = true := by decide +kernel
def gk_X12_hit_50 : YCt := (306, [.inr (.inr (33, (0, 0), (0, 0))), .inl ((-2147483648), 2147483647), .inl (2, 2)], ([(48, 0, 272, .inl (8, 8))], []), [], [(some (.inl ((-2147483648), 2147483647)), [])], 2)
def gq_X12_hit_50 : List YCut := [(45, [some (.inr (.inr (33, (0, 0), (0, 0)))), some (.inl (0, 999)), some (.inl (2, 2)), some (.inl ((-2147483648), 2147483647)), some (.inl (0, 8)), none], [(48, 0, 272, .inl (8, 8))], [.inl 1, .inr (.inl (false, 4))])]
theorem gt_X12_hit_50 : y_chk gL_0 gk_X12_hit_50 gq_X12_hit_50 4000 2 = true := by decide +kernel
def gk_X12_hit_51 : YCt := (306, [.inr (.inr (33, (0, 0), (0, 0))), .inl ((-2147483648), 2147483647), .inl (2, 2)], ([(48, 0, 272, .inl (9, 9))], []), [], [(some (.inl ((-2147483648), 2147483647)), [])], 2)
def gq_X12_hit_51 : List YCut := [(45, [some (.inr (.inr (33, (0, 0), (0, 0)))), some (.inl (0, 999)), some (.inl (2, 2)), some (.inl ((-2147483648), 2147483647)), some (.inl (0, 9)), none], [(48, 0, 272, .inl (9, 9))], [.inl 1, .inr (.inl (false, 4))])]
theorem gt_X12_hit_51 : y_chk gL_0 gk_X12_hit_51 gq_X12_hit_51 4000 2 = true := by decide +kernel
def gk_X12_hit_52 : YCt := (306, [.inr (.inr (33, (0, 0), (0, 0))), .inl ((-2147483648), 2147483647), .inl (2, 2)], ([(48, 0, 272, .inl (10, 10))], []), [], [(some (.inl ((-2147483648), 2147483647)), [])], 2)
def gq_X12_hit_52 : List YCut := [(45, [some (.inr (.inr (33, (0, 0), (0, 0)))), some (.inl (0, 999)), some (.inl (2, 2)), some (.inl ((-2147483648), 2147483647)), some (.inl (0, 10)), none], [(48, 0, 272, .inl (10, 10))], [.inl 1, .inr (.inl (false, 4))])]
theorem gt_X12_hit_52 : y_chk gL_0 gk_X12_hit_52 gq_X12_hit_52 4000 2 = true := by decide +kernel
def gk_X12_hit_53 : YCt := (306, [.inr (.inr (33, (0, 0), (0, 0))), .inl ((-2147483648), 2147483647), .inl (2, 2)], ([(48, 0, 272, .inl (11, 11))], []), [], [(some (.inl ((-2147483648), 2147483647)), [])], 2)
def gq_X12_hit_53 : List YCut := [(45, [some (.inr (.inr (33, (0, 0), (0, 0)))), some (.inl (0, 999)), some (.inl (2, 2)), some (.inl ((-2147483648), 2147483647)), some (.inl (0, 11)), none], [(48, 0, 272, .inl (11, 11))], [.inl 1, .inr (.inl (false, 4))])]
theorem gt_X12_hit_53 : y_chk gL_0 gk_X12_hit_53 gq_X12_hit_53 4000 2 = true := by decide +kernel
def gk_X12_hit_54 : YCt := (306, [.inr (.inr (33, (0, 0), (0, 0))), .inl ((-2147483648), 2147483647), .inl (2, 2)], ([(48, 0, 272, .inl (12, 12))], []), [], [(some (.inl ((-2147483648), 2147483647)), [])], 2)
def gq_X12_hit_54 : List YCut := [(45, [some (.inr (.inr (33, (0, 0), (0, 0)))), some (.inl (0, 999)), some (.inl (2, 2)), some (.inl ((-2147483648), 2147483647)), some (.inl (0, 12)), none], [(48, 0, 272, .inl (12, 12))], [.inl 1, .inr (.inl (false, 4))])]
theorem gt_X12_hit_54 : y_chk gL_0 gk_X12_hit_54 gq_X12_hit_54 4000 2 = true := by decide +kernel
def gk_X12_hit_55 : YCt := (306, [.inr (.inr (33, (0, 0), (0, 0))), .inl ((-2147483648), 2147483647), .inl (2, 2)], ([(48, 0, 272, .inl (13, 13))], []), [], [(some (.inl ((-2147483648), 2147483647)), [])], 2)
def gq_X12_hit_55 : List YCut := [(45, [some (.inr (.inr (33, (0, 0), (0, 0)))), some (.inl (0, 999)), some (.inl (2, 2)), some (.inl ((-2147483648), 2147483647)), some (.inl (0, 13)), none], [(48, 0, 272, .inl (13, 13))], [.inl 1, .inr (.inl (false, 4))])]
theorem gt_X12_hit_55 : y_chk gL_0 gk_X12_hit_55 gq_X12_hit_55 4000 2 = true := by decide +kernel
def gk_X12_hit_56 : YCt := (306, [.inr (.inr (33, (0, 0), (0, 0))), .inl ((-2147483648), 2147483647), .inl (2, 2)], ([(48, 0, 272, .inl (14, 14))], []), [], [(some (.inl ((-2147483648), 2147483647)), [])], 2)
def gq_X12_hit_56 : List YCut := [(45, [some (.inr (.inr (33, (0, 0), (0, 0)))), some (.inl (0, 999)), some (.inl (2, 2)), some (.inl ((-2147483648), 2147483647)), some (.inl (0, 14)), none], [(48, 0, 272, .inl (14, 14))], [.inl 1, .inr (.inl (false, 4))])]
theorem gt_X12_hit_56 : y_chk gL_0 gk_X12_hit_56 gq_X12_hit_56 4000 2 = true := by decide +kernel
def gk_X12_hit_57 : YCt := (306, [.inr (.inr (33, (0, 0), (0, 0))), .inl ((-2147483648), 2147483647), .inl (2, 2)], ([(48, 0, 272, .inl (15, 15))], []), [], [(some (.inl ((-2147483648), 2147483647)), [])], 2)
def gq_X12_hit_57 : List YCut := [(45, [some (.inr (.inr (33, (0, 0), (0, 0)))), some (.inl (0, 999)), some (.inl (2, 2)), some (.inl ((-2147483648), 2147483647)), some (.inl (0, 15)), none], [(48, 0, 272, .inl (15, 15))], [.inl 1, .inr (.inl (false, 4))])]
theorem gt_X12_hit_57 : y_chk gL_0 gk_X12_hit_57 gq_X12_hit_57 4000 2 = true := by decide +kernel
def gk_X12_hit_58 : YCt := (306, [.inr (.inr (33, (0, 0), (0, 0))), .inl ((-2147483648), 2147483647), .inl (2, 2)], ([(48, 0, 272, .inl (16, 16))], []), [], [(some (.inl ((-2147483648), 2147483647)), [])], 2)
def gq_X12_hit_58 : List YCut := [(45, [some (.inr (.inr (33, (0, 0), (0, 0)))), some (.inl (0, 999)), some (.inl (2, 2)), some (.inl ((-2147483648), 2147483647)), some (.inl (0, 16)), none], [(48, 0, 272, .inl (16, 16))], [.inl 1, .inr (.inl (false, 4))])]
theorem gt_X12_hit_58 : y_chk gL_0 gk_X12_hit_58 gq_X12_hit_58 4000 2 = true := by decide +kernel
def gk_X12_hit_59 : YCt := (306, [.inr (.inr (33, (0, 0), (0, 0))), .inl ((-2147483648), 2147483647), .inl (2, 2)], ([(48, 0, 272, .inl (17, 17))], []), [], [(some (.inl ((-2147483648), 2147483647)), [])], 2)
def gq_X12_hit_59 : List YCut := [(45, [some (.inr (.inr (33, (0, 0), (0, 0)))), some (.inl (0, 999)), some (.inl (2, 2)), some (.inl ((-2147483648), 2147483647)), some (.inl (0, 17)), none], [(48, 0, 272, .inl (17, 17))], [.inl 1, .inr (.inl (false, 4))])]
theorem gt_X12_hit_59 : y_chk gL_0 gk_X12_hit_59 gq_X12_hit_59 4000 2 = true := by decide +kernel
def gk_X12_hit_60 : YCt := (306, [.inr (.inr (33, (0, 0), (0, 0))), .inl ((-2147483648), 2147483647), .inl (2, 2)], ([(48, 0, 272, .inl (18, 18))], []), [], [(some (.inl ((-2147483648), 2147483647)), [])], 2)
def gq_X12_hit_60 : List YCut := [(45, [some (.inr (.inr (33, (0, 0), (0, 0)))), some (.inl (0, 999)), some (.inl (2, 2)), some (.inl ((-2147483648), 2147483647)), some (.inl (0, 18)), none], [(48, 0, 272, .inl (18, 18))], [.inl 1, .inr (.inl (false, 4))])]
theorem gt_X12_hit_60 : y_chk gL_0 gk_X12_hit_60 gq_X12_hit_60 4000 2 = true := by decide +kernel
def gk_X12_hit_61 : YCt := (306, [.inr (.inr (33, (0, 0), (0, 0))), .inl ((-2147483648), 2147483647), .inl (2, 2)], ([(48, 0, 272, .inl (19, 19))], []), [], [(some (.inl ((-2147483648), 2147483647)), [])], 2)
def gq_X12_hit_61 : List YCut := [(45, [some (.inr (.inr (33, (0, 0), (0, 0)))), some (.inl (0, 999)), some (.inl (2, 2)), some (.inl ((-2147483648), 2147483647)), some (.inl (0, 19)), none], [(48, 0, 272, .inl (19, 19))], [.inl 1, .inr (.inl (false, 4))])]
theorem gt_X12_hit_61 : y_chk gL_0 gk_X12_hit_61 gq_X12_hit_61 4000 2 = true := by decide +kernel
def gk_X12_hit_62 : YCt := (306, [.inr (.inr (33, (0, 0), (0, 0))), .inl ((-2147483648), 2147483647), .inl (2, 2)], ([(48, 0, 272, .inl (20, 20))], []), [], [(some (.inl ((-2147483648), 2147483647)), [])], 2)
def gq_X12_hit_62 : List YCut := [(45, [some (.inr (.inr (33, (0, 0), (0, 0)))), some (.inl (0, 999)), some (.inl (2, 2)), some (.inl ((-2147483648), 2147483647)), some (.inl (0, 20)), none], [(48, 0, 272, .inl (20, 20))], [.inl 1, .inr (.inl (false, 4))])]
theorem gt_X12_hit_62 : y_chk gL_0 gk_X12_hit_62 gq_X12_hit_62 4000 2 = true := by decide +kernel
def gk_X12_hit_63 : YCt := (306, [.inr (.inr (33, (0, 0), (0, 0))), .inl ((-2147483648), 2147483647), .inl (3, 3)], ([(48, 0, 272, .inl (0, 0))], []), [], [(some (.inl ((-2147483648), 2147483647)), [])], 2)
def gq_X12_hit_63 : List YCut := []
theorem gt_X12_hit_63 : y_chk gL_0 gk_X12_hit_63 gq_X12_hit_63 4000 0 = true := by decide +kernel
def gk_X11_hit_63 : YCt := (194, [.inr (.inr (0, (0, 0), (0, 0))), .inl ((-2147483648), 2147483647), .inl (3, 3)], ([(17, 0, 5, .inl (0, 0))], []), [], [(some (.inl ((-2147483648), 2147483647)), [])], 2)
def gq_X11_hit_63 : List YCut := []
theorem gt_X11_hit_63 : y_chk gL_0 gk_X11_hit_63 gq_X11_hit_63 4000 0 = true := by decide +kernel
def gk_X12_hit_64 : YCt := (306, [.inr (.inr (33, (0, 0), (0, 0))), .inl ((-2147483648), 2147483647), .inl (3, 3)], ([(48, 0, 272, .inl (1, 1))], []), [], [(some (.inl ((-2147483648), 2147483647)), [])], 2)
def gq_X12_hit_64 : List YCut := []
theorem gt_X12_hit_64 : y_chk gL_0 gk_X12_hit_64 gq_X12_hit_64 4000 0 = true := by decide +kernel
def gk_X11_hit_64 : YCt := (194, [.inr (.inr (0, (0, 0), (0, 0))), .inl ((-2147483648), 2147483647), .inl (3, 3)], ([(17, 0, 5, .inl (1, 1))], []), [], [(some (.inl ((-2147483648), 2147483647)), [])], 2)
def gq_X11_hit_64 : List YCut := []
theorem gt_X11_hit_64 : y_chk gL_0 gk_X11_hit_64 gq_X11_hit_64 4000 0 = true := by decide +kernel
def gk_X12_hit_65 : YCt := (306, [.inr (.inr (33, (0, 0), (0, 0))), .inl ((-2147483648), 2147483647), .inl (3, 3)], ([(48, 0, 272, .inl (2, 2))], []), [], [(some (.inl ((-2147483648), 2147483647)), [])], 2)
def gq_X12_hit_65 : List YCut := []
theorem gt_X12_hit_65 : y_chk gL_0 gk_X12_hit_65 gq_X12_hit_65 4000 0 = true := by decide +kernel
def gk_X11_hit_65 : YCt := (194, [.inr (.inr (0, (0, 0), (0, 0))), .inl ((-2147483648), 2147483647), .inl (3, 3)], ([(17, 0, 5, .inl (2, 2))], []), [], [(some (.inl ((-2147483648), 2147483647)), [])], 2)
def gq_X11_hit_65 : List YCut := []
theorem gt_X11_hit_65 : y_chk gL_0 gk_X11_hit_65 gq_X11_hit_65 4000 0 = true := by decide +kernel
def gk_X12_hit_66 : YCt := (306, [.inr (.inr (33, (0, 0), (0, 0))), .inl ((-2147483648), 2147483647), .inl (3, 3)], ([(48, 0, 272, .inl (3, 3))], []), [], [(some (.inl ((-2147483648), 2147483647)), [])], 2)
def gq_X12_hit_66 : List YCut := [(45, [some (.inr (.inr (33, (0, 0), (0, 0)))), some (.inl (0, 999)), some (.inl (3, 3)), some (.inl ((-2147483648), 2147483647)), some (.inl (0, 3)), none], [(48, 0, 272, .inl (3, 3))], [.inl 1, .inr (.inl (false, 4))])]
theorem gt_X12_hit_66 : y_chk gL_0 gk_X12_hit_66 gq_X12_hit_66 4000 2 = true := by decide +kernel
def gk_X12_hit_67 : YCt := (306, [.inr (.inr (33, (0, 0), (0, 0))), .inl ((-2147483648), 2147483647), .inl (3, 3)], ([(48, 0, 272, .inl (4, 4))], []), [], [(some (.inl ((-2147483648), 2147483647)), [])], 2)
def gq_X12_hit_67 : List YCut := [(45, [some (.inr (.inr (33, (0, 0), (0, 0)))), some (.inl (0, 999)), some (.inl (3, 3)), some (.inl ((-2147483648), 2147483647)), some (.inl (0, 4)), none], [(48, 0, 272, .inl (4, 4))], [.inl 1, .inr (.inl (false, 4))])]
theorem gt_X12_hit_67 : y_chk gL_0 gk_X12_hit_67 gq_X12_hit_67 4000 2 = true := by decide +kernel
def gk_X12_hit_68 : YCt := (306, [.inr (.inr (33, (0, 0), (0, 0))), .inl ((-2147483648), 2147483647), .inl (3, 3)], ([(48, 0, 272, .inl (5, 5))], []), [], [(some (.inl ((-2147483648), 2147483647)), [])], 2)
def gq_X12_hit_68 : List YCut := [(45, [some (.inr (.inr (33, (0, 0), (0, 0)))), some (.inl (0, 999)), some (.inl (3, 3)), some (.inl ((-2147483648), 2147483647)), some (.inl (0, 5)), none], [(48, 0, 272, .inl (5, 5))], [.inl 1, .inr (.inl (false, 4))])]
theorem gt_X12_hit_68 : y_chk gL_0 gk_X12_hit_68 gq_X12_hit_68 4000 2 = true := by decide +kernel
def gk_X12_hit_69 : YCt := (306, [.inr (.inr (33, (0, 0), (0, 0))), .inl ((-2147483648), 2147483647), .inl (3, 3)], ([(48, 0, 272, .inl (6, 6))], []), [], [(some (.inl ((-2147483648), 2147483647)), [])], 2)
def gq_X12_hit_69 : List YCut := [(45, [some (.inr (.inr (33, (0, 0), (0, 0)))), some (.inl (0, 999)), some (.inl (3, 3)), some (.inl ((-2147483648), 2147483647)), some (.inl (0, 6)), none], [(48, 0, 272, .inl (6, 6))], [.inl 1, .inr (.inl (false, 4))])]
theorem gt_X12_hit_69 : y_chk gL_0 gk_X12_hit_69 gq_X12_hit_69 4000 2 = true := by decide +kernel
def gk_X12_hit_70 : YCt := (306, [.inr (.inr (33, (0, 0), (0, 0))), .inl ((-2147483648), 2147483647), .inl (3, 3)], ([(48, 0, 272, .inl (7, 7))], []), [], [(some (.inl ((-2147483648), 2147483647)), [])], 2)
def gq_X12_hit_70 : List YCut := [(45, [some (.inr (.inr (33, (0, 0), (0, 0)))), some (.inl (0, 999)), some (.inl (3, 3)), some (.inl ((-2147483648), 2147483647)), some (.inl (0, 7)), none], [(48, 0, 272, .inl (7, 7))], [.inl 1, .inr (.inl (false, 4))])]
theorem gt_X12_hit_70 : y_chk gL_0 gk_X12_hit_70 gq_X12_hit_70 4000 2 = true := by decide +kernel
def gk_X12_hit_71 : YCt := (306, [.inr (.inr (33, (0, 0), (0, 0))), .inl ((-2147483648), 2147483647), .inl (3, 3)], ([(48, 0, 272, .inl (8, 8))], []), [], [(some (.inl ((-2147483648), 2147483647)), [])], 2)
def gq_X12_hit_71 : List YCut := [(45, [some (.inr (.inr (33, (0, 0), (0, 0)))), some (.inl (0, 999)), some (.inl (3, 3)), some (.inl ((-2147483648), 2147483647)), some (.inl (0, 8)), none], [(48, 0, 272, .inl (8, 8))], [.inl 1, .inr (.inl (false, 4))])]
theorem gt_X12_hit_71 : y_chk gL_0 gk_X12_hit_71 gq_X12_hit_71 4000 2 = true := by decide +kernel
def gk_X12_hit_72 : YCt := (306, [.inr (.inr (33, (0, 0), (0, 0))), .inl ((-2147483648), 2147483647), .inl (3, 3)], ([(48, 0, 272, .inl (9, 9))], []), [], [(some (.inl ((-2147483648), 2147483647)), [])], 2)
def gq_X12_hit_72 : List YCut := [(45, [some (.inr (.inr (33, (0, 0), (0, 0)))), some (.inl (0, 999)), some (.inl (3, 3)), some (.inl ((-2147483648), 2147483647)), some (.inl (0, 9)), none], [(48, 0, 272, .inl (9, 9))], [.inl 1, .inr (.inl (false, 4))])]
theorem gt_X12_hit_72 : y_chk gL_0 gk_X12_hit_72 gq_X12_hit_72 4000 2 = true := by decide +kernel
def gk_X12_hit_73 : YCt := (306, [.inr (.inr (33, (0, 0), (0, 0))), .inl ((-2147483648), 2147483647), .inl (3, 3)], ([(48, 0, 272, .inl (10, 10))], []), [], [(some (.inl ((-2147483648), 2147483647)), [])], 2)
def gq_X12_hit_73 : List YCut := [(45, [some (.inr (.inr (33, (0, 0), (0, 0)))), some (.inl (0, 999)), some (.inl (3, 3)), some (.inl ((-2147483648), 2147483647)), some (.inl (0, 10)), none], [(48, 0, 272, .inl (10, 10))], [.inl 1, .inr (.inl (false, 4))])]
theorem gt_X12_hit_73 : y_chk gL_0 gk_X12_hit_73 gq_X12_hit_73 4000 2 = true := by decide +kernel
def gk_X12_hit_74 : YCt := (306, [.inr (.inr (33, (0, 0), (0, 0))), .inl ((-2147483648), 2147483647), .inl (3, 3)], ([(48, 0, 272, .inl (11, 11))], []), [], [(some (.inl ((-2147483648), 2147483647)), [])], 2)
def gq_X12_hit_74 : List YCut := [(45, [some (.inr (.inr (33, (0, 0), (0, 0)))), some (.inl (0, 999)), some (.inl (3, 3)), some (.inl ((-2147483648), 2147483647)), some (.inl (0, 11)), none], [(48, 0, 272, .inl (11, 11))], [.inl 1, .inr (.inl (false, 4))])]
theorem gt_X12_hit_74 : y_chk gL_0 gk_X12_hit_74 gq_X12_hit_74 4000 2 = true := by decide +kernel
def gk_X12_hit_75 : YCt := (306, [.inr (.inr (33, (0, 0), (0, 0))), .inl ((-2147483648), 2147483647), .inl (3, 3)], ([(48, 0, 272, .inl (12, 12))], []), [], [(some (.inl ((-2147483648), 2147483647)), [])], 2)
def gq_X12_hit_75 : List YCut := [(45, [some (.inr (.inr (33, (0, 0), (0, 0)))), some (.inl (0, 999)), some (.inl (3, 3)), some (.inl ((-2147483648), 2147483647)), some (.inl (0, 12)), none], [(48, 0, 272, .inl (12, 12))], [.inl 1, .inr (.inl (false, 4))])]
theorem gt_X12_hit_75 : y_chk gL_0 gk_X12_hit_75 gq_X12_hit_75 4000 2 = true := by decide +kernel
def gk_X12_hit_76 : YCt := (306, [.inr (.inr (33, (0, 0), (0, 0))), .inl ((-2147483648), 2147483647), .inl (3, 3)], ([(48, 0, 272, .inl (13, 13))], []), [], [(some (.inl ((-2147483648), 2147483647)), [])], 2)
def gq_X12_hit_76 : List YCut := [(45, [some (.inr (.inr (33, (0, 0), (0, 0)))), some (.inl (0, 999)), some (.inl (3, 3)), some (.inl ((-2147483648), 2147483647)), some (.inl (0, 13)), none], [(48, 0, 272, .inl (13, 13))], [.inl 1, .inr (.inl (false, 4))])]
theorem gt_X12_hit_76 : y_chk gL_0 gk_X12_hit_76 gq_X12_hit_76 4000 2 = true := by decide +kernel
def gk_X12_hit_77 : YCt := (306, [.inr (.inr (33, (0, 0), (0, 0))), .inl ((-2147483648), 2147483647), .inl (3, 3)], ([(48, 0, 272, .inl (14, 14))], []), [], [(some (.inl ((-2147483648), 2147483647)), [])], 2)
def gq_X12_hit_77 : List YCut := [(45, [some (.inr (.inr (33, (0, 0), (0, 0)))), some (.inl (0, 999)), some (.inl (3, 3)), some (.inl ((-2147483648), 2147483647)), some (.inl (0, 14)), none], [(48, 0, 272, .inl (14, 14))], [.inl 1, .inr (.inl (false, 4))])]
theorem gt_X12_hit_77 : y_chk gL_0 gk_X12_hit_77 gq_X12_hit_77 4000 2 = true := by decide +kernel
def gk_X12_hit_78 : YCt := (306, [.inr (.inr (33, (0, 0), (0, 0))), .inl ((-2147483648), 2147483647), .inl (3, 3)], ([(48, 0, 272, .inl (15, 15))], []), [], [(some (.inl ((-2147483648), 2147483647)), [])], 2)
def gq_X12_hit_78 : List YCut := [(45, [some (.inr (.inr (33, (0, 0), (0, 0)))), some (.inl (0, 999)), some (.inl (3, 3)), some (.inl ((-2147483648), 2147483647)), some (.inl (0, 15)), none], [(48, 0, 272, .inl (15, 15))], [.inl 1, .inr (.inl (false, 4))])]
theorem gt_X12_hit_78 : y_chk gL_0 gk_X12_hit_78 gq_X12_hit_78 4000 2 = true := by decide +kernel
def gk_X12_hit_79 : YCt := (306, [.inr (.inr (33, (0, 0), (0, 0))), .inl ((-2147483648), 2147483647), .inl (3, 3)], ([(48, 0, 272, .inl (16, 16))], []), [], [(some (.inl ((-2147483648), 2147483647)), [])], 2)
def gq_X12_hit_79 : List YCut := [(45, [some (.inr (.inr (33, (0, 0), (0, 0)))), some (.inl (0, 999)), some (.inl (3, 3)), some (.inl ((-2147483648), 2147483647)), some (.inl (0, 16)), none], [(48, 0, 272, .inl (16, 16))], [.inl 1, .inr (.inl (false, 4))])]
theorem gt_X12_hit_79 : y_chk gL_0 gk_X12_hit_79 gq_X12_hit_79 4000 2 = true := by decide +kernel
def gk_X12_hit_80 : YCt := (306, [.inr (.inr (33, (0, 0), (0, 0))), .inl ((-2147483648), 2147483647), .inl (3, 3)], ([(48, 0, 272, .inl (17, 17))], []), [], [(some (.inl ((-2147483648), 2147483647)), [])], 2)
def gq_X12_hit_80 : List YCut := [(45, [some (.inr (.inr (33, (0, 0), (0, 0)))), some (.inl (0, 999)), some (.inl (3, 3)), some (.inl ((-2147483648), 2147483647)), some (.inl (0, 17)), none], [(48, 0, 272, .inl (17, 17))], [.inl 1, .inr (.inl (false, 4))])]
theorem gt_X12_hit_80 : y_chk gL_0 gk_X12_hit_80 gq_X12_hit_80 4000 2 = true := by decide +kernel
def gk_X12_hit_81 : YCt := (306, [.inr (.inr (33, (0, 0), (0, 0))), .inl ((-2147483648), 2147483647), .inl (3, 3)], ([(48, 0, 272, .inl (18, 18))], []), [], [(some (.inl ((-2147483648), 2147483647)), [])], 2)
def gq_X12_hit_81 : List YCut := [(45, [some (.inr (.inr (33, (0, 0), (0, 0)))), some (.inl (0, 999)), some (.inl (3, 3)), some (.inl ((-2147483648), 2147483647)), some (.inl (0, 18)), none], [(48, 0, 272, .inl (18, 18))], [.inl 1, .inr (.inl (false, 4))])]
theorem gt_X12_hit_81 : y_chk gL_0 gk_X12_hit_81 gq_X12_hit_81 4000 2 = true := by decide +kernel
def gk_X12_hit_82 : YCt := (306, [.inr (.inr (33, (0, 0), (0, 0))), .inl ((-2147483648), 2147483647), .inl (3, 3)], ([(48, 0, 272, .inl (19, 19))], []), [], [(some (.inl ((-2147483648), 2147483647)), [])], 2)
def gq_X12_hit_82 : List YCut := [(45, [some (.inr (.inr (33, (0, 0), (0, 0)))), some (.inl (0, 999)), some (.inl (3, 3)), some (.inl ((-2147483648), 2147483647)), some (.inl (0, 19)), none], [(48, 0, 272, .inl (19, 19))], [.inl 1, .inr (.inl (false, 4))])]
theorem gt_X12_hit_82 : y_chk gL_0 gk_X12_hit_82 gq_X12_hit_82 4000 2 = true := by decide +kernel
def gk_X12_hit_83 : YCt := (306, [.inr (.inr (33, (0, 0), (0, 0))), .inl ((-2147483648), 2147483647), .inl (3, 3)], ([(48, 0, 272, .inl (20, 20))], []), [], [(some (.inl ((-2147483648), 2147483647)), [])], 2)
def gq_X12_hit_83 : List YCut := [(45, [some (.inr (.inr (33, (0, 0), (0, 0)))), some (.inl (0, 999)), some (.inl (3, 3)), some (.inl ((-2147483648), 2147483647)), some (.inl (0, 20)), none], [(48, 0, 272, .inl (20, 20))], [.inl 1, .inr (.inl (false, 4))])]
theorem gt_X12_hit_83 : y_chk gL_0 gk_X12_hit_83 gq_X12_hit_83 4000 2 = true := by decide +kernel
def gk_X12_hit_84 : YCt := (306, [.inr (.inr (33, (0, 0), (0, 0))), .inl ((-2147483648), 2147483647), .inl (4, 4)], ([(48, 0, 272, .inl (0, 0))], []), [], [(some (.inl ((-2147483648), 2147483647)), [])], 2)
def gq_X12_hit_84 : List YCut := []
theorem gt_X12_hit_84 : y_chk gL_0 gk_X12_hit_84 gq_X12_hit_84 4000 0 = true := by decide +kernel
def gk_X11_hit_84 : YCt := (194, [.inr (.inr (0, (0, 0), (0, 0))), .inl ((-2147483648), 2147483647), .inl (4, 4)], ([(17, 0, 5, .inl (0, 0))], []), [], [(some (.inl ((-2147483648), 2147483647)), [])], 2)
def gq_X11_hit_84 : List YCut := []
theorem gt_X11_hit_84 : y_chk gL_0 gk_X11_hit_84 gq_X11_hit_84 4000 0 = true := by decide +kernel
def gk_X12_hit_85 : YCt := (306, [.inr (.inr (33, (0, 0), (0, 0))), .inl ((-2147483648), 2147483647), .inl (4, 4)], ([(48, 0, 272, .inl (1, 1))], []), [], [(some (.inl ((-2147483648), 2147483647)), [])], 2)
def gq_X12_hit_85 : List YCut := []
theorem gt_X12_hit_85 : y_chk gL_0 gk_X12_hit_85 gq_X12_hit_85 4000 0 = true := by decide +kernel
def gk_X11_hit_85 : YCt := (194, [.inr (.inr (0, (0, 0), (0, 0))), .inl ((-2147483648), 2147483647), .inl (4, 4)], ([(17, 0, 5, .inl (1, 1))], []), [], [(some (.inl ((-2147483648), 2147483647)), [])], 2)
def gq_X11_hit_85 : List YCut := []
theorem gt_X11_hit_85 : y_chk gL_0 gk_X11_hit_85 gq_X11_hit_85 4000 0 = true := by decide +kernel
def gk_X12_hit_86 : YCt := (306, [.inr (.inr (33, (0, 0), (0, 0))), .inl ((-2147483648), 2147483647), .inl (4, 4)], ([(48, 0, 272, .inl (2, 2))], []), [], [(some (.inl ((-2147483648), 2147483647)), [])], 2)
def gq_X12_hit_86 : List YCut := []
theorem gt_X12_hit_86 : y_chk gL_0 gk_X12_hit_86 gq_X12_hit_86 4000 0 = true := by decide +kernel
def gk_X11_hit_86 : YCt := (194, [.inr (.inr (0, (0, 0), (0, 0))), .inl ((-2147483648), 2147483647), .inl (4, 4)], ([(17, 0, 5, .inl (2, 2))], []), [], [(some (.inl ((-2147483648), 2147483647)), [])], 2)
def gq_X11_hit_86 : List YCut := []
theorem gt_X11_hit_86 : y_chk gL_0 gk_X11_hit_86 gq_X11_hit_86 4000 0 = true := by decide +kernel
def gk_X12_hit_87 : YCt := (306, [.inr (.inr (33, (0, 0), (0, 0))), .inl ((-2147483648), 2147483647), .inl (4, 4)], ([(48, 0, 272, .inl (3, 3))], []), [], [(some (.inl ((-2147483648), 2147483647)), [])], 2)
def gq_X12_hit_87 : List YCut := []
theorem gt_X12_hit_87 : y_chk gL_0 gk_X12_hit_87 gq_X12_hit_87 4000 0 = true := by decide +kernel
def gk_X11_hit_87 : YCt := (194, [.inr (.inr (0, (0, 0), (0, 0))), .inl ((-2147483648), 2147483647), .inl (4, 4)], ([(17, 0, 5, .inl (3, 3))], []), [], [(some (.inl ((-2147483648), 2147483647)), [])], 2)
def gq_X11_hit_87 : List YCut := []
theorem gt_X11_hit_87 : y_chk gL_0 gk_X11_hit_87 gq_X11_hit_87 4000 0 = true := by decide +kernel
def gk_X12_hit_88 : YCt := (306, [.inr (.inr (33, (0, 0), (0, 0))), .inl ((-2147483648), 2147483647), .inl (4, 4)], ([(48, 0, 272, .inl (4, 4))], []), [], [(some (.inl ((-2147483648), 2147483647)), [])], 2)
def gq_X12_hit_88 : List YCut := [(45, [some (.inr (.inr (33, (0, 0), (0, 0)))), some (.inl (0, 999)), some (.inl (4, 4)), some (.inl ((-2147483648), 2147483647)), some (.inl (0, 4)), none], [(48, 0, 272, .inl (4, 4))], [.inl 1, .inr (.inl (false, 4))])]
theorem gt_X12_hit_88 : y_chk gL_0 gk_X12_hit_88 gq_X12_hit_88 4000 2 = true := by decide +kernel
def gk_X12_hit_89 : YCt := (306, [.inr (.inr (33, (0, 0), (0, 0))), .inl ((-2147483648), 2147483647), .inl (4, 4)], ([(48, 0, 272, .inl (5, 5))], []), [], [(some (.inl ((-2147483648), 2147483647)), [])], 2)
def gq_X12_hit_89 : List YCut := [(45, [some (.inr (.inr (33, (0, 0), (0, 0)))), some (.inl (0, 999)), some (.inl (4, 4)), some (.inl ((-2147483648), 2147483647)), some (.inl (0, 5)), none], [(48, 0, 272, .inl (5, 5))], [.inl 1, .inr (.inl (false, 4))])]
theorem gt_X12_hit_89 : y_chk gL_0 gk_X12_hit_89 gq_X12_hit_89 4000 2 = true := by decide +kernel
def gk_X12_hit_90 : YCt := (306, [.inr (.inr (33, (0, 0), (0, 0))), .inl ((-2147483648), 2147483647), .inl (4, 4)], ([(48, 0, 272, .inl (6, 6))], []), [], [(some (.inl ((-2147483648), 2147483647)), [])], 2)
def gq_X12_hit_90 : List YCut := [(45, [some (.inr (.inr (33, (0, 0), (0, 0)))), some (.inl (0, 999)), some (.inl (4, 4)), some (.inl ((-2147483648), 2147483647)), some (.inl (0, 6)), none], [(48, 0, 272, .inl (6, 6))], [.inl 1, .inr (.inl (false, 4))])]
theorem gt_X12_hit_90 : y_chk gL_0 gk_X12_hit_90 gq_X12_hit_90 4000 2 = true := by decide +kernel
def gk_X12_hit_91 : YCt := (306, [.inr (.inr (33, (0, 0), (0, 0))), .inl ((-2147483648), 2147483647), .inl (4, 4)], ([(48, 0, 272, .inl (7, 7))], []), [], [(some (.inl ((-2147483648), 2147483647)), [])], 2)
def gq_X12_hit_91 : List YCut := [(45, [some (.inr (.inr (33, (0, 0), (0, 0)))), some (.inl (0, 999)), some (.inl (4, 4)), some (.inl ((-2147483648), 2147483647)), some (.inl (0, 7)), none], [(48, 0, 272, .inl (7, 7))], [.inl 1, .inr (.inl (false, 4))])]
theorem gt_X12_hit_91 : y_chk gL_0 gk_X12_hit_91 gq_X12_hit_91 4000 2 = true := by decide +kernel
def gk_X12_hit_92 : YCt := (306, [.inr (.inr (33, (0, 0), (0, 0))), .inl ((-2147483648), 2147483647), .inl (4, 4)], ([(48, 0, 272, .inl (8, 8))], []), [], [(some (.inl ((-2147483648), 2147483647)), [])], 2)
def gq_X12_hit_92 : List YCut := [(45, [some (.inr (.inr (33, (0, 0), (0, 0)))), some (.inl (0, 999)), some (.inl (4, 4)), some (.inl ((-2147483648), 2147483647)), some (.inl (0, 8)), none], [(48, 0, 272, .inl (8, 8))], [.inl 1, .inr (.inl (false, 4))])]
theorem gt_X12_hit_92 : y_chk gL_0 gk_X12_hit_92 gq_X12_hit_92 4000 2 = true := by decide +kernel
def gk_X12_hit_93 : YCt := (306, [.inr (.inr (33, (0, 0), (0, 0))), .inl ((-2147483648), 2147483647), .inl (4, 4)], ([(48, 0, 272, .inl (9, 9))], []), [], [(some (.inl ((-2147483648), 2147483647)), [])], 2)
def gq_X12_hit_93 : List YCut := [(45, [some (.inr (.inr (33, (0, 0), (0, 0)))), some (.inl (0, 999)), some (.inl (4, 4)), some (.inl ((-2147483648), 2147483647)), some (.inl (0, 9)), none], [(48, 0, 272, .inl (9, 9))], [.inl 1, .inr (.inl (false, 4))])]
theorem gt_X12_hit_93 : y_chk gL_0 gk_X12_hit_93 gq_X12_hit_93 4000 2 = true := by decide +kernel
def gk_X12_hit_94 : YCt := (306, [.inr (.inr (33, (0, 0), (0, 0))), .inl ((-2147483648), 2147483647), .inl (4, 4)], ([(48, 0, 272, .inl (10, 10))], []), [], [(some (.inl ((-2147483648), 2147483647)), [])], 2)
def gq_X12_hit_94 : List YCut := [(45, [some (.inr (.inr (33, (0, 0), (0, 0)))), some (.inl (0, 999)), some (.inl (4, 4)), some (.inl ((-2147483648), 2147483647)), some (.inl (0, 10)), none], [(48, 0, 272, .inl (10, 10))], [.inl 1, .inr (.inl (false, 4))])]
theorem gt_X12_hit_94 : y_chk gL_0 gk_X12_hit_94 gq_X12_hit_94 4000 2 = true := by decide +kernel
def gk_X12_hit_95 : YCt := (306, [.inr (.inr (33, (0, 0), (0, 0))), .inl ((-2147483648), 2147483647), .inl (4, 4)], ([(48, 0, 272, .inl (11, 11))], []), [], [(some (.inl ((-2147483648), 2147483647)), [])], 2)
def gq_X12_hit_95 : List YCut := [(45, [some (.inr (.inr (33, (0, 0), (0, 0)))), some (.inl (0, 999)), some (.inl (4, 4)), some (.inl ((-2147483648), 2147483647)), some (.inl (0, 11)), none], [(48, 0, 272, .inl (11, 11))], [.inl 1, .inr (.inl (false, 4))])]
theorem gt_X12_hit_95 : y_chk gL_0 gk_X12_hit_95 gq_X12_hit_95 4000 2 = true := by decide +kernel
def gk_X12_hit_96 : YCt := (306, [.inr (.inr (33, (0, 0), (0, 0))), .inl ((-2147483648), 2147483647), .inl (4, 4)], ([(48, 0, 272, .inl (12, 12))], []), [], [(some (.inl ((-2147483648), 2147483647)), [])], 2)
def gq_X12_hit_96 : List YCut := [(45, [some (.inr (.inr (33, (0, 0), (0, 0)))), some (.inl (0, 999)), some (.inl (4, 4)), some (.inl ((-2147483648), 2147483647)), some (.inl (0, 12)), none], [(48, 0, 272, .inl (12, 12))], [.inl 1, .inr (.inl (false, 4))])]
theorem gt_X12_hit_96 : y_chk gL_0 gk_X12_hit_96 gq_X12_hit_96 4000 2 = true := by decide +kernel
def gk_X12_hit_97 : YCt := (306, [.inr (.inr (33, (0, 0), (0, 0))), .inl ((-2147483648), 2147483647), .inl (4, 4)], ([(48, 0, 272, .inl (13, 13))], []), [], [(some (.inl ((-2147483648), 2147483647)), [])], 2)
def gq_X12_hit_97 : List YCut := [(45, [some (.inr (.inr (33, (0, 0), (0, 0)))), some (.inl (0, 999)), some (.inl (4, 4)), some (.inl ((-2147483648), 2147483647)), some (.inl (0, 13)), none], [(48, 0, 272, .inl (13, 13))], [.inl 1, .inr (.inl (false, 4))])]
theorem gt_X12_hit_97 : y_chk gL_0 gk_X12_hit_97 gq_X12_hit_97 4000 2 = true := by decide +kernel
def gk_X12_hit_98 : YCt := (306, [.inr (.inr (33, (0, 0), (0, 0))), .inl ((-2147483648), 2147483647), .inl (4, 4)], ([(48, 0, 272, .inl (14, 14))], []), [], [(some (.inl ((-2147483648), 2147483647)), [])], 2)
def gq_X12_hit_98 : List YCut := [(45, [some (.inr (.inr (33, (0, 0), (0, 0)))), some (.inl (0, 999)), some (.inl (4, 4)), some (.inl ((-2147483648), 2147483647)), some (.inl (0, 14)), none], [(48, 0, 272, .inl (14, 14))], [.inl 1, .inr (.inl (false, 4))])]
theorem gt_X12_hit_98 : y_chk gL_0 gk_X12_hit_98 gq_X12_hit_98 4000 2 = true := by decide +kernel
def gk_X12_hit_99 : YCt := (306, [.inr (.inr (33, (0, 0), (0, 0))), .inl ((-2147483648), 2147483647), .inl (4, 4)], ([(48, 0, 272, .inl (15, 15))], []), [], [(some (.inl ((-2147483648), 2147483647)), [])], 2)
def gq_X12_hit_99 : List YCut := [(45, [some (.inr (.inr (33, (0, 0), (0, 0)))), some (.inl (0, 999)), some (.inl (4, 4)), some (.inl ((-2147483648), 2147483647)), some (.inl (0, 15)), none], [(48, 0, 272, .inl (15, 15))], [.inl 1, .inr (.inl (false, 4))])]
theorem gt_X12_hit_99 : y_chk gL_0 gk_X12_hit_99 gq_X12_hit_99 4000 2 = true := by decide +kernel
def gk_X12_hit_100 : YCt := (306, [.inr (.inr (33, (0, 0), (0, 0))), .inl ((-2147483648), 2147483647), .inl (4, 4)], ([(48, 0, 272, .inl (16, 16))], []), [], [(some (.inl ((-2147483648), 2147483647)), [])], 2)
def gq_X12_hit_100 : List YCut := [(45, [some (.inr (.inr (33, (0, 0), (0, 0)))), some (.inl (0, 999)), some (.inl (4, 4)), some (.inl ((-2147483648), 2147483647)), some (.inl (0, 16)), none], [(48, 0, 272, .inl (16, 16))], [.inl 1, .inr (.inl (false, 4))])]
theorem gt_X12_hit_100 : y_chk gL_0 gk_X12_hit_100 gq_X12_hit_100 4000 2 = true := by decide +kernel
def gk_X12_hit_101 : YCt := (306, [.inr (.inr (33, (0, 0), (0, 0))), .inl ((-2147483648), 2147483647), .inl (4, 4)], ([(48, 0, 272, .inl (17, 17))], []), [], [(some (.inl ((-2147483648), 2147483647)), [])], 2)
def gq_X12_hit_101 : List YCut := [(45, [some (.inr (.inr (33, (0, 0), (0, 0)))), some (.inl (0, 999)), some (.inl (4, 4)), some (.inl ((-2147483648), 2147483647)), some (.inl (0, 17)), none], [(48, 0, 272, .inl (17, 17))], [.inl 1, .inr (.inl (false, 4))])]
theorem gt_X12_hit_101 : y_chk gL_0 gk_X12_hit_101 gq_X12_hit_101 4000 2 = true := by decide +kernel
def gk_X12_hit_102 : YCt := (306, [.inr (.inr (33, (0, 0), (0, 0))), .inl ((-2147483648), 2147483647), .inl (4, 4)], ([(48, 0, 272, .inl (18, 18))], []), [], [(some (.inl ((-2147483648), 2147483647)), [])], 2)
def gq_X12_hit_102 : List YCut := [(45, [some (.inr (.inr (33, (0, 0), (0, 0)))), some (.inl (0, 999)), some (.inl (4, 4)), some (.inl ((-2147483648), 2147483647)), some (.inl (0, 18)), none], [(48, 0, 272, .inl (18, 18))], [.inl 1, .inr (.inl (false, 4))])]
theorem gt_X12_hit_102 : y_chk gL_0 gk_X12_hit_102 gq_X12_hit_102 4000 2 = true := by decide +kernel
def gk_X12_hit_103 : YCt := (306, [.inr (.inr (33, (0, 0), (0, 0))), .inl ((-2147483648), 2147483647), .inl (4, 4)], ([(48, 0, 272, .inl (19, 19))], []), [], [(some (.inl ((-2147483648), 2147483647)), [])], 2)
def gq_X12_hit_103 : List YCut := [(45, [some (.inr (.inr (33, (0, 0), (0, 0)))), some (.inl (0, 999)), some (.inl (4, 4)), some (.inl ((-2147483648), 2147483647)), some (.inl (0, 19)), none], [(48, 0, 272, .inl (19, 19))], [.inl 1, .inr (.inl (false, 4))])]
theorem gt_X12_hit_103 : y_chk gL_0 gk_X12_hit_103 gq_X12_hit_103 4000 2 = true := by decide +kernel
def gk_X12_hit_104 : YCt := (306, [.inr (.inr (33, (0, 0), (0, 0))), .inl ((-2147483648), 2147483647), .inl (4, 4)], ([(48, 0, 272, .inl (20, 20))], []), [], [(some (.inl ((-2147483648), 2147483647)), [])], 2)
def gq_X12_hit_104 : List YCut := [(45, [some (.inr (.inr (33, (0, 0), (0, 0)))), some (.inl (0, 999)), some (.inl (4, 4)), some (.inl ((-2147483648), 2147483647)), some (.inl (0, 20)), none], [(48, 0, 272, .inl (20, 20))], [.inl 1, .inr (.inl (false, 4))])]
theorem gt_X12_hit_104 : y_chk gL_0 gk_X12_hit_104 gq_X12_hit_104 4000 2 = true := by decide +kernel
def gk_X12_hit_105 : YCt := (306, [.inr (.inr (33, (0, 0), (0, 0))), .inl ((-2147483648), 2147483647), .inl (5, 2147483647)], ([(48, 0, 272, .inl (0, 0))], []), [], [(some (.inl ((-2147483648), 2147483647)), [])], 2)
def gq_X12_hit_105 : List YCut := []
theorem gt_X12_hit_105 : y_chk gL_0 gk_X12_hit_105 gq_X12_hit_105 4000 0 = true := by decide +kernel
def gk_X11_hit_105 : YCt := (194, [.inr (.inr (0, (0, 0), (0, 0))), .inl ((-2147483648), 2147483647), .inl (5, 2147483647)], ([(17, 0, 5, .inl (0, 0))], []), [], [(some (.inl ((-2147483648), 2147483647)), [])], 2)
def gq_X11_hit_105 : List YCut := []
theorem gt_X11_hit_105 : y_chk gL_0 gk_X11_hit_105 gq_X11_hit_105 4000 0 = true := by decide +kernel
def gk_X12_hit_106 : YCt := (306, [.inr (.inr (33, (0, 0), (0, 0))), .inl ((-2147483648), 2147483647), .inl (5, 2147483647)], ([(48, 0, 272, .inl (1, 1))], []), [], [(some (.inl ((-2147483648), 2147483647)), [])], 2)
def gq_X12_hit_106 : List YCut := []
theorem gt_X12_hit_106 : y_chk gL_0 gk_X12_hit_106 gq_X12_hit_106 4000 0 = true := by decide +kernel
def gk_X11_hit_106 : YCt := (194, [.inr (.inr (0, (0, 0), (0, 0))), .inl ((-2147483648), 2147483647), .inl (5, 2147483647)], ([(17, 0, 5, .inl (1, 1))], []), [], [(some (.inl ((-2147483648), 2147483647)), [])], 2)
def gq_X11_hit_106 : List YCut := []
theorem gt_X11_hit_106 : y_chk gL_0 gk_X11_hit_106 gq_X11_hit_106 4000 0 = true := by decide +kernel
def gk_X12_hit_107 : YCt := (306, [.inr (.inr (33, (0, 0), (0, 0))), .inl ((-2147483648), 2147483647), .inl (5, 2147483647)], ([(48, 0, 272, .inl (2, 2))], []), [], [(some (.inl ((-2147483648), 2147483647)), [])], 2)
def gq_X12_hit_107 : List YCut := []
theorem gt_X12_hit_107 : y_chk gL_0 gk_X12_hit_107 gq_X12_hit_107 4000 0 = true := by decide +kernel
def gk_X11_hit_107 : YCt := (194, [.inr (.inr (0, (0, 0), (0, 0))), .inl ((-2147483648), 2147483647), .inl (5, 2147483647)], ([(17, 0, 5, .inl (2, 2))], []), [], [(some (.inl ((-2147483648), 2147483647)), [])], 2)
def gq_X11_hit_107 : List YCut := []
theorem gt_X11_hit_107 : y_chk gL_0 gk_X11_hit_107 gq_X11_hit_107 4000 0 = true := by decide +kernel
def gk_X12_hit_108 : YCt := (306, [.inr (.inr (33, (0, 0), (0, 0))), .inl ((-2147483648), 2147483647), .inl (5, 2147483647)], ([(48, 0, 272, .inl (3, 3))], []), [], [(some (.inl ((-2147483648), 2147483647)), [])], 2)
def gq_X12_hit_108 : List YCut := []
theorem gt_X12_hit_108 : y_chk gL_0 gk_X12_hit_108 gq_X12_hit_108 4000 0 = true := by decide +kernel
def gk_X11_hit_108 : YCt := (194, [.inr (.inr (0, (0, 0), (0, 0))), .inl ((-2147483648), 2147483647), .inl (5, 2147483647)], ([(17, 0, 5, .inl (3, 3))], []), [], [(some (.inl ((-2147483648), 2147483647)), [])], 2)
def gq_X11_hit_108 : List YCut := []
theorem gt_X11_hit_108 : y_chk gL_0 gk_X11_hit_108 gq_X11_hit_108 4000 0 = true := by decide +kernel
def gk_X12_hit_109 : YCt := (306, [.inr (.inr (33, (0, 0), (0, 0))), .inl ((-2147483648), 2147483647), .inl (5, 2147483647)], ([(48, 0, 272, .inl (4, 4))], []), [], [(some (.inl ((-2147483648), 2147483647)), [])], 2)
def gq_X12_hit_109 : List YCut := []
theorem gt_X12_hit_109 : y_chk gL_0 gk_X12_hit_109 gq_X12_hit_109 4000 0 = true := by decide +kernel
def gk_X11_hit_109 : YCt := (194, [.inr (.inr (0, (0, 0), (0, 0))), .inl ((-2147483648), 2147483647), .inl (5, 2147483647)], ([(17, 0, 5, .inl (4, 4))], []), [], [(some (.inl ((-2147483648), 2147483647)), [])], 2)
def gq_X11_hit_109 : List YCut := []
theorem gt_X11_hit_109 : y_chk gL_0 gk_X11_hit_109 gq_X11_hit_109 4000 0 = true := by decide +kernel
def gk_X12_hit_110 : YCt := (306, [.inr (.inr (33, (0, 0), (0, 0))), .inl ((-2147483648), 2147483647), .inl (5, 2147483647)], ([(48, 0, 272, .inl (5, 5))], []), [], [(some (.inl ((-2147483648), 2147483647)), [])], 2)
def gq_X12_hit_110 : List YCut := []
theorem gt_X12_hit_110 : y_chk gL_0 gk_X12_hit_110 gq_X12_hit_110 4000 0 = true := by decide +kernel
def gk_X11_hit_110 : YCt := (194, [.inr (.inr (0, (0, 0), (0, 0))), .inl ((-2147483648), 2147483647), .inl (5, 2147483647)], ([(17, 0, 5, .inl (5, 5))], []), [], [(some (.inl ((-2147483648), 2147483647)), [])], 2)
def gq_X11_hit_110 : List YCut := []
theorem gt_X11_hit_110 : y_chk gL_0 gk_X11_hit_110 gq_X11_hit_110 4000 0 = true := by decide +kernel
def gk_X12_hit_111 : YCt := (306, [.inr (.inr (33, (0, 0), (0, 0))), .inl ((-2147483648), 2147483647), .inl (5, 2147483647)], ([(48, 0, 272, .inl (6, 6))], []), [], [(some (.inl ((-2147483648), 2147483647)), [])], 2)
def gq_X12_hit_111 : List YCut := []
theorem gt_X12_hit_111 : y_chk gL_0 gk_X12_hit_111 gq_X12_hit_111 4000 0 = true := by decide +kernel
def gk_X11_hit_111 : YCt := (194, [.inr (.inr (0, (0, 0), (0, 0))), .inl ((-2147483648), 2147483647), .inl (5, 2147483647)], ([(17, 0, 5, .inl (6, 6))], []), [], [(some (.inl ((-2147483648), 2147483647)), [])], 2)
def gq_X11_hit_111 : List YCut := []
theorem gt_X11_hit_111 : y_chk gL_0 gk_X11_hit_111 gq_X11_hit_111 4000 0 = true := by decide +kernel
def gk_X12_hit_112 : YCt := (306, [.inr (.inr (33, (0, 0), (0, 0))), .inl ((-2147483648), 2147483647), .inl (5, 2147483647)], ([(48, 0, 272, .inl (7, 7))], []), [], [(some (.inl ((-2147483648), 2147483647)), [])], 2)
def gq_X12_hit_112 : List YCut := []
theorem gt_X12_hit_112 : y_chk gL_0 gk_X12_hit_112 gq_X12_hit_112 4000 0 = true := by decide +kernel
def gk_X11_hit_112 : YCt := (194, [.inr (.inr (0, (0, 0), (0, 0))), .inl ((-2147483648), 2147483647), .inl (5, 2147483647)], ([(17, 0, 5, .inl (7, 7))], []), [], [(some (.inl ((-2147483648), 2147483647)), [])], 2)
def gq_X11_hit_112 : List YCut := []
theorem gt_X11_hit_112 : y_chk gL_0 gk_X11_hit_112 gq_X11_hit_112 4000 0 = true := by decide +kernel
def gk_X12_hit_113 : YCt := (306, [.inr (.inr (33, (0, 0), (0, 0))), .inl ((-2147483648), 2147483647), .inl (5, 2147483647)], ([(48, 0, 272, .inl (8, 8))], []), [], [(some (.inl ((-2147483648), 2147483647)), [])], 2)
def gq_X12_hit_113 : List YCut := []
theorem gt_X12_hit_113 : y_chk gL_0 gk_X12_hit_113 gq_X12_hit_113 4000 0 = true := by decide +kernel
def gk_X11_hit_113 : YCt := (194, [.inr (.inr (0, (0, 0), (0, 0))), .inl ((-2147483648), 2147483647), .inl (5, 2147483647)], ([(17, 0, 5, .inl (8, 8))], []), [], [(some (.inl ((-2147483648), 2147483647)), [])], 2)
def gq_X11_hit_113 : List YCut := []
theorem gt_X11_hit_113 : y_chk gL_0 gk_X11_hit_113 gq_X11_hit_113 4000 0 = true := by decide +kernel
def gk_X12_hit_114 : YCt := (306, [.inr (.inr (33, (0, 0), (0, 0))), .inl ((-2147483648), 2147483647), .inl (5, 2147483647)], ([(48, 0, 272, .inl (9, 9))], []), [], [(some (.inl ((-2147483648), 2147483647)), [])], 2)
def gq_X12_hit_114 : List YCut := []
theorem gt_X12_hit_114 : y_chk gL_0 gk_X12_hit_114 gq_X12_hit_114 4000 0 = true := by decide +kernel
def gk_X11_hit_114 : YCt := (194, [.inr (.inr (0, (0, 0), (0, 0))), .inl ((-2147483648), 2147483647), .inl (5, 2147483647)], ([(17, 0, 5, .inl (9, 9))], []), [], [(some (.inl ((-2147483648), 2147483647)), [])], 2)
def gq_X11_hit_114 : List YCut := []
theorem gt_X11_hit_114 : y_chk gL_0 gk_X11_hit_114 gq_X11_hit_114 4000 0 = true := by decide +kernel
def gk_X12_hit_115 : YCt := (306, [.inr (.inr (33, (0, 0), (0, 0))), .inl ((-2147483648), 2147483647), .inl (5, 2147483647)], ([(48, 0, 272, .inl (10, 10))], []), [], [(some (.inl ((-2147483648), 2147483647)), [])], 2)
def gq_X12_hit_115 : List YCut := []
theorem gt_X12_hit_115 : y_chk gL_0 gk_X12_hit_115 gq_X12_hit_115 4000 0 = true := by decide +kernel
def gk_X11_hit_115 : YCt := (194, [.inr (.inr (0, (0, 0), (0, 0))), .inl ((-2147483648), 2147483647), .inl (5, 2147483647)], ([(17, 0, 5, .inl (10, 10))], []), [], [(some (.inl ((-2147483648), 2147483647)), [])], 2)
def gq_X11_hit_115 : List YCut := []
theorem gt_X11_hit_115 : y_chk gL_0 gk_X11_hit_115 gq_X11_hit_115 4000 0 = true := by decide +kernel
def gk_X12_hit_116 : YCt := (306, [.inr (.inr (33, (0, 0), (0, 0))), .inl ((-2147483648), 2147483647), .inl (5, 2147483647)], ([(48, 0, 272, .inl (11, 11))], []), [], [(some (.inl ((-2147483648), 2147483647)), [])], 2)
def gq_X12_hit_116 : List YCut := []
theorem gt_X12_hit_116 : y_chk gL_0 gk_X12_hit_116 gq_X12_hit_116 4000 0 = true := by decide +kernel
def gk_X11_hit_116 : YCt := (194, [.inr (.inr (0, (0, 0), (0, 0))), .inl ((-2147483648), 2147483647), .inl (5, 2147483647)], ([(17, 0, 5, .inl (11, 11))], []), [], [(some (.inl ((-2147483648), 2147483647)), [])], 2)
def gq_X11_hit_116 : List YCut := []
theorem gt_X11_hit_116 : y_chk gL_0 gk_X11_hit_116 gq_X11_hit_116 4000 0 = true := by decide +kernel
def gk_X12_hit_117 : YCt := (306, [.inr (.inr (33, (0, 0), (0, 0))), .inl ((-2147483648), 2147483647), .inl (5, 2147483647)], ([(48, 0, 272, .inl (12, 12))], []), [], [(some (.inl ((-2147483648), 2147483647)), [])], 2)
def gq_X12_hit_117 : List YCut := []
theorem gt_X12_hit_117 : y_chk gL_0 gk_X12_hit_117 gq_X12_hit_117 4000 0 = true := by decide +kernel
def gk_X11_hit_117 : YCt := (194, [.inr (.inr (0, (0, 0), (0, 0))), .inl ((-2147483648), 2147483647), .inl (5, 2147483647)], ([(17, 0, 5, .inl (12, 12))], []), [], [(some (.inl ((-2147483648), 2147483647)), [])], 2)
def gq_X11_hit_117 : List YCut := []
theorem gt_X11_hit_117 : y_chk gL_0 gk_X11_hit_117 gq_X11_hit_117 4000 0 = true := by decide +kernel
def gk_X12_hit_118 : YCt := (306, [.inr (.inr (33, (0, 0), (0, 0))), .inl ((-2147483648), 2147483647), .inl (5, 2147483647)], ([(48, 0, 272, .inl (13, 13))], []), [], [(some (.inl ((-2147483648), 2147483647)), [])], 2)
def gq_X12_hit_118 : List YCut := []
theorem gt_X12_hit_118 : y_chk gL_0 gk_X12_hit_118 gq_X12_hit_118 4000 0 = true := by decide +kernel
def gk_X11_hit_118 : YCt := (194, [.inr (.inr (0, (0, 0), (0, 0))), .inl ((-2147483648), 2147483647), .inl (5, 2147483647)], ([(17, 0, 5, .inl (13, 13))], []), [], [(some (.inl ((-2147483648), 2147483647)), [])], 2)
def gq_X11_hit_118 : List YCut := []
theorem gt_X11_hit_118 : y_chk gL_0 gk_X11_hit_118 gq_X11_hit_118 4000 0 = true := by decide +kernel
def gk_X12_hit_119 : YCt := (306, [.inr (.inr (33, (0, 0), (0, 0))), .inl ((-2147483648), 2147483647), .inl (5, 2147483647)], ([(48, 0, 272, .inl (14, 14))], []), [], [(some (.inl ((-2147483648), 2147483647)), [])], 2)
def gq_X12_hit_119 : List YCut := []
theorem gt_X12_hit_119 : y_chk gL_0 gk_X12_hit_119 gq_X12_hit_119 4000 0 = true := by decide +kernel
def gk_X11_hit_119 : YCt := (194, [.inr (.inr (0, (0, 0), (0, 0))), .inl ((-2147483648), 2147483647), .inl (5, 2147483647)], ([(17, 0, 5, .inl (14, 14))], []), [], [(some (.inl ((-2147483648), 2147483647)), [])], 2)
def gq_X11_hit_119 : List YCut := []
theorem gt_X11_hit_119 : y_chk gL_0 gk_X11_hit_119 gq_X11_hit_119 4000 0 = true := by decide +kernel
def gk_X12_hit_120 : YCt := (306, [.inr (.inr (33, (0, 0), (0, 0))), .inl ((-2147483648), 2147483647), .inl (5, 2147483647)], ([(48, 0, 272, .inl (15, 15))], []), [], [(some (.inl ((-2147483648), 2147483647)), [])], 2)
def gq_X12_hit_120 : List YCut := []
theorem gt_X12_hit_120 : y_chk gL_0 gk_X12_hit_120 gq_X12_hit_120 4000 0 = true := by decide +kernel
def gk_X11_hit_120 : YCt := (194, [.inr (.inr (0, (0, 0), (0, 0))), .inl ((-2147483648), 2147483647), .inl (5, 2147483647)], ([(17, 0, 5, .inl (15, 15))], []), [], [(some (.inl ((-2147483648), 2147483647)), [])], 2)
def gq_X11_hit_120 : List YCut := []
theorem gt_X11_hit_120 : y_chk gL_0 gk_X11_hit_120 gq_X11_hit_120 4000 0 = true := by decide +kernel
def gk_X12_hit_121 : YCt := (306, [.inr (.inr (33, (0, 0), (0, 0))), .inl ((-2147483648), 2147483647), .inl (5, 2147483647)], ([(48, 0, 272, .inl (16, 16))], []), [], [(some (.inl ((-2147483648), 2147483647)), [])], 2)
def gq_X12_hit_121 : List YCut := []
theorem gt_X12_hit_121 : y_chk gL_0 gk_X12_hit_121 gq_X12_hit_121 4000 0 = true := by decide +kernel
def gk_X11_hit_121 : YCt := (194, [.inr (.inr (0, (0, 0), (0, 0))), .inl ((-2147483648), 2147483647), .inl (5, 2147483647)], ([(17, 0, 5, .inl (16, 16))], []), [], [(some (.inl ((-2147483648), 2147483647)), [])], 2)
def gq_X11_hit_121 : List YCut := []
theorem gt_X11_hit_121 : y_chk gL_0 gk_X11_hit_121 gq_X11_hit_121 4000 0 = true := by decide +kernel
def gk_X12_hit_122 : YCt := (306, [.inr (.inr (33, (0, 0), (0, 0))), .inl ((-2147483648), 2147483647), .inl (5, 2147483647)], ([(48, 0, 272, .inl (17, 17))], []), [], [(some (.inl ((-2147483648), 2147483647)), [])], 2)
def gq_X12_hit_122 : List YCut := []
theorem gt_X12_hit_122 : y_chk gL_0 gk_X12_hit_122 gq_X12_hit_122 4000 0 = true := by decide +kernel
def gk_X11_hit_122 : YCt := (194, [.inr (.inr (0, (0, 0), (0, 0))), .inl ((-2147483648), 2147483647), .inl (5, 2147483647)], ([(17, 0, 5, .inl (17, 17))], []), [], [(some (.inl ((-2147483648), 2147483647)), [])], 2)
def gq_X11_hit_122 : List YCut := []
theorem gt_X11_hit_122 : y_chk gL_0 gk_X11_hit_122 gq_X11_hit_122 4000 0 = true := by decide +kernel
def gk_X12_hit_123 : YCt := (306, [.inr (.inr (33, (0, 0), (0, 0))), .inl ((-2147483648), 2147483647), .inl (5, 2147483647)], ([(48, 0, 272, .inl (18, 18))], []), [], [(some (.inl ((-2147483648), 2147483647)), [])], 2)
def gq_X12_hit_123 : List YCut := []
theorem gt_X12_hit_123 : y_chk gL_0 gk_X12_hit_123 gq_X12_hit_123 4000 0 = true := by decide +kernel
def gk_X11_hit_123 : YCt := (194, [.inr (.inr (0, (0, 0), (0, 0))), .inl ((-2147483648), 2147483647), .inl (5, 2147483647)], ([(17, 0, 5, .inl (18, 18))], []), [], [(some (.inl ((-2147483648), 2147483647)), [])], 2)
def gq_X11_hit_123 : List YCut := []
theorem gt_X11_hit_123 : y_chk gL_0 gk_X11_hit_123 gq_X11_hit_123 4000 0 = true := by decide +kernel
def gk_X12_hit_124 : YCt := (306, [.inr (.inr (33, (0, 0), (0, 0))), .inl ((-2147483648), 2147483647), .inl (5, 2147483647)], ([(48, 0, 272, .inl (19, 19))], []), [], [(some (.inl ((-2147483648), 2147483647)), [])], 2)
def gq_X12_hit_124 : List YCut := []
theorem gt_X12_hit_124 : y_chk gL_0 gk_X12_hit_124 gq_X12_hit_124 4000 0 = true := by decide +kernel
def gk_X11_hit_124 : YCt := (194, [.inr (.inr (0, (0, 0), (0, 0))), .inl ((-2147483648), 2147483647), .inl (5, 2147483647)], ([(17, 0, 5, .inl (19, 19))], []), [], [(some (.inl ((-2147483648), 2147483647)), [])], 2)
def gq_X11_hit_124 : List YCut := []
theorem gt_X11_hit_124 : y_chk gL_0 gk_X11_hit_124 gq_X11_hit_124 4000 0 = true := by decide +kernel
def gk_X12_hit_125 : YCt := (306, [.inr (.inr (33, (0, 0), (0, 0))), .inl ((-2147483648), 2147483647), .inl (5, 2147483647)], ([(48, 0, 272, .inl (20, 20))], []), [], [(some (.inl ((-2147483648), 2147483647)), [])], 2)
def gq_X12_hit_125 : List YCut := []
theorem gt_X12_hit_125 : y_chk gL_0 gk_X12_hit_125 gq_X12_hit_125 4000 0 = true := by decide +kernel
def gk_X11_hit_125 : YCt := (194, [.inr (.inr (0, (0, 0), (0, 0))), .inl ((-2147483648), 2147483647), .inl (5, 2147483647)], ([(17, 0, 5, .inl (20, 20))], []), [], [(some (.inl ((-2147483648), 2147483647)), [])], 2)
def gq_X11_hit_125 : List YCut := []
theorem gt_X11_hit_125 : y_chk gL_0 gk_X11_hit_125 gq_X11_hit_125 4000 0 = true := by decide +kernel
def gk_X1_muddierThan : YCt := (46, [.inr (.inr (17, (0, 0), (0, 0))), .inl (0, 999)], ([(17, 0, 5, .inl (1, 1))], []), [], [(some (.inl ((-2147483648), 2147483647)), [])], 1)
def gq_X1_muddierThan : List YCut := [(11, [none, some (.inl (0, 999)), some (.inl ((-2147483648), 2147483647)), some (.inr (.inr (21, (0, 0), (0, 19))))], [], [.inl 1, .inr (.inl (false, 3))])]
theorem gt_X1_muddierThan : y_chk gL_0 gk_X1_muddierThan gq_X1_muddierThan 4000 2 = true := by decide +kernel
def gk_X1_muddierThan_1 : YCt := (46, [.inr (.inr (17, (0, 0), (0, 0))), .inl (0, 999)], ([(17, 0, 5, .inl (2, 2))], []), [], [(some (.inl ((-2147483648), 2147483647)), [])], 1)
def gq_X1_muddierThan_1 : List YCut := [(11, [none, some (.inl (0, 999)), some (.inl ((-2147483648), 2147483647)), some (.inr (.inr (21, (0, 0), (0, 19))))], [], [.inl 1, .inr (.inl (false, 3))])]
theorem gt_X1_muddierThan_1 : y_chk gL_0 gk_X1_muddierThan_1 gq_X1_muddierThan_1 4000 2 = true := by decide +kernel
def gk_X1_muddierThan_2 : YCt := (46, [.inr (.inr (17, (0, 0), (0, 0))), .inl (0, 999)], ([(17, 0, 5, .inl (3, 3))], []), [], [(some (.inl ((-2147483648), 2147483647)), [])], 1)
def gq_X1_muddierThan_2 : List YCut := [(11, [none, some (.inl (0, 999)), some (.inl ((-2147483648), 2147483647)), some (.inr (.inr (21, (0, 0), (0, 19))))], [], [.inl 1, .inr (.inl (false, 3))])]
theorem gt_X1_muddierThan_2 : y_chk gL_0 gk_X1_muddierThan_2 gq_X1_muddierThan_2 4000 2 = true := by decide +kernel
def gk_X1_muddierThan_3 : YCt := (46, [.inr (.inr (17, (0, 0), (0, 0))), .inl (0, 999)], ([(17, 0, 5, .inl (4, 4))], []), [], [(some (.inl ((-2147483648), 2147483647)), [])], 1)
def gq_X1_muddierThan_3 : List YCut := [(11, [none, some (.inl (0, 999)), some (.inl ((-2147483648), 2147483647)), some (.inr (.inr (21, (0, 0), (0, 19))))], [], [.inl 1, .inr (.inl (false, 3))])]
theorem gt_X1_muddierThan_3 : y_chk gL_0 gk_X1_muddierThan_3 gq_X1_muddierThan_3 4000 2 = true := by decide +kernel
def gk_X1_muddierThan_4 : YCt := (46, [.inr (.inr (17, (0, 0), (0, 0))), .inl (0, 999)], ([(17, 0, 5, .inl (5, 5))], []), [], [(some (.inl ((-2147483648), 2147483647)), [])], 1)
def gq_X1_muddierThan_4 : List YCut := [(11, [none, some (.inl (0, 999)), some (.inl ((-2147483648), 2147483647)), some (.inr (.inr (21, (0, 0), (0, 19))))], [], [.inl 1, .inr (.inl (false, 3))])]
theorem gt_X1_muddierThan_4 : y_chk gL_0 gk_X1_muddierThan_4 gq_X1_muddierThan_4 4000 2 = true := by decide +kernel
def gk_X1_muddierThan_5 : YCt := (46, [.inr (.inr (17, (0, 0), (0, 0))), .inl (0, 999)], ([(17, 0, 5, .inl (6, 6))], []), [], [(some (.inl ((-2147483648), 2147483647)), [])], 1)
def gq_X1_muddierThan_5 : List YCut := [(11, [none, some (.inl (0, 999)), some (.inl ((-2147483648), 2147483647)), some (.inr (.inr (21, (0, 0), (0, 19))))], [], [.inl 1, .inr (.inl (false, 3))])]
theorem gt_X1_muddierThan_5 : y_chk gL_0 gk_X1_muddierThan_5 gq_X1_muddierThan_5 4000 2 = true := by decide +kernel
def gk_X1_muddierThan_6 : YCt := (46, [.inr (.inr (17, (0, 0), (0, 0))), .inl (0, 999)], ([(17, 0, 5, .inl (7, 7))], []), [], [(some (.inl ((-2147483648), 2147483647)), [])], 1)
def gq_X1_muddierThan_6 : List YCut := [(11, [none, some (.inl (0, 999)), some (.inl ((-2147483648), 2147483647)), some (.inr (.inr (21, (0, 0), (0, 19))))], [], [.inl 1, .inr (.inl (false, 3))])]
theorem gt_X1_muddierThan_6 : y_chk gL_0 gk_X1_muddierThan_6 gq_X1_muddierThan_6 4000 2 = true := by decide +kernel
def gk_X1_muddierThan_7 : YCt := (46, [.inr (.inr (17, (0, 0), (0, 0))), .inl (0, 999)], ([(17, 0, 5, .inl (8, 8))], []), [], [(some (.inl ((-2147483648), 2147483647)), [])], 1)
def gq_X1_muddierThan_7 : List YCut := [(11, [none, some (.inl (0, 999)), some (.inl ((-2147483648), 2147483647)), some (.inr (.inr (21, (0, 0), (0, 19))))], [], [.inl 1, .inr (.inl (false, 3))])]
theorem gt_X1_muddierThan_7 : y_chk gL_0 gk_X1_muddierThan_7 gq_X1_muddierThan_7 4000 2 = true := by decide +kernel
def gk_X1_muddierThan_8 : YCt := (46, [.inr (.inr (17, (0, 0), (0, 0))), .inl (0, 999)], ([(17, 0, 5, .inl (9, 9))], []), [], [(some (.inl ((-2147483648), 2147483647)), [])], 1)
def gq_X1_muddierThan_8 : List YCut := [(11, [none, some (.inl (0, 999)), some (.inl ((-2147483648), 2147483647)), some (.inr (.inr (21, (0, 0), (0, 19))))], [], [.inl 1, .inr (.inl (false, 3))])]
theorem gt_X1_muddierThan_8 : y_chk gL_0 gk_X1_muddierThan_8 gq_X1_muddierThan_8 4000 2 = true := by decide +kernel
def gk_X1_muddierThan_9 : YCt := (46, [.inr (.inr (17, (0, 0), (0, 0))), .inl (0, 999)], ([(17, 0, 5, .inl (10, 10))], []), [], [(some (.inl ((-2147483648), 2147483647)), [])], 1)
def gq_X1_muddierThan_9 : List YCut := [(11, [none, some (.inl (0, 999)), some (.inl ((-2147483648), 2147483647)), some (.inr (.inr (21, (0, 0), (0, 19))))], [], [.inl 1, .inr (.inl (false, 3))])]
theorem gt_X1_muddierThan_9 : y_chk gL_0 gk_X1_muddierThan_9 gq_X1_muddierThan_9 4000 2 = true := by decide +kernel
def gk_X1_muddierThan_10 : YCt := (46, [.inr (.inr (17, (0, 0), (0, 0))), .inl (0, 999)], ([(17, 0, 5, .inl (11, 11))], []), [], [(some (.inl ((-2147483648), 2147483647)), [])], 1)
def gq_X1_muddierThan_10 : List YCut := [(11, [none, some (.inl (0, 999)), some (.inl ((-2147483648), 2147483647)), some (.inr (.inr (21, (0, 0), (0, 19))))], [], [.inl 1, .inr (.inl (false, 3))])]
theorem gt_X1_muddierThan_10 : y_chk gL_0 gk_X1_muddierThan_10 gq_X1_muddierThan_10 4000 2 = true := by decide +kernel
def gk_X1_muddierThan_11 : YCt := (46, [.inr (.inr (17, (0, 0), (0, 0))), .inl (0, 999)], ([(17, 0, 5, .inl (12, 12))], []), [], [(some (.inl ((-2147483648), 2147483647)), [])], 1)
def gq_X1_muddierThan_11 : List YCut := [(11, [none, some (.inl (0, 999)), some (.inl ((-2147483648), 2147483647)), some (.inr (.inr (21, (0, 0), (0, 19))))], [], [.inl 1, .inr (.inl (false, 3))])]
theorem gt_X1_muddierThan_11 : y_chk gL_0 gk_X1_muddierThan_11 gq_X1_muddierThan_11 4000 2 = true := by decide +kernel
def gk_X1_muddierThan_12 : YCt := (46, [.inr (.inr (17, (0, 0), (0, 0))), .inl (0, 999)], ([(17, 0, 5, .inl (13, 13))], []), [], [(some (.inl ((-2147483648), 2147483647)), [])], 1)
def gq_X1_muddierThan_12 : List YCut := [(11, [none, some (.inl (0, 999)), some (.inl ((-2147483648), 2147483647)), some (.inr (.inr (21, (0, 0), (0, 19))))], [], [.inl 1, .inr (.inl (false, 3))])]
theorem gt_X1_muddierThan_12 : y_chk gL_0 gk_X1_muddierThan_12 gq_X1_muddierThan_12 4000 2 = true := by decide +kernel
def gk_X1_muddierThan_13 : YCt := (46, [.inr (.inr (17, (0, 0), (0, 0))), .inl (0, 999)], ([(17, 0, 5, .inl (14, 14))], []), [], [(some (.inl ((-2147483648), 2147483647)), [])], 1)
def gq_X1_muddierThan_13 : List YCut := [(11, [none, some (.inl (0, 999)), some (.inl ((-2147483648), 2147483647)), some (.inr (.inr (21, (0, 0), (0, 19))))], [], [.inl 1, .inr (.inl (false, 3))])]
theorem gt_X1_muddierThan_13 : y_chk gL_0 gk_X1_muddierThan_13 gq_X1_muddierThan_13 4000 2 = true := by decide +kernel
def gk_X1_muddierThan_14 : YCt := (46, [.inr (.inr (17, (0, 0), (0, 0))), .inl (0, 999)], ([(17, 0, 5, .inl (15, 15))], []), [], [(some (.inl ((-2147483648), 2147483647)), [])], 1)
def gq_X1_muddierThan_14 : List YCut := [(11, [none, some (.inl (0, 999)), some (.inl ((-2147483648), 2147483647)), some (.inr (.inr (21, (0, 0), (0, 19))))], [], [.inl 1, .inr (.inl (false, 3))])]
theorem gt_X1_muddierThan_14 : y_chk gL_0 gk_X1_muddierThan_14 gq_X1_muddierThan_14 4000 2 = true := by decide +kernel
def gk_X1_muddierThan_15 : YCt := (46, [.inr (.inr (17, (0, 0), (0, 0))), .inl (0, 999)], ([(17, 0, 5, .inl (16, 16))], []), [], [(some (.inl ((-2147483648), 2147483647)), [])], 1)
def gq_X1_muddierThan_15 : List YCut := [(11, [none, some (.inl (0, 999)), some (.inl ((-2147483648), 2147483647)), some (.inr (.inr (21, (0, 0), (0, 19))))], [], [.inl 1, .inr (.inl (false, 3))])]
theorem gt_X1_muddierThan_15 : y_chk gL_0 gk_X1_muddierThan_15 gq_X1_muddierThan_15 4000 2 = true := by decide +kernel
def gk_X1_muddierThan_16 : YCt := (46, [.inr (.inr (17, (0, 0), (0, 0))), .inl (0, 999)], ([(17, 0, 5, .inl (17, 17))], []), [], [(some (.inl ((-2147483648), 2147483647)), [])], 1)
def gq_X1_muddierThan_16 : List YCut := [(11, [none, some (.inl (0, 999)), some (.inl ((-2147483648), 2147483647)), some (.inr (.inr (21, (0, 0), (0, 19))))], [], [.inl 1, .inr (.inl (false, 3))])]
theorem gt_X1_muddierThan_16 : y_chk gL_0 gk_X1_muddierThan_16 gq_X1_muddierThan_16 4000 2 = true := by decide +kernel
def gk_X1_muddierThan_17 : YCt := (46, [.inr (.inr (17, (0, 0), (0, 0))), .inl (0, 999)], ([(17, 0, 5, .inl (18, 18))], []), [], [(some (.inl ((-2147483648), 2147483647)), [])], 1)
def gq_X1_muddierThan_17 : List YCut := [(11, [none, some (.inl (0, 999)), some (.inl ((-2147483648), 2147483647)), some (.inr (.inr (21, (0, 0), (0, 19))))], [], [.inl 1, .inr (.inl (false, 3))])]
theorem gt_X1_muddierThan_17 : y_chk gL_0 gk_X1_muddierThan_17 gq_X1_muddierThan_17 4000 2 = true := by decide +kernel
def gk_X1_muddierThan_18 : YCt := (46, [.inr (.inr (17, (0, 0), (0, 0))), .inl (0, 999)], ([(17, 0, 5, .inl (19, 19))], []), [], [(some (.inl ((-2147483648), 2147483647)), [])], 1)
def gq_X1_muddierThan_18 : List YCut := [(11, [none, some (.inl (0, 999)), some (.inl ((-2147483648), 2147483647)), some (.inr (.inr (21, (0, 0), (0, 19))))], [], [.inl 1, .inr (.inl (false, 3))])]
theorem gt_X1_muddierThan_18 : y_chk gL_0 gk_X1_muddierThan_18 gq_X1_muddierThan_18 4000 2 = true := by decide +kernel
def gk_X1_muddierThan_19 : YCt := (46, [.inr (.inr (17, (0, 0), (0, 0))), .inl (0, 999)], ([(17, 0, 5, .inl (20, 20))], []), [], [(some (.inl ((-2147483648), 2147483647)), [])], 1)
def gq_X1_muddierThan_19 : List YCut := [(11, [none, some (.inl (0, 999)), some (.inl ((-2147483648), 2147483647)), some (.inr (.inr (21, (0, 0), (0, 19))))], [], [.inl 1, .inr (.inl (false, 3))])]
theorem gt_X1_muddierThan_19 : y_chk gL_0 gk_X1_muddierThan_19 gq_X1_muddierThan_19 4000 2 = true := by decide +kernel
def gL_1_c0 : List YCt := [gk_X12_hit, gk_X11_hit, gk_X12_hit_1, gk_X11_hit_1, gk_X12_hit_2, gk_X11_hit_2, gk_X12_hit_3, gk_X11_hit_3, gk_X12_hit_4, gk_X11_hit_4, gk_X12_hit_5, gk_X11_hit_5, gk_X12_hit_6, gk_X11_hit_6, gk_X12_hit_7, gk_X11_hit_7, gk_X12_hit_8, gk_X11_hit_8, gk_X12_hit_9, gk_X11_hit_9, gk_X12_hit_10, gk_X11_hit_10, gk_X12_hit_11, gk_X11_hit_11, gk_X12_hit_12, gk_X11_hit_12, gk_X12_hit_13, gk_X11_hit_13, gk_X12_hit_14, gk_X11_hit_14, gk_X12_hit_15, gk_X11_hit_15, gk_X12_hit_16, gk_X11_hit_16, gk_X12_hit_17, gk_X11_hit_17, gk_X12_hit_18, gk_X11_hit_18, gk_X12_hit_19, gk_X11_hit_19, gk_X12_hit_20, gk_X11_hit_20, gk_X12_hit_21, gk_X11_hit_21, gk_X12_hit_22, gk_X12_hit_23, gk_X12_hit_24, gk_X12_hit_25, gk_X12_hit_26, gk_X12_hit_27, gk_X12_hit_28, gk_X12_hit_29, gk_X12_hit_30, gk_X12_hit_31, gk_X12_hit_32, gk_X12_hit_33, gk_X12_hit_34, gk_X12_hit_35, gk_X12_hit_36, gk_X12_hit_37]
theorem gl_1_c0 {X : LMem → Prop} (hX : y_cl X) (h : ∀ ct ∈ gL_0, y_con X ct) : ∀ ct ∈ gL_1_c0, y_con X ct := List.forall_mem_cons.mpr ⟨y_chk_ok hX h gt_X12_hit, List.forall_mem_cons.mpr ⟨y_chk_ok hX h gt_X11_hit, List.forall_mem_cons.mpr ⟨y_chk_ok hX h gt_X12_hit_1, List.forall_mem_cons.mpr ⟨y_chk_ok hX h gt_X11_hit_1, List.forall_mem_cons.mpr ⟨y_chk_ok hX h gt_X12_hit_2, List.forall_mem_cons.mpr ⟨y_chk_ok hX h gt_X11_hit_2, List.forall_mem_cons.mpr ⟨y_chk_ok hX h gt_X12_hit_3, List.forall_mem_cons.mpr ⟨y_chk_ok hX h gt_X11_hit_3, List.forall_mem_cons.mpr ⟨y_chk_ok hX h gt_X12_hit_4, List.forall_mem_cons.mpr ⟨y_chk_ok hX h gt_X11_hit_4, List.forall_mem_cons.mpr ⟨y_chk_ok hX h gt_X12_hit_5, List.forall_mem_cons.mpr ⟨y_chk_ok hX h gt_X11_hit_5, List.forall_mem_cons.mpr ⟨y_chk_ok hX h gt_X12_hit_6, List.forall_mem_cons.mpr ⟨y_chk_ok hX h gt_X11_hit_6, List.forall_mem_cons.mpr ⟨y_chk_ok hX h gt_X12_hit_7, List.forall_mem_cons.mpr ⟨y_chk_ok hX h gt_X11_hit_7, List.forall_mem_cons.mpr ⟨y_chk_ok hX h gt_X12_hit_8, List.forall_mem_cons.mpr ⟨y_chk_ok hX h gt_X11_hit_8, List.forall_mem_cons.mpr ⟨y_chk_ok hX h gt_X12_hit_9, List.forall_mem_cons.mpr ⟨y_chk_ok hX h gt_X11_hit_9, List.forall_mem_cons.mpr ⟨y_chk_ok hX h gt_X12_hit_10, List.forall_mem_cons.mpr ⟨y_chk_ok hX h gt_X11_hit_10, List.forall_mem_cons.mpr ⟨y_chk_ok hX h gt_X12_hit_11, List.forall_mem_cons.mpr ⟨y_chk_ok hX h gt_X11_hit_11, List.forall_mem_cons.mpr ⟨y_chk_ok hX h gt_X12_hit_12, List.forall_mem_cons.mpr ⟨y_chk_ok hX h gt_X11_hit_12, List.forall_mem_cons.mpr ⟨y_chk_ok hX h gt_X12_hit_13, List.forall_mem_cons.mpr ⟨y_chk_ok hX h gt_X11_hit_13, List.forall_mem_cons.mpr ⟨y_chk_ok hX h gt_X12_hit_14, List.forall_mem_cons.mpr ⟨y_chk_ok hX h gt_X11_hit_14, List.forall_mem_cons.mpr ⟨y_chk_ok hX h gt_X12_hit_15, List.forall_mem_cons.mpr ⟨y_chk_ok hX h gt_X11_hit_15, List.forall_mem_cons.mpr ⟨y_chk_ok hX h gt_X12_hit_16, List.forall_mem_cons.mpr ⟨y_chk_ok hX h gt_X11_hit_16, List.forall_mem_cons.mpr ⟨y_chk_ok hX h gt_X12_hit_17, List.forall_mem_cons.mpr ⟨y_chk_ok hX h gt_X11_hit_17, List.forall_mem_cons.mpr ⟨y_chk_ok hX h gt_X12_hit_18, List.forall_mem_cons.mpr ⟨y_chk_ok hX h gt_X11_hit_18, List.forall_mem_cons.mpr ⟨y_chk_ok hX h gt_X12_hit_19, List.forall_mem_cons.mpr ⟨y_chk_ok hX h gt_X11_hit_19, List.forall_mem_cons.mpr ⟨y_chk_ok hX h gt_X12_hit_20, List.forall_mem_cons.mpr ⟨y_chk_ok hX h gt_X11_hit_20, List.forall_mem_cons.mpr ⟨y_chk_ok hX h gt_X12_hit_21, List.forall_mem_cons.mpr ⟨y_chk_ok hX h gt_X11_hit_21, List.forall_mem_cons.mpr ⟨y_chk_ok hX h gt_X12_hit_22, List.forall_mem_cons.mpr ⟨y_chk_ok hX h gt_X12_hit_23, List.forall_mem_cons.mpr ⟨y_chk_ok hX h gt_X12_hit_24, List.forall_mem_cons.mpr ⟨y_chk_ok hX h gt_X12_hit_25, List.forall_mem_cons.mpr ⟨y_chk_ok hX h gt_X12_hit_26, List.forall_mem_cons.mpr ⟨y_chk_ok hX h gt_X12_hit_27, List.forall_mem_cons.mpr ⟨y_chk_ok hX h gt_X12_hit_28, List.forall_mem_cons.mpr ⟨y_chk_ok hX h gt_X12_hit_29, List.forall_mem_cons.mpr ⟨y_chk_ok hX h gt_X12_hit_30, List.forall_mem_cons.mpr ⟨y_chk_ok hX h gt_X12_hit_31, List.forall_mem_cons.mpr ⟨y_chk_ok hX h gt_X12_hit_32, List.forall_mem_cons.mpr ⟨y_chk_ok hX h gt_X12_hit_33, List.forall_mem_cons.mpr ⟨y_chk_ok hX h gt_X12_hit_34, List.forall_mem_cons.mpr ⟨y_chk_ok hX h gt_X12_hit_35, List.forall_mem_cons.mpr ⟨y_chk_ok hX h gt_X12_hit_36, List.forall_mem_cons.mpr ⟨y_chk_ok hX h gt_X12_hit_37, (fun _ hq => absurd hq List.not_mem_nil)⟩⟩⟩⟩⟩⟩⟩⟩⟩⟩⟩⟩⟩⟩⟩⟩⟩⟩⟩⟩⟩⟩⟩⟩⟩⟩⟩⟩⟩⟩⟩⟩⟩⟩⟩⟩⟩⟩⟩⟩⟩⟩⟩⟩⟩⟩⟩⟩⟩⟩⟩⟩⟩⟩⟩⟩⟩⟩⟩⟩
def gL_1_c1 : List YCt := [gk_X12_hit_38, gk_X12_hit_39, gk_X12_hit_40, gk_X12_hit_41, gk_X12_hit_42, gk_X11_hit_42, gk_X12_hit_43, gk_X11_hit_43, gk_X12_hit_44, gk_X12_hit_45, gk_X12_hit_46, gk_X12_hit_47, gk_X12_hit_48, gk_X12_hit_49, gk_X12_hit_50, gk_X12_hit_51, gk_X12_hit_52, gk_X12_hit_53, gk_X12_hit_54, gk_X12_hit_55, gk_X12_hit_56, gk_X12_hit_57, gk_X12_hit_58, gk_X12_hit_59, gk_X12_hit_60, gk_X12_hit_61, gk_X12_hit_62, gk_X12_hit_63, gk_X11_hit_63, gk_X12_hit_64, gk_X11_hit_64, gk_X12_hit_65, gk_X11_hit_65, gk_X12_hit_66, gk_X12_hit_67, gk_X12_hit_68, gk_X12_hit_69, gk_X12_hit_70, gk_X12_hit_71, gk_X12_hit_72, gk_X12_hit_73, gk_X12_hit_74, gk_X12_hit_75, gk_X12_hit_76, gk_X12_hit_77, gk_X12_hit_78, gk_X12_hit_79, gk_X12_hit_80, gk_X12_hit_81, gk_X12_hit_82, gk_X12_hit_83, gk_X12_hit_84, gk_X11_hit_84, gk_X12_hit_85, gk_X11_hit_85, gk_X12_hit_86, gk_X11_hit_86, gk_X12_hit_87, gk_X11_hit_87, gk_X12_hit_88]
theorem gl_1_c1 {X : LMem → Prop} (hX : y_cl X) (h : ∀ ct ∈ gL_0, y_con X ct) : ∀ ct ∈ gL_1_c1, y_con X ct := List.forall_mem_cons.mpr ⟨y_chk_ok hX h gt_X12_hit_38, List.forall_mem_cons.mpr ⟨y_chk_ok hX h gt_X12_hit_39, List.forall_mem_cons.mpr ⟨y_chk_ok hX h gt_X12_hit_40, List.forall_mem_cons.mpr ⟨y_chk_ok hX h gt_X12_hit_41, List.forall_mem_cons.mpr ⟨y_chk_ok hX h gt_X12_hit_42, List.forall_mem_cons.mpr ⟨y_chk_ok hX h gt_X11_hit_42, List.forall_mem_cons.mpr ⟨y_chk_ok hX h gt_X12_hit_43, List.forall_mem_cons.mpr ⟨y_chk_ok hX h gt_X11_hit_43, List.forall_mem_cons.mpr ⟨y_chk_ok hX h gt_X12_hit_44, List.forall_mem_cons.mpr ⟨y_chk_ok hX h gt_X12_hit_45, List.forall_mem_cons.mpr ⟨y_chk_ok hX h gt_X12_hit_46, List.forall_mem_cons.mpr ⟨y_chk_ok hX h gt_X12_hit_47, List.forall_mem_cons.mpr ⟨y_chk_ok hX h gt_X12_hit_48, List.forall_mem_cons.mpr ⟨y_chk_ok hX h gt_X12_hit_49, List.forall_mem_cons.mpr ⟨y_chk_ok hX h gt_X12_hit_50, List.forall_mem_cons.mpr ⟨y_chk_ok hX h gt_X12_hit_51, List.forall_mem_cons.mpr ⟨y_chk_ok hX h gt_X12_hit_52, List.forall_mem_cons.mpr ⟨y_chk_ok hX h gt_X12_hit_53, List.forall_mem_cons.mpr ⟨y_chk_ok hX h gt_X12_hit_54, List.forall_mem_cons.mpr ⟨y_chk_ok hX h gt_X12_hit_55, List.forall_mem_cons.mpr ⟨y_chk_ok hX h gt_X12_hit_56, List.forall_mem_cons.mpr ⟨y_chk_ok hX h gt_X12_hit_57, List.forall_mem_cons.mpr ⟨y_chk_ok hX h gt_X12_hit_58, List.forall_mem_cons.mpr ⟨y_chk_ok hX h gt_X12_hit_59, List.forall_mem_cons.mpr ⟨y_chk_ok hX h gt_X12_hit_60, List.forall_mem_cons.mpr ⟨y_chk_ok hX h gt_X12_hit_61, List.forall_mem_cons.mpr ⟨y_chk_ok hX h gt_X12_hit_62, List.forall_mem_cons.mpr ⟨y_chk_ok hX h gt_X12_hit_63, List.forall_mem_cons.mpr ⟨y_chk_ok hX h gt_X11_hit_63, List.forall_mem_cons.mpr ⟨y_chk_ok hX h gt_X12_hit_64, List.forall_mem_cons.mpr ⟨y_chk_ok hX h gt_X11_hit_64, List.forall_mem_cons.mpr ⟨y_chk_ok hX h gt_X12_hit_65, List.forall_mem_cons.mpr ⟨y_chk_ok hX h gt_X11_hit_65, List.forall_mem_cons.mpr ⟨y_chk_ok hX h gt_X12_hit_66, List.forall_mem_cons.mpr ⟨y_chk_ok hX h gt_X12_hit_67, List.forall_mem_cons.mpr ⟨y_chk_ok hX h gt_X12_hit_68, List.forall_mem_cons.mpr ⟨y_chk_ok hX h gt_X12_hit_69, List.forall_mem_cons.mpr ⟨y_chk_ok hX h gt_X12_hit_70, List.forall_mem_cons.mpr ⟨y_chk_ok hX h gt_X12_hit_71, List.forall_mem_cons.mpr ⟨y_chk_ok hX h gt_X12_hit_72, List.forall_mem_cons.mpr ⟨y_chk_ok hX h gt_X12_hit_73, List.forall_mem_cons.mpr ⟨y_chk_ok hX h gt_X12_hit_74, List.forall_mem_cons.mpr ⟨y_chk_ok hX h gt_X12_hit_75, List.forall_mem_cons.mpr ⟨y_chk_ok hX h gt_X12_hit_76, List.forall_mem_cons.mpr ⟨y_chk_ok hX h gt_X12_hit_77, List.forall_mem_cons.mpr ⟨y_chk_ok hX h gt_X12_hit_78, List.forall_mem_cons.mpr ⟨y_chk_ok hX h gt_X12_hit_79, List.forall_mem_cons.mpr ⟨y_chk_ok hX h gt_X12_hit_80, List.forall_mem_cons.mpr ⟨y_chk_ok hX h gt_X12_hit_81, List.forall_mem_cons.mpr ⟨y_chk_ok hX h gt_X12_hit_82, List.forall_mem_cons.mpr ⟨y_chk_ok hX h gt_X12_hit_83, List.forall_mem_cons.mpr ⟨y_chk_ok hX h gt_X12_hit_84, List.forall_mem_cons.mpr ⟨y_chk_ok hX h gt_X11_hit_84, List.forall_mem_cons.mpr ⟨y_chk_ok hX h gt_X12_hit_85, List.forall_mem_cons.mpr ⟨y_chk_ok hX h gt_X11_hit_85, List.forall_mem_cons.mpr ⟨y_chk_ok hX h gt_X12_hit_86, List.forall_mem_cons.mpr ⟨y_chk_ok hX h gt_X11_hit_86, List.forall_mem_cons.mpr ⟨y_chk_ok hX h gt_X12_hit_87, List.forall_mem_cons.mpr ⟨y_chk_ok hX h gt_X11_hit_87, List.forall_mem_cons.mpr ⟨y_chk_ok hX h gt_X12_hit_88, (fun _ hq => absurd hq List.not_mem_nil)⟩⟩⟩⟩⟩⟩⟩⟩⟩⟩⟩⟩⟩⟩⟩⟩⟩⟩⟩⟩⟩⟩⟩⟩⟩⟩⟩⟩⟩⟩⟩⟩⟩⟩⟩⟩⟩⟩⟩⟩⟩⟩⟩⟩⟩⟩⟩⟩⟩⟩⟩⟩⟩⟩⟩⟩⟩⟩⟩⟩
def gL_1_c2 : List YCt := [gk_X12_hit_89, gk_X12_hit_90, gk_X12_hit_91, gk_X12_hit_92, gk_X12_hit_93, gk_X12_hit_94, gk_X12_hit_95, gk_X12_hit_96, gk_X12_hit_97, gk_X12_hit_98, gk_X12_hit_99, gk_X12_hit_100, gk_X12_hit_101, gk_X12_hit_102, gk_X12_hit_103, gk_X12_hit_104, gk_X12_hit_105, gk_X11_hit_105, gk_X12_hit_106, gk_X11_hit_106, gk_X12_hit_107, gk_X11_hit_107, gk_X12_hit_108, gk_X11_hit_108, gk_X12_hit_109, gk_X11_hit_109, gk_X12_hit_110, gk_X11_hit_110, gk_X12_hit_111, gk_X11_hit_111, gk_X12_hit_112, gk_X11_hit_112, gk_X12_hit_113, gk_X11_hit_113, gk_X12_hit_114, gk_X11_hit_114, gk_X12_hit_115, gk_X11_hit_115, gk_X12_hit_116, gk_X11_hit_116, gk_X12_hit_117, gk_X11_hit_117, gk_X12_hit_118, gk_X11_hit_118, gk_X12_hit_119, gk_X11_hit_119, gk_X12_hit_120, gk_X11_hit_120, gk_X12_hit_121, gk_X11_hit_121, gk_X12_hit_122, gk_X11_hit_122, gk_X12_hit_123, gk_X11_hit_123, gk_X12_hit_124, gk_X11_hit_124, gk_X12_hit_125, gk_X11_hit_125, gk_X1_muddierThan, gk_X1_muddierThan_1]
theorem gl_1_c2 {X : LMem → Prop} (hX : y_cl X) (h : ∀ ct ∈ gL_0, y_con X ct) : ∀ ct ∈ gL_1_c2, y_con X ct := List.forall_mem_cons.mpr ⟨y_chk_ok hX h gt_X12_hit_89, List.forall_mem_cons.mpr ⟨y_chk_ok hX h gt_X12_hit_90, List.forall_mem_cons.mpr ⟨y_chk_ok hX h gt_X12_hit_91, List.forall_mem_cons.mpr ⟨y_chk_ok hX h gt_X12_hit_92, List.forall_mem_cons.mpr ⟨y_chk_ok hX h gt_X12_hit_93, List.forall_mem_cons.mpr ⟨y_chk_ok hX h gt_X12_hit_94, List.forall_mem_cons.mpr ⟨y_chk_ok hX h gt_X12_hit_95, List.forall_mem_cons.mpr ⟨y_chk_ok hX h gt_X12_hit_96, List.forall_mem_cons.mpr ⟨y_chk_ok hX h gt_X12_hit_97, List.forall_mem_cons.mpr ⟨y_chk_ok hX h gt_X12_hit_98, List.forall_mem_cons.mpr ⟨y_chk_ok hX h gt_X12_hit_99, List.forall_mem_cons.mpr ⟨y_chk_ok hX h gt_X12_hit_100, List.forall_mem_cons.mpr ⟨y_chk_ok hX h gt_X12_hit_101, List.forall_mem_cons.mpr ⟨y_chk_ok hX h gt_X12_hit_102, List.forall_mem_cons.mpr ⟨y_chk_ok hX h gt_X12_hit_103, List.forall_mem_cons.mpr ⟨y_chk_ok hX h gt_X12_hit_104, List.forall_mem_cons.mpr ⟨y_chk_ok hX h gt_X12_hit_105, List.forall_mem_cons.mpr ⟨y_chk_ok hX h gt_X11_hit_105, List.forall_mem_cons.mpr ⟨y_chk_ok hX h gt_X12_hit_106, List.forall_mem_cons.mpr ⟨y_chk_ok hX h gt_X11_hit_106, List.forall_mem_cons.mpr ⟨y_chk_ok hX h gt_X12_hit_107, List.forall_mem_cons.mpr ⟨y_chk_ok hX h gt_X11_hit_107, List.forall_mem_cons.mpr ⟨y_chk_ok hX h gt_X12_hit_108, List.forall_mem_cons.mpr ⟨y_chk_ok hX h gt_X11_hit_108, List.forall_mem_cons.mpr ⟨y_chk_ok hX h gt_X12_hit_109, List.forall_mem_cons.mpr ⟨y_chk_ok hX h gt_X11_hit_109, List.forall_mem_cons.mpr ⟨y_chk_ok hX h gt_X12_hit_110, List.forall_mem_cons.mpr ⟨y_chk_ok hX h gt_X11_hit_110, List.forall_mem_cons.mpr ⟨y_chk_ok hX h gt_X12_hit_111, List.forall_mem_cons.mpr ⟨y_chk_ok hX h gt_X11_hit_111, List.forall_mem_cons.mpr ⟨y_chk_ok hX h gt_X12_hit_112, List.forall_mem_cons.mpr ⟨y_chk_ok hX h gt_X11_hit_112, List.forall_mem_cons.mpr ⟨y_chk_ok hX h gt_X12_hit_113, List.forall_mem_cons.mpr ⟨y_chk_ok hX h gt_X11_hit_113, List.forall_mem_cons.mpr ⟨y_chk_ok hX h gt_X12_hit_114, List.forall_mem_cons.mpr ⟨y_chk_ok hX h gt_X11_hit_114, List.forall_mem_cons.mpr ⟨y_chk_ok hX h gt_X12_hit_115, List.forall_mem_cons.mpr ⟨y_chk_ok hX h gt_X11_hit_115, List.forall_mem_cons.mpr ⟨y_chk_ok hX h gt_X12_hit_116, List.forall_mem_cons.mpr ⟨y_chk_ok hX h gt_X11_hit_116, List.forall_mem_cons.mpr ⟨y_chk_ok hX h gt_X12_hit_117, List.forall_mem_cons.mpr ⟨y_chk_ok hX h gt_X11_hit_117, List.forall_mem_cons.mpr ⟨y_chk_ok hX h gt_X12_hit_118, List.forall_mem_cons.mpr ⟨y_chk_ok hX h gt_X11_hit_118, List.forall_mem_cons.mpr ⟨y_chk_ok hX h gt_X12_hit_119, List.forall_mem_cons.mpr ⟨y_chk_ok hX h gt_X11_hit_119, List.forall_mem_cons.mpr ⟨y_chk_ok hX h gt_X12_hit_120, List.forall_mem_cons.mpr ⟨y_chk_ok hX h gt_X11_hit_120, List.forall_mem_cons.mpr ⟨y_chk_ok hX h gt_X12_hit_121, List.forall_mem_cons.mpr ⟨y_chk_ok hX h gt_X11_hit_121, List.forall_mem_cons.mpr ⟨y_chk_ok hX h gt_X12_hit_122, List.forall_mem_cons.mpr ⟨y_chk_ok hX h gt_X11_hit_122, List.forall_mem_cons.mpr ⟨y_chk_ok hX h gt_X12_hit_123, List.forall_mem_cons.mpr ⟨y_chk_ok hX h gt_X11_hit_123, List.forall_mem_cons.mpr ⟨y_chk_ok hX h gt_X12_hit_124, List.forall_mem_cons.mpr ⟨y_chk_ok hX h gt_X11_hit_124, List.forall_mem_cons.mpr ⟨y_chk_ok hX h gt_X12_hit_125, List.forall_mem_cons.mpr ⟨y_chk_ok hX h gt_X11_hit_125, List.forall_mem_cons.mpr ⟨y_chk_ok hX h gt_X1_muddierThan, List.forall_mem_cons.mpr ⟨y_chk_ok hX h gt_X1_muddierThan_1, (fun _ hq => absurd hq List.not_mem_nil)⟩⟩⟩⟩⟩⟩⟩⟩⟩⟩⟩⟩⟩⟩⟩⟩⟩⟩⟩⟩⟩⟩⟩⟩⟩⟩⟩⟩⟩⟩⟩⟩⟩⟩⟩⟩⟩⟩⟩⟩⟩⟩⟩⟩⟩⟩⟩⟩⟩⟩⟩⟩⟩⟩⟩⟩⟩⟩⟩⟩
def gL_1_c3 : List YCt := [gk_X1_muddierThan_2, gk_X1_muddierThan_3, gk_X1_muddierThan_4, gk_X1_muddierThan_5, gk_X1_muddierThan_6, gk_X1_muddierThan_7, gk_X1_muddierThan_8, gk_X1_muddierThan_9, gk_X1_muddierThan_10, gk_X1_muddierThan_11, gk_X1_muddierThan_12, gk_X1_muddierThan_13, gk_X1_muddierThan_14, gk_X1_muddierThan_15, gk_X1_muddierThan_16, gk_X1_muddierThan_17, gk_X1_muddierThan_18, gk_X1_muddierThan_19]
theorem gl_1_c3 {X : LMem → Prop} (hX : y_cl X) (h : ∀ ct ∈ gL_0, y_con X ct) : ∀ ct ∈ gL_1_c3, y_con X ct := List.forall_mem_cons.mpr ⟨y_chk_ok hX h gt_X1_muddierThan_2, List.forall_mem_cons.mpr ⟨y_chk_ok hX h gt_X1_muddierThan_3, List.forall_mem_cons.mpr ⟨y_chk_ok hX h gt_X1_muddierThan_4, List.forall_mem_cons.mpr ⟨y_chk_ok hX h gt_X1_muddierThan_5, List.forall_mem_cons.mpr ⟨y_chk_ok hX h gt_X1_muddierThan_6, List.forall_mem_cons.mpr ⟨y_chk_ok hX h gt_X1_muddierThan_7, List.forall_mem_cons.mpr ⟨y_chk_ok hX h gt_X1_muddierThan_8, List.forall_mem_cons.mpr ⟨y_chk_ok hX h gt_X1_muddierThan_9, List.forall_mem_cons.mpr ⟨y_chk_ok hX h gt_X1_muddierThan_10, List.forall_mem_cons.mpr ⟨y_chk_ok hX h gt_X1_muddierThan_11, List.forall_mem_cons.mpr ⟨y_chk_ok hX h gt_X1_muddierThan_12, List.forall_mem_cons.mpr ⟨y_chk_ok hX h gt_X1_muddierThan_13, List.forall_mem_cons.mpr ⟨y_chk_ok hX h gt_X1_muddierThan_14, List.forall_mem_cons.mpr ⟨y_chk_ok hX h gt_X1_muddierThan_15, List.forall_mem_cons.mpr ⟨y_chk_ok hX h gt_X1_muddierThan_16, List.forall_mem_cons.mpr ⟨y_chk_ok hX h gt_X1_muddierThan_17, List.forall_mem_cons.mpr ⟨y_chk_ok hX h gt_X1_muddierThan_18, List.forall_mem_cons.mpr ⟨y_chk_ok hX h gt_X1_muddierThan_19, (fun _ hq => absurd hq List.not_mem_nil)⟩⟩⟩⟩⟩⟩⟩⟩⟩⟩⟩⟩⟩⟩⟩⟩⟩⟩
def gL_1 : List YCt := gL_1_c0 ++ (gL_1_c1 ++ (gL_1_c2 ++ (gL_1_c3 ++ (gL_0))))
theorem gl_1 {X : LMem → Prop} (hX : y_cl X) (h : ∀ ct ∈ gL_0, y_con X ct) : ∀ ct ∈ gL_1, y_con X ct := List.forall_mem_append.mpr ⟨gl_1_c0 hX h, List.forall_mem_append.mpr ⟨gl_1_c1 hX h, List.forall_mem_append.mpr ⟨gl_1_c2 hX h, List.forall_mem_append.mpr ⟨gl_1_c3 hX h, h⟩⟩⟩⟩
