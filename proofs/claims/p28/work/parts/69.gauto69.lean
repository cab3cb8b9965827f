def gk_X11_hit_22 : YCt := (194, [.inr (.inr (0, (0, 0), (0, 0))), .inl ((-2147483648), 2147483647), .inl (1, 1)], ([(17, 0, 5, .inl (1, 1))], []), [], [(some (.inl ((-2147483648), 2147483647)), [])], 3)
def gq_X11_hit_22 : List YCut := []
theorem gt_X11_hit_22 : y_chk gL_1 gk_X11_hit_22 gq_X11_hit_22 4000 0 = true := by decide +kernel
def gk_X11_hit_23 : YCt := (194, [.inr (.inr (0, (0, 0), (0, 0))), .inl ((-2147483648), 2147483647), .inl (1, 1)], ([(17, 0, 5, .inl (2, 2))], []), [], [(some (.inl ((-2147483648), 2147483647)), [])], 3)
def gq_X11_hit_23 : List YCut := []
theorem gt_X11_hit_23 : y_chk gL_1 gk_X11_hit_23 gq_X11_hit_23 4000 0 = true := by decide +kernel
def gk_X11_hit_24 : YCt := (194, [.inr (.inr (0, (0, 0), (0, 0))), .inl ((-2147483648), 2147483647), .inl (1, 1)], ([(17, 0, 5, .inl (3, 3))], []), [], [(some (.inl ((-2147483648), 2147483647)), [])], 3)
def gq_X11_hit_24 : List YCut := []
theorem gt_X11_hit_24 : y_chk gL_1 gk_X11_hit_24 gq_X11_hit_24 4000 0 = true := by decide +kernel
def gk_X11_hit_25 : YCt := (194, [.inr (.inr (0, (0, 0), (0, 0))), .inl ((-2147483648), 2147483647), .inl (1, 1)], ([(17, 0, 5, .inl (4, 4))], []), [], [(some (.inl ((-2147483648), 2147483647)), [])], 3)
def gq_X11_hit_25 : List YCut := []
theorem gt_X11_hit_25 : y_chk gL_1 gk_X11_hit_25 gq_X11_hit_25 4000 0 = true := by decide +kernel
def gk_X11_hit_26 : YCt := (194, [.inr (.inr (0, (0, 0), (0, 0))), .inl ((-2147483648), 2147483647), .inl (1, 1)], ([(17, 0, 5, .inl (5, 5))], []), [], [(some (.inl ((-2147483648), 2147483647)), [])], 3)
def gq_X11_hit_26 : List YCut := []
theorem gt_X11_hit_26 : y_chk gL_1 gk_X11_hit_26 gq_X11_hit_26 4000 0 = true := by decide +kernel
def gk_X11_hit_27 : YCt := (194, [.inr (.inr (0, (0, 0), (0, 0))), .inl ((-2147483648), 2147483647), .inl (1, 1)], ([(17, 0, 5, .inl (6, 6))], []), [], [(some (.inl ((-2147483648), 2147483647)), [])], 3)
def gq_X11_hit_27 : List YCut := []
theorem gt_X11_hit_27 : y_chk gL_1 gk_X11_hit_27 gq_X11_hit_27 4000 0 = true := by decide +kernel
def gk_X11_hit_28 : YCt := (194, [.inr (.inr (0, (0, 0), (0, 0))), .inl ((-2147483648), 2147483647), .inl (1, 1)], ([(17, 0, 5, .inl (7, 7))], []), [], [(some (.inl ((-2147483648), 2147483647)), [])], 3)
def gq_X11_hit_28 : List YCut := []
theorem gt_X11_hit_28 : y_chk gL_1 gk_X11_hit_28 gq_X11_hit_28 4000 0 = true := by decide +kernel
def gk_X11_hit_29 : YCt := (194, [.inr (.inr (0, (0, 0), (0, 0))), .inl ((-2147483648), 2147483647), .inl (1, 1)], ([(17, 0, 5, .inl (8, 8))], []), [], [(some (.inl ((-2147483648), 2147483647)), [])], 3)
def gq_X11_hit_29 : List YCut := []
theorem gt_X11_hit_29 : y_chk gL_1 gk_X11_hit_29 gq_X11_hit_29 4000 0 = true := by decide +kernel
def gk_X11_hit_30 : YCt := (194, [.inr (.inr (0, (0, 0), (0, 0))), .inl ((-2147483648), 2147483647), .inl (1, 1)], ([(17, 0, 5, .inl (9, 9))], []), [], [(some (.inl ((-2147483648), 2147483647)), [])], 3)
def gq_X11_hit_30 : List YCut := []
theorem gt_X11_hit_30 : y_chk gL_1 gk_X11_hit_30 gq_X11_hit_30 4000 0 = true := by decide +kernel
def gk_X11_hit_31 : YCt := (194, [.inr (.inr (0, (0, 0), (0, 0))), .inl ((-2147483648), 2147483647), .inl (1, 1)], ([(17, 0, 5, .inl (10, 10))], []), [], [(some (.inl ((-2147483648), 2147483647)), [])], 3)
def gq_X11_hit_31 : List YCut := []
theorem gt_X11_hit_31 : y_chk gL_1 gk_X11_hit_31 gq_X11_hit_31 4000 0 = true := by decide +kernel
def gk_X11_hit_32 : YCt := (194, [.inr (.inr (0, (0, 0), (0, 0))), .inl ((-2147483648), 2147483647), .inl (1, 1)], ([(17, 0, 5, .inl (11, 11))], []), [], [(some (.inl ((-2147483648), 2147483647)), [])], 3)
def gq_X11_hit_32 : List YCut := []
theorem gt_X11_hit_32 : y_chk gL_1 gk_X11_hit_32 gq_X11_hit_32 4000 0 = true := by decide +kernel
def gk_X11_hit_33 : YCt := (194, [.inr (.inr (0, (0, 0), (0, 0))), .inl ((-2147483648), 2147483647), .inl (1, 1)], ([(17, 0, 5, .inl (12, 12))], []), [], [(some (.inl ((-2147483648), 2147483647)), [])], 3)
def gq_X11_hit_33 : List YCut := []
theorem gt_X11_hit_33 : y_chk gL_1 gk_X11_hit_33 gq_X11_hit_33 4000 0 = true := by decide +kernel
def gk_X11_hit_34 : YCt := (194, [.inr (.inr (0, (0, 0), (0, 0))), .inl ((-2147483648), 2147483647), .inl (1, 1)], ([(17, 0, 5, .inl (13, 13))], []), [], [(some (.inl ((-2147483648), 2147483647)), [])], 3)
def gq_X11_hit_34 : List YCut := []
theorem gt_X11_hit_34 : y_chk gL_1 gk_X11_hit_34 gq_X11_hit_34 4000 0 = true := by decide +kernel
def gk_X11_hit_35 : YCt := (194, [.inr (.inr (0, (0, 0), (0, 0))), .inl ((-2147483648), 2147483647), .inl (1, 1)], ([(17, 0, 5, .inl (14, 14))], []), [], [(some (.inl ((-2147483648), 2147483647)), [])], 3)
def gq_X11_hit_35 : List YCut := []
theorem gt_X11_hit_35 : y_chk gL_1 gk_X11_hit_35 gq_X11_hit_35 4000 0 = true := by decide +kernel
def gk_X11_hit_36 : YCt := (194, [.inr (.inr (0, (0, 0), (0, 0))), .inl ((-2147483648), 2147483647), .inl (1, 1)], ([(17, 0, 5, .inl (15, 15))], []), [], [(some (.inl ((-2147483648), 2147483647)), [])], 3)
def gq_X11_hit_36 : List YCut := []
theorem gt_X11_hit_36 : y_chk gL_1 gk_X11_hit_36 gq_X11_hit_36 4000 0 = true := by decide +kernel
def gk_X11_hit_37 : YCt := (194, [.inr (.inr (0, (0, 0), (0, 0))), .inl ((-2147483648), 2147483647), .inl (1, 1)], ([(17, 0, 5, .inl (16, 16))], []), [], [(some (.inl ((-2147483648), 2147483647)), [])], 3)
def gq_X11_hit_37 : List YCut := []
theorem gt_X11_hit_37 : y_chk gL_1 gk_X11_hit_37 gq_X11_hit_37 4000 0 = true := by decide +kernel
def gk_X11_hit_38 : YCt := (194, [.inr (.inr (0, (0, 0), (0, 0))), .inl ((-2147483648), 2147483647), .inl (1, 1)], ([(17, 0, 5, .inl (17, 17))], []), [], [(some (.inl ((-2147483648), 2147483647)), [])], 3)
def gq_X11_hit_38 : List YCut := []
theorem gt_X11_hit_38 : y_chk gL_1 gk_X11_hit_38 gq_X11_hit_38 4000 0 = true := by decide +kernel
def gk_X11_hit_39 : YCt := (194, [.inr (.inr (0, (0, 0), (0, 0))), .inl ((-2147483648), 2147483647), .inl (1, 1)], ([(17, 0, 5, .inl (18, 18))], []), [], [(some (.inl ((-2147483648), 2147483647)), [])], 3)
def gq_X11_hit_39 : List YCut := []
theorem gt_X11_hit_39 : y_chk gL_1 gk_X11_hit_39 gq_X11_hit_39 4000 0 = true := by decide +kernel
def gk_X11_hit_40 : YCt := (194, [.inr (.inr (0, (0, 0), (0, 0))), .inl ((-2147483648), 2147483647), .inl (1, 1)], ([(17, 0, 5, .inl (19, 19))], []), [], [(some (.inl ((-2147483648), 2147483647)), [])], 3)
def gq_X11_hit_40 : List YCut := []
theorem gt_X11_hit_40 : y_chk gL_1 gk_X11_hit_40 gq_X11_hit_40 4000 0 = true := by decide +kernel
def gk_X11_hit_41 : YCt := (194, [.inr (.inr (0, (0, 0), (0, 0))), .inl ((-2147483648), 2147483647), .inl (1, 1)], ([(17, 0, 5, .inl (20, 20))], []), [], [(some (.inl ((-2147483648), 2147483647)), [])], 3)
def gq_X11_hit_41 : List YCut := []
theorem gt_X11_hit_41 : y_chk gL_1 gk_X11_hit_41 gq_X11_hit_41 4000 0 = true := by decide +kernel
def gk_X11_hit_44 : YCt := (194, [.inr (.inr (0, (0, 0), (0, 0))), .inl ((-2147483648), 2147483647), .inl (2, 2)], ([(17, 0, 5, .inl (2, 2))], []), [], [(some (.inl ((-2147483648), 2147483647)), [])], 3)
def gq_X11_hit_44 : List YCut := []
theorem gt_X11_hit_44 : y_chk gL_1 gk_X11_hit_44 gq_X11_hit_44 4000 0 = true := by decide +kernel
def gk_X11_hit_45 : YCt := (194, [.inr (.inr (0, (0, 0), (0, 0))), .inl ((-2147483648), 2147483647), .inl (2, 2)], ([(17, 0, 5, .inl (3, 3))], []), [], [(some (.inl ((-2147483648), 2147483647)), [])], 3)
def gq_X11_hit_45 : List YCut := []
theorem gt_X11_hit_45 : y_chk gL_1 gk_X11_hit_45 gq_X11_hit_45 4000 0 = true := by decide +kernel
def gk_X11_hit_46 : YCt := (194, [.inr (.inr (0, (0, 0), (0, 0))), .inl ((-2147483648), 2147483647), .inl (2, 2)], ([(17, 0, 5, .inl (4, 4))], []), [], [(some (.inl ((-2147483648), 2147483647)), [])], 3)
def gq_X11_hit_46 : List YCut := []
theorem gt_X11_hit_46 : y_chk gL_1 gk_X11_hit_46 gq_X11_hit_46 4000 0 = true := by decide +kernel
def gk_X11_hit_47 : YCt := (194, [.inr (.inr (0, (0, 0), (0, 0))), .inl ((-2147483648), 2147483647), .inl (2, 2)], ([(17, 0, 5, .inl (5, 5))], []), [], [(some (.inl ((-2147483648), 2147483647)), [])], 3)
def gq_X11_hit_47 : List YCut := []
theorem gt_X11_hit_47 : y_chk gL_1 gk_X11_hit_47 gq_X11_hit_47 4000 0 = true := by decide +kernel
def gk_X11_hit_48 : YCt := (194, [.inr (.inr (0, (0, 0), (0, 0))), .inl ((-2147483648), 2147483647), .inl (2, 2)], ([(17, 0, 5, .inl (6, 6))], []), [], [(some (.inl ((-2147483648), 2147483647)), [])], 3)
def gq_X11_hit_48 : List YCut := []
theorem gt_X11_hit_48 : y_chk gL_1 gk_X11_hit_48 gq_X11_hit_48 4000 0 = true := by decide +kernel
def gk_X11_hit_49 : YCt := (194, [.inr (.inr (0, (0, 0), (0, 0))), .inl ((-2147483648), 2147483647), .inl (2, 2)], ([(17, 0, 5, .inl (7, 7))], []), [], [(some (.inl ((-2147483648), 2147483647)), [])], 3)
def gq_X11_hit_49 : List YCut := []
theorem gt_X11_hit_49 : y_chk gL_1 gk_X11_hit_49 gq_X11_hit_49 4000 0 = true := by decide +kernel
def gk_X11_hit_50 : YCt := (194, [.inr (.inr (0, (0, 0), (0, 0))), .inl ((-2147483648), 2147483647), .inl (2, 2)], ([(17, 0, 5, .inl (8, 8))], []), [], [(some (.inl ((-2147483648), 2147483647)), [])], 3)
def gq_X11_hit_50 : List YCut := []
theorem gt_X11_hit_50 : y_chk gL_1 gk_X11_hit_50 gq_X11_hit_50 4000 0 = true := by decide +kernel
def gk_X11_hit_51 : YCt := (194, [.inr (.inr (0, (0, 0), (0, 0))), .inl ((-2147483648), 2147483647), .inl (2, 2)], ([(17, 0, 5, .inl (9, 9))], []), [], [(some (.inl ((-2147483648), 2147483647)), [])], 3)
def gq_X11_hit_51 : List YCut := []
theorem gt_X11_hit_51 : y_chk gL_1 gk_X11_hit_51 gq_X11_hit_51 4000 0 = true := by decide +kernel
def gk_X11_hit_52 : YCt := (194, [.inr (.inr (0, (0, 0), (0, 0))), .inl ((-2147483648), 2147483647), .inl (2, 2)], ([(17, 0, 5, .inl (10, 10))], []), [], [(some (.inl ((-2147483648), 2147483647)), [])], 3)
def gq_X11_hit_52 : List YCut := []
theorem gt_X11_hit_52 : y_chk gL_1 gk_X11_hit_52 gq_X11_hit_52 4000 0 = true := by decide +kernel
def gk_X11_hit_53 : YCt := (194, [.inr (.inr (0, (0, 0), (0, 0))), .inl ((-2147483648), 2147483647), .inl (2, 2)], ([(17, 0, 5, .inl (11, 11))], []), [], [(some (.inl ((-2147483648), 2147483647)), [])], 3)
def gq_X11_hit_53 : List YCut := []
theorem gt_X11_hit_53 : y_chk gL_1 gk_X11_hit_53 gq_X11_hit_53 4000 0 = true := by decide +kernel
def gk_X11_hit_54 : YCt := (194, [.inr (.inr (0, (0, 0), (0, 0))), .inl ((-2147483648), 2147483647), .inl (2, 2)], ([(17, 0, 5, .inl (12, 12))], []), [], [(some (.inl ((-2147483648), 2147483647)), [])], 3)
def gq_X11_hit_54 : List YCut := []
theorem gt_X11_hit_54 : y_chk gL_1 gk_X11_hit_54 gq_X11_hit_54 4000 0 = true := by decide +kernel
def gk_X11_hit_55 : YCt := (194, [.inr (.inr (0, (0, 0), (0, 0))), .inl ((-2147483648), 2147483647), .inl (2, 2)], ([(17, 0, 5, .inl (13, 13))], []), [], [(some (.inl ((-2147483648), 2147483647)), [])], 3)
def gq_X11_hit_55 : List YCut := []
theorem gt_X11_hit_55 : y_chk gL_1 gk_X11_hit_55 gq_X11_hit_55 4000 0 = true := by decide +kernel
def gk_X11_hit_56 : YCt := (194, [.inr (.inr (0, (0, 0), (0, 0))), .inl ((-2147483648), 2147483647), .inl (2, 2)], ([(17, 0, 5, .inl (14, 14))], []), [], [(some (.inl ((-2147483648), 2147483647)), [])], 3)
def gq_X11_hit_56 : List YCut := []
theorem gt_X11_hit_56 : y_chk gL_1 gk_X11_hit_56 gq_X11_hit_56 4000 0 = true := by decide +kernel
def gk_X11_hit_57 : YCt := (194, [.inr (.inr (0, (0, 0), (0, 0))), .inl ((-2147483648), 2147483647), .inl (2, 2)], ([(17, 0, 5, .inl (15, 15))], []), [], [(some (.inl ((-2147483648), 2147483647)), [])], 3)
def gq_X11_hit_57 : List YCut := []
theorem gt_X11_hit_57 : y_chk gL_1 gk_X11_hit_57 gq_X11_hit_57 4000 0 = true := by decide +kernel
def gk_X11_hit_58 : YCt := (194, [.inr (.inr (0, (0, 0), (0, 0))), .inl ((-2147483648), 2147483647), .inl (2, 2)], ([(17, 0, 5, .inl (16, 16))], []), [], [(some (.inl ((-2147483648), 2147483647)), [])], 3)
def gq_X11_hit_58 : List YCut := []
theorem gt_X11_hit_58 : y_chk gL_1 gk_X11_hit_58 gq_X11_hit_58 4000 0 = true := by decide +kernel
def gk_X11_hit_59 : YCt := (194, [.inr (.inr (0, (0, 0), (0, 0))), .inl ((-2147483648), 2147483647), .inl (2, 2)], ([(17, 0, 5, .inl (17, 17))], []), [], [(some (.inl ((-2147483648), 2147483647)), [])], 3)
def gq_X11_hit_59 : List YCut := []
theorem gt_X11_hit_59 : y_chk gL_1 gk_X11_hit_59 gq_X11_hit_59 4000 0 = true := by decide +kernel
def gk_X11_hit_60 : YCt := (194, [.inr (.inr (0, (0, 0), (0, 0))), .inl ((-2147483648), 2147483647), .inl (2, 2)], ([(17, 0, 5, .inl (18, 18))], []), [], [(some (.inl ((-2147483648), 2147483647)), [])], 3)
def gq_X11_hit_60 : List YCut := []
theorem gt_X11_hit_60 : y_chk gL_1 gk_X11_hit_60 gq_X11_hit_60 4000 0 = true := by decide +kernel
def gk_X11_hit_61 : YCt := (194, [.inr (.inr (0, (0, 0), (0, 0))), .inl ((-2147483648), 2147483647), .inl (2, 2)], ([(17, 0, 5, .inl (19, 19))], []), [], [(some (.inl ((-2147483648), 2147483647)), [])], 3)
def gq_X11_hit_61 : List YCut := []
theorem gt_X11_hit_61 : y_chk gL_1 gk_X11_hit_61 gq_X11_hit_61 4000 0 = true := by decide +kernel
def gk_X11_hit_62 : YCt := (194, [.inr (.inr (0, (0, 0), (0, 0))), .inl ((-2147483648), 2147483647), .inl (2, 2)], ([(17, 0, 5, .inl (20, 20))], []), [], [(some (.inl ((-2147483648), 2147483647)), [])], 3)
def gq_X11_hit_62 : List YCut := []
theorem gt_X11_hit_62 : y_chk gL_1 gk_X11_hit_62 gq_X11_hit_62 4000 0 = true := by decide +kernel
def gk_X11_hit_66 : YCt := (194, [.inr (.inr (0, (0, 0), (0, 0))), .inl ((-2147483648), 2147483647), .inl (3, 3)], ([(17, 0, 5, .inl (3, 3))], []), [], [(some (.inl ((-2147483648), 2147483647)), [])], 3)
def gq_X11_hit_66 : List YCut := []
theorem gt_X11_hit_66 : y_chk gL_1 gk_X11_hit_66 gq_X11_hit_66 4000 0 = true := by decide +kernel
def gk_X11_hit_67 : YCt := (194, [.inr (.inr (0, (0, 0), (0, 0))), .inl ((-2147483648), 2147483647), .inl (3, 3)], ([(17, 0, 5, .inl (4, 4))], []), [], [(some (.inl ((-2147483648), 2147483647)), [])], 3)
def gq_X11_hit_67 : List YCut := []
theorem gt_X11_hit_67 : y_chk gL_1 gk_X11_hit_67 gq_X11_hit_67 4000 0 = true := by decide +kernel
def gk_X11_hit_68 : YCt := (194, [.inr (.inr (0, (0, 0), (0, 0))), .inl ((-2147483648), 2147483647), .inl (3, 3)], ([(17, 0, 5, .inl (5, 5))], []), [], [(some (.inl ((-2147483648), 2147483647)), [])], 3)
def gq_X11_hit_68 : List YCut := []
theorem gt_X11_hit_68 : y_chk gL_1 gk_X11_hit_68 gq_X11_hit_68 4000 0 = true := by decide +kernel
def gk_X11_hit_69 : YCt := (194, [.inr (.inr (0, (0, 0), (0, 0))), .inl ((-2147483648), 2147483647), .inl (3, 3)], ([(17, 0, 5, .inl (6, 6))], []), [], [(some (.inl ((-2147483648), 2147483647)), [])], 3)
def gq_X11_hit_69 : List YCut := []
theorem gt_X11_hit_69 : y_chk gL_1 gk_X11_hit_69 gq_X11_hit_69 4000 0 = true := by decide +kernel
def gk_X11_hit_70 : YCt := (194, [.inr (.inr (0, (0, 0), (0, 0))), .inl ((-2147483648), 2147483647), .inl (3, 3)], ([(17, 0, 5, .inl (7, 7))], []), [], [(some (.inl ((-2147483648), 2147483647)), [])], 3)
def gq_X11_hit_70 : List YCut := []
theorem gt_X11_hit_70 : y_chk gL_1 gk_X11_hit_70 gq_X11_hit_70 4000 0 = true := by decide +kernel
def gk_X11_hit_71 : YCt := (194, [.inr (.inr (0, (0, 0), (0, 0))), .inl ((-2147483648), 2147483647), .inl (3, 3)], ([(17, 0, 5, .inl (8, 8))], []), [], [(some (.inl ((-2147483648), 2147483647)), [])], 3)
def gq_X11_hit_71 : List YCut := []
theorem gt_X11_hit_71 : y_chk gL_1 gk_X11_hit_71 gq_X11_hit_71 4000 0 = true := by decide +kernel
def gk_X11_hit_72 : YCt := (194, [.inr (.inr (0, (0, 0), (0, 0))), .inl ((-2147483648), 2147483647), .inl (3, 3)], ([(17, 0, 5, .inl (9, 9))], []), [], [(some (.inl ((-2147483648), 2147483647)), [])], 3)
def gq_X11_hit_72 : List YCut := []
theorem gt_X11_hit_72 : y_chk gL_1 gk_X11_hit_72 gq_X11_hit_72 4000 0 = true := by decide +kernel
def gk_X11_hit_73 : YCt := (194, [.inr (.inr (0, (0, 0), (0, 0))), .inl ((-2147483648), 2147483647), .inl (3, 3)], ([(17, 0, 5, .inl (10, 10))], []), [], [(some (.inl ((-2147483648), 2147483647)), [])], 3)
def gq_X11_hit_73 : List YCut := []
theorem gt_X11_hit_73 : y_chk gL_1 gk_X11_hit_73 gq_X11_hit_73 4000 0 = true := by decide +kernel
def gk_X11_hit_74 : YCt := (194, [.inr (.inr (0, (0, 0), (0, 0))), .inl ((-2147483648), 2147483647), .inl (3, 3)], ([(17, 0, 5, .inl (11, 11))], []), [], [(some (.inl ((-2147483648), 2147483647)), [])], 3)
def gq_X11_hit_74 : List YCut := []
theorem gt_X11_hit_74 : y_chk gL_1 gk_X11_hit_74 gq_X11_hit_74 4000 0 = true := by decide +kernel
def gk_X11_hit_75 : YCt := (194, [.inr (.inr (0, (0, 0), (0, 0))), .inl ((-2147483648), 2147483647), .inl (3, 3)], ([(17, 0, 5, .inl (12, 12))], []), [], [(some (.inl ((-2147483648), 2147483647)), [])], 3)
def gq_X11_hit_75 : List YCut := []
theorem gt_X11_hit_75 : y_chk gL_1 gk_X11_hit_75 gq_X11_hit_75 4000 0 = true := by decide +kernel
def gk_X11_hit_76 : YCt := (194, [.inr (.inr (0, (0, 0), (0, 0))), .inl ((-2147483648), 2147483647), .inl (3, 3)], ([(17, 0, 5, .inl (13, 13))], []), [], [(some (.inl ((-2147483648), 2147483647)), [])], 3)
def gq_X11_hit_76 : List YCut := []
theorem gt_X11_hit_76 : y_chk gL_1 gk_X11_hit_76 gq_X11_hit_76 4000 0 = true := by decide +kernel
def gk_X11_hit_77 : YCt := (194, [.inr (.inr (0, (0, 0), (0, 0))), .inl ((-2147483648), 2147483647), .inl (3, 3)], ([(17, 0, 5, .inl (14, 14))], []), [], [(some (.inl ((-2147483648), 2147483647)), [])], 3)
def gq_X11_hit_77 : List YCut := []
theorem gt_X11_hit_77 : y_chk gL_1 gk_X11_hit_77 gq_X11_hit_77 4000 0 = true := by decide +kernel
def gk_X11_hit_78 : YCt := (194, [.inr (.inr (0, (0, 0), (0, 0))), .inl ((-2147483648), 2147483647), .inl (3, 3)], ([(17, 0, 5, .inl (15, 15))], []), [], [(some (.inl ((-2147483648), 2147483647)), [])], 3)
def gq_X11_hit_78 : List YCut := []
theorem gt_X11_hit_78 : y_chk gL_1 gk_X11_hit_78 gq_X11_hit_78 4000 0 = true := by decide +kernel
def gk_X11_hit_79 : YCt := (194, [.inr (.inr (0, (0, 0), (0, 0))), .inl ((-2147483648), 2147483647), .inl (3, 3)], ([(17, 0, 5, .inl (16, 16))], []), [], [(some (.inl ((-2147483648), 2147483647)), [])], 3)
def gq_X11_hit_79 : List YCut := []
theorem gt_X11_hit_79 : y_chk gL_1 gk_X11_hit_79 gq_X11_hit_79 4000 0 = true := by decide +kernel
def gk_X11_hit_80 : YCt := (194, [.inr (.inr (0, (0, 0), (0, 0))), .inl ((-2147483648), 2147483647), .inl (3, 3)], ([(17, 0, 5, .inl (17, 17))], []), [], [(some (.inl ((-2147483648), 2147483647)), [])], 3)
def gq_X11_hit_80 : List YCut := []
theorem gt_X11_hit_80 : y_chk gL_1 gk_X11_hit_80 gq_X11_hit_80 4000 0 = true := by decide +kernel
def gk_X11_hit_81 : YCt := (194, [.inr (.inr (0, (0, 0), (0, 0))), .inl ((-2147483648), 2147483647), .inl (3, 3)], ([(17, 0, 5, .inl (18, 18))], []), [], [(some (.inl ((-2147483648), 2147483647)), [])], 3)
def gq_X11_hit_81 : List YCut := []
theorem gt_X11_hit_81 : y_chk gL_1 gk_X11_hit_81 gq_X11_hit_81 4000 0 = true := by decide +kernel
def gk_X11_hit_82 : YCt := (194, [.inr (.inr (0, (0, 0), (0, 0))), .inl ((-2147483648), 2147483647), .inl (3, 3)], ([(17, 0, 5, .inl (19, 19))], []), [], [(some (.inl ((-2147483648), 2147483647)), [])], 3)
def gq_X11_hit_82 : List YCut := []
theorem gt_X11_hit_82 : y_chk gL_1 gk_X11_hit_82 gq_X11_hit_82 4000 0 = true := by decide +kernel
def gk_X11_hit_83 : YCt := (194, [.inr (.inr (0, (0, 0), (0, 0))), .inl ((-2147483648), 2147483647), .inl (3, 3)], ([(17, 0, 5, .inl (20, 20))], []), [], [(some (.inl ((-2147483648), 2147483647)), [])], 3)
def gq_X11_hit_83 : List YCut := []
theorem gt_X11_hit_83 : y_chk gL_1 gk_X11_hit_83 gq_X11_hit_83 4000 0 = true := by decide +kernel
def gk_X11_hit_88 : YCt := (194, [.inr (.inr (0, (0, 0), (0, 0))), .inl ((-2147483648), 2147483647), .inl (4, 4)], ([(17, 0, 5, .inl (4, 4))], []), [], [(some (.inl ((-2147483648), 2147483647)), [])], 3)
def gq_X11_hit_88 : List YCut := []
theorem gt_X11_hit_88 : y_chk gL_1 gk_X11_hit_88 gq_X11_hit_88 4000 0 = true := by decide +kernel
def gk_X11_hit_89 : YCt := (194, [.inr (.inr (0, (0, 0), (0, 0))), .inl ((-2147483648), 2147483647), .inl (4, 4)], ([(17, 0, 5, .inl (5, 5))], []), [], [(some (.inl ((-2147483648), 2147483647)), [])], 3)
def gq_X11_hit_89 : List YCut := []
theorem gt_X11_hit_89 : y_chk gL_1 gk_X11_hit_89 gq_X11_hit_89 4000 0 = true := by decide +kernel
def gk_X11_hit_90 : YCt := (194, [.inr (.inr (0, (0, 0), (0, 0))), .inl ((-2147483648), 2147483647), .inl (4, 4)], ([(17, 0, 5, .inl (6, 6))], []), [], [(some (.inl ((-2147483648), 2147483647)), [])], 3)
def gq_X11_hit_90 : List YCut := []
theorem gt_X11_hit_90 : y_chk gL_1 gk_X11_hit_90 gq_X11_hit_90 4000 0 = true := by decide +kernel
def gk_X11_hit_91 : YCt := (194, [.inr (.inr (0, (0, 0), (0, 0))), .inl ((-2147483648), 2147483647), .inl (4, 4)], ([(17, 0, 5, .inl (7, 7))], []), [], [(some (.inl ((-2147483648), 2147483647)), [])], 3)
def gq_X11_hit_91 : List YCut := []
theorem gt_X11_hit_91 : y_chk gL_1 gk_X11_hit_91 gq_X11_hit_91 4000 0 = true := by decide +kernel
def gk_X11_hit_92 : YCt := (194, [.inr (.inr (0, (0, 0), (0, 0))), .inl ((-2147483648), 2147483647), .inl (4, 4)], ([(17, 0, 5, .inl (8, 8))], []), [], [(some (.inl ((-2147483648), 2147483647)), [])], 3)
def gq_X11_hit_92 : List YCut := []
theorem gt_X11_hit_92 : y_chk gL_1 gk_X11_hit_92 gq_X11_hit_92 4000 0 = true := by decide +kernel
def gk_X11_hit_93 : YCt := (194, [.inr (.inr (0, (0, 0), (0, 0))), .inl ((-2147483648), 2147483647), .inl (4, 4)], ([(17, 0, 5, .inl (9, 9))], []), [], [(some (.inl ((-2147483648), 2147483647)), [])], 3)
def gq_X11_hit_93 : List YCut := []
theorem gt_X11_hit_93 : y_chk gL_1 gk_X11_hit_93 gq_X11_hit_93 4000 0 = true := by decide +kernel
def gk_X11_hit_94 : YCt := (194, [.inr (.inr (0, (0, 0), (0, 0))), .inl ((-2147483648), 2147483647), .inl (4, 4)], ([(17, 0, 5, .inl (10, 10))], []), [], [(some (.inl ((-2147483648), 2147483647)), [])], 3)
def gq_X11_hit_94 : List YCut := []
theorem gt_X11_hit_94 : y_chk gL_1 gk_X11_hit_94 gq_X11_hit_94 4000 0 = true := by decide +kernel
def gk_X11_hit_95 : YCt := (194, [.inr (.inr (0, (0, 0), (0, 0))), .inl ((-2147483648), 2147483647), .inl (4, 4)], ([(17, 0, 5, .inl (11, 11))], []), [], [(some (.inl ((-2147483648), 2147483647)), [])], 3)
def gq_X11_hit_95 : List YCut := []
theorem gt_X11_hit_95 : y_chk gL_1 gk_X11_hit_95 gq_X11_hit_95 4000 0 = true := by decide +kernel
def gk_X11_hit_96 : YCt := (194, [.inr (.inr (0, (0, 0), (0, 0))), .inl ((-2147483648), 2147483647), .inl (4, 4)], ([(17, 0, 5, .inl (12, 12))], []), [], [(some (.inl ((-2147483648), 2147483647)), [])], 3)
def gq_X11_hit_96 : List YCut := []
theorem gt_X11_hit_96 : y_chk gL_1 gk_X11_hit_96 gq_X11_hit_96 4000 0 = true := by decide +kernel
def gk_X11_hit_97 : YCt := (194, [.inr (.inr (0, (0, 0), (0, 0))), .inl ((-2147483648), 2147483647), .inl (4, 4)], ([(17, 0, 5, .inl (13, 13))], []), [], [(some (.inl ((-2147483648), 2147483647)), [])], 3)
def gq_X11_hit_97 : List YCut := []
theorem gt_X11_hit_97 : y_chk gL_1 gk_X11_hit_97 gq_X11_hit_97 4000 0 = true := by decide +kernel
def gk_X11_hit_98 : YCt := (194, [.inr (.inr (0, (0, 0), (0, 0))), .inl ((-2147483648), 2147483647), .inl (4, 4)], ([(17, 0, 5, .inl (14, 14))], []), [], [(some (.inl ((-2147483648), 2147483647)), [])], 3)
def gq_X11_hit_98 : List YCut := []
theorem gt_X11_hit_98 : y_chk gL_1 gk_X11_hit_98 gq_X11_hit_98 4000 0 = true := by decide +kernel
def gk_X11_hit_99 : YCt := (194, [.inr (.inr (0, (0, 0), (0, 0))), .inl ((-2147483648), 2147483647), .inl (4, 4)], ([(17, 0, 5, .inl (15, 15))], []), [], [(some (.inl ((-2147483648), 2147483647)), [])], 3)
def gq_X11_hit_99 : List YCut := []
theorem gt_X11_hit_99 : y_chk gL_1 gk_X11_hit_99 gq_X11_hit_99 4000 0 = true := by decide +kernel
def gk_X11_hit_100 : YCt := (194, [.inr (.inr (0, (0, 0), (0, 0))), .inl ((-2147483648), 2147483647), .inl (4, 4)], ([(17, 0, 5, .inl (16, 16))], []), [], [(some (.inl ((-2147483648), 2147483647)), [])], 3)
def gq_X11_hit_100 : List YCut := []
theorem gt_X11_hit_100 : y_chk gL_1 gk_X11_hit_100 gq_X11_hit_100 4000 0 = true := by decide +kernel
def gk_X11_hit_101 : YCt := (194, [.inr (.inr (0, (0, 0), (0, 0))), .inl ((-2147483648), 2147483647), .inl (4, 4)], ([(17, 0, 5, .inl (17, 17))], []), [], [(some (.inl ((-2147483648), 2147483647)), [])], 3)
def gq_X11_hit_101 : List YCut := []
theorem gt_X11_hit_101 : y_chk gL_1 gk_X11_hit_101 gq_X11_hit_101 4000 0 = true := by decide +kernel
def gk_X11_hit_102 : YCt := (194, [.inr (.inr (0, (0, 0), (0, 0))), .inl ((-2147483648), 2147483647), .inl (4, 4)], ([(17, 0, 5, .inl (18, 18))], []), [], [(some (.inl ((-2147483648), 2147483647)), [])], 3)
def gq_X11_hit_102 : List YCut := []
theorem gt_X11_hit_102 : y_chk gL_1 gk_X11_hit_102 gq_X11_hit_102 4000 0 = true := by decide +kernel
def gk_X11_hit_103 : YCt := (194, [.inr (.inr (0, (0, 0), (0, 0))), .inl ((-2147483648), 2147483647), .inl (4, 4)], ([(17, 0, 5, .inl (19, 19))], []), [], [(some (.inl ((-2147483648), 2147483647)), [])], 3)
def gq_X11_hit_103 : List YCut := []
theorem gt_X11_hit_103 : y_chk gL_1 gk_X11_hit_103 gq_X11_hit_103 4000 0 = true := by decide +kernel
def gk_X11_hit_104 : YCt := (194, [.inr (.inr (0, (0, 0), (0, 0))), .inl ((-2147483648), 2147483647), .inl (4, 4)], ([(17, 0, 5, .inl (20, 20))], []), [], [(some (.inl ((-2147483648), 2147483647)), [])], 3)
def gq_X11_hit_104 : List YCut := []
theorem gt_X11_hit_104 : y_chk gL_1 gk_X11_hit_104 gq_X11_hit_104 4000 0 = true := by decide +kernel
def gL_2 : List YCt := [gk_X11_hit_22, gk_X11_hit_23, gk_X11_hit_24, gk_X11_hit_25, gk_X11_hit_26, gk_X11_hit_27, gk_X11_hit_28, gk_X11_hit_29, gk_X11_hit_30, gk_X11_hit_31, gk_X11_hit_32, gk_X11_hit_33, gk_X11_hit_34, gk_X11_hit_35, gk_X11_hit_36, gk_X11_hit_37, gk_X11_hit_38, gk_X11_hit_39, gk_X11_hit_40, gk_X11_hit_41, gk_X11_hit_44, gk_X11_hit_45, gk_X11_hit_46, gk_X11_hit_47, gk_X11_hit_48, gk_X11_hit_49, gk_X11_hit_50, gk_X11_hit_51, gk_X11_hit_52, gk_X11_hit_53, gk_X11_hit_54, gk_X11_hit_55, gk_X11_hit_56, gk_X11_hit_57, gk_X11_hit_58, gk_X11_hit_59, gk_X11_hit_60, gk_X11_hit_61, gk_X11_hit_62, gk_X11_hit_66, gk_X11_hit_67, gk_X11_hit_68, gk_X11_hit_69, gk_X11_hit_70, gk_X11_hit_71, gk_X11_hit_72, gk_X11_hit_73, gk_X11_hit_74, gk_X11_hit_75, gk_X11_hit_76, gk_X11_hit_77, gk_X11_hit_78, gk_X11_hit_79, gk_X11_hit_80, gk_X11_hit_81, gk_X11_hit_82, gk_X11_hit_83, gk_X11_hit_88, gk_X11_hit_89, gk_X11_hit_90, gk_X11_hit_91, gk_X11_hit_92, gk_X11_hit_93, gk_X11_hit_94, gk_X11_hit_95, gk_X11_hit_96, gk_X11_hit_97, gk_X11_hit_98, gk_X11_hit_99, gk_X11_hit_100, gk_X11_hit_101, gk_X11_hit_102, gk_X11_hit_103, gk_X11_hit_104] ++ gL_1
theorem gl_2 {X : LMem → Prop} (hX : y_cl X) (h : ∀ ct ∈ gL_1, y_con X ct) : ∀ ct ∈ gL_2, y_con X ct := List.forall_mem_cons.mpr ⟨y_chk_ok hX h gt_X11_hit_22, List.forall_mem_cons.mpr ⟨y_chk_ok hX h gt_X11_hit_23, List.forall_mem_cons.mpr ⟨y_chk_ok hX h gt_X11_hit_24, List.forall_mem_cons.mpr ⟨y_chk_ok hX h gt_X11_hit_25, List.forall_mem_cons.mpr ⟨y_chk_ok hX h gt_X11_hit_26, List.forall_mem_cons.mpr ⟨y_chk_ok hX h gt_X11_hit_27, List.forall_mem_cons.mpr ⟨y_chk_ok hX h gt_X11_hit_28, List.forall_mem_cons.mpr ⟨y_chk_ok hX h gt_X11_hit_29, List.forall_mem_cons.mpr ⟨y_chk_ok hX h gt_X11_hit_30, List.forall_mem_cons.mpr ⟨y_chk_ok hX h gt_X11_hit_31, List.forall_mem_cons.mpr ⟨y_chk_ok hX h gt_X11_hit_32, List.forall_mem_cons.mpr ⟨y_chk_ok hX h gt_X11_hit_33, List.forall_mem_cons.mpr ⟨y_chk_ok hX h gt_X11_hit_34, List.forall_mem_cons.mpr ⟨y_chk_ok hX h gt_X11_hit_35, List.forall_mem_cons.mpr ⟨y_chk_ok hX h gt_X11_hit_36, List.forall_mem_cons.mpr ⟨y_chk_ok hX h gt_X11_hit_37, List.forall_mem_cons.mpr ⟨y_chk_ok hX h gt_X11_hit_38, List.forall_mem_cons.mpr ⟨y_chk_ok hX h gt_X11_hit_39, List.forall_mem_cons.mpr ⟨y_chk_ok hX h gt_X11_hit_40, List.forall_mem_cons.mpr ⟨y_chk_ok hX h gt_X11_hit_41, List.forall_mem_cons.mpr ⟨y_chk_ok hX h gt_X11_hit_44, List.forall_mem_cons.mpr ⟨y_chk_ok hX h gt_X11_hit_45, List.forall_mem_cons.mpr ⟨y_chk_ok hX h gt_X11_hit_46, List.forall_mem_cons.mpr ⟨y_chk_ok hX h gt_X11_hit_47, List.forall_mem_cons.mpr ⟨y_chk_ok hX h gt_X11_hit_48, List.forall_mem_cons.mpr ⟨y_chk_ok hX h gt_X11_hit_49, List.forall_mem_cons.mpr ⟨y_chk_ok hX h gt_X11_hit_50, List.forall_mem_cons.mpr ⟨y_chk_ok hX h gt_X11_hit_51, List.forall_mem_cons.mpr ⟨y_chk_ok hX h gt_X11_hit_52, List.forall_mem_cons.mpr ⟨y_chk_ok hX h gt_X11_hit_53, List.forall_mem_cons.mpr ⟨y_chk_ok hX h gt_X11_hit_54, List.forall_mem_cons.mpr ⟨y_chk_ok hX h gt_X11_hit_55, List.forall_mem_cons.mpr ⟨y_chk_ok hX h gt_X11_hit_56, List.forall_mem_cons.mpr ⟨y_chk_ok hX h gt_X11_hit_57, List.forall_mem_cons.mpr ⟨y_chk_ok hX h gt_X11_hit_58, List.forall_mem_cons.mpr ⟨y_chk_ok hX h gt_X11_hit_59, List.forall_mem_cons.mpr ⟨y_chk_ok hX h gt_X11_hit_60, List.forall_mem_cons.mpr ⟨y_chk_ok hX h gt_X11_hit_61, List.forall_mem_cons.mpr ⟨y_chk_ok hX h gt_X11_hit_62, List.forall_mem_cons.mpr ⟨y_chk_ok hX h gt_X11_hit_66, List.forall_mem_cons.mpr ⟨y_chk_ok hX h gt_X11_hit_67, List.forall_mem_cons.mpr ⟨y_chk_ok hX h gt_X11_hit_68, List.forall_mem_cons.mpr ⟨y_chk_ok hX h gt_X11_hit_69, List.forall_mem_cons.mpr ⟨y_chk_ok hX h gt_X11_hit_70, List.forall_mem_cons.mpr ⟨y_chk_ok hX h gt_X11_hit_71, List.forall_mem_cons.mpr ⟨y_chk_ok hX h gt_X11_hit_72, List.forall_mem_cons.mpr ⟨y_chk_ok hX h gt_X11_hit_73, List.forall_mem_cons.mpr ⟨y_chk_ok hX h gt_X11_hit_74, List.forall_mem_cons.mpr ⟨y_chk_ok hX h gt_X11_hit_75, List.forall_mem_cons.mpr ⟨y_chk_ok hX h gt_X11_hit_76, List.forall_mem_cons.mpr ⟨y_chk_ok hX h gt_X11_hit_77, List.forall_mem_cons.mpr ⟨y_chk_ok hX h gt_X11_hit_78, List.forall_mem_cons.mpr ⟨y_chk_ok hX h gt_X11_hit_79, List.forall_mem_cons.mpr ⟨y_chk_ok hX h gt_X11_hit_80, List.forall_mem_cons.mpr ⟨y_chk_ok hX h gt_X11_hit_81, List.forall_mem_cons.mpr ⟨y_chk_ok hX h gt_X11_hit_82, List.forall_mem_cons.mpr ⟨y_chk_ok hX h gt_X11_hit_83, List.forall_mem_cons.mpr ⟨y_chk_ok hX h gt_X11_hit_88, List.forall_mem_cons.mpr ⟨y_chk_ok hX h gt_X11_hit_89, List.forall_mem_cons.mpr ⟨y_chk_ok hX h gt_X11_hit_90, List.forall_mem_cons.mpr ⟨y_chk_ok hX h gt_X11_hit_91, List.forall_mem_cons.mpr ⟨y_chk_ok hX h gt_X11_hit_92, List.forall_mem_cons.mpr ⟨y_chk_ok hX h gt_X11_hit_93, List.forall_mem_cons.mpr ⟨y_chk_ok hX h gt_X11_hit_94, List.forall_mem_cons.mpr ⟨y_chk_ok hX h gt_X11_hit_95, List.forall_mem_cons.mpr ⟨y_chk_ok hX h gt_X11_hit_96, List.forall_mem_cons.mpr ⟨y_chk_ok hX h gt_X11_hit_97, List.forall_mem_cons.mpr ⟨y_chk_ok hX h gt_X11_hit_98, List.forall_mem_cons.mpr ⟨y_chk_ok hX h gt_X11_hit_99, List.forall_mem_cons.mpr ⟨y_chk_ok hX h gt_X11_hit_100, List.forall_mem_cons.mpr ⟨y_chk_ok hX h gt_X11_hit_101, List.forall_mem_cons.mpr ⟨y_chk_ok hX h gt_X11_hit_102, List.forall_mem_cons.mpr ⟨y_chk_ok hX h gt_X11_hit_103, List.forall_mem_cons.mpr ⟨y_chk_ok hX h gt_X11_hit_104, h⟩⟩⟩⟩⟩⟩⟩⟩⟩⟩⟩⟩⟩⟩⟩⟩⟩⟩⟩⟩⟩⟩⟩⟩⟩⟩⟩⟩⟩⟩⟩⟩⟩⟩⟩⟩⟩⟩⟩⟩⟩⟩⟩⟩⟩⟩⟩⟩⟩⟩⟩⟩⟩⟩⟩⟩⟩⟩⟩⟩⟩⟩⟩⟩⟩⟩⟩⟩⟩⟩⟩⟩⟩⟩
