/-! CONTRACTS by the checker. -/
def yk_X11_end : YCt := (144, [.inr (.inr (0, (0, 0), (0, 0))), .inl ((-2147483648), 2147483647)], ([], []), [(1, 0, 0, 1, 1)], [(some (.inl (0, 1)), [])], 2)
def yq_X11_end : List YCut := []
theorem yt_X11_end : y_chk yL_0 yk_X11_end yq_X11_end 4000 0 = true := by decide +kernel
def yk_X12_end : YCt := (203, [.inr (.inr (33, (0, 0), (0, 0))), .inl ((-2147483648), 2147483647)], ([], []), [(33, 0, 0, 2, 2)], [(some (.inl (0, 1)), [])], 1)
def yq_X12_end : List YCut := []
theorem yt_X12_end : y_chk yL_0 yk_X12_end yq_X12_end 4000 0 = true := by decide +kernel
def yk_X11_text : YCt := (146, [.inr (.inr (0, (0, 0), (0, 0))), .inl ((-2147483648), (-1))], ([], []), [], [(some (.inl ((-1), (-1))), [])], 4)
def yq_X11_text : List YCut := []
theorem yt_X11_text : y_chk yL_0 yk_X11_text yq_X11_text 4000 0 = true := by decide +kernel
def yk_X11_text_4 : YCt := (146, [.inr (.inr (0, (0, 0), (0, 0))), .inl (3, 2147483647)], ([], []), [], [(some (.inl ((-1), (-1))), [])], 4)
def yq_X11_text_4 : List YCut := []
theorem yt_X11_text_4 : y_chk yL_0 yk_X11_text_4 yq_X11_text_4 4000 0 = true := by decide +kernel
def yk_X12_reach : YCt := (240, [.inr (.inr (33, (0, 0), (0, 0))), .inl ((-2147483648), 2147483647), .inl ((-2147483648), 2147483647), .inl ((-2147483648), 2147483647)], ([], []), [(33, 0, 0, 0, 0)], [(some (.inl ((-2147483648), 2147483647)), [])], 3)
def yq_X12_reach : List YCut := []
theorem yt_X12_reach : y_chk yL_0 yk_X12_reach yq_X12_reach 4000 0 = true := by decide +kernel
def yk_X11_rain : YCt := (159, [.inr (.inr (0, (0, 0), (0, 0))), .inl ((-2147483648), 2147483647), .inl ((-2147483648), 2147483647)], ([], []), [], [(some (.inl ((-2147483648), 2147483647)), [])], 4)
def yq_X11_rain : List YCut := []
theorem yt_X11_rain : y_chk yL_0 yk_X11_rain yq_X11_rain 4000 0 = true := by decide +kernel
def yk_X12_rain : YCt := (241, [.inr (.inr (33, (0, 0), (0, 0))), .inl ((-2147483648), 2147483647), .inl ((-2147483648), 2147483647)], ([], []), [], [(some (.inl ((-2147483648), 2147483647)), [])], 3)
def yq_X12_rain : List YCut := []
theorem yt_X12_rain : y_chk yL_0 yk_X12_rain yq_X12_rain 4000 0 = true := by decide +kernel
def yk_X11_set : YCt := (161, [.inr (.inr (0, (0, 0), (0, 0))), .inl ((-2147483648), 2147483647), .inl ((-2147483648), 2147483647)], ([], []), [(16, 0, 0, 0, 0), (16, 0, 0, 1, 1), (16, 0, 0, 2, 2)], [(some (.inl (0, 1)), [])], 3)
def yq_X11_set : List YCut := []
theorem yt_X11_set : y_chk yL_0 yk_X11_set yq_X11_set 4000 0 = true := by decide +kernel
def yk_X12_set : YCt := (242, [.inr (.inr (33, (0, 0), (0, 0))), .inl ((-2147483648), 2147483647), .inl ((-2147483648), 2147483647)], ([], []), [(33, 0, 0, 23, 23), (33, 0, 0, 24, 24), (33, 0, 0, 25, 25)], [(some (.inl (0, 1)), [])], 2)
def yq_X12_set : List YCut := []
theorem yt_X12_set : y_chk yL_0 yk_X12_set yq_X12_set 4000 0 = true := by decide +kernel
def yk_X12_day : YCt := (255, [.inr (.inr (33, (0, 0), (0, 0))), .inl ((-2147483648), 2147483647)], ([], []), [(33, 0, 0, 29, 29), (42, 0, 0, 0, 7), (43, 0, 0, 0, 79), (48, 0, 0, 0, 159), (48, 0, 0, 260, 271), (48, 0, 0, 273, 276), (51, 0, 0, 0, 20)], [(some (.inl ((-2147483648), 2147483647)), [])], 41)
def yq_X12_day : List YCut := []
theorem yt_X12_day : y_chk yL_0 yk_X12_day yq_X12_day 4000 0 = true := by decide +kernel
def yk_X12_owner : YCt := (261, [.inr (.inr (33, (0, 0), (0, 0))), .inl ((-2147483648), 2147483647), .inl ((-2147483648), 2147483647)], ([], []), [], [(some (.inl ((-2147483648), 2147483647)), [])], 3)
def yq_X12_owner : List YCut := [(30, [some (.inr (.inr (33, (0, 0), (0, 0)))), some (.inl (0, 5)), some (.inl (0, 2)), some (.inl ((-2147483648), 2147483647)), some (.inl (0, 20))], [], [.inl 1, .inr (.inl (false, 4))])]
theorem yt_X12_owner : y_chk yL_0 yk_X12_owner yq_X12_owner 4000 2 = true := by decide +kernel
def yk_X11_shut : YCt := (169, [.inr (.inr (0, (0, 0), (0, 0))), .inl ((-2147483648), 2147483647), .inl (0, 1)], ([], []), [(21, 0, 19, 13, 13)], [(some (.inl (0, 1)), [])], 2)
def yq_X11_shut : List YCut := []
theorem yt_X11_shut : y_chk yL_0 yk_X11_shut yq_X11_shut 4000 0 = true := by decide +kernel
def yk_X12_shut : YCt := (264, [.inr (.inr (33, (0, 0), (0, 0))), .inl ((-2147483648), 2147483647), .inl (0, 1)], ([], []), [(48, 0, 0, 140, 159)], [(some (.inl (0, 1)), [])], 2)
def yq_X12_shut : List YCut := []
theorem yt_X12_shut : y_chk yL_0 yk_X12_shut yq_X12_shut 4000 0 = true := by decide +kernel
def yk_X12_has : YCt := (277, [.inr (.inr (33, (0, 0), (0, 0))), .inl ((-2147483648), 2147483647), .inl ((-2147483648), 2147483647), .inl ((-2147483648), 2147483647), .inl ((-2147483648), 2147483647), .inl ((-2147483648), (-1)), .inl ((-2147483648), 2147483647)], ([], []), [], [(some (.inl ((-1000000), (-1000000))), [])], 41)
def yq_X12_has : List YCut := []
theorem yt_X12_has : y_chk yL_0 yk_X12_has yq_X12_has 4000 0 = true := by decide +kernel
def yk_X12_has_2 : YCt := (277, [.inr (.inr (33, (0, 0), (0, 0))), .inl ((-2147483648), 2147483647), .inl ((-2147483648), 2147483647), .inl ((-2147483648), 2147483647), .inl ((-2147483648), 2147483647), .inl (64, 2147483647), .inl ((-2147483648), 2147483647)], ([], []), [], [(some (.inl ((-1000000), (-1000000))), [])], 41)
def yq_X12_has_2 : List YCut := []
theorem yt_X12_has_2 : y_chk yL_0 yk_X12_has_2 yq_X12_has_2 4000 0 = true := by decide +kernel
def yk_X11_staff : YCt := (184, [.inr (.inr (0, (0, 0), (0, 0))), .inl ((-2147483648), 2147483647), .inl ((-2147483648), 2147483647)], ([], []), [(28, 0, 0, 0, 19)], [(some (.inl (0, 1)), [])], 3)
def yq_X11_staff : List YCut := []
theorem yt_X11_staff : y_chk yL_0 yk_X11_staff yq_X11_staff 4000 0 = true := by decide +kernel
def yk_X12_staff : YCt := (282, [.inr (.inr (33, (0, 0), (0, 0))), .inl ((-2147483648), 2147483647), .inl ((-2147483648), 2147483647)], ([], []), [(55, 0, 0, 0, 19)], [(some (.inl (0, 1)), [])], 2)
def yq_X12_staff : List YCut := []
theorem yt_X12_staff : y_chk yL_0 yk_X12_staff yq_X12_staff 4000 0 = true := by decide +kernel
def yk_X12_where : YCt := (284, [.inr (.inr (33, (0, 0), (0, 0))), .inl ((-2147483648), 2147483647), .inl ((-2147483648), 2147483647), .inl (0, 1)], ([], []), [(33, 0, 0, 29, 31), (33, 0, 0, 33, 33), (33, 0, 0, 43, 44), (42, 0, 0, 0, 7), (43, 0, 0, 0, 79), (48, 0, 0, 0, 278), (49, 0, 0, 0, 278), (51, 0, 0, 0, 20)], [(some (.inl ((-2147483648), 2147483647)), [])], 101)
def yq_X12_where : List YCut := [(57, [some (.inr (.inr (33, (0, 0), (0, 0)))), some (.inl (0, 3)), some (.inl (0, 99)), none, some (.inl ((-2147483648), 2147483647)), some (.inl (0, 20))], [], [.inl 1, .inr (.inl (false, 5))])]
theorem yt_X12_where : y_chk yL_0 yk_X12_where yq_X12_where 4000 2 = true := by decide +kernel
def yk_X12_off : YCt := (285, [.inr (.inr (33, (0, 0), (0, 0))), .inl ((-2147483648), 2147483647), .inl ((-2147483648), 2147483647)], ([], []), [(33, 0, 0, 29, 31), (33, 0, 0, 33, 33), (33, 0, 0, 43, 44), (42, 0, 0, 0, 7), (43, 0, 0, 0, 79), (48, 0, 0, 0, 278), (49, 0, 0, 0, 278), (51, 0, 0, 0, 20)], [(some (.inl ((-2147483648), 2147483647)), [])], 101)
def yq_X12_off : List YCut := []
theorem yt_X12_off : y_chk yL_0 yk_X12_off yq_X12_off 4000 0 = true := by decide +kernel
def yk_X12_sands : YCt := (289, [.inr (.inr (33, (0, 0), (0, 0))), .inl ((-2147483648), (-1)), .inl ((-2147483648), 2147483647), .inl ((-2147483648), 2147483647)], ([], []), [], [(some (.inl ((-1), (-1))), [])], 101)
def yq_X12_sands : List YCut := []
theorem yt_X12_sands : y_chk yL_0 yk_X12_sands yq_X12_sands 4000 0 = true := by decide +kernel
def yk_X12_sands_1 : YCt := (289, [.inr (.inr (33, (0, 0), (0, 0))), .inl (0, 0), .inl ((-2147483648), 2147483647), .inl ((-2147483648), 2147483647)], ([], []), [(33, 0, 0, 29, 29), (33, 0, 0, 29, 30), (33, 0, 0, 30, 30), (33, 0, 0, 31, 31), (33, 0, 0, 33, 33), (42, 0, 0, 0, 7), (43, 0, 0, 0, 79), (48, 0, 0, 0, 159), (48, 0, 0, 0, 278), (48, 0, 0, 260, 271), (48, 0, 0, 273, 276), (49, 0, 0, 0, 278), (51, 0, 0, 0, 20)], [(some (.inl ((-2147483648), 2147483647)), [])], 101)
def yq_X12_sands_1 : List YCut := [(39, [some (.inr (.inr (33, (0, 0), (0, 0)))), none, none, some (.inl (0, 2)), some (.inl (0, 19)), some (.inl (1, 20))], [], [.inl 1, .inr (.inl (false, 5))])]
theorem yt_X12_sands_1 : y_chk yL_0 yk_X12_sands_1 yq_X12_sands_1 4000 2 = true := by decide +kernel
def yk_X12_sands_2 : YCt := (289, [.inr (.inr (33, (0, 0), (0, 0))), .inl (1, 1), .inl ((-2147483648), 2147483647), .inl ((-2147483648), 2147483647)], ([], []), [(33, 0, 0, 29, 29), (33, 0, 0, 29, 30), (33, 0, 0, 30, 30), (33, 0, 0, 31, 31), (33, 0, 0, 33, 33), (42, 0, 0, 0, 7), (43, 0, 0, 0, 79), (48, 0, 0, 0, 159), (48, 0, 0, 0, 278), (48, 0, 0, 260, 271), (48, 0, 0, 273, 276), (49, 0, 0, 0, 278), (51, 0, 0, 0, 20)], [(some (.inl ((-2147483648), 2147483647)), [])], 101)
def yq_X12_sands_2 : List YCut := [(39, [some (.inr (.inr (33, (0, 0), (0, 0)))), none, none, some (.inl (0, 2)), some (.inl (0, 19)), some (.inl (1, 20))], [], [.inl 1, .inr (.inl (false, 5))])]
theorem yt_X12_sands_2 : y_chk yL_0 yk_X12_sands_2 yq_X12_sands_2 4000 2 = true := by decide +kernel
def yk_X12_sands_3 : YCt := (289, [.inr (.inr (33, (0, 0), (0, 0))), .inl (2, 2), .inl ((-2147483648), 2147483647), .inl ((-2147483648), 2147483647)], ([], []), [(33, 0, 0, 29, 29), (33, 0, 0, 29, 30), (33, 0, 0, 30, 30), (33, 0, 0, 31, 31), (33, 0, 0, 33, 33), (42, 0, 0, 0, 7), (43, 0, 0, 0, 79), (48, 0, 0, 0, 159), (48, 0, 0, 0, 278), (48, 0, 0, 260, 271), (48, 0, 0, 273, 276), (49, 0, 0, 0, 278), (51, 0, 0, 0, 20)], [(some (.inl ((-2147483648), 2147483647)), [])], 101)
def yq_X12_sands_3 : List YCut := [(39, [some (.inr (.inr (33, (0, 0), (0, 0)))), none, none, some (.inl (0, 2)), some (.inl (0, 19)), some (.inl (1, 20))], [], [.inl 1, .inr (.inl (false, 5))])]
theorem yt_X12_sands_3 : y_chk yL_0 yk_X12_sands_3 yq_X12_sands_3 4000 2 = true := by decide +kernel
def yk_X12_sands_4 : YCt := (289, [.inr (.inr (33, (0, 0), (0, 0))), .inl (3, 3), .inl ((-2147483648), 2147483647), .inl ((-2147483648), 2147483647)], ([], []), [(33, 0, 0, 29, 29), (33, 0, 0, 29, 30), (33, 0, 0, 30, 30), (33, 0, 0, 31, 31), (33, 0, 0, 33, 33), (42, 0, 0, 0, 7), (43, 0, 0, 0, 79), (48, 0, 0, 0, 159), (48, 0, 0, 0, 278), (48, 0, 0, 260, 271), (48, 0, 0, 273, 276), (49, 0, 0, 0, 278), (51, 0, 0, 0, 20)], [(some (.inl ((-2147483648), 2147483647)), [])], 101)
def yq_X12_sands_4 : List YCut := [(39, [some (.inr (.inr (33, (0, 0), (0, 0)))), none, none, some (.inl (0, 2)), some (.inl (0, 19)), some (.inl (1, 20))], [], [.inl 1, .inr (.inl (false, 5))])]
theorem yt_X12_sands_4 : y_chk yL_0 yk_X12_sands_4 yq_X12_sands_4 4000 2 = true := by decide +kernel
def yk_X12_sands_5 : YCt := (289, [.inr (.inr (33, (0, 0), (0, 0))), .inl (4, 2147483647), .inl ((-2147483648), 2147483647), .inl ((-2147483648), 2147483647)], ([], []), [], [(some (.inl ((-1), (-1))), [])], 101)
def yq_X12_sands_5 : List YCut := []
theorem yt_X12_sands_5 : y_chk yL_0 yk_X12_sands_5 yq_X12_sands_5 4000 0 = true := by decide +kernel
def yk_X12_sinks : YCt := (290, [.inr (.inr (33, (0, 0), (0, 0))), .inl ((-2147483648), (-1)), .inl ((-2147483648), 2147483647), .inl ((-2147483648), 2147483647), .inl ((-2147483648), 2147483647)], ([], []), [], [(some (.inl ((-1), (-1))), [])], 101)
def yq_X12_sinks : List YCut := []
theorem yt_X12_sinks : y_chk yL_0 yk_X12_sinks yq_X12_sinks 4000 0 = true := by decide +kernel
def yk_X12_sinks_5 : YCt := (290, [.inr (.inr (33, (0, 0), (0, 0))), .inl (4, 2147483647), .inl ((-2147483648), 2147483647), .inl ((-2147483648), 2147483647), .inl ((-2147483648), 2147483647)], ([], []), [], [(some (.inl ((-1), (-1))), [])], 101)
def yq_X12_sinks_5 : List YCut := []
theorem yt_X12_sinks_5 : y_chk yL_0 yk_X12_sinks_5 yq_X12_sinks_5 4000 0 = true := by decide +kernel
def yk_X12_raised : YCt := (291, [.inr (.inr (33, (0, 0), (0, 0))), .inl ((-2147483648), (-1)), .inl ((-2147483648), 2147483647), .inl ((-2147483648), 2147483647)], ([], []), [], [(some (.inl ((-1), (-1))), [])], 101)
def yq_X12_raised : List YCut := []
theorem yt_X12_raised : y_chk yL_0 yk_X12_raised yq_X12_raised 4000 0 = true := by decide +kernel
def yk_X12_raised_1 : YCt := (291, [.inr (.inr (33, (0, 0), (0, 0))), .inl (0, 0), .inl ((-2147483648), 2147483647), .inl ((-2147483648), 2147483647)], ([], []), [(33, 0, 0, 29, 29), (33, 0, 0, 29, 30), (33, 0, 0, 30, 30), (33, 0, 0, 31, 31), (33, 0, 0, 33, 33), (42, 0, 0, 0, 7), (43, 0, 0, 0, 79), (48, 0, 0, 0, 159), (48, 0, 0, 0, 278), (48, 0, 0, 260, 271), (48, 0, 0, 273, 276), (49, 0, 0, 0, 278), (51, 0, 0, 0, 20)], [(some (.inl ((-1), 30)), [])], 101)
def yq_X12_raised_1 : List YCut := [(28, [some (.inr (.inr (33, (0, 0), (0, 0)))), some (.inl (0, 0)), some (.inl (0, 3)), some (.inl (0, 5)), some (.inl ((-1), 30)), some (.inl (0, 31))], [(33, 0, 35, .inl (1, 1)), (33, 0, 21, .inl (1, 4))], [.inl 1, .inr (.inl (false, 5))])]
theorem yt_X12_raised_1 : y_chk yL_0 yk_X12_raised_1 yq_X12_raised_1 4000 2 = true := by decide +kernel
def yk_X12_raised_2 : YCt := (291, [.inr (.inr (33, (0, 0), (0, 0))), .inl (1, 1), .inl ((-2147483648), 2147483647), .inl ((-2147483648), 2147483647)], ([], []), [(33, 0, 0, 29, 29), (33, 0, 0, 29, 30), (33, 0, 0, 30, 30), (33, 0, 0, 31, 31), (33, 0, 0, 33, 33), (42, 0, 0, 0, 7), (43, 0, 0, 0, 79), (48, 0, 0, 0, 159), (48, 0, 0, 0, 278), (48, 0, 0, 260, 271), (48, 0, 0, 273, 276), (49, 0, 0, 0, 278), (51, 0, 0, 0, 20)], [(some (.inl ((-1), 30)), [])], 101)
def yq_X12_raised_2 : List YCut := [(28, [some (.inr (.inr (33, (0, 0), (0, 0)))), some (.inl (1, 1)), some (.inl (0, 3)), some (.inl (0, 5)), some (.inl ((-1), 30)), some (.inl (0, 31))], [(33, 0, 35, .inl (1, 1)), (33, 0, 21, .inl (2, 4))], [.inl 1, .inr (.inl (false, 5))])]
theorem yt_X12_raised_2 : y_chk yL_0 yk_X12_raised_2 yq_X12_raised_2 4000 2 = true := by decide +kernel
def yk_X12_raised_3 : YCt := (291, [.inr (.inr (33, (0, 0), (0, 0))), .inl (2, 2), .inl ((-2147483648), 2147483647), .inl ((-2147483648), 2147483647)], ([], []), [(33, 0, 0, 29, 29), (33, 0, 0, 29, 30), (33, 0, 0, 30, 30), (33, 0, 0, 31, 31), (33, 0, 0, 33, 33), (42, 0, 0, 0, 7), (43, 0, 0, 0, 79), (48, 0, 0, 0, 159), (48, 0, 0, 0, 278), (48, 0, 0, 260, 271), (48, 0, 0, 273, 276), (49, 0, 0, 0, 278), (51, 0, 0, 0, 20)], [(some (.inl ((-1), 30)), [])], 101)
def yq_X12_raised_3 : List YCut := [(28, [some (.inr (.inr (33, (0, 0), (0, 0)))), some (.inl (2, 2)), some (.inl (0, 3)), some (.inl (0, 5)), some (.inl ((-1), 30)), some (.inl (0, 31))], [(33, 0, 35, .inl (1, 1)), (33, 0, 21, .inl (3, 4))], [.inl 1, .inr (.inl (false, 5))])]
theorem yt_X12_raised_3 : y_chk yL_0 yk_X12_raised_3 yq_X12_raised_3 4000 2 = true := by decide +kernel
def yk_X12_raised_4 : YCt := (291, [.inr (.inr (33, (0, 0), (0, 0))), .inl (3, 3), .inl ((-2147483648), 2147483647), .inl ((-2147483648), 2147483647)], ([], []), [(33, 0, 0, 29, 29), (33, 0, 0, 29, 30), (33, 0, 0, 30, 30), (33, 0, 0, 31, 31), (33, 0, 0, 33, 33), (42, 0, 0, 0, 7), (43, 0, 0, 0, 79), (48, 0, 0, 0, 159), (48, 0, 0, 0, 278), (48, 0, 0, 260, 271), (48, 0, 0, 273, 276), (49, 0, 0, 0, 278), (51, 0, 0, 0, 20)], [(some (.inl ((-1), 30)), [])], 101)
def yq_X12_raised_4 : List YCut := [(28, [some (.inr (.inr (33, (0, 0), (0, 0)))), some (.inl (3, 3)), some (.inl (0, 3)), some (.inl (0, 5)), some (.inl ((-1), 30)), some (.inl (0, 31))], [(33, 0, 35, .inl (1, 1)), (33, 0, 21, .inl (4, 4))], [.inl 1, .inr (.inl (false, 5))])]
theorem yt_X12_raised_4 : y_chk yL_0 yk_X12_raised_4 yq_X12_raised_4 4000 2 = true := by decide +kernel
def yk_X12_raised_5 : YCt := (291, [.inr (.inr (33, (0, 0), (0, 0))), .inl (4, 2147483647), .inl ((-2147483648), 2147483647), .inl ((-2147483648), 2147483647)], ([], []), [], [(some (.inl ((-1), (-1))), [])], 101)
def yq_X12_raised_5 : List YCut := []
theorem yt_X12_raised_5 : y_chk yL_0 yk_X12_raised_5 yq_X12_raised_5 4000 0 = true := by decide +kernel
def yk_X12_longest : YCt := (307, [.inr (.inr (33, (0, 0), (0, 0))), .inl ((-2147483648), 2147483647)], ([], []), [], [(some (.inl ((-2147483648), 2147483647)), [])], 2)
def yq_X12_longest : List YCut := [(28, [some (.inr (.inr (33, (0, 0), (0, 0)))), some (.inl (0, 1)), some (.inl ((-2147483648), 19)), some (.inl (0, 2147483647)), some (.inl ((-2147483648), 2147483647)), some (.inl (0, 20))], [], [.inl 1, .inr (.inl (false, 5))])]
theorem yt_X12_longest : y_chk yL_0 yk_X12_longest yq_X12_longest 4000 2 = true := by decide +kernel
def yk_X12_banks : YCt := (309, [.inr (.inr (33, (0, 0), (0, 0))), .inl ((-2147483648), 2147483647), .inl ((-2147483648), 2147483647), .inl ((-2147483648), 2147483647), .inl ((-2147483648), 2147483647)], ([], []), [(33, 0, 0, 29, 29), (33, 0, 0, 30, 31), (33, 0, 0, 33, 33), (42, 0, 0, 0, 7), (43, 0, 0, 0, 79), (48, 0, 0, 0, 159), (48, 0, 0, 160, 278), (48, 0, 0, 260, 271), (48, 0, 0, 273, 276), (49, 0, 0, 0, 278), (51, 0, 0, 0, 20)], [(some (.inl ((-2147483648), 2147483647)), [])], 101)
def yq_X12_banks : List YCut := []
theorem yt_X12_banks : y_chk yL_0 yk_X12_banks yq_X12_banks 4000 0 = true := by decide +kernel
def yk_X12_rise : YCt := (310, [.inr (.inr (33, (0, 0), (0, 0))), .inl ((-2147483648), 2147483647), .inl ((-2147483648), 2147483647)], ([], []), [(33, 0, 0, 29, 29), (33, 0, 0, 30, 31), (33, 0, 0, 33, 33), (42, 0, 0, 0, 7), (43, 0, 0, 0, 79), (48, 0, 0, 0, 159), (48, 0, 0, 160, 278), (48, 0, 0, 260, 271), (48, 0, 0, 273, 276), (49, 0, 0, 0, 278), (51, 0, 0, 0, 20)], [(some (.inl ((-1), 30)), [])], 101)
def yq_X12_rise : List YCut := [(26, [some (.inr (.inr (33, (0, 0), (0, 0)))), some (.inl (0, 3)), some (.inl (0, 5)), some (.inl (0, 31))], [], [.inl 1, .inr (.inl (false, 3))])]
theorem yt_X12_rise : y_chk yL_0 yk_X12_rise yq_X12_rise 4000 2 = true := by decide +kernel
def yk_X11_count : YCt := (160, [.inr (.inr (0, (0, 0), (0, 0))), .inl ((-2147483648), 2147483647)], ([], []), [], [(some (.inl ((-2147483648), 2147483647)), [])], 2)
def yq_X11_count : List YCut := []
theorem yt_X11_count : y_chk yL_0 yk_X11_count yq_X11_count 4000 0 = true := by decide +kernel
def yk_X12_count : YCt := (313, [.inr (.inr (33, (0, 0), (0, 0))), .inl ((-2147483648), 2147483647)], ([], []), [], [(some (.inl ((-2147483648), 2147483647)), [])], 1)
def yq_X12_count : List YCut := []
theorem yt_X12_count : y_chk yL_0 yk_X12_count yq_X12_count 4000 0 = true := by decide +kernel
def yk_X8_bytesIn : YCt := (108, [.inl ((-2147483648), 2147483647)], ([], []), [], [(some (.inl ((-2147483648), 2147483647)), [])], 1)
def yq_X8_bytesIn : List YCut := [(5, [some (.inl ((-2147483648), 2147483647)), some (.inl ((-2147483648), 2147483647)), some (.inl ((-1000000), 24))], [], [.inl 1, .inr (.inl (true, 2))])]
theorem yt_X8_bytesIn : y_chk yL_0 yk_X8_bytesIn yq_X8_bytesIn 4000 2 = true := by decide +kernel
def yk_X12_runOf : YCt := (254, [.inr (.inr (33, (0, 0), (0, 0))), .inl (0, 3)], ([], []), [(33, 0, 0, 29, 29), (42, 0, 0, 0, 7), (43, 0, 0, 0, 79), (48, 0, 0, 0, 159), (48, 0, 0, 260, 271), (48, 0, 0, 273, 276), (51, 0, 0, 0, 20)], [(none, [])], 41)
def yq_X12_runOf : List YCut := [(2, [some (.inr (.inr (33, (0, 0), (0, 0)))), some (.inl (0, 3)), some (.inl (0, 30))], [], [.inl 1, .inr (.inl (false, 2))])]
theorem yt_X12_runOf : y_chk yL_0 yk_X12_runOf yq_X12_runOf 4000 2 = true := by decide +kernel
def yk_X1_harmOfAll : YCt := (35, [.inr (.inr (17, (0, 0), (0, 0)))], ([], []), [], [(some (.inl ((-2147483648), 2147483647)), [])], 1)
def yq_X1_harmOfAll : List YCut := [(13, [none, some (.inl ((-2147483648), 2147483647)), some (.inr (.inr (19, (0, 0), (0, 0)))), some (.inl (6, 6)), some (.inl (0, 6)), none], [], [.inl 1, .inr (.inl (false, 4))])]
theorem yt_X1_harmOfAll : y_chk yL_0 yk_X1_harmOfAll yq_X1_harmOfAll 4000 2 = true := by decide +kernel
def yk_X12_sumOf : YCt := (258, [.inr (.inr (33, (0, 0), (0, 0))), .inl (100, 100), .inl (20, 20)], ([], []), [], [(some (.inl ((-2147483648), 2147483647)), [])], 1)
def yq_X12_sumOf : List YCut := [(5, [some (.inr (.inr (33, (0, 0), (0, 0)))), some (.inl (100, 100)), some (.inl (20, 20)), some (.inl ((-2147483648), 2147483647)), some (.inl (100, 147))], [], [.inl 1, .inr (.inl (false, 4))])]
theorem yt_X12_sumOf : y_chk yL_0 yk_X12_sumOf yq_X12_sumOf 4000 2 = true := by decide +kernel
def yk_X12_sumOf_1 : YCt := (258, [.inr (.inr (33, (0, 0), (0, 0))), .inl (260, 260), .inl (6, 6)], ([], []), [], [(some (.inl ((-2147483648), 2147483647)), [])], 1)
def yq_X12_sumOf_1 : List YCut := [(5, [some (.inr (.inr (33, (0, 0), (0, 0)))), some (.inl (260, 260)), some (.inl (6, 6)), some (.inl ((-2147483648), 2147483647)), some (.inl (260, 278))], [], [.inl 1, .inr (.inl (false, 4))])]
theorem yt_X12_sumOf_1 : y_chk yL_0 yk_X12_sumOf_1 yq_X12_sumOf_1 4000 2 = true := by decide +kernel
def yk_X12_sumOf_2 : YCt := (258, [.inr (.inr (33, (0, 0), (0, 0))), .inl (60, 60), .inl (20, 20)], ([], []), [], [(some (.inl ((-2147483648), 2147483647)), [])], 1)
def yq_X12_sumOf_2 : List YCut := [(5, [some (.inr (.inr (33, (0, 0), (0, 0)))), some (.inl (60, 60)), some (.inl (20, 20)), some (.inl ((-2147483648), 2147483647)), some (.inl (60, 80))], [], [.inl 1, .inr (.inl (false, 4))])]
theorem yt_X12_sumOf_2 : y_chk yL_0 yk_X12_sumOf_2 yq_X12_sumOf_2 4000 2 = true := by decide +kernel
def yk_X12_sumOf_3 : YCt := (258, [.inr (.inr (33, (0, 0), (0, 0))), .inl (20, 20), .inl (20, 20)], ([], []), [], [(some (.inl ((-2147483648), 2147483647)), [])], 1)
def yq_X12_sumOf_3 : List YCut := [(5, [some (.inr (.inr (33, (0, 0), (0, 0)))), some (.inl (20, 20)), some (.inl (20, 20)), some (.inl ((-2147483648), 2147483647)), some (.inl (20, 40))], [], [.inl 1, .inr (.inl (false, 4))])]
theorem yt_X12_sumOf_3 : y_chk yL_0 yk_X12_sumOf_3 yq_X12_sumOf_3 4000 2 = true := by decide +kernel
def yk_X12_sumOf_4 : YCt := (258, [.inr (.inr (33, (0, 0), (0, 0))), .inl (0, 0), .inl (20, 20)], ([], []), [], [(some (.inl ((-2147483648), 2147483647)), [])], 1)
def yq_X12_sumOf_4 : List YCut := [(5, [some (.inr (.inr (33, (0, 0), (0, 0)))), some (.inl (0, 0)), some (.inl (20, 20)), some (.inl ((-2147483648), 2147483647)), some (.inl (0, 20))], [], [.inl 1, .inr (.inl (false, 4))])]
theorem yt_X12_sumOf_4 : y_chk yL_0 yk_X12_sumOf_4 yq_X12_sumOf_4 4000 2 = true := by decide +kernel
def yk_X1_reachesOf : YCt := (33, [.inr (.inr (17, (0, 0), (0, 0))), .inl (0, 5)], ([], []), [], [(some (.inl ((-2147483648), 2147483647)), [])], 1)
def yq_X1_reachesOf : List YCut := [(11, [none, some (.inl (0, 5)), some (.inl ((-2147483648), 2147483647)), some (.inr (.inr (21, (0, 0), (0, 19))))], [], [.inl 1, .inr (.inl (false, 3))])]
theorem yt_X1_reachesOf : y_chk yL_0 yk_X1_reachesOf yq_X1_reachesOf 4000 2 = true := by decide +kernel
def yk_X12_cleanOf : YCt := (262, [.inr (.inr (33, (0, 0), (0, 0))), .inl (0, 5)], ([], []), [(48, 0, 0, 20, 59), (48, 0, 0, 266, 271)], [(some (.inl ((-2147483648), 2147483647)), [])], 2)
def yq_X12_cleanOf : List YCut := [(4, [some (.inr (.inr (33, (0, 0), (0, 0)))), some (.inl (0, 5)), some (.inl ((-2147483648), 2147483647)), some (.inl (0, 20))], [], [.inl 1, .inr (.inl (false, 3))])]
theorem yt_X12_cleanOf : y_chk yL_0 yk_X12_cleanOf yq_X12_cleanOf 4000 2 = true := by decide +kernel
def yk_X1_owners : YCt := (32, [.inr (.inr (17, (0, 0), (0, 0)))], ([], []), [], [(some (.inl (1, 6)), [])], 1)
def yq_X1_owners : List YCut := [(11, [none, some (.inl (0, 5)), some (.inr (.inr (21, (0, 0), (0, 19))))], [], [.inl 1, .inr (.inl (false, 2))])]
theorem yt_X1_owners : y_chk yL_0 yk_X1_owners yq_X1_owners 4000 2 = true := by decide +kernel
def yk_X1_wholeWork : YCt := (45, [.inr (.inr (17, (0, 0), (0, 0)))], ([], []), [], [(some (.inl ((-2147483648), 2147483647)), [])], 3)
def yq_X1_wholeWork : List YCut := [(11, [none, some (.inl ((-2147483648), 2147483647)), some (.inr (.inr (21, (0, 0), (0, 19))))], [], [.inl 1, .inr (.inl (false, 2))])]
theorem yt_X1_wholeWork : y_chk yL_0 yk_X1_wholeWork yq_X1_wholeWork 4000 2 = true := by decide +kernel
def yk_X12_workOfRow : YCt := (301, [.inr (.inr (33, (0, 0), (0, 0))), .inl (0, 0), .inl (0, 20)], ([], []), [], [(some (.inl ((-2147483648), 2147483647)), [])], 3)
def yq_X12_workOfRow : List YCut := [(5, [some (.inr (.inr (33, (0, 0), (0, 0)))), none, some (.inl (0, 20)), some (.inl ((-2147483648), 2147483647)), some (.inl (0, 20))], [], [.inl 1, .inr (.inl (false, 4))])]
theorem yt_X12_workOfRow : y_chk yL_0 yk_X12_workOfRow yq_X12_workOfRow 4000 2 = true := by decide +kernel
def yk_X1_longestWet : YCt := (48, [.inr (.inr (17, (0, 0), (0, 0))), .inl (0, 1)], ([], []), [], [(some (.inl ((-2147483648), 2147483647)), [])], 1)
def yq_X1_longestWet : List YCut := [(21, [none, some (.inl (0, 1)), some (.inl ((-2147483648), 2147483647)), some (.inl (0, 2147483647)), some (.inl ((-2147483648), 2147483647)), some (.inl ((-2147483648), 2147483647)), some (.inr (.inr (21, (0, 0), (0, 19))))], [], [.inl 1, .inr (.inl (false, 6))])]
theorem yt_X1_longestWet : y_chk yL_0 yk_X1_longestWet yq_X1_longestWet 4000 2 = true := by decide +kernel
def yk_X8_next : YCt := (114, [.inr (.inr (1, (0, 0), (0, 0)))], ([(1, 0, 2, .inl (0, 200))], []), [(1, 0, 0, 2, 2)], [(some (.inl (0, 0)), []), (some (.inl (0, 255)), [(1, 0, 2, .inl (0, 199))])], 1)
def yq_X8_next : List YCut := [(0, [some (.inr (.inr (1, (0, 0), (0, 0))))], [(1, 0, 2, .inl (0, 200))], [.inl 1, .inr (.inr (false, 1, 0, 2))])]
theorem yt_X8_next : y_chk yL_0 yk_X8_next yq_X8_next 4000 2 = true := by decide +kernel
def yk_X1_takeRain : YCt := (23, [.inr (.inr (17, (0, 0), (0, 0))), .inl ((-2147483648), 2147483647)], ([], []), [(21, 0, 19, 6, 6), (21, 0, 19, 9, 9)], [(none, [])], 1)
def yq_X1_takeRain : List YCut := [(9, [some (.inr (.inr (17, (0, 0), (0, 0)))), some (.inl ((-2147483648), 2147483647)), some (.inr (.inr (21, (0, 0), (0, 19))))], [], [.inl 1, .inr (.inl (false, 2))])]
theorem yt_X1_takeRain : y_chk yL_0 yk_X1_takeRain yq_X1_takeRain 4000 2 = true := by decide +kernel
def yk_X1_spadesOf : YCt := (37, [.inr (.inr (17, (0, 0), (0, 0))), .inl (0, 5)], ([], []), [], [(some (.inl ((-2147483648), 2147483647)), [])], 2)
def yq_X1_spadesOf : List YCut := [(11, [none, some (.inl (0, 5)), some (.inl ((-2147483648), 2147483647)), some (.inr (.inr (21, (0, 0), (0, 19))))], [], [.inl 1, .inr (.inl (false, 3))])]
theorem yt_X1_spadesOf : y_chk yL_0 yk_X1_spadesOf yq_X1_spadesOf 4000 2 = true := by decide +kernel
def yk_X12_sumOf_5 : YCt := (258, [.inr (.inr (33, (0, 0), (0, 0))), .inl (266, 266), .inl (6, 6)], ([], []), [], [(some (.inl ((-2147483648), 2147483647)), [])], 1)
def yq_X12_sumOf_5 : List YCut := [(5, [some (.inr (.inr (33, (0, 0), (0, 0)))), some (.inl (266, 266)), some (.inl (6, 6)), some (.inl ((-2147483648), 2147483647)), some (.inl (266, 278))], [], [.inl 1, .inr (.inl (false, 4))])]
theorem yt_X12_sumOf_5 : y_chk yL_0 yk_X12_sumOf_5 yq_X12_sumOf_5 4000 2 = true := by decide +kernel
def yk_X9_areTurns : YCt := (132, [.inr (.inr (22, (0, 0), (0, 0))), .inl (0, 3210), .inl (1, 4)], ([], []), [(23, 0, 0, 0, 3)], [(some (.inl (0, 1)), [])], 1)
def yq_X9_areTurns : List YCut := [(18, [some (.inr (.inr (22, (0, 0), (0, 0)))), none, some (.inl (1, 4)), some (.inl (0, 3210)), some (.inl (0, 1023)), some (.inl ((-1), 3))], [], [.inl 1, .inr (.inl (true, 5))])]
theorem yt_X9_areTurns : y_chk yL_0 yk_X9_areTurns yq_X9_areTurns 4000 2 = true := by decide +kernel
def yk_X4_sumUp : YCt := (80, [.inr (.inr (29, (0, 0), (0, 0))), .inr (.inr (17, (0, 0), (0, 0)))], ([], []), [(29, 0, 0, 2, 2), (30, 0, 0, 1, 20)], [(none, [])], 3)
def yq_X4_sumUp : List YCut := [(7, [some (.inr (.inr (29, (0, 0), (0, 0)))), some (.inr (.inr (17, (0, 0), (0, 0)))), some (.inl (0, 20)), none], [], [.inl 1, .inr (.inl (false, 2))])]
theorem yt_X4_sumUp : y_chk yL_0 yk_X4_sumUp yq_X4_sumUp 4000 2 = true := by decide +kernel
def yk_X8_append : YCt := (109, [.inr (.inr (1, (0, 0), (0, 0))), .inl ((-2147483648), 2147483647)], ([], []), [(1, 0, 0, 1, 1), (2, 0, 0, 0, 199)], [(none, [])], 1)
def yq_X8_append : List YCut := [(3, [some (.inr (.inr (1, (0, 0), (0, 0)))), some (.inl ((-2147483648), 2147483647)), some (.inl ((-1000000), 24)), none], [], [.inl 1, .inr (.inl (true, 2))])]
theorem yt_X8_append : y_chk yL_0 yk_X8_append yq_X8_append 4000 2 = true := by decide +kernel
def yk_X12_isAtRest : YCt := (279, [.inr (.inr (33, (0, 0), (0, 0))), .inl (0, 63)], ([], []), [], [(some (.inl (0, 1)), [])], 41)
def yq_X12_isAtRest : List YCut := [(2, [some (.inr (.inr (33, (0, 0), (0, 0)))), some (.inl (0, 63)), some (.inl (0, 6))], [], [.inl 1, .inr (.inl (false, 2))])]
theorem yt_X12_isAtRest : y_chk yL_0 yk_X12_isAtRest yq_X12_isAtRest 4000 2 = true := by decide +kernel
def yk_X1_withMudOrReeds : YCt := (38, [.inr (.inr (17, (0, 0), (0, 0)))], ([], []), [], [(some (.inl ((-2147483648), 2147483647)), [])], 1)
def yq_X1_withMudOrReeds : List YCut := [(11, [none, some (.inl ((-2147483648), 2147483647)), some (.inr (.inr (21, (0, 0), (0, 19))))], [], [.inl 1, .inr (.inl (false, 2))])]
theorem yt_X1_withMudOrReeds : y_chk yL_0 yk_X1_withMudOrReeds yq_X1_withMudOrReeds 4000 2 = true := by decide +kernel
def yk_X4_leastIn : YCt := (83, [.inr (.inr (29, (0, 0), (0, 0))), .inl (1, 6), .inl (0, 19)], ([], []), [], [(some (.inl ((-2147483648), 2147483647)), [])], 2)
def yq_X4_leastIn : List YCut := [(15, [some (.inr (.inr (29, (0, 0), (0, 0)))), some (.inl (1, 6)), some (.inl (0, 19)), some (.inl ((-2147483648), 2147483647)), some (.inl (1, 20))], [], [.inl 1, .inr (.inl (false, 4))])]
theorem yt_X4_leastIn : y_chk yL_0 yk_X4_leastIn yq_X4_leastIn 4000 2 = true := by decide +kernel
def yk_X4_beginOf : YCt := (84, [.inr (.inr (29, (0, 0), (0, 0))), .inl (0, 5), .inl (1, 6)], ([], []), [], [(some (.inl ((-2147483648), 2147483647)), [])], 2)
def yq_X4_beginOf : List YCut := [(13, [some (.inr (.inr (29, (0, 0), (0, 0)))), some (.inl (0, 5)), some (.inl (1, 6)), some (.inl ((-2147483648), 2147483647)), some (.inl ((-2147483648), 2147483647)), some (.inl (1, 6))], [], [.inl 1, .inr (.inl (false, 5)), .inl 0, .inl 0]), (22, [some (.inr (.inr (29, (0, 0), (0, 0)))), some (.inl (1, 5)), some (.inl (1, 6)), some (.inl ((-2147483648), 2147483647)), some (.inl ((-2147483648), 2147483647)), some (.inl (1, 5))], [], [.inl 1, .inr (.inl (false, 5)), .inl 2, .inr (.inl (false, 4))])]
theorem yt_X4_beginOf : y_chk yL_0 yk_X4_beginOf yq_X4_beginOf 4000 4 = true := by decide +kernel
def yk_X3_within : YCt := (75, [.inr (.inl ())], ([], []), [], [(some (.inl ((-2147483648), 2147483647)), [])], 1)
def yq_X3_within : List YCut := []
theorem yt_X3_within : y_chk yL_0 yk_X3_within yq_X3_within 4000 0 = true := by decide +kernel
def yk_X1_moveWater : YCt := (26, [.inr (.inr (17, (0, 0), (0, 0)))], ([], []), [(17, 0, 0, 11, 11), (21, 0, 19, 6, 6)], [(none, [])], 1)
def yq_X1_moveWater : List YCut := [(9, [some (.inr (.inr (17, (0, 0), (0, 0)))), some (.inr (.inr (21, (0, 0), (0, 19))))], [], [.inl 1, .inr (.inl (false, 1))])]
theorem yt_X1_moveWater : y_chk yL_0 yk_X1_moveWater yq_X1_moveWater 4000 2 = true := by decide +kernel
def yk_X1_raiseFields : YCt := (19, [.inr (.inr (17, (0, 0), (1, 1))), .inl (0, 5), .inl (0, 30)], ([], []), [(21, 20, 39, 5, 5)], [(none, [])], 1)
def yq_X1_raiseFields : List YCut := [(9, [none, some (.inl (0, 5)), some (.inl (0, 30)), some (.inr (.inr (21, (0, 0), (20, 39))))], [], [.inl 1, .inr (.inl (false, 3))])]
theorem yt_X1_raiseFields : y_chk yL_0 yk_X1_raiseFields yq_X1_raiseFields 4000 2 = true := by decide +kernel
def yk_X1_harmOfAll_1 : YCt := (35, [.inr (.inr (17, (0, 0), (1, 1)))], ([], []), [], [(some (.inl ((-2147483648), 2147483647)), [])], 1)
def yq_X1_harmOfAll_1 : List YCut := [(13, [none, some (.inl ((-2147483648), 2147483647)), some (.inr (.inr (19, (0, 0), (1, 1)))), some (.inl (6, 6)), some (.inl (0, 6)), none], [], [.inl 1, .inr (.inl (false, 4))])]
theorem yt_X1_harmOfAll_1 : y_chk yL_0 yk_X1_harmOfAll_1 yq_X1_harmOfAll_1 4000 2 = true := by decide +kernel
def yk_X1_sink : YCt := (18, [.inr (.inr (17, (0, 0), (1, 1))), .inl (1, 278)], ([], []), [(21, 20, 39, 2, 2), (21, 20, 39, 5, 5)], [(none, [])], 1)
def yq_X1_sink : List YCut := [(9, [none, some (.inl (1, 278)), some (.inr (.inr (21, (0, 0), (20, 39))))], [], [.inl 1, .inr (.inl (false, 2))])]
theorem yt_X1_sink : y_chk yL_0 yk_X1_sink yq_X1_sink 4000 2 = true := by decide +kernel
def yk_X1_spadesOf_1 : YCt := (37, [.inr (.inr (17, (0, 0), (1, 1))), .inl ((-2147483648), 2147483647)], ([], []), [], [(some (.inl ((-2147483648), 2147483647)), [])], 2)
def yq_X1_spadesOf_1 : List YCut := [(11, [none, some (.inl ((-2147483648), 2147483647)), some (.inl ((-2147483648), 2147483647)), some (.inr (.inr (21, (0, 0), (20, 39))))], [], [.inl 1, .inr (.inl (false, 3))])]
theorem yt_X1_spadesOf_1 : y_chk yL_0 yk_X1_spadesOf_1 yq_X1_spadesOf_1 4000 2 = true := by decide +kernel
def yk_X7_agree : YCt := (102, [.inr (.inr (27, (0, 0), (0, 0))), .inl (0, 99)], ([], []), [], [(some (.inl (0, 1)), [])], 3)
def yq_X7_agree : List YCut := [(2, [some (.inr (.inr (27, (0, 0), (0, 0)))), some (.inl (0, 99)), some (.inl (0, 20))], [], [.inl 1, .inr (.inl (false, 2))])]
theorem yt_X7_agree : y_chk yL_0 yk_X7_agree yq_X7_agree 4000 2 = true := by decide +kernel
def yk_X1_moveLoad : YCt := (27, [.inr (.inr (17, (0, 0), (0, 0)))], ([], []), [(17, 0, 0, 12, 12), (17, 0, 0, 13, 13), (21, 0, 19, 7, 7), (21, 0, 19, 9, 9)], [(none, [])], 2)
def yq_X1_moveLoad : List YCut := [(11, [some (.inr (.inr (17, (0, 0), (0, 0)))), some (.inl ((-2147483648), 2147483647)), some (.inr (.inr (21, (0, 0), (0, 19)))), none], [], [.inl 1, .inr (.inl (false, 2))])]
theorem yt_X1_moveLoad : y_chk yL_0 yk_X1_moveLoad yq_X1_moveLoad 4000 2 = true := by decide +kernel
def yk_X1_takeRain_1 : YCt := (23, [.inr (.inr (17, (0, 0), (1, 1))), .inl ((-2147483648), 2147483647)], ([], []), [(21, 20, 39, 6, 6), (21, 20, 39, 9, 9)], [(none, [])], 1)
def yq_X1_takeRain_1 : List YCut := [(9, [some (.inr (.inr (17, (0, 0), (1, 1)))), some (.inl ((-2147483648), 2147483647)), some (.inr (.inr (21, (0, 0), (20, 39))))], [], [.inl 1, .inr (.inl (false, 2))])]
theorem yt_X1_takeRain_1 : y_chk yL_0 yk_X1_takeRain_1 yq_X1_takeRain_1 4000 2 = true := by decide +kernel
def yk_X1_muddiest : YCt := (47, [.inr (.inr (17, (0, 0), (1, 1)))], ([], []), [], [(some (.inl ((-2147483648), 2147483647)), [])], 1)
def yq_X1_muddiest : List YCut := [(17, [none, some (.inl ((-1), 2147483647)), some (.inl ((-2147483648), 2147483647)), some (.inl ((-2147483648), 2147483647)), some (.inr (.inr (21, (0, 0), (20, 39))))], [], [.inl 1, .inr (.inl (false, 4))])]
theorem yt_X1_muddiest : y_chk yL_0 yk_X1_muddiest yq_X1_muddiest 4000 2 = true := by decide +kernel
def yk_X1_growReeds : YCt := (30, [.inr (.inr (17, (0, 0), (0, 0)))], ([], []), [(21, 0, 19, 8, 8)], [(none, [])], 1)
def yq_X1_growReeds : List YCut := [(20, [none, some (.inr (.inr (21, (0, 0), (0, 19))))], [], [.inl 1, .inr (.inl (false, 1))])]
theorem yt_X1_growReeds : y_chk yL_0 yk_X1_growReeds yq_X1_growReeds 4000 2 = true := by decide +kernel
def yk_X1_moveWater_1 : YCt := (26, [.inr (.inr (17, (0, 0), (1, 1)))], ([], []), [(17, 1, 1, 11, 11), (21, 20, 39, 6, 6)], [(none, [])], 1)
def yq_X1_moveWater_1 : List YCut := [(9, [some (.inr (.inr (17, (0, 0), (1, 1)))), some (.inr (.inr (21, (0, 0), (20, 39))))], [], [.inl 1, .inr (.inl (false, 1))])]
theorem yt_X1_moveWater_1 : y_chk yL_0 yk_X1_moveWater_1 yq_X1_moveWater_1 4000 2 = true := by decide +kernel
def yk_X1_wetFields : YCt := (31, [.inr (.inr (17, (0, 0), (0, 0)))], ([], []), [(19, 0, 0, 0, 5), (21, 0, 19, 12, 12)], [(none, [])], 2)
def yq_X1_wetFields : List YCut := [(9, [some (.inr (.inr (17, (0, 0), (0, 0)))), some (.inr (.inr (21, (0, 0), (0, 19))))], [], [.inl 1, .inr (.inl (false, 1))])]
theorem yt_X1_wetFields : y_chk yL_0 yk_X1_wetFields yq_X1_wetFields 4000 2 = true := by decide +kernel
def yk_X1_moveLoad_1 : YCt := (27, [.inr (.inr (17, (0, 0), (1, 1)))], ([], []), [(17, 1, 1, 12, 12), (17, 1, 1, 13, 13), (21, 20, 39, 7, 7), (21, 20, 39, 9, 9)], [(none, [])], 2)
def yq_X1_moveLoad_1 : List YCut := [(11, [some (.inr (.inr (17, (0, 0), (1, 1)))), some (.inl ((-2147483648), 2147483647)), some (.inr (.inr (21, (0, 0), (20, 39)))), none], [], [.inl 1, .inr (.inl (false, 2))])]
theorem yt_X1_moveLoad_1 : y_chk yL_0 yk_X1_moveLoad_1 yq_X1_moveLoad_1 4000 2 = true := by decide +kernel
def yk_X1_growReeds_1 : YCt := (30, [.inr (.inr (17, (0, 0), (1, 1)))], ([], []), [(21, 20, 39, 8, 8)], [(none, [])], 1)
def yq_X1_growReeds_1 : List YCut := [(20, [none, some (.inr (.inr (21, (0, 0), (20, 39))))], [], [.inl 1, .inr (.inl (false, 1))])]
theorem yt_X1_growReeds_1 : y_chk yL_0 yk_X1_growReeds_1 yq_X1_growReeds_1 4000 2 = true := by decide +kernel
def yk_X1_wetFields_1 : YCt := (31, [.inr (.inr (17, (0, 0), (1, 1)))], ([], []), [(19, 1, 1, 0, 5), (21, 20, 39, 12, 12)], [(none, [])], 2)
def yq_X1_wetFields_1 : List YCut := [(9, [some (.inr (.inr (17, (0, 0), (1, 1)))), some (.inr (.inr (21, (0, 0), (20, 39))))], [], [.inl 1, .inr (.inl (false, 1))])]
theorem yt_X1_wetFields_1 : y_chk yL_0 yk_X1_wetFields_1 yq_X1_wetFields_1 4000 2 = true := by decide +kernel
def yk_X1_begin_1 : YCt := (13, [.inr (.inr (17, (0, 0), (0, 0))), .inr (.inr (8, (0, 0), (0, 6))), .inr (.inr (8, (1, 1), (0, 0))), .inr (.inl ())], ([], []), [(17, 0, 0, 6, 6), (17, 0, 0, 7, 7), (17, 0, 0, 8, 8), (17, 0, 0, 9, 9), (17, 0, 0, 10, 10), (17, 0, 0, 11, 11), (17, 0, 0, 12, 12), (17, 0, 0, 13, 13), (19, 0, 0, 0, 5), (20, 0, 0, 0, 5)], [(none, [])], 1)
def yq_X1_begin_1 : List YCut := [(43, [some (.inr (.inr (17, (0, 0), (0, 0)))), none, none, none, none, some (.inl (0, 6))], [], [.inl 1, .inr (.inl (false, 5))])]
theorem yt_X1_begin_1 : y_chk yL_0 yk_X1_begin_1 yq_X1_begin_1 4000 2 = true := by decide +kernel
def yk_X1_begin_5 : YCt := (13, [.inr (.inr (17, (0, 0), (1, 1))), .inr (.inr (8, (0, 0), (0, 6))), .inr (.inr (0, (1, 1), (0, 0))), .inr (.inl ())], ([], []), [(17, 1, 1, 6, 6), (17, 1, 1, 7, 7), (17, 1, 1, 8, 8), (17, 1, 1, 9, 9), (17, 1, 1, 10, 10), (17, 1, 1, 11, 11), (17, 1, 1, 12, 12), (17, 1, 1, 13, 13), (19, 1, 1, 0, 5), (20, 1, 1, 0, 5)], [(none, [])], 1)
def yq_X1_begin_5 : List YCut := [(43, [some (.inr (.inr (17, (0, 0), (1, 1)))), none, none, none, none, some (.inl (0, 6))], [], [.inl 1, .inr (.inl (false, 5))])]
theorem yt_X1_begin_5 : y_chk yL_0 yk_X1_begin_5 yq_X1_begin_5 4000 2 = true := by decide +kernel
def yk_X3_readRound_6 : YCt := (69, [.inr (.inr (8, (0, 0), (0, 6))), .inr (.inr (1, (0, 0), (0, 0))), .inl (6, 6)], ([(1, 0, 2, .inl (0, 199))], []), [], [(some (.inl (0, 0)), [])], 2)
def yq_X3_readRound_6 : List YCut := []
theorem yt_X3_readRound_6 : y_chk yL_0 yk_X3_readRound_6 yq_X3_readRound_6 4000 0 = true := by decide +kernel
def yk_X1_begin : YCt := (13, [.inr (.inr (17, (0, 0), (0, 0))), .inr (.inr (8, (0, 0), (0, 6))), .inr (.inr (8, (0, 0), (0, 6))), .inr (.inl ())], ([], []), [(17, 0, 0, 6, 6), (17, 0, 0, 7, 7), (17, 0, 0, 8, 8), (17, 0, 0, 9, 9), (17, 0, 0, 10, 10), (17, 0, 0, 11, 11), (17, 0, 0, 12, 12), (17, 0, 0, 13, 13), (19, 0, 0, 0, 5), (20, 0, 0, 0, 5)], [(none, [])], 1)
def yq_X1_begin : List YCut := [(43, [some (.inr (.inr (17, (0, 0), (0, 0)))), none, none, none, none, some (.inl (0, 6))], [], [.inl 1, .inr (.inl (false, 5))])]
theorem yt_X1_begin : y_chk yL_0 yk_X1_begin yq_X1_begin 4000 2 = true := by decide +kernel
def yk_X1_begin_2 : YCt := (13, [.inr (.inr (17, (0, 0), (1, 1))), .inr (.inr (8, (0, 1), (0, 6))), .inr (.inr (8, (0, 1), (0, 6))), .inr (.inl ())], ([], []), [(17, 1, 1, 6, 6), (17, 1, 1, 7, 7), (17, 1, 1, 8, 8), (17, 1, 1, 9, 9), (17, 1, 1, 10, 10), (17, 1, 1, 11, 11), (17, 1, 1, 12, 12), (17, 1, 1, 13, 13), (19, 1, 1, 0, 5), (20, 1, 1, 0, 5)], [(none, [])], 1)
def yq_X1_begin_2 : List YCut := [(43, [some (.inr (.inr (17, (0, 0), (1, 1)))), none, none, none, none, some (.inl (0, 6))], [], [.inl 1, .inr (.inl (false, 5))])]
theorem yt_X1_begin_2 : y_chk yL_0 yk_X1_begin_2 yq_X1_begin_2 4000 2 = true := by decide +kernel
def yk_X1_begin_3 : YCt := (13, [.inr (.inr (17, (0, 0), (2, 2))), .inr (.inr (8, (0, 1), (0, 6))), .inr (.inr (8, (0, 1), (0, 6))), .inr (.inl ())], ([], []), [(17, 2, 2, 6, 6), (17, 2, 2, 7, 7), (17, 2, 2, 8, 8), (17, 2, 2, 9, 9), (17, 2, 2, 10, 10), (17, 2, 2, 11, 11), (17, 2, 2, 12, 12), (17, 2, 2, 13, 13), (19, 2, 2, 0, 5), (20, 2, 2, 0, 5)], [(none, [])], 1)
def yq_X1_begin_3 : List YCut := [(43, [some (.inr (.inr (17, (0, 0), (2, 2)))), none, none, none, none, some (.inl (0, 6))], [], [.inl 1, .inr (.inl (false, 5))])]
theorem yt_X1_begin_3 : y_chk yL_0 yk_X1_begin_3 yq_X1_begin_3 4000 2 = true := by decide +kernel
def yk_X1_begin_4 : YCt := (13, [.inr (.inr (17, (0, 0), (0, 0))), .inr (.inr (8, (0, 1), (0, 6))), .inr (.inr (8, (0, 1), (0, 6))), .inr (.inl ())], ([], []), [(17, 0, 0, 6, 6), (17, 0, 0, 7, 7), (17, 0, 0, 8, 8), (17, 0, 0, 9, 9), (17, 0, 0, 10, 10), (17, 0, 0, 11, 11), (17, 0, 0, 12, 12), (17, 0, 0, 13, 13), (19, 0, 0, 0, 5), (20, 0, 0, 0, 5)], [(none, [])], 1)
def yq_X1_begin_4 : List YCut := [(43, [some (.inr (.inr (17, (0, 0), (0, 0)))), none, none, none, none, some (.inl (0, 6))], [], [.inl 1, .inr (.inl (false, 5))])]
theorem yt_X1_begin_4 : y_chk yL_0 yk_X1_begin_4 yq_X1_begin_4 4000 2 = true := by decide +kernel
def yk_X6_tells : YCt := (97, [.inr (.inr (21, (0, 0), (0, 19))), .inl ((-2147483648), 2147483647)], ([], []), [], [(some (.inl ((-2147483648), 2147483647)), [])], 2)
def yq_X6_tells : List YCut := []
theorem yt_X6_tells : y_chk yL_0 yk_X6_tells yq_X6_tells 4000 0 = true := by decide +kernel
def yk_X6_digAs : YCt := (90, [.inr (.inr (21, (0, 0), (0, 19))), .inl ((-2147483648), 2147483647), .inl ((-2147483648), 2147483647), .inl ((-2147483648), 2147483647), .inl ((-1), 5), .inl ((-2147483648), 2147483647)], ([], []), [(21, 0, 19, 1, 1), (21, 0, 19, 2, 2), (21, 0, 19, 3, 3), (21, 0, 19, 4, 4), (21, 0, 19, 5, 5), (21, 0, 19, 6, 6), (21, 0, 19, 7, 7), (21, 0, 19, 8, 8), (21, 0, 19, 9, 9), (21, 0, 19, 10, 10), (21, 0, 19, 11, 11), (21, 0, 19, 12, 12), (21, 0, 19, 13, 13), (21, 0, 19, 14, 14)], [(none, [])], 1)
def yq_X6_digAs : List YCut := []
theorem yt_X6_digAs : y_chk yL_0 yk_X6_digAs yq_X6_digAs 4000 0 = true := by decide +kernel
def yk_X6_digAs_1 : YCt := (90, [.inr (.inr (21, (0, 0), (20, 39))), .inl ((-2147483648), 2147483647), .inl ((-2147483648), 2147483647), .inl ((-2147483648), 2147483647), .inl ((-1), 5), .inl ((-2147483648), 2147483647)], ([], []), [(21, 20, 39, 1, 1), (21, 20, 39, 2, 2), (21, 20, 39, 3, 3), (21, 20, 39, 4, 4), (21, 20, 39, 5, 5), (21, 20, 39, 6, 6), (21, 20, 39, 7, 7), (21, 20, 39, 8, 8), (21, 20, 39, 9, 9), (21, 20, 39, 10, 10), (21, 20, 39, 11, 11), (21, 20, 39, 12, 12), (21, 20, 39, 13, 13), (21, 20, 39, 14, 14)], [(none, [])], 1)
def yq_X6_digAs_1 : List YCut := []
theorem yt_X6_digAs_1 : y_chk yL_0 yk_X6_digAs_1 yq_X6_digAs_1 4000 0 = true := by decide +kernel
def yk_X6_digAs_2 : YCt := (90, [.inr (.inr (21, (0, 0), (40, 59))), .inl ((-2147483648), 2147483647), .inl ((-2147483648), 2147483647), .inl ((-2147483648), 2147483647), .inl ((-1), 5), .inl ((-2147483648), 2147483647)], ([], []), [(21, 40, 59, 1, 1), (21, 40, 59, 2, 2), (21, 40, 59, 3, 3), (21, 40, 59, 4, 4), (21, 40, 59, 5, 5), (21, 40, 59, 6, 6), (21, 40, 59, 7, 7), (21, 40, 59, 8, 8), (21, 40, 59, 9, 9), (21, 40, 59, 10, 10), (21, 40, 59, 11, 11), (21, 40, 59, 12, 12), (21, 40, 59, 13, 13), (21, 40, 59, 14, 14)], [(none, [])], 1)
def yq_X6_digAs_2 : List YCut := []
theorem yt_X6_digAs_2 : y_chk yL_0 yk_X6_digAs_2 yq_X6_digAs_2 4000 0 = true := by decide +kernel
def yk_X3_letter : YCt := (76, [.inl (97, 122), .inr (.inr (21, (0, 0), (0, 19))), .inl ((-2147483648), 2147483647), .inl ((-2147483648), 2147483647)], ([], []), [], [(some (.inl ((-2147483648), 2147483647)), [])], 1)
def yq_X3_letter : List YCut := []
theorem yt_X3_letter : y_chk yL_0 yk_X3_letter yq_X3_letter 4000 0 = true := by decide +kernel
def yk_X6_tells_1 : YCt := (97, [.inr (.inr (21, (0, 0), (20, 39))), .inl (2, 2)], ([], []), [], [(some (.inl ((-2147483648), 2147483647)), [])], 2)
def yq_X6_tells_1 : List YCut := []
theorem yt_X6_tells_1 : y_chk yL_0 yk_X6_tells_1 yq_X6_tells_1 4000 0 = true := by decide +kernel
def yk_X3_letter_1 : YCt := (76, [.inl (97, 122), .inr (.inr (21, (0, 0), (20, 39))), .inl ((-2147483648), 2147483647), .inl ((-2147483648), 2147483647)], ([], []), [], [(some (.inl ((-2147483648), 2147483647)), [])], 1)
def yq_X3_letter_1 : List YCut := []
theorem yt_X3_letter_1 : y_chk yL_0 yk_X3_letter_1 yq_X3_letter_1 4000 0 = true := by decide +kernel
def yk_X0_readItem : YCt := (6, [.inr (.inr (1, (0, 0), (0, 0))), .inr (.inr (6, (0, 0), (0, 99))), .inl (4, 4)], ([], []), [(1, 0, 0, 2, 2), (6, 0, 99, 4, 4)], [(some (.inl (0, 1)), [])], 41)
def yq_X0_readItem : List YCut := []
theorem yt_X0_readItem : y_chk yL_0 yk_X0_readItem yq_X0_readItem 4000 0 = true := by decide +kernel
def yk_X0_readItem_1 : YCt := (6, [.inr (.inr (1, (0, 0), (0, 0))), .inr (.inr (6, (0, 0), (0, 99))), .inl (3, 3)], ([], []), [(1, 0, 0, 2, 2), (6, 0, 99, 3, 3)], [(some (.inl (0, 1)), [])], 41)
def yq_X0_readItem_1 : List YCut := []
theorem yt_X0_readItem_1 : y_chk yL_0 yk_X0_readItem_1 yq_X0_readItem_1 4000 0 = true := by decide +kernel
def yk_X0_readItem_2 : YCt := (6, [.inr (.inr (1, (0, 0), (0, 0))), .inr (.inr (6, (0, 0), (0, 99))), .inl (2, 2)], ([], []), [(1, 0, 0, 2, 2), (6, 0, 99, 2, 2)], [(some (.inl (0, 1)), [])], 41)
def yq_X0_readItem_2 : List YCut := []
theorem yt_X0_readItem_2 : y_chk yL_0 yk_X0_readItem_2 yq_X0_readItem_2 4000 0 = true := by decide +kernel
def yk_X0_readItem_3 : YCt := (6, [.inr (.inr (1, (0, 0), (0, 0))), .inr (.inr (6, (0, 0), (0, 99))), .inl (1, 1)], ([], []), [(1, 0, 0, 2, 2), (6, 0, 99, 1, 1)], [(some (.inl (0, 1)), [])], 41)
def yq_X0_readItem_3 : List YCut := []
theorem yt_X0_readItem_3 : y_chk yL_0 yk_X0_readItem_3 yq_X0_readItem_3 4000 0 = true := by decide +kernel
def yL_1 : List YCt := [yk_X11_end, yk_X12_end, yk_X11_text, yk_X11_text_4, yk_X12_reach, yk_X11_rain, yk_X12_rain, yk_X11_set, yk_X12_set, yk_X12_day, yk_X12_owner, yk_X11_shut, yk_X12_shut, yk_X12_has, yk_X12_has_2, yk_X11_staff, yk_X12_staff, yk_X12_where, yk_X12_off, yk_X12_sands, yk_X12_sands_1, yk_X12_sands_2, yk_X12_sands_3, yk_X12_sands_4, yk_X12_sands_5, yk_X12_sinks, yk_X12_sinks_5, yk_X12_raised, yk_X12_raised_1, yk_X12_raised_2, yk_X12_raised_3, yk_X12_raised_4, yk_X12_raised_5, yk_X12_longest, yk_X12_banks, yk_X12_rise, yk_X11_count, yk_X12_count, yk_X8_bytesIn, yk_X12_runOf, yk_X1_harmOfAll, yk_X12_sumOf, yk_X12_sumOf_1, yk_X12_sumOf_2, yk_X12_sumOf_3, yk_X12_sumOf_4, yk_X1_reachesOf, yk_X12_cleanOf, yk_X1_owners, yk_X1_wholeWork, yk_X12_workOfRow, yk_X1_longestWet, yk_X8_next, yk_X1_takeRain, yk_X1_spadesOf, yk_X12_sumOf_5, yk_X9_areTurns, yk_X4_sumUp, yk_X8_append, yk_X12_isAtRest, yk_X1_withMudOrReeds, yk_X4_leastIn, yk_X4_beginOf, yk_X3_within, yk_X1_moveWater, yk_X1_raiseFields, yk_X1_harmOfAll_1, yk_X1_sink, yk_X1_spadesOf_1, yk_X7_agree, yk_X1_moveLoad, yk_X1_takeRain_1, yk_X1_muddiest, yk_X1_growReeds, yk_X1_moveWater_1, yk_X1_wetFields, yk_X1_moveLoad_1, yk_X1_growReeds_1, yk_X1_wetFields_1, yk_X1_begin_1, yk_X1_begin_5, yk_X3_readRound_6, yk_X1_begin, yk_X1_begin_2, yk_X1_begin_3, yk_X1_begin_4, yk_X6_tells, yk_X6_digAs, yk_X6_digAs_1, yk_X6_digAs_2, yk_X3_letter, yk_X6_tells_1, yk_X3_letter_1, yk_X0_readItem, yk_X0_readItem_1, yk_X0_readItem_2, yk_X0_readItem_3] ++ yL_0
theorem yl_1 {X : LMem → Prop} (hX : y_cl X) (h : ∀ ct ∈ yL_0, y_con X ct) : ∀ ct ∈ yL_1, y_con X ct := List.forall_mem_cons.mpr ⟨y_chk_ok hX h yt_X11_end, List.forall_mem_cons.mpr ⟨y_chk_ok hX h yt_X12_end, List.forall_mem_cons.mpr ⟨y_chk_ok hX h yt_X11_text, List.forall_mem_cons.mpr ⟨y_chk_ok hX h yt_X11_text_4, List.forall_mem_cons.mpr ⟨y_chk_ok hX h yt_X12_reach, List.forall_mem_cons.mpr ⟨y_chk_ok hX h yt_X11_rain, List.forall_mem_cons.mpr ⟨y_chk_ok hX h yt_X12_rain, List.forall_mem_cons.mpr ⟨y_chk_ok hX h yt_X11_set, List.forall_mem_cons.mpr ⟨y_chk_ok hX h yt_X12_set, List.forall_mem_cons.mpr ⟨y_chk_ok hX h yt_X12_day, List.forall_mem_cons.mpr ⟨y_chk_ok hX h yt_X12_owner, List.forall_mem_cons.mpr ⟨y_chk_ok hX h yt_X11_shut, List.forall_mem_cons.mpr ⟨y_chk_ok hX h yt_X12_shut, List.forall_mem_cons.mpr ⟨y_chk_ok hX h yt_X12_has, List.forall_mem_cons.mpr ⟨y_chk_ok hX h yt_X12_has_2, List.forall_mem_cons.mpr ⟨y_chk_ok hX h yt_X11_staff, List.forall_mem_cons.mpr ⟨y_chk_ok hX h yt_X12_staff, List.forall_mem_cons.mpr ⟨y_chk_ok hX h yt_X12_where, List.forall_mem_cons.mpr ⟨y_chk_ok hX h yt_X12_off, List.forall_mem_cons.mpr ⟨y_chk_ok hX h yt_X12_sands, List.forall_mem_cons.mpr ⟨y_chk_ok hX h yt_X12_sands_1, List.forall_mem_cons.mpr ⟨y_chk_ok hX h yt_X12_sands_2, List.forall_mem_cons.mpr ⟨y_chk_ok hX h yt_X12_sands_3, List.forall_mem_cons.mpr ⟨y_chk_ok hX h yt_X12_sands_4, List.forall_mem_cons.mpr ⟨y_chk_ok hX h yt_X12_sands_5, List.forall_mem_cons.mpr ⟨y_chk_ok hX h yt_X12_sinks, List.forall_mem_cons.mpr ⟨y_chk_ok hX h yt_X12_sinks_5, List.forall_mem_cons.mpr ⟨y_chk_ok hX h yt_X12_raised, List.forall_mem_cons.mpr ⟨y_chk_ok hX h yt_X12_raised_1, List.forall_mem_cons.mpr ⟨y_chk_ok hX h yt_X12_raised_2, List.forall_mem_cons.mpr ⟨y_chk_ok hX h yt_X12_raised_3, List.forall_mem_cons.mpr ⟨y_chk_ok hX h yt_X12_raised_4, List.forall_mem_cons.mpr ⟨y_chk_ok hX h yt_X12_raised_5, List.forall_mem_cons.mpr ⟨y_chk_ok hX h yt_X12_longest, List.forall_mem_cons.mpr ⟨y_chk_ok hX h yt_X12_banks, List.forall_mem_cons.mpr ⟨y_chk_ok hX h yt_X12_rise, List.forall_mem_cons.mpr ⟨y_chk_ok hX h yt_X11_count, List.forall_mem_cons.mpr ⟨y_chk_ok hX h yt_X12_count, List.forall_mem_cons.mpr ⟨y_chk_ok hX h yt_X8_bytesIn, List.forall_mem_cons.mpr ⟨y_chk_ok hX h yt_X12_runOf, List.forall_mem_cons.mpr ⟨y_chk_ok hX h yt_X1_harmOfAll, List.forall_mem_cons.mpr ⟨y_chk_ok hX h yt_X12_sumOf, List.forall_mem_cons.mpr ⟨y_chk_ok hX h yt_X12_sumOf_1, List.forall_mem_cons.mpr ⟨y_chk_ok hX h yt_X12_sumOf_2, List.forall_mem_cons.mpr ⟨y_chk_ok hX h yt_X12_sumOf_3, List.forall_mem_cons.mpr ⟨y_chk_ok hX h yt_X12_sumOf_4, List.forall_mem_cons.mpr ⟨y_chk_ok hX h yt_X1_reachesOf, List.forall_mem_cons.mpr ⟨y_chk_ok hX h yt_X12_cleanOf, List.forall_mem_cons.mpr ⟨y_chk_ok hX h yt_X1_owners, List.forall_mem_cons.mpr ⟨y_chk_ok hX h yt_X1_wholeWork, List.forall_mem_cons.mpr ⟨y_chk_ok hX h yt_X12_workOfRow, List.forall_mem_cons.mpr ⟨y_chk_ok hX h yt_X1_longestWet, List.forall_mem_cons.mpr ⟨y_chk_ok hX h yt_X8_next, List.forall_mem_cons.mpr ⟨y_chk_ok hX h yt_X1_takeRain, List.forall_mem_cons.mpr ⟨y_chk_ok hX h yt_X1_spadesOf, List.forall_mem_cons.mpr ⟨y_chk_ok hX h yt_X12_sumOf_5, List.forall_mem_cons.mpr ⟨y_chk_ok hX h yt_X9_areTurns, List.forall_mem_cons.mpr ⟨y_chk_ok hX h yt_X4_sumUp, List.forall_mem_cons.mpr ⟨y_chk_ok hX h yt_X8_append, List.forall_mem_cons.mpr ⟨y_chk_ok hX h yt_X12_isAtRest, List.forall_mem_cons.mpr ⟨y_chk_ok hX h yt_X1_withMudOrReeds, List.forall_mem_cons.mpr ⟨y_chk_ok hX h yt_X4_leastIn, List.forall_mem_cons.mpr ⟨y_chk_ok hX h yt_X4_beginOf, List.forall_mem_cons.mpr ⟨y_chk_ok hX h yt_X3_within, List.forall_mem_cons.mpr ⟨y_chk_ok hX h yt_X1_moveWater, List.forall_mem_cons.mpr ⟨y_chk_ok hX h yt_X1_raiseFields, List.forall_mem_cons.mpr ⟨y_chk_ok hX h yt_X1_harmOfAll_1, List.forall_mem_cons.mpr ⟨y_chk_ok hX h yt_X1_sink, List.forall_mem_cons.mpr ⟨y_chk_ok hX h yt_X1_spadesOf_1, List.forall_mem_cons.mpr ⟨y_chk_ok hX h yt_X7_agree, List.forall_mem_cons.mpr ⟨y_chk_ok hX h yt_X1_moveLoad, List.forall_mem_cons.mpr ⟨y_chk_ok hX h yt_X1_takeRain_1, List.forall_mem_cons.mpr ⟨y_chk_ok hX h yt_X1_muddiest, List.forall_mem_cons.mpr ⟨y_chk_ok hX h yt_X1_growReeds, List.forall_mem_cons.mpr ⟨y_chk_ok hX h yt_X1_moveWater_1, List.forall_mem_cons.mpr ⟨y_chk_ok hX h yt_X1_wetFields, List.forall_mem_cons.mpr ⟨y_chk_ok hX h yt_X1_moveLoad_1, List.forall_mem_cons.mpr ⟨y_chk_ok hX h yt_X1_growReeds_1, List.forall_mem_cons.mpr ⟨y_chk_ok hX h yt_X1_wetFields_1, List.forall_mem_cons.mpr ⟨y_chk_ok hX h yt_X1_begin_1, List.forall_mem_cons.mpr ⟨y_chk_ok hX h yt_X1_begin_5, List.forall_mem_cons.mpr ⟨y_chk_ok hX h yt_X3_readRound_6, List.forall_mem_cons.mpr ⟨y_chk_ok hX h yt_X1_begin, List.forall_mem_cons.mpr ⟨y_chk_ok hX h yt_X1_begin_2, List.forall_mem_cons.mpr ⟨y_chk_ok hX h yt_X1_begin_3, List.forall_mem_cons.mpr ⟨y_chk_ok hX h yt_X1_begin_4, List.forall_mem_cons.mpr ⟨y_chk_ok hX h yt_X6_tells, List.forall_mem_cons.mpr ⟨y_chk_ok hX h yt_X6_digAs, List.forall_mem_cons.mpr ⟨y_chk_ok hX h yt_X6_digAs_1, List.forall_mem_cons.mpr ⟨y_chk_ok hX h yt_X6_digAs_2, List.forall_mem_cons.mpr ⟨y_chk_ok hX h yt_X3_letter, List.forall_mem_cons.mpr ⟨y_chk_ok hX h yt_X6_tells_1, List.forall_mem_cons.mpr ⟨y_chk_ok hX h yt_X3_letter_1, List.forall_mem_cons.mpr ⟨y_chk_ok hX h yt_X0_readItem, List.forall_mem_cons.mpr ⟨y_chk_ok hX h yt_X0_readItem_1, List.forall_mem_cons.mpr ⟨y_chk_ok hX h yt_X0_readItem_2, List.forall_mem_cons.mpr ⟨y_chk_ok hX h yt_X0_readItem_3, h⟩⟩⟩⟩⟩⟩⟩⟩⟩⟩⟩⟩⟩⟩⟩⟩⟩⟩⟩⟩⟩⟩⟩⟩⟩⟩⟩⟩⟩⟩⟩⟩⟩⟩⟩⟩⟩⟩⟩⟩⟩⟩⟩⟩⟩⟩⟩⟩⟩⟩⟩⟩⟩⟩⟩⟩⟩⟩⟩⟩⟩⟩⟩⟩⟩⟩⟩⟩⟩⟩⟩⟩⟩⟩⟩⟩⟩⟩⟩⟩⟩⟩⟩⟩⟩⟩⟩⟩⟩⟩⟩⟩⟩⟩⟩⟩⟩
