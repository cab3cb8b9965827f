/-! measure, for each number of reaches: a sandwich. -/
def rh_X12_measure_0 : YCt := (283, [.inr (.inr (33, (0, 0), (0, 0))), .inl (0, 3), .inl ((-1), 19)], ([(48, 0, 272, .inl (0, 0))], []), [(33, 0, 0, 29, 29), (33, 0, 0, 29, 30), (33, 0, 0, 31, 31), (33, 0, 0, 33, 33), (33, 0, 0, 43, 43), (33, 0, 0, 44, 44), (42, 0, 0, 0, 7), (43, 0, 0, 0, 79), (48, 0, 0, 0, 159), (48, 0, 0, 0, 278), (48, 0, 0, 260, 271), (48, 0, 0, 273, 276), (49, 0, 0, 0, 278), (51, 0, 0, 0, 20)], [(none, [])], 100)
def rp_X12_measure_0 : YCut := (0, [some (.inr (.inr (33, (0, 0), (0, 0)))), some (.inl (0, 3)), some (.inl ((-1), 19)), none, none], [(48, 0, 272, .inl (0, 0))], [])
def rb_X12_measure_0 : YCut := (4, [some (.inr (.inr (33, (0, 0), (0, 0)))), some (.inl (0, 3)), some (.inl ((-1), 19)), none, none], [(48, 0, 272, .inl (0, 0))], [.inl 0, .inl 0])
def rB_X12_measure_0 : List YCut := [(37, [some (.inr (.inr (33, (0, 0), (0, 0)))), none, none, some (.inl (0, 0)), none], [(48, 0, 272, .inl (0, 0))], [.inl 1, .inr (.inl (false, 0))])]
def re_X12_measure_0 : YCut := (110, [some (.inr (.inr (33, (0, 0), (0, 0)))), none, none, none, none], [], [])
def rc_X12_measure_0 : YCut := (114, [some (.inr (.inr (33, (0, 0), (0, 0)))), none, none, none, none], [], [.inl 0])
def rw_X12_measure_0 : List YW := [(33, 0, 0, 29, 29), (33, 0, 0, 43, 43), (33, 0, 0, 44, 44), (42, 0, 0, 0, 7), (43, 0, 0, 0, 79), (48, 0, 0, 0, 159), (48, 0, 0, 260, 271), (48, 0, 0, 273, 276), (51, 0, 0, 0, 20)]
theorem rtB_X12_measure_0 : y_seg eL_2 rw_X12_measure_0 rw_X12_measure_0 rh_X12_measure_0.1 (rh_X12_measure_0.2.2.2.2.2 - 1) [] (rb_X12_measure_0 :: rB_X12_measure_0) [re_X12_measure_0] 4000 2 = true := by decide +kernel
theorem rtC_X12_measure_0 : y_seg eL_2 [] [] rh_X12_measure_0.1 (rh_X12_measure_0.2.2.2.2.2 - 1) rh_X12_measure_0.2.2.2.2.1 [rc_X12_measure_0] [] 4000 1 = true := by decide +kernel
theorem r_X12_measure_0 (s0 : LMem) : y_con (xR s0) rh_X12_measure_0 := y_leaf (pP := rp_X12_measure_0) (e_all x_X_cl e_hand) ⟨by decide +kernel, by decide +kernel, by decide +kernel, by decide +kernel⟩ ⟨rfl, rfl, rfl⟩ rtB_X12_measure_0 rtC_X12_measure_0
    (fun d bc bs L s Q hL h => by
    obtain ⟨L, rfl⟩ := y_sls_this hL
    refine qa_t1_W (cut := [4]) 3 ?_
    exact h)
    (fun d bc bs L s Q hL h => by
    obtain ⟨L, rfl⟩ := y_sls_this hL
    refine qa_t1_W (cut := [114]) 3 ?_
    exact h)
    ⟨rfl, rfl, by decide +kernel⟩ ⟨rfl, rfl, by decide +kernel⟩ ⟨by decide +kernel, by decide +kernel, by decide +kernel, by decide +kernel⟩ s0
def rh_X12_measure_1 : YCt := (283, [.inr (.inr (33, (0, 0), (0, 0))), .inl (0, 3), .inl ((-1), 19)], ([(48, 0, 272, .inl (1, 1))], []), [(33, 0, 0, 29, 29), (33, 0, 0, 29, 30), (33, 0, 0, 31, 31), (33, 0, 0, 33, 33), (33, 0, 0, 43, 43), (33, 0, 0, 44, 44), (42, 0, 0, 0, 7), (43, 0, 0, 0, 79), (48, 0, 0, 0, 159), (48, 0, 0, 0, 278), (48, 0, 0, 260, 271), (48, 0, 0, 273, 276), (49, 0, 0, 0, 278), (51, 0, 0, 0, 20)], [(none, [])], 100)
def rp_X12_measure_1 : YCut := (0, [some (.inr (.inr (33, (0, 0), (0, 0)))), some (.inl (0, 3)), some (.inl ((-1), 19)), none, none], [(48, 0, 272, .inl (1, 1))], [])
def rb_X12_measure_1 : YCut := (4, [some (.inr (.inr (33, (0, 0), (0, 0)))), some (.inl (0, 3)), some (.inl ((-1), 19)), none, none], [(48, 0, 272, .inl (1, 1))], [.inl 0, .inl 0])
def rB_X12_measure_1 : List YCut := [(37, [some (.inr (.inr (33, (0, 0), (0, 0)))), none, none, some (.inl (0, 1)), none], [(48, 0, 272, .inl (1, 1))], [.inl 1, .inr (.inl (false, 3))])]
def re_X12_measure_1 : YCut := (110, [some (.inr (.inr (33, (0, 0), (0, 0)))), none, none, none, none], [], [])
def rc_X12_measure_1 : YCut := (114, [some (.inr (.inr (33, (0, 0), (0, 0)))), none, none, none, none], [], [.inl 0])
def rw_X12_measure_1 : List YW := [(33, 0, 0, 29, 29), (33, 0, 0, 43, 43), (33, 0, 0, 44, 44), (42, 0, 0, 0, 7), (43, 0, 0, 0, 79), (48, 0, 0, 0, 159), (48, 0, 0, 260, 271), (48, 0, 0, 273, 276), (51, 0, 0, 0, 20)]
theorem rtB_X12_measure_1 : y_seg eL_2 rw_X12_measure_1 rw_X12_measure_1 rh_X12_measure_1.1 (rh_X12_measure_1.2.2.2.2.2 - 1) [] (rb_X12_measure_1 :: rB_X12_measure_1) [re_X12_measure_1] 4000 2 = true := by decide +kernel
theorem rtC_X12_measure_1 : y_seg eL_2 [] [] rh_X12_measure_1.1 (rh_X12_measure_1.2.2.2.2.2 - 1) rh_X12_measure_1.2.2.2.2.1 [rc_X12_measure_1] [] 4000 1 = true := by decide +kernel
theorem r_X12_measure_1 (s0 : LMem) : y_con (xR s0) rh_X12_measure_1 := y_leaf (pP := rp_X12_measure_1) (e_all x_X_cl e_hand) ⟨by decide +kernel, by decide +kernel, by decide +kernel, by decide +kernel⟩ ⟨rfl, rfl, rfl⟩ rtB_X12_measure_1 rtC_X12_measure_1
    (fun d bc bs L s Q hL h => by
    obtain ⟨L, rfl⟩ := y_sls_this hL
    refine qa_t1_W (cut := [4]) 3 ?_
    exact h)
    (fun d bc bs L s Q hL h => by
    obtain ⟨L, rfl⟩ := y_sls_this hL
    refine qa_t1_W (cut := [114]) 3 ?_
    exact h)
    ⟨rfl, rfl, by decide +kernel⟩ ⟨rfl, rfl, by decide +kernel⟩ ⟨by decide +kernel, by decide +kernel, by decide +kernel, by decide +kernel⟩ s0
def rh_X12_measure_2 : YCt := (283, [.inr (.inr (33, (0, 0), (0, 0))), .inl (0, 3), .inl ((-1), 19)], ([(48, 0, 272, .inl (2, 2))], []), [(33, 0, 0, 29, 29), (33, 0, 0, 29, 30), (33, 0, 0, 31, 31), (33, 0, 0, 33, 33), (33, 0, 0, 43, 43), (33, 0, 0, 44, 44), (42, 0, 0, 0, 7), (43, 0, 0, 0, 79), (48, 0, 0, 0, 159), (48, 0, 0, 0, 278), (48, 0, 0, 260, 271), (48, 0, 0, 273, 276), (49, 0, 0, 0, 278), (51, 0, 0, 0, 20)], [(none, [])], 100)
def rp_X12_measure_2 : YCut := (0, [some (.inr (.inr (33, (0, 0), (0, 0)))), some (.inl (0, 3)), some (.inl ((-1), 19)), none, none], [(48, 0, 272, .inl (2, 2))], [])
def rb_X12_measure_2 : YCut := (4, [some (.inr (.inr (33, (0, 0), (0, 0)))), some (.inl (0, 3)), some (.inl ((-1), 19)), none, none], [(48, 0, 272, .inl (2, 2))], [.inl 0, .inl 0])
def rB_X12_measure_2 : List YCut := [(37, [some (.inr (.inr (33, (0, 0), (0, 0)))), none, none, some (.inl (0, 2)), none], [(48, 0, 272, .inl (2, 2))], [.inl 1, .inr (.inl (false, 3))])]
def re_X12_measure_2 : YCut := (110, [some (.inr (.inr (33, (0, 0), (0, 0)))), none, none, none, none], [], [])
def rc_X12_measure_2 : YCut := (114, [some (.inr (.inr (33, (0, 0), (0, 0)))), none, none, none, none], [], [.inl 0])
def rw_X12_measure_2 : List YW := [(33, 0, 0, 29, 29), (33, 0, 0, 43, 43), (33, 0, 0, 44, 44), (42, 0, 0, 0, 7), (43, 0, 0, 0, 79), (48, 0, 0, 0, 159), (48, 0, 0, 260, 271), (48, 0, 0, 273, 276), (51, 0, 0, 0, 20)]
theorem rtB_X12_measure_2 : y_seg eL_2 rw_X12_measure_2 rw_X12_measure_2 rh_X12_measure_2.1 (rh_X12_measure_2.2.2.2.2.2 - 1) [] (rb_X12_measure_2 :: rB_X12_measure_2) [re_X12_measure_2] 4000 2 = true := by decide +kernel
theorem rtC_X12_measure_2 : y_seg eL_2 [] [] rh_X12_measure_2.1 (rh_X12_measure_2.2.2.2.2.2 - 1) rh_X12_measure_2.2.2.2.2.1 [rc_X12_measure_2] [] 4000 1 = true := by decide +kernel
theorem r_X12_measure_2 (s0 : LMem) : y_con (xR s0) rh_X12_measure_2 := y_leaf (pP := rp_X12_measure_2) (e_all x_X_cl e_hand) ⟨by decide +kernel, by decide +kernel, by decide +kernel, by decide +kernel⟩ ⟨rfl, rfl, rfl⟩ rtB_X12_measure_2 rtC_X12_measure_2
    (fun d bc bs L s Q hL h => by
    obtain ⟨L, rfl⟩ := y_sls_this hL
    refine qa_t1_W (cut := [4]) 3 ?_
    exact h)
    (fun d bc bs L s Q hL h => by
    obtain ⟨L, rfl⟩ := y_sls_this hL
    refine qa_t1_W (cut := [114]) 3 ?_
    exact h)
    ⟨rfl, rfl, by decide +kernel⟩ ⟨rfl, rfl, by decide +kernel⟩ ⟨by decide +kernel, by decide +kernel, by decide +kernel, by decide +kernel⟩ s0
def rh_X12_measure_3 : YCt := (283, [.inr (.inr (33, (0, 0), (0, 0))), .inl (0, 3), .inl ((-1), 19)], ([(48, 0, 272, .inl (3, 3))], []), [(33, 0, 0, 29, 29), (33, 0, 0, 29, 30), (33, 0, 0, 31, 31), (33, 0, 0, 33, 33), (33, 0, 0, 43, 43), (33, 0, 0, 44, 44), (42, 0, 0, 0, 7), (43, 0, 0, 0, 79), (48, 0, 0, 0, 159), (48, 0, 0, 0, 278), (48, 0, 0, 260, 271), (48, 0, 0, 273, 276), (49, 0, 0, 0, 278), (51, 0, 0, 0, 20)], [(none, [])], 100)
def rp_X12_measure_3 : YCut := (0, [some (.inr (.inr (33, (0, 0), (0, 0)))), some (.inl (0, 3)), some (.inl ((-1), 19)), none, none], [(48, 0, 272, .inl (3, 3))], [])
def rb_X12_measure_3 : YCut := (4, [some (.inr (.inr (33, (0, 0), (0, 0)))), some (.inl (0, 3)), some (.inl ((-1), 19)), none, none], [(48, 0, 272, .inl (3, 3))], [.inl 0, .inl 0])
def rB_X12_measure_3 : List YCut := [(37, [some (.inr (.inr (33, (0, 0), (0, 0)))), none, none, some (.inl (0, 3)), none], [(48, 0, 272, .inl (3, 3))], [.inl 1, .inr (.inl (false, 3))])]
def re_X12_measure_3 : YCut := (110, [some (.inr (.inr (33, (0, 0), (0, 0)))), none, none, none, none], [], [])
def rc_X12_measure_3 : YCut := (114, [some (.inr (.inr (33, (0, 0), (0, 0)))), none, none, none, none], [], [.inl 0])
def rw_X12_measure_3 : List YW := [(33, 0, 0, 29, 29), (33, 0, 0, 43, 43), (33, 0, 0, 44, 44), (42, 0, 0, 0, 7), (43, 0, 0, 0, 79), (48, 0, 0, 0, 159), (48, 0, 0, 260, 271), (48, 0, 0, 273, 276), (51, 0, 0, 0, 20)]
theorem rtB_X12_measure_3 : y_seg eL_2 rw_X12_measure_3 rw_X12_measure_3 rh_X12_measure_3.1 (rh_X12_measure_3.2.2.2.2.2 - 1) [] (rb_X12_measure_3 :: rB_X12_measure_3) [re_X12_measure_3] 4000 2 = true := by decide +kernel
theorem rtC_X12_measure_3 : y_seg eL_2 [] [] rh_X12_measure_3.1 (rh_X12_measure_3.2.2.2.2.2 - 1) rh_X12_measure_3.2.2.2.2.1 [rc_X12_measure_3] [] 4000 1 = true := by decide +kernel
theorem r_X12_measure_3 (s0 : LMem) : y_con (xR s0) rh_X12_measure_3 := y_leaf (pP := rp_X12_measure_3) (e_all x_X_cl e_hand) ⟨by decide +kernel, by decide +kernel, by decide +kernel, by decide +kernel⟩ ⟨rfl, rfl, rfl⟩ rtB_X12_measure_3 rtC_X12_measure_3
    (fun d bc bs L s Q hL h => by
    obtain ⟨L, rfl⟩ := y_sls_this hL
    refine qa_t1_W (cut := [4]) 3 ?_
    exact h)
    (fun d bc bs L s Q hL h => by
    obtain ⟨L, rfl⟩ := y_sls_this hL
    refine qa_t1_W (cut := [114]) 3 ?_
    exact h)
    ⟨rfl, rfl, by decide +kernel⟩ ⟨rfl, rfl, by decide +kernel⟩ ⟨by decide +kernel, by decide +kernel, by decide +kernel, by decide +kernel⟩ s0
def rh_X12_measure_4 : YCt := (283, [.inr (.inr (33, (0, 0), (0, 0))), .inl (0, 3), .inl ((-1), 19)], ([(48, 0, 272, .inl (4, 4))], []), [(33, 0, 0, 29, 29), (33, 0, 0, 29, 30), (33, 0, 0, 31, 31), (33, 0, 0, 33, 33), (33, 0, 0, 43, 43), (33, 0, 0, 44, 44), (42, 0, 0, 0, 7), (43, 0, 0, 0, 79), (48, 0, 0, 0, 159), (48, 0, 0, 0, 278), (48, 0, 0, 260, 271), (48, 0, 0, 273, 276), (49, 0, 0, 0, 278), (51, 0, 0, 0, 20)], [(none, [])], 100)
def rp_X12_measure_4 : YCut := (0, [some (.inr (.inr (33, (0, 0), (0, 0)))), some (.inl (0, 3)), some (.inl ((-1), 19)), none, none], [(48, 0, 272, .inl (4, 4))], [])
def rb_X12_measure_4 : YCut := (4, [some (.inr (.inr (33, (0, 0), (0, 0)))), some (.inl (0, 3)), some (.inl ((-1), 19)), none, none], [(48, 0, 272, .inl (4, 4))], [.inl 0, .inl 0])
def rB_X12_measure_4 : List YCut := [(37, [some (.inr (.inr (33, (0, 0), (0, 0)))), none, none, some (.inl (0, 4)), none], [(48, 0, 272, .inl (4, 4))], [.inl 1, .inr (.inl (false, 3))])]
def re_X12_measure_4 : YCut := (110, [some (.inr (.inr (33, (0, 0), (0, 0)))), none, none, none, none], [], [])
def rc_X12_measure_4 : YCut := (114, [some (.inr (.inr (33, (0, 0), (0, 0)))), none, none, none, none], [], [.inl 0])
def rw_X12_measure_4 : List YW := [(33, 0, 0, 29, 29), (33, 0, 0, 43, 43), (33, 0, 0, 44, 44), (42, 0, 0, 0, 7), (43, 0, 0, 0, 79), (48, 0, 0, 0, 159), (48, 0, 0, 260, 271), (48, 0, 0, 273, 276), (51, 0, 0, 0, 20)]
theorem rtB_X12_measure_4 : y_seg eL_2 rw_X12_measure_4 rw_X12_measure_4 rh_X12_measure_4.1 (rh_X12_measure_4.2.2.2.2.2 - 1) [] (rb_X12_measure_4 :: rB_X12_measure_4) [re_X12_measure_4] 4000 2 = true := by decide +kernel
theorem rtC_X12_measure_4 : y_seg eL_2 [] [] rh_X12_measure_4.1 (rh_X12_measure_4.2.2.2.2.2 - 1) rh_X12_measure_4.2.2.2.2.1 [rc_X12_measure_4] [] 4000 1 = true := by decide +kernel
theorem r_X12_measure_4 (s0 : LMem) : y_con (xR s0) rh_X12_measure_4 := y_leaf (pP := rp_X12_measure_4) (e_all x_X_cl e_hand) ⟨by decide +kernel, by decide +kernel, by decide +kernel, by decide +kernel⟩ ⟨rfl, rfl, rfl⟩ rtB_X12_measure_4 rtC_X12_measure_4
    (fun d bc bs L s Q hL h => by
    obtain ⟨L, rfl⟩ := y_sls_this hL
    refine qa_t1_W (cut := [4]) 3 ?_
    exact h)
    (fun d bc bs L s Q hL h => by
    obtain ⟨L, rfl⟩ := y_sls_this hL
    refine qa_t1_W (cut := [114]) 3 ?_
    exact h)
    ⟨rfl, rfl, by decide +kernel⟩ ⟨rfl, rfl, by decide +kernel⟩ ⟨by decide +kernel, by decide +kernel, by decide +kernel, by decide +kernel⟩ s0
def rh_X12_measure_5 : YCt := (283, [.inr (.inr (33, (0, 0), (0, 0))), .inl (0, 3), .inl ((-1), 19)], ([(48, 0, 272, .inl (5, 5))], []), [(33, 0, 0, 29, 29), (33, 0, 0, 29, 30), (33, 0, 0, 31, 31), (33, 0, 0, 33, 33), (33, 0, 0, 43, 43), (33, 0, 0, 44, 44), (42, 0, 0, 0, 7), (43, 0, 0, 0, 79), (48, 0, 0, 0, 159), (48, 0, 0, 0, 278), (48, 0, 0, 260, 271), (48, 0, 0, 273, 276), (49, 0, 0, 0, 278), (51, 0, 0, 0, 20)], [(none, [])], 100)
def rp_X12_measure_5 : YCut := (0, [some (.inr (.inr (33, (0, 0), (0, 0)))), some (.inl (0, 3)), some (.inl ((-1), 19)), none, none], [(48, 0, 272, .inl (5, 5))], [])
def rb_X12_measure_5 : YCut := (4, [some (.inr (.inr (33, (0, 0), (0, 0)))), some (.inl (0, 3)), some (.inl ((-1), 19)), none, none], [(48, 0, 272, .inl (5, 5))], [.inl 0, .inl 0])
def rB_X12_measure_5 : List YCut := [(37, [some (.inr (.inr (33, (0, 0), (0, 0)))), none, none, some (.inl (0, 5)), none], [(48, 0, 272, .inl (5, 5))], [.inl 1, .inr (.inl (false, 3))])]
def re_X12_measure_5 : YCut := (110, [some (.inr (.inr (33, (0, 0), (0, 0)))), none, none, none, none], [], [])
def rc_X12_measure_5 : YCut := (114, [some (.inr (.inr (33, (0, 0), (0, 0)))), none, none, none, none], [], [.inl 0])
def rw_X12_measure_5 : List YW := [(33, 0, 0, 29, 29), (33, 0, 0, 43, 43), (33, 0, 0, 44, 44), (42, 0, 0, 0, 7), (43, 0, 0, 0, 79), (48, 0, 0, 0, 159), (48, 0, 0, 260, 271), (48, 0, 0, 273, 276), (51, 0, 0, 0, 20)]
theorem rtB_X12_measure_5 : y_seg eL_2 rw_X12_measure_5 rw_X12_measure_5 rh_X12_measure_5.1 (rh_X12_measure_5.2.2.2.2.2 - 1) [] (rb_X12_measure_5 :: rB_X12_measure_5) [re_X12_measure_5] 4000 2 = true := by decide +kernel
theorem rtC_X12_measure_5 : y_seg eL_2 [] [] rh_X12_measure_5.1 (rh_X12_measure_5.2.2.2.2.2 - 1) rh_X12_measure_5.2.2.2.2.1 [rc_X12_measure_5] [] 4000 1 = true := by decide +kernel
theorem r_X12_measure_5 (s0 : LMem) : y_con (xR s0) rh_X12_measure_5 := y_leaf (pP := rp_X12_measure_5) (e_all x_X_cl e_hand) ⟨by decide +kernel, by decide +kernel, by decide +kernel, by decide +kernel⟩ ⟨rfl, rfl, rfl⟩ rtB_X12_measure_5 rtC_X12_measure_5
    (fun d bc bs L s Q hL h => by
    obtain ⟨L, rfl⟩ := y_sls_this hL
    refine qa_t1_W (cut := [4]) 3 ?_
    exact h)
    (fun d bc bs L s Q hL h => by
    obtain ⟨L, rfl⟩ := y_sls_this hL
    refine qa_t1_W (cut := [114]) 3 ?_
    exact h)
    ⟨rfl, rfl, by decide +kernel⟩ ⟨rfl, rfl, by decide +kernel⟩ ⟨by decide +kernel, by decide +kernel, by decide +kernel, by decide +kernel⟩ s0
def rh_X12_measure_6 : YCt := (283, [.inr (.inr (33, (0, 0), (0, 0))), .inl (0, 3), .inl ((-1), 19)], ([(48, 0, 272, .inl (6, 6))], []), [(33, 0, 0, 29, 29), (33, 0, 0, 29, 30), (33, 0, 0, 31, 31), (33, 0, 0, 33, 33), (33, 0, 0, 43, 43), (33, 0, 0, 44, 44), (42, 0, 0, 0, 7), (43, 0, 0, 0, 79), (48, 0, 0, 0, 159), (48, 0, 0, 0, 278), (48, 0, 0, 260, 271), (48, 0, 0, 273, 276), (49, 0, 0, 0, 278), (51, 0, 0, 0, 20)], [(none, [])], 100)
def rp_X12_measure_6 : YCut := (0, [some (.inr (.inr (33, (0, 0), (0, 0)))), some (.inl (0, 3)), some (.inl ((-1), 19)), none, none], [(48, 0, 272, .inl (6, 6))], [])
def rb_X12_measure_6 : YCut := (4, [some (.inr (.inr (33, (0, 0), (0, 0)))), some (.inl (0, 3)), some (.inl ((-1), 19)), none, none], [(48, 0, 272, .inl (6, 6))], [.inl 0, .inl 0])
def rB_X12_measure_6 : List YCut := [(37, [some (.inr (.inr (33, (0, 0), (0, 0)))), none, none, some (.inl (0, 6)), none], [(48, 0, 272, .inl (6, 6))], [.inl 1, .inr (.inl (false, 3))])]
def re_X12_measure_6 : YCut := (110, [some (.inr (.inr (33, (0, 0), (0, 0)))), none, none, none, none], [], [])
def rc_X12_measure_6 : YCut := (114, [some (.inr (.inr (33, (0, 0), (0, 0)))), none, none, none, none], [], [.inl 0])
def rw_X12_measure_6 : List YW := [(33, 0, 0, 29, 29), (33, 0, 0, 43, 43), (33, 0, 0, 44, 44), (42, 0, 0, 0, 7), (43, 0, 0, 0, 79), (48, 0, 0, 0, 159), (48, 0, 0, 260, 271), (48, 0, 0, 273, 276), (51, 0, 0, 0, 20)]
theorem rtB_X12_measure_6 : y_seg eL_2 rw_X12_measure_6 rw_X12_measure_6 rh_X12_measure_6.1 (rh_X12_measure_6.2.2.2.2.2 - 1) [] (rb_X12_measure_6 :: rB_X12_measure_6) [re_X12_measure_6] 4000 2 = true := by decide +kernel
theorem rtC_X12_measure_6 : y_seg eL_2 [] [] rh_X12_measure_6.1 (rh_X12_measure_6.2.2.2.2.2 - 1) rh_X12_measure_6.2.2.2.2.1 [rc_X12_measure_6] [] 4000 1 = true := by decide +kernel
theorem r_X12_measure_6 (s0 : LMem) : y_con (xR s0) rh_X12_measure_6 := y_leaf (pP := rp_X12_measure_6) (e_all x_X_cl e_hand) ⟨by decide +kernel, by decide +kernel, by decide +kernel, by decide +kernel⟩ ⟨rfl, rfl, rfl⟩ rtB_X12_measure_6 rtC_X12_measure_6
    (fun d bc bs L s Q hL h => by
    obtain ⟨L, rfl⟩ := y_sls_this hL
    refine qa_t1_W (cut := [4]) 3 ?_
    exact h)
    (fun d bc bs L s Q hL h => by
    obtain ⟨L, rfl⟩ := y_sls_this hL
    refine qa_t1_W (cut := [114]) 3 ?_
    exact h)
    ⟨rfl, rfl, by decide +kernel⟩ ⟨rfl, rfl, by decide +kernel⟩ ⟨by decide +kernel, by decide +kernel, by decide +kernel, by decide +kernel⟩ s0
def rh_X12_measure_7 : YCt := (283, [.inr (.inr (33, (0, 0), (0, 0))), .inl (0, 3), .inl ((-1), 19)], ([(48, 0, 272, .inl (7, 7))], []), [(33, 0, 0, 29, 29), (33, 0, 0, 29, 30), (33, 0, 0, 31, 31), (33, 0, 0, 33, 33), (33, 0, 0, 43, 43), (33, 0, 0, 44, 44), (42, 0, 0, 0, 7), (43, 0, 0, 0, 79), (48, 0, 0, 0, 159), (48, 0, 0, 0, 278), (48, 0, 0, 260, 271), (48, 0, 0, 273, 276), (49, 0, 0, 0, 278), (51, 0, 0, 0, 20)], [(none, [])], 100)
def rp_X12_measure_7 : YCut := (0, [some (.inr (.inr (33, (0, 0), (0, 0)))), some (.inl (0, 3)), some (.inl ((-1), 19)), none, none], [(48, 0, 272, .inl (7, 7))], [])
def rb_X12_measure_7 : YCut := (4, [some (.inr (.inr (33, (0, 0), (0, 0)))), some (.inl (0, 3)), some (.inl ((-1), 19)), none, none], [(48, 0, 272, .inl (7, 7))], [.inl 0, .inl 0])
def rB_X12_measure_7 : List YCut := [(37, [some (.inr (.inr (33, (0, 0), (0, 0)))), none, none, some (.inl (0, 7)), none], [(48, 0, 272, .inl (7, 7))], [.inl 1, .inr (.inl (false, 3))])]
def re_X12_measure_7 : YCut := (110, [some (.inr (.inr (33, (0, 0), (0, 0)))), none, none, none, none], [], [])
def rc_X12_measure_7 : YCut := (114, [some (.inr (.inr (33, (0, 0), (0, 0)))), none, none, none, none], [], [.inl 0])
def rw_X12_measure_7 : List YW := [(33, 0, 0, 29, 29), (33, 0, 0, 43, 43), (33, 0, 0, 44, 44), (42, 0, 0, 0, 7), (43, 0, 0, 0, 79), (48, 0, 0, 0, 159), (48, 0, 0, 260, 271), (48, 0, 0, 273, 276), (51, 0, 0, 0, 20)]
theorem rtB_X12_measure_7 : y_seg eL_2 rw_X12_measure_7 rw_X12_measure_7 rh_X12_measure_7.1 (rh_X12_measure_7.2.2.2.2.2 - 1) [] (rb_X12_measure_7 :: rB_X12_measure_7) [re_X12_measure_7] 4000 2 = true := by decide +kernel
theorem rtC_X12_measure_7 : y_seg eL_2 [] [] rh_X12_measure_7.1 (rh_X12_measure_7.2.2.2.2.2 - 1) rh_X12_measure_7.2.2.2.2.1 [rc_X12_measure_7] [] 4000 1 = true := by decide +kernel
theorem r_X12_measure_7 (s0 : LMem) : y_con (xR s0) rh_X12_measure_7 := y_leaf (pP := rp_X12_measure_7) (e_all x_X_cl e_hand) ⟨by decide +kernel, by decide +kernel, by decide +kernel, by decide +kernel⟩ ⟨rfl, rfl, rfl⟩ rtB_X12_measure_7 rtC_X12_measure_7
    (fun d bc bs L s Q hL h => by
    obtain ⟨L, rfl⟩ := y_sls_this hL
    refine qa_t1_W (cut := [4]) 3 ?_
    exact h)
    (fun d bc bs L s Q hL h => by
    obtain ⟨L, rfl⟩ := y_sls_this hL
    refine qa_t1_W (cut := [114]) 3 ?_
    exact h)
    ⟨rfl, rfl, by decide +kernel⟩ ⟨rfl, rfl, by decide +kernel⟩ ⟨by decide +kernel, by decide +kernel, by decide +kernel, by decide +kernel⟩ s0
def rh_X12_measure_8 : YCt := (283, [.inr (.inr (33, (0, 0), (0, 0))), .inl (0, 3), .inl ((-1), 19)], ([(48, 0, 272, .inl (8, 8))], []), [(33, 0, 0, 29, 29), (33, 0, 0, 29, 30), (33, 0, 0, 31, 31), (33, 0, 0, 33, 33), (33, 0, 0, 43, 43), (33, 0, 0, 44, 44), (42, 0, 0, 0, 7), (43, 0, 0, 0, 79), (48, 0, 0, 0, 159), (48, 0, 0, 0, 278), (48, 0, 0, 260, 271), (48, 0, 0, 273, 276), (49, 0, 0, 0, 278), (51, 0, 0, 0, 20)], [(none, [])], 100)
def rp_X12_measure_8 : YCut := (0, [some (.inr (.inr (33, (0, 0), (0, 0)))), some (.inl (0, 3)), some (.inl ((-1), 19)), none, none], [(48, 0, 272, .inl (8, 8))], [])
def rb_X12_measure_8 : YCut := (4, [some (.inr (.inr (33, (0, 0), (0, 0)))), some (.inl (0, 3)), some (.inl ((-1), 19)), none, none], [(48, 0, 272, .inl (8, 8))], [.inl 0, .inl 0])
def rB_X12_measure_8 : List YCut := [(37, [some (.inr (.inr (33, (0, 0), (0, 0)))), none, none, some (.inl (0, 8)), none], [(48, 0, 272, .inl (8, 8))], [.inl 1, .inr (.inl (false, 3))])]
def re_X12_measure_8 : YCut := (110, [some (.inr (.inr (33, (0, 0), (0, 0)))), none, none, none, none], [], [])
def rc_X12_measure_8 : YCut := (114, [some (.inr (.inr (33, (0, 0), (0, 0)))), none, none, none, none], [], [.inl 0])
def rw_X12_measure_8 : List YW := [(33, 0, 0, 29, 29), (33, 0, 0, 43, 43), (33, 0, 0, 44, 44), (42, 0, 0, 0, 7), (43, 0, 0, 0, 79), (48, 0, 0, 0, 159), (48, 0, 0, 260, 271), (48, 0, 0, 273, 276), (51, 0, 0, 0, 20)]
theorem rtB_X12_measure_8 : y_seg eL_2 rw_X12_measure_8 rw_X12_measure_8 rh_X12_measure_8.1 (rh_X12_measure_8.2.2.2.2.2 - 1) [] (rb_X12_measure_8 :: rB_X12_measure_8) [re_X12_measure_8] 4000 2 = true := by decide +kernel
theorem rtC_X12_measure_8 : y_seg eL_2 [] [] rh_X12_measure_8.1 (rh_X12_measure_8.2.2.2.2.2 - 1) rh_X12_measure_8.2.2.2.2.1 [rc_X12_measure_8] [] 4000 1 = true := by decide +kernel
theorem r_X12_measure_8 (s0 : LMem) : y_con (xR s0) rh_X12_measure_8 := y_leaf (pP := rp_X12_measure_8) (e_all x_X_cl e_hand) ⟨by decide +kernel, by decide +kernel, by decide +kernel, by decide +kernel⟩ ⟨rfl, rfl, rfl⟩ rtB_X12_measure_8 rtC_X12_measure_8
    (fun d bc bs L s Q hL h => by
    obtain ⟨L, rfl⟩ := y_sls_this hL
    refine qa_t1_W (cut := [4]) 3 ?_
    exact h)
    (fun d bc bs L s Q hL h => by
    obtain ⟨L, rfl⟩ := y_sls_this hL
    refine qa_t1_W (cut := [114]) 3 ?_
    exact h)
    ⟨rfl, rfl, by decide +kernel⟩ ⟨rfl, rfl, by decide +kernel⟩ ⟨by decide +kernel, by decide +kernel, by decide +kernel, by decide +kernel⟩ s0
def rh_X12_measure_9 : YCt := (283, [.inr (.inr (33, (0, 0), (0, 0))), .inl (0, 3), .inl ((-1), 19)], ([(48, 0, 272, .inl (9, 9))], []), [(33, 0, 0, 29, 29), (33, 0, 0, 29, 30), (33, 0, 0, 31, 31), (33, 0, 0, 33, 33), (33, 0, 0, 43, 43), (33, 0, 0, 44, 44), (42, 0, 0, 0, 7), (43, 0, 0, 0, 79), (48, 0, 0, 0, 159), (48, 0, 0, 0, 278), (48, 0, 0, 260, 271), (48, 0, 0, 273, 276), (49, 0, 0, 0, 278), (51, 0, 0, 0, 20)], [(none, [])], 100)
def rp_X12_measure_9 : YCut := (0, [some (.inr (.inr (33, (0, 0), (0, 0)))), some (.inl (0, 3)), some (.inl ((-1), 19)), none, none], [(48, 0, 272, .inl (9, 9))], [])
def rb_X12_measure_9 : YCut := (4, [some (.inr (.inr (33, (0, 0), (0, 0)))), some (.inl (0, 3)), some (.inl ((-1), 19)), none, none], [(48, 0, 272, .inl (9, 9))], [.inl 0, .inl 0])
def rB_X12_measure_9 : List YCut := [(37, [some (.inr (.inr (33, (0, 0), (0, 0)))), none, none, some (.inl (0, 9)), none], [(48, 0, 272, .inl (9, 9))], [.inl 1, .inr (.inl (false, 3))])]
def re_X12_measure_9 : YCut := (110, [some (.inr (.inr (33, (0, 0), (0, 0)))), none, none, none, none], [], [])
def rc_X12_measure_9 : YCut := (114, [some (.inr (.inr (33, (0, 0), (0, 0)))), none, none, none, none], [], [.inl 0])
def rw_X12_measure_9 : List YW := [(33, 0, 0, 29, 29), (33, 0, 0, 43, 43), (33, 0, 0, 44, 44), (42, 0, 0, 0, 7), (43, 0, 0, 0, 79), (48, 0, 0, 0, 159), (48, 0, 0, 260, 271), (48, 0, 0, 273, 276), (51, 0, 0, 0, 20)]
theorem rtB_X12_measure_9 : y_seg eL_2 rw_X12_measure_9 rw_X12_measure_9 rh_X12_measure_9.1 (rh_X12_measure_9.2.2.2.2.2 - 1) [] (rb_X12_measure_9 :: rB_X12_measure_9) [re_X12_measure_9] 4000 2 = true := by decide +kernel
theorem rtC_X12_measure_9 : y_seg eL_2 [] [] rh_X12_measure_9.1 (rh_X12_measure_9.2.2.2.2.2 - 1) rh_X12_measure_9.2.2.2.2.1 [rc_X12_measure_9] [] 4000 1 = true := by decide +kernel
theorem r_X12_measure_9 (s0 : LMem) : y_con (xR s0) rh_X12_measure_9 := y_leaf (pP := rp_X12_measure_9) (e_all x_X_cl e_hand) ⟨by decide +kernel, by decide +kernel, by decide +kernel, by decide +kernel⟩ ⟨rfl, rfl, rfl⟩ rtB_X12_measure_9 rtC_X12_measure_9
    (fun d bc bs L s Q hL h => by
    obtain ⟨L, rfl⟩ := y_sls_this hL
    refine qa_t1_W (cut := [4]) 3 ?_
    exact h)
    (fun d bc bs L s Q hL h => by
    obtain ⟨L, rfl⟩ := y_sls_this hL
    refine qa_t1_W (cut := [114]) 3 ?_
    exact h)
    ⟨rfl, rfl, by decide +kernel⟩ ⟨rfl, rfl, by decide +kernel⟩ ⟨by decide +kernel, by decide +kernel, by decide +kernel, by decide +kernel⟩ s0
def rh_X12_measure_10 : YCt := (283, [.inr (.inr (33, (0, 0), (0, 0))), .inl (0, 3), .inl ((-1), 19)], ([(48, 0, 272, .inl (10, 10))], []), [(33, 0, 0, 29, 29), (33, 0, 0, 29, 30), (33, 0, 0, 31, 31), (33, 0, 0, 33, 33), (33, 0, 0, 43, 43), (33, 0, 0, 44, 44), (42, 0, 0, 0, 7), (43, 0, 0, 0, 79), (48, 0, 0, 0, 159), (48, 0, 0, 0, 278), (48, 0, 0, 260, 271), (48, 0, 0, 273, 276), (49, 0, 0, 0, 278), (51, 0, 0, 0, 20)], [(none, [])], 100)
def rp_X12_measure_10 : YCut := (0, [some (.inr (.inr (33, (0, 0), (0, 0)))), some (.inl (0, 3)), some (.inl ((-1), 19)), none, none], [(48, 0, 272, .inl (10, 10))], [])
def rb_X12_measure_10 : YCut := (4, [some (.inr (.inr (33, (0, 0), (0, 0)))), some (.inl (0, 3)), some (.inl ((-1), 19)), none, none], [(48, 0, 272, .inl (10, 10))], [.inl 0, .inl 0])
def rB_X12_measure_10 : List YCut := [(37, [some (.inr (.inr (33, (0, 0), (0, 0)))), none, none, some (.inl (0, 10)), none], [(48, 0, 272, .inl (10, 10))], [.inl 1, .inr (.inl (false, 3))])]
def re_X12_measure_10 : YCut := (110, [some (.inr (.inr (33, (0, 0), (0, 0)))), none, none, none, none], [], [])
def rc_X12_measure_10 : YCut := (114, [some (.inr (.inr (33, (0, 0), (0, 0)))), none, none, none, none], [], [.inl 0])
def rw_X12_measure_10 : List YW := [(33, 0, 0, 29, 29), (33, 0, 0, 43, 43), (33, 0, 0, 44, 44), (42, 0, 0, 0, 7), (43, 0, 0, 0, 79), (48, 0, 0, 0, 159), (48, 0, 0, 260, 271), (48, 0, 0, 273, 276), (51, 0, 0, 0, 20)]
theorem rtB_X12_measure_10 : y_seg eL_2 rw_X12_measure_10 rw_X12_measure_10 rh_X12_measure_10.1 (rh_X12_measure_10.2.2.2.2.2 - 1) [] (rb_X12_measure_10 :: rB_X12_measure_10) [re_X12_measure_10] 4000 2 = true := by decide +kernel
theorem rtC_X12_measure_10 : y_seg eL_2 [] [] rh_X12_measure_10.1 (rh_X12_measure_10.2.2.2.2.2 - 1) rh_X12_measure_10.2.2.2.2.1 [rc_X12_measure_10] [] 4000 1 = true := by decide +kernel
theorem r_X12_measure_10 (s0 : LMem) : y_con (xR s0) rh_X12_measure_10 := y_leaf (pP := rp_X12_measure_10) (e_all x_X_cl e_hand) ⟨by decide +kernel, by decide +kernel, by decide +kernel, by decide +kernel⟩ ⟨rfl, rfl, rfl⟩ rtB_X12_measure_10 rtC_X12_measure_10
    (fun d bc bs L s Q hL h => by
    obtain ⟨L, rfl⟩ := y_sls_this hL
    refine qa_t1_W (cut := [4]) 3 ?_
    exact h)
    (fun d bc bs L s Q hL h => by
    obtain ⟨L, rfl⟩ := y_sls_this hL
    refine qa_t1_W (cut := [114]) 3 ?_
    exact h)
    ⟨rfl, rfl, by decide +kernel⟩ ⟨rfl, rfl, by decide +kernel⟩ ⟨by decide +kernel, by decide +kernel, by decide +kernel, by decide +kernel⟩ s0
def rh_X12_measure_11 : YCt := (283, [.inr (.inr (33, (0, 0), (0, 0))), .inl (0, 3), .inl ((-1), 19)], ([(48, 0, 272, .inl (11, 11))], []), [(33, 0, 0, 29, 29), (33, 0, 0, 29, 30), (33, 0, 0, 31, 31), (33, 0, 0, 33, 33), (33, 0, 0, 43, 43), (33, 0, 0, 44, 44), (42, 0, 0, 0, 7), (43, 0, 0, 0, 79), (48, 0, 0, 0, 159), (48, 0, 0, 0, 278), (48, 0, 0, 260, 271), (48, 0, 0, 273, 276), (49, 0, 0, 0, 278), (51, 0, 0, 0, 20)], [(none, [])], 100)
def rp_X12_measure_11 : YCut := (0, [some (.inr (.inr (33, (0, 0), (0, 0)))), some (.inl (0, 3)), some (.inl ((-1), 19)), none, none], [(48, 0, 272, .inl (11, 11))], [])
def rb_X12_measure_11 : YCut := (4, [some (.inr (.inr (33, (0, 0), (0, 0)))), some (.inl (0, 3)), some (.inl ((-1), 19)), none, none], [(48, 0, 272, .inl (11, 11))], [.inl 0, .inl 0])
def rB_X12_measure_11 : List YCut := [(37, [some (.inr (.inr (33, (0, 0), (0, 0)))), none, none, some (.inl (0, 11)), none], [(48, 0, 272, .inl (11, 11))], [.inl 1, .inr (.inl (false, 3))])]
def re_X12_measure_11 : YCut := (110, [some (.inr (.inr (33, (0, 0), (0, 0)))), none, none, none, none], [], [])
def rc_X12_measure_11 : YCut := (114, [some (.inr (.inr (33, (0, 0), (0, 0)))), none, none, none, none], [], [.inl 0])
def rw_X12_measure_11 : List YW := [(33, 0, 0, 29, 29), (33, 0, 0, 43, 43), (33, 0, 0, 44, 44), (42, 0, 0, 0, 7), (43, 0, 0, 0, 79), (48, 0, 0, 0, 159), (48, 0, 0, 260, 271), (48, 0, 0, 273, 276), (51, 0, 0, 0, 20)]
theorem rtB_X12_measure_11 : y_seg eL_2 rw_X12_measure_11 rw_X12_measure_11 rh_X12_measure_11.1 (rh_X12_measure_11.2.2.2.2.2 - 1) [] (rb_X12_measure_11 :: rB_X12_measure_11) [re_X12_measure_11] 4000 2 = true := by decide +kernel
theorem rtC_X12_measure_11 : y_seg eL_2 [] [] rh_X12_measure_11.1 (rh_X12_measure_11.2.2.2.2.2 - 1) rh_X12_measure_11.2.2.2.2.1 [rc_X12_measure_11] [] 4000 1 = true := by decide +kernel
theorem r_X12_measure_11 (s0 : LMem) : y_con (xR s0) rh_X12_measure_11 := y_leaf (pP := rp_X12_measure_11) (e_all x_X_cl e_hand) ⟨by decide +kernel, by decide +kernel, by decide +kernel, by decide +kernel⟩ ⟨rfl, rfl, rfl⟩ rtB_X12_measure_11 rtC_X12_measure_11
    (fun d bc bs L s Q hL h => by
    obtain ⟨L, rfl⟩ := y_sls_this hL
    refine qa_t1_W (cut := [4]) 3 ?_
    exact h)
    (fun d bc bs L s Q hL h => by
    obtain ⟨L, rfl⟩ := y_sls_this hL
    refine qa_t1_W (cut := [114]) 3 ?_
    exact h)
    ⟨rfl, rfl, by decide +kernel⟩ ⟨rfl, rfl, by decide +kernel⟩ ⟨by decide +kernel, by decide +kernel, by decide +kernel, by decide +kernel⟩ s0
def rh_X12_measure_12 : YCt := (283, [.inr (.inr (33, (0, 0), (0, 0))), .inl (0, 3), .inl ((-1), 19)], ([(48, 0, 272, .inl (12, 12))], []), [(33, 0, 0, 29, 29), (33, 0, 0, 29, 30), (33, 0, 0, 31, 31), (33, 0, 0, 33, 33), (33, 0, 0, 43, 43), (33, 0, 0, 44, 44), (42, 0, 0, 0, 7), (43, 0, 0, 0, 79), (48, 0, 0, 0, 159), (48, 0, 0, 0, 278), (48, 0, 0, 260, 271), (48, 0, 0, 273, 276), (49, 0, 0, 0, 278), (51, 0, 0, 0, 20)], [(none, [])], 100)
def rp_X12_measure_12 : YCut := (0, [some (.inr (.inr (33, (0, 0), (0, 0)))), some (.inl (0, 3)), some (.inl ((-1), 19)), none, none], [(48, 0, 272, .inl (12, 12))], [])
def rb_X12_measure_12 : YCut := (4, [some (.inr (.inr (33, (0, 0), (0, 0)))), some (.inl (0, 3)), some (.inl ((-1), 19)), none, none], [(48, 0, 272, .inl (12, 12))], [.inl 0, .inl 0])
def rB_X12_measure_12 : List YCut := [(37, [some (.inr (.inr (33, (0, 0), (0, 0)))), none, none, some (.inl (0, 12)), none], [(48, 0, 272, .inl (12, 12))], [.inl 1, .inr (.inl (false, 3))])]
def re_X12_measure_12 : YCut := (110, [some (.inr (.inr (33, (0, 0), (0, 0)))), none, none, none, none], [], [])
def rc_X12_measure_12 : YCut := (114, [some (.inr (.inr (33, (0, 0), (0, 0)))), none, none, none, none], [], [.inl 0])
def rw_X12_measure_12 : List YW := [(33, 0, 0, 29, 29), (33, 0, 0, 43, 43), (33, 0, 0, 44, 44), (42, 0, 0, 0, 7), (43, 0, 0, 0, 79), (48, 0, 0, 0, 159), (48, 0, 0, 260, 271), (48, 0, 0, 273, 276), (51, 0, 0, 0, 20)]
theorem rtB_X12_measure_12 : y_seg eL_2 rw_X12_measure_12 rw_X12_measure_12 rh_X12_measure_12.1 (rh_X12_measure_12.2.2.2.2.2 - 1) [] (rb_X12_measure_12 :: rB_X12_measure_12) [re_X12_measure_12] 4000 2 = true := by decide +kernel
theorem rtC_X12_measure_12 : y_seg eL_2 [] [] rh_X12_measure_12.1 (rh_X12_measure_12.2.2.2.2.2 - 1) rh_X12_measure_12.2.2.2.2.1 [rc_X12_measure_12] [] 4000 1 = true := by decide +kernel
theorem r_X12_measure_12 (s0 : LMem) : y_con (xR s0) rh_X12_measure_12 := y_leaf (pP := rp_X12_measure_12) (e_all x_X_cl e_hand) ⟨by decide +kernel, by decide +kernel, by decide +kernel, by decide +kernel⟩ ⟨rfl, rfl, rfl⟩ rtB_X12_measure_12 rtC_X12_measure_12
    (fun d bc bs L s Q hL h => by
    obtain ⟨L, rfl⟩ := y_sls_this hL
    refine qa_t1_W (cut := [4]) 3 ?_
    exact h)
    (fun d bc bs L s Q hL h => by
    obtain ⟨L, rfl⟩ := y_sls_this hL
    refine qa_t1_W (cut := [114]) 3 ?_
    exact h)
    ⟨rfl, rfl, by decide +kernel⟩ ⟨rfl, rfl, by decide +kernel⟩ ⟨by decide +kernel, by decide +kernel, by decide +kernel, by decide +kernel⟩ s0
def rh_X12_measure_13 : YCt := (283, [.inr (.inr (33, (0, 0), (0, 0))), .inl (0, 3), .inl ((-1), 19)], ([(48, 0, 272, .inl (13, 13))], []), [(33, 0, 0, 29, 29), (33, 0, 0, 29, 30), (33, 0, 0, 31, 31), (33, 0, 0, 33, 33), (33, 0, 0, 43, 43), (33, 0, 0, 44, 44), (42, 0, 0, 0, 7), (43, 0, 0, 0, 79), (48, 0, 0, 0, 159), (48, 0, 0, 0, 278), (48, 0, 0, 260, 271), (48, 0, 0, 273, 276), (49, 0, 0, 0, 278), (51, 0, 0, 0, 20)], [(none, [])], 100)
def rp_X12_measure_13 : YCut := (0, [some (.inr (.inr (33, (0, 0), (0, 0)))), some (.inl (0, 3)), some (.inl ((-1), 19)), none, none], [(48, 0, 272, .inl (13, 13))], [])
def rb_X12_measure_13 : YCut := (4, [some (.inr (.inr (33, (0, 0), (0, 0)))), some (.inl (0, 3)), some (.inl ((-1), 19)), none, none], [(48, 0, 272, .inl (13, 13))], [.inl 0, .inl 0])
def rB_X12_measure_13 : List YCut := [(37, [some (.inr (.inr (33, (0, 0), (0, 0)))), none, none, some (.inl (0, 13)), none], [(48, 0, 272, .inl (13, 13))], [.inl 1, .inr (.inl (false, 3))])]
def re_X12_measure_13 : YCut := (110, [some (.inr (.inr (33, (0, 0), (0, 0)))), none, none, none, none], [], [])
def rc_X12_measure_13 : YCut := (114, [some (.inr (.inr (33, (0, 0), (0, 0)))), none, none, none, none], [], [.inl 0])
def rw_X12_measure_13 : List YW := [(33, 0, 0, 29, 29), (33, 0, 0, 43, 43), (33, 0, 0, 44, 44), (42, 0, 0, 0, 7), (43, 0, 0, 0, 79), (48, 0, 0, 0, 159), (48, 0, 0, 260, 271), (48, 0, 0, 273, 276), (51, 0, 0, 0, 20)]
theorem rtB_X12_measure_13 : y_seg eL_2 rw_X12_measure_13 rw_X12_measure_13 rh_X12_measure_13.1 (rh_X12_measure_13.2.2.2.2.2 - 1) [] (rb_X12_measure_13 :: rB_X12_measure_13) [re_X12_measure_13] 4000 2 = true := by decide +kernel
theorem rtC_X12_measure_13 : y_seg eL_2 [] [] rh_X12_measure_13.1 (rh_X12_measure_13.2.2.2.2.2 - 1) rh_X12_measure_13.2.2.2.2.1 [rc_X12_measure_13] [] 4000 1 = true := by decide +kernel
theorem r_X12_measure_13 (s0 : LMem) : y_con (xR s0) rh_X12_measure_13 := y_leaf (pP := rp_X12_measure_13) (e_all x_X_cl e_hand) ⟨by decide +kernel, by decide +kernel, by decide +kernel, by decide +kernel⟩ ⟨rfl, rfl, rfl⟩ rtB_X12_measure_13 rtC_X12_measure_13
    (fun d bc bs L s Q hL h => by
    obtain ⟨L, rfl⟩ := y_sls_this hL
    refine qa_t1_W (cut := [4]) 3 ?_
    exact h)
    (fun d bc bs L s Q hL h => by
    obtain ⟨L, rfl⟩ := y_sls_this hL
    refine qa_t1_W (cut := [114]) 3 ?_
    exact h)
    ⟨rfl, rfl, by decide +kernel⟩ ⟨rfl, rfl, by decide +kernel⟩ ⟨by decide +kernel, by decide +kernel, by decide +kernel, by decide +kernel⟩ s0
def rh_X12_measure_14 : YCt := (283, [.inr (.inr (33, (0, 0), (0, 0))), .inl (0, 3), .inl ((-1), 19)], ([(48, 0, 272, .inl (14, 14))], []), [(33, 0, 0, 29, 29), (33, 0, 0, 29, 30), (33, 0, 0, 31, 31), (33, 0, 0, 33, 33), (33, 0, 0, 43, 43), (33, 0, 0, 44, 44), (42, 0, 0, 0, 7), (43, 0, 0, 0, 79), (48, 0, 0, 0, 159), (48, 0, 0, 0, 278), (48, 0, 0, 260, 271), (48, 0, 0, 273, 276), (49, 0, 0, 0, 278), (51, 0, 0, 0, 20)], [(none, [])], 100)
def rp_X12_measure_14 : YCut := (0, [some (.inr (.inr (33, (0, 0), (0, 0)))), some (.inl (0, 3)), some (.inl ((-1), 19)), none, none], [(48, 0, 272, .inl (14, 14))], [])
def rb_X12_measure_14 : YCut := (4, [some (.inr (.inr (33, (0, 0), (0, 0)))), some (.inl (0, 3)), some (.inl ((-1), 19)), none, none], [(48, 0, 272, .inl (14, 14))], [.inl 0, .inl 0])
def rB_X12_measure_14 : List YCut := [(37, [some (.inr (.inr (33, (0, 0), (0, 0)))), none, none, some (.inl (0, 14)), none], [(48, 0, 272, .inl (14, 14))], [.inl 1, .inr (.inl (false, 3))])]
def re_X12_measure_14 : YCut := (110, [some (.inr (.inr (33, (0, 0), (0, 0)))), none, none, none, none], [], [])
def rc_X12_measure_14 : YCut := (114, [some (.inr (.inr (33, (0, 0), (0, 0)))), none, none, none, none], [], [.inl 0])
def rw_X12_measure_14 : List YW := [(33, 0, 0, 29, 29), (33, 0, 0, 43, 43), (33, 0, 0, 44, 44), (42, 0, 0, 0, 7), (43, 0, 0, 0, 79), (48, 0, 0, 0, 159), (48, 0, 0, 260, 271), (48, 0, 0, 273, 276), (51, 0, 0, 0, 20)]
theorem rtB_X12_measure_14 : y_seg eL_2 rw_X12_measure_14 rw_X12_measure_14 rh_X12_measure_14.1 (rh_X12_measure_14.2.2.2.2.2 - 1) [] (rb_X12_measure_14 :: rB_X12_measure_14) [re_X12_measure_14] 4000 2 = true := by decide +kernel
theorem rtC_X12_measure_14 : y_seg eL_2 [] [] rh_X12_measure_14.1 (rh_X12_measure_14.2.2.2.2.2 - 1) rh_X12_measure_14.2.2.2.2.1 [rc_X12_measure_14] [] 4000 1 = true := by decide +kernel
theorem r_X12_measure_14 (s0 : LMem) : y_con (xR s0) rh_X12_measure_14 := y_leaf (pP := rp_X12_measure_14) (e_all x_X_cl e_hand) ⟨by decide +kernel, by decide +kernel, by decide +kernel, by decide +kernel⟩ ⟨rfl, rfl, rfl⟩ rtB_X12_measure_14 rtC_X12_measure_14
    (fun d bc bs L s Q hL h => by
    obtain ⟨L, rfl⟩ := y_sls_this hL
    refine qa_t1_W (cut := [4]) 3 ?_
    exact h)
    (fun d bc bs L s Q hL h => by
    obtain ⟨L, rfl⟩ := y_sls_this hL
    refine qa_t1_W (cut := [114]) 3 ?_
    exact h)
    ⟨rfl, rfl, by decide +kernel⟩ ⟨rfl, rfl, by decide +kernel⟩ ⟨by decide +kernel, by decide +kernel, by decide +kernel, by decide +kernel⟩ s0
def rh_X12_measure_15 : YCt := (283, [.inr (.inr (33, (0, 0), (0, 0))), .inl (0, 3), .inl ((-1), 19)], ([(48, 0, 272, .inl (15, 15))], []), [(33, 0, 0, 29, 29), (33, 0, 0, 29, 30), (33, 0, 0, 31, 31), (33, 0, 0, 33, 33), (33, 0, 0, 43, 43), (33, 0, 0, 44, 44), (42, 0, 0, 0, 7), (43, 0, 0, 0, 79), (48, 0, 0, 0, 159), (48, 0, 0, 0, 278), (48, 0, 0, 260, 271), (48, 0, 0, 273, 276), (49, 0, 0, 0, 278), (51, 0, 0, 0, 20)], [(none, [])], 100)
def rp_X12_measure_15 : YCut := (0, [some (.inr (.inr (33, (0, 0), (0, 0)))), some (.inl (0, 3)), some (.inl ((-1), 19)), none, none], [(48, 0, 272, .inl (15, 15))], [])
def rb_X12_measure_15 : YCut := (4, [some (.inr (.inr (33, (0, 0), (0, 0)))), some (.inl (0, 3)), some (.inl ((-1), 19)), none, none], [(48, 0, 272, .inl (15, 15))], [.inl 0, .inl 0])
def rB_X12_measure_15 : List YCut := [(37, [some (.inr (.inr (33, (0, 0), (0, 0)))), none, none, some (.inl (0, 15)), none], [(48, 0, 272, .inl (15, 15))], [.inl 1, .inr (.inl (false, 3))])]
def re_X12_measure_15 : YCut := (110, [some (.inr (.inr (33, (0, 0), (0, 0)))), none, none, none, none], [], [])
def rc_X12_measure_15 : YCut := (114, [some (.inr (.inr (33, (0, 0), (0, 0)))), none, none, none, none], [], [.inl 0])
def rw_X12_measure_15 : List YW := [(33, 0, 0, 29, 29), (33, 0, 0, 43, 43), (33, 0, 0, 44, 44), (42, 0, 0, 0, 7), (43, 0, 0, 0, 79), (48, 0, 0, 0, 159), (48, 0, 0, 260, 271), (48, 0, 0, 273, 276), (51, 0, 0, 0, 20)]
theorem rtB_X12_measure_15 : y_seg eL_2 rw_X12_measure_15 rw_X12_measure_15 rh_X12_measure_15.1 (rh_X12_measure_15.2.2.2.2.2 - 1) [] (rb_X12_measure_15 :: rB_X12_measure_15) [re_X12_measure_15] 4000 2 = true := by decide +kernel
theorem rtC_X12_measure_15 : y_seg eL_2 [] [] rh_X12_measure_15.1 (rh_X12_measure_15.2.2.2.2.2 - 1) rh_X12_measure_15.2.2.2.2.1 [rc_X12_measure_15] [] 4000 1 = true := by decide +kernel
theorem r_X12_measure_15 (s0 : LMem) : y_con (xR s0) rh_X12_measure_15 := y_leaf (pP := rp_X12_measure_15) (e_all x_X_cl e_hand) ⟨by decide +kernel, by decide +kernel, by decide +kernel, by decide +kernel⟩ ⟨rfl, rfl, rfl⟩ rtB_X12_measure_15 rtC_X12_measure_15
    (fun d bc bs L s Q hL h => by
    obtain ⟨L, rfl⟩ := y_sls_this hL
    refine qa_t1_W (cut := [4]) 3 ?_
    exact h)
    (fun d bc bs L s Q hL h => by
    obtain ⟨L, rfl⟩ := y_sls_this hL
    refine qa_t1_W (cut := [114]) 3 ?_
    exact h)
    ⟨rfl, rfl, by decide +kernel⟩ ⟨rfl, rfl, by decide +kernel⟩ ⟨by decide +kernel, by decide +kernel, by decide +kernel, by decide +kernel⟩ s0
def rh_X12_measure_16 : YCt := (283, [.inr (.inr (33, (0, 0), (0, 0))), .inl (0, 3), .inl ((-1), 19)], ([(48, 0, 272, .inl (16, 16))], []), [(33, 0, 0, 29, 29), (33, 0, 0, 29, 30), (33, 0, 0, 31, 31), (33, 0, 0, 33, 33), (33, 0, 0, 43, 43), (33, 0, 0, 44, 44), (42, 0, 0, 0, 7), (43, 0, 0, 0, 79), (48, 0, 0, 0, 159), (48, 0, 0, 0, 278), (48, 0, 0, 260, 271), (48, 0, 0, 273, 276), (49, 0, 0, 0, 278), (51, 0, 0, 0, 20)], [(none, [])], 100)
def rp_X12_measure_16 : YCut := (0, [some (.inr (.inr (33, (0, 0), (0, 0)))), some (.inl (0, 3)), some (.inl ((-1), 19)), none, none], [(48, 0, 272, .inl (16, 16))], [])
def rb_X12_measure_16 : YCut := (4, [some (.inr (.inr (33, (0, 0), (0, 0)))), some (.inl (0, 3)), some (.inl ((-1), 19)), none, none], [(48, 0, 272, .inl (16, 16))], [.inl 0, .inl 0])
def rB_X12_measure_16 : List YCut := [(37, [some (.inr (.inr (33, (0, 0), (0, 0)))), none, none, some (.inl (0, 16)), none], [(48, 0, 272, .inl (16, 16))], [.inl 1, .inr (.inl (false, 3))])]
def re_X12_measure_16 : YCut := (110, [some (.inr (.inr (33, (0, 0), (0, 0)))), none, none, none, none], [], [])
def rc_X12_measure_16 : YCut := (114, [some (.inr (.inr (33, (0, 0), (0, 0)))), none, none, none, none], [], [.inl 0])
def rw_X12_measure_16 : List YW := [(33, 0, 0, 29, 29), (33, 0, 0, 43, 43), (33, 0, 0, 44, 44), (42, 0, 0, 0, 7), (43, 0, 0, 0, 79), (48, 0, 0, 0, 159), (48, 0, 0, 260, 271), (48, 0, 0, 273, 276), (51, 0, 0, 0, 20)]
theorem rtB_X12_measure_16 : y_seg eL_2 rw_X12_measure_16 rw_X12_measure_16 rh_X12_measure_16.1 (rh_X12_measure_16.2.2.2.2.2 - 1) [] (rb_X12_measure_16 :: rB_X12_measure_16) [re_X12_measure_16] 4000 2 = true := by decide +kernel
theorem rtC_X12_measure_16 : y_seg eL_2 [] [] rh_X12_measure_16.1 (rh_X12_measure_16.2.2.2.2.2 - 1) rh_X12_measure_16.2.2.2.2.1 [rc_X12_measure_16] [] 4000 1 = true := by decide +kernel
theorem r_X12_measure_16 (s0 : LMem) : y_con (xR s0) rh_X12_measure_16 := y_leaf (pP := rp_X12_measure_16) (e_all x_X_cl e_hand) ⟨by decide +kernel, by decide +kernel, by decide +kernel, by decide +kernel⟩ ⟨rfl, rfl, rfl⟩ rtB_X12_measure_16 rtC_X12_measure_16
    (fun d bc bs L s Q hL h => by
    obtain ⟨L, rfl⟩ := y_sls_this hL
    refine qa_t1_W (cut := [4]) 3 ?_
    exact h)
    (fun d bc bs L s Q hL h => by
    obtain ⟨L, rfl⟩ := y_sls_this hL
    refine qa_t1_W (cut := [114]) 3 ?_
    exact h)
    ⟨rfl, rfl, by decide +kernel⟩ ⟨rfl, rfl, by decide +kernel⟩ ⟨by decide +kernel, by decide +kernel, by decide +kernel, by decide +kernel⟩ s0
def rh_X12_measure_17 : YCt := (283, [.inr (.inr (33, (0, 0), (0, 0))), .inl (0, 3), .inl ((-1), 19)], ([(48, 0, 272, .inl (17, 17))], []), [(33, 0, 0, 29, 29), (33, 0, 0, 29, 30), (33, 0, 0, 31, 31), (33, 0, 0, 33, 33), (33, 0, 0, 43, 43), (33, 0, 0, 44, 44), (42, 0, 0, 0, 7), (43, 0, 0, 0, 79), (48, 0, 0, 0, 159), (48, 0, 0, 0, 278), (48, 0, 0, 260, 271), (48, 0, 0, 273, 276), (49, 0, 0, 0, 278), (51, 0, 0, 0, 20)], [(none, [])], 100)
def rp_X12_measure_17 : YCut := (0, [some (.inr (.inr (33, (0, 0), (0, 0)))), some (.inl (0, 3)), some (.inl ((-1), 19)), none, none], [(48, 0, 272, .inl (17, 17))], [])
def rb_X12_measure_17 : YCut := (4, [some (.inr (.inr (33, (0, 0), (0, 0)))), some (.inl (0, 3)), some (.inl ((-1), 19)), none, none], [(48, 0, 272, .inl (17, 17))], [.inl 0, .inl 0])
def rB_X12_measure_17 : List YCut := [(37, [some (.inr (.inr (33, (0, 0), (0, 0)))), none, none, some (.inl (0, 17)), none], [(48, 0, 272, .inl (17, 17))], [.inl 1, .inr (.inl (false, 3))])]
def re_X12_measure_17 : YCut := (110, [some (.inr (.inr (33, (0, 0), (0, 0)))), none, none, none, none], [], [])
def rc_X12_measure_17 : YCut := (114, [some (.inr (.inr (33, (0, 0), (0, 0)))), none, none, none, none], [], [.inl 0])
def rw_X12_measure_17 : List YW := [(33, 0, 0, 29, 29), (33, 0, 0, 43, 43), (33, 0, 0, 44, 44), (42, 0, 0, 0, 7), (43, 0, 0, 0, 79), (48, 0, 0, 0, 159), (48, 0, 0, 260, 271), (48, 0, 0, 273, 276), (51, 0, 0, 0, 20)]
theorem rtB_X12_measure_17 : y_seg eL_2 rw_X12_measure_17 rw_X12_measure_17 rh_X12_measure_17.1 (rh_X12_measure_17.2.2.2.2.2 - 1) [] (rb_X12_measure_17 :: rB_X12_measure_17) [re_X12_measure_17] 4000 2 = true := by decide +kernel
theorem rtC_X12_measure_17 : y_seg eL_2 [] [] rh_X12_measure_17.1 (rh_X12_measure_17.2.2.2.2.2 - 1) rh_X12_measure_17.2.2.2.2.1 [rc_X12_measure_17] [] 4000 1 = true := by decide +kernel
theorem r_X12_measure_17 (s0 : LMem) : y_con (xR s0) rh_X12_measure_17 := y_leaf (pP := rp_X12_measure_17) (e_all x_X_cl e_hand) ⟨by decide +kernel, by decide +kernel, by decide +kernel, by decide +kernel⟩ ⟨rfl, rfl, rfl⟩ rtB_X12_measure_17 rtC_X12_measure_17
    (fun d bc bs L s Q hL h => by
    obtain ⟨L, rfl⟩ := y_sls_this hL
    refine qa_t1_W (cut := [4]) 3 ?_
    exact h)
    (fun d bc bs L s Q hL h => by
    obtain ⟨L, rfl⟩ := y_sls_this hL
    refine qa_t1_W (cut := [114]) 3 ?_
    exact h)
    ⟨rfl, rfl, by decide +kernel⟩ ⟨rfl, rfl, by decide +kernel⟩ ⟨by decide +kernel, by decide +kernel, by decide +kernel, by decide +kernel⟩ s0
def rh_X12_measure_18 : YCt := (283, [.inr (.inr (33, (0, 0), (0, 0))), .inl (0, 3), .inl ((-1), 19)], ([(48, 0, 272, .inl (18, 18))], []), [(33, 0, 0, 29, 29), (33, 0, 0, 29, 30), (33, 0, 0, 31, 31), (33, 0, 0, 33, 33), (33, 0, 0, 43, 43), (33, 0, 0, 44, 44), (42, 0, 0, 0, 7), (43, 0, 0, 0, 79), (48, 0, 0, 0, 159), (48, 0, 0, 0, 278), (48, 0, 0, 260, 271), (48, 0, 0, 273, 276), (49, 0, 0, 0, 278), (51, 0, 0, 0, 20)], [(none, [])], 100)
def rp_X12_measure_18 : YCut := (0, [some (.inr (.inr (33, (0, 0), (0, 0)))), some (.inl (0, 3)), some (.inl ((-1), 19)), none, none], [(48, 0, 272, .inl (18, 18))], [])
def rb_X12_measure_18 : YCut := (4, [some (.inr (.inr (33, (0, 0), (0, 0)))), some (.inl (0, 3)), some (.inl ((-1), 19)), none, none], [(48, 0, 272, .inl (18, 18))], [.inl 0, .inl 0])
def rB_X12_measure_18 : List YCut := [(37, [some (.inr (.inr (33, (0, 0), (0, 0)))), none, none, some (.inl (0, 18)), none], [(48, 0, 272, .inl (18, 18))], [.inl 1, .inr (.inl (false, 3))])]
def re_X12_measure_18 : YCut := (110, [some (.inr (.inr (33, (0, 0), (0, 0)))), none, none, none, none], [], [])
def rc_X12_measure_18 : YCut := (114, [some (.inr (.inr (33, (0, 0), (0, 0)))), none, none, none, none], [], [.inl 0])
def rw_X12_measure_18 : List YW := [(33, 0, 0, 29, 29), (33, 0, 0, 43, 43), (33, 0, 0, 44, 44), (42, 0, 0, 0, 7), (43, 0, 0, 0, 79), (48, 0, 0, 0, 159), (48, 0, 0, 260, 271), (48, 0, 0, 273, 276), (51, 0, 0, 0, 20)]
theorem rtB_X12_measure_18 : y_seg eL_2 rw_X12_measure_18 rw_X12_measure_18 rh_X12_measure_18.1 (rh_X12_measure_18.2.2.2.2.2 - 1) [] (rb_X12_measure_18 :: rB_X12_measure_18) [re_X12_measure_18] 4000 2 = true := by decide +kernel
theorem rtC_X12_measure_18 : y_seg eL_2 [] [] rh_X12_measure_18.1 (rh_X12_measure_18.2.2.2.2.2 - 1) rh_X12_measure_18.2.2.2.2.1 [rc_X12_measure_18] [] 4000 1 = true := by decide +kernel
theorem r_X12_measure_18 (s0 : LMem) : y_con (xR s0) rh_X12_measure_18 := y_leaf (pP := rp_X12_measure_18) (e_all x_X_cl e_hand) ⟨by decide +kernel, by decide +kernel, by decide +kernel, by decide +kernel⟩ ⟨rfl, rfl, rfl⟩ rtB_X12_measure_18 rtC_X12_measure_18
    (fun d bc bs L s Q hL h => by
    obtain ⟨L, rfl⟩ := y_sls_this hL
    refine qa_t1_W (cut := [4]) 3 ?_
    exact h)
    (fun d bc bs L s Q hL h => by
    obtain ⟨L, rfl⟩ := y_sls_this hL
    refine qa_t1_W (cut := [114]) 3 ?_
    exact h)
    ⟨rfl, rfl, by decide +kernel⟩ ⟨rfl, rfl, by decide +kernel⟩ ⟨by decide +kernel, by decide +kernel, by decide +kernel, by decide +kernel⟩ s0
def rh_X12_measure_19 : YCt := (283, [.inr (.inr (33, (0, 0), (0, 0))), .inl (0, 3), .inl ((-1), 19)], ([(48, 0, 272, .inl (19, 19))], []), [(33, 0, 0, 29, 29), (33, 0, 0, 29, 30), (33, 0, 0, 31, 31), (33, 0, 0, 33, 33), (33, 0, 0, 43, 43), (33, 0, 0, 44, 44), (42, 0, 0, 0, 7), (43, 0, 0, 0, 79), (48, 0, 0, 0, 159), (48, 0, 0, 0, 278), (48, 0, 0, 260, 271), (48, 0, 0, 273, 276), (49, 0, 0, 0, 278), (51, 0, 0, 0, 20)], [(none, [])], 100)
def rp_X12_measure_19 : YCut := (0, [some (.inr (.inr (33, (0, 0), (0, 0)))), some (.inl (0, 3)), some (.inl ((-1), 19)), none, none], [(48, 0, 272, .inl (19, 19))], [])
def rb_X12_measure_19 : YCut := (4, [some (.inr (.inr (33, (0, 0), (0, 0)))), some (.inl (0, 3)), some (.inl ((-1), 19)), none, none], [(48, 0, 272, .inl (19, 19))], [.inl 0, .inl 0])
def rB_X12_measure_19 : List YCut := [(37, [some (.inr (.inr (33, (0, 0), (0, 0)))), none, none, some (.inl (0, 19)), none], [(48, 0, 272, .inl (19, 19))], [.inl 1, .inr (.inl (false, 3))])]
def re_X12_measure_19 : YCut := (110, [some (.inr (.inr (33, (0, 0), (0, 0)))), none, none, none, none], [], [])
def rc_X12_measure_19 : YCut := (114, [some (.inr (.inr (33, (0, 0), (0, 0)))), none, none, none, none], [], [.inl 0])
def rw_X12_measure_19 : List YW := [(33, 0, 0, 29, 29), (33, 0, 0, 43, 43), (33, 0, 0, 44, 44), (42, 0, 0, 0, 7), (43, 0, 0, 0, 79), (48, 0, 0, 0, 159), (48, 0, 0, 260, 271), (48, 0, 0, 273, 276), (51, 0, 0, 0, 20)]
theorem rtB_X12_measure_19 : y_seg eL_2 rw_X12_measure_19 rw_X12_measure_19 rh_X12_measure_19.1 (rh_X12_measure_19.2.2.2.2.2 - 1) [] (rb_X12_measure_19 :: rB_X12_measure_19) [re_X12_measure_19] 4000 2 = true := by decide +kernel
theorem rtC_X12_measure_19 : y_seg eL_2 [] [] rh_X12_measure_19.1 (rh_X12_measure_19.2.2.2.2.2 - 1) rh_X12_measure_19.2.2.2.2.1 [rc_X12_measure_19] [] 4000 1 = true := by decide +kernel
theorem r_X12_measure_19 (s0 : LMem) : y_con (xR s0) rh_X12_measure_19 := y_leaf (pP := rp_X12_measure_19) (e_all x_X_cl e_hand) ⟨by decide +kernel, by decide +kernel, by decide +kernel, by decide +kernel⟩ ⟨rfl, rfl, rfl⟩ rtB_X12_measure_19 rtC_X12_measure_19
    (fun d bc bs L s Q hL h => by
    obtain ⟨L, rfl⟩ := y_sls_this hL
    refine qa_t1_W (cut := [4]) 3 ?_
    exact h)
    (fun d bc bs L s Q hL h => by
    obtain ⟨L, rfl⟩ := y_sls_this hL
    refine qa_t1_W (cut := [114]) 3 ?_
    exact h)
    ⟨rfl, rfl, by decide +kernel⟩ ⟨rfl, rfl, by decide +kernel⟩ ⟨by decide +kernel, by decide +kernel, by decide +kernel, by decide +kernel⟩ s0
def rh_X12_measure_20 : YCt := (283, [.inr (.inr (33, (0, 0), (0, 0))), .inl (0, 3), .inl ((-1), 19)], ([(48, 0, 272, .inl (20, 20))], []), [(33, 0, 0, 29, 29), (33, 0, 0, 29, 30), (33, 0, 0, 31, 31), (33, 0, 0, 33, 33), (33, 0, 0, 43, 43), (33, 0, 0, 44, 44), (42, 0, 0, 0, 7), (43, 0, 0, 0, 79), (48, 0, 0, 0, 159), (48, 0, 0, 0, 278), (48, 0, 0, 260, 271), (48, 0, 0, 273, 276), (49, 0, 0, 0, 278), (51, 0, 0, 0, 20)], [(none, [])], 100)
def rp_X12_measure_20 : YCut := (0, [some (.inr (.inr (33, (0, 0), (0, 0)))), some (.inl (0, 3)), some (.inl ((-1), 19)), none, none], [(48, 0, 272, .inl (20, 20))], [])
def rb_X12_measure_20 : YCut := (4, [some (.inr (.inr (33, (0, 0), (0, 0)))), some (.inl (0, 3)), some (.inl ((-1), 19)), none, none], [(48, 0, 272, .inl (20, 20))], [.inl 0, .inl 0])
def rB_X12_measure_20 : List YCut := [(37, [some (.inr (.inr (33, (0, 0), (0, 0)))), none, none, some (.inl (0, 20)), none], [(48, 0, 272, .inl (20, 20))], [.inl 1, .inr (.inl (false, 3))])]
def re_X12_measure_20 : YCut := (110, [some (.inr (.inr (33, (0, 0), (0, 0)))), none, none, none, none], [], [])
def rc_X12_measure_20 : YCut := (114, [some (.inr (.inr (33, (0, 0), (0, 0)))), none, none, none, none], [], [.inl 0])
def rw_X12_measure_20 : List YW := [(33, 0, 0, 29, 29), (33, 0, 0, 43, 43), (33, 0, 0, 44, 44), (42, 0, 0, 0, 7), (43, 0, 0, 0, 79), (48, 0, 0, 0, 159), (48, 0, 0, 260, 271), (48, 0, 0, 273, 276), (51, 0, 0, 0, 20)]
theorem rtB_X12_measure_20 : y_seg eL_2 rw_X12_measure_20 rw_X12_measure_20 rh_X12_measure_20.1 (rh_X12_measure_20.2.2.2.2.2 - 1) [] (rb_X12_measure_20 :: rB_X12_measure_20) [re_X12_measure_20] 4000 2 = true := by decide +kernel
theorem rtC_X12_measure_20 : y_seg eL_2 [] [] rh_X12_measure_20.1 (rh_X12_measure_20.2.2.2.2.2 - 1) rh_X12_measure_20.2.2.2.2.1 [rc_X12_measure_20] [] 4000 1 = true := by decide +kernel
theorem r_X12_measure_20 (s0 : LMem) : y_con (xR s0) rh_X12_measure_20 := y_leaf (pP := rp_X12_measure_20) (e_all x_X_cl e_hand) ⟨by decide +kernel, by decide +kernel, by decide +kernel, by decide +kernel⟩ ⟨rfl, rfl, rfl⟩ rtB_X12_measure_20 rtC_X12_measure_20
    (fun d bc bs L s Q hL h => by
    obtain ⟨L, rfl⟩ := y_sls_this hL
    refine qa_t1_W (cut := [4]) 3 ?_
    exact h)
    (fun d bc bs L s Q hL h => by
    obtain ⟨L, rfl⟩ := y_sls_this hL
    refine qa_t1_W (cut := [114]) 3 ?_
    exact h)
    ⟨rfl, rfl, by decide +kernel⟩ ⟨rfl, rfl, by decide +kernel⟩ ⟨by decide +kernel, by decide +kernel, by decide +kernel, by decide +kernel⟩ s0
theorem r_X12_measure (s0 : LMem) : y_con (xR s0) yh_X12_measure := by
  refine y_cases (N := 20) (j := 272) (k := 48) (fun s hJ => hJ.1 48 0 272 (272, 272, 0, 20) (by decide) (by decide) (by decide)) fun n hn => ?_
  rcases (show n = 0 ∨ n = 1 ∨ n = 2 ∨ n = 3 ∨ n = 4 ∨ n = 5 ∨ n = 6 ∨ n = 7 ∨ n = 8 ∨ n = 9 ∨ n = 10 ∨ n = 11 ∨ n = 12 ∨ n = 13 ∨ n = 14 ∨ n = 15 ∨ n = 16 ∨ n = 17 ∨ n = 18 ∨ n = 19 ∨ n = 20 by omega) with rfl | rfl | rfl | rfl | rfl | rfl | rfl | rfl | rfl | rfl | rfl | rfl | rfl | rfl | rfl | rfl | rfl | rfl | rfl | rfl | rfl
  · exact ⟨rh_X12_measure_0.2.2.2.1, r_X12_measure_0 s0, by decide +kernel⟩
  · exact ⟨rh_X12_measure_1.2.2.2.1, r_X12_measure_1 s0, by decide +kernel⟩
  · exact ⟨rh_X12_measure_2.2.2.2.1, r_X12_measure_2 s0, by decide +kernel⟩
  · exact ⟨rh_X12_measure_3.2.2.2.1, r_X12_measure_3 s0, by decide +kernel⟩
  · exact ⟨rh_X12_measure_4.2.2.2.1, r_X12_measure_4 s0, by decide +kernel⟩
  · exact ⟨rh_X12_measure_5.2.2.2.1, r_X12_measure_5 s0, by decide +kernel⟩
  · exact ⟨rh_X12_measure_6.2.2.2.1, r_X12_measure_6 s0, by decide +kernel⟩
  · exact ⟨rh_X12_measure_7.2.2.2.1, r_X12_measure_7 s0, by decide +kernel⟩
  · exact ⟨rh_X12_measure_8.2.2.2.1, r_X12_measure_8 s0, by decide +kernel⟩
  · exact ⟨rh_X12_measure_9.2.2.2.1, r_X12_measure_9 s0, by decide +kernel⟩
  · exact ⟨rh_X12_measure_10.2.2.2.1, r_X12_measure_10 s0, by decide +kernel⟩
  · exact ⟨rh_X12_measure_11.2.2.2.1, r_X12_measure_11 s0, by decide +kernel⟩
  · exact ⟨rh_X12_measure_12.2.2.2.1, r_X12_measure_12 s0, by decide +kernel⟩
  · exact ⟨rh_X12_measure_13.2.2.2.1, r_X12_measure_13 s0, by decide +kernel⟩
  · exact ⟨rh_X12_measure_14.2.2.2.1, r_X12_measure_14 s0, by decide +kernel⟩
  · exact ⟨rh_X12_measure_15.2.2.2.1, r_X12_measure_15 s0, by decide +kernel⟩
  · exact ⟨rh_X12_measure_16.2.2.2.1, r_X12_measure_16 s0, by decide +kernel⟩
  · exact ⟨rh_X12_measure_17.2.2.2.1, r_X12_measure_17 s0, by decide +kernel⟩
  · exact ⟨rh_X12_measure_18.2.2.2.1, r_X12_measure_18 s0, by decide +kernel⟩
  · exact ⟨rh_X12_measure_19.2.2.2.1, r_X12_measure_19 s0, by decide +kernel⟩
  · exact ⟨rh_X12_measure_20.2.2.2.1, r_X12_measure_20 s0, by decide +kernel⟩
