/-! CONTRACTS by the checker. -/
def dk_X12_round : YCt := (250, [.inr (.inr (33, (0, 0), (0, 0))), .inl ((-2147483648), 2147483647)], ([(48, 0, 272, .inl (0, 0))], []), [(48, 0, 0, 274, 275), (51, 0, 0, 0, 0)], [(none, [])], 21)
def dq_X12_round : List YCut := [(11, [some (.inr (.inr (33, (0, 0), (0, 0)))), some (.inl ((-2147483648), 2147483647)), some (.inl (0, 0)), some (.inl (0, 0)), none, none, none, none], [(48, 0, 272, .inl (0, 0))], [.inl 1, .inr (.inl (false, 0))]), (128, [some (.inr (.inr (33, (0, 0), (0, 0)))), none, some (.inl (0, 0)), some (.inl (0, 0)), none, none, none, none], [(48, 0, 272, .inl (0, 0))], [.inl 2, .inr (.inl (false, 0))]), (203, [some (.inr (.inr (33, (0, 0), (0, 0)))), none, some (.inl (0, 0)), some (.inl (0, 1)), none, none, none, none], [(48, 0, 272, .inl (0, 0))], [.inl 3, .inr (.inl (false, 3))]), (223, [some (.inr (.inr (33, (0, 0), (0, 0)))), none, some (.inl (0, 0)), some (.inl (0, 0)), none, none, none, none], [(48, 0, 272, .inl (0, 0))], [.inl 4, .inr (.inl (false, 0))]), (241, [some (.inr (.inr (33, (0, 0), (0, 0)))), none, some (.inl (0, 0)), some (.inl (0, 0)), none, none, none, none], [(48, 0, 272, .inl (0, 0))], [.inl 5, .inr (.inl (false, 0))])]
theorem dt_X12_round : y_chk dL_0 dk_X12_round dq_X12_round 4000 2 = true := by decide +kernel
def dk_X12_levelOf : YCt := (247, [.inr (.inr (33, (0, 0), (0, 0))), .inl (0, 0)], ([(48, 0, 272, .inl (1, 1))], []), [], [(some (.inl ((-2147483648), 2147483647)), [])], 21)
def dq_X12_levelOf : List YCut := []
theorem dt_X12_levelOf : y_chk dL_0 dk_X12_levelOf dq_X12_levelOf 4000 0 = true := by decide +kernel
def dk_X12_levelOf_1 : YCt := (247, [.inr (.inr (33, (0, 0), (0, 0))), .inl (0, 1)], ([(48, 0, 272, .inl (2, 2))], []), [], [(some (.inl ((-2147483648), 2147483647)), [])], 21)
def dq_X12_levelOf_1 : List YCut := []
theorem dt_X12_levelOf_1 : y_chk dL_0 dk_X12_levelOf_1 dq_X12_levelOf_1 4000 0 = true := by decide +kernel
def dk_X12_levelOf_2 : YCt := (247, [.inr (.inr (33, (0, 0), (0, 0))), .inl (0, 2)], ([(48, 0, 272, .inl (3, 3))], []), [], [(some (.inl ((-2147483648), 2147483647)), [])], 21)
def dq_X12_levelOf_2 : List YCut := []
theorem dt_X12_levelOf_2 : y_chk dL_0 dk_X12_levelOf_2 dq_X12_levelOf_2 4000 0 = true := by decide +kernel
def dk_X12_levelOf_3 : YCt := (247, [.inr (.inr (33, (0, 0), (0, 0))), .inl (0, 3)], ([(48, 0, 272, .inl (4, 4))], []), [], [(some (.inl ((-2147483648), 2147483647)), [])], 21)
def dq_X12_levelOf_3 : List YCut := []
theorem dt_X12_levelOf_3 : y_chk dL_0 dk_X12_levelOf_3 dq_X12_levelOf_3 4000 0 = true := by decide +kernel
def dk_X12_levelOf_4 : YCt := (247, [.inr (.inr (33, (0, 0), (0, 0))), .inl (0, 4)], ([(48, 0, 272, .inl (5, 5))], []), [], [(some (.inl ((-2147483648), 2147483647)), [])], 21)
def dq_X12_levelOf_4 : List YCut := []
theorem dt_X12_levelOf_4 : y_chk dL_0 dk_X12_levelOf_4 dq_X12_levelOf_4 4000 0 = true := by decide +kernel
def dk_X12_levelOf_5 : YCt := (247, [.inr (.inr (33, (0, 0), (0, 0))), .inl (0, 5)], ([(48, 0, 272, .inl (6, 6))], []), [], [(some (.inl ((-2147483648), 2147483647)), [])], 21)
def dq_X12_levelOf_5 : List YCut := []
theorem dt_X12_levelOf_5 : y_chk dL_0 dk_X12_levelOf_5 dq_X12_levelOf_5 4000 0 = true := by decide +kernel
def dk_X12_levelOf_6 : YCt := (247, [.inr (.inr (33, (0, 0), (0, 0))), .inl (0, 6)], ([(48, 0, 272, .inl (7, 7))], []), [], [(some (.inl ((-2147483648), 2147483647)), [])], 21)
def dq_X12_levelOf_6 : List YCut := []
theorem dt_X12_levelOf_6 : y_chk dL_0 dk_X12_levelOf_6 dq_X12_levelOf_6 4000 0 = true := by decide +kernel
def dk_X12_levelOf_7 : YCt := (247, [.inr (.inr (33, (0, 0), (0, 0))), .inl (0, 7)], ([(48, 0, 272, .inl (8, 8))], []), [], [(some (.inl ((-2147483648), 2147483647)), [])], 21)
def dq_X12_levelOf_7 : List YCut := []
theorem dt_X12_levelOf_7 : y_chk dL_0 dk_X12_levelOf_7 dq_X12_levelOf_7 4000 0 = true := by decide +kernel
def dk_X12_levelOf_8 : YCt := (247, [.inr (.inr (33, (0, 0), (0, 0))), .inl (0, 8)], ([(48, 0, 272, .inl (9, 9))], []), [], [(some (.inl ((-2147483648), 2147483647)), [])], 21)
def dq_X12_levelOf_8 : List YCut := []
theorem dt_X12_levelOf_8 : y_chk dL_0 dk_X12_levelOf_8 dq_X12_levelOf_8 4000 0 = true := by decide +kernel
def dk_X12_levelOf_9 : YCt := (247, [.inr (.inr (33, (0, 0), (0, 0))), .inl (0, 9)], ([(48, 0, 272, .inl (10, 10))], []), [], [(some (.inl ((-2147483648), 2147483647)), [])], 21)
def dq_X12_levelOf_9 : List YCut := []
theorem dt_X12_levelOf_9 : y_chk dL_0 dk_X12_levelOf_9 dq_X12_levelOf_9 4000 0 = true := by decide +kernel
def dk_X12_levelOf_10 : YCt := (247, [.inr (.inr (33, (0, 0), (0, 0))), .inl (0, 10)], ([(48, 0, 272, .inl (11, 11))], []), [], [(some (.inl ((-2147483648), 2147483647)), [])], 21)
def dq_X12_levelOf_10 : List YCut := []
theorem dt_X12_levelOf_10 : y_chk dL_0 dk_X12_levelOf_10 dq_X12_levelOf_10 4000 0 = true := by decide +kernel
def dk_X12_levelOf_11 : YCt := (247, [.inr (.inr (33, (0, 0), (0, 0))), .inl (0, 11)], ([(48, 0, 272, .inl (12, 12))], []), [], [(some (.inl ((-2147483648), 2147483647)), [])], 21)
def dq_X12_levelOf_11 : List YCut := []
theorem dt_X12_levelOf_11 : y_chk dL_0 dk_X12_levelOf_11 dq_X12_levelOf_11 4000 0 = true := by decide +kernel
def dk_X12_levelOf_12 : YCt := (247, [.inr (.inr (33, (0, 0), (0, 0))), .inl (0, 12)], ([(48, 0, 272, .inl (13, 13))], []), [], [(some (.inl ((-2147483648), 2147483647)), [])], 21)
def dq_X12_levelOf_12 : List YCut := []
theorem dt_X12_levelOf_12 : y_chk dL_0 dk_X12_levelOf_12 dq_X12_levelOf_12 4000 0 = true := by decide +kernel
def dk_X12_levelOf_13 : YCt := (247, [.inr (.inr (33, (0, 0), (0, 0))), .inl (0, 13)], ([(48, 0, 272, .inl (14, 14))], []), [], [(some (.inl ((-2147483648), 2147483647)), [])], 21)
def dq_X12_levelOf_13 : List YCut := []
theorem dt_X12_levelOf_13 : y_chk dL_0 dk_X12_levelOf_13 dq_X12_levelOf_13 4000 0 = true := by decide +kernel
def dk_X12_levelOf_14 : YCt := (247, [.inr (.inr (33, (0, 0), (0, 0))), .inl (0, 14)], ([(48, 0, 272, .inl (15, 15))], []), [], [(some (.inl ((-2147483648), 2147483647)), [])], 21)
def dq_X12_levelOf_14 : List YCut := []
theorem dt_X12_levelOf_14 : y_chk dL_0 dk_X12_levelOf_14 dq_X12_levelOf_14 4000 0 = true := by decide +kernel
def dk_X12_levelOf_15 : YCt := (247, [.inr (.inr (33, (0, 0), (0, 0))), .inl (0, 15)], ([(48, 0, 272, .inl (16, 16))], []), [], [(some (.inl ((-2147483648), 2147483647)), [])], 21)
def dq_X12_levelOf_15 : List YCut := []
theorem dt_X12_levelOf_15 : y_chk dL_0 dk_X12_levelOf_15 dq_X12_levelOf_15 4000 0 = true := by decide +kernel
def dk_X12_levelOf_16 : YCt := (247, [.inr (.inr (33, (0, 0), (0, 0))), .inl (0, 16)], ([(48, 0, 272, .inl (17, 17))], []), [], [(some (.inl ((-2147483648), 2147483647)), [])], 21)
def dq_X12_levelOf_16 : List YCut := []
theorem dt_X12_levelOf_16 : y_chk dL_0 dk_X12_levelOf_16 dq_X12_levelOf_16 4000 0 = true := by decide +kernel
def dk_X12_levelOf_17 : YCt := (247, [.inr (.inr (33, (0, 0), (0, 0))), .inl (0, 17)], ([(48, 0, 272, .inl (18, 18))], []), [], [(some (.inl ((-2147483648), 2147483647)), [])], 21)
def dq_X12_levelOf_17 : List YCut := []
theorem dt_X12_levelOf_17 : y_chk dL_0 dk_X12_levelOf_17 dq_X12_levelOf_17 4000 0 = true := by decide +kernel
def dk_X12_levelOf_18 : YCt := (247, [.inr (.inr (33, (0, 0), (0, 0))), .inl (0, 18)], ([(48, 0, 272, .inl (19, 19))], []), [], [(some (.inl ((-2147483648), 2147483647)), [])], 21)
def dq_X12_levelOf_18 : List YCut := []
theorem dt_X12_levelOf_18 : y_chk dL_0 dk_X12_levelOf_18 dq_X12_levelOf_18 4000 0 = true := by decide +kernel
def dk_X12_levelOf_19 : YCt := (247, [.inr (.inr (33, (0, 0), (0, 0))), .inl (0, 19)], ([(48, 0, 272, .inl (20, 20))], []), [], [(some (.inl ((-2147483648), 2147483647)), [])], 21)
def dq_X12_levelOf_19 : List YCut := []
theorem dt_X12_levelOf_19 : y_chk dL_0 dk_X12_levelOf_19 dq_X12_levelOf_19 4000 0 = true := by decide +kernel
def dk_X12_nextLevel : YCt := (248, [.inr (.inr (33, (0, 0), (0, 0))), .inl (0, 0)], ([(48, 0, 272, .inl (1, 1))], []), [], [(some (.inl ((-2147483648), 2147483647)), [])], 1)
def dq_X12_nextLevel : List YCut := []
theorem dt_X12_nextLevel : y_chk dL_0 dk_X12_nextLevel dq_X12_nextLevel 4000 0 = true := by decide +kernel
def dk_X12_settle : YCt := (251, [.inr (.inr (33, (0, 0), (0, 0))), .inl (0, 19)], ([], []), [(48, 0, 0, 20, 39), (48, 0, 0, 276, 276), (51, 0, 0, 1, 20)], [(none, [])], 21)
def dq_X12_settle : List YCut := []
theorem dt_X12_settle : y_chk dL_0 dk_X12_settle dq_X12_settle 4000 0 = true := by decide +kernel
def dL_1 : List YCt := [dk_X12_round, dk_X12_levelOf, dk_X12_levelOf_1, dk_X12_levelOf_2, dk_X12_levelOf_3, dk_X12_levelOf_4, dk_X12_levelOf_5, dk_X12_levelOf_6, dk_X12_levelOf_7, dk_X12_levelOf_8, dk_X12_levelOf_9, dk_X12_levelOf_10, dk_X12_levelOf_11, dk_X12_levelOf_12, dk_X12_levelOf_13, dk_X12_levelOf_14, dk_X12_levelOf_15, dk_X12_levelOf_16, dk_X12_levelOf_17, dk_X12_levelOf_18, dk_X12_levelOf_19, dk_X12_nextLevel, dk_X12_settle] ++ dL_0
theorem dl_1 {X : LMem → Prop} (hX : y_cl X) (h : ∀ ct ∈ dL_0, y_con X ct) : ∀ ct ∈ dL_1, y_con X ct := List.forall_mem_cons.mpr ⟨y_chk_ok hX h dt_X12_round, List.forall_mem_cons.mpr ⟨y_chk_ok hX h dt_X12_levelOf, List.forall_mem_cons.mpr ⟨y_chk_ok hX h dt_X12_levelOf_1, List.forall_mem_cons.mpr ⟨y_chk_ok hX h dt_X12_levelOf_2, List.forall_mem_cons.mpr ⟨y_chk_ok hX h dt_X12_levelOf_3, List.forall_mem_cons.mpr ⟨y_chk_ok hX h dt_X12_levelOf_4, List.forall_mem_cons.mpr ⟨y_chk_ok hX h dt_X12_levelOf_5, List.forall_mem_cons.mpr ⟨y_chk_ok hX h dt_X12_levelOf_6, List.forall_mem_cons.mpr ⟨y_chk_ok hX h dt_X12_levelOf_7, List.forall_mem_cons.mpr ⟨y_chk_ok hX h dt_X12_levelOf_8, List.forall_mem_cons.mpr ⟨y_chk_ok hX h dt_X12_levelOf_9, List.forall_mem_cons.mpr ⟨y_chk_ok hX h dt_X12_levelOf_10, List.forall_mem_cons.mpr ⟨y_chk_ok hX h dt_X12_levelOf_11, List.forall_mem_cons.mpr ⟨y_chk_ok hX h dt_X12_levelOf_12, List.forall_mem_cons.mpr ⟨y_chk_ok hX h dt_X12_levelOf_13, List.forall_mem_cons.mpr ⟨y_chk_ok hX h dt_X12_levelOf_14, List.forall_mem_cons.mpr ⟨y_chk_ok hX h dt_X12_levelOf_15, List.forall_mem_cons.mpr ⟨y_chk_ok hX h dt_X12_levelOf_16, List.forall_mem_cons.mpr ⟨y_chk_ok hX h dt_X12_levelOf_17, List.forall_mem_cons.mpr ⟨y_chk_ok hX h dt_X12_levelOf_18, List.forall_mem_cons.mpr ⟨y_chk_ok hX h dt_X12_levelOf_19, List.forall_mem_cons.mpr ⟨y_chk_ok hX h dt_X12_nextLevel, List.forall_mem_cons.mpr ⟨y_chk_ok hX h dt_X12_settle, h⟩⟩⟩⟩⟩⟩⟩⟩⟩⟩⟩⟩⟩⟩⟩⟩⟩⟩⟩⟩⟩⟩⟩
def dk_X12_dayOf : YCt := (253, [.inr (.inr (33, (0, 0), (0, 0))), .inl ((-2147483648), 2147483647)], ([(48, 0, 272, .inl (0, 0))], []), [(48, 0, 0, 273, 275), (51, 0, 0, 0, 0)], [(none, [])], 23)
def dq_X12_dayOf : List YCut := [(11, [some (.inr (.inr (33, (0, 0), (0, 0)))), some (.inl ((-2147483648), 2147483647)), some (.inl (0, 0)), some (.inl (0, 0))], [(48, 0, 272, .inl (0, 0))], [.inl 1, .inr (.inl (false, 0))]), (68, [some (.inr (.inr (33, (0, 0), (0, 0)))), some (.inl ((-2147483648), 2147483647)), some (.inl (0, 0)), some (.inl (0, 4))], [(48, 0, 272, .inl (0, 0))], [.inl 2, .inr (.inl (false, 3))]), (86, [some (.inr (.inr (33, (0, 0), (0, 0)))), some (.inl ((-2147483648), 2147483647)), some (.inl (0, 0)), some (.inl (0, 0))], [(48, 0, 272, .inl (0, 0))], [.inl 3, .inr (.inl (false, 0))]), (158, [some (.inr (.inr (33, (0, 0), (0, 0)))), none, some (.inl (0, 0)), some (.inl (0, 0))], [(48, 0, 272, .inl (0, 0))], [.inl 4, .inr (.inl (false, 0))]), (199, [some (.inr (.inr (33, (0, 0), (0, 0)))), none, some (.inl (0, 0)), some (.inl (0, 0))], [(48, 0, 272, .inl (0, 0))], [.inl 5, .inr (.inl (false, 0))])]
theorem dt_X12_dayOf : y_chk dL_1 dk_X12_dayOf dq_X12_dayOf 4000 2 = true := by decide +kernel
def dk_X12_nextLevel_1 : YCt := (248, [.inr (.inr (33, (0, 0), (0, 0))), .inl (0, 1)], ([(48, 0, 272, .inl (2, 2))], []), [], [(some (.inl ((-2147483648), 2147483647)), [])], 22)
def dq_X12_nextLevel_1 : List YCut := []
theorem dt_X12_nextLevel_1 : y_chk dL_1 dk_X12_nextLevel_1 dq_X12_nextLevel_1 4000 0 = true := by decide +kernel
def dk_X12_nextLevel_2 : YCt := (248, [.inr (.inr (33, (0, 0), (0, 0))), .inl (0, 2)], ([(48, 0, 272, .inl (3, 3))], []), [], [(some (.inl ((-2147483648), 2147483647)), [])], 22)
def dq_X12_nextLevel_2 : List YCut := []
theorem dt_X12_nextLevel_2 : y_chk dL_1 dk_X12_nextLevel_2 dq_X12_nextLevel_2 4000 0 = true := by decide +kernel
def dk_X12_nextLevel_3 : YCt := (248, [.inr (.inr (33, (0, 0), (0, 0))), .inl (0, 3)], ([(48, 0, 272, .inl (4, 4))], []), [], [(some (.inl ((-2147483648), 2147483647)), [])], 22)
def dq_X12_nextLevel_3 : List YCut := []
theorem dt_X12_nextLevel_3 : y_chk dL_1 dk_X12_nextLevel_3 dq_X12_nextLevel_3 4000 0 = true := by decide +kernel
def dk_X12_nextLevel_4 : YCt := (248, [.inr (.inr (33, (0, 0), (0, 0))), .inl (0, 4)], ([(48, 0, 272, .inl (5, 5))], []), [], [(some (.inl ((-2147483648), 2147483647)), [])], 22)
def dq_X12_nextLevel_4 : List YCut := []
theorem dt_X12_nextLevel_4 : y_chk dL_1 dk_X12_nextLevel_4 dq_X12_nextLevel_4 4000 0 = true := by decide +kernel
def dk_X12_nextLevel_5 : YCt := (248, [.inr (.inr (33, (0, 0), (0, 0))), .inl (0, 5)], ([(48, 0, 272, .inl (6, 6))], []), [], [(some (.inl ((-2147483648), 2147483647)), [])], 22)
def dq_X12_nextLevel_5 : List YCut := []
theorem dt_X12_nextLevel_5 : y_chk dL_1 dk_X12_nextLevel_5 dq_X12_nextLevel_5 4000 0 = true := by decide +kernel
def dk_X12_nextLevel_6 : YCt := (248, [.inr (.inr (33, (0, 0), (0, 0))), .inl (0, 6)], ([(48, 0, 272, .inl (7, 7))], []), [], [(some (.inl ((-2147483648), 2147483647)), [])], 22)
def dq_X12_nextLevel_6 : List YCut := []
theorem dt_X12_nextLevel_6 : y_chk dL_1 dk_X12_nextLevel_6 dq_X12_nextLevel_6 4000 0 = true := by decide +kernel
def dk_X12_nextLevel_7 : YCt := (248, [.inr (.inr (33, (0, 0), (0, 0))), .inl (0, 7)], ([(48, 0, 272, .inl (8, 8))], []), [], [(some (.inl ((-2147483648), 2147483647)), [])], 22)
def dq_X12_nextLevel_7 : List YCut := []
theorem dt_X12_nextLevel_7 : y_chk dL_1 dk_X12_nextLevel_7 dq_X12_nextLevel_7 4000 0 = true := by decide +kernel
def dk_X12_nextLevel_8 : YCt := (248, [.inr (.inr (33, (0, 0), (0, 0))), .inl (0, 8)], ([(48, 0, 272, .inl (9, 9))], []), [], [(some (.inl ((-2147483648), 2147483647)), [])], 22)
def dq_X12_nextLevel_8 : List YCut := []
theorem dt_X12_nextLevel_8 : y_chk dL_1 dk_X12_nextLevel_8 dq_X12_nextLevel_8 4000 0 = true := by decide +kernel
def dk_X12_nextLevel_9 : YCt := (248, [.inr (.inr (33, (0, 0), (0, 0))), .inl (0, 9)], ([(48, 0, 272, .inl (10, 10))], []), [], [(some (.inl ((-2147483648), 2147483647)), [])], 22)
def dq_X12_nextLevel_9 : List YCut := []
theorem dt_X12_nextLevel_9 : y_chk dL_1 dk_X12_nextLevel_9 dq_X12_nextLevel_9 4000 0 = true := by decide +kernel
def dk_X12_nextLevel_10 : YCt := (248, [.inr (.inr (33, (0, 0), (0, 0))), .inl (0, 10)], ([(48, 0, 272, .inl (11, 11))], []), [], [(some (.inl ((-2147483648), 2147483647)), [])], 22)
def dq_X12_nextLevel_10 : List YCut := []
theorem dt_X12_nextLevel_10 : y_chk dL_1 dk_X12_nextLevel_10 dq_X12_nextLevel_10 4000 0 = true := by decide +kernel
def dk_X12_nextLevel_11 : YCt := (248, [.inr (.inr (33, (0, 0), (0, 0))), .inl (0, 11)], ([(48, 0, 272, .inl (12, 12))], []), [], [(some (.inl ((-2147483648), 2147483647)), [])], 22)
def dq_X12_nextLevel_11 : List YCut := []
theorem dt_X12_nextLevel_11 : y_chk dL_1 dk_X12_nextLevel_11 dq_X12_nextLevel_11 4000 0 = true := by decide +kernel
def dk_X12_nextLevel_12 : YCt := (248, [.inr (.inr (33, (0, 0), (0, 0))), .inl (0, 12)], ([(48, 0, 272, .inl (13, 13))], []), [], [(some (.inl ((-2147483648), 2147483647)), [])], 22)
def dq_X12_nextLevel_12 : List YCut := []
theorem dt_X12_nextLevel_12 : y_chk dL_1 dk_X12_nextLevel_12 dq_X12_nextLevel_12 4000 0 = true := by decide +kernel
def dk_X12_nextLevel_13 : YCt := (248, [.inr (.inr (33, (0, 0), (0, 0))), .inl (0, 13)], ([(48, 0, 272, .inl (14, 14))], []), [], [(some (.inl ((-2147483648), 2147483647)), [])], 22)
def dq_X12_nextLevel_13 : List YCut := []
theorem dt_X12_nextLevel_13 : y_chk dL_1 dk_X12_nextLevel_13 dq_X12_nextLevel_13 4000 0 = true := by decide +kernel
def dk_X12_nextLevel_14 : YCt := (248, [.inr (.inr (33, (0, 0), (0, 0))), .inl (0, 14)], ([(48, 0, 272, .inl (15, 15))], []), [], [(some (.inl ((-2147483648), 2147483647)), [])], 22)
def dq_X12_nextLevel_14 : List YCut := []
theorem dt_X12_nextLevel_14 : y_chk dL_1 dk_X12_nextLevel_14 dq_X12_nextLevel_14 4000 0 = true := by decide +kernel
def dk_X12_nextLevel_15 : YCt := (248, [.inr (.inr (33, (0, 0), (0, 0))), .inl (0, 15)], ([(48, 0, 272, .inl (16, 16))], []), [], [(some (.inl ((-2147483648), 2147483647)), [])], 22)
def dq_X12_nextLevel_15 : List YCut := []
theorem dt_X12_nextLevel_15 : y_chk dL_1 dk_X12_nextLevel_15 dq_X12_nextLevel_15 4000 0 = true := by decide +kernel
def dk_X12_nextLevel_16 : YCt := (248, [.inr (.inr (33, (0, 0), (0, 0))), .inl (0, 16)], ([(48, 0, 272, .inl (17, 17))], []), [], [(some (.inl ((-2147483648), 2147483647)), [])], 22)
def dq_X12_nextLevel_16 : List YCut := []
theorem dt_X12_nextLevel_16 : y_chk dL_1 dk_X12_nextLevel_16 dq_X12_nextLevel_16 4000 0 = true := by decide +kernel
def dk_X12_nextLevel_17 : YCt := (248, [.inr (.inr (33, (0, 0), (0, 0))), .inl (0, 17)], ([(48, 0, 272, .inl (18, 18))], []), [], [(some (.inl ((-2147483648), 2147483647)), [])], 22)
def dq_X12_nextLevel_17 : List YCut := []
theorem dt_X12_nextLevel_17 : y_chk dL_1 dk_X12_nextLevel_17 dq_X12_nextLevel_17 4000 0 = true := by decide +kernel
def dk_X12_nextLevel_18 : YCt := (248, [.inr (.inr (33, (0, 0), (0, 0))), .inl (0, 18)], ([(48, 0, 272, .inl (19, 19))], []), [], [(some (.inl ((-2147483648), 2147483647)), [])], 22)
def dq_X12_nextLevel_18 : List YCut := []
theorem dt_X12_nextLevel_18 : y_chk dL_1 dk_X12_nextLevel_18 dq_X12_nextLevel_18 4000 0 = true := by decide +kernel
def dk_X12_nextLevel_19 : YCt := (248, [.inr (.inr (33, (0, 0), (0, 0))), .inl (0, 19)], ([(48, 0, 272, .inl (20, 20))], []), [], [(some (.inl ((-2147483648), 2147483647)), [])], 22)
def dq_X12_nextLevel_19 : List YCut := []
theorem dt_X12_nextLevel_19 : y_chk dL_1 dk_X12_nextLevel_19 dq_X12_nextLevel_19 4000 0 = true := by decide +kernel
def dk_X12_asked : YCt := (249, [.inr (.inr (33, (0, 0), (0, 0))), .inl (0, 5), .inl (0, 0), .inl ((-2147483648), 2147483647)], ([(48, 0, 272, .inl (1, 1))], [(1, 48, 0, 277)]), [(42, 0, 0, 0, 7), (43, 0, 0, 0, 79)], [(some (.inl ((-2147483648), 2147483647)), [])], 22)
def dq_X12_asked : List YCut := []
theorem dt_X12_asked : y_chk dL_1 dk_X12_asked dq_X12_asked 4000 0 = true := by decide +kernel
def dk_X12_asked_20 : YCt := (249, [.inr (.inr (33, (0, 0), (0, 0))), .inl (0, 5), .inl (0, 0), .inl ((-2147483648), 2147483647)], ([(48, 0, 272, .inl (1, 1))], [(1, 48, 0, 278)]), [(42, 0, 0, 0, 7), (43, 0, 0, 0, 79)], [(some (.inl ((-2147483648), 2147483647)), [])], 22)
def dq_X12_asked_20 : List YCut := []
theorem dt_X12_asked_20 : y_chk dL_1 dk_X12_asked_20 dq_X12_asked_20 4000 0 = true := by decide +kernel
def dL_2 : List YCt := [dk_X12_dayOf, dk_X12_nextLevel_1, dk_X12_nextLevel_2, dk_X12_nextLevel_3, dk_X12_nextLevel_4, dk_X12_nextLevel_5, dk_X12_nextLevel_6, dk_X12_nextLevel_7, dk_X12_nextLevel_8, dk_X12_nextLevel_9, dk_X12_nextLevel_10, dk_X12_nextLevel_11, dk_X12_nextLevel_12, dk_X12_nextLevel_13, dk_X12_nextLevel_14, dk_X12_nextLevel_15, dk_X12_nextLevel_16, dk_X12_nextLevel_17, dk_X12_nextLevel_18, dk_X12_nextLevel_19, dk_X12_asked, dk_X12_asked_20] ++ dL_1
theorem dl_2 {X : LMem → Prop} (hX : y_cl X) (h : ∀ ct ∈ dL_1, y_con X ct) : ∀ ct ∈ dL_2, y_con X ct := List.forall_mem_cons.mpr ⟨y_chk_ok hX h dt_X12_dayOf, List.forall_mem_cons.mpr ⟨y_chk_ok hX h dt_X12_nextLevel_1, List.forall_mem_cons.mpr ⟨y_chk_ok hX h dt_X12_nextLevel_2, List.forall_mem_cons.mpr ⟨y_chk_ok hX h dt_X12_nextLevel_3, List.forall_mem_cons.mpr ⟨y_chk_ok hX h dt_X12_nextLevel_4, List.forall_mem_cons.mpr ⟨y_chk_ok hX h dt_X12_nextLevel_5, List.forall_mem_cons.mpr ⟨y_chk_ok hX h dt_X12_nextLevel_6, List.forall_mem_cons.mpr ⟨y_chk_ok hX h dt_X12_nextLevel_7, List.forall_mem_cons.mpr ⟨y_chk_ok hX h dt_X12_nextLevel_8, List.forall_mem_cons.mpr ⟨y_chk_ok hX h dt_X12_nextLevel_9, List.forall_mem_cons.mpr ⟨y_chk_ok hX h dt_X12_nextLevel_10, List.forall_mem_cons.mpr ⟨y_chk_ok hX h dt_X12_nextLevel_11, List.forall_mem_cons.mpr ⟨y_chk_ok hX h dt_X12_nextLevel_12, List.forall_mem_cons.mpr ⟨y_chk_ok hX h dt_X12_nextLevel_13, List.forall_mem_cons.mpr ⟨y_chk_ok hX h dt_X12_nextLevel_14, List.forall_mem_cons.mpr ⟨y_chk_ok hX h dt_X12_nextLevel_15, List.forall_mem_cons.mpr ⟨y_chk_ok hX h dt_X12_nextLevel_16, List.forall_mem_cons.mpr ⟨y_chk_ok hX h dt_X12_nextLevel_17, List.forall_mem_cons.mpr ⟨y_chk_ok hX h dt_X12_nextLevel_18, List.forall_mem_cons.mpr ⟨y_chk_ok hX h dt_X12_nextLevel_19, List.forall_mem_cons.mpr ⟨y_chk_ok hX h dt_X12_asked, List.forall_mem_cons.mpr ⟨y_chk_ok hX h dt_X12_asked_20, h⟩⟩⟩⟩⟩⟩⟩⟩⟩⟩⟩⟩⟩⟩⟩⟩⟩⟩⟩⟩⟩⟩
