def yk_X3_readAtom_3 : YCt := (73, [.inr (.inr (8, (0, 0), (0, 6))), .inr (.inr (1, (0, 0), (0, 0))), .inl (2, 2)], ([], []), [(1, 0, 0, 2, 2), (8, 0, 6, 2, 2), (9, 0, 6, 0, 199), (10, 0, 6, 0, 199)], [(some (.inl (0, 1)), [])], 65)
def yq_X3_readAtom_3 : List YCut := []
theorem yt_X3_readAtom_3 : y_chk yL_13 yk_X3_readAtom_3 yq_X3_readAtom_3 4000 0 = true := by decide +kernel
def yk_X3_readAtom_6 : YCt := (73, [.inr (.inr (8, (0, 0), (0, 6))), .inr (.inr (1, (0, 0), (0, 0))), .inl (2, 6)], ([], []), [(1, 0, 0, 2, 2), (8, 0, 6, 2, 2), (9, 0, 6, 0, 199), (10, 0, 6, 0, 199)], [(some (.inl (0, 1)), [])], 65)
def yq_X3_readAtom_6 : List YCut := []
theorem yt_X3_readAtom_6 : y_chk yL_13 yk_X3_readAtom_6 yq_X3_readAtom_6 4000 0 = true := by decide +kernel
def yk_X3_readTruth_5 : YCt := (67, [.inr (.inr (8, (0, 0), (0, 6))), .inr (.inr (1, (0, 0), (0, 0))), .inl (4, 6), .inl (0, 0)], ([], []), [(1, 0, 0, 2, 2), (8, 0, 6, 2, 2), (9, 0, 6, 0, 199), (10, 0, 6, 0, 199)], [(some (.inl (0, 1)), [])], 65)
def yq_X3_readTruth_5 : List YCut := [(15, [some (.inr (.inr (8, (0, 0), (0, 6)))), some (.inr (.inr (1, (0, 0), (0, 0)))), some (.inl (4, 6)), none, some (.inl (0, 200))], [], [.inl 1, .inr (.inl (false, 4))])]
theorem yt_X3_readTruth_5 : y_chk yL_13 yk_X3_readTruth_5 yq_X3_readTruth_5 4000 2 = true := by decide +kernel
def yL_14 : List YCt := [yk_X3_readAtom_3, yk_X3_readAtom_6, yk_X3_readTruth_5] ++ yL_13
theorem yl_14 {X : LMem → Prop} (hX : y_cl X) (h : ∀ ct ∈ yL_13, y_con X ct) : ∀ ct ∈ yL_14, y_con X ct := List.forall_mem_cons.mpr ⟨y_chk_ok hX h yt_X3_readAtom_3, List.forall_mem_cons.mpr ⟨y_chk_ok hX h yt_X3_readAtom_6, List.forall_mem_cons.mpr ⟨y_chk_ok hX h yt_X3_readTruth_5, h⟩⟩⟩
def yk_X3_readTerm_3 : YCt := (72, [.inr (.inr (8, (0, 0), (0, 6))), .inr (.inr (1, (0, 0), (0, 0))), .inl (2, 2)], ([], []), [(1, 0, 0, 2, 2), (8, 0, 6, 2, 2), (9, 0, 6, 0, 199), (10, 0, 6, 0, 199)], [(some (.inl (0, 1)), [])], 67)
def yq_X3_readTerm_3 : List YCut := [(10, [some (.inr (.inr (8, (0, 0), (0, 6)))), some (.inr (.inr (1, (0, 0), (0, 0)))), some (.inl (2, 2)), some (.inl (0, 1)), some (.inl (0, 200)), none], [], [.inl 1, .inr (.inl (false, 4))])]
theorem yt_X3_readTerm_3 : y_chk yL_14 yk_X3_readTerm_3 yq_X3_readTerm_3 4000 2 = true := by decide +kernel
def yk_X3_readTerm_6 : YCt := (72, [.inr (.inr (8, (0, 0), (0, 6))), .inr (.inr (1, (0, 0), (0, 0))), .inl (2, 6)], ([], []), [(1, 0, 0, 2, 2), (8, 0, 6, 2, 2), (9, 0, 6, 0, 199), (10, 0, 6, 0, 199)], [(some (.inl (0, 1)), [])], 67)
def yq_X3_readTerm_6 : List YCut := [(10, [some (.inr (.inr (8, (0, 0), (0, 6)))), some (.inr (.inr (1, (0, 0), (0, 0)))), some (.inl (2, 6)), some (.inl (0, 1)), some (.inl (0, 200)), none], [], [.inl 1, .inr (.inl (false, 4))])]
theorem yt_X3_readTerm_6 : y_chk yL_14 yk_X3_readTerm_6 yq_X3_readTerm_6 4000 2 = true := by decide +kernel
def yk_X3_readCondition_5 : YCt := (66, [.inr (.inr (8, (0, 0), (0, 6))), .inr (.inr (1, (0, 0), (0, 0))), .inl (4, 6), .inl (0, 0)], ([], []), [(1, 0, 0, 2, 2), (8, 0, 6, 2, 2), (9, 0, 6, 0, 199), (10, 0, 6, 0, 199)], [(some (.inl (0, 1)), [])], 67)
def yq_X3_readCondition_5 : List YCut := [(15, [some (.inr (.inr (8, (0, 0), (0, 6)))), some (.inr (.inr (1, (0, 0), (0, 0)))), some (.inl (4, 6)), none, some (.inl (0, 200))], [], [.inl 1, .inr (.inl (false, 4))])]
theorem yt_X3_readCondition_5 : y_chk yL_14 yk_X3_readCondition_5 yq_X3_readCondition_5 4000 2 = true := by decide +kernel
def yL_15 : List YCt := [yk_X3_readTerm_3, yk_X3_readTerm_6, yk_X3_readCondition_5] ++ yL_14
theorem yl_15 {X : LMem → Prop} (hX : y_cl X) (h : ∀ ct ∈ yL_14, y_con X ct) : ∀ ct ∈ yL_15, y_con X ct := List.forall_mem_cons.mpr ⟨y_chk_ok hX h yt_X3_readTerm_3, List.forall_mem_cons.mpr ⟨y_chk_ok hX h yt_X3_readTerm_6, List.forall_mem_cons.mpr ⟨y_chk_ok hX h yt_X3_readCondition_5, h⟩⟩⟩
def yk_X3_readSum_3 : YCt := (71, [.inr (.inr (8, (0, 0), (0, 6))), .inr (.inr (1, (0, 0), (0, 0))), .inl (2, 2)], ([], []), [(1, 0, 0, 2, 2), (8, 0, 6, 2, 2), (9, 0, 6, 0, 199), (10, 0, 6, 0, 199)], [(some (.inl (0, 1)), [])], 69)
def yq_X3_readSum_3 : List YCut := [(10, [some (.inr (.inr (8, (0, 0), (0, 6)))), some (.inr (.inr (1, (0, 0), (0, 0)))), some (.inl (2, 2)), some (.inl (0, 1)), some (.inl (0, 200)), none], [], [.inl 1, .inr (.inl (false, 4))])]
theorem yt_X3_readSum_3 : y_chk yL_15 yk_X3_readSum_3 yq_X3_readSum_3 4000 2 = true := by decide +kernel
def yk_X3_readSum_6 : YCt := (71, [.inr (.inr (8, (0, 0), (0, 6))), .inr (.inr (1, (0, 0), (0, 0))), .inl (2, 6)], ([], []), [(1, 0, 0, 2, 2), (8, 0, 6, 2, 2), (9, 0, 6, 0, 199), (10, 0, 6, 0, 199)], [(some (.inl (0, 1)), [])], 69)
def yq_X3_readSum_6 : List YCut := [(10, [some (.inr (.inr (8, (0, 0), (0, 6)))), some (.inr (.inr (1, (0, 0), (0, 0)))), some (.inl (2, 6)), some (.inl (0, 1)), some (.inl (0, 200)), none], [], [.inl 1, .inr (.inl (false, 4))])]
theorem yt_X3_readSum_6 : y_chk yL_15 yk_X3_readSum_6 yq_X3_readSum_6 4000 2 = true := by decide +kernel
def yk_X3_readRound_3 : YCt := (69, [.inr (.inr (8, (0, 0), (0, 6))), .inr (.inr (1, (0, 0), (0, 0))), .inl (3, 6)], ([(1, 0, 2, .inl (0, 199))], []), [(1, 0, 0, 2, 2), (8, 0, 6, 2, 2), (9, 0, 6, 0, 199), (10, 0, 6, 0, 199)], [(some (.inl (0, 1)), [])], 69)
def yq_X3_readRound_3 : List YCut := []
theorem yt_X3_readRound_3 : y_chk yL_15 yk_X3_readRound_3 yq_X3_readRound_3 4000 0 = true := by decide +kernel
def yL_16 : List YCt := [yk_X3_readSum_3, yk_X3_readSum_6, yk_X3_readRound_3] ++ yL_15
theorem yl_16 {X : LMem → Prop} (hX : y_cl X) (h : ∀ ct ∈ yL_15, y_con X ct) : ∀ ct ∈ yL_16, y_con X ct := List.forall_mem_cons.mpr ⟨y_chk_ok hX h yt_X3_readSum_3, List.forall_mem_cons.mpr ⟨y_chk_ok hX h yt_X3_readSum_6, List.forall_mem_cons.mpr ⟨y_chk_ok hX h yt_X3_readRound_3, h⟩⟩⟩
def yk_X3_readAtom_1 : YCt := (73, [.inr (.inr (8, (0, 0), (0, 6))), .inr (.inr (1, (0, 0), (0, 0))), .inl (1, 1)], ([], []), [(1, 0, 0, 2, 2), (8, 0, 6, 2, 2), (9, 0, 6, 0, 199), (10, 0, 6, 0, 199)], [(some (.inl (0, 1)), [])], 71)
def yq_X3_readAtom_1 : List YCut := []
theorem yt_X3_readAtom_1 : y_chk yL_16 yk_X3_readAtom_1 yq_X3_readAtom_1 4000 0 = true := by decide +kernel
def yk_X3_readAtom_4 : YCt := (73, [.inr (.inr (8, (0, 0), (0, 6))), .inr (.inr (1, (0, 0), (0, 0))), .inl (1, 6)], ([], []), [(1, 0, 0, 2, 2), (8, 0, 6, 2, 2), (9, 0, 6, 0, 199), (10, 0, 6, 0, 199)], [(some (.inl (0, 1)), [])], 71)
def yq_X3_readAtom_4 : List YCut := []
theorem yt_X3_readAtom_4 : y_chk yL_16 yk_X3_readAtom_4 yq_X3_readAtom_4 4000 0 = true := by decide +kernel
def yk_X3_readUnit_4 : YCt := (68, [.inr (.inr (8, (0, 0), (0, 6))), .inr (.inr (1, (0, 0), (0, 0))), .inl (3, 6), .inl (0, 0)], ([], []), [(1, 0, 0, 2, 2), (8, 0, 6, 2, 2), (9, 0, 6, 0, 199), (10, 0, 6, 0, 199)], [(some (.inl (0, 1)), [])], 71)
def yq_X3_readUnit_4 : List YCut := [(3, [some (.inr (.inr (8, (0, 0), (0, 6)))), some (.inr (.inr (1, (0, 0), (0, 0)))), some (.inl (3, 6)), some (.inl (0, 0)), some (.inl (3, 6)), none, none, none], [], [.inl 1, .inr (.inl (false, 4))]), (140, [some (.inr (.inr (8, (0, 0), (0, 6)))), none, none, none, some (.inl (3, 6)), none, some (.inl (0, 1)), some (.inl (3, 6))], [], [.inl 2, .inr (.inl (false, 7))])]
theorem yt_X3_readUnit_4 : y_chk yL_16 yk_X3_readUnit_4 yq_X3_readUnit_4 4000 2 = true := by decide +kernel
def yL_17 : List YCt := [yk_X3_readAtom_1, yk_X3_readAtom_4, yk_X3_readUnit_4] ++ yL_16
theorem yl_17 {X : LMem → Prop} (hX : y_cl X) (h : ∀ ct ∈ yL_16, y_con X ct) : ∀ ct ∈ yL_17, y_con X ct := List.forall_mem_cons.mpr ⟨y_chk_ok hX h yt_X3_readAtom_1, List.forall_mem_cons.mpr ⟨y_chk_ok hX h yt_X3_readAtom_4, List.forall_mem_cons.mpr ⟨y_chk_ok hX h yt_X3_readUnit_4, h⟩⟩⟩
def yk_X3_readTerm_1 : YCt := (72, [.inr (.inr (8, (0, 0), (0, 6))), .inr (.inr (1, (0, 0), (0, 0))), .inl (1, 1)], ([], []), [(1, 0, 0, 2, 2), (8, 0, 6, 2, 2), (9, 0, 6, 0, 199), (10, 0, 6, 0, 199)], [(some (.inl (0, 1)), [])], 73)
def yq_X3_readTerm_1 : List YCut := [(10, [some (.inr (.inr (8, (0, 0), (0, 6)))), some (.inr (.inr (1, (0, 0), (0, 0)))), some (.inl (1, 1)), some (.inl (0, 1)), some (.inl (0, 200)), none], [], [.inl 1, .inr (.inl (false, 4))])]
theorem yt_X3_readTerm_1 : y_chk yL_17 yk_X3_readTerm_1 yq_X3_readTerm_1 4000 2 = true := by decide +kernel
def yk_X3_readTerm_4 : YCt := (72, [.inr (.inr (8, (0, 0), (0, 6))), .inr (.inr (1, (0, 0), (0, 0))), .inl (1, 6)], ([], []), [(1, 0, 0, 2, 2), (8, 0, 6, 2, 2), (9, 0, 6, 0, 199), (10, 0, 6, 0, 199)], [(some (.inl (0, 1)), [])], 73)
def yq_X3_readTerm_4 : List YCut := [(10, [some (.inr (.inr (8, (0, 0), (0, 6)))), some (.inr (.inr (1, (0, 0), (0, 0)))), some (.inl (1, 6)), some (.inl (0, 1)), some (.inl (0, 200)), none], [], [.inl 1, .inr (.inl (false, 4))])]
theorem yt_X3_readTerm_4 : y_chk yL_17 yk_X3_readTerm_4 yq_X3_readTerm_4 4000 2 = true := by decide +kernel
def yk_X3_readTruth_4 : YCt := (67, [.inr (.inr (8, (0, 0), (0, 6))), .inr (.inr (1, (0, 0), (0, 0))), .inl (3, 6), .inl (0, 0)], ([], []), [(1, 0, 0, 2, 2), (8, 0, 6, 2, 2), (9, 0, 6, 0, 199), (10, 0, 6, 0, 199)], [(some (.inl (0, 1)), [])], 73)
def yq_X3_readTruth_4 : List YCut := [(15, [some (.inr (.inr (8, (0, 0), (0, 6)))), some (.inr (.inr (1, (0, 0), (0, 0)))), some (.inl (3, 6)), none, some (.inl (0, 200))], [], [.inl 1, .inr (.inl (false, 4))])]
theorem yt_X3_readTruth_4 : y_chk yL_17 yk_X3_readTruth_4 yq_X3_readTruth_4 4000 2 = true := by decide +kernel
def yL_18 : List YCt := [yk_X3_readTerm_1, yk_X3_readTerm_4, yk_X3_readTruth_4] ++ yL_17
theorem yl_18 {X : LMem → Prop} (hX : y_cl X) (h : ∀ ct ∈ yL_17, y_con X ct) : ∀ ct ∈ yL_18, y_con X ct := List.forall_mem_cons.mpr ⟨y_chk_ok hX h yt_X3_readTerm_1, List.forall_mem_cons.mpr ⟨y_chk_ok hX h yt_X3_readTerm_4, List.forall_mem_cons.mpr ⟨y_chk_ok hX h yt_X3_readTruth_4, h⟩⟩⟩
def yk_X3_readSum_1 : YCt := (71, [.inr (.inr (8, (0, 0), (0, 6))), .inr (.inr (1, (0, 0), (0, 0))), .inl (1, 1)], ([], []), [(1, 0, 0, 2, 2), (8, 0, 6, 2, 2), (9, 0, 6, 0, 199), (10, 0, 6, 0, 199)], [(some (.inl (0, 1)), [])], 75)
def yq_X3_readSum_1 : List YCut := [(10, [some (.inr (.inr (8, (0, 0), (0, 6)))), some (.inr (.inr (1, (0, 0), (0, 0)))), some (.inl (1, 1)), some (.inl (0, 1)), some (.inl (0, 200)), none], [], [.inl 1, .inr (.inl (false, 4))])]
theorem yt_X3_readSum_1 : y_chk yL_18 yk_X3_readSum_1 yq_X3_readSum_1 4000 2 = true := by decide +kernel
def yk_X3_readSum_4 : YCt := (71, [.inr (.inr (8, (0, 0), (0, 6))), .inr (.inr (1, (0, 0), (0, 0))), .inl (1, 6)], ([], []), [(1, 0, 0, 2, 2), (8, 0, 6, 2, 2), (9, 0, 6, 0, 199), (10, 0, 6, 0, 199)], [(some (.inl (0, 1)), [])], 75)
def yq_X3_readSum_4 : List YCut := [(10, [some (.inr (.inr (8, (0, 0), (0, 6)))), some (.inr (.inr (1, (0, 0), (0, 0)))), some (.inl (1, 6)), some (.inl (0, 1)), some (.inl (0, 200)), none], [], [.inl 1, .inr (.inl (false, 4))])]
theorem yt_X3_readSum_4 : y_chk yL_18 yk_X3_readSum_4 yq_X3_readSum_4 4000 2 = true := by decide +kernel
def yk_X3_readCondition_4 : YCt := (66, [.inr (.inr (8, (0, 0), (0, 6))), .inr (.inr (1, (0, 0), (0, 0))), .inl (3, 6), .inl (0, 0)], ([], []), [(1, 0, 0, 2, 2), (8, 0, 6, 2, 2), (9, 0, 6, 0, 199), (10, 0, 6, 0, 199)], [(some (.inl (0, 1)), [])], 75)
def yq_X3_readCondition_4 : List YCut := [(15, [some (.inr (.inr (8, (0, 0), (0, 6)))), some (.inr (.inr (1, (0, 0), (0, 0)))), some (.inl (3, 6)), none, some (.inl (0, 200))], [], [.inl 1, .inr (.inl (false, 4))])]
theorem yt_X3_readCondition_4 : y_chk yL_18 yk_X3_readCondition_4 yq_X3_readCondition_4 4000 2 = true := by decide +kernel
def yL_19 : List YCt := [yk_X3_readSum_1, yk_X3_readSum_4, yk_X3_readCondition_4] ++ yL_18
theorem yl_19 {X : LMem → Prop} (hX : y_cl X) (h : ∀ ct ∈ yL_18, y_con X ct) : ∀ ct ∈ yL_19, y_con X ct := List.forall_mem_cons.mpr ⟨y_chk_ok hX h yt_X3_readSum_1, List.forall_mem_cons.mpr ⟨y_chk_ok hX h yt_X3_readSum_4, List.forall_mem_cons.mpr ⟨y_chk_ok hX h yt_X3_readCondition_4, h⟩⟩⟩
def yk_X3_readAtom : YCt := (73, [.inr (.inr (8, (0, 0), (0, 6))), .inr (.inr (1, (0, 0), (0, 0))), .inl (0, 0)], ([], []), [(1, 0, 0, 2, 2), (8, 0, 6, 2, 2), (9, 0, 6, 0, 199), (10, 0, 6, 0, 199)], [(some (.inl (0, 1)), [])], 77)
def yq_X3_readAtom : List YCut := []
theorem yt_X3_readAtom : y_chk yL_19 yk_X3_readAtom yq_X3_readAtom 4000 0 = true := by decide +kernel
def yk_X3_readAtom_2 : YCt := (73, [.inr (.inr (8, (0, 0), (0, 6))), .inr (.inr (1, (0, 0), (0, 0))), .inl (0, 6)], ([], []), [(1, 0, 0, 2, 2), (8, 0, 6, 2, 2), (9, 0, 6, 0, 199), (10, 0, 6, 0, 199)], [(some (.inl (0, 1)), [])], 77)
def yq_X3_readAtom_2 : List YCut := []
theorem yt_X3_readAtom_2 : y_chk yL_19 yk_X3_readAtom_2 yq_X3_readAtom_2 4000 0 = true := by decide +kernel
def yk_X3_readRound_2 : YCt := (69, [.inr (.inr (8, (0, 0), (0, 6))), .inr (.inr (1, (0, 0), (0, 0))), .inl (2, 6)], ([(1, 0, 2, .inl (0, 199))], []), [(1, 0, 0, 2, 2), (8, 0, 6, 2, 2), (9, 0, 6, 0, 199), (10, 0, 6, 0, 199)], [(some (.inl (0, 1)), [])], 77)
def yq_X3_readRound_2 : List YCut := []
theorem yt_X3_readRound_2 : y_chk yL_19 yk_X3_readRound_2 yq_X3_readRound_2 4000 0 = true := by decide +kernel
def yL_20 : List YCt := [yk_X3_readAtom, yk_X3_readAtom_2, yk_X3_readRound_2] ++ yL_19
theorem yl_20 {X : LMem → Prop} (hX : y_cl X) (h : ∀ ct ∈ yL_19, y_con X ct) : ∀ ct ∈ yL_20, y_con X ct := List.forall_mem_cons.mpr ⟨y_chk_ok hX h yt_X3_readAtom, List.forall_mem_cons.mpr ⟨y_chk_ok hX h yt_X3_readAtom_2, List.forall_mem_cons.mpr ⟨y_chk_ok hX h yt_X3_readRound_2, h⟩⟩⟩
def yk_X3_readTerm : YCt := (72, [.inr (.inr (8, (0, 0), (0, 6))), .inr (.inr (1, (0, 0), (0, 0))), .inl (0, 0)], ([], []), [(1, 0, 0, 2, 2), (8, 0, 6, 2, 2), (9, 0, 6, 0, 199), (10, 0, 6, 0, 199)], [(some (.inl (0, 1)), [])], 79)
def yq_X3_readTerm : List YCut := [(10, [some (.inr (.inr (8, (0, 0), (0, 6)))), some (.inr (.inr (1, (0, 0), (0, 0)))), some (.inl (0, 0)), some (.inl (0, 1)), some (.inl (0, 200)), none], [], [.inl 1, .inr (.inl (false, 4))])]
theorem yt_X3_readTerm : y_chk yL_20 yk_X3_readTerm yq_X3_readTerm 4000 2 = true := by decide +kernel
def yk_X3_readTerm_2 : YCt := (72, [.inr (.inr (8, (0, 0), (0, 6))), .inr (.inr (1, (0, 0), (0, 0))), .inl (0, 6)], ([], []), [(1, 0, 0, 2, 2), (8, 0, 6, 2, 2), (9, 0, 6, 0, 199), (10, 0, 6, 0, 199)], [(some (.inl (0, 1)), [])], 79)
def yq_X3_readTerm_2 : List YCut := [(10, [some (.inr (.inr (8, (0, 0), (0, 6)))), some (.inr (.inr (1, (0, 0), (0, 0)))), some (.inl (0, 6)), some (.inl (0, 1)), some (.inl (0, 200)), none], [], [.inl 1, .inr (.inl (false, 4))])]
theorem yt_X3_readTerm_2 : y_chk yL_20 yk_X3_readTerm_2 yq_X3_readTerm_2 4000 2 = true := by decide +kernel
def yk_X3_readUnit_3 : YCt := (68, [.inr (.inr (8, (0, 0), (0, 6))), .inr (.inr (1, (0, 0), (0, 0))), .inl (2, 6), .inl (0, 0)], ([], []), [(1, 0, 0, 2, 2), (8, 0, 6, 2, 2), (9, 0, 6, 0, 199), (10, 0, 6, 0, 199)], [(some (.inl (0, 1)), [])], 79)
def yq_X3_readUnit_3 : List YCut := [(3, [some (.inr (.inr (8, (0, 0), (0, 6)))), some (.inr (.inr (1, (0, 0), (0, 0)))), some (.inl (2, 6)), some (.inl (0, 0)), some (.inl (2, 6)), none, none, none], [], [.inl 1, .inr (.inl (false, 4))]), (140, [some (.inr (.inr (8, (0, 0), (0, 6)))), none, none, none, some (.inl (2, 6)), none, some (.inl (0, 1)), some (.inl (2, 6))], [], [.inl 2, .inr (.inl (false, 7))])]
theorem yt_X3_readUnit_3 : y_chk yL_20 yk_X3_readUnit_3 yq_X3_readUnit_3 4000 2 = true := by decide +kernel
def yL_21 : List YCt := [yk_X3_readTerm, yk_X3_readTerm_2, yk_X3_readUnit_3] ++ yL_20
theorem yl_21 {X : LMem → Prop} (hX : y_cl X) (h : ∀ ct ∈ yL_20, y_con X ct) : ∀ ct ∈ yL_21, y_con X ct := List.forall_mem_cons.mpr ⟨y_chk_ok hX h yt_X3_readTerm, List.forall_mem_cons.mpr ⟨y_chk_ok hX h yt_X3_readTerm_2, List.forall_mem_cons.mpr ⟨y_chk_ok hX h yt_X3_readUnit_3, h⟩⟩⟩
def yk_X3_readSum : YCt := (71, [.inr (.inr (8, (0, 0), (0, 6))), .inr (.inr (1, (0, 0), (0, 0))), .inl (0, 0)], ([], []), [(1, 0, 0, 2, 2), (8, 0, 6, 2, 2), (9, 0, 6, 0, 199), (10, 0, 6, 0, 199)], [(some (.inl (0, 1)), [])], 81)
def yq_X3_readSum : List YCut := [(10, [some (.inr (.inr (8, (0, 0), (0, 6)))), some (.inr (.inr (1, (0, 0), (0, 0)))), some (.inl (0, 0)), some (.inl (0, 1)), some (.inl (0, 200)), none], [], [.inl 1, .inr (.inl (false, 4))])]
theorem yt_X3_readSum : y_chk yL_21 yk_X3_readSum yq_X3_readSum 4000 2 = true := by decide +kernel
def yk_X3_readSum_2 : YCt := (71, [.inr (.inr (8, (0, 0), (0, 6))), .inr (.inr (1, (0, 0), (0, 0))), .inl (0, 6)], ([], []), [(1, 0, 0, 2, 2), (8, 0, 6, 2, 2), (9, 0, 6, 0, 199), (10, 0, 6, 0, 199)], [(some (.inl (0, 1)), [])], 81)
def yq_X3_readSum_2 : List YCut := [(10, [some (.inr (.inr (8, (0, 0), (0, 6)))), some (.inr (.inr (1, (0, 0), (0, 0)))), some (.inl (0, 6)), some (.inl (0, 1)), some (.inl (0, 200)), none], [], [.inl 1, .inr (.inl (false, 4))])]
theorem yt_X3_readSum_2 : y_chk yL_21 yk_X3_readSum_2 yq_X3_readSum_2 4000 2 = true := by decide +kernel
def yk_X3_readTruth_3 : YCt := (67, [.inr (.inr (8, (0, 0), (0, 6))), .inr (.inr (1, (0, 0), (0, 0))), .inl (2, 6), .inl (0, 0)], ([], []), [(1, 0, 0, 2, 2), (8, 0, 6, 2, 2), (9, 0, 6, 0, 199), (10, 0, 6, 0, 199)], [(some (.inl (0, 1)), [])], 81)
def yq_X3_readTruth_3 : List YCut := [(15, [some (.inr (.inr (8, (0, 0), (0, 6)))), some (.inr (.inr (1, (0, 0), (0, 0)))), some (.inl (2, 6)), none, some (.inl (0, 200))], [], [.inl 1, .inr (.inl (false, 4))])]
theorem yt_X3_readTruth_3 : y_chk yL_21 yk_X3_readTruth_3 yq_X3_readTruth_3 4000 2 = true := by decide +kernel
def yL_22 : List YCt := [yk_X3_readSum, yk_X3_readSum_2, yk_X3_readTruth_3] ++ yL_21
theorem yl_22 {X : LMem → Prop} (hX : y_cl X) (h : ∀ ct ∈ yL_21, y_con X ct) : ∀ ct ∈ yL_22, y_con X ct := List.forall_mem_cons.mpr ⟨y_chk_ok hX h yt_X3_readSum, List.forall_mem_cons.mpr ⟨y_chk_ok hX h yt_X3_readSum_2, List.forall_mem_cons.mpr ⟨y_chk_ok hX h yt_X3_readTruth_3, h⟩⟩⟩
def yk_X3_readUnit_2 : YCt := (68, [.inr (.inr (8, (0, 0), (0, 6))), .inr (.inr (1, (0, 0), (0, 0))), .inl (0, 0), .inl (1, 1)], ([], []), [(1, 0, 0, 2, 2), (8, 0, 6, 2, 2), (9, 0, 6, 0, 199), (10, 0, 6, 0, 199)], [(some (.inl (0, 1)), [])], 83)
def yq_X3_readUnit_2 : List YCut := [(3, [some (.inr (.inr (8, (0, 0), (0, 6)))), some (.inr (.inr (1, (0, 0), (0, 0)))), some (.inl (0, 0)), some (.inl (1, 1)), some (.inl (0, 0)), none, none, none], [], [.inl 1, .inr (.inl (false, 0))]), (140, [some (.inr (.inr (8, (0, 0), (0, 6)))), none, none, none, some (.inl (0, 0)), none, some (.inl (0, 1)), some (.inl (0, 0))], [], [.inl 2, .inr (.inl (false, 0))])]
theorem yt_X3_readUnit_2 : y_chk yL_22 yk_X3_readUnit_2 yq_X3_readUnit_2 4000 2 = true := by decide +kernel
def yk_X3_readCondition_3 : YCt := (66, [.inr (.inr (8, (0, 0), (0, 6))), .inr (.inr (1, (0, 0), (0, 0))), .inl (2, 6), .inl (0, 0)], ([], []), [(1, 0, 0, 2, 2), (8, 0, 6, 2, 2), (9, 0, 6, 0, 199), (10, 0, 6, 0, 199)], [(some (.inl (0, 1)), [])], 83)
def yq_X3_readCondition_3 : List YCut := [(15, [some (.inr (.inr (8, (0, 0), (0, 6)))), some (.inr (.inr (1, (0, 0), (0, 0)))), some (.inl (2, 6)), none, some (.inl (0, 200))], [], [.inl 1, .inr (.inl (false, 4))])]
theorem yt_X3_readCondition_3 : y_chk yL_22 yk_X3_readCondition_3 yq_X3_readCondition_3 4000 2 = true := by decide +kernel
def yL_23 : List YCt := [yk_X3_readUnit_2, yk_X3_readCondition_3] ++ yL_22
theorem yl_23 {X : LMem → Prop} (hX : y_cl X) (h : ∀ ct ∈ yL_22, y_con X ct) : ∀ ct ∈ yL_23, y_con X ct := List.forall_mem_cons.mpr ⟨y_chk_ok hX h yt_X3_readUnit_2, List.forall_mem_cons.mpr ⟨y_chk_ok hX h yt_X3_readCondition_3, h⟩⟩
def yk_X3_readRound_1 : YCt := (69, [.inr (.inr (8, (0, 0), (0, 6))), .inr (.inr (1, (0, 0), (0, 0))), .inl (1, 6)], ([(1, 0, 2, .inl (0, 199))], []), [(1, 0, 0, 2, 2), (8, 0, 6, 2, 2), (9, 0, 6, 0, 199), (10, 0, 6, 0, 199)], [(some (.inl (0, 1)), [])], 85)
def yq_X3_readRound_1 : List YCut := []
theorem yt_X3_readRound_1 : y_chk yL_23 yk_X3_readRound_1 yq_X3_readRound_1 4000 0 = true := by decide +kernel
def yL_24 : List YCt := [yk_X3_readRound_1] ++ yL_23
theorem yl_24 {X : LMem → Prop} (hX : y_cl X) (h : ∀ ct ∈ yL_23, y_con X ct) : ∀ ct ∈ yL_24, y_con X ct := List.forall_mem_cons.mpr ⟨y_chk_ok hX h yt_X3_readRound_1, h⟩
def yk_X3_readUnit_1 : YCt := (68, [.inr (.inr (8, (0, 0), (0, 6))), .inr (.inr (1, (0, 0), (0, 0))), .inl (1, 6), .inl (0, 0)], ([], []), [(1, 0, 0, 2, 2), (8, 0, 6, 2, 2), (9, 0, 6, 0, 199), (10, 0, 6, 0, 199)], [(some (.inl (0, 1)), [])], 87)
def yq_X3_readUnit_1 : List YCut := [(3, [some (.inr (.inr (8, (0, 0), (0, 6)))), some (.inr (.inr (1, (0, 0), (0, 0)))), some (.inl (1, 6)), some (.inl (0, 0)), some (.inl (1, 6)), none, none, none], [], [.inl 1, .inr (.inl (false, 4))]), (140, [some (.inr (.inr (8, (0, 0), (0, 6)))), none, none, none, some (.inl (1, 6)), none, some (.inl (0, 1)), some (.inl (1, 6))], [], [.inl 2, .inr (.inl (false, 7))])]
theorem yt_X3_readUnit_1 : y_chk yL_24 yk_X3_readUnit_1 yq_X3_readUnit_1 4000 2 = true := by decide +kernel
def yL_25 : List YCt := [yk_X3_readUnit_1] ++ yL_24
theorem yl_25 {X : LMem → Prop} (hX : y_cl X) (h : ∀ ct ∈ yL_24, y_con X ct) : ∀ ct ∈ yL_25, y_con X ct := List.forall_mem_cons.mpr ⟨y_chk_ok hX h yt_X3_readUnit_1, h⟩
def yk_X3_readTruth_1 : YCt := (67, [.inr (.inr (8, (0, 0), (0, 6))), .inr (.inr (1, (0, 0), (0, 0))), .inl (1, 6), .inl (0, 0)], ([], []), [(1, 0, 0, 2, 2), (8, 0, 6, 2, 2), (9, 0, 6, 0, 199), (10, 0, 6, 0, 199)], [(some (.inl (0, 1)), [])], 89)
def yq_X3_readTruth_1 : List YCut := [(15, [some (.inr (.inr (8, (0, 0), (0, 6)))), some (.inr (.inr (1, (0, 0), (0, 0)))), some (.inl (1, 6)), none, some (.inl (0, 200))], [], [.inl 1, .inr (.inl (false, 4))])]
theorem yt_X3_readTruth_1 : y_chk yL_25 yk_X3_readTruth_1 yq_X3_readTruth_1 4000 2 = true := by decide +kernel
def yL_26 : List YCt := [yk_X3_readTruth_1] ++ yL_25
theorem yl_26 {X : LMem → Prop} (hX : y_cl X) (h : ∀ ct ∈ yL_25, y_con X ct) : ∀ ct ∈ yL_26, y_con X ct := List.forall_mem_cons.mpr ⟨y_chk_ok hX h yt_X3_readTruth_1, h⟩
