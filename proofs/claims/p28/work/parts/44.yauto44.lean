def yk_X3_readCondition_1 : YCt := (66, [.inr (.inr (8, (0, 0), (0, 6))), .inr (.inr (1, (0, 0), (0, 0))), .inl (1, 6), .inl (0, 0)], ([], []), [(1, 0, 0, 2, 2), (8, 0, 6, 2, 2), (9, 0, 6, 0, 199), (10, 0, 6, 0, 199)], [(some (.inl (0, 1)), [])], 91)
def yq_X3_readCondition_1 : List YCut := [(15, [some (.inr (.inr (8, (0, 0), (0, 6)))), some (.inr (.inr (1, (0, 0), (0, 0)))), some (.inl (1, 6)), none, some (.inl (0, 200))], [], [.inl 1, .inr (.inl (false, 4))])]
theorem yt_X3_readCondition_1 : y_chk yL_26 yk_X3_readCondition_1 yq_X3_readCondition_1 4000 2 = true := by decide +kernel
def yL_27 : List YCt := [yk_X3_readCondition_1] ++ yL_26
theorem yl_27 {X : LMem → Prop} (hX : y_cl X) (h : ∀ ct ∈ yL_26, y_con X ct) : ∀ ct ∈ yL_27, y_con X ct := List.forall_mem_cons.mpr ⟨y_chk_ok hX h yt_X3_readCondition_1, h⟩
def yk_X3_readRound : YCt := (69, [.inr (.inr (8, (0, 0), (0, 6))), .inr (.inr (1, (0, 0), (0, 0))), .inl (0, 6)], ([(1, 0, 2, .inl (0, 199))], []), [(1, 0, 0, 2, 2), (8, 0, 6, 2, 2), (9, 0, 6, 0, 199), (10, 0, 6, 0, 199)], [(some (.inl (0, 1)), [])], 93)
def yq_X3_readRound : List YCut := []
theorem yt_X3_readRound : y_chk yL_27 yk_X3_readRound yq_X3_readRound 4000 0 = true := by decide +kernel
def yL_28 : List YCt := [yk_X3_readRound] ++ yL_27
theorem yl_28 {X : LMem → Prop} (hX : y_cl X) (h : ∀ ct ∈ yL_27, y_con X ct) : ∀ ct ∈ yL_28, y_con X ct := List.forall_mem_cons.mpr ⟨y_chk_ok hX h yt_X3_readRound, h⟩
def yk_X3_readUnit : YCt := (68, [.inr (.inr (8, (0, 0), (0, 6))), .inr (.inr (1, (0, 0), (0, 0))), .inl (0, 0), .inl (0, 0)], ([], []), [(1, 0, 0, 2, 2), (8, 0, 6, 2, 2), (9, 0, 6, 0, 199), (10, 0, 6, 0, 199)], [(some (.inl (0, 1)), [])], 95)
def yq_X3_readUnit : List YCut := [(3, [some (.inr (.inr (8, (0, 0), (0, 6)))), some (.inr (.inr (1, (0, 0), (0, 0)))), some (.inl (0, 0)), some (.inl (0, 0)), some (.inl (0, 6)), none, none, none], [], [.inl 1, .inr (.inl (false, 4))]), (140, [some (.inr (.inr (8, (0, 0), (0, 6)))), none, none, none, some (.inl (0, 6)), none, some (.inl (0, 1)), some (.inl (0, 6))], [], [.inl 2, .inr (.inl (false, 7))])]
theorem yt_X3_readUnit : y_chk yL_28 yk_X3_readUnit yq_X3_readUnit 4000 2 = true := by decide +kernel
def yL_29 : List YCt := [yk_X3_readUnit] ++ yL_28
theorem yl_29 {X : LMem → Prop} (hX : y_cl X) (h : ∀ ct ∈ yL_28, y_con X ct) : ∀ ct ∈ yL_29, y_con X ct := List.forall_mem_cons.mpr ⟨y_chk_ok hX h yt_X3_readUnit, h⟩
def yk_X3_readTruth : YCt := (67, [.inr (.inr (8, (0, 0), (0, 6))), .inr (.inr (1, (0, 0), (0, 0))), .inl (0, 0), .inl (0, 0)], ([], []), [(1, 0, 0, 2, 2), (8, 0, 6, 2, 2), (9, 0, 6, 0, 199), (10, 0, 6, 0, 199)], [(some (.inl (0, 1)), [])], 97)
def yq_X3_readTruth : List YCut := [(15, [some (.inr (.inr (8, (0, 0), (0, 6)))), some (.inr (.inr (1, (0, 0), (0, 0)))), some (.inl (0, 0)), none, some (.inl (0, 200))], [], [.inl 1, .inr (.inl (false, 4))])]
theorem yt_X3_readTruth : y_chk yL_29 yk_X3_readTruth yq_X3_readTruth 4000 2 = true := by decide +kernel
def yk_X3_readTruth_2 : YCt := (67, [.inr (.inr (8, (0, 0), (0, 6))), .inr (.inr (1, (0, 0), (0, 0))), .inl (0, 0), .inl (1, 1)], ([], []), [(1, 0, 0, 2, 2), (8, 0, 6, 2, 2), (9, 0, 6, 0, 199), (10, 0, 6, 0, 199)], [(some (.inl (0, 1)), [])], 97)
def yq_X3_readTruth_2 : List YCut := [(15, [some (.inr (.inr (8, (0, 0), (0, 6)))), some (.inr (.inr (1, (0, 0), (0, 0)))), some (.inl (0, 0)), none, some (.inl (0, 200))], [], [.inl 1, .inr (.inl (false, 4))])]
theorem yt_X3_readTruth_2 : y_chk yL_29 yk_X3_readTruth_2 yq_X3_readTruth_2 4000 2 = true := by decide +kernel
def yL_30 : List YCt := [yk_X3_readTruth, yk_X3_readTruth_2] ++ yL_29
theorem yl_30 {X : LMem → Prop} (hX : y_cl X) (h : ∀ ct ∈ yL_29, y_con X ct) : ∀ ct ∈ yL_30, y_con X ct := List.forall_mem_cons.mpr ⟨y_chk_ok hX h yt_X3_readTruth, List.forall_mem_cons.mpr ⟨y_chk_ok hX h yt_X3_readTruth_2, h⟩⟩
def yk_X3_readCondition : YCt := (66, [.inr (.inr (8, (0, 0), (0, 6))), .inr (.inr (1, (0, 0), (0, 0))), .inl (0, 0), .inl (0, 0)], ([], []), [(1, 0, 0, 2, 2), (8, 0, 6, 2, 2), (9, 0, 6, 0, 199), (10, 0, 6, 0, 199)], [(some (.inl (0, 1)), [])], 99)
def yq_X3_readCondition : List YCut := [(15, [some (.inr (.inr (8, (0, 0), (0, 6)))), some (.inr (.inr (1, (0, 0), (0, 0)))), some (.inl (0, 0)), none, some (.inl (0, 200))], [], [.inl 1, .inr (.inl (false, 4))])]
theorem yt_X3_readCondition : y_chk yL_30 yk_X3_readCondition yq_X3_readCondition 4000 2 = true := by decide +kernel
def yk_X3_readCondition_2 : YCt := (66, [.inr (.inr (8, (0, 0), (0, 6))), .inr (.inr (1, (0, 0), (0, 0))), .inl (0, 0), .inl (1, 1)], ([], []), [(1, 0, 0, 2, 2), (8, 0, 6, 2, 2), (9, 0, 6, 0, 199), (10, 0, 6, 0, 199)], [(some (.inl (0, 1)), [])], 99)
def yq_X3_readCondition_2 : List YCut := [(15, [some (.inr (.inr (8, (0, 0), (0, 6)))), some (.inr (.inr (1, (0, 0), (0, 0)))), some (.inl (0, 0)), none, some (.inl (0, 200))], [], [.inl 1, .inr (.inl (false, 4))])]
theorem yt_X3_readCondition_2 : y_chk yL_30 yk_X3_readCondition_2 yq_X3_readCondition_2 4000 2 = true := by decide +kernel
def yL_31 : List YCt := [yk_X3_readCondition, yk_X3_readCondition_2] ++ yL_30
theorem yl_31 {X : LMem → Prop} (hX : y_cl X) (h : ∀ ct ∈ yL_30, y_con X ct) : ∀ ct ∈ yL_31, y_con X ct := List.forall_mem_cons.mpr ⟨y_chk_ok hX h yt_X3_readCondition, List.forall_mem_cons.mpr ⟨y_chk_ok hX h yt_X3_readCondition_2, h⟩⟩
def yk_X3_readClause : YCt := (64, [.inr (.inr (8, (0, 0), (0, 6))), .inr (.inr (1, (0, 0), (0, 0)))], ([], []), [(1, 0, 0, 2, 2), (8, 0, 6, 2, 2), (9, 0, 6, 0, 199), (10, 0, 6, 0, 199)], [(some (.inl (0, 1)), [])], 101)
def yq_X3_readClause : List YCut := []
theorem yt_X3_readClause : y_chk yL_31 yk_X3_readClause yq_X3_readClause 4000 0 = true := by decide +kernel
def yL_32 : List YCt := [yk_X3_readClause] ++ yL_31
theorem yl_32 {X : LMem → Prop} (hX : y_cl X) (h : ∀ ct ∈ yL_31, y_con X ct) : ∀ ct ∈ yL_32, y_con X ct := List.forall_mem_cons.mpr ⟨y_chk_ok hX h yt_X3_readClause, h⟩
def yk_X3_readFrom : YCt := (62, [.inr (.inr (8, (0, 0), (0, 6))), .inr (.inr (1, (0, 0), (0, 0)))], ([], []), [(1, 0, 0, 2, 2), (8, 0, 6, 2, 2), (9, 0, 6, 0, 199), (10, 0, 6, 0, 199)], [(some (.inl (0, 1)), [])], 103)
def yq_X3_readFrom : List YCut := [(9, [some (.inr (.inr (8, (0, 0), (0, 6)))), some (.inr (.inr (1, (0, 0), (0, 0)))), some (.inl (0, 1)), some (.inl (0, 200))], [], [.inl 1, .inr (.inl (false, 3))])]
theorem yt_X3_readFrom : y_chk yL_32 yk_X3_readFrom yq_X3_readFrom 4000 2 = true := by decide +kernel
def yL_33 : List YCt := [yk_X3_readFrom] ++ yL_32
theorem yl_33 {X : LMem → Prop} (hX : y_cl X) (h : ∀ ct ∈ yL_32, y_con X ct) : ∀ ct ∈ yL_33, y_con X ct := List.forall_mem_cons.mpr ⟨y_chk_ok hX h yt_X3_readFrom, h⟩
def yk_X11_fault : YCt := (145, [.inr (.inr (0, (0, 0), (0, 0))), .inl ((-2147483648), 2147483647)], ([], []), [(1, 0, 0, 2, 2), (4, 0, 4, 1, 1), (6, 0, 99, 0, 4), (8, 0, 6, 2, 2), (9, 0, 6, 0, 199), (10, 0, 6, 0, 199), (13, 0, 4, 1, 1), (14, 0, 4, 0, 29)], [(some (.inl ((-2), 200)), [])], 107)
def yq_X11_fault : List YCut := []
theorem yt_X11_fault : y_chk yL_33 yk_X11_fault yq_X11_fault 4000 0 = true := by decide +kernel
def yk_X11_text_2 : YCt := (146, [.inr (.inr (0, (0, 0), (0, 0))), .inl (1, 1)], ([], []), [(1, 0, 0, 1, 1), (1, 0, 0, 2, 2), (8, 0, 6, 2, 2), (9, 0, 6, 0, 199), (10, 0, 6, 0, 199), (15, 0, 0, 1, 1)], [(some (.inl ((-1), 5)), [])], 107)
def yq_X11_text_2 : List YCut := []
theorem yt_X11_text_2 : y_chk yL_33 yk_X11_text_2 yq_X11_text_2 4000 0 = true := by decide +kernel
def yL_34 : List YCt := [yk_X11_fault, yk_X11_text_2] ++ yL_33
theorem yl_34 {X : LMem → Prop} (hX : y_cl X) (h : ∀ ct ∈ yL_33, y_con X ct) : ∀ ct ∈ yL_34, y_con X ct := List.forall_mem_cons.mpr ⟨y_chk_ok hX h yt_X11_fault, List.forall_mem_cons.mpr ⟨y_chk_ok hX h yt_X11_text_2, h⟩⟩
theorem y_all {X : LMem → Prop} (hX : y_cl X) (h : ∀ ct ∈ yL_0, y_con X ct) : ∀ ct ∈ yL_34, y_con X ct := yl_34 hX (yl_33 hX (yl_32 hX (yl_31 hX (yl_30 hX (yl_29 hX (yl_28 hX (yl_27 hX (yl_26 hX (yl_25 hX (yl_24 hX (yl_23 hX (yl_22 hX (yl_21 hX (yl_20 hX (yl_19 hX (yl_18 hX (yl_17 hX (yl_16 hX (yl_15 hX (yl_14 hX (yl_13 hX (yl_12 hX (yl_11 hX (yl_10 hX (yl_9 hX (yl_8 hX (yl_7 hX (yl_6 hX (yl_5 hX (yl_4 hX (yl_3 hX (yl_2 hX (yl_1 hX (h))))))))))))))))))))))))))))))))))
