/-! CONTRACTS by the checker. -/
def ek_X12_at : YCt := (257, [.inr (.inr (33, (0, 0), (0, 0))), .inl ((-2147483648), 2147483647), .inl ((-2147483648), 2147483647)], ([(48, 0, 272, .inl (0, 0))], []), [], [(some (.inl ((-2147483648), 2147483647)), [])], 2)
def eq_X12_at : List YCut := []
theorem et_X12_at : y_chk eL_0 ek_X12_at eq_X12_at 4000 0 = true := by decide +kernel
def ek_X12_runOf : YCt := (254, [.inr (.inr (33, (0, 0), (0, 0))), .inl (0, 3)], ([], []), [(33, 0, 0, 29, 29), (42, 0, 0, 0, 7), (43, 0, 0, 0, 79), (48, 0, 0, 0, 159), (48, 0, 0, 260, 271), (48, 0, 0, 273, 276), (51, 0, 0, 0, 20)], [(none, [])], 41)
def eq_X12_runOf : List YCut := [(2, [some (.inr (.inr (33, (0, 0), (0, 0)))), some (.inl (0, 3)), some (.inl (0, 30))], [], [.inl 1, .inr (.inl (false, 2))])]
theorem et_X12_runOf : y_chk eL_0 ek_X12_runOf eq_X12_runOf 4000 2 = true := by decide +kernel
def ek_X12_levelOf : YCt := (247, [.inr (.inr (33, (0, 0), (0, 0))), .inl (0, 0)], ([(48, 0, 272, .inl (1, 1))], []), [], [(some (.inl ((-2147483648), 2147483647)), [])], 41)
def eq_X12_levelOf : List YCut := []
theorem et_X12_levelOf : y_chk eL_0 ek_X12_levelOf eq_X12_levelOf 4000 0 = true := by decide +kernel
def ek_X12_levelOf_1 : YCt := (247, [.inr (.inr (33, (0, 0), (0, 0))), .inl (0, 1)], ([(48, 0, 272, .inl (2, 2))], []), [], [(some (.inl ((-2147483648), 2147483647)), [])], 41)
def eq_X12_levelOf_1 : List YCut := []
theorem et_X12_levelOf_1 : y_chk eL_0 ek_X12_levelOf_1 eq_X12_levelOf_1 4000 0 = true := by decide +kernel
def ek_X12_levelOf_2 : YCt := (247, [.inr (.inr (33, (0, 0), (0, 0))), .inl (0, 2)], ([(48, 0, 272, .inl (3, 3))], []), [], [(some (.inl ((-2147483648), 2147483647)), [])], 41)
def eq_X12_levelOf_2 : List YCut := []
theorem et_X12_levelOf_2 : y_chk eL_0 ek_X12_levelOf_2 eq_X12_levelOf_2 4000 0 = true := by decide +kernel
def ek_X12_levelOf_3 : YCt := (247, [.inr (.inr (33, (0, 0), (0, 0))), .inl (0, 3)], ([(48, 0, 272, .inl (4, 4))], []), [], [(some (.inl ((-2147483648), 2147483647)), [])], 41)
def eq_X12_levelOf_3 : List YCut := []
theorem et_X12_levelOf_3 : y_chk eL_0 ek_X12_levelOf_3 eq_X12_levelOf_3 4000 0 = true := by decide +kernel
def ek_X12_levelOf_4 : YCt := (247, [.inr (.inr (33, (0, 0), (0, 0))), .inl (0, 4)], ([(48, 0, 272, .inl (5, 5))], []), [], [(some (.inl ((-2147483648), 2147483647)), [])], 41)
def eq_X12_levelOf_4 : List YCut := []
theorem et_X12_levelOf_4 : y_chk eL_0 ek_X12_levelOf_4 eq_X12_levelOf_4 4000 0 = true := by decide +kernel
def ek_X12_levelOf_5 : YCt := (247, [.inr (.inr (33, (0, 0), (0, 0))), .inl (0, 5)], ([(48, 0, 272, .inl (6, 6))], []), [], [(some (.inl ((-2147483648), 2147483647)), [])], 41)
def eq_X12_levelOf_5 : List YCut := []
theorem et_X12_levelOf_5 : y_chk eL_0 ek_X12_levelOf_5 eq_X12_levelOf_5 4000 0 = true := by decide +kernel
def ek_X12_levelOf_6 : YCt := (247, [.inr (.inr (33, (0, 0), (0, 0))), .inl (0, 6)], ([(48, 0, 272, .inl (7, 7))], []), [], [(some (.inl ((-2147483648), 2147483647)), [])], 41)
def eq_X12_levelOf_6 : List YCut := []
theorem et_X12_levelOf_6 : y_chk eL_0 ek_X12_levelOf_6 eq_X12_levelOf_6 4000 0 = true := by decide +kernel
def ek_X12_levelOf_7 : YCt := (247, [.inr (.inr (33, (0, 0), (0, 0))), .inl (0, 7)], ([(48, 0, 272, .inl (8, 8))], []), [], [(some (.inl ((-2147483648), 2147483647)), [])], 41)
def eq_X12_levelOf_7 : List YCut := []
theorem et_X12_levelOf_7 : y_chk eL_0 ek_X12_levelOf_7 eq_X12_levelOf_7 4000 0 = true := by decide +kernel
def ek_X12_levelOf_8 : YCt := (247, [.inr (.inr (33, (0, 0), (0, 0))), .inl (0, 8)], ([(48, 0, 272, .inl (9, 9))], []), [], [(some (.inl ((-2147483648), 2147483647)), [])], 41)
def eq_X12_levelOf_8 : List YCut := []
theorem et_X12_levelOf_8 : y_chk eL_0 ek_X12_levelOf_8 eq_X12_levelOf_8 4000 0 = true := by decide +kernel
def ek_X12_levelOf_9 : YCt := (247, [.inr (.inr (33, (0, 0), (0, 0))), .inl (0, 9)], ([(48, 0, 272, .inl (10, 10))], []), [], [(some (.inl ((-2147483648), 2147483647)), [])], 41)
def eq_X12_levelOf_9 : List YCut := []
theorem et_X12_levelOf_9 : y_chk eL_0 ek_X12_levelOf_9 eq_X12_levelOf_9 4000 0 = true := by decide +kernel
def ek_X12_levelOf_10 : YCt := (247, [.inr (.inr (33, (0, 0), (0, 0))), .inl (0, 10)], ([(48, 0, 272, .inl (11, 11))], []), [], [(some (.inl ((-2147483648), 2147483647)), [])], 41)
def eq_X12_levelOf_10 : List YCut := []
theorem et_X12_levelOf_10 : y_chk eL_0 ek_X12_levelOf_10 eq_X12_levelOf_10 4000 0 = true := by decide +kernel
def ek_X12_levelOf_11 : YCt := (247, [.inr (.inr (33, (0, 0), (0, 0))), .inl (0, 11)], ([(48, 0, 272, .inl (12, 12))], []), [], [(some (.inl ((-2147483648), 2147483647)), [])], 41)
def eq_X12_levelOf_11 : List YCut := []
theorem et_X12_levelOf_11 : y_chk eL_0 ek_X12_levelOf_11 eq_X12_levelOf_11 4000 0 = true := by decide +kernel
def ek_X12_levelOf_12 : YCt := (247, [.inr (.inr (33, (0, 0), (0, 0))), .inl (0, 12)], ([(48, 0, 272, .inl (13, 13))], []), [], [(some (.inl ((-2147483648), 2147483647)), [])], 41)
def eq_X12_levelOf_12 : List YCut := []
theorem et_X12_levelOf_12 : y_chk eL_0 ek_X12_levelOf_12 eq_X12_levelOf_12 4000 0 = true := by decide +kernel
def ek_X12_levelOf_13 : YCt := (247, [.inr (.inr (33, (0, 0), (0, 0))), .inl (0, 13)], ([(48, 0, 272, .inl (14, 14))], []), [], [(some (.inl ((-2147483648), 2147483647)), [])], 41)
def eq_X12_levelOf_13 : List YCut := []
theorem et_X12_levelOf_13 : y_chk eL_0 ek_X12_levelOf_13 eq_X12_levelOf_13 4000 0 = true := by decide +kernel
def ek_X12_levelOf_14 : YCt := (247, [.inr (.inr (33, (0, 0), (0, 0))), .inl (0, 14)], ([(48, 0, 272, .inl (15, 15))], []), [], [(some (.inl ((-2147483648), 2147483647)), [])], 41)
def eq_X12_levelOf_14 : List YCut := []
theorem et_X12_levelOf_14 : y_chk eL_0 ek_X12_levelOf_14 eq_X12_levelOf_14 4000 0 = true := by decide +kernel
def ek_X12_levelOf_15 : YCt := (247, [.inr (.inr (33, (0, 0), (0, 0))), .inl (0, 15)], ([(48, 0, 272, .inl (16, 16))], []), [], [(some (.inl ((-2147483648), 2147483647)), [])], 41)
def eq_X12_levelOf_15 : List YCut := []
theorem et_X12_levelOf_15 : y_chk eL_0 ek_X12_levelOf_15 eq_X12_levelOf_15 4000 0 = true := by decide +kernel
def ek_X12_levelOf_16 : YCt := (247, [.inr (.inr (33, (0, 0), (0, 0))), .inl (0, 16)], ([(48, 0, 272, .inl (17, 17))], []), [], [(some (.inl ((-2147483648), 2147483647)), [])], 41)
def eq_X12_levelOf_16 : List YCut := []
theorem et_X12_levelOf_16 : y_chk eL_0 ek_X12_levelOf_16 eq_X12_levelOf_16 4000 0 = true := by decide +kernel
def ek_X12_levelOf_17 : YCt := (247, [.inr (.inr (33, (0, 0), (0, 0))), .inl (0, 17)], ([(48, 0, 272, .inl (18, 18))], []), [], [(some (.inl ((-2147483648), 2147483647)), [])], 41)
def eq_X12_levelOf_17 : List YCut := []
theorem et_X12_levelOf_17 : y_chk eL_0 ek_X12_levelOf_17 eq_X12_levelOf_17 4000 0 = true := by decide +kernel
def ek_X12_levelOf_18 : YCt := (247, [.inr (.inr (33, (0, 0), (0, 0))), .inl (0, 18)], ([(48, 0, 272, .inl (19, 19))], []), [], [(some (.inl ((-2147483648), 2147483647)), [])], 41)
def eq_X12_levelOf_18 : List YCut := []
theorem et_X12_levelOf_18 : y_chk eL_0 ek_X12_levelOf_18 eq_X12_levelOf_18 4000 0 = true := by decide +kernel
def ek_X12_levelOf_19 : YCt := (247, [.inr (.inr (33, (0, 0), (0, 0))), .inl (0, 19)], ([(48, 0, 272, .inl (20, 20))], []), [], [(some (.inl ((-2147483648), 2147483647)), [])], 41)
def eq_X12_levelOf_19 : List YCut := []
theorem et_X12_levelOf_19 : y_chk eL_0 ek_X12_levelOf_19 eq_X12_levelOf_19 4000 0 = true := by decide +kernel
def eL_1 : List YCt := [ek_X12_at, ek_X12_runOf, ek_X12_levelOf, ek_X12_levelOf_1, ek_X12_levelOf_2, ek_X12_levelOf_3, ek_X12_levelOf_4, ek_X12_levelOf_5, ek_X12_levelOf_6, ek_X12_levelOf_7, ek_X12_levelOf_8, ek_X12_levelOf_9, ek_X12_levelOf_10, ek_X12_levelOf_11, ek_X12_levelOf_12, ek_X12_levelOf_13, ek_X12_levelOf_14, ek_X12_levelOf_15, ek_X12_levelOf_16, ek_X12_levelOf_17, ek_X12_levelOf_18, ek_X12_levelOf_19] ++ eL_0
theorem el_1 {X : LMem → Prop} (hX : y_cl X) (h : ∀ ct ∈ eL_0, y_con X ct) : ∀ ct ∈ eL_1, y_con X ct := List.forall_mem_cons.mpr ⟨y_chk_ok hX h et_X12_at, List.forall_mem_cons.mpr ⟨y_chk_ok hX h et_X12_runOf, List.forall_mem_cons.mpr ⟨y_chk_ok hX h et_X12_levelOf, List.forall_mem_cons.mpr ⟨y_chk_ok hX h et_X12_levelOf_1, List.forall_mem_cons.mpr ⟨y_chk_ok hX h et_X12_levelOf_2, List.forall_mem_cons.mpr ⟨y_chk_ok hX h et_X12_levelOf_3, List.forall_mem_cons.mpr ⟨y_chk_ok hX h et_X12_levelOf_4, List.forall_mem_cons.mpr ⟨y_chk_ok hX h et_X12_levelOf_5, List.forall_mem_cons.mpr ⟨y_chk_ok hX h et_X12_levelOf_6, List.forall_mem_cons.mpr ⟨y_chk_ok hX h et_X12_levelOf_7, List.forall_mem_cons.mpr ⟨y_chk_ok hX h et_X12_levelOf_8, List.forall_mem_cons.mpr ⟨y_chk_ok hX h et_X12_levelOf_9, List.forall_mem_cons.mpr ⟨y_chk_ok hX h et_X12_levelOf_10, List.forall_mem_cons.mpr ⟨y_chk_ok hX h et_X12_levelOf_11, List.forall_mem_cons.mpr ⟨y_chk_ok hX h et_X12_levelOf_12, List.forall_mem_cons.mpr ⟨y_chk_ok hX h et_X12_levelOf_13, List.forall_mem_cons.mpr ⟨y_chk_ok hX h et_X12_levelOf_14, List.forall_mem_cons.mpr ⟨y_chk_ok hX h et_X12_levelOf_15, List.forall_mem_cons.mpr ⟨y_chk_ok hX h et_X12_levelOf_16, List.forall_mem_cons.mpr ⟨y_chk_ok hX h et_X12_levelOf_17, List.forall_mem_cons.mpr ⟨y_chk_ok hX h et_X12_levelOf_18, List.forall_mem_cons.mpr ⟨y_chk_ok hX h et_X12_levelOf_19, h⟩⟩⟩⟩⟩⟩⟩⟩⟩⟩⟩⟩⟩⟩⟩⟩⟩⟩⟩⟩⟩⟩
def ek_X12_measure : YCt := (283, [.inr (.inr (33, (0, 0), (0, 0))), .inl (0, 3), .inl ((-1), 19)], ([(48, 0, 272, .inl (0, 0))], []), [(33, 0, 0, 29, 29), (33, 0, 0, 29, 30), (33, 0, 0, 31, 31), (33, 0, 0, 33, 33), (33, 0, 0, 43, 43), (33, 0, 0, 44, 44), (42, 0, 0, 0, 7), (43, 0, 0, 0, 79), (48, 0, 0, 0, 159), (48, 0, 0, 0, 278), (48, 0, 0, 260, 271), (48, 0, 0, 273, 276), (49, 0, 0, 0, 278), (51, 0, 0, 0, 20)], [(none, [])], 42)
def eq_X12_measure : List YCut := [(37, [some (.inr (.inr (33, (0, 0), (0, 0)))), none, none, some (.inl (0, 0)), none], [(48, 0, 272, .inl (0, 0))], [.inl 1, .inr (.inl (false, 0))])]
theorem et_X12_measure : y_chk eL_1 ek_X12_measure eq_X12_measure 4000 2 = true := by decide +kernel
def ek_X12_measure_1 : YCt := (283, [.inr (.inr (33, (0, 0), (0, 0))), .inl (0, 3), .inl ((-1), 19)], ([(48, 0, 272, .inl (1, 1))], []), [(33, 0, 0, 29, 29), (33, 0, 0, 29, 30), (33, 0, 0, 31, 31), (33, 0, 0, 33, 33), (33, 0, 0, 43, 43), (33, 0, 0, 44, 44), (42, 0, 0, 0, 7), (43, 0, 0, 0, 79), (48, 0, 0, 0, 159), (48, 0, 0, 0, 278), (48, 0, 0, 260, 271), (48, 0, 0, 273, 276), (49, 0, 0, 0, 278), (51, 0, 0, 0, 20)], [(none, [])], 42)
def eq_X12_measure_1 : List YCut := [(37, [some (.inr (.inr (33, (0, 0), (0, 0)))), none, none, some (.inl (0, 1)), none], [(48, 0, 272, .inl (1, 1))], [.inl 1, .inr (.inl (false, 3))])]
theorem et_X12_measure_1 : y_chk eL_1 ek_X12_measure_1 eq_X12_measure_1 4000 2 = true := by decide +kernel
def ek_X12_measure_2 : YCt := (283, [.inr (.inr (33, (0, 0), (0, 0))), .inl (0, 3), .inl ((-1), 19)], ([(48, 0, 272, .inl (2, 2))], []), [(33, 0, 0, 29, 29), (33, 0, 0, 29, 30), (33, 0, 0, 31, 31), (33, 0, 0, 33, 33), (33, 0, 0, 43, 43), (33, 0, 0, 44, 44), (42, 0, 0, 0, 7), (43, 0, 0, 0, 79), (48, 0, 0, 0, 159), (48, 0, 0, 0, 278), (48, 0, 0, 260, 271), (48, 0, 0, 273, 276), (49, 0, 0, 0, 278), (51, 0, 0, 0, 20)], [(none, [])], 42)
def eq_X12_measure_2 : List YCut := [(37, [some (.inr (.inr (33, (0, 0), (0, 0)))), none, none, some (.inl (0, 2)), none], [(48, 0, 272, .inl (2, 2))], [.inl 1, .inr (.inl (false, 3))])]
theorem et_X12_measure_2 : y_chk eL_1 ek_X12_measure_2 eq_X12_measure_2 4000 2 = true := by decide +kernel
def ek_X12_measure_3 : YCt := (283, [.inr (.inr (33, (0, 0), (0, 0))), .inl (0, 3), .inl ((-1), 19)], ([(48, 0, 272, .inl (3, 3))], []), [(33, 0, 0, 29, 29), (33, 0, 0, 29, 30), (33, 0, 0, 31, 31), (33, 0, 0, 33, 33), (33, 0, 0, 43, 43), (33, 0, 0, 44, 44), (42, 0, 0, 0, 7), (43, 0, 0, 0, 79), (48, 0, 0, 0, 159), (48, 0, 0, 0, 278), (48, 0, 0, 260, 271), (48, 0, 0, 273, 276), (49, 0, 0, 0, 278), (51, 0, 0, 0, 20)], [(none, [])], 42)
def eq_X12_measure_3 : List YCut := [(37, [some (.inr (.inr (33, (0, 0), (0, 0)))), none, none, some (.inl (0, 3)), none], [(48, 0, 272, .inl (3, 3))], [.inl 1, .inr (.inl (false, 3))])]
theorem et_X12_measure_3 : y_chk eL_1 ek_X12_measure_3 eq_X12_measure_3 4000 2 = true := by decide +kernel
def ek_X12_measure_4 : YCt := (283, [.inr (.inr (33, (0, 0), (0, 0))), .inl (0, 3), .inl ((-1), 19)], ([(48, 0, 272, .inl (4, 4))], []), [(33, 0, 0, 29, 29), (33, 0, 0, 29, 30), (33, 0, 0, 31, 31), (33, 0, 0, 33, 33), (33, 0, 0, 43, 43), (33, 0, 0, 44, 44), (42, 0, 0, 0, 7), (43, 0, 0, 0, 79), (48, 0, 0, 0, 159), (48, 0, 0, 0, 278), (48, 0, 0, 260, 271), (48, 0, 0, 273, 276), (49, 0, 0, 0, 278), (51, 0, 0, 0, 20)], [(none, [])], 42)
def eq_X12_measure_4 : List YCut := [(37, [some (.inr (.inr (33, (0, 0), (0, 0)))), none, none, some (.inl (0, 4)), none], [(48, 0, 272, .inl (4, 4))], [.inl 1, .inr (.inl (false, 3))])]
theorem et_X12_measure_4 : y_chk eL_1 ek_X12_measure_4 eq_X12_measure_4 4000 2 = true := by decide +kernel
def ek_X12_measure_5 : YCt := (283, [.inr (.inr (33, (0, 0), (0, 0))), .inl (0, 3), .inl ((-1), 19)], ([(48, 0, 272, .inl (5, 5))], []), [(33, 0, 0, 29, 29), (33, 0, 0, 29, 30), (33, 0, 0, 31, 31), (33, 0, 0, 33, 33), (33, 0, 0, 43, 43), (33, 0, 0, 44, 44), (42, 0, 0, 0, 7), (43, 0, 0, 0, 79), (48, 0, 0, 0, 159), (48, 0, 0, 0, 278), (48, 0, 0, 260, 271), (48, 0, 0, 273, 276), (49, 0, 0, 0, 278), (51, 0, 0, 0, 20)], [(none, [])], 42)
def eq_X12_measure_5 : List YCut := [(37, [some (.inr (.inr (33, (0, 0), (0, 0)))), none, none, some (.inl (0, 5)), none], [(48, 0, 272, .inl (5, 5))], [.inl 1, .inr (.inl (false, 3))])]
theorem et_X12_measure_5 : y_chk eL_1 ek_X12_measure_5 eq_X12_measure_5 4000 2 = true := by decide +kernel
def ek_X12_measure_6 : YCt := (283, [.inr (.inr (33, (0, 0), (0, 0))), .inl (0, 3), .inl ((-1), 19)], ([(48, 0, 272, .inl (6, 6))], []), [(33, 0, 0, 29, 29), (33, 0, 0, 29, 30), (33, 0, 0, 31, 31), (33, 0, 0, 33, 33), (33, 0, 0, 43, 43), (33, 0, 0, 44, 44), (42, 0, 0, 0, 7), (43, 0, 0, 0, 79), (48, 0, 0, 0, 159), (48, 0, 0, 0, 278), (48, 0, 0, 260, 271), (48, 0, 0, 273, 276), (49, 0, 0, 0, 278), (51, 0, 0, 0, 20)], [(none, [])], 42)
def eq_X12_measure_6 : List YCut := [(37, [some (.inr (.inr (33, (0, 0), (0, 0)))), none, none, some (.inl (0, 6)), none], [(48, 0, 272, .inl (6, 6))], [.inl 1, .inr (.inl (false, 3))])]
theorem et_X12_measure_6 : y_chk eL_1 ek_X12_measure_6 eq_X12_measure_6 4000 2 = true := by decide +kernel
def ek_X12_measure_7 : YCt := (283, [.inr (.inr (33, (0, 0), (0, 0))), .inl (0, 3), .inl ((-1), 19)], ([(48, 0, 272, .inl (7, 7))], []), [(33, 0, 0, 29, 29), (33, 0, 0, 29, 30), (33, 0, 0, 31, 31), (33, 0, 0, 33, 33), (33, 0, 0, 43, 43), (33, 0, 0, 44, 44), (42, 0, 0, 0, 7), (43, 0, 0, 0, 79), (48, 0, 0, 0, 159), (48, 0, 0, 0, 278), (48, 0, 0, 260, 271), (48, 0, 0, 273, 276), (49, 0, 0, 0, 278), (51, 0, 0, 0, 20)], [(none, [])], 42)
def eq_X12_measure_7 : List YCut := [(37, [some (.inr (.inr (33, (0, 0), (0, 0)))), none, none, some (.inl (0, 7)), none], [(48, 0, 272, .inl (7, 7))], [.inl 1, .inr (.inl (false, 3))])]
theorem et_X12_measure_7 : y_chk eL_1 ek_X12_measure_7 eq_X12_measure_7 4000 2 = true := by decide +kernel
def ek_X12_measure_8 : YCt := (283, [.inr (.inr (33, (0, 0), (0, 0))), .inl (0, 3), .inl ((-1), 19)], ([(48, 0, 272, .inl (8, 8))], []), [(33, 0, 0, 29, 29), (33, 0, 0, 29, 30), (33, 0, 0, 31, 31), (33, 0, 0, 33, 33), (33, 0, 0, 43, 43), (33, 0, 0, 44, 44), (42, 0, 0, 0, 7), (43, 0, 0, 0, 79), (48, 0, 0, 0, 159), (48, 0, 0, 0, 278), (48, 0, 0, 260, 271), (48, 0, 0, 273, 276), (49, 0, 0, 0, 278), (51, 0, 0, 0, 20)], [(none, [])], 42)
def eq_X12_measure_8 : List YCut := [(37, [some (.inr (.inr (33, (0, 0), (0, 0)))), none, none, some (.inl (0, 8)), none], [(48, 0, 272, .inl (8, 8))], [.inl 1, .inr (.inl (false, 3))])]
theorem et_X12_measure_8 : y_chk eL_1 ek_X12_measure_8 eq_X12_measure_8 4000 2 = true := by decide +kernel
def ek_X12_measure_9 : YCt := (283, [.inr (.inr (33, (0, 0), (0, 0))), .inl (0, 3), .inl ((-1), 19)], ([(48, 0, 272, .inl (9, 9))], []), [(33, 0, 0, 29, 29), (33, 0, 0, 29, 30), (33, 0, 0, 31, 31), (33, 0, 0, 33, 33), (33, 0, 0, 43, 43), (33, 0, 0, 44, 44), (42, 0, 0, 0, 7), (43, 0, 0, 0, 79), (48, 0, 0, 0, 159), (48, 0, 0, 0, 278), (48, 0, 0, 260, 271), (48, 0, 0, 273, 276), (49, 0, 0, 0, 278), (51, 0, 0, 0, 20)], [(none, [])], 42)
def eq_X12_measure_9 : List YCut := [(37, [some (.inr (.inr (33, (0, 0), (0, 0)))), none, none, some (.inl (0, 9)), none], [(48, 0, 272, .inl (9, 9))], [.inl 1, .inr (.inl (false, 3))])]
theorem et_X12_measure_9 : y_chk eL_1 ek_X12_measure_9 eq_X12_measure_9 4000 2 = true := by decide +kernel
def ek_X12_measure_10 : YCt := (283, [.inr (.inr (33, (0, 0), (0, 0))), .inl (0, 3), .inl ((-1), 19)], ([(48, 0, 272, .inl (10, 10))], []), [(33, 0, 0, 29, 29), (33, 0, 0, 29, 30), (33, 0, 0, 31, 31), (33, 0, 0, 33, 33), (33, 0, 0, 43, 43), (33, 0, 0, 44, 44), (42, 0, 0, 0, 7), (43, 0, 0, 0, 79), (48, 0, 0, 0, 159), (48, 0, 0, 0, 278), (48, 0, 0, 260, 271), (48, 0, 0, 273, 276), (49, 0, 0, 0, 278), (51, 0, 0, 0, 20)], [(none, [])], 42)
def eq_X12_measure_10 : List YCut := [(37, [some (.inr (.inr (33, (0, 0), (0, 0)))), none, none, some (.inl (0, 10)), none], [(48, 0, 272, .inl (10, 10))], [.inl 1, .inr (.inl (false, 3))])]
theorem et_X12_measure_10 : y_chk eL_1 ek_X12_measure_10 eq_X12_measure_10 4000 2 = true := by decide +kernel
def ek_X12_measure_11 : YCt := (283, [.inr (.inr (33, (0, 0), (0, 0))), .inl (0, 3), .inl ((-1), 19)], ([(48, 0, 272, .inl (11, 11))], []), [(33, 0, 0, 29, 29), (33, 0, 0, 29, 30), (33, 0, 0, 31, 31), (33, 0, 0, 33, 33), (33, 0, 0, 43, 43), (33, 0, 0, 44, 44), (42, 0, 0, 0, 7), (43, 0, 0, 0, 79), (48, 0, 0, 0, 159), (48, 0, 0, 0, 278), (48, 0, 0, 260, 271), (48, 0, 0, 273, 276), (49, 0, 0, 0, 278), (51, 0, 0, 0, 20)], [(none, [])], 42)
def eq_X12_measure_11 : List YCut := [(37, [some (.inr (.inr (33, (0, 0), (0, 0)))), none, none, some (.inl (0, 11)), none], [(48, 0, 272, .inl (11, 11))], [.inl 1, .inr (.inl (false, 3))])]
theorem et_X12_measure_11 : y_chk eL_1 ek_X12_measure_11 eq_X12_measure_11 4000 2 = true := by decide +kernel
def ek_X12_measure_12 : YCt := (283, [.inr (.inr (33, (0, 0), (0, 0))), .inl (0, 3), .inl ((-1), 19)], ([(48, 0, 272, .inl (12, 12))], []), [(33, 0, 0, 29, 29), (33, 0, 0, 29, 30), (33, 0, 0, 31, 31), (33, 0, 0, 33, 33), (33, 0, 0, 43, 43), (33, 0, 0, 44, 44), (42, 0, 0, 0, 7), (43, 0, 0, 0, 79), (48, 0, 0, 0, 159), (48, 0, 0, 0, 278), (48, 0, 0, 260, 271), (48, 0, 0, 273, 276), (49, 0, 0, 0, 278), (51, 0, 0, 0, 20)], [(none, [])], 42)
def eq_X12_measure_12 : List YCut := [(37, [some (.inr (.inr (33, (0, 0), (0, 0)))), none, none, some (.inl (0, 12)), none], [(48, 0, 272, .inl (12, 12))], [.inl 1, .inr (.inl (false, 3))])]
theorem et_X12_measure_12 : y_chk eL_1 ek_X12_measure_12 eq_X12_measure_12 4000 2 = true := by decide +kernel
def ek_X12_measure_13 : YCt := (283, [.inr (.inr (33, (0, 0), (0, 0))), .inl (0, 3), .inl ((-1), 19)], ([(48, 0, 272, .inl (13, 13))], []), [(33, 0, 0, 29, 29), (33, 0, 0, 29, 30), (33, 0, 0, 31, 31), (33, 0, 0, 33, 33), (33, 0, 0, 43, 43), (33, 0, 0, 44, 44), (42, 0, 0, 0, 7), (43, 0, 0, 0, 79), (48, 0, 0, 0, 159), (48, 0, 0, 0, 278), (48, 0, 0, 260, 271), (48, 0, 0, 273, 276), (49, 0, 0, 0, 278), (51, 0, 0, 0, 20)], [(none, [])], 42)
def eq_X12_measure_13 : List YCut := [(37, [some (.inr (.inr (33, (0, 0), (0, 0)))), none, none, some (.inl (0, 13)), none], [(48, 0, 272, .inl (13, 13))], [.inl 1, .inr (.inl (false, 3))])]
theorem et_X12_measure_13 : y_chk eL_1 ek_X12_measure_13 eq_X12_measure_13 4000 2 = true := by decide +kernel
def ek_X12_measure_14 : YCt := (283, [.inr (.inr (33, (0, 0), (0, 0))), .inl (0, 3), .inl ((-1), 19)], ([(48, 0, 272, .inl (14, 14))], []), [(33, 0, 0, 29, 29), (33, 0, 0, 29, 30), (33, 0, 0, 31, 31), (33, 0, 0, 33, 33), (33, 0, 0, 43, 43), (33, 0, 0, 44, 44), (42, 0, 0, 0, 7), (43, 0, 0, 0, 79), (48, 0, 0, 0, 159), (48, 0, 0, 0, 278), (48, 0, 0, 260, 271), (48, 0, 0, 273, 276), (49, 0, 0, 0, 278), (51, 0, 0, 0, 20)], [(none, [])], 42)
def eq_X12_measure_14 : List YCut := [(37, [some (.inr (.inr (33, (0, 0), (0, 0)))), none, none, some (.inl (0, 14)), none], [(48, 0, 272, .inl (14, 14))], [.inl 1, .inr (.inl (false, 3))])]
theorem et_X12_measure_14 : y_chk eL_1 ek_X12_measure_14 eq_X12_measure_14 4000 2 = true := by decide +kernel
def ek_X12_measure_15 : YCt := (283, [.inr (.inr (33, (0, 0), (0, 0))), .inl (0, 3), .inl ((-1), 19)], ([(48, 0, 272, .inl (15, 15))], []), [(33, 0, 0, 29, 29), (33, 0, 0, 29, 30), (33, 0, 0, 31, 31), (33, 0, 0, 33, 33), (33, 0, 0, 43, 43), (33, 0, 0, 44, 44), (42, 0, 0, 0, 7), (43, 0, 0, 0, 79), (48, 0, 0, 0, 159), (48, 0, 0, 0, 278), (48, 0, 0, 260, 271), (48, 0, 0, 273, 276), (49, 0, 0, 0, 278), (51, 0, 0, 0, 20)], [(none, [])], 42)
def eq_X12_measure_15 : List YCut := [(37, [some (.inr (.inr (33, (0, 0), (0, 0)))), none, none, some (.inl (0, 15)), none], [(48, 0, 272, .inl (15, 15))], [.inl 1, .inr (.inl (false, 3))])]
theorem et_X12_measure_15 : y_chk eL_1 ek_X12_measure_15 eq_X12_measure_15 4000 2 = true := by decide +kernel
def ek_X12_measure_16 : YCt := (283, [.inr (.inr (33, (0, 0), (0, 0))), .inl (0, 3), .inl ((-1), 19)], ([(48, 0, 272, .inl (16, 16))], []), [(33, 0, 0, 29, 29), (33, 0, 0, 29, 30), (33, 0, 0, 31, 31), (33, 0, 0, 33, 33), (33, 0, 0, 43, 43), (33, 0, 0, 44, 44), (42, 0, 0, 0, 7), (43, 0, 0, 0, 79), (48, 0, 0, 0, 159), (48, 0, 0, 0, 278), (48, 0, 0, 260, 271), (48, 0, 0, 273, 276), (49, 0, 0, 0, 278), (51, 0, 0, 0, 20)], [(none, [])], 42)
def eq_X12_measure_16 : List YCut := [(37, [some (.inr (.inr (33, (0, 0), (0, 0)))), none, none, some (.inl (0, 16)), none], [(48, 0, 272, .inl (16, 16))], [.inl 1, .inr (.inl (false, 3))])]
theorem et_X12_measure_16 : y_chk eL_1 ek_X12_measure_16 eq_X12_measure_16 4000 2 = true := by decide +kernel
def ek_X12_measure_17 : YCt := (283, [.inr (.inr (33, (0, 0), (0, 0))), .inl (0, 3), .inl ((-1), 19)], ([(48, 0, 272, .inl (17, 17))], []), [(33, 0, 0, 29, 29), (33, 0, 0, 29, 30), (33, 0, 0, 31, 31), (33, 0, 0, 33, 33), (33, 0, 0, 43, 43), (33, 0, 0, 44, 44), (42, 0, 0, 0, 7), (43, 0, 0, 0, 79), (48, 0, 0, 0, 159), (48, 0, 0, 0, 278), (48, 0, 0, 260, 271), (48, 0, 0, 273, 276), (49, 0, 0, 0, 278), (51, 0, 0, 0, 20)], [(none, [])], 42)
def eq_X12_measure_17 : List YCut := [(37, [some (.inr (.inr (33, (0, 0), (0, 0)))), none, none, some (.inl (0, 17)), none], [(48, 0, 272, .inl (17, 17))], [.inl 1, .inr (.inl (false, 3))])]
theorem et_X12_measure_17 : y_chk eL_1 ek_X12_measure_17 eq_X12_measure_17 4000 2 = true := by decide +kernel
def ek_X12_measure_18 : YCt := (283, [.inr (.inr (33, (0, 0), (0, 0))), .inl (0, 3), .inl ((-1), 19)], ([(48, 0, 272, .inl (18, 18))], []), [(33, 0, 0, 29, 29), (33, 0, 0, 29, 30), (33, 0, 0, 31, 31), (33, 0, 0, 33, 33), (33, 0, 0, 43, 43), (33, 0, 0, 44, 44), (42, 0, 0, 0, 7), (43, 0, 0, 0, 79), (48, 0, 0, 0, 159), (48, 0, 0, 0, 278), (48, 0, 0, 260, 271), (48, 0, 0, 273, 276), (49, 0, 0, 0, 278), (51, 0, 0, 0, 20)], [(none, [])], 42)
def eq_X12_measure_18 : List YCut := [(37, [some (.inr (.inr (33, (0, 0), (0, 0)))), none, none, some (.inl (0, 18)), none], [(48, 0, 272, .inl (18, 18))], [.inl 1, .inr (.inl (false, 3))])]
theorem et_X12_measure_18 : y_chk eL_1 ek_X12_measure_18 eq_X12_measure_18 4000 2 = true := by decide +kernel
def ek_X12_measure_19 : YCt := (283, [.inr (.inr (33, (0, 0), (0, 0))), .inl (0, 3), .inl ((-1), 19)], ([(48, 0, 272, .inl (19, 19))], []), [(33, 0, 0, 29, 29), (33, 0, 0, 29, 30), (33, 0, 0, 31, 31), (33, 0, 0, 33, 33), (33, 0, 0, 43, 43), (33, 0, 0, 44, 44), (42, 0, 0, 0, 7), (43, 0, 0, 0, 79), (48, 0, 0, 0, 159), (48, 0, 0, 0, 278), (48, 0, 0, 260, 271), (48, 0, 0, 273, 276), (49, 0, 0, 0, 278), (51, 0, 0, 0, 20)], [(none, [])], 42)
def eq_X12_measure_19 : List YCut := [(37, [some (.inr (.inr (33, (0, 0), (0, 0)))), none, none, some (.inl (0, 19)), none], [(48, 0, 272, .inl (19, 19))], [.inl 1, .inr (.inl (false, 3))])]
theorem et_X12_measure_19 : y_chk eL_1 ek_X12_measure_19 eq_X12_measure_19 4000 2 = true := by decide +kernel
def ek_X12_measure_20 : YCt := (283, [.inr (.inr (33, (0, 0), (0, 0))), .inl (0, 3), .inl ((-1), 19)], ([(48, 0, 272, .inl (20, 20))], []), [(33, 0, 0, 29, 29), (33, 0, 0, 29, 30), (33, 0, 0, 31, 31), (33, 0, 0, 33, 33), (33, 0, 0, 43, 43), (33, 0, 0, 44, 44), (42, 0, 0, 0, 7), (43, 0, 0, 0, 79), (48, 0, 0, 0, 159), (48, 0, 0, 0, 278), (48, 0, 0, 260, 271), (48, 0, 0, 273, 276), (49, 0, 0, 0, 278), (51, 0, 0, 0, 20)], [(none, [])], 42)
def eq_X12_measure_20 : List YCut := [(37, [some (.inr (.inr (33, (0, 0), (0, 0)))), none, none, some (.inl (0, 20)), none], [(48, 0, 272, .inl (20, 20))], [.inl 1, .inr (.inl (false, 3))])]
theorem et_X12_measure_20 : y_chk eL_1 ek_X12_measure_20 eq_X12_measure_20 4000 2 = true := by decide +kernel
def ek_X12_at_1 : YCt := (257, [.inr (.inr (33, (0, 0), (0, 0))), .inl ((-2147483648), 2147483647), .inl ((-2147483648), 2147483647)], ([(48, 0, 272, .inl (1, 1))], []), [], [(some (.inl ((-2147483648), 2147483647)), [])], 43)
def eq_X12_at_1 : List YCut := []
theorem et_X12_at_1 : y_chk eL_1 ek_X12_at_1 eq_X12_at_1 4000 0 = true := by decide +kernel
def ek_X12_at_2 : YCt := (257, [.inr (.inr (33, (0, 0), (0, 0))), .inl ((-2147483648), 2147483647), .inl ((-2147483648), 2147483647)], ([(48, 0, 272, .inl (2, 2))], []), [], [(some (.inl ((-2147483648), 2147483647)), [])], 43)
def eq_X12_at_2 : List YCut := []
theorem et_X12_at_2 : y_chk eL_1 ek_X12_at_2 eq_X12_at_2 4000 0 = true := by decide +kernel
def ek_X12_at_3 : YCt := (257, [.inr (.inr (33, (0, 0), (0, 0))), .inl ((-2147483648), 2147483647), .inl ((-2147483648), 2147483647)], ([(48, 0, 272, .inl (3, 3))], []), [], [(some (.inl ((-2147483648), 2147483647)), [])], 43)
def eq_X12_at_3 : List YCut := []
theorem et_X12_at_3 : y_chk eL_1 ek_X12_at_3 eq_X12_at_3 4000 0 = true := by decide +kernel
def ek_X12_at_4 : YCt := (257, [.inr (.inr (33, (0, 0), (0, 0))), .inl ((-2147483648), 2147483647), .inl ((-2147483648), 2147483647)], ([(48, 0, 272, .inl (4, 4))], []), [], [(some (.inl ((-2147483648), 2147483647)), [])], 43)
def eq_X12_at_4 : List YCut := []
theorem et_X12_at_4 : y_chk eL_1 ek_X12_at_4 eq_X12_at_4 4000 0 = true := by decide +kernel
def ek_X12_at_5 : YCt := (257, [.inr (.inr (33, (0, 0), (0, 0))), .inl ((-2147483648), 2147483647), .inl ((-2147483648), 2147483647)], ([(48, 0, 272, .inl (5, 5))], []), [], [(some (.inl ((-2147483648), 2147483647)), [])], 43)
def eq_X12_at_5 : List YCut := []
theorem et_X12_at_5 : y_chk eL_1 ek_X12_at_5 eq_X12_at_5 4000 0 = true := by decide +kernel
def ek_X12_at_6 : YCt := (257, [.inr (.inr (33, (0, 0), (0, 0))), .inl ((-2147483648), 2147483647), .inl ((-2147483648), 2147483647)], ([(48, 0, 272, .inl (6, 6))], []), [], [(some (.inl ((-2147483648), 2147483647)), [])], 43)
def eq_X12_at_6 : List YCut := []
theorem et_X12_at_6 : y_chk eL_1 ek_X12_at_6 eq_X12_at_6 4000 0 = true := by decide +kernel
def ek_X12_at_7 : YCt := (257, [.inr (.inr (33, (0, 0), (0, 0))), .inl ((-2147483648), 2147483647), .inl ((-2147483648), 2147483647)], ([(48, 0, 272, .inl (7, 7))], []), [], [(some (.inl ((-2147483648), 2147483647)), [])], 43)
def eq_X12_at_7 : List YCut := []
theorem et_X12_at_7 : y_chk eL_1 ek_X12_at_7 eq_X12_at_7 4000 0 = true := by decide +kernel
def ek_X12_at_8 : YCt := (257, [.inr (.inr (33, (0, 0), (0, 0))), .inl ((-2147483648), 2147483647), .inl ((-2147483648), 2147483647)], ([(48, 0, 272, .inl (8, 8))], []), [], [(some (.inl ((-2147483648), 2147483647)), [])], 43)
def eq_X12_at_8 : List YCut := []
theorem et_X12_at_8 : y_chk eL_1 ek_X12_at_8 eq_X12_at_8 4000 0 = true := by decide +kernel
def ek_X12_at_9 : YCt := (257, [.inr (.inr (33, (0, 0), (0, 0))), .inl ((-2147483648), 2147483647), .inl ((-2147483648), 2147483647)], ([(48, 0, 272, .inl (9, 9))], []), [], [(some (.inl ((-2147483648), 2147483647)), [])], 43)
def eq_X12_at_9 : List YCut := []
theorem et_X12_at_9 : y_chk eL_1 ek_X12_at_9 eq_X12_at_9 4000 0 = true := by decide +kernel
def ek_X12_at_10 : YCt := (257, [.inr (.inr (33, (0, 0), (0, 0))), .inl ((-2147483648), 2147483647), .inl ((-2147483648), 2147483647)], ([(48, 0, 272, .inl (10, 10))], []), [], [(some (.inl ((-2147483648), 2147483647)), [])], 43)
def eq_X12_at_10 : List YCut := []
theorem et_X12_at_10 : y_chk eL_1 ek_X12_at_10 eq_X12_at_10 4000 0 = true := by decide +kernel
def ek_X12_at_11 : YCt := (257, [.inr (.inr (33, (0, 0), (0, 0))), .inl ((-2147483648), 2147483647), .inl ((-2147483648), 2147483647)], ([(48, 0, 272, .inl (11, 11))], []), [], [(some (.inl ((-2147483648), 2147483647)), [])], 43)
def eq_X12_at_11 : List YCut := []
theorem et_X12_at_11 : y_chk eL_1 ek_X12_at_11 eq_X12_at_11 4000 0 = true := by decide +kernel
def ek_X12_at_12 : YCt := (257, [.inr (.inr (33, (0, 0), (0, 0))), .inl ((-2147483648), 2147483647), .inl ((-2147483648), 2147483647)], ([(48, 0, 272, .inl (12, 12))], []), [], [(some (.inl ((-2147483648), 2147483647)), [])], 43)
def eq_X12_at_12 : List YCut := []
theorem et_X12_at_12 : y_chk eL_1 ek_X12_at_12 eq_X12_at_12 4000 0 = true := by decide +kernel
def ek_X12_at_13 : YCt := (257, [.inr (.inr (33, (0, 0), (0, 0))), .inl ((-2147483648), 2147483647), .inl ((-2147483648), 2147483647)], ([(48, 0, 272, .inl (13, 13))], []), [], [(some (.inl ((-2147483648), 2147483647)), [])], 43)
def eq_X12_at_13 : List YCut := []
theorem et_X12_at_13 : y_chk eL_1 ek_X12_at_13 eq_X12_at_13 4000 0 = true := by decide +kernel
def ek_X12_at_14 : YCt := (257, [.inr (.inr (33, (0, 0), (0, 0))), .inl ((-2147483648), 2147483647), .inl ((-2147483648), 2147483647)], ([(48, 0, 272, .inl (14, 14))], []), [], [(some (.inl ((-2147483648), 2147483647)), [])], 43)
def eq_X12_at_14 : List YCut := []
theorem et_X12_at_14 : y_chk eL_1 ek_X12_at_14 eq_X12_at_14 4000 0 = true := by decide +kernel
def ek_X12_at_15 : YCt := (257, [.inr (.inr (33, (0, 0), (0, 0))), .inl ((-2147483648), 2147483647), .inl ((-2147483648), 2147483647)], ([(48, 0, 272, .inl (15, 15))], []), [], [(some (.inl ((-2147483648), 2147483647)), [])], 43)
def eq_X12_at_15 : List YCut := []
theorem et_X12_at_15 : y_chk eL_1 ek_X12_at_15 eq_X12_at_15 4000 0 = true := by decide +kernel
def ek_X12_at_16 : YCt := (257, [.inr (.inr (33, (0, 0), (0, 0))), .inl ((-2147483648), 2147483647), .inl ((-2147483648), 2147483647)], ([(48, 0, 272, .inl (16, 16))], []), [], [(some (.inl ((-2147483648), 2147483647)), [])], 43)
def eq_X12_at_16 : List YCut := []
theorem et_X12_at_16 : y_chk eL_1 ek_X12_at_16 eq_X12_at_16 4000 0 = true := by decide +kernel
def ek_X12_at_17 : YCt := (257, [.inr (.inr (33, (0, 0), (0, 0))), .inl ((-2147483648), 2147483647), .inl ((-2147483648), 2147483647)], ([(48, 0, 272, .inl (17, 17))], []), [], [(some (.inl ((-2147483648), 2147483647)), [])], 43)
def eq_X12_at_17 : List YCut := []
theorem et_X12_at_17 : y_chk eL_1 ek_X12_at_17 eq_X12_at_17 4000 0 = true := by decide +kernel
def ek_X12_at_18 : YCt := (257, [.inr (.inr (33, (0, 0), (0, 0))), .inl ((-2147483648), 2147483647), .inl ((-2147483648), 2147483647)], ([(48, 0, 272, .inl (18, 18))], []), [], [(some (.inl ((-2147483648), 2147483647)), [])], 43)
def eq_X12_at_18 : List YCut := []
theorem et_X12_at_18 : y_chk eL_1 ek_X12_at_18 eq_X12_at_18 4000 0 = true := by decide +kernel
def ek_X12_at_19 : YCt := (257, [.inr (.inr (33, (0, 0), (0, 0))), .inl ((-2147483648), 2147483647), .inl ((-2147483648), 2147483647)], ([(48, 0, 272, .inl (19, 19))], []), [], [(some (.inl ((-2147483648), 2147483647)), [])], 43)
def eq_X12_at_19 : List YCut := []
theorem et_X12_at_19 : y_chk eL_1 ek_X12_at_19 eq_X12_at_19 4000 0 = true := by decide +kernel
def ek_X12_at_20 : YCt := (257, [.inr (.inr (33, (0, 0), (0, 0))), .inl ((-2147483648), 2147483647), .inl ((-2147483648), 2147483647)], ([(48, 0, 272, .inl (20, 20))], []), [], [(some (.inl ((-2147483648), 2147483647)), [])], 43)
def eq_X12_at_20 : List YCut := []
theorem et_X12_at_20 : y_chk eL_1 ek_X12_at_20 eq_X12_at_20 4000 0 = true := by decide +kernel
def eL_2 : List YCt := [ek_X12_measure, ek_X12_measure_1, ek_X12_measure_2, ek_X12_measure_3, ek_X12_measure_4, ek_X12_measure_5, ek_X12_measure_6, ek_X12_measure_7, ek_X12_measure_8, ek_X12_measure_9, ek_X12_measure_10, ek_X12_measure_11, ek_X12_measure_12, ek_X12_measure_13, ek_X12_measure_14, ek_X12_measure_15, ek_X12_measure_16, ek_X12_measure_17, ek_X12_measure_18, ek_X12_measure_19, ek_X12_measure_20, ek_X12_at_1, ek_X12_at_2, ek_X12_at_3, ek_X12_at_4, ek_X12_at_5, ek_X12_at_6, ek_X12_at_7, ek_X12_at_8, ek_X12_at_9, ek_X12_at_10, ek_X12_at_11, ek_X12_at_12, ek_X12_at_13, ek_X12_at_14, ek_X12_at_15, ek_X12_at_16, ek_X12_at_17, ek_X12_at_18, ek_X12_at_19, ek_X12_at_20] ++ eL_1
theorem el_2 {X : LMem → Prop} (hX : y_cl X) (h : ∀ ct ∈ eL_1, y_con X ct) : ∀ ct ∈ eL_2, y_con X ct := List.forall_mem_cons.mpr ⟨y_chk_ok hX h et_X12_measure, List.forall_mem_cons.mpr ⟨y_chk_ok hX h et_X12_measure_1, List.forall_mem_cons.mpr ⟨y_chk_ok hX h et_X12_measure_2, List.forall_mem_cons.mpr ⟨y_chk_ok hX h et_X12_measure_3, List.forall_mem_cons.mpr ⟨y_chk_ok hX h et_X12_measure_4, List.forall_mem_cons.mpr ⟨y_chk_ok hX h et_X12_measure_5, List.forall_mem_cons.mpr ⟨y_chk_ok hX h et_X12_measure_6, List.forall_mem_cons.mpr ⟨y_chk_ok hX h et_X12_measure_7, List.forall_mem_cons.mpr ⟨y_chk_ok hX h et_X12_measure_8, List.forall_mem_cons.mpr ⟨y_chk_ok hX h et_X12_measure_9, List.forall_mem_cons.mpr ⟨y_chk_ok hX h et_X12_measure_10, List.forall_mem_cons.mpr ⟨y_chk_ok hX h et_X12_measure_11, List.forall_mem_cons.mpr ⟨y_chk_ok hX h et_X12_measure_12, List.forall_mem_cons.mpr ⟨y_chk_ok hX h et_X12_measure_13, List.forall_mem_cons.mpr ⟨y_chk_ok hX h et_X12_measure_14, List.forall_mem_cons.mpr ⟨y_chk_ok hX h et_X12_measure_15, List.forall_mem_cons.mpr ⟨y_chk_ok hX h et_X12_measure_16, List.forall_mem_cons.mpr ⟨y_chk_ok hX h et_X12_measure_17, List.forall_mem_cons.mpr ⟨y_chk_ok hX h et_X12_measure_18, List.forall_mem_cons.mpr ⟨y_chk_ok hX h et_X12_measure_19, List.forall_mem_cons.mpr ⟨y_chk_ok hX h et_X12_measure_20, List.forall_mem_cons.mpr ⟨y_chk_ok hX h et_X12_at_1, List.forall_mem_cons.mpr ⟨y_chk_ok hX h et_X12_at_2, List.forall_mem_cons.mpr ⟨y_chk_ok hX h et_X12_at_3, List.forall_mem_cons.mpr ⟨y_chk_ok hX h et_X12_at_4, List.forall_mem_cons.mpr ⟨y_chk_ok hX h et_X12_at_5, List.forall_mem_cons.mpr ⟨y_chk_ok hX h et_X12_at_6, List.forall_mem_cons.mpr ⟨y_chk_ok hX h et_X12_at_7, List.forall_mem_cons.mpr ⟨y_chk_ok hX h et_X12_at_8, List.forall_mem_cons.mpr ⟨y_chk_ok hX h et_X12_at_9, List.forall_mem_cons.mpr ⟨y_chk_ok hX h et_X12_at_10, List.forall_mem_cons.mpr ⟨y_chk_ok hX h et_X12_at_11, List.forall_mem_cons.mpr ⟨y_chk_ok hX h et_X12_at_12, List.forall_mem_cons.mpr ⟨y_chk_ok hX h et_X12_at_13, List.forall_mem_cons.mpr ⟨y_chk_ok hX h et_X12_at_14, List.forall_mem_cons.mpr ⟨y_chk_ok hX h et_X12_at_15, List.forall_mem_cons.mpr ⟨y_chk_ok hX h et_X12_at_16, List.forall_mem_cons.mpr ⟨y_chk_ok hX h et_X12_at_17, List.forall_mem_cons.mpr ⟨y_chk_ok hX h et_X12_at_18, List.forall_mem_cons.mpr ⟨y_chk_ok hX h et_X12_at_19, List.forall_mem_cons.mpr ⟨y_chk_ok hX h et_X12_at_20, h⟩⟩⟩⟩⟩⟩⟩⟩⟩⟩⟩⟩⟩⟩⟩⟩⟩⟩⟩⟩⟩⟩⟩⟩⟩⟩⟩⟩⟩⟩⟩⟩⟩⟩⟩⟩⟩⟩⟩⟩⟩
