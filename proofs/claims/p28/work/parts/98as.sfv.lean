/-! SAFE CALLS, method by method; both tapes stay the same. -/
theorem sfv_X12_all (a0 : Int32) {s : LMem} {Q : LPost} (hJ : zV s) (h : lqv s Q) : qC false 1200 259 [lR 33 (some 0), lI a0] s Q :=
  sf_conv (y_all x_X_cl h_all0 yk_X12_all (List.mem_of_getElem? (i := 152) rfl)) (by decide +kernel) rfl (As := [lR 33 (some 0), lI a0]) ⟨y_rcv, z_in_top _, trivial⟩ hJ h
theorem sfv_X12_at (a0 : Int32) (a1 : Int32) {s : LMem} {Q : LPost} (hJ : zV s) (h : lqv s Q) : qC false 1200 257 [lR 33 (some 0), lI a0, lI a1] s Q :=
  sf_conv h_X12_at (by decide +kernel) rfl (As := [lR 33 (some 0), lI a0, lI a1]) ⟨y_rcv, z_in_top _, z_in_top _, trivial⟩ hJ h
theorem sfv_X12_banks (a0 : Int32) (a1 : Int32) (a2 : Int32) (a3 : Int32) {s : LMem} {Q : LPost} (hJ : zV s) (h : lqv s Q) : qC false 1200 309 [lR 33 (some 0), lI a0, lI a1, lI a2, lI a3] s Q :=
  sf_convR (fun s0 => v_all (xR_cl (s0 := s0) (V := []) rfl) (v_hand s0) vk_X12_banks (List.mem_of_getElem? (i := 12) rfl)) (by decide +kernel) rfl (As := [lR 33 (some 0), lI a0, lI a1, lI a2, lI a3]) ⟨y_rcv, z_in_top _, z_in_top _, z_in_top _, z_in_top _, trivial⟩ hJ h
theorem sfv_X12_best (a0 : Int32) (a1 : Int32) (a2 : Int32) (a3 : Int32) {s : LMem} {Q : LPost} (hJ : zV s) (h : lqv s Q) : qC false 1200 281 [lR 33 (some 0), lI a0, lI a1, lI a2, lI a3] s Q :=
  sf_convR (fun s0 => v_all (xR_cl (s0 := s0) (V := []) rfl) (v_hand s0) vk_X12_best (List.mem_of_getElem? (i := 1) rfl)) (by decide +kernel) rfl (As := [lR 33 (some 0), lI a0, lI a1, lI a2, lI a3]) ⟨y_rcv, z_in_top _, z_in_top _, z_in_top _, z_in_top _, trivial⟩ hJ h
theorem sfv_X12_clean (a0 : Int32) {s : LMem} {Q : LPost} (hJ : zV s) (h : lqv s Q) : qC false 1200 263 [lR 33 (some 0), lI a0] s Q :=
  sf_conv (y_all x_X_cl h_all0 yk_X12_clean (List.mem_of_getElem? (i := 154) rfl)) (by decide +kernel) rfl (As := [lR 33 (some 0), lI a0]) ⟨y_rcv, z_in_top _, trivial⟩ hJ h
theorem sfv_X12_costs (a0 : Int32) (a1 : Int32) (a2 : Int32) {s : LMem} {Q : LPost} (hJ : zV s) (h : lqv s Q) : qC false 1200 271 [lR 33 (some 0), lI a0, lI a1, lI a2] s Q :=
  sf_convR (fun s0 => v_all (xR_cl (s0 := s0) (V := []) rfl) (v_hand s0) vk_X12_costs (List.mem_of_getElem? (i := 3) rfl)) (by decide +kernel) rfl (As := [lR 33 (some 0), lI a0, lI a1, lI a2]) ⟨y_rcv, z_in_top _, z_in_top _, z_in_top _, trivial⟩ hJ h
theorem sfv_X12_every (a0 : Int32) (a1 : Int32) (a2 : Int32) (a3 : Int32) {s : LMem} {Q : LPost} (hJ : zV s) (h : lqv s Q) : qC false 1200 293 [lR 33 (some 0), lI a0, lI a1, lI a2, lI a3] s Q :=
  sf_convR (fun s0 => v_all (xR_cl (s0 := s0) (V := []) rfl) (v_hand s0) vk_X12_every (List.mem_of_getElem? (i := 10) rfl)) (by decide +kernel) rfl (As := [lR 33 (some 0), lI a0, lI a1, lI a2, lI a3]) ⟨y_rcv, z_in_top _, z_in_top _, z_in_top _, z_in_top _, trivial⟩ hJ h
theorem sfv_X12_falls (a0 : Int32) (a1 : Int32) (a2 : Int32) (a3 : Int32) (a4 : Int32) (a5 : Int32) {s : LMem} {Q : LPost} (hJ : zV s) (h : lqv s Q) : qC false 1200 286 [lR 33 (some 0), lI a0, lI a1, lI a2, lI a3, lI a4, lI a5] s Q :=
  sf_convR (fun s0 => r_X12_falls s0) (by decide +kernel) rfl (As := [lR 33 (some 0), lI a0, lI a1, lI a2, lI a3, lI a4, lI a5]) ⟨y_rcv, z_in_top _, z_in_top _, z_in_top _, z_in_top _, z_in_top _, z_in_top _, trivial⟩ hJ h
theorem sfv_X12_first (a0 : Int32) {s : LMem} {Q : LPost} (hJ : zV s) (h : lqv s Q) : qC false 1200 272 [lR 33 (some 0), lI a0] s Q :=
  sf_convR (fun s0 => v_all (xR_cl (s0 := s0) (V := []) rfl) (v_hand s0) vk_X12_first (List.mem_of_getElem? (i := 4) rfl)) (by decide +kernel) rfl (As := [lR 33 (some 0), lI a0]) ⟨y_rcv, z_in_top _, trivial⟩ hJ h
theorem sfv_X12_has (a0 : Int32) (a1 : Int32) (a2 : Int32) (a3 : Int32) (a4 : Int32) (a5 : Int32) {s : LMem} {Q : LPost} (hJ : zV s) (h : lqv s Q) : qC false 1200 277 [lR 33 (some 0), lI a0, lI a1, lI a2, lI a3, lI a4, lI a5] s Q := by
  by_cases cm : a4.toInt ≤ -1
  · exact sf_convR (fun s0 => v_all (xR_cl (s0 := s0) (V := []) rfl) (v_hand s0) vk_X12_has (List.mem_of_getElem? (i := 5) rfl)) (by decide +kernel) rfl (As := [lR 33 (some 0), lI a0, lI a1, lI a2, lI a3, lI a4, lI a5]) ⟨y_rcv, z_in_top _, z_in_top _, z_in_top _, z_in_top _, ⟨(Int32.le_toInt _), (show _ ≤ (-1 : Int) by omega)⟩, z_in_top _, trivial⟩ hJ h
  by_cases c0 : a4.toInt ≤ 63
  · exact sf_convR (fun s0 => v_all (xR_cl (s0 := s0) (V := []) rfl) (v_hand s0) vk_X12_has_1 (List.mem_of_getElem? (i := 6) rfl)) (by decide +kernel) rfl (As := [lR 33 (some 0), lI a0, lI a1, lI a2, lI a3, lI a4, lI a5]) ⟨y_rcv, z_in_top _, z_in_top _, z_in_top _, z_in_top _, ⟨(show (0 : Int) ≤ _ by omega), (show _ ≤ (63 : Int) by omega)⟩, z_in_top _, trivial⟩ hJ h
  exact sf_convR (fun s0 => v_all (xR_cl (s0 := s0) (V := []) rfl) (v_hand s0) vk_X12_has_2 (List.mem_of_getElem? (i := 7) rfl)) (by decide +kernel) rfl (As := [lR 33 (some 0), lI a0, lI a1, lI a2, lI a3, lI a4, lI a5]) ⟨y_rcv, z_in_top _, z_in_top _, z_in_top _, z_in_top _, ⟨(show (64 : Int) ≤ _ by omega), (show _ ≤ (2147483647 : Int) by have := Int32.toInt_lt a4; omega)⟩, z_in_top _, trivial⟩ hJ h
theorem sfv_X12_hit (a0 : Int32) (a1 : Int32) {s : LMem} {Q : LPost} (hJ : zV s) (h : lqv s Q) : qC false 1200 306 [lR 33 (some 0), lI a0, lI a1] s Q := by
  by_cases cm : a1.toInt ≤ 0
  · exact sf_conv h_X12_hit_0 (by decide +kernel) rfl (As := [lR 33 (some 0), lI a0, lI a1]) ⟨y_rcv, z_in_top _, ⟨(Int32.le_toInt _), (show _ ≤ (0 : Int) by omega)⟩, trivial⟩ hJ h
  by_cases c1 : a1.toInt ≤ 1
  · exact sf_conv h_X12_hit_1 (by decide +kernel) rfl (As := [lR 33 (some 0), lI a0, lI a1]) ⟨y_rcv, z_in_top _, ⟨(show (1 : Int) ≤ _ by omega), (show _ ≤ (1 : Int) by omega)⟩, trivial⟩ hJ h
  by_cases c2 : a1.toInt ≤ 2
  · exact sf_conv h_X12_hit_2 (by decide +kernel) rfl (As := [lR 33 (some 0), lI a0, lI a1]) ⟨y_rcv, z_in_top _, ⟨(show (2 : Int) ≤ _ by omega), (show _ ≤ (2 : Int) by omega)⟩, trivial⟩ hJ h
  by_cases c3 : a1.toInt ≤ 3
  · exact sf_conv h_X12_hit_3 (by decide +kernel) rfl (As := [lR 33 (some 0), lI a0, lI a1]) ⟨y_rcv, z_in_top _, ⟨(show (3 : Int) ≤ _ by omega), (show _ ≤ (3 : Int) by omega)⟩, trivial⟩ hJ h
  by_cases c4 : a1.toInt ≤ 4
  · exact sf_conv h_X12_hit_4 (by decide +kernel) rfl (As := [lR 33 (some 0), lI a0, lI a1]) ⟨y_rcv, z_in_top _, ⟨(show (4 : Int) ≤ _ by omega), (show _ ≤ (4 : Int) by omega)⟩, trivial⟩ hJ h
  exact sf_conv h_X12_hit_5 (by decide +kernel) rfl (As := [lR 33 (some 0), lI a0, lI a1]) ⟨y_rcv, z_in_top _, ⟨(show (5 : Int) ≤ _ by omega), (show _ ≤ (2147483647 : Int) by have := Int32.toInt_lt a1; omega)⟩, trivial⟩ hJ h
theorem sfv_X12_longest (a0 : Int32) {s : LMem} {Q : LPost} (hJ : zV s) (h : lqv s Q) : qC false 1200 307 [lR 33 (some 0), lI a0] s Q :=
  sf_conv (y_all x_X_cl h_all0 yk_X12_longest (List.mem_of_getElem? (i := 219) rfl)) (by decide +kernel) rfl (As := [lR 33 (some 0), lI a0]) ⟨y_rcv, z_in_top _, trivial⟩ hJ h
theorem sfv_X12_notch (a0 : Int32) (a1 : Int32) {s : LMem} {Q : LPost} (hJ : zV s) (h : lqv s Q) : qC false 1200 304 [lR 33 (some 0), lI a0, lI a1] s Q :=
  sf_conv h_X12_notch (by decide +kernel) rfl (As := [lR 33 (some 0), lI a0, lI a1]) ⟨y_rcv, z_in_top _, z_in_top _, trivial⟩ hJ h
theorem sfv_X12_off (a0 : Int32) (a1 : Int32) {s : LMem} {Q : LPost} (hJ : zV s) (h : lqv s Q) : qC false 1200 285 [lR 33 (some 0), lI a0, lI a1] s Q :=
  sf_convR (fun s0 => v_all (xR_cl (s0 := s0) (V := []) rfl) (v_hand s0) vk_X12_off (List.mem_of_getElem? (i := 9) rfl)) (by decide +kernel) rfl (As := [lR 33 (some 0), lI a0, lI a1]) ⟨y_rcv, z_in_top _, z_in_top _, trivial⟩ hJ h
theorem sfv_X12_order (a0 : Int32) (a1 : Int32) (ha1 : (0 : Int) ≤ a1.toInt ∧ a1.toInt ≤ 1) {s : LMem} {Q : LPost} (hJ : zV s) (h : lqv s Q) : qC false 1200 295 [lR 33 (some 0), lI a0, lI a1] s Q :=
  sf_convR (fun s0 => r_X12_order s0) (by decide +kernel) rfl (As := [lR 33 (some 0), lI a0, lI a1]) ⟨y_rcv, z_in_top _, ⟨ha1.1, ha1.2⟩, trivial⟩ hJ h
theorem sfv_X12_owner (a0 : Int32) (a1 : Int32) {s : LMem} {Q : LPost} (hJ : zV s) (h : lqv s Q) : qC false 1200 261 [lR 33 (some 0), lI a0, lI a1] s Q :=
  sf_conv (y_all x_X_cl h_all0 yk_X12_owner (List.mem_of_getElem? (i := 196) rfl)) (by decide +kernel) rfl (As := [lR 33 (some 0), lI a0, lI a1]) ⟨y_rcv, z_in_top _, z_in_top _, trivial⟩ hJ h
theorem sfv_X12_rain (a0 : Int32) (a1 : Int32) {s : LMem} {Q : LPost} (hJ : zV s) (h : lqv s Q) : qC false 1200 241 [lR 33 (some 0), lI a0, lI a1] s Q :=
  sf_conv (y_all x_X_cl h_all0 yk_X12_rain (List.mem_of_getElem? (i := 192) rfl)) (by decide +kernel) rfl (As := [lR 33 (some 0), lI a0, lI a1]) ⟨y_rcv, z_in_top _, z_in_top _, trivial⟩ hJ h
theorem sfv_X12_raised (a0 : Int32) (a1 : Int32) (a2 : Int32) {s : LMem} {Q : LPost} (hJ : zV s) (h : lqv s Q) : qC false 1200 291 [lR 33 (some 0), lI a0, lI a1, lI a2] s Q := by
  by_cases cm : a0.toInt ≤ -1
  · exact sf_conv (y_all x_X_cl h_all0 yk_X12_raised (List.mem_of_getElem? (i := 213) rfl)) (by decide +kernel) rfl (As := [lR 33 (some 0), lI a0, lI a1, lI a2]) ⟨y_rcv, ⟨(Int32.le_toInt _), (show _ ≤ (-1 : Int) by omega)⟩, z_in_top _, z_in_top _, trivial⟩ hJ h
  by_cases c0 : a0.toInt ≤ 0
  · exact sf_convR (fun s0 => r_X12_raised_0 s0) (by decide +kernel) rfl (As := [lR 33 (some 0), lI a0, lI a1, lI a2]) ⟨y_rcv, ⟨(show (0 : Int) ≤ _ by omega), (show _ ≤ (0 : Int) by omega)⟩, z_in_top _, z_in_top _, trivial⟩ hJ h
  by_cases c1 : a0.toInt ≤ 1
  · exact sf_convR (fun s0 => r_X12_raised_1 s0) (by decide +kernel) rfl (As := [lR 33 (some 0), lI a0, lI a1, lI a2]) ⟨y_rcv, ⟨(show (1 : Int) ≤ _ by omega), (show _ ≤ (1 : Int) by omega)⟩, z_in_top _, z_in_top _, trivial⟩ hJ h
  by_cases c2 : a0.toInt ≤ 2
  · exact sf_convR (fun s0 => r_X12_raised_2 s0) (by decide +kernel) rfl (As := [lR 33 (some 0), lI a0, lI a1, lI a2]) ⟨y_rcv, ⟨(show (2 : Int) ≤ _ by omega), (show _ ≤ (2 : Int) by omega)⟩, z_in_top _, z_in_top _, trivial⟩ hJ h
  by_cases c3 : a0.toInt ≤ 3
  · exact sf_convR (fun s0 => r_X12_raised_3 s0) (by decide +kernel) rfl (As := [lR 33 (some 0), lI a0, lI a1, lI a2]) ⟨y_rcv, ⟨(show (3 : Int) ≤ _ by omega), (show _ ≤ (3 : Int) by omega)⟩, z_in_top _, z_in_top _, trivial⟩ hJ h
  exact sf_conv (y_all x_X_cl h_all0 yk_X12_raised_5 (List.mem_of_getElem? (i := 218) rfl)) (by decide +kernel) rfl (As := [lR 33 (some 0), lI a0, lI a1, lI a2]) ⟨y_rcv, ⟨(show (4 : Int) ≤ _ by omega), (show _ ≤ (2147483647 : Int) by have := Int32.toInt_lt a0; omega)⟩, z_in_top _, z_in_top _, trivial⟩ hJ h
theorem sfv_X12_reach (a0 : Int32) (a1 : Int32) (a2 : Int32) {s : LMem} {Q : LPost} (hJ : zV s) (h : lqv s Q) : qC false 1200 240 [lR 33 (some 0), lI a0, lI a1, lI a2] s Q :=
  sf_conv (y_all x_X_cl h_all0 yk_X12_reach (List.mem_of_getElem? (i := 190) rfl)) (by decide +kernel) rfl (As := [lR 33 (some 0), lI a0, lI a1, lI a2]) ⟨y_rcv, z_in_top _, z_in_top _, z_in_top _, trivial⟩ hJ h
theorem sfv_X12_rests (a0 : Int32) (a1 : Int32) (a2 : Int32) (a3 : Int32) (a4 : Int32) {s : LMem} {Q : LPost} (hJ : zV s) (h : lqv s Q) : qC false 1200 280 [lR 33 (some 0), lI a0, lI a1, lI a2, lI a3, lI a4] s Q :=
  sf_convR (fun s0 => v_all (xR_cl (s0 := s0) (V := []) rfl) (v_hand s0) vk_X12_rests (List.mem_of_getElem? (i := 0) rfl)) (by decide +kernel) rfl (As := [lR 33 (some 0), lI a0, lI a1, lI a2, lI a3, lI a4]) ⟨y_rcv, z_in_top _, z_in_top _, z_in_top _, z_in_top _, z_in_top _, trivial⟩ hJ h
theorem sfv_X12_rise (a0 : Int32) (a1 : Int32) {s : LMem} {Q : LPost} (hJ : zV s) (h : lqv s Q) : qC false 1200 310 [lR 33 (some 0), lI a0, lI a1] s Q :=
  sf_convR (fun s0 => v_all (xR_cl (s0 := s0) (V := []) rfl) (v_hand s0) vk_X12_rise (List.mem_of_getElem? (i := 13) rfl)) (by decide +kernel) rfl (As := [lR 33 (some 0), lI a0, lI a1]) ⟨y_rcv, z_in_top _, z_in_top _, trivial⟩ hJ h
theorem sfv_X12_sands (a0 : Int32) (a1 : Int32) (a2 : Int32) {s : LMem} {Q : LPost} (hJ : zV s) (h : lqv s Q) : qC false 1200 289 [lR 33 (some 0), lI a0, lI a1, lI a2] s Q := by
  by_cases cm : a0.toInt ≤ -1
  · exact sf_conv (y_all x_X_cl h_all0 yk_X12_sands (List.mem_of_getElem? (i := 205) rfl)) (by decide +kernel) rfl (As := [lR 33 (some 0), lI a0, lI a1, lI a2]) ⟨y_rcv, ⟨(Int32.le_toInt _), (show _ ≤ (-1 : Int) by omega)⟩, z_in_top _, z_in_top _, trivial⟩ hJ h
  by_cases c0 : a0.toInt ≤ 0
  · exact sf_convR (fun s0 => r_X12_sands_0 s0) (by decide +kernel) rfl (As := [lR 33 (some 0), lI a0, lI a1, lI a2]) ⟨y_rcv, ⟨(show (0 : Int) ≤ _ by omega), (show _ ≤ (0 : Int) by omega)⟩, z_in_top _, z_in_top _, trivial⟩ hJ h
  by_cases c1 : a0.toInt ≤ 1
  · exact sf_convR (fun s0 => r_X12_sands_1 s0) (by decide +kernel) rfl (As := [lR 33 (some 0), lI a0, lI a1, lI a2]) ⟨y_rcv, ⟨(show (1 : Int) ≤ _ by omega), (show _ ≤ (1 : Int) by omega)⟩, z_in_top _, z_in_top _, trivial⟩ hJ h
  by_cases c2 : a0.toInt ≤ 2
  · exact sf_convR (fun s0 => r_X12_sands_2 s0) (by decide +kernel) rfl (As := [lR 33 (some 0), lI a0, lI a1, lI a2]) ⟨y_rcv, ⟨(show (2 : Int) ≤ _ by omega), (show _ ≤ (2 : Int) by omega)⟩, z_in_top _, z_in_top _, trivial⟩ hJ h
  by_cases c3 : a0.toInt ≤ 3
  · exact sf_convR (fun s0 => r_X12_sands_3 s0) (by decide +kernel) rfl (As := [lR 33 (some 0), lI a0, lI a1, lI a2]) ⟨y_rcv, ⟨(show (3 : Int) ≤ _ by omega), (show _ ≤ (3 : Int) by omega)⟩, z_in_top _, z_in_top _, trivial⟩ hJ h
  exact sf_conv (y_all x_X_cl h_all0 yk_X12_sands_5 (List.mem_of_getElem? (i := 210) rfl)) (by decide +kernel) rfl (As := [lR 33 (some 0), lI a0, lI a1, lI a2]) ⟨y_rcv, ⟨(show (4 : Int) ≤ _ by omega), (show _ ≤ (2147483647 : Int) by have := Int32.toInt_lt a0; omega)⟩, z_in_top _, z_in_top _, trivial⟩ hJ h
theorem sfv_X12_sinks (a0 : Int32) (a1 : Int32) (a2 : Int32) (a3 : Int32) {s : LMem} {Q : LPost} (hJ : zV s) (h : lqv s Q) : qC false 1200 290 [lR 33 (some 0), lI a0, lI a1, lI a2, lI a3] s Q := by
  by_cases cm : a0.toInt ≤ -1
  · exact sf_conv (y_all x_X_cl h_all0 yk_X12_sinks (List.mem_of_getElem? (i := 211) rfl)) (by decide +kernel) rfl (As := [lR 33 (some 0), lI a0, lI a1, lI a2, lI a3]) ⟨y_rcv, ⟨(Int32.le_toInt _), (show _ ≤ (-1 : Int) by omega)⟩, z_in_top _, z_in_top _, z_in_top _, trivial⟩ hJ h
  by_cases c0 : a0.toInt ≤ 0
  · exact sf_convR (fun s0 => r_X12_sinks_0 s0) (by decide +kernel) rfl (As := [lR 33 (some 0), lI a0, lI a1, lI a2, lI a3]) ⟨y_rcv, ⟨(show (0 : Int) ≤ _ by omega), (show _ ≤ (0 : Int) by omega)⟩, z_in_top _, z_in_top _, z_in_top _, trivial⟩ hJ h
  by_cases c1 : a0.toInt ≤ 1
  · exact sf_convR (fun s0 => r_X12_sinks_1 s0) (by decide +kernel) rfl (As := [lR 33 (some 0), lI a0, lI a1, lI a2, lI a3]) ⟨y_rcv, ⟨(show (1 : Int) ≤ _ by omega), (show _ ≤ (1 : Int) by omega)⟩, z_in_top _, z_in_top _, z_in_top _, trivial⟩ hJ h
  by_cases c2 : a0.toInt ≤ 2
  · exact sf_convR (fun s0 => r_X12_sinks_2 s0) (by decide +kernel) rfl (As := [lR 33 (some 0), lI a0, lI a1, lI a2, lI a3]) ⟨y_rcv, ⟨(show (2 : Int) ≤ _ by omega), (show _ ≤ (2 : Int) by omega)⟩, z_in_top _, z_in_top _, z_in_top _, trivial⟩ hJ h
  by_cases c3 : a0.toInt ≤ 3
  · exact sf_convR (fun s0 => r_X12_sinks_3 s0) (by decide +kernel) rfl (As := [lR 33 (some 0), lI a0, lI a1, lI a2, lI a3]) ⟨y_rcv, ⟨(show (3 : Int) ≤ _ by omega), (show _ ≤ (3 : Int) by omega)⟩, z_in_top _, z_in_top _, z_in_top _, trivial⟩ hJ h
  exact sf_conv (y_all x_X_cl h_all0 yk_X12_sinks_5 (List.mem_of_getElem? (i := 212) rfl)) (by decide +kernel) rfl (As := [lR 33 (some 0), lI a0, lI a1, lI a2, lI a3]) ⟨y_rcv, ⟨(show (4 : Int) ≤ _ by omega), (show _ ≤ (2147483647 : Int) by have := Int32.toInt_lt a0; omega)⟩, z_in_top _, z_in_top _, z_in_top _, trivial⟩ hJ h
theorem sfv_X12_staff (a0 : Int32) (a1 : Int32) {s : LMem} {Q : LPost} (hJ : zV s) (h : lqv s Q) : qC false 1200 282 [lR 33 (some 0), lI a0, lI a1] s Q :=
  sf_conv (y_all x_X_cl h_all0 yk_X12_staff (List.mem_of_getElem? (i := 202) rfl)) (by decide +kernel) rfl (As := [lR 33 (some 0), lI a0, lI a1]) ⟨y_rcv, z_in_top _, z_in_top _, trivial⟩ hJ h
theorem sfv_X12_tried (a0 : Int32) (a1 : Int32) (a2 : Int32) {s : LMem} {Q : LPost} (hJ : zV s) (h : lqv s Q) : qC false 1200 270 [lR 33 (some 0), lI a0, lI a1, lI a2] s Q :=
  sf_convR (fun s0 => v_all (xR_cl (s0 := s0) (V := []) rfl) (v_hand s0) vk_X12_tried (List.mem_of_getElem? (i := 2) rfl)) (by decide +kernel) rfl (As := [lR 33 (some 0), lI a0, lI a1, lI a2]) ⟨y_rcv, z_in_top _, z_in_top _, z_in_top _, trivial⟩ hJ h
theorem sfv_X12_turn (a0 : Int32) {s : LMem} {Q : LPost} (hJ : zV s) (h : lqv s Q) : qC false 1200 297 [lR 33 (some 0), lI a0] s Q :=
  sf_convR (fun s0 => r_X12_turn s0) (by decide +kernel) rfl (As := [lR 33 (some 0), lI a0]) ⟨y_rcv, z_in_top _, trivial⟩ hJ h
theorem sfv_X12_when (a0 : Int32) (a1 : Int32) {s : LMem} {Q : LPost} (hJ : zV s) (h : lqv s Q) : qC false 1200 273 [lR 33 (some 0), lI a0, lI a1] s Q :=
  sf_convR (fun s0 => r_X12_when s0) (by decide +kernel) rfl (As := [lR 33 (some 0), lI a0, lI a1]) ⟨y_rcv, z_in_top _, z_in_top _, trivial⟩ hJ h
theorem sfv_X12_where (a0 : Int32) (a1 : Int32) (a2 : Int32) (ha2 : (0 : Int) ≤ a2.toInt ∧ a2.toInt ≤ 1) {s : LMem} {Q : LPost} (hJ : zV s) (h : lqv s Q) : qC false 1200 284 [lR 33 (some 0), lI a0, lI a1, lI a2] s Q :=
  sf_convR (fun s0 => v_all (xR_cl (s0 := s0) (V := []) rfl) (v_hand s0) vk_X12_where (List.mem_of_getElem? (i := 8) rfl)) (by decide +kernel) rfl (As := [lR 33 (some 0), lI a0, lI a1, lI a2]) ⟨y_rcv, z_in_top _, z_in_top _, ⟨ha2.1, ha2.2⟩, trivial⟩ hJ h
theorem sfv_X12_work (a0 : Int32) {s : LMem} {Q : LPost} (hJ : zV s) (h : lqv s Q) : qC false 1200 302 [lR 33 (some 0), lI a0] s Q :=
  sf_conv (y_all x_X_cl h_all0 yk_X12_work (List.mem_of_getElem? (i := 161) rfl)) (by decide +kernel) rfl (As := [lR 33 (some 0), lI a0]) ⟨y_rcv, z_in_top _, trivial⟩ hJ h
theorem sfv_X11_all (a0 : Int32) {s : LMem} {Q : LPost} (hJ : zV s) (h : lqv s Q) : qC false 1200 166 [lR 0 (some 0), lI a0] s Q :=
  sf_conv (y_all x_X_cl h_all0 yk_X11_all (List.mem_of_getElem? (i := 123) rfl)) (by decide +kernel) rfl (As := [lR 0 (some 0), lI a0]) ⟨y_rcv, z_in_top _, trivial⟩ hJ h
theorem sfv_X11_at (a0 : Int32) (a1 : Int32) {s : LMem} {Q : LPost} (hJ : zV s) (h : lqv s Q) : qC false 1200 165 [lR 0 (some 0), lI a0, lI a1] s Q :=
  sf_conv (y_all x_X_cl h_all0 yk_X11_at (List.mem_of_getElem? (i := 151) rfl)) (by decide +kernel) rfl (As := [lR 0 (some 0), lI a0, lI a1]) ⟨y_rcv, z_in_top _, z_in_top _, trivial⟩ hJ h
theorem sfv_X11_banks (a0 : Int32) (a1 : Int32) (a2 : Int32) (a3 : Int32) {s : LMem} {Q : LPost} (hJ : zV s) (h : lqv s Q) : qC false 1200 196 [lR 0 (some 0), lI a0, lI a1, lI a2, lI a3] s Q :=
  sf_conv (y_all x_X_cl h_all0 yk_X11_banks (List.mem_of_getElem? (i := 84) rfl)) (by decide +kernel) rfl (As := [lR 0 (some 0), lI a0, lI a1, lI a2, lI a3]) ⟨y_rcv, z_in_top _, z_in_top _, z_in_top _, z_in_top _, trivial⟩ hJ h
theorem sfv_X11_best (a0 : Int32) (a1 : Int32) (a2 : Int32) (a3 : Int32) {s : LMem} {Q : LPost} (hJ : zV s) (h : lqv s Q) : qC false 1200 183 [lR 0 (some 0), lI a0, lI a1, lI a2, lI a3] s Q :=
  sf_conv (y_all x_X_cl h_all0 yk_X11_best (List.mem_of_getElem? (i := 66) rfl)) (by decide +kernel) rfl (As := [lR 0 (some 0), lI a0, lI a1, lI a2, lI a3]) ⟨y_rcv, z_in_top _, z_in_top _, z_in_top _, z_in_top _, trivial⟩ hJ h
theorem sfv_X11_clean (a0 : Int32) {s : LMem} {Q : LPost} (hJ : zV s) (h : lqv s Q) : qC false 1200 168 [lR 0 (some 0), lI a0] s Q :=
  sf_conv (y_all x_X_cl h_all0 yk_X11_clean (List.mem_of_getElem? (i := 124) rfl)) (by decide +kernel) rfl (As := [lR 0 (some 0), lI a0]) ⟨y_rcv, z_in_top _, trivial⟩ hJ h
theorem sfv_X11_costs (a0 : Int32) (a1 : Int32) (a2 : Int32) {s : LMem} {Q : LPost} (hJ : zV s) (h : lqv s Q) : qC false 1200 174 [lR 0 (some 0), lI a0, lI a1, lI a2] s Q :=
  sf_conv (y_all x_X_cl h_all0 yk_X11_costs (List.mem_of_getElem? (i := 81) rfl)) (by decide +kernel) rfl (As := [lR 0 (some 0), lI a0, lI a1, lI a2]) ⟨y_rcv, z_in_top _, z_in_top _, z_in_top _, trivial⟩ hJ h
theorem sfv_X11_every (a0 : Int32) (a1 : Int32) (a2 : Int32) (a3 : Int32) {s : LMem} {Q : LPost} (hJ : zV s) (h : lqv s Q) : qC false 1200 177 [lR 0 (some 0), lI a0, lI a1, lI a2, lI a3] s Q :=
  sf_conv (y_all x_X_cl h_all0 yk_X11_every (List.mem_of_getElem? (i := 58) rfl)) (by decide +kernel) rfl (As := [lR 0 (some 0), lI a0, lI a1, lI a2, lI a3]) ⟨y_rcv, z_in_top _, z_in_top _, z_in_top _, z_in_top _, trivial⟩ hJ h
theorem sfv_X11_falls (a0 : Int32) (a1 : Int32) (a2 : Int32) (a3 : Int32) (a4 : Int32) (a5 : Int32) {s : LMem} {Q : LPost} (hJ : zV s) (h : lqv s Q) : qC false 1200 187 [lR 0 (some 0), lI a0, lI a1, lI a2, lI a3, lI a4, lI a5] s Q :=
  sf_conv (y_all x_X_cl h_all0 yk_X11_falls (List.mem_of_getElem? (i := 69) rfl)) (by decide +kernel) rfl (As := [lR 0 (some 0), lI a0, lI a1, lI a2, lI a3, lI a4, lI a5]) ⟨y_rcv, z_in_top _, z_in_top _, z_in_top _, z_in_top _, z_in_top _, z_in_top _, trivial⟩ hJ h
theorem sfv_X11_first (a0 : Int32) {s : LMem} {Q : LPost} (hJ : zV s) (h : lqv s Q) : qC false 1200 175 [lR 0 (some 0), lI a0] s Q :=
  sf_conv (y_all x_X_cl h_all0 yk_X11_first (List.mem_of_getElem? (i := 62) rfl)) (by decide +kernel) rfl (As := [lR 0 (some 0), lI a0]) ⟨y_rcv, z_in_top _, trivial⟩ hJ h
theorem sfv_X11_has (a0 : Int32) (a1 : Int32) (a2 : Int32) (a3 : Int32) (a4 : Int32) (a5 : Int32) {s : LMem} {Q : LPost} (hJ : zV s) (h : lqv s Q) : qC false 1200 181 [lR 0 (some 0), lI a0, lI a1, lI a2, lI a3, lI a4, lI a5] s Q :=
  sf_conv (y_all x_X_cl h_all0 yk_X11_has (List.mem_of_getElem? (i := 64) rfl)) (by decide +kernel) rfl (As := [lR 0 (some 0), lI a0, lI a1, lI a2, lI a3, lI a4, lI a5]) ⟨y_rcv, z_in_top _, z_in_top _, z_in_top _, z_in_top _, z_in_top _, z_in_top _, trivial⟩ hJ h
theorem sfv_X11_hit (a0 : Int32) (a1 : Int32) {s : LMem} {Q : LPost} (hJ : zV s) (h : lqv s Q) : qC false 1200 194 [lR 0 (some 0), lI a0, lI a1] s Q := by
  by_cases cm : a1.toInt ≤ 0
  · exact sf_conv h_X11_hit_0 (by decide +kernel) rfl (As := [lR 0 (some 0), lI a0, lI a1]) ⟨y_rcv, z_in_top _, ⟨(Int32.le_toInt _), (show _ ≤ (0 : Int) by omega)⟩, trivial⟩ hJ h
  by_cases c1 : a1.toInt ≤ 1
  · exact sf_conv h_X11_hit_1 (by decide +kernel) rfl (As := [lR 0 (some 0), lI a0, lI a1]) ⟨y_rcv, z_in_top _, ⟨(show (1 : Int) ≤ _ by omega), (show _ ≤ (1 : Int) by omega)⟩, trivial⟩ hJ h
  by_cases c2 : a1.toInt ≤ 2
  · exact sf_conv h_X11_hit_2 (by decide +kernel) rfl (As := [lR 0 (some 0), lI a0, lI a1]) ⟨y_rcv, z_in_top _, ⟨(show (2 : Int) ≤ _ by omega), (show _ ≤ (2 : Int) by omega)⟩, trivial⟩ hJ h
  by_cases c3 : a1.toInt ≤ 3
  · exact sf_conv h_X11_hit_3 (by decide +kernel) rfl (As := [lR 0 (some 0), lI a0, lI a1]) ⟨y_rcv, z_in_top _, ⟨(show (3 : Int) ≤ _ by omega), (show _ ≤ (3 : Int) by omega)⟩, trivial⟩ hJ h
  by_cases c4 : a1.toInt ≤ 4
  · exact sf_conv h_X11_hit_4 (by decide +kernel) rfl (As := [lR 0 (some 0), lI a0, lI a1]) ⟨y_rcv, z_in_top _, ⟨(show (4 : Int) ≤ _ by omega), (show _ ≤ (4 : Int) by omega)⟩, trivial⟩ hJ h
  exact sf_conv h_X11_hit_5 (by decide +kernel) rfl (As := [lR 0 (some 0), lI a0, lI a1]) ⟨y_rcv, z_in_top _, ⟨(show (5 : Int) ≤ _ by omega), (show _ ≤ (2147483647 : Int) by have := Int32.toInt_lt a1; omega)⟩, trivial⟩ hJ h
theorem sfv_X11_longest (a0 : Int32) {s : LMem} {Q : LPost} (hJ : zV s) (h : lqv s Q) : qC false 1200 170 [lR 0 (some 0), lI a0] s Q :=
  sf_conv (y_all x_X_cl h_all0 yk_X11_longest (List.mem_of_getElem? (i := 162) rfl)) (by decide +kernel) rfl (As := [lR 0 (some 0), lI a0]) ⟨y_rcv, z_in_top _, trivial⟩ hJ h
theorem sfv_X11_notch (a0 : Int32) (a1 : Int32) {s : LMem} {Q : LPost} (hJ : zV s) (h : lqv s Q) : qC false 1200 193 [lR 0 (some 0), lI a0, lI a1] s Q :=
  sf_conv (y_all x_X_cl h_all0 yk_X11_notch (List.mem_of_getElem? (i := 129) rfl)) (by decide +kernel) rfl (As := [lR 0 (some 0), lI a0, lI a1]) ⟨y_rcv, z_in_top _, z_in_top _, trivial⟩ hJ h
theorem sfv_X11_off (a0 : Int32) (a1 : Int32) {s : LMem} {Q : LPost} (hJ : zV s) (h : lqv s Q) : qC false 1200 186 [lR 0 (some 0), lI a0, lI a1] s Q :=
  sf_conv (y_all x_X_cl h_all0 yk_X11_off (List.mem_of_getElem? (i := 68) rfl)) (by decide +kernel) rfl (As := [lR 0 (some 0), lI a0, lI a1]) ⟨y_rcv, z_in_top _, z_in_top _, trivial⟩ hJ h
theorem sfv_X11_order (a0 : Int32) (a1 : Int32) (ha1 : (0 : Int) ≤ a1.toInt ∧ a1.toInt ≤ 1) {s : LMem} {Q : LPost} (hJ : zV s) (h : lqv s Q) : qC false 1200 178 [lR 0 (some 0), lI a0, lI a1] s Q :=
  sf_conv (y_all x_X_cl h_all0 yk_X11_order (List.mem_of_getElem? (i := 72) rfl)) (by decide +kernel) rfl (As := [lR 0 (some 0), lI a0, lI a1]) ⟨y_rcv, z_in_top _, ⟨ha1.1, ha1.2⟩, trivial⟩ hJ h
theorem sfv_X11_owner (a0 : Int32) (a1 : Int32) {s : LMem} {Q : LPost} (hJ : zV s) (h : lqv s Q) : qC false 1200 167 [lR 0 (some 0), lI a0, lI a1] s Q :=
  sf_conv (y_all x_X_cl h_all0 yk_X11_owner (List.mem_of_getElem? (i := 153) rfl)) (by decide +kernel) rfl (As := [lR 0 (some 0), lI a0, lI a1]) ⟨y_rcv, z_in_top _, z_in_top _, trivial⟩ hJ h
theorem sfv_X11_rain (a0 : Int32) (a1 : Int32) {s : LMem} {Q : LPost} (hJ : zV s) (h : lqv s Q) : qC false 1200 159 [lR 0 (some 0), lI a0, lI a1] s Q :=
  sf_conv (y_all x_X_cl h_all0 yk_X11_rain (List.mem_of_getElem? (i := 191) rfl)) (by decide +kernel) rfl (As := [lR 0 (some 0), lI a0, lI a1]) ⟨y_rcv, z_in_top _, z_in_top _, trivial⟩ hJ h
theorem sfv_X11_raised (a0 : Int32) (a1 : Int32) (a2 : Int32) {s : LMem} {Q : LPost} (hJ : zV s) (h : lqv s Q) : qC false 1200 190 [lR 0 (some 0), lI a0, lI a1, lI a2] s Q :=
  sf_conv (y_all x_X_cl h_all0 yk_X11_raised (List.mem_of_getElem? (i := 71) rfl)) (by decide +kernel) rfl (As := [lR 0 (some 0), lI a0, lI a1, lI a2]) ⟨y_rcv, z_in_top _, z_in_top _, z_in_top _, trivial⟩ hJ h
theorem sfv_X11_rests (a0 : Int32) (a1 : Int32) (a2 : Int32) (a3 : Int32) (a4 : Int32) {s : LMem} {Q : LPost} (hJ : zV s) (h : lqv s Q) : qC false 1200 182 [lR 0 (some 0), lI a0, lI a1, lI a2, lI a3, lI a4] s Q :=
  sf_conv (y_all x_X_cl h_all0 yk_X11_rests (List.mem_of_getElem? (i := 65) rfl)) (by decide +kernel) rfl (As := [lR 0 (some 0), lI a0, lI a1, lI a2, lI a3, lI a4]) ⟨y_rcv, z_in_top _, z_in_top _, z_in_top _, z_in_top _, z_in_top _, trivial⟩ hJ h
theorem sfv_X11_rise (a0 : Int32) (a1 : Int32) {s : LMem} {Q : LPost} (hJ : zV s) (h : lqv s Q) : qC false 1200 197 [lR 0 (some 0), lI a0, lI a1] s Q :=
  sf_conv (y_all x_X_cl h_all0 yk_X11_rise (List.mem_of_getElem? (i := 74) rfl)) (by decide +kernel) rfl (As := [lR 0 (some 0), lI a0, lI a1]) ⟨y_rcv, z_in_top _, z_in_top _, trivial⟩ hJ h
theorem sfv_X11_sands (a0 : Int32) (a1 : Int32) (a2 : Int32) {s : LMem} {Q : LPost} (hJ : zV s) (h : lqv s Q) : qC false 1200 188 [lR 0 (some 0), lI a0, lI a1, lI a2] s Q :=
  sf_conv (y_all x_X_cl h_all0 yk_X11_sands (List.mem_of_getElem? (i := 82) rfl)) (by decide +kernel) rfl (As := [lR 0 (some 0), lI a0, lI a1, lI a2]) ⟨y_rcv, z_in_top _, z_in_top _, z_in_top _, trivial⟩ hJ h
theorem sfv_X11_sinks (a0 : Int32) (a1 : Int32) (a2 : Int32) (a3 : Int32) {s : LMem} {Q : LPost} (hJ : zV s) (h : lqv s Q) : qC false 1200 189 [lR 0 (some 0), lI a0, lI a1, lI a2, lI a3] s Q :=
  sf_conv (y_all x_X_cl h_all0 yk_X11_sinks (List.mem_of_getElem? (i := 70) rfl)) (by decide +kernel) rfl (As := [lR 0 (some 0), lI a0, lI a1, lI a2, lI a3]) ⟨y_rcv, z_in_top _, z_in_top _, z_in_top _, z_in_top _, trivial⟩ hJ h
theorem sfv_X11_staff (a0 : Int32) (a1 : Int32) {s : LMem} {Q : LPost} (hJ : zV s) (h : lqv s Q) : qC false 1200 184 [lR 0 (some 0), lI a0, lI a1] s Q :=
  sf_conv (y_all x_X_cl h_all0 yk_X11_staff (List.mem_of_getElem? (i := 201) rfl)) (by decide +kernel) rfl (As := [lR 0 (some 0), lI a0, lI a1]) ⟨y_rcv, z_in_top _, z_in_top _, trivial⟩ hJ h
theorem sfv_X11_tried (a0 : Int32) (a1 : Int32) (a2 : Int32) {s : LMem} {Q : LPost} (hJ : zV s) (h : lqv s Q) : qC false 1200 173 [lR 0 (some 0), lI a0, lI a1, lI a2] s Q :=
  sf_conv (y_all x_X_cl h_all0 yk_X11_tried (List.mem_of_getElem? (i := 80) rfl)) (by decide +kernel) rfl (As := [lR 0 (some 0), lI a0, lI a1, lI a2]) ⟨y_rcv, z_in_top _, z_in_top _, z_in_top _, trivial⟩ hJ h
theorem sfv_X11_turn (a0 : Int32) {s : LMem} {Q : LPost} (hJ : zV s) (h : lqv s Q) : qC false 1200 179 [lR 0 (some 0), lI a0] s Q :=
  sf_conv (y_all x_X_cl h_all0 yk_X11_turn (List.mem_of_getElem? (i := 73) rfl)) (by decide +kernel) rfl (As := [lR 0 (some 0), lI a0]) ⟨y_rcv, z_in_top _, trivial⟩ hJ h
theorem sfv_X11_when (a0 : Int32) (a1 : Int32) {s : LMem} {Q : LPost} (hJ : zV s) (h : lqv s Q) : qC false 1200 176 [lR 0 (some 0), lI a0, lI a1] s Q :=
  sf_conv (y_all x_X_cl h_all0 yk_X11_when (List.mem_of_getElem? (i := 63) rfl)) (by decide +kernel) rfl (As := [lR 0 (some 0), lI a0, lI a1]) ⟨y_rcv, z_in_top _, z_in_top _, trivial⟩ hJ h
theorem sfv_X11_where (a0 : Int32) (a1 : Int32) (a2 : Int32) (ha2 : (0 : Int) ≤ a2.toInt ∧ a2.toInt ≤ 1) {s : LMem} {Q : LPost} (hJ : zV s) (h : lqv s Q) : qC false 1200 185 [lR 0 (some 0), lI a0, lI a1, lI a2] s Q :=
  sf_conv (y_all x_X_cl h_all0 yk_X11_where (List.mem_of_getElem? (i := 67) rfl)) (by decide +kernel) rfl (As := [lR 0 (some 0), lI a0, lI a1, lI a2]) ⟨y_rcv, z_in_top _, z_in_top _, ⟨ha2.1, ha2.2⟩, trivial⟩ hJ h
theorem sfv_X11_whose (a0 : Int32) (a1 : Int32) (a2 : Int32) {s : LMem} {Q : LPost} (hJ : zV s) (h : lqv s Q) : qC false 1200 191 [lR 0 (some 0), lI a0, lI a1, lI a2] s Q :=
  sf_conv (y_all x_X_cl h_all0 yk_X11_whose (List.mem_of_getElem? (i := 83) rfl)) (by decide +kernel) rfl (As := [lR 0 (some 0), lI a0, lI a1, lI a2]) ⟨y_rcv, z_in_top _, z_in_top _, z_in_top _, trivial⟩ hJ h
theorem sfv_X11_work (a0 : Int32) {s : LMem} {Q : LPost} (hJ : zV s) (h : lqv s Q) : qC false 1200 192 [lR 0 (some 0), lI a0] s Q :=
  sf_conv (y_all x_X_cl h_all0 yk_X11_work (List.mem_of_getElem? (i := 160) rfl)) (by decide +kernel) rfl (As := [lR 0 (some 0), lI a0]) ⟨y_rcv, z_in_top _, trivial⟩ hJ h
theorem zD_L {s : LMem} {x : Int64} (hJ : zD s) : zD (sL s 58 0 0 x) := by
  refine ⟨⟨⟨⟨fun k i j r hr g1 g2 => hJ.1.1.1.1 k i j r hr g1 g2, ⟨fun i q hq => hJ.1.1.1.2.1.1 i q hq, fun i q hq => hJ.1.1.1.2.1.2.1 i q hq, fun i q hq => hJ.1.1.1.2.1.2.2.1 i q hq, fun i q hq => hJ.1.1.1.2.1.2.2.2 i q hq⟩, x_X_cl s _ (fun _ _ _ _ => rfl) hJ.1.1.1.2.2⟩, hJ.1.1.2⟩, hJ.1.2⟩, ?_⟩
  have g : ∀ k i j, k ≠ 58 → gL (sL s 58 0 0 x) k i j = gL s k i j := fun k i j h => by rw [gL_sL, if_neg (fun q => h q.1)]
  exact RD_k (KW_rf s) ⟨rfl, rfl, rfl, rfl, rfl, g 17 0 8 (by decide)⟩ ⟨fun _ _ => rfl, g 33 0 30 (by decide), rfl⟩ ⟨rfl, rfl, rfl, rfl, rfl, g 17 2 8 (by decide)⟩ ⟨fun _ _ => rfl, g 33 0 34 (by decide), rfl⟩ hJ.2
theorem zV_L {s : LMem} {x : Int64} (hJ : zV s) : zV (sL s 58 0 0 x) := ⟨⟨zD_L hJ.1.1, hJ.1.2⟩, hJ.2⟩
theorem sfv_reach (a b c : Int32) {s : LMem} {Q : LPost} (hJ : zV s) (h : lqv s Q) : qC false 1200 1007 [lR 0 (some 0), lI a, lI b, lI c, lR 58 (some 0)] s Q :=
  ⟨0, And.intro (fun _ => h 0 _ (zV_L hJ) (fun _ _ => rfl)) (fun _ => h 1 s hJ (fun _ _ => rfl))⟩
