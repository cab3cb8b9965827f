/-! SEGMENTS: what is tried apart. -/
theorem y_sls_this {l : List (Option YA)} {L : LLoc} {h : Int} (hL : y_sls (some (.inr (.inr (33, (0, 0), (0, h)))) :: l) L) (hh : h = 0 := by rfl) : ∃ L2, L = some (lR 33 (some 0)) :: L2 := by
  subst hh
  rcases L with _ | ⟨_ | v, L⟩
  · exact hL.elim
  · exact hL.elim
  · rcases v with v | v | ⟨k, o⟩
    · exact hL.1.elim
    · exact hL.1.elim
    · obtain ⟨e, q⟩ := hL.1
      have e : 33 = k := e
      subst e
      rcases q with ⟨_, q, _⟩ | ⟨i, q, _, q2, q3⟩
      · exact absurd q.2 (by decide)
      · have q3 : (i : Int) ≤ 0 := q3
        have : i = 0 := by omega
        subst this
        have q : o = some 0 := q
        subst q
        exact ⟨L, rfl⟩
def rh_X12_triedOf : YCt := (269, [.inr (.inr (33, (0, 0), (0, 0))), .inl (0, 3), .inl (0, 63), .inl ((-1), 5)], ([], []), [(33, 0, 0, 29, 29), (33, 0, 0, 29, 30), (33, 0, 0, 31, 31), (33, 0, 0, 33, 33), (42, 0, 0, 0, 7), (43, 0, 0, 0, 79), (48, 0, 0, 0, 159), (48, 0, 0, 0, 278), (48, 0, 0, 260, 271), (48, 0, 0, 273, 276), (49, 0, 0, 0, 278), (51, 0, 0, 0, 20)], [(some (.inl ((-2147483648), 2147483647)), [])], 120)
def rp_X12_triedOf : YCut := (0, [some (.inr (.inr (33, (0, 0), (0, 0)))), some (.inl (0, 3)), some (.inl (0, 63)), some (.inl ((-1), 5)), none, none], [], [])
def rb_X12_triedOf : YCut := (4, [some (.inr (.inr (33, (0, 0), (0, 0)))), some (.inl (0, 3)), some (.inl (0, 63)), some (.inl ((-1), 5)), none, none], [], [.inl 0])
def rB_X12_triedOf : List YCut := []
def re_X12_triedOf : YCut := (31, [some (.inr (.inr (33, (0, 0), (0, 0)))), none, none, none, none, some (.inl ((-2147483648), 2147483647))], [], [])
def rc_X12_triedOf : YCut := (35, [some (.inr (.inr (33, (0, 0), (0, 0)))), none, none, none, none, some (.inl ((-2147483648), 2147483647))], [], [.inl 0])
def rw_X12_triedOf : List YW := [(33, 0, 0, 29, 29), (42, 0, 0, 0, 7), (43, 0, 0, 0, 79), (48, 0, 0, 0, 159), (48, 0, 0, 260, 271), (48, 0, 0, 273, 276), (51, 0, 0, 0, 20)]
theorem rtB_X12_triedOf : y_seg yL_34 rw_X12_triedOf rw_X12_triedOf rh_X12_triedOf.1 (rh_X12_triedOf.2.2.2.2.2 - 1) [] (rb_X12_triedOf :: rB_X12_triedOf) [re_X12_triedOf] 4000 1 = true := by decide +kernel
theorem rtC_X12_triedOf : y_seg yL_34 [] [] rh_X12_triedOf.1 (rh_X12_triedOf.2.2.2.2.2 - 1) rh_X12_triedOf.2.2.2.2.1 [rc_X12_triedOf] [] 4000 1 = true := by decide +kernel
theorem r_X12_triedOf (s0 : LMem) : y_con (xR s0) rh_X12_triedOf := y_leaf (pP := rp_X12_triedOf) (y_all x_X_cl h_all0) ⟨by decide +kernel, by decide +kernel, by decide +kernel, by decide +kernel⟩ ⟨rfl, rfl, rfl⟩ rtB_X12_triedOf rtC_X12_triedOf
    (fun d bc bs L s Q hL h => by
    obtain ⟨L, rfl⟩ := y_sls_this hL
    refine qa_t1_W (cut := [4]) 3 ?_
    exact h)
    (fun d bc bs L s Q hL h => by
    obtain ⟨L, rfl⟩ := y_sls_this hL
    refine qa_t1_W (cut := [35]) 3 ?_
    exact h)
    ⟨rfl, rfl, by decide +kernel⟩ ⟨rfl, rfl, by decide +kernel⟩ ⟨by decide +kernel, by decide +kernel, by decide +kernel, by decide +kernel⟩ s0
def rh_X12_costOf : YCt := (292, [.inr (.inr (33, (0, 0), (0, 0))), .inl (0, 3), .inl (0, 99), .inl (1, 12), .inl (1, 6)], ([], []), [(33, 0, 0, 29, 29), (33, 0, 0, 29, 30), (33, 0, 0, 31, 31), (33, 0, 0, 33, 33), (42, 0, 0, 0, 7), (43, 0, 0, 0, 79), (48, 0, 0, 0, 159), (48, 0, 0, 0, 278), (48, 0, 0, 260, 271), (48, 0, 0, 273, 276), (49, 0, 0, 0, 278), (51, 0, 0, 0, 20)], [(some (.inl ((-2147483648), 2147483647)), [])], 120)
def rp_X12_costOf : YCut := (0, [some (.inr (.inr (33, (0, 0), (0, 0)))), some (.inl (0, 3)), some (.inl (0, 99)), some (.inl (1, 12)), some (.inl (1, 6)), none, none, none], [], [])
def rb_X12_costOf : YCut := (4, [some (.inr (.inr (33, (0, 0), (0, 0)))), some (.inl (0, 3)), some (.inl (0, 99)), some (.inl (1, 12)), some (.inl (1, 6)), none, none, none], [], [.inl 0, .inl 0])
def rB_X12_costOf : List YCut := [(25, [some (.inr (.inr (33, (0, 0), (0, 0)))), some (.inl (0, 3)), some (.inl (0, 99)), some (.inl (1, 12)), some (.inl (1, 6)), some (.inl ((-2147483648), 2147483647)), some (.inl ((-2147483648), 2147483647)), some (.inl (0, 12))], [], [.inl 1, .inr (.inl (false, 7))])]
def re_X12_costOf : YCut := (85, [some (.inr (.inr (33, (0, 0), (0, 0)))), none, none, none, none, none, none, some (.inl ((-2147483648), 2147483647))], [], [])
def rc_X12_costOf : YCut := (89, [some (.inr (.inr (33, (0, 0), (0, 0)))), none, none, none, none, none, none, some (.inl ((-2147483648), 2147483647))], [], [.inl 0])
def rw_X12_costOf : List YW := [(33, 0, 0, 29, 29), (42, 0, 0, 0, 7), (43, 0, 0, 0, 79), (48, 0, 0, 0, 159), (48, 0, 0, 260, 271), (48, 0, 0, 273, 276), (51, 0, 0, 0, 20)]
theorem rtB_X12_costOf : y_seg yL_34 rw_X12_costOf rw_X12_costOf rh_X12_costOf.1 (rh_X12_costOf.2.2.2.2.2 - 1) [] (rb_X12_costOf :: rB_X12_costOf) [re_X12_costOf] 4000 2 = true := by decide +kernel
theorem rtC_X12_costOf : y_seg yL_34 [] [] rh_X12_costOf.1 (rh_X12_costOf.2.2.2.2.2 - 1) rh_X12_costOf.2.2.2.2.1 [rc_X12_costOf] [] 4000 1 = true := by decide +kernel
theorem r_X12_costOf (s0 : LMem) : y_con (xR s0) rh_X12_costOf := y_leaf (pP := rp_X12_costOf) (y_all x_X_cl h_all0) ⟨by decide +kernel, by decide +kernel, by decide +kernel, by decide +kernel⟩ ⟨rfl, rfl, rfl⟩ rtB_X12_costOf rtC_X12_costOf
    (fun d bc bs L s Q hL h => by
    obtain ⟨L, rfl⟩ := y_sls_this hL
    refine qa_t1_W (cut := [4]) 3 ?_
    exact h)
    (fun d bc bs L s Q hL h => by
    obtain ⟨L, rfl⟩ := y_sls_this hL
    refine qa_t1_W (cut := [89]) 3 ?_
    exact h)
    ⟨rfl, rfl, by decide +kernel⟩ ⟨rfl, rfl, by decide +kernel⟩ ⟨by decide +kernel, by decide +kernel, by decide +kernel, by decide +kernel⟩ s0
def rh_X12_mudBehind : YCt := (298, [.inr (.inr (33, (0, 0), (0, 0))), .inl (0, 3), .inl (0, 19), .inl ((-1), 19)], ([], []), [(33, 0, 0, 29, 29), (33, 0, 0, 29, 30), (33, 0, 0, 31, 31), (33, 0, 0, 33, 33), (33, 0, 0, 37, 37), (42, 0, 0, 0, 7), (43, 0, 0, 0, 79), (48, 0, 0, 0, 159), (48, 0, 0, 0, 278), (48, 0, 0, 260, 271), (48, 0, 0, 273, 276), (49, 0, 0, 0, 278), (51, 0, 0, 0, 20)], [(some (.inl ((-2147483648), 2147483647)), [(33, 0, 37, .inl ((-1), (-1)))])], 120)
def rp_X12_mudBehind : YCut := (0, [some (.inr (.inr (33, (0, 0), (0, 0)))), some (.inl (0, 3)), some (.inl (0, 19)), some (.inl ((-1), 19)), none], [], [])
def rb_X12_mudBehind : YCut := (4, [some (.inr (.inr (33, (0, 0), (0, 0)))), some (.inl (0, 3)), some (.inl (0, 19)), some (.inl ((-1), 19)), none], [], [.inl 0])
def rB_X12_mudBehind : List YCut := []
def re_X12_mudBehind : YCut := (30, [some (.inr (.inr (33, (0, 0), (0, 0)))), none, none, none, some (.inl ((-2147483648), 2147483647))], [(33, 0, 37, .inl ((-1), (-1)))], [])
def rc_X12_mudBehind : YCut := (34, [some (.inr (.inr (33, (0, 0), (0, 0)))), none, none, none, some (.inl ((-2147483648), 2147483647))], [(33, 0, 37, .inl ((-1), (-1)))], [.inl 0])
def rw_X12_mudBehind : List YW := [(33, 0, 0, 29, 29), (33, 0, 0, 37, 37), (42, 0, 0, 0, 7), (43, 0, 0, 0, 79), (48, 0, 0, 0, 159), (48, 0, 0, 260, 271), (48, 0, 0, 273, 276), (51, 0, 0, 0, 20)]
theorem rtB_X12_mudBehind : y_seg yL_34 rw_X12_mudBehind rw_X12_mudBehind rh_X12_mudBehind.1 (rh_X12_mudBehind.2.2.2.2.2 - 1) [] (rb_X12_mudBehind :: rB_X12_mudBehind) [re_X12_mudBehind] 4000 1 = true := by decide +kernel
theorem rtC_X12_mudBehind : y_seg yL_34 [] [] rh_X12_mudBehind.1 (rh_X12_mudBehind.2.2.2.2.2 - 1) rh_X12_mudBehind.2.2.2.2.1 [rc_X12_mudBehind] [] 4000 1 = true := by decide +kernel
theorem r_X12_mudBehind (s0 : LMem) : y_con (xR s0) rh_X12_mudBehind := y_leaf (pP := rp_X12_mudBehind) (y_all x_X_cl h_all0) ⟨by decide +kernel, by decide +kernel, by decide +kernel, by decide +kernel⟩ ⟨rfl, rfl, rfl⟩ rtB_X12_mudBehind rtC_X12_mudBehind
    (fun d bc bs L s Q hL h => by
    obtain ⟨L, rfl⟩ := y_sls_this hL
    refine qa_t1_W (cut := [4]) 3 ?_
    exact h)
    (fun d bc bs L s Q hL h => by
    obtain ⟨L, rfl⟩ := y_sls_this hL
    refine qa_t1_W (cut := [34]) 3 ?_
    exact h)
    ⟨rfl, rfl, by decide +kernel⟩ ⟨rfl, rfl, by decide +kernel⟩ ⟨by decide +kernel, by decide +kernel, by decide +kernel, by decide +kernel⟩ s0
def rh_X12_sands_0 : YCt := (289, [.inr (.inr (33, (0, 0), (0, 0))), .inl (0, 0), .inl ((-2147483648), 2147483647), .inl ((-2147483648), 2147483647)], ([], []), [(33, 0, 0, 29, 29), (33, 0, 0, 29, 30), (33, 0, 0, 30, 30), (33, 0, 0, 31, 31), (33, 0, 0, 33, 33), (42, 0, 0, 0, 7), (43, 0, 0, 0, 79), (48, 0, 0, 0, 159), (48, 0, 0, 0, 278), (48, 0, 0, 260, 271), (48, 0, 0, 273, 276), (49, 0, 0, 0, 278), (51, 0, 0, 0, 20)], [(some (.inl ((-2147483648), 2147483647)), [])], 130)
def rp_X12_sands_0 : YCut := (20, [some (.inr (.inr (33, (0, 0), (0, 0)))), some (.inl (0, 0)), some (.inl (0, 3)), some (.inl (0, 2)), none, none], [(33, 0, 35, .inl (1, 1)), (33, 0, 21, .inl (1, 4))], [])
def rb_X12_sands_0 : YCut := (24, [some (.inr (.inr (33, (0, 0), (0, 0)))), some (.inl (0, 0)), some (.inl (0, 3)), some (.inl (0, 2)), none, none], [(33, 0, 35, .inl (1, 1)), (33, 0, 21, .inl (1, 4))], [.inl 0, .inl 0])
def rB_X12_sands_0 : List YCut := [(39, [some (.inr (.inr (33, (0, 0), (0, 0)))), none, none, some (.inl (0, 2)), some (.inl (0, 19)), some (.inl (1, 20))], [(33, 0, 35, .inl (1, 1)), (33, 0, 21, .inl (1, 4))], [.inl 1, .inr (.inl (false, 5))])]
def re_X12_sands_0 : YCut := (127, [some (.inr (.inr (33, (0, 0), (0, 0)))), none, none, none, none, some (.inl ((-2147483648), 2147483647))], [], [])
def rc_X12_sands_0 : YCut := (131, [some (.inr (.inr (33, (0, 0), (0, 0)))), none, none, none, none, some (.inl ((-2147483648), 2147483647))], [], [.inl 0])
def rw_X12_sands_0 : List YW := [(33, 0, 0, 29, 29), (33, 0, 0, 30, 30), (42, 0, 0, 0, 7), (43, 0, 0, 0, 79), (48, 0, 0, 0, 159), (48, 0, 0, 160, 278), (48, 0, 0, 260, 271), (48, 0, 0, 273, 276), (51, 0, 0, 0, 20)]
theorem rtB_X12_sands_0 : y_seg yL_34 rw_X12_sands_0 rw_X12_sands_0 rh_X12_sands_0.1 (rh_X12_sands_0.2.2.2.2.2 - 1) [] (rb_X12_sands_0 :: rB_X12_sands_0) [re_X12_sands_0] 4000 2 = true := by decide +kernel
theorem rtC_X12_sands_0 : y_seg yL_34 [] [] rh_X12_sands_0.1 (rh_X12_sands_0.2.2.2.2.2 - 1) rh_X12_sands_0.2.2.2.2.1 [rc_X12_sands_0] [] 4000 1 = true := by decide +kernel
def ra_X12_sands_0 : YCut := (0, [some (.inr (.inr (33, (0, 0), (0, 0)))), some (.inl (0, 0)), some (.inl ((-2147483648), 2147483647)), some (.inl ((-2147483648), 2147483647)), none, none], [], [.inl 0])
def rA_X12_sands_0 : List YCut := []
theorem rtA_X12_sands_0 : y_seg yL_34 [] [] rh_X12_sands_0.1 (rh_X12_sands_0.2.2.2.2.2 - 1) rh_X12_sands_0.2.2.2.2.1 (ra_X12_sands_0 :: rA_X12_sands_0) [rp_X12_sands_0] 4000 1 = true := by decide +kernel
theorem r_X12_sands_0 (s0 : LMem) : y_con (xR s0) rh_X12_sands_0 := y_root (cA := ra_X12_sands_0) (pP := rp_X12_sands_0) (y_all x_X_cl h_all0) ⟨by decide +kernel, by decide +kernel, by decide +kernel, by decide +kernel⟩ ⟨rfl, rfl, rfl⟩ rtA_X12_sands_0 rtB_X12_sands_0 rtC_X12_sands_0
    (fun d bc bs L s Q hL h => by
    obtain ⟨L, rfl⟩ := y_sls_this hL
    refine qa_t1_W (cut := [24]) 3 ?_
    exact h)
    (fun d bc bs L s Q hL h => by
    obtain ⟨L, rfl⟩ := y_sls_this hL
    refine qa_t1_W (cut := [131]) 3 ?_
    exact h)
    ⟨rfl, rfl, by decide +kernel⟩ ⟨rfl, rfl, by decide +kernel⟩ ⟨by decide +kernel, by decide +kernel, by decide +kernel, by decide +kernel⟩ s0
def rh_X12_sinks_0 : YCt := (290, [.inr (.inr (33, (0, 0), (0, 0))), .inl (0, 0), .inl ((-2147483648), 2147483647), .inl ((-2147483648), 2147483647), .inl ((-2147483648), 2147483647)], ([], []), [(33, 0, 0, 29, 29), (33, 0, 0, 29, 30), (33, 0, 0, 30, 30), (33, 0, 0, 31, 31), (33, 0, 0, 33, 33), (42, 0, 0, 0, 7), (43, 0, 0, 0, 79), (48, 0, 0, 0, 159), (48, 0, 0, 0, 278), (48, 0, 0, 260, 271), (48, 0, 0, 273, 276), (49, 0, 0, 0, 278), (51, 0, 0, 0, 20)], [(some (.inl ((-2147483648), 2147483647)), [])], 130)
def rp_X12_sinks_0 : YCut := (33, [some (.inr (.inr (33, (0, 0), (0, 0)))), some (.inl (0, 0)), some (.inl (0, 3)), some (.inl (1, 9)), some (.inl (0, 999)), none, none], [(33, 0, 35, .inl (1, 1)), (33, 0, 21, .inl (1, 4))], [])
def rb_X12_sinks_0 : YCut := (37, [some (.inr (.inr (33, (0, 0), (0, 0)))), some (.inl (0, 0)), some (.inl (0, 3)), some (.inl (1, 9)), some (.inl (0, 999)), none, none], [(33, 0, 35, .inl (1, 1)), (33, 0, 21, .inl (1, 4))], [.inl 0, .inl 0])
def rB_X12_sinks_0 : List YCut := [(43, [some (.inr (.inr (33, (0, 0), (0, 0)))), some (.inl (0, 0)), some (.inl (0, 3)), some (.inl (1, 9)), some (.inl (0, 999)), some (.inl ((-1), 30)), some (.inl (1, 31))], [(33, 0, 35, .inl (1, 1)), (33, 0, 21, .inl (1, 4))], [.inl 1, .inr (.inl (false, 6))])]
def re_X12_sinks_0 : YCut := (92, [some (.inr (.inr (33, (0, 0), (0, 0)))), none, none, none, none, some (.inl ((-1), 30)), none], [], [])
def rc_X12_sinks_0 : YCut := (96, [some (.inr (.inr (33, (0, 0), (0, 0)))), none, none, none, none, some (.inl ((-1), 30)), none], [], [.inl 0])
def rw_X12_sinks_0 : List YW := [(33, 0, 0, 29, 29), (33, 0, 0, 30, 30), (42, 0, 0, 0, 7), (43, 0, 0, 0, 79), (48, 0, 0, 0, 159), (48, 0, 0, 160, 278), (48, 0, 0, 260, 271), (48, 0, 0, 273, 276), (51, 0, 0, 0, 20)]
theorem rtB_X12_sinks_0 : y_seg yL_34 rw_X12_sinks_0 rw_X12_sinks_0 rh_X12_sinks_0.1 (rh_X12_sinks_0.2.2.2.2.2 - 1) [] (rb_X12_sinks_0 :: rB_X12_sinks_0) [re_X12_sinks_0] 4000 2 = true := by decide +kernel
theorem rtC_X12_sinks_0 : y_seg yL_34 [] [] rh_X12_sinks_0.1 (rh_X12_sinks_0.2.2.2.2.2 - 1) rh_X12_sinks_0.2.2.2.2.1 [rc_X12_sinks_0] [] 4000 1 = true := by decide +kernel
def ra_X12_sinks_0 : YCut := (0, [some (.inr (.inr (33, (0, 0), (0, 0)))), some (.inl (0, 0)), some (.inl ((-2147483648), 2147483647)), some (.inl ((-2147483648), 2147483647)), some (.inl ((-2147483648), 2147483647)), none, none], [], [.inl 0])
def rA_X12_sinks_0 : List YCut := []
theorem rtA_X12_sinks_0 : y_seg yL_34 [] [] rh_X12_sinks_0.1 (rh_X12_sinks_0.2.2.2.2.2 - 1) rh_X12_sinks_0.2.2.2.2.1 (ra_X12_sinks_0 :: rA_X12_sinks_0) [rp_X12_sinks_0] 4000 1 = true := by decide +kernel
theorem r_X12_sinks_0 (s0 : LMem) : y_con (xR s0) rh_X12_sinks_0 := y_root (cA := ra_X12_sinks_0) (pP := rp_X12_sinks_0) (y_all x_X_cl h_all0) ⟨by decide +kernel, by decide +kernel, by decide +kernel, by decide +kernel⟩ ⟨rfl, rfl, rfl⟩ rtA_X12_sinks_0 rtB_X12_sinks_0 rtC_X12_sinks_0
    (fun d bc bs L s Q hL h => by
    obtain ⟨L, rfl⟩ := y_sls_this hL
    refine qa_t1_W (cut := [37]) 3 ?_
    exact h)
    (fun d bc bs L s Q hL h => by
    obtain ⟨L, rfl⟩ := y_sls_this hL
    refine qa_t1_W (cut := [96]) 3 ?_
    exact h)
    ⟨rfl, rfl, by decide +kernel⟩ ⟨rfl, rfl, by decide +kernel⟩ ⟨by decide +kernel, by decide +kernel, by decide +kernel, by decide +kernel⟩ s0
def rh_X12_raised_0 : YCt := (291, [.inr (.inr (33, (0, 0), (0, 0))), .inl (0, 0), .inl ((-2147483648), 2147483647), .inl ((-2147483648), 2147483647)], ([], []), [(33, 0, 0, 29, 29), (33, 0, 0, 29, 30), (33, 0, 0, 30, 30), (33, 0, 0, 31, 31), (33, 0, 0, 33, 33), (42, 0, 0, 0, 7), (43, 0, 0, 0, 79), (48, 0, 0, 0, 159), (48, 0, 0, 0, 278), (48, 0, 0, 260, 271), (48, 0, 0, 273, 276), (49, 0, 0, 0, 278), (51, 0, 0, 0, 20)], [(some (.inl ((-2147483648), 2147483647)), [])], 130)
def rp_X12_raised_0 : YCut := (18, [some (.inr (.inr (33, (0, 0), (0, 0)))), some (.inl (0, 0)), some (.inl (0, 3)), some (.inl (0, 5)), none, none], [(33, 0, 35, .inl (1, 1)), (33, 0, 21, .inl (1, 4))], [])
def rb_X12_raised_0 : YCut := (22, [some (.inr (.inr (33, (0, 0), (0, 0)))), some (.inl (0, 0)), some (.inl (0, 3)), some (.inl (0, 5)), none, none], [(33, 0, 35, .inl (1, 1)), (33, 0, 21, .inl (1, 4))], [.inl 0, .inl 0])
def rB_X12_raised_0 : List YCut := [(28, [some (.inr (.inr (33, (0, 0), (0, 0)))), some (.inl (0, 0)), some (.inl (0, 3)), some (.inl (0, 5)), some (.inl ((-1), 30)), some (.inl (0, 31))], [(33, 0, 35, .inl (1, 1)), (33, 0, 21, .inl (1, 4))], [.inl 1, .inr (.inl (false, 5))])]
def re_X12_raised_0 : YCut := (78, [some (.inr (.inr (33, (0, 0), (0, 0)))), none, none, none, some (.inl ((-1), 30)), none], [], [])
def rc_X12_raised_0 : YCut := (82, [some (.inr (.inr (33, (0, 0), (0, 0)))), none, none, none, some (.inl ((-1), 30)), none], [], [.inl 0])
def rw_X12_raised_0 : List YW := [(33, 0, 0, 29, 29), (33, 0, 0, 30, 30), (42, 0, 0, 0, 7), (43, 0, 0, 0, 79), (48, 0, 0, 0, 159), (48, 0, 0, 160, 278), (48, 0, 0, 260, 271), (48, 0, 0, 273, 276), (51, 0, 0, 0, 20)]
theorem rtB_X12_raised_0 : y_seg yL_34 rw_X12_raised_0 rw_X12_raised_0 rh_X12_raised_0.1 (rh_X12_raised_0.2.2.2.2.2 - 1) [] (rb_X12_raised_0 :: rB_X12_raised_0) [re_X12_raised_0] 4000 2 = true := by decide +kernel
theorem rtC_X12_raised_0 : y_seg yL_34 [] [] rh_X12_raised_0.1 (rh_X12_raised_0.2.2.2.2.2 - 1) rh_X12_raised_0.2.2.2.2.1 [rc_X12_raised_0] [] 4000 1 = true := by decide +kernel
def ra_X12_raised_0 : YCut := (0, [some (.inr (.inr (33, (0, 0), (0, 0)))), some (.inl (0, 0)), some (.inl ((-2147483648), 2147483647)), some (.inl ((-2147483648), 2147483647)), none, none], [], [.inl 0])
def rA_X12_raised_0 : List YCut := []
theorem rtA_X12_raised_0 : y_seg yL_34 [] [] rh_X12_raised_0.1 (rh_X12_raised_0.2.2.2.2.2 - 1) rh_X12_raised_0.2.2.2.2.1 (ra_X12_raised_0 :: rA_X12_raised_0) [rp_X12_raised_0] 4000 1 = true := by decide +kernel
theorem r_X12_raised_0 (s0 : LMem) : y_con (xR s0) rh_X12_raised_0 := y_root (cA := ra_X12_raised_0) (pP := rp_X12_raised_0) (y_all x_X_cl h_all0) ⟨by decide +kernel, by decide +kernel, by decide +kernel, by decide +kernel⟩ ⟨rfl, rfl, rfl⟩ rtA_X12_raised_0 rtB_X12_raised_0 rtC_X12_raised_0
    (fun d bc bs L s Q hL h => by
    obtain ⟨L, rfl⟩ := y_sls_this hL
    refine qa_t1_W (cut := [22]) 3 ?_
    exact h)
    (fun d bc bs L s Q hL h => by
    obtain ⟨L, rfl⟩ := y_sls_this hL
    refine qa_t1_W (cut := [82]) 3 ?_
    exact h)
    ⟨rfl, rfl, by decide +kernel⟩ ⟨rfl, rfl, by decide +kernel⟩ ⟨by decide +kernel, by decide +kernel, by decide +kernel, by decide +kernel⟩ s0
def rh_X12_sands_1 : YCt := (289, [.inr (.inr (33, (0, 0), (0, 0))), .inl (1, 1), .inl ((-2147483648), 2147483647), .inl ((-2147483648), 2147483647)], ([], []), [(33, 0, 0, 29, 29), (33, 0, 0, 29, 30), (33, 0, 0, 30, 30), (33, 0, 0, 31, 31), (33, 0, 0, 33, 33), (42, 0, 0, 0, 7), (43, 0, 0, 0, 79), (48, 0, 0, 0, 159), (48, 0, 0, 0, 278), (48, 0, 0, 260, 271), (48, 0, 0, 273, 276), (49, 0, 0, 0, 278), (51, 0, 0, 0, 20)], [(some (.inl ((-2147483648), 2147483647)), [])], 130)
def rp_X12_sands_1 : YCut := (20, [some (.inr (.inr (33, (0, 0), (0, 0)))), some (.inl (1, 1)), some (.inl (0, 3)), some (.inl (0, 2)), none, none], [(33, 0, 35, .inl (1, 1)), (33, 0, 21, .inl (2, 4))], [])
def rb_X12_sands_1 : YCut := (24, [some (.inr (.inr (33, (0, 0), (0, 0)))), some (.inl (1, 1)), some (.inl (0, 3)), some (.inl (0, 2)), none, none], [(33, 0, 35, .inl (1, 1)), (33, 0, 21, .inl (2, 4))], [.inl 0, .inl 0])
def rB_X12_sands_1 : List YCut := [(39, [some (.inr (.inr (33, (0, 0), (0, 0)))), none, none, some (.inl (0, 2)), some (.inl (0, 19)), some (.inl (1, 20))], [(33, 0, 35, .inl (1, 1)), (33, 0, 21, .inl (2, 4))], [.inl 1, .inr (.inl (false, 5))])]
def re_X12_sands_1 : YCut := (127, [some (.inr (.inr (33, (0, 0), (0, 0)))), none, none, none, none, some (.inl ((-2147483648), 2147483647))], [], [])
def rc_X12_sands_1 : YCut := (131, [some (.inr (.inr (33, (0, 0), (0, 0)))), none, none, none, none, some (.inl ((-2147483648), 2147483647))], [], [.inl 0])
def rw_X12_sands_1 : List YW := [(33, 0, 0, 29, 29), (33, 0, 0, 30, 30), (42, 0, 0, 0, 7), (43, 0, 0, 0, 79), (48, 0, 0, 0, 159), (48, 0, 0, 160, 278), (48, 0, 0, 260, 271), (48, 0, 0, 273, 276), (51, 0, 0, 0, 20)]
theorem rtB_X12_sands_1 : y_seg yL_34 rw_X12_sands_1 rw_X12_sands_1 rh_X12_sands_1.1 (rh_X12_sands_1.2.2.2.2.2 - 1) [] (rb_X12_sands_1 :: rB_X12_sands_1) [re_X12_sands_1] 4000 2 = true := by decide +kernel
theorem rtC_X12_sands_1 : y_seg yL_34 [] [] rh_X12_sands_1.1 (rh_X12_sands_1.2.2.2.2.2 - 1) rh_X12_sands_1.2.2.2.2.1 [rc_X12_sands_1] [] 4000 1 = true := by decide +kernel
def ra_X12_sands_1 : YCut := (0, [some (.inr (.inr (33, (0, 0), (0, 0)))), some (.inl (1, 1)), some (.inl ((-2147483648), 2147483647)), some (.inl ((-2147483648), 2147483647)), none, none], [], [.inl 0])
def rA_X12_sands_1 : List YCut := []
theorem rtA_X12_sands_1 : y_seg yL_34 [] [] rh_X12_sands_1.1 (rh_X12_sands_1.2.2.2.2.2 - 1) rh_X12_sands_1.2.2.2.2.1 (ra_X12_sands_1 :: rA_X12_sands_1) [rp_X12_sands_1] 4000 1 = true := by decide +kernel
theorem r_X12_sands_1 (s0 : LMem) : y_con (xR s0) rh_X12_sands_1 := y_root (cA := ra_X12_sands_1) (pP := rp_X12_sands_1) (y_all x_X_cl h_all0) ⟨by decide +kernel, by decide +kernel, by decide +kernel, by decide +kernel⟩ ⟨rfl, rfl, rfl⟩ rtA_X12_sands_1 rtB_X12_sands_1 rtC_X12_sands_1
    (fun d bc bs L s Q hL h => by
    obtain ⟨L, rfl⟩ := y_sls_this hL
    refine qa_t1_W (cut := [24]) 3 ?_
    exact h)
    (fun d bc bs L s Q hL h => by
    obtain ⟨L, rfl⟩ := y_sls_this hL
    refine qa_t1_W (cut := [131]) 3 ?_
    exact h)
    ⟨rfl, rfl, by decide +kernel⟩ ⟨rfl, rfl, by decide +kernel⟩ ⟨by decide +kernel, by decide +kernel, by decide +kernel, by decide +kernel⟩ s0
def rh_X12_sinks_1 : YCt := (290, [.inr (.inr (33, (0, 0), (0, 0))), .inl (1, 1), .inl ((-2147483648), 2147483647), .inl ((-2147483648), 2147483647), .inl ((-2147483648), 2147483647)], ([], []), [(33, 0, 0, 29, 29), (33, 0, 0, 29, 30), (33, 0, 0, 30, 30), (33, 0, 0, 31, 31), (33, 0, 0, 33, 33), (42, 0, 0, 0, 7), (43, 0, 0, 0, 79), (48, 0, 0, 0, 159), (48, 0, 0, 0, 278), (48, 0, 0, 260, 271), (48, 0, 0, 273, 276), (49, 0, 0, 0, 278), (51, 0, 0, 0, 20)], [(some (.inl ((-2147483648), 2147483647)), [])], 130)
def rp_X12_sinks_1 : YCut := (33, [some (.inr (.inr (33, (0, 0), (0, 0)))), some (.inl (1, 1)), some (.inl (0, 3)), some (.inl (1, 9)), some (.inl (0, 999)), none, none], [(33, 0, 35, .inl (1, 1)), (33, 0, 21, .inl (2, 4))], [])
def rb_X12_sinks_1 : YCut := (37, [some (.inr (.inr (33, (0, 0), (0, 0)))), some (.inl (1, 1)), some (.inl (0, 3)), some (.inl (1, 9)), some (.inl (0, 999)), none, none], [(33, 0, 35, .inl (1, 1)), (33, 0, 21, .inl (2, 4))], [.inl 0, .inl 0])
def rB_X12_sinks_1 : List YCut := [(43, [some (.inr (.inr (33, (0, 0), (0, 0)))), some (.inl (1, 1)), some (.inl (0, 3)), some (.inl (1, 9)), some (.inl (0, 999)), some (.inl ((-1), 30)), some (.inl (1, 31))], [(33, 0, 35, .inl (1, 1)), (33, 0, 21, .inl (2, 4))], [.inl 1, .inr (.inl (false, 6))])]
def re_X12_sinks_1 : YCut := (92, [some (.inr (.inr (33, (0, 0), (0, 0)))), none, none, none, none, some (.inl ((-1), 30)), none], [], [])
def rc_X12_sinks_1 : YCut := (96, [some (.inr (.inr (33, (0, 0), (0, 0)))), none, none, none, none, some (.inl ((-1), 30)), none], [], [.inl 0])
def rw_X12_sinks_1 : List YW := [(33, 0, 0, 29, 29), (33, 0, 0, 30, 30), (42, 0, 0, 0, 7), (43, 0, 0, 0, 79), (48, 0, 0, 0, 159), (48, 0, 0, 160, 278), (48, 0, 0, 260, 271), (48, 0, 0, 273, 276), (51, 0, 0, 0, 20)]
theorem rtB_X12_sinks_1 : y_seg yL_34 rw_X12_sinks_1 rw_X12_sinks_1 rh_X12_sinks_1.1 (rh_X12_sinks_1.2.2.2.2.2 - 1) [] (rb_X12_sinks_1 :: rB_X12_sinks_1) [re_X12_sinks_1] 4000 2 = true := by decide +kernel
theorem rtC_X12_sinks_1 : y_seg yL_34 [] [] rh_X12_sinks_1.1 (rh_X12_sinks_1.2.2.2.2.2 - 1) rh_X12_sinks_1.2.2.2.2.1 [rc_X12_sinks_1] [] 4000 1 = true := by decide +kernel
def ra_X12_sinks_1 : YCut := (0, [some (.inr (.inr (33, (0, 0), (0, 0)))), some (.inl (1, 1)), some (.inl ((-2147483648), 2147483647)), some (.inl ((-2147483648), 2147483647)), some (.inl ((-2147483648), 2147483647)), none, none], [], [.inl 0])
def rA_X12_sinks_1 : List YCut := []
theorem rtA_X12_sinks_1 : y_seg yL_34 [] [] rh_X12_sinks_1.1 (rh_X12_sinks_1.2.2.2.2.2 - 1) rh_X12_sinks_1.2.2.2.2.1 (ra_X12_sinks_1 :: rA_X12_sinks_1) [rp_X12_sinks_1] 4000 1 = true := by decide +kernel
theorem r_X12_sinks_1 (s0 : LMem) : y_con (xR s0) rh_X12_sinks_1 := y_root (cA := ra_X12_sinks_1) (pP := rp_X12_sinks_1) (y_all x_X_cl h_all0) ⟨by decide +kernel, by decide +kernel, by decide +kernel, by decide +kernel⟩ ⟨rfl, rfl, rfl⟩ rtA_X12_sinks_1 rtB_X12_sinks_1 rtC_X12_sinks_1
    (fun d bc bs L s Q hL h => by
    obtain ⟨L, rfl⟩ := y_sls_this hL
    refine qa_t1_W (cut := [37]) 3 ?_
    exact h)
    (fun d bc bs L s Q hL h => by
    obtain ⟨L, rfl⟩ := y_sls_this hL
    refine qa_t1_W (cut := [96]) 3 ?_
    exact h)
    ⟨rfl, rfl, by decide +kernel⟩ ⟨rfl, rfl, by decide +kernel⟩ ⟨by decide +kernel, by decide +kernel, by decide +kernel, by decide +kernel⟩ s0
def rh_X12_raised_1 : YCt := (291, [.inr (.inr (33, (0, 0), (0, 0))), .inl (1, 1), .inl ((-2147483648), 2147483647), .inl ((-2147483648), 2147483647)], ([], []), [(33, 0, 0, 29, 29), (33, 0, 0, 29, 30), (33, 0, 0, 30, 30), (33, 0, 0, 31, 31), (33, 0, 0, 33, 33), (42, 0, 0, 0, 7), (43, 0, 0, 0, 79), (48, 0, 0, 0, 159), (48, 0, 0, 0, 278), (48, 0, 0, 260, 271), (48, 0, 0, 273, 276), (49, 0, 0, 0, 278), (51, 0, 0, 0, 20)], [(some (.inl ((-2147483648), 2147483647)), [])], 130)
def rp_X12_raised_1 : YCut := (18, [some (.inr (.inr (33, (0, 0), (0, 0)))), some (.inl (1, 1)), some (.inl (0, 3)), some (.inl (0, 5)), none, none], [(33, 0, 35, .inl (1, 1)), (33, 0, 21, .inl (2, 4))], [])
def rb_X12_raised_1 : YCut := (22, [some (.inr (.inr (33, (0, 0), (0, 0)))), some (.inl (1, 1)), some (.inl (0, 3)), some (.inl (0, 5)), none, none], [(33, 0, 35, .inl (1, 1)), (33, 0, 21, .inl (2, 4))], [.inl 0, .inl 0])
def rB_X12_raised_1 : List YCut := [(28, [some (.inr (.inr (33, (0, 0), (0, 0)))), some (.inl (1, 1)), some (.inl (0, 3)), some (.inl (0, 5)), some (.inl ((-1), 30)), some (.inl (0, 31))], [(33, 0, 35, .inl (1, 1)), (33, 0, 21, .inl (2, 4))], [.inl 1, .inr (.inl (false, 5))])]
def re_X12_raised_1 : YCut := (78, [some (.inr (.inr (33, (0, 0), (0, 0)))), none, none, none, some (.inl ((-1), 30)), none], [], [])
def rc_X12_raised_1 : YCut := (82, [some (.inr (.inr (33, (0, 0), (0, 0)))), none, none, none, some (.inl ((-1), 30)), none], [], [.inl 0])
def rw_X12_raised_1 : List YW := [(33, 0, 0, 29, 29), (33, 0, 0, 30, 30), (42, 0, 0, 0, 7), (43, 0, 0, 0, 79), (48, 0, 0, 0, 159), (48, 0, 0, 160, 278), (48, 0, 0, 260, 271), (48, 0, 0, 273, 276), (51, 0, 0, 0, 20)]
theorem rtB_X12_raised_1 : y_seg yL_34 rw_X12_raised_1 rw_X12_raised_1 rh_X12_raised_1.1 (rh_X12_raised_1.2.2.2.2.2 - 1) [] (rb_X12_raised_1 :: rB_X12_raised_1) [re_X12_raised_1] 4000 2 = true := by decide +kernel
theorem rtC_X12_raised_1 : y_seg yL_34 [] [] rh_X12_raised_1.1 (rh_X12_raised_1.2.2.2.2.2 - 1) rh_X12_raised_1.2.2.2.2.1 [rc_X12_raised_1] [] 4000 1 = true := by decide +kernel
def ra_X12_raised_1 : YCut := (0, [some (.inr (.inr (33, (0, 0), (0, 0)))), some (.inl (1, 1)), some (.inl ((-2147483648), 2147483647)), some (.inl ((-2147483648), 2147483647)), none, none], [], [.inl 0])
def rA_X12_raised_1 : List YCut := []
theorem rtA_X12_raised_1 : y_seg yL_34 [] [] rh_X12_raised_1.1 (rh_X12_raised_1.2.2.2.2.2 - 1) rh_X12_raised_1.2.2.2.2.1 (ra_X12_raised_1 :: rA_X12_raised_1) [rp_X12_raised_1] 4000 1 = true := by decide +kernel
theorem r_X12_raised_1 (s0 : LMem) : y_con (xR s0) rh_X12_raised_1 := y_root (cA := ra_X12_raised_1) (pP := rp_X12_raised_1) (y_all x_X_cl h_all0) ⟨by decide +kernel, by decide +kernel, by decide +kernel, by decide +kernel⟩ ⟨rfl, rfl, rfl⟩ rtA_X12_raised_1 rtB_X12_raised_1 rtC_X12_raised_1
    (fun d bc bs L s Q hL h => by
    obtain ⟨L, rfl⟩ := y_sls_this hL
    refine qa_t1_W (cut := [22]) 3 ?_
    exact h)
    (fun d bc bs L s Q hL h => by
    obtain ⟨L, rfl⟩ := y_sls_this hL
    refine qa_t1_W (cut := [82]) 3 ?_
    exact h)
    ⟨rfl, rfl, by decide +kernel⟩ ⟨rfl, rfl, by decide +kernel⟩ ⟨by decide +kernel, by decide +kernel, by decide +kernel, by decide +kernel⟩ s0
def rh_X12_sands_2 : YCt := (289, [.inr (.inr (33, (0, 0), (0, 0))), .inl (2, 2), .inl ((-2147483648), 2147483647), .inl ((-2147483648), 2147483647)], ([], []), [(33, 0, 0, 29, 29), (33, 0, 0, 29, 30), (33, 0, 0, 30, 30), (33, 0, 0, 31, 31), (33, 0, 0, 33, 33), (42, 0, 0, 0, 7), (43, 0, 0, 0, 79), (48, 0, 0, 0, 159), (48, 0, 0, 0, 278), (48, 0, 0, 260, 271), (48, 0, 0, 273, 276), (49, 0, 0, 0, 278), (51, 0, 0, 0, 20)], [(some (.inl ((-2147483648), 2147483647)), [])], 130)
def rp_X12_sands_2 : YCut := (20, [some (.inr (.inr (33, (0, 0), (0, 0)))), some (.inl (2, 2)), some (.inl (0, 3)), some (.inl (0, 2)), none, none], [(33, 0, 35, .inl (1, 1)), (33, 0, 21, .inl (3, 4))], [])
def rb_X12_sands_2 : YCut := (24, [some (.inr (.inr (33, (0, 0), (0, 0)))), some (.inl (2, 2)), some (.inl (0, 3)), some (.inl (0, 2)), none, none], [(33, 0, 35, .inl (1, 1)), (33, 0, 21, .inl (3, 4))], [.inl 0, .inl 0])
def rB_X12_sands_2 : List YCut := [(39, [some (.inr (.inr (33, (0, 0), (0, 0)))), none, none, some (.inl (0, 2)), some (.inl (0, 19)), some (.inl (1, 20))], [(33, 0, 35, .inl (1, 1)), (33, 0, 21, .inl (3, 4))], [.inl 1, .inr (.inl (false, 5))])]
def re_X12_sands_2 : YCut := (127, [some (.inr (.inr (33, (0, 0), (0, 0)))), none, none, none, none, some (.inl ((-2147483648), 2147483647))], [], [])
def rc_X12_sands_2 : YCut := (131, [some (.inr (.inr (33, (0, 0), (0, 0)))), none, none, none, none, some (.inl ((-2147483648), 2147483647))], [], [.inl 0])
def rw_X12_sands_2 : List YW := [(33, 0, 0, 29, 29), (33, 0, 0, 30, 30), (42, 0, 0, 0, 7), (43, 0, 0, 0, 79), (48, 0, 0, 0, 159), (48, 0, 0, 160, 278), (48, 0, 0, 260, 271), (48, 0, 0, 273, 276), (51, 0, 0, 0, 20)]
theorem rtB_X12_sands_2 : y_seg yL_34 rw_X12_sands_2 rw_X12_sands_2 rh_X12_sands_2.1 (rh_X12_sands_2.2.2.2.2.2 - 1) [] (rb_X12_sands_2 :: rB_X12_sands_2) [re_X12_sands_2] 4000 2 = true := by decide +kernel
theorem rtC_X12_sands_2 : y_seg yL_34 [] [] rh_X12_sands_2.1 (rh_X12_sands_2.2.2.2.2.2 - 1) rh_X12_sands_2.2.2.2.2.1 [rc_X12_sands_2] [] 4000 1 = true := by decide +kernel
def ra_X12_sands_2 : YCut := (0, [some (.inr (.inr (33, (0, 0), (0, 0)))), some (.inl (2, 2)), some (.inl ((-2147483648), 2147483647)), some (.inl ((-2147483648), 2147483647)), none, none], [], [.inl 0])
def rA_X12_sands_2 : List YCut := []
theorem rtA_X12_sands_2 : y_seg yL_34 [] [] rh_X12_sands_2.1 (rh_X12_sands_2.2.2.2.2.2 - 1) rh_X12_sands_2.2.2.2.2.1 (ra_X12_sands_2 :: rA_X12_sands_2) [rp_X12_sands_2] 4000 1 = true := by decide +kernel
theorem r_X12_sands_2 (s0 : LMem) : y_con (xR s0) rh_X12_sands_2 := y_root (cA := ra_X12_sands_2) (pP := rp_X12_sands_2) (y_all x_X_cl h_all0) ⟨by decide +kernel, by decide +kernel, by decide +kernel, by decide +kernel⟩ ⟨rfl, rfl, rfl⟩ rtA_X12_sands_2 rtB_X12_sands_2 rtC_X12_sands_2
    (fun d bc bs L s Q hL h => by
    obtain ⟨L, rfl⟩ := y_sls_this hL
    refine qa_t1_W (cut := [24]) 3 ?_
    exact h)
    (fun d bc bs L s Q hL h => by
    obtain ⟨L, rfl⟩ := y_sls_this hL
    refine qa_t1_W (cut := [131]) 3 ?_
    exact h)
    ⟨rfl, rfl, by decide +kernel⟩ ⟨rfl, rfl, by decide +kernel⟩ ⟨by decide +kernel, by decide +kernel, by decide +kernel, by decide +kernel⟩ s0
def rh_X12_sinks_2 : YCt := (290, [.inr (.inr (33, (0, 0), (0, 0))), .inl (2, 2), .inl ((-2147483648), 2147483647), .inl ((-2147483648), 2147483647), .inl ((-2147483648), 2147483647)], ([], []), [(33, 0, 0, 29, 29), (33, 0, 0, 29, 30), (33, 0, 0, 30, 30), (33, 0, 0, 31, 31), (33, 0, 0, 33, 33), (42, 0, 0, 0, 7), (43, 0, 0, 0, 79), (48, 0, 0, 0, 159), (48, 0, 0, 0, 278), (48, 0, 0, 260, 271), (48, 0, 0, 273, 276), (49, 0, 0, 0, 278), (51, 0, 0, 0, 20)], [(some (.inl ((-2147483648), 2147483647)), [])], 130)
def rp_X12_sinks_2 : YCut := (33, [some (.inr (.inr (33, (0, 0), (0, 0)))), some (.inl (2, 2)), some (.inl (0, 3)), some (.inl (1, 9)), some (.inl (0, 999)), none, none], [(33, 0, 35, .inl (1, 1)), (33, 0, 21, .inl (3, 4))], [])
def rb_X12_sinks_2 : YCut := (37, [some (.inr (.inr (33, (0, 0), (0, 0)))), some (.inl (2, 2)), some (.inl (0, 3)), some (.inl (1, 9)), some (.inl (0, 999)), none, none], [(33, 0, 35, .inl (1, 1)), (33, 0, 21, .inl (3, 4))], [.inl 0, .inl 0])
def rB_X12_sinks_2 : List YCut := [(43, [some (.inr (.inr (33, (0, 0), (0, 0)))), some (.inl (2, 2)), some (.inl (0, 3)), some (.inl (1, 9)), some (.inl (0, 999)), some (.inl ((-1), 30)), some (.inl (1, 31))], [(33, 0, 35, .inl (1, 1)), (33, 0, 21, .inl (3, 4))], [.inl 1, .inr (.inl (false, 6))])]
def re_X12_sinks_2 : YCut := (92, [some (.inr (.inr (33, (0, 0), (0, 0)))), none, none, none, none, some (.inl ((-1), 30)), none], [], [])
def rc_X12_sinks_2 : YCut := (96, [some (.inr (.inr (33, (0, 0), (0, 0)))), none, none, none, none, some (.inl ((-1), 30)), none], [], [.inl 0])
def rw_X12_sinks_2 : List YW := [(33, 0, 0, 29, 29), (33, 0, 0, 30, 30), (42, 0, 0, 0, 7), (43, 0, 0, 0, 79), (48, 0, 0, 0, 159), (48, 0, 0, 160, 278), (48, 0, 0, 260, 271), (48, 0, 0, 273, 276), (51, 0, 0, 0, 20)]
theorem rtB_X12_sinks_2 : y_seg yL_34 rw_X12_sinks_2 rw_X12_sinks_2 rh_X12_sinks_2.1 (rh_X12_sinks_2.2.2.2.2.2 - 1) [] (rb_X12_sinks_2 :: rB_X12_sinks_2) [re_X12_sinks_2] 4000 2 = true := by decide +kernel
theorem rtC_X12_sinks_2 : y_seg yL_34 [] [] rh_X12_sinks_2.1 (rh_X12_sinks_2.2.2.2.2.2 - 1) rh_X12_sinks_2.2.2.2.2.1 [rc_X12_sinks_2] [] 4000 1 = true := by decide +kernel
def ra_X12_sinks_2 : YCut := (0, [some (.inr (.inr (33, (0, 0), (0, 0)))), some (.inl (2, 2)), some (.inl ((-2147483648), 2147483647)), some (.inl ((-2147483648), 2147483647)), some (.inl ((-2147483648), 2147483647)), none, none], [], [.inl 0])
def rA_X12_sinks_2 : List YCut := []
theorem rtA_X12_sinks_2 : y_seg yL_34 [] [] rh_X12_sinks_2.1 (rh_X12_sinks_2.2.2.2.2.2 - 1) rh_X12_sinks_2.2.2.2.2.1 (ra_X12_sinks_2 :: rA_X12_sinks_2) [rp_X12_sinks_2] 4000 1 = true := by decide +kernel
theorem r_X12_sinks_2 (s0 : LMem) : y_con (xR s0) rh_X12_sinks_2 := y_root (cA := ra_X12_sinks_2) (pP := rp_X12_sinks_2) (y_all x_X_cl h_all0) ⟨by decide +kernel, by decide +kernel, by decide +kernel, by decide +kernel⟩ ⟨rfl, rfl, rfl⟩ rtA_X12_sinks_2 rtB_X12_sinks_2 rtC_X12_sinks_2
    (fun d bc bs L s Q hL h => by
    obtain ⟨L, rfl⟩ := y_sls_this hL
    refine qa_t1_W (cut := [37]) 3 ?_
    exact h)
    (fun d bc bs L s Q hL h => by
    obtain ⟨L, rfl⟩ := y_sls_this hL
    refine qa_t1_W (cut := [96]) 3 ?_
    exact h)
    ⟨rfl, rfl, by decide +kernel⟩ ⟨rfl, rfl, by decide +kernel⟩ ⟨by decide +kernel, by decide +kernel, by decide +kernel, by decide +kernel⟩ s0
def rh_X12_raised_2 : YCt := (291, [.inr (.inr (33, (0, 0), (0, 0))), .inl (2, 2), .inl ((-2147483648), 2147483647), .inl ((-2147483648), 2147483647)], ([], []), [(33, 0, 0, 29, 29), (33, 0, 0, 29, 30), (33, 0, 0, 30, 30), (33, 0, 0, 31, 31), (33, 0, 0, 33, 33), (42, 0, 0, 0, 7), (43, 0, 0, 0, 79), (48, 0, 0, 0, 159), (48, 0, 0, 0, 278), (48, 0, 0, 260, 271), (48, 0, 0, 273, 276), (49, 0, 0, 0, 278), (51, 0, 0, 0, 20)], [(some (.inl ((-2147483648), 2147483647)), [])], 130)
def rp_X12_raised_2 : YCut := (18, [some (.inr (.inr (33, (0, 0), (0, 0)))), some (.inl (2, 2)), some (.inl (0, 3)), some (.inl (0, 5)), none, none], [(33, 0, 35, .inl (1, 1)), (33, 0, 21, .inl (3, 4))], [])
def rb_X12_raised_2 : YCut := (22, [some (.inr (.inr (33, (0, 0), (0, 0)))), some (.inl (2, 2)), some (.inl (0, 3)), some (.inl (0, 5)), none, none], [(33, 0, 35, .inl (1, 1)), (33, 0, 21, .inl (3, 4))], [.inl 0, .inl 0])
def rB_X12_raised_2 : List YCut := [(28, [some (.inr (.inr (33, (0, 0), (0, 0)))), some (.inl (2, 2)), some (.inl (0, 3)), some (.inl (0, 5)), some (.inl ((-1), 30)), some (.inl (0, 31))], [(33, 0, 35, .inl (1, 1)), (33, 0, 21, .inl (3, 4))], [.inl 1, .inr (.inl (false, 5))])]
def re_X12_raised_2 : YCut := (78, [some (.inr (.inr (33, (0, 0), (0, 0)))), none, none, none, some (.inl ((-1), 30)), none], [], [])
def rc_X12_raised_2 : YCut := (82, [some (.inr (.inr (33, (0, 0), (0, 0)))), none, none, none, some (.inl ((-1), 30)), none], [], [.inl 0])
def rw_X12_raised_2 : List YW := [(33, 0, 0, 29, 29), (33, 0, 0, 30, 30), (42, 0, 0, 0, 7), (43, 0, 0, 0, 79), (48, 0, 0, 0, 159), (48, 0, 0, 160, 278), (48, 0, 0, 260, 271), (48, 0, 0, 273, 276), (51, 0, 0, 0, 20)]
theorem rtB_X12_raised_2 : y_seg yL_34 rw_X12_raised_2 rw_X12_raised_2 rh_X12_raised_2.1 (rh_X12_raised_2.2.2.2.2.2 - 1) [] (rb_X12_raised_2 :: rB_X12_raised_2) [re_X12_raised_2] 4000 2 = true := by decide +kernel
theorem rtC_X12_raised_2 : y_seg yL_34 [] [] rh_X12_raised_2.1 (rh_X12_raised_2.2.2.2.2.2 - 1) rh_X12_raised_2.2.2.2.2.1 [rc_X12_raised_2] [] 4000 1 = true := by decide +kernel
def ra_X12_raised_2 : YCut := (0, [some (.inr (.inr (33, (0, 0), (0, 0)))), some (.inl (2, 2)), some (.inl ((-2147483648), 2147483647)), some (.inl ((-2147483648), 2147483647)), none, none], [], [.inl 0])
def rA_X12_raised_2 : List YCut := []
theorem rtA_X12_raised_2 : y_seg yL_34 [] [] rh_X12_raised_2.1 (rh_X12_raised_2.2.2.2.2.2 - 1) rh_X12_raised_2.2.2.2.2.1 (ra_X12_raised_2 :: rA_X12_raised_2) [rp_X12_raised_2] 4000 1 = true := by decide +kernel
theorem r_X12_raised_2 (s0 : LMem) : y_con (xR s0) rh_X12_raised_2 := y_root (cA := ra_X12_raised_2) (pP := rp_X12_raised_2) (y_all x_X_cl h_all0) ⟨by decide +kernel, by decide +kernel, by decide +kernel, by decide +kernel⟩ ⟨rfl, rfl, rfl⟩ rtA_X12_raised_2 rtB_X12_raised_2 rtC_X12_raised_2
    (fun d bc bs L s Q hL h => by
    obtain ⟨L, rfl⟩ := y_sls_this hL
    refine qa_t1_W (cut := [22]) 3 ?_
    exact h)
    (fun d bc bs L s Q hL h => by
    obtain ⟨L, rfl⟩ := y_sls_this hL
    refine qa_t1_W (cut := [82]) 3 ?_
    exact h)
    ⟨rfl, rfl, by decide +kernel⟩ ⟨rfl, rfl, by decide +kernel⟩ ⟨by decide +kernel, by decide +kernel, by decide +kernel, by decide +kernel⟩ s0
def rh_X12_sands_3 : YCt := (289, [.inr (.inr (33, (0, 0), (0, 0))), .inl (3, 3), .inl ((-2147483648), 2147483647), .inl ((-2147483648), 2147483647)], ([], []), [(33, 0, 0, 29, 29), (33, 0, 0, 29, 30), (33, 0, 0, 30, 30), (33, 0, 0, 31, 31), (33, 0, 0, 33, 33), (42, 0, 0, 0, 7), (43, 0, 0, 0, 79), (48, 0, 0, 0, 159), (48, 0, 0, 0, 278), (48, 0, 0, 260, 271), (48, 0, 0, 273, 276), (49, 0, 0, 0, 278), (51, 0, 0, 0, 20)], [(some (.inl ((-2147483648), 2147483647)), [])], 130)
def rp_X12_sands_3 : YCut := (20, [some (.inr (.inr (33, (0, 0), (0, 0)))), some (.inl (3, 3)), some (.inl (0, 3)), some (.inl (0, 2)), none, none], [(33, 0, 35, .inl (1, 1)), (33, 0, 21, .inl (4, 4))], [])
def rb_X12_sands_3 : YCut := (24, [some (.inr (.inr (33, (0, 0), (0, 0)))), some (.inl (3, 3)), some (.inl (0, 3)), some (.inl (0, 2)), none, none], [(33, 0, 35, .inl (1, 1)), (33, 0, 21, .inl (4, 4))], [.inl 0, .inl 0])
def rB_X12_sands_3 : List YCut := [(39, [some (.inr (.inr (33, (0, 0), (0, 0)))), none, none, some (.inl (0, 2)), some (.inl (0, 19)), some (.inl (1, 20))], [(33, 0, 35, .inl (1, 1)), (33, 0, 21, .inl (4, 4))], [.inl 1, .inr (.inl (false, 5))])]
def re_X12_sands_3 : YCut := (127, [some (.inr (.inr (33, (0, 0), (0, 0)))), none, none, none, none, some (.inl ((-2147483648), 2147483647))], [], [])
def rc_X12_sands_3 : YCut := (131, [some (.inr (.inr (33, (0, 0), (0, 0)))), none, none, none, none, some (.inl ((-2147483648), 2147483647))], [], [.inl 0])
def rw_X12_sands_3 : List YW := [(33, 0, 0, 29, 29), (33, 0, 0, 30, 30), (42, 0, 0, 0, 7), (43, 0, 0, 0, 79), (48, 0, 0, 0, 159), (48, 0, 0, 160, 278), (48, 0, 0, 260, 271), (48, 0, 0, 273, 276), (51, 0, 0, 0, 20)]
theorem rtB_X12_sands_3 : y_seg yL_34 rw_X12_sands_3 rw_X12_sands_3 rh_X12_sands_3.1 (rh_X12_sands_3.2.2.2.2.2 - 1) [] (rb_X12_sands_3 :: rB_X12_sands_3) [re_X12_sands_3] 4000 2 = true := by decide +kernel
theorem rtC_X12_sands_3 : y_seg yL_34 [] [] rh_X12_sands_3.1 (rh_X12_sands_3.2.2.2.2.2 - 1) rh_X12_sands_3.2.2.2.2.1 [rc_X12_sands_3] [] 4000 1 = true := by decide +kernel
def ra_X12_sands_3 : YCut := (0, [some (.inr (.inr (33, (0, 0), (0, 0)))), some (.inl (3, 3)), some (.inl ((-2147483648), 2147483647)), some (.inl ((-2147483648), 2147483647)), none, none], [], [.inl 0])
def rA_X12_sands_3 : List YCut := []
theorem rtA_X12_sands_3 : y_seg yL_34 [] [] rh_X12_sands_3.1 (rh_X12_sands_3.2.2.2.2.2 - 1) rh_X12_sands_3.2.2.2.2.1 (ra_X12_sands_3 :: rA_X12_sands_3) [rp_X12_sands_3] 4000 1 = true := by decide +kernel
theorem r_X12_sands_3 (s0 : LMem) : y_con (xR s0) rh_X12_sands_3 := y_root (cA := ra_X12_sands_3) (pP := rp_X12_sands_3) (y_all x_X_cl h_all0) ⟨by decide +kernel, by decide +kernel, by decide +kernel, by decide +kernel⟩ ⟨rfl, rfl, rfl⟩ rtA_X12_sands_3 rtB_X12_sands_3 rtC_X12_sands_3
    (fun d bc bs L s Q hL h => by
    obtain ⟨L, rfl⟩ := y_sls_this hL
    refine qa_t1_W (cut := [24]) 3 ?_
    exact h)
    (fun d bc bs L s Q hL h => by
    obtain ⟨L, rfl⟩ := y_sls_this hL
    refine qa_t1_W (cut := [131]) 3 ?_
    exact h)
    ⟨rfl, rfl, by decide +kernel⟩ ⟨rfl, rfl, by decide +kernel⟩ ⟨by decide +kernel, by decide +kernel, by decide +kernel, by decide +kernel⟩ s0
def rh_X12_sinks_3 : YCt := (290, [.inr (.inr (33, (0, 0), (0, 0))), .inl (3, 3), .inl ((-2147483648), 2147483647), .inl ((-2147483648), 2147483647), .inl ((-2147483648), 2147483647)], ([], []), [(33, 0, 0, 29, 29), (33, 0, 0, 29, 30), (33, 0, 0, 30, 30), (33, 0, 0, 31, 31), (33, 0, 0, 33, 33), (42, 0, 0, 0, 7), (43, 0, 0, 0, 79), (48, 0, 0, 0, 159), (48, 0, 0, 0, 278), (48, 0, 0, 260, 271), (48, 0, 0, 273, 276), (49, 0, 0, 0, 278), (51, 0, 0, 0, 20)], [(some (.inl ((-2147483648), 2147483647)), [])], 130)
def rp_X12_sinks_3 : YCut := (33, [some (.inr (.inr (33, (0, 0), (0, 0)))), some (.inl (3, 3)), some (.inl (0, 3)), some (.inl (1, 9)), some (.inl (0, 999)), none, none], [(33, 0, 35, .inl (1, 1)), (33, 0, 21, .inl (4, 4))], [])
def rb_X12_sinks_3 : YCut := (37, [some (.inr (.inr (33, (0, 0), (0, 0)))), some (.inl (3, 3)), some (.inl (0, 3)), some (.inl (1, 9)), some (.inl (0, 999)), none, none], [(33, 0, 35, .inl (1, 1)), (33, 0, 21, .inl (4, 4))], [.inl 0, .inl 0])
def rB_X12_sinks_3 : List YCut := [(43, [some (.inr (.inr (33, (0, 0), (0, 0)))), some (.inl (3, 3)), some (.inl (0, 3)), some (.inl (1, 9)), some (.inl (0, 999)), some (.inl ((-1), 30)), some (.inl (1, 31))], [(33, 0, 35, .inl (1, 1)), (33, 0, 21, .inl (4, 4))], [.inl 1, .inr (.inl (false, 6))])]
def re_X12_sinks_3 : YCut := (92, [some (.inr (.inr (33, (0, 0), (0, 0)))), none, none, none, none, some (.inl ((-1), 30)), none], [], [])
def rc_X12_sinks_3 : YCut := (96, [some (.inr (.inr (33, (0, 0), (0, 0)))), none, none, none, none, some (.inl ((-1), 30)), none], [], [.inl 0])
def rw_X12_sinks_3 : List YW := [(33, 0, 0, 29, 29), (33, 0, 0, 30, 30), (42, 0, 0, 0, 7), (43, 0, 0, 0, 79), (48, 0, 0, 0, 159), (48, 0, 0, 160, 278), (48, 0, 0, 260, 271), (48, 0, 0, 273, 276), (51, 0, 0, 0, 20)]
theorem rtB_X12_sinks_3 : y_seg yL_34 rw_X12_sinks_3 rw_X12_sinks_3 rh_X12_sinks_3.1 (rh_X12_sinks_3.2.2.2.2.2 - 1) [] (rb_X12_sinks_3 :: rB_X12_sinks_3) [re_X12_sinks_3] 4000 2 = true := by decide +kernel
theorem rtC_X12_sinks_3 : y_seg yL_34 [] [] rh_X12_sinks_3.1 (rh_X12_sinks_3.2.2.2.2.2 - 1) rh_X12_sinks_3.2.2.2.2.1 [rc_X12_sinks_3] [] 4000 1 = true := by decide +kernel
def ra_X12_sinks_3 : YCut := (0, [some (.inr (.inr (33, (0, 0), (0, 0)))), some (.inl (3, 3)), some (.inl ((-2147483648), 2147483647)), some (.inl ((-2147483648), 2147483647)), some (.inl ((-2147483648), 2147483647)), none, none], [], [.inl 0])
def rA_X12_sinks_3 : List YCut := []
theorem rtA_X12_sinks_3 : y_seg yL_34 [] [] rh_X12_sinks_3.1 (rh_X12_sinks_3.2.2.2.2.2 - 1) rh_X12_sinks_3.2.2.2.2.1 (ra_X12_sinks_3 :: rA_X12_sinks_3) [rp_X12_sinks_3] 4000 1 = true := by decide +kernel
theorem r_X12_sinks_3 (s0 : LMem) : y_con (xR s0) rh_X12_sinks_3 := y_root (cA := ra_X12_sinks_3) (pP := rp_X12_sinks_3) (y_all x_X_cl h_all0) ⟨by decide +kernel, by decide +kernel, by decide +kernel, by decide +kernel⟩ ⟨rfl, rfl, rfl⟩ rtA_X12_sinks_3 rtB_X12_sinks_3 rtC_X12_sinks_3
    (fun d bc bs L s Q hL h => by
    obtain ⟨L, rfl⟩ := y_sls_this hL
    refine qa_t1_W (cut := [37]) 3 ?_
    exact h)
    (fun d bc bs L s Q hL h => by
    obtain ⟨L, rfl⟩ := y_sls_this hL
    refine qa_t1_W (cut := [96]) 3 ?_
    exact h)
    ⟨rfl, rfl, by decide +kernel⟩ ⟨rfl, rfl, by decide +kernel⟩ ⟨by decide +kernel, by decide +kernel, by decide +kernel, by decide +kernel⟩ s0
def rh_X12_raised_3 : YCt := (291, [.inr (.inr (33, (0, 0), (0, 0))), .inl (3, 3), .inl ((-2147483648), 2147483647), .inl ((-2147483648), 2147483647)], ([], []), [(33, 0, 0, 29, 29), (33, 0, 0, 29, 30), (33, 0, 0, 30, 30), (33, 0, 0, 31, 31), (33, 0, 0, 33, 33), (42, 0, 0, 0, 7), (43, 0, 0, 0, 79), (48, 0, 0, 0, 159), (48, 0, 0, 0, 278), (48, 0, 0, 260, 271), (48, 0, 0, 273, 276), (49, 0, 0, 0, 278), (51, 0, 0, 0, 20)], [(some (.inl ((-2147483648), 2147483647)), [])], 130)
def rp_X12_raised_3 : YCut := (18, [some (.inr (.inr (33, (0, 0), (0, 0)))), some (.inl (3, 3)), some (.inl (0, 3)), some (.inl (0, 5)), none, none], [(33, 0, 35, .inl (1, 1)), (33, 0, 21, .inl (4, 4))], [])
def rb_X12_raised_3 : YCut := (22, [some (.inr (.inr (33, (0, 0), (0, 0)))), some (.inl (3, 3)), some (.inl (0, 3)), some (.inl (0, 5)), none, none], [(33, 0, 35, .inl (1, 1)), (33, 0, 21, .inl (4, 4))], [.inl 0, .inl 0])
def rB_X12_raised_3 : List YCut := [(28, [some (.inr (.inr (33, (0, 0), (0, 0)))), some (.inl (3, 3)), some (.inl (0, 3)), some (.inl (0, 5)), some (.inl ((-1), 30)), some (.inl (0, 31))], [(33, 0, 35, .inl (1, 1)), (33, 0, 21, .inl (4, 4))], [.inl 1, .inr (.inl (false, 5))])]
def re_X12_raised_3 : YCut := (78, [some (.inr (.inr (33, (0, 0), (0, 0)))), none, none, none, some (.inl ((-1), 30)), none], [], [])
def rc_X12_raised_3 : YCut := (82, [some (.inr (.inr (33, (0, 0), (0, 0)))), none, none, none, some (.inl ((-1), 30)), none], [], [.inl 0])
def rw_X12_raised_3 : List YW := [(33, 0, 0, 29, 29), (33, 0, 0, 30, 30), (42, 0, 0, 0, 7), (43, 0, 0, 0, 79), (48, 0, 0, 0, 159), (48, 0, 0, 160, 278), (48, 0, 0, 260, 271), (48, 0, 0, 273, 276), (51, 0, 0, 0, 20)]
theorem rtB_X12_raised_3 : y_seg yL_34 rw_X12_raised_3 rw_X12_raised_3 rh_X12_raised_3.1 (rh_X12_raised_3.2.2.2.2.2 - 1) [] (rb_X12_raised_3 :: rB_X12_raised_3) [re_X12_raised_3] 4000 2 = true := by decide +kernel
theorem rtC_X12_raised_3 : y_seg yL_34 [] [] rh_X12_raised_3.1 (rh_X12_raised_3.2.2.2.2.2 - 1) rh_X12_raised_3.2.2.2.2.1 [rc_X12_raised_3] [] 4000 1 = true := by decide +kernel
def ra_X12_raised_3 : YCut := (0, [some (.inr (.inr (33, (0, 0), (0, 0)))), some (.inl (3, 3)), some (.inl ((-2147483648), 2147483647)), some (.inl ((-2147483648), 2147483647)), none, none], [], [.inl 0])
def rA_X12_raised_3 : List YCut := []
theorem rtA_X12_raised_3 : y_seg yL_34 [] [] rh_X12_raised_3.1 (rh_X12_raised_3.2.2.2.2.2 - 1) rh_X12_raised_3.2.2.2.2.1 (ra_X12_raised_3 :: rA_X12_raised_3) [rp_X12_raised_3] 4000 1 = true := by decide +kernel
theorem r_X12_raised_3 (s0 : LMem) : y_con (xR s0) rh_X12_raised_3 := y_root (cA := ra_X12_raised_3) (pP := rp_X12_raised_3) (y_all x_X_cl h_all0) ⟨by decide +kernel, by decide +kernel, by decide +kernel, by decide +kernel⟩ ⟨rfl, rfl, rfl⟩ rtA_X12_raised_3 rtB_X12_raised_3 rtC_X12_raised_3
    (fun d bc bs L s Q hL h => by
    obtain ⟨L, rfl⟩ := y_sls_this hL
    refine qa_t1_W (cut := [22]) 3 ?_
    exact h)
    (fun d bc bs L s Q hL h => by
    obtain ⟨L, rfl⟩ := y_sls_this hL
    refine qa_t1_W (cut := [82]) 3 ?_
    exact h)
    ⟨rfl, rfl, by decide +kernel⟩ ⟨rfl, rfl, by decide +kernel⟩ ⟨by decide +kernel, by decide +kernel, by decide +kernel, by decide +kernel⟩ s0
def rh_X12_weigh : YCt := (275, [.inr (.inr (33, (0, 0), (0, 0))), .inl (0, 3), .inl (0, 99), .inl (0, 2), .inl (0, 999), .inl (0, 63)], ([], []), [(33, 0, 0, 29, 29), (33, 0, 0, 29, 30), (33, 0, 0, 31, 31), (33, 0, 0, 33, 33), (42, 0, 0, 0, 7), (43, 0, 0, 0, 79), (48, 0, 0, 0, 159), (48, 0, 0, 0, 278), (48, 0, 0, 260, 271), (48, 0, 0, 273, 276), (49, 0, 0, 0, 278), (51, 0, 0, 0, 20), (52, 0, 0, 0, 383), (53, 0, 0, 0, 5), (54, 0, 0, 0, 5)], [(none, [])], 130)
def rp_X12_weigh : YCut := (6, [some (.inr (.inr (33, (0, 0), (0, 0)))), some (.inl (0, 3)), some (.inl (0, 99)), some (.inl (0, 2)), some (.inl (0, 999)), some (.inl (0, 63)), some (.inl (1, 6)), none, none, none], [], [])
def rb_X12_weigh : YCut := (10, [some (.inr (.inr (33, (0, 0), (0, 0)))), some (.inl (0, 3)), some (.inl (0, 99)), some (.inl (0, 2)), some (.inl (0, 999)), some (.inl (0, 63)), some (.inl (1, 6)), none, none, none], [], [.inl 0, .inl 0])
def rB_X12_weigh : List YCut := [(13, [some (.inr (.inr (33, (0, 0), (0, 0)))), some (.inl (0, 3)), some (.inl (0, 99)), some (.inl (0, 2)), some (.inl (0, 999)), some (.inl (0, 63)), some (.inl (1, 6)), some (.inl (0, 6)), none, none], [], [.inl 1, .inr (.inl (false, 7))]), (74, [some (.inr (.inr (33, (0, 0), (0, 0)))), some (.inl (0, 3)), some (.inl (0, 99)), some (.inl (0, 2)), some (.inl (0, 999)), some (.inl (0, 63)), some (.inl (1, 6)), some (.inl ((-2147483648), 2147483647)), some (.inl (0, 6)), none], [], [.inl 2, .inr (.inl (false, 8))]), (133, [some (.inr (.inr (33, (0, 0), (0, 0)))), none, some (.inl (0, 99)), some (.inl (0, 2)), some (.inl (0, 999)), some (.inl (0, 63)), some (.inl (1, 6)), some (.inl ((-2147483648), 2147483647)), some (.inl (0, 6)), none], [], [.inl 3, .inr (.inl (false, 8))])]
def re_X12_weigh : YCut := (232, [some (.inr (.inr (33, (0, 0), (0, 0)))), none, none, none, none, none, none, none, none, none], [], [])
def rc_X12_weigh : YCut := (236, [some (.inr (.inr (33, (0, 0), (0, 0)))), none, none, none, none, none, none, none, none, none], [], [.inl 0])
def rw_X12_weigh : List YW := [(33, 0, 0, 29, 29), (42, 0, 0, 0, 7), (43, 0, 0, 0, 79), (48, 0, 0, 0, 159), (48, 0, 0, 260, 271), (48, 0, 0, 273, 276), (51, 0, 0, 0, 20), (52, 0, 0, 0, 383), (53, 0, 0, 0, 5), (54, 0, 0, 0, 5)]
theorem rtB_X12_weigh : y_seg yL_34 rw_X12_weigh rw_X12_weigh rh_X12_weigh.1 (rh_X12_weigh.2.2.2.2.2 - 1) [] (rb_X12_weigh :: rB_X12_weigh) [re_X12_weigh] 4000 2 = true := by decide +kernel
theorem rtC_X12_weigh : y_seg yL_34 [] [] rh_X12_weigh.1 (rh_X12_weigh.2.2.2.2.2 - 1) rh_X12_weigh.2.2.2.2.1 [rc_X12_weigh] [] 4000 1 = true := by decide +kernel
def ra_X12_weigh : YCut := (0, [some (.inr (.inr (33, (0, 0), (0, 0)))), some (.inl (0, 3)), some (.inl (0, 99)), some (.inl (0, 2)), some (.inl (0, 999)), some (.inl (0, 63)), none, none, none, none], [], [.inl 0])
def rA_X12_weigh : List YCut := []
theorem rtA_X12_weigh : y_seg yL_34 [] [] rh_X12_weigh.1 (rh_X12_weigh.2.2.2.2.2 - 1) rh_X12_weigh.2.2.2.2.1 (ra_X12_weigh :: rA_X12_weigh) [rp_X12_weigh] 4000 1 = true := by decide +kernel
theorem r_X12_weigh (s0 : LMem) : y_con (xR s0) rh_X12_weigh := y_root (cA := ra_X12_weigh) (pP := rp_X12_weigh) (y_all x_X_cl h_all0) ⟨by decide +kernel, by decide +kernel, by decide +kernel, by decide +kernel⟩ ⟨rfl, rfl, rfl⟩ rtA_X12_weigh rtB_X12_weigh rtC_X12_weigh
    (fun d bc bs L s Q hL h => by
    obtain ⟨L, rfl⟩ := y_sls_this hL
    refine qa_t1_W (cut := [10]) 3 ?_
    exact h)
    (fun d bc bs L s Q hL h => by
    obtain ⟨L, rfl⟩ := y_sls_this hL
    refine qa_t1_W (cut := [236]) 3 ?_
    exact h)
    ⟨rfl, rfl, by decide +kernel⟩ ⟨rfl, rfl, by decide +kernel⟩ ⟨by decide +kernel, by decide +kernel, by decide +kernel, by decide +kernel⟩ s0
def rb_when (k : Nat) : YCut := (49, [some (.inr (.inr (33, (0, 0), (0, 0)))), some (.inl (0, 3)), some (.inl (0, 1)), some (.inl ((-2147483648), 2147483647)), some (.inl ((-2147483648), 2147483647)), some (.inl ((k : Int), (k : Int))), none, none], [], [.inl 0, .inl 0])
def rB_when (k : Nat) : List YCut := [(59, [some (.inr (.inr (33, (0, 0), (0, 0)))), some (.inl (0, 3)), some (.inl (0, 1)), some (.inl ((-2147483648), 2147483647)), some (.inl ((-2147483648), 2147483647)), some (.inl ((k : Int), (k : Int))), some (.inl ((-2147483648), 2147483647)), some (.inl (0, 30))], [], [.inl 1, .inr (.inl (false, 7))])]
def re_when (k : Nat) : YCut := (119, [some (.inr (.inr (33, (0, 0), (0, 0)))), some (.inl (0, 3)), some (.inl (0, 1)), some (.inl ((-2147483648), 2147483647)), some (.inl ((-2147483648), 2147483647)), some (.inl ((k : Int), (k : Int))), none, some (.inl ((-2147483648), 2147483647))], [], [])
def rw_when : List YW := [(33, 0, 0, 29, 29), (42, 0, 0, 0, 7), (43, 0, 0, 0, 79), (48, 0, 0, 0, 159), (48, 0, 0, 260, 271), (48, 0, 0, 273, 276), (51, 0, 0, 0, 20)]
theorem rtB_when : ((List.range 30).all fun k => y_seg yL_34 rw_when rw_when 273 60 [] (rb_when k :: rB_when k) [re_when k] 4000 2) = true := by decide +kernel
def rh_X12_when : YCt := (273, [.inr (.inr (33, (0, 0), (0, 0))), .inl ((-2147483648), 2147483647), .inl ((-2147483648), 2147483647)], ([], []), [(33, 0, 0, 29, 29), (33, 0, 0, 29, 30), (33, 0, 0, 31, 31), (33, 0, 0, 33, 33), (42, 0, 0, 0, 7), (43, 0, 0, 0, 79), (48, 0, 0, 0, 159), (48, 0, 0, 0, 278), (48, 0, 0, 260, 271), (48, 0, 0, 273, 276), (49, 0, 0, 0, 278), (51, 0, 0, 0, 20)], [(some (.inl ((-2147483648), 2147483647)), [])], 130)
