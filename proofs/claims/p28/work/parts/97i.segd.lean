/-! SEGMENTS of what digs, of what becomes what another is, of a day. -/
def sb_begin_0 : YCut := (43, [some (.inr (.inr (17, (0, 0), (0, 0)))), none, none, none, none, some (.inl (0, 6))], [], [.inl 1, .inr (.inl (false, 5))])
def sB_begin_0 : List YCut := []
def se_begin_0 : List YCut := []
def sw_begin_0 : List YW := [(19, 0, 0, 0, 5), (20, 0, 0, 0, 5)]
theorem st_begin_0 : y_seg yL_34 sw_begin_0 sw_begin_0 13 60 [(none, [])] (sb_begin_0 :: sB_begin_0) se_begin_0 4000 2 = true := by decide +kernel
def sb_begin_1 : YCut := (43, [some (.inr (.inr (17, (0, 0), (1, 1)))), none, none, none, none, some (.inl (0, 6))], [], [.inl 1, .inr (.inl (false, 5))])
def sB_begin_1 : List YCut := []
def se_begin_1 : List YCut := []
def sw_begin_1 : List YW := [(19, 1, 1, 0, 5), (20, 1, 1, 0, 5)]
theorem st_begin_1 : y_seg yL_34 sw_begin_1 sw_begin_1 13 60 [(none, [])] (sb_begin_1 :: sB_begin_1) se_begin_1 4000 2 = true := by decide +kernel
def sb_begin_2 : YCut := (43, [some (.inr (.inr (17, (0, 0), (2, 2)))), none, none, none, none, some (.inl (0, 6))], [], [.inl 1, .inr (.inl (false, 5))])
def sB_begin_2 : List YCut := []
def se_begin_2 : List YCut := []
def sw_begin_2 : List YW := [(19, 2, 2, 0, 5), (20, 2, 2, 0, 5)]
theorem st_begin_2 : y_seg yL_34 sw_begin_2 sw_begin_2 13 60 [(none, [])] (sb_begin_2 :: sB_begin_2) se_begin_2 4000 2 = true := by decide +kernel
def sb_digTold_0 : YCut := (11, [some (.inr (.inr (17, (0, 0), (0, 0)))), some (.inr (.inr (4, (0, 0), (0, 4)))), some (.inr (.inr (8, (0, 1), (0, 6)))), some (.inr (.inr (8, (0, 1), (0, 6)))), some (.inr (.inl ())), none, some (.inl (0, 0)), none], [], [.inl 0, .inl 0])
def sB_digTold_0 : List YCut := [(22, [some (.inr (.inr (17, (0, 0), (0, 0)))), some (.inr (.inr (4, (0, 0), (0, 4)))), some (.inr (.inr (8, (0, 1), (0, 6)))), some (.inr (.inr (8, (0, 1), (0, 6)))), some (.inr (.inl ())), none, some (.inl ((-2147483648), 2147483647)), some (.inr (.inr (21, (0, 0), (0, 19))))], [], [.inl 1, .inr (.inl (false, 7))])]
def se_digTold_0 : List YCut := [(75, [some (.inr (.inr (17, (0, 0), (0, 0)))), none, some (.inr (.inr (8, (0, 1), (0, 6)))), some (.inr (.inr (8, (0, 1), (0, 6)))), some (.inr (.inl ())), none, none, none], [], [])]
def sw_digTold_0 : List YW := [(21, 0, 19, 1, 1), (21, 0, 19, 2, 2), (21, 0, 19, 3, 3), (21, 0, 19, 4, 4), (21, 0, 19, 5, 5), (21, 0, 19, 6, 6), (21, 0, 19, 7, 7), (21, 0, 19, 8, 8), (21, 0, 19, 9, 9), (21, 0, 19, 10, 10), (21, 0, 19, 11, 11), (21, 0, 19, 12, 12), (21, 0, 19, 13, 13), (21, 0, 19, 14, 14)]
theorem st_digTold_0 : y_seg yL_34 sw_digTold_0 sw_digTold_0 14 60 [] (sb_digTold_0 :: sB_digTold_0) se_digTold_0 4000 2 = true := by decide +kernel
def sb_digTold_1 : YCut := (11, [some (.inr (.inr (17, (0, 0), (1, 1)))), some (.inr (.inr (4, (0, 0), (0, 4)))), some (.inr (.inr (8, (0, 1), (0, 6)))), some (.inr (.inr (8, (0, 1), (0, 6)))), some (.inr (.inl ())), none, some (.inl (0, 0)), none], [], [.inl 0, .inl 0])
def sB_digTold_1 : List YCut := [(22, [some (.inr (.inr (17, (0, 0), (1, 1)))), some (.inr (.inr (4, (0, 0), (0, 4)))), some (.inr (.inr (8, (0, 1), (0, 6)))), some (.inr (.inr (8, (0, 1), (0, 6)))), some (.inr (.inl ())), none, some (.inl ((-2147483648), 2147483647)), some (.inr (.inr (21, (0, 0), (20, 39))))], [], [.inl 1, .inr (.inl (false, 7))])]
def se_digTold_1 : List YCut := [(75, [some (.inr (.inr (17, (0, 0), (1, 1)))), none, some (.inr (.inr (8, (0, 1), (0, 6)))), some (.inr (.inr (8, (0, 1), (0, 6)))), some (.inr (.inl ())), none, none, none], [], [])]
def sw_digTold_1 : List YW := [(21, 20, 39, 1, 1), (21, 20, 39, 2, 2), (21, 20, 39, 3, 3), (21, 20, 39, 4, 4), (21, 20, 39, 5, 5), (21, 20, 39, 6, 6), (21, 20, 39, 7, 7), (21, 20, 39, 8, 8), (21, 20, 39, 9, 9), (21, 20, 39, 10, 10), (21, 20, 39, 11, 11), (21, 20, 39, 12, 12), (21, 20, 39, 13, 13), (21, 20, 39, 14, 14)]
theorem st_digTold_1 : y_seg yL_34 sw_digTold_1 sw_digTold_1 14 60 [] (sb_digTold_1 :: sB_digTold_1) se_digTold_1 4000 2 = true := by decide +kernel
def sb_becomes_20 : YCut := (8, [some (.inr (.inr (17, (0, 0), (2, 2)))), some (.inr (.inr (17, (0, 0), (0, 0)))), none, none], [], [.inl 0, .inl 0])
def sB_becomes_20 : List YCut := [(22, [some (.inr (.inr (17, (0, 0), (2, 2)))), some (.inr (.inr (17, (0, 0), (0, 0)))), some (.inr (.inr (21, (0, 1), (0, 19)))), some (.inr (.inr (21, (0, 0), (40, 59))))], [], [.inl 1, .inr (.inl (false, 3))])]
def se_becomes_20 : List YCut := [(44, [some (.inr (.inr (17, (0, 0), (2, 2)))), some (.inr (.inr (17, (0, 0), (0, 0)))), none, none], [], [])]
def sw_becomes_20 : List YW := [(21, 40, 59, 1, 1), (21, 40, 59, 2, 2), (21, 40, 59, 3, 3), (21, 40, 59, 4, 4), (21, 40, 59, 5, 5), (21, 40, 59, 6, 6), (21, 40, 59, 7, 7), (21, 40, 59, 8, 8), (21, 40, 59, 9, 9), (21, 40, 59, 10, 10), (21, 40, 59, 11, 11), (21, 40, 59, 12, 12), (21, 40, 59, 13, 13), (21, 40, 59, 14, 14)]
theorem st_becomes_20 : y_seg yL_34 sw_becomes_20 sw_becomes_20 17 60 [] (sb_becomes_20 :: sB_becomes_20) se_becomes_20 4000 2 = true := by decide +kernel
def sb_becomesH_20 : YCut := (102, [some (.inr (.inr (17, (0, 0), (2, 2)))), some (.inr (.inr (17, (0, 0), (0, 0)))), none, some (.inl (0, 6))], [], [.inl 1, .inr (.inl (false, 3))])
def sB_becomesH_20 : List YCut := []
def se_becomesH_20 : List YCut := []
def sw_becomesH_20 : List YW := [(19, 2, 2, 0, 5), (20, 2, 2, 0, 5)]
theorem st_becomesH_20 : y_seg yL_34 sw_becomesH_20 sw_becomesH_20 17 60 [(none, [])] (sb_becomesH_20 :: sB_becomesH_20) se_becomesH_20 4000 2 = true := by decide +kernel
def sb_becomes_02 : YCut := (8, [some (.inr (.inr (17, (0, 0), (0, 0)))), some (.inr (.inr (17, (0, 0), (2, 2)))), none, none], [], [.inl 0, .inl 0])
def sB_becomes_02 : List YCut := [(22, [some (.inr (.inr (17, (0, 0), (0, 0)))), some (.inr (.inr (17, (0, 0), (2, 2)))), some (.inr (.inr (21, (0, 1), (40, 59)))), some (.inr (.inr (21, (0, 0), (0, 19))))], [], [.inl 1, .inr (.inl (false, 3))])]
def se_becomes_02 : List YCut := [(44, [some (.inr (.inr (17, (0, 0), (0, 0)))), some (.inr (.inr (17, (0, 0), (2, 2)))), none, none], [], [])]
def sw_becomes_02 : List YW := [(21, 0, 19, 1, 1), (21, 0, 19, 2, 2), (21, 0, 19, 3, 3), (21, 0, 19, 4, 4), (21, 0, 19, 5, 5), (21, 0, 19, 6, 6), (21, 0, 19, 7, 7), (21, 0, 19, 8, 8), (21, 0, 19, 9, 9), (21, 0, 19, 10, 10), (21, 0, 19, 11, 11), (21, 0, 19, 12, 12), (21, 0, 19, 13, 13), (21, 0, 19, 14, 14)]
theorem st_becomes_02 : y_seg yL_34 sw_becomes_02 sw_becomes_02 17 60 [] (sb_becomes_02 :: sB_becomes_02) se_becomes_02 4000 2 = true := by decide +kernel
def sb_becomesH_02 : YCut := (102, [some (.inr (.inr (17, (0, 0), (0, 0)))), some (.inr (.inr (17, (0, 0), (2, 2)))), none, some (.inl (0, 6))], [], [.inl 1, .inr (.inl (false, 3))])
def sB_becomesH_02 : List YCut := []
def se_becomesH_02 : List YCut := []
def sw_becomesH_02 : List YW := [(19, 0, 0, 0, 5), (20, 0, 0, 0, 5)]
theorem st_becomesH_02 : y_seg yL_34 sw_becomesH_02 sw_becomesH_02 17 60 [(none, [])] (sb_becomesH_02 :: sB_becomesH_02) se_becomesH_02 4000 2 = true := by decide +kernel
def sb_becomes_10 : YCut := (8, [some (.inr (.inr (17, (0, 0), (1, 1)))), some (.inr (.inr (17, (0, 0), (0, 0)))), none, none], [], [.inl 0, .inl 0])
def sB_becomes_10 : List YCut := [(22, [some (.inr (.inr (17, (0, 0), (1, 1)))), some (.inr (.inr (17, (0, 0), (0, 0)))), some (.inr (.inr (21, (0, 1), (0, 19)))), some (.inr (.inr (21, (0, 0), (20, 39))))], [], [.inl 1, .inr (.inl (false, 3))])]
def se_becomes_10 : List YCut := [(44, [some (.inr (.inr (17, (0, 0), (1, 1)))), some (.inr (.inr (17, (0, 0), (0, 0)))), none, none], [], [])]
def sw_becomes_10 : List YW := [(21, 20, 39, 1, 1), (21, 20, 39, 2, 2), (21, 20, 39, 3, 3), (21, 20, 39, 4, 4), (21, 20, 39, 5, 5), (21, 20, 39, 6, 6), (21, 20, 39, 7, 7), (21, 20, 39, 8, 8), (21, 20, 39, 9, 9), (21, 20, 39, 10, 10), (21, 20, 39, 11, 11), (21, 20, 39, 12, 12), (21, 20, 39, 13, 13), (21, 20, 39, 14, 14)]
theorem st_becomes_10 : y_seg yL_34 sw_becomes_10 sw_becomes_10 17 60 [] (sb_becomes_10 :: sB_becomes_10) se_becomes_10 4000 2 = true := by decide +kernel
def sb_becomesH_10 : YCut := (102, [some (.inr (.inr (17, (0, 0), (1, 1)))), some (.inr (.inr (17, (0, 0), (0, 0)))), none, some (.inl (0, 6))], [], [.inl 1, .inr (.inl (false, 3))])
def sB_becomesH_10 : List YCut := []
def se_becomesH_10 : List YCut := []
def sw_becomesH_10 : List YW := [(19, 1, 1, 0, 5), (20, 1, 1, 0, 5)]
theorem st_becomesH_10 : y_seg yL_34 sw_becomesH_10 sw_becomesH_10 17 60 [(none, [])] (sb_becomesH_10 :: sB_becomesH_10) se_becomesH_10 4000 2 = true := by decide +kernel
def sb_goDay_0 : YCut := (0, [some (.inr (.inr (17, (0, 0), (0, 0)))), some (.inl ((-2147483648), 2147483647)), none], [], [.inl 0, .inl 0])
def sB_goDay_0 : List YCut := [(7, [some (.inr (.inr (17, (0, 0), (0, 0)))), some (.inl ((-2147483648), 2147483647)), some (.inl (0, 4))], [], [.inl 1, .inr (.inl (false, 2))])]
def se_goDay_0 : List YCut := [(44, [some (.inr (.inr (17, (0, 0), (0, 0)))), none, none], [], [])]
def sw_goDay_0 : List YW := [(11, 0, 6, 0, 38), (17, 0, 0, 9, 9), (17, 0, 0, 11, 11), (17, 0, 0, 12, 12), (17, 0, 0, 13, 13), (19, 0, 0, 0, 5), (21, 0, 19, 6, 6), (21, 0, 19, 7, 7), (21, 0, 19, 8, 8), (21, 0, 19, 9, 9), (21, 0, 19, 10, 10), (21, 0, 19, 11, 11), (21, 0, 19, 12, 12)]
theorem st_goDay_0 : y_seg yL_34 sw_goDay_0 sw_goDay_0 22 60 [] (sb_goDay_0 :: sB_goDay_0) se_goDay_0 4000 2 = true := by decide +kernel
def sb_goDay_1 : YCut := (0, [some (.inr (.inr (17, (0, 0), (1, 1)))), some (.inl ((-2147483648), 2147483647)), none], [], [.inl 0, .inl 0])
def sB_goDay_1 : List YCut := [(7, [some (.inr (.inr (17, (0, 0), (1, 1)))), some (.inl ((-2147483648), 2147483647)), some (.inl (0, 4))], [], [.inl 1, .inr (.inl (false, 2))])]
def se_goDay_1 : List YCut := [(44, [some (.inr (.inr (17, (0, 0), (1, 1)))), none, none], [], [])]
def sw_goDay_1 : List YW := [(11, 0, 6, 0, 38), (17, 1, 1, 9, 9), (17, 1, 1, 11, 11), (17, 1, 1, 12, 12), (17, 1, 1, 13, 13), (19, 1, 1, 0, 5), (21, 20, 39, 6, 6), (21, 20, 39, 7, 7), (21, 20, 39, 8, 8), (21, 20, 39, 9, 9), (21, 20, 39, 10, 10), (21, 20, 39, 11, 11), (21, 20, 39, 12, 12)]
theorem st_goDay_1 : y_seg yL_34 sw_goDay_1 sw_goDay_1 22 60 [] (sb_goDay_1 :: sB_goDay_1) se_goDay_1 4000 2 = true := by decide +kernel
/-! image, back of the reference: what they copy. -/
theorem im_12 {d : Nat} {s : LMem} : qC false (d + 1) 311 [lR 33 (some 0)] s (fun r m => (gI s 33 0 35 = 0 ∧ r = some (lI (-1)) ∧ m = s) ∨ (¬ gI s 33 0 35 = 0 ∧ r = some (lI (gI s 48 0 273)) ∧ (∀ j, j < 279 → gI m 50 0 j = gI s 48 0 j) ∧ gL m 33 0 34 = gL s 33 0 30 ∧ gI m 33 0 36 = 1)) := by
  refine qC_of rfl rfl ?_
  refine qa_t1_W (cut := [11]) 12 ?_
  refine And.intro (fun c => Or.inl ⟨c, rfl, rfl⟩) (fun c => ?_)
  refine h_X12_image_l (fun m hm => ?_) 279 0 s rfl (x_cp_0 48 50 s)
  refine qa_t1_W (cut := []) 20 ?_
  refine And.intro (Or.inr rfl) (And.intro (x_vc (by decide) (by decide)) (Or.inr ⟨c, ?_, fun j hj => ?_, ?_, ?_⟩))
  · have e : gI (sI (sL (sL m 33 0 32 (gL m 33 0 29)) 33 0 34 (gL (sL m 33 0 32 (gL m 33 0 29)) 33 0 30)) 33 0 36 1) 48 0 273 = gI s 48 0 273 := by
      rw [gI_sI, if_neg (by decide)]
      exact hm.1 48 0 273 (fun q => absurd q.1 (by decide))
    exact congrArg (fun x => some (lI x)) e
  · rw [gI_sI, if_neg (fun q => absurd q.1 (by decide))]
    exact hm.2.1 j hj
  · show gL (sL (sL m 33 0 32 (gL m 33 0 29)) 33 0 34 (gL (sL m 33 0 32 (gL m 33 0 29)) 33 0 30)) 33 0 34 = gL s 33 0 30
    rw [gL_sL, if_pos ⟨rfl, rfl, rfl⟩, gL_sL, if_neg (by decide)]
    exact hm.2.2.1 33 0 30
  · rw [gI_sI, if_pos ⟨rfl, rfl, rfl⟩]
theorem bk_12 {d : Nat} {s : LMem} : qC false (d + 1) 312 [lR 33 (some 0)] s (fun r m => (gI s 33 0 36 = 0 ∧ r = some (lI (-1)) ∧ m = s) ∨ (¬ gI s 33 0 36 = 0 ∧ r = some (lI (gI s 50 0 273)) ∧ (∀ j, j < 279 → gI m 48 0 j = gI s 50 0 j) ∧ gL m 33 0 30 = gL s 33 0 34)) := by
  refine qC_of rfl rfl ?_
  refine qa_t1_W (cut := [11]) 12 ?_
  refine And.intro (fun c => Or.inl ⟨c, rfl, rfl⟩) (fun c => ?_)
  refine h_X12_back_l (fun m hm => ?_) 279 0 s rfl (x_cp_0 50 48 s)
  refine qa_t1_W (cut := []) 20 ?_
  refine And.intro (x_vc (by decide) (by decide)) (Or.inr ⟨c, ?_, fun j hj => ?_, ?_⟩)
  · exact congrArg (fun x => some (lI x)) (hm.2.1 273 (by decide))
  · exact hm.2.1 j hj
  · show gL (sL (sL m 33 0 29 (gL m 33 0 32)) 33 0 30 (gL (sL m 33 0 29 (gL m 33 0 32)) 33 0 34)) 33 0 30 = gL s 33 0 34
    rw [gL_sL, if_pos ⟨rfl, rfl, rfl⟩, gL_sL, if_neg (by decide)]
    exact hm.2.2.1 33 0 34
/-! WHAT DIGS: chain, begin, digTold, becomes of the class, by what they write. -/
section DU
variable {d i z : Nat} {s : LMem} {Q : LPost}
theorem ch_F (hi : i ≤ 2) (hz : z ≤ 20) (hJ : y_J x_X s) (h : ∀ m, y_J x_X m → ch_K i z s m 0 → Q none m) : qC false (d + 1) 12 [lR 17 (some i), lI (nI z)] s Q := by
  refine qC_of rfl rfl ?_
  have hmin : qa_min (nI z) 20 = nI z := by
    unfold qa_min
    exact if_neg (show ¬ (20 : Int32) < nI z from nI_nlt (a := 20) (b := z) hz (by decide))
  have main : qW false d 12 0 0 25 [some (lR 17 (some i)), some (lI (nI z)), some (lI (nI z - 1)), none] [] (ch_s1 i z s) Q := by
    refine ch_l hi hz (fun m hm => ?_) z _ _ (Nat.le_refl _) (ch_K0 hJ)
    have hm0 := hm
    obtain ⟨h1, h2, h3, h4, h5⟩ := hm
    have hJ1 : y_J x_X (sI s 17 i 5 (nI z)) := by
      refine y_J_w hJ (fun r hr g1 g2 => ?_) (x_npr (by decide))
      have hr : r ∈ [((5 : Int), (5 : Int), (0 : Int), (20 : Int))] := hr
      have hr := List.mem_singleton.mp hr
      subst hr
      show (0 : Int) ≤ (nI z).toInt ∧ (nI z).toInt ≤ 20
      rw [nI_toInt (by omega)]
      omega
    have hJ2 : y_J x_X m := by
      refine ⟨fun k a j r hr g1 g2 => ?_, ⟨fun a q hq => ?_, fun a q hq => ?_, fun a q hq => ?_, h5⟩, x_X_cl (sI s 17 i 5 (nI z)) m (fun k a j _ => h1 k a j) hJ1.2.2⟩
      · rw [h1]
        exact hJ1.1 k a j r hr g1 g2
      · by_cases e : a = i
        · subst e
          rw [h3] at hq
          split at hq
          · cases hq
            omega
          · cases hq
        · rw [h4 17 a 4 (fun c => e c.2.1) (fun c => absurd c.1 (by decide))] at hq
          exact hJ.2.1.1 a q hq
      · rw [h4 17 a 6 (fun c => absurd c.2.2 (by decide)) (fun c => absurd c.1 (by decide))] at hq
        exact hJ.2.1.2.1 a q hq
      · rw [h4 17 a 7 (fun c => absurd c.2.2 (by decide)) (fun c => absurd c.1 (by decide))] at hq
        exact hJ.2.1.2.2.1 a q hq
    exact h m hJ2 hm0
  refine qa_t1_W (cut := [25]) 30 ?_
  have main2 : qW false d 12 0 0 25 [some (lR 17 (some i)), some (lI (nI z)), some (lI (gI (sR (sI s 17 i 5 (qa_min (nI z) 20)) 17 i 4 none) 17 i 5 - 1)), none] [] (sR (sI s 17 i 5 (qa_min (nI z) 20)) 17 i 4 none) Q := by
    rw [hmin]
    have e5 : gI (sR (sI s 17 i 5 (nI z)) 17 i 4 none) 17 i 5 = nI z := by
      show gI (sI s 17 i 5 (nI z)) 17 i 5 = nI z
      rw [gI_sI, if_pos ⟨rfl, rfl, rfl⟩]
    rw [e5]
    exact main
  exact main2
/-- begin, up to its loop -/
def bgS (i : Nat) (f g : Option Nat) (l : Int64) (s : LMem) : LMem := sI (sI (sI (sI (sL (sL (sR (sR s 17 i 6 f) 17 i 7 g) 17 i 8 l) 17 i 9 l) 17 i 10 0) 17 i 11 0) 17 i 12 0) 17 i 13 0
theorem J_sR {j : Nat} {o : Option Nat} (hj : j = 6 ∨ j = 7) (ho : ∀ q, o = some q → q ≤ 6) (hJ : y_J x_X s) : y_J x_X (sR s 17 i j o) := by
  refine ⟨hJ.1, ⟨fun a q hq => ?_, fun a q hq => ?_, fun a q hq => ?_, fun a q hq => ?_⟩, x_X_cl s _ (fun _ _ _ _ => rfl) hJ.2.2⟩
  · rw [gR_sR, if_neg (fun c => by have := c.2.2; omega)] at hq
    exact hJ.2.1.1 a q hq
  · rw [gR_sR] at hq
    split at hq
    · exact ho q hq
    · exact hJ.2.1.2.1 a q hq
  · rw [gR_sR] at hq
    split at hq
    · exact ho q hq
    · exact hJ.2.1.2.2.1 a q hq
  · rw [gR_sR, if_neg (fun c => absurd c.1 (by decide))] at hq
    exact hJ.2.1.2.2.2 a q hq
theorem J_s0 {k j : Nat} (h1 : y_sB k ((j : Int), (j : Int)) (0, 0) = true) (h2 : y_sP k ((j : Int), (j : Int)) = true) (hJ : y_J x_X s) : y_J x_X (sI s k i j 0) := y_J_sI x_X_cl (q := ((j : Int), (j : Int))) (v := (0, 0)) hJ ⟨Int.le_refl _, Int.le_refl _⟩ ⟨by decide, by decide⟩ h1 h2
theorem bg_J {f g : Option Nat} {l : Int64} (hf : ∀ q, f = some q → q ≤ 6) (hg : ∀ q, g = some q → q ≤ 6) (hJ : y_J x_X s) : y_J x_X (bgS i f g l s) := J_s0 (j := 13) (by decide) (by decide) (J_s0 (j := 12) (by decide) (by decide) (J_s0 (j := 11) (by decide) (by decide) (J_s0 (j := 10) (by decide) (by decide) (y_J_sL (y_J_sL (J_sR (Or.inr rfl) hg (J_sR (Or.inl rfl) hf hJ)))))))
def bgW (i : Nat) : List YW := [(19, (i : Int), (i : Int), 0, 5), (20, (i : Int), (i : Int), 0, 5)]
theorem bg_F {f g : Option Nat} {l : Int64} (hd : 60 ≤ d) (hi : i ≤ 2) (hf : ∀ q, f = some q → q ≤ 6) (hg : ∀ q, g = some q → q ≤ 6) (hJ : y_J x_X s) (h : ∀ m, y_J x_X m → y_Fr (bgW i) (bgS i f g l s) m → Q none m) : qC false (d + 1) 13 [lR 17 (some i), lR 8 f, lR 8 g, lL l] s Q := by
  refine qC_of rfl rfl ?_
  refine qa_t1_W (cut := [43]) 80 ?_
  have J := bg_J (i := i) (l := l) hf hg hJ
  have fin : ∀ r m, (∃ a ∈ [((none : Option YA), ([] : List YMS))], y_ro a.1 r ∧ y_mss m a.2) → y_J x_X m → y_Fr (bgW i) (bgS i f g l s) m → Q r m := fun r m a J F => by
    rw [y_none a]
    exact h m J F
  rcases (show i = 0 ∨ i = 1 ∨ i = 2 by omega) with rfl | rfl | rfl
  · exact y_seg_ok (y_cl_v x_X_cl sw_begin_0) (y_all x_X_cl h_all0) st_begin_0 hd (s0 := bgS 0 f g l s) fin (fun c hc => absurd hc List.not_mem_nil) sb_begin_0 List.mem_cons_self _ _ ⟨y_rcv, ⟨by decide, by decide⟩, trivial⟩ (fun _ q => absurd q List.not_mem_nil) J (y_Fr_rf _ _)
  · exact y_seg_ok (y_cl_v x_X_cl sw_begin_1) (y_all x_X_cl h_all0) st_begin_1 hd (s0 := bgS 1 f g l s) fin (fun c hc => absurd hc List.not_mem_nil) sb_begin_1 List.mem_cons_self _ _ ⟨y_rcv, ⟨by decide, by decide⟩, trivial⟩ (fun _ q => absurd q List.not_mem_nil) J (y_Fr_rf _ _)
  · exact y_seg_ok (y_cl_v x_X_cl sw_begin_2) (y_all x_X_cl h_all0) st_begin_2 hd (s0 := bgS 2 f g l s) fin (fun c hc => absurd hc List.not_mem_nil) sb_begin_2 List.mem_cons_self _ _ ⟨y_rcv, ⟨by decide, by decide⟩, trivial⟩ (fun _ q => absurd q List.not_mem_nil) J (y_Fr_rf _ _)
end DU
theorem h_tells {d dd k w : Nat} {s : LMem} {Q : LPost} (hk : k < 20) (hw : w < 5) (hn : (k : Int) < (gI s 4 dd 1).toInt) (h : Q (some (lI (gI s 6 (20 * dd + k) w))) s) : qC false (d + 1) 2 [lR 4 (some dd), lI (nI k), lI (nI w)] s Q := by
  have c0 : ¬ nI k < 0 := nI_nlt (b := 0) (by omega) (by omega)
  have c1 : nI k < gI s 4 dd 1 := Int32.lt_iff_toInt_lt.mpr (by rw [nI_toInt (by omega)]; exact hn)
  have c2 : nI k < 20 := nI_lt (b := 20) (by omega) (by decide)
  have c3 : ¬ nI w < 0 := nI_nlt (b := 0) (by omega) (by omega)
  have c4 : nI w < 5 := nI_lt (b := 5) (by omega) (by decide)
  have v1 : qa_vin (nI k) 20 := nI_in (by omega) (by decide)
  have v2 : qa_vin (nI w) 5 := nI_in (by omega) (by decide)
  have fin : Q (some (lI (gI s 6 (20 * dd + (nI k).toNatClampNeg) (nI w).toNatClampNeg))) s := by
    rw [nI_clamp (by omega), nI_clamp (by omega)]
    exact h
  refine qC_of rfl rfl ?_
  refine qa_t1_W (cut := []) 60 ?_
  refine And.intro (fun q => absurd q c0) (fun _ => ?_)
  refine And.intro (fun _ => ?_) (fun q => absurd c1 q)
  refine And.intro (fun _ => ?_) (fun q => absurd c2 q)
  refine And.intro (fun q => absurd q (by decide)) (fun _ => ?_)
  refine And.intro (fun q => absurd q c3) (fun _ => ?_)
  refine And.intro v1 ?_
  refine And.intro (fun _ => ?_) (fun q => absurd c4 q)
  refine And.intro v1 ?_
  refine And.intro v2 ?_
  exact fin
def dsS (a : Nat) (v1 v2 v3 v4 v5 : Int32) (s : LMem) : LMem := sI (sI (sI (sI (sI (sI (sI (sI (sI (sI (sI (sI (sI (sI s 21 a 1 v1) 21 a 2 v2) 21 a 3 v3) 21 a 4 v4) 21 a 5 v5) 21 a 6 0) 21 a 7 0) 21 a 8 0) 21 a 9 0) 21 a 10 0) 21 a 11 0) 21 a 12 0) 21 a 13 0) 21 a 14 0
theorem h_digAs {d a : Nat} {v1 v2 v3 v4 v5 : Int32} {s : LMem} {Q : LPost} (h : Q none (dsS a v1 v2 v3 v4 v5 s)) : qC false (d + 1) 90 [lR 21 (some a), lI v1, lI v2, lI v3, lI v4, lI v5] s Q := by
  refine qC_of rfl rfl ?_
  refine qa_t1_W (cut := []) 80 ?_
  exact And.intro (Or.inl rfl) (And.intro (Or.inl rfl) (And.intro (Or.inl rfl) h))
/-! digTold: a ditch dug as told. -/
def ch_N (i z : Nat) (m : LMem) (n : Nat) : Prop := ∀ r, n ≤ r → r < z → gR m 21 (20 * i + r) 0 = if r + 1 < z then some (20 * i + (r + 1)) else none
theorem ch_Ns {i z n : Nat} {s m : LMem} (hn : n < z) (h : ch_K i z s m (n + 1)) (hN : ch_N i z m (n + 1)) : ch_N i z (sR (sR m 21 (20 * i + n) 0 (gR m 17 i 4)) 17 i 4 (some (20 * i + n))) n := fun r h1 h2 => by
  rw [gR_sR, if_neg (fun c => absurd c.1 (by decide)), gR_sR]
  by_cases e : r = n
  · subst e
    rw [if_pos ⟨rfl, rfl, rfl⟩]
    exact h.2.2.1
  · rw [if_neg (fun c => e (by have := c.2.1; omega))]
    exact hN r (by omega) h2
theorem ch_l2 {d i z bc bs : Nat} {s : LMem} {mn : Int32} {Q : LPost} (hi : i ≤ 2) (hz : z ≤ 20) (h : ∀ m, ch_K i z s m 0 → ch_N i z m 0 → Q none m) : ∀ n m o3, n ≤ z → ch_K i z s m n → ch_N i z m n → qW false d 12 bc bs 25 [some (lR 17 (some i)), some (lI mn), some (lI (nI n - 1)), o3] [] m Q := by
  intro n
  induction n with
  | zero =>
    intro m o3 _ hm hN
    refine qa_t1_W (cut := [25]) 10 ?_
    exact And.intro (fun _ => h m hm hN) (fun q => absurd (show nI 0 - 1 < 0 by decide) q)
  | succ n ih =>
    intro m o3 hn hm hN
    rw [nI_pred n]
    have ih := ih _ (some (lR 21 (some (20 * i + n)))) (by omega) (ch_Ks hz (by omega) hm) (ch_Ns (by omega) hm hN)
    have hv : qa_vin (nI n) 20 := nI_in (by omega) (by decide)
    have e9 : (nI n).toNatClampNeg = n := nI_clamp (by omega)
    have ih2 : qW false d 12 bc bs 25 [some (lR 17 (some i)), some (lI mn), some (lI (nI n + -1)), some (lR 21 (some (20 * i + (nI n).toNatClampNeg)))] [] (sR (sR m 21 (20 * i + (nI n).toNatClampNeg) 0 (gR m 17 i 4)) 17 i 4 (some (20 * i + (nI n).toNatClampNeg))) Q := by
      rw [e9, nI_m1]
      exact ih
    refine qa_t1_W (cut := [25]) 40 ?_
    refine And.intro (fun q => absurd q (nI_pos (by omega))) (fun _ => ?_)
    exact And.intro hv ih2
theorem ch_G {d i z : Nat} {s : LMem} {Q : LPost} (hi : i ≤ 2) (hz : z ≤ 20) (hJ : y_J x_X s) (h : ∀ m, ch_K i z s m 0 → ch_N i z m 0 → Q none m) : qC false (d + 1) 12 [lR 17 (some i), lI (nI z)] s Q := by
  refine qC_of rfl rfl ?_
  have hmin : qa_min (nI z) 20 = nI z := by
    unfold qa_min
    exact if_neg (show ¬ (20 : Int32) < nI z from nI_nlt (a := 20) (b := z) hz (by decide))
  have main : qW false d 12 0 0 25 [some (lR 17 (some i)), some (lI (nI z)), some (lI (nI z - 1)), none] [] (ch_s1 i z s) Q := ch_l2 hi hz h z _ _ (Nat.le_refl _) (ch_K0 hJ) (fun r h1 h2 => absurd h2 (by omega))
  refine qa_t1_W (cut := [25]) 30 ?_
  have main2 : qW false d 12 0 0 25 [some (lR 17 (some i)), some (lI (nI z)), some (lI (gI (sR (sI s 17 i 5 (qa_min (nI z) 20)) 17 i 4 none) 17 i 5 - 1)), none] [] (sR (sI s 17 i 5 (qa_min (nI z) 20)) 17 i 4 none) Q := by
    rw [hmin]
    have e5 : gI (sR (sI s 17 i 5 (nI z)) 17 i 4 none) 17 i 5 = nI z := by
      show gI (sI s 17 i 5 (nI z)) 17 i 5 = nI z
      rw [gI_sI, if_pos ⟨rfl, rfl, rfl⟩]
    rw [e5]
    exact main
  exact main2
/-- chain: J, what is written, who is behind whom -/
theorem ch_H {d i z : Nat} {s : LMem} {Q : LPost} (hi : i ≤ 2) (hz : z ≤ 20) (hJ : y_J x_X s) (h : ∀ m, y_J x_X m → ch_K i z s m 0 → ch_N i z m 0 → Q none m) : qC false (d + 1) 12 [lR 17 (some i), lI (nI z)] s Q := by
  have a : qC false (d + 1) 12 [lR 17 (some i), lI (nI z)] s (fun r m => r = none ∧ y_J x_X m) := ch_F hi hz hJ fun m J _ => ⟨rfl, J⟩
  have b : qC false (d + 1) 12 [lR 17 (some i), lI (nI z)] s (fun r m => ch_K i z s m 0 ∧ ch_N i z m 0) := ch_G hi hz hJ fun m k n => ⟨k, n⟩
  refine qC_mono (qC_and a b) fun r m q => ?_
  obtain ⟨⟨rfl, J⟩, k, n⟩ := q
  exact h m J k n
/-- k reaches laid as told -/
def dtK (dd i : Nat) (s m : LMem) (k : Nat) : Prop := (∀ k' a j, ¬ (k' = 21 ∧ 20 * i ≤ a ∧ a < 20 * i + k ∧ 1 ≤ j ∧ j ≤ 14) → gI m k' a j = gI s k' a j) ∧ (∀ k' a j, gL m k' a j = gL s k' a j) ∧ (∀ k' a j, gR m k' a j = gR s k' a j) ∧ ∀ r, r < k → (∀ w, w < 5 → gI m 21 (20 * i + r) (1 + w) = gI s 6 (20 * dd + r) w) ∧ ∀ j, 6 ≤ j → j ≤ 14 → gI m 21 (20 * i + r) j = 0
theorem dsS_o {a : Nat} {v1 v2 v3 v4 v5 : Int32} {s : LMem} {k i j : Nat} (h : ¬ (k = 21 ∧ i = a ∧ 1 ≤ j ∧ j ≤ 14)) : gI (dsS a v1 v2 v3 v4 v5 s) k i j = gI s k i j := by
  have n : ∀ p, 1 ≤ p → p ≤ 14 → ¬ (k = 21 ∧ i = a ∧ j = p) := fun p h1 h2 q => h ⟨q.1, q.2.1, by omega, by omega⟩
  unfold dsS
  rw [gI_sI, if_neg (n 14 (by decide) (by decide)), gI_sI, if_neg (n 13 (by decide) (by decide)), gI_sI, if_neg (n 12 (by decide) (by decide)), gI_sI, if_neg (n 11 (by decide) (by decide)), gI_sI, if_neg (n 10 (by decide) (by decide)), gI_sI, if_neg (n 9 (by decide) (by decide)), gI_sI, if_neg (n 8 (by decide) (by decide)), gI_sI, if_neg (n 7 (by decide) (by decide)), gI_sI, if_neg (n 6 (by decide) (by decide)), gI_sI, if_neg (n 5 (by decide) (by decide)), gI_sI, if_neg (n 4 (by decide) (by decide)), gI_sI, if_neg (n 3 (by decide) (by decide)), gI_sI, if_neg (n 2 (by decide) (by decide)), gI_sI, if_neg (n 1 (by decide) (by decide))]
theorem s21 {s : LMem} {a p j : Nat} {v : Int32} (h : j ≠ p) : gI (sI s 21 a p v) 21 a j = gI s 21 a j := by rw [gI_sI, if_neg (fun q => h q.2.2)]
theorem s21e {s : LMem} {a p : Nat} {v : Int32} : gI (sI s 21 a p v) 21 a p = v := by rw [gI_sI, if_pos ⟨rfl, rfl, rfl⟩]
theorem dsS_v {a : Nat} {v1 v2 v3 v4 v5 : Int32} {s : LMem} : gI (dsS a v1 v2 v3 v4 v5 s) 21 a 1 = v1 ∧ gI (dsS a v1 v2 v3 v4 v5 s) 21 a 2 = v2 ∧ gI (dsS a v1 v2 v3 v4 v5 s) 21 a 3 = v3 ∧ gI (dsS a v1 v2 v3 v4 v5 s) 21 a 4 = v4 ∧ gI (dsS a v1 v2 v3 v4 v5 s) 21 a 5 = v5 := by
  unfold dsS
  refine ⟨?_, ?_, ?_, ?_, ?_⟩
  · repeat (first | exact s21e | rw [s21 (by decide)])
  · repeat (first | exact s21e | rw [s21 (by decide)])
  · repeat (first | exact s21e | rw [s21 (by decide)])
  · repeat (first | exact s21e | rw [s21 (by decide)])
  · repeat (first | exact s21e | rw [s21 (by decide)])
theorem dsS_z {a j : Nat} {v1 v2 v3 v4 v5 : Int32} {s : LMem} (h1 : 6 ≤ j) (h2 : j ≤ 14) : gI (dsS a v1 v2 v3 v4 v5 s) 21 a j = 0 := by
  unfold dsS
  rcases (show j = 6 ∨ j = 7 ∨ j = 8 ∨ j = 9 ∨ j = 10 ∨ j = 11 ∨ j = 12 ∨ j = 13 ∨ j = 14 by omega) with rfl | rfl | rfl | rfl | rfl | rfl | rfl | rfl | rfl <;> repeat (first | exact s21e | rw [s21 (by decide)])
theorem dtK_s {dd i k : Nat} {s m : LMem} (h : dtK dd i s m k) : dtK dd i s (dsS (20 * i + k) (gI m 6 (20 * dd + k) 0) (gI m 6 (20 * dd + k) 1) (gI m 6 (20 * dd + k) 2) (gI m 6 (20 * dd + k) 3) (gI m 6 (20 * dd + k) 4) m) (k + 1) := by
  obtain ⟨h1, h2, h3, h4⟩ := h
  refine ⟨fun k' a j hn => ?_, h2, h3, fun r hr => ⟨fun w hw => ?_, fun j j1 j2 => ?_⟩⟩
  · rw [dsS_o (fun q => hn ⟨q.1, by omega, by omega, q.2.2⟩)]
    exact h1 k' a j (fun q => hn ⟨q.1, q.2.1, by omega, q.2.2.2⟩)
  · by_cases e : r = k
    · subst e
      obtain ⟨d1, d2, d3, d4, d5⟩ := dsS_v (a := 20 * i + r) (v1 := gI m 6 (20 * dd + r) 0) (v2 := gI m 6 (20 * dd + r) 1) (v3 := gI m 6 (20 * dd + r) 2) (v4 := gI m 6 (20 * dd + r) 3) (v5 := gI m 6 (20 * dd + r) 4) (s := m)
      have g : ∀ w, gI m 6 (20 * dd + r) w = gI s 6 (20 * dd + r) w := fun w => h1 6 _ w (fun q => absurd q.1 (by decide))
      rcases (show w = 0 ∨ w = 1 ∨ w = 2 ∨ w = 3 ∨ w = 4 by omega) with rfl | rfl | rfl | rfl | rfl
      · exact d1.trans (g 0)
      · exact d2.trans (g 1)
      · exact d3.trans (g 2)
      · exact d4.trans (g 3)
      · exact d5.trans (g 4)
    · rw [dsS_o (fun q => e (by omega))]
      exact (h4 r (by omega)).1 w hw
  · by_cases e : r = k
    · subst e
      exact dsS_z j1 j2
    · rw [dsS_o (fun q => e (by omega))]
      exact (h4 r (by omega)).2 j j1 j2
theorem dgt_l {d bc bs i dd z : Nat} {fl sl : LV} {l : Int64} {s : LMem} {Q : LPost} (hz : z ≤ 20) (hn : gI s 4 dd 1 = nI z) (hN : ch_N i z s 0) (h : ∀ m o6 o7, dtK dd i s m z → qW false (d + 1) 14 bc bs 75 [some (lR 17 (some i)), some (lR 4 (some dd)), some fl, some sl, some (lL l), none, o6, o7] [] m Q) : ∀ j k m, k + j = z → dtK dd i s m k → qW false (d + 1) 14 bc bs 17 [some (lR 17 (some i)), some (lR 4 (some dd)), some fl, some sl, some (lL l), none, some (lI (nI k)), some (lR 21 (if k < z then some (20 * i + k) else none))] [] m Q := by
  intro j
  induction j with
  | zero =>
    intro k m hk hm
    have hk : k = z := hk
    subst hk
    rw [if_neg (Nat.lt_irrefl k)]
    refine qa_t1_W (cut := [75]) 10 ?_
    exact h m _ _ hm
  | succ j ih =>
    intro k m hk hm
    have hkz : k < z := by omega
    rw [if_pos hkz]
    have e4 : gI m 4 dd 1 = nI z := by rw [hm.1 4 dd 1 (fun q => absurd q.1 (by decide)), hn]
    have lt : (k : Int) < (gI m 4 dd 1).toInt := by
      rw [e4, nI_toInt (by omega)]
      omega
    have go : qW false (d + 1) 14 bc bs 17 [some (lR 17 (some i)), some (lR 4 (some dd)), some fl, some sl, some (lL l), none, some (lI (nI k + 1)), some (lR 21 (gR m 21 (20 * i + k) 0))] [] (dsS (20 * i + k) (gI m 6 (20 * dd + k) 0) (gI m 6 (20 * dd + k) 1) (gI m 6 (20 * dd + k) 2) (gI m 6 (20 * dd + k) 3) (gI m 6 (20 * dd + k) 4) m) Q := by
      rw [nI_1, hm.2.2.1, hN k (Nat.zero_le _) hkz]
      exact ih (k + 1) _ (by omega) (dtK_s hm)
    refine qa_t1_W (cut := [17, 75]) 80 ?_
    refine h_tells (k := k) (w := 0) (by omega) (by decide) lt (Exists.intro _ (And.intro rfl ?_))
    refine h_tells (k := k) (w := 1) (by omega) (by decide) lt (Exists.intro _ (And.intro rfl ?_))
    refine h_tells (k := k) (w := 2) (by omega) (by decide) lt (Exists.intro _ (And.intro rfl ?_))
    refine h_tells (k := k) (w := 3) (by omega) (by decide) lt (Exists.intro _ (And.intro rfl ?_))
    refine h_tells (k := k) (w := 4) (by omega) (by decide) lt (Exists.intro _ (And.intro rfl ?_))
    refine h_digAs (And.intro rfl ?_)
    exact go
