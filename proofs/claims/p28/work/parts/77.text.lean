/-! text and fault: rains, and what is no sort. -/
def yh_X12_fault_2 : YCt := (235, [.inr (.inr (33, (0, 0), (0, 0))), .inl (2, 2)], ([], []), rr_W, [(some (.inl ((-2147483648), 2147483647)), [])], 40)
theorem h_X12_fault_2 : y_con x_X yh_X12_fault_2 := by
  intro d hd As s Q hA hJ hp hQ
  obtain ⟨v1, r1, rfl, a1, hA⟩ := y_as1 hA
  obtain ⟨v2, r2, rfl, a2, hA⟩ := y_as1 hA
  have e9 := y_as0 hA
  subst e9
  have e1 := y_this (k := 33) (i := 0) a1
  subst e1
  obtain ⟨p1, rfl, q1, q2⟩ := y_aI a2
  have q1 : 2 ≤ p1.toInt := q1
  have q2 : p1.toInt ≤ 2 := q2
  have ep : p1 = nI 2 := Int32.toInt_inj.mp (by rw [nI_toInt (by omega)]; omega)
  subst ep
  have hd : 40 ≤ d := hd
  obtain ⟨d, rfl⟩ : ∃ d', d = d' + 5 := ⟨d - 5, by omega⟩
  refine qC_of rfl rfl ?_
  refine qa_t1_W (cut := []) 40 ?_
  refine And.intro (fun q => absurd q (by decide)) (fun _ => ?_)
  refine And.intro (fun q => absurd q (by decide)) (fun _ => ?_)
  refine And.intro (fun _ => ?_) (fun q => absurd rfl q)
  exact h_readRain (r := 4) (by decide) hJ fun v m J F => Exists.intro v (And.intro rfl (hQ _ m (y_post1 (z_in_top _)) J F))
/-- an argument that is no sort -/
theorem h_fault_no {d : Nat} {p1 : Int32} {s : LMem} {Q : LPost} (h0 : ¬ p1 = 0) (h1 : ¬ p1 = 1) (h2 : ¬ p1 = 2) (h : Q (some (lI (-2))) s) : qC false (d + 1) 235 [lR 33 (some 0), lI p1] s Q := by
  refine qC_of rfl rfl ?_
  refine qa_t1_W (cut := []) 40 ?_
  refine And.intro (fun q => absurd q h0) (fun _ => ?_)
  refine And.intro (fun q => absurd q h1) (fun _ => ?_)
  exact And.intro (fun q => absurd q h2) (fun _ => h)
theorem h_text_no {d : Nat} {p1 : Int32} {s : LMem} {Q : LPost} (h0 : ¬ p1 = 0) (h1 : ¬ p1 = 1) (h2 : ¬ p1 = 2) (h : Q (some (lI (-1))) s) : qC false (d + 1) 236 [lR 33 (some 0), lI p1] s Q := by
  refine qC_of rfl rfl ?_
  refine qa_t1_W (cut := []) 60 ?_
  refine And.intro (fun q => absurd q h0) (fun _ => ?_)
  refine And.intro (fun q => absurd q h1) (fun _ => ?_)
  exact And.intro (fun q => absurd q h2) (fun _ => h)
theorem x_run_same {s s' : LMem} (h : ∀ k j, k ∈ [35, 36, 39, 40, 41] → xI s' k j = xI s k j) {n : Nat} : ∀ (m a k : Nat), x_run s n m a k → x_run s' n m a k
  | 0, _, _, _ => trivial
  | m + 1, a, k, hx => by
    have e1 : xI s' 35 (260 * n + a) = xI s 35 (260 * n + a) := h 35 _ (by decide)
    have e2 : xI s' 36 (260 * n + a) = xI s 36 (260 * n + a) := h 36 _ (by decide)
    unfold x_run at hx ⊢
    rw [e1, e2]
    rcases hx with ⟨h1, h2, h3⟩ | ⟨h1, h2, h3, h4⟩ | ⟨h1, h2, h3, h4⟩
    · exact Or.inl ⟨h1, h2, x_run_same h m _ _ h3⟩
    · exact Or.inr (Or.inl ⟨h1, h2, h3, x_run_same h m _ _ h4⟩)
    · exact Or.inr (Or.inr ⟨h1, h2, h3, x_run_same h m _ _ h4⟩)
theorem x_cl_same {s s' : LMem} (h : ∀ k j, k ∈ [35, 36, 39, 40, 41] → xI s' k j = xI s k j) {n c : Nat} (hx : x_cl s n c) : x_cl s' n c := by
  obtain ⟨a, b, e, g1, g2, g3, g4, g5, g6, g7, g8⟩ := hx
  refine ⟨a, b, e, ?_, ?_, ?_, g4, g5, g6, x_run_same h _ _ _ g7, x_run_same h _ _ _ g8⟩
  · rw [h 39 _ (by decide)]
    exact g1
  · rw [h 40 _ (by decide)]
    exact g2
  · rw [h 41 _ (by decide)]
    exact g3
/-- a rain is told: only the count of rains and the size change -/
theorem rm_J {s : LMem} {v : Int32} (hJ : y_J x_X s) (h1 : 0 ≤ v.toInt) (h2 : v.toInt ≤ 4) : y_J x_X (sI s 33 0 22 v) := by
  obtain ⟨j1, j2, j3⟩ := hJ
  have other : ∀ k' j', ¬ (k' = 33 ∧ j' = 22) → gI (sI s 33 0 22 v) k' 0 j' = gI s k' 0 j' := fun k' j' g1 => by
    rw [gI_sI, if_neg (fun q => g1 ⟨q.1, q.2.2⟩)]
  have xe : ∀ k' j', ¬ (k' = 33 ∧ j' = 22) → xI (sI s 33 0 22 v) k' j' = xI s k' j' := fun k' j' g => by unfold xI; rw [other k' j' g]
  obtain ⟨j3, j4, j5, j6, j7, j8⟩ := j3
  have row : ∀ k, k ≠ 33 → x_row s k → x_row (sI s 33 0 22 v) k := fun k hk hx => by
    have e : ∀ j, xI (sI s 33 0 22 v) k j = xI s k j := fun j => xe k j (fun q => hk q.1)
    refine ⟨fun r g1 g2 => ?_, fun q => ?_, fun q => ?_⟩
    · rw [e] at g1
      rw [e, e]
      exact hx.1 r g1 g2
    · rw [e] at q
      rw [xe 33 13 (by decide)]
      exact hx.2.1 q
    · rw [xe 33 13 (by decide)]
      rw [e, e]
      exact hx.2.2 q
  refine ⟨y_JB_sI j1 (fun r hr g1 g2 => ?_), j2, ?_, ?_, row 48 (by decide) j5, row 49 (by decide) j6, row 50 (by decide) j7, fun q => ?_⟩
  · have hr : r ∈ [((2 : Int), (2 : Int), (0 : Int), (200 : Int)), (13, 13, 0, 6), (14, 14, 0, 6), (21, 21, 0, 4), (22, 22, 0, 4), (35, 36, 0, 1)] := hr
    simp only [List.mem_cons, List.not_mem_nil, or_false] at hr
    rcases hr with rfl | rfl | rfl | rfl | rfl | rfl
    · exact absurd g2 (by decide)
    · exact absurd g2 (by decide)
    · exact absurd g2 (by decide)
    · exact absurd g2 (by decide)
    · exact ⟨h1, h2⟩
    · exact absurd g1 (by decide)
  · intro n h1 h2
    rw [xe 33 13 (by decide)] at h1
    obtain ⟨g1, g2, g3⟩ := j3 n h1 h2
    rw [xe 38 n (fun q => absurd q.1 (by decide))]
    refine ⟨g1, g2, fun c h3 h4 => ?_⟩
    exact x_cl_same (fun k' j' hk => xe k' j' (fun q => by
      obtain ⟨rfl, _⟩ := q
      revert hk
      decide)) (g3 c h3 h4)
  · intro d h1 h2
    rw [xe 33 21 (by decide)] at h1
    obtain ⟨g1, g2, g3⟩ := j4 d h1 h2
    rw [xe 44 d (fun q => absurd q.1 (by decide))]
    refine ⟨g1, g2, fun r h3 h4 => ?_⟩
    rw [xe 45 _ (fun q => absurd q.1 (by decide)), xe 45 _ (fun q => absurd q.1 (by decide))]
    exact g3 r h3 h4
  · rw [xe 33 35 (by decide)] at q
    rw [xe 33 13 (by decide)]
    exact j8 q
abbrev tx_W : List YW := (33, 0, 0, 22, 22) :: (33, 0, 0, 2, 2) :: rr_W
def yh_X12_text_2 : YCt := (236, [.inr (.inr (33, (0, 0), (0, 0))), .inl (2, 2)], ([], []), tx_W, [(some (.inl ((-2147483648), 2147483647)), [])], 40)
theorem h_X12_text_2 : y_con x_X yh_X12_text_2 := by
  intro d hd As s Q hA hJ hp hQ
  obtain ⟨v1, r1, rfl, a1, hA⟩ := y_as1 hA
  obtain ⟨v2, r2, rfl, a2, hA⟩ := y_as1 hA
  have e9 := y_as0 hA
  subst e9
  have e1 := y_this (k := 33) (i := 0) a1
  subst e1
  obtain ⟨p1, rfl, q1, q2⟩ := y_aI a2
  have q1 : 2 ≤ p1.toInt := q1
  have q2 : p1.toInt ≤ 2 := q2
  have ep : p1 = nI 2 := Int32.toInt_inj.mp (by rw [nI_toInt (by omega)]; omega)
  subst ep
  have hd : 40 ≤ d := hd
  obtain ⟨d, rfl⟩ : ∃ d', d = d' + 5 := ⟨d - 5, by omega⟩
  obtain ⟨D, hD2, hD⟩ := y_nIof2 (N := 4) (x := gI s 33 0 22) (hJ.1 33 0 22 (22, 22, 0, 4) (by decide) (by decide) (by decide)).1 (hJ.1 33 0 22 (22, 22, 0, 4) (by decide) (by decide) (by decide)).2
  refine qC_of rfl rfl ?_
  refine qa_t1_W (cut := []) 80 ?_
  refine And.intro (fun q => absurd q (by decide)) (fun _ => ?_)
  refine And.intro (fun q => absurd q (by decide)) (fun _ => ?_)
  refine And.intro (fun _ => ?_) (fun q => absurd rfl q)
  have no : ∀ m, y_J x_X m → y_Fr rr_W s m → Q (some (lI (-1))) m := fun m J F => hQ _ m (y_post1 (z_in_top _)) J (y_Fr_tr (V := rr_W) (by decide +kernel) (y_Fr_rf _ _) F)
  refine And.intro (fun c => ?_) (fun _ => no s hJ (y_Fr_rf _ _))
  have c := Int32.lt_iff_toInt_lt.mp c
  have hD4 : D < 4 := by
    have c : (gI s 33 0 22).toInt < 4 := c
    rw [hD, nI_toInt (by omega)] at c
    omega
  have main : qC false (d + 4) 234 [lR 33 (some 0), lI (gI s 33 0 22)] s (fun r m => ∃ v, r = some (lI v) ∧ ((v = -1 → Q (some (lI (gI (sI (sI m 33 0 2 0) 33 0 22 (gI (sI m 33 0 2 0) 33 0 22 + 1)) 33 0 22 - 1))) (sI (sI m 33 0 2 0) 33 0 22 (gI (sI m 33 0 2 0) 33 0 22 + 1))) ∧ (¬ v = -1 → Q (some (lI (-1))) m))) := by
    rw [hD]
    refine h_readRain (by omega) hJ fun v m J F => Exists.intro v (And.intro rfl (And.intro (fun _ => ?_) (fun _ => no m J F)))
    have J2 : y_J x_X (sI m 33 0 2 0) := y_J_w J (fun r hr g1 g2 => ?_) (x_npr rfl)
    · have e22 : gI (sI m 33 0 2 0) 33 0 22 = nI D := by
        rw [gI_sI, if_neg (fun q => absurd q.2.2 (by decide)), (F 33 0 22 (x_nW 22 22 (by decide) (by decide) (by decide))).1, hD]
      refine hQ _ _ (y_post1 (z_in_top _)) (rm_J J2 ?_ ?_) (y_Fr_sI (y_Fr_sI (y_Fr_tr (V := rr_W) (by decide +kernel) (y_Fr_rf _ _) F) (x_iW1 (by decide))) (x_iW1 (by decide)))
      · rw [e22, nI_1, nI_toInt (by omega)]
        omega
      · rw [e22, nI_1, nI_toInt (by omega)]
        omega
    · have hr : r ∈ [((2 : Int), (2 : Int), (0 : Int), (200 : Int)), (13, 13, 0, 6), (14, 14, 0, 6), (21, 21, 0, 4), (22, 22, 0, 4), (35, 36, 0, 1)] := hr
      simp only [List.mem_cons, List.not_mem_nil, or_false] at hr
      rcases hr with rfl | rfl | rfl | rfl | rfl | rfl
      · exact ⟨by decide, by decide⟩
      all_goals exact absurd g1 (by decide)
  exact main
