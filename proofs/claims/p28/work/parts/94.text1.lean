/-! text and fault of a law. -/
/-- a law that was read well is registered -/
theorem lm_J {s : LMem} {D : Nat} (hJ : y_J x_X s) (hD : gI s 33 0 13 = nI D) (hD6 : D < 6) (hO : lw_O D (-1) s) : y_J x_X (sI s 33 0 13 (nI (D + 1))) := by
  obtain ⟨j1, j2, j3⟩ := hJ
  have other : ∀ k' j', ¬ (k' = 33 ∧ j' = 13) → gI (sI s 33 0 13 (nI (D + 1))) k' 0 j' = gI s k' 0 j' := fun k' j' g1 => by
    rw [gI_sI, if_neg (fun q => g1 ⟨q.1, q.2.2⟩)]
  have xe : ∀ k' j', ¬ (k' = 33 ∧ j' = 13) → xI (sI s 33 0 13 (nI (D + 1))) k' j' = xI s k' j' := fun k' j' g => by unfold xI; rw [other k' j' g]
  have e0 : xI s 33 13 = (D : Int) := by
    unfold xI
    rw [hD, nI_toInt (by omega)]
  have e1 : xI (sI s 33 0 13 (nI (D + 1))) 33 13 = (D : Int) + 1 := by
    unfold xI
    rw [gI_sI, if_pos ⟨rfl, rfl, rfl⟩, nI_toInt (by omega)]
    omega
  obtain ⟨j3, j4, j5, j6, j7, j8⟩ := j3
  have row : ∀ k, k ≠ 33 → x_row s k → x_row (sI s 33 0 13 (nI (D + 1))) k := fun k hk hx => by
    have e : ∀ j, xI (sI s 33 0 13 (nI (D + 1))) k j = xI s k j := fun j => xe k j (fun q => hk q.1)
    refine ⟨fun r g1 g2 => ?_, fun q => ?_, fun q => ?_⟩
    · rw [e] at g1
      rw [e, e]
      exact hx.1 r g1 g2
    · rw [e1]
      omega
    · have z := hx.2.2 trivial
      rw [e1, e, e]
      rw [e0] at z
      omega
  obtain ⟨jn, cn, hj60, hI⟩ := hO.resolve_left (fun q => q rfl)
  refine ⟨y_JB_sI j1 (fun r hr g1 g2 => ?_), j2, ?_, ?_, row 48 (by decide) j5, row 49 (by decide) j6, row 50 (by decide) j7, fun q => ?_⟩
  · have hr : r ∈ [((2 : Int), (2 : Int), (0 : Int), (200 : Int)), (13, 13, 0, 6), (14, 14, 0, 6), (21, 21, 0, 4), (22, 22, 0, 4), (35, 36, 0, 1)] := hr
    simp only [List.mem_cons, List.not_mem_nil, or_false] at hr
    rcases hr with rfl | rfl | rfl | rfl | rfl | rfl
    · exact absurd g2 (by decide)
    · show (0 : Int) ≤ (nI (D + 1)).toInt ∧ (nI (D + 1)).toInt ≤ 6
      rw [nI_toInt (by omega)]
      omega
    all_goals exact absurd g1 (by decide)
  · intro n h1 h2
    rw [e1] at h1
    have same : ∀ c, x_cl s n c → x_cl (sI s 33 0 13 (nI (D + 1))) n c := fun c hc => x_cl_same (fun k' j' hk => xe k' j' (fun q => by
      obtain ⟨rfl, _⟩ := q
      revert hk
      decide)) hc
    rw [xe 38 n (fun q => absurd q.1 (by decide))]
    by_cases e : n < D
    · obtain ⟨g1, g2, g3⟩ := j3 n (by rw [e0]; omega) h2
      exact ⟨g1, g2, fun c h3 h4 => same c (g3 c h3 h4)⟩
    · have e : n = D := by omega
      subst e
      have e38 : xI s 38 n = (jn : Int) := by
        unfold xI
        rw [hI.1, nI_toInt (by omega)]
      rw [e38]
      exact ⟨by omega, by omega, fun c h3 h4 => same c (hI.2 c (by omega)).1⟩
  · intro d h1 h2
    rw [xe 33 21 (by decide)] at h1
    obtain ⟨g1, g2, g3⟩ := j4 d h1 h2
    rw [xe 44 d (fun q => absurd q.1 (by decide))]
    refine ⟨g1, g2, fun r h3 h4 => ?_⟩
    rw [xe 45 _ (fun q => absurd q.1 (by decide)), xe 45 _ (fun q => absurd q.1 (by decide))]
    exact g3 r h3 h4
  · rw [e1]
    omega
def yh_X12_fault_1 : YCt := (235, [.inr (.inr (33, (0, 0), (0, 0))), .inl (1, 1)], ([], []), lr_W, [(some (.inl ((-2147483648), 2147483647)), [])], 50)
theorem h_X12_fault_1 : y_con x_X yh_X12_fault_1 := by
  intro d hd As s Q hA hJ hp hQ
  obtain ⟨v1, r1, rfl, a1, hA⟩ := y_as1 hA
  obtain ⟨v2, r2, rfl, a2, hA⟩ := y_as1 hA
  have e9 := y_as0 hA
  subst e9
  have e1 := y_this (k := 33) (i := 0) a1
  subst e1
  obtain ⟨p1, rfl, q1, q2⟩ := y_aI a2
  have q1 : 1 ≤ p1.toInt := q1
  have q2 : p1.toInt ≤ 1 := q2
  have ep : p1 = nI 1 := Int32.toInt_inj.mp (by rw [nI_toInt (by omega)]; omega)
  subst ep
  have hd : 50 ≤ d := hd
  obtain ⟨d, rfl⟩ : ∃ d', d = d' + 42 := ⟨d - 42, by omega⟩
  have h13 := (hJ.1 33 0 13 (13, 13, 0, 6) (by decide) (by decide) (by decide)).2
  refine qC_of rfl rfl ?_
  refine qa_t1_W (cut := []) 40 ?_
  refine And.intro (fun q => absurd q (by decide)) (fun _ => ?_)
  refine And.intro (fun _ => ?_) (fun q => absurd rfl q)
  exact h_readLaw (n := 6) (by decide) h13 hJ fun m v J F _ => Exists.intro v (And.intro rfl (hQ _ m (y_post1 (z_in_top _)) J F))
abbrev tx1_W : List YW := (33, 0, 0, 13, 13) :: (33, 0, 0, 2, 2) :: lr_W
def yh_X12_text_1 : YCt := (236, [.inr (.inr (33, (0, 0), (0, 0))), .inl (1, 1)], ([], []), tx1_W, [(some (.inl ((-2147483648), 2147483647)), [])], 50)
theorem h_X12_text_1 : y_con x_X yh_X12_text_1 := by
  intro d hd As s Q hA hJ hp hQ
  obtain ⟨v1, r1, rfl, a1, hA⟩ := y_as1 hA
  obtain ⟨v2, r2, rfl, a2, hA⟩ := y_as1 hA
  have e9 := y_as0 hA
  subst e9
  have e1 := y_this (k := 33) (i := 0) a1
  subst e1
  obtain ⟨p1, rfl, q1, q2⟩ := y_aI a2
  have q1 : 1 ≤ p1.toInt := q1
  have q2 : p1.toInt ≤ 1 := q2
  have ep : p1 = nI 1 := Int32.toInt_inj.mp (by rw [nI_toInt (by omega)]; omega)
  subst ep
  have hd : 50 ≤ d := hd
  obtain ⟨d, rfl⟩ : ∃ d', d = d' + 42 := ⟨d - 42, by omega⟩
  obtain ⟨D, hD2, hD⟩ := y_nIof2 (N := 6) (x := gI s 33 0 13) (hJ.1 33 0 13 (13, 13, 0, 6) (by decide) (by decide) (by decide)).1 (hJ.1 33 0 13 (13, 13, 0, 6) (by decide) (by decide) (by decide)).2
  have no : ∀ m, y_J x_X m → y_Fr lr_W s m → Q (some (lI (-1))) m := fun m J F => hQ _ m (y_post1 (z_in_top _)) J (y_Fr_tr (V := lr_W) (by decide +kernel) (y_Fr_rf _ _) F)
  refine qC_of rfl rfl ?_
  refine qa_t1_W (cut := [94]) 80 ?_
  have out : ∀ m, y_J x_X m → y_Fr lr_W s m → qW false (d + 41) 236 0 0 94 [some (lR 33 (some 0)), some (lI (nI 1))] [] m Q := fun m J F => by
    refine qa_t1_W (cut := []) 80 ?_
    exact And.intro (fun q => absurd q (by decide)) (fun _ => no m J F)
  refine And.intro (fun q => absurd q (by decide)) (fun _ => ?_)
  refine And.intro (fun _ => ?_) (fun q => absurd rfl q)
  refine And.intro (fun c => ?_) (fun _ => out s hJ (y_Fr_rf _ _))
  have c := Int32.lt_iff_toInt_lt.mp c
  have hD6 : D < 6 := by
    have c : (gI s 33 0 13).toInt < 6 := c
    rw [hD, nI_toInt (by omega)] at c
    omega
  have main : qC false (d + 41) 225 [lR 33 (some 0), lI (gI s 33 0 13)] s (fun r m => ∃ v, r = some (lI v) ∧ ((v = -1 → Q (some (lI (gI (sI (sI m 33 0 2 0) 33 0 13 (gI (sI m 33 0 2 0) 33 0 13 + 1)) 33 0 13 - 1))) (sI (sI m 33 0 2 0) 33 0 13 (gI (sI m 33 0 2 0) 33 0 13 + 1))) ∧ (¬ v = -1 → qW false (d + 41) 236 0 0 94 [some (lR 33 (some 0)), some (lI (nI 1))] [] m Q))) := by
    rw [hD]
    refine h_readLaw (by omega) (by unfold xI; rw [hD, nI_toInt (by omega)]; omega) hJ fun m v J F O => Exists.intro v (And.intro rfl (And.intro (fun ev => ?_) (fun _ => out m J F)))
    subst ev
    have J2 : y_J x_X (sI m 33 0 2 0) := y_J_w J (fun r hr g1 g2 => ?_) (x_npr rfl)
    · have e13 : gI (sI m 33 0 2 0) 33 0 13 = nI D := by
        rw [gI_sI, if_neg (fun q => absurd q.2.2 (by decide)), (F 33 0 13 (x_nW 13 13 (by decide) (by decide) (by decide))).1, hD]
      have O2 : lw_O D (-1) (sI m 33 0 2 0) := by
        rcases O with O | ⟨jn, cn, o1, o2, o3⟩
        · exact absurd rfl O
        · refine Or.inr ⟨jn, cn, o1, ?_, fun i hi => ⟨x_cl_keep (o3 i hi).1 (o3 i hi).2 (fun k a hk _ => ?_) (fun k b1 b2 => ?_), ?_⟩⟩
          · rw [gI_sI, if_neg (fun q => absurd q.1 (by decide)), o2]
          · rw [gI_sI, if_neg (fun q => by omega)]
          · rw [gI_sI, if_neg (fun q => by omega)]
          · unfold xI
            rw [gI_sI, if_neg (fun q => absurd q.1 (by decide))]
            exact (o3 i hi).2
      have e22 : gI (sI m 33 0 2 0) 33 0 13 + 1 = nI (D + 1) := by rw [e13, nI_1]
      rw [e22]
      exact hQ _ _ (y_post1 (z_in_top _)) (lm_J J2 e13 hD6 O2) (y_Fr_sI (y_Fr_sI (y_Fr_tr (V := lr_W) (by decide +kernel) (y_Fr_rf _ _) F) (x_iW1 (by decide))) (x_iW1 (by decide)))
    · have hr : r ∈ [((2 : Int), (2 : Int), (0 : Int), (200 : Int)), (13, 13, 0, 6), (14, 14, 0, 6), (21, 21, 0, 4), (22, 22, 0, 4), (35, 36, 0, 1)] := hr
      simp only [List.mem_cons, List.not_mem_nil, or_false] at hr
      rcases hr with rfl | rfl | rfl | rfl | rfl | rfl
      · exact ⟨by decide, by decide⟩
      all_goals exact absurd g1 (by decide)
  exact main
