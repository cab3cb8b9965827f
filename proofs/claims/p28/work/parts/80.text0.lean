/-! text and fault of a ditch. -/
/-- a ditch that was read well is registered -/
theorem dm_J {s : LMem} {D : Nat} (hJ : y_J x_X s) (hD : gI s 33 0 21 = nI D) (hD4 : D < 4) (hO : dt_O D (-1) s) : y_J x_X (sI s 33 0 21 (nI (D + 1))) := by
  obtain ⟨j1, j2, j3⟩ := hJ
  have other : ∀ k' j', ¬ (k' = 33 ∧ j' = 21) → gI (sI s 33 0 21 (nI (D + 1))) k' 0 j' = gI s k' 0 j' := fun k' j' g1 => by
    rw [gI_sI, if_neg (fun q => g1 ⟨q.1, q.2.2⟩)]
  have xe : ∀ k' j', ¬ (k' = 33 ∧ j' = 21) → xI (sI s 33 0 21 (nI (D + 1))) k' j' = xI s k' j' := fun k' j' g => by unfold xI; rw [other k' j' g]
  obtain ⟨j3, j4, j5, j6, j7, j8⟩ := j3
  have row : ∀ k, k ≠ 33 → x_row s k → x_row (sI s 33 0 21 (nI (D + 1))) k := fun k hk hx => by
    have e : ∀ j, xI (sI s 33 0 21 (nI (D + 1))) k j = xI s k j := fun j => xe k j (fun q => hk q.1)
    refine ⟨fun r g1 g2 => ?_, fun q => ?_, fun q => ?_⟩
    · rw [e] at g1
      rw [e, e]
      exact hx.1 r g1 g2
    · rw [e] at q
      rw [xe 33 13 (by decide)]
      exact hx.2.1 q
    · rw [xe 33 13 (by decide)]
      rw [e, e]
      exact hx.2.2 q
  obtain ⟨n, hn2, hn20, h44, hR⟩ := hO.resolve_left (fun q => q rfl)
  refine ⟨y_JB_sI j1 (fun r hr g1 g2 => ?_), j2, ?_, ?_, row 48 (by decide) j5, row 49 (by decide) j6, row 50 (by decide) j7, fun q => ?_⟩
  · have hr : r ∈ [((2 : Int), (2 : Int), (0 : Int), (200 : Int)), (13, 13, 0, 6), (14, 14, 0, 6), (21, 21, 0, 4), (22, 22, 0, 4), (35, 36, 0, 1)] := hr
    simp only [List.mem_cons, List.not_mem_nil, or_false] at hr
    rcases hr with rfl | rfl | rfl | rfl | rfl | rfl
    · exact absurd g2 (by decide)
    · exact absurd g2 (by decide)
    · exact absurd g2 (by decide)
    · show (0 : Int) ≤ (nI (D + 1)).toInt ∧ (nI (D + 1)).toInt ≤ 4
      rw [nI_toInt (by omega)]
      omega
    · exact absurd g1 (by decide)
    · exact absurd g1 (by decide)
  · intro n h1 h2
    rw [xe 33 13 (by decide)] at h1
    obtain ⟨g1, g2, g3⟩ := j3 n h1 h2
    rw [xe 38 n (fun q => absurd q.1 (by decide))]
    refine ⟨g1, g2, fun c h3 h4 => ?_⟩
    exact x_cl_same (fun k' j' hk => xe k' j' (fun q => by
      obtain ⟨rfl, _⟩ := q
      revert hk
      decide)) (g3 c h3 h4)
  · intro d h1 h2
    have e21 : xI (sI s 33 0 21 (nI (D + 1))) 33 21 = (D : Int) + 1 := by
      unfold xI
      rw [gI_sI, if_pos ⟨rfl, rfl, rfl⟩, nI_toInt (by omega)]
      omega
    rw [e21] at h1
    rw [xe 44 d (fun q => absurd q.1 (by decide))]
    by_cases e : d < D
    · obtain ⟨g1, g2, g3⟩ := j4 d (by unfold xI; rw [hD, nI_toInt (by omega)]; omega) h2
      refine ⟨g1, g2, fun r h3 h4 => ?_⟩
      rw [xe 45 _ (fun q => absurd q.1 (by decide)), xe 45 _ (fun q => absurd q.1 (by decide))]
      exact g3 r h3 h4
    · have e : d = D := by omega
      subst e
      have e44 : xI s 44 d = (n : Int) := by
        unfold xI
        rw [h44, nI_toInt (by omega)]
      rw [e44]
      refine ⟨by omega, by omega, fun r h3 h4 => ?_⟩
      rw [xe 45 _ (fun q => absurd q.1 (by decide)), xe 45 _ (fun q => absurd q.1 (by decide))]
      exact hR r (by omega)
  · rw [xe 33 35 (by decide)] at q
    rw [xe 33 13 (by decide)]
    exact j8 q
def yh_X12_fault_0 : YCt := (235, [.inr (.inr (33, (0, 0), (0, 0))), .inl (0, 0)], ([], []), dt_W, [(some (.inl ((-2147483648), 2147483647)), [])], 40)
theorem h_X12_fault_0 : y_con x_X yh_X12_fault_0 := by
  intro d hd As s Q hA hJ hp hQ
  obtain ⟨v1, r1, rfl, a1, hA⟩ := y_as1 hA
  obtain ⟨v2, r2, rfl, a2, hA⟩ := y_as1 hA
  have e9 := y_as0 hA
  subst e9
  have e1 := y_this (k := 33) (i := 0) a1
  subst e1
  obtain ⟨p1, rfl, q1, q2⟩ := y_aI a2
  have q1 : 0 ≤ p1.toInt := q1
  have q2 : p1.toInt ≤ 0 := q2
  have ep : p1 = nI 0 := Int32.toInt_inj.mp (by rw [nI_toInt (by omega)]; omega)
  subst ep
  have hd : 40 ≤ d := hd
  obtain ⟨d, rfl⟩ : ∃ d', d = d' + 6 := ⟨d - 6, by omega⟩
  have h21 := (hJ.1 33 0 21 (21, 21, 0, 4) (by decide) (by decide) (by decide)).2
  refine qC_of rfl rfl ?_
  refine qa_t1_W (cut := []) 40 ?_
  refine And.intro (fun _ => ?_) (fun q => absurd rfl q)
  exact h_readDitch (dd := 4) (by decide) h21 hJ fun m v S _ => Exists.intro v (And.intro rfl (hQ _ m (y_post1 (z_in_top _)) S.1 S.2))
abbrev tx0_W : List YW := (33, 0, 0, 21, 21) :: (33, 0, 0, 2, 2) :: dt_W
def yh_X12_text_0 : YCt := (236, [.inr (.inr (33, (0, 0), (0, 0))), .inl (0, 0)], ([], []), tx0_W, [(some (.inl ((-2147483648), 2147483647)), [])], 40)
theorem h_X12_text_0 : y_con x_X yh_X12_text_0 := by
  intro d hd As s Q hA hJ hp hQ
  obtain ⟨v1, r1, rfl, a1, hA⟩ := y_as1 hA
  obtain ⟨v2, r2, rfl, a2, hA⟩ := y_as1 hA
  have e9 := y_as0 hA
  subst e9
  have e1 := y_this (k := 33) (i := 0) a1
  subst e1
  obtain ⟨p1, rfl, q1, q2⟩ := y_aI a2
  have q1 : 0 ≤ p1.toInt := q1
  have q2 : p1.toInt ≤ 0 := q2
  have ep : p1 = nI 0 := Int32.toInt_inj.mp (by rw [nI_toInt (by omega)]; omega)
  subst ep
  have hd : 40 ≤ d := hd
  obtain ⟨d, rfl⟩ : ∃ d', d = d' + 6 := ⟨d - 6, by omega⟩
  obtain ⟨D, hD2, hD⟩ := y_nIof2 (N := 4) (x := gI s 33 0 21) (hJ.1 33 0 21 (21, 21, 0, 4) (by decide) (by decide) (by decide)).1 (hJ.1 33 0 21 (21, 21, 0, 4) (by decide) (by decide) (by decide)).2
  have no : ∀ m, y_J x_X m → y_Fr dt_W s m → Q (some (lI (-1))) m := fun m J F => hQ _ m (y_post1 (z_in_top _)) J (y_Fr_tr (V := dt_W) (by decide +kernel) (y_Fr_rf _ _) F)
  refine qC_of rfl rfl ?_
  refine qa_t1_W (cut := [46]) 80 ?_
  have out : ∀ m, y_J x_X m → y_Fr dt_W s m → qW false (d + 5) 236 0 0 46 [some (lR 33 (some 0)), some (lI (nI 0))] [] m Q := fun m J F => by
    refine qa_t1_W (cut := []) 80 ?_
    refine And.intro (fun q => absurd q (by decide)) (fun _ => ?_)
    exact And.intro (fun q => absurd q (by decide)) (fun _ => no m J F)
  refine And.intro (fun _ => ?_) (fun q => absurd rfl q)
  refine And.intro (fun c => ?_) (fun _ => out s hJ (y_Fr_rf _ _))
  have c := Int32.lt_iff_toInt_lt.mp c
  have hD4 : D < 4 := by
    have c : (gI s 33 0 21).toInt < 4 := c
    rw [hD, nI_toInt (by omega)] at c
    omega
  have main : qC false (d + 5) 233 [lR 33 (some 0), lI (gI s 33 0 21)] s (fun r m => ∃ v, r = some (lI v) ∧ ((v = -1 → Q (some (lI (gI (sI (sI m 33 0 2 0) 33 0 21 (gI (sI m 33 0 2 0) 33 0 21 + 1)) 33 0 21 - 1))) (sI (sI m 33 0 2 0) 33 0 21 (gI (sI m 33 0 2 0) 33 0 21 + 1))) ∧ (¬ v = -1 → qW false (d + 5) 236 0 0 46 [some (lR 33 (some 0)), some (lI (nI 0))] [] m Q))) := by
    rw [hD]
    refine h_readDitch (by omega) (by unfold xI; rw [hD, nI_toInt (by omega)]; omega) hJ fun m v S O => Exists.intro v (And.intro rfl (And.intro (fun ev => ?_) (fun _ => out m S.1 S.2)))
    subst ev
    have J2 : y_J x_X (sI m 33 0 2 0) := y_J_w S.1 (fun r hr g1 g2 => ?_) (x_npr rfl)
    · have e21 : gI (sI m 33 0 2 0) 33 0 21 = nI D := by
        rw [gI_sI, if_neg (fun q => absurd q.2.2 (by decide)), (S.2 33 0 21 (x_nW 21 21 (by decide) (by decide) (by decide))).1, hD]
      have O2 : dt_O D (-1) (sI m 33 0 2 0) := by
        rcases O with O | ⟨n, o1, o2, o3, o4⟩
        · exact absurd rfl O
        · refine Or.inr ⟨n, o1, o2, ?_, fun r hr => ?_⟩
          · rw [gI_sI, if_neg (fun q => absurd q.1 (by decide)), o3]
          · unfold xI
            rw [gI_sI, if_neg (fun q => absurd q.1 (by decide)), gI_sI, if_neg (fun q => absurd q.1 (by decide))]
            exact o4 r hr
      have e22 : gI (sI m 33 0 2 0) 33 0 21 + 1 = nI (D + 1) := by rw [e21, nI_1]
      rw [e22]
      exact hQ _ _ (y_post1 (z_in_top _)) (dm_J J2 e21 hD4 O2) (y_Fr_sI (y_Fr_sI (y_Fr_tr (V := dt_W) (by decide +kernel) (y_Fr_rf _ _) S.2) (x_iW1 (by decide))) (x_iW1 (by decide)))
    · have hr : r ∈ [((2 : Int), (2 : Int), (0 : Int), (200 : Int)), (13, 13, 0, 6), (14, 14, 0, 6), (21, 21, 0, 4), (22, 22, 0, 4), (35, 36, 0, 1)] := hr
      simp only [List.mem_cons, List.not_mem_nil, or_false] at hr
      rcases hr with rfl | rfl | rfl | rfl | rfl | rfl
      · exact ⟨by decide, by decide⟩
      all_goals exact absurd g1 (by decide)
  exact main
