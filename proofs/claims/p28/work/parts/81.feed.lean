/-! feed of the reference. -/
def xf_n (v : Int32) : Nat := if v = 0 then 0 else 1
theorem xf_n_le (v : Int32) : xf_n v ≤ 1 := by
  unfold xf_n
  by_cases h : v = 0
  · rw [if_pos h]
    omega
  · rw [if_neg h]
    omega
def xf_w (a b e f g i : Int32) : Int32 := if i < 4 then a else if i < 8 then b else if i < 12 then e else if i < 16 then f else g
def xf_y (a b e f g i : Int32) : Int32 := (xf_w a b e f g i >>> ((24 - 8 * (i - i / 4 * 4)) &&& 31)) &&& 255
theorem xf_byteOf {d : Nat} {a b e f g i : Int32} {s : LMem} {Q : LPost} (h : Q (some (lI (xf_y a b e f g i))) s) : qW false d 201 0 0 0 (qa_mk [lI a, lI b, lI e, lI f, lI g, lI i] 7) [] s Q := by
  have h4 : ¬ (4 : Int32) = 0 := by decide
  unfold xf_y xf_w at h
  refine qa_t1_W (cut := []) 40 ?_
  refine And.intro (fun h1 => ?_) (fun h1 => ?_)
  · rw [if_pos h1] at h
    exact And.intro h4 h
  rw [if_neg h1] at h
  refine And.intro (fun h1 => ?_) (fun h1 => ?_)
  · rw [if_pos h1] at h
    exact And.intro h4 h
  rw [if_neg h1] at h
  refine And.intro (fun h1 => ?_) (fun h1 => ?_)
  · rw [if_pos h1] at h
    exact And.intro h4 h
  rw [if_neg h1] at h
  refine And.intro (fun h1 => ?_) (fun h1 => ?_)
  · rw [if_pos h1] at h
    exact And.intro h4 h
  rw [if_neg h1] at h
  exact And.intro h4 h
def xf_C (a b e f g : Int32) : Nat → Nat
  | 0 => 0
  | i + 1 => xf_C a b e f g i + xf_n (xf_y a b e f g (nI i))
theorem xf_C_le (a b e f g : Int32) : ∀ i, xf_C a b e f g i ≤ i
  | 0 => Nat.le_refl 0
  | i + 1 => Nat.add_le_add (xf_C_le a b e f g i) (xf_n_le _)
section XF
variable {d bc bs : Nat} {a b e f g : Int32} {T : Option LV} {s : LMem} {Q : LPost}
theorem xf_l1 (h : qW false (d + 1) 202 bc bs 44 [T, some (lI a), some (lI b), some (lI e), some (lI f), some (lI g), some (lI (nI (xf_C a b e f g 20))), some (lI (nI 20)), none] [] s Q) : ∀ j i, i + j = 20 → qW false (d + 1) 202 bc bs 6 [T, some (lI a), some (lI b), some (lI e), some (lI f), some (lI g), some (lI (nI (xf_C a b e f g i))), some (lI (nI i)), none] [] s Q := by
  intro j
  induction j with
  | zero =>
    intro i hi
    have hi : i = 20 := hi
    subst hi
    refine qa_t1_W (cut := [44]) 10 ?_
    exact And.intro (fun q => absurd q (by decide)) (fun _ => h)
  | succ j ih =>
    intro i hi
    have ih := ih (i + 1) (by omega)
    have hlt : nI i < 20 := nI_lt (b := 20) (by omega) (by decide)
    refine qa_t1_W (cut := [6]) 40 ?_
    refine And.intro (fun _ => ?_) (fun q => absurd hlt q)
    refine qC_of rfl rfl (xf_byteOf (Exists.intro _ (And.intro rfl ?_)))
    refine And.intro (fun e0 => ?_) (fun e0 => ?_)
    · rw [show xf_C a b e f g (i + 1) = xf_C a b e f g i + 0 from congrArg (xf_C a b e f g i + ·) (if_pos e0), ← nI_add, nI_succ] at ih
      exact ih
    · rw [show xf_C a b e f g (i + 1) = xf_C a b e f g i + 1 from congrArg (xf_C a b e f g i + ·) (if_neg e0), ← nI_add, nI_succ i] at ih
      exact ih
theorem xf_mono (a b e f g : Int32) : ∀ j i, xf_C a b e f g i ≤ xf_C a b e f g (i + j)
  | 0, _ => Nat.le_refl _
  | j + 1, i => Nat.le_trans (xf_mono a b e f g j i) (Nat.le_add_right _ _)
abbrev xf_W : List YW := [(33, 0, 0, 2, 2), (34, 0, 0, 0, 199)]
theorem xf_yb (a b e f g i : Int32) : 0 ≤ (xf_y a b e f g i).toInt ∧ (xf_y a b e f g i).toInt ≤ 255 := by
  unfold xf_y
  have h255 : (255 : Int32).toInt = 255 := by decide
  have h := y_andI (x := xf_w a b e f g i >>> ((24 - 8 * (i - i / 4 * 4)) &&& 31)) (y := (255 : Int32)) (by rw [h255]; decide)
  rw [h255] at h
  exact h
theorem xf_l2 {m : Nat} {l6 : Int32} (hm : m + xf_C a b e f g 20 ≤ 200) (h : ∀ s' l8, y_J x_X s' → y_Fr xf_W s s' → qW false (d + 1) 202 bc bs 115 [some (lR 33 (some 0)), some (lI a), some (lI b), some (lI e), some (lI f), some (lI g), some (lI l6), some (lI (nI 20)), l8] [] s' Q) :
    ∀ j i s1 l8, i + j = 20 → y_J x_X s1 → y_Fr xf_W s s1 → gI s1 33 0 2 = nI (m + xf_C a b e f g i) → qW false (d + 1) 202 bc bs 62 [some (lR 33 (some 0)), some (lI a), some (lI b), some (lI e), some (lI f), some (lI g), some (lI l6), some (lI (nI i)), l8] [] s1 Q := by
  intro j
  induction j with
  | zero =>
    intro i s1 l8 hi hJ hF hS
    have hi : i = 20 := hi
    subst hi
    refine qa_t1_W (cut := [115]) 10 ?_
    exact And.intro (fun q => absurd q (by decide)) (fun _ => h s1 l8 hJ hF)
  | succ j ih =>
    intro i s1 l8 hi hJ hF hS
    have ih := fun s1 l8 => ih (i + 1) s1 l8 (by omega)
    have hlt : nI i < 20 := nI_lt (b := 20) (by omega) (by decide)
    have hle := xf_C_le a b e f g i
    refine qa_t1_W (cut := [62]) 60 ?_
    refine And.intro (fun _ => ?_) (fun q => absurd hlt q)
    refine qC_of rfl rfl (xf_byteOf (Exists.intro _ (And.intro rfl ?_)))
    rw [nI_succ] at ih
    refine And.intro (fun e0 => ?_) (fun e0 => ?_)
    · exact ih s1 _ hJ hF (by rw [show xf_C a b e f g (i + 1) = xf_C a b e f g i + 0 from congrArg (xf_C a b e f g i + ·) (if_pos e0)]; exact hS)
    · have e1 : xf_C a b e f g (i + 1) = xf_C a b e f g i + 1 := congrArg (xf_C a b e f g i + ·) (if_neg e0)
      have hmo := xf_mono a b e f g j (i + 1)
      rw [show i + 1 + j = 20 by omega, e1] at hmo
      have hv : qa_vin (gI s1 33 0 2) 200 := by
        rw [hS]
        exact nI_in (by omega) (by decide)
      have hb := xf_yb a b e f g (nI i)
      have ec : (gI s1 33 0 2).toNatClampNeg = m + xf_C a b e f g i := by rw [hS, nI_clamp (by omega)]
      have J1 : y_J x_X (sI s1 34 0 (gI s1 33 0 2).toNatClampNeg (xf_y a b e f g (nI i))) := y_J_w hJ (fun r hr g1 g2 => ?_) (x_npr rfl)
      · have e2 : gI (sI s1 34 0 (gI s1 33 0 2).toNatClampNeg (xf_y a b e f g (nI i))) 33 0 2 + 1 = nI (m + xf_C a b e f g i + 1) := by
          rw [gI_sI, if_neg (fun q => absurd q.1 (by decide)), hS, nI_1]
        have J2 : y_J x_X (sI (sI s1 34 0 (gI s1 33 0 2).toNatClampNeg (xf_y a b e f g (nI i))) 33 0 2 (gI (sI s1 34 0 (gI s1 33 0 2).toNatClampNeg (xf_y a b e f g (nI i))) 33 0 2 + 1)) := y_J_w J1 (fun r hr g1 g2 => ?_) (x_npr rfl)
        · have F2 : y_Fr xf_W s (sI (sI s1 34 0 (gI s1 33 0 2).toNatClampNeg (xf_y a b e f g (nI i))) 33 0 2 (gI (sI s1 34 0 (gI s1 33 0 2).toNatClampNeg (xf_y a b e f g (nI i))) 33 0 2 + 1)) := by
            refine y_Fr_sI (y_Fr_sI hF ⟨(34, 0, 0, 0, 199), by decide, rfl, ⟨Int.le_refl _, Int.le_refl _⟩, ?_, ?_⟩) (x_iW1 (by decide))
            · rw [ec]
              show (0 : Int) ≤ ((m + xf_C a b e f g i : Nat) : Int)
              omega
            · rw [ec]
              show ((m + xf_C a b e f g i : Nat) : Int) ≤ 199
              omega
          have S2 : gI (sI (sI s1 34 0 (gI s1 33 0 2).toNatClampNeg (xf_y a b e f g (nI i))) 33 0 2 (gI (sI s1 34 0 (gI s1 33 0 2).toNatClampNeg (xf_y a b e f g (nI i))) 33 0 2 + 1)) 33 0 2 = nI (m + xf_C a b e f g (i + 1)) := by
            rw [gI_sI, if_pos ⟨rfl, rfl, rfl⟩, e2, e1, Nat.add_assoc]
          exact And.intro hv (ih _ _ J2 F2 S2)
        · have hr : r ∈ [((2 : Int), (2 : Int), (0 : Int), (200 : Int)), (13, 13, 0, 6), (14, 14, 0, 6), (21, 21, 0, 4), (22, 22, 0, 4), (35, 36, 0, 1)] := hr
          rw [e2, nI_toInt (by omega)]
          simp only [List.mem_cons, List.not_mem_nil, or_false] at hr
          rcases hr with rfl | rfl | rfl | rfl | rfl | rfl
          · show (0 : Int) ≤ ((m + xf_C a b e f g i + 1 : Nat) : Int) ∧ ((m + xf_C a b e f g i + 1 : Nat) : Int) ≤ 200
            omega
          all_goals exact absurd g1 (by decide)
      · have hr : r ∈ [((0 : Int), (199 : Int), (0 : Int), (255 : Int))] := hr
        rw [List.mem_singleton.mp hr]
        exact hb
end XF
def yh_X12_feed : YCt := (202, [.inr (.inr (33, (0, 0), (0, 0))), .inl ((-2147483648), 2147483647), .inl ((-2147483648), 2147483647), .inl ((-2147483648), 2147483647), .inl ((-2147483648), 2147483647), .inl ((-2147483648), 2147483647)], ([], []), xf_W, [(some (.inl ((-2147483648), 2147483647)), [])], 40)
theorem h_X12_feed : y_con x_X yh_X12_feed := by
  intro d hd As s Q hA hJ hp hQ
  obtain ⟨v1, r1, rfl, a1, hA⟩ := y_as1 hA
  obtain ⟨v2, r2, rfl, a2, hA⟩ := y_as1 hA
  obtain ⟨v3, r3, rfl, a3, hA⟩ := y_as1 hA
  obtain ⟨v4, r4, rfl, a4, hA⟩ := y_as1 hA
  obtain ⟨v5, r5, rfl, a5, hA⟩ := y_as1 hA
  obtain ⟨v6, r6, rfl, a6, hA⟩ := y_as1 hA
  have e9 := y_as0 hA
  subst e9
  have e1 := y_this (k := 33) (i := 0) a1
  subst e1
  obtain ⟨a, rfl, -, -⟩ := y_aI a2
  obtain ⟨b, rfl, -, -⟩ := y_aI a3
  obtain ⟨e, rfl, -, -⟩ := y_aI a4
  obtain ⟨f, rfl, -, -⟩ := y_aI a5
  obtain ⟨g, rfl, -, -⟩ := y_aI a6
  have hd : 40 ≤ d := hd
  obtain ⟨d, rfl⟩ : ∃ d', d = d' + 2 := ⟨d - 2, by omega⟩
  obtain ⟨l, hl2, hl⟩ := y_nIof2 (N := 200) (x := gI s 33 0 2) (hJ.1 33 0 2 (2, 2, 0, 200) (by decide) (by decide) (by decide)).1 (hJ.1 33 0 2 (2, 2, 0, 200) (by decide) (by decide) (by decide)).2
  have hC := xf_C_le a b e f g 20
  refine qC_of rfl rfl ?_
  refine qa_t1_W (cut := [6]) 10 ?_
  refine xf_l1 ?_ 20 0 rfl
  refine qa_t1_W (cut := [62]) 20 ?_
  refine And.intro (fun _ => hQ _ s (y_post1 (z_in_top _)) hJ (y_Fr_rf _ _)) (fun c => ?_)
  have c : ¬ (200 : Int32) < gI s 33 0 2 + nI (xf_C a b e f g 20) := c
  have hm : l + xf_C a b e f g 20 ≤ 200 := by
    rw [hl, nI_add] at c
    rcases Nat.lt_or_ge 200 (l + xf_C a b e f g 20) with q | q
    · exact absurd (nI_lt (a := 200) q (by omega)) c
    · exact q
  refine xf_l2 (s := s) hm (fun s' l8 J' F' => ?_) 20 0 s _ rfl hJ (y_Fr_rf _ _) hl
  refine qa_t1_W (cut := []) 10 ?_
  exact hQ _ s' (y_post1 (z_in_top _)) J' F'
