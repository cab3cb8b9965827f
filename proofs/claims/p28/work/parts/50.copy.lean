/-- a place with numbers in a list of places -/
theorem x_iW1 {W : List YW} {k i j : Nat} (h : (W.any fun w => Nat.beq w.1 k && ((decide (w.2.1 ≤ (i : Int)) && decide ((i : Int) ≤ w.2.2.1)) && (decide (w.2.2.2.1 ≤ (j : Int)) && decide ((j : Int) ≤ w.2.2.2.2)))) = true) : y_iW W k i j := by
  obtain ⟨w, hw, h6⟩ := List.any_eq_true.mp h
  obtain ⟨q1, h6⟩ := qa_and h6
  obtain ⟨h6, h7⟩ := qa_and h6
  obtain ⟨q2, q3⟩ := qa_and h6
  obtain ⟨q4, q5⟩ := qa_and h7
  exact ⟨w, hw, qa_beq q1, ⟨of_decide_eq_true q2, of_decide_eq_true q3⟩, of_decide_eq_true q4, of_decide_eq_true q5⟩
theorem x_vc {x : Int32} {n : Nat} (h1 : ¬ x < 0) (h2 : ¬ n ≤ x.toNatClampNeg) : qa_vin x n := fun q => q.elim h1 h2
theorem x_npr {k j : Nat} (h : ((y_P k).all fun r => decide ((j : Int) < r.1) || decide (r.2 < (j : Int))) = true) : ¬ y_pr k j := by
  rintro ⟨r, hr, h1, h2⟩
  rcases (Bool.or_eq_true _ _).mp (List.all_eq_true.mp h r hr) with g | g <;> (have g := of_decide_eq_true g; omega)
/-! COPIES: putAside, takeBack, image, back. -/
theorem h_X12_putAside_l {d bc bs : Nat} {s : LMem} {Q : LPost} (h : ∀ m, x_cp 48 49 s m 279 → qW false d 265 bc bs 27 [some (lR 33 (some 0)), some (lI (nI 279))] [] m Q) : ∀ n k m, k + n = 279 → x_cp 48 49 s m k → qW false d 265 bc bs 2 [some (lR 33 (some 0)), some (lI (nI k))] [] m Q := by
  intro n
  induction n with
  | zero =>
    intro k m hk hm
    have hk : k = 279 := hk
    subst hk
    refine qa_t1_W (cut := [27]) 10 ?_
    exact And.intro (fun q => absurd q (by decide)) (fun _ => h m hm)
  | succ n ih =>
    intro k m hk hm
    have ih := ih (k + 1) (sI m 49 0 k (gI m 48 0 k)) (by omega) (x_cp_s (by decide) hm)
    rw [nI_succ k] at ih
    have hlt : nI k < 279 := nI_lt (b := 279) (by omega) (by decide)
    have hv : qa_vin (nI k) 279 := nI_in (by omega) (by decide)
    have e9 : (nI k).toNatClampNeg = k := nI_clamp (by omega)
    have ih2 : qW false d 265 bc bs 2 [some (lR 33 (some 0)), some (lI (nI k + 1))] [] (sI m 49 0 (nI k).toNatClampNeg (gI m 48 0 (nI k).toNatClampNeg)) Q := by
      rw [e9]
      exact ih
    refine qa_t1_W (cut := [2]) 30 ?_
    refine And.intro (fun _ => ?_) (fun q => absurd hlt q)
    exact And.intro hv (And.intro hv ih2)
theorem h_X12_putAside : y_con x_X yh_X12_putAside := by
  intro d hd As s Q hA hJ _ hQ
  obtain ⟨v1, r1, rfl, a1, hA⟩ := y_as1 hA
  have e9 := y_as0 hA
  subst e9
  have e1 := y_this (k := 33) (i := 0) a1
  subst e1
  have hd : 40 ≤ d := hd
  obtain ⟨d, rfl⟩ : ∃ d', d = d' + 1 := ⟨d - 1, by omega⟩
  refine qC_of rfl rfl ?_
  refine qa_t1_W (cut := [2]) 10 ?_
  refine h_X12_putAside_l (fun m hm => ?_) 279 0 s rfl (x_cp_0 48 49 s)
  refine qa_t1_W (cut := []) 20 ?_
  have hJ1 := x_cp_J (by decide) (by decide) (by decide) hJ hm
  have hF1 : y_Fr yh_X12_putAside.2.2.2.1 s m := x_cp_Fr hm (by decide)
  exact hQ none _ (y_post1 trivial) (y_J_sL (y_J_sL hJ1)) (y_Fr_sL (y_Fr_sL hF1 (x_iW1 (by decide))) (x_iW1 (by decide)))
theorem h_X12_takeBack_l {d bc bs : Nat} {s : LMem} {Q : LPost} (h : ∀ m, x_cp 49 48 s m 279 → qW false d 266 bc bs 27 [some (lR 33 (some 0)), some (lI (nI 279))] [] m Q) : ∀ n k m, k + n = 279 → x_cp 49 48 s m k → qW false d 266 bc bs 2 [some (lR 33 (some 0)), some (lI (nI k))] [] m Q := by
  intro n
  induction n with
  | zero =>
    intro k m hk hm
    have hk : k = 279 := hk
    subst hk
    refine qa_t1_W (cut := [27]) 10 ?_
    exact And.intro (fun q => absurd q (by decide)) (fun _ => h m hm)
  | succ n ih =>
    intro k m hk hm
    have ih := ih (k + 1) (sI m 48 0 k (gI m 49 0 k)) (by omega) (x_cp_s (by decide) hm)
    rw [nI_succ k] at ih
    have hlt : nI k < 279 := nI_lt (b := 279) (by omega) (by decide)
    have hv : qa_vin (nI k) 279 := nI_in (by omega) (by decide)
    have e9 : (nI k).toNatClampNeg = k := nI_clamp (by omega)
    have ih2 : qW false d 266 bc bs 2 [some (lR 33 (some 0)), some (lI (nI k + 1))] [] (sI m 48 0 (nI k).toNatClampNeg (gI m 49 0 (nI k).toNatClampNeg)) Q := by
      rw [e9]
      exact ih
    refine qa_t1_W (cut := [2]) 30 ?_
    refine And.intro (fun _ => ?_) (fun q => absurd hlt q)
    exact And.intro hv (And.intro hv ih2)
theorem h_X12_takeBack : y_con x_X yh_X12_takeBack := by
  intro d hd As s Q hA hJ _ hQ
  obtain ⟨v1, r1, rfl, a1, hA⟩ := y_as1 hA
  have e9 := y_as0 hA
  subst e9
  have e1 := y_this (k := 33) (i := 0) a1
  subst e1
  have hd : 40 ≤ d := hd
  obtain ⟨d, rfl⟩ : ∃ d', d = d' + 1 := ⟨d - 1, by omega⟩
  refine qC_of rfl rfl ?_
  refine qa_t1_W (cut := [2]) 10 ?_
  refine h_X12_takeBack_l (fun m hm => ?_) 279 0 s rfl (x_cp_0 49 48 s)
  refine qa_t1_W (cut := []) 20 ?_
  have hJ1 := x_cp_J (by decide) (by decide) (by decide) hJ hm
  have hF1 : y_Fr yh_X12_takeBack.2.2.2.1 s m := x_cp_Fr hm (by decide)
  exact hQ none _ (y_post1 trivial) (y_J_sL (y_J_sL hJ1)) (y_Fr_sL (y_Fr_sL hF1 (x_iW1 (by decide))) (x_iW1 (by decide)))
theorem h_X12_image_l {d bc bs : Nat} {s : LMem} {Q : LPost} (h : ∀ m, x_cp 48 50 s m 279 → qW false d 311 bc bs 36 [some (lR 33 (some 0)), some (lI (nI 279))] [] m Q) : ∀ n k m, k + n = 279 → x_cp 48 50 s m k → qW false d 311 bc bs 11 [some (lR 33 (some 0)), some (lI (nI k))] [] m Q := by
  intro n
  induction n with
  | zero =>
    intro k m hk hm
    have hk : k = 279 := hk
    subst hk
    refine qa_t1_W (cut := [36]) 10 ?_
    exact And.intro (fun q => absurd q (by decide)) (fun _ => h m hm)
  | succ n ih =>
    intro k m hk hm
    have ih := ih (k + 1) (sI m 50 0 k (gI m 48 0 k)) (by omega) (x_cp_s (by decide) hm)
    rw [nI_succ k] at ih
    have hlt : nI k < 279 := nI_lt (b := 279) (by omega) (by decide)
    have hv : qa_vin (nI k) 279 := nI_in (by omega) (by decide)
    have e9 : (nI k).toNatClampNeg = k := nI_clamp (by omega)
    have ih2 : qW false d 311 bc bs 11 [some (lR 33 (some 0)), some (lI (nI k + 1))] [] (sI m 50 0 (nI k).toNatClampNeg (gI m 48 0 (nI k).toNatClampNeg)) Q := by
      rw [e9]
      exact ih
    refine qa_t1_W (cut := [11]) 30 ?_
    refine And.intro (fun _ => ?_) (fun q => absurd hlt q)
    exact And.intro hv (And.intro hv ih2)
def yh_X12_image : YCt := (311, [.inr (.inr (33, (0, 0), (0, 0)))], ([], []), [(33, 0, 0, 32, 32), (33, 0, 0, 34, 34), (33, 0, 0, 36, 36), (50, 0, 0, 0, 278)], [(some (.inl ((-2147483648), 2147483647)), [])], 40)
theorem h_X12_image : y_con x_X yh_X12_image := by
  intro d hd As s Q hA hJ _ hQ
  obtain ⟨v1, r1, rfl, a1, hA⟩ := y_as1 hA
  have e9 := y_as0 hA
  subst e9
  have e1 := y_this (k := 33) (i := 0) a1
  subst e1
  have hd : 40 ≤ d := hd
  obtain ⟨d, rfl⟩ : ∃ d', d = d' + 1 := ⟨d - 1, by omega⟩
  refine qC_of rfl rfl ?_
  refine qa_t1_W (cut := [11]) 12 ?_
  refine And.intro (fun _ => hQ _ s (y_post1 (z_in_top _)) hJ (y_Fr_rf _ _)) (fun _ => ?_)
  refine h_X12_image_l (fun m hm => ?_) 279 0 s rfl (x_cp_0 48 50 s)
  refine qa_t1_W (cut := []) 20 ?_
  have hJ1 := x_cp_J (by decide) (by decide) (by decide) hJ hm
  have hF1 : y_Fr yh_X12_image.2.2.2.1 s m := x_cp_Fr hm (by decide)
  have fin : ∀ v x y, Q (some (lI v)) (sI (sL (sL m 33 0 32 x) 33 0 34 y) 33 0 36 1) := fun v x y => hQ (some (lI v)) _ (y_post1 (z_in_top v)) (y_J_w (k := 33) (j := 36) (y_J_sL (y_J_sL hJ1)) (by decide) (x_npr (by decide))) (y_Fr_sI (y_Fr_sL (y_Fr_sL hF1 (x_iW1 (by decide))) (x_iW1 (by decide))) (x_iW1 (by decide)))
  exact And.intro (Or.inr rfl) (And.intro (x_vc (by decide) (by decide)) (fin _ _ _))
theorem h_X12_back_l {d bc bs : Nat} {s : LMem} {Q : LPost} (h : ∀ m, x_cp 50 48 s m 279 → qW false d 312 bc bs 36 [some (lR 33 (some 0)), some (lI (nI 279))] [] m Q) : ∀ n k m, k + n = 279 → x_cp 50 48 s m k → qW false d 312 bc bs 11 [some (lR 33 (some 0)), some (lI (nI k))] [] m Q := by
  intro n
  induction n with
  | zero =>
    intro k m hk hm
    have hk : k = 279 := hk
    subst hk
    refine qa_t1_W (cut := [36]) 10 ?_
    exact And.intro (fun q => absurd q (by decide)) (fun _ => h m hm)
  | succ n ih =>
    intro k m hk hm
    have ih := ih (k + 1) (sI m 48 0 k (gI m 50 0 k)) (by omega) (x_cp_s (by decide) hm)
    rw [nI_succ k] at ih
    have hlt : nI k < 279 := nI_lt (b := 279) (by omega) (by decide)
    have hv : qa_vin (nI k) 279 := nI_in (by omega) (by decide)
    have e9 : (nI k).toNatClampNeg = k := nI_clamp (by omega)
    have ih2 : qW false d 312 bc bs 11 [some (lR 33 (some 0)), some (lI (nI k + 1))] [] (sI m 48 0 (nI k).toNatClampNeg (gI m 50 0 (nI k).toNatClampNeg)) Q := by
      rw [e9]
      exact ih
    refine qa_t1_W (cut := [11]) 30 ?_
    refine And.intro (fun _ => ?_) (fun q => absurd hlt q)
    exact And.intro hv (And.intro hv ih2)
def yh_X12_back : YCt := (312, [.inr (.inr (33, (0, 0), (0, 0)))], ([], []), [(33, 0, 0, 29, 30), (48, 0, 0, 0, 278)], [(some (.inl ((-2147483648), 2147483647)), [])], 40)
theorem h_X12_back : y_con x_X yh_X12_back := by
  intro d hd As s Q hA hJ _ hQ
  obtain ⟨v1, r1, rfl, a1, hA⟩ := y_as1 hA
  have e9 := y_as0 hA
  subst e9
  have e1 := y_this (k := 33) (i := 0) a1
  subst e1
  have hd : 40 ≤ d := hd
  obtain ⟨d, rfl⟩ : ∃ d', d = d' + 1 := ⟨d - 1, by omega⟩
  refine qC_of rfl rfl ?_
  refine qa_t1_W (cut := [11]) 12 ?_
  refine And.intro (fun _ => hQ _ s (y_post1 (z_in_top _)) hJ (y_Fr_rf _ _)) (fun _ => ?_)
  refine h_X12_back_l (fun m hm => ?_) 279 0 s rfl (x_cp_0 50 48 s)
  refine qa_t1_W (cut := []) 20 ?_
  have hJ1 := x_cp_J (by decide) (by decide) (by decide) hJ hm
  have hF1 : y_Fr yh_X12_back.2.2.2.1 s m := x_cp_Fr hm (by decide)
  have fin : ∀ v x y, Q (some (lI v)) (sL (sL m 33 0 29 x) 33 0 30 y) := fun v x y => hQ (some (lI v)) _ (y_post1 (z_in_top v)) (y_J_sL (y_J_sL hJ1)) (y_Fr_sL (y_Fr_sL hF1 (x_iW1 (by decide))) (x_iW1 (by decide)))
  exact And.intro (x_vc (by decide) (by decide)) (fin _ _ _)
