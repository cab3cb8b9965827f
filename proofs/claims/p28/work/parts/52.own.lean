/-! its, owners. -/
theorem nI_mul (a b : Nat) : nI a * nI b = nI (a * b) := (Int32.ofNat_mul a b).symm
theorem h_its {d r w : Nat} {s : LMem} {Q : LPost} (hr : r < 20) (hw : w < 5) (h : Q (some (lI (gI s 48 0 (160 + 5 * r + w)))) s) : qC false (d + 1) 243 [lR 33 (some 0), lI (nI r), lI (nI w)] s Q := by
  have e : (160 : Int32) + 5 * nI r + nI w = nI (160 + 5 * r + w) := by
    rw [show (5 : Int32) = nI 5 from rfl, show (160 : Int32) = nI 160 from rfl, nI_mul, nI_add, nI_add]
  have hv : qa_vin ((160 : Int32) + 5 * nI r + nI w) 279 := by
    rw [e]
    exact nI_in (by omega) (by decide)
  have h2 : Q (some (lI (gI s 48 0 ((160 : Int32) + 5 * nI r + nI w).toNatClampNeg))) s := by
    rw [e, nI_clamp (by omega)]
    exact h
  refine qC_of rfl rfl ?_
  refine qa_t1_W (cut := []) 20 ?_
  exact And.intro hv h2
/-- how many reaches -/
theorem x_many {s : LMem} (hJ : y_J x_X s) (k : Nat) (hk : k = 48 ∨ k = 49 ∨ k = 50) : ∃ n, n ≤ 20 ∧ gI s k 0 272 = nI n := by
  have h : (0 : Int) ≤ (gI s k 0 272).toInt ∧ (gI s k 0 272).toInt ≤ ((20 : Nat) : Int) := by
    rcases hk with rfl | rfl | rfl
    · exact hJ.1 48 0 272 (272, 272, 0, 20) (by decide) (by decide) (by decide)
    · exact hJ.1 49 0 272 (272, 272, 0, 20) (by decide) (by decide) (by decide)
    · exact hJ.1 50 0 272 (272, 272, 0, 20) (by decide) (by decide) (by decide)
  exact y_nIof2 h.1 h.2
theorem x_owner {s : LMem} {n r : Nat} (hJ : y_J x_X s) (hn : gI s 48 0 272 = nI n) (hn2 : n ≤ 20) (hr : r < n) : ∃ o, o ≤ 5 ∧ gI s 48 0 (160 + 5 * r + 3) = nI o := by
  have h := (hJ.2.2.2.2.1.1 r (by unfold xI; rw [hn, nI_toInt (by omega)]; omega) (by omega)).2
  unfold xI at h
  rw [show 163 + 5 * r = 160 + 5 * r + 3 by omega] at h
  exact y_nIof2 h.1 h.2
theorem x_width {s : LMem} {n r : Nat} (hJ : y_J x_X s) (hn : gI s 48 0 272 = nI n) (hn2 : n ≤ 20) (hr : r < n) : ∃ o, 1 ≤ o ∧ o ≤ 9 ∧ gI s 48 0 (160 + 5 * r + 2) = nI o := by
  have h := (hJ.2.2.2.2.1.1 r (by unfold xI; rw [hn, nI_toInt (by omega)]; omega) (by omega)).1
  unfold xI at h
  rw [show 162 + 5 * r = 160 + 5 * r + 2 by omega] at h
  obtain ⟨o, h1, h2⟩ := y_nIof2 (N := 9) (by omega) h.2
  refine ⟨o, ?_, h1, h2⟩
  rw [h2, nI_toInt (by omega)] at h
  omega
theorem nI_max (a b : Nat) (ha : a < 2 ^ 31) (hb : b < 2 ^ 31) : qa_max (nI a) (nI b) = nI (max a b) := by
  unfold qa_max
  by_cases h : a < b
  · rw [if_pos (nI_lt h hb), Nat.max_eq_right (by omega)]
  · rw [if_neg (nI_nlt (by omega) ha), Nat.max_eq_left (by omega)]
theorem h_own_l {d bc bs n : Nat} {s : LMem} {Q : LPost} (hJ : y_J x_X s) (hn : gI s 48 0 272 = nI n) (hn2 : n ≤ 20) (h : ∀ m, m ≤ 5 → Q (some (lI (nI (m + 1)))) s) : ∀ j r m, r + j = n → m ≤ 5 → qW false (d + 1) 274 bc bs 4 [some (lR 33 (some 0)), some (lI (nI m)), some (lI (nI r))] [] s Q := by
  intro j
  induction j with
  | zero =>
    intro r m hr hm
    have hr : r = n := hr
    subst hr
    have hlt : ¬ nI r < gI s 48 0 272 := by rw [hn]; exact nI_nlt (Nat.le_refl _) (by omega)
    have h1 : Q (some (lI (nI m + 1))) s := by rw [nI_1]; exact h m hm
    refine qa_t1_W (cut := [4]) 20 ?_
    refine And.intro (x_vc (by decide) (by decide)) ?_
    exact And.intro (fun q => absurd q hlt) (fun _ => h1)
  | succ j ih =>
    intro r m hr hm
    obtain ⟨o, ho, ho2⟩ := x_owner (r := r) hJ hn hn2 (by omega)
    have ih := ih (r + 1) (max m o) (by omega) (by omega)
    rw [← nI_max m o (by omega) (by omega), nI_succ, ← ho2] at ih
    have hlt : nI r < gI s 48 0 272 := by rw [hn]; exact nI_lt (by omega) (by omega)
    refine qa_t1_W (cut := [4]) 40 ?_
    refine And.intro (x_vc (by decide) (by decide)) ?_
    refine And.intro (fun _ => ?_) (fun q => absurd hlt q)
    exact h_its (r := r) (w := 3) (by omega) (by decide) (Exists.intro _ (And.intro rfl ih))
theorem h_X12_owners : y_con x_X yh_X12_owners := by
  intro d hd As s Q hA hJ _ hQ
  obtain ⟨v1, r1, rfl, a1, hA⟩ := y_as1 hA
  have e9 := y_as0 hA
  subst e9
  have e1 := y_this (k := 33) (i := 0) a1
  subst e1
  have hd : 40 ≤ d := hd
  obtain ⟨d, rfl⟩ : ∃ d', d = d' + 2 := ⟨d - 2, by omega⟩
  obtain ⟨n, hn2, hn⟩ := x_many hJ 48 (Or.inl rfl)
  refine qC_of rfl rfl ?_
  refine qa_t1_W (cut := [4]) 10 ?_
  refine h_own_l (n := n) hJ hn hn2 (fun m hm => ?_) n 0 0 (Nat.zero_add n) (by omega)
  refine hQ _ s (y_post1 ?_) hJ (y_Fr_rf _ _)
  show (1 : Int) ≤ (nI (m + 1)).toInt ∧ (nI (m + 1)).toInt ≤ 6
  rw [nI_toInt (by omega)]
  omega
