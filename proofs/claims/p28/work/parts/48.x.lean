/-! WHAT HOLDS OF THE REFERENCE'S STATE between calls (X), for hand-made contracts. -/
def xI (s : LMem) (k j : Nat) : Int := (gI s k 0 j).toInt
/-- a ditch that stands: its rows up to MANY have a width and an owner; its laws are told -/
def x_row (s : LMem) (k : Nat) : Prop := (∀ r : Nat, (r : Int) < xI s k 272 → r < 20 → (1 ≤ xI s k (162 + 5 * r) ∧ xI s k (162 + 5 * r) ≤ 9) ∧ (0 ≤ xI s k (163 + 5 * r) ∧ xI s k (163 + 5 * r) ≤ 5)) ∧ (xI s k 272 ≠ 0 → 1 ≤ xI s 33 13) ∧ (True → xI s k 277 < max 1 (xI s 33 13) ∧ xI s k 278 < max 1 (xI s 33 13))
def x_told (s : LMem) : Prop := ∀ d : Nat, (d : Int) < xI s 33 21 → d < 5 → 2 ≤ xI s 44 d ∧ xI s 44 d ≤ 20 ∧ ∀ r : Nat, (r : Int) < xI s 44 d → r < 20 → (1 ≤ xI s 45 (100 * d + 5 * r + 2) ∧ xI s 45 (100 * d + 5 * r + 2) ≤ 9) ∧ (0 ≤ xI s 45 (100 * d + 5 * r + 3) ∧ xI s 45 (100 * d + 5 * r + 3) ≤ 5)
/-- so many codes from a on run on a stack of so many -/
def x_run (s : LMem) (n : Nat) : Nat → Nat → Nat → Prop
  | 0, _, _ => True
  | m + 1, a, h => ((xI s 35 (260 * n + a) = 0 ∨ (xI s 35 (260 * n + a) = 1 ∧ 0 ≤ xI s 36 (260 * n + a) ∧ xI s 36 (260 * n + a) < 8)) ∧ h < 80 ∧ x_run s n m (a + 1) (h + 1))
    ∨ (xI s 35 (260 * n + a) = 9 ∧ 1 ≤ h ∧ h ≤ 80 ∧ x_run s n m (a + 1) h)
    ∨ ((2 ≤ xI s 35 (260 * n + a) ∧ xI s 35 (260 * n + a) ≠ 9) ∧ 2 ≤ h ∧ h ≤ 80 ∧ x_run s n m (a + 1) (h - 1))
def x_cl (s : LMem) (n c : Nat) : Prop := ∃ a b e : Nat, xI s 39 (60 * n + c) = a ∧ xI s 40 (60 * n + c) = b ∧ xI s 41 (60 * n + c) = e ∧ a ≤ b ∧ b ≤ e ∧ e ≤ 260 ∧ x_run s n (b - a) a 0 ∧ x_run s n (e - b) b 0
def x_law (s : LMem) : Prop := ∀ n : Nat, (n : Int) < xI s 33 13 → n < 7 → 0 ≤ xI s 38 n ∧ xI s 38 n ≤ 60 ∧ ∀ c : Nat, (c : Int) < xI s 38 n → c < 60 → x_cl s n c
def x_X (s : LMem) : Prop := x_law s ∧ x_told s ∧ x_row s 48 ∧ x_row s 49 ∧ x_row s 50 ∧ (xI s 33 35 ≠ 0 → 1 ≤ xI s 33 13)
/-- nothing of X of these kinds is written -/
def x_sm (K : List Nat) (s s' : LMem) : Prop := ∀ k j, k ∈ K → ¬ (k = 33 ∧ j = 35) → y_pr k j → gI s' k 0 j = gI s k 0 j
theorem x_sm_of {K : List Nat} {s s' : LMem} (h : ∀ k i j, y_pr k j → gI s' k i j = gI s k i j) : x_sm K s s' := fun k j _ _ hp => h k 0 j hp
theorem x_sm_ne {K : List Nat} {s s' : LMem} (h : ∀ k j, ¬ (k = 33 ∧ j = 35) → gI s' k 0 j = gI s k 0 j) : x_sm K s s' := fun k j _ hn _ => h k j hn
theorem x_eq {K : List Nat} {s s' : LMem} {k j : Nat} (h : x_sm K s s') (hk : k ∈ K) (a b : Int) (hm : (a, b) ∈ y_P k) (h1 : a ≤ (j : Int)) (h2 : (j : Int) ≤ b) (hne : ¬ (k = 33 ∧ j = 35) := by omega) : xI s' k j = xI s k j := by
  unfold xI
  rw [h k j hk hne ⟨(a, b), hm, h1, h2⟩]
theorem x_nowk {k : Nat} (hk : k = 48 ∨ k = 49 ∨ k = 50) : ((160, 259) : Int × Int) ∈ y_P k ∧ ((272, 272) : Int × Int) ∈ y_P k ∧ ((277, 278) : Int × Int) ∈ y_P k := by
  rcases hk with rfl | rfl | rfl <;> decide
theorem x_row_cl {s s' : LMem} {k : Nat} (hk : k = 48 ∨ k = 49 ∨ k = 50) (h : x_sm [33, k] s s') (hx : x_row s k) : x_row s' k := by
  obtain ⟨m1, m2, m3⟩ := x_nowk hk
  have e1 : xI s' k 272 = xI s k 272 := x_eq h (by simp) 272 272 m2 (by decide) (by decide)
  have e2 : xI s' 33 13 = xI s 33 13 := x_eq h (by simp) 13 13 (by decide) (by decide) (by decide)
  have e3 : xI s' k 277 = xI s k 277 := x_eq h (by simp) 277 278 m3 (by decide) (by decide)
  have e4 : xI s' k 278 = xI s k 278 := x_eq h (by simp) 277 278 m3 (by decide) (by decide)
  refine ⟨fun r h1 h2 => ?_, fun q => ?_, fun q => ?_⟩
  · rw [e1] at h1
    rw [x_eq (j := 162 + 5 * r) h (by simp) 160 259 m1 (by omega) (by omega), x_eq (j := 163 + 5 * r) h (by simp) 160 259 m1 (by omega) (by omega)]
    exact hx.1 r h1 h2
  · rw [e2]
    rw [e1] at q
    exact hx.2.1 q
  · rw [e2, e3, e4]
    exact hx.2.2 q
theorem x_told_cl {s s' : LMem} (h : x_sm [33, 44, 45] s s') (hx : x_told s) : x_told s' := by
  intro d h1 h2
  rw [x_eq (k := 33) (j := 21) h (by decide) 21 22 (by decide) (by decide) (by decide)] at h1
  have e1 : xI s' 44 d = xI s 44 d := x_eq h (by decide) 0 4 (by decide) (by omega) (by omega)
  obtain ⟨g1, g2, g3⟩ := hx d h1 h2
  rw [e1]
  refine ⟨g1, g2, fun r h3 h4 => ?_⟩
  rw [x_eq (k := 45) (j := 100 * d + 5 * r + 2) h (by decide) 0 499 (by decide) (by omega) (by omega), x_eq (k := 45) (j := 100 * d + 5 * r + 3) h (by decide) 0 499 (by decide) (by omega) (by omega)]
  exact g3 r h3 h4
theorem x_run_cl {s s' : LMem} (h : x_sm [33, 35, 36, 38, 39, 40, 41] s s') {n : Nat} (hn : n < 7) : ∀ (m a k : Nat), a + m ≤ 260 → x_run s n m a k → x_run s' n m a k
  | 0, _, _, _, _ => trivial
  | m + 1, a, k, ha, hx => by
    have e1 : xI s' 35 (260 * n + a) = xI s 35 (260 * n + a) := x_eq h (by decide) 0 1819 (by decide) (by omega) (by omega)
    have e2 : xI s' 36 (260 * n + a) = xI s 36 (260 * n + a) := x_eq h (by decide) 0 1819 (by decide) (by omega) (by omega)
    unfold x_run at hx ⊢
    rw [e1, e2]
    rcases hx with ⟨h1, h2, h3⟩ | ⟨h1, h2, h3, h4⟩ | ⟨h1, h2, h3, h4⟩
    · exact Or.inl ⟨h1, h2, x_run_cl h hn m _ _ (by omega) h3⟩
    · exact Or.inr (Or.inl ⟨h1, h2, h3, x_run_cl h hn m _ _ (by omega) h4⟩)
    · exact Or.inr (Or.inr ⟨h1, h2, h3, x_run_cl h hn m _ _ (by omega) h4⟩)
theorem x_cl_cl {s s' : LMem} (h : x_sm [33, 35, 36, 38, 39, 40, 41] s s') {n c : Nat} (hn : n < 7) (hc : c < 60) (hx : x_cl s n c) : x_cl s' n c := by
  obtain ⟨a, b, e, g1, g2, g3, g4, g5, g6, g7, g8⟩ := hx
  refine ⟨a, b, e, ?_, ?_, ?_, g4, g5, g6, x_run_cl h hn _ _ _ (by omega) g7, x_run_cl h hn _ _ _ (by omega) g8⟩
  · rw [x_eq (k := 39) (j := 60 * n + c) h (by decide) 0 419 (by decide) (by omega) (by omega)]
    exact g1
  · rw [x_eq (k := 40) (j := 60 * n + c) h (by decide) 0 419 (by decide) (by omega) (by omega)]
    exact g2
  · rw [x_eq (k := 41) (j := 60 * n + c) h (by decide) 0 419 (by decide) (by omega) (by omega)]
    exact g3
theorem x_law_cl {s s' : LMem} (h : x_sm [33, 35, 36, 38, 39, 40, 41] s s') (hx : x_law s) : x_law s' := by
  intro n h1 h2
  rw [x_eq (k := 33) (j := 13) h (by decide) 13 13 (by decide) (by decide) (by decide)] at h1
  have e1 : xI s' 38 n = xI s 38 n := x_eq h (by decide) 0 6 (by decide) (by omega) (by omega)
  obtain ⟨g1, g2, g3⟩ := hx n h1 h2
  rw [e1]
  exact ⟨g1, g2, fun c h3 h4 => x_cl_cl h h2 h4 (g3 c h3 h4)⟩
theorem x_X_cl : y_cl x_X := by
  rintro s s' h ⟨h1, h2, h3, h4, h5, h6⟩
  have h9 : x_sm [33] s s' := x_sm_of h
  have h10 : xI s' 33 35 = xI s 33 35 := by unfold xI; rw [h 33 0 35 ⟨(35, 35), by decide, by decide, by decide⟩]
  refine ⟨x_law_cl (x_sm_of h) h1, x_told_cl (x_sm_of h) h2, x_row_cl (Or.inl rfl) (x_sm_of h) h3, x_row_cl (Or.inr (Or.inl rfl)) (x_sm_of h) h4, x_row_cl (Or.inr (Or.inr rfl)) (x_sm_of h) h5, fun q => ?_⟩
  rw [h10] at q
  rw [x_eq (k := 33) (j := 13) h9 (by decide) 13 13 (by decide) (by decide) (by decide)]
  exact h6 q
/-! arguments of contracts -/
theorem y_this {k : Nat} {i : Nat} {v : LV} (h : y_sv (.inr (.inr (k, (0, 0), ((i : Int), (i : Int))))) v) : v = lR k (some i) := by
  rcases v with v | v | ⟨k', o⟩
  · exact h.elim
  · exact h.elim
  · obtain ⟨h1, ⟨h2, ⟨h3, h4⟩, h5⟩ | ⟨j, h2, h3, h4, h5⟩⟩ := h
    · have h4 : (1 : Int) ≤ 0 := h4
      omega
    · have g1 : k = k' := h1
      have g2 : o = some j := h2
      have g4 : (i : Int) ≤ (j : Int) := h4
      have g5 : (j : Int) ≤ (i : Int) := h5
      have g6 : j = i := by omega
      rw [g2, g6, g1]
theorem y_aI {b : ZI} {v : LV} (h : y_sv (.inl b) v) : ∃ x : Int32, v = lI x ∧ b.1 ≤ x.toInt ∧ x.toInt ≤ b.2 := by
  rcases v with v | v | v
  · exact ⟨v, rfl, h⟩
  · exact h.elim
  · exact h.elim
theorem y_aL {v : LV} (h : y_sv (.inr (.inl ())) v) : ∃ x : Int64, v = lL x := by
  rcases v with v | v | v
  · exact h.elim
  · exact ⟨v, rfl⟩
  · exact h.elim
theorem y_as0 {As : List LV} (h : y_as [] As) : As = [] := by
  cases As with
  | nil => rfl
  | cons a l => exact h.elim
theorem y_as1 {a : YA} {l : List YA} {As : List LV} (h : y_as (a :: l) As) : ∃ v r, As = v :: r ∧ y_sv a v ∧ y_as l r := by
  cases As with
  | nil => exact h.elim
  | cons v r => exact ⟨v, r, rfl, h.1, h.2⟩
theorem y_msnil {s : LMem} : y_mss s [] := fun _ h => absurd h List.not_mem_nil
/-- a contract with one answer that speaks of nothing else -/
theorem y_post1 {s' : LMem} {a : Option YA} {r : Option LV} (h : y_ro a r) : ∃ q ∈ [(a, ([] : List YMS))], y_ro q.1 r ∧ y_mss s' q.2 := ⟨_, List.mem_cons_self, h, y_msnil⟩
/-- J behind a write: bounds, nothing of X -/
theorem y_J_w {s : LMem} {k i j : Nat} {x : Int32} (hJ : y_J x_X s) (h1 : ∀ r ∈ y_B k, r.1 ≤ (j : Int) → (j : Int) ≤ r.2.1 → r.2.2.1 ≤ x.toInt ∧ x.toInt ≤ r.2.2.2) (h2 : ¬ y_pr k j) : y_J x_X (sI s k i j x) := by
  refine ⟨y_JB_sI hJ.1 h1, hJ.2.1, x_X_cl s _ (fun k' i' j' hp => ?_) hJ.2.2⟩
  rw [gI_sI, if_neg (fun q => h2 (by obtain ⟨rfl, rfl, rfl⟩ := q; exact hp))]
