/-! BOUNDS are kept by each phase of a day. -/
section GI
variable {B M K : Int} {n : Nat} {X : Nat → Nat → Int32} {tide rain silt summer : Int32} {cs : List Cz} {D : Int64}
theorem stG_e {X Y : Nat → Nat → Int32} {r : Nat} (h : ∀ f, tfl f → Y f r = X f r) (g : stG X r) : stG Y r := by
  unfold stG at g ⊢
  rw [h 1 (Or.inl (by decide)), h 2 (Or.inl (by decide)), h 3 (Or.inl (by decide)), h 4 (Or.inl (by decide)), h 13 (Or.inr (Or.inl rfl)), h 14 (Or.inr (Or.inr rfl))]
  exact g
theorem Gd_p1 (G : Gd B M K n X) (hB : B ≤ 60000) (hM : M ≤ 9000) (hn : n ≤ 20) (hr : 0 ≤ rain.toInt ∧ rain.toInt ≤ 99) (hs : 0 ≤ silt.toInt ∧ silt.toInt ≤ 9) : Gd (B + 1980) (M + 180) K n (p1F rain silt X) := by
  have e6 : ∀ r, r < n → (p1F rain silt X 6 r).toInt = (X 6 r).toInt + rain.toInt := fun r hr2 => by
    have w := Gd_w G hr2
    have a6 := (G.1 r hr2).2.1
    show (X 6 r + rain).toInt = _
    exact y_addI (by omega) (by omega)
  have e9 : ∀ r, r < n → (X 9 r).toInt ≤ (p1F rain silt X 9 r).toInt ∧ (p1F rain silt X 9 r).toInt ≤ (X 9 r).toInt + 9 := fun r hr2 => by
    have m := Gd_m G hr2
    have a7 := (G.1 r hr2).2.2.1
    have a9 := (G.1 r hr2).2.2.2.1
    show (X 9 r).toInt ≤ (X 9 r + (if 0 < rain ∧ X 14 r = 0 then silt else 0)).toInt ∧ (X 9 r + (if 0 < rain ∧ X 14 r = 0 then silt else 0)).toInt ≤ (X 9 r).toInt + 9
    by_cases c : 0 < rain ∧ X 14 r = 0
    · rw [if_pos c, y_addI (by omega) (by omega)]
      omega
    · rw [if_neg c, Int32.add_zero]
      omega
  have o : ∀ f r, f ≠ 6 → f ≠ 9 → p1F rain silt X f r = X f r := fun f r a b => p1_o a b
  refine ⟨fun r hr2 => ?_, ?_, ?_⟩
  · obtain ⟨s, a6, a7, a9, a8, a11⟩ := G.1 r hr2
    have f6 := e6 r hr2
    have f9 := e9 r hr2
    refine ⟨stG_e (fun f hf => o f r (by unfold tfl at hf; omega) (by unfold tfl at hf; omega)) s, by omega, ?_, by omega, ?_, ?_⟩
    · rw [o 7 r (by decide) (by decide)]
      exact a7
    · rw [o 8 r (by decide) (by decide)]
      exact a8
    · rw [o 11 r (by decide) (by decide)]
      exact a11
  · have a := sm_up (n := n) (g := fun r => (p1F rain silt X 6 r).toInt) (h := fun r => (X 6 r).toInt) (c := 99) (Or.inl rfl) (fun r hr2 => by
      have f6 := e6 r hr2
      show (p1F rain silt X 6 r).toInt ≤ (X 6 r).toInt + 99
      omega) n (Nat.le_refl _)
    have b := G.2.1
    omega
  · have a := sm_up (n := n) (g := fun r => (p1F rain silt X 7 r).toInt + (p1F rain silt X 9 r).toInt) (h := fun r => (X 7 r).toInt + (X 9 r).toInt) (c := 9) (Or.inr (Or.inl rfl)) (fun r hr2 => by
      have f9 := e9 r hr2
      show (p1F rain silt X 7 r).toInt + (p1F rain silt X 9 r).toInt ≤ (X 7 r).toInt + (X 9 r).toInt + 9
      rw [o 7 r (by decide) (by decide)]
      omega) n (Nat.le_refl _)
    have b := G.2.2
    omega
/-- flows are set: nothing but field 10 -/
theorem Gd_p2 (G : Gd B M K n X) : Gd B M K n (p2F tide n cs rain X) := by
  have o : ∀ f r, f ≠ 10 → p2F tide n cs rain X f r = X f r := fun f r a => p2_o a
  refine ⟨fun r hr2 => ?_, ?_, ?_⟩
  · obtain ⟨s, a⟩ := G.1 r hr2
    refine ⟨stG_e (fun f hf => o f r (by unfold tfl at hf; omega)) s, ?_⟩
    rw [o 6 r (by decide), o 7 r (by decide), o 8 r (by decide), o 9 r (by decide), o 11 r (by decide)]
    exact a
  · rw [sm_cg (n := n) (h := fun r => (X 6 r).toInt) (fun r _ => by
      show (p2F tide n cs rain X 6 r).toInt = _
      rw [o 6 r (by decide)]) n (Nat.le_refl _)]
    exact G.2.1
  · rw [sm_cg (n := n) (h := fun r => (X 7 r).toInt + (X 9 r).toInt) (fun r _ => by
      show (p2F tide n cs rain X 7 r).toInt + (p2F tide n cs rain X 9 r).toInt = _
      rw [o 7 r (by decide), o 9 r (by decide)]) n (Nat.le_refl _)]
    exact G.2.2
/-- flows are within the water -/
def flG (n : Nat) (X : Nat → Nat → Int32) : Prop := ∀ r, r < n → 0 ≤ (X 10 r).toInt ∧ (X 10 r).toInt ≤ (X 6 r).toInt
theorem flG_p2 (G : Gd B M K n X) : flG n (p2F tide n cs rain X) := fun r hr => by
  rw [p2_o (f := 6) (by decide)]
  exact fl_b (fun q hq => (G.1 q hq).2.1) hr
theorem Gd_p3 (G : Gd B M K n X) (F : flG n X) (hB : B ≤ 60000) : Gd B M K n (p3F X) := by
  have o : ∀ f r, f ≠ 6 → p3F X f r = X f r := fun f r a => p3_o a
  have e6 : ∀ r, r < n → (p3F X 6 r).toInt = (X 6 r).toInt + ((if 0 < r then (X 10 (r - 1)).toInt else 0) - (X 10 r).toInt) := fun r hr => by
    have w := Gd_w G hr
    have f := F r hr
    show (X 6 r + ((if 0 < r then X 10 (r - 1) else 0) - X 10 r)).toInt = _
    by_cases c : 0 < r
    · have w2 := Gd_w G (show r - 1 < n by omega)
      have f2 := F (r - 1) (by omega)
      have s : (X 10 (r - 1) - X 10 r).toInt = (X 10 (r - 1)).toInt - (X 10 r).toInt := y_subI (by omega) (by omega)
      rw [if_pos c, if_pos c, y_addI (by rw [s]; omega) (by rw [s]; omega), s]
    · have z0 : (0 : Int32).toInt = 0 := by decide
      have s : (0 - X 10 r).toInt = 0 - (X 10 r).toInt := by
        rw [y_subI (by rw [z0]; omega) (by rw [z0]; omega), z0]
      rw [if_neg c, if_neg c, y_addI (by rw [s]; omega) (by rw [s]; omega), s]
  have in0 : ∀ r, r < n → 0 ≤ (if 0 < r then (X 10 (r - 1)).toInt else 0) := fun r hr => by
    by_cases c : 0 < r
    · rw [if_pos c]
      exact (F (r - 1) (by omega)).1
    · rw [if_neg c]
      exact Int.le_refl _
  refine ⟨fun r hr => ?_, ?_, ?_⟩
  · obtain ⟨s, a6, a⟩ := G.1 r hr
    have f := F r hr
    have i := in0 r hr
    have e := e6 r hr
    refine ⟨stG_e (fun f hf => o f r (by unfold tfl at hf; omega)) s, ?_, ?_⟩
    · rw [e]
      generalize (if 0 < r then (X 10 (r - 1)).toInt else 0) = z at i
      omega
    · rw [o 7 r (by decide), o 8 r (by decide), o 9 r (by decide), o 11 r (by decide)]
      exact a
  · have a := sm_go (n := n) (w := fun r => (X 6 r).toInt) (w' := fun r => (p3F X 6 r).toInt) (g := fun r => (X 10 r).toInt) e6 n (Nat.le_refl _)
    have b := G.2.1
    have c : 0 ≤ (if 0 < n then (X 10 (n - 1)).toInt else 0) := by
      by_cases c : 0 < n
      · rw [if_pos c]
        exact (F (n - 1) (by omega)).1
      · rw [if_neg c]
        exact Int.le_refl _
    have a : smI (fun r => (p3F X 6 r).toInt) n = smI (fun r => (X 6 r).toInt) n - (if 0 < n then (X 10 (n - 1)).toInt else 0) := a
    rw [a]
    generalize (if 0 < n then (X 10 (n - 1)).toInt else 0) = z at c
    omega
  · rw [sm_cg (n := n) (h := fun r => (X 7 r).toInt + (X 9 r).toInt) (fun r _ => by
      show (p3F X 7 r).toInt + (p3F X 9 r).toInt = _
      rw [o 7 r (by decide), o 9 r (by decide)]) n (Nat.le_refl _)]
    exact G.2.2
/-- what becomes of mud and load in a row -/
theorem p4_r (G : Gd B M K n X) (hM : M ≤ 9000) {r : Nat} (hr : r < n) : 0 ≤ (goF X r).toInt ∧ 0 ≤ (p4F X 7 r).toInt ∧ (p4F X 7 r).toInt = (X 7 r).toInt + (X 9 r).toInt - (goF X r).toInt := by
  have m := Gd_m G hr
  obtain ⟨_, _, a7, a9, _⟩ := G.1 r hr
  have z0 : (0 : Int32).toInt = 0 := by decide
  have z1 : (1 : Int32).toInt = 1 := by decide
  show 0 ≤ (goF X r).toInt ∧ 0 ≤ (if X 10 r < slF (X 1 r) then X 7 r + X 9 r else if fsF (X 1 r) < X 10 r ∧ 0 < X 7 r then X 7 r - 1 else X 7 r).toInt ∧ (if X 10 r < slF (X 1 r) then X 7 r + X 9 r else if fsF (X 1 r) < X 10 r ∧ 0 < X 7 r then X 7 r - 1 else X 7 r).toInt = (X 7 r).toInt + (X 9 r).toInt - (goF X r).toInt
  unfold goF
  by_cases c : X 10 r < slF (X 1 r)
  · rw [if_pos c, if_pos c, y_addI (by omega) (by omega), z0]
    omega
  rw [if_neg c, if_neg c]
  by_cases c2 : fsF (X 1 r) < X 10 r ∧ 0 < X 7 r
  · have k := i0_lt.mp c2.2
    rw [if_pos c2, if_pos c2, y_addI (by rw [z1]; omega) (by rw [z1]; omega), y_subI (by rw [z1]; omega) (by rw [z1]; omega), z1]
    omega
  · rw [if_neg c2, if_neg c2]
    omega
theorem Gd_p4 (G : Gd B M K n X) (hM : M ≤ 9000) : Gd B M K n (p4F X) := by
  have o : ∀ f r, f ≠ 7 → f ≠ 9 → p4F X f r = X f r := fun f r a b => p4_o a b
  have z0 : (0 : Int32).toInt = 0 := by decide
  have e9 : ∀ r, (p4F X 9 r).toInt = (if 0 < r then (goF X (r - 1)).toInt else 0) := fun r => by
    show (if 0 < r then goF X (r - 1) else 0).toInt = _
    by_cases c : 0 < r
    · rw [if_pos c, if_pos c]
    · rw [if_neg c, if_neg c, z0]
  have n9 : ∀ r, r < n → 0 ≤ (p4F X 9 r).toInt := fun r hr => by
    rw [e9]
    by_cases c : 0 < r
    · rw [if_pos c]
      exact (p4_r G hM (show r - 1 < n by omega)).1
    · rw [if_neg c]
      exact Int.le_refl _
  refine ⟨fun r hr => ?_, ?_, ?_⟩
  · obtain ⟨s, a6, a7, a9, a⟩ := G.1 r hr
    refine ⟨stG_e (fun f hf => o f r (by unfold tfl at hf; omega) (by unfold tfl at hf; omega)) s, ?_, (p4_r G hM hr).2.1, n9 r hr, ?_⟩
    · rw [o 6 r (by decide) (by decide)]
      exact a6
    · rw [o 8 r (by decide) (by decide), o 11 r (by decide) (by decide)]
      exact a
  · rw [sm_cg (n := n) (h := fun r => (X 6 r).toInt) (fun r _ => by
      show (p4F X 6 r).toInt = _
      rw [o 6 r (by decide) (by decide)]) n (Nat.le_refl _)]
    exact G.2.1
  · have a := sm_go (n := n) (w := fun r => (X 7 r).toInt + (X 9 r).toInt) (w' := fun r => (p4F X 7 r).toInt + (p4F X 9 r).toInt) (g := fun r => (goF X r).toInt) (fun r hr => by
      show (p4F X 7 r).toInt + (p4F X 9 r).toInt = (X 7 r).toInt + (X 9 r).toInt + ((if 0 < r then (goF X (r - 1)).toInt else 0) - (goF X r).toInt)
      rw [e9, (p4_r G hM hr).2.2]
      generalize (if 0 < r then (goF X (r - 1)).toInt else 0) = z
      omega) n (Nat.le_refl _)
    have b := G.2.2
    have c : 0 ≤ (if 0 < n then (goF X (n - 1)).toInt else 0) := by
      by_cases c : 0 < n
      · rw [if_pos c]
        exact (p4_r G hM (show n - 1 < n by omega)).1
      · rw [if_neg c]
        exact Int.le_refl _
    have a : smI (fun r => (p4F X 7 r).toInt + (p4F X 9 r).toInt) n = smI (fun r => (X 7 r).toInt + (X 9 r).toInt) n - (if 0 < n then (goF X (n - 1)).toInt else 0) := a
    rw [a]
    generalize (if 0 < n then (goF X (n - 1)).toInt else 0) = z at c
    omega
theorem Gd_p5 (G : Gd B M K n X) (hM : M ≤ 9000) (hK : K ≤ 30) (hn : n ≤ 20) : Gd B (M + 100) (K + 1) n (p5F tide n cs rain D X) := by
  have o : ∀ f r, f ≠ 7 → f ≠ 11 → p5F tide n cs rain D X f r = X f r := fun f r a b => p5_o a b
  have z5 : (5 : Int32).toInt = 5 := by decide
  have z1 : (1 : Int32).toInt = 1 := by decide
  have e7 : ∀ r, r < n → (X 7 r).toInt ≤ (p5F tide n cs rain D X 7 r).toInt ∧ (p5F tide n cs rain D X 7 r).toInt ≤ (X 7 r).toInt + 5 := fun r hr => by
    have m := Gd_m G hr
    obtain ⟨_, _, a7, a9, _⟩ := G.1 r hr
    show (X 7 r).toInt ≤ (if _ then X 7 r + 5 else X 7 r).toInt ∧ (if _ then X 7 r + 5 else X 7 r).toInt ≤ (X 7 r).toInt + 5
    split
    · rw [y_addI (by rw [z5]; omega) (by rw [z5]; omega), z5]
      omega
    · omega
  have e11 : ∀ r, r < n → (X 11 r).toInt ≤ (p5F tide n cs rain D X 11 r).toInt ∧ (p5F tide n cs rain D X 11 r).toInt ≤ (X 11 r).toInt + 1 := fun r hr => by
    obtain ⟨_, _, _, _, _, a11⟩ := G.1 r hr
    show (X 11 r).toInt ≤ (if _ then X 11 r + 1 else X 11 r).toInt ∧ (if _ then X 11 r + 1 else X 11 r).toInt ≤ (X 11 r).toInt + 1
    split
    · rw [y_addI (by rw [z1]; omega) (by rw [z1]; omega), z1]
      omega
    · omega
  refine ⟨fun r hr => ?_, ?_, ?_⟩
  · obtain ⟨s, a6, a7, a9, a8, a11⟩ := G.1 r hr
    have f7 := e7 r hr
    have f11 := e11 r hr
    refine ⟨stG_e (fun f hf => o f r (by unfold tfl at hf; omega) (by unfold tfl at hf; omega)) s, ?_, by omega, ?_, ?_, by omega, by omega⟩
    · rw [o 6 r (by decide) (by decide)]
      exact a6
    · rw [o 9 r (by decide) (by decide)]
      exact a9
    · rw [o 8 r (by decide) (by decide)]
      exact a8
  · rw [sm_cg (n := n) (h := fun r => (X 6 r).toInt) (fun r _ => by
      show (p5F tide n cs rain D X 6 r).toInt = _
      rw [o 6 r (by decide) (by decide)]) n (Nat.le_refl _)]
    exact G.2.1
  · have a := sm_up (n := n) (g := fun r => (p5F tide n cs rain D X 7 r).toInt + (p5F tide n cs rain D X 9 r).toInt) (h := fun r => (X 7 r).toInt + (X 9 r).toInt) (c := 5) (Or.inr (Or.inr rfl)) (fun r hr => by
      have f7 := e7 r hr
      show (p5F tide n cs rain D X 7 r).toInt + (p5F tide n cs rain D X 9 r).toInt ≤ (X 7 r).toInt + (X 9 r).toInt + 5
      rw [o 9 r (by decide) (by decide)]
      omega) n (Nat.le_refl _)
    have b := G.2.2
    omega
theorem Gd_le {B' M' K' : Int} (G : Gd B M K n X) (h1 : B ≤ B') (h2 : M ≤ M') (h3 : K ≤ K') : Gd B' M' K' n X := ⟨fun r hr => by
  obtain ⟨s, a6, a7, a9, a8, a11, b11⟩ := G.1 r hr
  exact ⟨s, a6, a7, a9, a8, a11, Int.le_trans b11 h3⟩, Int.le_trans G.2.1 h1, Int.le_trans G.2.2 h2⟩
theorem Gd_p6 (G : Gd B M K n X) : Gd B M K n (p6F summer X) := by
  have o : ∀ f r, f ≠ 8 → p6F summer X f r = X f r := fun f r a => p6_o a
  have z1 : (1 : Int32).toInt = 1 := by decide
  have z99 : (99 : Int32).toInt = 99 := by decide
  refine ⟨fun r hr => ?_, ?_, ?_⟩
  · obtain ⟨s, a6, a7, a9, a8, a11⟩ := G.1 r hr
    refine ⟨stG_e (fun f hf => o f r (by unfold tfl at hf; omega)) s, ?_, ?_, ?_, ?_, ?_⟩
    · rw [o 6 r (by decide)]
      exact a6
    · rw [o 7 r (by decide)]
      exact a7
    · rw [o 9 r (by decide)]
      exact a9
    · show 0 ≤ (if summer = 0 then X 8 r else qa_min 99 (X 8 r + 1)).toInt ∧ (if summer = 0 then X 8 r else qa_min 99 (X 8 r + 1)).toInt ≤ 99
      by_cases c : summer = 0
      · rw [if_pos c]
        exact a8
      · rw [if_neg c]
        have b := mn_b 99 (X 8 r + 1)
        have e : (X 8 r + 1).toInt = (X 8 r).toInt + 1 := by
          rw [y_addI (by rw [z1]; omega) (by rw [z1]; omega), z1]
        rcases b.2.2 with q | q
        · rw [q, z99]
          decide
        · refine ⟨?_, ?_⟩
          · rw [q, e]
            omega
          · have := b.1
            rw [z99] at this
            exact this
    · rw [o 11 r (by decide)]
      exact a11
  · rw [sm_cg (n := n) (h := fun r => (X 6 r).toInt) (fun r _ => by
      show (p6F summer X 6 r).toInt = _
      rw [o 6 r (by decide)]) n (Nat.le_refl _)]
    exact G.2.1
  · rw [sm_cg (n := n) (h := fun r => (X 7 r).toInt + (X 9 r).toInt) (fun r _ => by
      show (p6F summer X 7 r).toInt + (p6F summer X 9 r).toInt = _
      rw [o 7 r (by decide), o 9 r (by decide)]) n (Nat.le_refl _)]
    exact G.2.2
theorem Gd_p7 (G : Gd B M K n X) : Gd B M K n (p7F X) := by
  have o : ∀ f r, f ≠ 12 → p7F X f r = X f r := fun f r a => p7_o a
  refine ⟨fun r hr => ?_, ?_, ?_⟩
  · obtain ⟨s, a⟩ := G.1 r hr
    refine ⟨stG_e (fun f hf => o f r (by unfold tfl at hf; omega)) s, ?_⟩
    rw [o 6 r (by decide), o 7 r (by decide), o 8 r (by decide), o 9 r (by decide), o 11 r (by decide)]
    exact a
  · rw [sm_cg (n := n) (h := fun r => (X 6 r).toInt) (fun r _ => by
      show (p7F X 6 r).toInt = _
      rw [o 6 r (by decide)]) n (Nat.le_refl _)]
    exact G.2.1
  · rw [sm_cg (n := n) (h := fun r => (X 7 r).toInt + (X 9 r).toInt) (fun r _ => by
      show (p7F X 7 r).toInt + (p7F X 9 r).toInt = _
      rw [o 7 r (by decide), o 9 r (by decide)]) n (Nat.le_refl _)]
    exact G.2.2
end GI
/-! The same for days. -/
/-- an environment within bounds -/
def evG (e : EV) : Prop := (0 ≤ e.1.toInt ∧ e.1.toInt ≤ 99) ∧ (0 ≤ e.2.1.toInt ∧ e.2.1.toInt ≤ 9) ∧ (e.2.2.1 = 0 ∨ e.2.2.1 = 1) ∧ 1 ≤ e.2.2.2.1 ∧ e.2.2.2.1 ≤ 20
section GE
variable {B M K : Int} {e : EV} {rain : Int32}
theorem Gd_rd {S : (Nat → Nat → Int32) × Int32} (G : Gd B M K e.2.2.2.1 S.1) (hB : B ≤ 60000) (hM : M ≤ 9000) : Gd B M K e.2.2.2.1 (rdF e rain S).1 := Gd_p4 (Gd_p3 (Gd_p2 G) (flG_p2 G) hB) hM
theorem Gd_rdN (hB : B ≤ 60000) (hM : M ≤ 9000) : ∀ j S, Gd B M K e.2.2.2.1 S.1 → Gd B M K e.2.2.2.1 (rdN e rain j S).1
  | 0, _, G => G
  | j + 1, _, G => Gd_rdN hB hM j _ (Gd_rd G hB hM)
theorem Gd_slo {n : Nat} {tide : Int32} {X : Nat → Nat → Int32} {D : Int64} (G : Gd B M K n X) (hM : M ≤ 9000) (hK : K ≤ 30) (hn : n ≤ 20) : ∀ so, Gd B (M + 100) (K + 1) n (slo tide n rain D X so)
  | none => Gd_le G (by omega) (by omega) (by omega)
  | some _ => Gd_p5 G hM hK hn
/-- a day's bounds -/
theorem Gd_day {P : PS} (E : evG e) (hr : 0 ≤ rain.toInt ∧ rain.toInt ≤ 99) (G : Gd B M K e.2.2.2.1 P.1) (hB : B ≤ 58000) (hM : M ≤ 8800) (hK : K ≤ 30) : Gd (B + 1980) (M + 180 + 100) (K + 1) e.2.2.2.1 (dyF e rain P).1 := by
  obtain ⟨_, es, _, _, en⟩ := E
  have g1 : Gd (B + 1980) (M + 180) K e.2.2.2.1 (p1F rain e.2.1 P.1) := Gd_p1 G (by omega) (by omega) en hr es
  have g2 : Gd (B + 1980) (M + 180) K e.2.2.2.1 (dyA e rain P).1 := Gd_rdN (by omega) (by omega) 4 _ g1
  exact Gd_p7 (Gd_p6 (Gd_slo g2 (by omega) hK en _))
theorem Gd_days {nd : Nat} {w : Nat → Int32} {P : PS} (E : evG e) (hw : ∀ k, k < nd → 0 ≤ (w k).toInt ∧ (w k).toInt ≤ 99) (G : Gd 0 0 0 e.2.2.2.1 P.1) : ∀ k : Nat, k ≤ 29 → k ≤ nd → Gd ((k : Int) * 1980) ((k : Int) * 280) (k : Int) e.2.2.2.1 (rnD e w P k).1
  | 0, _, _ => G
  | k + 1, hk, hn => by
    have i := Gd_days E hw G k (by omega) (by omega)
    have j := Gd_day (rain := w k) E (hw k (by omega)) i (by omega) (by omega) (by omega)
    exact Gd_le j (by omega) (by omega) (by omega)
theorem Gd_all {nd : Nat} {w : Nat → Int32} {P : PS} (E : evG e) (hw : ∀ k, k < nd → 0 ≤ (w k).toInt ∧ (w k).toInt ≤ 99) (G : Gd 0 0 0 e.2.2.2.1 P.1) (hn : nd ≤ 30) : Gd 60000 9000 31 e.2.2.2.1 (rnD e w P nd).1 := by
  cases nd with
  | zero => exact Gd_le G (by decide) (by decide) (by decide)
  | succ k =>
    have i := Gd_days E hw G k (by omega) (by omega)
    have j := Gd_day (rain := w k) E (hw k (by omega)) i (by omega) (by omega) (by omega)
    exact Gd_le j (by omega) (by omega) (by omega)
end GE
