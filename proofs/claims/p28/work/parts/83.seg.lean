/-! SEGMENTS of codes: from one height of the stack to another. -/
def x_rn (s : LMem) (n : Nat) : Nat → Nat → Nat → Nat → Prop
  | 0, _, h, h' => h = h'
  | m + 1, a, h, h' => ((xI s 35 (260 * n + a) = 0 ∨ (xI s 35 (260 * n + a) = 1 ∧ 0 ≤ xI s 36 (260 * n + a) ∧ xI s 36 (260 * n + a) < 8)) ∧ h < 80 ∧ x_rn s n m (a + 1) (h + 1) h')
    ∨ (xI s 35 (260 * n + a) = 9 ∧ 1 ≤ h ∧ h ≤ 80 ∧ x_rn s n m (a + 1) h h')
    ∨ ((2 ≤ xI s 35 (260 * n + a) ∧ xI s 35 (260 * n + a) ≠ 9) ∧ 2 ≤ h ∧ h ≤ 80 ∧ x_rn s n m (a + 1) (h - 1) h')
theorem x_rn_run {s : LMem} {n : Nat} : ∀ (m a h h' : Nat), x_rn s n m a h h' → x_run s n m a h
  | 0, _, _, _, _ => trivial
  | m + 1, a, h, h', hx => by
    unfold x_rn at hx
    unfold x_run
    rcases hx with ⟨h1, h2, h3⟩ | ⟨h1, h2, h3, h4⟩ | ⟨h1, h2, h3, h4⟩
    · exact Or.inl ⟨h1, h2, x_rn_run m _ _ _ h3⟩
    · exact Or.inr (Or.inl ⟨h1, h2, h3, x_rn_run m _ _ _ h4⟩)
    · exact Or.inr (Or.inr ⟨h1, h2, h3, x_rn_run m _ _ _ h4⟩)
theorem x_rn_app {s : LMem} {n : Nat} : ∀ (m m2 a h h' h2 : Nat), x_rn s n m a h h' → x_rn s n m2 (a + m) h' h2 → x_rn s n (m + m2) a h h2
  | 0, m2, a, h, h', h2, hx, hy => by
    have hx : h = h' := hx
    subst hx
    rw [Nat.zero_add]
    exact hy
  | m + 1, m2, a, h, h', h2, hx, hy => by
    rw [show m + 1 + m2 = (m + m2) + 1 by omega]
    rw [show a + (m + 1) = a + 1 + m by omega] at hy
    unfold x_rn at hx ⊢
    rcases hx with ⟨g1, g2, g3⟩ | ⟨g1, g2, g3, g4⟩ | ⟨g1, g2, g3, g4⟩
    · exact Or.inl ⟨g1, g2, x_rn_app m m2 _ _ _ _ g3 hy⟩
    · exact Or.inr (Or.inl ⟨g1, g2, g3, x_rn_app m m2 _ _ _ _ g4 hy⟩)
    · exact Or.inr (Or.inr ⟨g1, g2, g3, x_rn_app m m2 _ _ _ _ g4 hy⟩)
theorem x_rn_same {s s' : LMem} {n : Nat} : ∀ (m a h h' : Nat), (∀ j, a ≤ j → j < a + m → xI s' 35 (260 * n + j) = xI s 35 (260 * n + j) ∧ xI s' 36 (260 * n + j) = xI s 36 (260 * n + j)) → x_rn s n m a h h' → x_rn s' n m a h h'
  | 0, _, _, _, _, hx => hx
  | m + 1, a, h, h', he, hx => by
    obtain ⟨e1, e2⟩ := he a (Nat.le_refl _) (by omega)
    have he2 : ∀ j, a + 1 ≤ j → j < a + 1 + m → xI s' 35 (260 * n + j) = xI s 35 (260 * n + j) ∧ xI s' 36 (260 * n + j) = xI s 36 (260 * n + j) := fun j g1 g2 => he j (by omega) (by omega)
    unfold x_rn at hx ⊢
    rw [e1, e2]
    rcases hx with ⟨g1, g2, g3⟩ | ⟨g1, g2, g3, g4⟩ | ⟨g1, g2, g3, g4⟩
    · exact Or.inl ⟨g1, g2, x_rn_same m _ _ _ he2 g3⟩
    · exact Or.inr (Or.inl ⟨g1, g2, g3, x_rn_same m _ _ _ he2 g4⟩)
    · exact Or.inr (Or.inr ⟨g1, g2, g3, x_rn_same m _ _ _ he2 g4⟩)
/-- a put keeps the segments before it -/
theorem x_rn_put {m m' : LMem} {n c a k h h' : Nat} {x y : Int32} (hp : lr_P n c x y m m') (hk : a + k ≤ c) (hx : x_rn m n k a h h') : x_rn m' n k a h h' :=
  x_rn_same k a h h' (fun j g1 g2 => ⟨by unfold xI; rw [hp.1 35 0 _ (fun q => by omega)], by unfold xI; rw [hp.1 36 0 _ (fun q => by omega)]⟩) hx
/-- a put of a number, of a letter -/
theorem x_rn_num {m m' : LMem} {n c h : Nat} {y : Int32} (hp : lr_P n c 0 y m m') (hh : h < 80) : x_rn m' n 1 c h (h + 1) := by
  unfold x_rn
  refine Or.inl ⟨Or.inl ?_, hh, rfl⟩
  unfold xI
  rw [hp.2.1]
  decide
theorem x_rn_let {m m' : LMem} {n c h k : Nat} (hp : lr_P n c 1 (nI k) m m') (hk : k < 8) (hh : h < 80) : x_rn m' n 1 c h (h + 1) := by
  unfold x_rn
  refine Or.inl ⟨Or.inr ⟨?_, ?_, ?_⟩, hh, rfl⟩
  · unfold xI
    rw [hp.2.1]
    decide
  · unfold xI
    rw [hp.2.2, nI_toInt (by omega)]
    omega
  · unfold xI
    rw [hp.2.2, nI_toInt (by omega)]
    omega
/-- a put of NOT -/
theorem x_rn_not {m m' : LMem} {n c h : Nat} {y : Int32} (hp : lr_P n c 9 y m m') (hh1 : 1 ≤ h) (hh : h ≤ 80) : x_rn m' n 1 c h h := by
  unfold x_rn
  refine Or.inr (Or.inl ⟨?_, hh1, hh, rfl⟩)
  unfold xI
  rw [hp.2.1]
  decide
/-- a put of a sign between two -/
theorem x_rn_bin {m m' : LMem} {n c h : Nat} {x y : Int32} (hp : lr_P n c x y m m') (hx : 2 ≤ x.toInt) (hx9 : x ≠ 9) (hh : h + 2 ≤ 80) : x_rn m' n 1 c (h + 2) (h + 1) := by
  unfold x_rn
  refine Or.inr (Or.inr ⟨⟨?_, ?_⟩, by omega, hh, rfl⟩)
  · unfold xI
    rw [hp.2.1]
    exact hx
  · unfold xI
    rw [hp.2.1]
    intro q
    refine hx9 (Int32.toInt_inj.mp ?_)
    rw [q]
    decide
