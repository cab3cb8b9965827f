/-! sum at every depth. -/
theorem h_sumG {l n : Nat} {s : LMem} (hn : n ≤ 6) (hn2 : xI s 33 13 ≤ (n : Int)) (hl : gI s 33 0 2 = nI l) (hl2 : l ≤ 200) : ∀ k g, g + k = 6 → ∀ d c p m (R : LPost), lx_P n l g c p s m → (∀ m', lx_Q n l g (2 * k + 1 + 1 + 1) c p s m m' → R none m') → qC false (d + 3 * k + 7) 215 [lR 33 (some 0)] m R := by
  intro k
  induction k with
  | zero =>
    intro g hg d c p m R hP hR
    have at_ : ∀ c p m (R : LPost), lx_P n l g c p s m → (∀ m', lx_Q n l g 1 c p s m m' → R none m') → qC false (d + 5) 213 [lR 33 (some 0)] m R := fun c p m R hP hR => h_atom (ro := 1) (ro2 := 0) (by decide) (by decide) hn hn2 (by omega) hl hl2 hP (fun q => absurd q (by omega)) hR
    have te : ∀ c p m (R : LPost), lx_P n l g c p s m → (∀ m', lx_Q n l g (1 + 1) c p s m m' → R none m') → qC false (d + 6) 214 [lR 33 (some 0)] m R := fun c p m R hP hR => h_term hn hn2 (by omega) (by decide) hl hl2 at_ hP hR
    exact h_sum hn hn2 (by omega) (by decide) hl hl2 te hP hR
  | succ k ih =>
    intro g hg d c p m R hP hR
    have hs : g < 6 → ∀ c p m (R : LPost), lx_P n l (g + 1) c p s m → (∀ m', lx_Q n l (g + 1) (2 * k + 1 + 1 + 1) c p s m m' → R none m') → qC false (d + 3 * k + 3 + 4) 215 [lR 33 (some 0)] m R := fun _ c p m R hP hR => ih (g + 1) (by omega) d c p m R hP hR
    have at_ : ∀ c p m (R : LPost), lx_P n l g c p s m → (∀ m', lx_Q n l g (2 * (k + 1) + 1) c p s m m' → R none m') → qC false (d + 3 * k + 3 + 5) 213 [lR 33 (some 0)] m R := fun c p m R hP hR => h_atom (ro := 2 * (k + 1) + 1) (ro2 := 2 * k + 1 + 1 + 1) (by omega) (by omega) hn hn2 (by omega) hl hl2 hP hs hR
    have te : ∀ c p m (R : LPost), lx_P n l g c p s m → (∀ m', lx_Q n l g (2 * (k + 1) + 1 + 1) c p s m m' → R none m') → qC false (d + 3 * k + 3 + 6) 214 [lR 33 (some 0)] m R := fun c p m R hP hR => h_term hn hn2 (by omega) (by omega) hl hl2 at_ hP hR
    have e : d + 3 * (k + 1) + 7 = d + 3 * k + 3 + 6 + 1 := by omega
    rw [e]
    exact h_sum hn hn2 (by omega) (by omega) hl hl2 te hP hR
