/-! A DAY, phase by phase: the class. -/
/-- the next of row k of a chain of n -/
def nxR (dg n k : Nat) : Option Nat := if k < n then some (20 * dg + k) else none
/-- n rows in a chain -/
def chR (dg n : Nat) (m : LMem) : Prop := gR m 17 dg 4 = nxR dg n 0 ∧ ∀ r, r < n → gR m 21 (20 * dg + r) 0 = nxR dg n (r + 1)
/-- kept: all but some fields of the rows -/
def k21 (fs : List Nat) (dg : Nat) (s m : LMem) : Prop := (∀ k i j, ¬ (k = 21 ∧ (20 * dg ≤ i ∧ i < 20 * dg + 20) ∧ j ∈ fs) → gI m k i j = gI s k i j) ∧ (∀ k i j, gL m k i j = gL s k i j) ∧ ∀ k i j, gR m k i j = gR s k i j
theorem k21_0 {fs : List Nat} {dg : Nat} {s : LMem} : k21 fs dg s s := ⟨fun _ _ _ _ => rfl, fun _ _ _ => rfl, fun _ _ _ => rfl⟩
theorem k21_s {fs : List Nat} {dg r f : Nat} {v : Int32} {s m : LMem} (hr : r < 20) (hf : f ∈ fs) (h : k21 fs dg s m) : k21 fs dg s (sI m 21 (20 * dg + r) f v) := by
  refine ⟨fun k i j g => ?_, h.2.1, h.2.2⟩
  rw [gI_sI, if_neg (fun q => g ⟨q.1, by omega, by rw [q.2.2]; exact hf⟩)]
  exact h.1 k i j g
theorem chR_k {fs : List Nat} {dg d2 n : Nat} {s m : LMem} (h : k21 fs d2 s m) (c : chR dg n s) : chR dg n m := ⟨by rw [h.2.2]; exact c.1, fun r hr => by rw [h.2.2]; exact c.2 r hr⟩
/-- what a row holds, by field and number -/
abbrev vX (dg : Nat) (m : LMem) (f r : Nat) : Int32 := gI m 21 (20 * dg + r) f
def p1F (rain silt : Int32) (X : Nat → Nat → Int32) (f r : Nat) : Int32 := if f = 6 then X 6 r + rain else if f = 9 then X 9 r + (if 0 < rain ∧ X 14 r = 0 then silt else 0) else X f r
section DY
variable {d dg n : Nat} {s : LMem} {Q : LPost}
/-- rows before k are as F says, the others as they were -/
def rwI (F : (Nat → Nat → Int32) → Nat → Nat → Int32) (dg n k : Nat) (s m : LMem) : Prop := ∀ f r, r < n → vX dg m f r = if r < k then F (vX dg s) f r else vX dg s f r
theorem tr_l {bc bs : Nat} {rain : Int32} (hn : n ≤ 20) (C : chR dg n s) (h : ∀ m, k21 [6, 9] dg s m → (∀ f r, r < n → vX dg m f r = p1F rain (gI s 16 0 1) (vX dg s) f r) → Q none m) : ∀ j k m, k + j = n → k21 [6, 9] dg s m → rwI (p1F rain (gI s 16 0 1)) dg n k s m → qW false d 23 bc bs 5 [some (lR 17 (some dg)), some (lI rain), some (lR 21 (nxR dg n k))] [] m Q := by
  intro j
  induction j with
  | zero =>
    intro k m hk hm hI
    have hk : k = n := hk
    subst hk
    have e : nxR dg k k = none := if_neg (Nat.lt_irrefl k)
    rw [e]
    refine qa_t1_W (cut := [5]) 20 ?_
    exact h m hm (fun f r hr => by rw [hI f r hr, if_pos hr])
  | succ j ih =>
    intro k m hk hm hI
    have e : nxR dg n k = some (20 * dg + k) := if_pos (by omega)
    rw [e]
    have e16 : gI m 16 0 1 = gI s 16 0 1 := hm.1 16 0 1 (fun q => absurd q.1 (by decide))
    have own : ∀ f, vX dg m f k = vX dg s f k := fun f => by rw [hI f k (by omega), if_neg (Nat.lt_irrefl k)]
    have nx : gR m 21 (20 * dg + k) 0 = nxR dg n (k + 1) := by rw [hm.2.2]; exact C.2 k (by omega)
    -- a row is done
    have done : ∀ m', k21 [6, 9] dg s m' → (∀ f, vX dg m' f k = p1F rain (gI s 16 0 1) (vX dg s) f k) → (∀ f r, r ≠ k → r < n → vX dg m' f r = vX dg m f r) → gR m' 21 (20 * dg + k) 0 = nxR dg n (k + 1) → qW false d 23 bc bs 5 [some (lR 17 (some dg)), some (lI rain), some (lR 21 (gR m' 21 (20 * dg + k) 0))] [] m' Q := fun m' a b c e => by
      rw [e]
      refine ih (k + 1) m' (by omega) a (fun f r hr => ?_)
      by_cases g : r = k
      · subst g
        rw [b f, if_pos (Nat.lt_succ_self r)]
      · rw [c f r g hr, hI f r hr]
        by_cases g2 : r < k
        · rw [if_pos g2, if_pos (by omega)]
        · rw [if_neg g2, if_neg (by omega)]
    have o6 : ∀ v f r, vX dg (sI m 21 (20 * dg + k) 6 v) f r = if f = 6 ∧ r = k then v else vX dg m f r := fun v f r => by
      show gI (sI m 21 (20 * dg + k) 6 v) 21 (20 * dg + r) f = _
      rw [gI_sI]
      by_cases g : f = 6 ∧ r = k
      · rw [if_pos g, if_pos ⟨rfl, by omega, g.1⟩]
      · rw [if_neg g, if_neg (fun q => g ⟨q.2.2, by omega⟩)]
    have dry : (¬ (0 < rain ∧ vX dg s 14 k = 0)) → qW false d 23 bc bs 5 [some (lR 17 (some dg)), some (lI rain), some (lR 21 (gR (sI m 21 (20 * dg + k) 6 (gI m 21 (20 * dg + k) 6 + rain)) 21 (20 * dg + k) 0))] [] (sI m 21 (20 * dg + k) 6 (gI m 21 (20 * dg + k) 6 + rain)) Q := fun z => by
      refine done _ (k21_s (by omega) (by decide) hm) (fun f => ?_) (fun f r g _ => by rw [o6, if_neg (fun q => g q.2)]) nx
      rw [o6]
      unfold p1F
      by_cases f6 : f = 6
      · rw [if_pos ⟨f6, rfl⟩, if_pos f6]
        exact congrArg (· + rain) (own 6)
      · rw [if_neg (fun q => f6 q.1), if_neg f6, own]
        by_cases f9 : f = 9
        · rw [if_pos f9, if_neg z, Int32.add_zero, f9]
        · rw [if_neg f9]
    have wet : (0 < rain ∧ vX dg s 14 k = 0) → ∀ m6, m6 = sI m 21 (20 * dg + k) 6 (gI m 21 (20 * dg + k) 6 + rain) → qW false d 23 bc bs 5 [some (lR 17 (some dg)), some (lI rain), some (lR 21 (gR (sI m6 21 (20 * dg + k) 9 (gI m6 21 (20 * dg + k) 9 + gI m6 16 0 1)) 21 (20 * dg + k) 0))] [] (sI m6 21 (20 * dg + k) 9 (gI m6 21 (20 * dg + k) 9 + gI m6 16 0 1)) Q := fun z m6 e6 => by
      have a6 : ∀ f r, vX dg m6 f r = if f = 6 ∧ r = k then gI m 21 (20 * dg + k) 6 + rain else vX dg m f r := fun f r => by rw [e6]; exact o6 _ f r
      have o9 : ∀ v f r, vX dg (sI m6 21 (20 * dg + k) 9 v) f r = if f = 9 ∧ r = k then v else vX dg m6 f r := fun v f r => by
        show gI (sI m6 21 (20 * dg + k) 9 v) 21 (20 * dg + r) f = _
        rw [gI_sI]
        by_cases g : f = 9 ∧ r = k
        · rw [if_pos g, if_pos ⟨rfl, by omega, g.1⟩]
        · rw [if_neg g, if_neg (fun q => g ⟨q.2.2, by omega⟩)]
      have k6 : k21 [6, 9] dg s m6 := by rw [e6]; exact k21_s (by omega) (by decide) hm
      have s6 : gI m6 16 0 1 = gI s 16 0 1 := k6.1 16 0 1 (fun q => absurd q.1 (by decide))
      have b9 : gI m6 21 (20 * dg + k) 9 = vX dg s 9 k := by
        have := a6 9 k
        rw [if_neg (fun q => absurd q.1 (by decide)), own] at this
        exact this
      refine done _ (k21_s (by omega) (by decide) k6) (fun f => ?_) (fun f r g _ => by rw [o9, if_neg (fun q => g q.2), a6, if_neg (fun q => g q.2)]) (by rw [show gR (sI m6 21 (20 * dg + k) 9 (gI m6 21 (20 * dg + k) 9 + gI m6 16 0 1)) 21 (20 * dg + k) 0 = gR m6 21 (20 * dg + k) 0 from rfl, e6]; exact nx)
      rw [o9]
      unfold p1F
      by_cases f9 : f = 9
      · rw [if_pos ⟨f9, rfl⟩, if_neg (by rw [f9]; decide), if_pos f9, if_pos z, b9, s6]
      · rw [if_neg (fun q => f9 q.1), a6]
        by_cases f6 : f = 6
        · rw [if_pos ⟨f6, rfl⟩, if_pos f6]
          exact congrArg (· + rain) (own 6)
        · rw [if_neg (fun q => f6 q.1), if_neg f6, if_neg f9, own]
    refine qa_t1_W (cut := [5]) 60 ?_
    refine And.intro (fun c => ?_) (fun c => ?_)
    · have c : 0 < rain := c
      refine And.intro (fun c2 => ?_) (fun c2 => ?_)
      · have c2 : vX dg (sI m 21 (20 * dg + k) 6 (gI m 21 (20 * dg + k) 6 + rain)) 14 k = 0 := c2
        rw [o6, if_neg (fun q => absurd q.1 (by decide)), own] at c2
        exact wet ⟨c, c2⟩ _ rfl
      · have c2 : ¬ vX dg (sI m 21 (20 * dg + k) 6 (gI m 21 (20 * dg + k) 6 + rain)) 14 k = 0 := c2
        rw [o6, if_neg (fun q => absurd q.1 (by decide)), own] at c2
        exact dry (fun q => c2 q.2)
    · exact dry (fun q => c q.1)
theorem h_takeRainV {rain : Int32} (hn : n ≤ 20) (C : chR dg n s) (h : ∀ m, k21 [6, 9] dg s m → (∀ f r, r < n → vX dg m f r = p1F rain (gI s 16 0 1) (vX dg s) f r) → Q none m) : qC false (d + 1) 23 [lR 17 (some dg), lI rain] s Q := by
  have main := tr_l (d := d) (bc := 0) (bs := 0) hn C h n 0 s (Nat.zero_add _) k21_0 (fun f r _ => by rw [if_neg (Nat.not_lt_zero r)])
  rw [← C.1] at main
  refine qC_of rfl rfl ?_
  refine qa_t1_W (cut := [5]) 10 ?_
  exact main
end DY
