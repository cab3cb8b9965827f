/-! WHAT A LAW'S TEXT IS: a reader as a function of the bytes, with fuel; Pr speaks of fuel enough. -/
def tc (b : Nat → Int32) (l p : Nat) : Int32 := if p < l then b p else -1
def skF (b : Nat → Int32) (l : Nat) : Nat → Nat → Nat
  | 0, p => p
  | f + 1, p => if tc b l p = 32 then skF b l f (p + 1) else p
def sk (b : Nat → Int32) (l p : Nat) : Nat := skF b l (l - p) p
def dgB (c : Int32) : Bool := decide (48 ≤ c.toInt) && decide (c.toInt ≤ 57)
def dr (b : Nat → Int32) (l : Nat) : Nat → Nat → Nat
  | 0, _ => 0
  | n + 1, p => if dgB (tc b l p) = true then dr b l n (p + 1) + 1 else 0
def sq (x : Bool × Nat) (k : Nat → Bool × Nat) : Bool × Nat := match x with
  | (true, q) => k q
  | (false, q) => (false, q)
def sgB (c : Int32) : Bool := decide (c = 61) || (decide (c = 60) || decide (c = 62))
def bd (b : Nat → Int32) (l : Nat) (r : Nat → Nat → Nat → Bool × Nat) (nt g p : Nat) : Bool × Nat := match nt with
  | 0 => if dgB (tc b l p) = true then (if dgB (tc b l (p + dr b l 4 p)) = true then (false, p + dr b l 4 p) else (true, sk b l (p + dr b l 4 p)))
    else if ltF (tc b l p) ≠ -1 then (true, sk b l (p + 1))
    else if tc b l p = 91 then (if 6 ≤ g then (false, p) else sq (r 3 (g + 1) (sk b l (p + 1))) fun q => if tc b l q = 93 then (true, sk b l (q + 1)) else (false, q))
    else (false, p)
  | 1 => sq (r 0 g p) fun q => r 2 g q
  | 2 => if tc b l p = 42 ∨ tc b l p = 47 then sq (r 0 g (sk b l (p + 1))) fun q => r 2 g q else (true, p)
  | 3 => sq (r 1 g p) fun q => r 4 g q
  | 4 => if tc b l p = 43 ∨ tc b l p = 45 then sq (r 1 g (sk b l (p + 1))) fun q => r 4 g q else (true, p)
  | 5 => if sgB (tc b l p) = true then r 3 g (sk b l (p + 1)) else (false, p)
  | 6 => if tc b l p = 33 then (if 6 ≤ g then (false, p) else r 6 (g + 1) (sk b l (p + 1)))
    else if tc b l p = 40 then (if 6 ≤ g then (false, p) else sq (r 9 (g + 1) (sk b l (p + 1))) fun q => if tc b l q = 41 then (true, sk b l (q + 1)) else (false, q))
    else sq (r 3 g p) fun q => r 5 g q
  | 7 => if tc b l p = 38 then sq (r 6 g (sk b l (p + 1))) fun q => r 7 g q else (true, p)
  | 8 => if tc b l p = 124 then sq (r 6 g (sk b l (p + 1))) fun q => sq (r 7 g q) fun z => r 8 g z else (true, p)
  | 9 => sq (r 6 g p) fun q => sq (r 7 g q) fun z => r 8 g z
  | 10 => if tc b l p = 121 then (if tc b l (sk b l (p + 1)) = 58 then
      (if tc b l (sk b l (sk b l (p + 1) + 1)) = 33 ∨ tc b l (sk b l (sk b l (p + 1) + 1)) = 40 then sq (r 9 0 (sk b l (sk b l (p + 1) + 1))) fun q => r 12 0 q
        else sq (r 3 0 (sk b l (sk b l (p + 1) + 1))) fun q => if sgB (tc b l q) = true then sq (r 5 0 q) fun q => sq (r 7 0 q) fun q => sq (r 8 0 q) fun q => r 12 0 q else (true, q))
      else (false, sk b l (p + 1))) else (false, p)
  | 11 => sq (r 10 0 p) fun q => if tc b l q = 59 then r 11 0 (sk b l (q + 1)) else if tc b l q = -1 then (true, q) else (false, q)
  | _ => if tc b l p = 63 then r 3 0 (sk b l (p + 1)) else (false, p)
def prF (b : Nat → Int32) (l : Nat) : Nat → Nat → Nat → Nat → Bool × Nat
  | 0 => fun _ _ _ => (false, 0)
  | f + 1 => bd b l (prF b l f)
def Ev (P : Nat → Prop) : Prop := ∃ F0, ∀ F, F0 ≤ F → P F
theorem Ev_and {P Q : Nat → Prop} (h1 : Ev P) (h2 : Ev Q) : Ev (fun F => P F ∧ Q F) := by
  obtain ⟨a, h1⟩ := h1
  obtain ⟨c, h2⟩ := h2
  exact ⟨max a c, fun F hF => ⟨h1 F (by omega), h2 F (by omega)⟩⟩
theorem Ev_mono {P Q : Nat → Prop} (h1 : Ev P) (h : ∀ F, P F → Q F) : Ev Q := by
  obtain ⟨a, h1⟩ := h1
  exact ⟨a, fun F hF => h F (h1 F hF)⟩
theorem Ev_c {P : Nat → Prop} (h : ∀ F, P F) : Ev P := ⟨0, fun F _ => h F⟩
def Pr (b : Nat → Int32) (l nt g p : Nat) (x : Bool × Nat) : Prop := Ev (fun F => prF b l F nt g p = x)
theorem Pr_det {b : Nat → Int32} {l nt g p : Nat} {x y : Bool × Nat} (h1 : Pr b l nt g p x) (h2 : Pr b l nt g p y) : x = y := by
  obtain ⟨F0, h⟩ := Ev_and h1 h2
  obtain ⟨e1, e2⟩ := h F0 (Nat.le_refl _)
  rw [← e1, e2]
theorem Pr_of {b : Nat → Int32} {l nt g p : Nat} {x : Bool × Nat} (h : Ev (fun F => bd b l (prF b l F) nt g p = x)) : Pr b l nt g p x := by
  obtain ⟨F0, h⟩ := h
  refine ⟨F0 + 1, fun F hF => ?_⟩
  obtain ⟨F', rfl⟩ : ∃ F', F = F' + 1 := ⟨F - 1, by omega⟩
  exact h F' (by omega)
section PR
variable {b : Nat → Int32} {l g p q : Nat} {x : Bool × Nat}
theorem sq_t {k : Nat → Bool × Nat} : sq (true, q) k = k q := rfl
theorem sq_f {k : Nat → Bool × Nat} : sq (false, q) k = (false, q) := rfl
theorem pr_num (h1 : dgB (tc b l p) = true) (h2 : dgB (tc b l (p + dr b l 4 p)) = false) : Pr b l 0 g p (true, sk b l (p + dr b l 4 p)) := Pr_of (Ev_c fun F => by
  show (if dgB (tc b l p) = true then _ else _) = _
  rw [if_pos h1, if_neg (by rw [h2]; decide)])
theorem pr_num5 (h1 : dgB (tc b l p) = true) (h2 : dgB (tc b l (p + dr b l 4 p)) = true) : Pr b l 0 g p (false, p + dr b l 4 p) := Pr_of (Ev_c fun F => by
  show (if dgB (tc b l p) = true then _ else _) = _
  rw [if_pos h1, if_pos h2])
theorem pr_let (h1 : dgB (tc b l p) = false) (h2 : ltF (tc b l p) ≠ -1) : Pr b l 0 g p (true, sk b l (p + 1)) := Pr_of (Ev_c fun F => by
  show (if dgB (tc b l p) = true then _ else _) = _
  rw [if_neg (by rw [h1]; decide), if_pos h2])
theorem pr_br6 (h : tc b l p = 91) (hg : 6 ≤ g) : Pr b l 0 g p (false, p) := Pr_of (Ev_c fun F => by
  show (if dgB (tc b l p) = true then _ else if ltF (tc b l p) ≠ -1 then _ else if tc b l p = 91 then _ else _) = _
  rw [h, if_neg (by decide), if_neg (by decide), if_pos rfl, if_pos hg])
theorem pr_br (h : tc b l p = 91) (hg : g < 6) (h1 : Pr b l 3 (g + 1) (sk b l (p + 1)) (true, q)) : Pr b l 0 g p (if tc b l q = 93 then (true, sk b l (q + 1)) else (false, q)) := Pr_of (Ev_mono h1 fun F e => by
  show (if dgB (tc b l p) = true then _ else if ltF (tc b l p) ≠ -1 then _ else if tc b l p = 91 then _ else _) = _
  rw [h, if_neg (by decide), if_neg (by decide), if_pos rfl, if_neg (by omega), e, sq_t])
theorem pr_brf (h : tc b l p = 91) (hg : g < 6) (h1 : Pr b l 3 (g + 1) (sk b l (p + 1)) (false, q)) : Pr b l 0 g p (false, q) := Pr_of (Ev_mono h1 fun F e => by
  show (if dgB (tc b l p) = true then _ else if ltF (tc b l p) ≠ -1 then _ else if tc b l p = 91 then _ else _) = _
  rw [h, if_neg (by decide), if_neg (by decide), if_pos rfl, if_neg (by omega), e, sq_f])
theorem pr_no (h1 : dgB (tc b l p) = false) (h2 : ltF (tc b l p) = -1) (h3 : tc b l p ≠ 91) : Pr b l 0 g p (false, p) := Pr_of (Ev_c fun F => by
  show (if dgB (tc b l p) = true then _ else if ltF (tc b l p) ≠ -1 then _ else if tc b l p = 91 then _ else _) = _
  rw [if_neg (by rw [h1]; decide), if_neg (fun q => q h2), if_neg h3])
/-- one part, then the rest -/
theorem pr_term (h1 : Pr b l 0 g p (true, q)) (h2 : Pr b l 2 g q x) : Pr b l 1 g p x := Pr_of (Ev_mono (Ev_and h1 h2) fun F e => by
  show sq (prF b l F 0 g p) (fun q => prF b l F 2 g q) = _
  rw [e.1, sq_t, e.2])
theorem pr_termf (h1 : Pr b l 0 g p (false, q)) : Pr b l 1 g p (false, q) := Pr_of (Ev_mono h1 fun F e => by
  show sq (prF b l F 0 g p) (fun q => prF b l F 2 g q) = _
  rw [e, sq_f])
theorem pr_termL (h : tc b l p = 42 ∨ tc b l p = 47) (h1 : Pr b l 0 g (sk b l (p + 1)) (true, q)) (h2 : Pr b l 2 g q x) : Pr b l 2 g p x := Pr_of (Ev_mono (Ev_and h1 h2) fun F e => by
  show (if tc b l p = 42 ∨ tc b l p = 47 then sq (prF b l F 0 g (sk b l (p + 1))) (fun q => prF b l F 2 g q) else _) = _
  rw [if_pos h, e.1, sq_t, e.2])
theorem pr_termLf (h : tc b l p = 42 ∨ tc b l p = 47) (h1 : Pr b l 0 g (sk b l (p + 1)) (false, q)) : Pr b l 2 g p (false, q) := Pr_of (Ev_mono h1 fun F e => by
  show (if tc b l p = 42 ∨ tc b l p = 47 then sq (prF b l F 0 g (sk b l (p + 1))) (fun q => prF b l F 2 g q) else _) = _
  rw [if_pos h, e, sq_f])
theorem pr_termL0 (h : ¬ (tc b l p = 42 ∨ tc b l p = 47)) : Pr b l 2 g p (true, p) := Pr_of (Ev_c fun F => if_neg h)
theorem pr_sum (h1 : Pr b l 1 g p (true, q)) (h2 : Pr b l 4 g q x) : Pr b l 3 g p x := Pr_of (Ev_mono (Ev_and h1 h2) fun F e => by
  show sq (prF b l F 1 g p) (fun q => prF b l F 4 g q) = _
  rw [e.1, sq_t, e.2])
theorem pr_sumf (h1 : Pr b l 1 g p (false, q)) : Pr b l 3 g p (false, q) := Pr_of (Ev_mono h1 fun F e => by
  show sq (prF b l F 1 g p) (fun q => prF b l F 4 g q) = _
  rw [e, sq_f])
theorem pr_sumL (h : tc b l p = 43 ∨ tc b l p = 45) (h1 : Pr b l 1 g (sk b l (p + 1)) (true, q)) (h2 : Pr b l 4 g q x) : Pr b l 4 g p x := Pr_of (Ev_mono (Ev_and h1 h2) fun F e => by
  show (if tc b l p = 43 ∨ tc b l p = 45 then sq (prF b l F 1 g (sk b l (p + 1))) (fun q => prF b l F 4 g q) else _) = _
  rw [if_pos h, e.1, sq_t, e.2])
theorem pr_sumLf (h : tc b l p = 43 ∨ tc b l p = 45) (h1 : Pr b l 1 g (sk b l (p + 1)) (false, q)) : Pr b l 4 g p (false, q) := Pr_of (Ev_mono h1 fun F e => by
  show (if tc b l p = 43 ∨ tc b l p = 45 then sq (prF b l F 1 g (sk b l (p + 1))) (fun q => prF b l F 4 g q) else _) = _
  rw [if_pos h, e, sq_f])
theorem pr_sumL0 (h : ¬ (tc b l p = 43 ∨ tc b l p = 45)) : Pr b l 4 g p (true, p) := Pr_of (Ev_c fun F => if_neg h)
theorem pr_cmp (h : sgB (tc b l p) = true) (h1 : Pr b l 3 g (sk b l (p + 1)) x) : Pr b l 5 g p x := Pr_of (Ev_mono h1 fun F e => by
  show (if sgB (tc b l p) = true then prF b l F 3 g (sk b l (p + 1)) else _) = _
  rw [if_pos h, e])
theorem pr_cmp0 (h : sgB (tc b l p) = false) : Pr b l 5 g p (false, p) := Pr_of (Ev_c fun F => if_neg (by rw [h]; decide))
theorem pr_not6 (h : tc b l p = 33) (hg : 6 ≤ g) : Pr b l 6 g p (false, p) := Pr_of (Ev_c fun F => by
  show (if tc b l p = 33 then (if 6 ≤ g then _ else _) else _) = _
  rw [if_pos h, if_pos hg])
theorem pr_not (h : tc b l p = 33) (hg : g < 6) (h1 : Pr b l 6 (g + 1) (sk b l (p + 1)) x) : Pr b l 6 g p x := Pr_of (Ev_mono h1 fun F e => by
  show (if tc b l p = 33 then (if 6 ≤ g then _ else prF b l F 6 (g + 1) (sk b l (p + 1))) else _) = _
  rw [if_pos h, if_neg (by omega), e])
theorem pr_rnd6 (h : tc b l p = 40) (hg : 6 ≤ g) : Pr b l 6 g p (false, p) := Pr_of (Ev_c fun F => by
  show (if tc b l p = 33 then _ else if tc b l p = 40 then (if 6 ≤ g then _ else _) else _) = _
  rw [h, if_neg (by decide), if_pos rfl, if_pos hg])
theorem pr_rnd (h : tc b l p = 40) (hg : g < 6) (h1 : Pr b l 9 (g + 1) (sk b l (p + 1)) (true, q)) : Pr b l 6 g p (if tc b l q = 41 then (true, sk b l (q + 1)) else (false, q)) := Pr_of (Ev_mono h1 fun F e => by
  show (if tc b l p = 33 then _ else if tc b l p = 40 then (if 6 ≤ g then _ else sq (prF b l F 9 (g + 1) (sk b l (p + 1))) _) else _) = _
  rw [h, if_neg (by decide), if_pos rfl, if_neg (by omega), e, sq_t])
theorem pr_rndf (h : tc b l p = 40) (hg : g < 6) (h1 : Pr b l 9 (g + 1) (sk b l (p + 1)) (false, q)) : Pr b l 6 g p (false, q) := Pr_of (Ev_mono h1 fun F e => by
  show (if tc b l p = 33 then _ else if tc b l p = 40 then (if 6 ≤ g then _ else sq (prF b l F 9 (g + 1) (sk b l (p + 1))) _) else _) = _
  rw [h, if_neg (by decide), if_pos rfl, if_neg (by omega), e, sq_f])
theorem pr_unit (h : tc b l p ≠ 33) (h' : tc b l p ≠ 40) (h1 : Pr b l 3 g p (true, q)) (h2 : Pr b l 5 g q x) : Pr b l 6 g p x := Pr_of (Ev_mono (Ev_and h1 h2) fun F e => by
  show (if tc b l p = 33 then _ else if tc b l p = 40 then _ else sq (prF b l F 3 g p) (fun q => prF b l F 5 g q)) = _
  rw [if_neg h, if_neg h', e.1, sq_t, e.2])
theorem pr_unitf (h : tc b l p ≠ 33) (h' : tc b l p ≠ 40) (h1 : Pr b l 3 g p (false, q)) : Pr b l 6 g p (false, q) := Pr_of (Ev_mono h1 fun F e => by
  show (if tc b l p = 33 then _ else if tc b l p = 40 then _ else sq (prF b l F 3 g p) (fun q => prF b l F 5 g q)) = _
  rw [if_neg h, if_neg h', e, sq_f])
theorem pr_and (h : tc b l p = 38) (h1 : Pr b l 6 g (sk b l (p + 1)) (true, q)) (h2 : Pr b l 7 g q x) : Pr b l 7 g p x := Pr_of (Ev_mono (Ev_and h1 h2) fun F e => by
  show (if tc b l p = 38 then sq (prF b l F 6 g (sk b l (p + 1))) (fun q => prF b l F 7 g q) else _) = _
  rw [if_pos h, e.1, sq_t, e.2])
theorem pr_andf (h : tc b l p = 38) (h1 : Pr b l 6 g (sk b l (p + 1)) (false, q)) : Pr b l 7 g p (false, q) := Pr_of (Ev_mono h1 fun F e => by
  show (if tc b l p = 38 then sq (prF b l F 6 g (sk b l (p + 1))) (fun q => prF b l F 7 g q) else _) = _
  rw [if_pos h, e, sq_f])
theorem pr_and0 (h : tc b l p ≠ 38) : Pr b l 7 g p (true, p) := Pr_of (Ev_c fun F => if_neg h)
/-- unit and what goes on by & -/
def PrT (b : Nat → Int32) (l g p : Nat) (x : Bool × Nat) : Prop := (∃ q, Pr b l 6 g p (true, q) ∧ Pr b l 7 g q x) ∨ (x.1 = false ∧ Pr b l 6 g p x)
theorem prT_ev (h : PrT b l g p x) : Ev (fun F => sq (prF b l F 6 g p) (fun q => prF b l F 7 g q) = x) := by
  rcases h with ⟨q, h1, h2⟩ | ⟨h0, h1⟩
  · exact Ev_mono (Ev_and h1 h2) fun F e => by rw [e.1, sq_t, e.2]
  · obtain ⟨x1, x2⟩ := x
    cases (show x1 = false from h0)
    exact Ev_mono h1 fun F e => by rw [e, sq_f]
theorem sq_sq {y : Bool × Nat} {k k2 : Nat → Bool × Nat} : sq y (fun q => sq (k q) k2) = sq (sq y k) k2 := by
  obtain ⟨a, c⟩ := y
  cases a <;> rfl
theorem pr_or (h : tc b l p = 124) (h1 : PrT b l g (sk b l (p + 1)) (true, q)) (h2 : Pr b l 8 g q x) : Pr b l 8 g p x := Pr_of (Ev_mono (Ev_and (prT_ev h1) h2) fun F e => by
  show (if tc b l p = 124 then sq (prF b l F 6 g (sk b l (p + 1))) (fun q => sq (prF b l F 7 g q) fun z => prF b l F 8 g z) else _) = _
  rw [if_pos h, sq_sq, e.1, sq_t, e.2])
theorem pr_orf (h : tc b l p = 124) (h1 : PrT b l g (sk b l (p + 1)) (false, q)) : Pr b l 8 g p (false, q) := Pr_of (Ev_mono (prT_ev h1) fun F e => by
  show (if tc b l p = 124 then sq (prF b l F 6 g (sk b l (p + 1))) (fun q => sq (prF b l F 7 g q) fun z => prF b l F 8 g z) else _) = _
  rw [if_pos h, sq_sq, e, sq_f])
theorem pr_or0 (h : tc b l p ≠ 124) : Pr b l 8 g p (true, p) := Pr_of (Ev_c fun F => if_neg h)
theorem pr_cond (h1 : PrT b l g p (true, q)) (h2 : Pr b l 8 g q x) : Pr b l 9 g p x := Pr_of (Ev_mono (Ev_and (prT_ev h1) h2) fun F e => by
  show sq (prF b l F 6 g p) (fun q => sq (prF b l F 7 g q) fun z => prF b l F 8 g z) = _
  rw [sq_sq, e.1, sq_t, e.2])
theorem pr_condf (h1 : PrT b l g p (false, q)) : Pr b l 9 g p (false, q) := Pr_of (Ev_mono (prT_ev h1) fun F e => by
  show sq (prF b l F 6 g p) (fun q => sq (prF b l F 7 g q) fun z => prF b l F 8 g z) = _
  rw [sq_sq, e, sq_f])
theorem pr_tail (h : tc b l p = 63) (h1 : Pr b l 3 0 (sk b l (p + 1)) x) : Pr b l 12 g p x := Pr_of (Ev_mono h1 fun F e => by
  show (if tc b l p = 63 then prF b l F 3 0 (sk b l (p + 1)) else _) = _
  rw [if_pos h, e])
theorem pr_tail0 (h : tc b l p ≠ 63) : Pr b l 12 g p (false, p) := Pr_of (Ev_c fun F => if_neg h)
theorem pr_cl1 (h : tc b l p ≠ 121) : Pr b l 10 g p (false, p) := Pr_of (Ev_c fun F => if_neg h)
theorem pr_cl2 (h : tc b l p = 121) (h2 : tc b l (sk b l (p + 1)) ≠ 58) : Pr b l 10 g p (false, sk b l (p + 1)) := Pr_of (Ev_c fun F => by
  show (if tc b l p = 121 then (if tc b l (sk b l (p + 1)) = 58 then _ else _) else _) = _
  rw [if_pos h, if_neg h2])
/-- what stands behind a clause's : -/
def PrC (b : Nat → Int32) (l z : Nat) (x : Bool × Nat) : Prop := Ev (fun F => (if tc b l z = 33 ∨ tc b l z = 40 then sq (prF b l F 9 0 z) (fun q => prF b l F 12 0 q) else sq (prF b l F 3 0 z) fun q => if sgB (tc b l q) = true then sq (prF b l F 5 0 q) fun q => sq (prF b l F 7 0 q) fun q => sq (prF b l F 8 0 q) fun q => prF b l F 12 0 q else (true, q)) = x)
theorem pr_cl (h : tc b l p = 121) (h2 : tc b l (sk b l (p + 1)) = 58) (h3 : PrC b l (sk b l (sk b l (p + 1) + 1)) x) : Pr b l 10 g p x := Pr_of (Ev_mono h3 fun F e => by
  show (if tc b l p = 121 then (if tc b l (sk b l (p + 1)) = 58 then _ else _) else _) = _
  rw [if_pos h, if_pos h2]
  exact e)
/-- what a comparison at q goes on with: compare, goOnAnd, goOnOr -/
def PrG (b : Nat → Int32) (l q : Nat) (x : Bool × Nat) : Prop := Ev (fun F => (sq (prF b l F 5 0 q) fun q => sq (prF b l F 7 0 q) fun q => prF b l F 8 0 q) = x)
theorem prG_1 (h : Pr b l 5 0 p (false, q)) : PrG b l p (false, q) := Ev_mono h fun F e => by rw [e, sq_f]
theorem prG_2 {z : Nat} (h : Pr b l 5 0 p (true, q)) (h2 : Pr b l 7 0 q (false, z)) : PrG b l p (false, z) := Ev_mono (Ev_and h h2) fun F e => by rw [e.1, sq_t, e.2, sq_f]
theorem prG_3 {z : Nat} (h : Pr b l 5 0 p (true, q)) (h2 : Pr b l 7 0 q (true, z)) (h3 : Pr b l 8 0 z x) : PrG b l p x := Ev_mono (Ev_and h (Ev_and h2 h3)) fun F e => by rw [e.1, sq_t, e.2.1, sq_t, e.2.2]
theorem prC_c (h : tc b l p = 33 ∨ tc b l p = 40) (h1 : Pr b l 9 0 p (true, q)) (h2 : Pr b l 12 0 q x) : PrC b l p x := Ev_mono (Ev_and h1 h2) fun F e => by rw [if_pos h, e.1, sq_t, e.2]
theorem prC_cf (h : tc b l p = 33 ∨ tc b l p = 40) (h1 : Pr b l 9 0 p (false, q)) : PrC b l p (false, q) := Ev_mono h1 fun F e => by rw [if_pos h, e, sq_f]
theorem prC_sf (h : ¬ (tc b l p = 33 ∨ tc b l p = 40)) (h1 : Pr b l 3 0 p (false, q)) : PrC b l p (false, q) := Ev_mono h1 fun F e => by rw [if_neg h, e, sq_f]
theorem prC_s (h : ¬ (tc b l p = 33 ∨ tc b l p = 40)) (h1 : Pr b l 3 0 p (true, q)) (h2 : sgB (tc b l q) = false) : PrC b l p (true, q) := Ev_mono h1 fun F e => by rw [if_neg h, e, sq_t, if_neg (by rw [h2]; decide)]
theorem prC_g {z : Nat} (h : ¬ (tc b l p = 33 ∨ tc b l p = 40)) (h1 : Pr b l 3 0 p (true, q)) (h2 : sgB (tc b l q) = true) (h3 : PrG b l q (true, z)) (h4 : Pr b l 12 0 z x) : PrC b l p x := Ev_mono (Ev_and h1 (Ev_and h3 h4)) fun F e => by
  rw [if_neg h, e.1, sq_t, if_pos h2]
  have e2 := e.2.1
  rw [sq_sq] at e2
  rw [sq_sq, sq_sq, e2, sq_t, e.2.2]
theorem prC_gf {z : Nat} (h : ¬ (tc b l p = 33 ∨ tc b l p = 40)) (h1 : Pr b l 3 0 p (true, q)) (h2 : sgB (tc b l q) = true) (h3 : PrG b l q (false, z)) : PrC b l p (false, z) := Ev_mono (Ev_and h1 h3) fun F e => by
  rw [if_neg h, e.1, sq_t, if_pos h2]
  have e2 := e.2
  rw [sq_sq] at e2
  rw [sq_sq, sq_sq, e2, sq_f]
theorem pr_lawf (h1 : Pr b l 10 0 p (false, q)) : Pr b l 11 g p (false, q) := Pr_of (Ev_mono h1 fun F e => by
  show sq (prF b l F 10 0 p) _ = _
  rw [e, sq_f])
theorem pr_law (h1 : Pr b l 10 0 p (true, q)) (h : tc b l q = 59) (h2 : Pr b l 11 0 (sk b l (q + 1)) x) : Pr b l 11 g p x := Pr_of (Ev_mono (Ev_and h1 h2) fun F e => by
  show sq (prF b l F 10 0 p) (fun q => if tc b l q = 59 then prF b l F 11 0 (sk b l (q + 1)) else _) = _
  rw [e.1, sq_t, if_pos h, e.2])
theorem pr_law1 (h1 : Pr b l 10 0 p (true, q)) (h : tc b l q ≠ 59) : Pr b l 11 g p (if tc b l q = -1 then (true, q) else (false, q)) := Pr_of (Ev_mono h1 fun F e => by
  show sq (prF b l F 10 0 p) (fun q => if tc b l q = 59 then prF b l F 11 0 (sk b l (q + 1)) else _) = _
  rw [e, sq_t, if_neg h])
end PR
/-! blanks -/
section SK
variable {b : Nat → Int32} {l : Nat}
theorem skF_ge : ∀ f p, p ≤ skF b l f p := by
  intro f
  induction f with
  | zero => intro p; exact Nat.le_refl _
  | succ f ih =>
    intro p
    show p ≤ (if tc b l p = 32 then skF b l f (p + 1) else p)
    by_cases e : tc b l p = 32
    · rw [if_pos e]
      have := ih (p + 1)
      omega
    · rw [if_neg e]
      exact Nat.le_refl _
theorem sk_ge (p : Nat) : p ≤ sk b l p := skF_ge _ _
theorem tc_lt {p : Nat} {x : Int32} (hx : x ≠ -1) (h : tc b l p = x) : p < l := by
  unfold tc at h
  by_cases g : p < l
  · exact g
  · rw [if_neg g] at h
    exact absurd h.symm hx
theorem sk_b {p : Nat} (h : tc b l p = 32) : sk b l p = sk b l (p + 1) := by
  have hl := tc_lt (by decide) h
  unfold sk
  rw [show l - p = (l - (p + 1)) + 1 by omega]
  show (if tc b l p = 32 then skF b l (l - (p + 1)) (p + 1) else p) = _
  rw [if_pos h]
theorem sk_n {p : Nat} (h : tc b l p ≠ 32) : sk b l p = p := by
  unfold sk
  cases e : l - p with
  | zero => rfl
  | succ f =>
    show (if tc b l p = 32 then skF b l f (p + 1) else p) = _
    rw [if_neg h]
theorem sk_tc : ∀ f p, l - p = f → tc b l (sk b l p) ≠ 32 := by
  intro f
  induction f with
  | zero =>
    intro p hp h
    have e : tc b l p = -1 := by unfold tc; rw [if_neg (by omega)]
    rw [sk_n (by rw [e]; decide), e] at h
    exact absurd h (by decide)
  | succ f ih =>
    intro p hp
    by_cases e : tc b l p = 32
    · rw [sk_b e]
      exact ih (p + 1) (by omega)
    · rw [sk_n e]
      exact e
theorem sk_nb (p : Nat) : tc b l (sk b l p) ≠ 32 := sk_tc _ p rfl
theorem sk_sk (p : Nat) : sk b l (sk b l p) = sk b l p := sk_n (sk_nb p)
end SK
/-! THE REFERENCE'S READER, by what it answers: look, plainNumber, opens, closes. -/
theorem skF_le {b : Nat → Int32} {l : Nat} : ∀ f p, skF b l f p ≤ max p l := by
  intro f
  induction f with
  | zero => intro p; show p ≤ max p l; omega
  | succ f ih =>
    intro p
    show (if tc b l p = 32 then skF b l f (p + 1) else p) ≤ max p l
    by_cases e : tc b l p = 32
    · rw [if_pos e]
      have h1 := ih (p + 1)
      have h2 := tc_lt (b := b) (l := l) (by decide) e
      omega
    · rw [if_neg e]
      omega
theorem sk_le {b : Nat → Int32} {l : Nat} (p : Nat) : sk b l p ≤ max p l := skF_le _ _
abbrev bS (s : LMem) : Nat → Int32 := fun p => gI s 34 0 p
theorem rch_tc {s : LMem} {l p : Nat} : rch s l p = tc (bS s) l p := rfl
theorem bS_rd {s m : LMem} (h : rd_S s m) : bS m = bS s := funext fun p => h.1 34 0 p (fun q => absurd q.1 (by decide))
theorem bS_lr {n c : Nat} {s m : LMem} (h : lr_S n s m c) : bS m = bS s := funext fun p => (h.2.1 34 0 p (by
  rintro ⟨w, hw, e, _⟩
  simp only [List.mem_cons, List.not_mem_nil, or_false] at hw
  rcases hw with rfl | rfl | rfl | rfl | rfl | rfl | rfl | rfl | rfl <;> exact absurd e (by decide))).1
section LK
variable {d bc bs l : Nat} {s : LMem} {Q : LPost}
theorem lf_l (hl : gI s 33 0 2 = nI l) (hl2 : l ≤ 200) {p0 : Nat} (h : ∀ m, rd_S s m → gI m 33 0 4 = gI s 33 0 4 → gI m 33 0 5 = gI s 33 0 5 → gI m 33 0 3 = nI (sk (bS s) l p0) → Q (some (lI (tc (bS s) l (sk (bS s) l p0)))) m) : ∀ n p m, l - p < n → p < 2 ^ 31 → sk (bS s) l p = sk (bS s) l p0 → rd_S s m → gI m 33 0 4 = gI s 33 0 4 → gI m 33 0 5 = gI s 33 0 5 → gI m 33 0 3 = nI p → qW false (d + 1) 205 bc bs 0 [some (lR 33 (some 0))] [] m Q := by
  intro n
  induction n with
  | zero =>
    intro p m hp
    exact absurd hp (Nat.not_lt_zero _)
  | succ n ih =>
    intro p m hp hp2 h0 hm h4 h5 h3
    have hl3 : gI m 33 0 2 = nI l := by rw [hm.1 33 0 2 (fun q => by omega), hl]
    refine qa_t1_W (cut := [0]) 30 ?_
    refine h_here hl3 hl2 h3 hp2 (Exists.intro _ (And.intro rfl ?_))
    rw [rch_eq hm]
    refine And.intro (fun e => ?_) (fun hne => ?_)
    · have e : tc (bS s) l p = 32 := e
      have hpl := tc_lt (by decide) e
      have ih2 : qW false (d + 1) 205 bc bs 0 [some (lR 33 (some 0))] [] (sI m 33 0 3 (gI m 33 0 3 + 1)) Q := by
        rw [h3, nI_1]
        refine ih (p + 1) _ (by omega) (by omega) ?_ (rd_s (Or.inl rfl) hm) ?_ ?_ ?_
        · rw [← sk_b e, h0]
        · rw [gI_sI, if_neg (fun q => absurd q.2.2 (by decide)), h4]
        · rw [gI_sI, if_neg (fun q => absurd q.2.2 (by decide)), h5]
        · rw [gI_sI, if_pos ⟨rfl, rfl, rfl⟩]
      exact ih2
    · have hne : tc (bS s) l p ≠ 32 := hne
      have hp0 : sk (bS s) l p0 = p := by rw [← h0, sk_n hne]
      refine h_here hl3 hl2 h3 hp2 (Exists.intro _ (And.intro rfl ?_))
      rw [rch_eq hm]
      have h9 := h m hm h4 h5 (by rw [hp0]; exact h3)
      rw [hp0] at h9
      exact h9
theorem h_lookF {p : Nat} (hl : gI s 33 0 2 = nI l) (hl2 : l ≤ 200) (hp : gI s 33 0 3 = nI p) (hp2 : p ≤ 1000) (h : ∀ m, rd_S s m → gI m 33 0 4 = gI s 33 0 4 → gI m 33 0 5 = gI s 33 0 5 → gI m 33 0 3 = nI (sk (bS s) l p) → Q (some (lI (tc (bS s) l (sk (bS s) l p)))) m) : qC false (d + 2) 205 [lR 33 (some 0)] s Q :=
  qC_of rfl rfl (lf_l hl hl2 h (l - p + 1) p s (by omega) (by omega) rfl rd_0 rfl rfl hp)
theorem dgB_t {x : Int32} (h : dg x) : dgB x = true := by
  unfold dgB
  rw [decide_eq_true h.1, decide_eq_true h.2]
  rfl
theorem dgB_f {x : Int32} (h : ¬ dg x) : dgB x = false := by
  unfold dgB
  by_cases a : 48 ≤ x.toInt
  · rw [decide_eq_true a, decide_eq_false (fun c => h ⟨a, c⟩)]
    rfl
  · rw [decide_eq_false a]
    rfl
/-- plainNumber: digits, four at most; wrong is laid at a fifth -/
theorem pf_t {p k : Nat} {v : Int32} {o : Option LV} {m : LMem} (hl : gI s 33 0 2 = nI l) (hl2 : l ≤ 200) (hp2 : p + k ≤ 1000) (hm : rd_S s m) (h3 : gI m 33 0 3 = nI (p + k)) (h4 : gI m 33 0 4 = gI s 33 0 4) (h5 : gI m 33 0 5 = gI s 33 0 5) (h : ∀ m v, rd_S s m → gI m 33 0 3 = nI (p + k) → gI m 33 0 5 = gI s 33 0 5 → (dgB (tc (bS s) l (p + k)) = false → gI m 33 0 4 = gI s 33 0 4) → (dgB (tc (bS s) l (p + k)) = true → gI s 33 0 4 = -1 → gI m 33 0 4 = nI (p + k)) → Q (some (lI v)) m) : qW false (d + 2) 212 bc bs 48 [some (lR 33 (some 0)), some (lI v), o] [] m Q := by
  have hl3 : gI m 33 0 2 = nI l := by rw [hm.1 33 0 2 (fun q => by omega), hl]
  have fin : ∀ x, dg (tc (bS s) l (p + k)) → (gI m 33 0 4 = -1 → x = nI (p + k)) → Q (some (lI v)) (sI m 33 0 4 x) := fun x hd hx => by
    refine h _ v (rd_s (Or.inr (Or.inl rfl)) hm) ?_ ?_ (fun c => ?_) (fun _ c => ?_)
    · rw [gI_sI, if_neg (fun q => absurd q.2.2 (by decide)), h3]
    · rw [gI_sI, if_neg (fun q => absurd q.2.2 (by decide)), h5]
    · rw [dgB_t hd] at c
      cases c
    · rw [gI_sI, if_pos ⟨rfl, rfl, rfl⟩]
      exact hx (by rw [h4, c])
  refine qa_t1_W (cut := []) 40 ?_
  refine h_here hl3 hl2 h3 (by omega) (Exists.intro _ (And.intro rfl ?_))
  rw [rch_eq hm]
  refine h_dig12 (fun hd => Exists.intro 1 (And.intro rfl ?_)) (fun hd => Exists.intro 0 (And.intro rfl ?_))
  · refine And.intro (fun q => absurd q (by decide)) (fun _ => ?_)
    exact h_bad h3 (fun _ => And.intro rfl (fin _ hd (fun _ => rfl))) (fun w => And.intro rfl (fin _ hd (fun c => absurd c w)))
  · have hd2 : dgB (tc (bS s) l (p + k)) = false := dgB_f hd
    exact And.intro (fun _ => h m v hm h3 h5 (fun _ => h4) (fun c _ => by rw [hd2] at c; cases c)) (fun q => absurd rfl q)
theorem pf_l {p : Nat} (hl : gI s 33 0 2 = nI l) (hl2 : l ≤ 200) (hp2 : p ≤ 900) (h : ∀ m v, rd_S s m → gI m 33 0 3 = nI (p + dr (bS s) l 4 p) → gI m 33 0 5 = gI s 33 0 5 → (dgB (tc (bS s) l (p + dr (bS s) l 4 p)) = false → gI m 33 0 4 = gI s 33 0 4) → (dgB (tc (bS s) l (p + dr (bS s) l 4 p)) = true → gI s 33 0 4 = -1 → gI m 33 0 4 = nI (p + dr (bS s) l 4 p)) → Q (some (lI v)) m) : ∀ j k m v, k + j = 4 → k + dr (bS s) l j (p + k) = dr (bS s) l 4 p → rd_S s m → gI m 33 0 3 = nI (p + k) → gI m 33 0 4 = gI s 33 0 4 → gI m 33 0 5 = gI s 33 0 5 → qW false (d + 2) 212 bc bs 4 [some (lR 33 (some 0)), some (lI v), some (lI (nI k))] [] m Q := by
  intro j
  induction j with
  | zero =>
    intro k m v hk hd hm h3 h4 h5
    have hk : k = 4 := hk
    subst hk
    have hd : 4 = dr (bS s) l 4 p := hd
    rw [← hd] at h
    refine qa_t1_W (cut := [4, 48]) 20 ?_
    exact And.intro (fun q => absurd q (by decide)) (fun _ => pf_t (k := 4) hl hl2 (by omega) hm h3 h4 h5 h)
  | succ j ih =>
    intro k m v hk hd hm h3 h4 h5
    have hl3 : gI m 33 0 2 = nI l := by rw [hm.1 33 0 2 (fun q => by omega), hl]
    have hlt : nI k < 4 := nI_lt (b := 4) (by omega) (by decide)
    have hd : k + (if dgB (tc (bS s) l (p + k)) = true then dr (bS s) l j (p + k + 1) + 1 else 0) = dr (bS s) l 4 p := hd
    refine qa_t1_W (cut := [4, 48]) 60 ?_
    refine And.intro (fun _ => ?_) (fun q => absurd hlt q)
    refine h_here hl3 hl2 h3 (by omega) (Exists.intro _ (And.intro rfl ?_))
    rw [rch_eq hm]
    refine h_dig12 (fun hg => Exists.intro 1 (And.intro rfl ?_)) (fun hg => Exists.intro 0 (And.intro rfl ?_))
    · refine And.intro (fun q => absurd q (by decide)) (fun _ => ?_)
      refine h_here hl3 hl2 h3 (by omega) (Exists.intro _ (And.intro rfl ?_))
      have hg : dgB (tc (bS s) l (p + k)) = true := dgB_t hg
      rw [if_pos hg] at hd
      have go : ∀ v, qW false (d + 2) 212 bc bs 4 [some (lR 33 (some 0)), some (lI v), some (lI (nI k + 1))] [] (sI m 33 0 3 (gI m 33 0 3 + 1)) Q := fun v => by
        rw [nI_1]
        refine ih (k + 1) _ v (by omega) (by rw [show p + (k + 1) = p + k + 1 by omega]; omega) (rd_s (Or.inl rfl) hm) ?_ ?_ ?_
        · rw [gI_sI, if_pos ⟨rfl, rfl, rfl⟩, h3, nI_1, Nat.add_assoc]
        · rw [gI_sI, if_neg (fun q => absurd q.2.2 (by decide)), h4]
        · rw [gI_sI, if_neg (fun q => absurd q.2.2 (by decide)), h5]
      exact go _
    · refine And.intro (fun _ => ?_) (fun q => absurd rfl q)
      have hg : dgB (tc (bS s) l (p + k)) = false := dgB_f hg
      rw [if_neg (by rw [hg]; decide)] at hd
      have hd : k = dr (bS s) l 4 p := hd
      rw [← hd] at h
      exact pf_t hl hl2 (by omega) hm h3 h4 h5 h
theorem h_plainF {p : Nat} (hl : gI s 33 0 2 = nI l) (hl2 : l ≤ 200) (hp : gI s 33 0 3 = nI p) (hp2 : p ≤ 900) (h : ∀ m v, rd_S s m → gI m 33 0 3 = nI (p + dr (bS s) l 4 p) → gI m 33 0 5 = gI s 33 0 5 → (dgB (tc (bS s) l (p + dr (bS s) l 4 p)) = false → gI m 33 0 4 = gI s 33 0 4) → (dgB (tc (bS s) l (p + dr (bS s) l 4 p)) = true → gI s 33 0 4 = -1 → gI m 33 0 4 = nI (p + dr (bS s) l 4 p)) → Q (some (lI v)) m) : qC false (d + 3) 212 [lR 33 (some 0)] s Q := by
  refine qC_of rfl rfl ?_
  refine qa_t1_W (cut := [4]) 20 ?_
  exact pf_l hl hl2 hp2 h 4 0 s 0 rfl (by rw [Nat.zero_add, Nat.add_zero]) rd_0 hp rfl rfl
theorem h_opensF {p g : Nat} (hp : gI s 33 0 3 = nI p) (hp2 : p ≤ 1000) (hg : gI s 33 0 5 = nI g) (hw : gI s 33 0 4 = -1) (h : ∀ m, rd_S s m → gI m 33 0 3 = nI (p + 1) → gI m 33 0 5 = nI (g + 1) → (gI m 33 0 4 = -1 ∧ nI g ≠ 6 ∨ gI m 33 0 4 = nI p ∧ nI g = 6) → Q none m) : qC false (d + 2) 210 [lR 33 (some 0)] s Q := by
  have fin : ∀ m, rd_S s m → gI m 33 0 3 = nI p → gI m 33 0 5 = nI g → (gI m 33 0 4 = -1 ∧ nI g ≠ 6 ∨ gI m 33 0 4 = nI p ∧ nI g = 6) → Q none (sI (sI m 33 0 5 (gI m 33 0 5 + 1)) 33 0 3 (gI (sI m 33 0 5 (gI m 33 0 5 + 1)) 33 0 3 + 1)) := fun m hm h3 h5 h4 => by
    refine h _ (rd_s (Or.inl rfl) (rd_s (Or.inr (Or.inr rfl)) hm)) ?_ ?_ ?_
    · rw [gI_sI, if_pos ⟨rfl, rfl, rfl⟩, gI_sI, if_neg (fun q => absurd q.2.2 (by decide)), h3, nI_1]
    · rw [gI_sI, if_neg (fun q => absurd q.2.2 (by decide)), gI_sI, if_pos ⟨rfl, rfl, rfl⟩, h5, nI_1]
    · rw [gI_sI, if_neg (fun q => absurd q.2.2 (by decide)), gI_sI, if_neg (fun q => absurd q.2.2 (by decide))]
      exact h4
  refine qC_of rfl rfl ?_
  refine qa_t1_W (cut := []) 40 ?_
  refine And.intro (fun e => ?_) (fun e => ?_)
  · have e : gI s 33 0 5 = 6 := e
    have fb : Q none (sI (sI (sI s 33 0 4 (nI p)) 33 0 5 (gI (sI s 33 0 4 (nI p)) 33 0 5 + 1)) 33 0 3 (gI (sI (sI s 33 0 4 (nI p)) 33 0 5 (gI (sI s 33 0 4 (nI p)) 33 0 5 + 1)) 33 0 3 + 1)) := by
      refine fin _ (rd_s (Or.inr (Or.inl rfl)) rd_0) ?_ ?_ (Or.inr ⟨?_, ?_⟩)
      · rw [gI_sI, if_neg (fun q => absurd q.2.2 (by decide)), hp]
      · rw [gI_sI, if_neg (fun q => absurd q.2.2 (by decide)), hg]
      · rw [gI_sI, if_pos ⟨rfl, rfl, rfl⟩]
      · rw [← hg, e]
    exact h_bad hp (fun _ => And.intro rfl fb) (fun w => absurd hw w)
  · exact fin s rd_0 hp hg (Or.inl ⟨hw, fun q => e (by
      show gI s 33 0 5 = 6
      rw [hg, q])⟩)
theorem h_closesF {p : Nat} {c : Int32} (hl : gI s 33 0 2 = nI l) (hl2 : l ≤ 200) (hp : gI s 33 0 3 = nI p) (hp2 : p ≤ 1000) (h : ∀ m q, rd_S s m → gI m 33 0 3 = nI (q + 1) → gI m 33 0 5 = gI s 33 0 5 - 1 → (gI s 33 0 4 ≠ -1 ∧ gI m 33 0 4 = gI s 33 0 4 ∧ q = p ∨ gI s 33 0 4 = -1 ∧ q = sk (bS s) l p ∧ (tc (bS s) l q = c ∧ gI m 33 0 4 = -1 ∨ tc (bS s) l q ≠ c ∧ gI m 33 0 4 = nI q)) → Q none m) : qC false (d + 3) 211 [lR 33 (some 0), lI c] s Q := by
  have fin : ∀ m q, rd_S s m → gI m 33 0 3 = nI q → gI m 33 0 5 = gI s 33 0 5 → (gI s 33 0 4 ≠ -1 ∧ gI m 33 0 4 = gI s 33 0 4 ∧ q = p ∨ gI s 33 0 4 = -1 ∧ q = sk (bS s) l p ∧ (tc (bS s) l q = c ∧ gI m 33 0 4 = -1 ∨ tc (bS s) l q ≠ c ∧ gI m 33 0 4 = nI q)) → Q none (sI (sI m 33 0 3 (gI m 33 0 3 + 1)) 33 0 5 (gI (sI m 33 0 3 (gI m 33 0 3 + 1)) 33 0 5 - 1)) := fun m q hm h3 h5 h4 => by
    refine h _ q (rd_s (Or.inr (Or.inr rfl)) (rd_s (Or.inl rfl) hm)) ?_ ?_ ?_
    · rw [gI_sI, if_neg (fun q => absurd q.2.2 (by decide)), gI_sI, if_pos ⟨rfl, rfl, rfl⟩, h3, nI_1]
    · rw [gI_sI, if_pos ⟨rfl, rfl, rfl⟩, gI_sI, if_neg (fun q => absurd q.2.2 (by decide)), h5]
    · rw [gI_sI, if_neg (fun q => absurd q.2.2 (by decide)), gI_sI, if_neg (fun q => absurd q.2.2 (by decide))]
      exact h4
  refine qC_of rfl rfl ?_
  refine qa_t1_W (cut := []) 60 ?_
  refine And.intro (fun w => ?_) (fun w => ?_)
  · have w : gI s 33 0 4 = -1 := w
    refine h_lookF hl hl2 hp hp2 fun m1 hm k4 k5 k3 => Exists.intro _ (And.intro rfl ?_)
    refine And.intro (fun e => ?_) (fun e => ?_)
    · exact fin m1 _ hm k3 k5 (Or.inr ⟨w, rfl, Or.inl ⟨e, by rw [k4, w]⟩⟩)
    · have fb : Q none (sI (sI (sI m1 33 0 4 (nI (sk (bS s) l p))) 33 0 3 (gI (sI m1 33 0 4 (nI (sk (bS s) l p))) 33 0 3 + 1)) 33 0 5 (gI (sI (sI m1 33 0 4 (nI (sk (bS s) l p))) 33 0 3 (gI (sI m1 33 0 4 (nI (sk (bS s) l p))) 33 0 3 + 1)) 33 0 5 - 1)) := by
        refine fin _ (sk (bS s) l p) (rd_s (Or.inr (Or.inl rfl)) hm) ?_ ?_ (Or.inr ⟨w, rfl, Or.inr ⟨e, ?_⟩⟩)
        · rw [gI_sI, if_neg (fun q => absurd q.2.2 (by decide)), k3]
        · rw [gI_sI, if_neg (fun q => absurd q.2.2 (by decide)), k5]
        · rw [gI_sI, if_pos ⟨rfl, rfl, rfl⟩]
      exact h_bad k3 (fun _ => And.intro rfl fb) (fun w2 => absurd (by rw [k4, w]) w2)
  · have w : ¬ gI s 33 0 4 = -1 := w
    exact fin s p rd_0 hp rfl (Or.inl ⟨w, rfl, rfl⟩)
end LK
/-! THE REFERENCE'S READER OF LAWS answers as Pr. -/
/-- what a reader leaves: at, wrong, deep; where it stands or what is wrong, by Φ -/
def lx_U (Φ : Bool × Nat → Prop) (n l g c p : Nat) (s m m' : LMem) : Prop := ∃ c' q, lr_S n s m' c' ∧ gI m' 33 0 3 = nI q ∧ c ≤ c' ∧ p ≤ q ∧ c' + p ≤ q + c ∧ gI m' 38 0 n = gI m 38 0 n ∧ ((gI m' 33 0 4 = -1 ∧ q ≤ l ∧ gI m' 33 0 5 = nI g ∧ Φ (true, sk (bS s) l q)) ∨ (q + g ≤ l + 7 ∧ ∃ w, w ≤ 1000 ∧ gI m' 33 0 4 = nI w ∧ Φ (false, w)))
def rdU (F : Nat → Bool × Nat → Prop) (n l g : Nat) (s : LMem) (M dep : Nat) : Prop := ∀ c p m (R : LPost), lx_P n l g c p s m → (∀ m', lx_U (F (sk (bS s) l p)) n l g c p s m m' → R none m') → qC false dep M [lR 33 (some 0)] m R
section LU
variable {n l g c p : Nat} {s m0 m1 : LMem} {Φ Ψ : Bool × Nat → Prop}
theorem lU_mono (h : ∀ x, Φ x → Ψ x) (hx : lx_U Φ n l g c p s m0 m1) : lx_U Ψ n l g c p s m0 m1 := by
  obtain ⟨c1, q1, t1, t2, t3, t4, t5, t6, t7⟩ := hx
  refine ⟨c1, q1, t1, t2, t3, t4, t5, t6, ?_⟩
  rcases t7 with ⟨u1, u2, u3, u4⟩ | ⟨u1, w, u2, u3, u4⟩
  · exact Or.inl ⟨u1, u2, u3, h _ u4⟩
  · exact Or.inr ⟨u1, w, u2, u3, h _ u4⟩
theorem lU_app (hcp : c ≤ p) (h1 : lx_U Φ n l g c p s m0 m1) (w : gI m1 33 0 4 = -1) : ∃ c1 q1, lx_P n l g c1 q1 s m1 ∧ p ≤ q1 ∧ Φ (true, sk (bS s) l q1) ∧ ∀ (Ψ : Bool × Nat → Prop) m2, lx_U Ψ n l g c1 q1 s m1 m2 → lx_U Ψ n l g c p s m0 m2 := by
  obtain ⟨c1, q1, t1, t2, t3, t4, t5, t6, t7⟩ := h1
  rcases t7 with ⟨u1, u2, u3, u4⟩ | ⟨u1, w', u2, u3, u4⟩
  · refine ⟨c1, q1, ⟨t1, t2, u2, by omega, w, u3⟩, t4, u4, fun Ψ m2 h2 => ?_⟩
    obtain ⟨c2, q2, v1, v2, v3, v4, v5, v6, v7⟩ := h2
    exact ⟨c2, q2, v1, v2, by omega, by omega, by omega, by rw [v6, t6], v7⟩
  · exact absurd (u3.symm.trans w) (nI_ne1 (by omega))
theorem lU_bad (h1 : lx_U Φ n l g c p s m0 m1) (w : gI m1 33 0 4 ≠ -1) (h : ∀ w, Φ (false, w) → Ψ (false, w)) : lx_U Ψ n l g c p s m0 m1 := by
  obtain ⟨c1, q1, t1, t2, t3, t4, t5, t6, t7⟩ := h1
  rcases t7 with ⟨u1, _⟩ | ⟨u1, w', u2, u3, u4⟩
  · exact absurd u1 w
  · exact ⟨c1, q1, t1, t2, t3, t4, t5, t6, Or.inr ⟨u1, w', u2, u3, h _ u4⟩⟩
theorem lU_id {q : Nat} (hm : lx_P n l g c p s m0) (hr : rd_S m0 m1) (h3 : gI m1 33 0 3 = nI q) (hq : p ≤ q) (hq2 : q ≤ l) (h4 : gI m1 33 0 4 = -1) (h5 : gI m1 33 0 5 = nI g) (h : Φ (true, sk (bS s) l q)) : lx_U Φ n l g c p s m0 m1 :=
  ⟨c, q, lr_rd hm.1 hr, h3, Nat.le_refl _, hq, by omega, by rw [hr.1 38 0 _ (fun q => by omega)], Or.inl ⟨h4, hq2, h5, h⟩⟩
theorem lU_no {q w : Nat} (hm : lx_P n l g c p s m0) (hr : rd_S m0 m1) (h3 : gI m1 33 0 3 = nI q) (hq : p ≤ q) (hq2 : q + g ≤ l + 7) (hw : w ≤ 1000) (h4 : gI m1 33 0 4 = nI w) (h : Φ (false, w)) : lx_U Φ n l g c p s m0 m1 :=
  ⟨c, q, lr_rd hm.1 hr, h3, Nat.le_refl _, hq, by omega, by rw [hr.1 38 0 _ (fun q => by omega)], Or.inr ⟨hq2, w, hw, h4, h⟩⟩
/-- a put behind what was read from q + 1 on -/
theorem lU_put {d q : Nat} {x y : Int32} {m2 : LMem} {R : LPost} (hn : n ≤ 6) (hn2 : xI s 33 13 ≤ (n : Int)) (hl2 : l ≤ 200) (hr : rd_S m0 m1) (hpq : p ≤ q) (hcp : c ≤ p) (H : lx_U Φ n l g c (q + 1) s m1 m2) (h : ∀ m3 z, lx_U Φ n l g c p s m0 m3 → gI m3 33 0 3 = nI z → q < z → z ≤ 1000 → R none m3) : qC false (d + 1) 208 [lR 33 (some 0), lI x, lI y] m2 R := by
  obtain ⟨c2, q2, t1, t2, t3, t4, t5, t6, t7⟩ := H
  have hc2 : c2 < 260 ∧ q2 ≤ 1000 := by
    rcases t7 with ⟨_, u2, _⟩ | ⟨u2, _⟩ <;> omega
  refine h_put (n := n) hn hn2 hc2.1 t1 fun m3 S3 P3 => ?_
  have e33 : ∀ j, gI m3 33 0 j = gI m2 33 0 j := fun j => P3.1 33 0 j (fun q => by omega)
  refine h m3 q2 ⟨c2 + 1, q2, S3, by rw [e33, t2], by omega, by omega, by omega, by rw [P3.1 38 0 _ (fun q => by omega), t6, hr.1 38 0 _ (fun q => by omega)], ?_⟩ (by rw [e33, t2]) (by omega) hc2.2
  rw [e33, e33]
  exact t7
end LU
theorem dr_le {b : Nat → Int32} {l : Nat} : ∀ n p, p ≤ l → p + dr b l n p ≤ l := by
  intro n
  induction n with
  | zero => intro p hp; exact hp
  | succ n ih =>
    intro p hp
    show p + (if dgB (tc b l p) = true then dr b l n (p + 1) + 1 else 0) ≤ l
    by_cases e : dgB (tc b l p) = true
    · rw [if_pos e]
      have hpl : p < l := by
        rcases Nat.lt_or_ge p l with c | c
        · exact c
        · unfold tc at e
          rw [if_neg (by omega)] at e
          exact absurd e (by decide)
      have := ih (p + 1) (by omega)
      omega
    · rw [if_neg e]
      exact hp
section TU
variable {d l n g : Nat} {s : LMem} {Q : LPost}
theorem h_lookT {c p : Nat} {m : LMem} (hl : gI s 33 0 2 = nI l) (hl2 : l ≤ 200) (S : lr_S n s m c) (hp : gI m 33 0 3 = nI p) (hp2 : p ≤ 1000) (h : ∀ m1, rd_S m m1 → gI m1 33 0 4 = gI m 33 0 4 → gI m1 33 0 5 = gI m 33 0 5 → gI m1 33 0 3 = nI (sk (bS s) l p) → Q (some (lI (tc (bS s) l (sk (bS s) l p)))) m1) : qC false (d + 2) 205 [lR 33 (some 0)] m Q := by
  rw [← bS_lr S] at h
  exact h_lookF (lr_l S hl) hl2 hp hp2 h
theorem g_sub {g : Nat} (hg : g ≤ 6) {x : Int32} (h : x = nI (g + 1)) : x - 1 = nI g := by
  rw [h]
  apply Int32.toInt_inj.mp
  rw [x_sub1' (by omega) (by omega), nI_toInt (by omega)]
  omega
theorem g_ne6 {g : Nat} (hg : g < 6) : nI g ≠ 6 := fun q => by
  have q := congrArg Int32.toInt q
  rw [nI_toInt (by omega)] at q
  have e : (6 : Int32).toInt = 6 := by decide
  rw [e] at q
  omega
theorem h_atomU {c p : Nat} {m : LMem} (hn : n ≤ 6) (hn2 : xI s 33 13 ≤ (n : Int)) (hg : g ≤ 6) (hl : gI s 33 0 2 = nI l) (hl2 : l ≤ 200) (hm : lx_P n l g c p s m)
    (hs : g < 6 → rdU (Pr (bS s) l 3 (g + 1)) n l (g + 1) s 215 (d + 4))
    (h : ∀ m', lx_U (Pr (bS s) l 0 g (sk (bS s) l p)) n l g c p s m m' → Q none m') : qC false (d + 5) 213 [lR 33 (some 0)] m Q := by
  have hm0 := hm
  obtain ⟨S0, h3, hpl, hcp, h4, h5⟩ := hm
  have sk1 : p ≤ sk (bS s) l p := sk_ge p
  have sk2 : sk (bS s) l p ≤ max p l := sk_le p
  refine qC_of rfl rfl ?_
  refine qa_t1_W (cut := []) 120 ?_
  refine h_lookT hl hl2 S0 h3 (by omega) fun m1 hr k4 k5 k3 => Exists.intro _ (And.intro rfl ?_)
  have S1 := lr_rd S0 hr
  have w1 : gI m1 33 0 4 = -1 := by rw [k4, h4]
  have d1 : gI m1 33 0 5 = nI g := by rw [k5, h5]
  generalize hq : sk (bS s) l p = q at *
  refine h_dig12 (fun hd => Exists.intro 1 (And.intro rfl ?_)) (fun hd => Exists.intro 0 (And.intro rfl ?_))
  · refine And.intro (fun q => absurd q (by decide)) (fun _ => ?_)
    have hb := dgB_t hd
    have hql : q < l := by
      rcases Nat.lt_or_ge q l with z | z
      · exact z
      · unfold tc at hb
        rw [if_neg (by omega)] at hb
        exact absurd hb (by decide)
    have hdr1 : 1 ≤ dr (bS s) l 4 q := by
      show 1 ≤ (if dgB (tc (bS s) l q) = true then dr (bS s) l 3 (q + 1) + 1 else 0)
      rw [if_pos hb]
      omega
    have hdr2 := dr_le (b := bS s) (l := l) 4 q (by omega)
    refine h_plainF (lr_l S1 hl) hl2 k3 (by omega) fun m2 v r2 a3 a5 a4 a4' => Exists.intro v (And.intro rfl ?_)
    rw [bS_lr S1] at a3 a4 a4'
    have S2 := lr_rd S1 r2
    refine h_put hn hn2 (by omega) S2 fun m3 S3 P3 => And.intro rfl (h m3 ?_)
    have e33 : ∀ j, gI m3 33 0 j = gI m2 33 0 j := fun j => P3.1 33 0 j (fun q => by omega)
    refine ⟨c + 1, q + dr (bS s) l 4 q, S3, by rw [e33, a3], by omega, by omega, by omega, by rw [P3.1 38 0 _ (fun q => by omega), r2.1 38 0 _ (fun q => by omega), hr.1 38 0 _ (fun q => by omega)], ?_⟩
    cases hb2 : dgB (tc (bS s) l (q + dr (bS s) l 4 q)) with
    | false => exact Or.inl ⟨by rw [e33, a4 hb2, w1], by omega, by rw [e33, a5, d1], pr_num hb hb2⟩
    | true => exact Or.inr ⟨by omega, _, by omega, by rw [e33]; exact a4' hb2 w1, pr_num5 hb hb2⟩
  · refine And.intro (fun _ => ?_) (fun q => absurd rfl q)
    have hb := dgB_f hd
    refine h_letterOf (Exists.intro _ (And.intro rfl ?_))
    refine And.intro (fun e1 => ?_) (fun hne => ?_)
    · have e1 : ltF (tc (bS s) l q) = -1 := e1
      refine And.intro (fun e => ?_) (fun e => ?_)
      · have e : tc (bS s) l q = 91 := e
        have hql := tc_lt (by decide) e
        refine h_opensF k3 (by omega) d1 w1 fun m2 r2 a2 b2 w2 => And.intro rfl ?_
        have r2 := rd_tr hr r2
        rcases w2 with ⟨w2, g6⟩ | ⟨w2, g6⟩
        · have hg6 : g < 6 := by
            rcases Nat.lt_or_ge g 6 with z | z
            · exact z
            · exact absurd (by rw [show g = 6 by omega]; rfl) g6
          refine And.intro (fun _ => ?_) (fun w => absurd w2 w)
          refine hs hg6 c (q + 1) m2 _ ⟨lr_rd S0 r2, a2, by omega, by omega, w2, b2⟩ fun m3 hm3 => And.intro rfl ?_
          obtain ⟨c3, q3, t1, t2, t3, t4, t5, t6, t7⟩ := hm3
          have hq3 : q3 ≤ 1000 := by
            rcases t7 with ⟨_, u2, _⟩ | ⟨u2, _⟩ <;> omega
          refine h_closesF (lr_l t1 hl) hl2 t2 hq3 fun m4 q4 r4 a4 b4 w4 => And.intro rfl (h m4 ?_)
          rw [bS_lr t1] at w4
          have e38 : gI m4 38 0 n = gI m 38 0 n := by rw [r4.1 38 0 _ (fun q => by omega), t6, r2.1 38 0 _ (fun q => by omega)]
          have s1 : q3 ≤ sk (bS s) l q3 := sk_ge q3
          have s2 : sk (bS s) l q3 ≤ max q3 l := sk_le q3
          rcases t7 with ⟨u1, u2, u3, u4⟩ | ⟨u1, w, u2, u3, u4⟩
          · have hd4 : gI m4 33 0 5 = nI g := by rw [b4]; exact g_sub hg u3
            rcases w4 with ⟨w4, _⟩ | ⟨_, eq4, w4⟩
            · exact absurd u1 w4
            · have P := pr_br e hg6 u4
              rw [← eq4] at P s1 s2
              refine ⟨c3, q4 + 1, lr_rd t1 r4, a4, t3, by omega, by omega, e38, ?_⟩
              rcases w4 with ⟨e93, w4⟩ | ⟨e93, w4⟩
              · rw [if_pos e93] at P
                have := tc_lt (by decide) e93
                exact Or.inl ⟨w4, by omega, hd4, P⟩
              · rw [if_neg e93] at P
                exact Or.inr ⟨by omega, q4, by omega, w4, P⟩
          · rcases w4 with ⟨_, w4, eq4⟩ | ⟨w4, _⟩
            · refine ⟨c3, q4 + 1, lr_rd t1 r4, a4, t3, by omega, by omega, e38, Or.inr ⟨by omega, w, u2, by rw [w4, u3], pr_brf e hg6 u4⟩⟩
            · exact absurd (u3.symm.trans w4) (nI_ne1 (by omega))
        · have hg6 : 6 ≤ g := by
            rcases Nat.lt_or_ge g 6 with z | z
            · exact absurd g6 (g_ne6 z)
            · exact z
          refine And.intro (fun w => absurd (w2.symm.trans w) (nI_ne1 (by omega))) (fun _ => h m2 ?_)
          exact lU_no hm0 r2 a2 (by omega) (by omega) (by omega) w2 (pr_br6 e hg6)
      · have e : ¬ tc (bS s) l q = 91 := e
        have fin : Q none (sI m1 33 0 4 (nI q)) := by
          refine h _ (lU_no hm0 (rd_s (Or.inr (Or.inl rfl)) hr) (q := q) (w := q) ?_ sk1 (by omega) (by omega) ?_ (pr_no hb e1 e))
          · rw [gI_sI, if_neg (fun q => absurd q.2.2 (by decide)), k3]
          · rw [gI_sI, if_pos ⟨rfl, rfl, rfl⟩]
        exact h_bad k3 (fun _ => And.intro rfl fin) (fun w => absurd w1 w)
    · have hne : ltF (tc (bS s) l q) ≠ -1 := hne
      have hql : q < l := by
        rcases Nat.lt_or_ge q l with z | z
        · exact z
        · unfold tc at hne
          rw [if_neg (by omega)] at hne
          exact absurd (by decide) hne
      have r2 := rd_tr hr (rd_s (s := m1) (v := gI m1 33 0 3 + 1) (Or.inl rfl : (3 : Nat) = 3 ∨ (3 : Nat) = 4 ∨ (3 : Nat) = 5) rd_0)
      have a2 : gI (sI m1 33 0 3 (gI m1 33 0 3 + 1)) 33 0 3 = nI (q + 1) := by rw [gI_sI, if_pos ⟨rfl, rfl, rfl⟩, k3, nI_1]
      have w2 : gI (sI m1 33 0 3 (gI m1 33 0 3 + 1)) 33 0 4 = -1 := by rw [gI_sI, if_neg (fun q => absurd q.2.2 (by decide)), w1]
      have b2 : gI (sI m1 33 0 3 (gI m1 33 0 3 + 1)) 33 0 5 = nI g := by rw [gI_sI, if_neg (fun q => absurd q.2.2 (by decide)), d1]
      refine h_letterOf (Exists.intro _ (And.intro rfl ?_))
      refine h_put hn hn2 (by omega) (lr_rd S0 r2) fun m3 S3 P3 => And.intro rfl (h m3 ?_)
      have e33 : ∀ j, gI m3 33 0 j = gI (sI m1 33 0 3 (gI m1 33 0 3 + 1)) 33 0 j := fun j => P3.1 33 0 j (fun q => by omega)
      have e38 : gI m3 38 0 n = gI m 38 0 n := (P3.1 38 0 _ (fun q => by omega)).trans (r2.1 38 0 _ (fun q => by omega))
      exact ⟨c + 1, q + 1, S3, (e33 3).trans a2, by omega, by omega, by omega, e38, Or.inl ⟨(e33 4).trans w2, by omega, (e33 5).trans b2, pr_let hb hne⟩⟩
/-- a loop of term or sum: M the loop's method, A what it reads, sa sb its signs -/
theorem term_lU {bc bs c0 p0 : Nat} {m0 : LMem} (hn : n ≤ 6) (hn2 : xI s 33 13 ≤ (n : Int)) (hl : gI s 33 0 2 = nI l) (hl2 : l ≤ 200) (hcp0 : c0 ≤ p0)
    (ha : rdU (Pr (bS s) l 0 g) n l g s 213 (d + 5))
    (h : ∀ m', lx_U (Pr (bS s) l 1 g (sk (bS s) l p0)) n l g c0 p0 s m0 m' → Q none m') : ∀ f c q m, l - q < f → lx_P n l g c q s m → sk (bS s) l q = q → (∀ (Ψ : Bool × Nat → Prop) m2, lx_U Ψ n l g c q s m m2 → lx_U Ψ n l g c0 p0 s m0 m2) → (∀ x, Pr (bS s) l 2 g q x → Pr (bS s) l 1 g (sk (bS s) l p0) x) → qW false (d + 5) 214 bc bs 21 [some (lR 33 (some 0)), some (lI (tc (bS s) l q))] [] m Q := by
  intro f
  induction f with
  | zero => intro c q m hf; exact absurd hf (Nat.not_lt_zero _)
  | succ f ih =>
    intro c q m hf hm hsk hA hK
    have hm0 := hm
    obtain ⟨S0, h3, hpl, hcp, h4, h5⟩ := hm
    have r2 := rd_s (s := m) (v := gI m 33 0 3 + 1) (Or.inl rfl : (3 : Nat) = 3 ∨ (3 : Nat) = 4 ∨ (3 : Nat) = 5) rd_0
    have a2 : gI (sI m 33 0 3 (gI m 33 0 3 + 1)) 33 0 3 = nI (q + 1) := by rw [gI_sI, if_pos ⟨rfl, rfl, rfl⟩, h3, nI_1]
    have w2 : gI (sI m 33 0 3 (gI m 33 0 3 + 1)) 33 0 4 = -1 := by rw [gI_sI, if_neg (fun q => absurd q.2.2 (by decide)), h4]
    have d2 : gI (sI m 33 0 3 (gI m 33 0 3 + 1)) 33 0 5 = nI g := by rw [gI_sI, if_neg (fun q => absurd q.2.2 (by decide)), h5]
    have S2 := lr_rd S0 r2
    have go : q < l → (tc (bS s) l q = 42 ∨ tc (bS s) l q = 47) → qC false (d + 5) 213 [lR 33 (some 0)] (sI m 33 0 3 (gI m 33 0 3 + 1)) (fun r m3 => r = none ∧ ∀ x : Int32, qC false (d + 5) 208 [lR 33 (some 0), lI x, lI 0] m3 (fun r m4 => r = none ∧ qW false (d + 5) 214 bc bs 63 [some (lR 33 (some 0)), some (lI (tc (bS s) l q))] [] m4 Q)) := fun hql hc => by
      refine ha c (q + 1) _ _ ⟨S2, a2, by omega, by omega, w2, d2⟩ fun m3 hm3 => And.intro rfl fun x => ?_
      refine lU_put hn hn2 hl2 r2 (Nat.le_refl q) hcp hm3 fun m4 z hm4 z1 z2 z3 => And.intro rfl ?_
      refine qa_t1_W (cut := [21]) 40 ?_
      refine And.intro (fun w => ?_) (fun w => ?_)
      · have w : gI m4 33 0 4 = -1 := w
        obtain ⟨c1, q1, P1, hq1, hT, K⟩ := lU_app hcp hm4 w
        have P1' := P1
        obtain ⟨S1, x3, x1, x2, x4, x5⟩ := P1
        have ez := congrArg Int32.toInt (x3.symm.trans z1)
        rw [nI_toInt (by omega), nI_toInt (by omega)] at ez
        have s1 : q1 ≤ sk (bS s) l q1 := sk_ge q1
        have s2 : sk (bS s) l q1 ≤ max q1 l := sk_le q1
        refine h_lookT hl hl2 S1 x3 (by omega) fun m5 r5 k4 k5 k3 => Exists.intro _ (And.intro rfl ?_)
        have P5 : lx_P n l g c1 (sk (bS s) l q1) s m5 := ⟨lr_rd S1 r5, k3, by omega, by omega, by rw [k4, x4], by rw [k5, x5]⟩
        refine ih c1 _ m5 (by omega) P5 (sk_sk q1) (fun Ψ m6 h6 => hA Ψ m6 (K Ψ m6 ?_)) (fun x hx => hK x (pr_termL hc hT hx))
        obtain ⟨c2, q2, v1, v2, v3, v4, v5, v6, v7⟩ := h6
        exact ⟨c2, q2, v1, v2, v3, by omega, by omega, by rw [v6, r5.1 38 0 _ (fun q => by omega)], v7⟩
      · have w : ¬ gI m4 33 0 4 = -1 := w
        exact term_x (h m4 (hA _ m4 (lU_bad hm4 w (fun w hw => hK _ (pr_termLf hc hw)))))
    refine qa_t1_W (cut := [63]) 60 ?_
    refine And.intro (fun e => ?_) (fun ne => ?_)
    · have e : tc (bS s) l q = 42 := e
      refine qC_mono (go (tc_lt (by decide) e) (Or.inl e)) (fun r m3 k => ?_)
      exact And.intro k.1 (And.intro (fun _ => k.2 4) (fun q => absurd e q))
    · have ne : ¬ tc (bS s) l q = 42 := ne
      refine And.intro (fun e => ?_) (fun ne2 => ?_)
      · have e : tc (bS s) l q = 47 := e
        refine qC_mono (go (tc_lt (by decide) e) (Or.inr e)) (fun r m3 k => ?_)
        exact And.intro k.1 (And.intro (fun q => absurd q ne) (fun _ => k.2 5))
      · have ne2 : ¬ tc (bS s) l q = 47 := ne2
        refine h m (hA _ m (lU_id hm0 rd_0 h3 (Nat.le_refl _) hpl h4 h5 ?_))
        rw [hsk]
        exact hK _ (pr_termL0 (fun c => by rcases c with c | c; exact ne c; exact ne2 c))
theorem sum_lU {bc bs c0 p0 : Nat} {m0 : LMem} (hn : n ≤ 6) (hn2 : xI s 33 13 ≤ (n : Int)) (hl : gI s 33 0 2 = nI l) (hl2 : l ≤ 200) (hcp0 : c0 ≤ p0)
    (ha : rdU (Pr (bS s) l 1 g) n l g s 214 (d + 6))
    (h : ∀ m', lx_U (Pr (bS s) l 3 g (sk (bS s) l p0)) n l g c0 p0 s m0 m' → Q none m') : ∀ f c q m, l - q < f → lx_P n l g c q s m → sk (bS s) l q = q → (∀ (Ψ : Bool × Nat → Prop) m2, lx_U Ψ n l g c q s m m2 → lx_U Ψ n l g c0 p0 s m0 m2) → (∀ x, Pr (bS s) l 4 g q x → Pr (bS s) l 3 g (sk (bS s) l p0) x) → qW false (d + 6) 215 bc bs 21 [some (lR 33 (some 0)), some (lI (tc (bS s) l q))] [] m Q := by
  intro f
  induction f with
  | zero => intro c q m hf; exact absurd hf (Nat.not_lt_zero _)
  | succ f ih =>
    intro c q m hf hm hsk hA hK
    have hm0 := hm
    obtain ⟨S0, h3, hpl, hcp, h4, h5⟩ := hm
    have r2 := rd_s (s := m) (v := gI m 33 0 3 + 1) (Or.inl rfl : (3 : Nat) = 3 ∨ (3 : Nat) = 4 ∨ (3 : Nat) = 5) rd_0
    have a2 : gI (sI m 33 0 3 (gI m 33 0 3 + 1)) 33 0 3 = nI (q + 1) := by rw [gI_sI, if_pos ⟨rfl, rfl, rfl⟩, h3, nI_1]
    have w2 : gI (sI m 33 0 3 (gI m 33 0 3 + 1)) 33 0 4 = -1 := by rw [gI_sI, if_neg (fun q => absurd q.2.2 (by decide)), h4]
    have d2 : gI (sI m 33 0 3 (gI m 33 0 3 + 1)) 33 0 5 = nI g := by rw [gI_sI, if_neg (fun q => absurd q.2.2 (by decide)), h5]
    have S2 := lr_rd S0 r2
    have go : q < l → (tc (bS s) l q = 43 ∨ tc (bS s) l q = 45) → qC false (d + 6) 214 [lR 33 (some 0)] (sI m 33 0 3 (gI m 33 0 3 + 1)) (fun r m3 => r = none ∧ ∀ x : Int32, qC false (d + 6) 208 [lR 33 (some 0), lI x, lI 0] m3 (fun r m4 => r = none ∧ qW false (d + 6) 215 bc bs 63 [some (lR 33 (some 0)), some (lI (tc (bS s) l q))] [] m4 Q)) := fun hql hc => by
      refine ha c (q + 1) _ _ ⟨S2, a2, by omega, by omega, w2, d2⟩ fun m3 hm3 => And.intro rfl fun x => ?_
      refine lU_put hn hn2 hl2 r2 (Nat.le_refl q) hcp hm3 fun m4 z hm4 z1 z2 z3 => And.intro rfl ?_
      refine qa_t1_W (cut := [21]) 40 ?_
      refine And.intro (fun w => ?_) (fun w => ?_)
      · have w : gI m4 33 0 4 = -1 := w
        obtain ⟨c1, q1, P1, hq1, hT, K⟩ := lU_app hcp hm4 w
        obtain ⟨S1, x3, x1, x2, x4, x5⟩ := P1
        have ez := congrArg Int32.toInt (x3.symm.trans z1)
        rw [nI_toInt (by omega), nI_toInt (by omega)] at ez
        have s1 : q1 ≤ sk (bS s) l q1 := sk_ge q1
        have s2 : sk (bS s) l q1 ≤ max q1 l := sk_le q1
        refine h_lookT hl hl2 S1 x3 (by omega) fun m5 r5 k4 k5 k3 => Exists.intro _ (And.intro rfl ?_)
        have P5 : lx_P n l g c1 (sk (bS s) l q1) s m5 := ⟨lr_rd S1 r5, k3, by omega, by omega, by rw [k4, x4], by rw [k5, x5]⟩
        refine ih c1 _ m5 (by omega) P5 (sk_sk q1) (fun Ψ m6 h6 => hA Ψ m6 (K Ψ m6 ?_)) (fun x hx => hK x (pr_sumL hc hT hx))
        obtain ⟨c2, q2, v1, v2, v3, v4, v5, v6, v7⟩ := h6
        exact ⟨c2, q2, v1, v2, v3, by omega, by omega, by rw [v6, r5.1 38 0 _ (fun q => by omega)], v7⟩
      · have w : ¬ gI m4 33 0 4 = -1 := w
        exact sum_x (h m4 (hA _ m4 (lU_bad hm4 w (fun w hw => hK _ (pr_sumLf hc hw)))))
    refine qa_t1_W (cut := [63]) 60 ?_
    refine And.intro (fun e => ?_) (fun ne => ?_)
    · have e : tc (bS s) l q = 43 := e
      refine qC_mono (go (tc_lt (by decide) e) (Or.inl e)) (fun r m3 k => ?_)
      exact And.intro k.1 (And.intro (fun _ => k.2 2) (fun q => absurd e q))
    · have ne : ¬ tc (bS s) l q = 43 := ne
      refine And.intro (fun e => ?_) (fun ne2 => ?_)
      · have e : tc (bS s) l q = 45 := e
        refine qC_mono (go (tc_lt (by decide) e) (Or.inr e)) (fun r m3 k => ?_)
        exact And.intro k.1 (And.intro (fun q => absurd q ne) (fun _ => k.2 3))
      · have ne2 : ¬ tc (bS s) l q = 45 := ne2
        refine h m (hA _ m (lU_id hm0 rd_0 h3 (Nat.le_refl _) hpl h4 h5 ?_))
        rw [hsk]
        exact hK _ (pr_sumL0 (fun c => by rcases c with c | c; exact ne c; exact ne2 c))
theorem h_termU (hn : n ≤ 6) (hn2 : xI s 33 13 ≤ (n : Int)) (hl : gI s 33 0 2 = nI l) (hl2 : l ≤ 200)
    (ha : rdU (Pr (bS s) l 0 g) n l g s 213 (d + 5)) : rdU (Pr (bS s) l 1 g) n l g s 214 (d + 5 + 1) := fun c p m R hm h => by
  have hcp := hm.2.2.2.1
  refine qC_of rfl rfl ?_
  refine qa_t1_W (cut := [21]) 60 ?_
  refine ha c p m _ hm fun m1 hm1 => And.intro rfl ?_
  refine And.intro (fun w => ?_) (fun w => term_x (h m1 (lU_bad hm1 w (fun w hw => pr_termf hw))))
  have w : gI m1 33 0 4 = -1 := w
  obtain ⟨c1, q1, P1, hq1, hT, K⟩ := lU_app hcp hm1 w
  obtain ⟨S1, x3, x1, x2, x4, x5⟩ := P1
  have s1 : q1 ≤ sk (bS s) l q1 := sk_ge q1
  have s2 : sk (bS s) l q1 ≤ max q1 l := sk_le q1
  refine h_lookT hl hl2 S1 x3 (by omega) fun m5 r5 k4 k5 k3 => Exists.intro _ (And.intro rfl ?_)
  have P5 : lx_P n l g c1 (sk (bS s) l q1) s m5 := ⟨lr_rd S1 r5, k3, by omega, by omega, by rw [k4, x4], by rw [k5, x5]⟩
  refine term_lU hn hn2 hl hl2 hcp ha h (l - sk (bS s) l q1 + 1) c1 _ m5 (by omega) P5 (sk_sk q1) (fun Ψ m6 h6 => K Ψ m6 ?_) (fun x hx => pr_term hT hx)
  obtain ⟨c2, q2, v1, v2, v3, v4, v5, v6, v7⟩ := h6
  exact ⟨c2, q2, v1, v2, v3, by omega, by omega, by rw [v6, r5.1 38 0 _ (fun q => by omega)], v7⟩
theorem h_sumU (hn : n ≤ 6) (hn2 : xI s 33 13 ≤ (n : Int)) (hl : gI s 33 0 2 = nI l) (hl2 : l ≤ 200)
    (ha : rdU (Pr (bS s) l 1 g) n l g s 214 (d + 6)) : rdU (Pr (bS s) l 3 g) n l g s 215 (d + 6 + 1) := fun c p m R hm h => by
  have hcp := hm.2.2.2.1
  refine qC_of rfl rfl ?_
  refine qa_t1_W (cut := [21]) 60 ?_
  refine ha c p m _ hm fun m1 hm1 => And.intro rfl ?_
  refine And.intro (fun w => ?_) (fun w => sum_x (h m1 (lU_bad hm1 w (fun w hw => pr_sumf hw))))
  have w : gI m1 33 0 4 = -1 := w
  obtain ⟨c1, q1, P1, hq1, hT, K⟩ := lU_app hcp hm1 w
  obtain ⟨S1, x3, x1, x2, x4, x5⟩ := P1
  have s1 : q1 ≤ sk (bS s) l q1 := sk_ge q1
  have s2 : sk (bS s) l q1 ≤ max q1 l := sk_le q1
  refine h_lookT hl hl2 S1 x3 (by omega) fun m5 r5 k4 k5 k3 => Exists.intro _ (And.intro rfl ?_)
  have P5 : lx_P n l g c1 (sk (bS s) l q1) s m5 := ⟨lr_rd S1 r5, k3, by omega, by omega, by rw [k4, x4], by rw [k5, x5]⟩
  refine sum_lU hn hn2 hl hl2 hcp ha h (l - sk (bS s) l q1 + 1) c1 _ m5 (by omega) P5 (sk_sk q1) (fun Ψ m6 h6 => K Ψ m6 ?_) (fun x hx => pr_sum hT hx)
  obtain ⟨c2, q2, v1, v2, v3, v4, v5, v6, v7⟩ := h6
  exact ⟨c2, q2, v1, v2, v3, by omega, by omega, by rw [v6, r5.1 38 0 _ (fun q => by omega)], v7⟩
end TU
theorem h_sumGU {l n : Nat} {s : LMem} (hn : n ≤ 6) (hn2 : xI s 33 13 ≤ (n : Int)) (hl : gI s 33 0 2 = nI l) (hl2 : l ≤ 200) : ∀ k g, g + k = 6 → ∀ d, rdU (Pr (bS s) l 3 g) n l g s 215 (d + 3 * k + 7) := by
  intro k
  induction k with
  | zero =>
    intro g hg d
    have at_ : rdU (Pr (bS s) l 0 g) n l g s 213 (d + 5) := fun c p m R hP hR => h_atomU hn hn2 (by omega) hl hl2 hP (fun q => absurd q (by omega)) hR
    exact h_sumU hn hn2 hl hl2 (h_termU hn hn2 hl hl2 at_)
  | succ k ih =>
    intro g hg d
    have at_ : rdU (Pr (bS s) l 0 g) n l g s 213 (d + 3 * k + 3 + 5) := fun c p m R hP hR => h_atomU hn hn2 (by omega) hl hl2 hP (fun _ => ih (g + 1) (by omega) d) hR
    have e : d + 3 * (k + 1) + 7 = d + 3 * k + 3 + 6 + 1 := by omega
    rw [e]
    exact h_sumU hn hn2 hl hl2 (h_termU hn hn2 hl hl2 at_)
/-! how far a reader goes -/
theorem sq_inv {x : Bool × Nat} {k : Nat → Bool × Nat} {q : Nat} (h : sq x k = (true, q)) : ∃ z, x = (true, z) ∧ k z = (true, q) := by
  obtain ⟨a, c⟩ := x
  cases a with
  | true => exact ⟨c, rfl, h⟩
  | false => cases h
theorem pr_inj {a q : Nat} (h : ((true, a) : Bool × Nat) = (true, q)) : a = q := by cases h; rfl
theorem pr_ft {a q : Nat} (h : ((false, a) : Bool × Nat) = (true, q)) : False := by cases h
def geP (nt p q : Nat) : Prop := p ≤ q ∧ ((nt = 0 ∨ nt = 1 ∨ nt = 3 ∨ nt = 6 ∨ nt = 9) → p + 1 ≤ q) ∧ (nt = 10 → p + 3 ≤ q)
theorem prF_ge {b : Nat → Int32} {l : Nat} : ∀ F nt g p q, prF b l F nt g p = (true, q) → geP nt p q := by
  intro F
  induction F with
  | zero => intro nt g p q h; exact (pr_ft h).elim
  | succ F ih =>
    intro nt g p q h
    have h : bd b l (prF b l F) nt g p = (true, q) := h
    have one : ∀ nt g z y, (nt = 0 ∨ nt = 1 ∨ nt = 3 ∨ nt = 6 ∨ nt = 9) → prF b l F nt g z = (true, y) → z + 1 ≤ y := fun nt g z y hn e => (ih nt g z y e).2.1 hn
    have zero : ∀ nt g z y, prF b l F nt g z = (true, y) → z ≤ y := fun nt g z y e => (ih nt g z y e).1
    have s : ∀ z, z ≤ sk b l z := fun z => sk_ge z
    match nt with
    | 0 =>
      have h : (if dgB (tc b l p) = true then (if dgB (tc b l (p + dr b l 4 p)) = true then (false, p + dr b l 4 p) else (true, sk b l (p + dr b l 4 p))) else if ltF (tc b l p) ≠ -1 then (true, sk b l (p + 1)) else if tc b l p = 91 then (if 6 ≤ g then (false, p) else sq (prF b l F 3 (g + 1) (sk b l (p + 1))) fun q => if tc b l q = 93 then (true, sk b l (q + 1)) else (false, q)) else (false, p)) = (true, q) := h
      suffices p + 1 ≤ q from ⟨by omega, fun _ => this, fun e => absurd e (by decide)⟩
      have s1 := s (p + 1)
      by_cases e : dgB (tc b l p) = true
      · rw [if_pos e] at h
        have hd : 1 ≤ dr b l 4 p := by
          show 1 ≤ (if dgB (tc b l p) = true then dr b l 3 (p + 1) + 1 else 0)
          rw [if_pos e]
          omega
        by_cases e2 : dgB (tc b l (p + dr b l 4 p)) = true
        · rw [if_pos e2] at h
          exact (pr_ft h).elim
        · rw [if_neg e2] at h
          have := pr_inj h
          have := s (p + dr b l 4 p)
          omega
      · rw [if_neg e] at h
        by_cases e2 : ltF (tc b l p) ≠ -1
        · rw [if_pos e2] at h
          have := pr_inj h
          omega
        · rw [if_neg e2] at h
          by_cases e3 : tc b l p = 91
          · rw [if_pos e3] at h
            by_cases e4 : 6 ≤ g
            · rw [if_pos e4] at h
              exact (pr_ft h).elim
            · rw [if_neg e4] at h
              obtain ⟨z, h1, h2⟩ := sq_inv h
              have := zero _ _ _ _ h1
              by_cases e5 : tc b l z = 93
              · rw [if_pos e5] at h2
                have := pr_inj h2
                have := s (z + 1)
                omega
              · rw [if_neg e5] at h2
                exact (pr_ft h2).elim
          · rw [if_neg e3] at h
            exact (pr_ft h).elim
    | 1 =>
      obtain ⟨z, h1, h2⟩ := sq_inv h
      have := one 0 _ _ _ (Or.inl rfl) h1
      have := zero _ _ _ _ h2
      exact ⟨by omega, fun _ => by omega, fun e => absurd e (by decide)⟩
    | 2 =>
      have h : (if tc b l p = 42 ∨ tc b l p = 47 then sq (prF b l F 0 g (sk b l (p + 1))) (fun q => prF b l F 2 g q) else (true, p)) = (true, q) := h
      refine ⟨?_, fun e => absurd e (by decide), fun e => absurd e (by decide)⟩
      by_cases e : tc b l p = 42 ∨ tc b l p = 47
      · rw [if_pos e] at h
        obtain ⟨z, h1, h2⟩ := sq_inv h
        have := zero _ _ _ _ h1
        have := zero _ _ _ _ h2
        have := s (p + 1)
        omega
      · rw [if_neg e] at h
        have := pr_inj h
        omega
    | 3 =>
      obtain ⟨z, h1, h2⟩ := sq_inv h
      have := one 1 _ _ _ (Or.inr (Or.inl rfl)) h1
      have := zero _ _ _ _ h2
      exact ⟨by omega, fun _ => by omega, fun e => absurd e (by decide)⟩
    | 4 =>
      have h : (if tc b l p = 43 ∨ tc b l p = 45 then sq (prF b l F 1 g (sk b l (p + 1))) (fun q => prF b l F 4 g q) else (true, p)) = (true, q) := h
      refine ⟨?_, fun e => absurd e (by decide), fun e => absurd e (by decide)⟩
      by_cases e : tc b l p = 43 ∨ tc b l p = 45
      · rw [if_pos e] at h
        obtain ⟨z, h1, h2⟩ := sq_inv h
        have := zero _ _ _ _ h1
        have := zero _ _ _ _ h2
        have := s (p + 1)
        omega
      · rw [if_neg e] at h
        have := pr_inj h
        omega
    | 5 =>
      have h : (if sgB (tc b l p) = true then prF b l F 3 g (sk b l (p + 1)) else (false, p)) = (true, q) := h
      refine ⟨?_, fun e => absurd e (by decide), fun e => absurd e (by decide)⟩
      by_cases e : sgB (tc b l p) = true
      · rw [if_pos e] at h
        have := zero _ _ _ _ h
        have := s (p + 1)
        omega
      · rw [if_neg e] at h
        exact (pr_ft h).elim
    | 6 =>
      have h : (if tc b l p = 33 then (if 6 ≤ g then (false, p) else prF b l F 6 (g + 1) (sk b l (p + 1))) else if tc b l p = 40 then (if 6 ≤ g then (false, p) else sq (prF b l F 9 (g + 1) (sk b l (p + 1))) fun q => if tc b l q = 41 then (true, sk b l (q + 1)) else (false, q)) else sq (prF b l F 3 g p) fun q => prF b l F 5 g q) = (true, q) := h
      suffices p + 1 ≤ q from ⟨by omega, fun _ => this, fun e => absurd e (by decide)⟩
      have := s (p + 1)
      by_cases e : tc b l p = 33
      · rw [if_pos e] at h
        by_cases e4 : 6 ≤ g
        · rw [if_pos e4] at h
          exact (pr_ft h).elim
        · rw [if_neg e4] at h
          have := zero _ _ _ _ h
          omega
      · rw [if_neg e] at h
        by_cases e2 : tc b l p = 40
        · rw [if_pos e2] at h
          by_cases e4 : 6 ≤ g
          · rw [if_pos e4] at h
            exact (pr_ft h).elim
          · rw [if_neg e4] at h
            obtain ⟨z, h1, h2⟩ := sq_inv h
            have := zero _ _ _ _ h1
            by_cases e5 : tc b l z = 41
            · rw [if_pos e5] at h2
              have := pr_inj h2
              have := s (z + 1)
              omega
            · rw [if_neg e5] at h2
              exact (pr_ft h2).elim
        · rw [if_neg e2] at h
          obtain ⟨z, h1, h2⟩ := sq_inv h
          have := one 3 _ _ _ (Or.inr (Or.inr (Or.inl rfl))) h1
          have := zero _ _ _ _ h2
          omega
    | 7 =>
      have h : (if tc b l p = 38 then sq (prF b l F 6 g (sk b l (p + 1))) (fun q => prF b l F 7 g q) else (true, p)) = (true, q) := h
      refine ⟨?_, fun e => absurd e (by decide), fun e => absurd e (by decide)⟩
      by_cases e : tc b l p = 38
      · rw [if_pos e] at h
        obtain ⟨z, h1, h2⟩ := sq_inv h
        have := zero _ _ _ _ h1
        have := zero _ _ _ _ h2
        have := s (p + 1)
        omega
      · rw [if_neg e] at h
        have := pr_inj h
        omega
    | 8 =>
      have h : (if tc b l p = 124 then sq (prF b l F 6 g (sk b l (p + 1))) (fun q => sq (prF b l F 7 g q) fun z => prF b l F 8 g z) else (true, p)) = (true, q) := h
      refine ⟨?_, fun e => absurd e (by decide), fun e => absurd e (by decide)⟩
      by_cases e : tc b l p = 124
      · rw [if_pos e] at h
        obtain ⟨z, h1, h2⟩ := sq_inv h
        obtain ⟨y, h2, h3⟩ := sq_inv h2
        have := zero _ _ _ _ h1
        have := zero _ _ _ _ h2
        have := zero _ _ _ _ h3
        have := s (p + 1)
        omega
      · rw [if_neg e] at h
        have := pr_inj h
        omega
    | 9 =>
      obtain ⟨z, h1, h2⟩ := sq_inv h
      obtain ⟨y, h2, h3⟩ := sq_inv h2
      have := one 6 _ _ _ (Or.inr (Or.inr (Or.inr (Or.inl rfl)))) h1
      have := zero _ _ _ _ h2
      have := zero _ _ _ _ h3
      exact ⟨by omega, fun _ => by omega, fun e => absurd e (by decide)⟩
    | 10 =>
      have h : (if tc b l p = 121 then (if tc b l (sk b l (p + 1)) = 58 then
        (if tc b l (sk b l (sk b l (p + 1) + 1)) = 33 ∨ tc b l (sk b l (sk b l (p + 1) + 1)) = 40 then sq (prF b l F 9 0 (sk b l (sk b l (p + 1) + 1))) fun q => prF b l F 12 0 q
          else sq (prF b l F 3 0 (sk b l (sk b l (p + 1) + 1))) fun q => if sgB (tc b l q) = true then sq (prF b l F 5 0 q) fun q => sq (prF b l F 7 0 q) fun q => sq (prF b l F 8 0 q) fun q => prF b l F 12 0 q else (true, q))
        else (false, sk b l (p + 1))) else (false, p)) = (true, q) := h
      suffices p + 3 ≤ q from ⟨by omega, fun e => absurd e (by decide), fun _ => this⟩
      have s1 := s (p + 1)
      have s2 := s (sk b l (p + 1) + 1)
      by_cases e : tc b l p = 121
      · rw [if_pos e] at h
        by_cases e2 : tc b l (sk b l (p + 1)) = 58
        · rw [if_pos e2] at h
          by_cases e3 : tc b l (sk b l (sk b l (p + 1) + 1)) = 33 ∨ tc b l (sk b l (sk b l (p + 1) + 1)) = 40
          · rw [if_pos e3] at h
            obtain ⟨z, h1, h2⟩ := sq_inv h
            have := one 9 _ _ _ (Or.inr (Or.inr (Or.inr (Or.inr rfl)))) h1
            have := zero _ _ _ _ h2
            omega
          · rw [if_neg e3] at h
            obtain ⟨z, h1, h2⟩ := sq_inv h
            have := one 3 _ _ _ (Or.inr (Or.inr (Or.inl rfl))) h1
            by_cases e4 : sgB (tc b l z) = true
            · rw [if_pos e4] at h2
              obtain ⟨y, h2, h3⟩ := sq_inv h2
              obtain ⟨x, h3, h4⟩ := sq_inv h3
              obtain ⟨u, h4, h5⟩ := sq_inv h4
              have := zero _ _ _ _ h2
              have := zero _ _ _ _ h3
              have := zero _ _ _ _ h4
              have := zero _ _ _ _ h5
              omega
            · rw [if_neg e4] at h2
              have := pr_inj h2
              omega
        · rw [if_neg e2] at h
          exact (pr_ft h).elim
      · rw [if_neg e] at h
        exact (pr_ft h).elim
    | 11 =>
      have h : (sq (prF b l F 10 0 p) fun q => if tc b l q = 59 then prF b l F 11 0 (sk b l (q + 1)) else if tc b l q = -1 then (true, q) else (false, q)) = (true, q) := h
      refine ⟨?_, fun e => absurd e (by decide), fun e => absurd e (by decide)⟩
      obtain ⟨z, h1, h2⟩ := sq_inv h
      have := zero _ _ _ _ h1
      by_cases e : tc b l z = 59
      · rw [if_pos e] at h2
        have := zero _ _ _ _ h2
        have := s (z + 1)
        omega
      · rw [if_neg e] at h2
        by_cases e2 : tc b l z = -1
        · rw [if_pos e2] at h2
          have := pr_inj h2
          omega
        · rw [if_neg e2] at h2
          exact (pr_ft h2).elim
    | k + 12 =>
      have h : (if tc b l p = 63 then prF b l F 3 0 (sk b l (p + 1)) else (false, p)) = (true, q) := h
      refine ⟨?_, fun e => absurd e (by omega), fun e => absurd e (by omega)⟩
      by_cases e : tc b l p = 63
      · rw [if_pos e] at h
        have := zero _ _ _ _ h
        have := s (p + 1)
        omega
      · rw [if_neg e] at h
        exact (pr_ft h).elim
theorem Pr_ge {b : Nat → Int32} {l nt g p q : Nat} (h : Pr b l nt g p (true, q)) : geP nt p q := by
  obtain ⟨F0, h⟩ := h
  exact prF_ge F0 nt g p q (h F0 (Nat.le_refl _))
/-! compare, unit, goOnAnd, goOnOr, condition answer as Pr. -/
theorem sgB_t {c : Int32} (h : sgn c) : sgB c = true := by
  rcases h with rfl | rfl | rfl <;> rfl
theorem sgB_f {c : Int32} (h : ¬ sgn c) : sgB c = false := by
  unfold sgB
  rw [decide_eq_false (fun e => h (Or.inl e)), decide_eq_false (fun e => h (Or.inr (Or.inl e))), decide_eq_false (fun e => h (Or.inr (Or.inr e)))]
  rfl
theorem lU_back {Φ : Bool × Nat → Prop} {n l g c p q : Nat} {s m m1 m' : LMem} (hr : rd_S m m1) (hpq : p ≤ q) (H : lx_U Φ n l g c q s m1 m') : lx_U Φ n l g c p s m m' := by
  obtain ⟨c3, q3, t1, t2, t3, t4, t5, t6, t7⟩ := H
  exact ⟨c3, q3, t1, t2, t3, by omega, by omega, by rw [t6, hr.1 38 0 _ (fun q => by omega)], t7⟩
section CU4
variable {l n g : Nat} {s : LMem}
theorem h_compareU {d : Nat} (hn : n ≤ 6) (hn2 : xI s 33 13 ≤ (n : Int)) (hg : g ≤ 6) (hl : gI s 33 0 2 = nI l) (hl2 : l ≤ 200) (hS : rdU (Pr (bS s) l 3 g) n l g s 215 (d + 4)) : rdU (Pr (bS s) l 5 g) n l g s 217 (d + 5) := fun c p m R hm h => by
  have hm0 := hm
  obtain ⟨S0, h3, hpl, hcp, h4, h5⟩ := hm
  have sk1 : p ≤ sk (bS s) l p := sk_ge p
  have sk2 : sk (bS s) l p ≤ max p l := sk_le p
  refine qC_of rfl rfl ?_
  refine qa_t1_W (cut := []) 80 ?_
  refine And.intro (fun _ => ?_) (fun w => absurd h4 w)
  refine h_lookT hl hl2 S0 h3 (by omega) fun m1 hr k4 k5 k3 => Exists.intro _ (And.intro rfl ?_)
  generalize hq : sk (bS s) l p = q at *
  refine h_isSign (fun hs => Exists.intro 1 (And.intro rfl ?_)) (fun hs => Exists.intro 0 (And.intro rfl ?_))
  · refine And.intro (fun q => absurd q (by decide)) (fun _ => ?_)
    have hq3 := tc_lt (sgn_ne hs) rfl
    have r2 := rd_tr hr (rd_s (s := m1) (v := gI m1 33 0 3 + 1) (Or.inl rfl : (3 : Nat) = 3 ∨ (3 : Nat) = 4 ∨ (3 : Nat) = 5) rd_0)
    have a2 : gI (sI m1 33 0 3 (gI m1 33 0 3 + 1)) 33 0 3 = nI (q + 1) := by rw [gI_sI, if_pos ⟨rfl, rfl, rfl⟩, k3, nI_1]
    have w2 : gI (sI m1 33 0 3 (gI m1 33 0 3 + 1)) 33 0 4 = -1 := by rw [gI_sI, if_neg (fun q => absurd q.2.2 (by decide)), k4, h4]
    have d2 : gI (sI m1 33 0 3 (gI m1 33 0 3 + 1)) 33 0 5 = nI g := by rw [gI_sI, if_neg (fun q => absurd q.2.2 (by decide)), k5, h5]
    refine hS c (q + 1) _ _ ⟨lr_rd S0 r2, a2, by omega, by omega, w2, d2⟩ fun m3 hm3 => And.intro rfl ?_
    have fin : ∀ m4, lx_U (Pr (bS s) l 3 g (sk (bS s) l (q + 1))) n l g c p s m m4 → R none m4 := fun m4 hm4 => h m4 (lU_mono (fun x hx => pr_cmp (sgB_t hs) hx) hm4)
    refine And.intro (fun _ => ?_) (fun _ => And.intro (fun _ => ?_) (fun _ => ?_))
    · exact lU_put hn hn2 hl2 r2 sk1 hcp hm3 fun m4 z hm4 _ _ _ => And.intro rfl (fin m4 hm4)
    · exact lU_put hn hn2 hl2 r2 sk1 hcp hm3 fun m4 z hm4 _ _ _ => And.intro rfl (fin m4 hm4)
    · exact lU_put hn hn2 hl2 r2 sk1 hcp hm3 fun m4 z hm4 _ _ _ => And.intro rfl (fin m4 hm4)
  · refine And.intro (fun _ => ?_) (fun q => absurd rfl q)
    have fin : R none (sI m1 33 0 4 (nI q)) := by
      refine h _ (lU_no hm0 (rd_s (Or.inr (Or.inl rfl)) hr) (q := q) (w := q) ?_ sk1 (by omega) (by omega) ?_ (pr_cmp0 (sgB_f hs)))
      · rw [gI_sI, if_neg (fun q => absurd q.2.2 (by decide)), k3]
      · rw [gI_sI, if_pos ⟨rfl, rfl, rfl⟩]
    exact h_bad k3 (fun _ => And.intro rfl fin) (fun w => absurd (by rw [k4, h4]) w)
theorem and_lU {d bc bs : Nat} {Q : LPost} (hn : n ≤ 6) (hn2 : xI s 33 13 ≤ (n : Int)) (hl : gI s 33 0 2 = nI l) (hl2 : l ≤ 200) (hU : rdU (Pr (bS s) l 6 g) n l g s 218 (d + 3)) : ∀ f c p m, l - p < f → lx_P n l g c p s m → (∀ m', lx_U (Pr (bS s) l 7 g (sk (bS s) l p)) n l g c p s m m' → Q none m') → qW false (d + 3) 219 bc bs 0 [some (lR 33 (some 0))] [] m Q := by
  intro f
  induction f with
  | zero => intro c p m hf; exact absurd hf (Nat.not_lt_zero _)
  | succ f ih =>
    intro c p m hf hm h
    have hm0 := hm
    obtain ⟨S0, h3, hpl, hcp, h4, h5⟩ := hm
    have sk1 : p ≤ sk (bS s) l p := sk_ge p
    have sk2 : sk (bS s) l p ≤ max p l := sk_le p
    have sk3 : sk (bS s) l (sk (bS s) l p) = sk (bS s) l p := sk_sk p
    refine qa_t1_W (cut := [0]) 60 ?_
    refine And.intro (fun _ => ?_) (fun w => absurd h4 w)
    refine h_lookT hl hl2 S0 h3 (by omega) fun m1 hr k4 k5 k3 => Exists.intro _ (And.intro rfl ?_)
    generalize hq : sk (bS s) l p = q at *
    refine And.intro (fun e => ?_) (fun ne => h m1 (lU_id hm0 hr k3 sk1 (by omega) (by rw [k4, h4]) (by rw [k5, h5]) (by rw [sk3]; exact pr_and0 ne)))
    have e : tc (bS s) l q = 38 := e
    have hq3 := tc_lt (by decide) e
    have r2 := rd_tr hr (rd_s (s := m1) (v := gI m1 33 0 3 + 1) (Or.inl rfl : (3 : Nat) = 3 ∨ (3 : Nat) = 4 ∨ (3 : Nat) = 5) rd_0)
    have a2 : gI (sI m1 33 0 3 (gI m1 33 0 3 + 1)) 33 0 3 = nI (q + 1) := by rw [gI_sI, if_pos ⟨rfl, rfl, rfl⟩, k3, nI_1]
    have w2 : gI (sI m1 33 0 3 (gI m1 33 0 3 + 1)) 33 0 4 = -1 := by rw [gI_sI, if_neg (fun q => absurd q.2.2 (by decide)), k4, h4]
    have d2 : gI (sI m1 33 0 3 (gI m1 33 0 3 + 1)) 33 0 5 = nI g := by rw [gI_sI, if_neg (fun q => absurd q.2.2 (by decide)), k5, h5]
    refine hU c (q + 1) _ _ ⟨lr_rd S0 r2, a2, by omega, by omega, w2, d2⟩ fun m3 hm3 => And.intro rfl ?_
    refine lU_put hn hn2 hl2 r2 sk1 hcp hm3 fun m4 z hm4 z1 z2 z3 => And.intro rfl ?_
    by_cases w : gI m4 33 0 4 = -1
    · obtain ⟨c1, q1, P1, hq1, hT, K⟩ := lU_app hcp hm4 w
      have ez := congrArg Int32.toInt (P1.2.1.symm.trans z1)
      rw [nI_toInt (by have := P1.2.2.1; omega), nI_toInt (by omega)] at ez
      exact ih c1 q1 m4 (by omega) P1 (fun m' hm' => h m' (K _ m' (lU_mono (fun x hx => pr_and e hT hx) hm')))
    · exact and_x w (h m4 (lU_bad hm4 w (fun w hw => pr_andf e hw)))
theorem h_andU {d : Nat} (hn : n ≤ 6) (hn2 : xI s 33 13 ≤ (n : Int)) (hl : gI s 33 0 2 = nI l) (hl2 : l ≤ 200) (hU : rdU (Pr (bS s) l 6 g) n l g s 218 (d + 3)) : rdU (Pr (bS s) l 7 g) n l g s 219 (d + 4) := fun c p m R hm h => qC_of rfl rfl (and_lU hn hn2 hl hl2 hU (l - p + 1) c p m (by omega) hm h)
/-- goOnAnd behind a unit -/
theorem unit_and {d c p z : Nat} {m0 m3 : LMem} {R : LPost} (hcp : c ≤ p) (hA : rdU (Pr (bS s) l 7 g) n l g s 219 (d + 1)) (H : lx_U (Pr (bS s) l 6 g z) n l g c p s m0 m3) (h : ∀ m4, lx_U (PrT (bS s) l g z) n l g c p s m0 m4 → R none m4) : qC false (d + 1) 219 [lR 33 (some 0)] m3 R := by
  by_cases w : gI m3 33 0 4 = -1
  · obtain ⟨c1, q1, P1, hq1, hT, K⟩ := lU_app hcp H w
    exact hA c1 q1 m3 _ P1 fun m4 hm4 => h m4 (K _ m4 (lU_mono (fun x hx => Or.inl ⟨_, hT, hx⟩) hm4))
  · exact h_and_x w (h m3 (lU_bad H w (fun w hw => Or.inr ⟨rfl, hw⟩)))
theorem or_lU {d bc bs : Nat} {Q : LPost} (hn : n ≤ 6) (hn2 : xI s 33 13 ≤ (n : Int)) (hl : gI s 33 0 2 = nI l) (hl2 : l ≤ 200) (hU : rdU (Pr (bS s) l 6 g) n l g s 218 (d + 3)) (hA : rdU (Pr (bS s) l 7 g) n l g s 219 (d + 3)) : ∀ f c p m, l - p < f → lx_P n l g c p s m → (∀ m', lx_U (Pr (bS s) l 8 g (sk (bS s) l p)) n l g c p s m m' → Q none m') → qW false (d + 3) 220 bc bs 0 [some (lR 33 (some 0))] [] m Q := by
  intro f
  induction f with
  | zero => intro c p m hf; exact absurd hf (Nat.not_lt_zero _)
  | succ f ih =>
    intro c p m hf hm h
    have hm0 := hm
    obtain ⟨S0, h3, hpl, hcp, h4, h5⟩ := hm
    have sk1 : p ≤ sk (bS s) l p := sk_ge p
    have sk2 : sk (bS s) l p ≤ max p l := sk_le p
    have sk3 : sk (bS s) l (sk (bS s) l p) = sk (bS s) l p := sk_sk p
    refine qa_t1_W (cut := [0]) 60 ?_
    refine And.intro (fun _ => ?_) (fun w => absurd h4 w)
    refine h_lookT hl hl2 S0 h3 (by omega) fun m1 hr k4 k5 k3 => Exists.intro _ (And.intro rfl ?_)
    generalize hq : sk (bS s) l p = q at *
    refine And.intro (fun e => ?_) (fun ne => h m1 (lU_id hm0 hr k3 sk1 (by omega) (by rw [k4, h4]) (by rw [k5, h5]) (by rw [sk3]; exact pr_or0 ne)))
    have e : tc (bS s) l q = 124 := e
    have hq3 := tc_lt (by decide) e
    have r2 := rd_tr hr (rd_s (s := m1) (v := gI m1 33 0 3 + 1) (Or.inl rfl : (3 : Nat) = 3 ∨ (3 : Nat) = 4 ∨ (3 : Nat) = 5) rd_0)
    have a2 : gI (sI m1 33 0 3 (gI m1 33 0 3 + 1)) 33 0 3 = nI (q + 1) := by rw [gI_sI, if_pos ⟨rfl, rfl, rfl⟩, k3, nI_1]
    have w2 : gI (sI m1 33 0 3 (gI m1 33 0 3 + 1)) 33 0 4 = -1 := by rw [gI_sI, if_neg (fun q => absurd q.2.2 (by decide)), k4, h4]
    have d2 : gI (sI m1 33 0 3 (gI m1 33 0 3 + 1)) 33 0 5 = nI g := by rw [gI_sI, if_neg (fun q => absurd q.2.2 (by decide)), k5, h5]
    refine hU c (q + 1) _ _ ⟨lr_rd S0 r2, a2, by omega, by omega, w2, d2⟩ fun m3 hm3 => And.intro rfl ?_
    refine unit_and (by omega) hA hm3 fun m3 hm3 => And.intro rfl ?_
    refine lU_put hn hn2 hl2 r2 sk1 hcp hm3 fun m4 z hm4 z1 z2 z3 => And.intro rfl ?_
    by_cases w : gI m4 33 0 4 = -1
    · obtain ⟨c1, q1, P1, hq1, hT, K⟩ := lU_app hcp hm4 w
      have ez := congrArg Int32.toInt (P1.2.1.symm.trans z1)
      rw [nI_toInt (by have := P1.2.2.1; omega), nI_toInt (by omega)] at ez
      exact ih c1 q1 m4 (by omega) P1 (fun m' hm' => h m' (K _ m' (lU_mono (fun x hx => pr_or e hT hx) hm')))
    · exact or_x w (h m4 (lU_bad hm4 w (fun w hw => pr_orf e hw)))
theorem h_orU {d : Nat} (hn : n ≤ 6) (hn2 : xI s 33 13 ≤ (n : Int)) (hl : gI s 33 0 2 = nI l) (hl2 : l ≤ 200) (hU : rdU (Pr (bS s) l 6 g) n l g s 218 (d + 3)) (hA : rdU (Pr (bS s) l 7 g) n l g s 219 (d + 3)) : rdU (Pr (bS s) l 8 g) n l g s 220 (d + 4) := fun c p m R hm h => qC_of rfl rfl (or_lU hn hn2 hl hl2 hU hA (l - p + 1) c p m (by omega) hm h)
theorem h_condU {K : Nat} (hn : n ≤ 6) (hn2 : xI s 33 13 ≤ (n : Int)) (hl : gI s 33 0 2 = nI l) (hl2 : l ≤ 200) (hU : ∀ d, rdU (Pr (bS s) l 6 g) n l g s 218 (d + K + 3)) (d : Nat) : rdU (Pr (bS s) l 9 g) n l g s 221 (d + K + 6) := fun c p m R hm h => by
  have hcp := hm.2.2.2.1
  have U5 : rdU (Pr (bS s) l 6 g) n l g s 218 (d + K + 5) := by
    rw [show d + K + 5 = d + 2 + K + 3 by omega]
    exact hU (d + 2)
  have U4 : rdU (Pr (bS s) l 6 g) n l g s 218 (d + K + 1 + 3) := by
    rw [show d + K + 1 + 3 = d + 1 + K + 3 by omega]
    exact hU (d + 1)
  have A5 : rdU (Pr (bS s) l 7 g) n l g s 219 (d + K + 4 + 1) := h_andU (d := d + K + 1) hn hn2 hl hl2 U4
  have A4 : rdU (Pr (bS s) l 7 g) n l g s 219 (d + K + 1 + 3) := h_andU (d := d + K) hn hn2 hl hl2 (hU d)
  have O5 : rdU (Pr (bS s) l 8 g) n l g s 220 (d + K + 5) := h_orU (d := d + K + 1) hn hn2 hl hl2 U4 A4
  refine qC_of rfl rfl ?_
  refine qa_t1_W (cut := []) 40 ?_
  refine U5 c p m _ hm fun m1 hm1 => And.intro rfl ?_
  refine unit_and hcp A5 hm1 fun m2 hm2 => And.intro rfl ?_
  by_cases w : gI m2 33 0 4 = -1
  · obtain ⟨c1, q1, P1, hq1, hT, K⟩ := lU_app hcp hm2 w
    exact O5 c1 q1 m2 _ P1 fun m3 hm3 => And.intro rfl (h m3 (K _ m3 (lU_mono (fun x hx => pr_cond hT hx) hm3)))
  · exact h_or_x w (And.intro rfl (h m2 (lU_bad hm2 w (fun w hw => pr_condf hw))))
theorem h_unitU {d c p : Nat} {m : LMem} {Q : LPost} (hn : n ≤ 6) (hn2 : xI s 33 13 ≤ (n : Int)) (hg : g ≤ 6) (hl : gI s 33 0 2 = nI l) (hl2 : l ≤ 200) (hS5 : rdU (Pr (bS s) l 3 g) n l g s 215 (d + 5)) (hS4 : rdU (Pr (bS s) l 3 g) n l g s 215 (d + 4)) (hU : g < 6 → rdU (Pr (bS s) l 6 (g + 1)) n l (g + 1) s 218 (d + 5)) (hC : g < 6 → rdU (Pr (bS s) l 9 (g + 1)) n l (g + 1) s 221 (d + 5)) (hm : lx_P n l g c p s m) (h : ∀ m', lx_U (Pr (bS s) l 6 g (sk (bS s) l p)) n l g c p s m m' → Q none m') : qC false (d + 6) 218 [lR 33 (some 0)] m Q := by
  have hm0 := hm
  obtain ⟨S0, h3, hpl, hcp, h4, h5⟩ := hm
  have sk1 : p ≤ sk (bS s) l p := sk_ge p
  have sk2 : sk (bS s) l p ≤ max p l := sk_le p
  have sk3 : sk (bS s) l (sk (bS s) l p) = sk (bS s) l p := sk_sk p
  refine qC_of rfl rfl ?_
  refine qa_t1_W (cut := []) 100 ?_
  refine h_lookT hl hl2 S0 h3 (by omega) fun m1 hr k4 k5 k3 => Exists.intro _ (And.intro rfl ?_)
  have w1 : gI m1 33 0 4 = -1 := by rw [k4, h4]
  have d1 : gI m1 33 0 5 = nI g := by rw [k5, h5]
  generalize hq : sk (bS s) l p = q at *
  have lt6 : nI g ≠ 6 → g < 6 := fun g6 => by
    rcases Nat.lt_or_ge g 6 with z | z
    · exact z
    · exact absurd (by rw [show g = 6 by omega]; rfl) g6
  have ge6 : nI g = 6 → 6 ≤ g := fun g6 => by
    rcases Nat.lt_or_ge g 6 with z | z
    · exact absurd g6 (g_ne6 z)
    · exact z
  refine And.intro (fun e => ?_) (fun ne => And.intro (fun e => ?_) (fun ne2 => ?_))
  · have e : tc (bS s) l q = 33 := e
    have hq3 := tc_lt (by decide) e
    refine h_opensF k3 (by omega) d1 w1 fun m2 r2 a2 b2 w2 => And.intro rfl ?_
    have r2 := rd_tr hr r2
    rcases w2 with ⟨w2, g6⟩ | ⟨w2, g6⟩
    · refine And.intro (fun _ => ?_) (fun w => absurd w2 w)
      refine hU (lt6 g6) c (q + 1) m2 _ ⟨lr_rd S0 r2, a2, by omega, by omega, w2, b2⟩ fun m3 hm3 => And.intro rfl ?_
      obtain ⟨c3, q3, t1, t2, t3, t4, t5, t6, t7⟩ := hm3
      have hc3 : c3 < 260 := by
        rcases t7 with ⟨_, u2, _⟩ | ⟨u2, _⟩ <;> omega
      refine h_put (n := n) hn hn2 hc3 t1 fun m4 S4 P4 => And.intro rfl ?_
      have e33 : ∀ j, gI m4 33 0 j = gI m3 33 0 j := fun j => P4.1 33 0 j (fun q => by omega)
      have r5 := rd_s (s := m4) (v := gI m4 33 0 5 - 1) (Or.inr (Or.inr rfl) : (5 : Nat) = 3 ∨ (5 : Nat) = 4 ∨ (5 : Nat) = 5) rd_0
      have f3 : gI (sI m4 33 0 5 (gI m4 33 0 5 - 1)) 33 0 3 = nI q3 := by rw [gI_sI, if_neg (fun q => absurd q.2.2 (by decide)), e33, t2]
      have f4 : gI (sI m4 33 0 5 (gI m4 33 0 5 - 1)) 33 0 4 = gI m3 33 0 4 := by rw [gI_sI, if_neg (fun q => absurd q.2.2 (by decide)), e33]
      have f5 : gI (sI m4 33 0 5 (gI m4 33 0 5 - 1)) 33 0 5 = gI m3 33 0 5 - 1 := by rw [gI_sI, if_pos ⟨rfl, rfl, rfl⟩, e33]
      suffices G : lx_U (Pr (bS s) l 6 g q) n l g c p s m (sI m4 33 0 5 (gI m4 33 0 5 - 1)) from h _ G
      refine ⟨c3 + 1, q3, lr_rd S4 r5, f3, by omega, by omega, by omega, by rw [r5.1 38 0 _ (fun q => by omega), P4.1 38 0 _ (fun q => by omega), t6, r2.1 38 0 _ (fun q => by omega)], ?_⟩
      rw [f4, f5]
      rcases t7 with ⟨u1, u2, u3, u4⟩ | ⟨u1, w, u2, u3, u4⟩
      · exact Or.inl ⟨u1, u2, g_sub hg u3, pr_not e (lt6 g6) u4⟩
      · exact Or.inr ⟨by omega, w, u2, u3, pr_not e (lt6 g6) u4⟩
    · refine And.intro (fun w => absurd (w2.symm.trans w) (nI_ne1 (by omega))) (fun _ => h m2 ?_)
      exact lU_no hm0 r2 a2 (by omega) (by omega) (by omega) w2 (pr_not6 e (ge6 g6))
  · have e : tc (bS s) l q = 40 := e
    have hq3 := tc_lt (by decide) e
    refine h_opensF k3 (by omega) d1 w1 fun m2 r2 a2 b2 w2 => And.intro rfl ?_
    have r2 := rd_tr hr r2
    rcases w2 with ⟨w2, g6⟩ | ⟨w2, g6⟩
    · have hg6 := lt6 g6
      refine And.intro (fun _ => ?_) (fun w => absurd w2 w)
      refine hC hg6 c (q + 1) m2 _ ⟨lr_rd S0 r2, a2, by omega, by omega, w2, b2⟩ fun m3 hm3 => And.intro rfl ?_
      obtain ⟨c3, q3, t1, t2, t3, t4, t5, t6, t7⟩ := hm3
      have hq4 : q3 ≤ 1000 := by
        rcases t7 with ⟨_, u2, _⟩ | ⟨u2, _⟩ <;> omega
      refine h_closesF (lr_l t1 hl) hl2 t2 hq4 fun m4 q4 r4 a4 b4 w4 => And.intro rfl (h m4 ?_)
      rw [bS_lr t1] at w4
      have e38 : gI m4 38 0 n = gI m 38 0 n := by rw [r4.1 38 0 _ (fun q => by omega), t6, r2.1 38 0 _ (fun q => by omega)]
      have s1 : q3 ≤ sk (bS s) l q3 := sk_ge q3
      have s2 : sk (bS s) l q3 ≤ max q3 l := sk_le q3
      rcases t7 with ⟨u1, u2, u3, u4⟩ | ⟨u1, w, u2, u3, u4⟩
      · have hd4 : gI m4 33 0 5 = nI g := by rw [b4]; exact g_sub hg u3
        rcases w4 with ⟨w4, _⟩ | ⟨_, eq4, w4⟩
        · exact absurd u1 w4
        · have P := pr_rnd e hg6 u4
          rw [← eq4] at P s1 s2
          refine ⟨c3, q4 + 1, lr_rd t1 r4, a4, t3, by omega, by omega, e38, ?_⟩
          rcases w4 with ⟨e93, w4⟩ | ⟨e93, w4⟩
          · rw [if_pos e93] at P
            have := tc_lt (by decide) e93
            exact Or.inl ⟨w4, by omega, hd4, P⟩
          · rw [if_neg e93] at P
            exact Or.inr ⟨by omega, q4, by omega, w4, P⟩
      · rcases w4 with ⟨_, w4, eq4⟩ | ⟨w4, _⟩
        · exact ⟨c3, q4 + 1, lr_rd t1 r4, a4, t3, by omega, by omega, e38, Or.inr ⟨by omega, w, u2, by rw [w4, u3], pr_rndf e hg6 u4⟩⟩
        · exact absurd (u3.symm.trans w4) (nI_ne1 (by omega))
    · refine And.intro (fun w => absurd (w2.symm.trans w) (nI_ne1 (by omega))) (fun _ => h m2 ?_)
      exact lU_no hm0 r2 a2 (by omega) (by omega) (by omega) w2 (pr_rnd6 e (ge6 g6))
  · have ne : ¬ tc (bS s) l q = 33 := ne
    have ne2 : ¬ tc (bS s) l q = 40 := ne2
    have P1 : lx_P n l g c q s m1 := ⟨lr_rd S0 hr, k3, by omega, by omega, w1, d1⟩
    refine hS5 c q m1 _ P1 fun m3 hm3 => And.intro rfl ?_
    rw [sk3] at hm3
    refine And.intro (fun w => ?_) (fun w => h m3 (lU_back hr sk1 (lU_bad hm3 w (fun w hw => pr_unitf ne ne2 hw))))
    obtain ⟨c1, q1, P3, hq1, hT, K⟩ := lU_app (by omega) hm3 w
    exact h_compareU hn hn2 hg hl hl2 hS4 c1 q1 m3 _ P3 fun m4 hm4 => And.intro rfl (h m4 (lU_back hr sk1 (K _ m4 (lU_mono (fun x hx => pr_unit ne ne2 hT hx) hm4))))
theorem h_unitGU (hn : n ≤ 6) (hn2 : xI s 33 13 ≤ (n : Int)) (hl : gI s 33 0 2 = nI l) (hl2 : l ≤ 200) : ∀ k g, g + k = 6 → ∀ d, rdU (Pr (bS s) l 6 g) n l g s 218 (d + (4 * k + 6) + 3) := by
  intro k
  induction k with
  | zero =>
    intro g hg d c p m R hm h
    have S5 : rdU (Pr (bS s) l 3 g) n l g s 215 (d + 3 + 5) := h_sumGU hn hn2 hl hl2 0 g hg (d + 1)
    have S4 : rdU (Pr (bS s) l 3 g) n l g s 215 (d + 3 + 4) := h_sumGU hn hn2 hl hl2 0 g hg d
    exact h_unitU (d := d + 3) hn hn2 (by omega) hl hl2 S5 S4 (fun q => absurd q (by omega)) (fun q => absurd q (by omega)) hm h
  | succ k ih =>
    intro g hg d c p m R hm h
    have S5 : rdU (Pr (bS s) l 3 g) n l g s 215 (d + (4 * k + 7) + 5) := by
      rw [show d + (4 * k + 7) + 5 = (d + k + 2) + 3 * (k + 1) + 7 by omega]
      exact h_sumGU hn hn2 hl hl2 (k + 1) g hg (d + k + 2)
    have S4 : rdU (Pr (bS s) l 3 g) n l g s 215 (d + (4 * k + 7) + 4) := by
      rw [show d + (4 * k + 7) + 4 = (d + k + 1) + 3 * (k + 1) + 7 by omega]
      exact h_sumGU hn hn2 hl hl2 (k + 1) g hg (d + k + 1)
    have U : ∀ d, rdU (Pr (bS s) l 6 (g + 1)) n l (g + 1) s 218 (d + (4 * k + 6) + 3) := ih (g + 1) (by omega)
    have U5 : rdU (Pr (bS s) l 6 (g + 1)) n l (g + 1) s 218 (d + (4 * k + 7) + 5) := by
      rw [show d + (4 * k + 7) + 5 = (d + 3) + (4 * k + 6) + 3 by omega]
      exact U (d + 3)
    have C5 : rdU (Pr (bS s) l 9 (g + 1)) n l (g + 1) s 221 (d + (4 * k + 7) + 5) := by
      rw [show d + (4 * k + 7) + 5 = d + (4 * k + 6) + 6 by omega]
      exact h_condU hn hn2 hl hl2 U d
    rw [show d + (4 * (k + 1) + 6) + 3 = d + (4 * k + 7) + 6 by omega]
    exact h_unitU (d := d + (4 * k + 7)) hn hn2 (by omega) hl hl2 S5 S4 (fun _ => U5) (fun _ => C5) hm h
end CU4
/-! clause, readLaw of the reference answer as Pr. -/
/-- what a clause leaves -/
def cl_U (Φ : Bool × Nat → Prop) (n l j : Nat) (s m' : LMem) : Prop := y_J x_X m' ∧ y_Fr lr_W s m' ∧ ((∃ c' q, lx_P n l 0 c' q s m' ∧ gI m' 38 0 n = nI (j + 1) ∧ Φ (true, sk (bS s) l q)) ∨ ∃ w, w ≤ 1000 ∧ gI m' 33 0 4 = nI w ∧ Φ (false, w))
section CL5
variable {l n : Nat} {s : LMem} {Φ Ψ : Bool × Nat → Prop}
theorem cu_250 {d bc bs j c1 q : Nat} {o : Option LV} {m M : LMem} {Q : LPost} (hn : n ≤ 6) (hn2 : xI s 33 13 ≤ (n : Int)) (hj : j ≤ 59) (hc1 : c1 < 260) (eM : M = m) (S : lr_S n s m c1) (B : gI m 38 0 n = nI j) (W : (gI m 33 0 4 = -1 ∧ gI m 33 0 3 = nI q ∧ q ≤ l ∧ gI m 33 0 5 = nI 0 ∧ c1 ≤ q ∧ Φ (true, sk (bS s) l q)) ∨ ∃ w, w ≤ 1000 ∧ gI m 33 0 4 = nI w ∧ Φ (false, w)) (h : ∀ m', cl_U Φ n l j s m' → Q none m') : qW false d 222 bc bs 250 [some (lR 33 (some 0)), some (lI (nI (60 * n + j))), o] [] M Q := by
  subst eM
  have S0 := S
  obtain ⟨J, F, h14, h37⟩ := S
  have e13 : xI M 33 13 = xI s 33 13 := by
    unfold xI
    rw [(F 33 0 13 (x_nW 13 13 (by decide) (by decide) (by decide))).1]
  have en : (nI n).toNatClampNeg = n := nI_clamp (by omega)
  have ek : (nI (60 * n + j)).toNatClampNeg = 60 * n + j := nI_clamp (by omega)
  have v7 : qa_vin (gI M 33 0 14) 7 := by rw [h14]; exact nI_in (by omega) (by decide)
  have vk : qa_vin (nI (60 * n + j)) 420 := nI_in (by omega) (by decide)
  have S1 : lr_S n s (sI M 41 0 (60 * n + j) (nI c1)) c1 := lr_c hn hn2 hj (Or.inr (Or.inr rfl)) S0
  have J2 : y_J x_X (sI (sI M 41 0 (60 * n + j) (nI c1)) 38 0 n (nI (j + 1))) := by
    refine lr_J (n := n) S1.1 ?_ (Or.inr (Or.inr (Or.inl ⟨rfl, rfl⟩)))
    unfold xI
    rw [gI_sI, if_neg (fun q => absurd q.1 (by decide))]
    unfold xI at e13 hn2
    rw [e13]
    exact hn2
  have F2 : y_Fr lr_W s (sI (sI M 41 0 (60 * n + j) (nI c1)) 38 0 n (nI (j + 1))) := y_Fr_sI S1.2.1 ⟨(38, 0, 0, 0, 6), by decide, rfl, ⟨Int.le_refl _, Int.le_refl _⟩, by show (0 : Int) ≤ (n : Int); omega, by show (n : Int) ≤ 6; omega⟩
  have g : ∀ k' j', ¬ (k' = 41) → ¬ (k' = 38) → gI (sI (sI M 41 0 (60 * n + j) (nI c1)) 38 0 n (nI (j + 1))) k' 0 j' = gI M k' 0 j' := fun k' j' g1 g2 => by
    rw [gI_sI, if_neg (fun q => g2 q.1), gI_sI, if_neg (fun q => g1 q.1)]
  have fin : Q none (sI (sI M 41 0 (60 * n + j) (nI c1)) 38 0 n (nI (j + 1))) := by
    refine h _ ⟨J2, F2, ?_⟩
    rcases W with ⟨w1, w2, w3, w4, w5, w6⟩ | ⟨w, w1, w2, w3⟩
    · refine Or.inl ⟨c1, q, ⟨⟨J2, F2, ?_, ?_⟩, ?_, w3, w5, ?_, ?_⟩, by rw [gI_sI, if_pos ⟨rfl, rfl, rfl⟩], w6⟩
      · rw [g 33 14 (by decide) (by decide), h14]
      · rw [g 37 n (by decide) (by decide), h37]
      · rw [g 33 3 (by decide) (by decide), w2]
      · rw [g 33 4 (by decide) (by decide), w1]
      · rw [g 33 5 (by decide) (by decide), w4]
    · exact Or.inr ⟨w, w1, by rw [g 33 4 (by decide) (by decide), w2], w3⟩
  have a1 : sI M 41 0 (nI (60 * n + j)).toNatClampNeg (gI M 37 0 (gI M 33 0 14).toNatClampNeg) = sI M 41 0 (60 * n + j) (nI c1) := by rw [h14, en, h37, ek]
  have b14 : gI (sI M 41 0 (60 * n + j) (nI c1)) 33 0 14 = nI n := S1.2.2.1
  have b38 : gI (sI M 41 0 (60 * n + j) (nI c1)) 38 0 n = nI j := by rw [gI_sI, if_neg (fun q => absurd q.1 (by decide)), B]
  have v7b : qa_vin (gI (sI M 41 0 (60 * n + j) (nI c1)) 33 0 14) 7 := by rw [b14]; exact nI_in (by omega) (by decide)
  have fin2 : Q none (sI (sI M 41 0 (60 * n + j) (nI c1)) 38 0 (gI (sI M 41 0 (60 * n + j) (nI c1)) 33 0 14).toNatClampNeg (gI (sI M 41 0 (60 * n + j) (nI c1)) 38 0 (gI (sI M 41 0 (60 * n + j) (nI c1)) 33 0 14).toNatClampNeg + 1)) := by
    rw [b14, en, b38, nI_1]
    exact fin
  rw [← a1] at v7b fin2
  refine qa_t1_W (cut := []) 60 ?_
  exact And.intro v7 (And.intro vk (And.intro v7b (And.intro v7b fin2)))
theorem cu_246 {d bc bs j c1 q : Nat} {o : Option LV} {m M : LMem} {Q : LPost} (hn : n ≤ 6) (hn2 : xI s 33 13 ≤ (n : Int)) (hj : j ≤ 59) (hl2 : l ≤ 200) (RS : rdU (Pr (bS s) l 3 0) n l 0 s 215 d) (eM : M = m) (P : lx_P n l 0 c1 q s m) (B : gI m 38 0 n = nI j) (K : ∀ x, Pr (bS s) l 3 0 (sk (bS s) l q) x → Φ x) (h : ∀ m', cl_U Φ n l j s m' → Q none m') : qW false d 222 bc bs 246 [some (lR 33 (some 0)), some (lI (nI (60 * n + j))), o] [] M Q := by
  subst eM
  refine qa_t1_W (cut := [250]) 20 ?_
  have hcq := P.2.2.2.1
  refine RS c1 q M _ P fun m6 hm6 => And.intro rfl ?_
  obtain ⟨c2, q2, t1, t2, t3, t4, t5, t6, t7⟩ := hm6
  have hc2 : c2 < 260 := by
    rcases t7 with ⟨_, u2, _⟩ | ⟨u2, _⟩ <;> omega
  refine cu_250 (c1 := c2) (q := q2) hn hn2 hj hc2 rfl t1 (t6.trans B) ?_ h
  rcases t7 with ⟨u1, u2, u3, u4⟩ | ⟨u1, w, u2, u3, u4⟩
  · exact Or.inl ⟨u1, t2, u2, u3, by omega, K _ u4⟩
  · exact Or.inr ⟨w, u2, u3, K _ u4⟩
theorem cu_195 {d bc bs j c p1 : Nat} {t v : Int32} {mb m M : LMem} {Q : LPost} (hn : n ≤ 6) (hn2 : xI s 33 13 ≤ (n : Int)) (hj : j ≤ 59) (hl : gI s 33 0 2 = nI l) (hl2 : l ≤ 200) (RS : rdU (Pr (bS s) l 3 0) n l 0 s 215 (d + 3)) (ht : t = 0 ∨ t = 1) (eM : M = sI m 40 0 (60 * n + j) v) (G : lx_U Ψ n l 0 c p1 s mb m) (B : gI mb 38 0 n = nI j) (hcp : c ≤ p1) (hp1 : p1 ≤ 210) (K1 : t = 1 → ∀ q x, Ψ (true, q) → Pr (bS s) l 12 0 q x → Φ x) (K0 : t = 0 → ∀ q, Ψ (true, q) → Φ (true, q)) (Kf : ∀ w, Ψ (false, w) → Φ (false, w)) (h : ∀ m', cl_U Φ n l j s m' → Q none m') : qW false (d + 3) 222 bc bs 195 [some (lR 33 (some 0)), some (lI (nI (60 * n + j))), some (lI t)] [] M Q := by
  have en : (nI n).toNatClampNeg = n := nI_clamp (by omega)
  have ek : (nI (60 * n + j)).toNatClampNeg = 60 * n + j := nI_clamp (by omega)
  have vk : qa_vin (nI (60 * n + j)) 420 := nI_in (by omega) (by decide)
  obtain ⟨c1, q1, t1, t2, t3, t4, t5, t6, t7⟩ := G
  have hc1 : c1 < 260 := by
    rcases t7 with ⟨_, u2, _⟩ | ⟨u2, _⟩ <;> omega
  have S1 : lr_S n s M c1 := by
    rw [eM]
    exact lr_c hn hn2 hj (Or.inr (Or.inl rfl)) t1
  have g : ∀ k' j', ¬ (k' = 40) → gI M k' 0 j' = gI m k' 0 j' := fun k' j' g1 => by
    rw [eM, gI_sI, if_neg (fun q => g1 q.1)]
  have B1 : gI M 38 0 n = nI j := by rw [g 38 _ (by decide), t6, B]
  have e4 : gI M 33 0 4 = gI m 33 0 4 := g 33 4 (by decide)
  have e3 : gI M 33 0 3 = nI q1 := by rw [g 33 3 (by decide), t2]
  have e5 : gI M 33 0 5 = gI m 33 0 5 := g 33 5 (by decide)
  have bad : ∀ o, gI m 33 0 4 ≠ -1 → qW false (d + 3) 222 bc bs 250 [some (lR 33 (some 0)), some (lI (nI (60 * n + j))), o] [] M Q := fun o w => by
    refine cu_250 (c1 := c1) (q := q1) hn hn2 hj hc1 rfl S1 B1 ?_ h
    rcases t7 with ⟨u1, _⟩ | ⟨u1, w', u2, u3, u4⟩
    · exact absurd u1 w
    · exact Or.inr ⟨w', u2, by rw [e4, u3], Kf _ u4⟩
  rcases ht with rfl | rfl
  · refine qa_t1_W (cut := [250]) 20 ?_
    refine And.intro (fun _ => ?_) (fun q => absurd rfl q)
    by_cases w : gI m 33 0 4 = -1
    · refine cu_250 (c1 := c1) (q := q1) hn hn2 hj hc1 rfl S1 B1 ?_ h
      rcases t7 with ⟨u1, u2, u3, u4⟩ | ⟨u1, w', u2, u3, u4⟩
      · exact Or.inl ⟨by rw [e4, u1], e3, u2, by rw [e5, u3], by omega, K0 rfl _ u4⟩
      · exact absurd (u3.symm.trans w) (nI_ne1 (by omega))
    · exact bad _ w
  · refine qa_t1_W (cut := [246, 250]) 60 ?_
    refine And.intro (fun q => absurd q (by decide)) (fun _ => ?_)
    refine And.intro (fun w => ?_) (fun w => bad _ (fun c => w (e4.trans c)))
    have w : gI M 33 0 4 = -1 := w
    rcases t7 with ⟨u1, u2, u3, u4⟩ | ⟨u1, w', u2, u3, u4⟩
    · have sk1 : q1 ≤ sk (bS s) l q1 := sk_ge q1
      have sk2 : sk (bS s) l q1 ≤ max q1 l := sk_le q1
      refine h_lookT hl hl2 S1 e3 (by omega) fun m3 hr k4 k5 k3 => Exists.intro _ (And.intro rfl ?_)
      generalize hq : sk (bS s) l q1 = q at *
      refine And.intro (fun e => ?_) (fun ne => ?_)
      · have e : tc (bS s) l q = 63 := e
        have hq3 := tc_lt (by decide) e
        have r4 := rd_tr hr (rd_s (s := m3) (v := gI m3 33 0 3 + 1) (Or.inl rfl : (3 : Nat) = 3 ∨ (3 : Nat) = 4 ∨ (3 : Nat) = 5) rd_0)
        have S4 := lr_rd S1 r4
        have v7 : qa_vin (gI (sI m3 33 0 3 (gI m3 33 0 3 + 1)) 33 0 14) 7 := by rw [S4.2.2.1]; exact nI_in (by omega) (by decide)
        have a5 : sI (sI m3 33 0 3 (gI m3 33 0 3 + 1)) 40 0 (nI (60 * n + j)).toNatClampNeg (gI (sI m3 33 0 3 (gI m3 33 0 3 + 1)) 37 0 (gI (sI m3 33 0 3 (gI m3 33 0 3 + 1)) 33 0 14).toNatClampNeg) = sI (sI m3 33 0 3 (gI m3 33 0 3 + 1)) 40 0 (60 * n + j) (nI c1) := by rw [S4.2.2.1, en, S4.2.2.2, ek]
        have g5 : ∀ k' j', ¬ (k' = 40) → gI (sI (sI m3 33 0 3 (gI m3 33 0 3 + 1)) 40 0 (60 * n + j) (nI c1)) k' 0 j' = gI (sI m3 33 0 3 (gI m3 33 0 3 + 1)) k' 0 j' := fun k' j' g1 => by
          rw [gI_sI, if_neg (fun q => g1 q.1)]
        refine And.intro v7 (And.intro vk ?_)
        refine cu_246 (c1 := c1) (q := q + 1) hn hn2 hj hl2 RS a5 ⟨lr_c hn hn2 hj (Or.inr (Or.inl rfl)) S4, ?_, by omega, by omega, ?_, ?_⟩ ?_ (fun x hx => K1 rfl q x u4 (pr_tail e hx)) h
        · rw [g5 33 3 (by decide), gI_sI, if_pos ⟨rfl, rfl, rfl⟩, k3, nI_1]
        · rw [g5 33 4 (by decide), gI_sI, if_neg (fun q => absurd q.2.2 (by decide)), k4, w]
        · rw [g5 33 5 (by decide), gI_sI, if_neg (fun q => absurd q.2.2 (by decide)), k5, e5, u3]
        · rw [g5 38 _ (by decide), r4.1 38 0 _ (fun q => by omega), B1]
      · have ne : ¬ tc (bS s) l q = 63 := ne
        have fin : Q none (sI m3 33 0 4 (nI q)) := by
          have r4 := rd_tr hr (rd_s (s := m3) (v := nI q) (Or.inr (Or.inl rfl) : (4 : Nat) = 3 ∨ (4 : Nat) = 4 ∨ (4 : Nat) = 5) rd_0)
          exact h _ ⟨(lr_rd S1 r4).1, (lr_rd S1 r4).2.1, Or.inr ⟨q, by omega, by rw [gI_sI, if_pos ⟨rfl, rfl, rfl⟩], K1 rfl q _ u4 (pr_tail0 ne)⟩⟩
        exact h_bad k3 (fun _ => And.intro rfl fin) (fun w2 => absurd (by rw [k4, w]) w2)
    · exact absurd (u3.symm.trans (e4.symm.trans w)) (nI_ne1 (by omega))
theorem cu_183 {d bc bs j c p1 : Nat} {t : Int32} {mb m : LMem} {Q : LPost} (hn : n ≤ 6) (hn2 : xI s 33 13 ≤ (n : Int)) (hj : j ≤ 59) (hl : gI s 33 0 2 = nI l) (hl2 : l ≤ 200) (RS : rdU (Pr (bS s) l 3 0) n l 0 s 215 (d + 3)) (ht : t = 0 ∨ t = 1) (G : lx_U Ψ n l 0 c p1 s mb m) (B : gI mb 38 0 n = nI j) (hcp : c ≤ p1) (hp1 : p1 ≤ 210) (K1 : t = 1 → ∀ q x, Ψ (true, q) → Pr (bS s) l 12 0 q x → Φ x) (K0 : t = 0 → ∀ q, Ψ (true, q) → Φ (true, q)) (Kf : ∀ w, Ψ (false, w) → Φ (false, w)) (h : ∀ m', cl_U Φ n l j s m' → Q none m') : qW false (d + 3) 222 bc bs 183 [some (lR 33 (some 0)), some (lI (nI (60 * n + j))), some (lI t)] [] m Q := by
  have vk : qa_vin (nI (60 * n + j)) 420 := nI_in (by omega) (by decide)
  have ek : (nI (60 * n + j)).toNatClampNeg = 60 * n + j := nI_clamp (by omega)
  have a1 : sI m 40 0 (nI (60 * n + j)).toNatClampNeg (gI m 39 0 (nI (60 * n + j)).toNatClampNeg) = sI m 40 0 (60 * n + j) (gI m 39 0 (60 * n + j)) := by rw [ek]
  refine qa_t1_W (cut := [195]) 20 ?_
  exact And.intro vk (And.intro vk (cu_195 hn hn2 hj hl hl2 RS ht a1 G B hcp hp1 K1 K0 Kf h))
theorem cu_104 {d bc bs j c p1 : Nat} {m M : LMem} {Q : LPost} (hn : n ≤ 6) (hn2 : xI s 33 13 ≤ (n : Int)) (hj : j ≤ 59) (hl : gI s 33 0 2 = nI l) (hl2 : l ≤ 200) (RS : rdU (Pr (bS s) l 3 0) n l 0 s 215 (d + 5)) (RS4 : rdU (Pr (bS s) l 3 0) n l 0 s 215 (d + 4)) (RC : rdU (Pr (bS s) l 9 0) n l 0 s 221 (d + 5)) (RA : rdU (Pr (bS s) l 7 0) n l 0 s 219 (d + 5)) (RO : rdU (Pr (bS s) l 8 0) n l 0 s 220 (d + 5)) (eM : M = m) (P : lx_P n l 0 c p1 s m) (B : gI m 38 0 n = nI j) (K : ∀ x, PrC (bS s) l (sk (bS s) l p1) x → Φ x) (h : ∀ m', cl_U Φ n l j s m' → Q none m') : qW false (d + 5) 222 bc bs 104 [some (lR 33 (some 0)), some (lI (nI (60 * n + j))), none] [] M Q := by
  subst eM
  obtain ⟨S0, h3, hpl, hcp, h4, h5⟩ := P
  have RS3 : rdU (Pr (bS s) l 3 0) n l 0 s 215 (d + 2 + 3) := RS
  have sk1 : p1 ≤ sk (bS s) l p1 := sk_ge p1
  have sk2 : sk (bS s) l p1 ≤ max p1 l := sk_le p1
  have sk3 : sk (bS s) l (sk (bS s) l p1) = sk (bS s) l p1 := sk_sk p1
  refine qa_t1_W (cut := [183]) 200 ?_
  refine h_lookT hl hl2 S0 h3 (by omega) fun m6 r6 k4 k5 k3 => Exists.intro _ (And.intro rfl ?_)
  generalize hz : sk (bS s) l p1 = z at *
  have cond : ∀ m7, rd_S M m7 → gI m7 33 0 3 = nI z → gI m7 33 0 4 = -1 → gI m7 33 0 5 = nI 0 → (tc (bS s) l z = 33 ∨ tc (bS s) l z = 40) → qC false (d + 5) 221 [lR 33 (some 0)] m7 (fun r m8 => r = none ∧ qW false (d + 5) 222 bc bs 183 [some (lR 33 (some 0)), some (lI (nI (60 * n + j))), some (lI 1)] [] m8 Q) := fun m7 r7 y3 y4 y5 e =>
    RC c z m7 _ ⟨lr_rd S0 r7, y3, by omega, by omega, y4, y5⟩ fun m8 hm8 => And.intro rfl (by
      rw [sk3] at hm8
      exact cu_183 (d := d + 2) hn hn2 hj hl hl2 RS3 (Or.inr rfl) hm8 ((r7.1 38 0 _ (fun q => by omega)).trans B) (by omega) (by omega) (fun _ q x h1 h2 => K x (prC_c e h1 h2)) (fun q => absurd q (by decide)) (fun w h1 => K _ (prC_cf e h1)) h)
  refine And.intro (fun e => ?_) (fun ne => ?_)
  · refine And.intro (fun q => absurd q (by decide)) (fun _ => ?_)
    exact cond m6 r6 k3 (by rw [k4, h4]) (by rw [k5, h5]) (Or.inl e)
  · have ne : ¬ tc (bS s) l z = 33 := ne
    refine h_lookT hl hl2 (lr_rd S0 r6) k3 (by omega) fun m7 r7 z4 z5 z3 => Exists.intro _ (And.intro rfl ?_)
    rw [sk3] at z3 ⊢
    have r7 := rd_tr r6 r7
    have z4 : gI m7 33 0 4 = -1 := by rw [z4, k4, h4]
    have z5 : gI m7 33 0 5 = nI 0 := by rw [z5, k5, h5]
    refine And.intro (fun e => ?_) (fun ne2 => ?_)
    · refine And.intro (fun q => absurd q (by decide)) (fun _ => ?_)
      exact cond m7 r7 z3 z4 z5 (Or.inr e)
    · have ne2 : ¬ tc (bS s) l z = 40 := ne2
      have nn : ¬ (tc (bS s) l z = 33 ∨ tc (bS s) l z = 40) := fun q => by
        rcases q with q | q
        · exact ne q
        · exact ne2 q
      refine And.intro (fun _ => ?_) (fun q => absurd rfl q)
      have B7 : gI m7 38 0 n = nI j := (r7.1 38 0 _ (fun q => by omega)).trans B
      refine RS c z m7 _ ⟨lr_rd S0 r7, z3, by omega, by omega, z4, z5⟩ fun m8 hm8 => And.intro rfl ?_
      rw [sk3] at hm8
      refine And.intro (fun w => ?_) (fun w => And.intro (fun _ => ?_) (fun q => absurd rfl q))
      · have w : gI m8 33 0 4 = -1 := w
        obtain ⟨c1, q1, P8, y1, y2, K8⟩ := lU_app (by omega) hm8 w
        have P8' := P8
        obtain ⟨S8, x3, xl, xc, x4, x5⟩ := P8
        have v1 : q1 ≤ sk (bS s) l q1 := sk_ge q1
        have v2 : sk (bS s) l q1 ≤ max q1 l := sk_le q1
        have v3 : sk (bS s) l (sk (bS s) l q1) = sk (bS s) l q1 := sk_sk q1
        refine h_lookT hl hl2 S8 x3 (by omega) fun m9 r9 u4 u5 u3 => Exists.intro _ (And.intro rfl ?_)
        generalize hy : sk (bS s) l q1 = y at *
        have u4 : gI m9 33 0 4 = -1 := by rw [u4, x4]
        have u5 : gI m9 33 0 5 = nI 0 := by rw [u5, x5]
        refine h_isSign (fun hs => Exists.intro 1 (And.intro rfl ?_)) (fun hs => Exists.intro 0 (And.intro rfl ?_))
        · refine And.intro (fun q => absurd q (by decide)) (fun _ => ?_)
          refine And.intro (fun q => absurd q (by decide)) (fun _ => ?_)
          have P9 : lx_P n l 0 c1 y s m9 := ⟨lr_rd S8 r9, u3, by omega, by omega, u4, u5⟩
          refine h_compareU (g := 0) hn hn2 (by decide) hl hl2 RS4 c1 y m9 _ P9 fun m10 hm10 => And.intro rfl ?_
          rw [v3] at hm10
          have ors : ∀ m11, lx_U (fun x => (∃ q, Pr (bS s) l 5 0 y (true, q) ∧ Pr (bS s) l 7 0 q x) ∨ (x.1 = false ∧ Pr (bS s) l 5 0 y x)) n l 0 c1 y s m9 m11 → qC false (d + 5) 220 [lR 33 (some 0)] m11 (fun r m12 => r = none ∧ qW false (d + 5) 222 bc bs 183 [some (lR 33 (some 0)), some (lI (nI (60 * n + j))), some (lI 1)] [] m12 Q) := fun m11 hm11 => by
            have e183 : ∀ m12, lx_U (PrG (bS s) l y) n l 0 c1 y s m9 m12 → qW false (d + 5) 222 bc bs 183 [some (lR 33 (some 0)), some (lI (nI (60 * n + j))), some (lI 1)] [] m12 Q := fun m12 hm12 =>
              cu_183 (d := d + 2) hn hn2 hj hl hl2 RS3 (Or.inr rfl) (K8 _ m12 (lU_back r9 v1 hm12)) B7 (by omega) (by omega) (fun _ q x h1 h2 => K x (prC_g nn y2 (sgB_t hs) h1 h2)) (fun q => absurd q (by decide)) (fun w h1 => K _ (prC_gf nn y2 (sgB_t hs) h1)) h
            by_cases w : gI m11 33 0 4 = -1
            · obtain ⟨c3, q3, P3, _, T3, K3⟩ := lU_app (by omega) hm11 w
              refine RO c3 q3 m11 _ P3 fun m12 hm12 => And.intro rfl (e183 m12 (K3 _ m12 (lU_mono (fun x hx => ?_) hm12)))
              rcases T3 with ⟨qa, T1, T2⟩ | ⟨T1, _⟩
              · exact prG_3 T1 T2 hx
              · cases T1
            · refine h_or_x w (And.intro rfl (e183 m11 (lU_bad hm11 w (fun w hw => ?_))))
              rcases hw with ⟨qa, T1, T2⟩ | ⟨_, T1⟩
              · exact prG_2 T1 T2
              · exact prG_1 T1
          by_cases w : gI m10 33 0 4 = -1
          · obtain ⟨c3, q3, P3, _, T3, K3⟩ := lU_app (by omega) hm10 w
            exact RA c3 q3 m10 _ P3 fun m11 hm11 => And.intro rfl (ors m11 (K3 _ m11 (lU_mono (fun x hx => Or.inl ⟨_, T3, hx⟩) hm11)))
          · exact h_and_x w (And.intro rfl (ors m10 (lU_bad hm10 w (fun w hw => Or.inr ⟨rfl, hw⟩))))
        · refine And.intro (fun _ => ?_) (fun q => absurd rfl q)
          refine And.intro (fun _ => ?_) (fun q => absurd rfl q)
          have G9 : lx_U (fun x => x = (true, y)) n l 0 c z s m7 m9 := K8 _ m9 (lU_id P8' r9 u3 v1 (by omega) u4 u5 (by rw [v3]))
          exact cu_183 (d := d + 2) hn hn2 hj hl hl2 RS3 (Or.inl rfl) G9 B7 (by omega) (by omega) (fun q => absurd q (by decide)) (fun _ q h1 => by
            cases h1
            exact K _ (prC_s nn y2 (sgB_f hs))) (fun w h1 => by cases h1) h
      · have w : ¬ gI m8 33 0 4 = -1 := w
        exact cu_183 (Ψ := fun x => x.1 = false ∧ Pr (bS s) l 3 0 z x) (d := d + 2) hn hn2 hj hl hl2 RS3 (Or.inl rfl) (lU_bad hm8 w (fun w hw => ⟨rfl, hw⟩)) B7 (by omega) (by omega) (fun q => absurd q (by decide)) (fun _ q h1 => by cases h1.1) (fun w h1 => K _ (prC_sf nn h1.2)) h
theorem cu_18 {d bc bs j c p : Nat} {kk : Int32} {m : LMem} {Q : LPost} (hn : n ≤ 6) (hn2 : xI s 33 13 ≤ (n : Int)) (hj : j ≤ 59) (hl : gI s 33 0 2 = nI l) (hl2 : l ≤ 200) (RS : rdU (Pr (bS s) l 3 0) n l 0 s 215 (d + 5)) (RS4 : rdU (Pr (bS s) l 3 0) n l 0 s 215 (d + 4)) (RC : rdU (Pr (bS s) l 9 0) n l 0 s 221 (d + 5)) (RA : rdU (Pr (bS s) l 7 0) n l 0 s 219 (d + 5)) (RO : rdU (Pr (bS s) l 8 0) n l 0 s 220 (d + 5)) (ekk : kk = nI (60 * n + j)) (P : lx_P n l 0 c p s m) (B : gI m 38 0 n = nI j) (h : ∀ m', cl_U (Pr (bS s) l 10 0 (sk (bS s) l p)) n l j s m' → Q none m') : qW false (d + 5) 222 bc bs 18 [some (lR 33 (some 0)), some (lI kk), none] [] m Q := by
  subst ekk
  have en : (nI n).toNatClampNeg = n := nI_clamp (by omega)
  have ek : (nI (60 * n + j)).toNatClampNeg = 60 * n + j := nI_clamp (by omega)
  have vk : qa_vin (nI (60 * n + j)) 420 := nI_in (by omega) (by decide)
  obtain ⟨S0, h3, hpl, hcp, h4, h5⟩ := P
  have sk1 : p ≤ sk (bS s) l p := sk_ge p
  have sk2 : sk (bS s) l p ≤ max p l := sk_le p
  have no : ∀ m' w, w ≤ 1000 → rd_S m m' → gI m' 33 0 4 = nI w → Pr (bS s) l 10 0 (sk (bS s) l p) (false, w) → Q none m' := fun m' w hw r e P => h m' ⟨(lr_rd S0 r).1, (lr_rd S0 r).2.1, Or.inr ⟨w, hw, e, P⟩⟩
  refine qa_t1_W (cut := [104]) 200 ?_
  refine And.intro (fun _ => ?_) (fun w => absurd h4 w)
  refine h_lookT hl hl2 S0 h3 (by omega) fun m1 r1 k4 k5 k3 => Exists.intro _ (And.intro rfl ?_)
  generalize hq : sk (bS s) l p = q1 at *
  refine And.intro (fun e => ?_) (fun ne => ?_)
  · have e : tc (bS s) l q1 = 121 := e
    have hq3 := tc_lt (by decide) e
    have r2 := rd_tr r1 (rd_s (s := m1) (v := gI m1 33 0 3 + 1) (Or.inl rfl : (3 : Nat) = 3 ∨ (3 : Nat) = 4 ∨ (3 : Nat) = 5) rd_0)
    have a2 : gI (sI m1 33 0 3 (gI m1 33 0 3 + 1)) 33 0 3 = nI (q1 + 1) := by rw [gI_sI, if_pos ⟨rfl, rfl, rfl⟩, k3, nI_1]
    have w2 : gI (sI m1 33 0 3 (gI m1 33 0 3 + 1)) 33 0 4 = -1 := by rw [gI_sI, if_neg (fun q => absurd q.2.2 (by decide)), k4, h4]
    have d2 : gI (sI m1 33 0 3 (gI m1 33 0 3 + 1)) 33 0 5 = nI 0 := by rw [gI_sI, if_neg (fun q => absurd q.2.2 (by decide)), k5, h5]
    have y1 : q1 + 1 ≤ sk (bS s) l (q1 + 1) := sk_ge (q1 + 1)
    have y2 : sk (bS s) l (q1 + 1) ≤ max (q1 + 1) l := sk_le (q1 + 1)
    refine And.intro (fun _ => ?_) (fun w => absurd w2 w)
    refine h_lookT hl hl2 (lr_rd S0 r2) a2 (by omega) fun m3 r3 z4 z5 z3 => Exists.intro _ (And.intro rfl ?_)
    generalize hq3 : sk (bS s) l (q1 + 1) = q3 at *
    have r3 := rd_tr r2 r3
    have z4 : gI m3 33 0 4 = -1 := z4.trans w2
    have z5 : gI m3 33 0 5 = nI 0 := z5.trans d2
    refine And.intro (fun e2 => ?_) (fun ne2 => ?_)
    · have e2 : tc (bS s) l q3 = 58 := e2
      have hq5 := tc_lt (by decide) e2
      have r4 := rd_tr r3 (rd_s (s := m3) (v := gI m3 33 0 3 + 1) (Or.inl rfl : (3 : Nat) = 3 ∨ (3 : Nat) = 4 ∨ (3 : Nat) = 5) rd_0)
      have S4 := lr_rd S0 r4
      have a4 : gI (sI m3 33 0 3 (gI m3 33 0 3 + 1)) 33 0 3 = nI (q3 + 1) := by rw [gI_sI, if_pos ⟨rfl, rfl, rfl⟩, z3, nI_1]
      have w4 : gI (sI m3 33 0 3 (gI m3 33 0 3 + 1)) 33 0 4 = -1 := by rw [gI_sI, if_neg (fun q => absurd q.2.2 (by decide)), z4]
      have d4 : gI (sI m3 33 0 3 (gI m3 33 0 3 + 1)) 33 0 5 = nI 0 := by rw [gI_sI, if_neg (fun q => absurd q.2.2 (by decide)), z5]
      have v7 : qa_vin (gI (sI m3 33 0 3 (gI m3 33 0 3 + 1)) 33 0 14) 7 := by rw [S4.2.2.1]; exact nI_in (by omega) (by decide)
      have a5 : sI (sI m3 33 0 3 (gI m3 33 0 3 + 1)) 39 0 (nI (60 * n + j)).toNatClampNeg (gI (sI m3 33 0 3 (gI m3 33 0 3 + 1)) 37 0 (gI (sI m3 33 0 3 (gI m3 33 0 3 + 1)) 33 0 14).toNatClampNeg) = sI (sI m3 33 0 3 (gI m3 33 0 3 + 1)) 39 0 (60 * n + j) (nI c) := by rw [S4.2.2.1, en, S4.2.2.2, ek]
      have g5 : ∀ k' j', ¬ (k' = 39) → gI (sI (sI m3 33 0 3 (gI m3 33 0 3 + 1)) 39 0 (60 * n + j) (nI c)) k' 0 j' = gI (sI m3 33 0 3 (gI m3 33 0 3 + 1)) k' 0 j' := fun k' j' g1 => by
        rw [gI_sI, if_neg (fun q => g1 q.1)]
      refine And.intro (fun _ => ?_) (fun w => absurd w4 w)
      refine And.intro v7 (And.intro vk ?_)
      refine cu_104 (p1 := q3 + 1) (c := c) hn hn2 hj hl hl2 RS RS4 RC RA RO a5 ⟨lr_c hn hn2 hj (Or.inl rfl) S4, ?_, by omega, by omega, ?_, ?_⟩ ?_ (fun x hx => pr_cl e (by rw [hq3]; exact e2) (by rw [hq3]; exact hx)) h
      · rw [g5 33 3 (by decide), a4]
      · rw [g5 33 4 (by decide), w4]
      · rw [g5 33 5 (by decide), d4]
      · rw [g5 38 _ (by decide), r4.1 38 0 _ (fun q => by omega), B]
    · have ne2 : ¬ tc (bS s) l q3 = 58 := ne2
      have e4 : gI (sI (sI m3 33 0 4 (nI q3)) 33 0 3 (gI (sI m3 33 0 4 (nI q3)) 33 0 3 + 1)) 33 0 4 = nI q3 := by
        rw [gI_sI, if_neg (fun q => absurd q.2.2 (by decide)), gI_sI, if_pos ⟨rfl, rfl, rfl⟩]
      have fb : Q none (sI (sI m3 33 0 4 (nI q3)) 33 0 3 (gI (sI m3 33 0 4 (nI q3)) 33 0 3 + 1)) := no _ q3 (by omega) (rd_s (Or.inl rfl) (rd_s (Or.inr (Or.inl rfl)) r3)) e4 (by
        have := pr_cl2 (g := 0) e (by rw [hq3]; exact ne2)
        rw [hq3] at this
        exact this)
      exact h_bad z3 (fun _ => And.intro rfl (And.intro (fun w => absurd (e4.symm.trans w) (nI_ne1 (by omega))) (fun _ => fb))) (fun w => absurd z4 w)
  · have ne : ¬ tc (bS s) l q1 = 121 := ne
    have e4 : gI (sI (sI m1 33 0 4 (nI q1)) 33 0 3 (gI (sI m1 33 0 4 (nI q1)) 33 0 3 + 1)) 33 0 4 = nI q1 := by
      rw [gI_sI, if_neg (fun q => absurd q.2.2 (by decide)), gI_sI, if_pos ⟨rfl, rfl, rfl⟩]
    have e5 : gI (sI (sI (sI m1 33 0 4 (nI q1)) 33 0 3 (gI (sI m1 33 0 4 (nI q1)) 33 0 3 + 1)) 33 0 3 (gI (sI (sI m1 33 0 4 (nI q1)) 33 0 3 (gI (sI m1 33 0 4 (nI q1)) 33 0 3 + 1)) 33 0 3 + 1)) 33 0 4 = nI q1 := by
      rw [gI_sI, if_neg (fun q => absurd q.2.2 (by decide)), e4]
    have fb : Q none (sI (sI (sI m1 33 0 4 (nI q1)) 33 0 3 (gI (sI m1 33 0 4 (nI q1)) 33 0 3 + 1)) 33 0 3 (gI (sI (sI m1 33 0 4 (nI q1)) 33 0 3 (gI (sI m1 33 0 4 (nI q1)) 33 0 3 + 1)) 33 0 3 + 1)) := no _ q1 (by omega) (rd_s (Or.inl rfl) (rd_s (Or.inl rfl) (rd_s (Or.inr (Or.inl rfl)) r1))) e5 (pr_cl1 ne)
    exact h_bad k3 (fun _ => And.intro rfl (And.intro (fun w => absurd (e4.symm.trans w) (nI_ne1 (by omega))) (fun _ => And.intro (fun w => absurd (e5.symm.trans w) (nI_ne1 (by omega))) (fun _ => fb)))) (fun w => absurd (by rw [k4, h4]) w)
theorem h_clauseU (hn : n ≤ 6) (hn2 : xI s 33 13 ≤ (n : Int)) (hl : gI s 33 0 2 = nI l) (hl2 : l ≤ 200) {d j c p : Nat} {m : LMem} {Q : LPost} (hj : j ≤ 59) (P : lx_P n l 0 c p s m) (h38 : gI m 38 0 n = nI j) (h : ∀ m', cl_U (Pr (bS s) l 10 0 (sk (bS s) l p)) n l j s m' → Q none m') : qC false (d + 40) 222 [lR 33 (some 0)] m Q := by
  have en : (nI n).toNatClampNeg = n := nI_clamp (by omega)
  have v7 : qa_vin (gI m 33 0 14) 7 := by rw [P.1.2.2.1]; exact nI_in (by omega) (by decide)
  have S : ∀ e, rdU (Pr (bS s) l 3 0) n l 0 s 215 (e + 25) := h_sumGU hn hn2 hl hl2 6 0 rfl
  have U : ∀ e, rdU (Pr (bS s) l 6 0) n l 0 s 218 (e + 30 + 3) := h_unitGU hn hn2 hl hl2 6 0 rfl
  have C : rdU (Pr (bS s) l 9 0) n l 0 s 221 (d + 34 + 5) := h_condU hn hn2 hl hl2 U (d + 3)
  have A : rdU (Pr (bS s) l 7 0) n l 0 s 219 (d + 34 + 5) := h_andU (d := d + 35) hn hn2 hl hl2 (U (d + 5))
  have A4 : rdU (Pr (bS s) l 7 0) n l 0 s 219 (d + 35 + 3) := h_andU (d := d + 34) hn hn2 hl hl2 (U (d + 4))
  have O : rdU (Pr (bS s) l 8 0) n l 0 s 220 (d + 34 + 5) := h_orU (d := d + 35) hn hn2 hl hl2 (U (d + 5)) A4
  have ekk : (60 : Int32) * gI m 33 0 14 + gI m 38 0 (gI m 33 0 14).toNatClampNeg = nI (60 * n + j) := by rw [P.1.2.2.1, en, h38, show (60 : Int32) = nI 60 from rfl, nI_mul, nI_add]
  refine qC_of rfl rfl ?_
  refine qa_t1_W (cut := [18]) 40 ?_
  exact And.intro v7 (cu_18 (d := d + 34) hn hn2 hj hl hl2 (S (d + 14)) (S (d + 13)) C A O ekk P h38 h)
end CL5
/-! readLaw of the reference answers as Pr. -/
def PrL (b : Nat → Int32) (l q : Nat) (x : Bool × Nat) : Prop := Ev (fun F => (if tc b l q = 59 then prF b l F 11 0 (sk b l (q + 1)) else if tc b l q = -1 then (true, q) else (false, q)) = x)
theorem pr_lawL {b : Nat → Int32} {l g p q : Nat} {x : Bool × Nat} (h1 : Pr b l 10 0 p (true, q)) (h2 : PrL b l q x) : Pr b l 11 g p x := Pr_of (Ev_mono (Ev_and h1 h2) fun F e => by
  show sq (prF b l F 10 0 p) _ = _
  rw [e.1, sq_t]
  exact e.2)
theorem prL_59 {b : Nat → Int32} {l q : Nat} {x : Bool × Nat} (h : tc b l q = 59) (h2 : Pr b l 11 0 (sk b l (q + 1)) x) : PrL b l q x := Ev_mono h2 fun F e => by rw [if_pos h, e]
theorem prL_end {b : Nat → Int32} {l q : Nat} (h : tc b l q = -1) : PrL b l q (true, q) := Ev_c fun F => by rw [if_neg (by rw [h]; decide), if_pos h]
theorem prL_bad {b : Nat → Int32} {l q : Nat} (h : tc b l q ≠ 59) (h2 : tc b l q ≠ -1) : PrL b l q (false, q) := Ev_c fun F => by rw [if_neg h, if_neg h2]
/-- what a reader of a whole text answers -/
def rvU (Φ : Bool × Nat → Prop) (v : Int32) : Prop := (v = -1 ∧ ∃ q, Φ (true, q)) ∨ ∃ w, w ≤ 1000 ∧ v = nI w ∧ Φ (false, w)
section LWU
variable {l n : Nat} {s : LMem} {Φ : Bool × Nat → Prop} {Q : LPost}
theorem lu_43 {d bc bs : Nat} {p1 : Int32} {m : LMem} (hl : gI s 33 0 2 = nI l) (hl2 : l ≤ 200) (hO : (∃ c q, lx_P n l 0 c q s m ∧ tc (bS s) l (sk (bS s) l q) ≠ 59 ∧ ∀ x, PrL (bS s) l (sk (bS s) l q) x → Φ x) ∨ ∃ w, w ≤ 1000 ∧ gI m 33 0 4 = nI w ∧ Φ (false, w)) (h : ∀ m v, rvU Φ v → Q (some (lI v)) m) : qW false (d + 3) 225 bc bs 43 [some (lR 33 (some 0)), some (lI p1)] [] m Q := by
  refine qa_t1_W (cut := []) 20 ?_
  refine qC_of rfl rfl ?_
  refine qa_t1_W (cut := []) 40 ?_
  rcases hO with ⟨c, q, P, n59, K⟩ | ⟨w, w1, w2, w3⟩
  · obtain ⟨S0, h3, hpl, hcp, h4, h5⟩ := P
    refine And.intro (fun _ => ?_) (fun w => absurd h4 w)
    refine h_lookT hl hl2 S0 h3 (by omega) fun m1 r1 k4 k5 k3 => Exists.intro _ (And.intro rfl ?_)
    have sk2 : sk (bS s) l q ≤ max q l := sk_le q
    generalize hq : sk (bS s) l q = q1 at *
    refine And.intro (fun e => ?_) (fun ne => ?_)
    · have e : tc (bS s) l q1 = -1 := e
      exact Exists.intro _ (And.intro rfl (h m1 _ (Or.inl ⟨k4.trans h4, q1, K _ (prL_end e)⟩)))
    · have ne : ¬ tc (bS s) l q1 = -1 := ne
      have fin : Q (some (lI (gI (sI m1 33 0 4 (nI q1)) 33 0 4))) (sI m1 33 0 4 (nI q1)) := by
        refine h _ _ (Or.inr ⟨q1, by omega, ?_, K _ (prL_bad n59 ne)⟩)
        rw [gI_sI, if_pos ⟨rfl, rfl, rfl⟩]
      exact h_bad k3 (fun _ => And.intro rfl (Exists.intro _ (And.intro rfl fin))) (fun w => absurd (by rw [k4, h4]) w)
  · refine And.intro (fun w => absurd (w2.symm.trans w) (nI_ne1 (by omega))) (fun _ => ?_)
    exact Exists.intro _ (And.intro rfl (h m _ (Or.inr ⟨w, w1, w2, w3⟩)))
theorem lu_9 {d bc bs : Nat} {p1 : Int32} (hn : n ≤ 6) (hn2 : xI s 33 13 ≤ (n : Int)) (hl : gI s 33 0 2 = nI l) (hl2 : l ≤ 200) (h : ∀ m v, rvU Φ v → Q (some (lI v)) m) : ∀ f j m, ((∃ c q, l - q < f ∧ lx_P n l 0 c q s m ∧ gI m 38 0 n = nI j ∧ 4 * j ≤ sk (bS s) l q + 1 ∧ ∀ x, PrL (bS s) l (sk (bS s) l q) x → Φ x) ∨ ∃ w, w ≤ 1000 ∧ gI m 33 0 4 = nI w ∧ Φ (false, w)) → qW false (d + 40) 225 bc bs 9 [some (lR 33 (some 0)), some (lI p1)] [] m Q := by
  intro f
  induction f with
  | zero =>
    intro j m hS
    rcases hS with ⟨c, q, hf, _⟩ | ⟨w, w1, w2, w3⟩
    · exact absurd hf (Nat.not_lt_zero _)
    · refine qa_t1_W (cut := [9, 43]) 60 ?_
      exact And.intro (fun z => absurd (w2.symm.trans z) (nI_ne1 (by omega))) (fun _ => lu_43 (d := d + 37) (n := n) hl hl2 (Or.inr ⟨w, w1, w2, w3⟩) h)
  | succ f ih =>
    intro j m hS
    rcases hS with ⟨c, q, hf, P, h38, hj, K⟩ | ⟨w, w1, w2, w3⟩
    · refine qa_t1_W (cut := [9, 43]) 60 ?_
      obtain ⟨S0, h3, hpl, hcp, h4, h5⟩ := P
      refine And.intro (fun _ => ?_) (fun z => absurd h4 z)
      have sk1 : q ≤ sk (bS s) l q := sk_ge q
      have sk2 : sk (bS s) l q ≤ max q l := sk_le q
      have sk3 : sk (bS s) l (sk (bS s) l q) = sk (bS s) l q := sk_sk q
      refine h_lookT hl hl2 S0 h3 (by omega) fun m1 r1 k4 k5 k3 => Exists.intro _ (And.intro rfl ?_)
      generalize hq : sk (bS s) l q = q1 at *
      refine And.intro (fun e => ?_) (fun ne => lu_43 (d := d + 37) (n := n) hl hl2 (Or.inl ⟨c, q1, ⟨lr_rd S0 r1, k3, by omega, by omega, by rw [k4, h4], by rw [k5, h5]⟩, by rw [sk3]; exact ne, by rw [sk3]; exact K⟩) h)
      have e : tc (bS s) l q1 = 59 := e
      have hq3 := tc_lt (by decide) e
      have r2 := rd_tr r1 (rd_s (s := m1) (v := gI m1 33 0 3 + 1) (Or.inl rfl : (3 : Nat) = 3 ∨ (3 : Nat) = 4 ∨ (3 : Nat) = 5) rd_0)
      have a2 : gI (sI m1 33 0 3 (gI m1 33 0 3 + 1)) 33 0 3 = nI (q1 + 1) := by rw [gI_sI, if_pos ⟨rfl, rfl, rfl⟩, k3, nI_1]
      have w2 : gI (sI m1 33 0 3 (gI m1 33 0 3 + 1)) 33 0 4 = -1 := by rw [gI_sI, if_neg (fun q => absurd q.2.2 (by decide)), k4, h4]
      have d2 : gI (sI m1 33 0 3 (gI m1 33 0 3 + 1)) 33 0 5 = nI 0 := by rw [gI_sI, if_neg (fun q => absurd q.2.2 (by decide)), k5, h5]
      have h38' : gI (sI m1 33 0 3 (gI m1 33 0 3 + 1)) 38 0 n = nI j := (r2.1 38 0 _ (fun q => by omega)).trans h38
      refine h_clauseU (j := j) hn hn2 hl hl2 (by omega) ⟨lr_rd S0 r2, a2, by omega, by omega, w2, d2⟩ h38' fun m3 hm3 => And.intro rfl ?_
      obtain ⟨J3, F3, hO⟩ := hm3
      rcases hO with ⟨c3, q3, P3, y3, y4⟩ | ⟨w, u1, u2, u3⟩
      · have ge := (Pr_ge y4).2.2 rfl
        have s1 : q1 + 1 ≤ sk (bS s) l (q1 + 1) := sk_ge (q1 + 1)
        have s2 : sk (bS s) l q3 ≤ max q3 l := sk_le q3
        have x3 := P3.2.2.1
        by_cases lt : l - q3 < f
        · exact ih (j + 1) m3 (Or.inl ⟨c3, q3, lt, P3, y3, by omega, fun x hx => K x (prL_59 e (pr_lawL y4 hx))⟩)
        · have s3 : q3 ≤ sk (bS s) l q3 := sk_ge q3
          have s4 : q3 = sk (bS s) l q3 ∨ q3 < l := by
            rcases Nat.lt_or_ge q3 l with z | z
            · exact Or.inr z
            · exact Or.inl (by omega)
          exfalso
          have P3a := P3
          have h33 : q1 + 1 ≤ q3 ∨ q3 ≤ q1 := by omega
          rcases h33 with z | z
          · omega
          · -- between q3 and sk q3 stand blanks alone, but q1 lies there and holds ';'
            have key : ∀ k p, p + k = q1 → sk (bS s) l p = sk (bS s) l q3 → tc (bS s) l q1 = 59 → sk (bS s) l q3 ≤ q1 := by
              intro k
              induction k with
              | zero =>
                intro p hp hs _
                have hp : p = q1 := hp
                subst hp
                rw [sk_n (by rw [e]; decide)] at hs
                omega
              | succ k ihk =>
                intro p hp hs hc
                by_cases b : tc (bS s) l p = 32
                · exact ihk (p + 1) (by omega) (by rw [← sk_b b, hs]) hc
                · rw [sk_n b] at hs
                  omega
            have := key (q1 - q3) q3 (by omega) rfl e
            omega
      · exact ih j m3 (Or.inr ⟨w, u1, u2, K _ (prL_59 e (pr_lawf u3))⟩)
    · refine qa_t1_W (cut := [9, 43]) 60 ?_
      exact And.intro (fun z => absurd (w2.symm.trans z) (nI_ne1 (by omega))) (fun _ => lu_43 (d := d + 37) (n := n) hl hl2 (Or.inr ⟨w, w1, w2, w3⟩) h)
theorem h_readLawU {d : Nat} (hn : n ≤ 6) (hn2 : xI s 33 13 ≤ (n : Int)) (hJ : y_J x_X s) (hl : gI s 33 0 2 = nI l) (hl2 : l ≤ 200) : qC false (d + 41) 225 [lR 33 (some 0), lI (nI n)] s (fun r _ => ∃ v, r = some (lI v) ∧ rvU (Pr (bS s) l 11 0 (sk (bS s) l 0)) v) := by
  have J1 : y_J x_X (sI s 33 0 14 (nI n)) := y_J_w hJ (fun r hr g1 g2 => by
    have hr : r ∈ [((2 : Int), (2 : Int), (0 : Int), (200 : Int)), (13, 13, 0, 6), (14, 14, 0, 6), (21, 21, 0, 4), (22, 22, 0, 4), (35, 36, 0, 1)] := hr
    simp only [List.mem_cons, List.not_mem_nil, or_false] at hr
    rcases hr with rfl | rfl | rfl | rfl | rfl | rfl
    · exact absurd g2 (by decide)
    · exact absurd g2 (by decide)
    · show (0 : Int) ≤ (nI n).toInt ∧ (nI n).toInt ≤ 6
      rw [nI_toInt (by omega)]
      omega
    all_goals exact absurd g1 (by decide)) (x_npr rfl)
  have r2 : rd_S (sI s 33 0 14 (nI n)) (sI (sI (sI (sI s 33 0 14 (nI n)) 33 0 3 0) 33 0 4 (-1)) 33 0 5 0) := rd_s (Or.inr (Or.inr rfl)) (rd_s (Or.inr (Or.inl rfl)) (rd_s (Or.inl rfl) rd_0))
  have x13 : xI (sI (sI (sI (sI s 33 0 14 (nI n)) 33 0 3 0) 33 0 4 (-1)) 33 0 5 0) 33 13 ≤ (n : Int) := by
    unfold xI at hn2 ⊢
    rw [r2.1 33 0 13 (fun q => by omega), gI_sI, if_neg (fun q => absurd q.2.2 (by decide))]
    exact hn2
  have J3 := lr_J (n := n) (k := 37) (j := n) (v := 0) (rd_J J1 r2) x13 (Or.inr (Or.inl rfl))
  have J4 := lr_J (n := n) (k := 38) (j := n) (v := 0) J3 (by
    unfold xI at x13 ⊢
    rw [gI_sI, if_neg (fun q => absurd q.1 (by decide))]
    exact x13) (Or.inr (Or.inr (Or.inl ⟨rfl, rfl⟩)))
  have F4 : y_Fr lr_W s (sI (sI (sI (sI (sI (sI s 33 0 14 (nI n)) 33 0 3 0) 33 0 4 (-1)) 33 0 5 0) 37 0 n 0) 38 0 n 0) := by
    refine y_Fr_sI (y_Fr_sI (y_Fr_tr2 (y_Fr_sI (y_Fr_rf _ _) (x_iW1 (by decide))) (rd_W (by decide) r2)) ⟨(37, 0, 0, 0, 6), by decide, rfl, ⟨Int.le_refl _, Int.le_refl _⟩, ?_, ?_⟩) ⟨(38, 0, 0, 0, 6), by decide, rfl, ⟨Int.le_refl _, Int.le_refl _⟩, ?_, ?_⟩
    · show (0 : Int) ≤ (n : Int); omega
    · show (n : Int) ≤ 6; omega
    · show (0 : Int) ≤ (n : Int); omega
    · show (n : Int) ≤ 6; omega
  have g : ∀ j, gI (sI (sI (sI (sI (sI (sI s 33 0 14 (nI n)) 33 0 3 0) 33 0 4 (-1)) 33 0 5 0) 37 0 n 0) 38 0 n 0) 33 0 j = gI (sI (sI (sI (sI s 33 0 14 (nI n)) 33 0 3 0) 33 0 4 (-1)) 33 0 5 0) 33 0 j := fun j => by
    rw [gI_sI, if_neg (fun q => absurd q.1 (by decide)), gI_sI, if_neg (fun q => absurd q.1 (by decide))]
  have P : lx_P n l 0 0 0 s (sI (sI (sI (sI (sI (sI s 33 0 14 (nI n)) 33 0 3 0) 33 0 4 (-1)) 33 0 5 0) 37 0 n 0) 38 0 n 0) := by
    refine ⟨⟨J4, F4, ?_, ?_⟩, ?_, Nat.zero_le _, Nat.le_refl _, ?_, ?_⟩
    · rw [g, r2.1 33 0 14 (fun q => by omega), gI_sI, if_pos ⟨rfl, rfl, rfl⟩]
    · rw [gI_sI, if_neg (fun q => absurd q.1 (by decide)), gI_sI, if_pos ⟨rfl, rfl, rfl⟩]
      rfl
    · rw [g, gI_sI, if_neg (fun q => absurd q.2.2 (by decide)), gI_sI, if_neg (fun q => absurd q.2.2 (by decide)), gI_sI, if_pos ⟨rfl, rfl, rfl⟩]
      rfl
    · rw [g, gI_sI, if_neg (fun q => absurd q.2.2 (by decide)), gI_sI, if_pos ⟨rfl, rfl, rfl⟩]
    · rw [g, gI_sI, if_pos ⟨rfl, rfl, rfl⟩]
      rfl
  refine qC_of rfl rfl ?_
  refine qa_t1_W (cut := [9]) 40 ?_
  refine h_open hn (And.intro rfl ?_)
  refine h_clauseU (j := 0) hn hn2 hl hl2 (by decide) P (by rw [gI_sI, if_pos ⟨rfl, rfl, rfl⟩]; rfl) fun m3 hm3 => And.intro rfl ?_
  obtain ⟨J3, F3, hO⟩ := hm3
  refine lu_9 hn hn2 hl hl2 (fun m v hv => ⟨v, rfl, hv⟩) (l + 1) 1 m3 ?_
  rcases hO with ⟨c3, q3, P3, y3, y4⟩ | ⟨w, u1, u2, u3⟩
  · have ge := (Pr_ge y4).2.2 rfl
    exact Or.inl ⟨c3, q3, by omega, P3, y3, by omega, fun x hx => pr_lawL y4 hx⟩
  · exact Or.inr ⟨w, u1, u2, pr_lawf u3⟩
end LWU
