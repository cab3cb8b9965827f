/-! WHAT TOKENS ARE WORTH: a stack of values, as a function. -/
def bdV (v : Int64) : Int32 := if v > 1000000 then 1000000 else if v < -1000000 then -1000000 else v.toInt32
/-- what two become -/
def wkL (c : Int32) (a b : Int64) : Int32 := if c = 2 then bdV (a + b) else if c = 3 then bdV (a - b) else if c = 4 then bdV (a * b) else if c = 5 then (if b = 0 then 0 else bdV (a / b)) else if c = 6 then (if a = b then 1 else 0) else if c = 7 then (if a < b then 1 else 0) else if c = 8 then (if a > b then 1 else 0) else if c = 10 then (if a ≠ 0 ∧ b ≠ 0 then 1 else 0) else (if a ≠ 0 ∨ b ≠ 0 then 1 else 0)
def wkV (c a b : Int32) : Int32 := wkL c a.toInt64 b.toInt64
abbrev tr (v : Int32) : Prop := v = 0 ∨ v = 1
/-- codes of signs that join two -/
abbrev jn (c : Int32) : Prop := c = 2 ∨ c = 3 ∨ c = 4 ∨ c = 5 ∨ c = 6 ∨ c = 7 ∨ c = 8
/-- what a token makes of the stack; none: it may not stand so -/
def stpO (L : Int32 → Int32) (x : Tk) (st : List Int32) : Option (List Int32) :=
  if x.1 = 0 then (if st.length < 30 then some (x.2 :: st) else none)
  else if x.1 = 1 then (if st.length < 30 ∧ 0 ≤ x.2.toInt ∧ x.2.toInt < 8 then some (L x.2 :: st) else none)
  else match st with
    | [] => none
    | a :: r => if x.1 = 9 then (if tr a then some ((1 - a) :: r) else none)
      else match r with
        | [] => none
        | c :: r => if jn x.1 ∨ ((x.1 = 10 ∨ x.1 = 11) ∧ tr a ∧ tr c) then some (wkV x.1 c a :: r) else none
def rnV (L : Int32 → Int32) : List Tk → List Int32 → Option (List Int32)
  | [], st => some st
  | x :: r, st => (stpO L x st).bind (rnV L r)
section EV
variable {L : Int32 → Int32}
theorem rnV_app {st2 : List Int32} {u : List Tk} : ∀ t {st : List Int32}, rnV L t st = some st2 → rnV L (t ++ u) st = rnV L u st2
  | [], st, h => by
    cases h
    rfl
  | x :: r, st, h => by
    have h : (stpO L x st).bind (rnV L r) = some st2 := h
    show (stpO L x st).bind (rnV L (r ++ u)) = _
    cases e : stpO L x st with
    | none =>
      rw [e] at h
      cases h
    | some s' =>
      rw [e] at h
      exact rnV_app r h
theorem rnV_1 {x : Tk} {st st2 : List Int32} (h : stpO L x st = some st2) : rnV L [x] st = some st2 := by
  show (stpO L x st).bind (rnV L []) = _
  rw [h]
  rfl
theorem stp_num {v : Int32} {st : List Int32} (h : st.length < 30) : stpO L (0, v) st = some (v :: st) := by
  show (if (0 : Int32) = 0 then (if st.length < 30 then _ else none) else _) = _
  rw [if_pos rfl, if_pos h]
theorem stp_let {v : Int32} {st : List Int32} (h : st.length < 30) (h1 : 0 ≤ v.toInt ∧ v.toInt < 8) : stpO L (1, v) st = some (L v :: st) := by
  show (if (1 : Int32) = 0 then _ else if (1 : Int32) = 1 then (if st.length < 30 ∧ 0 ≤ v.toInt ∧ v.toInt < 8 then _ else none) else _) = _
  rw [if_neg (by decide), if_pos rfl, if_pos ⟨h, h1⟩]
theorem stp_not {v a : Int32} {r : List Int32} (h : tr a) : stpO L (9, v) (a :: r) = some ((1 - a) :: r) := by
  show (if (9 : Int32) = 0 then _ else if (9 : Int32) = 1 then _ else if (9 : Int32) = 9 then (if tr a then _ else none) else _) = _
  rw [if_neg (by decide), if_neg (by decide), if_pos rfl, if_pos h]
theorem jn_ne {c : Int32} (h : jn c ∨ (c = 10 ∨ c = 11)) : c ≠ 0 ∧ c ≠ 1 ∧ c ≠ 9 := by
  rcases h with (h | h | h | h | h | h | h) | h | h <;> subst h <;> decide
theorem stp_two {x v a c : Int32} {r : List Int32} (h : jn x ∨ ((x = 10 ∨ x = 11) ∧ tr a ∧ tr c)) : stpO L (x, v) (a :: c :: r) = some (wkV x c a :: r) := by
  obtain ⟨n0, n1, n9⟩ := jn_ne (h.imp id fun q => q.1)
  show (if x = 0 then _ else if x = 1 then _ else if x = 9 then _ else (if jn x ∨ ((x = 10 ∨ x = 11) ∧ tr a ∧ tr c) then _ else none)) = _
  rw [if_neg n0, if_neg n1, if_neg n9, if_pos h]
theorem tr_not {a : Int32} (h : tr a) : tr (1 - a) := by
  rcases h with h | h <;> subst h <;> decide
theorem tr_i {P : Prop} [Decidable P] : tr (if P then 1 else 0) := by
  by_cases h : P
  · rw [if_pos h]; exact Or.inr rfl
  · rw [if_neg h]; exact Or.inl rfl
theorem tr_cmp {x c a : Int32} (h : x = 6 ∨ x = 7 ∨ x = 8 ∨ x = 10 ∨ x = 11) : tr (wkV x c a) := by
  unfold wkV wkL
  rcases h with h | h | h | h | h <;> subst h
  · rw [if_neg (by decide), if_neg (by decide), if_neg (by decide), if_neg (by decide), if_pos rfl]; exact tr_i
  · rw [if_neg (by decide), if_neg (by decide), if_neg (by decide), if_neg (by decide), if_neg (by decide), if_pos rfl]; exact tr_i
  · rw [if_neg (by decide), if_neg (by decide), if_neg (by decide), if_neg (by decide), if_neg (by decide), if_neg (by decide), if_pos rfl]; exact tr_i
  · rw [if_neg (by decide), if_neg (by decide), if_neg (by decide), if_neg (by decide), if_neg (by decide), if_neg (by decide), if_neg (by decide), if_pos rfl]; exact tr_i
  · rw [if_neg (by decide), if_neg (by decide), if_neg (by decide), if_neg (by decide), if_neg (by decide), if_neg (by decide), if_neg (by decide), if_neg (by decide)]; exact tr_i
theorem ltF_rg {c : Int32} (h : ltF c ≠ -1) : 0 ≤ (ltF c).toInt ∧ (ltF c).toInt < 8 := by
  unfold ltF at h ⊢
  by_cases e0 : c = 100
  · rw [if_pos e0]; decide
  rw [if_neg e0] at h ⊢
  by_cases e1 : c = 104
  · rw [if_pos e1]; decide
  rw [if_neg e1] at h ⊢
  by_cases e2 : c = 114
  · rw [if_pos e2]; decide
  rw [if_neg e2] at h ⊢
  by_cases e3 : c = 119
  · rw [if_pos e3]; decide
  rw [if_neg e3] at h ⊢
  by_cases e4 : c = 109
  · rw [if_pos e4]; decide
  rw [if_neg e4] at h ⊢
  by_cases e5 : c = 115
  · rw [if_pos e5]; decide
  rw [if_neg e5] at h ⊢
  by_cases e6 : c = 113
  · rw [if_pos e6]; decide
  rw [if_neg e6] at h ⊢
  by_cases e7 : c = 110
  · rw [if_pos e7]; decide
  rw [if_neg e7] at h
  exact absurd rfl h
/-- how many may wait above what waits already -/
def rmO (nt z : Nat) : Nat := (match nt with | 0 => 1 | 1 => 2 | 2 => 2 | 3 => 3 | 4 => 3 | 5 => 4 | 6 => 4 | 7 => 5 | 10 => 5 | _ => 6) + 2 * z
/-- from a stack on: one value more, or in place of the last; a truth from a unit on -/
def RPo (L : Int32 → Int32) (nt g : Nat) (ts : List Tk) : Prop := ∀ a st, (nt = 7 ∨ nt = 8 → tr a) → st.length + rmO nt (6 - g) ≤ 30 → ∃ v, rnV L ts (if nt = 2 ∨ nt = 4 ∨ nt = 5 ∨ nt = 7 ∨ nt = 8 then a :: st else st) = some (v :: st) ∧ (5 ≤ nt → tr v)
theorem RPo_seq {n1 n2 nt g : Nat} {t u : List Tk} (h1 : RPo L n1 g t) (h2 : RPo L n2 g u) (k1 : n1 = 0 ∧ n2 = 2 ∧ nt = 1 ∨ n1 = 1 ∧ n2 = 4 ∧ nt = 3 ∨ n1 = 3 ∧ n2 = 5 ∧ nt = 6 ∨ n1 = 6 ∧ n2 = 7 ∧ nt = 10 ∨ n1 = 10 ∧ n2 = 8 ∧ nt = 9) : RPo L nt g (t ++ u) := fun a st ha hs => by
  have go : ∀ (p1 : ¬ (n1 = 2 ∨ n1 = 4 ∨ n1 = 5 ∨ n1 = 7 ∨ n1 = 8)) (p2 : n2 = 2 ∨ n2 = 4 ∨ n2 = 5 ∨ n2 = 7 ∨ n2 = 8) (p3 : ¬ (nt = 2 ∨ nt = 4 ∨ nt = 5 ∨ nt = 7 ∨ nt = 8)) (q1 : st.length + rmO n1 (6 - g) ≤ 30) (q2 : st.length + rmO n2 (6 - g) ≤ 30) (q3 : n2 = 7 ∨ n2 = 8 → 5 ≤ n1) (q4 : 5 ≤ nt → 5 ≤ n2), ∃ v, rnV L (t ++ u) (if nt = 2 ∨ nt = 4 ∨ nt = 5 ∨ nt = 7 ∨ nt = 8 then a :: st else st) = some (v :: st) ∧ (5 ≤ nt → tr v) := fun p1 p2 p3 q1 q2 q3 q4 => by
    obtain ⟨v, e1, e2⟩ := h1 0 st (fun c => absurd (by omega) p1) q1
    rw [if_neg p1] at e1
    obtain ⟨w, e3, e4⟩ := h2 v st (fun c => e2 (q3 c)) q2
    rw [if_pos p2] at e3
    rw [if_neg p3, rnV_app t e1]
    exact ⟨w, e3, fun c => e4 (q4 c)⟩
  rcases k1 with ⟨rfl, rfl, rfl⟩ | ⟨rfl, rfl, rfl⟩ | ⟨rfl, rfl, rfl⟩ | ⟨rfl, rfl, rfl⟩ | ⟨rfl, rfl, rfl⟩
  · have hs : st.length + (2 + 2 * (6 - g)) ≤ 30 := hs
    exact go (by decide) (by decide) (by decide) (by show st.length + (1 + 2 * (6 - g)) ≤ 30; omega) hs (fun q => absurd q (by decide)) (fun q => absurd q (by decide))
  · have hs : st.length + (3 + 2 * (6 - g)) ≤ 30 := hs
    exact go (by decide) (by decide) (by decide) (by show st.length + (2 + 2 * (6 - g)) ≤ 30; omega) hs (fun q => absurd q (by decide)) (fun q => absurd q (by decide))
  · have hs : st.length + (4 + 2 * (6 - g)) ≤ 30 := hs
    exact go (by decide) (by decide) (by decide) (by show st.length + (3 + 2 * (6 - g)) ≤ 30; omega) hs (fun q => absurd q (by decide)) (fun q => by decide)
  · have hs : st.length + (5 + 2 * (6 - g)) ≤ 30 := hs
    exact go (by decide) (by decide) (by decide) (by show st.length + (4 + 2 * (6 - g)) ≤ 30; omega) hs (fun q => by decide) (fun q => by decide)
  · have hs : st.length + (6 + 2 * (6 - g)) ≤ 30 := hs
    exact go (by decide) (by decide) (by decide) (by show st.length + (5 + 2 * (6 - g)) ≤ 30; omega) hs (fun q => by decide) (fun q => by decide)
/-- the loops: one more, joined; and on -/
theorem RPo_loop {n1 nt g : Nat} {t u : List Tk} {x : Int32} (h1 : RPo L n1 g t) (h2 : RPo L nt g u) (k1 : n1 = 0 ∧ nt = 2 ∧ (x = 4 ∨ x = 5) ∨ n1 = 1 ∧ nt = 4 ∧ (x = 2 ∨ x = 3) ∨ n1 = 6 ∧ nt = 7 ∧ x = 10 ∨ n1 = 10 ∧ nt = 8 ∧ x = 11) : RPo L nt g (t ++ (x, 0) :: u) := fun a st ha hs => by
  have go : ∀ (p1 : ¬ (n1 = 2 ∨ n1 = 4 ∨ n1 = 5 ∨ n1 = 7 ∨ n1 = 8)) (p3 : nt = 2 ∨ nt = 4 ∨ nt = 5 ∨ nt = 7 ∨ nt = 8) (q1 : st.length + 1 + rmO n1 (6 - g) ≤ 30) (q3 : ∀ v, (5 ≤ n1 → tr v) → jn x ∨ ((x = 10 ∨ x = 11) ∧ tr v ∧ tr a)) (q5 : nt = 7 ∨ nt = 8 → x = 6 ∨ x = 7 ∨ x = 8 ∨ x = 10 ∨ x = 11), ∃ v, rnV L (t ++ (x, 0) :: u) (if nt = 2 ∨ nt = 4 ∨ nt = 5 ∨ nt = 7 ∨ nt = 8 then a :: st else st) = some (v :: st) ∧ (5 ≤ nt → tr v) := fun p1 p3 q1 q3 q5 => by
    obtain ⟨v, e1, e2⟩ := h1 0 (a :: st) (fun c => absurd (by omega) p1) q1
    rw [if_neg p1] at e1
    obtain ⟨w, e3, e4⟩ := h2 (wkV x a v) st (fun c => tr_cmp (q5 c)) hs
    rw [if_pos p3] at e3
    rw [if_pos p3, rnV_app t e1]
    refine ⟨w, ?_, e4⟩
    show (stpO L (x, 0) (v :: a :: st)).bind (rnV L u) = _
    rw [stp_two (q3 v e2)]
    exact e3
  rcases k1 with ⟨rfl, rfl, k⟩ | ⟨rfl, rfl, k⟩ | ⟨rfl, rfl, k⟩ | ⟨rfl, rfl, k⟩
  · have hs : st.length + (2 + 2 * (6 - g)) ≤ 30 := hs
    exact go (by decide) (by decide) (by show st.length + 1 + (1 + 2 * (6 - g)) ≤ 30; omega) (fun v _ => Or.inl (by rcases k with rfl | rfl <;> decide)) (fun q => absurd q (by decide))
  · have hs : st.length + (3 + 2 * (6 - g)) ≤ 30 := hs
    exact go (by decide) (by decide) (by show st.length + 1 + (2 + 2 * (6 - g)) ≤ 30; omega) (fun v _ => Or.inl (by rcases k with rfl | rfl <;> decide)) (fun q => absurd q (by decide))
  · have hs : st.length + (5 + 2 * (6 - g)) ≤ 30 := hs
    exact go (by decide) (by decide) (by show st.length + 1 + (4 + 2 * (6 - g)) ≤ 30; omega) (fun v hv => Or.inr ⟨Or.inl k, hv (by decide), ha (Or.inl rfl)⟩) (fun _ => by rw [k]; decide)
  · have hs : st.length + (6 + 2 * (6 - g)) ≤ 30 := hs
    exact go (by decide) (by decide) (by show st.length + 1 + (5 + 2 * (6 - g)) ≤ 30; omega) (fun v hv => Or.inr ⟨Or.inr k, hv (by decide), ha (Or.inr rfl)⟩) (fun _ => by rw [k]; decide)
theorem RPo_nil {nt g : Nat} (h : nt = 2 ∨ nt = 4 ∨ nt = 7 ∨ nt = 8) : RPo L nt g [] := fun a st ha _ => by
  rw [if_pos (by omega)]
  exact ⟨a, rfl, fun _ => ha (by omega)⟩
end EV
theorem ptF_run {L : Int32 → Int32} {b : Nat → Int32} {l : Nat} : ∀ F nt g p q ts, ptF b l F nt g p = some (q, ts) → g ≤ 6 → RPo L nt g ts := by
  intro F
  induction F with
  | zero => intro nt g p q ts h; cases h
  | succ F ih =>
    intro nt g p q ts h hg
    have h : tbd b l (ptF b l F) nt g p = some (q, ts) := h
    match nt with
    | 0 =>
      intro a st _ hs
      have hs : st.length + (1 + 2 * (6 - g)) ≤ 30 := hs
      rw [if_neg (by decide)]
      have h : (if dgB (tc b l p) = true then (if dgB (tc b l (p + dr b l 4 p)) = true then none else some (sk b l (p + dr b l 4 p), [(0, nvT b l 4 p 0)])) else if ltF (tc b l p) ≠ -1 then some (sk b l (p + 1), [(1, ltF (tc b l p))]) else if tc b l p = 91 then (if 6 ≤ g then none else ob (ptF b l F 3 (g + 1) (sk b l (p + 1))) fun q t => if tc b l q = 93 then some (sk b l (q + 1), t) else none) else none) = some (q, ts) := h
      by_cases e : dgB (tc b l p) = true
      · rw [if_pos e] at h
        by_cases e2 : dgB (tc b l (p + dr b l 4 p)) = true
        · rw [if_pos e2] at h
          cases h
        · rw [if_neg e2] at h
          cases h
          exact ⟨_, rnV_1 (stp_num (by omega)), fun c => absurd c (by decide)⟩
      · rw [if_neg e] at h
        by_cases e2 : ltF (tc b l p) ≠ -1
        · rw [if_pos e2] at h
          cases h
          exact ⟨_, rnV_1 (stp_let (by omega) (ltF_rg e2)), fun c => absurd c (by decide)⟩
        · rw [if_neg e2] at h
          by_cases e3 : tc b l p = 91
          · rw [if_pos e3] at h
            by_cases e4 : 6 ≤ g
            · rw [if_pos e4] at h
              cases h
            · rw [if_neg e4] at h
              obtain ⟨z, t, h1, h2⟩ := ob_inv h
              by_cases e5 : tc b l z = 93
              · rw [if_pos e5] at h2
                cases h2
                obtain ⟨v, r1, _⟩ := ih _ _ _ _ _ h1 (by omega) 0 st (fun c => absurd c (by decide)) (by show st.length + (3 + 2 * (6 - (g + 1))) ≤ 30; omega)
                exact ⟨v, r1, fun c => absurd c (by decide)⟩
              · rw [if_neg e5] at h2
                cases h2
          · rw [if_neg e3] at h
            cases h
    | 1 =>
      obtain ⟨z, t, h1, h2⟩ := ob_inv h
      obtain ⟨z2, u, h3, h4⟩ := ob_inv h2
      cases h4
      exact RPo_seq (ih _ _ _ _ _ h1 hg) (ih _ _ _ _ _ h3 hg) (by omega)
    | 2 =>
      have h : (if tc b l p = 42 ∨ tc b l p = 47 then ob (ptF b l F 0 g (sk b l (p + 1))) (fun q t => ob (ptF b l F 2 g q) fun z u => some (z, t ++ (opT (tc b l p), 0) :: u)) else some (p, [])) = some (q, ts) := h
      by_cases e : tc b l p = 42 ∨ tc b l p = 47
      · rw [if_pos e] at h
        obtain ⟨z, t, h1, h2⟩ := ob_inv h
        obtain ⟨z2, u, h3, h4⟩ := ob_inv h2
        cases h4
        exact RPo_loop (ih _ _ _ _ _ h1 hg) (ih _ _ _ _ _ h3 hg) (Or.inl ⟨rfl, rfl, by rcases e with e | e <;> rw [e] <;> decide⟩)
      · rw [if_neg e] at h
        cases h
        exact RPo_nil (by omega)
    | 3 =>
      obtain ⟨z, t, h1, h2⟩ := ob_inv h
      obtain ⟨z2, u, h3, h4⟩ := ob_inv h2
      cases h4
      exact RPo_seq (ih _ _ _ _ _ h1 hg) (ih _ _ _ _ _ h3 hg) (by omega)
    | 4 =>
      have h : (if tc b l p = 43 ∨ tc b l p = 45 then ob (ptF b l F 1 g (sk b l (p + 1))) (fun q t => ob (ptF b l F 4 g q) fun z u => some (z, t ++ (opT (tc b l p), 0) :: u)) else some (p, [])) = some (q, ts) := h
      by_cases e : tc b l p = 43 ∨ tc b l p = 45
      · rw [if_pos e] at h
        obtain ⟨z, t, h1, h2⟩ := ob_inv h
        obtain ⟨z2, u, h3, h4⟩ := ob_inv h2
        cases h4
        exact RPo_loop (ih _ _ _ _ _ h1 hg) (ih _ _ _ _ _ h3 hg) (Or.inr (Or.inl ⟨rfl, rfl, by rcases e with e | e <;> rw [e] <;> decide⟩))
      · rw [if_neg e] at h
        cases h
        exact RPo_nil (by omega)
    | 5 =>
      intro a st _ hs
      have hs : st.length + (4 + 2 * (6 - g)) ≤ 30 := hs
      rw [if_pos (by decide)]
      have h : (if sgB (tc b l p) = true then ob (ptF b l F 3 g (sk b l (p + 1))) (fun q t => some (q, t ++ [(opT (tc b l p), 0)])) else none) = some (q, ts) := h
      by_cases e : sgB (tc b l p) = true
      · rw [if_pos e] at h
        obtain ⟨z, t, h1, h2⟩ := ob_inv h
        cases h2
        obtain ⟨v, r1, _⟩ := ih _ _ _ _ _ h1 hg 0 (a :: st) (fun c => absurd c (by decide)) (by show st.length + 1 + (3 + 2 * (6 - g)) ≤ 30; omega)
        rw [if_neg (by decide)] at r1
        have ho : opT (tc b l p) = 6 ∨ opT (tc b l p) = 7 ∨ opT (tc b l p) = 8 := by
          have hs3 : sgn (tc b l p) := by
            rcases Classical.em (sgn (tc b l p)) with c | c
            · exact c
            · rw [sgB_f c] at e
              cases e
          rcases hs3 with c | c | c <;> rw [c] <;> decide
        rw [rnV_app t r1]
        refine ⟨_, rnV_1 (stp_two (Or.inl ?_)), fun _ => tr_cmp ?_⟩
        · rcases ho with c | c | c <;> rw [c] <;> decide
        · rcases ho with c | c | c <;> rw [c] <;> decide
      · rw [if_neg e] at h
        cases h
    | 6 =>
      have h : (if tc b l p = 33 then (if 6 ≤ g then none else ob (ptF b l F 6 (g + 1) (sk b l (p + 1))) fun q t => some (q, t ++ [(9, 0)])) else if tc b l p = 40 then (if 6 ≤ g then none else ob (ptF b l F 9 (g + 1) (sk b l (p + 1))) fun q t => if tc b l q = 41 then some (sk b l (q + 1), t) else none) else ob (ptF b l F 3 g p) fun q t => ob (ptF b l F 5 g q) fun z u => some (z, t ++ u)) = some (q, ts) := h
      by_cases e : tc b l p = 33
      · rw [if_pos e] at h
        by_cases e4 : 6 ≤ g
        · rw [if_pos e4] at h
          cases h
        · rw [if_neg e4] at h
          obtain ⟨z, t, h1, h2⟩ := ob_inv h
          cases h2
          intro a st _ hs
          have hs : st.length + (4 + 2 * (6 - g)) ≤ 30 := hs
          obtain ⟨v, r1, r2⟩ := ih _ _ _ _ _ h1 (by omega) 0 st (fun c => absurd c (by decide)) (by show st.length + (4 + 2 * (6 - (g + 1))) ≤ 30; omega)
          rw [if_neg (by decide)] at r1 ⊢
          rw [rnV_app t r1]
          exact ⟨_, rnV_1 (stp_not (r2 (by decide))), fun _ => tr_not (r2 (by decide))⟩
      · rw [if_neg e] at h
        by_cases e2 : tc b l p = 40
        · rw [if_pos e2] at h
          by_cases e4 : 6 ≤ g
          · rw [if_pos e4] at h
            cases h
          · rw [if_neg e4] at h
            obtain ⟨z, t, h1, h2⟩ := ob_inv h
            by_cases e5 : tc b l z = 41
            · rw [if_pos e5] at h2
              cases h2
              intro a st _ hs
              have hs : st.length + (4 + 2 * (6 - g)) ≤ 30 := hs
              obtain ⟨v, r1, r2⟩ := ih _ _ _ _ _ h1 (by omega) 0 st (fun c => absurd c (by decide)) (by show st.length + (6 + 2 * (6 - (g + 1))) ≤ 30; omega)
              exact ⟨v, r1, fun _ => r2 (by decide)⟩
            · rw [if_neg e5] at h2
              cases h2
        · rw [if_neg e2] at h
          obtain ⟨z, t, h1, h2⟩ := ob_inv h
          obtain ⟨z2, u, h3, h4⟩ := ob_inv h2
          cases h4
          exact RPo_seq (ih _ _ _ _ _ h1 hg) (ih _ _ _ _ _ h3 hg) (by omega)
    | 7 =>
      have h : (if tc b l p = 38 then ob (ptF b l F 6 g (sk b l (p + 1))) (fun q t => ob (ptF b l F 7 g q) fun z u => some (z, t ++ (10, 0) :: u)) else some (p, [])) = some (q, ts) := h
      by_cases e : tc b l p = 38
      · rw [if_pos e] at h
        obtain ⟨z, t, h1, h2⟩ := ob_inv h
        obtain ⟨z2, u, h3, h4⟩ := ob_inv h2
        cases h4
        exact RPo_loop (ih _ _ _ _ _ h1 hg) (ih _ _ _ _ _ h3 hg) (Or.inr (Or.inr (Or.inl ⟨rfl, rfl, rfl⟩)))
      · rw [if_neg e] at h
        cases h
        exact RPo_nil (by omega)
    | 8 =>
      have h : (if tc b l p = 124 then ob (ptF b l F 10 g (sk b l (p + 1))) (fun q t => ob (ptF b l F 8 g q) fun z u => some (z, t ++ (11, 0) :: u)) else some (p, [])) = some (q, ts) := h
      by_cases e : tc b l p = 124
      · rw [if_pos e] at h
        obtain ⟨z, t, h1, h2⟩ := ob_inv h
        obtain ⟨z2, u, h3, h4⟩ := ob_inv h2
        cases h4
        exact RPo_loop (ih _ _ _ _ _ h1 hg) (ih _ _ _ _ _ h3 hg) (Or.inr (Or.inr (Or.inr ⟨rfl, rfl, rfl⟩)))
      · rw [if_neg e] at h
        cases h
        exact RPo_nil (by omega)
    | 9 =>
      obtain ⟨z, t, h1, h2⟩ := ob_inv h
      obtain ⟨z2, u, h3, h4⟩ := ob_inv h2
      cases h4
      exact RPo_seq (ih _ _ _ _ _ h1 hg) (ih _ _ _ _ _ h3 hg) (by omega)
    | 10 =>
      obtain ⟨z, t, h1, h2⟩ := ob_inv h
      obtain ⟨z2, u, h3, h4⟩ := ob_inv h2
      cases h4
      exact RPo_seq (ih _ _ _ _ _ h1 hg) (ih _ _ _ _ _ h3 hg) (by omega)
    | _ + 11 => cases h
theorem PT_run {L : Int32 → Int32} {b : Nat → Int32} {l nt g p q : Nat} {ts : List Tk} (h : PT b l nt g p q ts) (hg : g ≤ 6) : RPo L nt g ts := by
  obtain ⟨F0, h⟩ := h
  exact ptF_run F0 _ _ _ _ _ (h F0 (Nat.le_refl _)) hg
/-- a law whose clauses run -/
def lwR (cs : List Cz) : Prop := ∀ L : Int32 → Int32, ∀ t u, (t, u) ∈ cs → (t = [] ∨ ∃ v, rnV L t [] = some [v]) ∧ ∃ v, rnV L u [] = some [v]
theorem CT_run {b : Nat → Int32} {l p q : Nat} {t u : List Tk} (h : CT b l p q t u) (L : Int32 → Int32) : (t = [] ∨ ∃ v, rnV L t [] = some [v]) ∧ ∃ v, rnV L u [] = some [v] := by
  obtain ⟨_, _, z, _, h⟩ := h
  have s3 : ∀ {x y u}, PT b l 3 0 x y u → ∃ v, rnV L u [] = some [v] := fun hx => by
    obtain ⟨v, e, _⟩ := PT_run (L := L) hx (by decide) 0 [] (fun c => absurd c (by decide)) (by decide)
    exact ⟨v, e⟩
  rcases h with ⟨_, q1, a1, _, a3⟩ | ⟨_, q0, ta, a1, h⟩
  · obtain ⟨v, e, _⟩ := PT_run (L := L) a1 (by decide) 0 [] (fun c => absurd c (by decide)) (by decide)
    exact ⟨Or.inr ⟨v, e⟩, s3 a3⟩
  · rcases h with ⟨_, e1, e2, _⟩ | ⟨_, q1, tb, q2, td, q3, te, a2, a3, a4, et, _, a6⟩
    · subst e1 e2
      exact ⟨Or.inl rfl, s3 a1⟩
    · subst et
      refine ⟨Or.inr ?_, s3 a6⟩
      obtain ⟨v1, e1⟩ := s3 a1
      obtain ⟨v2, e2, k2⟩ := PT_run (L := L) a2 (by decide) v1 [] (fun c => absurd c (by decide)) (by decide)
      obtain ⟨v3, e3, k3⟩ := PT_run (L := L) a3 (by decide) v2 [] (fun c => k2 (by decide)) (by decide)
      obtain ⟨v4, e4, k4⟩ := PT_run (L := L) a4 (by decide) v3 [] (fun c => k3 (by decide)) (by decide)
      rw [rnV_app ta e1, rnV_app tb (by exact e2), rnV_app td (by exact e3)]
      exact ⟨v4, e4⟩
theorem LR_run {b : Nat → Int32} {l q : Nat} : ∀ cs p, LR b l p cs q → lwR cs
  | [], _, h => h.elim
  | x :: r, p, h => fun L t u hm => by
    obtain ⟨q1, h1, h⟩ := h
    rcases List.mem_cons.mp hm with e | hm
    · subst e
      exact CT_run h1 L
    · rcases h with ⟨rfl, _⟩ | ⟨_, h⟩
      · cases hm
      · exact LR_run r _ h L t u hm
/-- what a law is worth -/
def wrV (L : Int32 → Int32) : List Cz → Int32
  | [] => 0
  | (t, u) :: r => if t = [] ∨ (rnV L t [] ≠ some [0]) then (match rnV L u [] with | some (v :: _) => v | _ => 0) else wrV L r
