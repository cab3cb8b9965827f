/-! THE REFERENCE'S READLAW leaves the law that LR says. -/
def flC : List Cz → List Tk
  | [] => []
  | x :: r => x.1 ++ (x.2 ++ flC r)
theorem flC_app (t u : List Tk) : ∀ cs, flC (cs ++ [(t, u)]) = flC cs ++ t ++ u
  | [] => by
    show t ++ (u ++ []) = [] ++ t ++ u
    rw [List.append_nil, List.nil_append]
  | x :: r => by
    show x.1 ++ (x.2 ++ flC (r ++ [(t, u)])) = x.1 ++ (x.2 ++ flC r) ++ t ++ u
    rw [flC_app t u r]
    simp only [List.append_assoc]
/-- where the clauses of a law stand -/
def lci (n : Nat) (m : LMem) (cs : List Cz) : Prop := gI m 38 0 n = nI cs.length ∧ ∀ j t u, cs[j]? = some (t, u) → gI m 39 0 (60 * n + j) = nI (flC (cs.take j)).length ∧ gI m 40 0 (60 * n + j) = nI (flC (cs.take j) ++ t).length ∧ gI m 41 0 (60 * n + j) = nI (flC (cs.take j) ++ t ++ u).length
def lcn (n : Nat) (m : LMem) (cs : List Cz) : Prop := cont n m (flC cs) ∧ lci n m cs
/-- what a law's reader keeps -/
def ckn (n : Nat) (m m' : LMem) : Prop := ∀ k i x, ¬ (i = 0 ∧ ((k = 33 ∧ (x = 3 ∨ x = 4 ∨ x = 5 ∨ x = 14)) ∨ ((k = 35 ∨ k = 36) ∧ 260 * n ≤ x ∧ x < 260 * n + 260) ∨ ((k = 37 ∨ k = 38) ∧ x = n) ∨ (39 ≤ k ∧ k ≤ 41 ∧ 60 * n ≤ x ∧ x < 60 * n + 60))) → gI m' k i x = gI m k i x
theorem ckn_tr {n : Nat} {a b c : LMem} (h : ckn n a b) (h2 : ckn n b c) : ckn n a c := fun k i x g => (h2 k i x g).trans (h k i x g)
theorem ckn_ck {n j : Nat} {a b : LMem} (hj : j ≤ 59) (h : ck n j a b) : ckn n a b := fun k i x g => h k i x (fun q => g ⟨q.1, by omega⟩)
theorem ckn_rd {n : Nat} {a b : LMem} (h : rd_S a b) : ckn n a b := ckn_ck (j := 0) (by decide) (ck_rd h)
theorem lci_rd {n : Nat} {cs : List Cz} {a b : LMem} (h : rd_S a b) (c : lci n a cs) : lci n b cs := ⟨(h.1 38 0 n (fun q => by omega)).trans c.1, fun j t u e => by
  rw [h.1 39 0 _ (fun q => by omega), h.1 40 0 _ (fun q => by omega), h.1 41 0 _ (fun q => by omega)]
  exact c.2 j t u e⟩
theorem lci_nil {n : Nat} {m : LMem} (h : gI m 38 0 n = 0) : lci n m [] := ⟨h, fun j t u e => by cases e⟩
theorem lci_app {n : Nat} {cs : List Cz} {t u : List Tk} {a b : LMem} (c : lci n a cs) (hk : ck n cs.length a b) (h38 : gI b 38 0 n = nI (cs.length + 1)) (h : gI b 39 0 (60 * n + cs.length) = nI (flC cs).length ∧ gI b 40 0 (60 * n + cs.length) = nI (flC cs ++ t).length ∧ gI b 41 0 (60 * n + cs.length) = nI (flC cs ++ t ++ u).length) : lci n b (cs ++ [(t, u)]) := by
  refine ⟨by rw [h38, List.length_append]; rfl, fun j t' u' e => ?_⟩
  by_cases g : j < cs.length
  · rw [List.getElem?_append_left g] at e
    rw [List.take_append_of_le_length (Nat.le_of_lt g), hk 39 0 _ (fun q => by omega), hk 40 0 _ (fun q => by omega), hk 41 0 _ (fun q => by omega)]
    exact c.2 j t' u' e
  · rw [List.getElem?_append_right (by omega)] at e
    by_cases g2 : j = cs.length
    · subst g2
      rw [Nat.sub_self] at e
      cases e
      rw [List.take_append_of_le_length (Nat.le_refl _), List.take_length]
      exact h
    · rw [List.getElem?_eq_none (by show 1 ≤ j - cs.length; omega)] at e
      cases e
/-- what a reader of a whole text leaves -/
def rvV (n l p0 : Nat) (s m0 m : LMem) (v : Int32) : Prop := y_Fr lr_W s m ∧ ckn n m0 m ∧ (v = -1 → ∃ cs q, LR (bS s) l p0 cs q ∧ tc (bS s) l q = -1 ∧ lcn n m cs ∧ (flC cs).length ≤ 200 ∧ cs.length ≤ 60)
section LWV
variable {l n p0 : Nat} {s m0 : LMem} {Q : LPost}
def lv_I (n l p0 : Nat) (s m0 m : LMem) (cs : List Cz) (q : Nat) : Prop := lx_T n l 0 (flC cs) q s m ∧ lci n m cs ∧ ckn n m0 m ∧ LR (bS s) l p0 cs (sk (bS s) l q)
def lv_B (n : Nat) (s m0 m : LMem) : Prop := y_Fr lr_W s m ∧ ckn n m0 m ∧ ∃ w, w ≤ 1000 ∧ gI m 33 0 4 = nI w
theorem ob_inv {x : Option (Nat × List Tk)} {k : Nat → List Tk → Option (Nat × List Tk)} {r : Nat × List Tk} (e : ob x k = some r) : ∃ q t, x = some (q, t) ∧ k q t = some r := by
  cases x with
  | none => cases e
  | some y => exact ⟨y.1, y.2, rfl, e⟩
theorem ptF_ge {b : Nat → Int32} {l : Nat} : ∀ F nt g p q ts, ptF b l F nt g p = some (q, ts) → p ≤ q ∧ ((nt = 0 ∨ nt = 1 ∨ nt = 3) → p + 1 ≤ q) := by
  intro F
  induction F with
  | zero => intro nt g p q ts h; cases h
  | succ F ih =>
    intro nt g p q ts h
    have h : tbd b l (ptF b l F) nt g p = some (q, ts) := h
    have s : ∀ z, z ≤ sk b l z := fun z => sk_ge z
    have s1 := s (p + 1)
    have loop : ∀ {P : Prop} [Decidable P] {n1 n2 : Nat} {x : Tk}, (if P then ob (ptF b l F n1 g (sk b l (p + 1))) fun q t => ob (ptF b l F n2 g q) fun z u => some (z, t ++ x :: u) else some (p, [])) = some (q, ts) → p ≤ q := fun {P} _ {n1 n2} {x} h => by
      by_cases c : P
      · rw [if_pos c] at h
        obtain ⟨z, t, h1, h2⟩ := ob_inv h
        obtain ⟨z2, u, h3, h4⟩ := ob_inv h2
        cases h4
        have := (ih _ _ _ _ _ h1).1
        have := (ih _ _ _ _ _ h3).1
        omega
      · rw [if_neg c] at h
        cases h
        exact Nat.le_refl _
    have two : ∀ {n1 n2 : Nat}, (ob (ptF b l F n1 g p) fun q t => ob (ptF b l F n2 g q) fun z u => some (z, t ++ u)) = some (q, ts) → p ≤ q ∧ ((n1 = 0 ∨ n1 = 1 ∨ n1 = 3) → p + 1 ≤ q) := fun {n1 n2} h => by
      obtain ⟨z, t, h1, h2⟩ := ob_inv h
      obtain ⟨z2, u, h3, h4⟩ := ob_inv h2
      cases h4
      have i1 := ih _ _ _ _ _ h1
      have := (ih _ _ _ _ _ h3).1
      exact ⟨by omega, fun c => by have := i1.2 c; omega⟩
    match nt with
    | 0 =>
      suffices p + 1 ≤ q from ⟨by omega, fun _ => this⟩
      have h : (if dgB (tc b l p) = true then (if dgB (tc b l (p + dr b l 4 p)) = true then none else some (sk b l (p + dr b l 4 p), [(0, nvT b l 4 p 0)])) else if ltF (tc b l p) ≠ -1 then some (sk b l (p + 1), [(1, ltF (tc b l p))]) else if tc b l p = 91 then (if 6 ≤ g then none else ob (ptF b l F 3 (g + 1) (sk b l (p + 1))) fun q t => if tc b l q = 93 then some (sk b l (q + 1), t) else none) else none) = some (q, ts) := h
      by_cases e : dgB (tc b l p) = true
      · rw [if_pos e] at h
        have hd : 1 ≤ dr b l 4 p := by
          show 1 ≤ (if dgB (tc b l p) = true then dr b l 3 (p + 1) + 1 else 0)
          rw [if_pos e]
          omega
        by_cases e2 : dgB (tc b l (p + dr b l 4 p)) = true
        · rw [if_pos e2] at h
          cases h
        · rw [if_neg e2] at h
          have := s (p + dr b l 4 p)
          cases h
          omega
      · rw [if_neg e] at h
        by_cases e2 : ltF (tc b l p) ≠ -1
        · rw [if_pos e2] at h
          cases h
          omega
        · rw [if_neg e2] at h
          by_cases e3 : tc b l p = 91
          · rw [if_pos e3] at h
            by_cases e4 : 6 ≤ g
            · rw [if_pos e4] at h
              cases h
            · rw [if_neg e4] at h
              obtain ⟨z, t, h1, h2⟩ := ob_inv h
              have := (ih _ _ _ _ _ h1).1
              have := s (z + 1)
              by_cases e5 : tc b l z = 93
              · rw [if_pos e5] at h2
                cases h2
                omega
              · rw [if_neg e5] at h2
                cases h2
          · rw [if_neg e3] at h
            cases h
    | 1 => exact ⟨(two h).1, fun _ => (two h).2 (Or.inl rfl)⟩
    | 2 => exact ⟨loop h, fun e => absurd e (by decide)⟩
    | 3 => exact ⟨(two h).1, fun _ => (two h).2 (Or.inr (Or.inl rfl))⟩
    | 4 => exact ⟨loop h, fun e => absurd e (by decide)⟩
    | 5 =>
      refine ⟨?_, fun e => absurd e (by decide)⟩
      have h : (if sgB (tc b l p) = true then ob (ptF b l F 3 g (sk b l (p + 1))) fun q t => some (q, t ++ [(opT (tc b l p), 0)]) else none) = some (q, ts) := h
      by_cases e : sgB (tc b l p) = true
      · rw [if_pos e] at h
        obtain ⟨z, t, h1, h2⟩ := ob_inv h
        have := (ih _ _ _ _ _ h1).1
        cases h2
        omega
      · rw [if_neg e] at h
        cases h
    | 6 =>
      refine ⟨?_, fun e => absurd e (by decide)⟩
      have h : (if tc b l p = 33 then (if 6 ≤ g then none else ob (ptF b l F 6 (g + 1) (sk b l (p + 1))) fun q t => some (q, t ++ [(9, 0)])) else if tc b l p = 40 then (if 6 ≤ g then none else ob (ptF b l F 9 (g + 1) (sk b l (p + 1))) fun q t => if tc b l q = 41 then some (sk b l (q + 1), t) else none) else ob (ptF b l F 3 g p) fun q t => ob (ptF b l F 5 g q) fun z u => some (z, t ++ u)) = some (q, ts) := h
      by_cases e : tc b l p = 33
      · rw [if_pos e] at h
        by_cases e4 : 6 ≤ g
        · rw [if_pos e4] at h
          cases h
        · rw [if_neg e4] at h
          obtain ⟨z, t, h1, h2⟩ := ob_inv h
          have := (ih _ _ _ _ _ h1).1
          cases h2
          omega
      · rw [if_neg e] at h
        by_cases e2 : tc b l p = 40
        · rw [if_pos e2] at h
          by_cases e4 : 6 ≤ g
          · rw [if_pos e4] at h
            cases h
          · rw [if_neg e4] at h
            obtain ⟨z, t, h1, h2⟩ := ob_inv h
            have := (ih _ _ _ _ _ h1).1
            have := s (z + 1)
            by_cases e5 : tc b l z = 41
            · rw [if_pos e5] at h2
              cases h2
              omega
            · rw [if_neg e5] at h2
              cases h2
        · rw [if_neg e2] at h
          exact (two h).1
    | 7 => exact ⟨loop h, fun e => absurd e (by decide)⟩
    | 8 => exact ⟨loop h, fun e => absurd e (by decide)⟩
    | 9 => exact ⟨(two h).1, fun e => absurd e (by decide)⟩
    | 10 => exact ⟨(two h).1, fun e => absurd e (by decide)⟩
    | _ + 11 => cases h
theorem PT_ge {b : Nat → Int32} {l nt g p q : Nat} {ts : List Tk} (h : PT b l nt g p q ts) : p ≤ q ∧ ((nt = 0 ∨ nt = 1 ∨ nt = 3) → p + 1 ≤ q) := by
  obtain ⟨F0, h⟩ := h
  exact ptF_ge F0 _ _ _ _ _ (h F0 (Nat.le_refl _))
theorem CT_ge {b : Nat → Int32} {l p q : Nat} {t u : List Tk} (h : CT b l p q t u) : p + 3 ≤ q := by
  obtain ⟨_, _, z, hz, h⟩ := h
  have s : ∀ z, z ≤ sk b l z := fun z => sk_ge z
  have s1 := s (p + 1)
  have s2 := s (sk b l (p + 1) + 1)
  have s3 : ∀ x u, PT b l 3 0 x q u → x + 1 ≤ q := fun x u hx => (PT_ge hx).2 (Or.inr (Or.inr rfl))
  rcases h with ⟨_, q1, a1, _, a3⟩ | ⟨_, q0, ta, a1, h⟩
  · have := (PT_ge a1).1
    have := s3 _ _ a3
    have := s (q1 + 1)
    omega
  · have b1 := (PT_ge a1).2 (Or.inr (Or.inr rfl))
    rcases h with ⟨_, _, _, e⟩ | ⟨_, q1, tb, q2, td, q3, te, a2, a3, a4, _, _, a6⟩
    · omega
    · have := (PT_ge a2).1
      have := (PT_ge a3).1
      have := (PT_ge a4).1
      have := s3 _ _ a6
      have := s (q3 + 1)
      omega
theorem LR_len {b : Nat → Int32} {l q : Nat} : ∀ r p, LR b l p r q → p + 4 * r.length ≤ q + 1
  | [], _, h => h.elim
  | x :: r, p, h => by
    obtain ⟨q1, h1, h⟩ := h
    have g := CT_ge h1
    rw [List.length_cons]
    rcases h with ⟨rfl, rfl⟩ | ⟨e1, h⟩
    · show p + 4 * (0 + 1) ≤ _
      omega
    · have := LR_len r _ h
      have s1 : q1 + 1 ≤ sk b l (q1 + 1) := sk_ge (q1 + 1)
      omega
theorem lv_43 {d bc bs : Nat} {p1 : Int32} {m : LMem} (hl : gI s 33 0 2 = nI l) (hl2 : l ≤ 200) (hO : (∃ cs q, lv_I n l p0 s m0 m cs q) ∨ lv_B n s m0 m) (h : ∀ m v, rvV n l p0 s m0 m v → Q (some (lI v)) m) : qW false (d + 3) 225 bc bs 43 [some (lR 33 (some 0)), some (lI p1)] [] m Q := by
  refine qa_t1_W (cut := []) 20 ?_
  refine qC_of rfl rfl ?_
  refine qa_t1_W (cut := []) 40 ?_
  rcases hO with ⟨cs, q, P, LC, KC, LQ⟩ | ⟨FB, KB, w, w1, w2⟩
  · obtain ⟨⟨S0, h3, hpl, hcp, h4, h5⟩, C0⟩ := P
    refine And.intro (fun _ => ?_) (fun w => absurd h4 w)
    refine h_lookT hl hl2 S0 h3 (by omega) fun m1 r1 k4 k5 k3 => Exists.intro _ (And.intro rfl ?_)
    have sk2 : sk (bS s) l q ≤ max q l := sk_le q
    generalize hq : sk (bS s) l q = q1 at *
    refine And.intro (fun e => ?_) (fun ne => ?_)
    · have e : tc (bS s) l q1 = -1 := e
      exact Exists.intro _ (And.intro rfl (h m1 _ ⟨(lr_rd S0 r1).2.1, ckn_tr KC (ckn_rd r1), fun _ => ⟨cs, q1, LQ, e, ⟨cont_rd r1 C0, lci_rd r1 LC⟩, by omega, by have := LR_len _ _ LQ; omega⟩⟩))
    · have ne : ¬ tc (bS s) l q1 = -1 := ne
      have fin : Q (some (lI (gI (sI m1 33 0 4 (nI q1)) 33 0 4))) (sI m1 33 0 4 (nI q1)) := by
        have r2 := rd_tr r1 (rd_s (s := m1) (v := nI q1) (Or.inr (Or.inl rfl) : (4 : Nat) = 3 ∨ (4 : Nat) = 4 ∨ (4 : Nat) = 5) rd_0)
        refine h _ _ ⟨(lr_rd S0 r2).2.1, ckn_tr KC (ckn_rd r2), fun c => ?_⟩
        rw [gI_sI, if_pos ⟨rfl, rfl, rfl⟩] at c
        exact absurd c (nI_ne1 (by omega))
      exact h_bad k3 (fun _ => And.intro rfl (Exists.intro _ (And.intro rfl fin))) (fun w => absurd (by rw [k4, h4]) w)
  · refine And.intro (fun w => absurd (w2.symm.trans w) (nI_ne1 (by omega))) (fun _ => ?_)
    exact Exists.intro _ (And.intro rfl (h m _ ⟨FB, KB, fun c => absurd (w2.symm.trans c) (nI_ne1 (by omega))⟩))
theorem lv_9 {d bc bs : Nat} {p1 : Int32} (hn : n ≤ 6) (hn2 : xI s 33 13 ≤ (n : Int)) (hl : gI s 33 0 2 = nI l) (hl2 : l ≤ 200) (h : ∀ m v, rvV n l p0 s m0 m v → Q (some (lI v)) m) : ∀ f m, ((∃ cs q, l - q < f ∧ 4 * cs.length ≤ sk (bS s) l q + 1 ∧ lv_I n l p0 s m0 m cs q) ∨ lv_B n s m0 m) → qW false (d + 40) 225 bc bs 9 [some (lR 33 (some 0)), some (lI p1)] [] m Q := by
  intro f
  induction f with
  | zero =>
    intro m hS
    rcases hS with ⟨cs, q, hf, _⟩ | ⟨FB, KB, w, w1, w2⟩
    · exact absurd hf (Nat.not_lt_zero _)
    · refine qa_t1_W (cut := [9, 43]) 60 ?_
      exact And.intro (fun z => absurd (w2.symm.trans z) (nI_ne1 (by omega))) (fun _ => lv_43 (d := d + 37) (n := n) hl hl2 (Or.inr ⟨FB, KB, w, w1, w2⟩) h)
  | succ f ih =>
    intro m hS
    rcases hS with ⟨cs, q, hf, hj, P, LC, KC, LQ⟩ | ⟨FB, KB, w, w1, w2⟩
    · refine qa_t1_W (cut := [9, 43]) 60 ?_
      obtain ⟨⟨S0, h3, hpl, hcp, h4, h5⟩, C0⟩ := P
      refine And.intro (fun _ => ?_) (fun z => absurd h4 z)
      have sk1 : q ≤ sk (bS s) l q := sk_ge q
      have sk2 : sk (bS s) l q ≤ max q l := sk_le q
      have sk3 : sk (bS s) l (sk (bS s) l q) = sk (bS s) l q := sk_sk q
      refine h_lookT hl hl2 S0 h3 (by omega) fun m1 r1 k4 k5 k3 => Exists.intro _ (And.intro rfl ?_)
      generalize hq : sk (bS s) l q = q1 at *
      refine And.intro (fun e => ?_) (fun ne => lv_43 (d := d + 37) (n := n) hl hl2 (Or.inl ⟨cs, q1, ⟨⟨lr_rd S0 r1, k3, by omega, by omega, by rw [k4, h4], by rw [k5, h5]⟩, cont_rd r1 C0⟩, lci_rd r1 LC, ckn_tr KC (ckn_rd r1), by rw [sk3]; exact LQ⟩) h)
      have e : tc (bS s) l q1 = 59 := e
      have hq3 := tc_lt (by decide) e
      have r2 := rd_tr r1 (rd_s (s := m1) (v := gI m1 33 0 3 + 1) (Or.inl rfl : (3 : Nat) = 3 ∨ (3 : Nat) = 4 ∨ (3 : Nat) = 5) rd_0)
      have a2 : gI (sI m1 33 0 3 (gI m1 33 0 3 + 1)) 33 0 3 = nI (q1 + 1) := by rw [gI_sI, if_pos ⟨rfl, rfl, rfl⟩, k3, nI_1]
      have w2 : gI (sI m1 33 0 3 (gI m1 33 0 3 + 1)) 33 0 4 = -1 := by rw [gI_sI, if_neg (fun q => absurd q.2.2 (by decide)), k4, h4]
      have d2 : gI (sI m1 33 0 3 (gI m1 33 0 3 + 1)) 33 0 5 = nI 0 := by rw [gI_sI, if_neg (fun q => absurd q.2.2 (by decide)), k5, h5]
      have LC2 := lci_rd r2 LC
      have KC2 : ckn n m0 (sI m1 33 0 3 (gI m1 33 0 3 + 1)) := ckn_tr KC (ckn_rd r2)
      refine h_clauseV (j := cs.length) hn hn2 hl hl2 (by omega) ⟨⟨lr_rd S0 r2, a2, by omega, by omega, w2, d2⟩, cont_rd r2 C0⟩ LC2.1 fun m3 hm3 => And.intro rfl ?_
      obtain ⟨J3, F3, K3, hO⟩ := hm3
      have hj2 : cs.length ≤ 59 := by omega
      rcases hO with ⟨q3, t, u, P3, y3, yc, y4⟩ | ⟨w, u1, u2⟩
      · have ge := CT_ge y4
        have s1 : q1 + 1 ≤ sk (bS s) l (q1 + 1) := sk_ge (q1 + 1)
        have s2 : sk (bS s) l q3 ≤ max q3 l := sk_le q3
        have x3 := P3.1.2.2.1
        have z3 : lv_I n l p0 s m0 m3 (cs ++ [(t, u)]) q3 := ⟨by rw [flC_app]; exact P3, lci_app LC2 K3 y3 yc, ckn_tr KC2 (ckn_ck hj2 K3), LR_app e y4 _ _ LQ⟩
        by_cases lt : l - q3 < f
        · exact ih m3 (Or.inl ⟨_, q3, lt, by rw [List.length_append]; show 4 * (cs.length + 1) ≤ _; omega, z3⟩)
        · have s3 : q3 ≤ sk (bS s) l q3 := sk_ge q3
          have s4 : q3 = sk (bS s) l q3 ∨ q3 < l := by
            rcases Nat.lt_or_ge q3 l with z | z
            · exact Or.inr z
            · exact Or.inl (by omega)
          exfalso
          have P3a := P3
          have h33 : q1 + 1 ≤ q3 ∨ q3 ≤ q1 := by omega
          rcases h33 with z | z
          · omega
          · -- between q3 and sk q3 stand blanks alone, but q1 lies there and holds ';'
            have key : ∀ k p, p + k = q1 → sk (bS s) l p = sk (bS s) l q3 → tc (bS s) l q1 = 59 → sk (bS s) l q3 ≤ q1 := by
              intro k
              induction k with
              | zero =>
                intro p hp hs _
                have hp : p = q1 := hp
                subst hp
                rw [sk_n (by rw [e]; decide)] at hs
                omega
              | succ k ihk =>
                intro p hp hs hc
                by_cases b : tc (bS s) l p = 32
                · exact ihk (p + 1) (by omega) (by rw [← sk_b b, hs]) hc
                · rw [sk_n b] at hs
                  omega
            have := key (q1 - q3) q3 (by omega) rfl e
            omega
      · exact ih m3 (Or.inr ⟨F3, ckn_tr KC2 (ckn_ck hj2 K3), w, u1, u2⟩)
    · refine qa_t1_W (cut := [9, 43]) 60 ?_
      exact And.intro (fun z => absurd (w2.symm.trans z) (nI_ne1 (by omega))) (fun _ => lv_43 (d := d + 37) (n := n) hl hl2 (Or.inr ⟨FB, KB, w, w1, w2⟩) h)
theorem h_readLawV {d : Nat} (hn : n ≤ 6) (hn2 : xI s 33 13 ≤ (n : Int)) (hJ : y_J x_X s) (hl : gI s 33 0 2 = nI l) (hl2 : l ≤ 200) : qC false (d + 41) 225 [lR 33 (some 0), lI (nI n)] s (fun r m => ∃ v, r = some (lI v) ∧ rvV n l (sk (bS s) l 0) s s m v) := by
  have J1 : y_J x_X (sI s 33 0 14 (nI n)) := y_J_w hJ (fun r hr g1 g2 => by
    have hr : r ∈ [((2 : Int), (2 : Int), (0 : Int), (200 : Int)), (13, 13, 0, 6), (14, 14, 0, 6), (21, 21, 0, 4), (22, 22, 0, 4), (35, 36, 0, 1)] := hr
    simp only [List.mem_cons, List.not_mem_nil, or_false] at hr
    rcases hr with rfl | rfl | rfl | rfl | rfl | rfl
    · exact absurd g2 (by decide)
    · exact absurd g2 (by decide)
    · show (0 : Int) ≤ (nI n).toInt ∧ (nI n).toInt ≤ 6
      rw [nI_toInt (by omega)]
      omega
    all_goals exact absurd g1 (by decide)) (x_npr rfl)
  have r2 : rd_S (sI s 33 0 14 (nI n)) (sI (sI (sI (sI s 33 0 14 (nI n)) 33 0 3 0) 33 0 4 (-1)) 33 0 5 0) := rd_s (Or.inr (Or.inr rfl)) (rd_s (Or.inr (Or.inl rfl)) (rd_s (Or.inl rfl) rd_0))
  have x13 : xI (sI (sI (sI (sI s 33 0 14 (nI n)) 33 0 3 0) 33 0 4 (-1)) 33 0 5 0) 33 13 ≤ (n : Int) := by
    unfold xI at hn2 ⊢
    rw [r2.1 33 0 13 (fun q => by omega), gI_sI, if_neg (fun q => absurd q.2.2 (by decide))]
    exact hn2
  have J3 := lr_J (n := n) (k := 37) (j := n) (v := 0) (rd_J J1 r2) x13 (Or.inr (Or.inl rfl))
  have J4 := lr_J (n := n) (k := 38) (j := n) (v := 0) J3 (by
    unfold xI at x13 ⊢
    rw [gI_sI, if_neg (fun q => absurd q.1 (by decide))]
    exact x13) (Or.inr (Or.inr (Or.inl ⟨rfl, rfl⟩)))
  have F4 : y_Fr lr_W s (sI (sI (sI (sI (sI (sI s 33 0 14 (nI n)) 33 0 3 0) 33 0 4 (-1)) 33 0 5 0) 37 0 n 0) 38 0 n 0) := by
    refine y_Fr_sI (y_Fr_sI (y_Fr_tr2 (y_Fr_sI (y_Fr_rf _ _) (x_iW1 (by decide))) (rd_W (by decide) r2)) ⟨(37, 0, 0, 0, 6), by decide, rfl, ⟨Int.le_refl _, Int.le_refl _⟩, ?_, ?_⟩) ⟨(38, 0, 0, 0, 6), by decide, rfl, ⟨Int.le_refl _, Int.le_refl _⟩, ?_, ?_⟩
    · show (0 : Int) ≤ (n : Int); omega
    · show (n : Int) ≤ 6; omega
    · show (0 : Int) ≤ (n : Int); omega
    · show (n : Int) ≤ 6; omega
  have g : ∀ j, gI (sI (sI (sI (sI (sI (sI s 33 0 14 (nI n)) 33 0 3 0) 33 0 4 (-1)) 33 0 5 0) 37 0 n 0) 38 0 n 0) 33 0 j = gI (sI (sI (sI (sI s 33 0 14 (nI n)) 33 0 3 0) 33 0 4 (-1)) 33 0 5 0) 33 0 j := fun j => by
    rw [gI_sI, if_neg (fun q => absurd q.1 (by decide)), gI_sI, if_neg (fun q => absurd q.1 (by decide))]
  have P : lx_P n l 0 0 0 s (sI (sI (sI (sI (sI (sI s 33 0 14 (nI n)) 33 0 3 0) 33 0 4 (-1)) 33 0 5 0) 37 0 n 0) 38 0 n 0) := by
    refine ⟨⟨J4, F4, ?_, ?_⟩, ?_, Nat.zero_le _, Nat.le_refl _, ?_, ?_⟩
    · rw [g, r2.1 33 0 14 (fun q => by omega), gI_sI, if_pos ⟨rfl, rfl, rfl⟩]
    · rw [gI_sI, if_neg (fun q => absurd q.1 (by decide)), gI_sI, if_pos ⟨rfl, rfl, rfl⟩]
      rfl
    · rw [g, gI_sI, if_neg (fun q => absurd q.2.2 (by decide)), gI_sI, if_neg (fun q => absurd q.2.2 (by decide)), gI_sI, if_pos ⟨rfl, rfl, rfl⟩]
      rfl
    · rw [g, gI_sI, if_neg (fun q => absurd q.2.2 (by decide)), gI_sI, if_pos ⟨rfl, rfl, rfl⟩]
    · rw [g, gI_sI, if_pos ⟨rfl, rfl, rfl⟩]
      rfl
  refine qC_of rfl rfl ?_
  refine qa_t1_W (cut := [9]) 40 ?_
  refine h_open hn (And.intro rfl ?_)
  refine h_clauseV (T := []) (p := 0) (j := 0) hn hn2 hl hl2 (by decide) ⟨P, fun j x e => by cases e⟩ (by rw [gI_sI, if_pos ⟨rfl, rfl, rfl⟩]; rfl) fun m3 hm3 => And.intro rfl ?_
  obtain ⟨J3, F3, K3, hO⟩ := hm3
  have K0 : ckn n s m3 := by
    refine ckn_tr (fun k i x g => ?_) (ckn_ck (by decide) K3)
    have g1 : ¬ (k = 38 ∧ i = 0 ∧ x = n) := fun q => g ⟨q.2.1, by omega⟩
    have g2 : ¬ (k = 37 ∧ i = 0 ∧ x = n) := fun q => g ⟨q.2.1, by omega⟩
    have g3 : ¬ (k = 33 ∧ i = 0 ∧ x = 5) := fun q => g ⟨q.2.1, by omega⟩
    have g4 : ¬ (k = 33 ∧ i = 0 ∧ x = 4) := fun q => g ⟨q.2.1, by omega⟩
    have g5 : ¬ (k = 33 ∧ i = 0 ∧ x = 3) := fun q => g ⟨q.2.1, by omega⟩
    have g6 : ¬ (k = 33 ∧ i = 0 ∧ x = 14) := fun q => g ⟨q.2.1, by omega⟩
    rw [gI_sI, if_neg g1, gI_sI, if_neg g2, gI_sI, if_neg g3, gI_sI, if_neg g4, gI_sI, if_neg g5, gI_sI, if_neg g6]
  refine lv_9 (p0 := sk (bS s) l 0) (m0 := s) hn hn2 hl hl2 (fun m v hv => ⟨v, rfl, hv⟩) (l + 1) m3 ?_
  rcases hO with ⟨q3, t, u, P3, y3, yc, y4⟩ | ⟨w, u1, u2⟩
  · have ge := CT_ge y4
    refine Or.inl ⟨[(t, u)], q3, by omega, by show 4 * 1 ≤ _; omega, ?_, ?_, K0, LR_1 y4⟩
    · show lx_T n l 0 (t ++ (u ++ [])) q3 s m3
      rw [List.append_nil]
      exact P3
    · exact ⟨y3, fun j t' u' e => by
        cases j with
        | zero =>
          cases e
          exact yc
        | succ j => cases e⟩
  · exact Or.inr ⟨F3, K0, w, u1, u2⟩
end LWV
