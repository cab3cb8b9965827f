/-! THE CLASS'S CLAUSE AND LAW leave what CT, LR say. -/
theorem ptF_ne {b : Nat → Int32} {l : Nat} : ∀ F nt g p q ts, ptF b l F nt g p = some (q, ts) → (nt = 0 ∨ nt = 1 ∨ nt = 3 ∨ nt = 5 ∨ nt = 6 ∨ nt = 9 ∨ nt = 10) → 1 ≤ ts.length := by
  intro F
  induction F with
  | zero => intro nt g p q ts h; cases h
  | succ F ih =>
    intro nt g p q ts h hn
    have h : tbd b l (ptF b l F) nt g p = some (q, ts) := h
    have two : ∀ {n1 n2 : Nat}, (n1 = 0 ∨ n1 = 1 ∨ n1 = 3 ∨ n1 = 5 ∨ n1 = 6 ∨ n1 = 9 ∨ n1 = 10) → (ob (ptF b l F n1 g p) fun q t => ob (ptF b l F n2 g q) fun z u => some (z, t ++ u)) = some (q, ts) → 1 ≤ ts.length := fun {n1 n2} hn h => by
      obtain ⟨z, t, h1, h2⟩ := ob_inv h
      obtain ⟨z2, u, h3, h4⟩ := ob_inv h2
      cases h4
      have i1 := ih _ _ _ _ _ h1 hn
      rw [List.length_append]
      omega
    have last : ∀ (t : List Tk) (x : Tk), 1 ≤ (t ++ [x]).length := fun t x => by rw [len_1]; omega
    match nt with
    | 0 =>
      have h : (if dgB (tc b l p) = true then (if dgB (tc b l (p + dr b l 4 p)) = true then none else some (sk b l (p + dr b l 4 p), [(0, nvT b l 4 p 0)])) else if ltF (tc b l p) ≠ -1 then some (sk b l (p + 1), [(1, ltF (tc b l p))]) else if tc b l p = 91 then (if 6 ≤ g then none else ob (ptF b l F 3 (g + 1) (sk b l (p + 1))) fun q t => if tc b l q = 93 then some (sk b l (q + 1), t) else none) else none) = some (q, ts) := h
      by_cases e : dgB (tc b l p) = true
      · rw [if_pos e] at h
        by_cases e2 : dgB (tc b l (p + dr b l 4 p)) = true
        · rw [if_pos e2] at h
          cases h
        · rw [if_neg e2] at h
          cases h
          exact Nat.le_refl _
      · rw [if_neg e] at h
        by_cases e2 : ltF (tc b l p) ≠ -1
        · rw [if_pos e2] at h
          cases h
          exact Nat.le_refl _
        · rw [if_neg e2] at h
          by_cases e3 : tc b l p = 91
          · rw [if_pos e3] at h
            by_cases e4 : 6 ≤ g
            · rw [if_pos e4] at h
              cases h
            · rw [if_neg e4] at h
              obtain ⟨z, t, h1, h2⟩ := ob_inv h
              have := ih _ _ _ _ _ h1 (by omega)
              by_cases e5 : tc b l z = 93
              · rw [if_pos e5] at h2
                cases h2
                exact this
              · rw [if_neg e5] at h2
                cases h2
          · rw [if_neg e3] at h
            cases h
    | 1 => exact two (by omega) h
    | 2 => exact absurd hn (by decide)
    | 3 => exact two (by omega) h
    | 4 => exact absurd hn (by decide)
    | 5 =>
      have h : (if sgB (tc b l p) = true then ob (ptF b l F 3 g (sk b l (p + 1))) fun q t => some (q, t ++ [(opT (tc b l p), 0)]) else none) = some (q, ts) := h
      by_cases e : sgB (tc b l p) = true
      · rw [if_pos e] at h
        obtain ⟨z, t, h1, h2⟩ := ob_inv h
        cases h2
        exact last _ _
      · rw [if_neg e] at h
        cases h
    | 6 =>
      have h : (if tc b l p = 33 then (if 6 ≤ g then none else ob (ptF b l F 6 (g + 1) (sk b l (p + 1))) fun q t => some (q, t ++ [(9, 0)])) else if tc b l p = 40 then (if 6 ≤ g then none else ob (ptF b l F 9 (g + 1) (sk b l (p + 1))) fun q t => if tc b l q = 41 then some (sk b l (q + 1), t) else none) else ob (ptF b l F 3 g p) fun q t => ob (ptF b l F 5 g q) fun z u => some (z, t ++ u)) = some (q, ts) := h
      by_cases e : tc b l p = 33
      · rw [if_pos e] at h
        by_cases e4 : 6 ≤ g
        · rw [if_pos e4] at h
          cases h
        · rw [if_neg e4] at h
          obtain ⟨z, t, h1, h2⟩ := ob_inv h
          cases h2
          exact last _ _
      · rw [if_neg e] at h
        by_cases e2 : tc b l p = 40
        · rw [if_pos e2] at h
          by_cases e4 : 6 ≤ g
          · rw [if_pos e4] at h
            cases h
          · rw [if_neg e4] at h
            obtain ⟨z, t, h1, h2⟩ := ob_inv h
            have := ih _ _ _ _ _ h1 (by omega)
            by_cases e5 : tc b l z = 41
            · rw [if_pos e5] at h2
              cases h2
              exact this
            · rw [if_neg e5] at h2
              cases h2
        · rw [if_neg e2] at h
          exact two (by omega) h
    | 7 => exact absurd hn (by decide)
    | 8 => exact absurd hn (by decide)
    | 9 => exact two (by omega) h
    | 10 => exact two (by omega) h
    | _ + 11 => cases h
theorem PT_ne {b : Nat → Int32} {l nt g p q : Nat} {ts : List Tk} (h : PT b l nt g p q ts) (hn : nt = 0 ∨ nt = 1 ∨ nt = 3 ∨ nt = 5 ∨ nt = 6 ∨ nt = 9 ∨ nt = 10) : 1 ≤ ts.length := by
  obtain ⟨F0, h⟩ := h
  exact ptF_ne F0 _ _ _ _ _ (h F0 (Nat.le_refl _)) hn
/-- the signs of a clause behind L0 -/
def clC (L0 : List Ck) (t u : List Tk) : List Ck := if t = [] then (L0 ++ u.map cT) ++ [(59, 0)] else ((L0 ++ t.map cT) ++ (63, nI (L0.length + t.length + 1 + u.length)) :: u.map cT) ++ [(59, 0)]
def clsC (cs : List Cz) : List Ck := cs.foldl (fun L x => clC L x.1 x.2) []
theorem clsC_app {cs : List Cz} {t u : List Tk} : clsC (cs ++ [(t, u)]) = clC (clsC cs) t u := by
  unfold clsC
  rw [List.foldl_append]
  rfl
section CGV
variable {d l n : Nat} {s : LMem} {L0 : List Ck}
theorem h_endAtV {p : Nat} {A B : List Ck} {x y : Int32} {m : LMem} {Q : LPost} (hA : A.length < 200) (S : tk_X (xV n s (A ++ (x, y) :: B)) l s m p) (h : ∀ m, tk_X (xV n s (A ++ (x, nI (A ++ (x, y) :: B).length) :: B)) l s m p → Q none m) : qC false (d + 1) 65 [lR 8 (some n), lI (nI A.length)] m Q := by
  have S0 := S
  obtain ⟨⟨J, el, eb, ep, hpl⟩, hk, hc1, hc2⟩ := S
  refine qC_of rfl rfl ?_
  refine qa_t1_W (cut := []) 40 ?_
  refine And.intro (fun _ => ?_) (fun c => absurd (nI_lt (b := 200) hA (by decide)) c)
  have hv : qa_vin (nI A.length) 200 := nI_in (by omega) (by decide)
  have ct : (nI A.length).toNatClampNeg = A.length := nI_clamp (by omega)
  have fin : Q none (sI m 10 n (nI A.length).toNatClampNeg (gI m 8 n 2)) := by
    have g : ∀ k i j, k ≠ 10 → gI (sI m 10 n (nI A.length).toNatClampNeg (gI m 8 n 2)) k i j = gI m k i j := fun k i j g1 => by
      rw [gI_sI, if_neg (fun q => g1 q.1)]
    refine h _ ⟨⟨y_J_w J (fun r hr _ _ => absurd hr List.not_mem_nil) (x_npr rfl), by rw [g 1 0 1 (by decide), el], ?_, by rw [g 1 0 2 (by decide), ep], hpl⟩, kC_s (Or.inr (Or.inr ⟨Or.inr rfl, rfl⟩)) hk, ?_, fun j z ez => ?_⟩
    · rw [← eb]
      exact funext fun j => g 2 0 j (by decide)
    · rw [g 8 n 2 (by decide), hc1, List.length_append, List.length_append]
      rfl
    · rw [g 9 n j (by decide), hc1, ct]
      by_cases e : j = A.length
      · subst e
        have a := hc2 A.length (x, y) (by rw [List.getElem?_append_right (Nat.le_refl _), Nat.sub_self]; rfl)
        rw [List.getElem?_append_right (Nat.le_refl _), Nat.sub_self] at ez
        cases ez
        exact ⟨a.1, by rw [gI_sI, if_pos ⟨rfl, rfl, rfl⟩]⟩
      · rw [gI_sI, if_neg (fun q => absurd q.2.2 (by omega))]
        refine hc2 j z ?_
        by_cases e2 : j < A.length
        · rw [List.getElem?_append_left e2] at ez ⊢
          exact ez
        · rw [List.getElem?_append_right (by omega)] at ez ⊢
          obtain ⟨k, hk⟩ : ∃ k, j - A.length = k + 1 := ⟨j - A.length - 1, by omega⟩
          rw [hk] at ez ⊢
          exact ez
  exact And.intro hv fin
/-- behind a clause's sum: it ends -/
theorem cc_122V {bc bs q : Nat} {L : List Ck} {o2 o3 : Option LV} {m : LMem} {R : LPost} (hL : L.length < 200) (S : tk_X (xV n s L) l s m q) (h : ∀ m', tk_X (xV n s (L ++ [(59, 0)])) l s m' q → R (some (lI 1)) m') : qW false (d + 1) 64 bc bs 122 [some (lR 8 (some n)), some (lR 1 (some 0)), o2, o3] [] m R := by
  refine qa_t1_W (cut := []) 20 ?_
  refine h_addV hL S fun m4 S4 => And.intro rfl ?_
  exact And.intro (Or.inr rfl) (h m4 S4)
theorem len_1k {L : List Ck} {x : Ck} : (L ++ [x]).length = L.length + 1 := by rw [List.length_append]; rfl
theorem AT_nil {b : Nat → Int32} {nt g p q : Nat} {U : List Tk} (h : AT b l nt g p [] q U) : PT b l nt g p q U := by
  obtain ⟨ts, e, h⟩ := h
  rw [List.nil_append] at e
  rw [e]
  exact h
/-- behind a clause's condition -/
theorem cc_83V {bc bs p p0 : Nat} {t : List Tk} {Φ : Nat → List Tk → List Tk → Prop} {b2 : Int32} {o3 : Option LV} {m : LMem} {R : LPost} (hB : tp_B (bC s) l) (hl2 : l ≤ 200) (hs : ∀ L1, rdD (AT (bC s) l 3 0) l n s L1 71 (d + 2) [lI (nI 0)]) (S : tk_X (xV n s (L0 ++ t.map cT)) l s m p) (hL : L0.length + 2 ≤ p0) (hT : t.length + p0 ≤ p) (ht : 1 ≤ t.length) (K : tc (bC s) l (sk (bC s) l p) = 63 → ∀ q u, PT (bC s) l 3 0 (sk (bC s) l (sk (bC s) l p + 1)) q u → Φ q t u) (h1 : ∀ m' q t u, tk_X (xV n s (clC L0 t u)) l s m' q → (clC L0 t u).length ≤ q → Φ (sk (bC s) l q) t u → R (some (lI 1)) m') (h0 : ∀ m' w, tk_X (kC n s) l s m' w → R (some (lI 0)) m') : qW false (d + 2) 64 bc bs 83 [some (lR 8 (some n)), some (lR 1 (some 0)), some (lI b2), o3] [] m R := by
  refine qa_t1_W (cut := [122]) 60 ?_
  refine h_takesX hB pX_V hl2 S (by decide) (by decide) (fun m1 S1 e => Exists.intro 1 (And.intro rfl ?_)) (fun m1 S1 e => Exists.intro 0 (And.intro rfl ?_))
  · refine And.intro (fun q => absurd q (by decide)) (fun _ => ?_)
    have hz : gI m1 8 n 2 = nI (L0 ++ t.map cT).length := S1.2.2.1
    have lz : (L0 ++ t.map cT).length = L0.length + t.length := by rw [List.length_append, List.length_map]
    have sp : p ≤ sk (bC s) l p := sk_ge p
    have hpl := S1.1.2.2.2.2
    refine h_addV (by omega) S1 fun m2 S2 => And.intro rfl ?_
    refine hs ((L0 ++ t.map cT) ++ [(63, 0)]) [] _ m2 _ (by rw [List.map_nil, List.append_nil]; exact S2) (by rw [len_1k]; show _ + 0 ≤ _; omega) (fun m3 y u S3 hU T => Exists.intro 1 (And.intro rfl ?_)) (fun m3 w S3 => Exists.intro 0 (And.intro rfl ?_))
    · have hU : u.length + (sk (bC s) l p + 1) ≤ y := hU
      have hyl := S3.1.2.2.2.2
      refine And.intro (fun q => absurd q (by decide)) (fun _ => ?_)
      have S3 : tk_X (xV n s ((L0 ++ t.map cT) ++ (63, 0) :: u.map cT)) l s m3 y := by
        rw [List.append_assoc (L0 ++ t.map cT) [(63, 0)]] at S3
        exact S3
      have le : ((L0 ++ t.map cT) ++ ((63, 0) : Ck) :: u.map cT).length = L0.length + t.length + 1 + u.length := by
        rw [List.length_append, lz, List.length_cons, List.length_map]
        omega
      have ne : ¬ t = [] := fun c => by
        rw [c] at ht
        exact absurd ht (by decide)
      have ec : clC L0 t u = ((L0 ++ t.map cT) ++ (63, nI (L0.length + t.length + 1 + u.length)) :: u.map cT) ++ [(59, 0)] := if_neg ne
      have go : qC false (d + 2) 65 [lR 8 (some n), lI (gI m1 8 n 2)] m3 (fun r m4 => r = none ∧ qW false (d + 2) 64 bc bs 122 [some (lR 8 (some n)), some (lR 1 (some 0)), some (lI b2), some (lI (gI m1 8 n 2))] [] m4 R) := by
        rw [hz]
        refine h_endAtV (by omega) S3 fun m4 S4 => And.intro rfl ?_
        rw [le] at S4
        have le2 : ((L0 ++ t.map cT) ++ ((63, nI (L0.length + t.length + 1 + u.length)) : Ck) :: u.map cT).length = L0.length + t.length + 1 + u.length := by
          rw [List.length_append, lz, List.length_cons, List.length_map]
          omega
        exact cc_122V (d := d + 1) (by omega) S4 (fun m' S' => h1 m' y t u (by rw [ec]; exact S') (by rw [ec, len_1k, le2]; omega) (K e _ _ (AT_nil T)))
      exact go
    · refine And.intro (fun _ => ?_) (fun q => absurd rfl q)
      exact And.intro (Or.inl rfl) (h0 m3 w S3)
  · refine And.intro (fun _ => ?_) (fun q => absurd rfl q)
    exact And.intro (Or.inl rfl) (h0 m1 _ (tk_VF S1))
theorem cc_44V {bc bs z p0 : Nat} {m : LMem} {Φ : Nat → List Tk → List Tk → Prop} {R : LPost} (hB : tp_B (bC s) l) (hl2 : l ≤ 200) (hs : ∀ L1, rdD (AT (bC s) l 3 0) l n s L1 71 (d + 2) [lI (nI 0)]) (hc0 : rdD (AT (bC s) l 9 0) l n s L0 66 (d + 2) [lI (nI 0), lI 0]) (S : tk_X (xV n s L0) l s m z) (hL : L0.length + 2 ≤ p0) (hp : p0 ≤ z) (e : tc (bC s) l z = 33 ∨ tc (bC s) l z = 40) (sk3 : sk (bC s) l z = z) (K : ∀ q1 t, PT (bC s) l 9 0 z q1 t → tc (bC s) l q1 = 63 → ∀ q u, PT (bC s) l 3 0 (sk (bC s) l (q1 + 1)) q u → Φ q t u) (h1 : ∀ m' q t u, tk_X (xV n s (clC L0 t u)) l s m' q → (clC L0 t u).length ≤ q → Φ (sk (bC s) l q) t u → R (some (lI 1)) m') (h0 : ∀ m' w, tk_X (kC n s) l s m' w → R (some (lI 0)) m') : qW false (d + 2) 64 bc bs 44 [some (lR 8 (some n)), some (lR 1 (some 0)), some (lI 0), none] [] m R := by
  refine qa_t1_W (cut := [83, 122]) 60 ?_
  refine And.intro (fun _ => ?_) (fun q => absurd rfl q)
  refine And.intro (fun _ => ?_) (fun q => absurd rfl q)
  refine hc0 [] z m _ (by rw [List.map_nil, List.append_nil]; exact S) (by show _ + 0 ≤ _; omega) (fun m1 q t S1 hU T => Exists.intro 1 (And.intro rfl ?_)) (fun m1 w S1 => Exists.intro 0 (And.intro rfl ?_))
  · rw [sk3] at T
    refine And.intro (fun q => absurd q (by decide)) (fun _ => ?_)
    exact cc_83V (p0 := z) hB hl2 hs S1 (by omega) (by have hU : t.length + z ≤ q := hU; exact hU) (PT_ne (AT_nil T) (by omega)) (K _ t (AT_nil T)) h1 h0
  · refine And.intro (fun _ => ?_) (fun q => absurd rfl q)
    exact And.intro (Or.inl rfl) (h0 m1 w S1)
theorem c_clauseV (hB : tp_B (bC s) l) (hl2 : l ≤ 200) (hs : ∀ L1, rdD (AT (bC s) l 3 0) l n s L1 71 (d + 2) [lI (nI 0)]) (hc0 : rdD (AT (bC s) l 9 0) l n s L0 66 (d + 2) [lI (nI 0), lI 0]) (hc1 : rdD (AO (bC s) l 5 0) l n s L0 66 (d + 2) [lI (nI 0), lI 1]) {p : Nat} {m : LMem} {R : LPost} (S : tk_X (xV n s L0) l s m p) (hL : L0.length ≤ p) (h1 : ∀ m' q t u, tk_X (xV n s (clC L0 t u)) l s m' q → (clC L0 t u).length ≤ q → CT (bC s) l (sk (bC s) l p) (sk (bC s) l q) t u → R (some (lI 1)) m') (h0 : ∀ m' w, tk_X (kC n s) l s m' w → R (some (lI 0)) m') : qC false (d + 3) 64 [lR 8 (some n), lR 1 (some 0)] m R := by
  refine qC_of rfl rfl ?_
  refine qa_t1_W (cut := [44, 83, 122]) 200 ?_
  refine h_takesX hB pX_V hl2 S (by decide) (by decide) (fun m1 S1 e => Exists.intro 1 (And.intro rfl ?_)) (fun m1 S1 e => Exists.intro 0 (And.intro rfl ?_))
  · refine And.intro (fun q => absurd q (by decide)) (fun _ => ?_)
    refine h_takesX hB pX_V hl2 S1 (by decide) (by decide) (fun m2 S2 e2 => Exists.intro 1 (And.intro rfl ?_)) (fun m2 S2 e2 => Exists.intro 0 (And.intro rfl ?_))
    · refine And.intro (fun q => absurd q (by decide)) (fun _ => ?_)
      have g1 : p ≤ sk (bC s) l p := sk_ge p
      have g2 : sk (bC s) l p + 1 ≤ sk (bC s) l (sk (bC s) l p + 1) := sk_ge _
      have g3 : sk (bC s) l (sk (bC s) l p + 1) + 1 ≤ sk (bC s) l (sk (bC s) l (sk (bC s) l p + 1) + 1) := sk_ge _
      have K : ∀ z, z = sk (bC s) l (sk (bC s) l (sk (bC s) l p + 1) + 1) → ∀ q t u, (((tc (bC s) l z = 33 ∨ tc (bC s) l z = 40) ∧ ∃ q1, PT (bC s) l 9 0 z q1 t ∧ tc (bC s) l q1 = 63 ∧ PT (bC s) l 3 0 (sk (bC s) l (q1 + 1)) q u) ∨ (¬ (tc (bC s) l z = 33 ∨ tc (bC s) l z = 40) ∧ ∃ q0 ta, PT (bC s) l 3 0 z q0 ta ∧ ((sgB (tc (bC s) l q0) = false ∧ t = [] ∧ u = ta ∧ q = q0) ∨ (sgB (tc (bC s) l q0) = true ∧ ∃ q1 tb q2 td q3 te, PT (bC s) l 5 0 q0 q1 tb ∧ PT (bC s) l 7 0 q1 q2 td ∧ PT (bC s) l 8 0 q2 q3 te ∧ t = ta ++ (tb ++ (td ++ te)) ∧ tc (bC s) l q3 = 63 ∧ PT (bC s) l 3 0 (sk (bC s) l (q3 + 1)) q u)))) → CT (bC s) l (sk (bC s) l p) q t u := fun z hz q t u hx => ⟨e, e2, z, hz, hx⟩
      refine h_nextX pX_V hl2 S2 fun m3 S3 => Exists.intro _ (And.intro rfl ?_)
      have sk3 : sk (bC s) l (sk (bC s) l (sk (bC s) l (sk (bC s) l p + 1) + 1)) = sk (bC s) l (sk (bC s) l (sk (bC s) l p + 1) + 1) := sk_sk _
      generalize hz : sk (bC s) l (sk (bC s) l (sk (bC s) l p + 1) + 1) = z at *
      have K := K z rfl
      refine And.intro (fun e3 => ?_) (fun ne3 => ?_)
      · have e3 := (t0_tc hB (by decide) (by decide)).mp e3
        exact cc_44V (p0 := z) hB hl2 hs hc0 S3 (by omega) (Nat.le_refl _) (Or.inl e3) sk3 (fun q1 t a b q u c => K q t u (Or.inl ⟨Or.inl e3, q1, a, b, c⟩)) h1 h0
      · have ne3 : tc (bC s) l z ≠ 33 := fun c => ne3 ((t0_tc hB (by decide) (by decide)).mpr c)
        refine h_nextX pX_V hl2 S3 fun m4 S4 => Exists.intro _ (And.intro rfl ?_)
        rw [sk3] at S4 ⊢
        refine And.intro (fun e4 => ?_) (fun ne4 => ?_)
        · have e4 := (t0_tc hB (by decide) (by decide)).mp e4
          exact cc_44V (p0 := z) hB hl2 hs hc0 S4 (by omega) (Nat.le_refl _) (Or.inr e4) sk3 (fun q1 t a b q u c => K q t u (Or.inl ⟨Or.inr e4, q1, a, b, c⟩)) h1 h0
        · have ne4 : tc (bC s) l z ≠ 40 := fun c => ne4 ((t0_tc hB (by decide) (by decide)).mpr c)
          have nn : ¬ (tc (bC s) l z = 33 ∨ tc (bC s) l z = 40) := fun q => by
            rcases q with q | q
            · exact ne3 q
            · exact ne4 q
          refine qa_t1_W (cut := [83, 122]) 100 ?_
          refine And.intro (fun q => absurd q (by decide)) (fun _ => ?_)
          refine hs L0 [] z m4 _ (by rw [List.map_nil, List.append_nil]; exact S4) (by show _ + 0 ≤ _; omega) (fun m5 y ta S5 hU T => Exists.intro 1 (And.intro rfl ?_)) (fun m5 w S5 => Exists.intro 0 (And.intro rfl ?_))
          · rw [sk3] at T
            have T := AT_nil T
            have hU : ta.length + z ≤ y := hU
            have gy : y ≤ sk (bC s) l y := sk_ge y
            refine And.intro (fun q => absurd q (by decide)) (fun _ => ?_)
            refine And.intro (fun q => absurd q (by decide)) (fun _ => ?_)
            have y3 : sk (bC s) l (sk (bC s) l y) = sk (bC s) l y := sk_sk y
            refine h_nextX pX_V hl2 S5 fun m6 S6 => Exists.intro _ (And.intro rfl ?_)
            generalize hy : sk (bC s) l y = y2 at *
            refine h_isCmpC (fun c => Exists.intro 1 (And.intro rfl ?_)) (fun c => Exists.intro 0 (And.intro rfl ?_))
            · have c2 := (sgn_t0 hB).mp c
              refine And.intro (fun q => absurd q (by decide)) (fun _ => ?_)
              refine hc1 ta y2 m6 _ S6 (by omega) (fun m7 q3 t S7 hU7 T7 => Exists.intro 1 (And.intro rfl ?_)) (fun m7 w S7 => Exists.intro 0 (And.intro rfl ?_))
              · rw [y3] at T7
                refine And.intro (fun q => absurd q (by decide)) (fun _ => ?_)
                obtain ⟨x2, U2, ⟨x1, U1, ⟨tb, e1, a5⟩, td, e2', a7⟩, te, e3', a8⟩ := T7
                subst e1 e2' e3'
                have lb := PT_ne a5 (by omega)
                rw [List.append_assoc, List.append_assoc] at S7 hU7
                exact cc_83V (p0 := z) hB hl2 hs S7 (by omega) (by omega) (by rw [List.length_append, List.length_append]; omega) (fun e6 q u hu => K q _ u (Or.inr ⟨nn, y2, ta, T, Or.inr ⟨c2, x1, tb, x2, td, _, te, a5, a7, a8, rfl, e6, hu⟩⟩)) h1 h0
              · refine And.intro (fun _ => ?_) (fun q => absurd rfl q)
                exact And.intro (Or.inl rfl) (h0 m7 w S7)
            · have c2 : sgB (tc (bC s) l y2) = false := by
                cases hx : sgB (tc (bC s) l y2) with
                | false => rfl
                | true => exact absurd ((sgn_t0 hB).mpr hx) c
              refine And.intro (fun _ => ?_) (fun q => absurd rfl q)
              have h6l := S6.1.2.2.2.2
              have le : (L0 ++ ta.map cT).length = L0.length + ta.length := by rw [List.length_append, List.length_map]
              have ec : clC L0 [] ta = (L0 ++ ta.map cT) ++ [(59, 0)] := if_pos rfl
              exact cc_122V (d := d + 1) (by omega) S6 (fun m' S' => h1 m' y2 [] ta (by rw [ec]; exact S') (by rw [ec, len_1k, le]; omega) (by rw [y3]; exact K _ _ _ (Or.inr ⟨nn, y2, ta, T, Or.inl ⟨c2, rfl, rfl, rfl⟩⟩)))
          · refine And.intro (fun _ => ?_) (fun q => absurd rfl q)
            exact And.intro (Or.inl rfl) (h0 m5 w S5)
    · refine And.intro (fun _ => ?_) (fun q => absurd rfl q)
      exact And.intro (Or.inl rfl) (h0 m2 _ (tk_VF S2))
  · refine And.intro (fun _ => ?_) (fun q => absurd rfl q)
    exact And.intro (Or.inl rfl) (h0 m1 _ (tk_VF S1))
theorem cl_loopV {bc bs p0 : Nat} {R : LPost} (hB : tp_B (bC s) l) (hl2 : l ≤ 200) (hc : ∀ (cs : List Cz) p m (R : LPost), tk_X (xV n s (clsC cs)) l s m p → (clsC cs).length ≤ p → (∀ m' q t u, tk_X (xV n s (clC (clsC cs) t u)) l s m' q → (clC (clsC cs) t u).length ≤ q → CT (bC s) l (sk (bC s) l p) (sk (bC s) l q) t u → R (some (lI 1)) m') → (∀ m' w, tk_X (kC n s) l s m' w → R (some (lI 0)) m') → qC false (d + 3) 64 [lR 8 (some n), lR 1 (some 0)] m R) (h1 : ∀ m' q cs, tk_X (xV n s (clsC cs)) l s m' q → LR (bC s) l p0 cs q → tc (bC s) l q = -1 → R (some (lI 1)) m') (h0 : ∀ m' w, tk_X (kC n s) l s m' w → R (some (lI 0)) m') : ∀ f k z cs m, l - z < f → 4 * k ≤ z → z ≤ l → tk_X (xV n s (clsC cs)) l s m z → (clsC cs).length ≤ z → (∀ q t u, CT (bC s) l (sk (bC s) l z) q t u → LR (bC s) l p0 (cs ++ [(t, u)]) q) → qW false (d + 3) 62 bc bs 9 [some (lR 8 (some n)), some (lR 1 (some 0)), some (lI 1), some (lI (nI k))] [] m R := by
  intro f
  induction f with
  | zero => intro k z cs m hf; exact absurd hf (Nat.not_lt_zero _)
  | succ f ih =>
    intro k z cs m hf hk hzl S hL K
    have through : ∀ (cs : List Cz) (m1 : LMem) (y k : Nat), tk_X (xV n s (clsC cs)) l s m1 y → sk (bC s) l y = y → LR (bC s) l p0 cs y → qW false (d + 3) 62 bc bs 9 [some (lR 8 (some n)), some (lR 1 (some 0)), some (lI 0), some (lI (nI k))] [] m1 R := fun cs m1 y k S1 y3 K1 => by
      refine qa_t1_W (cut := []) 30 ?_
      refine And.intro (fun _ => ?_) (fun q => absurd rfl q)
      refine h_thruX hB pX_V hl2 S1 (fun m2 S2 e => Exists.intro 1 (And.intro rfl ?_)) (fun m2 S2 e => Exists.intro 0 (And.intro rfl ?_))
      · rw [y3] at S2 e
        exact And.intro (Or.inr rfl) (h1 m2 y cs S2 K1 e)
      · rw [y3] at S2 e
        exact And.intro (Or.inl rfl) (h0 m2 y (tk_VF S2))
    have body : qC false (d + 3) 64 [lR 8 (some n), lR 1 (some 0)] m (fun r m1 => ∃ v, r = some (lI v) ∧ ((v = 0 → (((0 : Int32) = 0 ∨ (0 : Int32) = 1) ∧ R (some (lI 0)) m1)) ∧ (¬ v = 0 → qC false (d + 3) 118 [lR 1 (some 0), lI 59] m1 (fun r m2 => ∃ v, r = some (lI v) ∧ qW false (d + 3) 62 bc bs 9 [some (lR 8 (some n)), some (lR 1 (some 0)), some (lI v), some (lI (nI k + 1))] [] m2 R)))) := by
      refine hc cs z m _ S hL (fun m1 y t u S1 hU T => ⟨1, rfl, fun c => absurd c (by decide), fun _ => ?_⟩) (fun m1 w S1 => ⟨0, rfl, fun _ => ⟨Or.inl rfl, h0 m1 w S1⟩, fun c => absurd rfl c⟩)
      rw [nI_1]
      have ge := CT_ge T
      have KT := K _ _ _ T
      rw [← clsC_app] at S1 hU
      have sy : y ≤ sk (bC s) l y := sk_ge y
      have s1 : z ≤ sk (bC s) l z := sk_ge z
      have s2 : sk (bC s) l y ≤ max y l := sk_le y
      have yl := S1.1.2.2.2.2
      have y3 : sk (bC s) l (sk (bC s) l y) = sk (bC s) l y := sk_sk y
      refine h_takesX hB pX_V hl2 S1 (by decide) (by decide) (fun m2 S2 e => ⟨1, rfl, ?_⟩) (fun m2 S2 e => ⟨0, rfl, ?_⟩)
      · have ql := tc_lt (by decide) e
        exact ih (k + 1) _ _ m2 (by omega) (by omega) (by omega) S2 (by omega) (fun q t2 u2 h2 => LR_app e h2 _ _ KT)
      · exact through _ m2 _ (k + 1) S2 y3 KT
    have hk2 : nI k < 200 := nI_lt (b := 200) (by omega) (by decide)
    refine qa_t1_W (cut := [9]) 60 ?_
    refine And.intro (fun q => absurd q (by decide)) (fun _ => ?_)
    refine And.intro (fun _ => body) (fun q => absurd hk2 q)
theorem c_lawV {m : LMem} {R : LPost} (hB : tp_B (bC s) l) (hl2 : l ≤ 200) (S : tk_X (kC n s) l s m 0) (h1 : ∀ m' q cs, tk_X (xV n s (clsC cs)) l s m' q → LR (bC s) l (sk (bC s) l 0) cs q → tc (bC s) l q = -1 → R (some (lI 1)) m') (h0 : ∀ m' w, tk_X (kC n s) l s m' w → R (some (lI 0)) m') : qC false (d + 74) 62 [lR 8 (some n), lR 1 (some 0)] m R := by
  have hs : ∀ L1, rdD (AT (bC s) l 3 0) l n s L1 71 (d + 70 + 2) [lI (nI 0)] := fun L1 => c_sumsV hB hl2 _ 0 (by omega) (by decide)
  have hc0 : ∀ L1, rdD (AT (bC s) l 9 0) l n s L1 66 (d + 70 + 2) [lI (nI 0), lI 0] := fun L1 => c_condGV hB hl2 _ (by omega)
  have hc1 : ∀ L1, rdD (AO (bC s) l 5 0) l n s L1 66 (d + 70 + 2) [lI (nI 0), lI 1] := fun L1 => c_condBV hB hl2 _ (by omega)
  have S1 : tk_X (xV n s []) l s (sI m 8 n 2 0) 0 := by
    obtain ⟨⟨J, el, eb, ep, hpl⟩, hk⟩ := S
    refine ⟨⟨y_J_w J (fun r hr g1 g2 => ?_) (x_npr rfl), by rw [gI_sI, if_neg (fun q => absurd q.1 (by decide)), el], ?_, by rw [gI_sI, if_neg (fun q => absurd q.1 (by decide)), ep], hpl⟩, kC_s (Or.inr (Or.inl ⟨rfl, rfl, rfl⟩)) hk, by rw [gI_sI, if_pos ⟨rfl, rfl, rfl⟩]; rfl, fun j x e => by cases e⟩
    · have hr : r ∈ [((2 : Int), (2 : Int), (0 : Int), (200 : Int))] := hr
      rw [List.mem_singleton.mp hr]
      exact ⟨by decide, by decide⟩
    · rw [← eb]
      exact funext fun j => by
        show gI (sI m 8 n 2 0) 2 0 j = gI m 2 0 j
        rw [gI_sI, if_neg (fun q => absurd q.1 (by decide))]
  refine qC_of rfl rfl ?_
  refine qa_t1_W (cut := [9]) 20 ?_
  exact cl_loopV (d := d + 70) hB hl2 (fun cs p m R S hL h1 h0 => c_clauseV hB hl2 hs (hc0 _) (hc1 _) S hL h1 h0) h1 h0 (l + 1) 0 0 [] _ (by omega) (by omega) (by omega) S1 (Nat.le_refl _) (fun q t u h => LR_1 h)
end CGV
