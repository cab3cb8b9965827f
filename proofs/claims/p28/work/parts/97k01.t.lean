/-! WHAT A LAW'S TEXT SAYS: the tokens that a reader leaves, as a function of the bytes, with fuel; PT speaks of fuel enough. -/
abbrev Tk : Type := Int32 × Int32
def opT (c : Int32) : Int32 := if c = 43 then 2 else if c = 45 then 3 else if c = 42 then 4 else if c = 47 then 5 else if c = 61 then 6 else if c = 60 then 7 else 8
def ob (x : Option (Nat × List Tk)) (k : Nat → List Tk → Option (Nat × List Tk)) : Option (Nat × List Tk) := match x with
  | some (q, t) => k q t
  | none => none
def nvT (b : Nat → Int32) (l : Nat) : Nat → Nat → Int32 → Int32
  | 0, _, a => a
  | n + 1, p, a => if dgB (tc b l p) = true then nvT b l n (p + 1) (10 * a + tc b l p - 48) else a
def tbd (b : Nat → Int32) (l : Nat) (r : Nat → Nat → Nat → Option (Nat × List Tk)) (nt g p : Nat) : Option (Nat × List Tk) := match nt with
  | 0 => if dgB (tc b l p) = true then (if dgB (tc b l (p + dr b l 4 p)) = true then none else some (sk b l (p + dr b l 4 p), [(0, nvT b l 4 p 0)]))
    else if ltF (tc b l p) ≠ -1 then some (sk b l (p + 1), [(1, ltF (tc b l p))])
    else if tc b l p = 91 then (if 6 ≤ g then none else ob (r 3 (g + 1) (sk b l (p + 1))) fun q t => if tc b l q = 93 then some (sk b l (q + 1), t) else none)
    else none
  | 1 => ob (r 0 g p) fun q t => ob (r 2 g q) fun z u => some (z, t ++ u)
  | 2 => if tc b l p = 42 ∨ tc b l p = 47 then ob (r 0 g (sk b l (p + 1))) fun q t => ob (r 2 g q) fun z u => some (z, t ++ (opT (tc b l p), 0) :: u) else some (p, [])
  | 3 => ob (r 1 g p) fun q t => ob (r 4 g q) fun z u => some (z, t ++ u)
  | 4 => if tc b l p = 43 ∨ tc b l p = 45 then ob (r 1 g (sk b l (p + 1))) fun q t => ob (r 4 g q) fun z u => some (z, t ++ (opT (tc b l p), 0) :: u) else some (p, [])
  | 5 => if sgB (tc b l p) = true then ob (r 3 g (sk b l (p + 1))) fun q t => some (q, t ++ [(opT (tc b l p), 0)]) else none
  | 6 => if tc b l p = 33 then (if 6 ≤ g then none else ob (r 6 (g + 1) (sk b l (p + 1))) fun q t => some (q, t ++ [(9, 0)]))
    else if tc b l p = 40 then (if 6 ≤ g then none else ob (r 9 (g + 1) (sk b l (p + 1))) fun q t => if tc b l q = 41 then some (sk b l (q + 1), t) else none)
    else ob (r 3 g p) fun q t => ob (r 5 g q) fun z u => some (z, t ++ u)
  | 7 => if tc b l p = 38 then ob (r 6 g (sk b l (p + 1))) fun q t => ob (r 7 g q) fun z u => some (z, t ++ (10, 0) :: u) else some (p, [])
  | 8 => if tc b l p = 124 then ob (r 10 g (sk b l (p + 1))) fun q t => ob (r 8 g q) fun z u => some (z, t ++ (11, 0) :: u) else some (p, [])
  | 9 => ob (r 10 g p) fun q t => ob (r 8 g q) fun z u => some (z, t ++ u)
  | 10 => ob (r 6 g p) fun q t => ob (r 7 g q) fun z u => some (z, t ++ u)
  | _ => none
def ptF (b : Nat → Int32) (l : Nat) : Nat → Nat → Nat → Nat → Option (Nat × List Tk)
  | 0 => fun _ _ _ => none
  | f + 1 => tbd b l (ptF b l f)
def PT (b : Nat → Int32) (l nt g p q : Nat) (ts : List Tk) : Prop := Ev (fun F => ptF b l F nt g p = some (q, ts))
theorem PT_det {b : Nat → Int32} {l nt g p q q2 : Nat} {t t2 : List Tk} (h1 : PT b l nt g p q t) (h2 : PT b l nt g p q2 t2) : q = q2 ∧ t = t2 := by
  obtain ⟨F0, h⟩ := Ev_and h1 h2
  obtain ⟨e1, e2⟩ := h F0 (Nat.le_refl _)
  rw [e1] at e2
  cases e2
  exact ⟨rfl, rfl⟩
theorem PT_of {b : Nat → Int32} {l nt g p q : Nat} {ts : List Tk} (h : Ev (fun F => tbd b l (ptF b l F) nt g p = some (q, ts))) : PT b l nt g p q ts := by
  obtain ⟨F0, h⟩ := h
  refine ⟨F0 + 1, fun F hF => ?_⟩
  obtain ⟨F', rfl⟩ : ∃ F', F = F' + 1 := ⟨F - 1, by omega⟩
  exact h F' (by omega)
/-- from tokens T on to tokens U -/
def AT (b : Nat → Int32) (l nt g p : Nat) (T : List Tk) (q : Nat) (U : List Tk) : Prop := ∃ ts, U = T ++ ts ∧ PT b l nt g p q ts
section AT0
variable {b : Nat → Int32} {l g p q z : Nat} {T T1 U : List Tk}
theorem AT_det {nt q2 : Nat} {U2 : List Tk} (h1 : AT b l nt g p T q U) (h2 : AT b l nt g p T q2 U2) : q = q2 ∧ U = U2 := by
  obtain ⟨t, rfl, h1⟩ := h1
  obtain ⟨t2, rfl, h2⟩ := h2
  obtain ⟨a, c⟩ := PT_det h1 h2
  exact ⟨a, by rw [c]⟩
theorem ob_s {q : Nat} {t : List Tk} {k : Nat → List Tk → Option (Nat × List Tk)} : ob (some (q, t)) k = k q t := rfl
theorem ta_num (h1 : dgB (tc b l p) = true) (h2 : dgB (tc b l (p + dr b l 4 p)) = false) : AT b l 0 g p T (sk b l (p + dr b l 4 p)) (T ++ [(0, nvT b l 4 p 0)]) := ⟨_, rfl, PT_of (Ev_c fun F => by
  show (if dgB (tc b l p) = true then (if dgB (tc b l (p + dr b l 4 p)) = true then _ else _) else _) = _
  rw [if_pos h1, if_neg (by rw [h2]; decide)])⟩
theorem ta_let (h1 : dgB (tc b l p) = false) (h2 : ltF (tc b l p) ≠ -1) : AT b l 0 g p T (sk b l (p + 1)) (T ++ [(1, ltF (tc b l p))]) := ⟨_, rfl, PT_of (Ev_c fun F => by
  show (if dgB (tc b l p) = true then _ else if ltF (tc b l p) ≠ -1 then _ else _) = _
  rw [if_neg (by rw [h1]; decide), if_pos h2])⟩
theorem ta_br (h : tc b l p = 91) (hg : g < 6) (h1 : AT b l 3 (g + 1) (sk b l (p + 1)) T q U) (h2 : tc b l q = 93) : AT b l 0 g p T (sk b l (q + 1)) U := by
  obtain ⟨t, rfl, h1⟩ := h1
  exact ⟨t, rfl, PT_of (Ev_mono h1 fun F e => by
    show (if dgB (tc b l p) = true then _ else if ltF (tc b l p) ≠ -1 then _ else if tc b l p = 91 then (if 6 ≤ g then _ else ob (ptF b l F 3 (g + 1) (sk b l (p + 1))) _) else _) = _
    rw [h, if_neg (by decide), if_neg (by decide), if_pos rfl, if_neg (by omega), e, ob_s, if_pos h2])⟩
theorem ta_term (h1 : AT b l 0 g p T q T1) (h2 : AT b l 2 g q T1 z U) : AT b l 1 g p T z U := by
  obtain ⟨t, rfl, h1⟩ := h1
  obtain ⟨u, rfl, h2⟩ := h2
  exact ⟨t ++ u, List.append_assoc _ _ _, PT_of (Ev_mono (Ev_and h1 h2) fun F e => by
    show ob (ptF b l F 0 g p) (fun q t => ob (ptF b l F 2 g q) _) = _
    rw [e.1, ob_s, e.2, ob_s])⟩
theorem ap_c {t u : List Tk} {x : Tk} : T ++ t ++ [x] ++ u = T ++ (t ++ x :: u) := by
  rw [List.append_assoc, List.append_assoc, List.singleton_append]
theorem ta_termL (h : tc b l p = 42 ∨ tc b l p = 47) (h1 : AT b l 0 g (sk b l (p + 1)) T q T1) (h2 : AT b l 2 g q (T1 ++ [(opT (tc b l p), 0)]) z U) : AT b l 2 g p T z U := by
  obtain ⟨t, rfl, h1⟩ := h1
  obtain ⟨u, rfl, h2⟩ := h2
  exact ⟨t ++ (opT (tc b l p), 0) :: u, ap_c, PT_of (Ev_mono (Ev_and h1 h2) fun F e => by
    show (if tc b l p = 42 ∨ tc b l p = 47 then ob (ptF b l F 0 g (sk b l (p + 1))) (fun q t => ob (ptF b l F 2 g q) _) else _) = _
    rw [if_pos h, e.1, ob_s, e.2, ob_s])⟩
theorem ta_termL0 (h : ¬ (tc b l p = 42 ∨ tc b l p = 47)) : AT b l 2 g p T p T := ⟨[], (List.append_nil _).symm, PT_of (Ev_c fun F => if_neg h)⟩
theorem ta_sum (h1 : AT b l 1 g p T q T1) (h2 : AT b l 4 g q T1 z U) : AT b l 3 g p T z U := by
  obtain ⟨t, rfl, h1⟩ := h1
  obtain ⟨u, rfl, h2⟩ := h2
  exact ⟨t ++ u, List.append_assoc _ _ _, PT_of (Ev_mono (Ev_and h1 h2) fun F e => by
    show ob (ptF b l F 1 g p) (fun q t => ob (ptF b l F 4 g q) _) = _
    rw [e.1, ob_s, e.2, ob_s])⟩
theorem ta_sumL (h : tc b l p = 43 ∨ tc b l p = 45) (h1 : AT b l 1 g (sk b l (p + 1)) T q T1) (h2 : AT b l 4 g q (T1 ++ [(opT (tc b l p), 0)]) z U) : AT b l 4 g p T z U := by
  obtain ⟨t, rfl, h1⟩ := h1
  obtain ⟨u, rfl, h2⟩ := h2
  exact ⟨t ++ (opT (tc b l p), 0) :: u, ap_c, PT_of (Ev_mono (Ev_and h1 h2) fun F e => by
    show (if tc b l p = 43 ∨ tc b l p = 45 then ob (ptF b l F 1 g (sk b l (p + 1))) (fun q t => ob (ptF b l F 4 g q) _) else _) = _
    rw [if_pos h, e.1, ob_s, e.2, ob_s])⟩
theorem ta_sumL0 (h : ¬ (tc b l p = 43 ∨ tc b l p = 45)) : AT b l 4 g p T p T := ⟨[], (List.append_nil _).symm, PT_of (Ev_c fun F => if_neg h)⟩
theorem ta_cmp (h : sgB (tc b l p) = true) (h1 : AT b l 3 g (sk b l (p + 1)) T q U) : AT b l 5 g p T q (U ++ [(opT (tc b l p), 0)]) := by
  obtain ⟨t, rfl, h1⟩ := h1
  exact ⟨t ++ [(opT (tc b l p), 0)], List.append_assoc _ _ _, PT_of (Ev_mono h1 fun F e => by
    show (if sgB (tc b l p) = true then ob (ptF b l F 3 g (sk b l (p + 1))) _ else _) = _
    rw [if_pos h, e, ob_s])⟩
theorem ta_not (h : tc b l p = 33) (hg : g < 6) (h1 : AT b l 6 (g + 1) (sk b l (p + 1)) T q U) : AT b l 6 g p T q (U ++ [(9, 0)]) := by
  obtain ⟨t, rfl, h1⟩ := h1
  exact ⟨t ++ [(9, 0)], List.append_assoc _ _ _, PT_of (Ev_mono h1 fun F e => by
    show (if tc b l p = 33 then (if 6 ≤ g then _ else ob (ptF b l F 6 (g + 1) (sk b l (p + 1))) _) else _) = _
    rw [if_pos h, if_neg (by omega), e, ob_s])⟩
theorem ta_rnd (h : tc b l p = 40) (hg : g < 6) (h1 : AT b l 9 (g + 1) (sk b l (p + 1)) T q U) (h2 : tc b l q = 41) : AT b l 6 g p T (sk b l (q + 1)) U := by
  obtain ⟨t, rfl, h1⟩ := h1
  exact ⟨t, rfl, PT_of (Ev_mono h1 fun F e => by
    show (if tc b l p = 33 then _ else if tc b l p = 40 then (if 6 ≤ g then _ else ob (ptF b l F 9 (g + 1) (sk b l (p + 1))) _) else _) = _
    rw [h, if_neg (by decide), if_pos rfl, if_neg (by omega), e, ob_s, if_pos h2])⟩
theorem ta_unit (h : tc b l p ≠ 33) (h' : tc b l p ≠ 40) (h1 : AT b l 3 g p T q T1) (h2 : AT b l 5 g q T1 z U) : AT b l 6 g p T z U := by
  obtain ⟨t, rfl, h1⟩ := h1
  obtain ⟨u, rfl, h2⟩ := h2
  exact ⟨t ++ u, List.append_assoc _ _ _, PT_of (Ev_mono (Ev_and h1 h2) fun F e => by
    show (if tc b l p = 33 then _ else if tc b l p = 40 then _ else ob (ptF b l F 3 g p) (fun q t => ob (ptF b l F 5 g q) _)) = _
    rw [if_neg h, if_neg h', e.1, ob_s, e.2, ob_s])⟩
theorem ta_and (h : tc b l p = 38) (h1 : AT b l 6 g (sk b l (p + 1)) T q T1) (h2 : AT b l 7 g q (T1 ++ [(10, 0)]) z U) : AT b l 7 g p T z U := by
  obtain ⟨t, rfl, h1⟩ := h1
  obtain ⟨u, rfl, h2⟩ := h2
  exact ⟨t ++ (10, 0) :: u, ap_c, PT_of (Ev_mono (Ev_and h1 h2) fun F e => by
    show (if tc b l p = 38 then ob (ptF b l F 6 g (sk b l (p + 1))) (fun q t => ob (ptF b l F 7 g q) _) else _) = _
    rw [if_pos h, e.1, ob_s, e.2, ob_s])⟩
theorem ta_and0 (h : tc b l p ≠ 38) : AT b l 7 g p T p T := ⟨[], (List.append_nil _).symm, PT_of (Ev_c fun F => if_neg h)⟩
theorem ta_truth (h1 : AT b l 6 g p T q T1) (h2 : AT b l 7 g q T1 z U) : AT b l 10 g p T z U := by
  obtain ⟨t, rfl, h1⟩ := h1
  obtain ⟨u, rfl, h2⟩ := h2
  exact ⟨t ++ u, List.append_assoc _ _ _, PT_of (Ev_mono (Ev_and h1 h2) fun F e => by
    show ob (ptF b l F 6 g p) (fun q t => ob (ptF b l F 7 g q) _) = _
    rw [e.1, ob_s, e.2, ob_s])⟩
theorem ta_or (h : tc b l p = 124) (h1 : AT b l 10 g (sk b l (p + 1)) T q T1) (h2 : AT b l 8 g q (T1 ++ [(11, 0)]) z U) : AT b l 8 g p T z U := by
  obtain ⟨t, rfl, h1⟩ := h1
  obtain ⟨u, rfl, h2⟩ := h2
  exact ⟨t ++ (11, 0) :: u, ap_c, PT_of (Ev_mono (Ev_and h1 h2) fun F e => by
    show (if tc b l p = 124 then ob (ptF b l F 10 g (sk b l (p + 1))) (fun q t => ob (ptF b l F 8 g q) _) else _) = _
    rw [if_pos h, e.1, ob_s, e.2, ob_s])⟩
theorem ta_or0 (h : tc b l p ≠ 124) : AT b l 8 g p T p T := ⟨[], (List.append_nil _).symm, PT_of (Ev_c fun F => if_neg h)⟩
theorem ta_cond (h1 : AT b l 10 g p T q T1) (h2 : AT b l 8 g q T1 z U) : AT b l 9 g p T z U := by
  obtain ⟨t, rfl, h1⟩ := h1
  obtain ⟨u, rfl, h2⟩ := h2
  exact ⟨t ++ u, List.append_assoc _ _ _, PT_of (Ev_mono (Ev_and h1 h2) fun F e => by
    show ob (ptF b l F 10 g p) (fun q t => ob (ptF b l F 8 g q) _) = _
    rw [e.1, ob_s, e.2, ob_s])⟩
end AT0
/-! THE REFERENCE'S READERS OF LAWS leave the tokens. -/
section PV
variable {d bc bs l : Nat} {s : LMem} {Q : LPost}
theorem pv_t {p k : Nat} {v : Int32} {o : Option LV} {m : LMem} (hl : gI s 33 0 2 = nI l) (hl2 : l ≤ 200) (hp2 : p + k ≤ 1000) (hm : rd_S s m) (h3 : gI m 33 0 3 = nI (p + k)) (h4 : gI m 33 0 4 = gI s 33 0 4) (h5 : gI m 33 0 5 = gI s 33 0 5) (h : ∀ m, rd_S s m → gI m 33 0 3 = nI (p + k) → gI m 33 0 5 = gI s 33 0 5 → (dgB (tc (bS s) l (p + k)) = false → gI m 33 0 4 = gI s 33 0 4) → (dgB (tc (bS s) l (p + k)) = true → gI s 33 0 4 = -1 → gI m 33 0 4 = nI (p + k)) → Q (some (lI v)) m) : qW false (d + 2) 212 bc bs 48 [some (lR 33 (some 0)), some (lI v), o] [] m Q := by
  have hl3 : gI m 33 0 2 = nI l := by rw [hm.1 33 0 2 (fun q => by omega), hl]
  have fin : ∀ x, dg (tc (bS s) l (p + k)) → (gI m 33 0 4 = -1 → x = nI (p + k)) → Q (some (lI v)) (sI m 33 0 4 x) := fun x hd hx => by
    refine h _ (rd_s (Or.inr (Or.inl rfl)) hm) ?_ ?_ (fun c => ?_) (fun _ c => ?_)
    · rw [gI_sI, if_neg (fun q => absurd q.2.2 (by decide)), h3]
    · rw [gI_sI, if_neg (fun q => absurd q.2.2 (by decide)), h5]
    · rw [dgB_t hd] at c
      cases c
    · rw [gI_sI, if_pos ⟨rfl, rfl, rfl⟩]
      exact hx (by rw [h4, c])
  refine qa_t1_W (cut := []) 40 ?_
  refine h_here hl3 hl2 h3 (by omega) (Exists.intro _ (And.intro rfl ?_))
  rw [rch_eq hm]
  refine h_dig12 (fun hd => Exists.intro 1 (And.intro rfl ?_)) (fun hd => Exists.intro 0 (And.intro rfl ?_))
  · refine And.intro (fun q => absurd q (by decide)) (fun _ => ?_)
    exact h_bad h3 (fun _ => And.intro rfl (fin _ hd (fun _ => rfl))) (fun w => And.intro rfl (fin _ hd (fun c => absurd c w)))
  · have hd2 : dgB (tc (bS s) l (p + k)) = false := dgB_f hd
    exact And.intro (fun _ => h m hm h3 h5 (fun _ => h4) (fun c _ => by rw [hd2] at c; cases c)) (fun q => absurd rfl q)
theorem pv_l {p : Nat} (hl : gI s 33 0 2 = nI l) (hl2 : l ≤ 200) (hp2 : p ≤ 900) (h : ∀ m, rd_S s m → gI m 33 0 3 = nI (p + dr (bS s) l 4 p) → gI m 33 0 5 = gI s 33 0 5 → (dgB (tc (bS s) l (p + dr (bS s) l 4 p)) = false → gI m 33 0 4 = gI s 33 0 4) → (dgB (tc (bS s) l (p + dr (bS s) l 4 p)) = true → gI s 33 0 4 = -1 → gI m 33 0 4 = nI (p + dr (bS s) l 4 p)) → Q (some (lI (nvT (bS s) l 4 p 0))) m) : ∀ j k m v, k + j = 4 → nvT (bS s) l j (p + k) v = nvT (bS s) l 4 p 0 → k + dr (bS s) l j (p + k) = dr (bS s) l 4 p → rd_S s m → gI m 33 0 3 = nI (p + k) → gI m 33 0 4 = gI s 33 0 4 → gI m 33 0 5 = gI s 33 0 5 → qW false (d + 2) 212 bc bs 4 [some (lR 33 (some 0)), some (lI v), some (lI (nI k))] [] m Q := by
  intro j
  induction j with
  | zero =>
    intro k m v hk hv hd hm h3 h4 h5
    have hk : k = 4 := hk
    subst hk
    have hd : 4 = dr (bS s) l 4 p := hd
    have hv : v = nvT (bS s) l 4 p 0 := hv
    rw [← hd, ← hv] at h
    refine qa_t1_W (cut := [4, 48]) 20 ?_
    exact And.intro (fun q => absurd q (by decide)) (fun _ => pv_t (k := 4) hl hl2 (by omega) hm h3 h4 h5 h)
  | succ j ih =>
    intro k m v hk hv hd hm h3 h4 h5
    have hl3 : gI m 33 0 2 = nI l := by rw [hm.1 33 0 2 (fun q => by omega), hl]
    have hlt : nI k < 4 := nI_lt (b := 4) (by omega) (by decide)
    have hv : (if dgB (tc (bS s) l (p + k)) = true then nvT (bS s) l j (p + k + 1) (10 * v + tc (bS s) l (p + k) - 48) else v) = nvT (bS s) l 4 p 0 := hv
    have hd : k + (if dgB (tc (bS s) l (p + k)) = true then dr (bS s) l j (p + k + 1) + 1 else 0) = dr (bS s) l 4 p := hd
    refine qa_t1_W (cut := [4, 48]) 60 ?_
    refine And.intro (fun _ => ?_) (fun q => absurd hlt q)
    refine h_here hl3 hl2 h3 (by omega) (Exists.intro _ (And.intro rfl ?_))
    rw [rch_eq hm]
    refine h_dig12 (fun hg => Exists.intro 1 (And.intro rfl ?_)) (fun hg => Exists.intro 0 (And.intro rfl ?_))
    · refine And.intro (fun q => absurd q (by decide)) (fun _ => ?_)
      refine h_here hl3 hl2 h3 (by omega) (Exists.intro _ (And.intro rfl ?_))
      have hg : dgB (tc (bS s) l (p + k)) = true := dgB_t hg
      rw [if_pos hg] at hd hv
      have go : ∀ v, nvT (bS s) l j (p + k + 1) v = nvT (bS s) l 4 p 0 → qW false (d + 2) 212 bc bs 4 [some (lR 33 (some 0)), some (lI v), some (lI (nI k + 1))] [] (sI m 33 0 3 (gI m 33 0 3 + 1)) Q := fun v hv => by
        rw [nI_1]
        refine ih (k + 1) _ v (by omega) (by rw [show p + (k + 1) = p + k + 1 by omega]; exact hv) (by rw [show p + (k + 1) = p + k + 1 by omega]; omega) (rd_s (Or.inl rfl) hm) ?_ ?_ ?_
        · rw [gI_sI, if_pos ⟨rfl, rfl, rfl⟩, h3, nI_1, Nat.add_assoc]
        · rw [gI_sI, if_neg (fun q => absurd q.2.2 (by decide)), h4]
        · rw [gI_sI, if_neg (fun q => absurd q.2.2 (by decide)), h5]
      rw [rch_eq hm]
      exact go _ hv
    · refine And.intro (fun _ => ?_) (fun q => absurd rfl q)
      have hg : dgB (tc (bS s) l (p + k)) = false := dgB_f hg
      rw [if_neg (by rw [hg]; decide)] at hd hv
      have hd : k = dr (bS s) l 4 p := hd
      rw [← hd, ← hv] at h
      exact pv_t hl hl2 (by omega) hm h3 h4 h5 h
theorem h_plainV {p : Nat} (hl : gI s 33 0 2 = nI l) (hl2 : l ≤ 200) (hp : gI s 33 0 3 = nI p) (hp2 : p ≤ 900) (h : ∀ m, rd_S s m → gI m 33 0 3 = nI (p + dr (bS s) l 4 p) → gI m 33 0 5 = gI s 33 0 5 → (dgB (tc (bS s) l (p + dr (bS s) l 4 p)) = false → gI m 33 0 4 = gI s 33 0 4) → (dgB (tc (bS s) l (p + dr (bS s) l 4 p)) = true → gI s 33 0 4 = -1 → gI m 33 0 4 = nI (p + dr (bS s) l 4 p)) → Q (some (lI (nvT (bS s) l 4 p 0))) m) : qC false (d + 3) 212 [lR 33 (some 0)] s Q := by
  refine qC_of rfl rfl ?_
  refine qa_t1_W (cut := [4]) 20 ?_
  exact pv_l hl hl2 hp2 h 4 0 s 0 rfl rfl (by rw [Nat.zero_add, Nat.add_zero]) rd_0 hp rfl rfl
end PV
/-- so many codes, from the first on -/
def cont (n : Nat) (m : LMem) (T : List Tk) : Prop := ∀ j x, T[j]? = some x → gI m 35 0 (260 * n + j) = x.1 ∧ gI m 36 0 (260 * n + j) = x.2
theorem cont_eq {n : Nat} {m m' : LMem} {T : List Tk} (h : ∀ k j, (k = 35 ∨ k = 36) → gI m' k 0 j = gI m k 0 j) (c : cont n m T) : cont n m' T := fun j x e => by
  rw [h 35 _ (Or.inl rfl), h 36 _ (Or.inr rfl)]
  exact c j x e
theorem cont_rd {n : Nat} {m m' : LMem} {T : List Tk} (h : rd_S m m') (c : cont n m T) : cont n m' T := cont_eq (fun k j hk => h.1 k 0 j (fun q => by have := q.1; omega)) c
theorem cont_put {n : Nat} {m m' : LMem} {T : List Tk} {x y : Int32} (h : lr_P n T.length x y m m') (c : cont n m T) : cont n m' (T ++ [(x, y)]) := fun j z e => by
  obtain ⟨h1, h2, h3⟩ := h
  by_cases k : j < T.length
  · rw [List.getElem?_append_left k] at e
    rw [h1 35 0 _ (fun q => by omega), h1 36 0 _ (fun q => by omega)]
    exact c j z e
  · rw [List.getElem?_append_right (by omega)] at e
    by_cases k2 : j = T.length
    · subst k2
      rw [Nat.sub_self] at e
      cases e
      exact ⟨h2, h3⟩
    · rw [List.getElem?_eq_none (by show 1 ≤ j - T.length; omega)] at e
      cases e
theorem len_1 {T : List Tk} {x : Tk} : (T ++ [x]).length = T.length + 1 := by rw [List.length_append]; rfl
/-- what a reader of law n keeps -/
def lk (n : Nat) (m m' : LMem) : Prop := ∀ k i j, ¬ (i = 0 ∧ ((k = 33 ∧ (j = 3 ∨ j = 4 ∨ j = 5)) ∨ ((k = 35 ∨ k = 36) ∧ 260 * n ≤ j ∧ j < 260 * n + 260) ∨ (k = 37 ∧ j = n))) → gI m' k i j = gI m k i j
theorem lk_tr {n : Nat} {a b c : LMem} (h : lk n a b) (h2 : lk n b c) : lk n a c := fun k i j g => (h2 k i j g).trans (h k i j g)
theorem lk_0 {n : Nat} {a : LMem} : lk n a a := fun _ _ _ _ => rfl
theorem lk_rd {n : Nat} {m m' : LMem} (h : rd_S m m') : lk n m m' := fun k i j g => h.1 k i j (fun q => g ⟨q.2.1, Or.inl ⟨q.1, q.2.2⟩⟩)
theorem lk_put {n c : Nat} {x y : Int32} {m m' : LMem} (hc : c < 260) (h : lr_P n c x y m m') : lk n m m' := fun k i j g => h.1 k i j (fun q => g ⟨q.1, by omega⟩)
theorem lk_38 {n : Nat} {m m' : LMem} (h : lk n m m') : gI m' 38 0 n = gI m 38 0 n := h 38 0 n (fun q => by omega)
/-- where a reader starts; what it leaves -/
def lx_T (n l g : Nat) (T : List Tk) (p : Nat) (s m : LMem) : Prop := lx_P n l g T.length p s m ∧ cont n m T
def lx_W (Φ : Nat → List Tk → Prop) (n l g c p : Nat) (s m m' : LMem) : Prop := ∃ c' q, lr_S n s m' c' ∧ gI m' 33 0 3 = nI q ∧ c ≤ c' ∧ p ≤ q ∧ c' + p ≤ q + c ∧ lk n m m' ∧ ((gI m' 33 0 4 = -1 ∧ q ≤ l ∧ gI m' 33 0 5 = nI g ∧ ∃ T', T'.length = c' ∧ cont n m' T' ∧ Φ (sk (bS s) l q) T') ∨ (q + g ≤ l + 7 ∧ ∃ w, w ≤ 1000 ∧ gI m' 33 0 4 = nI w))
def rdV (F : Nat → List Tk → Nat → List Tk → Prop) (n l g : Nat) (s : LMem) (M dep : Nat) : Prop := ∀ T p m (R : LPost), lx_T n l g T p s m → (∀ m', lx_W (F (sk (bS s) l p) T) n l g T.length p s m m' → R none m') → qC false dep M [lR 33 (some 0)] m R
section LV
variable {n l g c p : Nat} {T : List Tk} {s m0 m1 : LMem} {Φ Ψ : Nat → List Tk → Prop}
theorem lW_mono (h : ∀ z U, Φ z U → Ψ z U) (hx : lx_W Φ n l g c p s m0 m1) : lx_W Ψ n l g c p s m0 m1 := by
  obtain ⟨c1, q1, t1, t2, t3, t4, t5, t6, t7⟩ := hx
  refine ⟨c1, q1, t1, t2, t3, t4, t5, t6, ?_⟩
  rcases t7 with ⟨u1, u2, u3, T', u4, u5, u6⟩ | u
  · exact Or.inl ⟨u1, u2, u3, T', u4, u5, h _ _ u6⟩
  · exact Or.inr u
theorem lW_app (hcp : c ≤ p) (h1 : lx_W Φ n l g c p s m0 m1) (w : gI m1 33 0 4 = -1) : ∃ T1 q1, lx_T n l g T1 q1 s m1 ∧ p ≤ q1 ∧ Φ (sk (bS s) l q1) T1 ∧ ∀ (Ψ : Nat → List Tk → Prop) m2, lx_W Ψ n l g T1.length q1 s m1 m2 → lx_W Ψ n l g c p s m0 m2 := by
  obtain ⟨c1, q1, t1, t2, t3, t4, t5, t6, t7⟩ := h1
  rcases t7 with ⟨u1, u2, u3, T', u4, u5, u6⟩ | ⟨u1, w', u2, u3⟩
  · subst u4
    refine ⟨T', q1, ⟨⟨t1, t2, u2, by omega, w, u3⟩, u5⟩, t4, u6, fun Ψ m2 h2 => ?_⟩
    obtain ⟨c2, q2, v1, v2, v3, v4, v5, v6, v7⟩ := h2
    exact ⟨c2, q2, v1, v2, by omega, by omega, by omega, (lk_tr t6 v6), v7⟩
  · exact absurd (u3.symm.trans w) (nI_ne1 (by omega))
theorem lW_bad (h1 : lx_W Φ n l g c p s m0 m1) (w : gI m1 33 0 4 ≠ -1) : lx_W Ψ n l g c p s m0 m1 := by
  obtain ⟨c1, q1, t1, t2, t3, t4, t5, t6, t7⟩ := h1
  rcases t7 with ⟨u1, _⟩ | u
  · exact absurd u1 w
  · exact ⟨c1, q1, t1, t2, t3, t4, t5, t6, Or.inr u⟩
theorem lW_id {q : Nat} (hm : lx_T n l g T p s m0) (hr : rd_S m0 m1) (h3 : gI m1 33 0 3 = nI q) (hq : p ≤ q) (hq2 : q ≤ l) (h4 : gI m1 33 0 4 = -1) (h5 : gI m1 33 0 5 = nI g) (h : Φ (sk (bS s) l q) T) : lx_W Φ n l g T.length p s m0 m1 :=
  ⟨T.length, q, lr_rd hm.1.1 hr, h3, Nat.le_refl _, hq, by omega, (lk_rd hr), Or.inl ⟨h4, hq2, h5, T, rfl, cont_rd hr hm.2, h⟩⟩
theorem lW_no {q w : Nat} (hm : lx_T n l g T p s m0) (hr : rd_S m0 m1) (h3 : gI m1 33 0 3 = nI q) (hq : p ≤ q) (hq2 : q + g ≤ l + 7) (hw : w ≤ 1000) (h4 : gI m1 33 0 4 = nI w) : lx_W Φ n l g T.length p s m0 m1 :=
  ⟨T.length, q, lr_rd hm.1.1 hr, h3, Nat.le_refl _, hq, by omega, (lk_rd hr), Or.inr ⟨hq2, w, hw, h4⟩⟩
/-- a put behind what was read from q + 1 on -/
theorem lW_put {d q : Nat} {x y : Int32} {m2 : LMem} {R : LPost} (hn : n ≤ 6) (hn2 : xI s 33 13 ≤ (n : Int)) (hl2 : l ≤ 200) (hr : rd_S m0 m1) (hpq : p ≤ q) (hcp : c ≤ p) (H : lx_W Φ n l g c (q + 1) s m1 m2) (h : ∀ m3 z, lx_W (fun z U => ∃ U1, U = U1 ++ [(x, y)] ∧ Φ z U1) n l g c p s m0 m3 → gI m3 33 0 3 = nI z → q < z → z ≤ 1000 → R none m3) : qC false (d + 1) 208 [lR 33 (some 0), lI x, lI y] m2 R := by
  obtain ⟨c2, q2, t1, t2, t3, t4, t5, t6, t7⟩ := H
  have hc2 : c2 < 260 ∧ q2 ≤ 1000 := by
    rcases t7 with ⟨_, u2, _⟩ | ⟨u2, _⟩ <;> omega
  refine h_put (n := n) hn hn2 hc2.1 t1 fun m3 S3 P3 => ?_
  have e33 : ∀ j, gI m3 33 0 j = gI m2 33 0 j := fun j => P3.1 33 0 j (fun q => by omega)
  refine h m3 q2 ⟨c2 + 1, q2, S3, by rw [e33, t2], by omega, by omega, by omega, (lk_tr (lk_tr (lk_rd hr) t6) (lk_put (by omega) P3)), ?_⟩ (by rw [e33, t2]) (by omega) hc2.2
  rw [e33, e33]
  rcases t7 with ⟨u1, u2, u3, T', u4, u5, u6⟩ | u
  · subst u4
    exact Or.inl ⟨u1, u2, u3, T' ++ [(x, y)], len_1, cont_put P3 u5, T', rfl, u6⟩
  · exact Or.inr u
end LV
section TV
variable {d l n g : Nat} {s : LMem} {Q : LPost}
theorem h_atomV {T : List Tk} {p : Nat} {m : LMem} (hn : n ≤ 6) (hn2 : xI s 33 13 ≤ (n : Int)) (hg : g ≤ 6) (hl : gI s 33 0 2 = nI l) (hl2 : l ≤ 200) (hm : lx_T n l g T p s m)
    (hs : g < 6 → rdV (AT (bS s) l 3 (g + 1)) n l (g + 1) s 215 (d + 4))
    (h : ∀ m', lx_W (AT (bS s) l 0 g (sk (bS s) l p) T) n l g T.length p s m m' → Q none m') : qC false (d + 5) 213 [lR 33 (some 0)] m Q := by
  have hm0 := hm
  obtain ⟨⟨S0, h3, hpl, hcp, h4, h5⟩, C0⟩ := hm
  have sk1 : p ≤ sk (bS s) l p := sk_ge p
  have sk2 : sk (bS s) l p ≤ max p l := sk_le p
  refine qC_of rfl rfl ?_
  refine qa_t1_W (cut := []) 120 ?_
  refine h_lookT hl hl2 S0 h3 (by omega) fun m1 hr k4 k5 k3 => Exists.intro _ (And.intro rfl ?_)
  have S1 := lr_rd S0 hr
  have w1 : gI m1 33 0 4 = -1 := by rw [k4, h4]
  have d1 : gI m1 33 0 5 = nI g := by rw [k5, h5]
  generalize hq : sk (bS s) l p = q at *
  refine h_dig12 (fun hd => Exists.intro 1 (And.intro rfl ?_)) (fun hd => Exists.intro 0 (And.intro rfl ?_))
  · refine And.intro (fun q => absurd q (by decide)) (fun _ => ?_)
    have hb := dgB_t hd
    have hql : q < l := by
      rcases Nat.lt_or_ge q l with z | z
      · exact z
      · unfold tc at hb
        rw [if_neg (by omega)] at hb
        exact absurd hb (by decide)
    have hdr1 : 1 ≤ dr (bS s) l 4 q := by
      show 1 ≤ (if dgB (tc (bS s) l q) = true then dr (bS s) l 3 (q + 1) + 1 else 0)
      rw [if_pos hb]
      omega
    have hdr2 := dr_le (b := bS s) (l := l) 4 q (by omega)
    refine h_plainV (lr_l S1 hl) hl2 k3 (by omega) fun m2 r2 a3 a5 a4 a4' => Exists.intro _ (And.intro rfl ?_)
    rw [bS_lr S1] at a3 a4 a4'
    have S2 := lr_rd S1 r2
    refine h_put hn hn2 (by omega) S2 fun m3 S3 P3 => And.intro rfl (h m3 ?_)
    have e33 : ∀ j, gI m3 33 0 j = gI m2 33 0 j := fun j => P3.1 33 0 j (fun q => by omega)
    refine ⟨T.length + 1, q + dr (bS s) l 4 q, S3, by rw [e33, a3], by omega, by omega, by omega, (lk_tr (lk_tr (lk_rd hr) (lk_rd r2)) (lk_put (by omega) P3)), ?_⟩
    cases hb2 : dgB (tc (bS s) l (q + dr (bS s) l 4 q)) with
    | false =>
      have P := cont_put P3 (cont_rd r2 (cont_rd hr C0))
      rw [bS_lr S1] at P
      exact Or.inl ⟨by rw [e33, a4 hb2, w1], by omega, by rw [e33, a5, d1], _, len_1, P, ta_num hb hb2⟩
    | true => exact Or.inr ⟨by omega, q + dr (bS s) l 4 q, by omega, by rw [e33]; exact a4' hb2 w1⟩
  · refine And.intro (fun _ => ?_) (fun q => absurd rfl q)
    have hb := dgB_f hd
    refine h_letterOf (Exists.intro _ (And.intro rfl ?_))
    refine And.intro (fun e1 => ?_) (fun hne => ?_)
    · have e1 : ltF (tc (bS s) l q) = -1 := e1
      refine And.intro (fun e => ?_) (fun e => ?_)
      · have e : tc (bS s) l q = 91 := e
        have hql := tc_lt (by decide) e
        refine h_opensF k3 (by omega) d1 w1 fun m2 r2 a2 b2 w2 => And.intro rfl ?_
        have r2 := rd_tr hr r2
        rcases w2 with ⟨w2, g6⟩ | ⟨w2, g6⟩
        · have hg6 : g < 6 := by
            rcases Nat.lt_or_ge g 6 with z | z
            · exact z
            · exact absurd (by rw [show g = 6 by omega]; rfl) g6
          refine And.intro (fun _ => ?_) (fun w => absurd w2 w)
          refine hs hg6 T (q + 1) m2 _ ⟨⟨lr_rd S0 r2, a2, by omega, by omega, w2, b2⟩, cont_rd r2 C0⟩ fun m3 hm3 => And.intro rfl ?_
          obtain ⟨c3, q3, t1, t2, t3, t4, t5, t6, t7⟩ := hm3
          have hq3 : q3 ≤ 1000 := by
            rcases t7 with ⟨_, u2, _⟩ | ⟨u2, _⟩ <;> omega
          refine h_closesF (lr_l t1 hl) hl2 t2 hq3 fun m4 q4 r4 a4 b4 w4 => And.intro rfl (h m4 ?_)
          rw [bS_lr t1] at w4
          have e38 : lk n m m4 := (lk_tr (lk_tr (lk_rd r2) t6) (lk_rd r4))
          have s1 : q3 ≤ sk (bS s) l q3 := sk_ge q3
          have s2 : sk (bS s) l q3 ≤ max q3 l := sk_le q3
          rcases t7 with ⟨u1, u2, u3, T', uT, uC, u4⟩ | ⟨u1, w, u2, u3⟩
          · have hd4 : gI m4 33 0 5 = nI g := by rw [b4]; exact g_sub hg u3
            rcases w4 with ⟨w4, _⟩ | ⟨_, eq4, w4⟩
            · exact absurd u1 w4
            · rw [← eq4] at u4 s1 s2
              refine ⟨c3, q4 + 1, lr_rd t1 r4, a4, t3, by omega, by omega, e38, ?_⟩
              rcases w4 with ⟨e93, w4⟩ | ⟨e93, w4⟩
              · have := tc_lt (by decide) e93
                exact Or.inl ⟨w4, by omega, hd4, T', uT, cont_rd r4 uC, ta_br e hg6 u4 e93⟩
              · exact Or.inr ⟨by omega, q4, by omega, w4⟩
          · rcases w4 with ⟨_, w4, eq4⟩ | ⟨w4, _⟩
            · refine ⟨c3, q4 + 1, lr_rd t1 r4, a4, t3, by omega, by omega, e38, Or.inr ⟨by omega, w, u2, by rw [w4, u3]⟩⟩
            · exact absurd (u3.symm.trans w4) (nI_ne1 (by omega))
        · have hg6 : 6 ≤ g := by
            rcases Nat.lt_or_ge g 6 with z | z
            · exact absurd g6 (g_ne6 z)
            · exact z
          refine And.intro (fun w => absurd (w2.symm.trans w) (nI_ne1 (by omega))) (fun _ => h m2 ?_)
          exact lW_no hm0 r2 a2 (by omega) (by omega) (by omega) w2
      · have e : ¬ tc (bS s) l q = 91 := e
        have fin : Q none (sI m1 33 0 4 (nI q)) := by
          refine h _ (lW_no hm0 (rd_s (Or.inr (Or.inl rfl)) hr) (q := q) (w := q) ?_ sk1 (by omega) (by omega) ?_)
          · rw [gI_sI, if_neg (fun q => absurd q.2.2 (by decide)), k3]
          · rw [gI_sI, if_pos ⟨rfl, rfl, rfl⟩]
        exact h_bad k3 (fun _ => And.intro rfl fin) (fun w => absurd w1 w)
    · have hne : ltF (tc (bS s) l q) ≠ -1 := hne
      have hql : q < l := by
        rcases Nat.lt_or_ge q l with z | z
        · exact z
        · unfold tc at hne
          rw [if_neg (by omega)] at hne
          exact absurd (by decide) hne
      have r2 := rd_tr hr (rd_s (s := m1) (v := gI m1 33 0 3 + 1) (Or.inl rfl : (3 : Nat) = 3 ∨ (3 : Nat) = 4 ∨ (3 : Nat) = 5) rd_0)
      have a2 : gI (sI m1 33 0 3 (gI m1 33 0 3 + 1)) 33 0 3 = nI (q + 1) := by rw [gI_sI, if_pos ⟨rfl, rfl, rfl⟩, k3, nI_1]
      have w2 : gI (sI m1 33 0 3 (gI m1 33 0 3 + 1)) 33 0 4 = -1 := by rw [gI_sI, if_neg (fun q => absurd q.2.2 (by decide)), w1]
      have b2 : gI (sI m1 33 0 3 (gI m1 33 0 3 + 1)) 33 0 5 = nI g := by rw [gI_sI, if_neg (fun q => absurd q.2.2 (by decide)), d1]
      refine h_letterOf (Exists.intro _ (And.intro rfl ?_))
      refine h_put hn hn2 (by omega) (lr_rd S0 r2) fun m3 S3 P3 => And.intro rfl (h m3 ?_)
      have e33 : ∀ j, gI m3 33 0 j = gI (sI m1 33 0 3 (gI m1 33 0 3 + 1)) 33 0 j := fun j => P3.1 33 0 j (fun q => by omega)
      have e38 : lk n m m3 := lk_tr (lk_rd r2) (lk_put (by omega) P3)
      exact ⟨T.length + 1, q + 1, S3, (e33 3).trans a2, by omega, by omega, by omega, e38, Or.inl ⟨(e33 4).trans w2, by omega, (e33 5).trans b2, _, len_1, cont_put P3 (cont_rd r2 C0), ta_let hb hne⟩⟩
theorem term_lV {bc bs p0 : Nat} {T0 : List Tk} {m0 : LMem} (hn : n ≤ 6) (hn2 : xI s 33 13 ≤ (n : Int)) (hl : gI s 33 0 2 = nI l) (hl2 : l ≤ 200) (hcp0 : T0.length ≤ p0)
    (ha : rdV (AT (bS s) l 0 g) n l g s 213 (d + 5))
    (h : ∀ m', lx_W (AT (bS s) l 1 g (sk (bS s) l p0) T0) n l g T0.length p0 s m0 m' → Q none m') : ∀ f T q m, l - q < f → lx_T n l g T q s m → sk (bS s) l q = q → (∀ (Ψ : Nat → List Tk → Prop) m2, lx_W Ψ n l g T.length q s m m2 → lx_W Ψ n l g T0.length p0 s m0 m2) → (∀ z U, AT (bS s) l 2 g q T z U → AT (bS s) l 1 g (sk (bS s) l p0) T0 z U) → qW false (d + 5) 214 bc bs 21 [some (lR 33 (some 0)), some (lI (tc (bS s) l q))] [] m Q := by
  intro f
  induction f with
  | zero => intro T q m hf; exact absurd hf (Nat.not_lt_zero _)
  | succ f ih =>
    intro T q m hf hm hsk hA hK
    have hm0 := hm
    obtain ⟨⟨S0, h3, hpl, hcp, h4, h5⟩, C0⟩ := hm
    have r2 := rd_s (s := m) (v := gI m 33 0 3 + 1) (Or.inl rfl : (3 : Nat) = 3 ∨ (3 : Nat) = 4 ∨ (3 : Nat) = 5) rd_0
    have a2 : gI (sI m 33 0 3 (gI m 33 0 3 + 1)) 33 0 3 = nI (q + 1) := by rw [gI_sI, if_pos ⟨rfl, rfl, rfl⟩, h3, nI_1]
    have w2 : gI (sI m 33 0 3 (gI m 33 0 3 + 1)) 33 0 4 = -1 := by rw [gI_sI, if_neg (fun q => absurd q.2.2 (by decide)), h4]
    have d2 : gI (sI m 33 0 3 (gI m 33 0 3 + 1)) 33 0 5 = nI g := by rw [gI_sI, if_neg (fun q => absurd q.2.2 (by decide)), h5]
    have S2 := lr_rd S0 r2
    have go : q < l → (tc (bS s) l q = 42 ∨ tc (bS s) l q = 47) → qC false (d + 5) 213 [lR 33 (some 0)] (sI m 33 0 3 (gI m 33 0 3 + 1)) (fun r m3 => r = none ∧ ∀ x : Int32, x = opT (tc (bS s) l q) → qC false (d + 5) 208 [lR 33 (some 0), lI x, lI 0] m3 (fun r m4 => r = none ∧ qW false (d + 5) 214 bc bs 63 [some (lR 33 (some 0)), some (lI (tc (bS s) l q))] [] m4 Q)) := fun hql hc => by
      refine ha T (q + 1) _ _ ⟨⟨S2, a2, by omega, by omega, w2, d2⟩, cont_rd r2 C0⟩ fun m3 hm3 => And.intro rfl fun x hx => ?_
      refine lW_put hn hn2 hl2 r2 (Nat.le_refl q) hcp hm3 fun m4 z hm4 z1 z2 z3 => And.intro rfl ?_
      refine qa_t1_W (cut := [21]) 40 ?_
      refine And.intro (fun w => ?_) (fun w => ?_)
      · have w : gI m4 33 0 4 = -1 := w
        obtain ⟨T1, q1, P1, hq1, ⟨U1, eU, hT⟩, K⟩ := lW_app hcp hm4 w
        have P1' := P1
        obtain ⟨⟨S1, x3, x1, x2, x4, x5⟩, C1⟩ := P1
        have ez := congrArg Int32.toInt (x3.symm.trans z1)
        rw [nI_toInt (by omega), nI_toInt (by omega)] at ez
        have s1 : q1 ≤ sk (bS s) l q1 := sk_ge q1
        have s2 : sk (bS s) l q1 ≤ max q1 l := sk_le q1
        refine h_lookT hl hl2 S1 x3 (by omega) fun m5 r5 k4 k5 k3 => Exists.intro _ (And.intro rfl ?_)
        have P5 : lx_T n l g T1 (sk (bS s) l q1) s m5 := ⟨⟨lr_rd S1 r5, k3, by omega, by omega, by rw [k4, x4], by rw [k5, x5]⟩, cont_rd r5 C1⟩
        refine ih T1 _ m5 (by omega) P5 (sk_sk q1) (fun Ψ m6 h6 => hA Ψ m6 (K Ψ m6 ?_)) (fun z U hU => hK z U (by
          rw [eU, hx] at hU
          exact ta_termL hc hT hU))
        obtain ⟨c2, q2, v1, v2, v3, v4, v5, v6, v7⟩ := h6
        exact ⟨c2, q2, v1, v2, v3, by omega, by omega, (lk_tr (lk_rd r5) v6), v7⟩
      · have w : ¬ gI m4 33 0 4 = -1 := w
        exact term_x (h m4 (hA _ m4 (lW_bad hm4 w)))
    refine qa_t1_W (cut := [63]) 60 ?_
    refine And.intro (fun e => ?_) (fun ne => ?_)
    · have e : tc (bS s) l q = 42 := e
      refine qC_mono (go (tc_lt (by decide) e) (Or.inl e)) (fun r m3 k => ?_)
      exact And.intro k.1 (And.intro (fun _ => k.2 4 (by rw [e]; rfl)) (fun q => absurd e q))
    · have ne : ¬ tc (bS s) l q = 42 := ne
      refine And.intro (fun e => ?_) (fun ne2 => ?_)
      · have e : tc (bS s) l q = 47 := e
        refine qC_mono (go (tc_lt (by decide) e) (Or.inr e)) (fun r m3 k => ?_)
        exact And.intro k.1 (And.intro (fun q => absurd q ne) (fun _ => k.2 5 (by rw [e]; rfl)))
      · have ne2 : ¬ tc (bS s) l q = 47 := ne2
        refine h m (hA _ m (lW_id hm0 rd_0 h3 (Nat.le_refl _) hpl h4 h5 ?_))
        rw [hsk]
        exact hK _ _ (ta_termL0 (fun c => by rcases c with c | c; exact ne c; exact ne2 c))
theorem sum_lV {bc bs p0 : Nat} {T0 : List Tk} {m0 : LMem} (hn : n ≤ 6) (hn2 : xI s 33 13 ≤ (n : Int)) (hl : gI s 33 0 2 = nI l) (hl2 : l ≤ 200) (hcp0 : T0.length ≤ p0)
    (ha : rdV (AT (bS s) l 1 g) n l g s 214 (d + 6))
    (h : ∀ m', lx_W (AT (bS s) l 3 g (sk (bS s) l p0) T0) n l g T0.length p0 s m0 m' → Q none m') : ∀ f T q m, l - q < f → lx_T n l g T q s m → sk (bS s) l q = q → (∀ (Ψ : Nat → List Tk → Prop) m2, lx_W Ψ n l g T.length q s m m2 → lx_W Ψ n l g T0.length p0 s m0 m2) → (∀ z U, AT (bS s) l 4 g q T z U → AT (bS s) l 3 g (sk (bS s) l p0) T0 z U) → qW false (d + 6) 215 bc bs 21 [some (lR 33 (some 0)), some (lI (tc (bS s) l q))] [] m Q := by
  intro f
  induction f with
  | zero => intro T q m hf; exact absurd hf (Nat.not_lt_zero _)
  | succ f ih =>
    intro T q m hf hm hsk hA hK
    have hm0 := hm
    obtain ⟨⟨S0, h3, hpl, hcp, h4, h5⟩, C0⟩ := hm
    have r2 := rd_s (s := m) (v := gI m 33 0 3 + 1) (Or.inl rfl : (3 : Nat) = 3 ∨ (3 : Nat) = 4 ∨ (3 : Nat) = 5) rd_0
    have a2 : gI (sI m 33 0 3 (gI m 33 0 3 + 1)) 33 0 3 = nI (q + 1) := by rw [gI_sI, if_pos ⟨rfl, rfl, rfl⟩, h3, nI_1]
    have w2 : gI (sI m 33 0 3 (gI m 33 0 3 + 1)) 33 0 4 = -1 := by rw [gI_sI, if_neg (fun q => absurd q.2.2 (by decide)), h4]
    have d2 : gI (sI m 33 0 3 (gI m 33 0 3 + 1)) 33 0 5 = nI g := by rw [gI_sI, if_neg (fun q => absurd q.2.2 (by decide)), h5]
    have S2 := lr_rd S0 r2
    have go : q < l → (tc (bS s) l q = 43 ∨ tc (bS s) l q = 45) → qC false (d + 6) 214 [lR 33 (some 0)] (sI m 33 0 3 (gI m 33 0 3 + 1)) (fun r m3 => r = none ∧ ∀ x : Int32, x = opT (tc (bS s) l q) → qC false (d + 6) 208 [lR 33 (some 0), lI x, lI 0] m3 (fun r m4 => r = none ∧ qW false (d + 6) 215 bc bs 63 [some (lR 33 (some 0)), some (lI (tc (bS s) l q))] [] m4 Q)) := fun hql hc => by
      refine ha T (q + 1) _ _ ⟨⟨S2, a2, by omega, by omega, w2, d2⟩, cont_rd r2 C0⟩ fun m3 hm3 => And.intro rfl fun x hx => ?_
      refine lW_put hn hn2 hl2 r2 (Nat.le_refl q) hcp hm3 fun m4 z hm4 z1 z2 z3 => And.intro rfl ?_
      refine qa_t1_W (cut := [21]) 40 ?_
      refine And.intro (fun w => ?_) (fun w => ?_)
      · have w : gI m4 33 0 4 = -1 := w
        obtain ⟨T1, q1, P1, hq1, ⟨U1, eU, hT⟩, K⟩ := lW_app hcp hm4 w
        obtain ⟨⟨S1, x3, x1, x2, x4, x5⟩, C1⟩ := P1
        have ez := congrArg Int32.toInt (x3.symm.trans z1)
        rw [nI_toInt (by omega), nI_toInt (by omega)] at ez
        have s1 : q1 ≤ sk (bS s) l q1 := sk_ge q1
        have s2 : sk (bS s) l q1 ≤ max q1 l := sk_le q1
        refine h_lookT hl hl2 S1 x3 (by omega) fun m5 r5 k4 k5 k3 => Exists.intro _ (And.intro rfl ?_)
        have P5 : lx_T n l g T1 (sk (bS s) l q1) s m5 := ⟨⟨lr_rd S1 r5, k3, by omega, by omega, by rw [k4, x4], by rw [k5, x5]⟩, cont_rd r5 C1⟩
        refine ih T1 _ m5 (by omega) P5 (sk_sk q1) (fun Ψ m6 h6 => hA Ψ m6 (K Ψ m6 ?_)) (fun z U hU => hK z U (by
          rw [eU, hx] at hU
          exact ta_sumL hc hT hU))
        obtain ⟨c2, q2, v1, v2, v3, v4, v5, v6, v7⟩ := h6
        exact ⟨c2, q2, v1, v2, v3, by omega, by omega, (lk_tr (lk_rd r5) v6), v7⟩
      · have w : ¬ gI m4 33 0 4 = -1 := w
        exact sum_x (h m4 (hA _ m4 (lW_bad hm4 w)))
    refine qa_t1_W (cut := [63]) 60 ?_
    refine And.intro (fun e => ?_) (fun ne => ?_)
    · have e : tc (bS s) l q = 43 := e
      refine qC_mono (go (tc_lt (by decide) e) (Or.inl e)) (fun r m3 k => ?_)
      exact And.intro k.1 (And.intro (fun _ => k.2 2 (by rw [e]; rfl)) (fun q => absurd e q))
    · have ne : ¬ tc (bS s) l q = 43 := ne
      refine And.intro (fun e => ?_) (fun ne2 => ?_)
      · have e : tc (bS s) l q = 45 := e
        refine qC_mono (go (tc_lt (by decide) e) (Or.inr e)) (fun r m3 k => ?_)
        exact And.intro k.1 (And.intro (fun q => absurd q ne) (fun _ => k.2 3 (by rw [e]; rfl)))
      · have ne2 : ¬ tc (bS s) l q = 45 := ne2
        refine h m (hA _ m (lW_id hm0 rd_0 h3 (Nat.le_refl _) hpl h4 h5 ?_))
        rw [hsk]
        exact hK _ _ (ta_sumL0 (fun c => by rcases c with c | c; exact ne c; exact ne2 c))
theorem h_termV (hn : n ≤ 6) (hn2 : xI s 33 13 ≤ (n : Int)) (hl : gI s 33 0 2 = nI l) (hl2 : l ≤ 200)
    (ha : rdV (AT (bS s) l 0 g) n l g s 213 (d + 5)) : rdV (AT (bS s) l 1 g) n l g s 214 (d + 5 + 1) := fun T p m R hm h => by
  have hcp := hm.1.2.2.2.1
  refine qC_of rfl rfl ?_
  refine qa_t1_W (cut := [21]) 60 ?_
  refine ha T p m _ hm fun m1 hm1 => And.intro rfl ?_
  refine And.intro (fun w => ?_) (fun w => term_x (h m1 (lW_bad hm1 w)))
  have w : gI m1 33 0 4 = -1 := w
  obtain ⟨T1, q1, P1, hq1, hT, K⟩ := lW_app hcp hm1 w
  obtain ⟨⟨S1, x3, x1, x2, x4, x5⟩, C1⟩ := P1
  have s1 : q1 ≤ sk (bS s) l q1 := sk_ge q1
  have s2 : sk (bS s) l q1 ≤ max q1 l := sk_le q1
  refine h_lookT hl hl2 S1 x3 (by omega) fun m5 r5 k4 k5 k3 => Exists.intro _ (And.intro rfl ?_)
  have P5 : lx_T n l g T1 (sk (bS s) l q1) s m5 := ⟨⟨lr_rd S1 r5, k3, by omega, by omega, by rw [k4, x4], by rw [k5, x5]⟩, cont_rd r5 C1⟩
  refine term_lV hn hn2 hl hl2 hcp ha h (l - sk (bS s) l q1 + 1) T1 _ m5 (by omega) P5 (sk_sk q1) (fun Ψ m6 h6 => K Ψ m6 ?_) (fun z U hU => ta_term hT hU)
  obtain ⟨c2, q2, v1, v2, v3, v4, v5, v6, v7⟩ := h6
  exact ⟨c2, q2, v1, v2, v3, by omega, by omega, (lk_tr (lk_rd r5) v6), v7⟩
theorem h_sumV (hn : n ≤ 6) (hn2 : xI s 33 13 ≤ (n : Int)) (hl : gI s 33 0 2 = nI l) (hl2 : l ≤ 200)
    (ha : rdV (AT (bS s) l 1 g) n l g s 214 (d + 6)) : rdV (AT (bS s) l 3 g) n l g s 215 (d + 6 + 1) := fun T p m R hm h => by
  have hcp := hm.1.2.2.2.1
  refine qC_of rfl rfl ?_
  refine qa_t1_W (cut := [21]) 60 ?_
  refine ha T p m _ hm fun m1 hm1 => And.intro rfl ?_
  refine And.intro (fun w => ?_) (fun w => sum_x (h m1 (lW_bad hm1 w)))
  have w : gI m1 33 0 4 = -1 := w
  obtain ⟨T1, q1, P1, hq1, hT, K⟩ := lW_app hcp hm1 w
  obtain ⟨⟨S1, x3, x1, x2, x4, x5⟩, C1⟩ := P1
  have s1 : q1 ≤ sk (bS s) l q1 := sk_ge q1
  have s2 : sk (bS s) l q1 ≤ max q1 l := sk_le q1
  refine h_lookT hl hl2 S1 x3 (by omega) fun m5 r5 k4 k5 k3 => Exists.intro _ (And.intro rfl ?_)
  have P5 : lx_T n l g T1 (sk (bS s) l q1) s m5 := ⟨⟨lr_rd S1 r5, k3, by omega, by omega, by rw [k4, x4], by rw [k5, x5]⟩, cont_rd r5 C1⟩
  refine sum_lV hn hn2 hl hl2 hcp ha h (l - sk (bS s) l q1 + 1) T1 _ m5 (by omega) P5 (sk_sk q1) (fun Ψ m6 h6 => K Ψ m6 ?_) (fun z U hU => ta_sum hT hU)
  obtain ⟨c2, q2, v1, v2, v3, v4, v5, v6, v7⟩ := h6
  exact ⟨c2, q2, v1, v2, v3, by omega, by omega, (lk_tr (lk_rd r5) v6), v7⟩
end TV
theorem h_sumGV {l n : Nat} {s : LMem} (hn : n ≤ 6) (hn2 : xI s 33 13 ≤ (n : Int)) (hl : gI s 33 0 2 = nI l) (hl2 : l ≤ 200) : ∀ k g, g + k = 6 → ∀ d, rdV (AT (bS s) l 3 g) n l g s 215 (d + 3 * k + 7) := by
  intro k
  induction k with
  | zero =>
    intro g hg d
    have at_ : rdV (AT (bS s) l 0 g) n l g s 213 (d + 5) := fun T p m R hP hR => h_atomV hn hn2 (by omega) hl hl2 hP (fun q => absurd q (by omega)) hR
    exact h_sumV hn hn2 hl hl2 (h_termV hn hn2 hl hl2 at_)
  | succ k ih =>
    intro g hg d
    have at_ : rdV (AT (bS s) l 0 g) n l g s 213 (d + 3 * k + 3 + 5) := fun T p m R hP hR => h_atomV hn hn2 (by omega) hl hl2 hP (fun _ => ih (g + 1) (by omega) d) hR
    have e : d + 3 * (k + 1) + 7 = d + 3 * k + 3 + 6 + 1 := by omega
    rw [e]
    exact h_sumV hn hn2 hl hl2 (h_termV hn hn2 hl hl2 at_)
theorem lW_back {Φ : Nat → List Tk → Prop} {n l g c p q : Nat} {s m m1 m' : LMem} (hr : rd_S m m1) (hpq : p ≤ q) (H : lx_W Φ n l g c q s m1 m') : lx_W Φ n l g c p s m m' := by
  obtain ⟨c3, q3, t1, t2, t3, t4, t5, t6, t7⟩ := H
  exact ⟨c3, q3, t1, t2, t3, by omega, by omega, (lk_tr (lk_rd hr) t6), t7⟩
section CV4
variable {l n g : Nat} {s : LMem}
theorem h_compareV {d : Nat} (hn : n ≤ 6) (hn2 : xI s 33 13 ≤ (n : Int)) (hg : g ≤ 6) (hl : gI s 33 0 2 = nI l) (hl2 : l ≤ 200) (hS : rdV (AT (bS s) l 3 g) n l g s 215 (d + 4)) : rdV (AT (bS s) l 5 g) n l g s 217 (d + 5) := fun T p m R hm h => by
  have hm0 := hm
  obtain ⟨⟨S0, h3, hpl, hcp, h4, h5⟩, C0⟩ := hm
  have sk1 : p ≤ sk (bS s) l p := sk_ge p
  have sk2 : sk (bS s) l p ≤ max p l := sk_le p
  refine qC_of rfl rfl ?_
  refine qa_t1_W (cut := []) 80 ?_
  refine And.intro (fun _ => ?_) (fun w => absurd h4 w)
  refine h_lookT hl hl2 S0 h3 (by omega) fun m1 hr k4 k5 k3 => Exists.intro _ (And.intro rfl ?_)
  generalize hq : sk (bS s) l p = q at *
  refine h_isSign (fun hs => Exists.intro 1 (And.intro rfl ?_)) (fun hs => Exists.intro 0 (And.intro rfl ?_))
  · refine And.intro (fun q => absurd q (by decide)) (fun _ => ?_)
    have hq3 := tc_lt (sgn_ne hs) rfl
    have r2 := rd_tr hr (rd_s (s := m1) (v := gI m1 33 0 3 + 1) (Or.inl rfl : (3 : Nat) = 3 ∨ (3 : Nat) = 4 ∨ (3 : Nat) = 5) rd_0)
    have a2 : gI (sI m1 33 0 3 (gI m1 33 0 3 + 1)) 33 0 3 = nI (q + 1) := by rw [gI_sI, if_pos ⟨rfl, rfl, rfl⟩, k3, nI_1]
    have w2 : gI (sI m1 33 0 3 (gI m1 33 0 3 + 1)) 33 0 4 = -1 := by rw [gI_sI, if_neg (fun q => absurd q.2.2 (by decide)), k4, h4]
    have d2 : gI (sI m1 33 0 3 (gI m1 33 0 3 + 1)) 33 0 5 = nI g := by rw [gI_sI, if_neg (fun q => absurd q.2.2 (by decide)), k5, h5]
    refine hS T (q + 1) _ _ ⟨⟨lr_rd S0 r2, a2, by omega, by omega, w2, d2⟩, cont_rd r2 C0⟩ fun m3 hm3 => And.intro rfl ?_
    have fin : ∀ x m4, x = opT (tc (bS s) l q) → lx_W (fun z U => ∃ U1, U = U1 ++ [(x, 0)] ∧ AT (bS s) l 3 g (sk (bS s) l (q + 1)) T z U1) n l g T.length p s m m4 → R none m4 := fun x m4 hx hm4 => h m4 (lW_mono (fun z U hU => by
      obtain ⟨U1, eU, hU⟩ := hU
      rw [eU, hx]
      exact ta_cmp (sgB_t hs) hU) hm4)
    refine And.intro (fun e => ?_) (fun ne => And.intro (fun e => ?_) (fun ne2 => ?_))
    · have e : tc (bS s) l q = 61 := e
      exact lW_put hn hn2 hl2 r2 sk1 hcp hm3 fun m4 z hm4 _ _ _ => And.intro rfl (fin 6 m4 (by rw [e]; rfl) hm4)
    · have e : tc (bS s) l q = 60 := e
      exact lW_put hn hn2 hl2 r2 sk1 hcp hm3 fun m4 z hm4 _ _ _ => And.intro rfl (fin 7 m4 (by rw [e]; rfl) hm4)
    · have ne : ¬ tc (bS s) l q = 61 := ne
      have ne2 : ¬ tc (bS s) l q = 60 := ne2
      have e : tc (bS s) l q = 62 := by
        rcases hs with h | h | h
        · exact absurd h ne
        · exact absurd h ne2
        · exact h
      exact lW_put hn hn2 hl2 r2 sk1 hcp hm3 fun m4 z hm4 _ _ _ => And.intro rfl (fin 8 m4 (by rw [e]; rfl) hm4)
  · refine And.intro (fun _ => ?_) (fun q => absurd rfl q)
    have fin : R none (sI m1 33 0 4 (nI q)) := by
      refine h _ (lW_no hm0 (rd_s (Or.inr (Or.inl rfl)) hr) (q := q) (w := q) ?_ sk1 (by omega) (by omega) ?_)
      · rw [gI_sI, if_neg (fun q => absurd q.2.2 (by decide)), k3]
      · rw [gI_sI, if_pos ⟨rfl, rfl, rfl⟩]
    exact h_bad k3 (fun _ => And.intro rfl fin) (fun w => absurd (by rw [k4, h4]) w)
theorem and_lV {d bc bs : Nat} {Q : LPost} (hn : n ≤ 6) (hn2 : xI s 33 13 ≤ (n : Int)) (hl : gI s 33 0 2 = nI l) (hl2 : l ≤ 200) (hU : rdV (AT (bS s) l 6 g) n l g s 218 (d + 3)) : ∀ f T p m, l - p < f → lx_T n l g T p s m → (∀ m', lx_W (AT (bS s) l 7 g (sk (bS s) l p) T) n l g T.length p s m m' → Q none m') → qW false (d + 3) 219 bc bs 0 [some (lR 33 (some 0))] [] m Q := by
  intro f
  induction f with
  | zero => intro T p m hf; exact absurd hf (Nat.not_lt_zero _)
  | succ f ih =>
    intro T p m hf hm h
    have hm0 := hm
    obtain ⟨⟨S0, h3, hpl, hcp, h4, h5⟩, C0⟩ := hm
    have sk1 : p ≤ sk (bS s) l p := sk_ge p
    have sk2 : sk (bS s) l p ≤ max p l := sk_le p
    have sk3 : sk (bS s) l (sk (bS s) l p) = sk (bS s) l p := sk_sk p
    refine qa_t1_W (cut := [0]) 60 ?_
    refine And.intro (fun _ => ?_) (fun w => absurd h4 w)
    refine h_lookT hl hl2 S0 h3 (by omega) fun m1 hr k4 k5 k3 => Exists.intro _ (And.intro rfl ?_)
    generalize hq : sk (bS s) l p = q at *
    refine And.intro (fun e => ?_) (fun ne => h m1 (lW_id hm0 hr k3 sk1 (by omega) (by rw [k4, h4]) (by rw [k5, h5]) (by rw [sk3]; exact ta_and0 ne)))
    have e : tc (bS s) l q = 38 := e
    have hq3 := tc_lt (by decide) e
    have r2 := rd_tr hr (rd_s (s := m1) (v := gI m1 33 0 3 + 1) (Or.inl rfl : (3 : Nat) = 3 ∨ (3 : Nat) = 4 ∨ (3 : Nat) = 5) rd_0)
    have a2 : gI (sI m1 33 0 3 (gI m1 33 0 3 + 1)) 33 0 3 = nI (q + 1) := by rw [gI_sI, if_pos ⟨rfl, rfl, rfl⟩, k3, nI_1]
    have w2 : gI (sI m1 33 0 3 (gI m1 33 0 3 + 1)) 33 0 4 = -1 := by rw [gI_sI, if_neg (fun q => absurd q.2.2 (by decide)), k4, h4]
    have d2 : gI (sI m1 33 0 3 (gI m1 33 0 3 + 1)) 33 0 5 = nI g := by rw [gI_sI, if_neg (fun q => absurd q.2.2 (by decide)), k5, h5]
    refine hU T (q + 1) _ _ ⟨⟨lr_rd S0 r2, a2, by omega, by omega, w2, d2⟩, cont_rd r2 C0⟩ fun m3 hm3 => And.intro rfl ?_
    refine lW_put hn hn2 hl2 r2 sk1 hcp hm3 fun m4 z hm4 z1 z2 z3 => And.intro rfl ?_
    by_cases w : gI m4 33 0 4 = -1
    · obtain ⟨T1, q1, P1, hq1, ⟨U1, eU, hT⟩, K⟩ := lW_app hcp hm4 w
      have ez := congrArg Int32.toInt (P1.1.2.1.symm.trans z1)
      rw [nI_toInt (by have := P1.1.2.2.1; omega), nI_toInt (by omega)] at ez
      exact ih T1 q1 m4 (by omega) P1 (fun m' hm' => h m' (K _ m' (lW_mono (fun z U hU => by
        rw [eU] at hU
        exact ta_and e hT hU) hm')))
    · exact and_x w (h m4 (lW_bad hm4 w))
theorem h_andV {d : Nat} (hn : n ≤ 6) (hn2 : xI s 33 13 ≤ (n : Int)) (hl : gI s 33 0 2 = nI l) (hl2 : l ≤ 200) (hU : rdV (AT (bS s) l 6 g) n l g s 218 (d + 3)) : rdV (AT (bS s) l 7 g) n l g s 219 (d + 4) := fun T p m R hm h => qC_of rfl rfl (and_lV hn hn2 hl hl2 hU (l - p + 1) T p m (by omega) hm h)
/-- goOnAnd behind a unit -/
theorem unit_andV {d c p z : Nat} {T : List Tk} {m0 m3 : LMem} {R : LPost} (hcp : c ≤ p) (hA : rdV (AT (bS s) l 7 g) n l g s 219 (d + 1)) (H : lx_W (AT (bS s) l 6 g z T) n l g c p s m0 m3) (h : ∀ m4, lx_W (AT (bS s) l 10 g z T) n l g c p s m0 m4 → R none m4) : qC false (d + 1) 219 [lR 33 (some 0)] m3 R := by
  by_cases w : gI m3 33 0 4 = -1
  · obtain ⟨T1, q1, P1, hq1, hT, K⟩ := lW_app hcp H w
    exact hA T1 q1 m3 _ P1 fun m4 hm4 => h m4 (K _ m4 (lW_mono (fun z U hU => ta_truth hT hU) hm4))
  · exact h_and_x w (h m3 (lW_bad H w))
theorem or_lV {d bc bs : Nat} {Q : LPost} (hn : n ≤ 6) (hn2 : xI s 33 13 ≤ (n : Int)) (hl : gI s 33 0 2 = nI l) (hl2 : l ≤ 200) (hU : rdV (AT (bS s) l 6 g) n l g s 218 (d + 3)) (hA : rdV (AT (bS s) l 7 g) n l g s 219 (d + 3)) : ∀ f T p m, l - p < f → lx_T n l g T p s m → (∀ m', lx_W (AT (bS s) l 8 g (sk (bS s) l p) T) n l g T.length p s m m' → Q none m') → qW false (d + 3) 220 bc bs 0 [some (lR 33 (some 0))] [] m Q := by
  intro f
  induction f with
  | zero => intro T p m hf; exact absurd hf (Nat.not_lt_zero _)
  | succ f ih =>
    intro T p m hf hm h
    have hm0 := hm
    obtain ⟨⟨S0, h3, hpl, hcp, h4, h5⟩, C0⟩ := hm
    have sk1 : p ≤ sk (bS s) l p := sk_ge p
    have sk2 : sk (bS s) l p ≤ max p l := sk_le p
    have sk3 : sk (bS s) l (sk (bS s) l p) = sk (bS s) l p := sk_sk p
    refine qa_t1_W (cut := [0]) 60 ?_
    refine And.intro (fun _ => ?_) (fun w => absurd h4 w)
    refine h_lookT hl hl2 S0 h3 (by omega) fun m1 hr k4 k5 k3 => Exists.intro _ (And.intro rfl ?_)
    generalize hq : sk (bS s) l p = q at *
    refine And.intro (fun e => ?_) (fun ne => h m1 (lW_id hm0 hr k3 sk1 (by omega) (by rw [k4, h4]) (by rw [k5, h5]) (by rw [sk3]; exact ta_or0 ne)))
    have e : tc (bS s) l q = 124 := e
    have hq3 := tc_lt (by decide) e
    have r2 := rd_tr hr (rd_s (s := m1) (v := gI m1 33 0 3 + 1) (Or.inl rfl : (3 : Nat) = 3 ∨ (3 : Nat) = 4 ∨ (3 : Nat) = 5) rd_0)
    have a2 : gI (sI m1 33 0 3 (gI m1 33 0 3 + 1)) 33 0 3 = nI (q + 1) := by rw [gI_sI, if_pos ⟨rfl, rfl, rfl⟩, k3, nI_1]
    have w2 : gI (sI m1 33 0 3 (gI m1 33 0 3 + 1)) 33 0 4 = -1 := by rw [gI_sI, if_neg (fun q => absurd q.2.2 (by decide)), k4, h4]
    have d2 : gI (sI m1 33 0 3 (gI m1 33 0 3 + 1)) 33 0 5 = nI g := by rw [gI_sI, if_neg (fun q => absurd q.2.2 (by decide)), k5, h5]
    refine hU T (q + 1) _ _ ⟨⟨lr_rd S0 r2, a2, by omega, by omega, w2, d2⟩, cont_rd r2 C0⟩ fun m3 hm3 => And.intro rfl ?_
    refine unit_andV (by omega) hA hm3 fun m3 hm3 => And.intro rfl ?_
    refine lW_put hn hn2 hl2 r2 sk1 hcp hm3 fun m4 z hm4 z1 z2 z3 => And.intro rfl ?_
    by_cases w : gI m4 33 0 4 = -1
    · obtain ⟨T1, q1, P1, hq1, ⟨U1, eU, hT⟩, K⟩ := lW_app hcp hm4 w
      have ez := congrArg Int32.toInt (P1.1.2.1.symm.trans z1)
      rw [nI_toInt (by have := P1.1.2.2.1; omega), nI_toInt (by omega)] at ez
      exact ih T1 q1 m4 (by omega) P1 (fun m' hm' => h m' (K _ m' (lW_mono (fun z U hU => by
        rw [eU] at hU
        exact ta_or e hT hU) hm')))
    · exact or_x w (h m4 (lW_bad hm4 w))
theorem h_orV {d : Nat} (hn : n ≤ 6) (hn2 : xI s 33 13 ≤ (n : Int)) (hl : gI s 33 0 2 = nI l) (hl2 : l ≤ 200) (hU : rdV (AT (bS s) l 6 g) n l g s 218 (d + 3)) (hA : rdV (AT (bS s) l 7 g) n l g s 219 (d + 3)) : rdV (AT (bS s) l 8 g) n l g s 220 (d + 4) := fun T p m R hm h => qC_of rfl rfl (or_lV hn hn2 hl hl2 hU hA (l - p + 1) T p m (by omega) hm h)
theorem h_condV {K : Nat} (hn : n ≤ 6) (hn2 : xI s 33 13 ≤ (n : Int)) (hl : gI s 33 0 2 = nI l) (hl2 : l ≤ 200) (hU : ∀ d, rdV (AT (bS s) l 6 g) n l g s 218 (d + K + 3)) (d : Nat) : rdV (AT (bS s) l 9 g) n l g s 221 (d + K + 6) := fun T p m R hm h => by
  have hcp := hm.1.2.2.2.1
  have U5 : rdV (AT (bS s) l 6 g) n l g s 218 (d + K + 5) := by
    rw [show d + K + 5 = d + 2 + K + 3 by omega]
    exact hU (d + 2)
  have U4 : rdV (AT (bS s) l 6 g) n l g s 218 (d + K + 1 + 3) := by
    rw [show d + K + 1 + 3 = d + 1 + K + 3 by omega]
    exact hU (d + 1)
  have A5 : rdV (AT (bS s) l 7 g) n l g s 219 (d + K + 4 + 1) := h_andV (d := d + K + 1) hn hn2 hl hl2 U4
  have A4 : rdV (AT (bS s) l 7 g) n l g s 219 (d + K + 1 + 3) := h_andV (d := d + K) hn hn2 hl hl2 (hU d)
  have O5 : rdV (AT (bS s) l 8 g) n l g s 220 (d + K + 5) := h_orV (d := d + K + 1) hn hn2 hl hl2 U4 A4
  refine qC_of rfl rfl ?_
  refine qa_t1_W (cut := []) 40 ?_
  refine U5 T p m _ hm fun m1 hm1 => And.intro rfl ?_
  refine unit_andV hcp A5 hm1 fun m2 hm2 => And.intro rfl ?_
  by_cases w : gI m2 33 0 4 = -1
  · obtain ⟨T1, q1, P1, hq1, hT, K⟩ := lW_app hcp hm2 w
    exact O5 T1 q1 m2 _ P1 fun m3 hm3 => And.intro rfl (h m3 (K _ m3 (lW_mono (fun z U hU => ta_cond hT hU) hm3)))
  · exact h_or_x w (And.intro rfl (h m2 (lW_bad hm2 w)))
theorem h_unitV {d p : Nat} {T : List Tk} {m : LMem} {Q : LPost} (hn : n ≤ 6) (hn2 : xI s 33 13 ≤ (n : Int)) (hg : g ≤ 6) (hl : gI s 33 0 2 = nI l) (hl2 : l ≤ 200) (hS5 : rdV (AT (bS s) l 3 g) n l g s 215 (d + 5)) (hS4 : rdV (AT (bS s) l 3 g) n l g s 215 (d + 4)) (hU : g < 6 → rdV (AT (bS s) l 6 (g + 1)) n l (g + 1) s 218 (d + 5)) (hC : g < 6 → rdV (AT (bS s) l 9 (g + 1)) n l (g + 1) s 221 (d + 5)) (hm : lx_T n l g T p s m) (h : ∀ m', lx_W (AT (bS s) l 6 g (sk (bS s) l p) T) n l g T.length p s m m' → Q none m') : qC false (d + 6) 218 [lR 33 (some 0)] m Q := by
  have hm0 := hm
  obtain ⟨⟨S0, h3, hpl, hcp, h4, h5⟩, C0⟩ := hm
  have sk1 : p ≤ sk (bS s) l p := sk_ge p
  have sk2 : sk (bS s) l p ≤ max p l := sk_le p
  have sk3 : sk (bS s) l (sk (bS s) l p) = sk (bS s) l p := sk_sk p
  refine qC_of rfl rfl ?_
  refine qa_t1_W (cut := []) 100 ?_
  refine h_lookT hl hl2 S0 h3 (by omega) fun m1 hr k4 k5 k3 => Exists.intro _ (And.intro rfl ?_)
  have w1 : gI m1 33 0 4 = -1 := by rw [k4, h4]
  have d1 : gI m1 33 0 5 = nI g := by rw [k5, h5]
  generalize hq : sk (bS s) l p = q at *
  have lt6 : nI g ≠ 6 → g < 6 := fun g6 => by
    rcases Nat.lt_or_ge g 6 with z | z
    · exact z
    · exact absurd (by rw [show g = 6 by omega]; rfl) g6
  have ge6 : nI g = 6 → 6 ≤ g := fun g6 => by
    rcases Nat.lt_or_ge g 6 with z | z
    · exact absurd g6 (g_ne6 z)
    · exact z
  refine And.intro (fun e => ?_) (fun ne => And.intro (fun e => ?_) (fun ne2 => ?_))
  · have e : tc (bS s) l q = 33 := e
    have hq3 := tc_lt (by decide) e
    refine h_opensF k3 (by omega) d1 w1 fun m2 r2 a2 b2 w2 => And.intro rfl ?_
    have r2 := rd_tr hr r2
    rcases w2 with ⟨w2, g6⟩ | ⟨w2, g6⟩
    · refine And.intro (fun _ => ?_) (fun w => absurd w2 w)
      refine hU (lt6 g6) T (q + 1) m2 _ ⟨⟨lr_rd S0 r2, a2, by omega, by omega, w2, b2⟩, cont_rd r2 C0⟩ fun m3 hm3 => And.intro rfl ?_
      obtain ⟨c3, q3, t1, t2, t3, t4, t5, t6, t7⟩ := hm3
      have hc3 : c3 < 260 := by
        rcases t7 with ⟨_, u2, _⟩ | ⟨u2, _⟩ <;> omega
      refine h_put (n := n) hn hn2 hc3 t1 fun m4 S4 P4 => And.intro rfl ?_
      have e33 : ∀ j, gI m4 33 0 j = gI m3 33 0 j := fun j => P4.1 33 0 j (fun q => by omega)
      have r5 := rd_s (s := m4) (v := gI m4 33 0 5 - 1) (Or.inr (Or.inr rfl) : (5 : Nat) = 3 ∨ (5 : Nat) = 4 ∨ (5 : Nat) = 5) rd_0
      have f3 : gI (sI m4 33 0 5 (gI m4 33 0 5 - 1)) 33 0 3 = nI q3 := by rw [gI_sI, if_neg (fun q => absurd q.2.2 (by decide)), e33, t2]
      have f4 : gI (sI m4 33 0 5 (gI m4 33 0 5 - 1)) 33 0 4 = gI m3 33 0 4 := by rw [gI_sI, if_neg (fun q => absurd q.2.2 (by decide)), e33]
      have f5 : gI (sI m4 33 0 5 (gI m4 33 0 5 - 1)) 33 0 5 = gI m3 33 0 5 - 1 := by rw [gI_sI, if_pos ⟨rfl, rfl, rfl⟩, e33]
      suffices G : lx_W (AT (bS s) l 6 g q T) n l g T.length p s m (sI m4 33 0 5 (gI m4 33 0 5 - 1)) from h _ G
      refine ⟨c3 + 1, q3, lr_rd S4 r5, f3, by omega, by omega, by omega, (lk_tr (lk_tr (lk_tr (lk_rd r2) t6) (lk_put (by omega) P4)) (lk_rd r5)), ?_⟩
      rw [f4, f5]
      rcases t7 with ⟨u1, u2, u3, T', uT, uC, u4⟩ | ⟨u1, w, u2, u3⟩
      · subst uT
        exact Or.inl ⟨u1, u2, g_sub hg u3, T' ++ [(9, 0)], len_1, cont_rd r5 (cont_put P4 uC), ta_not e (lt6 g6) u4⟩
      · exact Or.inr ⟨by omega, w, u2, u3⟩
    · refine And.intro (fun w => absurd (w2.symm.trans w) (nI_ne1 (by omega))) (fun _ => h m2 ?_)
      exact lW_no hm0 r2 a2 (by omega) (by omega) (by omega) w2
  · have e : tc (bS s) l q = 40 := e
    have hq3 := tc_lt (by decide) e
    refine h_opensF k3 (by omega) d1 w1 fun m2 r2 a2 b2 w2 => And.intro rfl ?_
    have r2 := rd_tr hr r2
    rcases w2 with ⟨w2, g6⟩ | ⟨w2, g6⟩
    · have hg6 := lt6 g6
      refine And.intro (fun _ => ?_) (fun w => absurd w2 w)
      refine hC hg6 T (q + 1) m2 _ ⟨⟨lr_rd S0 r2, a2, by omega, by omega, w2, b2⟩, cont_rd r2 C0⟩ fun m3 hm3 => And.intro rfl ?_
      obtain ⟨c3, q3, t1, t2, t3, t4, t5, t6, t7⟩ := hm3
      have hq4 : q3 ≤ 1000 := by
        rcases t7 with ⟨_, u2, _⟩ | ⟨u2, _⟩ <;> omega
      refine h_closesF (lr_l t1 hl) hl2 t2 hq4 fun m4 q4 r4 a4 b4 w4 => And.intro rfl (h m4 ?_)
      rw [bS_lr t1] at w4
      have e38 : lk n m m4 := (lk_tr (lk_tr (lk_rd r2) t6) (lk_rd r4))
      have s1 : q3 ≤ sk (bS s) l q3 := sk_ge q3
      have s2 : sk (bS s) l q3 ≤ max q3 l := sk_le q3
      rcases t7 with ⟨u1, u2, u3, T', uT, uC, u4⟩ | ⟨u1, w, u2, u3⟩
      · have hd4 : gI m4 33 0 5 = nI g := by rw [b4]; exact g_sub hg u3
        rcases w4 with ⟨w4, _⟩ | ⟨_, eq4, w4⟩
        · exact absurd u1 w4
        · rw [← eq4] at u4 s1 s2
          refine ⟨c3, q4 + 1, lr_rd t1 r4, a4, t3, by omega, by omega, e38, ?_⟩
          rcases w4 with ⟨e93, w4⟩ | ⟨e93, w4⟩
          · have := tc_lt (by decide) e93
            exact Or.inl ⟨w4, by omega, hd4, T', uT, cont_rd r4 uC, ta_rnd e hg6 u4 e93⟩
          · exact Or.inr ⟨by omega, q4, by omega, w4⟩
      · rcases w4 with ⟨_, w4, eq4⟩ | ⟨w4, _⟩
        · exact ⟨c3, q4 + 1, lr_rd t1 r4, a4, t3, by omega, by omega, e38, Or.inr ⟨by omega, w, u2, by rw [w4, u3]⟩⟩
        · exact absurd (u3.symm.trans w4) (nI_ne1 (by omega))
    · refine And.intro (fun w => absurd (w2.symm.trans w) (nI_ne1 (by omega))) (fun _ => h m2 ?_)
      exact lW_no hm0 r2 a2 (by omega) (by omega) (by omega) w2
  · have ne : ¬ tc (bS s) l q = 33 := ne
    have ne2 : ¬ tc (bS s) l q = 40 := ne2
    have P1 : lx_T n l g T q s m1 := ⟨⟨lr_rd S0 hr, k3, by omega, by omega, w1, d1⟩, cont_rd hr C0⟩
    refine hS5 T q m1 _ P1 fun m3 hm3 => And.intro rfl ?_
    rw [sk3] at hm3
    refine And.intro (fun w => ?_) (fun w => h m3 (lW_back hr sk1 (lW_bad hm3 w)))
    obtain ⟨T1, q1, P3, hq1, hT, K⟩ := lW_app (by omega) hm3 w
    exact h_compareV hn hn2 hg hl hl2 hS4 T1 q1 m3 _ P3 fun m4 hm4 => And.intro rfl (h m4 (lW_back hr sk1 (K _ m4 (lW_mono (fun z U hU => ta_unit ne ne2 hT hU) hm4))))
theorem h_unitGV (hn : n ≤ 6) (hn2 : xI s 33 13 ≤ (n : Int)) (hl : gI s 33 0 2 = nI l) (hl2 : l ≤ 200) : ∀ k g, g + k = 6 → ∀ d, rdV (AT (bS s) l 6 g) n l g s 218 (d + (4 * k + 6) + 3) := by
  intro k
  induction k with
  | zero =>
    intro g hg d T p m R hm h
    have S5 : rdV (AT (bS s) l 3 g) n l g s 215 (d + 3 + 5) := h_sumGV hn hn2 hl hl2 0 g hg (d + 1)
    have S4 : rdV (AT (bS s) l 3 g) n l g s 215 (d + 3 + 4) := h_sumGV hn hn2 hl hl2 0 g hg d
    exact h_unitV (d := d + 3) hn hn2 (by omega) hl hl2 S5 S4 (fun q => absurd q (by omega)) (fun q => absurd q (by omega)) hm h
  | succ k ih =>
    intro g hg d T p m R hm h
    have S5 : rdV (AT (bS s) l 3 g) n l g s 215 (d + (4 * k + 7) + 5) := by
      rw [show d + (4 * k + 7) + 5 = (d + k + 2) + 3 * (k + 1) + 7 by omega]
      exact h_sumGV hn hn2 hl hl2 (k + 1) g hg (d + k + 2)
    have S4 : rdV (AT (bS s) l 3 g) n l g s 215 (d + (4 * k + 7) + 4) := by
      rw [show d + (4 * k + 7) + 4 = (d + k + 1) + 3 * (k + 1) + 7 by omega]
      exact h_sumGV hn hn2 hl hl2 (k + 1) g hg (d + k + 1)
    have U : ∀ d, rdV (AT (bS s) l 6 (g + 1)) n l (g + 1) s 218 (d + (4 * k + 6) + 3) := ih (g + 1) (by omega)
    have U5 : rdV (AT (bS s) l 6 (g + 1)) n l (g + 1) s 218 (d + (4 * k + 7) + 5) := by
      rw [show d + (4 * k + 7) + 5 = (d + 3) + (4 * k + 6) + 3 by omega]
      exact U (d + 3)
    have C5 : rdV (AT (bS s) l 9 (g + 1)) n l (g + 1) s 221 (d + (4 * k + 7) + 5) := by
      rw [show d + (4 * k + 7) + 5 = d + (4 * k + 6) + 6 by omega]
      exact h_condV hn hn2 hl hl2 U d
    rw [show d + (4 * (k + 1) + 6) + 3 = d + (4 * k + 7) + 6 by omega]
    exact h_unitV (d := d + (4 * k + 7)) hn hn2 (by omega) hl hl2 S5 S4 (fun _ => U5) (fun _ => C5) hm h
end CV4
/-! THE REFERENCE'S CLAUSE AND READLAW leave what CT, LR say. -/
/-- a clause: its test, its sum -/
abbrev Cz : Type := List Tk × List Tk
def CT (b : Nat → Int32) (l p q : Nat) (t u : List Tk) : Prop := tc b l p = 121 ∧ tc b l (sk b l (p + 1)) = 58 ∧ ∃ z, z = sk b l (sk b l (p + 1) + 1) ∧
  (((tc b l z = 33 ∨ tc b l z = 40) ∧ ∃ q1, PT b l 9 0 z q1 t ∧ tc b l q1 = 63 ∧ PT b l 3 0 (sk b l (q1 + 1)) q u)
  ∨ (¬ (tc b l z = 33 ∨ tc b l z = 40) ∧ ∃ q0 ta, PT b l 3 0 z q0 ta ∧ ((sgB (tc b l q0) = false ∧ t = [] ∧ u = ta ∧ q = q0)
    ∨ (sgB (tc b l q0) = true ∧ ∃ q1 tb q2 td q3 te, PT b l 5 0 q0 q1 tb ∧ PT b l 7 0 q1 q2 td ∧ PT b l 8 0 q2 q3 te ∧ t = ta ++ (tb ++ (td ++ te)) ∧ tc b l q3 = 63 ∧ PT b l 3 0 (sk b l (q3 + 1)) q u))))
section CT0
variable {b : Nat → Int32} {l p q q2 : Nat} {t u t2 u2 : List Tk}
theorem CT_det (h1 : CT b l p q t u) (h2 : CT b l p q2 t2 u2) : q = q2 ∧ t = t2 ∧ u = u2 := by
  obtain ⟨_, _, z, rfl, h1⟩ := h1
  obtain ⟨_, _, z2, rfl, h2⟩ := h2
  rcases h1 with ⟨_, q1, a1, _, a3⟩ | ⟨n1, q1, ta, a1, h1⟩
  · rcases h2 with ⟨_, q1', b1, _, b3⟩ | ⟨n2, _⟩
    · obtain ⟨e1, e2⟩ := PT_det a1 b1
      subst e1 e2
      obtain ⟨e1, e2⟩ := PT_det a3 b3
      exact ⟨e1, rfl, e2⟩
    · exact absurd (by assumption) n2
  · rcases h2 with ⟨n2, _⟩ | ⟨_, q1', ta', b1, h2⟩
    · exact absurd n2 n1
    · obtain ⟨e1, e2⟩ := PT_det a1 b1
      subst e1 e2
      rcases h1 with ⟨s1, rfl, rfl, rfl⟩ | ⟨s1, x1, tb, x2, td, x3, te, a2, a3, a4, rfl, _, a6⟩
      · rcases h2 with ⟨_, rfl, rfl, rfl⟩ | ⟨s2, _⟩
        · exact ⟨rfl, rfl, rfl⟩
        · rw [s1] at s2
          exact absurd s2 (by decide)
      · rcases h2 with ⟨s2, _⟩ | ⟨_, y1, tb', y2, td', y3, te', b2, b3, b4, rfl, _, b6⟩
        · rw [s1] at s2
          exact absurd s2 (by decide)
        · obtain ⟨e1, e2⟩ := PT_det a2 b2
          subst e1 e2
          obtain ⟨e1, e2⟩ := PT_det a3 b3
          subst e1 e2
          obtain ⟨e1, e2⟩ := PT_det a4 b4
          subst e1 e2
          obtain ⟨e1, e2⟩ := PT_det a6 b6
          exact ⟨e1, rfl, e2⟩
end CT0
/-- clauses read from p up to q -/
def LR (b : Nat → Int32) (l : Nat) : Nat → List Cz → Nat → Prop
  | _, [], _ => False
  | p, x :: r, q => ∃ q1, CT b l p q1 x.1 x.2 ∧ ((r = [] ∧ q = q1) ∨ (tc b l q1 = 59 ∧ LR b l (sk b l (q1 + 1)) r q))
section LR0
variable {b : Nat → Int32} {l : Nat}
theorem LR_1 {p q : Nat} {t u : List Tk} (h : CT b l p q t u) : LR b l p [(t, u)] q := ⟨q, h, Or.inl ⟨rfl, rfl⟩⟩
theorem LR_app {q q2 : Nat} {t u : List Tk} (e : tc b l q = 59) (h2 : CT b l (sk b l (q + 1)) q2 t u) : ∀ r p, LR b l p r q → LR b l p (r ++ [(t, u)]) q2
  | [], _, h => h.elim
  | x :: r, p, h => by
    obtain ⟨q1, h1, h⟩ := h
    rcases h with ⟨rfl, rfl⟩ | ⟨e1, h⟩
    · exact ⟨_, h1, Or.inr ⟨e, LR_1 h2⟩⟩
    · exact ⟨_, h1, Or.inr ⟨e1, LR_app e h2 r _ h⟩⟩
theorem LR_det {q q2 : Nat} (n1 : tc b l q ≠ 59) (n2 : tc b l q2 ≠ 59) : ∀ r r2 p, LR b l p r q → LR b l p r2 q2 → r = r2
  | [], _, _, h, _ => h.elim
  | _ :: _, [], _, _, h => h.elim
  | (t, u) :: r, (t2, u2) :: r2, p, h, k => by
    obtain ⟨q1, h1, h⟩ := h
    obtain ⟨q1', k1, k⟩ := k
    obtain ⟨e1, e2, e3⟩ := CT_det h1 k1
    have e2 : t = t2 := e2
    have e3 : u = u2 := e3
    subst e1 e2 e3
    rcases h with ⟨rfl, rfl⟩ | ⟨c1, h⟩
    · rcases k with ⟨rfl, rfl⟩ | ⟨c2, _⟩
      · rfl
      · exact absurd c2 n1
    · rcases k with ⟨rfl, rfl⟩ | ⟨_, k⟩
      · exact absurd c1 n2
      · rw [LR_det n1 n2 r r2 _ h k]
end LR0
/-- what a clause keeps -/
def ck (n j : Nat) (m m' : LMem) : Prop := ∀ k i x, ¬ (i = 0 ∧ ((k = 33 ∧ (x = 3 ∨ x = 4 ∨ x = 5)) ∨ ((k = 35 ∨ k = 36) ∧ 260 * n ≤ x ∧ x < 260 * n + 260) ∨ ((k = 37 ∨ k = 38) ∧ x = n) ∨ (39 ≤ k ∧ k ≤ 41 ∧ x = 60 * n + j))) → gI m' k i x = gI m k i x
section CK
variable {n j : Nat} {a b c : LMem}
theorem ck_tr (h : ck n j a b) (h2 : ck n j b c) : ck n j a c := fun k i x g => (h2 k i x g).trans (h k i x g)
theorem ck_0 : ck n j a a := fun _ _ _ _ => rfl
theorem ck_lk (h : lk n a b) : ck n j a b := fun k i x g => h k i x (fun q => g ⟨q.1, by omega⟩)
theorem ck_rd (h : rd_S a b) : ck n j a b := ck_lk (lk_rd h)
theorem ck_s {k x : Nat} {v : Int32} (hk : (k = 38 ∧ x = n) ∨ (39 ≤ k ∧ k ≤ 41 ∧ x = 60 * n + j)) : ck n j a (sI a k 0 x v) := fun k' i x' g => by
  rw [gI_sI, if_neg (fun q => g ⟨q.2.1, by omega⟩)]
end CK
def cl_V (Φ : Nat → List Tk → List Tk → Prop) (n l j : Nat) (T : List Tk) (s m m' : LMem) : Prop := y_J x_X m' ∧ y_Fr lr_W s m' ∧ ck n j m m' ∧ ((∃ q t u, lx_T n l 0 (T ++ t ++ u) q s m' ∧ gI m' 38 0 n = nI (j + 1) ∧ (gI m' 39 0 (60 * n + j) = nI T.length ∧ gI m' 40 0 (60 * n + j) = nI (T ++ t).length ∧ gI m' 41 0 (60 * n + j) = nI (T ++ t ++ u).length) ∧ Φ (sk (bS s) l q) t u) ∨ ∃ w, w ≤ 1000 ∧ gI m' 33 0 4 = nI w)
section CL5
variable {l n : Nat} {T : List Tk} {s m0 : LMem} {Ψ : Nat → List Tk → Prop} {Φ : Nat → List Tk → List Tk → Prop}
theorem cv_250 {d bc bs j c1 q : Nat} {o : Option LV} {t u : List Tk} {m M : LMem} {Q : LPost} (hn : n ≤ 6) (hn2 : xI s 33 13 ≤ (n : Int)) (hj : j ≤ 59) (hc1 : c1 < 260) (eM : M = m) (S : lr_S n s m c1) (B : gI m 38 0 n = nI j) (KM : ck n j m0 m) (W : (gI m 33 0 4 = -1 ∧ gI m 33 0 3 = nI q ∧ q ≤ l ∧ gI m 33 0 5 = nI 0 ∧ c1 ≤ q ∧ (T ++ t ++ u).length = c1 ∧ cont n m (T ++ t ++ u) ∧ gI m 39 0 (60 * n + j) = nI T.length ∧ gI m 40 0 (60 * n + j) = nI (T ++ t).length ∧ Φ (sk (bS s) l q) t u) ∨ ∃ w, w ≤ 1000 ∧ gI m 33 0 4 = nI w) (h : ∀ m', cl_V Φ n l j T s m0 m' → Q none m') : qW false d 222 bc bs 250 [some (lR 33 (some 0)), some (lI (nI (60 * n + j))), o] [] M Q := by
  subst eM
  have S0 := S
  obtain ⟨J, F, h14, h37⟩ := S
  have e13 : xI M 33 13 = xI s 33 13 := by
    unfold xI
    rw [(F 33 0 13 (x_nW 13 13 (by decide) (by decide) (by decide))).1]
  have en : (nI n).toNatClampNeg = n := nI_clamp (by omega)
  have ek : (nI (60 * n + j)).toNatClampNeg = 60 * n + j := nI_clamp (by omega)
  have v7 : qa_vin (gI M 33 0 14) 7 := by rw [h14]; exact nI_in (by omega) (by decide)
  have vk : qa_vin (nI (60 * n + j)) 420 := nI_in (by omega) (by decide)
  have S1 : lr_S n s (sI M 41 0 (60 * n + j) (nI c1)) c1 := lr_c hn hn2 hj (Or.inr (Or.inr rfl)) S0
  have J2 : y_J x_X (sI (sI M 41 0 (60 * n + j) (nI c1)) 38 0 n (nI (j + 1))) := by
    refine lr_J (n := n) S1.1 ?_ (Or.inr (Or.inr (Or.inl ⟨rfl, rfl⟩)))
    unfold xI
    rw [gI_sI, if_neg (fun q => absurd q.1 (by decide))]
    unfold xI at e13 hn2
    rw [e13]
    exact hn2
  have F2 : y_Fr lr_W s (sI (sI M 41 0 (60 * n + j) (nI c1)) 38 0 n (nI (j + 1))) := y_Fr_sI S1.2.1 ⟨(38, 0, 0, 0, 6), by decide, rfl, ⟨Int.le_refl _, Int.le_refl _⟩, by show (0 : Int) ≤ (n : Int); omega, by show (n : Int) ≤ 6; omega⟩
  have g : ∀ k' j', ¬ (k' = 41) → ¬ (k' = 38) → gI (sI (sI M 41 0 (60 * n + j) (nI c1)) 38 0 n (nI (j + 1))) k' 0 j' = gI M k' 0 j' := fun k' j' g1 g2 => by
    rw [gI_sI, if_neg (fun q => g2 q.1), gI_sI, if_neg (fun q => g1 q.1)]
  have fin : Q none (sI (sI M 41 0 (60 * n + j) (nI c1)) 38 0 n (nI (j + 1))) := by
    refine h _ ⟨J2, F2, ck_tr KM (ck_tr (ck_s (Or.inr ⟨by decide, by decide, rfl⟩)) (ck_s (Or.inl ⟨rfl, rfl⟩))), ?_⟩
    rcases W with ⟨w1, w2, w3, w4, w5, wl, wc, x9, x0, w6⟩ | ⟨w, w1, w2⟩
    · subst wl
      refine Or.inl ⟨q, t, u, ⟨⟨⟨J2, F2, ?_, ?_⟩, ?_, w3, w5, ?_, ?_⟩, cont_eq (fun k j' hk => g k j' (by omega) (by omega)) wc⟩, by rw [gI_sI, if_pos ⟨rfl, rfl, rfl⟩], ⟨?_, ?_, ?_⟩, w6⟩
      · rw [g 33 14 (by decide) (by decide), h14]
      · rw [g 37 n (by decide) (by decide), h37]
      · rw [g 33 3 (by decide) (by decide), w2]
      · rw [g 33 4 (by decide) (by decide), w1]
      · rw [g 33 5 (by decide) (by decide), w4]
      · rw [g 39 _ (by decide) (by decide), x9]
      · rw [g 40 _ (by decide) (by decide), x0]
      · rw [gI_sI, if_neg (fun q => absurd q.1 (by decide)), gI_sI, if_pos ⟨rfl, rfl, rfl⟩]
    · exact Or.inr ⟨w, w1, by rw [g 33 4 (by decide) (by decide), w2]⟩
  have a1 : sI M 41 0 (nI (60 * n + j)).toNatClampNeg (gI M 37 0 (gI M 33 0 14).toNatClampNeg) = sI M 41 0 (60 * n + j) (nI c1) := by rw [h14, en, h37, ek]
  have b14 : gI (sI M 41 0 (60 * n + j) (nI c1)) 33 0 14 = nI n := S1.2.2.1
  have b38 : gI (sI M 41 0 (60 * n + j) (nI c1)) 38 0 n = nI j := by rw [gI_sI, if_neg (fun q => absurd q.1 (by decide)), B]
  have v7b : qa_vin (gI (sI M 41 0 (60 * n + j) (nI c1)) 33 0 14) 7 := by rw [b14]; exact nI_in (by omega) (by decide)
  have fin2 : Q none (sI (sI M 41 0 (60 * n + j) (nI c1)) 38 0 (gI (sI M 41 0 (60 * n + j) (nI c1)) 33 0 14).toNatClampNeg (gI (sI M 41 0 (60 * n + j) (nI c1)) 38 0 (gI (sI M 41 0 (60 * n + j) (nI c1)) 33 0 14).toNatClampNeg + 1)) := by
    rw [b14, en, b38, nI_1]
    exact fin
  rw [← a1] at v7b fin2
  refine qa_t1_W (cut := []) 60 ?_
  exact And.intro v7 (And.intro vk (And.intro v7b (And.intro v7b fin2)))
theorem cv_246 {d bc bs j q : Nat} {o : Option LV} {t : List Tk} {m M : LMem} {Q : LPost} (hn : n ≤ 6) (hn2 : xI s 33 13 ≤ (n : Int)) (hj : j ≤ 59) (hl2 : l ≤ 200) (RS : rdV (AT (bS s) l 3 0) n l 0 s 215 d) (eM : M = m) (P : lx_T n l 0 (T ++ t) q s m) (B : gI m 38 0 n = nI j) (KM : ck n j m0 m) (x9 : gI m 39 0 (60 * n + j) = nI T.length) (x0 : gI m 40 0 (60 * n + j) = nI (T ++ t).length) (K : ∀ z u, PT (bS s) l 3 0 (sk (bS s) l q) z u → Φ z t u) (h : ∀ m', cl_V Φ n l j T s m0 m' → Q none m') : qW false d 222 bc bs 246 [some (lR 33 (some 0)), some (lI (nI (60 * n + j))), o] [] M Q := by
  subst eM
  refine qa_t1_W (cut := [250]) 20 ?_
  have hcq := P.1.2.2.2.1
  refine RS (T ++ t) q M _ P fun m6 hm6 => And.intro rfl ?_
  obtain ⟨c2, q2, t1, t2, t3, t4, t5, t6, t7⟩ := hm6
  have hc2 : c2 < 260 := by
    rcases t7 with ⟨_, u2, _⟩ | ⟨u2, _⟩ <;> omega
  have B2 := (lk_38 t6).trans B
  have KM2 := ck_tr KM (ck_lk t6)
  have y9 := (t6 39 0 (60 * n + j) (fun q => by omega)).trans x9
  have y0 := (t6 40 0 (60 * n + j) (fun q => by omega)).trans x0
  rcases t7 with ⟨u1, u2, u3, T', uT, uC, ts, eU, hP⟩ | ⟨u1, w, u2, u3⟩
  · subst eU
    exact cv_250 (c1 := c2) (q := q2) hn hn2 hj hc2 rfl t1 B2 KM2 (Or.inl ⟨u1, t2, u2, u3, by omega, uT, uC, y9, y0, K _ _ hP⟩) h
  · exact cv_250 (T := T) (t := []) (u := []) (Φ := Φ) (c1 := c2) (q := q2) hn hn2 hj hc2 rfl t1 B2 KM2 (Or.inr ⟨w, u2, u3⟩) h
theorem cv_195 {d bc bs j p1 : Nat} {t v : Int32} {mb m M : LMem} {Q : LPost} (hn : n ≤ 6) (hn2 : xI s 33 13 ≤ (n : Int)) (hj : j ≤ 59) (hl : gI s 33 0 2 = nI l) (hl2 : l ≤ 200) (RS : rdV (AT (bS s) l 3 0) n l 0 s 215 (d + 3)) (ht : t = 0 ∨ t = 1) (eM : M = sI m 40 0 (60 * n + j) v) (G : lx_W Ψ n l 0 T.length p1 s mb m) (B : gI mb 38 0 n = nI j) (KM : ck n j m0 mb) (x9 : gI mb 39 0 (60 * n + j) = nI T.length) (hv : v = gI m 39 0 (60 * n + j)) (hcp : T.length ≤ p1) (hp1 : p1 ≤ 210) (K1 : t = 1 → ∀ q U, Ψ q U → ∃ tt, U = T ++ tt ∧ (tc (bS s) l q = 63 → ∀ z u, PT (bS s) l 3 0 (sk (bS s) l (q + 1)) z u → Φ z tt u)) (K0 : t = 0 → ∀ q U, Ψ q U → ∃ uu, U = T ++ uu ∧ Φ q [] uu) (h : ∀ m', cl_V Φ n l j T s m0 m' → Q none m') : qW false (d + 3) 222 bc bs 195 [some (lR 33 (some 0)), some (lI (nI (60 * n + j))), some (lI t)] [] M Q := by
  have en : (nI n).toNatClampNeg = n := nI_clamp (by omega)
  have ek : (nI (60 * n + j)).toNatClampNeg = 60 * n + j := nI_clamp (by omega)
  have vk : qa_vin (nI (60 * n + j)) 420 := nI_in (by omega) (by decide)
  obtain ⟨c1, q1, t1, t2, t3, t4, t5, t6, t7⟩ := G
  have hc1 : c1 < 260 := by
    rcases t7 with ⟨_, u2, _⟩ | ⟨u2, _⟩ <;> omega
  have hv : v = nI T.length := hv.trans ((t6 39 0 (60 * n + j) (fun q => by omega)).trans x9)
  have S1 : lr_S n s M c1 := by
    rw [eM]
    exact lr_c hn hn2 hj (Or.inr (Or.inl rfl)) t1
  have g : ∀ k' j', ¬ (k' = 40) → gI M k' 0 j' = gI m k' 0 j' := fun k' j' g1 => by
    rw [eM, gI_sI, if_neg (fun q => g1 q.1)]
  have B1 : gI M 38 0 n = nI j := by rw [g 38 _ (by decide), lk_38 t6, B]
  have KM1 : ck n j m0 M := by
    rw [eM]
    exact ck_tr KM (ck_tr (ck_lk t6) (ck_s (Or.inr ⟨by decide, by decide, rfl⟩)))
  have y9 : gI M 39 0 (60 * n + j) = nI T.length := by rw [g 39 _ (by decide), t6 39 0 (60 * n + j) (fun q => by omega), x9]
  have y0 : gI M 40 0 (60 * n + j) = nI T.length := by rw [eM, gI_sI, if_pos ⟨rfl, rfl, rfl⟩, hv]
  have e4 : gI M 33 0 4 = gI m 33 0 4 := g 33 4 (by decide)
  have e3 : gI M 33 0 3 = nI q1 := by rw [g 33 3 (by decide), t2]
  have e5 : gI M 33 0 5 = gI m 33 0 5 := g 33 5 (by decide)
  have bad : ∀ o, gI m 33 0 4 ≠ -1 → qW false (d + 3) 222 bc bs 250 [some (lR 33 (some 0)), some (lI (nI (60 * n + j))), o] [] M Q := fun o w => by
    refine cv_250 (t := []) (u := []) (c1 := c1) (q := q1) hn hn2 hj hc1 rfl S1 B1 KM1 ?_ h
    rcases t7 with ⟨u1, _⟩ | ⟨u1, w', u2, u3⟩
    · exact absurd u1 w
    · exact Or.inr ⟨w', u2, by rw [e4, u3]⟩
  rcases ht with rfl | rfl
  · refine qa_t1_W (cut := [250]) 20 ?_
    refine And.intro (fun _ => ?_) (fun q => absurd rfl q)
    by_cases w : gI m 33 0 4 = -1
    · rcases t7 with ⟨u1, u2, u3, T', uT, uC, uP⟩ | ⟨u1, w', u2, u3⟩
      · obtain ⟨uu, eU, hP⟩ := K0 rfl _ _ uP
        subst eU
        have C1 : cont n M (T ++ uu) := cont_eq (fun k j' hk => g k j' (by omega)) uC
        exact cv_250 (t := []) (u := uu) (c1 := c1) (q := q1) hn hn2 hj hc1 rfl S1 B1 KM1 (Or.inl ⟨by rw [e4, u1], e3, u2, by rw [e5, u3], by omega, by rw [List.append_nil]; exact uT, by rw [List.append_nil]; exact C1, y9, by rw [List.append_nil]; exact y0, hP⟩) h
      · exact absurd (u3.symm.trans w) (nI_ne1 (by omega))
    · exact bad _ w
  · refine qa_t1_W (cut := [246, 250]) 60 ?_
    refine And.intro (fun q => absurd q (by decide)) (fun _ => ?_)
    refine And.intro (fun w => ?_) (fun w => bad _ (fun c => w (e4.trans c)))
    have w : gI M 33 0 4 = -1 := w
    rcases t7 with ⟨u1, u2, u3, T', uT, uC, uP⟩ | ⟨u1, w', u2, u3⟩
    · obtain ⟨tt, eU, hK⟩ := K1 rfl _ _ uP
      subst eU
      have C1 : cont n M (T ++ tt) := cont_eq (fun k j' hk => g k j' (by omega)) uC
      have sk1 : q1 ≤ sk (bS s) l q1 := sk_ge q1
      have sk2 : sk (bS s) l q1 ≤ max q1 l := sk_le q1
      refine h_lookT hl hl2 S1 e3 (by omega) fun m3 hr k4 k5 k3 => Exists.intro _ (And.intro rfl ?_)
      generalize hq : sk (bS s) l q1 = q at *
      refine And.intro (fun e => ?_) (fun ne => ?_)
      · have e : tc (bS s) l q = 63 := e
        have hq3 := tc_lt (by decide) e
        have r4 := rd_tr hr (rd_s (s := m3) (v := gI m3 33 0 3 + 1) (Or.inl rfl : (3 : Nat) = 3 ∨ (3 : Nat) = 4 ∨ (3 : Nat) = 5) rd_0)
        have S4 := lr_rd S1 r4
        have v7 : qa_vin (gI (sI m3 33 0 3 (gI m3 33 0 3 + 1)) 33 0 14) 7 := by rw [S4.2.2.1]; exact nI_in (by omega) (by decide)
        have a5 : sI (sI m3 33 0 3 (gI m3 33 0 3 + 1)) 40 0 (nI (60 * n + j)).toNatClampNeg (gI (sI m3 33 0 3 (gI m3 33 0 3 + 1)) 37 0 (gI (sI m3 33 0 3 (gI m3 33 0 3 + 1)) 33 0 14).toNatClampNeg) = sI (sI m3 33 0 3 (gI m3 33 0 3 + 1)) 40 0 (60 * n + j) (nI c1) := by rw [S4.2.2.1, en, S4.2.2.2, ek]
        have g5 : ∀ k' j', ¬ (k' = 40) → gI (sI (sI m3 33 0 3 (gI m3 33 0 3 + 1)) 40 0 (60 * n + j) (nI c1)) k' 0 j' = gI (sI m3 33 0 3 (gI m3 33 0 3 + 1)) k' 0 j' := fun k' j' g1 => by
          rw [gI_sI, if_neg (fun q => g1 q.1)]
        have KM5 : ck n j m0 (sI (sI m3 33 0 3 (gI m3 33 0 3 + 1)) 40 0 (60 * n + j) (nI c1)) := ck_tr KM1 (ck_tr (ck_rd r4) (ck_s (Or.inr ⟨by decide, by decide, rfl⟩)))
        have z9 : gI (sI (sI m3 33 0 3 (gI m3 33 0 3 + 1)) 40 0 (60 * n + j) (nI c1)) 39 0 (60 * n + j) = nI T.length := by rw [g5 39 _ (by decide), r4.1 39 0 _ (fun q => by omega), y9]
        have z0 : gI (sI (sI m3 33 0 3 (gI m3 33 0 3 + 1)) 40 0 (60 * n + j) (nI c1)) 40 0 (60 * n + j) = nI (T ++ tt).length := by rw [gI_sI, if_pos ⟨rfl, rfl, rfl⟩, uT]
        have C5 : cont n (sI (sI m3 33 0 3 (gI m3 33 0 3 + 1)) 40 0 (60 * n + j) (nI c1)) (T ++ tt) := cont_eq (fun k j' hk => g5 k j' (by omega)) (cont_rd r4 C1)
        subst uT
        refine And.intro v7 (And.intro vk ?_)
        refine cv_246 (q := q + 1) (t := tt) hn hn2 hj hl2 RS a5 ⟨⟨lr_c hn hn2 hj (Or.inr (Or.inl rfl)) S4, ?_, by omega, by omega, ?_, ?_⟩, C5⟩ ?_ KM5 z9 z0 (hK e) h
        · rw [g5 33 3 (by decide), gI_sI, if_pos ⟨rfl, rfl, rfl⟩, k3, nI_1]
        · rw [g5 33 4 (by decide), gI_sI, if_neg (fun q => absurd q.2.2 (by decide)), k4, w]
        · rw [g5 33 5 (by decide), gI_sI, if_neg (fun q => absurd q.2.2 (by decide)), k5, e5, u3]
        · rw [g5 38 _ (by decide), r4.1 38 0 _ (fun q => by omega), B1]
      · have fin : Q none (sI m3 33 0 4 (nI q)) := by
          have r4 := rd_tr hr (rd_s (s := m3) (v := nI q) (Or.inr (Or.inl rfl) : (4 : Nat) = 3 ∨ (4 : Nat) = 4 ∨ (4 : Nat) = 5) rd_0)
          exact h _ ⟨(lr_rd S1 r4).1, (lr_rd S1 r4).2.1, ck_tr KM1 (ck_rd r4), Or.inr ⟨q, by omega, by rw [gI_sI, if_pos ⟨rfl, rfl, rfl⟩]⟩⟩
        exact h_bad k3 (fun _ => And.intro rfl fin) (fun w2 => absurd (by rw [k4, w]) w2)
    · exact absurd (u3.symm.trans (e4.symm.trans w)) (nI_ne1 (by omega))
theorem cv_183 {d bc bs j p1 : Nat} {t : Int32} {mb m : LMem} {Q : LPost} (hn : n ≤ 6) (hn2 : xI s 33 13 ≤ (n : Int)) (hj : j ≤ 59) (hl : gI s 33 0 2 = nI l) (hl2 : l ≤ 200) (RS : rdV (AT (bS s) l 3 0) n l 0 s 215 (d + 3)) (ht : t = 0 ∨ t = 1) (G : lx_W Ψ n l 0 T.length p1 s mb m) (B : gI mb 38 0 n = nI j) (KM : ck n j m0 mb) (x9 : gI mb 39 0 (60 * n + j) = nI T.length) (hcp : T.length ≤ p1) (hp1 : p1 ≤ 210) (K1 : t = 1 → ∀ q U, Ψ q U → ∃ tt, U = T ++ tt ∧ (tc (bS s) l q = 63 → ∀ z u, PT (bS s) l 3 0 (sk (bS s) l (q + 1)) z u → Φ z tt u)) (K0 : t = 0 → ∀ q U, Ψ q U → ∃ uu, U = T ++ uu ∧ Φ q [] uu) (h : ∀ m', cl_V Φ n l j T s m0 m' → Q none m') : qW false (d + 3) 222 bc bs 183 [some (lR 33 (some 0)), some (lI (nI (60 * n + j))), some (lI t)] [] m Q := by
  have vk : qa_vin (nI (60 * n + j)) 420 := nI_in (by omega) (by decide)
  have ek : (nI (60 * n + j)).toNatClampNeg = 60 * n + j := nI_clamp (by omega)
  have a1 : sI m 40 0 (nI (60 * n + j)).toNatClampNeg (gI m 39 0 (nI (60 * n + j)).toNatClampNeg) = sI m 40 0 (60 * n + j) (gI m 39 0 (60 * n + j)) := by rw [ek]
  refine qa_t1_W (cut := [195]) 20 ?_
  exact And.intro vk (And.intro vk (cv_195 hn hn2 hj hl hl2 RS ht a1 G B KM x9 rfl hcp hp1 K1 K0 h))
theorem cv_104 {d bc bs j p1 : Nat} {m M : LMem} {Q : LPost} (hn : n ≤ 6) (hn2 : xI s 33 13 ≤ (n : Int)) (hj : j ≤ 59) (hl : gI s 33 0 2 = nI l) (hl2 : l ≤ 200) (RS : rdV (AT (bS s) l 3 0) n l 0 s 215 (d + 5)) (RS4 : rdV (AT (bS s) l 3 0) n l 0 s 215 (d + 4)) (RC : rdV (AT (bS s) l 9 0) n l 0 s 221 (d + 5)) (RA : rdV (AT (bS s) l 7 0) n l 0 s 219 (d + 5)) (RO : rdV (AT (bS s) l 8 0) n l 0 s 220 (d + 5)) (eM : M = m) (P : lx_T n l 0 T p1 s m) (B : gI m 38 0 n = nI j) (KM : ck n j m0 m) (x9 : gI m 39 0 (60 * n + j) = nI T.length) (Kc : (tc (bS s) l (sk (bS s) l p1) = 33 ∨ tc (bS s) l (sk (bS s) l p1) = 40) → ∀ q1 t, PT (bS s) l 9 0 (sk (bS s) l p1) q1 t → tc (bS s) l q1 = 63 → ∀ q u, PT (bS s) l 3 0 (sk (bS s) l (q1 + 1)) q u → Φ q t u) (Ks : ¬ (tc (bS s) l (sk (bS s) l p1) = 33 ∨ tc (bS s) l (sk (bS s) l p1) = 40) → ∀ q0 ta, PT (bS s) l 3 0 (sk (bS s) l p1) q0 ta → (sgB (tc (bS s) l q0) = false → Φ q0 [] ta) ∧ (sgB (tc (bS s) l q0) = true → ∀ q1 tb q2 td q3 te, PT (bS s) l 5 0 q0 q1 tb → PT (bS s) l 7 0 q1 q2 td → PT (bS s) l 8 0 q2 q3 te → tc (bS s) l q3 = 63 → ∀ q u, PT (bS s) l 3 0 (sk (bS s) l (q3 + 1)) q u → Φ q (ta ++ (tb ++ (td ++ te))) u)) (h : ∀ m', cl_V Φ n l j T s m0 m' → Q none m') : qW false (d + 5) 222 bc bs 104 [some (lR 33 (some 0)), some (lI (nI (60 * n + j))), none] [] M Q := by
  subst eM
  obtain ⟨⟨S0, h3, hpl, hcp, h4, h5⟩, C0⟩ := P
  have RS3 : rdV (AT (bS s) l 3 0) n l 0 s 215 (d + 2 + 3) := RS
  have sk1 : p1 ≤ sk (bS s) l p1 := sk_ge p1
  have sk2 : sk (bS s) l p1 ≤ max p1 l := sk_le p1
  have sk3 : sk (bS s) l (sk (bS s) l p1) = sk (bS s) l p1 := sk_sk p1
  refine qa_t1_W (cut := [183]) 200 ?_
  refine h_lookT hl hl2 S0 h3 (by omega) fun m6 r6 k4 k5 k3 => Exists.intro _ (And.intro rfl ?_)
  generalize hz : sk (bS s) l p1 = z at *
  have cond : ∀ m7, rd_S M m7 → gI m7 33 0 3 = nI z → gI m7 33 0 4 = -1 → gI m7 33 0 5 = nI 0 → (tc (bS s) l z = 33 ∨ tc (bS s) l z = 40) → qC false (d + 5) 221 [lR 33 (some 0)] m7 (fun r m8 => r = none ∧ qW false (d + 5) 222 bc bs 183 [some (lR 33 (some 0)), some (lI (nI (60 * n + j))), some (lI 1)] [] m8 Q) := fun m7 r7 y3 y4 y5 e =>
    RC T z m7 _ ⟨⟨lr_rd S0 r7, y3, by omega, by omega, y4, y5⟩, cont_rd r7 C0⟩ fun m8 hm8 => And.intro rfl (by
      rw [sk3] at hm8
      exact cv_183 (d := d + 2) hn hn2 hj hl hl2 RS3 (Or.inr rfl) hm8 ((r7.1 38 0 _ (fun q => by omega)).trans B) (ck_tr KM (ck_rd r7)) ((r7.1 39 0 _ (fun q => by omega)).trans x9) (by omega) (by omega) (fun _ q U hU => by
        obtain ⟨ts, eU, hP⟩ := hU
        exact ⟨ts, eU, fun e6 z' u hu => Kc e q ts hP e6 z' u hu⟩) (fun q => absurd q (by decide)) h)
  refine And.intro (fun e => ?_) (fun ne => ?_)
  · refine And.intro (fun q => absurd q (by decide)) (fun _ => ?_)
    exact cond m6 r6 k3 (by rw [k4, h4]) (by rw [k5, h5]) (Or.inl e)
  · have ne : ¬ tc (bS s) l z = 33 := ne
    refine h_lookT hl hl2 (lr_rd S0 r6) k3 (by omega) fun m7 r7 z4 z5 z3 => Exists.intro _ (And.intro rfl ?_)
    rw [sk3] at z3 ⊢
    have r7 := rd_tr r6 r7
    have z4 : gI m7 33 0 4 = -1 := by rw [z4, k4, h4]
    have z5 : gI m7 33 0 5 = nI 0 := by rw [z5, k5, h5]
    refine And.intro (fun e => ?_) (fun ne2 => ?_)
    · refine And.intro (fun q => absurd q (by decide)) (fun _ => ?_)
      exact cond m7 r7 z3 z4 z5 (Or.inr e)
    · have ne2 : ¬ tc (bS s) l z = 40 := ne2
      have nn : ¬ (tc (bS s) l z = 33 ∨ tc (bS s) l z = 40) := fun q => by
        rcases q with q | q
        · exact ne q
        · exact ne2 q
      refine And.intro (fun _ => ?_) (fun q => absurd rfl q)
      have B7 : gI m7 38 0 n = nI j := (r7.1 38 0 _ (fun q => by omega)).trans B
      have K7 : ck n j m0 m7 := ck_tr KM (ck_rd r7)
      have n7 : gI m7 39 0 (60 * n + j) = nI T.length := (r7.1 39 0 _ (fun q => by omega)).trans x9
      refine RS T z m7 _ ⟨⟨lr_rd S0 r7, z3, by omega, by omega, z4, z5⟩, cont_rd r7 C0⟩ fun m8 hm8 => And.intro rfl ?_
      rw [sk3] at hm8
      refine And.intro (fun w => ?_) (fun w => And.intro (fun _ => ?_) (fun q => absurd rfl q))
      · have w : gI m8 33 0 4 = -1 := w
        obtain ⟨T1, q1, P8, y1, ⟨ta, ea, y2⟩, K8⟩ := lW_app (by omega) hm8 w
        subst ea
        have P8' := P8
        obtain ⟨⟨S8, x3, xl, xc, x4, x5⟩, C8⟩ := P8
        have v1 : q1 ≤ sk (bS s) l q1 := sk_ge q1
        have v2 : sk (bS s) l q1 ≤ max q1 l := sk_le q1
        have v3 : sk (bS s) l (sk (bS s) l q1) = sk (bS s) l q1 := sk_sk q1
        refine h_lookT hl hl2 S8 x3 (by omega) fun m9 r9 u4 u5 u3 => Exists.intro _ (And.intro rfl ?_)
        generalize hy : sk (bS s) l q1 = y at *
        have u4 : gI m9 33 0 4 = -1 := by rw [u4, x4]
        have u5 : gI m9 33 0 5 = nI 0 := by rw [u5, x5]
        refine h_isSign (fun hs => Exists.intro 1 (And.intro rfl ?_)) (fun hs => Exists.intro 0 (And.intro rfl ?_))
        · refine And.intro (fun q => absurd q (by decide)) (fun _ => ?_)
          refine And.intro (fun q => absurd q (by decide)) (fun _ => ?_)
          have P9 : lx_T n l 0 (T ++ ta) y s m9 := ⟨⟨lr_rd S8 r9, u3, by omega, by omega, u4, u5⟩, cont_rd r9 C8⟩
          refine h_compareV (g := 0) hn hn2 (by decide) hl hl2 RS4 (T ++ ta) y m9 _ P9 fun m10 hm10 => And.intro rfl ?_
          rw [v3] at hm10
          have e183 : ∀ m12, lx_W (fun q3 U => ∃ q1 tb q2 td te, U = T ++ (ta ++ (tb ++ (td ++ te))) ∧ PT (bS s) l 5 0 y q1 tb ∧ PT (bS s) l 7 0 q1 q2 td ∧ PT (bS s) l 8 0 q2 q3 te) n l 0 (T ++ ta).length y s m9 m12 → qW false (d + 5) 222 bc bs 183 [some (lR 33 (some 0)), some (lI (nI (60 * n + j))), some (lI 1)] [] m12 Q := fun m12 hm12 =>
            cv_183 (d := d + 2) hn hn2 hj hl hl2 RS3 (Or.inr rfl) (K8 _ m12 (lW_back r9 v1 hm12)) B7 K7 n7 (by omega) (by omega) (fun _ q3 U hU => by
              obtain ⟨q1, tb, q2, td, te, eU, a5, a7, a8⟩ := hU
              exact ⟨_, eU, fun e6 z' u hu => (Ks nn _ _ y2).2 (sgB_t hs) q1 tb q2 td q3 te a5 a7 a8 e6 z' u hu⟩) (fun q => absurd q (by decide)) h
          by_cases w : gI m10 33 0 4 = -1
          · obtain ⟨T3, q3, P3, _, ⟨tb, eb, hB⟩, K3⟩ := lW_app (by omega) hm10 w
            subst eb
            refine RA _ q3 m10 _ P3 fun m11 hm11 => And.intro rfl ?_
            by_cases w2 : gI m11 33 0 4 = -1
            · obtain ⟨T4, q4, P4, _, ⟨td, ed, hD⟩, K4⟩ := lW_app (by have := P3.1.2.2.2.1; omega) hm11 w2
              subst ed
              refine RO _ q4 m11 _ P4 fun m12 hm12 => And.intro rfl (e183 m12 (K3 _ m12 (K4 _ m12 (lW_mono (fun z' U hU => ?_) hm12))))
              obtain ⟨te, ee, hE⟩ := hU
              exact ⟨_, tb, _, td, te, by rw [ee, List.append_assoc, List.append_assoc, List.append_assoc], hB, hD, hE⟩
            · exact h_or_x w2 (And.intro rfl (e183 m11 (K3 _ m11 (lW_bad hm11 w2))))
          · exact h_and_x w (And.intro rfl (h_or_x w (And.intro rfl (e183 m10 (lW_bad hm10 w)))))
        · refine And.intro (fun _ => ?_) (fun q => absurd rfl q)
          refine And.intro (fun _ => ?_) (fun q => absurd rfl q)
          have G9 : lx_W (fun z' U => z' = y ∧ U = T ++ ta) n l 0 T.length z s m7 m9 := K8 _ m9 (lW_id P8' r9 u3 v1 (by omega) u4 u5 ⟨by rw [v3], rfl⟩)
          exact cv_183 (d := d + 2) hn hn2 hj hl hl2 RS3 (Or.inl rfl) G9 B7 K7 n7 (by omega) (by omega) (fun q => absurd q (by decide)) (fun _ q U hU => by
            obtain ⟨e1, e2⟩ := hU
            subst e1
            exact ⟨ta, e2, (Ks nn _ _ y2).1 (sgB_f hs)⟩) h
      · have w : ¬ gI m8 33 0 4 = -1 := w
        exact cv_183 (Ψ := fun _ _ => False) (d := d + 2) hn hn2 hj hl hl2 RS3 (Or.inl rfl) (lW_bad hm8 w) B7 K7 n7 (by omega) (by omega) (fun q => absurd q (by decide)) (fun _ q U h1 => h1.elim) h
theorem cv_18 {d bc bs j p : Nat} {kk : Int32} {m : LMem} {Q : LPost} (hn : n ≤ 6) (hn2 : xI s 33 13 ≤ (n : Int)) (hj : j ≤ 59) (hl : gI s 33 0 2 = nI l) (hl2 : l ≤ 200) (RS : rdV (AT (bS s) l 3 0) n l 0 s 215 (d + 5)) (RS4 : rdV (AT (bS s) l 3 0) n l 0 s 215 (d + 4)) (RC : rdV (AT (bS s) l 9 0) n l 0 s 221 (d + 5)) (RA : rdV (AT (bS s) l 7 0) n l 0 s 219 (d + 5)) (RO : rdV (AT (bS s) l 8 0) n l 0 s 220 (d + 5)) (ekk : kk = nI (60 * n + j)) (P : lx_T n l 0 T p s m) (B : gI m 38 0 n = nI j) (h : ∀ m', cl_V (CT (bS s) l (sk (bS s) l p)) n l j T s m m' → Q none m') : qW false (d + 5) 222 bc bs 18 [some (lR 33 (some 0)), some (lI kk), none] [] m Q := by
  subst ekk
  have en : (nI n).toNatClampNeg = n := nI_clamp (by omega)
  have ek : (nI (60 * n + j)).toNatClampNeg = 60 * n + j := nI_clamp (by omega)
  have vk : qa_vin (nI (60 * n + j)) 420 := nI_in (by omega) (by decide)
  obtain ⟨⟨S0, h3, hpl, hcp, h4, h5⟩, C0⟩ := P
  have sk1 : p ≤ sk (bS s) l p := sk_ge p
  have sk2 : sk (bS s) l p ≤ max p l := sk_le p
  have no : ∀ m' w, w ≤ 1000 → rd_S m m' → gI m' 33 0 4 = nI w → Q none m' := fun m' w hw r e => h m' ⟨(lr_rd S0 r).1, (lr_rd S0 r).2.1, ck_rd r, Or.inr ⟨w, hw, e⟩⟩
  refine qa_t1_W (cut := [104]) 200 ?_
  refine And.intro (fun _ => ?_) (fun w => absurd h4 w)
  refine h_lookT hl hl2 S0 h3 (by omega) fun m1 r1 k4 k5 k3 => Exists.intro _ (And.intro rfl ?_)
  generalize hq : sk (bS s) l p = q1 at *
  refine And.intro (fun e => ?_) (fun ne => ?_)
  · have e : tc (bS s) l q1 = 121 := e
    have hq3 := tc_lt (by decide) e
    have r2 := rd_tr r1 (rd_s (s := m1) (v := gI m1 33 0 3 + 1) (Or.inl rfl : (3 : Nat) = 3 ∨ (3 : Nat) = 4 ∨ (3 : Nat) = 5) rd_0)
    have a2 : gI (sI m1 33 0 3 (gI m1 33 0 3 + 1)) 33 0 3 = nI (q1 + 1) := by rw [gI_sI, if_pos ⟨rfl, rfl, rfl⟩, k3, nI_1]
    have w2 : gI (sI m1 33 0 3 (gI m1 33 0 3 + 1)) 33 0 4 = -1 := by rw [gI_sI, if_neg (fun q => absurd q.2.2 (by decide)), k4, h4]
    have d2 : gI (sI m1 33 0 3 (gI m1 33 0 3 + 1)) 33 0 5 = nI 0 := by rw [gI_sI, if_neg (fun q => absurd q.2.2 (by decide)), k5, h5]
    have y1 : q1 + 1 ≤ sk (bS s) l (q1 + 1) := sk_ge (q1 + 1)
    have y2 : sk (bS s) l (q1 + 1) ≤ max (q1 + 1) l := sk_le (q1 + 1)
    refine And.intro (fun _ => ?_) (fun w => absurd w2 w)
    refine h_lookT hl hl2 (lr_rd S0 r2) a2 (by omega) fun m3 r3 z4 z5 z3 => Exists.intro _ (And.intro rfl ?_)
    generalize hq3 : sk (bS s) l (q1 + 1) = q3 at *
    have r3 := rd_tr r2 r3
    have z4 : gI m3 33 0 4 = -1 := z4.trans w2
    have z5 : gI m3 33 0 5 = nI 0 := z5.trans d2
    refine And.intro (fun e2 => ?_) (fun ne2 => ?_)
    · have e2 : tc (bS s) l q3 = 58 := e2
      have hq5 := tc_lt (by decide) e2
      have r4 := rd_tr r3 (rd_s (s := m3) (v := gI m3 33 0 3 + 1) (Or.inl rfl : (3 : Nat) = 3 ∨ (3 : Nat) = 4 ∨ (3 : Nat) = 5) rd_0)
      have S4 := lr_rd S0 r4
      have a4 : gI (sI m3 33 0 3 (gI m3 33 0 3 + 1)) 33 0 3 = nI (q3 + 1) := by rw [gI_sI, if_pos ⟨rfl, rfl, rfl⟩, z3, nI_1]
      have w4 : gI (sI m3 33 0 3 (gI m3 33 0 3 + 1)) 33 0 4 = -1 := by rw [gI_sI, if_neg (fun q => absurd q.2.2 (by decide)), z4]
      have d4 : gI (sI m3 33 0 3 (gI m3 33 0 3 + 1)) 33 0 5 = nI 0 := by rw [gI_sI, if_neg (fun q => absurd q.2.2 (by decide)), z5]
      have v7 : qa_vin (gI (sI m3 33 0 3 (gI m3 33 0 3 + 1)) 33 0 14) 7 := by rw [S4.2.2.1]; exact nI_in (by omega) (by decide)
      have a5 : sI (sI m3 33 0 3 (gI m3 33 0 3 + 1)) 39 0 (nI (60 * n + j)).toNatClampNeg (gI (sI m3 33 0 3 (gI m3 33 0 3 + 1)) 37 0 (gI (sI m3 33 0 3 (gI m3 33 0 3 + 1)) 33 0 14).toNatClampNeg) = sI (sI m3 33 0 3 (gI m3 33 0 3 + 1)) 39 0 (60 * n + j) (nI T.length) := by rw [S4.2.2.1, en, S4.2.2.2, ek]
      have g5 : ∀ k' j', ¬ (k' = 39) → gI (sI (sI m3 33 0 3 (gI m3 33 0 3 + 1)) 39 0 (60 * n + j) (nI T.length)) k' 0 j' = gI (sI m3 33 0 3 (gI m3 33 0 3 + 1)) k' 0 j' := fun k' j' g1 => by
        rw [gI_sI, if_neg (fun q => g1 q.1)]
      refine And.intro (fun _ => ?_) (fun w => absurd w4 w)
      refine And.intro v7 (And.intro vk ?_)
      refine cv_104 (p1 := q3 + 1) hn hn2 hj hl hl2 RS RS4 RC RA RO a5 ⟨⟨lr_c hn hn2 hj (Or.inl rfl) S4, ?_, by omega, by omega, ?_, ?_⟩, cont_eq (fun k j' hk => g5 k j' (by omega)) (cont_rd r4 C0)⟩ ?_ (ck_tr (ck_rd r4) (ck_s (Or.inr ⟨by decide, by decide, rfl⟩))) (by rw [gI_sI, if_pos ⟨rfl, rfl, rfl⟩]) (fun hc q1' t ht e6 q' u hu => ⟨e, by rw [hq3]; exact e2, _, by rw [hq3], Or.inl ⟨hc, q1', ht, e6, hu⟩⟩) (fun hc q0 ta h0 => ⟨fun hs => ⟨e, by rw [hq3]; exact e2, _, by rw [hq3], Or.inr ⟨hc, q0, ta, h0, Or.inl ⟨hs, rfl, rfl, rfl⟩⟩⟩, fun hs x1 tb x2 td x3 te a1 a2 a3 e6 q' u hu => ⟨e, by rw [hq3]; exact e2, _, by rw [hq3], Or.inr ⟨hc, q0, ta, h0, Or.inr ⟨hs, x1, tb, x2, td, x3, te, a1, a2, a3, rfl, e6, hu⟩⟩⟩⟩) h
      · rw [g5 33 3 (by decide), a4]
      · rw [g5 33 4 (by decide), w4]
      · rw [g5 33 5 (by decide), d4]
      · rw [g5 38 _ (by decide), r4.1 38 0 _ (fun q => by omega), B]
    · have ne2 : ¬ tc (bS s) l q3 = 58 := ne2
      have e4 : gI (sI (sI m3 33 0 4 (nI q3)) 33 0 3 (gI (sI m3 33 0 4 (nI q3)) 33 0 3 + 1)) 33 0 4 = nI q3 := by
        rw [gI_sI, if_neg (fun q => absurd q.2.2 (by decide)), gI_sI, if_pos ⟨rfl, rfl, rfl⟩]
      have fb : Q none (sI (sI m3 33 0 4 (nI q3)) 33 0 3 (gI (sI m3 33 0 4 (nI q3)) 33 0 3 + 1)) := no _ q3 (by omega) (rd_s (Or.inl rfl) (rd_s (Or.inr (Or.inl rfl)) r3)) e4
      exact h_bad z3 (fun _ => And.intro rfl (And.intro (fun w => absurd (e4.symm.trans w) (nI_ne1 (by omega))) (fun _ => fb))) (fun w => absurd z4 w)
  · have ne : ¬ tc (bS s) l q1 = 121 := ne
    have e4 : gI (sI (sI m1 33 0 4 (nI q1)) 33 0 3 (gI (sI m1 33 0 4 (nI q1)) 33 0 3 + 1)) 33 0 4 = nI q1 := by
      rw [gI_sI, if_neg (fun q => absurd q.2.2 (by decide)), gI_sI, if_pos ⟨rfl, rfl, rfl⟩]
    have e5 : gI (sI (sI (sI m1 33 0 4 (nI q1)) 33 0 3 (gI (sI m1 33 0 4 (nI q1)) 33 0 3 + 1)) 33 0 3 (gI (sI (sI m1 33 0 4 (nI q1)) 33 0 3 (gI (sI m1 33 0 4 (nI q1)) 33 0 3 + 1)) 33 0 3 + 1)) 33 0 4 = nI q1 := by
      rw [gI_sI, if_neg (fun q => absurd q.2.2 (by decide)), e4]
    have fb : Q none (sI (sI (sI m1 33 0 4 (nI q1)) 33 0 3 (gI (sI m1 33 0 4 (nI q1)) 33 0 3 + 1)) 33 0 3 (gI (sI (sI m1 33 0 4 (nI q1)) 33 0 3 (gI (sI m1 33 0 4 (nI q1)) 33 0 3 + 1)) 33 0 3 + 1)) := no _ q1 (by omega) (rd_s (Or.inl rfl) (rd_s (Or.inl rfl) (rd_s (Or.inr (Or.inl rfl)) r1))) e5
    exact h_bad k3 (fun _ => And.intro rfl (And.intro (fun w => absurd (e4.symm.trans w) (nI_ne1 (by omega))) (fun _ => And.intro (fun w => absurd (e5.symm.trans w) (nI_ne1 (by omega))) (fun _ => fb)))) (fun w => absurd (by rw [k4, h4]) w)
theorem h_clauseV (hn : n ≤ 6) (hn2 : xI s 33 13 ≤ (n : Int)) (hl : gI s 33 0 2 = nI l) (hl2 : l ≤ 200) {d j p : Nat} {m : LMem} {Q : LPost} (hj : j ≤ 59) (P : lx_T n l 0 T p s m) (h38 : gI m 38 0 n = nI j) (h : ∀ m', cl_V (CT (bS s) l (sk (bS s) l p)) n l j T s m m' → Q none m') : qC false (d + 40) 222 [lR 33 (some 0)] m Q := by
  have en : (nI n).toNatClampNeg = n := nI_clamp (by omega)
  have v7 : qa_vin (gI m 33 0 14) 7 := by rw [P.1.1.2.2.1]; exact nI_in (by omega) (by decide)
  have S : ∀ e, rdV (AT (bS s) l 3 0) n l 0 s 215 (e + 25) := h_sumGV hn hn2 hl hl2 6 0 rfl
  have U : ∀ e, rdV (AT (bS s) l 6 0) n l 0 s 218 (e + 30 + 3) := h_unitGV hn hn2 hl hl2 6 0 rfl
  have C : rdV (AT (bS s) l 9 0) n l 0 s 221 (d + 34 + 5) := h_condV hn hn2 hl hl2 U (d + 3)
  have A : rdV (AT (bS s) l 7 0) n l 0 s 219 (d + 34 + 5) := h_andV (d := d + 35) hn hn2 hl hl2 (U (d + 5))
  have A4 : rdV (AT (bS s) l 7 0) n l 0 s 219 (d + 35 + 3) := h_andV (d := d + 34) hn hn2 hl hl2 (U (d + 4))
  have O : rdV (AT (bS s) l 8 0) n l 0 s 220 (d + 34 + 5) := h_orV (d := d + 35) hn hn2 hl hl2 (U (d + 5)) A4
  have ekk : (60 : Int32) * gI m 33 0 14 + gI m 38 0 (gI m 33 0 14).toNatClampNeg = nI (60 * n + j) := by rw [P.1.1.2.2.1, en, h38, show (60 : Int32) = nI 60 from rfl, nI_mul, nI_add]
  refine qC_of rfl rfl ?_
  refine qa_t1_W (cut := [18]) 40 ?_
  exact And.intro v7 (cv_18 (d := d + 34) hn hn2 hj hl hl2 (S (d + 14)) (S (d + 13)) C A O ekk P h38 h)
end CL5
