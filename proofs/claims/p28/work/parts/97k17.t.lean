/-! FLOWS are set: the reference. -/
/-- what the reference's flow is -/
def vlR (tide : Int32) (n : Nat) (cs : List Cz) (rain : Int32) (X : Nat → Nat → Int32) (r : Nat) : Int32 := if X 13 r = 1 then 0 else if 0 < abv tide n X r then wrV (fun i => ltX X r (abv tide n X r) rain i) cs else 0
def flR (tide : Int32) (n : Nat) (cs : List Cz) (rain : Int32) (X : Nat → Nat → Int32) (r : Nat) : Int32 := if 0 < vlR tide n cs rain X r then (qa_minL (vlR tide n cs rain X r).toInt64 (qa_minL (X 6 r).toInt64 ((abv tide n X r).toInt64 * (X 3 r).toInt64))).toInt32 else 0
def p2R (tide : Int32) (n : Nat) (cs : List Cz) (rain : Int32) (X : Nat → Nat → Int32) (f r : Nat) : Int32 := if f = 10 then flR tide n cs rain X r else X f r
/-- kept: all but some fields of the rows, letters and the stack -/
def k4w (fs : List Nat) (n : Nat) (s m : LMem) : Prop := (∀ k i j, ¬ (k = 42 ∨ k = 43) → ¬ (k = 48 ∧ i = 0 ∧ ∃ f, f ∈ fs ∧ ∃ r, r < n ∧ j = ro f r) → gI m k i j = gI s k i j) ∧ (∀ k i j, gL m k i j = gL s k i j) ∧ ∀ k i j, gR m k i j = gR s k i j
theorem k4w_0 {fs : List Nat} {n : Nat} {s : LMem} : k4w fs n s s := ⟨fun _ _ _ _ _ => rfl, fun _ _ _ => rfl, fun _ _ _ => rfl⟩
theorem k4w_s {fs : List Nat} {n r f : Nat} {v : Int32} {s m : LMem} (hr : r < n) (hf : f ∈ fs) (h : k4w fs n s m) : k4w fs n s (sI m 48 0 (ro f r) v) := by
  refine ⟨fun k i j g1 g => ?_, h.2.1, h.2.2⟩
  rw [gI_sI, if_neg (fun q => g ⟨q.1, q.2.1, f, hf, r, hr, q.2.2⟩)]
  exact h.1 k i j g1 g
theorem k4w_l {fs : List Nat} {n : Nat} {s m m' : LMem} (h : k4w fs n s m) (w : lk_F m m') : k4w fs n s m' := ⟨fun k i j g1 g => (w.1 k i j g1).trans (h.1 k i j g1 g), fun k i j => (w.2.1 k i j).trans (h.2.1 k i j), fun k i j => (w.2.2 k i j).trans (h.2.2 k i j)⟩
section RF
variable {d n nl : Nat} {s : LMem} {Q : LPost} {cs : List Cz} {rain : Int32}
/-- from the value on -/
theorem rf_66 {bc bs r : Nat} {a v : Int32} {o5 o6 o7 : Option LV} {m : LMem} (hr : r < 20) (h : ∀ o5 o6 o7, qW false (d + 6) 250 bc bs 11 [some (lR 33 (some 0)), some (lI rain), some (lI (nI n)), some (lI (nI (r + 1))), some (lI a), o5, o6, o7] [] (sI m 48 0 (ro 10 r) (if 0 < v then (qa_minL v.toInt64 (qa_minL (vR m 6 r).toInt64 (a.toInt64 * (vR m 3 r).toInt64))).toInt32 else 0)) Q) : qW false (d + 6) 250 bc bs 66 [some (lR 33 (some 0)), some (lI rain), some (lI (nI n)), some (lI (nI r)), some (lI a), o5, o6, o7] [lI v] m Q := by
  obtain ⟨i1, i2⟩ := fxi (r := r) 6 0 hr (by decide) rfl
  obtain ⟨j1, j2⟩ := fxi (r := r) 10 80 hr (by decide) rfl
  have go1 : 0 < v → ∀ o5 o6 o7, qW false (d + 6) 250 bc bs 11 [some (lR 33 (some 0)), some (lI rain), some (lI (nI n)), some (lI (nI r + 1)), some (lI a), o5, o6, o7] [] (sI m 48 0 ((80 : Int32) + nI r).toNatClampNeg (qa_minL v.toInt64 (qa_minL (gI m 48 0 ((0 : Int32) + nI r).toNatClampNeg).toInt64 (a.toInt64 * (vR m 3 r).toInt64))).toInt32) Q := fun c o5 o6 o7 => by
    rw [i2, j2, nI_1]
    have := h o5 o6 o7
    rw [if_pos c] at this
    exact this
  have go0 : ¬ 0 < v → ∀ o5 o6 o7, qW false (d + 6) 250 bc bs 11 [some (lR 33 (some 0)), some (lI rain), some (lI (nI n)), some (lI (nI r + 1)), some (lI a), o5, o6, o7] [] (sI m 48 0 ((80 : Int32) + nI r).toNatClampNeg 0) Q := fun c o5 o6 o7 => by
    rw [j2, nI_1]
    have := h o5 o6 o7
    rw [if_neg c] at this
    exact this
  refine qa_t1_W (cut := [11]) 60 ?_
  refine And.intro i1 ?_
  refine h_itsV (w := 2) hr (by decide) (Exists.intro _ (And.intro rfl ?_))
  refine And.intro (fun c => ?_) (fun c => ?_)
  · exact And.intro j1 (go1 c _ _ _)
  · exact And.intro j1 (go0 c _ _ _)
theorem rf_l {bc bs : Nat} (hn : n ≤ 20) (hmn : gI s 48 0 272 = nI n) (hlw : gI s 48 0 277 = nI nl) (hw : ∀ q, q < n → 0 < vR s 3 q) (hnl : nl < 6) (hc : lcn nl s cs) (h1 : (flC cs).length ≤ 200) (h2 : cs.length ≤ 60) (hwr : lwR cs) (h : ∀ m o4 o5 o6 o7, k4w [10] n s m → (∀ f r, 1 ≤ f ∧ f ≤ 14 → r < n → vR m f r = p2R (gI s 33 0 23) n cs rain (vR s) f r) → qW false (d + 6) 250 bc bs 126 [some (lR 33 (some 0)), some (lI rain), some (lI (nI n)), some (lI (nI n)), o4, o5, o6, o7] [] m Q) : ∀ j k m o4 o5 o6 o7, k + j = n → k4w [10] n s m → rwR (p2R (gI s 33 0 23) n cs rain) n k s m → qW false (d + 6) 250 bc bs 11 [some (lR 33 (some 0)), some (lI rain), some (lI (nI n)), some (lI (nI k)), o4, o5, o6, o7] [] m Q := by
  intro j
  induction j with
  | zero =>
    intro k m o4 o5 o6 o7 hk hm hI
    have hk : k = n := hk
    subst hk
    refine qa_t1_W (cut := [11, 126]) 20 ?_
    refine And.intro (fun c => absurd c (nI_nlt (Nat.le_refl _) (by omega))) (fun _ => ?_)
    exact h m o4 o5 o6 o7 hm (fun f r hf hr => by rw [hI f r hf hr, if_pos hr])
  | succ j ih =>
    intro k m o4 o5 o6 o7 hk hm hI
    have hkn : k < n := by omega
    have hk20 : k < 20 := by omega
    have oth : ∀ f r, f ≠ 10 → 1 ≤ f ∧ f ≤ 14 → r < n → vR m f r = vR s f r := fun f r hf hf2 hr => by
      rw [hI f r hf2 hr]
      by_cases g : r < k
      · rw [if_pos g]
        unfold p2R
        rw [if_neg hf]
      · rw [if_neg g]
    have e23 : gI m 33 0 23 = gI s 33 0 23 := hm.1 33 0 23 (by decide) (fun q => absurd q.1 (by decide))
    have nrow : ∀ j : Nat, 272 ≤ j → ∀ f, f ∈ [10] → ∀ r, r < 20 → j ≠ ro f r := fun j hj f hf r hr q => by
      have hf : f = 10 := List.mem_singleton.mp hf
      subst hf
      have := ro_lt (f := 10) (r := r) (by decide) hr
      have e : ro 10 r = 20 * 4 + r := if_pos (by decide)
      omega
    have e272 : gI m 48 0 272 = nI n := (hm.1 48 0 272 (by decide) (fun q => by
      obtain ⟨_, _, f, hf, r, hr, e⟩ := q
      exact nrow 272 (by decide) f hf r (Nat.lt_of_lt_of_le hr hn) e)).trans hmn
    have e277 : gI m 48 0 277 = nI nl := (hm.1 48 0 277 (by decide) (fun q => by
      obtain ⟨_, _, f, hf, r, hr, e⟩ := q
      exact nrow 277 (by decide) f hf r (Nat.lt_of_lt_of_le hr hn) e)).trans hlw
    have hwm : ∀ q, q < n → 0 < vR m 3 q := fun q hq => by
      rw [oth 3 q (by decide) (by decide) hq]
      exact hw q hq
    have ea : abv (gI m 33 0 23) n (vR m) k = abv (gI s 33 0 23) n (vR s) k := by
      rw [e23]
      exact abv_e (fun f r hf hr => oth f r (by omega) (by omega) hr) hkn
    have eL : (fun i => ltX (vR m) k (abv (gI s 33 0 23) n (vR s) k) rain i) = (fun i => ltX (vR s) k (abv (gI s 33 0 23) n (vR s) k) rain i) := funext fun i => by
      unfold ltX
      rw [oth 3 k (by decide) (by decide) hkn, oth 6 k (by decide) (by decide) hkn, oth 8 k (by decide) (by decide) hkn, oth 7 k (by decide) (by decide) hkn, oth 1 k (by decide) (by decide) hkn, oth 11 k (by decide) (by decide) hkn]
    have hcm : lcn nl m cs := lcn_M (fun k j g => hm.1 k 0 j (by omega) (fun q => by omega)) h1 h2 hc
    -- a row's flow, when its value is v
    have fin : ∀ m' v o5 o6 o7, k4w [10] n s m' → (∀ f r, vR m' f r = vR m f r) → v = vlR (gI s 33 0 23) n cs rain (vR s) k → qW false (d + 6) 250 bc bs 66 [some (lR 33 (some 0)), some (lI rain), some (lI (nI n)), some (lI (nI k)), some (lI (abv (gI s 33 0 23) n (vR s) k)), o5, o6, o7] [lI v] m' Q := fun m' v o5 o6 o7 km hv ev => by
      refine rf_66 hk20 fun o5 o6 o7 => ?_
      refine ih (k + 1) _ _ o5 o6 o7 (by omega) (k4w_s hkn (by decide) km) (fun f r hf hr => ?_)
      rw [vR_s (by decide) hf (by omega) hk20]
      by_cases c : f = 10 ∧ r = k
      · rw [if_pos c, c.2, if_pos (Nat.lt_succ_self k), hv, hv, oth 6 k (by decide) (by decide) hkn, oth 3 k (by decide) (by decide) hkn, ev]
        unfold p2R
        rw [if_pos c.1]
        rfl
      · rw [if_neg c, hv, hI f r hf hr]
        by_cases g2 : r < k
        · rw [if_pos g2, if_pos (by omega)]
        · rw [if_neg g2]
          by_cases g : r = k
          · rw [g, if_pos (Nat.lt_succ_self k)]
            unfold p2R
            rw [if_neg (fun q => c ⟨q, g⟩)]
          · rw [if_neg (by omega)]
    obtain ⟨i1, i2⟩ := fxi (r := k) 13 140 hk20 (by decide) rfl
    have sh : gI m 48 0 ((140 : Int32) + nI k).toNatClampNeg = vR s 13 k := by
      rw [i2]
      exact oth 13 k (by decide) (by decide) hkn
    have v277 : qa_vin (277 : Int32) 279 := vin_of (x := 277) (n := 279) (by decide) (by decide) (by decide)
    refine qa_t1_W (cut := [11, 66, 126]) 80 ?_
    refine And.intro (fun _ => ?_) (fun c => absurd (nI_lt (by omega) (by omega)) c)
    refine h_levelOfV hk20 (hwm k hkn) (Exists.intro _ (And.intro rfl ?_))
    refine h_nextLevelV hkn hn e272 (fun g => hwm _ g) (Exists.intro _ (And.intro rfl ?_))
    refine And.intro i1 ?_
    have z0 : ∀ o5 o6 o7, (vR s 13 k = 1 ∨ ¬ 0 < abv (gI s 33 0 23) n (vR s) k) → qW false (d + 6) 250 bc bs 66 [some (lR 33 (some 0)), some (lI rain), some (lI (nI n)), some (lI (nI k)), some (lI (abv (gI m 33 0 23) n (vR m) k)), o5, o6, o7] [lI 0] m Q := fun o5 o6 o7 z => by
      rw [ea]
      refine fin m 0 o5 o6 o7 hm (fun _ _ => rfl) ?_
      unfold vlR
      by_cases g : vR s 13 k = 1
      · rw [if_pos g]
      · rw [if_neg g, if_neg (z.resolve_left g)]
    refine And.intro (fun c => ?_) (fun c => ?_)
    · have c : gI m 48 0 ((140 : Int32) + nI k).toNatClampNeg = 1 := c
      exact z0 _ _ _ (Or.inl (sh.symm.trans c))
    · have c : ¬ gI m 48 0 ((140 : Int32) + nI k).toNatClampNeg = 1 := c
      refine And.intro (fun c2 => ?_) (fun c2 => ?_)
      · have c2 : 0 < abv (gI m 33 0 23) n (vR m) k := c2
        rw [ea] at c2
        refine And.intro v277 ?_
        have call : qC false (d + 6) 249 [lR 33 (some 0), lI (gI m 48 0 (277 : Int32).toNatClampNeg), lI (nI k), lI rain] m (fun rr m' => ∃ v, rr = some (lI v) ∧ qW false (d + 6) 250 bc bs 66 [some (lR 33 (some 0)), some (lI rain), some (lI (nI n)), some (lI (nI k)), some (lI (abv (gI m 33 0 23) n (vR m) k)), o5, o6, o7] [lI v] m' Q) := by
          rw [show gI m 48 0 (277 : Int32).toNatClampNeg = nI nl from e277]
          refine h_askedV hn hkn e272 hwm hnl hcm h1 h2 hwr fun m' hm' => Exists.intro _ (And.intro rfl ?_)
          rw [ea]
          refine fin m' _ o5 o6 o7 (k4w_l hm hm') (fun f r => vR_lk hm' f r) ?_
          unfold vlR
          rw [if_neg (fun z => c (sh.trans z)), if_pos c2, eL]
        exact call
      · have c2 : ¬ 0 < abv (gI m 33 0 23) n (vR m) k := c2
        rw [ea] at c2
        exact z0 _ _ _ (Or.inr c2)
end RF
/-! WATER moves: the reference. -/
section RW
variable {d n : Nat} {s : LMem} {Q : LPost} {rain : Int32}
theorem rw_l {bc bs : Nat} {o4 o5 o6 o7 : Option LV} (hn : n ≤ 20) (h : ∀ m, k48 [6] n s m → (∀ f r, 1 ≤ f ∧ f ≤ 14 → r < n → vR m f r = p3F (vR s) f r) → qW false d 250 bc bs 179 [some (lR 33 (some 0)), some (lI rain), some (lI (nI n)), some (lI (nI n)), o4, o5, o6, o7] [] m Q) : ∀ j k m, k + j = n → k48 [6] n s m → rwR p3F n k s m → qW false d 250 bc bs 128 [some (lR 33 (some 0)), some (lI rain), some (lI (nI n)), some (lI (nI k)), o4, o5, o6, o7] [] m Q := by
  intro j
  induction j with
  | zero =>
    intro k m hk hm hI
    have hk : k = n := hk
    subst hk
    refine qa_t1_W (cut := [128, 179]) 20 ?_
    refine And.intro (fun c => absurd c (nI_nlt (Nat.le_refl _) (by omega))) (fun _ => ?_)
    exact h m hm (fun f r hf hr => by rw [hI f r hf hr, if_pos hr])
  | succ j ih =>
    intro k m hk hm hI
    have hkn : k < n := by omega
    have hk20 : k < 20 := by omega
    obtain ⟨i1, i2⟩ := fxi (r := k) 6 0 hk20 (by decide) rfl
    obtain ⟨j1, j2⟩ := fxi (r := k) 10 80 hk20 (by decide) rfl
    have oth : ∀ f r, f ≠ 6 → 1 ≤ f ∧ f ≤ 14 → r < n → vR m f r = vR s f r := fun f r hf hf2 hr => by
      rw [hI f r hf2 hr]
      by_cases g : r < k
      · rw [if_pos g]
        unfold p3F
        rw [if_neg hf]
      · rw [if_neg g]
    have b6 : gI m 48 0 ((0 : Int32) + nI k).toNatClampNeg = vR s 6 k := by
      rw [i2]
      exact (hI 6 k (by decide) hkn).trans (if_neg (Nat.lt_irrefl k))
    have b10 : gI m 48 0 ((80 : Int32) + nI k).toNatClampNeg = vR s 10 k := by
      rw [j2]
      exact oth 10 k (by decide) (by decide) hkn
    have go : ∀ x, x = (if 0 < k then vR s 10 (k - 1) else 0) → qW false d 250 bc bs 128 [some (lR 33 (some 0)), some (lI rain), some (lI (nI n)), some (lI (nI k + 1)), o4, o5, o6, o7] [] (sI m 48 0 ((0 : Int32) + nI k).toNatClampNeg (gI m 48 0 ((0 : Int32) + nI k).toNatClampNeg + (x - gI m 48 0 ((80 : Int32) + nI k).toNatClampNeg))) Q := fun x ex => by
      rw [b6, b10, i2, nI_1, ex]
      refine ih (k + 1) _ (by omega) (k48_s hkn (by decide) hm) (fun f r hf hr => ?_)
      rw [vR_s (by decide) hf (by omega) hk20]
      by_cases c : f = 6 ∧ r = k
      · rw [if_pos c, c.2, if_pos (Nat.lt_succ_self k)]
        unfold p3F
        rw [if_pos c.1]
      · rw [if_neg c, hI f r hf hr]
        by_cases g2 : r < k
        · rw [if_pos g2, if_pos (by omega)]
        · rw [if_neg g2]
          by_cases g : r = k
          · rw [g, if_pos (Nat.lt_succ_self k)]
            unfold p3F
            rw [if_neg (fun q => c ⟨q, g⟩)]
          · rw [if_neg (by omega)]
    refine qa_t1_W (cut := [128, 179]) 60 ?_
    refine And.intro (fun _ => ?_) (fun c => absurd (nI_lt (by omega) (by omega)) c)
    refine And.intro i1 ?_
    refine And.intro (fun c => ?_) (fun c => ?_)
    · have c : 0 < nI k := c
      have c := Int32.lt_iff_toInt_lt.mp c
      rw [nI_toInt (by omega)] at c
      have c : (0 : Int) < (k : Int) := c
      have eP : (80 : Int32) + nI k - 1 = nI (20 * 4 + (k - 1)) := by
        rw [show (80 : Int32) = nI 80 from rfl, nI_add, show 80 + k = (20 * 4 + (k - 1)) + 1 by omega, nI_pred]
      have q1 : qa_vin ((80 : Int32) + nI k - 1) 279 := by rw [eP]; exact nI_in (by omega) (by decide)
      have q2 : gI m 48 0 ((80 : Int32) + nI k - 1).toNatClampNeg = vR s 10 (k - 1) := by
        rw [eP, nI_clamp (by omega)]
        exact oth 10 (k - 1) (by decide) (by decide) (by omega)
      exact And.intro q1 (And.intro j1 (And.intro i1 (go _ (by rw [if_pos (by omega)]; exact q2))))
    · have c : ¬ 0 < nI k := c
      have k0 : ¬ 0 < k := fun q => c (Int32.lt_iff_toInt_lt.mpr (by
        rw [nI_toInt (by omega)]
        show (0 : Int) < (k : Int)
        omega))
      exact And.intro j1 (And.intro i1 (go 0 (by rw [if_neg k0])))
end RW
/-! A row settles: the reference (what comes: kind 51). -/
section ST
variable {d r : Nat} {s : LMem} {Q : LPost}
/-- what a row's settling wants to know -/
def stH (s : LMem) (r : Nat) (Q : LPost) : Prop := (vR s 10 r < slF (vR s 1 r) → Q none (sI s 48 0 (ro 7 r) (vR s 7 r + vR s 9 r))) ∧ (¬ vR s 10 r < slF (vR s 1 r) → ¬ (fsF (vR s 1 r) < vR s 10 r ∧ 0 < vR s 7 r) → Q none (sI s 51 0 (r + 1) (gI s 51 0 (r + 1) + vR s 9 r))) ∧ (¬ vR s 10 r < slF (vR s 1 r) → (fsF (vR s 1 r) < vR s 10 r ∧ 0 < vR s 7 r) → ∀ m1 m2 m3, m1 = sI s 51 0 (r + 1) (gI s 51 0 (r + 1) + vR s 9 r) → m2 = sI m1 48 0 (ro 7 r) (gI m1 48 0 (ro 7 r) - 1) → m3 = sI m2 51 0 (r + 1) (gI m2 51 0 (r + 1) + 1) → Q none (sI m3 48 0 276 (gI m3 48 0 276 + 1)))
theorem st_103 {bc bs : Nat} {o2 o3 : Option LV} {m1 : LMem} (hr : r < 20) (H : stH s r Q) (c : ¬ vR s 10 r < slF (vR s 1 r)) (e1 : m1 = sI s 51 0 (r + 1) (gI s 51 0 (r + 1) + vR s 9 r)) : qW false (d + 1) 251 bc bs 103 [some (lR 33 (some 0)), some (lI (nI r)), o2, o3] [lI (fsF (vR s 1 r)), lI (vR s 10 r)] m1 Q := by
  obtain ⟨i7, e7⟩ := fxi (r := r) 7 20 hr (by decide) rfl
  have iv : qa_vin (nI r + 1) 21 := by rw [nI_1]; exact nI_in (by omega) (by decide)
  have ec : (nI r + 1).toNatClampNeg = r + 1 := by rw [nI_1]; exact nI_clamp (by omega)
  have v276 : qa_vin (276 : Int32) 279 := vin_of (x := 276) (n := 279) (by decide) (by decide) (by decide)
  have m7 : gI m1 48 0 ((20 : Int32) + nI r).toNatClampNeg = vR s 7 r := by
    rw [e7, e1, gI_sI, if_neg (fun q => absurd q.1 (by decide))]
    rfl
  have f3 : (fsF (vR s 1 r) < vR s 10 r ∧ 0 < vR s 7 r) → ∀ m2 m3, m2 = sI m1 48 0 ((20 : Int32) + nI r).toNatClampNeg (gI m1 48 0 ((20 : Int32) + nI r).toNatClampNeg - 1) → m3 = sI m2 51 0 (nI r + 1).toNatClampNeg (gI m2 51 0 (nI r + 1).toNatClampNeg + 1) → Q none (sI m3 48 0 (276 : Int32).toNatClampNeg (gI m3 48 0 (276 : Int32).toNatClampNeg + 1)) := fun c2 m2 m3 a2 a3 => by
    rw [e7] at a2
    rw [ec] at a3
    exact H.2.2 c c2 m1 m2 m3 e1 a2 a3
  have f2 : ¬ (fsF (vR s 1 r) < vR s 10 r ∧ 0 < vR s 7 r) → Q none m1 := fun c2 => by
    rw [e1]
    exact H.2.1 c c2
  refine qa_t1_W (cut := []) 80 ?_
  refine And.intro (fun g => ?_) (fun g => f2 (fun q => g q.1))
  refine And.intro i7 ?_
  refine And.intro (fun g2 => ?_) (fun g2 => f2 (fun q => g2 ?_))
  · have g2 : 0 < gI m1 48 0 ((20 : Int32) + nI r).toNatClampNeg := g2
    rw [m7] at g2
    exact And.intro i7 (And.intro i7 (And.intro iv (And.intro iv (And.intro v276 (And.intro v276 (f3 ⟨g, g2⟩ _ _ rfl rfl))))))
  · show 0 < gI m1 48 0 ((20 : Int32) + nI r).toNatClampNeg
    rw [m7]
    exact q.2
theorem st_36 {bc bs : Nat} (hr : r < 20) (H : stH s r Q) : qW false (d + 1) 251 bc bs 36 [some (lR 33 (some 0)), some (lI (nI r)), some (lI (vR s 1 r)), some (lI (vR s 10 r))] [lI (slF (vR s 1 r)), lI (vR s 10 r)] s Q := by
  obtain ⟨i7, e7⟩ := fxi (r := r) 7 20 hr (by decide) rfl
  obtain ⟨i9, e9⟩ := fxi (r := r) 9 60 hr (by decide) rfl
  have iv : qa_vin (nI r + 1) 21 := by rw [nI_1]; exact nI_in (by omega) (by decide)
  have ec : (nI r + 1).toNatClampNeg = r + 1 := by rw [nI_1]; exact nI_clamp (by omega)
  have f1 : vR s 10 r < slF (vR s 1 r) → Q none (sI s 48 0 ((20 : Int32) + nI r).toNatClampNeg (gI s 48 0 ((20 : Int32) + nI r).toNatClampNeg + gI s 48 0 ((60 : Int32) + nI r).toNatClampNeg)) := fun c => by
    rw [e7, e9]
    exact H.1 c
  have t103 : ¬ vR s 10 r < slF (vR s 1 r) → ∀ x, x = fsF (vR s 1 r) → qW false (d + 1) 251 bc bs 103 [some (lR 33 (some 0)), some (lI (nI r)), some (lI (vR s 1 r)), some (lI (vR s 10 r))] [lI x, lI (vR s 10 r)] (sI s 51 0 (nI r + 1).toNatClampNeg (gI s 51 0 (nI r + 1).toNatClampNeg + gI s 48 0 ((60 : Int32) + nI r).toNatClampNeg)) Q := fun c x ex => by
    rw [ex]
    exact st_103 hr H c (by rw [ec, e9]; rfl)
  refine qa_t1_W (cut := [103]) 80 ?_
  refine And.intro (fun c => ?_) (fun c => ?_)
  · exact And.intro i7 (And.intro i9 (And.intro i7 (f1 c)))
  · refine And.intro iv (And.intro i9 (And.intro iv ?_))
    refine And.intro (fun z => t103 c 12 ?_) (fun z => And.intro (fun z1 => t103 c 6 ?_) (fun z1 => t103 c 20 ?_))
    · unfold fsF
      rw [if_pos z]
    · unfold fsF
      rw [if_neg z, if_pos z1]
    · unfold fsF
      rw [if_neg z, if_neg z1]
theorem h_settleV (hr : r < 20) (H : stH s r Q) : qC false (d + 2) 251 [lR 33 (some 0), lI (nI r)] s Q := by
  obtain ⟨i10, e10⟩ := fxi (r := r) 10 80 hr (by decide) rfl
  have t36 : ∀ x fl, x = slF (vR s 1 r) → fl = vR s 10 r → qW false (d + 1) 251 (qa_cst 251).1 (qa_cst 251).2 36 [some (lR 33 (some 0)), some (lI (nI r)), some (lI (vR s 1 r)), some (lI fl)] [lI x, lI fl] s Q := fun x fl ex ef => by
    rw [ex, ef]
    exact st_36 hr H
  have b10 : gI s 48 0 ((80 : Int32) + nI r).toNatClampNeg = vR s 10 r := by rw [e10]; rfl
  refine qC_of rfl rfl ?_
  refine qa_t1_W (cut := [36]) 60 ?_
  refine h_itsV (w := 0) hr (by decide) (Exists.intro _ (And.intro rfl ?_))
  refine And.intro i10 ?_
  refine And.intro (fun z => t36 2 _ ?_ b10) (fun z => And.intro (fun z1 => t36 4 _ ?_ b10) (fun z1 => t36 1 _ ?_ b10))
  · unfold slF
    rw [if_pos z]
  · unfold slF
    rw [if_neg z, if_pos z1]
  · unfold slF
    rw [if_neg z, if_neg z1]
end ST
