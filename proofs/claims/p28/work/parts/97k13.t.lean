/-! FLOWS are set: the class. -/
def ltX (X : Nat → Nat → Int32) (r : Nat) (ab rain i : Int32) : Int32 := if i = 0 then ab else if i = 1 then (if 0 < X 3 r then X 6 r / X 3 r else 0) else if i = 2 then X 8 r else if i = 3 then X 3 r else if i = 4 then X 7 r else if i = 5 then X 1 r else if i = 6 then rain else X 11 r
/-- what the class's flow is -/
def flF (tide : Int32) (n : Nat) (cs : List Cz) (rain : Int32) (X : Nat → Nat → Int32) (r : Nat) : Int32 := if X 13 r = 0 ∧ 0 < abv tide n X r ∧ 0 < X 6 r then qa_max 0 (qa_min (wrV (fun i => bdV (ltX X r (abv tide n X r) rain i).toInt64) cs) (qa_min (X 6 r) (abv tide n X r * X 3 r))) else 0
def p2F (tide : Int32) (n : Nat) (cs : List Cz) (rain : Int32) (X : Nat → Nat → Int32) (f r : Nat) : Int32 := if f = 10 then flF tide n cs rain X r else X f r
/-- kept: all but some fields of the rows, and what waits -/
def k2w (fs : List Nat) (dg : Nat) (s m : LMem) : Prop := (∀ k i j, k ≠ 11 → ¬ (k = 21 ∧ (20 * dg ≤ i ∧ i < 20 * dg + 20) ∧ j ∈ fs) → gI m k i j = gI s k i j) ∧ (∀ k i j, gL m k i j = gL s k i j) ∧ ∀ k i j, gR m k i j = gR s k i j
theorem k2w_0 {fs : List Nat} {dg : Nat} {s : LMem} : k2w fs dg s s := ⟨fun _ _ _ _ _ => rfl, fun _ _ _ => rfl, fun _ _ _ => rfl⟩
theorem k2w_s {fs : List Nat} {dg r f : Nat} {v : Int32} {s m : LMem} (hr : r < 20) (hf : f ∈ fs) (h : k2w fs dg s m) : k2w fs dg s (sI m 21 (20 * dg + r) f v) := by
  refine ⟨fun k i j g1 g => ?_, h.2.1, h.2.2⟩
  rw [gI_sI, if_neg (fun q => g ⟨q.1, by omega, by rw [q.2.2]; exact hf⟩)]
  exact h.1 k i j g1 g
theorem k2w_w {fs : List Nat} {dg n : Nat} {s m m' : LMem} (h : k2w fs dg s m) (w : ww_F n m m') : k2w fs dg s m' := ⟨fun k i j g1 g => (w.1 k i j (fun q => g1 q.1)).trans (h.1 k i j g1 g), fun k i j => (w.2.1 k i j).trans (h.2.1 k i j), fun k i j => (w.2.2 k i j).trans (h.2.2 k i j)⟩
theorem chR_w {fs : List Nat} {dg d2 n : Nat} {s m : LMem} (h : k2w fs d2 s m) (c : chR dg n s) : chR dg n m := ⟨by rw [h.2.2]; exact c.1, fun r hr => by rw [h.2.2]; exact c.2 r hr⟩
theorem cC_kw {fs : List Nat} {dg nl : Nat} {s m : LMem} {L : List Ck} (h : k2w fs dg s m) (c : cC nl s L) : cC nl m L := ⟨by rw [h.1 8 nl 2 (by decide) (fun q => absurd q.1 (by decide))]; exact c.1, fun j x e => by
  rw [h.1 9 nl j (by decide) (fun q => absurd q.1 (by decide)), h.1 10 nl j (by decide) (fun q => absurd q.1 (by decide))]
  exact c.2 j x e⟩
theorem abv_e {tide : Int32} {n r : Nat} {X Y : Nat → Nat → Int32} (h : ∀ f r, f = 2 ∨ f = 3 ∨ f = 6 ∨ f = 7 → r < n → X f r = Y f r) (hr : r < n) : abv tide n X r = abv tide n Y r := by
  have e : ∀ q, q < n → lev X q = lev Y q := fun q hq => by
    unfold lev
    rw [h 2 q (by omega) hq, h 3 q (by omega) hq, h 6 q (by omega) hq, h 7 q (by omega) hq]
  unfold abv
  rw [e r hr]
  by_cases g : r + 1 < n
  · rw [if_pos g, if_pos g, e _ g]
  · rw [if_neg g, if_neg g]
section SF
variable {d dg n nl : Nat} {s : LMem} {Q : LPost} {cs : List Cz} {rain : Int32}
theorem sf_83 {bc bs row : Nat} {o3 o4 : Option LV} {m : LMem} (h : qW false (d + 4) 25 bc bs 5 [some (lR 17 (some dg)), some (lI rain), some (lR 21 (gR m 21 row 0)), o3, o4] [] m Q) : qW false (d + 4) 25 bc bs 83 [some (lR 17 (some dg)), some (lI rain), some (lR 21 (some row)), o3, o4] [] m Q := by
  refine qa_t1_W (cut := [5]) 10 ?_
  exact h
theorem sf_69 {bc bs row : Nat} {ab z : Int32} {m : LMem} (hg : gR m 17 dg 6 = some nl) (hc : cC nl m (clsC cs)) (hz : (clsC cs).length ≤ 200) (hw : lwR cs) (h : ∀ m', ww_F nl m m' → qW false (d + 4) 25 bc bs 83 [some (lR 17 (some dg)), some (lI rain), some (lR 21 (some row)), some (lI ab), some (lI z)] [] (sI m' 21 row 10 (qa_max 0 (qa_min (wrV (fun i => bdV (ltV m row ab rain i).toInt64) cs) z))) Q) : qW false (d + 4) 25 bc bs 69 [some (lR 17 (some dg)), some (lI rain), some (lR 21 (some row)), some (lI ab), some (lI z)] [lI rain, lI ab, lR 21 (some row), lR 8 (gR m 17 dg 6), lI 0, lR 21 (some row)] m Q := by
  rw [hg]
  refine qa_t1_W (cut := [83]) 20 ?_
  refine h_worthV (d := d + 1) (L := fun i => bdV (ltV m row ab rain i).toInt64) ⟨hc.1, hz, fun i _ => rfl⟩ hc hw fun m' hm' => Exists.intro _ (And.intro rfl ?_)
  exact h m' hm'
theorem sf_42 {bc bs row : Nat} {ab : Int32} {o4 : Option LV} {m : LMem} (hg : gR m 17 dg 6 = some nl) (hc : cC nl m (clsC cs)) (hz : (clsC cs).length ≤ 200) (hw : lwR cs) (h : ∀ m' o4, ww_F nl m m' → qW false (d + 4) 25 bc bs 83 [some (lR 17 (some dg)), some (lI rain), some (lR 21 (some row)), some (lI ab), o4] [] (sI m' 21 row 10 (qa_max 0 (qa_min (wrV (fun i => bdV (ltV m row ab rain i).toInt64) cs) (qa_min (gI m 21 row 6) (ab * gI m 21 row 3))))) Q) : qW false (d + 4) 25 bc bs 42 [some (lR 17 (some dg)), some (lI rain), some (lR 21 (some row)), some (lI ab), o4] [lR 8 (gR m 17 dg 6)] m Q := by
  have go := sf_69 (bc := bc) (bs := bs) (row := row) (ab := ab) (z := qa_min (gI m 21 row 6) (ab * gI m 21 row 3)) hg hc hz hw (fun m' hm' => h m' _ hm')
  rw [hg]
  refine qa_t1_W (cut := [69, 83]) 40 ?_
  exact go
theorem sf_l {bc bs : Nat} (hn : n ≤ 20) (C : chR dg n s) (hg : gR s 17 dg 6 = some nl) (hc : cC nl s (clsC cs)) (hz : (clsC cs).length ≤ 200) (hw : lwR cs) (h : ∀ m, k2w [10] dg s m → (∀ f r, r < n → vX dg m f r = p2F (gI s 16 0 0) n cs rain (vX dg s) f r) → Q none m) : ∀ j k m o3 o4, k + j = n → k2w [10] dg s m → rwI (p2F (gI s 16 0 0) n cs rain) dg n k s m → qW false (d + 4) 25 bc bs 5 [some (lR 17 (some dg)), some (lI rain), some (lR 21 (nxR dg n k)), o3, o4] [] m Q := by
  intro j
  induction j with
  | zero =>
    intro k m o3 o4 hk hm hI
    have hk : k = n := hk
    subst hk
    have e : nxR dg k k = none := if_neg (Nat.lt_irrefl k)
    rw [e]
    refine qa_t1_W (cut := [5]) 20 ?_
    exact h m hm (fun f r hr => by rw [hI f r hr, if_pos hr])
  | succ j ih =>
    intro k m o3 o4 hk hm hI
    have e : nxR dg n k = some (20 * dg + k) := if_pos (by omega)
    rw [e]
    have e16 : gI m 16 0 0 = gI s 16 0 0 := hm.1 16 0 0 (by decide) (fun q => absurd q.1 (by decide))
    have oth : ∀ f r, f ≠ 10 → r < n → vX dg m f r = vX dg s f r := fun f r hf hr => by
      rw [hI f r hr]
      by_cases g : r < k
      · rw [if_pos g]
        unfold p2F
        rw [if_neg hf]
      · rw [if_neg g]
    have ea : abv (gI m 16 0 0) n (vX dg m) k = abv (gI s 16 0 0) n (vX dg s) k := by
      rw [e16]
      exact abv_e (fun f r hf hr => oth f r (by omega) hr) (by omega)
    have done : ∀ m' v o3 o4, k2w [10] dg s m' → (∀ f r, r < n → vX dg m' f r = if f = 10 ∧ r = k then v else vX dg m f r) → v = flF (gI s 16 0 0) n cs rain (vX dg s) k → qW false (d + 4) 25 bc bs 83 [some (lR 17 (some dg)), some (lI rain), some (lR 21 (some (20 * dg + k))), o3, o4] [] m' Q := fun m' v o3 o4 a b ev => by
      refine sf_83 ?_
      have nx : gR m' 21 (20 * dg + k) 0 = nxR dg n (k + 1) := by rw [a.2.2]; exact C.2 k (by omega)
      rw [nx]
      refine ih (k + 1) m' o3 o4 (by omega) a (fun f r hr => ?_)
      rw [b f r hr]
      by_cases g : r = k
      · subst g
        rw [if_pos (Nat.lt_succ_self r)]
        unfold p2F
        by_cases f10 : f = 10
        · rw [if_pos ⟨f10, rfl⟩, if_pos f10, ev]
        · rw [if_neg (fun q => f10 q.1), if_neg f10, oth f r f10 hr]
      · rw [if_neg (fun q => g q.2), hI f r hr]
        by_cases g2 : r < k
        · rw [if_pos g2, if_pos (by omega)]
        · rw [if_neg g2, if_neg (by omega)]
    have o10 : ∀ (m0 : LMem) v f r, vX dg (sI m0 21 (20 * dg + k) 10 v) f r = if f = 10 ∧ r = k then v else vX dg m0 f r := fun m0 v f r => by
      show gI (sI m0 21 (20 * dg + k) 10 v) 21 (20 * dg + r) f = _
      rw [gI_sI]
      by_cases g : f = 10 ∧ r = k
      · rw [if_pos g, if_pos ⟨rfl, by omega, g.1⟩]
      · rw [if_neg g, if_neg (fun q => g ⟨q.2.2, by omega⟩)]
    have k0 : k2w [10] dg s (sI m 21 (20 * dg + k) 10 0) := k2w_s (by omega) (by decide) hm
    have f0 : ∀ f, f ≠ 10 → vX dg (sI m 21 (20 * dg + k) 10 0) f k = vX dg s f k := fun f hf => by rw [o10, if_neg (fun q => hf q.1), oth f k hf (by omega)]
    have none_ : ∀ o3 o4, ¬ (vX dg s 13 k = 0 ∧ 0 < abv (gI s 16 0 0) n (vX dg s) k ∧ 0 < vX dg s 6 k) → qW false (d + 4) 25 bc bs 83 [some (lR 17 (some dg)), some (lI rain), some (lR 21 (some (20 * dg + k))), o3, o4] [] (sI m 21 (20 * dg + k) 10 0) Q := fun o3 o4 z => done _ 0 o3 o4 k0 (fun f r _ => o10 m 0 f r) (by unfold flF; rw [if_neg z])
    have some_ : ∀ o4, (vX dg s 13 k = 0 ∧ 0 < abv (gI s 16 0 0) n (vX dg s) k ∧ 0 < vX dg s 6 k) → qW false (d + 4) 25 bc bs 42 [some (lR 17 (some dg)), some (lI rain), some (lR 21 (some (20 * dg + k))), some (lI (abv (gI s 16 0 0) n (vX dg s) k)), o4] [lR 8 (gR (sI m 21 (20 * dg + k) 10 0) 17 dg 6)] (sI m 21 (20 * dg + k) 10 0) Q := fun o4 z => by
      refine sf_42 (nl := nl) (cs := cs) ((k0.2.2 17 dg 6).trans hg) (cC_kw k0 hc) hz hw fun m' o4 hm' => ?_
      have g3 : gI (sI m 21 (20 * dg + k) 10 0) 21 (20 * dg + k) 3 = vX dg s 3 k := f0 3 (by decide)
      have g6 : gI (sI m 21 (20 * dg + k) 10 0) 21 (20 * dg + k) 6 = vX dg s 6 k := f0 6 (by decide)
      have g8 : gI (sI m 21 (20 * dg + k) 10 0) 21 (20 * dg + k) 8 = vX dg s 8 k := f0 8 (by decide)
      have g7 : gI (sI m 21 (20 * dg + k) 10 0) 21 (20 * dg + k) 7 = vX dg s 7 k := f0 7 (by decide)
      have g1 : gI (sI m 21 (20 * dg + k) 10 0) 21 (20 * dg + k) 1 = vX dg s 1 k := f0 1 (by decide)
      have g11 : gI (sI m 21 (20 * dg + k) 10 0) 21 (20 * dg + k) 11 = vX dg s 11 k := f0 11 (by decide)
      have l0 : (fun i => bdV (ltV (sI m 21 (20 * dg + k) 10 0) (20 * dg + k) (abv (gI s 16 0 0) n (vX dg s) k) rain i).toInt64) = (fun i => bdV (ltX (vX dg s) k (abv (gI s 16 0 0) n (vX dg s) k) rain i).toInt64) := funext fun i => by
        unfold ltV ltX
        rw [g3, g6, g8, g7, g1, g11]
      have ev : qa_max 0 (qa_min (wrV (fun i => bdV (ltV (sI m 21 (20 * dg + k) 10 0) (20 * dg + k) (abv (gI s 16 0 0) n (vX dg s) k) rain i).toInt64) cs) (qa_min (gI (sI m 21 (20 * dg + k) 10 0) 21 (20 * dg + k) 6) (abv (gI s 16 0 0) n (vX dg s) k * gI (sI m 21 (20 * dg + k) 10 0) 21 (20 * dg + k) 3))) = flF (gI s 16 0 0) n cs rain (vX dg s) k := by
        unfold flF
        rw [if_pos z, l0, g3, g6]
      rw [ev]
      refine done _ (flF (gI s 16 0 0) n cs rain (vX dg s) k) _ o4 (k2w_s (by omega) (by decide) (k2w_w k0 hm')) (fun f r hr => ?_) rfl
      rw [o10 m']
      by_cases g : f = 10 ∧ r = k
      · rw [if_pos g, if_pos g]
      · rw [if_neg g, if_neg g]
        show gI m' 21 (20 * dg + r) f = _
        rw [hm'.1 21 _ _ (fun q => absurd q.1 (by decide))]
        have := o10 m 0 f r
        rw [if_neg g] at this
        exact this
    refine qa_t1_W (cut := [5, 42, 83]) 60 ?_
    refine h_aboveV (d := d + 2) (dg := dg) (n := n) (chR_w hm C) (by omega) (Exists.intro _ (And.intro rfl ?_))
    rw [ea]
    refine And.intro (fun c => ?_) (fun c => none_ _ _ (fun z => c ((f0 13 (by decide)).trans z.1)))
    have c : vX dg s 13 k = 0 := (f0 13 (by decide)).symm.trans c
    refine And.intro (fun c2 => ?_) (fun c2 => none_ _ _ (fun z => c2 z.2.1))
    have c2 : 0 < abv (gI s 16 0 0) n (vX dg s) k := c2
    have w6 : gI (sI m 21 (20 * dg + k) 10 0) 21 (20 * dg + k) 6 = vX dg s 6 k := f0 6 (by decide)
    refine And.intro (fun c3 => ?_) (fun c3 => none_ _ _ (fun z => c3 (by
      show 0 < gI (sI m 21 (20 * dg + k) 10 0) 21 (20 * dg + k) 6
      rw [w6]
      exact z.2.2)))
    have c3 : 0 < gI (sI m 21 (20 * dg + k) 10 0) 21 (20 * dg + k) 6 := c3
    rw [w6] at c3
    exact some_ _ ⟨c, c2, c3⟩
theorem h_setFlowsV (hn : n ≤ 20) (C : chR dg n s) (hg : gR s 17 dg 6 = some nl) (hc : cC nl s (clsC cs)) (hz : (clsC cs).length ≤ 200) (hw : lwR cs) (h : ∀ m, k2w [10] dg s m → (∀ f r, r < n → vX dg m f r = p2F (gI s 16 0 0) n cs rain (vX dg s) f r) → Q none m) : qC false (d + 5) 25 [lR 17 (some dg), lI rain] s Q := by
  have main := sf_l (d := d) (bc := 0) (bs := 0) hn C hg hc hz hw h n 0 s none none (Nat.zero_add _) k2w_0 (fun f r _ => by rw [if_neg (Nat.not_lt_zero r)])
  rw [← C.1] at main
  refine qC_of rfl rfl ?_
  refine qa_t1_W (cut := [5]) 10 ?_
  exact main
end SF
