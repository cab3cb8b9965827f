/-! REEDS grow, FIELDS are wet: the class. -/
def p6F (summer : Int32) (X : Nat → Nat → Int32) (f r : Nat) : Int32 := if f = 8 then (if summer = 0 then X 8 r else qa_min 99 (X 8 r + 1)) else X f r
section GR
variable {d dg n : Nat} {s : LMem} {Q : LPost}
theorem gr_l {bc bs : Nat} (hn : n ≤ 20) (C : chR dg n s) (F : (Nat → Nat → Int32) → Nat → Nat → Int32) (hF : ∀ X f r, F X f r = if f = 8 then qa_min 99 (X 8 r + 1) else X f r) (h : ∀ m, k21 [8] dg s m → (∀ f r, r < n → vX dg m f r = F (vX dg s) f r) → Q none m) : ∀ j k m, k + j = n → k21 [8] dg s m → rwI F dg n k s m → qW false d 30 bc bs 16 [some (lR 17 (some dg)), some (lR 21 (nxR dg n k))] [] m Q := by
  intro j
  induction j with
  | zero =>
    intro k m hk hm hI
    have hk : k = n := hk
    subst hk
    have e : nxR dg k k = none := if_neg (Nat.lt_irrefl k)
    rw [e]
    refine qa_t1_W (cut := [16]) 20 ?_
    exact h m hm (fun f r hr => by rw [hI f r hr, if_pos hr])
  | succ j ih =>
    intro k m hk hm hI
    have hkn : k < n := by omega
    have e : nxR dg n k = some (20 * dg + k) := if_pos hkn
    rw [e]
    have own : ∀ f, vX dg m f k = vX dg s f k := fun f => by rw [hI f k hkn, if_neg (Nat.lt_irrefl k)]
    have k3 : k21 [8] dg s (sI m 21 (20 * dg + k) 8 (qa_min 99 (gI m 21 (20 * dg + k) 8 + 1))) := k21_s (by omega) (by decide) hm
    have nx : gR (sI m 21 (20 * dg + k) 8 (qa_min 99 (gI m 21 (20 * dg + k) 8 + 1))) 21 (20 * dg + k) 0 = nxR dg n (k + 1) := by rw [k3.2.2]; exact C.2 k hkn
    have go : qW false d 30 bc bs 16 [some (lR 17 (some dg)), some (lR 21 (gR (sI m 21 (20 * dg + k) 8 (qa_min 99 (gI m 21 (20 * dg + k) 8 + 1))) 21 (20 * dg + k) 0))] [] (sI m 21 (20 * dg + k) 8 (qa_min 99 (gI m 21 (20 * dg + k) 8 + 1))) Q := by
      rw [nx]
      refine ih (k + 1) _ (by omega) k3 (fun f r hr => ?_)
      rw [vX_s]
      by_cases c : f = 8 ∧ r = k
      · rw [if_pos c, c.2, if_pos (Nat.lt_succ_self k), hF, if_pos c.1, show gI m 21 (20 * dg + k) 8 = vX dg s 8 k from own 8]
      · rw [if_neg c, hI f r hr]
        by_cases g2 : r < k
        · rw [if_pos g2, if_pos (by omega)]
        · rw [if_neg g2]
          by_cases g : r = k
          · rw [g, if_pos (Nat.lt_succ_self k), hF, if_neg (fun q => c ⟨q, g⟩)]
          · rw [if_neg (by omega)]
    refine qa_t1_W (cut := [16]) 60 ?_
    exact go
theorem h_growReedsV (hn : n ≤ 20) (C : chR dg n s) (h : ∀ m, k21 [8] dg s m → (∀ f r, r < n → vX dg m f r = p6F (gI s 16 0 2) (vX dg s) f r) → Q none m) : qC false (d + 1) 30 [lR 17 (some dg)] s Q := by
  refine qC_of rfl rfl ?_
  refine qa_t1_W (cut := [16]) 20 ?_
  refine And.intro (fun c => ?_) (fun c => ?_)
  · have c : gI s 16 0 2 = 0 := c
    refine h s k21_0 (fun f r _ => ?_)
    unfold p6F
    rw [if_pos c]
    by_cases f8 : f = 8
    · rw [if_pos f8, f8]
    · rw [if_neg f8]
  · have c : ¬ gI s 16 0 2 = 0 := c
    have main := gr_l (d := d) (bc := (qa_cst 30).1) (bs := (qa_cst 30).2) (Q := Q) hn C (fun X f r => if f = 8 then qa_min 99 (X 8 r + 1) else X f r) (fun _ _ _ => rfl) (fun m hm hX => h m hm (fun f r hr => by
      rw [hX f r hr]
      unfold p6F
      rw [if_neg c])) n 0 s (Nat.zero_add _) k21_0 (fun f r _ => by rw [if_neg (Nat.not_lt_zero r)])
    rw [← C.1] at main
    exact main
end GR
/-- wet: 1 or 0 -/
def wtF (X : Nat → Nat → Int32) (r : Nat) : Int32 := if X 5 r < lev X r then 1 else 0
def p7F (X : Nat → Nat → Int32) (f r : Nat) : Int32 := if f = 12 then wtF X r else X f r
/-- harm by the rows below k -/
def hmA (X : Nat → Nat → Int32) (H : Nat → Int32) : Nat → Nat → Int32
  | 0, o => H o
  | k + 1, o => if X 5 k < lev X k ∧ X 4 k = nI o then hmA X H k o + 1 else hmA X H k o
/-- kept: all but some fields of the rows, and harm -/
def k2h (fs : List Nat) (dg : Nat) (s m : LMem) : Prop := (∀ k i j, ¬ (k = 21 ∧ (20 * dg ≤ i ∧ i < 20 * dg + 20) ∧ j ∈ fs) → ¬ (k = 19 ∧ i = dg) → gI m k i j = gI s k i j) ∧ (∀ k i j, gL m k i j = gL s k i j) ∧ ∀ k i j, gR m k i j = gR s k i j
theorem k2h_0 {fs : List Nat} {dg : Nat} {s : LMem} : k2h fs dg s s := ⟨fun _ _ _ _ _ => rfl, fun _ _ _ => rfl, fun _ _ _ => rfl⟩
theorem k2h_s {fs : List Nat} {dg r f : Nat} {v : Int32} {s m : LMem} (hr : r < 20) (hf : f ∈ fs) (h : k2h fs dg s m) : k2h fs dg s (sI m 21 (20 * dg + r) f v) := by
  refine ⟨fun k i j g g2 => ?_, h.2.1, h.2.2⟩
  rw [gI_sI, if_neg (fun q => g ⟨q.1, by omega, by rw [q.2.2]; exact hf⟩)]
  exact h.1 k i j g g2
theorem k2h_h {fs : List Nat} {dg o : Nat} {v : Int32} {s m : LMem} (h : k2h fs dg s m) : k2h fs dg s (sI m 19 dg o v) := by
  refine ⟨fun k i j g g2 => ?_, h.2.1, h.2.2⟩
  rw [gI_sI, if_neg (fun q => g2 ⟨q.1, q.2.1⟩)]
  exact h.1 k i j g g2
section WF
variable {d dg n : Nat} {s : LMem} {Q : LPost}
theorem wf_l {bc bs : Nat} (hn : n ≤ 20) (C : chR dg n s) (ow : ∀ r, r < n → ∃ o : Nat, o < 6 ∧ vX dg s 4 r = nI o) (h : ∀ m, k2h [12] dg s m → (∀ f r, r < n → vX dg m f r = p7F (vX dg s) f r) → (∀ o, o < 6 → gI m 19 dg o = hmA (vX dg s) (gI s 19 dg) n o) → Q none m) : ∀ j k m, k + j = n → k2h [12] dg s m → rwI p7F dg n k s m → (∀ o, o < 6 → gI m 19 dg o = hmA (vX dg s) (gI s 19 dg) k o) → qW false (d + 1) 31 bc bs 5 [some (lR 17 (some dg)), some (lR 21 (nxR dg n k))] [] m Q := by
  intro j
  induction j with
  | zero =>
    intro k m hk hm hI hH
    have hk : k = n := hk
    subst hk
    have e : nxR dg k k = none := if_neg (Nat.lt_irrefl k)
    rw [e]
    refine qa_t1_W (cut := [5]) 20 ?_
    exact h m hm (fun f r hr => by rw [hI f r hr, if_pos hr]) hH
  | succ j ih =>
    intro k m hk hm hI hH
    have hkn : k < n := by omega
    have e : nxR dg n k = some (20 * dg + k) := if_pos hkn
    rw [e]
    have own : ∀ f, vX dg m f k = vX dg s f k := fun f => by rw [hI f k hkn, if_neg (Nat.lt_irrefl k)]
    have le : lev (vX dg m) k = lev (vX dg s) k := by
      unfold lev
      rw [own 2, own 7, own 3, own 6]
    obtain ⟨o, ho, eo⟩ := ow k hkn
    have done : ∀ m' v, k2h [12] dg s m' → (∀ f r, vX dg m' f r = if f = 12 ∧ r = k then v else vX dg m f r) → v = wtF (vX dg s) k → (∀ o, o < 6 → gI m' 19 dg o = hmA (vX dg s) (gI s 19 dg) (k + 1) o) → qW false (d + 1) 31 bc bs 5 [some (lR 17 (some dg)), some (lR 21 (gR m' 21 (20 * dg + k) 0))] [] m' Q := fun m' v a b ev hh => by
      have nx : gR m' 21 (20 * dg + k) 0 = nxR dg n (k + 1) := by rw [a.2.2]; exact C.2 k hkn
      rw [nx]
      refine ih (k + 1) m' (by omega) a (fun f r hr => ?_) hh
      rw [b f r]
      by_cases c : f = 12 ∧ r = k
      · rw [if_pos c, c.2, if_pos (Nat.lt_succ_self k), ev]
        unfold p7F
        rw [if_pos c.1]
      · rw [if_neg c, hI f r hr]
        by_cases g2 : r < k
        · rw [if_pos g2, if_pos (by omega)]
        · rw [if_neg g2]
          by_cases g : r = k
          · rw [g, if_pos (Nat.lt_succ_self k)]
            unfold p7F
            rw [if_neg (fun q => c ⟨q, g⟩)]
          · rw [if_neg (by omega)]
    refine qa_t1_W (cut := [5]) 80 ?_
    refine h_levelV (dg := dg) (Exists.intro _ (And.intro rfl ?_))
    have v12 : ∀ v f r, vX dg (sI m 21 (20 * dg + k) 12 v) f r = if f = 12 ∧ r = k then v else vX dg m f r := fun v f r => vX_s
    refine And.intro (fun c => ?_) (fun c => ?_)
    · have c : gI m 21 (20 * dg + k) 5 < lev (vX dg m) k := c
      rw [le, show gI m 21 (20 * dg + k) 5 = vX dg s 5 k from own 5] at c
      have e4 : gI (sI m 21 (20 * dg + k) 12 1) 21 (20 * dg + k) 4 = nI o := by
        rw [gI_sI, if_neg (fun q => absurd q.2.2 (by decide))]
        exact (own 4).trans eo
      refine And.intro (Or.inr rfl) (And.intro (fun z => ?_) (fun _ => ?_))
      · have z : gI (sI m 21 (20 * dg + k) 12 1) 21 (20 * dg + k) 12 = 0 := z
        rw [gI_sI, if_pos ⟨rfl, rfl, rfl⟩] at z
        exact absurd z (by decide)
      · refine And.intro (fun z => ?_) (fun _ => And.intro (fun _ => ?_) (fun z => ?_))
        · have z : gI (sI m 21 (20 * dg + k) 12 1) 21 (20 * dg + k) 4 < 0 := z
          rw [e4] at z
          have z := Int32.lt_iff_toInt_lt.mp z
          rw [nI_toInt (by omega)] at z
          exact absurd z (by show ¬ (o : Int) < 0; omega)
        · have hv : qa_vin (gI (sI m 21 (20 * dg + k) 12 1) 21 (20 * dg + k) 4) 6 := by
            rw [e4]
            exact nI_in ho (by decide)
          have go : ∀ m1, m1 = sI m 21 (20 * dg + k) 12 1 → qW false (d + 1) 31 bc bs 5 [some (lR 17 (some dg)), some (lR 21 (gR (sI m1 19 dg (gI m1 21 (20 * dg + k) 4).toNatClampNeg (gI m1 19 dg (gI m1 21 (20 * dg + k) 4).toNatClampNeg + 1)) 21 (20 * dg + k) 0))] [] (sI m1 19 dg (gI m1 21 (20 * dg + k) 4).toNatClampNeg (gI m1 19 dg (gI m1 21 (20 * dg + k) 4).toNatClampNeg + 1)) Q := fun m1 em => by
            rw [← em] at e4
            rw [e4, nI_clamp (by omega)]
            have k1 : k2h [12] dg s m1 := by rw [em]; exact k2h_s (by omega) (by decide) hm
            have h1 : ∀ q, q < 6 → gI m1 19 dg q = hmA (vX dg s) (gI s 19 dg) k q := fun q hq => by
              rw [em, gI_sI, if_neg (fun z => absurd z.1 (by decide))]
              exact hH q hq
            refine done _ 1 (k2h_h k1) (fun f r => ?_) (by unfold wtF; rw [if_pos c]) (fun q hq => ?_)
            · have a : vX dg (sI m1 19 dg o (gI m1 19 dg o + 1)) f r = vX dg m1 f r := by
                show gI (sI m1 19 dg o _) 21 _ f = _
                rw [gI_sI, if_neg (fun z => absurd z.1 (by decide))]
              rw [a, em]
              exact v12 1 f r
            · show _ = (if _ then _ else _)
              rw [gI_sI]
              by_cases g : q = o
              · subst g
                rw [if_pos ⟨rfl, rfl, rfl⟩, if_pos ⟨c, eo⟩, h1 q hq]
              · rw [if_neg (fun z => g z.2.2), if_neg (fun z => g ?_), h1 q hq]
                have z := eo.symm.trans z.2
                have z := congrArg Int32.toInt z
                rw [nI_toInt (by omega), nI_toInt (by omega)] at z
                omega
          exact And.intro hv (And.intro hv (go _ rfl))
        · have z : ¬ gI (sI m 21 (20 * dg + k) 12 1) 21 (20 * dg + k) 4 < 6 := z
          rw [e4] at z
          exact absurd (nI_lt (b := 6) ho (by decide)) z
    · have c : ¬ gI m 21 (20 * dg + k) 5 < lev (vX dg m) k := c
      rw [le, show gI m 21 (20 * dg + k) 5 = vX dg s 5 k from own 5] at c
      have go : qW false (d + 1) 31 bc bs 5 [some (lR 17 (some dg)), some (lR 21 (gR (sI m 21 (20 * dg + k) 12 0) 21 (20 * dg + k) 0))] [] (sI m 21 (20 * dg + k) 12 0) Q := by
        refine done _ 0 (k2h_s (by omega) (by decide) hm) (fun f r => v12 0 f r) (by unfold wtF; rw [if_neg c]) (fun q hq => ?_)
        rw [gI_sI, if_neg (fun z => absurd z.1 (by decide)), hH q hq]
        show _ = (if _ then _ else _)
        rw [if_neg (fun z => c z.1)]
      refine And.intro (Or.inl rfl) (And.intro (fun _ => go) (fun z => absurd ?_ z))
      show gI (sI m 21 (20 * dg + k) 12 0) 21 (20 * dg + k) 12 = 0
      rw [gI_sI, if_pos ⟨rfl, rfl, rfl⟩]
theorem h_wetFieldsV (hn : n ≤ 20) (C : chR dg n s) (ow : ∀ r, r < n → ∃ o : Nat, o < 6 ∧ vX dg s 4 r = nI o) (h : ∀ m, k2h [12] dg s m → (∀ f r, r < n → vX dg m f r = p7F (vX dg s) f r) → (∀ o, o < 6 → gI m 19 dg o = hmA (vX dg s) (gI s 19 dg) n o) → Q none m) : qC false (d + 2) 31 [lR 17 (some dg)] s Q := by
  have main := wf_l (d := d) (bc := 0) (bs := 0) hn C ow h n 0 s (Nat.zero_add _) k2h_0 (fun f r _ => by rw [if_neg (Nat.not_lt_zero r)]) (fun _ _ => rfl)
  rw [← C.1] at main
  refine qC_of rfl rfl ?_
  refine qa_t1_W (cut := [5]) 10 ?_
  exact main
end WF
/-! SIDES slip: the class. -/
def lcg (D : Int64) : Int64 := D * 6364136223846793005 + 1442695040888963407
/-- what is drawn, by the draws behind it -/
def drF (D : Int64) : Int32 := ((D.toUInt64 >>> ((Int32.toInt64 33).toUInt64 &&& Int64.toUInt64 63)).toInt64 - (D.toUInt64 >>> ((Int32.toInt64 33).toUInt64 &&& Int64.toUInt64 63)).toInt64 / 100 * 100).toInt32
def dS (D : Int64) : Nat → Int64
  | 0 => D
  | k + 1 => lcg (dS D k)
def slP (tide : Int32) (n : Nat) (cs : List Cz) (rain : Int32) (D : Int64) (X : Nat → Nat → Int32) (r : Nat) : Prop := drF (dS D (r + 1)) < wrV (fun i => bdV (ltX X r (abv tide n X r) rain i).toInt64) cs
def p5F (tide : Int32) (n : Nat) (cs : List Cz) (rain : Int32) (D : Int64) (X : Nat → Nat → Int32) (f r : Nat) : Int32 := if f = 7 then (if drF (dS D (r + 1)) < wrV (fun i => bdV (ltX X r (abv tide n X r) rain i).toInt64) cs then X 7 r + 5 else X 7 r) else if f = 11 then (if drF (dS D (r + 1)) < wrV (fun i => bdV (ltX X r (abv tide n X r) rain i).toInt64) cs then X 11 r + 1 else X 11 r) else X f r
theorem abv_e2 {tide : Int32} {n r : Nat} {X Y : Nat → Nat → Int32} (h : ∀ f q, f = 2 ∨ f = 3 ∨ f = 6 ∨ f = 7 → q = r ∨ (q = r + 1 ∧ q < n) → X f q = Y f q) : abv tide n X r = abv tide n Y r := by
  have e : ∀ q, q = r ∨ (q = r + 1 ∧ q < n) → lev X q = lev Y q := fun q hq => by
    unfold lev
    rw [h 2 q (by omega) hq, h 3 q (by omega) hq, h 6 q (by omega) hq, h 7 q (by omega) hq]
  unfold abv
  rw [e r (Or.inl rfl)]
  by_cases g : r + 1 < n
  · rw [if_pos g, if_pos g, e _ (Or.inr ⟨rfl, g⟩)]
  · rw [if_neg g, if_neg g]
/-- kept: all but some fields of the rows, what waits, the draws -/
def k2d (fs : List Nat) (dg : Nat) (s m : LMem) : Prop := (∀ k i j, k ≠ 11 → ¬ (k = 21 ∧ (20 * dg ≤ i ∧ i < 20 * dg + 20) ∧ j ∈ fs) → gI m k i j = gI s k i j) ∧ (∀ k i j, ¬ (k = 17 ∧ i = dg ∧ j = 9) → gL m k i j = gL s k i j) ∧ ∀ k i j, gR m k i j = gR s k i j
theorem k2d_0 {fs : List Nat} {dg : Nat} {s : LMem} : k2d fs dg s s := ⟨fun _ _ _ _ _ => rfl, fun _ _ _ _ => rfl, fun _ _ _ => rfl⟩
theorem k2d_s {fs : List Nat} {dg r f : Nat} {v : Int32} {s m : LMem} (hr : r < 20) (hf : f ∈ fs) (h : k2d fs dg s m) : k2d fs dg s (sI m 21 (20 * dg + r) f v) := by
  refine ⟨fun k i j g1 g => ?_, h.2.1, h.2.2⟩
  rw [gI_sI, if_neg (fun q => g ⟨q.1, by omega, by rw [q.2.2]; exact hf⟩)]
  exact h.1 k i j g1 g
theorem k2d_w {fs : List Nat} {dg n : Nat} {s m m' : LMem} (h : k2d fs dg s m) (w : ww_F n m m') : k2d fs dg s m' := ⟨fun k i j g1 g => (w.1 k i j (fun q => g1 q.1)).trans (h.1 k i j g1 g), fun k i j g => (w.2.1 k i j).trans (h.2.1 k i j g), fun k i j => (w.2.2 k i j).trans (h.2.2 k i j)⟩
theorem k2d_d {fs : List Nat} {dg : Nat} {v : Int64} {s m : LMem} (h : k2d fs dg s m) : k2d fs dg s (sL m 17 dg 9 v) := ⟨h.1, fun k i j g => by
  rw [gL_sL, if_neg g]
  exact h.2.1 k i j g, h.2.2⟩
section SL
variable {d dg n nl : Nat} {s : LMem} {Q : LPost} {cs : List Cz} {rain : Int32}
theorem h_drawV (h : Q (some (lI (drF (lcg (gL s 17 dg 9))))) (sL s 17 dg 9 (lcg (gL s 17 dg 9)))) : qC false (d + 1) 29 [lR 17 (some dg)] s Q := by
  have e : gL (sL s 17 dg 9 (lcg (gL s 17 dg 9))) 17 dg 9 = lcg (gL s 17 dg 9) := by rw [gL_sL, if_pos ⟨rfl, rfl, rfl⟩]
  have h : Q (some (lI (drF (gL (sL s 17 dg 9 (lcg (gL s 17 dg 9))) 17 dg 9)))) (sL s 17 dg 9 (lcg (gL s 17 dg 9))) := by
    rw [e]
    exact h
  refine qC_of rfl rfl ?_
  refine qa_t1_W (cut := []) 30 ?_
  exact And.intro (by decide) h
theorem sl_32 {bc bs row : Nat} {ab dr : Int32} {m : LMem} (hg : gR m 17 dg 7 = some nl) (hc : cC nl m (clsC cs)) (hz : (clsC cs).length ≤ 200) (hw : lwR cs) (h1 : dr < wrV (fun i => bdV (ltV m row ab rain i).toInt64) cs → ∀ m' m7, ww_F nl m m' → m7 = sI m' 21 row 7 (gI m' 21 row 7 + 5) → qW false (d + 4) 28 bc bs 58 [some (lR 17 (some dg)), some (lI rain), some (lR 21 (some row))] [] (sI m7 21 row 11 (gI m7 21 row 11 + 1)) Q) (h0 : ¬ dr < wrV (fun i => bdV (ltV m row ab rain i).toInt64) cs → ∀ m', ww_F nl m m' → qW false (d + 4) 28 bc bs 58 [some (lR 17 (some dg)), some (lI rain), some (lR 21 (some row))] [] m' Q) : qW false (d + 4) 28 bc bs 32 [some (lR 17 (some dg)), some (lI rain), some (lR 21 (some row))] [lI rain, lI ab, lR 21 (some row), lR 8 (gR m 17 dg 7), lI dr] m Q := by
  rw [hg]
  refine qa_t1_W (cut := [58]) 40 ?_
  refine h_worthV (d := d + 1) (L := fun i => bdV (ltV m row ab rain i).toInt64) ⟨hc.1, hz, fun i _ => rfl⟩ hc hw fun m' hm' => Exists.intro _ (And.intro rfl ?_)
  exact And.intro (fun c => h1 c m' _ hm' rfl) (fun c => h0 c m' hm')
theorem sl_58 {bc bs row : Nat} {m : LMem} (h : qW false (d + 4) 28 bc bs 13 [some (lR 17 (some dg)), some (lI rain), some (lR 21 (gR m 21 row 0))] [] m Q) : qW false (d + 4) 28 bc bs 58 [some (lR 17 (some dg)), some (lI rain), some (lR 21 (some row))] [] m Q := by
  refine qa_t1_W (cut := [13]) 10 ?_
  exact h
theorem chR_d {fs : List Nat} {n : Nat} {s m : LMem} (h : k2d fs dg s m) (c : chR dg n s) : chR dg n m := ⟨by rw [h.2.2]; exact c.1, fun r hr => by rw [h.2.2]; exact c.2 r hr⟩
theorem cC_kd {fs : List Nat} {s m : LMem} {L : List Ck} (h : k2d fs dg s m) (c : cC nl s L) : cC nl m L := ⟨by rw [h.1 8 nl 2 (by decide) (fun q => absurd q.1 (by decide))]; exact c.1, fun j x e => by
  rw [h.1 9 nl j (by decide) (fun q => absurd q.1 (by decide)), h.1 10 nl j (by decide) (fun q => absurd q.1 (by decide))]
  exact c.2 j x e⟩
theorem sl_l {bc bs : Nat} (hn : n ≤ 20) (C : chR dg n s) (hg : gR s 17 dg 7 = some nl) (hc : cC nl s (clsC cs)) (hz : (clsC cs).length ≤ 200) (hw : lwR cs) (h : ∀ m, k2d [7, 11] dg s m → (∀ f r, r < n → vX dg m f r = p5F (gI s 16 0 0) n cs rain (gL s 17 dg 9) (vX dg s) f r) → gL m 17 dg 9 = dS (gL s 17 dg 9) n → Q none m) : ∀ j k m, k + j = n → k2d [7, 11] dg s m → rwI (p5F (gI s 16 0 0) n cs rain (gL s 17 dg 9)) dg n k s m → gL m 17 dg 9 = dS (gL s 17 dg 9) k → qW false (d + 4) 28 bc bs 13 [some (lR 17 (some dg)), some (lI rain), some (lR 21 (nxR dg n k))] [] m Q := by
  intro j
  induction j with
  | zero =>
    intro k m hk hm hI hD
    have hk : k = n := hk
    subst hk
    have e : nxR dg k k = none := if_neg (Nat.lt_irrefl k)
    rw [e]
    refine qa_t1_W (cut := [13]) 20 ?_
    exact h m hm (fun f r hr => by rw [hI f r hr, if_pos hr]) hD
  | succ j ih =>
    intro k m hk hm hI hD
    have hkn : k < n := by omega
    have e : nxR dg n k = some (20 * dg + k) := if_pos hkn
    rw [e]
    generalize eD : gL s 17 dg 9 = D at *
    have kd : k2d [7, 11] dg s (sL m 17 dg 9 (lcg (gL m 17 dg 9))) := k2d_d hm
    have vd : ∀ f r, vX dg (sL m 17 dg 9 (lcg (gL m 17 dg 9))) f r = vX dg m f r := fun _ _ => rfl
    have own : ∀ f, vX dg m f k = vX dg s f k := fun f => by rw [hI f k hkn, if_neg (Nat.lt_irrefl k)]
    have ea : abv (gI m 16 0 0) n (vX dg (sL m 17 dg 9 (lcg (gL m 17 dg 9)))) k = abv (gI s 16 0 0) n (vX dg s) k := by
      rw [hm.1 16 0 0 (by decide) (fun q => absurd q.1 (by decide))]
      refine abv_e2 (fun f q hf hq => ?_)
      rcases hq with rfl | ⟨rfl, g⟩
      · exact own f
      · rw [vd, hI f (k + 1) g, if_neg (by omega)]
    have l0 : (fun i => bdV (ltV (sL m 17 dg 9 (lcg (gL m 17 dg 9))) (20 * dg + k) (abv (gI s 16 0 0) n (vX dg s) k) rain i).toInt64) = (fun i => bdV (ltX (vX dg s) k (abv (gI s 16 0 0) n (vX dg s) k) rain i).toInt64) := funext fun i => by
      unfold ltV ltX
      rw [show gI (sL m 17 dg 9 (lcg (gL m 17 dg 9))) 21 (20 * dg + k) 3 = vX dg s 3 k from own 3, show gI (sL m 17 dg 9 (lcg (gL m 17 dg 9))) 21 (20 * dg + k) 6 = vX dg s 6 k from own 6, show gI (sL m 17 dg 9 (lcg (gL m 17 dg 9))) 21 (20 * dg + k) 8 = vX dg s 8 k from own 8, show gI (sL m 17 dg 9 (lcg (gL m 17 dg 9))) 21 (20 * dg + k) 7 = vX dg s 7 k from own 7, show gI (sL m 17 dg 9 (lcg (gL m 17 dg 9))) 21 (20 * dg + k) 1 = vX dg s 1 k from own 1, show gI (sL m 17 dg 9 (lcg (gL m 17 dg 9))) 21 (20 * dg + k) 11 = vX dg s 11 k from own 11]
    have eL : lcg (gL m 17 dg 9) = dS D (k + 1) := by rw [hD]; rfl
    have done : ∀ m', k2d [7, 11] dg s m' → (∀ f r, r < n → vX dg m' f r = if r = k then p5F (gI s 16 0 0) n cs rain D (vX dg s) f k else vX dg m f r) → gL m' 17 dg 9 = dS D (k + 1) → qW false (d + 4) 28 bc bs 58 [some (lR 17 (some dg)), some (lI rain), some (lR 21 (some (20 * dg + k)))] [] m' Q := fun m' a b c => by
      refine sl_58 ?_
      have nx : gR m' 21 (20 * dg + k) 0 = nxR dg n (k + 1) := by rw [a.2.2]; exact C.2 k hkn
      rw [nx]
      refine ih (k + 1) m' (by omega) a (fun f r hr => ?_) c
      rw [b f r hr]
      by_cases g : r = k
      · rw [if_pos g, g, if_pos (Nat.lt_succ_self k)]
      · rw [if_neg g, hI f r hr]
        by_cases g2 : r < k
        · rw [if_pos g2, if_pos (by omega)]
        · rw [if_neg g2, if_neg (by omega)]
    have gLd : gL (sL m 17 dg 9 (lcg (gL m 17 dg 9))) 17 dg 9 = dS D (k + 1) := by rw [gL_sL, if_pos ⟨rfl, rfl, rfl⟩, eL]
    have go : qW false (d + 4) 28 bc bs 32 [some (lR 17 (some dg)), some (lI rain), some (lR 21 (some (20 * dg + k)))] [lI rain, lI (abv (gI s 16 0 0) n (vX dg s) k), lR 21 (some (20 * dg + k)), lR 8 (gR (sL m 17 dg 9 (lcg (gL m 17 dg 9))) 17 dg 7), lI (drF (lcg (gL m 17 dg 9)))] (sL m 17 dg 9 (lcg (gL m 17 dg 9))) Q := by
      refine sl_32 (nl := nl) (cs := cs) ((kd.2.2 17 dg 7).trans hg) (cC_kd kd hc) hz hw (fun c m' m7 hm' e7 => ?_) (fun c m' hm' => ?_)
      · rw [l0, eL] at c
        have k1 := k2d_w kd hm'
        have w' : ∀ f r, vX dg m' f r = vX dg m f r := fun f r => hm'.1 21 _ _ (fun q => absurd q.1 (by decide))
        have k7 : k2d [7, 11] dg s m7 := by rw [e7]; exact k2d_s (by omega) (by decide) k1
        refine done _ (k2d_s (by omega) (by decide) k7) (fun f r hr => ?_) ?_
        · rw [vX_s, e7, vX_s, w']
          by_cases g : r = k
          · subst g
            rw [if_pos rfl]
            unfold p5F
            have b11 : gI (sI m' 21 (20 * dg + r) 7 (gI m' 21 (20 * dg + r) 7 + 5)) 21 (20 * dg + r) 11 = vX dg s 11 r := by
              rw [gI_sI, if_neg (fun q => absurd q.2.2 (by decide))]
              exact (w' 11 r).trans (own 11)
            have b7 : gI m' 21 (20 * dg + r) 7 = vX dg s 7 r := (w' 7 r).trans (own 7)
            by_cases f11 : f = 11
            · rw [if_pos ⟨f11, rfl⟩, if_neg (by omega), if_pos f11, if_pos c, b11]
            · rw [if_neg (fun q => f11 q.1)]
              by_cases f7 : f = 7
              · rw [if_pos ⟨f7, rfl⟩, if_pos f7, if_pos c, b7]
              · rw [if_neg (fun q => f7 q.1), if_neg f7, if_neg f11, own f]
          · rw [if_neg (fun q => g q.2), if_neg (fun q => g q.2), if_neg g]
        · show gL m7 17 dg 9 = _
          rw [e7]
          exact (hm'.2.1 17 dg 9).trans gLd
      · rw [l0, eL] at c
        have w' : ∀ f r, vX dg m' f r = vX dg m f r := fun f r => hm'.1 21 _ _ (fun q => absurd q.1 (by decide))
        refine done m' (k2d_w kd hm') (fun f r hr => ?_) ((hm'.2.1 17 dg 9).trans gLd)
        rw [w']
        by_cases g : r = k
        · subst g
          rw [if_pos rfl, own f]
          unfold p5F
          by_cases f7 : f = 7
          · rw [if_pos f7, if_neg c, f7]
          · rw [if_neg f7]
            by_cases f11 : f = 11
            · rw [if_pos f11, if_neg c, f11]
            · rw [if_neg f11]
        · rw [if_neg g]
    refine qa_t1_W (cut := [13, 32, 58]) 60 ?_
    refine h_drawV (dg := dg) (Exists.intro _ (And.intro rfl ?_))
    refine h_aboveV (d := d + 2) (dg := dg) (n := n) (chR_d kd C) hkn (Exists.intro _ (And.intro rfl ?_))
    have ea2 : abv (gI (sL m 17 dg 9 (lcg (gL m 17 dg 9))) 16 0 0) n (vX dg (sL m 17 dg 9 (lcg (gL m 17 dg 9)))) k = abv (gI s 16 0 0) n (vX dg s) k := ea
    rw [ea2]
    exact go
theorem sl_4 {bc bs : Nat} (hn : n ≤ 20) (C : chR dg n s) (hs : (gR s 17 dg 7 = none ∧ Q none s) ∨ (∃ nl cs, gR s 17 dg 7 = some nl ∧ cC nl s (clsC cs) ∧ (clsC cs).length ≤ 200 ∧ lwR cs ∧ ∀ m, k2d [7, 11] dg s m → (∀ f r, r < n → vX dg m f r = p5F (gI s 16 0 0) n cs rain (gL s 17 dg 9) (vX dg s) f r) → gL m 17 dg 9 = dS (gL s 17 dg 9) n → Q none m)) : qW false (d + 4) 28 bc bs 4 [some (lR 17 (some dg)), some (lI rain), none] [lR 8 (gR s 17 dg 7)] s Q := by
  rcases hs with ⟨e, h⟩ | ⟨nl, cs, e, hc, hz, hw, h⟩
  · rw [e]
    refine qa_t1_W (cut := []) 10 ?_
    exact h
  · have main := sl_l (d := d) (bc := bc) (bs := bs) (rain := rain) hn C e hc hz hw h n 0 s (Nat.zero_add _) k2d_0 (fun f r _ => by rw [if_neg (Nat.not_lt_zero r)]) rfl
    rw [← C.1] at main
    rw [e]
    refine qa_t1_W (cut := [13]) 10 ?_
    exact main
theorem h_slipSidesV (hn : n ≤ 20) (C : chR dg n s) (hs : (gR s 17 dg 7 = none ∧ Q none s) ∨ (∃ nl cs, gR s 17 dg 7 = some nl ∧ cC nl s (clsC cs) ∧ (clsC cs).length ≤ 200 ∧ lwR cs ∧ ∀ m, k2d [7, 11] dg s m → (∀ f r, r < n → vX dg m f r = p5F (gI s 16 0 0) n cs rain (gL s 17 dg 9) (vX dg s) f r) → gL m 17 dg 9 = dS (gL s 17 dg 9) n → Q none m)) : qC false (d + 5) 28 [lR 17 (some dg), lI rain] s Q := by
  refine qC_of rfl rfl ?_
  refine qa_t1_W (cut := [4]) 10 ?_
  exact sl_4 hn C hs
end SL
