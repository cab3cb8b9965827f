/-! A DAY, phase by phase: the reference. -/
/-- where the reference keeps a field of a row -/
def ro (f r : Nat) : Nat := if 6 ≤ f then 20 * (f - 6) + r else 160 + 5 * r + (f - 1)
theorem ro_inj {f g r q : Nat} (h1 : 1 ≤ f ∧ f ≤ 13) (h2 : 1 ≤ g ∧ g ≤ 13) (h3 : r < 20) (h4 : q < 20) (h : ro f r = ro g q) : f = g ∧ r = q := by
  unfold ro at h
  by_cases a : 6 ≤ f
  · rw [if_pos a] at h
    by_cases b : 6 ≤ g
    · rw [if_pos b] at h
      omega
    · rw [if_neg b] at h
      omega
  · rw [if_neg a] at h
    by_cases b : 6 ≤ g
    · rw [if_pos b] at h
      omega
    · rw [if_neg b] at h
      omega
theorem ro_lt {f r : Nat} (h1 : 1 ≤ f ∧ f ≤ 13) (h3 : r < 20) : ro f r < 279 := by
  unfold ro
  by_cases a : 6 ≤ f
  · rw [if_pos a]; omega
  · rw [if_neg a]; omega
def vR (m : LMem) (f r : Nat) : Int32 := if f = 14 then 0 else gI m 48 0 (ro f r)
/-- kept: all but some fields of the rows -/
def k48 (fs : List Nat) (n : Nat) (s m : LMem) : Prop := (∀ k i j, ¬ (k = 48 ∧ i = 0 ∧ ∃ f, f ∈ fs ∧ ∃ r, r < n ∧ j = ro f r) → gI m k i j = gI s k i j) ∧ (∀ k i j, gL m k i j = gL s k i j) ∧ ∀ k i j, gR m k i j = gR s k i j
theorem k48_0 {fs : List Nat} {n : Nat} {s : LMem} : k48 fs n s s := ⟨fun _ _ _ _ => rfl, fun _ _ _ => rfl, fun _ _ _ => rfl⟩
theorem k48_s {fs : List Nat} {n r f : Nat} {v : Int32} {s m : LMem} (hr : r < n) (hf : f ∈ fs) (h : k48 fs n s m) : k48 fs n s (sI m 48 0 (ro f r) v) := by
  refine ⟨fun k i j g => ?_, h.2.1, h.2.2⟩
  rw [gI_sI, if_neg (fun q => g ⟨q.1, q.2.1, f, hf, r, hr, q.2.2⟩)]
  exact h.1 k i j g
theorem vR_s {m : LMem} {g k f r : Nat} {v : Int32} (h2 : 1 ≤ g ∧ g ≤ 13) (h1 : 1 ≤ f ∧ f ≤ 14) (h3 : r < 20) (h4 : k < 20) : vR (sI m 48 0 (ro g k) v) f r = if f = g ∧ r = k then v else vR m f r := by
  unfold vR
  by_cases e : f = 14
  · rw [if_pos e, if_pos e, if_neg (fun q => by omega)]
  · rw [if_neg e, if_neg e, gI_sI]
    by_cases c : f = g ∧ r = k
    · rw [if_pos c, if_pos ⟨rfl, rfl, by rw [c.1, c.2]⟩]
    · rw [if_neg c, if_neg (fun q => c (ro_inj (by omega) h2 h3 h4 q.2.2))]
section DR
variable {d n : Nat} {s : LMem} {Q : LPost}
def rwR (F : (Nat → Nat → Int32) → Nat → Nat → Int32) (n k : Nat) (s m : LMem) : Prop := ∀ f r, 1 ≤ f ∧ f ≤ 14 → r < n → vR m f r = if r < k then F (vR s) f r else vR s f r
theorem r1_l {bc bs : Nat} {rain : Int32} (hn : n ≤ 20) (hc : gI s 33 0 37 = -1) (h : ∀ m, k48 [6, 9] n s m → (∀ f r, 1 ≤ f ∧ f ≤ 14 → r < n → vR m f r = p1F rain (gI s 33 0 24) (vR s) f r) → qW false d 253 bc bs 66 [some (lR 33 (some 0)), some (lI rain), some (lI (nI n)), some (lI (nI n))] [] m Q) : ∀ j k m, k + j = n → k48 [6, 9] n s m → rwR (p1F rain (gI s 33 0 24)) n k s m → qW false d 253 bc bs 11 [some (lR 33 (some 0)), some (lI rain), some (lI (nI n)), some (lI (nI k))] [] m Q := by
  intro j
  induction j with
  | zero =>
    intro k m hk hm hI
    have hk : k = n := hk
    subst hk
    refine qa_t1_W (cut := [11, 66]) 20 ?_
    refine And.intro (fun c => absurd c (nI_nlt (Nat.le_refl _) (by omega))) (fun _ => ?_)
    exact h m hm (fun f r hf hr => by rw [hI f r hf hr, if_pos hr])
  | succ j ih =>
    intro k m hk hm hI
    have e24 : ∀ v, gI (sI m 48 0 (ro 6 k) v) 33 0 24 = gI s 33 0 24 := fun v => by
      rw [gI_sI, if_neg (fun q => absurd q.1 (by decide))]
      exact hm.1 33 0 24 (fun q => absurd q.1 (by decide))
    have e37 : ∀ v, gI (sI m 48 0 (ro 6 k) v) 33 0 37 = -1 := fun v => by
      rw [gI_sI, if_neg (fun q => absurd q.1 (by decide)), hm.1 33 0 37 (fun q => absurd q.1 (by decide)), hc]
    have own : ∀ f, 1 ≤ f ∧ f ≤ 14 → vR m f k = vR s f k := fun f hf => by rw [hI f k hf (by omega), if_neg (Nat.lt_irrefl k)]
    have i6 : ((0 : Int32) + nI k).toNatClampNeg = ro 6 k := by
      rw [Int32.zero_add, nI_clamp (by omega)]
      unfold ro
      rw [if_pos (by decide)]
      omega
    have i9 : ((60 : Int32) + nI k).toNatClampNeg = ro 9 k := by
      rw [show (60 : Int32) = nI 60 from rfl, nI_add, nI_clamp (by omega)]
      unfold ro
      rw [if_pos (by decide)]
    have hv6 : qa_vin ((0 : Int32) + nI k) 279 := by rw [Int32.zero_add]; exact nI_in (by omega) (by decide)
    have hv9 : qa_vin ((60 : Int32) + nI k) 279 := by rw [show (60 : Int32) = nI 60 from rfl, nI_add]; exact nI_in (by omega) (by decide)
    have go : ∀ w, w = (if 0 < rain ∧ (0 : Int32) = 0 then gI s 33 0 24 else 0) → qW false d 253 bc bs 11 [some (lR 33 (some 0)), some (lI rain), some (lI (nI n)), some (lI (nI k + 1))] [] (sI (sI m 48 0 ((0 : Int32) + nI k).toNatClampNeg (gI m 48 0 ((0 : Int32) + nI k).toNatClampNeg + rain)) 48 0 ((60 : Int32) + nI k).toNatClampNeg (gI (sI m 48 0 ((0 : Int32) + nI k).toNatClampNeg (gI m 48 0 ((0 : Int32) + nI k).toNatClampNeg + rain)) 48 0 ((60 : Int32) + nI k).toNatClampNeg + w)) Q := fun w ew => by
      rw [nI_1, i6, i9]
      refine ih (k + 1) _ (by omega) (k48_s (by omega) (by decide) (k48_s (by omega) (by decide) hm)) (fun f r hf hr => ?_)
      rw [vR_s (by decide) hf (by omega) (by omega)]
      by_cases g : r = k
      · subst g
        rw [if_pos (Nat.lt_succ_self r)]
        have b9 : gI (sI m 48 0 (ro 6 r) (gI m 48 0 (ro 6 r) + rain)) 48 0 (ro 9 r) = vR s 9 r := by
          have a := vR_s (m := m) (g := 6) (k := r) (f := 9) (r := r) (v := gI m 48 0 (ro 6 r) + rain) (by decide) (by decide) (by omega) (by omega)
          rw [if_neg (fun q => absurd q.1 (by decide)), own 9 (by decide)] at a
          exact a
        have b6 : gI m 48 0 (ro 6 r) = vR s 6 r := own 6 (by decide)
        unfold p1F
        by_cases f9 : f = 9
        · rw [if_pos ⟨f9, rfl⟩, if_neg (by omega), if_pos f9, b9, ew]
          rfl
        · rw [if_neg (fun q => f9 q.1), vR_s (by decide) hf (by omega) (by omega)]
          by_cases f6 : f = 6
          · rw [if_pos ⟨f6, rfl⟩, if_pos f6, b6]
          · rw [if_neg (fun q => f6 q.1), if_neg f6, if_neg f9, own f hf]
      · rw [if_neg (fun q => g q.2), vR_s (by decide) hf (by omega) (by omega), if_neg (fun q => g q.2), hI f r hf hr]
        by_cases g2 : r < k
        · rw [if_pos g2, if_pos (by omega)]
        · rw [if_neg g2, if_neg (by omega)]
    refine qa_t1_W (cut := [11, 66]) 60 ?_
    refine And.intro (fun _ => ?_) (fun c => absurd (nI_lt (by omega) (by omega)) c)
    refine And.intro hv6 ?_
    refine And.intro hv6 ?_
    refine And.intro hv9 ?_
    refine And.intro (fun c => ?_) (fun c => ?_)
    · refine And.intro (fun e => ?_) (fun _ => ?_)
      · have e : nI k = gI (sI m 48 0 ((0 : Int32) + nI k).toNatClampNeg (gI m 48 0 ((0 : Int32) + nI k).toNatClampNeg + rain)) 33 0 37 := e
        rw [i6, e37] at e
        exact absurd e (nI_ne1 (by omega))
      · exact And.intro hv9 (go (gI (sI m 48 0 ((0 : Int32) + nI k).toNatClampNeg (gI m 48 0 ((0 : Int32) + nI k).toNatClampNeg + rain)) 33 0 24) (by rw [i6, e24, if_pos ⟨c, rfl⟩]))
    · exact And.intro hv9 (go 0 (by rw [if_neg (fun q => c q.1)]))
end DR
/-! LEVELS, on both sides. -/
def lev (X : Nat → Nat → Int32) (r : Nat) : Int32 := X 2 r + X 7 r + (if 0 < X 3 r then X 6 r / X 3 r else 0)
def abv (tide : Int32) (n : Nat) (X : Nat → Nat → Int32) (r : Nat) : Int32 := lev X r - (if r + 1 < n then lev X (r + 1) else tide)
section LV
variable {d dg n : Nat} {s : LMem} {Q : LPost}
theorem h_levelV {r : Nat} (h : Q (some (lI (lev (vX dg s) r))) s) : qC false (d + 1) 92 [lR 21 (some (20 * dg + r))] s Q := by
  have h : Q (some (lI (gI s 21 (20 * dg + r) 2 + gI s 21 (20 * dg + r) 7 + (if 0 < gI s 21 (20 * dg + r) 3 then gI s 21 (20 * dg + r) 6 / gI s 21 (20 * dg + r) 3 else 0)))) s := h
  refine qC_of rfl rfl ?_
  refine qa_t1_W (cut := []) 30 ?_
  refine And.intro (fun g => ?_) (fun g => ?_)
  · have g : 0 < gI s 21 (20 * dg + r) 3 := g
    rw [if_pos g] at h
    exact And.intro (fun z => by
      have z : gI s 21 (20 * dg + r) 3 = 0 := z
      rw [z] at g
      exact absurd g (by decide)) h
  · have g : ¬ 0 < gI s 21 (20 * dg + r) 3 := g
    rw [if_neg g] at h
    exact h
theorem ab_25 {bc bs r : Nat} {v : Int32} (e : gR s 21 (20 * dg + r) 0 = some (20 * dg + (r + 1))) (h : Q (some (lI (v - lev (vX dg s) (r + 1)))) s) : qW false (d + 1) 24 bc bs 25 [some (lR 17 (some dg)), some (lR 21 (some (20 * dg + r)))] [lR 21 (gR s 21 (20 * dg + r) 0), lI v] s Q := by
  rw [e]
  refine qa_t1_W (cut := []) 20 ?_
  exact h_levelV (Exists.intro _ (And.intro rfl h))
theorem ab_8 {bc bs r : Nat} {v : Int32} (C : chR dg n s) (hr : r < n) (h : Q (some (lI (v - (if r + 1 < n then lev (vX dg s) (r + 1) else gI s 16 0 0)))) s) : qW false (d + 1) 24 bc bs 8 [some (lR 17 (some dg)), some (lR 21 (some (20 * dg + r)))] [lR 21 (gR s 21 (20 * dg + r) 0), lI v] s Q := by
  have nx := C.2 r hr
  by_cases g : r + 1 < n
  · rw [if_pos g] at h
    have nx : gR s 21 (20 * dg + r) 0 = some (20 * dg + (r + 1)) := nx.trans (if_pos g)
    have go := ab_25 (d := d) (bc := bc) (bs := bs) nx h
    rw [nx]
    refine qa_t1_W (cut := [25]) 20 ?_
    exact go
  · rw [if_neg g] at h
    have nx : gR s 21 (20 * dg + r) 0 = none := nx.trans (if_neg g)
    rw [nx]
    refine qa_t1_W (cut := []) 20 ?_
    exact h
theorem h_aboveV {r : Nat} (C : chR dg n s) (hr : r < n) (h : Q (some (lI (abv (gI s 16 0 0) n (vX dg s) r))) s) : qC false (d + 2) 24 [lR 17 (some dg), lR 21 (some (20 * dg + r))] s Q := by
  refine qC_of rfl rfl ?_
  refine qa_t1_W (cut := [8]) 30 ?_
  exact h_levelV (Exists.intro _ (And.intro rfl (ab_8 C hr h)))
end LV
section LR2
variable {d n : Nat} {s : LMem} {Q : LPost}
theorem h_itsV {r w : Nat} (hr : r < 20) (hw : w < 5) (h : Q (some (lI (vR s (w + 1) r))) s) : qC false (d + 1) 243 [lR 33 (some 0), lI (nI r), lI (nI w)] s Q := by
  have ei : ((160 : Int32) + 5 * nI r + nI w).toNatClampNeg = ro (w + 1) r := by
    rw [show (160 : Int32) = nI 160 from rfl, show (5 : Int32) = nI 5 from rfl, nI_mul, nI_add, nI_add, nI_clamp (by omega)]
    unfold ro
    rw [if_neg (by omega)]
    omega
  have hv : qa_vin ((160 : Int32) + 5 * nI r + nI w) 279 := by
    rw [show (160 : Int32) = nI 160 from rfl, show (5 : Int32) = nI 5 from rfl, nI_mul, nI_add, nI_add]
    exact nI_in (by omega) (by decide)
  have h2 : Q (some (lI (gI s 48 0 ((160 : Int32) + 5 * nI r + nI w).toNatClampNeg))) s := by
    rw [ei]
    unfold vR at h
    rw [if_neg (by omega)] at h
    exact h
  refine qC_of rfl rfl ?_
  refine qa_t1_W (cut := []) 20 ?_
  exact And.intro hv h2
theorem h_levelOfV {r : Nat} (hr : r < 20) (hw : 0 < vR s 3 r) (h : Q (some (lI (lev (vR s) r))) s) : qC false (d + 2) 247 [lR 33 (some 0), lI (nI r)] s Q := by
  unfold lev at h
  rw [if_pos hw] at h
  have i7 : ((20 : Int32) + nI r).toNatClampNeg = ro 7 r := by
    rw [show (20 : Int32) = nI 20 from rfl, nI_add, nI_clamp (by omega)]
    unfold ro
    rw [if_pos (by decide)]
  have i6 : ((0 : Int32) + nI r).toNatClampNeg = ro 6 r := by
    rw [Int32.zero_add, nI_clamp (by omega)]
    unfold ro
    rw [if_pos (by decide)]
    omega
  have hv6 : qa_vin ((0 : Int32) + nI r) 279 := by rw [Int32.zero_add]; exact nI_in (by omega) (by decide)
  have hv7 : qa_vin ((20 : Int32) + nI r) 279 := by rw [show (20 : Int32) = nI 20 from rfl, nI_add]; exact nI_in (by omega) (by decide)
  have h2 : Q (some (lI (vR s 2 r + gI s 48 0 ((20 : Int32) + nI r).toNatClampNeg + gI s 48 0 ((0 : Int32) + nI r).toNatClampNeg / vR s 3 r))) s := by
    rw [i6, i7]
    exact h
  have nz : ¬ vR s 3 r = 0 := fun z => by
    rw [z] at hw
    exact absurd hw (by decide)
  refine qC_of rfl rfl ?_
  refine qa_t1_W (cut := []) 40 ?_
  refine h_itsV (w := 1) hr (by decide) (Exists.intro _ (And.intro rfl ?_))
  refine And.intro hv7 ?_
  refine And.intro hv6 ?_
  refine h_itsV (w := 2) hr (by decide) (Exists.intro _ (And.intro rfl ?_))
  exact And.intro nz h2
theorem h_nextLevelV {r : Nat} (hr : r < n) (hn : n ≤ 20) (hm : gI s 48 0 272 = nI n) (hw : r + 1 < n → 0 < vR s 3 (r + 1)) (h : Q (some (lI (if r + 1 < n then lev (vR s) (r + 1) else gI s 33 0 23))) s) : qC false (d + 3) 248 [lR 33 (some 0), lI (nI r)] s Q := by
  have hv : qa_vin (272 : Int32) 279 := vin_of (x := 272) (n := 279) (by decide) (by decide) (by decide)
  refine qC_of rfl rfl ?_
  refine qa_t1_W (cut := []) 40 ?_
  refine And.intro hv ?_
  have e : gI s 48 0 (272 : Int32).toNatClampNeg = nI n := hm
  by_cases g : r + 1 < n
  · rw [if_pos g] at h
    refine And.intro (fun _ => ?_) (fun c => ?_)
    · have go : qC false (d + 2) 247 [lR 33 (some 0), lI (nI r + 1)] s (fun rr m => ∃ v, rr = some (lI v) ∧ Q (some (lI v)) m) := by
        rw [nI_1]
        exact h_levelOfV (by omega) (hw g) (Exists.intro _ (And.intro rfl h))
      exact go
    · have c : ¬ nI r + 1 < gI s 48 0 (272 : Int32).toNatClampNeg := c
      rw [e, nI_1] at c
      exact absurd (nI_lt g (by omega)) c
  · rw [if_neg g] at h
    refine And.intro (fun c => ?_) (fun _ => ?_)
    · have c : nI r + 1 < gI s 48 0 (272 : Int32).toNatClampNeg := c
      rw [e, nI_1] at c
      exact absurd c (nI_nlt (by omega) (by omega))
    · exact h
end LR2
