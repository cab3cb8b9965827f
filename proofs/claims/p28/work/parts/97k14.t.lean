/-! WATER moves: the class. -/
/-- water moves on by the flows -/
def p3F (X : Nat → Nat → Int32) (f r : Nat) : Int32 := if f = 6 then X 6 r + ((if 0 < r then X 10 (r - 1) else 0) - X 10 r) else X f r
/-- kept: all but some fields of the rows, and a cell of what is dug -/
def k2c (fs cs : List Nat) (dg : Nat) (s m : LMem) : Prop := (∀ k i j, ¬ (k = 21 ∧ (20 * dg ≤ i ∧ i < 20 * dg + 20) ∧ j ∈ fs) → ¬ (k = 17 ∧ i = dg ∧ j ∈ cs) → gI m k i j = gI s k i j) ∧ (∀ k i j, gL m k i j = gL s k i j) ∧ ∀ k i j, gR m k i j = gR s k i j
theorem k2c_0 {fs cs : List Nat} {dg : Nat} {s : LMem} : k2c fs cs dg s s := ⟨fun _ _ _ _ _ => rfl, fun _ _ _ => rfl, fun _ _ _ => rfl⟩
theorem k2c_s {fs cs : List Nat} {dg r f : Nat} {v : Int32} {s m : LMem} (hr : r < 20) (hf : f ∈ fs) (h : k2c fs cs dg s m) : k2c fs cs dg s (sI m 21 (20 * dg + r) f v) := by
  refine ⟨fun k i j g g2 => ?_, h.2.1, h.2.2⟩
  rw [gI_sI, if_neg (fun q => g ⟨q.1, by omega, by rw [q.2.2]; exact hf⟩)]
  exact h.1 k i j g g2
theorem k2c_c {fs cs : List Nat} {dg f : Nat} {v : Int32} {s m : LMem} (hf : f ∈ cs) (h : k2c fs cs dg s m) : k2c fs cs dg s (sI m 17 dg f v) := by
  refine ⟨fun k i j g g2 => ?_, h.2.1, h.2.2⟩
  rw [gI_sI, if_neg (fun q => g2 ⟨q.1, q.2.1, by rw [q.2.2]; exact hf⟩)]
  exact h.1 k i j g g2
theorem vX_s {dg g k f r : Nat} {v : Int32} {m : LMem} : vX dg (sI m 21 (20 * dg + k) g v) f r = if f = g ∧ r = k then v else vX dg m f r := by
  show gI (sI m 21 (20 * dg + k) g v) 21 (20 * dg + r) f = _
  rw [gI_sI]
  by_cases e : f = g ∧ r = k
  · rw [if_pos e, if_pos ⟨rfl, by omega, e.1⟩]
  · rw [if_neg e, if_neg (fun q => e ⟨q.2.2, by omega⟩)]
section MW
variable {d dg n : Nat} {s : LMem} {Q : LPost}
/-- rows below k are done; row k has what came; the others are as they were -/
def mwI (dg n k : Nat) (s m : LMem) : Prop := ∀ f r, r < n → vX dg m f r = if f = 6 then (if r < k then p3F (vX dg s) 6 r else if r = k ∧ 0 < k then vX dg s 6 r + vX dg s 10 (r - 1) else vX dg s 6 r) else vX dg s f r
theorem mw_26 {bc bs k : Nat} {m : LMem} (hk : k < n) (nx : gR m 21 (20 * dg + k) 0 = nxR dg n (k + 1)) (h1 : k + 1 < n → ∀ m', m' = sI m 21 (20 * dg + (k + 1)) 6 (gI m 21 (20 * dg + (k + 1)) 6 + gI m 21 (20 * dg + k) 10) → qW false d 26 bc bs 5 [some (lR 17 (some dg)), some (lR 21 (gR m' 21 (20 * dg + k) 0))] [] m' Q) (h0 : ¬ k + 1 < n → ∀ m', m' = sI m 17 dg 11 (gI m 17 dg 11 + gI m 21 (20 * dg + k) 10) → qW false d 26 bc bs 5 [some (lR 17 (some dg)), some (lR 21 (gR m' 21 (20 * dg + k) 0))] [] m' Q) : qW false d 26 bc bs 26 [some (lR 17 (some dg)), some (lR 21 (some (20 * dg + k)))] [lR 21 (gR m 21 (20 * dg + k) 0)] m Q := by
  by_cases g : k + 1 < n
  · have e : gR m 21 (20 * dg + k) 0 = some (20 * dg + (k + 1)) := nx.trans (if_pos g)
    have go := h1 g _ rfl
    have c49 : qW false d 26 bc bs 49 [some (lR 17 (some dg)), some (lR 21 (some (20 * dg + k)))] [lR 21 (gR m 21 (20 * dg + k) 0)] m Q := by
      rw [e]
      refine qa_t1_W (cut := [5]) 20 ?_
      exact go
    rw [e]
    refine qa_t1_W (cut := [5, 49]) 20 ?_
    exact c49
  · have e : gR m 21 (20 * dg + k) 0 = none := nx.trans (if_neg g)
    rw [e]
    refine qa_t1_W (cut := [5]) 20 ?_
    exact h0 g _ rfl
theorem mw_l {bc bs : Nat} (hn : n ≤ 20) (hn1 : 1 ≤ n) (C : chR dg n s) (h : ∀ m, k2c [6] [11] dg s m → (∀ f r, r < n → vX dg m f r = p3F (vX dg s) f r) → gI m 17 dg 11 = gI s 17 dg 11 + vX dg s 10 (n - 1) → Q none m) : ∀ j k m, k + j = n → k2c [6] [11] dg s m → mwI dg n k s m → gI m 17 dg 11 = (if k < n then gI s 17 dg 11 else gI s 17 dg 11 + vX dg s 10 (n - 1)) → qW false d 26 bc bs 5 [some (lR 17 (some dg)), some (lR 21 (nxR dg n k))] [] m Q := by
  intro j
  induction j with
  | zero =>
    intro k m hk hm hI ho
    have hk : k = n := hk
    subst hk
    have e : nxR dg k k = none := if_neg (Nat.lt_irrefl k)
    rw [if_neg (Nat.lt_irrefl k)] at ho
    rw [e]
    refine qa_t1_W (cut := [5]) 20 ?_
    refine h m hm (fun f r hr => ?_) ho
    rw [hI f r hr]
    by_cases f6 : f = 6
    · rw [if_pos f6, if_pos hr, f6]
    · rw [if_neg f6]
      unfold p3F
      rw [if_neg f6]
  | succ j ih =>
    intro k m hk hm hI ho
    have hkn : k < n := by omega
    rw [if_pos hkn] at ho
    have e : nxR dg n k = some (20 * dg + k) := if_pos hkn
    rw [e]
    have w6 : gI m 21 (20 * dg + k) 6 = vX dg s 6 k + (if 0 < k then vX dg s 10 (k - 1) else 0) := by
      have a := hI 6 k hkn
      rw [if_pos rfl, if_neg (Nat.lt_irrefl k)] at a
      refine a.trans ?_
      by_cases g : 0 < k
      · rw [if_pos ⟨rfl, g⟩, if_pos g]
      · rw [if_neg (fun q => g q.2), if_neg g, Int32.add_zero]
    have w10 : gI m 21 (20 * dg + k) 10 = vX dg s 10 k := by
      have a := hI 10 k hkn
      rw [if_neg (by decide)] at a
      exact a
    have m1 : ∀ f r, vX dg (sI m 21 (20 * dg + k) 6 (gI m 21 (20 * dg + k) 6 - gI m 21 (20 * dg + k) 10)) f r = if f = 6 ∧ r = k then p3F (vX dg s) 6 k else vX dg m f r := fun f r => by
      rw [vX_s]
      by_cases g : f = 6 ∧ r = k
      · rw [if_pos g, if_pos g, w6, w10]
        unfold p3F
        rw [if_pos rfl, Int32.sub_eq_add_neg, Int32.sub_eq_add_neg, Int32.add_assoc]
      · rw [if_neg g, if_neg g]
    have k1 : k2c [6] [11] dg s (sI m 21 (20 * dg + k) 6 (gI m 21 (20 * dg + k) 6 - gI m 21 (20 * dg + k) 10)) := k2c_s (by omega) (by decide) hm
    have go : ∀ m0, m0 = sI m 21 (20 * dg + k) 6 (gI m 21 (20 * dg + k) 6 - gI m 21 (20 * dg + k) 10) → qW false d 26 bc bs 26 [some (lR 17 (some dg)), some (lR 21 (some (20 * dg + k)))] [lR 21 (gR m0 21 (20 * dg + k) 0)] m0 Q := fun m0 e0 => by
      rw [← e0] at m1 k1
      have nx : gR m0 21 (20 * dg + k) 0 = nxR dg n (k + 1) := by rw [k1.2.2]; exact C.2 k hkn
      have f10 : gI m0 21 (20 * dg + k) 10 = vX dg s 10 k := by
        have a := m1 10 k
        rw [if_neg (fun q => absurd q.1 (by decide))] at a
        exact a.trans w10
      have o0 : gI m0 17 dg 11 = gI s 17 dg 11 := by
        rw [e0, gI_sI, if_neg (fun q => absurd q.1 (by decide))]
        exact ho
      refine mw_26 (n := n) hkn nx (fun g m' em => ?_) (fun g m' em => ?_)
      · have k3 : k2c [6] [11] dg s m' := by rw [em]; exact k2c_s (by omega) (by decide) k1
        have nx' : gR m' 21 (20 * dg + k) 0 = nxR dg n (k + 1) := by rw [k3.2.2]; exact C.2 k hkn
        rw [nx']
        refine ih (k + 1) m' (by omega) k3 (fun f r hr => ?_) ?_
        · rw [em, vX_s]
          by_cases c : f = 6 ∧ r = k + 1
          · obtain ⟨c1, c2⟩ := c
            subst c1 c2
            have a := m1 6 (k + 1)
            rw [if_neg (fun q => by omega), hI 6 (k + 1) hr, if_pos rfl, if_neg (by omega), if_neg (fun q => by omega)] at a
            rw [if_pos ⟨rfl, rfl⟩, if_pos rfl, if_neg (Nat.lt_irrefl _), if_pos ⟨rfl, Nat.succ_pos k⟩, f10, show k + 1 - 1 = k from rfl]
            exact congrArg (· + vX dg s 10 k) a
          · rw [if_neg c, m1]
            by_cases c2 : f = 6 ∧ r = k
            · obtain ⟨c1, c2⟩ := c2
              subst c1 c2
              rw [if_pos ⟨rfl, rfl⟩, if_pos rfl, if_pos (Nat.lt_succ_self r)]
            · rw [if_neg c2, hI f r hr]
              by_cases f6 : f = 6
              · rw [if_pos f6, if_pos f6]
                by_cases g2 : r < k
                · rw [if_pos g2, if_pos (by omega)]
                · have nk : r ≠ k := fun q => c2 ⟨f6, q⟩
                  rw [if_neg g2, if_neg (show ¬ (r = k ∧ 0 < k) from fun q => nk q.1), if_neg (show ¬ r < k + 1 by omega), if_neg (show ¬ (r = k + 1 ∧ 0 < k + 1) from fun q => c ⟨f6, q.1⟩)]
              · rw [if_neg f6, if_neg f6]
        · rw [if_pos g, em, gI_sI, if_neg (fun q => absurd q.1 (by decide)), o0]
      · have k3 : k2c [6] [11] dg s m' := by rw [em]; exact k2c_c (by decide) k1
        have nx' : gR m' 21 (20 * dg + k) 0 = nxR dg n (k + 1) := by rw [k3.2.2]; exact C.2 k hkn
        rw [nx']
        refine ih (k + 1) m' (by omega) k3 (fun f r hr => ?_) ?_
        · have a : vX dg m' f r = vX dg m0 f r := by
            rw [em]
            show gI (sI m0 17 dg 11 _) 21 _ f = _
            rw [gI_sI, if_neg (fun q => absurd q.1 (by decide))]
          rw [a, m1]
          by_cases c2 : f = 6 ∧ r = k
          · obtain ⟨c1, c2⟩ := c2
            subst c1 c2
            rw [if_pos ⟨rfl, rfl⟩, if_pos rfl, if_pos (Nat.lt_succ_self r)]
          · rw [if_neg c2, hI f r hr]
            by_cases f6 : f = 6
            · rw [if_pos f6, if_pos f6]
              have g2 : r < k := by
                rcases Nat.lt_or_ge r k with z | z
                · exact z
                · exact absurd ⟨f6, by omega⟩ c2
              rw [if_pos g2, if_pos (by omega)]
            · rw [if_neg f6, if_neg f6]
        · rw [if_neg g, em, gI_sI, if_pos ⟨rfl, rfl, rfl⟩, o0, f10, show n - 1 = k by omega]
    refine qa_t1_W (cut := [5, 26]) 60 ?_
    exact go _ rfl
theorem h_moveWaterV (hn : n ≤ 20) (hn1 : 1 ≤ n) (C : chR dg n s) (h : ∀ m, k2c [6] [11] dg s m → (∀ f r, r < n → vX dg m f r = p3F (vX dg s) f r) → gI m 17 dg 11 = gI s 17 dg 11 + vX dg s 10 (n - 1) → Q none m) : qC false (d + 1) 26 [lR 17 (some dg)] s Q := by
  have main := mw_l (d := d) (bc := 0) (bs := 0) hn hn1 C h n 0 s (Nat.zero_add _) k2c_0 (fun f r _ => by
    by_cases f6 : f = 6
    · rw [if_pos f6, if_neg (Nat.not_lt_zero r), if_neg (fun q => absurd q.2 (Nat.lt_irrefl 0)), f6]
    · rw [if_neg f6]) (by rw [if_pos (by omega)])
  rw [← C.1] at main
  refine qC_of rfl rfl ?_
  refine qa_t1_W (cut := [5]) 10 ?_
  exact main
end MW
/-! LOAD moves: the class. -/
def slF (c : Int32) : Int32 := if c = 0 then 2 else if c = 1 then 4 else 1
def fsF (c : Int32) : Int32 := if c = 0 then 12 else if c = 1 then 6 else 20
/-- from so fast on a row is cut -/
def cuP (X : Nat → Nat → Int32) (r : Nat) : Prop := fsF (X 1 r) < X 10 r ∧ 0 < X 7 r
/-- what goes on from row r -/
def goF (X : Nat → Nat → Int32) (r : Nat) : Int32 := if X 10 r < slF (X 1 r) then 0 else if fsF (X 1 r) < X 10 r ∧ 0 < X 7 r then X 9 r + 1 else X 9 r
def p4F (X : Nat → Nat → Int32) (f r : Nat) : Int32 := if f = 7 then (if X 10 r < slF (X 1 r) then X 7 r + X 9 r else if fsF (X 1 r) < X 10 r ∧ 0 < X 7 r then X 7 r - 1 else X 7 r) else if f = 9 then (if 0 < r then goF X (r - 1) else 0) else X f r
/-- cuts below row k, from c on -/
def cuA (X : Nat → Nat → Int32) (c : Int32) : Nat → Int32
  | 0 => c
  | k + 1 => if X 10 k < slF (X 1 k) then cuA X c k else if fsF (X 1 k) < X 10 k ∧ 0 < X 7 k then cuA X c k + 1 else cuA X c k
section ML
variable {d dg n : Nat} {s : LMem} {Q : LPost}
theorem h_slowV {row : Nat} (h : Q (some (lI (slF (gI s 21 row 1)))) s) : qC false (d + 1) 95 [lR 21 (some row)] s Q := by
  unfold slF at h
  refine qC_of rfl rfl ?_
  refine qa_t1_W (cut := []) 20 ?_
  refine And.intro (fun c => ?_) (fun c => ?_)
  · have c : gI s 21 row 1 = 0 := c
    rw [if_pos c] at h
    exact h
  · have c : ¬ gI s 21 row 1 = 0 := c
    rw [if_neg c] at h
    refine And.intro (fun c => ?_) (fun c => ?_)
    · have c : gI s 21 row 1 = 1 := c
      rw [if_pos c] at h
      exact h
    · have c : ¬ gI s 21 row 1 = 1 := c
      rw [if_neg c] at h
      exact h
theorem h_fastV {row : Nat} (h : Q (some (lI (fsF (gI s 21 row 1)))) s) : qC false (d + 1) 96 [lR 21 (some row)] s Q := by
  unfold fsF at h
  refine qC_of rfl rfl ?_
  refine qa_t1_W (cut := []) 20 ?_
  refine And.intro (fun c => ?_) (fun c => ?_)
  · have c : gI s 21 row 1 = 0 := c
    rw [if_pos c] at h
    exact h
  · have c : ¬ gI s 21 row 1 = 0 := c
    rw [if_neg c] at h
    refine And.intro (fun c => ?_) (fun c => ?_)
    · have c : gI s 21 row 1 = 1 := c
      rw [if_pos c] at h
      exact h
    · have c : ¬ gI s 21 row 1 = 1 := c
      rw [if_neg c] at h
      exact h
theorem ml_86 {bc bs row : Nat} {a b : Int32} {m : LMem} (h : qW false (d + 1) 27 bc bs 7 [some (lR 17 (some dg)), some (lI b), some (lR 21 (gR (sI m 21 row 9 a) 21 row 0)), some (lI b)] [] (sI m 21 row 9 a) Q) : qW false (d + 1) 27 bc bs 86 [some (lR 17 (some dg)), some (lI a), some (lR 21 (some row)), some (lI b)] [] m Q := by
  refine qa_t1_W (cut := [7]) 20 ?_
  exact h
def mlI (dg n k : Nat) (s m : LMem) : Prop := ∀ f r, r < n → vX dg m f r = if r < k then p4F (vX dg s) f r else vX dg s f r
def inF (X : Nat → Nat → Int32) (k : Nat) : Int32 := if 0 < k then goF X (k - 1) else 0
theorem ml_l {bc bs : Nat} (hn : n ≤ 20) (C : chR dg n s) (h : ∀ m, k2c [7, 9] [12, 13] dg s m → (∀ f r, r < n → vX dg m f r = p4F (vX dg s) f r) → gI m 17 dg 13 = cuA (vX dg s) (gI s 17 dg 13) n → gI m 17 dg 12 = gI s 17 dg 12 + inF (vX dg s) n → Q none m) : ∀ j k m o3, k + j = n → k2c [7, 9] [12, 13] dg s m → mlI dg n k s m → gI m 17 dg 13 = cuA (vX dg s) (gI s 17 dg 13) k → gI m 17 dg 12 = gI s 17 dg 12 → qW false (d + 1) 27 bc bs 7 [some (lR 17 (some dg)), some (lI (inF (vX dg s) k)), some (lR 21 (nxR dg n k)), o3] [] m Q := by
  intro j
  induction j with
  | zero =>
    intro k m o3 hk hm hI hc ho
    have hk : k = n := hk
    subst hk
    have e : nxR dg k k = none := if_neg (Nat.lt_irrefl k)
    have fin : Q none (sI m 17 dg 12 (gI m 17 dg 12 + inF (vX dg s) k)) := by
      refine h _ (k2c_c (by decide) hm) (fun f r hr => ?_) ?_ ?_
      · show gI (sI m 17 dg 12 _) 21 _ f = _
        rw [gI_sI, if_neg (fun q => absurd q.1 (by decide))]
        exact (hI f r hr).trans (if_pos hr)
      · rw [gI_sI, if_neg (fun q => absurd q.2.2 (by decide))]
        exact hc
      · rw [gI_sI, if_pos ⟨rfl, rfl, rfl⟩, ho]
    rw [e]
    refine qa_t1_W (cut := [7]) 20 ?_
    exact fin
  | succ j ih =>
    intro k m o3 hk hm hI hc ho
    have hkn : k < n := by omega
    have e : nxR dg n k = some (20 * dg + k) := if_pos hkn
    rw [e]
    have own : ∀ f, gI m 21 (20 * dg + k) f = vX dg s f k := fun f => (hI f k hkn).trans (if_neg (Nat.lt_irrefl k))
    -- a row is done
    have done : ∀ m' b, k2c [7, 9] [12, 13] dg s m' → (∀ f r, f ≠ 7 → vX dg m' f r = vX dg m f r) → (∀ r, r ≠ k → vX dg m' 7 r = vX dg m 7 r) → vX dg m' 7 k = p4F (vX dg s) 7 k → gI m' 17 dg 13 = cuA (vX dg s) (gI s 17 dg 13) (k + 1) → gI m' 17 dg 12 = gI s 17 dg 12 → b = goF (vX dg s) k → qW false (d + 1) 27 bc bs 86 [some (lR 17 (some dg)), some (lI (inF (vX dg s) k)), some (lR 21 (some (20 * dg + k))), some (lI b)] [] m' Q := fun m' b a1 a2 a3 a4 a5 a6 eb => by
      refine ml_86 ?_
      have k3 : k2c [7, 9] [12, 13] dg s (sI m' 21 (20 * dg + k) 9 (inF (vX dg s) k)) := k2c_s (by omega) (by decide) a1
      have nx : gR (sI m' 21 (20 * dg + k) 9 (inF (vX dg s) k)) 21 (20 * dg + k) 0 = nxR dg n (k + 1) := by rw [k3.2.2]; exact C.2 k hkn
      rw [nx, eb]
      refine ih (k + 1) _ (some (lI (goF (vX dg s) k))) (by omega) k3 (fun f r hr => ?_) ?_ ?_
      · rw [vX_s]
        by_cases c : f = 9 ∧ r = k
        · obtain ⟨c1, c2⟩ := c
          subst c1 c2
          rw [if_pos ⟨rfl, rfl⟩, if_pos (Nat.lt_succ_self r)]
          unfold p4F
          rw [if_neg (show ¬ (9 : Nat) = 7 by decide), if_pos (show (9 : Nat) = 9 from rfl)]
          rfl
        · rw [if_neg c]
          by_cases f7 : f = 7
          · subst f7
            by_cases g : r = k
            · rw [g, if_pos (Nat.lt_succ_self k), a4]
            · rw [a3 r g, hI 7 r hr]
              by_cases g2 : r < k
              · rw [if_pos g2, if_pos (by omega)]
              · rw [if_neg g2, if_neg (by omega)]
          · rw [a2 f r f7, hI f r hr]
            by_cases g2 : r < k
            · rw [if_pos g2, if_pos (by omega)]
            · rw [if_neg g2]
              by_cases g : r = k
              · rw [g, if_pos (Nat.lt_succ_self k)]
                unfold p4F
                rw [if_neg f7, if_neg (fun q => c ⟨q, g⟩)]
              · rw [if_neg (by omega)]
      · rw [gI_sI, if_neg (fun q => absurd q.1 (by decide))]
        exact a5
      · rw [gI_sI, if_neg (fun q => absurd q.1 (by decide))]
        exact a6
    have v7 : ∀ (m0 : LMem) v f r, vX dg (sI m0 21 (20 * dg + k) 7 v) f r = if f = 7 ∧ r = k then v else vX dg m0 f r := fun m0 v f r => vX_s
    refine qa_t1_W (cut := [7, 86]) 80 ?_
    refine h_slowV (Exists.intro _ (And.intro rfl ?_))
    refine And.intro (fun c => ?_) (fun c => ?_)
    · have c : gI m 21 (20 * dg + k) 10 < slF (gI m 21 (20 * dg + k) 1) := c
      rw [own 10, own 1] at c
      refine done (sI m 21 (20 * dg + k) 7 (gI m 21 (20 * dg + k) 7 + gI m 21 (20 * dg + k) 9)) 0 (k2c_s (by omega) (by decide) hm) (fun f r hf => by rw [v7, if_neg (fun q => hf q.1)]) (fun r hr => by rw [v7, if_neg (fun q => hr q.2)]) ?_ ?_ ?_ ?_
      · rw [v7, if_pos ⟨rfl, rfl⟩, own 7, own 9]
        unfold p4F
        rw [if_pos rfl, if_pos c]
      · rw [gI_sI, if_neg (fun q => absurd q.1 (by decide)), hc]
        show _ = (if _ then _ else _)
        rw [if_pos c]
      · rw [gI_sI, if_neg (fun q => absurd q.1 (by decide)), ho]
      · unfold goF
        rw [if_pos c]
    · have c : ¬ gI m 21 (20 * dg + k) 10 < slF (gI m 21 (20 * dg + k) 1) := c
      rw [own 10, own 1] at c
      have stay : ¬ (fsF (vX dg s 1 k) < vX dg s 10 k ∧ 0 < vX dg s 7 k) → qW false (d + 1) 27 bc bs 86 [some (lR 17 (some dg)), some (lI (inF (vX dg s) k)), some (lR 21 (some (20 * dg + k))), some (lI (gI m 21 (20 * dg + k) 9))] [] m Q := fun z => by
        refine done m _ hm (fun f r _ => rfl) (fun r _ => rfl) ?_ ?_ ho ?_
        · show gI m 21 (20 * dg + k) 7 = _
          rw [own 7]
          unfold p4F
          rw [if_pos rfl, if_neg c, if_neg z]
        · rw [hc]
          show _ = (if _ then _ else _)
          rw [if_neg c, if_neg z]
        · rw [own 9]
          unfold goF
          rw [if_neg c, if_neg z]
      refine h_fastV (Exists.intro _ (And.intro rfl ?_))
      refine And.intro (fun c2 => ?_) (fun c2 => stay (fun z => c2 (by
        show fsF (gI m 21 (20 * dg + k) 1) < gI m 21 (20 * dg + k) 10
        rw [own 10, own 1]
        exact z.1)))
      have c2 : fsF (gI m 21 (20 * dg + k) 1) < gI m 21 (20 * dg + k) 10 := c2
      rw [own 10, own 1] at c2
      refine And.intro (fun c3 => ?_) (fun c3 => stay (fun z => c3 (by
        show 0 < gI m 21 (20 * dg + k) 7
        rw [own 7]
        exact z.2)))
      have c3 : 0 < gI m 21 (20 * dg + k) 7 := c3
      rw [own 7] at c3
      have go : ∀ m7, m7 = sI m 21 (20 * dg + k) 7 (gI m 21 (20 * dg + k) 7 - 1) → qW false (d + 1) 27 bc bs 86 [some (lR 17 (some dg)), some (lI (inF (vX dg s) k)), some (lR 21 (some (20 * dg + k))), some (lI (gI m 21 (20 * dg + k) 9 + 1))] [] (sI m7 17 dg 13 (gI m7 17 dg 13 + 1)) Q := fun m7 e7 => by
        have a7 : ∀ f r, vX dg (sI m7 17 dg 13 (gI m7 17 dg 13 + 1)) f r = if f = 7 ∧ r = k then vX dg s 7 k - 1 else vX dg m f r := fun f r => by
          have a : vX dg (sI m7 17 dg 13 (gI m7 17 dg 13 + 1)) f r = vX dg m7 f r := by
            show gI (sI m7 17 dg 13 _) 21 _ f = _
            rw [gI_sI, if_neg (fun q => absurd q.1 (by decide))]
          rw [a, e7, v7, own 7]
        refine done _ _ (k2c_c (by decide) (by rw [e7]; exact k2c_s (by omega) (by decide) hm)) (fun f r hf => by rw [a7, if_neg (fun q => hf q.1)]) (fun r hr => by rw [a7, if_neg (fun q => hr q.2)]) ?_ ?_ ?_ ?_
        · rw [a7, if_pos ⟨rfl, rfl⟩]
          unfold p4F
          rw [if_pos rfl, if_neg c, if_pos ⟨c2, c3⟩]
        · rw [gI_sI, if_pos ⟨rfl, rfl, rfl⟩, e7, gI_sI, if_neg (fun q => absurd q.1 (by decide)), hc]
          show _ = (if _ then _ else _)
          rw [if_neg c, if_pos ⟨c2, c3⟩]
        · rw [gI_sI, if_neg (fun q => absurd q.2.2 (by decide)), e7, gI_sI, if_neg (fun q => absurd q.1 (by decide)), ho]
        · rw [own 9]
          unfold goF
          rw [if_neg c, if_pos ⟨c2, c3⟩]
      exact go _ rfl
theorem h_moveLoadV (hn : n ≤ 20) (C : chR dg n s) (h : ∀ m, k2c [7, 9] [12, 13] dg s m → (∀ f r, r < n → vX dg m f r = p4F (vX dg s) f r) → gI m 17 dg 13 = cuA (vX dg s) (gI s 17 dg 13) n → gI m 17 dg 12 = gI s 17 dg 12 + inF (vX dg s) n → Q none m) : qC false (d + 2) 27 [lR 17 (some dg)] s Q := by
  have main := ml_l (d := d) (bc := 0) (bs := 0) hn C h n 0 s none (Nat.zero_add _) k2c_0 (fun f r _ => by rw [if_neg (Nat.not_lt_zero r)]) rfl rfl
  rw [← C.1] at main
  refine qC_of rfl rfl ?_
  refine qa_t1_W (cut := [7]) 10 ?_
  exact main
end ML
