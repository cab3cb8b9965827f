/-! A ROUND of the reference, from its water on: what comes is cleared, rows settle, loads are laid. -/
/-- kept: all but letters, stack, what comes, some of now; draws where b says so -/
def kR (A : Nat → Prop) (b : Prop) (s m : LMem) : Prop := (∀ k i j, ¬ (k = 42 ∨ k = 43 ∨ k = 51) → ¬ (k = 48 ∧ i = 0 ∧ A j) → gI m k i j = gI s k i j) ∧ (∀ k i j, ¬ (b ∧ k = 33 ∧ i = 0 ∧ j = 29) → gL m k i j = gL s k i j) ∧ ∀ k i j, gR m k i j = gR s k i j
theorem kR_0 {A : Nat → Prop} {b : Prop} {s : LMem} : kR A b s s := ⟨fun _ _ _ _ _ => rfl, fun _ _ _ _ => rfl, fun _ _ _ => rfl⟩
theorem kR_tr {A A' B : Nat → Prop} {b b' c : Prop} {s m m2 : LMem} (h : kR A b s m) (h2 : kR A' b' m m2) (a1 : ∀ j, A j → B j) (a2 : ∀ j, A' j → B j) (a3 : b → c) (a4 : b' → c) : kR B c s m2 := ⟨fun k i j g1 g2 => (h2.1 k i j g1 (fun q => g2 ⟨q.1, q.2.1, a2 j q.2.2⟩)).trans (h.1 k i j g1 (fun q => g2 ⟨q.1, q.2.1, a1 j q.2.2⟩)), fun k i j g => (h2.2.1 k i j (fun q => g ⟨a4 q.1, q.2⟩)).trans (h.2.1 k i j (fun q => g ⟨a3 q.1, q.2⟩)), fun k i j => (h2.2.2 k i j).trans (h.2.2 k i j)⟩
theorem kR_m {A B : Nat → Prop} {b c : Prop} {s m : LMem} (h : kR A b s m) (a1 : ∀ j, A j → B j) (a3 : b → c) : kR B c s m := kR_tr h (kR_0 (A := A) (b := b)) a1 a1 a3 a3
theorem kR_s {A : Nat → Prop} {b : Prop} {j : Nat} {v : Int32} {s m : LMem} (hj : A j) (h : kR A b s m) : kR A b s (sI m 48 0 j v) := by
  refine ⟨fun k i j' g1 g => ?_, h.2.1, h.2.2⟩
  rw [gI_sI, if_neg (fun q => g ⟨q.1, q.2.1, by rw [q.2.2]; exact hj⟩)]
  exact h.1 k i j' g1 g
theorem kR_51 {A : Nat → Prop} {b : Prop} {i0 j : Nat} {v : Int32} {s m : LMem} (h : kR A b s m) : kR A b s (sI m 51 i0 j v) := by
  refine ⟨fun k i j' g1 g => ?_, h.2.1, h.2.2⟩
  rw [gI_sI, if_neg (fun q => g1 (Or.inr (Or.inr q.1)))]
  exact h.1 k i j' g1 g
/-- places of fields -/
def fA (fs : List Nat) (n j : Nat) : Prop := ∃ f, f ∈ fs ∧ ∃ r, r < n ∧ j = ro f r
theorem kR_48 {fs : List Nat} {n : Nat} {s m : LMem} (h : k48 fs n s m) : kR (fA fs n) False s m := ⟨fun k i j _ g2 => h.1 k i j (fun q => g2 ⟨q.1, q.2.1, q.2.2⟩), fun k i j _ => h.2.1 k i j, h.2.2⟩
theorem kR_4w {fs : List Nat} {n : Nat} {s m : LMem} (h : k4w fs n s m) : kR (fA fs n) False s m := ⟨fun k i j g1 g2 => h.1 k i j (fun q => g1 (q.elim Or.inl (fun q => Or.inr (Or.inl q)))) (fun q => g2 ⟨q.1, q.2.1, q.2.2⟩), fun k i j _ => h.2.1 k i j, h.2.2⟩
theorem kR_lk {A : Nat → Prop} {b : Prop} {s m : LMem} (h : lk_F s m) : kR A b s m := ⟨fun k i j g1 _ => h.1 k i j (fun q => g1 (q.elim Or.inl (fun q => Or.inr (Or.inl q)))), fun k i j _ => h.2.1 k i j, h.2.2⟩
theorem ro_260 {f r : Nat} (h1 : 1 ≤ f ∧ f ≤ 13) (h3 : r < 20) : ro f r < 260 := by
  unfold ro
  by_cases a : 6 ≤ f
  · rw [if_pos a]; omega
  · rw [if_neg a]; omega
theorem vR_51 {m : LMem} {i0 j f r : Nat} {v : Int32} : vR (sI m 51 i0 j v) f r = vR m f r := by
  unfold vR
  by_cases e : f = 14
  · rw [if_pos e, if_pos e]
  · rw [if_neg e, if_neg e, gI_sI, if_neg (fun q => absurd q.1 (by decide))]
theorem vR_c {m : LMem} {j f r : Nat} {v : Int32} (hj : 260 ≤ j) (hf : 1 ≤ f ∧ f ≤ 14) (hr : r < 20) : vR (sI m 48 0 j v) f r = vR m f r := by
  unfold vR
  by_cases e : f = 14
  · rw [if_pos e, if_pos e]
  · have := ro_260 (f := f) (r := r) (by omega) hr
    rw [if_neg e, if_neg e, gI_sI, if_neg (fun q => by have := q.2.2; omega)]
/-- a field that is not written -/
theorem vR_kR {A : Nat → Prop} {b : Prop} {s m : LMem} (h : kR A b s m) {f r : Nat} (hf : 1 ≤ f ∧ f ≤ 14) (hA : f ≠ 14 → ¬ A (ro f r)) : vR m f r = vR s f r := by
  unfold vR
  by_cases e : f = 14
  · rw [if_pos e, if_pos e]
  · rw [if_neg e, if_neg e, h.1 48 0 _ (by decide) (fun q => hA e q.2.2)]
theorem fA_n {fs : List Nat} {n f r : Nat} (hn : n ≤ 20) (hf : 1 ≤ f ∧ f ≤ 13) (hr : r < 20) (h : ∀ g, g ∈ fs → g ≠ f ∧ (1 ≤ g ∧ g ≤ 13)) : ¬ fA fs n (ro f r) := fun ⟨g, hg, q, hq, e⟩ => (h g hg).1 (ro_inj hf (h g hg).2 hr (by omega) e).1.symm
section RT
variable {d n : Nat} {s : LMem} {Q : LPost} {rain : Int32} {o4 o5 o6 o7 : Option LV}
def k51 (s m : LMem) : Prop := (∀ k i j, k ≠ 51 → gI m k i j = gI s k i j) ∧ (∀ k i j, gL m k i j = gL s k i j) ∧ ∀ k i j, gR m k i j = gR s k i j
theorem rcm_l {bc bs : Nat} (hn : n ≤ 20) (h : ∀ m o3, k51 s m → (∀ i, i ≤ n → gI m 51 0 i = 0) → qW false d 250 bc bs 221 [some (lR 33 (some 0)), some (lI rain), some (lI (nI n)), o3, o4, o5, o6, o7] [] m Q) : ∀ j k m, k + j = n + 1 → k51 s m → (∀ i, i < k → gI m 51 0 i = 0) → qW false d 250 bc bs 203 [some (lR 33 (some 0)), some (lI rain), some (lI (nI n)), some (lI (nI k)), o4, o5, o6, o7] [] m Q := by
  intro j
  induction j with
  | zero =>
    intro k m hk hm hI
    have hk : k = n + 1 := hk
    have hlt : nI n < nI k := nI_lt (by omega) (by omega)
    refine qa_t1_W (cut := [203, 221]) 20 ?_
    exact And.intro (fun _ => h m _ hm (fun i hi => hI i (by omega))) (fun c => absurd hlt c)
  | succ j ih =>
    intro k m hk hm hI
    have ek : (nI k).toNatClampNeg = k := nI_clamp (by omega)
    have hv : qa_vin (nI k) 21 := nI_in (by omega) (by decide)
    have hlt : ¬ nI n < nI k := nI_nlt (by omega) (by omega)
    have go : qW false d 250 bc bs 203 [some (lR 33 (some 0)), some (lI rain), some (lI (nI n)), some (lI (nI k + 1)), o4, o5, o6, o7] [] (sI m 51 0 (nI k).toNatClampNeg 0) Q := by
      rw [ek, nI_1]
      refine ih (k + 1) _ (by omega) ⟨fun k' i j' g => ?_, hm.2.1, hm.2.2⟩ (fun i hi => ?_)
      · rw [gI_sI, if_neg (fun q => g q.1)]
        exact hm.1 k' i j' g
      · rw [gI_sI]
        by_cases e : i = k
        · rw [if_pos ⟨rfl, rfl, e⟩]
        · rw [if_neg (fun q => e q.2.2)]
          exact hI i (by omega)
    refine qa_t1_W (cut := [203, 221]) 30 ?_
    exact And.intro (fun c => absurd c hlt) (fun _ => And.intro hv go)
/-- what has settled of rows below k -/
def rsI (n k : Nat) (s m : LMem) : Prop := kR (fun j => fA [7] n j ∨ j = 276) False s m ∧ (∀ r, r < n → vR m 7 r = if r < k then p4F (vR s) 7 r else vR s 7 r) ∧ (∀ i, i ≤ n → gI m 51 0 i = if 0 < i ∧ i ≤ k then goF (vR s) (i - 1) else 0) ∧ gI m 48 0 276 = cuA (vR s) (gI s 48 0 276) k
theorem rs_l {bc bs : Nat} (hn : n ≤ 20) (h : ∀ m o3, rsI n n s m → qW false (d + 2) 250 bc bs 239 [some (lR 33 (some 0)), some (lI rain), some (lI (nI n)), o3, o4, o5, o6, o7] [] m Q) : ∀ j k m, k + j = n → rsI n k s m → qW false (d + 2) 250 bc bs 223 [some (lR 33 (some 0)), some (lI rain), some (lI (nI n)), some (lI (nI k)), o4, o5, o6, o7] [] m Q := by
  intro j
  induction j with
  | zero =>
    intro k m hk hI
    have hk : k = n := hk
    subst hk
    refine qa_t1_W (cut := [223, 239]) 20 ?_
    refine And.intro (fun c => absurd c (nI_nlt (Nat.le_refl _) (by omega))) (fun _ => ?_)
    exact h m _ hI
  | succ j ih =>
    intro k m hk hI
    obtain ⟨hm, h7, h51, hcu⟩ := hI
    have hkn : k < n := by omega
    have hk20 : k < 20 := by omega
    have nA : ∀ f r, 1 ≤ f ∧ f ≤ 14 → f ≠ 7 → r < 20 → vR m f r = vR s f r := fun f r hf hf7 hr => vR_kR hm hf (fun f14 q => by
      rcases q with q | q
      · exact fA_n hn (by omega) hr (fun g hg => by
          have hg : g = 7 := List.mem_singleton.mp hg
          subst hg
          exact ⟨fun q => hf7 q.symm, by decide⟩) q
      · have := ro_260 (f := f) (r := r) (by omega) hr
        omega)
    have e7 : vR m 7 k = vR s 7 k := by rw [h7 k hkn, if_neg (Nat.lt_irrefl k)]
    have e1 := nA 1 k (by decide) (by decide) hk20
    have e9 := nA 9 k (by decide) (by decide) hk20
    have e10 := nA 10 k (by decide) (by decide) hk20
    have ek : gI m 51 0 (k + 1) = 0 := by rw [h51 (k + 1) (by omega), if_neg (by omega)]
    have r7 : ro 7 k = 20 * 1 + k := if_pos (by decide)
    have a7 : fA [7] n (ro 7 k) := ⟨7, by decide, k, hkn, rfl⟩
    have step : ∀ m', kR (fun j => fA [7] n j ∨ j = 276) False s m' → (∀ r, r < n → vR m' 7 r = if r = k then p4F (vR s) 7 k else vR m 7 r) → (∀ i, i ≤ n → gI m' 51 0 i = if i = k + 1 then goF (vR s) k else gI m 51 0 i) → gI m' 48 0 276 = cuA (vR s) (gI s 48 0 276) (k + 1) → qW false (d + 2) 250 bc bs 223 [some (lR 33 (some 0)), some (lI rain), some (lI (nI n)), some (lI (nI k + 1)), o4, o5, o6, o7] [] m' Q := fun m' a b b2 c => by
      rw [nI_1]
      refine ih (k + 1) m' (by omega) ⟨a, fun r hr => ?_, fun i hi => ?_, c⟩
      · rw [b r hr]
        by_cases g : r = k
        · rw [if_pos g, g, if_pos (Nat.lt_succ_self k)]
        · rw [if_neg g, h7 r hr]
          by_cases g2 : r < k
          · rw [if_pos g2, if_pos (by omega)]
          · rw [if_neg g2, if_neg (by omega)]
      · rw [b2 i hi]
        by_cases g : i = k + 1
        · have e : i - 1 = k := by omega
          rw [if_pos g, if_pos ⟨by omega, by omega⟩, e]
        · rw [if_neg g, h51 i hi]
          by_cases g2 : 0 < i ∧ i ≤ k
          · rw [if_pos g2, if_pos ⟨g2.1, by omega⟩]
          · rw [if_neg g2, if_neg (fun q => g2 ⟨q.1, by omega⟩)]
    have H : stH m k (fun rr m' => rr = none ∧ qW false (d + 2) 250 bc bs 223 [some (lR 33 (some 0)), some (lI rain), some (lI (nI n)), some (lI (nI k + 1)), o4, o5, o6, o7] [] m' Q) := by
      refine ⟨fun c => ⟨rfl, ?_⟩, fun c c2 => ⟨rfl, ?_⟩, fun c c2 m1 m2 m3 q1 q2 q3 => ⟨rfl, ?_⟩⟩
      · rw [e10, e1] at c
        refine step _ (kR_s (Or.inl a7) hm) (fun r hr => ?_) (fun i hi => ?_) ?_
        · rw [vR_s (by decide) (by decide) (by omega) hk20, e7, e9]
          by_cases g : r = k
          · rw [if_pos ⟨rfl, g⟩, if_pos g]
            unfold p4F
            rw [if_pos rfl, if_pos c]
          · rw [if_neg (fun q => g q.2), if_neg g]
        · rw [gI_sI, if_neg (fun q => absurd q.1 (by decide))]
          by_cases g : i = k + 1
          · rw [if_pos g, g, ek]
            unfold goF
            rw [if_pos c]
          · rw [if_neg g]
        · rw [gI_sI, if_neg (fun q => by have := q.2.2; omega), hcu]
          show _ = (if vR s 10 k < slF (vR s 1 k) then cuA (vR s) (gI s 48 0 276) k else _)
          rw [if_pos c]
      · rw [e10, e1] at c
        rw [e10, e1, e7] at c2
        refine step _ (kR_51 hm) (fun r hr => ?_) (fun i hi => ?_) ?_
        · rw [vR_51]
          by_cases g : r = k
          · rw [if_pos g, g, e7]
            unfold p4F
            rw [if_pos rfl, if_neg c, if_neg c2]
          · rw [if_neg g]
        · rw [gI_sI]
          by_cases g : i = k + 1
          · rw [if_pos ⟨rfl, rfl, g⟩, if_pos g, ek, e9, Int32.zero_add]
            unfold goF
            rw [if_neg c, if_neg c2]
          · rw [if_neg (fun q => g q.2.2), if_neg g]
        · rw [gI_sI, if_neg (fun q => absurd q.1 (by decide)), hcu]
          show _ = (if vR s 10 k < slF (vR s 1 k) then cuA (vR s) (gI s 48 0 276) k else if fsF (vR s 1 k) < vR s 10 k ∧ 0 < vR s 7 k then cuA (vR s) (gI s 48 0 276) k + 1 else cuA (vR s) (gI s 48 0 276) k)
          rw [if_neg c, if_neg c2]
      · rw [e10, e1] at c
        rw [e10, e1, e7] at c2
        have g17 : gI m1 48 0 (ro 7 k) = vR s 7 k := by
          rw [q1, gI_sI, if_neg (fun q => absurd q.1 (by decide))]
          exact e7
        have g151 : gI m1 51 0 (k + 1) = vR s 9 k := by
          rw [q1, gI_sI, if_pos ⟨rfl, rfl, rfl⟩, ek, e9, Int32.zero_add]
        have g251 : gI m2 51 0 (k + 1) = vR s 9 k := by
          rw [q2, gI_sI, if_neg (fun q => absurd q.1 (by decide)), g151]
        have k3 : kR (fun j => fA [7] n j ∨ j = 276) False s m3 := by
          rw [q3]
          refine kR_51 ?_
          rw [q2]
          refine kR_s (Or.inl a7) ?_
          rw [q1]
          exact kR_51 hm
        have v3 : ∀ r, r < n → vR m3 7 r = if r = k then vR s 7 k - 1 else vR m 7 r := fun r hr => by
          rw [q3, vR_51, q2, vR_s (by decide) (by decide) (by omega) hk20, g17]
          by_cases g : r = k
          · rw [if_pos ⟨rfl, g⟩, if_pos g]
          · rw [if_neg (fun q => g q.2), if_neg g, q1, vR_51]
        have c3 : gI m3 48 0 276 = cuA (vR s) (gI s 48 0 276) k := by
          rw [q3, gI_sI, if_neg (fun q => absurd q.1 (by decide)), q2, gI_sI, if_neg (fun q => by have := q.2.2; omega), q1, gI_sI, if_neg (fun q => absurd q.1 (by decide)), hcu]
        refine step _ (kR_s (Or.inr rfl) k3) (fun r hr => ?_) (fun i hi => ?_) ?_
        · rw [vR_c (by decide) (by decide) (by omega), v3 r hr]
          by_cases g : r = k
          · rw [if_pos g, if_pos g]
            unfold p4F
            rw [if_pos rfl, if_neg c, if_pos c2]
          · rw [if_neg g, if_neg g]
        · rw [gI_sI, if_neg (fun q => absurd q.1 (by decide)), q3, gI_sI]
          by_cases g : i = k + 1
          · rw [if_pos ⟨rfl, rfl, g⟩, if_pos g, g251]
            unfold goF
            rw [if_neg c, if_pos c2]
          · rw [if_neg (fun q => g q.2.2), if_neg g, q2, gI_sI, if_neg (fun q => absurd q.1 (by decide)), q1, gI_sI, if_neg (fun q => g q.2.2)]
        · rw [gI_sI, if_pos ⟨rfl, rfl, rfl⟩, c3]
          show _ = (if vR s 10 k < slF (vR s 1 k) then cuA (vR s) (gI s 48 0 276) k else if fsF (vR s 1 k) < vR s 10 k ∧ 0 < vR s 7 k then cuA (vR s) (gI s 48 0 276) k + 1 else cuA (vR s) (gI s 48 0 276) k)
          rw [if_neg c, if_pos c2]
    refine qa_t1_W (cut := [223, 239]) 30 ?_
    refine And.intro (fun _ => ?_) (fun c => absurd (nI_lt (by omega) (by omega)) c)
    exact h_settleV hk20 H
/-- loads are laid -/
theorem rd_l {bc bs : Nat} (hn : n ≤ 20) (h : ∀ m o3, k48 [9] n s m → (∀ r, r < n → vR m 9 r = gI s 51 0 r) → qW false d 250 bc bs 267 [some (lR 33 (some 0)), some (lI rain), some (lI (nI n)), o3, o4, o5, o6, o7] [] m Q) : ∀ j k m, k + j = n → k48 [9] n s m → (∀ r, r < k → vR m 9 r = gI s 51 0 r) → qW false d 250 bc bs 241 [some (lR 33 (some 0)), some (lI rain), some (lI (nI n)), some (lI (nI k)), o4, o5, o6, o7] [] m Q := by
  intro j
  induction j with
  | zero =>
    intro k m hk hm hI
    have hk : k = n := hk
    subst hk
    refine qa_t1_W (cut := [241, 267]) 20 ?_
    refine And.intro (fun c => absurd c (nI_nlt (Nat.le_refl _) (by omega))) (fun _ => ?_)
    exact h m _ hm hI
  | succ j ih =>
    intro k m hk hm hI
    have hkn : k < n := by omega
    have hk20 : k < 20 := by omega
    obtain ⟨i9, e9⟩ := fxi (r := k) 9 60 hk20 (by decide) rfl
    have ek : (nI k).toNatClampNeg = k := nI_clamp (by omega)
    have hv : qa_vin (nI k) 21 := nI_in (by omega) (by decide)
    have go : qW false d 250 bc bs 241 [some (lR 33 (some 0)), some (lI rain), some (lI (nI n)), some (lI (nI k + 1)), o4, o5, o6, o7] [] (sI m 48 0 ((60 : Int32) + nI k).toNatClampNeg (gI m 51 0 (nI k).toNatClampNeg)) Q := by
      rw [e9, ek, nI_1]
      refine ih (k + 1) _ (by omega) (k48_s hkn (by decide) hm) (fun r hr => ?_)
      rw [vR_s (by decide) (by decide) (by omega) hk20]
      by_cases g : r = k
      · rw [if_pos ⟨rfl, g⟩, g, hm.1 51 0 k (fun q => absurd q.1 (by decide))]
      · rw [if_neg (fun q => g q.2)]
        exact hI r (by omega)
    refine qa_t1_W (cut := [241, 267]) 40 ?_
    refine And.intro (fun _ => ?_) (fun c => absurd (nI_lt (by omega) (by omega)) c)
    exact And.intro hv (And.intro i9 go)
/-- places that a round writes behind its water -/
def rtA (n j : Nat) : Prop := fA [7, 9] n j ∨ j = 274 ∨ j = 275 ∨ j = 276
theorem rt_179 {bc bs : Nat} (hn : n ≤ 20) (hn1 : 1 ≤ n) (h : ∀ m, kR (rtA n) False s m → (∀ f r, 1 ≤ f ∧ f ≤ 14 → r < n → vR m f r = p4F (vR s) f r) → gI m 48 0 276 = cuA (vR s) (gI s 48 0 276) n → Q none m) : qW false (d + 2) 250 bc bs 179 [some (lR 33 (some 0)), some (lI rain), some (lI (nI n)), some (lI (nI n)), o4, o5, o6, o7] [] s Q := by
  have v274 : qa_vin (274 : Int32) 279 := vin_of (x := 274) (n := 279) (by decide) (by decide) (by decide)
  have v275 : qa_vin (275 : Int32) 279 := vin_of (x := 275) (n := 279) (by decide) (by decide) (by decide)
  have eP : (80 : Int32) + nI n - 1 = nI (20 * 4 + (n - 1)) := by
    rw [show (80 : Int32) = nI 80 from rfl, nI_add, show 80 + n = (20 * 4 + (n - 1)) + 1 by omega, nI_pred]
  have vP : qa_vin ((80 : Int32) + nI n - 1) 279 := by rw [eP]; exact nI_in (by omega) (by decide)
  have vN : qa_vin (nI n) 21 := nI_in (by omega) (by decide)
  have tail : ∀ s1 x, s1 = sI s 48 0 (274 : Int32).toNatClampNeg x → qW false (d + 2) 250 bc bs 203 [some (lR 33 (some 0)), some (lI rain), some (lI (nI n)), some (lI 0), o4, o5, o6, o7] [] s1 Q := fun s1 x es => by
    have es : s1 = sI s 48 0 274 x := es
    have kS : kR (rtA n) False s s1 := by
      rw [es]
      exact kR_s (Or.inr (Or.inl rfl)) kR_0
    have vS : ∀ f r, 1 ≤ f ∧ f ≤ 14 → r < 20 → vR s1 f r = vR s f r := fun f r hf hr => by
      rw [es]
      exact vR_c (by decide) hf hr
    refine rcm_l (s := s1) hn (fun m1 o3 k1 z1 => ?_) (n + 1) 0 s1 (Nat.zero_add _) ⟨fun _ _ _ _ => rfl, fun _ _ _ => rfl, fun _ _ _ => rfl⟩ (fun i hi => absurd hi (Nat.not_lt_zero i))
    have k1' : kR (rtA n) False s m1 := kR_tr kS (show kR (rtA n) False s1 m1 from ⟨fun k i j g1 _ => k1.1 k i j (fun q => g1 (Or.inr (Or.inr q))), fun k i j _ => k1.2.1 k i j, k1.2.2⟩) (fun _ q => q) (fun _ q => q) (fun q => q) (fun q => q)
    have v1 : ∀ f r, 1 ≤ f ∧ f ≤ 14 → r < 20 → vR m1 f r = vR s f r := fun f r hf hr => by
      refine Eq.trans ?_ (vS f r hf hr)
      unfold vR
      rw [k1.1 48 0 _ (by decide)]
    have c1 : gI m1 48 0 276 = gI s 48 0 276 := by
      rw [k1.1 48 0 276 (by decide), es, gI_sI, if_neg (fun q => absurd q.2.2 (by decide))]
    refine qa_t1_W (cut := [223]) 10 ?_
    refine rs_l (s := m1) hn (fun m2 o3 I2 => ?_) n 0 m1 (Nat.zero_add _) ⟨kR_0, fun r _ => by rw [if_neg (Nat.not_lt_zero r)], fun i hi => by rw [if_neg (by omega)]; exact z1 i hi, rfl⟩
    obtain ⟨k2, a7, a51, acu⟩ := I2
    refine qa_t1_W (cut := [241]) 10 ?_
    refine rd_l (s := m2) hn (fun m3 o3 k3 a9 => ?_) n 0 m2 (Nat.zero_add _) k48_0 (fun r hr => absurd hr (Nat.not_lt_zero r))
    have eqX : eqn n (vR m1) (vR s) := fun f r hf hr => v1 f r hf (by omega)
    have k3' : kR (rtA n) False s m3 := kR_tr (kR_tr k1' k2 (B := rtA n) (c := False) (fun _ q => q) (fun j q => by
      rcases q with ⟨g, hg, r, hr, e⟩ | q
      · exact Or.inl ⟨g, by rw [List.mem_singleton.mp hg]; decide, r, hr, e⟩
      · exact Or.inr (Or.inr (Or.inr q))) (fun q => q) (fun q => q)) (kR_48 k3) (fun _ q => q) (fun j q => by
      obtain ⟨g, hg, r, hr, e⟩ := q
      exact Or.inl ⟨g, by rw [List.mem_singleton.mp hg]; decide, r, hr, e⟩) (fun q => q) (fun q => q)
    have o3 : ∀ f r, 1 ≤ f ∧ f ≤ 14 → f ≠ 9 → r < n → vR m3 f r = vR m2 f r := fun f r hf h9 hr => vR_kR (kR_48 k3) hf (fun f14 => fA_n hn (by omega) (by omega) (fun g hg => by
      have hg : g = 9 := List.mem_singleton.mp hg
      subst hg
      exact ⟨fun q => h9 q.symm, by decide⟩))
    have o2 : ∀ f r, 1 ≤ f ∧ f ≤ 14 → f ≠ 7 → r < n → vR m2 f r = vR m1 f r := fun f r hf h7 hr => vR_kR k2 hf (fun f14 q => by
      rcases q with q | q
      · exact fA_n hn (by omega) (by omega) (fun g hg => by
          have hg : g = 7 := List.mem_singleton.mp hg
          subst hg
          exact ⟨fun q => h7 q.symm, by decide⟩) q
      · have := ro_260 (f := f) (r := r) (by omega) (by omega)
        omega)
    have all : ∀ f r, 1 ≤ f ∧ f ≤ 14 → r < n → vR m3 f r = p4F (vR s) f r := fun f r hf hr => by
      refine Eq.trans ?_ (p4_c eqX f r hf hr)
      by_cases f9 : f = 9
      · subst f9
        rw [a9 r hr, a51 r (by omega)]
        show _ = (if 0 < r then goF (vR m1) (r - 1) else 0)
        by_cases g : 0 < r
        · rw [if_pos ⟨g, by omega⟩, if_pos g]
        · rw [if_neg (fun q => g q.1), if_neg g]
      · rw [o3 f r hf f9 hr]
        by_cases f7 : f = 7
        · subst f7
          rw [a7 r hr, if_pos hr]
        · rw [o2 f r hf f7 hr, p4_o f7 f9]
    have cu : gI m3 48 0 276 = cuA (vR s) (gI s 48 0 276) n := by
      have n276 : ¬ fA [9] n 276 := fun ⟨g, hg, r, hr, e⟩ => by
        have hg : g = 9 := List.mem_singleton.mp hg
        subst hg
        have := ro_260 (f := 9) (r := r) (by decide) (by omega)
        omega
      rw [(kR_48 k3).1 48 0 276 (by decide) (fun q => n276 q.2.2), acu, c1]
      exact cuA_c eqX n (Nat.le_refl _)
    have fin : ∀ y, Q none (sI m3 48 0 (275 : Int32).toNatClampNeg y) := fun y => by
      show Q none (sI m3 48 0 275 y)
      refine h _ (kR_s (Or.inr (Or.inr (Or.inl rfl))) k3') (fun f r hf hr => ?_) ?_
      · rw [vR_c (by decide) hf (by omega)]
        exact all f r hf hr
      · rw [gI_sI, if_neg (fun q => absurd q.2.2 (by decide))]
        exact cu
    refine qa_t1_W (cut := []) 30 ?_
    exact And.intro v275 (And.intro vN (And.intro v275 (fin _)))
  refine qa_t1_W (cut := [203]) 40 ?_
  exact And.intro v274 (And.intro vP (And.intro v274 (tail _ _ rfl)))
end RT
