/-! THE REFERENCE asks a law of a row. -/
/-- only letters and the stack are written -/
def lk_F (s m : LMem) : Prop := (∀ k i j, ¬ (k = 42 ∨ k = 43) → gI m k i j = gI s k i j) ∧ (∀ k i j, gL m k i j = gL s k i j) ∧ ∀ k i j, gR m k i j = gR s k i j
theorem lk_F0 {s : LMem} : lk_F s s := ⟨fun _ _ _ _ => rfl, fun _ _ _ => rfl, fun _ _ _ => rfl⟩
theorem vR_lk {s m : LMem} (h : lk_F s m) (f r : Nat) : vR m f r = vR s f r := by
  unfold vR
  rw [h.1 48 0 _ (by decide)]
/-- the first k letters are laid -/
def lts (L : Nat → Int32) (k : Nat) (m : LMem) : Prop := ∀ i, i < k → gI m 42 0 i = L i
theorem lts_s {L : Nat → Int32} {k : Nat} {v : Int32} {s m : LMem} (hm : lk_F s m) (hl : lts L k m) (hv : v = L k) : lk_F s (sI m 42 0 k v) ∧ lts L (k + 1) (sI m 42 0 k v) := by
  refine ⟨⟨fun k' i j g => ?_, hm.2.1, hm.2.2⟩, fun i hi => ?_⟩
  · rw [gI_sI, if_neg (fun q => g (Or.inl q.1))]
    exact hm.1 k' i j g
  · rw [gI_sI]
    by_cases e : i = k
    · rw [if_pos ⟨rfl, rfl, e⟩, hv, e]
    · rw [if_neg (fun q => e q.2.2)]
      exact hl i (by omega)
section AS
variable {d n nl r : Nat} {s : LMem} {Q : LPost} {cs : List Cz} {rain a : Int32}
abbrev Lr (s : LMem) (r : Nat) (a rain : Int32) (i : Nat) : Int32 := ltX (vR s) r a rain (nI i)
theorem fxi (f : Nat) (x : Int32) (hr : r < 20) (h : 6 ≤ f ∧ f ≤ 13) (e : x = nI (20 * (f - 6))) : qa_vin (x + nI r) 279 ∧ (x + nI r).toNatClampNeg = ro f r := by
  rw [e, nI_add]
  refine ⟨nI_in (by omega) (by decide), ?_⟩
  rw [nI_clamp (by omega)]
  unfold ro
  rw [if_pos h.1]
theorem v8i (k : Nat) (x : Int32) (h : k < 8) (e : x = nI k) : qa_vin x 8 ∧ x.toNatClampNeg = k := by
  rw [e]
  exact ⟨nI_in h (by decide), nI_clamp (by omega)⟩
theorem as_116 {bc bs : Nat} {m : LMem} (hnl : nl < 6) (hc : lcn nl s cs) (h1 : (flC cs).length ≤ 200) (h2 : cs.length ≤ 60) (hwr : lwR cs) (hm : lk_F s m) (hl : lts (Lr s r a rain) 8 m) (h : ∀ m, lk_F s m → Q (some (lI (wrV (fun i => ltX (vR s) r a rain i) cs))) m) : qW false (d + 5) 249 bc bs 116 [some (lR 33 (some 0)), some (lI (nI nl)), some (lI (nI r)), some (lI rain)] [] m Q := by
  refine qa_t1_W (cut := []) 20 ?_
  refine h_worthOfV (L := fun i => ltX (vR s) r a rain i) hnl (fun i hi => hl i hi) (lcn_M (fun k j g => hm.1 k 0 j (by omega)) h1 h2 hc) h1 h2 hwr fun m' w => Exists.intro _ (And.intro rfl ?_)
  refine h m' ⟨fun k i j g => ?_, fun k i j => (w.2.1 k i j).trans (hm.2.1 k i j), fun k i j => (w.2.2 k i j).trans (hm.2.2 k i j)⟩
  exact (w.1 k i j (fun q => g (Or.inr q.1))).trans (hm.1 k i j g)
theorem as_17 {bc bs : Nat} {m : LMem} (hr : r < 20) (hw : 0 < vR s 3 r) (hm : lk_F s m) (hl : lts (Lr s r a rain) 1 m) (h : ∀ m, lk_F s m → lts (Lr s r a rain) 8 m → qW false (d + 5) 249 bc bs 116 [some (lR 33 (some 0)), some (lI (nI nl)), some (lI (nI r)), some (lI rain)] [] m Q) : qW false (d + 5) 249 bc bs 17 [some (lR 33 (some 0)), some (lI (nI nl)), some (lI (nI r)), some (lI rain)] [] m Q := by
  have nz : ∀ {m}, lk_F s m → ¬ vR m 3 r = 0 := fun hm z => by
    rw [vR_lk hm] at z
    rw [z] at hw
    exact absurd hw (by decide)
  -- 100
  have s100 : ∀ m, lk_F s m → lts (Lr s r a rain) 7 m → qW false (d + 5) 249 bc bs 100 [some (lR 33 (some 0)), some (lI (nI nl)), some (lI (nI r)), some (lI rain)] [] m Q := fun m hm hl => by
    obtain ⟨i1, i2⟩ := fxi (r := r) 11 100 hr (by decide) rfl
    obtain ⟨j1, j2⟩ := v8i 7 7 (by decide) rfl
    have go : qW false (d + 5) 249 bc bs 116 [some (lR 33 (some 0)), some (lI (nI nl)), some (lI (nI r)), some (lI rain)] [] (sI m 42 0 (7 : Int32).toNatClampNeg (gI m 48 0 ((100 : Int32) + nI r).toNatClampNeg)) Q := by
      rw [i2, j2]
      obtain ⟨a1, a2⟩ := lts_s (v := gI m 48 0 (ro 11 r)) hm hl (vR_lk hm 11 r)
      exact h _ a1 a2
    refine qa_t1_W (cut := [116]) 20 ?_
    exact And.intro i1 (And.intro j1 go)
  have s92 : ∀ m, lk_F s m → lts (Lr s r a rain) 6 m → qW false (d + 5) 249 bc bs 92 [some (lR 33 (some 0)), some (lI (nI nl)), some (lI (nI r)), some (lI rain)] [] m Q := fun m hm hl => by
    obtain ⟨j1, j2⟩ := v8i 6 6 (by decide) rfl
    have go : qW false (d + 5) 249 bc bs 100 [some (lR 33 (some 0)), some (lI (nI nl)), some (lI (nI r)), some (lI rain)] [] (sI m 42 0 (6 : Int32).toNatClampNeg rain) Q := by
      rw [j2]
      obtain ⟨a1, a2⟩ := lts_s (v := rain) hm hl rfl
      exact s100 _ a1 a2
    refine qa_t1_W (cut := [100]) 20 ?_
    exact And.intro j1 go
  have s78 : ∀ m, lk_F s m → lts (Lr s r a rain) 5 m → qW false (d + 5) 249 bc bs 80 [some (lR 33 (some 0)), some (lI (nI nl)), some (lI (nI r)), some (lI rain)] [] m Q := fun m hm hl => by
    obtain ⟨j1, j2⟩ := v8i 5 5 (by decide) rfl
    have go : qW false (d + 5) 249 bc bs 92 [some (lR 33 (some 0)), some (lI (nI nl)), some (lI (nI r)), some (lI rain)] [] (sI m 42 0 (5 : Int32).toNatClampNeg (vR m 1 r)) Q := by
      rw [j2]
      obtain ⟨a1, a2⟩ := lts_s (v := vR m 1 r) hm hl (vR_lk hm 1 r)
      exact s92 _ a1 a2
    refine qa_t1_W (cut := [92]) 20 ?_
    refine h_itsV (w := 0) hr (by decide) (Exists.intro _ (And.intro rfl ?_))
    exact And.intro j1 go
  have s65 : ∀ m, lk_F s m → lts (Lr s r a rain) 4 m → qW false (d + 5) 249 bc bs 65 [some (lR 33 (some 0)), some (lI (nI nl)), some (lI (nI r)), some (lI rain)] [] m Q := fun m hm hl => by
    obtain ⟨i1, i2⟩ := fxi (r := r) 7 20 hr (by decide) rfl
    obtain ⟨j1, j2⟩ := v8i 4 4 (by decide) rfl
    have go : qW false (d + 5) 249 bc bs 80 [some (lR 33 (some 0)), some (lI (nI nl)), some (lI (nI r)), some (lI rain)] [] (sI m 42 0 (4 : Int32).toNatClampNeg (gI m 48 0 ((20 : Int32) + nI r).toNatClampNeg)) Q := by
      rw [i2, j2]
      obtain ⟨a1, a2⟩ := lts_s (v := gI m 48 0 (ro 7 r)) hm hl (vR_lk hm 7 r)
      exact s78 _ a1 a2
    refine qa_t1_W (cut := [80]) 20 ?_
    exact And.intro i1 (And.intro j1 go)
  have s53 : ∀ m, lk_F s m → lts (Lr s r a rain) 3 m → qW false (d + 5) 249 bc bs 53 [some (lR 33 (some 0)), some (lI (nI nl)), some (lI (nI r)), some (lI rain)] [] m Q := fun m hm hl => by
    obtain ⟨j1, j2⟩ := v8i 3 3 (by decide) rfl
    have go : qW false (d + 5) 249 bc bs 65 [some (lR 33 (some 0)), some (lI (nI nl)), some (lI (nI r)), some (lI rain)] [] (sI m 42 0 (3 : Int32).toNatClampNeg (vR m 3 r)) Q := by
      rw [j2]
      obtain ⟨a1, a2⟩ := lts_s (v := vR m 3 r) hm hl (vR_lk hm 3 r)
      exact s65 _ a1 a2
    refine qa_t1_W (cut := [65]) 20 ?_
    refine h_itsV (w := 2) hr (by decide) (Exists.intro _ (And.intro rfl ?_))
    exact And.intro j1 go
  have s38 : ∀ m, lk_F s m → lts (Lr s r a rain) 2 m → qW false (d + 5) 249 bc bs 38 [some (lR 33 (some 0)), some (lI (nI nl)), some (lI (nI r)), some (lI rain)] [] m Q := fun m hm hl => by
    obtain ⟨i1, i2⟩ := fxi (r := r) 8 40 hr (by decide) rfl
    obtain ⟨j1, j2⟩ := v8i 2 2 (by decide) rfl
    have go : qW false (d + 5) 249 bc bs 53 [some (lR 33 (some 0)), some (lI (nI nl)), some (lI (nI r)), some (lI rain)] [] (sI m 42 0 (2 : Int32).toNatClampNeg (gI m 48 0 ((40 : Int32) + nI r).toNatClampNeg)) Q := by
      rw [i2, j2]
      obtain ⟨a1, a2⟩ := lts_s (v := gI m 48 0 (ro 8 r)) hm hl (vR_lk hm 8 r)
      exact s53 _ a1 a2
    refine qa_t1_W (cut := [53]) 20 ?_
    exact And.intro i1 (And.intro j1 go)
  obtain ⟨i1, i2⟩ := fxi (r := r) 6 0 hr (by decide) rfl
  obtain ⟨j1, j2⟩ := v8i 1 1 (by decide) rfl
  have go : qW false (d + 5) 249 bc bs 38 [some (lR 33 (some 0)), some (lI (nI nl)), some (lI (nI r)), some (lI rain)] [] (sI m 42 0 (1 : Int32).toNatClampNeg (gI m 48 0 ((0 : Int32) + nI r).toNatClampNeg / vR m 3 r)) Q := by
    rw [i2, j2]
    obtain ⟨a1, a2⟩ := lts_s (v := gI m 48 0 (ro 6 r) / vR m 3 r) hm hl (by
      rw [show gI m 48 0 (ro 6 r) = vR s 6 r from vR_lk hm 6 r, vR_lk hm 3 r]
      show _ = (if 0 < vR s 3 r then vR s 6 r / vR s 3 r else 0)
      rw [if_pos hw])
    exact s38 _ a1 a2
  refine qa_t1_W (cut := [38]) 20 ?_
  refine And.intro i1 ?_
  refine h_itsV (w := 2) hr (by decide) (Exists.intro _ (And.intro rfl ?_))
  exact And.intro (nz hm) (And.intro j1 go)
theorem h_askedV (hn : n ≤ 20) (hr : r < n) (hm : gI s 48 0 272 = nI n) (hw : ∀ q, q < n → 0 < vR s 3 q) (hnl : nl < 6) (hc : lcn nl s cs) (h1 : (flC cs).length ≤ 200) (h2 : cs.length ≤ 60) (hwr : lwR cs) (h : ∀ m, lk_F s m → Q (some (lI (wrV (fun i => ltX (vR s) r (abv (gI s 33 0 23) n (vR s) r) rain i) cs))) m) : qC false (d + 6) 249 [lR 33 (some 0), lI (nI nl), lI (nI r), lI rain] s Q := by
  obtain ⟨j1, j2⟩ := v8i 0 0 (by decide) rfl
  have go : ∀ v, v = abv (gI s 33 0 23) n (vR s) r → qW false (d + 5) 249 (qa_cst 249).1 (qa_cst 249).2 17 [some (lR 33 (some 0)), some (lI (nI nl)), some (lI (nI r)), some (lI rain)] [] (sI s 42 0 (0 : Int32).toNatClampNeg v) Q := fun v ev => by
    rw [j2]
    obtain ⟨a1, a2⟩ := lts_s (L := Lr s r (abv (gI s 33 0 23) n (vR s) r) rain) (k := 0) (v := v) lk_F0 (fun i hi => absurd hi (Nat.not_lt_zero i)) ev
    exact as_17 (by omega) (hw r hr) a1 a2 fun m b1 b2 => as_116 hnl hc h1 h2 hwr b1 b2 h
  refine qC_of rfl rfl ?_
  refine qa_t1_W (cut := [17]) 40 ?_
  refine h_levelOfV (by omega) (hw r hr) (Exists.intro _ (And.intro rfl ?_))
  refine h_nextLevelV hr hn hm (fun g => hw _ g) (Exists.intro _ (And.intro rfl ?_))
  exact And.intro j1 (go _ rfl)
end AS
