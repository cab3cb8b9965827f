/-! THE REFERENCE'S READER: here, look, bad, number, readRain. -/
theorem x_sub1' {D : Nat} (hD : D ≤ 2000) (h1 : 1 ≤ D) : (nI D - 1).toInt = (D : Int) - 1 := by
  have h1 : (1 : Int32).toInt = 1 := by decide
  rw [y_subI, nI_toInt (by omega), h1]
  · rw [nI_toInt (by omega), h1]; omega
  · rw [nI_toInt (by omega), h1]; omega
/-- only `at`, `wrong`, `deep` are written -/
def rd_S (s m : LMem) : Prop := (∀ k i j, ¬ (k = 33 ∧ i = 0 ∧ (j = 3 ∨ j = 4 ∨ j = 5)) → gI m k i j = gI s k i j) ∧ (∀ k i j, gL m k i j = gL s k i j) ∧ ∀ k i j, gR m k i j = gR s k i j
theorem rd_0 {s : LMem} : rd_S s s := ⟨fun _ _ _ _ => rfl, fun _ _ _ => rfl, fun _ _ _ => rfl⟩
theorem rd_s {s m : LMem} {j : Nat} {v : Int32} (hj : j = 3 ∨ j = 4 ∨ j = 5) (h : rd_S s m) : rd_S s (sI m 33 0 j v) := by
  refine ⟨fun k i j' hn => ?_, h.2.1, h.2.2⟩
  rw [gI_sI, if_neg (fun q => hn (by obtain ⟨rfl, rfl, rfl⟩ := q; exact ⟨rfl, rfl, hj⟩))]
  exact h.1 k i j' hn
theorem rd_tr {s m m' : LMem} (h : rd_S s m) (h2 : rd_S m m') : rd_S s m' := ⟨fun k i j hn => (h2.1 k i j hn).trans (h.1 k i j hn), fun k i j => (h2.2.1 k i j).trans (h.2.1 k i j), fun k i j => (h2.2.2 k i j).trans (h.2.2 k i j)⟩
theorem rd_J {s m : LMem} (hJ : y_J x_X s) (h : rd_S s m) : y_J x_X m := by
  refine ⟨fun k i j r hr g1 g2 => ?_, ?_, x_X_cl s m (fun k i j hq => h.1 k i j (fun q => ?_)) hJ.2.2⟩
  · by_cases e : k = 33 ∧ i = 0 ∧ (j = 3 ∨ j = 4 ∨ j = 5)
    · obtain ⟨rfl, rfl, e⟩ := e
      have hr : r ∈ [((2 : Int), (2 : Int), (0 : Int), (200 : Int)), (13, 13, 0, 6), (14, 14, 0, 6), (21, 21, 0, 4), (22, 22, 0, 4), (35, 36, 0, 1)] := hr
      exfalso
      simp only [List.mem_cons, List.not_mem_nil, or_false] at hr
      rcases hr with rfl | rfl | rfl | rfl | rfl | rfl <;> (simp only [] at g1 g2; omega)
    · rw [h.1 k i j e]
      exact hJ.1 k i j r hr g1 g2
  · obtain ⟨r1, r2, r3, r4⟩ := hJ.2.1
    exact ⟨fun i q hq => r1 i q (by rw [← h.2.2]; exact hq), fun i q hq => r2 i q (by rw [← h.2.2]; exact hq), fun i q hq => r3 i q (by rw [← h.2.2]; exact hq), fun i q hq => r4 i q (by rw [← h.2.2]; exact hq)⟩
  · obtain ⟨rfl, _, q⟩ := q
    obtain ⟨r, hr, g1, g2⟩ := hq
    have hr : r ∈ [((13 : Int), (13 : Int)), (21, 22), (35, 35)] := hr
    simp only [List.mem_cons, List.not_mem_nil, or_false] at hr
    rcases hr with rfl | rfl | rfl <;> (simp only [] at g1 g2; omega)
/-- what stands at a place of the tape -/
def rch (s : LMem) (l p : Nat) : Int32 := if p < l then gI s 34 0 p else -1
theorem rch_eq {s m : LMem} {l p : Nat} (h : rd_S s m) : rch m l p = rch s l p := by
  unfold rch
  rw [h.1 34 0 p (fun q => absurd q.1 (by decide))]
section RD
variable {d bc bs l : Nat} {s : LMem} {Q : LPost}
theorem h_here {p : Nat} (hl : gI s 33 0 2 = nI l) (hl2 : l ≤ 200) (hp : gI s 33 0 3 = nI p) (hp2 : p < 2 ^ 31) (h : Q (some (lI (rch s l p))) s) : qC false (d + 1) 204 [lR 33 (some 0)] s Q := by
  refine qC_of rfl rfl ?_
  by_cases e : p < l
  · have c1 : gI s 33 0 3 < gI s 33 0 2 := by rw [hp, hl]; exact nI_lt e (by omega)
    have hv : qa_vin (gI s 33 0 3) 200 := by rw [hp]; exact nI_in (by omega) (by decide)
    have h3 : Q (some (lI (gI s 34 0 (gI s 33 0 3).toNatClampNeg))) s := by
      rw [hp, nI_clamp (by omega)]
      unfold rch at h
      rw [if_pos e] at h
      exact h
    refine qa_t1_W (cut := []) 30 ?_
    refine And.intro (fun _ => ?_) (fun q => absurd c1 q)
    exact And.intro hv h3
  · have c1 : ¬ gI s 33 0 3 < gI s 33 0 2 := by rw [hp, hl]; exact nI_nlt (by omega) hp2
    unfold rch at h
    rw [if_neg e] at h
    refine qa_t1_W (cut := []) 30 ?_
    exact And.intro (fun q => absurd q c1) (fun _ => h)
theorem lk_l (hl : gI s 33 0 2 = nI l) (hl2 : l ≤ 200) {p0 : Nat} (h : ∀ m q, rd_S s m → gI m 33 0 4 = gI s 33 0 4 → gI m 33 0 5 = gI s 33 0 5 → gI m 33 0 3 = nI q → p0 ≤ q → q ≤ max p0 l → rch s l q ≠ 32 → Q (some (lI (rch s l q))) m) : ∀ n p m, p + n = max p0 l → p < 2 ^ 31 → p0 ≤ p → rd_S s m → gI m 33 0 4 = gI s 33 0 4 → gI m 33 0 5 = gI s 33 0 5 → gI m 33 0 3 = nI p → qW false (d + 1) 205 bc bs 0 [some (lR 33 (some 0))] [] m Q := by
  intro n
  induction n with
  | zero =>
    intro p m hp hp2 h0 hm h4 h5 h3
    have hl3 : gI m 33 0 2 = nI l := by rw [hm.1 33 0 2 (fun q => by omega), hl]
    have hn : rch m l p = -1 := by unfold rch; rw [if_neg (by omega)]
    have hne : rch s l p ≠ 32 := by rw [← rch_eq hm, hn]; decide
    refine qa_t1_W (cut := [0]) 30 ?_
    refine h_here hl3 hl2 h3 hp2 (Exists.intro _ (And.intro rfl ?_))
    rw [rch_eq hm]
    refine And.intro (fun q => absurd q hne) (fun _ => ?_)
    refine h_here hl3 hl2 h3 hp2 (Exists.intro _ (And.intro rfl ?_))
    rw [rch_eq hm]
    exact h m p hm h4 h5 h3 h0 (by omega) hne
  | succ n ih =>
    intro p m hp hp2 h0 hm h4 h5 h3
    have hl3 : gI m 33 0 2 = nI l := by rw [hm.1 33 0 2 (fun q => by omega), hl]
    refine qa_t1_W (cut := [0]) 30 ?_
    refine h_here hl3 hl2 h3 hp2 (Exists.intro _ (And.intro rfl ?_))
    rw [rch_eq hm]
    refine And.intro (fun _ => ?_) (fun hne => ?_)
    · have ih2 : qW false (d + 1) 205 bc bs 0 [some (lR 33 (some 0))] [] (sI m 33 0 3 (gI m 33 0 3 + 1)) Q := by
        rw [h3, nI_1]
        refine ih (p + 1) _ (by omega) (by omega) (by omega) (rd_s (Or.inl rfl) hm) ?_ ?_ ?_
        · rw [gI_sI, if_neg (fun q => absurd q.2.2 (by decide)), h4]
        · rw [gI_sI, if_neg (fun q => absurd q.2.2 (by decide)), h5]
        · rw [gI_sI, if_pos ⟨rfl, rfl, rfl⟩]
      exact ih2
    · refine h_here hl3 hl2 h3 hp2 (Exists.intro _ (And.intro rfl ?_))
      rw [rch_eq hm]
      exact h m p hm h4 h5 h3 h0 (by omega) hne
theorem h_look {p : Nat} (hl : gI s 33 0 2 = nI l) (hl2 : l ≤ 200) (hp : gI s 33 0 3 = nI p) (hp2 : p ≤ 1000) (h : ∀ m q, rd_S s m → gI m 33 0 4 = gI s 33 0 4 → gI m 33 0 5 = gI s 33 0 5 → gI m 33 0 3 = nI q → p ≤ q → q ≤ max p l → rch s l q ≠ 32 → Q (some (lI (rch s l q))) m) : qC false (d + 2) 205 [lR 33 (some 0)] s Q :=
  qC_of rfl rfl (lk_l hl hl2 h (max p l - p) p s (by omega) (by omega) (Nat.le_refl _) rd_0 rfl rfl hp)
theorem h_dig12 {x : Int32} (h1 : dg x → Q (some (lI 1)) s) (h2 : ¬ dg x → Q (some (lI 0)) s) : qC false (d + 1) 207 [lI x] s Q := by
  refine qC_of rfl rfl ?_
  refine qa_t1_W (cut := []) 20 ?_
  refine And.intro (fun c => ?_) (fun c => ?_)
  · have c : x.toInt < 48 := Int32.lt_iff_toInt_lt.mp c
    exact And.intro (Or.inl rfl) (h2 (fun q => by have := q.1; omega))
  · have c : ¬ x.toInt < 48 := fun q => c (Int32.lt_iff_toInt_lt.mpr q)
    refine And.intro (fun c2 => ?_) (fun c2 => ?_)
    · have c2 : (57 : Int) < x.toInt := Int32.lt_iff_toInt_lt.mp c2
      exact And.intro (Or.inl rfl) (h2 (fun q => by have := q.2; omega))
    · have c2 : ¬ (57 : Int) < x.toInt := fun q => c2 (Int32.lt_iff_toInt_lt.mpr q)
      exact And.intro (Or.inr rfl) (h1 ⟨by omega, by omega⟩)
/-- bad: `wrong` is laid once -/
theorem h_bad {p : Nat} (hp : gI s 33 0 3 = nI p) (h1 : gI s 33 0 4 = -1 → Q none (sI s 33 0 4 (nI p))) (h2 : gI s 33 0 4 ≠ -1 → Q none (sI s 33 0 4 (gI s 33 0 4))) : qC false (d + 1) 206 [lR 33 (some 0)] s Q := by
  refine qC_of rfl rfl ?_
  have h1' : gI s 33 0 4 = -1 → Q none (sI s 33 0 4 (gI s 33 0 3)) := fun q => by rw [hp]; exact h1 q
  refine qa_t1_W (cut := []) 30 ?_
  exact And.intro (fun q => h1' q) (fun q => h2 q)
end RD
section RN
variable {d bc bs l : Nat} {s : LMem} {Q : LPost}
theorem nm_t {p q' : Nat} {lo hi v : Int32} {m : LMem} (hl : gI s 33 0 2 = nI l) (hl2 : l ≤ 200) (hp2 : p ≤ 1000) (hm : rd_S s m) (h3 : gI m 33 0 3 = nI q') (h4 : gI m 33 0 4 = gI s 33 0 4) (h5 : gI m 33 0 5 = gI s 33 0 5) (hq : p + 1 ≤ q') (hq2 : q' ≤ max p l) (h : ∀ m q v, rd_S s m → gI m 33 0 3 = nI q → p ≤ q → q ≤ max p l → gI m 33 0 5 = gI s 33 0 5 → ((gI m 33 0 4 = gI s 33 0 4 ∧ lo.toInt ≤ v.toInt ∧ v.toInt ≤ hi.toInt) ∨ gI m 33 0 4 ≠ -1) → Q (some (lI v)) m) : qW false (d + 2) 230 bc bs 67 [some (lR 33 (some 0)), some (lI lo), some (lI hi), some (lI v)] [] m Q := by
  have hl3 : gI m 33 0 2 = nI l := by rw [hm.1 33 0 2 (fun q => by omega), hl]
  have nne : ∀ z : Nat, z ≤ 1000 → nI z ≠ -1 := fun z hz q => by
    have q := congrArg Int32.toInt q
    rw [nI_toInt (by omega)] at q
    have e : (-1 : Int32).toInt = -1 := by decide
    rw [e] at q
    omega
  have bad : ∀ m' z x, rd_S s m' → z ≤ 1000 → gI m' 33 0 3 = nI z → p ≤ z → z ≤ max p l → gI m' 33 0 5 = gI s 33 0 5 → (x = nI z ∨ x = gI m' 33 0 4 ∧ gI m' 33 0 4 ≠ -1) → Q (some (lI v)) (sI m' 33 0 4 x) := fun m' z x hm' hz k3 hz1 hz2 k5 hx => by
    refine h _ z v (rd_s (Or.inr (Or.inl rfl)) hm') ?_ hz1 hz2 ?_ (Or.inr ?_)
    · rw [gI_sI, if_neg (fun q => absurd q.2.2 (by decide)), k3]
    · rw [gI_sI, if_neg (fun q => absurd q.2.2 (by decide)), k5]
    · rw [gI_sI, if_pos ⟨rfl, rfl, rfl⟩]
      rcases hx with hx | hx
      · rw [hx]
        exact nne z hz
      · rw [hx.1]
        exact hx.2
  refine qa_t1_W (cut := []) 60 ?_
  refine h_here hl3 hl2 h3 (by omega) (Exists.intro _ (And.intro rfl ?_))
  refine h_dig12 (fun _ => Exists.intro 1 (And.intro rfl ?_)) (fun _ => Exists.intro 0 (And.intro rfl ?_))
  · refine And.intro (fun q => absurd q (by decide)) (fun _ => ?_)
    exact h_bad h3 (fun _ => And.intro rfl (bad m q' _ hm (by omega) h3 (by omega) hq2 h5 (Or.inl rfl))) (fun w => And.intro rfl (bad m q' _ hm (by omega) h3 (by omega) hq2 h5 (Or.inr ⟨rfl, w⟩)))
  · refine And.intro (fun _ => ?_) (fun q => absurd rfl q)
    refine h_in (fun g1 g2 => Exists.intro 1 (And.intro rfl ?_)) (fun _ => Exists.intro 0 (And.intro rfl ?_))
    · exact And.intro (fun q => absurd q (by decide)) (fun _ => h m q' v hm h3 (by omega) hq2 h5 (Or.inl ⟨h4, g1, g2⟩))
    · refine And.intro (fun _ => ?_) (fun q => absurd rfl q)
      have k3 : gI (sI m 33 0 3 (gI m 33 0 3 - 1)) 33 0 3 = nI (q' - 1) := by
        rw [gI_sI, if_pos ⟨rfl, rfl, rfl⟩, h3]
        apply Int32.toInt_inj.mp
        rw [x_sub1' (by omega) (by omega), nI_toInt (by omega)]
        omega
      have k4 : gI (sI m 33 0 3 (gI m 33 0 3 - 1)) 33 0 4 = gI m 33 0 4 := by rw [gI_sI, if_neg (fun q => absurd q.2.2 (by decide))]
      have k5 : gI (sI m 33 0 3 (gI m 33 0 3 - 1)) 33 0 5 = gI s 33 0 5 := by rw [gI_sI, if_neg (fun q => absurd q.2.2 (by decide)), h5]
      have hm2 := rd_s (s := s) (v := gI m 33 0 3 - 1) (Or.inl rfl : (3 : Nat) = 3 ∨ (3 : Nat) = 4 ∨ (3 : Nat) = 5) hm
      exact h_bad k3 (fun _ => And.intro rfl (bad _ (q' - 1) _ hm2 (by omega) k3 (by omega) (by omega) k5 (Or.inl rfl))) (fun w => And.intro rfl (bad _ (q' - 1) _ hm2 (by omega) k3 (by omega) (by omega) k5 (Or.inr ⟨rfl, w⟩)))
theorem rch_dg {p : Nat} (h : dg (rch s l p)) : p < l := by
  unfold rch at h
  by_cases e : p < l
  · exact e
  · rw [if_neg e] at h
    exact absurd h.1 (by decide)
theorem h_num12 {p : Nat} {lo hi : Int32} (hl : gI s 33 0 2 = nI l) (hl2 : l ≤ 200) (hp : gI s 33 0 3 = nI p) (hp2 : p ≤ 1000) (h : ∀ m q v, rd_S s m → gI m 33 0 3 = nI q → p ≤ q → q ≤ max p l → gI m 33 0 5 = gI s 33 0 5 → ((gI m 33 0 4 = gI s 33 0 4 ∧ lo.toInt ≤ v.toInt ∧ v.toInt ≤ hi.toInt) ∨ gI m 33 0 4 ≠ -1) → Q (some (lI v)) m) : qC false (d + 3) 230 [lR 33 (some 0), lI lo, lI hi] s Q := by
  refine qC_of rfl rfl ?_
  refine qa_t1_W (cut := [67]) 80 ?_
  refine h_look hl hl2 hp hp2 fun m q hm k4 k5 k3 hq hq2 _ => Exists.intro _ (And.intro rfl ?_)
  have hl3 : gI m 33 0 2 = nI l := by rw [hm.1 33 0 2 (fun q => by omega), hl]
  refine h_dig12 (fun hd => Exists.intro 1 (And.intro rfl ?_)) (fun hd => Exists.intro 0 (And.intro rfl ?_))
  · refine And.intro (fun q => absurd q (by decide)) (fun _ => ?_)
    have hql := rch_dg hd
    refine h_here hl3 hl2 k3 (by omega) (Exists.intro _ (And.intro rfl ?_))
    have j3 : gI (sI m 33 0 3 (gI m 33 0 3 + 1)) 33 0 3 = nI (q + 1) := by rw [gI_sI, if_pos ⟨rfl, rfl, rfl⟩, k3, nI_1]
    have j4 : gI (sI m 33 0 3 (gI m 33 0 3 + 1)) 33 0 4 = gI s 33 0 4 := by rw [gI_sI, if_neg (fun q => absurd q.2.2 (by decide)), k4]
    have j5 : gI (sI m 33 0 3 (gI m 33 0 3 + 1)) 33 0 5 = gI s 33 0 5 := by rw [gI_sI, if_neg (fun q => absurd q.2.2 (by decide)), k5]
    have hm2 := rd_s (s := s) (v := gI m 33 0 3 + 1) (Or.inl rfl : (3 : Nat) = 3 ∨ (3 : Nat) = 4 ∨ (3 : Nat) = 5) hm
    have hl4 : gI (sI m 33 0 3 (gI m 33 0 3 + 1)) 33 0 2 = nI l := by rw [hm2.1 33 0 2 (fun q => by omega), hl]
    refine h_here hl4 hl2 j3 (by omega) (Exists.intro _ (And.intro rfl ?_))
    refine h_dig12 (fun hd2 => Exists.intro 1 (And.intro rfl ?_)) (fun hd2 => Exists.intro 0 (And.intro rfl ?_))
    · refine And.intro (fun q => absurd q (by decide)) (fun _ => ?_)
      have hql2 := rch_dg hd2
      refine h_here hl4 hl2 j3 (by omega) (Exists.intro _ (And.intro rfl ?_))
      have i3 : gI (sI (sI m 33 0 3 (gI m 33 0 3 + 1)) 33 0 3 (gI (sI m 33 0 3 (gI m 33 0 3 + 1)) 33 0 3 + 1)) 33 0 3 = nI (q + 2) := by rw [gI_sI, if_pos ⟨rfl, rfl, rfl⟩, j3, nI_1]
      have i4 : gI (sI (sI m 33 0 3 (gI m 33 0 3 + 1)) 33 0 3 (gI (sI m 33 0 3 (gI m 33 0 3 + 1)) 33 0 3 + 1)) 33 0 4 = gI s 33 0 4 := by rw [gI_sI, if_neg (fun q => absurd q.2.2 (by decide)), j4]
      have i5 : gI (sI (sI m 33 0 3 (gI m 33 0 3 + 1)) 33 0 3 (gI (sI m 33 0 3 (gI m 33 0 3 + 1)) 33 0 3 + 1)) 33 0 5 = gI s 33 0 5 := by rw [gI_sI, if_neg (fun q => absurd q.2.2 (by decide)), j5]
      exact nm_t (p := p) (q' := q + 2) hl hl2 hp2 (rd_s (Or.inl rfl) hm2) i3 i4 i5 (by omega) (by omega) h
    · refine And.intro (fun _ => ?_) (fun q => absurd rfl q)
      exact nm_t (p := p) (q' := q + 1) hl hl2 hp2 hm2 j3 j4 j5 (by omega) (by omega) h
  · refine And.intro (fun _ => ?_) (fun q => absurd rfl q)
    have fin : ∀ x, (x = nI q ∨ x = gI m 33 0 4 ∧ gI m 33 0 4 ≠ -1) → Q (some (lI lo)) (sI m 33 0 4 x) := fun x hx => by
      refine h _ q lo (rd_s (Or.inr (Or.inl rfl)) hm) ?_ hq hq2 ?_ (Or.inr ?_)
      · rw [gI_sI, if_neg (fun q => absurd q.2.2 (by decide)), k3]
      · rw [gI_sI, if_neg (fun q => absurd q.2.2 (by decide)), k5]
      · rw [gI_sI, if_pos ⟨rfl, rfl, rfl⟩]
        rcases hx with hx | hx
        · rw [hx]
          intro g
          have g := congrArg Int32.toInt g
          rw [nI_toInt (by omega)] at g
          have e : (-1 : Int32).toInt = -1 := by decide
          rw [e] at g
          omega
        · rw [hx.1]
          exact hx.2
    exact h_bad k3 (fun _ => And.intro rfl (fin _ (Or.inl rfl))) (fun w => And.intro rfl (fin _ (Or.inr ⟨rfl, w⟩)))
end RN
