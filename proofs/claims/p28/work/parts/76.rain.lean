/-! readRain; text and fault of a rain. -/
theorem rn_J {s : LMem} {k j : Nat} {v : Int32} (hJ : y_J x_X s) (hk : k = 46 ∨ k = 47) (h1 : ∀ r ∈ y_B k, r.1 ≤ (j : Int) → (j : Int) ≤ r.2.1 → r.2.2.1 ≤ v.toInt ∧ v.toInt ≤ r.2.2.2) : y_J x_X (sI s k 0 j v) := by
  obtain ⟨j1, j2, j3⟩ := hJ
  have other : ∀ k' j', k' ≠ 46 → k' ≠ 47 → gI (sI s k 0 j v) k' 0 j' = gI s k' 0 j' := fun k' j' g1 g2 => by
    rw [gI_sI, if_neg (fun q => by rcases hk with e | e <;> omega)]
  refine ⟨y_JB_sI j1 h1, j2, x_law_cl (x_sm_same fun k' j' hk' => other k' j' ?_ ?_) j3.1, x_told_cl (x_sm_same fun k' j' hk' => other k' j' ?_ ?_) j3.2.1, x_row_cl (Or.inl rfl) (x_sm_same fun k' j' hk' => other k' j' ?_ ?_) j3.2.2.1, x_row_cl (Or.inr (Or.inl rfl)) (x_sm_same fun k' j' hk' => other k' j' ?_ ?_) j3.2.2.2.1, x_row_cl (Or.inr (Or.inr rfl)) (x_sm_same fun k' j' hk' => other k' j' ?_ ?_) j3.2.2.2.2.1, fun q => ?_⟩
  iterate 10
    · rintro rfl
      exact absurd hk' (by decide)
  · have e1 : xI (sI s k 0 j v) 33 35 = xI s 33 35 := by unfold xI; rw [other 33 35 (by decide) (by decide)]
    have e2 : xI (sI s k 0 j v) 33 13 = xI s 33 13 := by unfold xI; rw [other 33 13 (by decide) (by decide)]
    rw [e1] at q
    rw [e2]
    exact j3.2.2.2.2.2 q
theorem rd_W {W : List YW} {s m : LMem} (hW : (33, (0 : Int), (0 : Int), (3 : Int), (5 : Int)) ∈ W) (h : rd_S s m) : y_Fr W s m := fun k i j hn => by
  refine ⟨h.1 k i j (fun q => hn ?_), h.2.1 k i j, h.2.2 k i j⟩
  obtain ⟨rfl, rfl, q⟩ := q
  exact ⟨_, hW, rfl, ⟨Int.le_refl _, Int.le_refl _⟩, by show (3 : Int) ≤ (j : Int); omega, by show (j : Int) ≤ 5; omega⟩
abbrev rr_W : List YW := [(33, 0, 0, 3, 5), (46, 0, 0, 0, 4), (47, 0, 0, 0, 149)]
section RR
variable {d bc bs l r : Nat} {s : LMem} {Q : LPost}
theorem rr_t {o : Option LV} (hl : gI s 33 0 2 = nI l) (hl2 : l ≤ 200) (h : ∀ v m, y_J x_X m → y_Fr rr_W s m → Q (some (lI v)) m) {p : Nat} {m : LMem} (hJ : y_J x_X m) (hF : y_Fr rr_W s m) (hp : gI m 33 0 3 = nI p) (hp2 : p ≤ 200) : qW false (d + 3) 234 bc bs 119 [some (lR 33 (some 0)), some (lI (nI r)), o] [] m Q := by
  have hl3 : gI m 33 0 2 = nI l := by rw [(hF 33 0 2 (x_nW 2 2 (by decide) (by decide) (by decide))).1, hl]
  refine qa_t1_W (cut := []) 40 ?_
  refine And.intro (fun _ => ?_) (fun _ => h _ m hJ hF)
  refine h_look hl3 hl2 hp (by omega) fun m1 q hm k4 k5 k3 hq hq2 _ => Exists.intro _ (And.intro rfl ?_)
  have fin : ∀ x, Q (some (lI (gI (sI m1 33 0 4 x) 33 0 4))) (sI m1 33 0 4 x) := fun x => by
    have hm2 := rd_s (s := m) (v := x) (Or.inr (Or.inl rfl) : (4 : Nat) = 3 ∨ (4 : Nat) = 4 ∨ (4 : Nat) = 5) hm
    exact h _ _ (rd_J hJ hm2) (y_Fr_tr2 hF (rd_W (by decide) hm2))
  refine And.intro (fun _ => h _ m1 (rd_J hJ hm) (y_Fr_tr2 hF (rd_W (by decide) hm))) (fun _ => ?_)
  exact h_bad k3 (fun _ => And.intro rfl (fin _)) (fun _ => And.intro rfl (fin _))
theorem rr_m {k q : Nat} {m2 : LMem} (hr : r ≤ 4) (hl : gI s 33 0 2 = nI l) (hl2 : l ≤ 200) (h : ∀ v m, y_J x_X m → y_Fr rr_W s m → Q (some (lI v)) m) (hk : k ≤ 29) (J2 : y_J x_X m2) (F2 : y_Fr rr_W s m2) (d2 : gI m2 46 0 r = nI (k + 1)) (a2 : gI m2 33 0 3 = nI q) (hq2 : q ≤ 200) (next : ∀ m p, k + 1 ≤ 29 → y_J x_X m → y_Fr rr_W s m → gI m 46 0 r = nI (k + 1) → gI m 33 0 3 = nI p → p ≤ 200 → qW false (d + 3) 234 bc bs 19 [some (lR 33 (some 0)), some (lI (nI r)), some (lI 1)] [] m Q) : qW false (d + 3) 234 bc bs 64 [some (lR 33 (some 0)), some (lI (nI r)), some (lI 1)] [] m2 Q := by
  have v5 : qa_vin (nI r) 5 := nI_in (by omega) (by decide)
  have er : (nI r).toNatClampNeg = r := nI_clamp (by omega)
  have z0 : ∀ m' q', y_J x_X m' → y_Fr rr_W s m' → gI m' 33 0 3 = nI q' → q' ≤ 200 → qW false (d + 3) 234 bc bs 19 [some (lR 33 (some 0)), some (lI (nI r)), some (lI 0)] [] (sI m' 33 0 3 (gI m' 33 0 3 + 0)) Q := fun m' q' J' F' k3 hq' => by
    have hm2 := rd_s (s := m') (v := gI m' 33 0 3 + 0) (Or.inl rfl : (3 : Nat) = 3 ∨ (3 : Nat) = 4 ∨ (3 : Nat) = 5) rd_0
    have g3 : gI (sI m' 33 0 3 (gI m' 33 0 3 + 0)) 33 0 3 = nI q' := by rw [gI_sI, if_pos ⟨rfl, rfl, rfl⟩, k3, show (0 : Int32) = nI 0 from rfl, nI_add]; rfl
    refine qa_t1_W (cut := [119]) 10 ?_
    exact And.intro (fun _ => rr_t hl hl2 h (rd_J J' hm2) (y_Fr_tr2 F' (rd_W (by decide) hm2)) g3 hq') (fun q => absurd rfl q)
  have hl4 : gI m2 33 0 2 = nI l := by rw [(F2 33 0 2 (x_nW 2 2 (by decide) (by decide) (by decide))).1, hl]
  have zz : ∀ m' q', y_J x_X m' → y_Fr rr_W s m' → gI m' 33 0 3 = nI q' → q' ≤ 200 → ((0 : Int32) = 0 → qW false (d + 3) 234 bc bs 19 [some (lR 33 (some 0)), some (lI (nI r)), some (lI 0)] [] (sI m' 33 0 3 (gI m' 33 0 3 + 0)) Q) := fun m' q' g1 g2 g3 g4 _ => z0 m' q' g1 g2 g3 g4
  refine qa_t1_W (cut := [19, 119]) 100 ?_
  refine And.intro (fun _ => ?_) (fun _ => ?_)
  · refine h_look hl4 hl2 a2 (by omega) fun m3 q3 hm3 _ _ c3 b1 b2 _ => Exists.intro _ (And.intro rfl ?_)
    have J3 := rd_J J2 hm3
    have F3 : y_Fr rr_W s m3 := y_Fr_tr2 F2 (rd_W (by decide) hm3)
    refine And.intro (fun c => ?_) (fun _ => ?_)
    · have hq3 : q3 < l := by
        unfold rch at c
        by_cases e : q3 < l
        · exact e
        · rw [if_neg e] at c
          exact absurd c (by decide)
      refine And.intro v5 ?_
      have e30 : gI m3 46 0 (nI r).toNatClampNeg = nI (k + 1) := by rw [er, hm3.1 46 0 r (fun q => absurd q.1 (by decide)), d2]
      refine And.intro (fun c2 => ?_) (fun _ => ?_)
      · have c2 : gI m3 46 0 (nI r).toNatClampNeg < 30 := c2
        rw [e30] at c2
        have c2 := Int32.lt_iff_toInt_lt.mp c2
        rw [nI_toInt (by omega)] at c2
        have t30 : (30 : Int32).toInt = 30 := by decide
        rw [t30] at c2
        have hm4 := rd_s (s := m3) (v := gI m3 33 0 3 + 1) (Or.inl rfl : (3 : Nat) = 3 ∨ (3 : Nat) = 4 ∨ (3 : Nat) = 5) rd_0
        have g3 : gI (sI m3 33 0 3 (gI m3 33 0 3 + 1)) 33 0 3 = nI (q3 + 1) := by rw [gI_sI, if_pos ⟨rfl, rfl, rfl⟩, c3, nI_1]
        have g46 : gI (sI m3 33 0 3 (gI m3 33 0 3 + 1)) 46 0 r = nI (k + 1) := by rw [hm4.1 46 0 r (fun q => absurd q.1 (by decide)), hm3.1 46 0 r (fun q => absurd q.1 (by decide)), d2]
        exact And.intro (fun q => absurd q (by decide)) (fun _ => next _ (q3 + 1) (by omega) (rd_J J3 hm4) (y_Fr_tr2 F3 (rd_W (by decide) hm4)) g46 g3 (by omega))
      · exact And.intro (zz m3 q3 J3 F3 c3 (by omega)) (fun q => absurd rfl q)
    · exact And.intro (zz m3 q3 J3 F3 c3 (by omega)) (fun q => absurd rfl q)
  · exact And.intro (zz m2 q J2 F2 a2 (by omega)) (fun q => absurd rfl q)
theorem rr_s {k p : Nat} {m : LMem} (hr : r ≤ 4) (hl : gI s 33 0 2 = nI l) (hl2 : l ≤ 200) (h : ∀ v m, y_J x_X m → y_Fr rr_W s m → Q (some (lI v)) m) (hk : k ≤ 29) (hJ : y_J x_X m) (hF : y_Fr rr_W s m) (h46 : gI m 46 0 r = nI k) (hp : gI m 33 0 3 = nI p) (hp2 : p ≤ 200) (next : ∀ m p, k + 1 ≤ 29 → y_J x_X m → y_Fr rr_W s m → gI m 46 0 r = nI (k + 1) → gI m 33 0 3 = nI p → p ≤ 200 → qW false (d + 3) 234 bc bs 19 [some (lR 33 (some 0)), some (lI (nI r)), some (lI 1)] [] m Q) : qW false (d + 3) 234 bc bs 19 [some (lR 33 (some 0)), some (lI (nI r)), some (lI 1)] [] m Q := by
  have hl3 : gI m 33 0 2 = nI l := by rw [(hF 33 0 2 (x_nW 2 2 (by decide) (by decide) (by decide))).1, hl]
  have v5 : qa_vin (nI r) 5 := nI_in (by omega) (by decide)
  have er : (nI r).toNatClampNeg = r := nI_clamp (by omega)
  have tail : qW false (d + 3) 234 bc bs 119 [some (lR 33 (some 0)), some (lI (nI r)), some (lI 1)] [] m Q := rr_t hl hl2 h hJ hF hp hp2
  have i1 : (30 : Int32) * nI r + gI m 46 0 (nI r).toNatClampNeg = nI (30 * r + k) := by rw [er, h46, show (30 : Int32) = nI 30 from rfl, nI_mul, nI_add]
  have v150 : qa_vin ((30 : Int32) * nI r + gI m 46 0 (nI r).toNatClampNeg) 150 := by rw [i1]; exact nI_in (by omega) (by decide)
  refine qa_t1_W (cut := [19, 64, 119]) 100 ?_
  refine And.intro (fun q => absurd q (by decide)) (fun _ => ?_)
  refine And.intro (fun _ => ?_) (fun _ => tail)
  refine And.intro v5 ?_
  refine h_num12 hl3 hl2 hp (by omega) fun m1 q v hm k3 hq hq2 k5 _ => Exists.intro _ (And.intro rfl ?_)
  refine And.intro v150 (And.intro v5 (And.intro v5 ?_))
  have J1 := rd_J hJ hm
  have F1 : y_Fr rr_W s m1 := y_Fr_tr2 hF (rd_W (by decide) hm)
  have h46' : gI (sI m1 47 0 ((30 : Int32) * nI r + gI m 46 0 (nI r).toNatClampNeg).toNatClampNeg v) 46 0 (nI r).toNatClampNeg = nI k := by rw [gI_sI, if_neg (fun q => absurd q.1 (by decide)), er, hm.1 46 0 r (fun q => absurd q.1 (by decide)), h46]
  have J2 : y_J x_X (sI (sI m1 47 0 ((30 : Int32) * nI r + gI m 46 0 (nI r).toNatClampNeg).toNatClampNeg v) 46 0 (nI r).toNatClampNeg (gI (sI m1 47 0 ((30 : Int32) * nI r + gI m 46 0 (nI r).toNatClampNeg).toNatClampNeg v) 46 0 (nI r).toNatClampNeg + 1)) := by
    rw [h46', nI_1]
    refine rn_J (rn_J J1 (Or.inr rfl) (fun _ hq => absurd hq List.not_mem_nil)) (Or.inl rfl) (fun r' hr' _ _ => ?_)
    have hr' : r' ∈ [((0 : Int), (4 : Int), (0 : Int), (30 : Int))] := hr'
    rw [List.mem_singleton.mp hr', nI_toInt (by omega)]
    show (0 : Int) ≤ ((k + 1 : Nat) : Int) ∧ ((k + 1 : Nat) : Int) ≤ 30
    omega
  have F2 : y_Fr rr_W s (sI (sI m1 47 0 ((30 : Int32) * nI r + gI m 46 0 (nI r).toNatClampNeg).toNatClampNeg v) 46 0 (nI r).toNatClampNeg (gI (sI m1 47 0 ((30 : Int32) * nI r + gI m 46 0 (nI r).toNatClampNeg).toNatClampNeg v) 46 0 (nI r).toNatClampNeg + 1)) := by
    rw [i1, er, nI_clamp (show 30 * r + k < 2 ^ 31 by omega)]
    refine y_Fr_sI (y_Fr_sI F1 ⟨(47, 0, 0, 0, 149), by decide, rfl, ⟨Int.le_refl _, Int.le_refl _⟩, ?_, ?_⟩) ⟨(46, 0, 0, 0, 4), by decide, rfl, ⟨Int.le_refl _, Int.le_refl _⟩, ?_, ?_⟩
    · show (0 : Int) ≤ ((30 * r + k : Nat) : Int); omega
    · show ((30 * r + k : Nat) : Int) ≤ 149; omega
    · show (0 : Int) ≤ (r : Int); omega
    · show (r : Int) ≤ 4; omega
  have d2 : gI (sI (sI m1 47 0 ((30 : Int32) * nI r + gI m 46 0 (nI r).toNatClampNeg).toNatClampNeg v) 46 0 (nI r).toNatClampNeg (gI (sI m1 47 0 ((30 : Int32) * nI r + gI m 46 0 (nI r).toNatClampNeg).toNatClampNeg v) 46 0 (nI r).toNatClampNeg + 1)) 46 0 r = nI (k + 1) := by
    rw [h46', nI_1, gI_sI, if_pos ⟨rfl, rfl, er.symm⟩]
  have a2 : gI (sI (sI m1 47 0 ((30 : Int32) * nI r + gI m 46 0 (nI r).toNatClampNeg).toNatClampNeg v) 46 0 (nI r).toNatClampNeg (gI (sI m1 47 0 ((30 : Int32) * nI r + gI m 46 0 (nI r).toNatClampNeg).toNatClampNeg v) 46 0 (nI r).toNatClampNeg + 1)) 33 0 3 = nI q := by
    rw [gI_sI, if_neg (fun q => absurd q.1 (by decide)), gI_sI, if_neg (fun q => absurd q.1 (by decide)), k3]
  exact rr_m hr hl hl2 h hk J2 F2 d2 a2 (by omega) next
theorem rr_l (hr : r ≤ 4) (hl : gI s 33 0 2 = nI l) (hl2 : l ≤ 200) (h : ∀ v m, y_J x_X m → y_Fr rr_W s m → Q (some (lI v)) m) : ∀ n k m p, k + n = 29 → y_J x_X m → y_Fr rr_W s m → gI m 46 0 r = nI k → gI m 33 0 3 = nI p → p ≤ 200 → qW false (d + 3) 234 bc bs 19 [some (lR 33 (some 0)), some (lI (nI r)), some (lI 1)] [] m Q := by
  intro n
  induction n with
  | zero =>
    intro k m p hk hJ hF h46 hp hp2
    exact rr_s hr hl hl2 h (by omega) hJ hF h46 hp hp2 (fun _ _ q _ _ _ _ _ => absurd q (by omega))
  | succ n ih =>
    intro k m p hk hJ hF h46 hp hp2
    exact rr_s hr hl hl2 h (by omega) hJ hF h46 hp hp2 (fun m p _ g1 g2 g3 g4 g5 => ih (k + 1) m p (by omega) g1 g2 g3 g4 g5)
theorem h_readRain (hr : r ≤ 4) (hJ : y_J x_X s) (h : ∀ v m, y_J x_X m → y_Fr rr_W s m → Q (some (lI v)) m) : qC false (d + 4) 234 [lR 33 (some 0), lI (nI r)] s Q := by
  have v5 : qa_vin (nI r) 5 := nI_in (by omega) (by decide)
  have er : (nI r).toNatClampNeg = r := nI_clamp (by omega)
  obtain ⟨l, hl2, hl⟩ := y_nIof2 (N := 200) (x := gI s 33 0 2) (hJ.1 33 0 2 (2, 2, 0, 200) (by decide) (by decide) (by decide)).1 (hJ.1 33 0 2 (2, 2, 0, 200) (by decide) (by decide) (by decide)).2
  have hm : rd_S s (sI (sI s 33 0 3 0) 33 0 4 (-1)) := rd_s (Or.inr (Or.inl rfl)) (rd_s (Or.inl rfl) rd_0)
  have st := rr_l (d := d) (bc := 0) (bs := 0) hr hl hl2 h 29 0 (sI (sI (sI s 33 0 3 0) 33 0 4 (-1)) 46 0 r 0) 0 rfl (rn_J (rd_J hJ hm) (Or.inl rfl) (fun r' hr' _ _ => by
    have hr' : r' ∈ [((0 : Int), (4 : Int), (0 : Int), (30 : Int))] := hr'
    rw [List.mem_singleton.mp hr']
    exact ⟨by decide, by decide⟩)) (y_Fr_sI (rd_W (by decide) hm) ⟨(46, 0, 0, 0, 4), by decide, rfl, ⟨Int.le_refl _, Int.le_refl _⟩, by show (0 : Int) ≤ (r : Int); omega, by show (r : Int) ≤ 4; omega⟩) (by rw [gI_sI, if_pos ⟨rfl, rfl, rfl⟩]; rfl) (by rw [gI_sI, if_neg (fun q => absurd q.1 (by decide)), gI_sI, if_neg (fun q => absurd q.2.2 (by decide)), gI_sI, if_pos ⟨rfl, rfl, rfl⟩]; rfl) (by omega)
  have st2 : qW false (d + 3) 234 0 0 19 [some (lR 33 (some 0)), some (lI (nI r)), some (lI 1)] [] (sI (sI (sI s 33 0 3 0) 33 0 4 (-1)) 46 0 (nI r).toNatClampNeg 0) Q := by
    rw [er]
    exact st
  refine qC_of rfl rfl ?_
  refine qa_t1_W (cut := [19]) 30 ?_
  exact And.intro v5 st2
end RR
