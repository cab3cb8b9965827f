/-! readDitch. -/
/-- a cell of a ditch that is not registered -/
theorem td_J {s : LMem} {k j dd : Nat} {v : Int32} (hJ : y_J x_X s) (hdd : xI s 33 21 ≤ (dd : Int)) (hk : (k = 44 ∧ j = dd ∧ 0 ≤ v.toInt ∧ v.toInt ≤ 20) ∨ (k = 45 ∧ 100 * dd ≤ j)) : y_J x_X (sI s k 0 j v) := by
  obtain ⟨j1, j2, j3⟩ := hJ
  have other : ∀ k' j', k' ≠ 44 → k' ≠ 45 → gI (sI s k 0 j v) k' 0 j' = gI s k' 0 j' := fun k' j' g1 g2 => by
    rw [gI_sI, if_neg (fun q => by rcases hk with e | e <;> omega)]
  have told : x_told (sI s k 0 j v) := by
    intro d h1 h2
    have e21 : xI (sI s k 0 j v) 33 21 = xI s 33 21 := by unfold xI; rw [other 33 21 (by decide) (by decide)]
    rw [e21] at h1
    obtain ⟨g1, g2, g3⟩ := j3.2.1 d h1 h2
    have hlt : d < dd := by omega
    have e44 : xI (sI s k 0 j v) 44 d = xI s 44 d := by
      unfold xI
      rw [gI_sI, if_neg (fun q => by rcases hk with e | e <;> omega)]
    rw [e44]
    refine ⟨g1, g2, fun r h3 h4 => ?_⟩
    have e45 : ∀ w, w < 5 → xI (sI s k 0 j v) 45 (100 * d + 5 * r + w) = xI s 45 (100 * d + 5 * r + w) := fun w hw => by
      unfold xI
      rw [gI_sI, if_neg (fun q => by rcases hk with e | e <;> omega)]
    rw [e45 2 (by decide), e45 3 (by decide)]
    exact g3 r h3 h4
  refine ⟨y_JB_sI j1 (fun r hr g1 g2 => ?_), j2, x_law_cl (x_sm_same fun k' j' hk' => other k' j' ?_ ?_) j3.1, told, x_row_cl (Or.inl rfl) (x_sm_same fun k' j' hk' => other k' j' ?_ ?_) j3.2.2.1, x_row_cl (Or.inr (Or.inl rfl)) (x_sm_same fun k' j' hk' => other k' j' ?_ ?_) j3.2.2.2.1, x_row_cl (Or.inr (Or.inr rfl)) (x_sm_same fun k' j' hk' => other k' j' ?_ ?_) j3.2.2.2.2.1, fun q => ?_⟩
  · rcases hk with ⟨rfl, rfl, v1, v2⟩ | ⟨rfl, _⟩
    · have hr : r ∈ [((0 : Int), (4 : Int), (0 : Int), (20 : Int))] := hr
      rw [List.mem_singleton.mp hr]
      exact ⟨v1, v2⟩
    · exact absurd hr List.not_mem_nil
  iterate 8
    · rintro rfl
      exact absurd hk' (by decide)
  · have e1 : xI (sI s k 0 j v) 33 35 = xI s 33 35 := by unfold xI; rw [other 33 35 (by decide) (by decide)]
    have e2 : xI (sI s k 0 j v) 33 13 = xI s 33 13 := by unfold xI; rw [other 33 13 (by decide) (by decide)]
    rw [e1] at q
    rw [e2]
    exact j3.2.2.2.2.2 q
abbrev dt_W : List YW := [(33, 0, 0, 3, 5), (44, 0, 0, 0, 4), (45, 0, 0, 0, 499)]
/-- what stands while a ditch is read -/
def dt_S (dd : Nat) (s m : LMem) : Prop := y_J x_X m ∧ y_Fr dt_W s m
/-- rows told well -/
def dt_R (dd : Nat) (m : LMem) (n : Nat) : Prop := ∀ r, r < n → (1 ≤ xI m 45 (100 * dd + 5 * r + 2) ∧ xI m 45 (100 * dd + 5 * r + 2) ≤ 9) ∧ (0 ≤ xI m 45 (100 * dd + 5 * r + 3) ∧ xI m 45 (100 * dd + 5 * r + 3) ≤ 5)
theorem dt_rd {dd : Nat} {s m m' : LMem} (h : dt_S dd s m) (h2 : rd_S m m') : dt_S dd s m' := ⟨rd_J h.1 h2, y_Fr_tr2 h.2 (rd_W (by decide) h2)⟩
theorem dt_21 {dd : Nat} {s m : LMem} (h : dt_S dd s m) : xI m 33 21 = xI s 33 21 := by
  unfold xI
  rw [(h.2 33 0 21 (x_nW 21 21 (by decide) (by decide) (by decide))).1]
theorem dt_l0 {dd l : Nat} {s m : LMem} (h : dt_S dd s m) (hl : gI s 33 0 2 = nI l) : gI m 33 0 2 = nI l := by rw [(h.2 33 0 2 (x_nW 2 2 (by decide) (by decide) (by decide))).1, hl]
theorem dt_45 {dd j : Nat} {s m : LMem} {v : Int32} (hd5 : dd < 5) (hdd : xI s 33 21 ≤ (dd : Int)) (h : dt_S dd s m) (hj : 100 * dd ≤ j) (hj2 : j < 500) : dt_S dd s (sI m 45 0 j v) := ⟨td_J h.1 (by rw [dt_21 h]; exact hdd) (Or.inr ⟨rfl, hj⟩), y_Fr_sI h.2 ⟨(45, 0, 0, 0, 499), by decide, rfl, ⟨Int.le_refl _, Int.le_refl _⟩, by show (0 : Int) ≤ (j : Int); omega, by show (j : Int) ≤ 499; omega⟩⟩
theorem dt_44 {dd : Nat} {s m : LMem} {v : Int32} (hd5 : dd < 5) (hdd : xI s 33 21 ≤ (dd : Int)) (h : dt_S dd s m) (h1 : 0 ≤ v.toInt) (h2 : v.toInt ≤ 20) : dt_S dd s (sI m 44 0 dd v) := ⟨td_J h.1 (by rw [dt_21 h]; exact hdd) (Or.inl ⟨rfl, rfl, h1, h2⟩), y_Fr_sI h.2 ⟨(44, 0, 0, 0, 4), by decide, rfl, ⟨Int.le_refl _, Int.le_refl _⟩, by show (0 : Int) ≤ (dd : Int); omega, by show (dd : Int) ≤ 4; omega⟩⟩
theorem dt_Rrd {dd n : Nat} {m m' : LMem} (h2 : rd_S m m') (h : dt_R dd m n) : dt_R dd m' n := fun r hr => by
  unfold xI
  rw [h2.1 45 0 _ (fun q => absurd q.1 (by decide)), h2.1 45 0 _ (fun q => absurd q.1 (by decide))]
  exact h r hr
theorem dt_R45 {dd n j : Nat} {m : LMem} {v : Int32} (h : dt_R dd m n) (hj : 100 * dd + 5 * n ≤ j) : dt_R dd (sI m 45 0 j v) n := fun r hr => by
  unfold xI
  rw [gI_sI, if_neg (fun q => by omega), gI_sI, if_neg (fun q => by omega)]
  exact h r hr
/-- itemOf -/
def itF (c : Int32) : Int32 := if c = 98 then 1 else if c = 119 then 2 else if c = 111 then 3 else if c = 102 then 4 else -1
theorem h_itemOf {d : Nat} {c : Int32} {s : LMem} {Q : LPost} (h : Q (some (lI (itF c))) s) : qC false (d + 1) 231 [lI c] s Q := by
  refine qC_of rfl rfl ?_
  unfold itF at h
  refine qa_t1_W (cut := []) 30 ?_
  refine And.intro (fun e => ?_) (fun e => ?_)
  · rw [if_pos e] at h
    exact h
  rw [if_neg e] at h
  refine And.intro (fun e => ?_) (fun e => ?_)
  · rw [if_pos e] at h
    exact h
  rw [if_neg e] at h
  refine And.intro (fun e => ?_) (fun e => ?_)
  · rw [if_pos e] at h
    exact h
  rw [if_neg e] at h
  refine And.intro (fun e => ?_) (fun e => ?_)
  · rw [if_pos e] at h
    exact h
  rw [if_neg e] at h
  exact h
theorem it_cases {c : Int32} (h : itF c ≠ -1) : ∃ k, 1 ≤ k ∧ k ≤ 4 ∧ itF c = nI k := by
  unfold itF at h ⊢
  by_cases e1 : c = 98
  · exact ⟨1, by decide, by decide, by rw [if_pos e1]; rfl⟩
  rw [if_neg e1] at h ⊢
  by_cases e2 : c = 119
  · exact ⟨2, by decide, by decide, by rw [if_pos e2]; rfl⟩
  rw [if_neg e2] at h ⊢
  by_cases e3 : c = 111
  · exact ⟨3, by decide, by decide, by rw [if_pos e3]; rfl⟩
  rw [if_neg e3] at h ⊢
  by_cases e4 : c = 102
  · exact ⟨4, by decide, by decide, by rw [if_pos e4]; rfl⟩
  rw [if_neg e4] at h
  exact absurd rfl h
theorem it_lt {s : LMem} {l p : Nat} (h : itF (rch s l p) ≠ -1) : p < l := by
  unfold rch at h
  by_cases e : p < l
  · exact e
  · rw [if_neg e] at h
    exact absurd (by decide) h
theorem h_hasBit {d : Nat} {a b : Int32} {s : LMem} {Q : LPost} (h1 : Q (some (lI 1)) s) (h0 : Q (some (lI 0)) s) : qC false (d + 1) 199 [lI a, lI b] s Q := by
  refine qC_of rfl rfl ?_
  refine qa_t1_W (cut := []) 30 ?_
  exact And.intro (fun _ => And.intro (Or.inr rfl) h1) (fun _ => And.intro (Or.inl rfl) h0)
section DT
variable {d bc bs l dd : Nat} {s : LMem} {Q : LPost}
/-- how a reach ends -/
def dt_E (dd n l : Nat) (s m : LMem) : Prop := dt_S dd s m ∧ (∃ q, q ≤ l ∧ gI m 33 0 3 = nI q) ∧ (gI m 33 0 4 ≠ -1 ∨ (gI m 44 0 dd = nI (n + 1) ∧ dt_R dd m (n + 1)))
/-- a reach while its items are read: the row's width and owner are well, or wrong is laid -/
def dt_I (dd n l p : Nat) (s m : LMem) : Prop := dt_S dd s m ∧ gI m 33 0 3 = nI p ∧ p ≤ l ∧ gI m 44 0 dd = nI n ∧ (gI m 33 0 4 ≠ -1 ∨ dt_R dd m (n + 1))
theorem dt_end {n p : Nat} {o2 o3 o4 o5 o6 : Option LV} (hd5 : dd < 5) (hdd : xI s 33 21 ≤ (dd : Int)) (hn : n < 20) (h : ∀ m, dt_E dd n l s m → Q none m) {m : LMem} (hm : dt_I dd n l p s m) : qW false d 232 bc bs 240 [some (lR 33 (some 0)), some (lI (nI dd)), o2, o3, o4, o5, o6] [] m Q := by
  have v5 : qa_vin (nI dd) 5 := nI_in (by omega) (by decide)
  have er : (nI dd).toNatClampNeg = dd := nI_clamp (by omega)
  obtain ⟨h1, h2, h3, h4, h5⟩ := hm
  have fin : Q none (sI m 44 0 (nI dd).toNatClampNeg (gI m 44 0 (nI dd).toNatClampNeg + 1)) := by
    rw [er, h4, nI_1]
    refine h _ ⟨dt_44 hd5 hdd h1 (by rw [nI_toInt (by omega)]; omega) (by rw [nI_toInt (by omega)]; omega), ⟨p, h3, ?_⟩, ?_⟩
    · rw [gI_sI, if_neg (fun q => absurd q.1 (by decide)), h2]
    · rcases h5 with h5 | h5
      · refine Or.inl ?_
        rw [gI_sI, if_neg (fun q => absurd q.1 (by decide))]
        exact h5
      · refine Or.inr ⟨by rw [gI_sI, if_pos ⟨rfl, rfl, rfl⟩], fun r hr => ?_⟩
        unfold xI
        rw [gI_sI, if_neg (fun q => absurd q.1 (by decide)), gI_sI, if_neg (fun q => absurd q.1 (by decide))]
        exact h5 r hr
  refine qa_t1_W (cut := []) 30 ?_
  exact And.intro v5 (And.intro v5 fin)
/-- an item's number is laid down -/
theorem dt_item {n p k q : Nat} {m m1 : LMem} {lo hi v : Int32} (hd5 : dd < 5) (hdd : xI s 33 21 ≤ (dd : Int)) (hn : n < 20) (hm : dt_I dd n l p s m) (hw : gI m 33 0 4 = -1) (hk : 1 ≤ k) (hk4 : k ≤ 4) (hr : rd_S m m1) (hq : gI m1 33 0 3 = nI q) (hq2 : q ≤ l) (h2 : k = 2 → lo = 1 ∧ hi = 9) (h3 : k = 3 → lo = 0 ∧ hi = 5) (hv : (gI m1 33 0 4 = gI m 33 0 4 ∧ lo.toInt ≤ v.toInt ∧ v.toInt ≤ hi.toInt) ∨ gI m1 33 0 4 ≠ -1) : dt_I dd n l q s (sI m1 45 0 (100 * dd + 5 * n + k) v) := by
  obtain ⟨g1, g2, g3, g4, g5⟩ := hm
  refine ⟨dt_45 hd5 hdd (dt_rd g1 hr) (by omega) (by omega), ?_, hq2, ?_, ?_⟩
  · rw [gI_sI, if_neg (fun q => absurd q.1 (by decide)), hq]
  · rw [gI_sI, if_neg (fun q => absurd q.1 (by decide)), hr.1 44 0 dd (fun q => absurd q.1 (by decide)), g4]
  · rw [gI_sI, if_neg (fun q => absurd q.1 (by decide))]
    rcases hv with ⟨w1, w2, w3⟩ | hv
    · rcases g5 with g5 | g5
      · exact absurd hw g5
      refine Or.inr (fun r hr2 => ?_)
      obtain ⟨⟨z1, z2⟩, z3, z4⟩ := dt_Rrd hr g5 r hr2
      have i1 : (1 : Int32).toInt = 1 := by decide
      have i9 : (9 : Int32).toInt = 9 := by decide
      have i0 : (0 : Int32).toInt = 0 := by decide
      have i5 : (5 : Int32).toInt = 5 := by decide
      unfold xI at z1 z2 z3 z4 ⊢
      refine ⟨?_, ?_⟩
      · rw [gI_sI]
        by_cases e : 100 * dd + 5 * r + 2 = 100 * dd + 5 * n + k
        · rw [if_pos ⟨rfl, rfl, e⟩]
          obtain ⟨rfl, rfl⟩ := h2 (by omega)
          omega
        · rw [if_neg (fun q => e q.2.2)]
          exact ⟨z1, z2⟩
      · rw [gI_sI]
        by_cases e : 100 * dd + 5 * r + 3 = 100 * dd + 5 * n + k
        · rw [if_pos ⟨rfl, rfl, e⟩]
          obtain ⟨rfl, rfl⟩ := h3 (by omega)
          omega
        · rw [if_neg (fun q => e q.2.2)]
          exact ⟨z3, z4⟩
    · exact Or.inl hv
theorem dt_l {n : Nat} {o2 o3 : Option LV} (hd5 : dd < 5) (hdd : xI s 33 21 ≤ (dd : Int)) (hn : n < 20) (hl : gI s 33 0 2 = nI l) (hl2 : l ≤ 200) (h : ∀ m, dt_E dd n l s m → Q none m) : ∀ f p m v5 o6, l - p ≤ f → dt_I dd n l p s m → qW false (d + 3) 232 bc bs 127 [some (lR 33 (some 0)), some (lI (nI dd)), o2, o3, some (lI (nI (100 * dd + 5 * n))), some (lI v5), o6] [] m Q := by
  intro f
  induction f with
  | zero =>
    intro p m v5 o6 hf hm
    have hl3 : gI m 33 0 2 = nI l := dt_l0 hm.1 hl
    refine qa_t1_W (cut := [127, 240]) 100 ?_
    refine And.intro (fun _ => ?_) (fun _ => dt_end hd5 hdd hn h hm)
    refine h_look hl3 hl2 hm.2.1 (by have := hm.2.2.1; omega) fun m1 q hr k4 k5 k3 hq hq2 _ => Exists.intro _ (And.intro rfl ?_)
    refine h_itemOf (Exists.intro _ (And.intro rfl ?_))
    have hq3 : ¬ q < l := by omega
    have e : itF (rch m l q) = -1 := by
      unfold rch
      rw [if_neg hq3]
      decide
    have hm1 : dt_I dd n l q s m1 := by
      obtain ⟨g1, g2, g3, g4, g5⟩ := hm
      refine ⟨dt_rd g1 hr, k3, by omega, by rw [hr.1 44 0 dd (fun q => absurd q.1 (by decide)), g4], ?_⟩
      rcases g5 with g5 | g5
      · exact Or.inl (by rw [k4]; exact g5)
      · exact Or.inr (dt_Rrd hr g5)
    exact And.intro (fun _ => dt_end hd5 hdd hn h hm1) (fun q => absurd e q)
  | succ f ih =>
    intro p m v5 o6 hf hm
    have hl3 : gI m 33 0 2 = nI l := dt_l0 hm.1 hl
    refine qa_t1_W (cut := [127, 240]) 140 ?_
    refine And.intro (fun hw => ?_) (fun _ => dt_end hd5 hdd hn h hm)
    refine h_look hl3 hl2 hm.2.1 (by have := hm.2.2.1; omega) fun m1 q hr k4 k5 k3 hq hq2 _ => Exists.intro _ (And.intro rfl ?_)
    have hw : gI m 33 0 4 = -1 := hw
    have hm1 : dt_I dd n l q s m1 := by
      obtain ⟨g1, g2, g3, g4, g5⟩ := hm
      refine ⟨dt_rd g1 hr, k3, by omega, by rw [hr.1 44 0 dd (fun q => absurd q.1 (by decide)), g4], ?_⟩
      rcases g5 with g5 | g5
      · exact Or.inl (by rw [k4]; exact g5)
      · exact Or.inr (dt_Rrd hr g5)
    have hl4 : gI m1 33 0 2 = nI l := dt_l0 hm1.1 hl
    refine h_itemOf (Exists.intro _ (And.intro rfl ?_))
    refine And.intro (fun _ => dt_end hd5 hdd hn h hm1) (fun ne => ?_)
    have ne : itF (rch m l q) ≠ -1 := ne
    obtain ⟨k, hk1, hk4, ek⟩ := it_cases ne
    have hql : q < l := it_lt ne
    refine h_here hl4 hl2 k3 (by omega) (Exists.intro _ (And.intro rfl ?_))
    rw [rch_eq hr]
    refine h_itemOf (Exists.intro _ (And.intro rfl ?_))
    refine h_hasBit (Exists.intro 1 (And.intro rfl ?_)) (Exists.intro 0 (And.intro rfl ?_))
    · exact And.intro (fun q => absurd q (by decide)) (fun _ => dt_end hd5 hdd hn h hm1)
    · refine And.intro (fun _ => ?_) (fun q => absurd rfl q)
      refine h_here hl4 hl2 k3 (by omega) (Exists.intro _ (And.intro rfl ?_))
      rw [rch_eq hr]
      refine h_itemOf (Exists.intro _ (And.intro rfl ?_))
      rw [ek]
      have hr2 := rd_s (s := m1) (v := gI m1 33 0 3 + 1) (Or.inl rfl : (3 : Nat) = 3 ∨ (3 : Nat) = 4 ∨ (3 : Nat) = 5) rd_0
      have c3 : gI (sI m1 33 0 3 (gI m1 33 0 3 + 1)) 33 0 3 = nI (q + 1) := by rw [gI_sI, if_pos ⟨rfl, rfl, rfl⟩, k3, nI_1]
      have c4 : gI (sI m1 33 0 3 (gI m1 33 0 3 + 1)) 33 0 4 = gI m1 33 0 4 := by rw [gI_sI, if_neg (fun q => absurd q.2.2 (by decide))]
      have hm2 : dt_I dd n l (q + 1) s (sI m1 33 0 3 (gI m1 33 0 3 + 1)) := by
        obtain ⟨g1, g2, g3, g4, g5⟩ := hm1
        refine ⟨dt_rd g1 hr2, c3, by omega, by rw [hr2.1 44 0 dd (fun q => absurd q.1 (by decide)), g4], ?_⟩
        rcases g5 with g5 | g5
        · exact Or.inl (by rw [c4]; exact g5)
        · exact Or.inr (dt_Rrd hr2 g5)
      have hl5 : gI (sI m1 33 0 3 (gI m1 33 0 3 + 1)) 33 0 2 = nI l := dt_l0 hm2.1 hl
      have hw2 : gI (sI m1 33 0 3 (gI m1 33 0 3 + 1)) 33 0 4 = -1 := by rw [c4, k4, hw]
      have i2 : nI (100 * dd + 5 * n) + nI k = nI (100 * dd + 5 * n + k) := nI_add _ _
      have vi : qa_vin (nI (100 * dd + 5 * n) + nI k) 500 := by rw [i2]; exact nI_in (by omega) (by decide)
      have step : ∀ (lo hi : Int32), (k = 2 → lo = 1 ∧ hi = 9) → (k = 3 → lo = 0 ∧ hi = 5) → qC false (d + 3) 230 [lR 33 (some 0), lI lo, lI hi] (sI m1 33 0 3 (gI m1 33 0 3 + 1)) (fun r m' => ∃ v, r = some (lI v) ∧ (qa_vin (nI (100 * dd + 5 * n) + nI k) 500 ∧ qW false (d + 3) 232 bc bs 127 [some (lR 33 (some 0)), some (lI (nI dd)), o2, o3, some (lI (nI (100 * dd + 5 * n))), some (lI (v5 ||| ((1 : Int32) <<< (nI k &&& 31)))), some (lI (nI k))] [] (sI m' 45 0 (nI (100 * dd + 5 * n) + nI k).toNatClampNeg v) Q)) := fun lo hi h2 h3 => by
        refine h_num12 hl5 hl2 c3 (by omega) fun m' q' v hr' k3' b1 b2 k5' hv => Exists.intro v (And.intro rfl (And.intro vi ?_))
        rw [i2, nI_clamp (by omega)]
        exact ih q' _ _ _ (by omega) (dt_item hd5 hdd hn hm2 hw2 hk1 hk4 hr' k3' (by omega) h2 h3 hv)
      have t2 : nI k = 2 → k = 2 := fun q => by
        have q := congrArg Int32.toInt q
        rw [nI_toInt (by omega)] at q
        have : (2 : Int32).toInt = 2 := by decide
        omega
      have t3 : nI k = 3 → k = 3 := fun q => by
        have q := congrArg Int32.toInt q
        rw [nI_toInt (by omega)] at q
        have : (3 : Int32).toInt = 3 := by decide
        omega
      refine And.intro (fun c => ?_) (fun c => ?_)
      · have c := t2 c
        refine And.intro (fun _ => ?_) (fun q => absurd (by rw [c]; rfl) q)
        exact step 1 9 (fun _ => ⟨rfl, rfl⟩) (fun q => absurd q (by omega))
      · refine And.intro (fun q => absurd q c) (fun _ => ?_)
        refine And.intro (fun c3 => ?_) (fun c3 => ?_)
        · have c3 := t3 c3
          exact step 0 5 (fun q => absurd q (by omega)) (fun _ => ⟨rfl, rfl⟩)
        · exact step 0 99 (fun q => absurd (by rw [q]; rfl) c) (fun q => absurd (by rw [q]; rfl) c3)
end DT
