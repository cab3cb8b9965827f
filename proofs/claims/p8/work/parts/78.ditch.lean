/-! readDitch. -/
/-- a cell of a ditch that is not registered -/
theorem td_J {s : LMem} {k j dd : Nat} {v : Int32} (hJ : y_J x_X s) (hdd : xI s 33 21 ≤ (dd : Int)) (hk : (k = 44 ∧ j = dd ∧ 0 ≤ v.toInt ∧ v.toInt ≤ 20) ∨ (k = 45 ∧ 100 * dd ≤ j)) : y_J x_X (sI s k 0 j v) := by
  obtain ⟨j1, j2, j3⟩ := hJ
  have other : ∀ k' j', k' ≠ 44 → k' ≠ 45 → gI (sI s k 0 j v) k' 0 j' = gI s k' 0 j' := fun k' j' g1 g2 => by
    rw [gI_sI, if_neg (fun q => by rcases hk with e | e <;> omega)]
  have told : x_told (sI s k 0 j v) := by
    intro d h1 h2
    have e21 : xI (sI s k 0 j v) 33 21 = xI s 33 21 := by unfold xI; rw [other 33 21 (by decide) (by decide)]
    rw [e21] at h1
    obtain ⟨g1, g2, g3⟩ := j3.2.1 d h1 h2
    have hlt : d < dd := by omega
    have e44 : xI (sI s k 0 j v) 44 d = xI s 44 d := by
      unfold xI
      rw [gI_sI, if_neg (fun q => by rcases hk with e | e <;> omega)]
    rw [e44]
    refine ⟨g1, g2, fun r h3 h4 => ?_⟩
    have e45 : ∀ w, w < 5 → xI (sI s k 0 j v) 45 (100 * d + 5 * r + w) = xI s 45 (100 * d + 5 * r + w) := fun w hw => by
      unfold xI
      rw [gI_sI, if_neg (fun q => by rcases hk with e | e <;> omega)]
    rw [e45 2 (by decide), e45 3 (by decide)]
    exact g3 r h3 h4
  refine ⟨y_JB_sI j1 (fun r hr g1 g2 => ?_), j2, x_law_cl (x_sm_same fun k' j' hk' => other k' j' ?_ ?_) j3.1, told, x_row_cl (Or.inl rfl) (x_sm_same fun k' j' hk' => other k' j' ?_ ?_) j3.2.2.1, x_row_cl (Or.inr (Or.inl rfl)) (x_sm_same fun k' j' hk' => other k' j' ?_ ?_) j3.2.2.2.1, x_row_cl (Or.inr (Or.inr rfl)) (x_sm_same fun k' j' hk' => other k' j' ?_ ?_) j3.2.2.2.2.1, fun q => ?_⟩
  · rcases hk with ⟨rfl, rfl, v1, v2⟩ | ⟨rfl, _⟩
    · have hr : r ∈ [((0 : Int), (4 : Int), (0 : Int), (20 : Int))] := hr
      rw [List.mem_singleton.mp hr]
      exact ⟨v1, v2⟩
    · exact absurd hr List.not_mem_nil
  iterate 8
    · rintro rfl
      exact absurd hk' (by decide)
  · have e1 : xI (sI s k 0 j v) 33 35 = xI s 33 35 := by unfold xI; rw [other 33 35 (by decide) (by decide)]
    have e2 : xI (sI s k 0 j v) 33 13 = xI s 33 13 := by unfold xI; rw [other 33 13 (by decide) (by decide)]
    rw [e1] at q
    rw [e2]
    exact j3.2.2.2.2.2 q
abbrev dt_W : List YW := [(33, 0, 0, 3, 5), (44, 0, 0, 0, 4), (45, 0, 0, 0, 499)]
/-- what stands while a ditch is read -/
def dt_S (dd : Nat) (s m : LMem) : Prop := y_J x_X m ∧ y_Fr dt_W s m
/-- rows told well -/
def dt_R (dd : Nat) (m : LMem) (n : Nat) : Prop := ∀ r, r < n → (1 ≤ xI m 45 (100 * dd + 5 * r + 2) ∧ xI m 45 (100 * dd + 5 * r + 2) ≤ 9) ∧ (0 ≤ xI m 45 (100 * dd + 5 * r + 3) ∧ xI m 45 (100 * dd + 5 * r + 3) ≤ 5)
theorem dt_rd {dd : Nat} {s m m' : LMem} (h : dt_S dd s m) (h2 : rd_S m m') : dt_S dd s m' := ⟨rd_J h.1 h2, y_Fr_tr2 h.2 (rd_W (by decide) h2)⟩
theorem dt_21 {dd : Nat} {s m : LMem} (h : dt_S dd s m) : xI m 33 21 = xI s 33 21 := by
  unfold xI
  rw [(h.2 33 0 21 (x_nW 21 21 (by decide) (by decide) (by decide))).1]
theorem dt_l {dd l : Nat} {s m : LMem} (h : dt_S dd s m) (hl : gI s 33 0 2 = nI l) : gI m 33 0 2 = nI l := by rw [(h.2 33 0 2 (x_nW 2 2 (by decide) (by decide) (by decide))).1, hl]
theorem dt_45 {dd j : Nat} {s m : LMem} {v : Int32} (hd5 : dd < 5) (hdd : xI s 33 21 ≤ (dd : Int)) (h : dt_S dd s m) (hj : 100 * dd ≤ j) (hj2 : j < 500) : dt_S dd s (sI m 45 0 j v) := ⟨td_J h.1 (by rw [dt_21 h]; exact hdd) (Or.inr ⟨rfl, hj⟩), y_Fr_sI h.2 ⟨(45, 0, 0, 0, 499), by decide, rfl, ⟨Int.le_refl _, Int.le_refl _⟩, by show (0 : Int) ≤ (j : Int); omega, by show (j : Int) ≤ 499; omega⟩⟩
theorem dt_44 {dd : Nat} {s m : LMem} {v : Int32} (hd5 : dd < 5) (hdd : xI s 33 21 ≤ (dd : Int)) (h : dt_S dd s m) (h1 : 0 ≤ v.toInt) (h2 : v.toInt ≤ 20) : dt_S dd s (sI m 44 0 dd v) := ⟨td_J h.1 (by rw [dt_21 h]; exact hdd) (Or.inl ⟨rfl, rfl, h1, h2⟩), y_Fr_sI h.2 ⟨(44, 0, 0, 0, 4), by decide, rfl, ⟨Int.le_refl _, Int.le_refl _⟩, by show (0 : Int) ≤ (dd : Int); omega, by show (dd : Int) ≤ 4; omega⟩⟩
theorem dt_Rrd {dd n : Nat} {m m' : LMem} (h2 : rd_S m m') (h : dt_R dd m n) : dt_R dd m' n := fun r hr => by
  unfold xI
  rw [h2.1 45 0 _ (fun q => absurd q.1 (by decide)), h2.1 45 0 _ (fun q => absurd q.1 (by decide))]
  exact h r hr
theorem dt_R45 {dd n j : Nat} {m : LMem} {v : Int32} (h : dt_R dd m n) (hj : 100 * dd + 5 * n ≤ j) : dt_R dd (sI m 45 0 j v) n := fun r hr => by
  unfold xI
  rw [gI_sI, if_neg (fun q => by omega), gI_sI, if_neg (fun q => by omega)]
  exact h r hr
/-- itemOf -/
def itF (c : Int32) : Int32 := if c = 98 then 1 else if c = 119 then 2 else if c = 111 then 3 else if c = 102 then 4 else -1
theorem h_itemOf {d : Nat} {c : Int32} {s : LMem} {Q : LPost} (h : Q (some (lI (itF c))) s) : qC false (d + 1) 231 [lI c] s Q := by
  refine qC_of rfl rfl ?_
  unfold itF at h
  refine qa_t1_W (cut := []) 30 ?_
  refine And.intro (fun e => ?_) (fun e => ?_)
  · rw [if_pos e] at h
    exact h
  rw [if_neg e] at h
  refine And.intro (fun e => ?_) (fun e => ?_)
  · rw [if_pos e] at h
    exact h
  rw [if_neg e] at h
  refine And.intro (fun e => ?_) (fun e => ?_)
  · rw [if_pos e] at h
    exact h
  rw [if_neg e] at h
  refine And.intro (fun e => ?_) (fun e => ?_)
  · rw [if_pos e] at h
    exact h
  rw [if_neg e] at h
  exact h
theorem it_cases {c : Int32} (h : itF c ≠ -1) : ∃ k, 1 ≤ k ∧ k ≤ 4 ∧ itF c = nI k := by
  unfold itF at h ⊢
  by_cases e1 : c = 98
  · exact ⟨1, by decide, by decide, by rw [if_pos e1]; rfl⟩
  rw [if_neg e1] at h ⊢
  by_cases e2 : c = 119
  · exact ⟨2, by decide, by decide, by rw [if_pos e2]; rfl⟩
  rw [if_neg e2] at h ⊢
  by_cases e3 : c = 111
  · exact ⟨3, by decide, by decide, by rw [if_pos e3]; rfl⟩
  rw [if_neg e3] at h ⊢
  by_cases e4 : c = 102
  · exact ⟨4, by decide, by decide, by rw [if_pos e4]; rfl⟩
  rw [if_neg e4] at h
  exact absurd rfl h
theorem it_lt {s : LMem} {l p : Nat} (h : itF (rch s l p) ≠ -1) : p < l := by
  unfold rch at h
  by_cases e : p < l
  · exact e
  · rw [if_neg e] at h
    exact absurd (by decide) h
theorem h_hasBit {d : Nat} {a b : Int32} {s : LMem} {Q : LPost} (h1 : Q (some (lI 1)) s) (h0 : Q (some (lI 0)) s) : qC false (d + 1) 199 [lI a, lI b] s Q := by
  refine qC_of rfl rfl ?_
  refine qa_t1_W (cut := []) 30 ?_
  exact And.intro (fun _ => And.intro (Or.inr rfl) h1) (fun _ => And.intro (Or.inl rfl) h0)
