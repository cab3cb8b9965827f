/-! letterOf, plainNumber. -/
def ltF (c : Int32) : Int32 := if c = 100 then 0 else if c = 104 then 1 else if c = 114 then 2 else if c = 119 then 3 else if c = 109 then 4 else if c = 115 then 5 else if c = 113 then 6 else if c = 110 then 7 else -1
theorem h_letterOf {d : Nat} {c : Int32} {s : LMem} {Q : LPost} (h : Q (some (lI (ltF c))) s) : qC false (d + 1) 209 [lI c] s Q := by
  refine qC_of rfl rfl ?_
  unfold ltF at h
  refine qa_t1_W (cut := []) 60 ?_
  refine And.intro (fun e => ?_) (fun e => ?_)
  · rw [if_pos e] at h
    exact h
  rw [if_neg e] at h
  refine And.intro (fun e => ?_) (fun e => ?_)
  · rw [if_pos e] at h
    exact h
  rw [if_neg e] at h
  refine And.intro (fun e => ?_) (fun e => ?_)
  · rw [if_pos e] at h
    exact h
  rw [if_neg e] at h
  refine And.intro (fun e => ?_) (fun e => ?_)
  · rw [if_pos e] at h
    exact h
  rw [if_neg e] at h
  refine And.intro (fun e => ?_) (fun e => ?_)
  · rw [if_pos e] at h
    exact h
  rw [if_neg e] at h
  refine And.intro (fun e => ?_) (fun e => ?_)
  · rw [if_pos e] at h
    exact h
  rw [if_neg e] at h
  refine And.intro (fun e => ?_) (fun e => ?_)
  · rw [if_pos e] at h
    exact h
  rw [if_neg e] at h
  refine And.intro (fun e => ?_) (fun e => ?_)
  · rw [if_pos e] at h
    exact h
  rw [if_neg e] at h
  exact h
theorem lt_cases {c : Int32} (h : ltF c ≠ -1) : ∃ k, k < 8 ∧ ltF c = nI k := by
  unfold ltF at h ⊢
  by_cases e0 : c = 100
  · exact ⟨0, by decide, by rw [if_pos e0]; rfl⟩
  rw [if_neg e0] at h ⊢
  by_cases e1 : c = 104
  · exact ⟨1, by decide, by rw [if_pos e1]; rfl⟩
  rw [if_neg e1] at h ⊢
  by_cases e2 : c = 114
  · exact ⟨2, by decide, by rw [if_pos e2]; rfl⟩
  rw [if_neg e2] at h ⊢
  by_cases e3 : c = 119
  · exact ⟨3, by decide, by rw [if_pos e3]; rfl⟩
  rw [if_neg e3] at h ⊢
  by_cases e4 : c = 109
  · exact ⟨4, by decide, by rw [if_pos e4]; rfl⟩
  rw [if_neg e4] at h ⊢
  by_cases e5 : c = 115
  · exact ⟨5, by decide, by rw [if_pos e5]; rfl⟩
  rw [if_neg e5] at h ⊢
  by_cases e6 : c = 113
  · exact ⟨6, by decide, by rw [if_pos e6]; rfl⟩
  rw [if_neg e6] at h ⊢
  by_cases e7 : c = 110
  · exact ⟨7, by decide, by rw [if_pos e7]; rfl⟩
  rw [if_neg e7] at h
  exact absurd rfl h
section PN
variable {d bc bs l : Nat} {s : LMem} {Q : LPost}
/-- what plainNumber leaves: `at` goes on, wrong is as it was or laid -/
def pn_O (s : LMem) (p l q : Nat) (m : LMem) : Prop := rd_S s m ∧ gI m 33 0 3 = nI q ∧ p ≤ q ∧ q ≤ max p l ∧ gI m 33 0 5 = gI s 33 0 5 ∧ (gI m 33 0 4 = gI s 33 0 4 ∨ gI m 33 0 4 ≠ -1)
theorem pn_t {p q : Nat} {v : Int32} {o : Option LV} {m : LMem} (hl : gI s 33 0 2 = nI l) (hl2 : l ≤ 200) (hp2 : p ≤ 1000) (hm : rd_S s m) (h3 : gI m 33 0 3 = nI q) (h4 : gI m 33 0 4 = gI s 33 0 4) (h5 : gI m 33 0 5 = gI s 33 0 5) (hq : p ≤ q) (hq2 : q ≤ max p l) (h : ∀ m v, pn_O s p l q m → Q (some (lI v)) m) : qW false (d + 2) 212 bc bs 48 [some (lR 33 (some 0)), some (lI v), o] [] m Q := by
  have hl3 : gI m 33 0 2 = nI l := by rw [hm.1 33 0 2 (fun q => by omega), hl]
  have nne : nI q ≠ -1 := fun g => by
    have g := congrArg Int32.toInt g
    rw [nI_toInt (by omega)] at g
    have e : (-1 : Int32).toInt = -1 := by decide
    rw [e] at g
    omega
  have fin : ∀ x, x ≠ -1 → Q (some (lI v)) (sI m 33 0 4 x) := fun x hx => by
    refine h _ v ⟨rd_s (Or.inr (Or.inl rfl)) hm, ?_, hq, hq2, ?_, Or.inr ?_⟩
    · rw [gI_sI, if_neg (fun q => absurd q.2.2 (by decide)), h3]
    · rw [gI_sI, if_neg (fun q => absurd q.2.2 (by decide)), h5]
    · rw [gI_sI, if_pos ⟨rfl, rfl, rfl⟩]
      exact hx
  refine qa_t1_W (cut := []) 40 ?_
  refine h_here hl3 hl2 h3 (by omega) (Exists.intro _ (And.intro rfl ?_))
  refine h_dig12 (fun _ => Exists.intro 1 (And.intro rfl ?_)) (fun _ => Exists.intro 0 (And.intro rfl ?_))
  · refine And.intro (fun q => absurd q (by decide)) (fun _ => ?_)
    exact h_bad h3 (fun _ => And.intro rfl (fin _ nne)) (fun w => And.intro rfl (fin _ w))
  · exact And.intro (fun _ => h m v ⟨hm, h3, hq, hq2, h5, Or.inl h4⟩) (fun q => absurd rfl q)
theorem pn_l {p : Nat} (hl : gI s 33 0 2 = nI l) (hl2 : l ≤ 200) (hp2 : p ≤ 1000) (h : ∀ m q v, pn_O s p l q m → (dg (rch s l p) → p + 1 ≤ q) → Q (some (lI v)) m) : ∀ j k m v, k + j = 4 → rd_S s m → gI m 33 0 3 = nI (p + k) → gI m 33 0 4 = gI s 33 0 4 → gI m 33 0 5 = gI s 33 0 5 → p + k ≤ max p l → qW false (d + 2) 212 bc bs 4 [some (lR 33 (some 0)), some (lI v), some (lI (nI k))] [] m Q := by
  intro j
  induction j with
  | zero =>
    intro k m v hk hm h3 h4 h5 hq2
    have hk : k = 4 := hk
    subst hk
    refine qa_t1_W (cut := [4, 48]) 20 ?_
    exact And.intro (fun q => absurd q (by decide)) (fun _ => pn_t hl hl2 hp2 hm h3 h4 h5 (by omega) hq2 (fun m' v' o => h m' _ v' o (fun _ => by omega)))
  | succ j ih =>
    intro k m v hk hm h3 h4 h5 hq2
    have hl3 : gI m 33 0 2 = nI l := by rw [hm.1 33 0 2 (fun q => by omega), hl]
    have hlt : nI k < 4 := nI_lt (b := 4) (by omega) (by decide)
    refine qa_t1_W (cut := [4, 48]) 60 ?_
    refine And.intro (fun _ => ?_) (fun q => absurd hlt q)
    refine h_here hl3 hl2 h3 (by omega) (Exists.intro _ (And.intro rfl ?_))
    refine h_dig12 (fun hd => Exists.intro 1 (And.intro rfl ?_)) (fun hd => Exists.intro 0 (And.intro rfl ?_))
    · refine And.intro (fun q => absurd q (by decide)) (fun _ => ?_)
      have hql := rch_dg hd
      refine h_here hl3 hl2 h3 (by omega) (Exists.intro _ (And.intro rfl ?_))
      have go : ∀ v, qW false (d + 2) 212 bc bs 4 [some (lR 33 (some 0)), some (lI v), some (lI (nI k + 1))] [] (sI m 33 0 3 (gI m 33 0 3 + 1)) Q := fun v => by
        rw [nI_1]
        refine ih (k + 1) _ v (by omega) (rd_s (Or.inl rfl) hm) ?_ ?_ ?_ (by omega)
        · rw [gI_sI, if_pos ⟨rfl, rfl, rfl⟩, h3, nI_1, Nat.add_assoc]
        · rw [gI_sI, if_neg (fun q => absurd q.2.2 (by decide)), h4]
        · rw [gI_sI, if_neg (fun q => absurd q.2.2 (by decide)), h5]
      exact go _
    · refine And.intro (fun _ => ?_) (fun q => absurd rfl q)
      refine pn_t hl hl2 hp2 hm h3 h4 h5 (by omega) hq2 (fun m' v' o => h m' _ v' o (fun g => ?_))
      rcases Nat.eq_zero_or_pos k with e | e
      · subst e
        rw [rch_eq hm] at hd
        exact absurd g hd
      · omega
theorem h_plain {p : Nat} (hl : gI s 33 0 2 = nI l) (hl2 : l ≤ 200) (hp : gI s 33 0 3 = nI p) (hp2 : p ≤ 1000) (h : ∀ m q v, pn_O s p l q m → (dg (rch s l p) → p + 1 ≤ q) → Q (some (lI v)) m) : qC false (d + 3) 212 [lR 33 (some 0)] s Q := by
  refine qC_of rfl rfl ?_
  refine qa_t1_W (cut := [4]) 20 ?_
  exact pn_l hl hl2 hp2 h 4 0 s 0 rfl rd_0 hp rfl rfl (by omega)
end PN
