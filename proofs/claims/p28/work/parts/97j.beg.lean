/-! begin of the reference: all that it writes. -/
theorem zg_l1 {d bc bs : Nat} {f sl : Int32} {fr : Int64} {s : LMem} {Q : LPost} (h : ∀ m o, nw_G s m (fun j => 0 ≤ j ∧ j < 160) → (∀ j, 0 ≤ j → j < 160 → gI m 48 0 j = 0) → qW false d 244 bc bs 25 [some (lR 33 (some 0)), some (lI f), some (lI sl), some (lL fr), none, o] [] m Q) : ∀ n k m, k + n = 160 → 0 ≤ k → nw_G s m (fun j => 0 ≤ j ∧ j < 160) → (∀ j, 0 ≤ j → j < k → gI m 48 0 j = 0) → qW false d 244 bc bs 3 [some (lR 33 (some 0)), some (lI f), some (lI sl), some (lL fr), none, some (lI (nI k))] [] m Q := by
  intro n
  induction n with
  | zero =>
    intro k m hk _ hm hz
    have hk : k = 160 := hk
    subst hk
    refine qa_t1_W (cut := [25]) 10 ?_
    exact And.intro (fun q => absurd q (by decide)) (fun _ => h m _ hm hz)
  | succ n ih =>
    intro k m hk hlo hm hz
    have ih := ih (k + 1) (sI m 48 0 k 0) (by omega) (by omega) (nw_Gs ⟨hlo, by omega⟩ hm) (fun j j1 j2 => by
      rw [gI_sI]
      by_cases e : j = k
      · rw [if_pos ⟨rfl, rfl, e⟩]
      · rw [if_neg (fun q => e q.2.2)]
        exact hz j j1 (by omega))
    rw [nI_succ k] at ih
    have hlt : nI k < 160 := nI_lt (b := 160) (by omega) (by decide)
    have hv : qa_vin (nI k) 279 := nI_in (by omega) (by decide)
    have e9 : (nI k).toNatClampNeg = k := nI_clamp (by omega)
    have ih2 : qW false d 244 bc bs 3 [some (lR 33 (some 0)), some (lI f), some (lI sl), some (lL fr), none, some (lI (nI k + 1))] [] (sI m 48 0 (nI k).toNatClampNeg 0) Q := by
      rw [e9]
      exact ih
    refine qa_t1_W (cut := [3]) 30 ?_
    refine And.intro (fun _ => ?_) (fun q => absurd hlt q)
    exact And.intro hv ih2
theorem zg_l2 {d bc bs : Nat} {f sl : Int32} {fr : Int64} {s : LMem} {Q : LPost} (h : ∀ m o, nw_G s m (fun j => 260 ≤ j ∧ j < 272) → (∀ j, 260 ≤ j → j < 272 → gI m 48 0 j = 0) → qW false d 244 bc bs 52 [some (lR 33 (some 0)), some (lI f), some (lI sl), some (lL fr), none, o] [] m Q) : ∀ n k m, k + n = 272 → 260 ≤ k → nw_G s m (fun j => 260 ≤ j ∧ j < 272) → (∀ j, 260 ≤ j → j < k → gI m 48 0 j = 0) → qW false d 244 bc bs 30 [some (lR 33 (some 0)), some (lI f), some (lI sl), some (lL fr), none, some (lI (nI k))] [] m Q := by
  intro n
  induction n with
  | zero =>
    intro k m hk _ hm hz
    have hk : k = 272 := hk
    subst hk
    refine qa_t1_W (cut := [52]) 10 ?_
    exact And.intro (fun q => absurd q (by decide)) (fun _ => h m _ hm hz)
  | succ n ih =>
    intro k m hk hlo hm hz
    have ih := ih (k + 1) (sI m 48 0 k 0) (by omega) (by omega) (nw_Gs ⟨hlo, by omega⟩ hm) (fun j j1 j2 => by
      rw [gI_sI]
      by_cases e : j = k
      · rw [if_pos ⟨rfl, rfl, e⟩]
      · rw [if_neg (fun q => e q.2.2)]
        exact hz j j1 (by omega))
    rw [nI_succ k] at ih
    have hlt : nI k < 272 := nI_lt (b := 272) (by omega) (by decide)
    have hv : qa_vin (nI k) 279 := nI_in (by omega) (by decide)
    have e9 : (nI k).toNatClampNeg = k := nI_clamp (by omega)
    have ih2 : qW false d 244 bc bs 30 [some (lR 33 (some 0)), some (lI f), some (lI sl), some (lL fr), none, some (lI (nI k + 1))] [] (sI m 48 0 (nI k).toNatClampNeg 0) Q := by
      rw [e9]
      exact ih
    refine qa_t1_W (cut := [30]) 30 ?_
    refine And.intro (fun _ => ?_) (fun q => absurd hlt q)
    exact And.intro hv ih2
theorem zg_l3 {d bc bs : Nat} {f sl : Int32} {fr : Int64} {s : LMem} {Q : LPost} (h : ∀ m o, nw_G s m (fun j => 273 ≤ j ∧ j < 277) → (∀ j, 273 ≤ j → j < 277 → gI m 48 0 j = 0) → qW false d 244 bc bs 79 [some (lR 33 (some 0)), some (lI f), some (lI sl), some (lL fr), none, o] [] m Q) : ∀ n k m, k + n = 277 → 273 ≤ k → nw_G s m (fun j => 273 ≤ j ∧ j < 277) → (∀ j, 273 ≤ j → j < k → gI m 48 0 j = 0) → qW false d 244 bc bs 57 [some (lR 33 (some 0)), some (lI f), some (lI sl), some (lL fr), none, some (lI (nI k))] [] m Q := by
  intro n
  induction n with
  | zero =>
    intro k m hk _ hm hz
    have hk : k = 277 := hk
    subst hk
    refine qa_t1_W (cut := [79]) 10 ?_
    exact And.intro (fun _ => h m _ hm hz) (fun q => absurd (by decide) q)
  | succ n ih =>
    intro k m hk hlo hm hz
    have ih := ih (k + 1) (sI m 48 0 k 0) (by omega) (by omega) (nw_Gs ⟨hlo, by omega⟩ hm) (fun j j1 j2 => by
      rw [gI_sI]
      by_cases e : j = k
      · rw [if_pos ⟨rfl, rfl, e⟩]
      · rw [if_neg (fun q => e q.2.2)]
        exact hz j j1 (by omega))
    rw [nI_succ k] at ih
    have hlt : ¬ (276 : Int32) < nI k := nI_nlt (a := 276) (by omega) (by decide)
    have hv : qa_vin (nI k) 279 := nI_in (by omega) (by decide)
    have e9 : (nI k).toNatClampNeg = k := nI_clamp (by omega)
    have ih2 : qW false d 244 bc bs 57 [some (lR 33 (some 0)), some (lI f), some (lI sl), some (lL fr), none, some (lI (nI k + 1))] [] (sI m 48 0 (nI k).toNatClampNeg 0) Q := by
      rw [e9]
      exact ih
    refine qa_t1_W (cut := [57]) 30 ?_
    refine And.intro (fun q => absurd q hlt) (fun _ => ?_)
    exact And.intro hv ih2
theorem h_beginF {d : Nat} {f sl : Int32} {fr : Int64} {s : LMem} {Q : LPost} (h : ∀ m, nw_G s m (fun j => j < 279 ∧ j ≠ 272 ∧ ¬ (160 ≤ j ∧ j < 260)) → (∀ j, (j < 160 ∨ (260 ≤ j ∧ j < 272) ∨ (273 ≤ j ∧ j < 277)) → gI m 48 0 j = 0) → gI m 48 0 277 = f → gI m 48 0 278 = sl → gL m 33 0 29 = fr → gL m 33 0 30 = fr → Q none m) : qC false (d + 1) 244 [lR 33 (some 0), lI f, lI sl, lL fr] s Q := by
  refine qC_of rfl rfl ?_
  refine qa_t1_W (cut := [3]) 10 ?_
  refine zg_l1 (fun m1 o1 h1 z1 => ?_) 160 0 s rfl (Nat.le_refl _) nw_G0 (fun j _ q => absurd q (Nat.not_lt_zero _))
  refine qa_t1_W (cut := [30]) 10 ?_
  refine zg_l2 (fun m2 o2 h2 z2 => ?_) 12 260 m1 rfl (Nat.le_refl _) nw_G0 (fun j q1 q2 => absurd q2 (by omega))
  refine qa_t1_W (cut := [57]) 10 ?_
  refine zg_l3 (fun m3 o3 h3 z3 => ?_) 4 273 m2 rfl (Nat.le_refl _) nw_G0 (fun j q1 q2 => absurd q2 (by omega))
  have g3 : nw_G s m3 (fun j => j < 279 ∧ j ≠ 272 ∧ ¬ (160 ≤ j ∧ j < 260)) := nw_tr (nw_tr h1 h2 (E := fun j => j < 279 ∧ j ≠ 272 ∧ ¬ (160 ≤ j ∧ j < 260)) (fun j q => by omega) (fun j q => by omega)) h3 (fun j q => q) (fun j q => by omega)
  have z : ∀ j, (j < 160 ∨ (260 ≤ j ∧ j < 272) ∨ (273 ≤ j ∧ j < 277)) → gI m3 48 0 j = 0 := fun j q => by
    rcases q with q | q | q
    · rw [h3.1 48 0 j (fun c => by have := c.2.2; omega), h2.1 48 0 j (fun c => by have := c.2.2; omega)]
      exact z1 j (Nat.zero_le _) q
    · rw [h3.1 48 0 j (fun c => by have := c.2.2; omega)]
      exact z2 j q.1 q.2
    · exact z3 j q.1 q.2
  have fin : Q none (sL (sL (sI (sI m3 48 0 277 f) 48 0 278 sl) 33 0 30 fr) 33 0 29 fr) := by
    refine h _ ⟨fun k i j hn => ?_, fun k i j hn => ?_, g3.2.2⟩ (fun j q => ?_) ?_ ?_ ?_ ?_
    · show gI (sI (sI m3 48 0 277 f) 48 0 278 sl) k i j = gI s k i j
      rw [gI_sI, if_neg (fun q => hn ⟨q.1, q.2.1, by omega⟩), gI_sI, if_neg (fun q => hn ⟨q.1, q.2.1, by omega⟩)]
      exact g3.1 k i j hn
    · rw [gL_sL, if_neg (fun q => hn ⟨q.1, q.2.1, Or.inl q.2.2⟩), gL_sL, if_neg (fun q => hn ⟨q.1, q.2.1, Or.inr q.2.2⟩)]
      exact g3.2.1 k i j hn
    · show gI (sI (sI m3 48 0 277 f) 48 0 278 sl) 48 0 j = 0
      rw [gI_sI, if_neg (fun c => by have := c.2.2; omega), gI_sI, if_neg (fun c => by have := c.2.2; omega)]
      exact z j q
    · show gI (sI (sI m3 48 0 277 f) 48 0 278 sl) 48 0 277 = f
      rw [gI_sI, if_neg (fun q => absurd q.2.2 (by decide)), gI_sI, if_pos ⟨rfl, rfl, rfl⟩]
    · show gI (sI (sI m3 48 0 277 f) 48 0 278 sl) 48 0 278 = sl
      rw [gI_sI, if_pos ⟨rfl, rfl, rfl⟩]
    · rw [gL_sL, if_pos ⟨rfl, rfl, rfl⟩]
    · rw [gL_sL, if_neg (fun q => absurd q.2.2 (by decide)), gL_sL, if_pos ⟨rfl, rfl, rfl⟩]
  refine qa_t1_W (cut := []) 30 ?_
  exact And.intro (x_vc (by decide) (by decide)) (And.intro (x_vc (by decide) (by decide)) fin)
