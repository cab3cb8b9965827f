/-! layOut, begin: what stands is laid anew. -/
def nw_G (s m : LMem) (C : Nat → Prop) : Prop := (∀ k i j, ¬ (k = 48 ∧ i = 0 ∧ C j) → gI m k i j = gI s k i j) ∧ (∀ k i j, ¬ (k = 33 ∧ i = 0 ∧ (j = 29 ∨ j = 30)) → gL m k i j = gL s k i j) ∧ ∀ k i j, gR m k i j = gR s k i j
theorem nw_G0 {s : LMem} {C : Nat → Prop} : nw_G s s C := ⟨fun _ _ _ _ => rfl, fun _ _ _ _ => rfl, fun _ _ _ => rfl⟩
theorem nw_Gs {s m : LMem} {C : Nat → Prop} {j : Nat} {v : Int32} (hj : C j) (h : nw_G s m C) : nw_G s (sI m 48 0 j v) C := by
  refine ⟨fun k i j' hn => ?_, h.2.1, h.2.2⟩
  rw [gI_sI, if_neg (fun q => hn (by obtain ⟨rfl, rfl, rfl⟩ := q; exact ⟨rfl, rfl, hj⟩))]
  exact h.1 k i j' hn
theorem nw_tr {s m m' : LMem} {C D E : Nat → Prop} (h1 : nw_G s m C) (h2 : nw_G m m' D) (hC : ∀ j, C j → E j) (hD : ∀ j, D j → E j) : nw_G s m' E := by
  refine ⟨fun k i j hn => ?_, fun k i j hn => (h2.2.1 k i j hn).trans (h1.2.1 k i j hn), fun k i j => (h2.2.2 k i j).trans (h1.2.2 k i j)⟩
  rw [h2.1 k i j (fun q => hn ⟨q.1, q.2.1, hD _ q.2.2⟩)]
  exact h1.1 k i j (fun q => hn ⟨q.1, q.2.1, hC _ q.2.2⟩)
theorem nw_wk {s m : LMem} {C D : Nat → Prop} (h : nw_G s m C) (hC : ∀ j, C j → D j) : nw_G s m D := ⟨fun k i j hn => h.1 k i j (fun q => hn ⟨q.1, q.2.1, hC _ q.2.2⟩), h.2.1, h.2.2⟩
theorem bg_l1 {d bc bs : Nat} {f sl : Int32} {fr : Int64} {s : LMem} {Q : LPost} (h : ∀ m o, nw_G s m (fun j => 0 ≤ j ∧ j < 160) → qW false d 244 bc bs 25 [some (lR 33 (some 0)), some (lI f), some (lI sl), some (lL fr), none, o] [] m Q) : ∀ n k m, k + n = 160 → 0 ≤ k → nw_G s m (fun j => 0 ≤ j ∧ j < 160) → qW false d 244 bc bs 3 [some (lR 33 (some 0)), some (lI f), some (lI sl), some (lL fr), none, some (lI (nI k))] [] m Q := by
  intro n
  induction n with
  | zero =>
    intro k m hk _ hm
    have hk : k = 160 := hk
    subst hk
    refine qa_t1_W (cut := [25]) 10 ?_
    exact And.intro (fun q => absurd q (by decide)) (fun _ => h m _ hm)
  | succ n ih =>
    intro k m hk hlo hm
    have ih := ih (k + 1) (sI m 48 0 k 0) (by omega) (by omega) (nw_Gs ⟨hlo, by omega⟩ hm)
    rw [nI_succ k] at ih
    have hlt : nI k < 160 := nI_lt (b := 160) (by omega) (by decide)
    have hv : qa_vin (nI k) 279 := nI_in (by omega) (by decide)
    have e9 : (nI k).toNatClampNeg = k := nI_clamp (by omega)
    have ih2 : qW false d 244 bc bs 3 [some (lR 33 (some 0)), some (lI f), some (lI sl), some (lL fr), none, some (lI (nI k + 1))] [] (sI m 48 0 (nI k).toNatClampNeg 0) Q := by
      rw [e9]
      exact ih
    refine qa_t1_W (cut := [3]) 30 ?_
    refine And.intro (fun _ => ?_) (fun q => absurd hlt q)
    exact And.intro hv ih2
theorem bg_l2 {d bc bs : Nat} {f sl : Int32} {fr : Int64} {s : LMem} {Q : LPost} (h : ∀ m o, nw_G s m (fun j => 260 ≤ j ∧ j < 272) → qW false d 244 bc bs 52 [some (lR 33 (some 0)), some (lI f), some (lI sl), some (lL fr), none, o] [] m Q) : ∀ n k m, k + n = 272 → 260 ≤ k → nw_G s m (fun j => 260 ≤ j ∧ j < 272) → qW false d 244 bc bs 30 [some (lR 33 (some 0)), some (lI f), some (lI sl), some (lL fr), none, some (lI (nI k))] [] m Q := by
  intro n
  induction n with
  | zero =>
    intro k m hk _ hm
    have hk : k = 272 := hk
    subst hk
    refine qa_t1_W (cut := [52]) 10 ?_
    exact And.intro (fun q => absurd q (by decide)) (fun _ => h m _ hm)
  | succ n ih =>
    intro k m hk hlo hm
    have ih := ih (k + 1) (sI m 48 0 k 0) (by omega) (by omega) (nw_Gs ⟨hlo, by omega⟩ hm)
    rw [nI_succ k] at ih
    have hlt : nI k < 272 := nI_lt (b := 272) (by omega) (by decide)
    have hv : qa_vin (nI k) 279 := nI_in (by omega) (by decide)
    have e9 : (nI k).toNatClampNeg = k := nI_clamp (by omega)
    have ih2 : qW false d 244 bc bs 30 [some (lR 33 (some 0)), some (lI f), some (lI sl), some (lL fr), none, some (lI (nI k + 1))] [] (sI m 48 0 (nI k).toNatClampNeg 0) Q := by
      rw [e9]
      exact ih
    refine qa_t1_W (cut := [30]) 30 ?_
    refine And.intro (fun _ => ?_) (fun q => absurd hlt q)
    exact And.intro hv ih2
theorem bg_l3 {d bc bs : Nat} {f sl : Int32} {fr : Int64} {s : LMem} {Q : LPost} (h : ∀ m o, nw_G s m (fun j => 273 ≤ j ∧ j < 277) → qW false d 244 bc bs 79 [some (lR 33 (some 0)), some (lI f), some (lI sl), some (lL fr), none, o] [] m Q) : ∀ n k m, k + n = 277 → 273 ≤ k → nw_G s m (fun j => 273 ≤ j ∧ j < 277) → qW false d 244 bc bs 57 [some (lR 33 (some 0)), some (lI f), some (lI sl), some (lL fr), none, some (lI (nI k))] [] m Q := by
  intro n
  induction n with
  | zero =>
    intro k m hk _ hm
    have hk : k = 277 := hk
    subst hk
    refine qa_t1_W (cut := [79]) 10 ?_
    exact And.intro (fun _ => h m _ hm) (fun q => absurd (by decide) q)
  | succ n ih =>
    intro k m hk hlo hm
    have ih := ih (k + 1) (sI m 48 0 k 0) (by omega) (by omega) (nw_Gs ⟨hlo, by omega⟩ hm)
    rw [nI_succ k] at ih
    have hlt : ¬ (276 : Int32) < nI k := nI_nlt (a := 276) (by omega) (by decide)
    have hv : qa_vin (nI k) 279 := nI_in (by omega) (by decide)
    have e9 : (nI k).toNatClampNeg = k := nI_clamp (by omega)
    have ih2 : qW false d 244 bc bs 57 [some (lR 33 (some 0)), some (lI f), some (lI sl), some (lL fr), none, some (lI (nI k + 1))] [] (sI m 48 0 (nI k).toNatClampNeg 0) Q := by
      rw [e9]
      exact ih
    refine qa_t1_W (cut := [57]) 30 ?_
    refine And.intro (fun q => absurd q hlt) (fun _ => ?_)
    exact And.intro hv ih2
theorem h_begin {d : Nat} {f sl : Int32} {fr : Int64} {s : LMem} {Q : LPost} (h : ∀ m, nw_G s m (fun j => j < 279 ∧ j ≠ 272 ∧ ¬ (160 ≤ j ∧ j < 260)) → gI m 48 0 277 = f → gI m 48 0 278 = sl → Q none m) : qC false (d + 1) 244 [lR 33 (some 0), lI f, lI sl, lL fr] s Q := by
  refine qC_of rfl rfl ?_
  refine qa_t1_W (cut := [3]) 10 ?_
  refine bg_l1 (fun m1 o1 h1 => ?_) 160 0 s rfl (Nat.le_refl _) nw_G0
  refine qa_t1_W (cut := [30]) 10 ?_
  refine bg_l2 (fun m2 o2 h2 => ?_) 12 260 m1 rfl (Nat.le_refl _) nw_G0
  refine qa_t1_W (cut := [57]) 10 ?_
  refine bg_l3 (fun m3 o3 h3 => ?_) 4 273 m2 rfl (Nat.le_refl _) nw_G0
  have g3 : nw_G s m3 (fun j => j < 279 ∧ j ≠ 272 ∧ ¬ (160 ≤ j ∧ j < 260)) := nw_tr (nw_tr h1 h2 (E := fun j => j < 279 ∧ j ≠ 272 ∧ ¬ (160 ≤ j ∧ j < 260)) (fun j q => by omega) (fun j q => by omega)) h3 (fun j q => q) (fun j q => by omega)
  have fin : ∀ x y, Q none (sL (sL (sI (sI m3 48 0 277 f) 48 0 278 sl) 33 0 30 x) 33 0 29 y) := fun x y => by
    refine h _ ⟨fun k i j hn => ?_, fun k i j hn => ?_, g3.2.2⟩ ?_ ?_
    · show gI (sI (sI m3 48 0 277 f) 48 0 278 sl) k i j = gI s k i j
      rw [gI_sI, if_neg (fun q => hn ⟨q.1, q.2.1, by omega⟩), gI_sI, if_neg (fun q => hn ⟨q.1, q.2.1, by omega⟩)]
      exact g3.1 k i j hn
    · rw [gL_sL, if_neg (fun q => hn ⟨q.1, q.2.1, Or.inl q.2.2⟩), gL_sL, if_neg (fun q => hn ⟨q.1, q.2.1, Or.inr q.2.2⟩)]
      exact g3.2.1 k i j hn
    · show gI (sI (sI m3 48 0 277 f) 48 0 278 sl) 48 0 277 = f
      rw [gI_sI, if_neg (fun q => absurd q.2.2 (by decide)), gI_sI, if_pos ⟨rfl, rfl, rfl⟩]
    · show gI (sI (sI m3 48 0 277 f) 48 0 278 sl) 48 0 278 = sl
      rw [gI_sI, if_pos ⟨rfl, rfl, rfl⟩]
  refine qa_t1_W (cut := []) 30 ?_
  exact And.intro (x_vc (by decide) (by decide)) (And.intro (x_vc (by decide) (by decide)) (fin _ _))
/-- layOut -/
def lo_K (dd : Nat) (s m : LMem) (k : Nat) : Prop := nw_G s m (fun j => j = 272 ∨ (160 ≤ j ∧ j < 260)) ∧ gI m 48 0 272 = gI s 44 0 dd ∧ ∀ j, j < k → gI m 48 0 (160 + j) = gI s 45 0 (100 * dd + j)
theorem lo_l {d bc bs dd : Nat} {s : LMem} {Q : LPost} (hdd : dd < 5) (h : ∀ m, lo_K dd s m 100 → Q none m) : ∀ n k m, k + n = 100 → lo_K dd s m k → qW false d 245 bc bs 16 [some (lR 33 (some 0)), some (lI (nI dd)), some (lI (nI k))] [] m Q := by
  intro n
  induction n with
  | zero =>
    intro k m hk hm
    have hk : k = 100 := hk
    subst hk
    refine qa_t1_W (cut := [16]) 10 ?_
    exact And.intro (fun q => absurd q (by decide)) (fun _ => h m hm)
  | succ n ih =>
    intro k m hk hm
    have hv : gI m 45 0 (100 * dd + k) = gI s 45 0 (100 * dd + k) := hm.1.1 _ _ _ (fun q => absurd q.1 (by decide))
    have ih := ih (k + 1) (sI m 48 0 (160 + k) (gI m 45 0 (100 * dd + k))) (by omega) (by
      refine ⟨nw_Gs (Or.inr ⟨by omega, by omega⟩) hm.1, ?_, fun j hj => ?_⟩
      · rw [gI_sI, if_neg (fun q => absurd q.2.2 (by omega))]
        exact hm.2.1
      · rw [gI_sI]
        by_cases e : j = k
        · rw [if_pos ⟨rfl, rfl, by omega⟩, hv, e]
        · rw [if_neg (fun q => e (by omega))]
          exact hm.2.2 j (by omega))
    rw [nI_succ k] at ih
    have hlt : nI k < 100 := nI_lt (b := 100) (by omega) (by decide)
    have i1 : (160 : Int32) + nI k = nI (160 + k) := by rw [show (160 : Int32) = nI 160 from rfl, nI_add]
    have i2 : (100 : Int32) * nI dd + nI k = nI (100 * dd + k) := by rw [show (100 : Int32) = nI 100 from rfl, nI_mul, nI_add]
    have hv1 : qa_vin ((160 : Int32) + nI k) 279 := by rw [i1]; exact nI_in (by omega) (by decide)
    have hv2 : qa_vin ((100 : Int32) * nI dd + nI k) 500 := by rw [i2]; exact nI_in (by omega) (by decide)
    have ih2 : qW false d 245 bc bs 16 [some (lR 33 (some 0)), some (lI (nI dd)), some (lI (nI k + 1))] [] (sI m 48 0 ((160 : Int32) + nI k).toNatClampNeg (gI m 45 0 ((100 : Int32) * nI dd + nI k).toNatClampNeg)) Q := by
      rw [i1, i2, nI_clamp (by omega), nI_clamp (by omega)]
      exact ih
    refine qa_t1_W (cut := [16]) 40 ?_
    refine And.intro (fun _ => ?_) (fun q => absurd hlt q)
    exact And.intro hv2 (And.intro hv1 ih2)
theorem h_layOut {d dd : Nat} {s : LMem} {Q : LPost} (hdd : dd < 5) (h : ∀ m, lo_K dd s m 100 → Q none m) : qC false (d + 1) 245 [lR 33 (some 0), lI (nI dd)] s Q := by
  have e9 : (nI dd).toNatClampNeg = dd := nI_clamp (by omega)
  have main := lo_l (d := d) (bc := 0) (bs := 0) (s := s) (Q := Q) hdd h 100 0 (sI s 48 0 272 (gI s 44 0 dd)) rfl ⟨nw_Gs (Or.inl rfl) nw_G0, by rw [gI_sI, if_pos ⟨rfl, rfl, rfl⟩], fun j hj => absurd hj (Nat.not_lt_zero _)⟩
  have main2 : qW false d 245 0 0 16 [some (lR 33 (some 0)), some (lI (nI dd)), some (lI (nI 0))] [] (sI s 48 0 272 (gI s 44 0 (nI dd).toNatClampNeg)) Q := by
    rw [e9]
    exact main
  refine qC_of rfl rfl ?_
  refine qa_t1_W (cut := [16]) 20 ?_
  have hv5 : qa_vin (nI dd) 5 := nI_in (by omega) (by decide)
  exact And.intro hv5 (And.intro (x_vc (by decide) (by decide)) main2)
/-- what stands anew keeps J -/
theorem nw_J {s m : LMem} (hJ : y_J x_X s) (hG : nw_G s m (fun j => j < 279)) (h1 : 0 ≤ xI m 48 272 ∧ xI m 48 272 ≤ 20) (h2 : 0 ≤ xI m 48 277 ∧ xI m 48 277 ≤ 5) (h3 : -1 ≤ xI m 48 278 ∧ xI m 48 278 ≤ 5) (hr : x_row m 48) : y_J x_X m := by
  obtain ⟨g1, g2, g3⟩ := hG
  obtain ⟨j1, j2, j3⟩ := hJ
  have other : ∀ k j, k ≠ 48 → gI m k 0 j = gI s k 0 j := fun k j hk => g1 k 0 j (fun q => hk q.1)
  refine ⟨fun k i j r hb q1 q2 => ?_, ?_, x_law_cl (x_sm_same fun k j hk => other k j ?_) j3.1, x_told_cl (x_sm_same fun k j hk => other k j ?_) j3.2.1, hr, x_row_cl (Or.inr (Or.inl rfl)) (x_sm_same fun k j hk => other k j ?_) j3.2.2.2.1, x_row_cl (Or.inr (Or.inr rfl)) (x_sm_same fun k j hk => other k j ?_) j3.2.2.2.2.1, fun q => ?_⟩
  · by_cases e : k = 48 ∧ i = 0 ∧ j < 279
    · obtain ⟨rfl, rfl, e⟩ := e
      have hb : r ∈ [((272 : Int), (272 : Int), (0 : Int), (20 : Int)), (277, 277, 0, 5), (278, 278, -1, 5)] := hb
      rcases List.mem_cons.mp hb with rfl | hb
      · have q1 : (272 : Int) ≤ (j : Int) := q1
        have q2 : (j : Int) ≤ 272 := q2
        have : j = 272 := by omega
        subst this
        exact h1
      · rcases List.mem_cons.mp hb with rfl | hb
        · have q1 : (277 : Int) ≤ (j : Int) := q1
          have q2 : (j : Int) ≤ 277 := q2
          have : j = 277 := by omega
          subst this
          exact h2
        · have hb := List.mem_singleton.mp hb
          subst hb
          have q1 : (278 : Int) ≤ (j : Int) := q1
          have q2 : (j : Int) ≤ 278 := q2
          have : j = 278 := by omega
          subst this
          exact h3
    · rw [g1 k i j e]
      exact j1 k i j r hb q1 q2
  · obtain ⟨r1, r2, r3, r4⟩ := j2
    exact ⟨fun i q hq => r1 i q (by rw [← g3]; exact hq), fun i q hq => r2 i q (by rw [← g3]; exact hq), fun i q hq => r3 i q (by rw [← g3]; exact hq), fun i q hq => r4 i q (by rw [← g3]; exact hq)⟩
  · rintro rfl
    exact absurd hk (by decide)
  · rintro rfl
    exact absurd hk (by decide)
  · rintro rfl
    exact absurd hk (by decide)
  · rintro rfl
    exact absurd hk (by decide)
  · have e1 : xI m 33 35 = xI s 33 35 := by unfold xI; rw [other 33 35 (by decide)]
    have e2 : xI m 33 13 = xI s 33 13 := by unfold xI; rw [other 33 13 (by decide)]
    rw [e1] at q
    rw [e2]
    exact j3.2.2.2.2.2 q
