/-! BOUNDS of a day: nothing overflows, letters stay small, for thirty days. -/
def smI (g : Nat → Int) : Nat → Int
  | 0 => 0
  | k + 1 => smI g k + g k
section SM
variable {n : Nat} {g h w w' : Nat → Int}
theorem sm_cg (H : ∀ r, r < n → g r = h r) : ∀ k, k ≤ n → smI g k = smI h k
  | 0, _ => rfl
  | k + 1, hk => by
    show smI g k + g k = smI h k + h k
    rw [sm_cg H k (by omega), H k (by omega)]
theorem sm_nn (H : ∀ r, r < n → 0 ≤ g r) : ∀ k, k ≤ n → 0 ≤ smI g k
  | 0, _ => Int.le_refl _
  | k + 1, hk => by
    have i := sm_nn H k (by omega)
    have j := H k (by omega)
    show 0 ≤ smI g k + g k
    omega
theorem sm_le (H : ∀ r, r < n → 0 ≤ g r) : ∀ k, k ≤ n → ∀ r, r < k → g r ≤ smI g k
  | 0, _, r, hr => absurd hr (Nat.not_lt_zero r)
  | k + 1, hk, r, hr => by
    have i := sm_nn H k (by omega)
    have j := H k (by omega)
    show g r ≤ smI g k + g k
    by_cases e : r = k
    · rw [e]
      omega
    · have l := sm_le H k (by omega) r (by omega)
      omega
theorem sm_up {c : Int} (hc : c = 99 ∨ c = 9 ∨ c = 5) (H : ∀ r, r < n → g r ≤ h r + c) : ∀ k : Nat, k ≤ n → smI g k ≤ smI h k + (k : Int) * c
  | 0, _ => by
    show (0 : Int) ≤ 0 + ((0 : Nat) : Int) * c
    rcases hc with rfl | rfl | rfl <;> decide
  | k + 1, hk => by
    have i := sm_up hc H k (by omega)
    have j := H k (by omega)
    show smI g k + g k ≤ smI h k + h k + ((k + 1 : Nat) : Int) * c
    rcases hc with rfl | rfl | rfl <;> omega
theorem sm_go (H : ∀ r, r < n → w' r = w r + ((if 0 < r then g (r - 1) else 0) - g r)) : ∀ k, k ≤ n → smI w' k = smI w k - (if 0 < k then g (k - 1) else 0)
  | 0, _ => by
    show (0 : Int) = 0 - (if 0 < 0 then g (0 - 1) else 0)
    rw [if_neg (Nat.lt_irrefl 0)]
    rfl
  | k + 1, hk => by
    have i := sm_go H k (by omega)
    have j := H k (by omega)
    have e : (if 0 < k + 1 then g (k + 1 - 1) else 0) = g k := if_pos (Nat.succ_pos k)
    show smI w' k + w' k = smI w k + w k - (if 0 < k + 1 then g (k + 1 - 1) else 0)
    rw [e, i, j]
    generalize (if 0 < k then g (k - 1) else 0) = z
    omega
end SM
/-- what is told of a row -/
def stG (X : Nat → Nat → Int32) (r : Nat) : Prop := (0 ≤ (X 2 r).toInt ∧ (X 2 r).toInt ≤ 200) ∧ (1 ≤ (X 3 r).toInt ∧ (X 3 r).toInt ≤ 9) ∧ (0 ≤ (X 1 r).toInt ∧ (X 1 r).toInt ≤ 2) ∧ (∃ o : Nat, o < 6 ∧ X 4 r = nI o) ∧ X 13 r = 0 ∧ X 14 r = 0
def rwG (K : Int) (X : Nat → Nat → Int32) (r : Nat) : Prop := stG X r ∧ 0 ≤ (X 6 r).toInt ∧ 0 ≤ (X 7 r).toInt ∧ 0 ≤ (X 9 r).toInt ∧ (0 ≤ (X 8 r).toInt ∧ (X 8 r).toInt ≤ 99) ∧ 0 ≤ (X 11 r).toInt ∧ (X 11 r).toInt ≤ K
def Gd (B M K : Int) (n : Nat) (X : Nat → Nat → Int32) : Prop := (∀ r, r < n → rwG K X r) ∧ smI (fun r => (X 6 r).toInt) n ≤ B ∧ smI (fun r => (X 7 r).toInt + (X 9 r).toInt) n ≤ M
theorem stG_c {n r : Nat} {X Y : Nat → Nat → Int32} (h : eqn n X Y) (hr : r < n) (g : stG X r) : stG Y r := by
  unfold stG at g ⊢
  rw [← h 1 r (by decide) hr, ← h 2 r (by decide) hr, ← h 3 r (by decide) hr, ← h 4 r (by decide) hr, ← h 13 r (by decide) hr, ← h 14 r (by decide) hr]
  exact g
theorem Gd_c {B M K : Int} {n : Nat} {X Y : Nat → Nat → Int32} (h : eqn n X Y) (g : Gd B M K n X) : Gd B M K n Y := by
  refine ⟨fun r hr => ?_, ?_, ?_⟩
  · obtain ⟨a, b⟩ := g.1 r hr
    refine ⟨stG_c h hr a, ?_⟩
    rw [← h 6 r (by decide) hr, ← h 7 r (by decide) hr, ← h 8 r (by decide) hr, ← h 9 r (by decide) hr, ← h 11 r (by decide) hr]
    exact b
  · rw [← sm_cg (n := n) (g := fun r => (X 6 r).toInt) (fun r hr => by
      show (X 6 r).toInt = (Y 6 r).toInt
      rw [h 6 r (by decide) hr]) n (Nat.le_refl _)]
    exact g.2.1
  · rw [← sm_cg (n := n) (g := fun r => (X 7 r).toInt + (X 9 r).toInt) (fun r hr => by
      show (X 7 r).toInt + (X 9 r).toInt = (Y 7 r).toInt + (Y 9 r).toInt
      rw [h 7 r (by decide) hr, h 9 r (by decide) hr]) n (Nat.le_refl _)]
    exact g.2.2
section GD
variable {B M K : Int} {n : Nat} {X : Nat → Nat → Int32} {tide rain silt summer : Int32} {cs : List Cz} {D : Int64}
theorem Gd_w (G : Gd B M K n X) {r : Nat} (hr : r < n) : (X 6 r).toInt ≤ B := Int.le_trans (sm_le (g := fun r => (X 6 r).toInt) (fun q hq => (G.1 q hq).2.1) n (Nat.le_refl _) r hr) G.2.1
theorem Gd_m (G : Gd B M K n X) {r : Nat} (hr : r < n) : (X 7 r).toInt + (X 9 r).toInt ≤ M := Int.le_trans (sm_le (g := fun r => (X 7 r).toInt + (X 9 r).toInt) (fun q hq => by
  have a := (G.1 q hq).2.2.1
  have b := (G.1 q hq).2.2.2.1
  show 0 ≤ (X 7 q).toInt + (X 9 q).toInt
  omega) n (Nat.le_refl _) r hr) G.2.2
theorem lev_b (G : Gd B M K n X) (hB : B ≤ 60000) (hM : M ≤ 9000) {r : Nat} (hr : r < n) : 0 ≤ (lev X r).toInt ∧ (lev X r).toInt ≤ 70000 := by
  have w := Gd_w G hr
  have m := Gd_m G hr
  obtain ⟨⟨a2, a3, _⟩, a6, a7, a9, _⟩ := G.1 r hr
  have h3 : 0 < X 3 r := Int32.lt_iff_toInt_lt.mpr (show (0 : Int) < (X 3 r).toInt by omega)
  have q1 : 0 ≤ (X 6 r).toInt / (X 3 r).toInt := Int.ediv_nonneg a6 (by omega)
  have q2 : (X 6 r).toInt / (X 3 r).toInt ≤ (X 6 r).toInt := Int.ediv_le_self _ a6
  have qe : (X 6 r / X 3 r).toInt = (X 6 r).toInt / (X 3 r).toInt := y_divI a6 (by omega)
  have se : (X 2 r + X 7 r).toInt = (X 2 r).toInt + (X 7 r).toInt := y_addI (by omega) (by omega)
  unfold lev
  rw [if_pos h3, y_addI (by rw [se, qe]; omega) (by rw [se, qe]; omega), se, qe]
  omega
theorem abv_b (G : Gd B M K n X) (hB : B ≤ 60000) (hM : M ≤ 9000) (ht : 0 ≤ tide.toInt ∧ tide.toInt ≤ 99) {r : Nat} (hr : r < n) : -70000 ≤ (abv tide n X r).toInt ∧ (abv tide n X r).toInt ≤ 70000 := by
  have a := lev_b G hB hM hr
  unfold abv
  by_cases c : r + 1 < n
  · have b := lev_b G hB hM c
    rw [if_pos c, y_subI (by omega) (by omega)]
    omega
  · rw [if_neg c, y_subI (by omega) (by omega)]
    omega
theorem to64 (x : Int32) : x.toInt64.toInt32 = x := Int32.toInt_inj.mp (by rw [Int64.toInt_toInt32, Int32.toInt_toInt64, y_bmod (y_lo x) (y_hi x)])
theorem bdV_id {x : Int32} (h : -1000000 ≤ x.toInt ∧ x.toInt ≤ 1000000) : bdV x.toInt64 = x := by
  have e1 : (1000000 : Int64).toInt = 1000000 := by decide
  have e2 : (-1000000 : Int64).toInt = -1000000 := by decide
  have c1 : ¬ x.toInt64 > 1000000 := fun q => by
    have q := Int64.lt_iff_toInt_lt.mp q
    rw [Int32.toInt_toInt64, e1] at q
    omega
  have c2 : ¬ x.toInt64 < -1000000 := fun q => by
    have q := Int64.lt_iff_toInt_lt.mp q
    rw [Int32.toInt_toInt64, e2] at q
    omega
  unfold bdV
  rw [if_neg c1, if_neg c2, to64]
theorem lt_b (G : Gd B M K n X) (hB : B ≤ 60000) (hM : M ≤ 9000) (hK : K ≤ 30) (ht : 0 ≤ tide.toInt ∧ tide.toInt ≤ 99) (hq : 0 ≤ rain.toInt ∧ rain.toInt ≤ 99) {r : Nat} (hr : r < n) (i : Int32) : -1000000 ≤ (ltX X r (abv tide n X r) rain i).toInt ∧ (ltX X r (abv tide n X r) rain i).toInt ≤ 1000000 := by
  have w := Gd_w G hr
  have m := Gd_m G hr
  have a := abv_b G hB hM ht hr
  obtain ⟨⟨a2, a3, a1, _⟩, a6, a7, a9, a8, a11⟩ := G.1 r hr
  have h3 : 0 < X 3 r := Int32.lt_iff_toInt_lt.mpr (show (0 : Int) < (X 3 r).toInt by omega)
  have q1 : 0 ≤ (X 6 r).toInt / (X 3 r).toInt := Int.ediv_nonneg a6 (by omega)
  have q2 : (X 6 r).toInt / (X 3 r).toInt ≤ (X 6 r).toInt := Int.ediv_le_self _ a6
  have qe : (X 6 r / X 3 r).toInt = (X 6 r).toInt / (X 3 r).toInt := y_divI a6 (by omega)
  unfold ltX
  rw [if_pos h3]
  by_cases i0 : i = 0
  · rw [if_pos i0]
    omega
  rw [if_neg i0]
  by_cases i1 : i = 1
  · rw [if_pos i1, qe]
    omega
  rw [if_neg i1]
  by_cases i2 : i = 2
  · rw [if_pos i2]
    omega
  rw [if_neg i2]
  by_cases i3 : i = 3
  · rw [if_pos i3]
    omega
  rw [if_neg i3]
  by_cases i4 : i = 4
  · rw [if_pos i4]
    omega
  rw [if_neg i4]
  by_cases i5 : i = 5
  · rw [if_pos i5]
    omega
  rw [if_neg i5]
  by_cases i6 : i = 6
  · rw [if_pos i6]
    omega
  rw [if_neg i6]
  omega
theorem L_id (G : Gd B M K n X) (hB : B ≤ 60000) (hM : M ≤ 9000) (hK : K ≤ 30) (ht : 0 ≤ tide.toInt ∧ tide.toInt ≤ 99) (hq : 0 ≤ rain.toInt ∧ rain.toInt ≤ 99) {r : Nat} (hr : r < n) : (fun i => bdV (ltX X r (abv tide n X r) rain i).toInt64) = (fun i => ltX X r (abv tide n X r) rain i) := funext fun i => bdV_id (lt_b G hB hM hK ht hq hr i)
theorem minL_e {a b : Int32} : qa_minL a.toInt64 b.toInt64 = (qa_min a b).toInt64 := by
  unfold qa_minL qa_min
  by_cases c : b < a
  · rw [if_pos c, if_pos (Int64.lt_iff_toInt_lt.mpr (by
      rw [Int32.toInt_toInt64, Int32.toInt_toInt64]
      exact Int32.lt_iff_toInt_lt.mp c))]
  · rw [if_neg c, if_neg (fun q => c (Int32.lt_iff_toInt_lt.mpr (by
      have q := Int64.lt_iff_toInt_lt.mp q
      rw [Int32.toInt_toInt64, Int32.toInt_toInt64] at q
      exact q)))]
theorem mulL_e {a b : Int32} (h1 : -2147483648 ≤ a.toInt * b.toInt) (h2 : a.toInt * b.toInt ≤ 2147483647) : a.toInt64 * b.toInt64 = (a * b).toInt64 := Int64.toInt_inj.mp (by
  rw [Int64.toInt_mul, Int32.toInt_toInt64, Int32.toInt_toInt64, Int32.toInt_toInt64, y_mulI h1 h2]
  exact Int.bmod_eq_of_le_mul_two (by show -(18446744073709551616 : Int) ≤ _; omega) (by show _ < (18446744073709551616 : Int); omega))
theorem mn_b (a b : Int32) : (qa_min a b).toInt ≤ a.toInt ∧ (qa_min a b).toInt ≤ b.toInt ∧ (qa_min a b = a ∨ qa_min a b = b) := by
  unfold qa_min
  by_cases c : b < a
  · have c2 := Int32.lt_iff_toInt_lt.mp c
    rw [if_pos c]
    exact ⟨by omega, Int.le_refl _, Or.inr rfl⟩
  · have c2 := y_nlt c
    rw [if_neg c]
    exact ⟨Int.le_refl _, c2, Or.inl rfl⟩
theorem i0_lt {x : Int32} : 0 < x ↔ 0 < x.toInt := ⟨fun q => by
  have q := Int32.lt_iff_toInt_lt.mp q
  exact q, fun q => Int32.lt_iff_toInt_lt.mpr q⟩
theorem mx_0 {z : Int32} (h : ¬ 0 < z) : qa_max 0 z = 0 := by
  unfold qa_max
  rw [if_neg h]
theorem mx_1 {z : Int32} (h : 0 < z) : qa_max 0 z = z := by
  unfold qa_max
  rw [if_pos h]
theorem fl_b (h6 : ∀ r, r < n → 0 ≤ (X 6 r).toInt) {r : Nat} (hr : r < n) : 0 ≤ (flF tide n cs rain X r).toInt ∧ (flF tide n cs rain X r).toInt ≤ (X 6 r).toInt := by
  have a6 := h6 r hr
  unfold flF
  by_cases c : X 13 r = 0 ∧ 0 < abv tide n X r ∧ 0 < X 6 r
  · rw [if_pos c]
    have b1 := mn_b (wrV (fun i => bdV (ltX X r (abv tide n X r) rain i).toInt64) cs) (qa_min (X 6 r) (abv tide n X r * X 3 r))
    have b2 := mn_b (X 6 r) (abv tide n X r * X 3 r)
    by_cases z : 0 < qa_min (wrV (fun i => bdV (ltX X r (abv tide n X r) rain i).toInt64) cs) (qa_min (X 6 r) (abv tide n X r * X 3 r))
    · rw [mx_1 z]
      have z := i0_lt.mp z
      omega
    · rw [mx_0 z]
      exact ⟨Int.le_refl _, a6⟩
  · rw [if_neg c]
    exact ⟨Int.le_refl _, a6⟩
theorem fl_e (G : Gd B M K n X) (hB : B ≤ 60000) (hM : M ≤ 9000) (hK : K ≤ 30) (ht : 0 ≤ tide.toInt ∧ tide.toInt ≤ 99) (hq : 0 ≤ rain.toInt ∧ rain.toInt ≤ 99) {r : Nat} (hr : r < n) : flR tide n cs rain X r = flF tide n cs rain X r := by
  have w := Gd_w G hr
  have a := abv_b G hB hM ht hr
  obtain ⟨⟨a2, a3, a1, _, a13, _⟩, a6, _⟩ := G.1 r hr
  have n13 : ¬ X 13 r = 1 := fun q => by
    rw [a13] at q
    exact absurd q (by decide)
  unfold flR vlR flF
  rw [if_neg n13, L_id G hB hM hK ht hq hr]
  generalize wrV (fun i => ltX X r (abv tide n X r) rain i) cs = v
  generalize abv tide n X r = y at a ⊢
  by_cases c : 0 < y
  · have c' := i0_lt.mp c
    rw [if_pos c]
    have p1 : 0 < y.toInt * (X 3 r).toInt := Int.mul_pos c' (by omega)
    have p2 : y.toInt * (X 3 r).toInt ≤ 70000 * 9 := Int.mul_le_mul a.2 a3.2 (by omega) (by decide)
    have em : (y * X 3 r).toInt = y.toInt * (X 3 r).toInt := y_mulI (by omega) (by omega)
    rw [mulL_e (by omega) (by omega), minL_e, minL_e, to64]
    have b1 := mn_b v (qa_min (X 6 r) (y * X 3 r))
    have b2 := mn_b (X 6 r) (y * X 3 r)
    by_cases c6 : 0 < X 6 r
    · have c6' := i0_lt.mp c6
      rw [if_pos (show X 13 r = 0 ∧ 0 < y ∧ 0 < X 6 r from ⟨a13, c, c6⟩)]
      by_cases cv : 0 < v
      · have cv' := i0_lt.mp cv
        rw [if_pos cv, mx_1 (i0_lt.mpr ?_)]
        rcases b1.2.2 with e | e
        · rw [e]
          exact cv'
        · rw [e]
          rcases b2.2.2 with e | e
          · rw [e]
            exact c6'
          · rw [e, em]
            exact p1
      · have cv' : ¬ 0 < v.toInt := fun q => cv (i0_lt.mpr q)
        rw [if_neg cv, mx_0 (fun q => by
          have q := i0_lt.mp q
          omega)]
    · have c6' : ¬ 0 < (X 6 r).toInt := fun q => c6 (i0_lt.mpr q)
      have e6 : X 6 r = 0 := Int32.toInt_inj.mp (show (X 6 r).toInt = 0 by omega)
      rw [if_neg (show ¬ (X 13 r = 0 ∧ 0 < y ∧ 0 < X 6 r) from fun q => c6 q.2.2)]
      by_cases cv : 0 < v
      · have cv' := i0_lt.mp cv
        have z2 : qa_min (X 6 r) (y * X 3 r) = X 6 r := by
          unfold qa_min
          rw [if_neg (fun q => by
            have q := Int32.lt_iff_toInt_lt.mp q
            rw [em] at q
            omega)]
        rw [if_pos cv, z2, e6]
        unfold qa_min
        rw [if_pos cv]
      · rw [if_neg cv]
  · rw [if_neg c, if_neg (show ¬ (0 : Int32) < 0 by decide), if_neg (fun q => c q.2.1)]
theorem p2_e (G : Gd B M K n X) (hB : B ≤ 60000) (hM : M ≤ 9000) (hK : K ≤ 30) (ht : 0 ≤ tide.toInt ∧ tide.toInt ≤ 99) (hq : 0 ≤ rain.toInt ∧ rain.toInt ≤ 99) : eqn n (p2R tide n cs rain X) (p2F tide n cs rain X) := fun f r _ hr => by
  unfold p2R p2F
  rw [fl_e G hB hM hK ht hq hr]
end GD
