/-! staff: what both sides answer. -/
theorem h_isIn {d : Nat} {v lo hi : Int32} {s : LMem} {Q : LPost} (h1 : lo.toInt ≤ v.toInt → v.toInt ≤ hi.toInt → Q (some (lI 1)) s) (h0 : ¬ (lo.toInt ≤ v.toInt ∧ v.toInt ≤ hi.toInt) → Q (some (lI 0)) s) : qC false (d + 1) 157 [lI v, lI lo, lI hi] s Q := by
  refine qC_of rfl rfl ?_
  refine qa_t1_W (cut := []) 20 ?_
  refine And.intro (fun c => ?_) (fun c => ?_)
  · have c := Int32.lt_iff_toInt_lt.mp c
    exact And.intro (Or.inl rfl) (h0 (fun q => by omega))
  · have c : ¬ v.toInt < lo.toInt := fun q => c (Int32.lt_iff_toInt_lt.mpr q)
    refine And.intro (fun c2 => ?_) (fun c2 => ?_)
    · have c2 := Int32.lt_iff_toInt_lt.mp c2
      exact And.intro (Or.inl rfl) (h0 (fun q => by omega))
    · have c2 : ¬ hi.toInt < v.toInt := fun q => c2 (Int32.lt_iff_toInt_lt.mpr q)
      exact And.intro (Or.inr rfl) (h1 (by omega) (by omega))
def saOK (r v : Int32) : Prop := 0 ≤ r.toInt ∧ r.toInt ≤ 19 ∧ -1 ≤ v.toInt ∧ v.toInt ≤ 999
def saV (r v : Int32) : Int32 := if 0 ≤ r.toInt ∧ r.toInt ≤ 19 ∧ -1 ≤ v.toInt ∧ v.toInt ≤ 999 then 1 else 0
theorem saV_1 {w v : Int32} (h : saOK w v) : saV w v = 1 := if_pos h
theorem saV_0 {w v : Int32} (h : ¬ saOK w v) : saV w v = 0 := if_neg h
theorem i32_0 : (0 : Int32).toInt = 0 := by decide
theorem i32_m1 : (-1 : Int32).toInt = -1 := by decide
theorem i32_19 : (19 : Int32).toInt = 19 := by decide
theorem i32_20 : (20 : Int32).toInt = 20 := by decide
theorem i32_999 : (999 : Int32).toInt = 999 := by decide
theorem sa_11 {d : Nat} {r v : Int32} {s : LMem} : qC false (d + 3) 184 [lR 0 (some 0), lI r, lI v] s (fun a _ => a = some (lI (saV r v))) := by
  refine qC_of rfl rfl ?_
  refine qa_t1_W (cut := []) 20 ?_
  refine qC_of rfl rfl ?_
  have yes : saOK r v → some (lI (1 : Int32)) = some (lI (saV r v)) := fun h => by rw [saV_1 h]
  have no : ¬ saOK r v → some (lI (0 : Int32)) = some (lI (saV r v)) := fun h => by rw [saV_0 h]
  refine qa_t1_W (cut := []) 100 ?_
  refine And.intro (fun c => ?_) (fun c => ?_)
  · have c := Int32.lt_iff_toInt_lt.mp c
    rw [i32_0] at c
    exact And.intro (Or.inl rfl) (Exists.intro 0 (And.intro rfl (And.intro (Or.inl rfl) (no (fun q => by have := q.1; omega)))))
  · have c : ¬ r.toInt < (0 : Int32).toInt := fun q => c (Int32.lt_iff_toInt_lt.mpr q)
    rw [i32_0] at c
    refine And.intro (fun c2 => ?_) (fun c2 => ?_)
    · have c2 : r < 20 := c2
      have c2 := Int32.lt_iff_toInt_lt.mp c2
      rw [i32_20] at c2
      refine h_isIn (fun g1 g2 => Exists.intro 1 (And.intro rfl ?_)) (fun g => Exists.intro 0 (And.intro rfl ?_))
      · rw [i32_m1] at g1
        rw [i32_999] at g2
        refine And.intro (fun q => absurd q (by decide)) (fun _ => ?_)
        have v0 : qa_vin r 20 := by
          have e : r = nI r.toInt.toNat := y_nIof (by omega)
          rw [e]
          exact nI_in (by omega) (by decide)
        exact And.intro v0 (And.intro (Or.inr rfl) (Exists.intro 1 (And.intro rfl (And.intro (Or.inr rfl) (yes ⟨by omega, by omega, g1, g2⟩)))))
      · rw [i32_m1, i32_999] at g
        refine And.intro (fun _ => ?_) (fun q => absurd rfl q)
        exact And.intro (Or.inl rfl) (Exists.intro 0 (And.intro rfl (And.intro (Or.inl rfl) (no (fun q => g ⟨q.2.2.1, q.2.2.2⟩)))))
    · have c2 : ¬ r < 20 := c2
      have c2 : ¬ r.toInt < (20 : Int32).toInt := fun q => c2 (Int32.lt_iff_toInt_lt.mpr q)
      rw [i32_20] at c2
      exact And.intro (Or.inl rfl) (Exists.intro 0 (And.intro rfl (And.intro (Or.inl rfl) (no (fun q => by have := q.2.1; omega)))))
theorem sa_12 {d : Nat} {r v : Int32} {s : LMem} : qC false (d + 2) 282 [lR 33 (some 0), lI r, lI v] s (fun a _ => a = some (lI (saV r v))) := by
  refine qC_of rfl rfl ?_
  have yes : saOK r v → some (lI (1 : Int32)) = some (lI (saV r v)) := fun h => by rw [saV_1 h]
  have no : ¬ saOK r v → some (lI (0 : Int32)) = some (lI (saV r v)) := fun h => by rw [saV_0 h]
  refine qa_t1_W (cut := []) 100 ?_
  refine h_in (fun g1 g2 => Exists.intro 1 (And.intro rfl ?_)) (fun g => Exists.intro 0 (And.intro rfl ?_))
  · rw [i32_0] at g1
    rw [i32_19] at g2
    refine And.intro (fun q => absurd q (by decide)) (fun _ => ?_)
    refine h_in (fun g3 g4 => Exists.intro 1 (And.intro rfl ?_)) (fun g => Exists.intro 0 (And.intro rfl ?_))
    · rw [i32_m1] at g3
      rw [i32_999] at g4
      refine And.intro (fun q => absurd q (by decide)) (fun _ => ?_)
      have v0 : qa_vin r 20 := by
        have e : r = nI r.toInt.toNat := y_nIof (by omega)
        rw [e]
        exact nI_in (by omega) (by decide)
      exact And.intro v0 (And.intro (Or.inr rfl) (yes ⟨g1, g2, g3, g4⟩))
    · rw [i32_m1, i32_999] at g
      exact And.intro (fun _ => And.intro (Or.inl rfl) (no (fun q => g ⟨q.2.2.1, q.2.2.2⟩))) (fun q => absurd rfl q)
  · rw [i32_0, i32_19] at g
    exact And.intro (fun _ => And.intro (Or.inl rfl) (no (fun q => g ⟨q.1, q.2.1⟩))) (fun q => absurd rfl q)
theorem sfv_X11_staff (w v : Int32) {s : LMem} {Q : LPost} (hJ : y_J x_X s) (h : ∀ s', y_J x_X s' → (∀ i j, gI s' 65 i j = gI s 65 i j) → Q (some (lI (saV w v))) s') : qC false 1200 184 [lR 0 (some 0), lI w, lI v] s Q := by
  have h1 : qC false 1200 184 [lR 0 (some 0), lI w, lI v] s (fun _ s' => y_J x_X s' ∧ ∀ i j, gI s' 65 i j = gI s 65 i j) := sf_X11_staff w v hJ (fun _ s' g1 g2 => ⟨g1, g2⟩)
  refine qC_mono (qC_and h1 (sa_11 (d := 1197))) (fun r s' g => ?_)
  obtain ⟨⟨g1, g2⟩, g3⟩ := g
  have g3 : r = some (lI (saV w v)) := g3
  rw [g3]
  exact h s' g1 g2
theorem sfv_X12_staff (w v : Int32) {s : LMem} {Q : LPost} (hJ : y_J x_X s) (h : ∀ s', y_J x_X s' → (∀ i j, gI s' 65 i j = gI s 65 i j) → Q (some (lI (saV w v))) s') : qC false 1200 282 [lR 33 (some 0), lI w, lI v] s Q := by
  have h1 : qC false 1200 282 [lR 33 (some 0), lI w, lI v] s (fun _ s' => y_J x_X s' ∧ ∀ i j, gI s' 65 i j = gI s 65 i j) := sf_X12_staff w v hJ (fun _ s' g1 g2 => ⟨g1, g2⟩)
  refine qC_mono (qC_and h1 (sa_12 (d := 1198))) (fun r s' g => ?_)
  obtain ⟨⟨g1, g2⟩, g3⟩ := g
  have g3 : r = some (lI (saV w v)) := g3
  rw [g3]
  exact h s' g1 g2
/-- a static call that is none of Math's -/
theorem qi_static {ph : Bool} {mi bc bs k pc : Nat} {x : List Nat} {v : Int32} {w : Int64} {loc : LLoc} {st : LStk} {s : LMem} (h : Nat.ble 1005 (qa_get x 0) = true) : qa_ins ph mi bc bs (.invokestatic k, x, v, w) pc loc st s = qa_inv2 x st bc bs (pc + 3) loc s := by
  have h := Nat.le_of_ble_eq_true h
  unfold qa_ins
  dsimp only
  split
  · rename_i e; omega
  · rename_i e; omega
  · rename_i e; omega
  · rename_i e; omega
  · rename_i e; omega
  · rfl
