/-! set: what both sides answer. -/
theorem h_isIn {d : Nat} {v lo hi : Int32} {s : LMem} {Q : LPost} (h1 : lo.toInt ≤ v.toInt → v.toInt ≤ hi.toInt → Q (some (lI 1)) s) (h0 : ¬ (lo.toInt ≤ v.toInt ∧ v.toInt ≤ hi.toInt) → Q (some (lI 0)) s) : qC false (d + 1) 157 [lI v, lI lo, lI hi] s Q := by
  refine qC_of rfl rfl ?_
  refine qa_t1_W (cut := []) 20 ?_
  refine And.intro (fun c => ?_) (fun c => ?_)
  · have c := Int32.lt_iff_toInt_lt.mp c
    exact And.intro (Or.inl rfl) (h0 (fun q => by omega))
  · have c : ¬ v.toInt < lo.toInt := fun q => c (Int32.lt_iff_toInt_lt.mpr q)
    refine And.intro (fun c2 => ?_) (fun c2 => ?_)
    · have c2 := Int32.lt_iff_toInt_lt.mp c2
      exact And.intro (Or.inl rfl) (h0 (fun q => by omega))
    · have c2 : ¬ hi.toInt < v.toInt := fun q => c2 (Int32.lt_iff_toInt_lt.mpr q)
      exact And.intro (Or.inr rfl) (h1 (by omega) (by omega))
def stOK (w v : Int32) : Prop := 0 ≤ v.toInt ∧ ((w = 0 ∧ v.toInt ≤ 99) ∨ (w = 1 ∧ v.toInt ≤ 9) ∨ (w = 2 ∧ v.toInt ≤ 1))
def stV (w v : Int32) : Int32 := if 0 ≤ v.toInt ∧ ((w = 0 ∧ v.toInt ≤ 99) ∨ (w = 1 ∧ v.toInt ≤ 9) ∨ (w = 2 ∧ v.toInt ≤ 1)) then 1 else 0
theorem stV_1 {w v : Int32} (h : stOK w v) : stV w v = 1 := if_pos h
theorem stV_0 {w v : Int32} (h : ¬ stOK w v) : stV w v = 0 := if_neg h
theorem i32_0 : (0 : Int32).toInt = 0 := by decide
theorem i32_1 : (1 : Int32).toInt = 1 := by decide
theorem i32_2 : (2 : Int32).toInt = 2 := by decide
theorem i32_9 : (9 : Int32).toInt = 9 := by decide
theorem i32_99 : (99 : Int32).toInt = 99 := by decide
theorem st_11 {d : Nat} {w v : Int32} {s : LMem} : qC false (d + 3) 161 [lR 0 (some 0), lI w, lI v] s (fun r _ => r = some (lI (stV w v))) := by
  refine qC_of rfl rfl ?_
  refine qa_t1_W (cut := []) 20 ?_
  refine qC_of rfl rfl ?_
  have yes : stOK w v → some (lI (1 : Int32)) = some (lI (stV w v)) := fun h => by rw [stV_1 h]
  have no : ¬ stOK w v → some (lI (0 : Int32)) = some (lI (stV w v)) := fun h => by rw [stV_0 h]
  refine qa_t1_W (cut := []) 100 ?_
  by_cases e0 : w = 0
  · subst e0
    refine And.intro (fun _ => ?_) (fun q => absurd rfl q)
    refine h_isIn (fun g1 g2 => Exists.intro 1 (And.intro rfl ?_)) (fun g => Exists.intro 0 (And.intro rfl ?_))
    · refine And.intro (fun q => absurd q (by decide)) (fun _ => ?_)
      rw [i32_0] at g1
      rw [i32_99] at g2
      exact And.intro (Or.inr rfl) (Exists.intro 1 (And.intro rfl (And.intro (Or.inr rfl) (yes ⟨g1, Or.inl ⟨rfl, g2⟩⟩))))
    · refine And.intro (fun _ => ?_) (fun q => absurd rfl q)
      rw [i32_0, i32_99] at g
      refine And.intro (fun q => absurd q (by decide)) (fun _ => ?_)
      refine And.intro (fun q => absurd q (by decide)) (fun _ => ?_)
      exact And.intro (Or.inl rfl) (Exists.intro 0 (And.intro rfl (And.intro (Or.inl rfl) (no (fun q => by
        rcases q with ⟨q0, ⟨_, q1⟩ | ⟨q1, _⟩ | ⟨q1, _⟩⟩
        · exact g ⟨q0, q1⟩
        · exact absurd q1 (by decide)
        · exact absurd q1 (by decide))))))
  · refine And.intro (fun q => absurd q e0) (fun _ => ?_)
    by_cases e1 : w = 1
    · subst e1
      refine And.intro (fun _ => ?_) (fun q => absurd rfl q)
      refine h_isIn (fun g1 g2 => Exists.intro 1 (And.intro rfl ?_)) (fun g => Exists.intro 0 (And.intro rfl ?_))
      · refine And.intro (fun q => absurd q (by decide)) (fun _ => ?_)
        rw [i32_0] at g1
        rw [i32_9] at g2
        exact And.intro (Or.inr rfl) (Exists.intro 1 (And.intro rfl (And.intro (Or.inr rfl) (yes ⟨g1, Or.inr (Or.inl ⟨rfl, g2⟩)⟩))))
      · refine And.intro (fun _ => ?_) (fun q => absurd rfl q)
        rw [i32_0, i32_9] at g
        refine And.intro (fun q => absurd q (by decide)) (fun _ => ?_)
        exact And.intro (Or.inl rfl) (Exists.intro 0 (And.intro rfl (And.intro (Or.inl rfl) (no (fun q => by
          rcases q with ⟨q0, ⟨q1, _⟩ | ⟨_, q1⟩ | ⟨q1, _⟩⟩
          · exact absurd q1 (by decide)
          · exact g ⟨q0, q1⟩
          · exact absurd q1 (by decide))))))
    · refine And.intro (fun q => absurd q e1) (fun _ => ?_)
      by_cases e2 : w = 2
      · subst e2
        refine And.intro (fun _ => ?_) (fun q => absurd rfl q)
        refine h_isIn (fun g1 g2 => Exists.intro 1 (And.intro rfl ?_)) (fun g => Exists.intro 0 (And.intro rfl ?_))
        · refine And.intro (fun q => absurd q (by decide)) (fun _ => ?_)
          rw [i32_0] at g1
          rw [i32_1] at g2
          exact And.intro (Or.inr rfl) (Exists.intro 1 (And.intro rfl (And.intro (Or.inr rfl) (yes ⟨g1, Or.inr (Or.inr ⟨rfl, g2⟩)⟩))))
        · refine And.intro (fun _ => ?_) (fun q => absurd rfl q)
          rw [i32_0, i32_1] at g
          exact And.intro (Or.inl rfl) (Exists.intro 0 (And.intro rfl (And.intro (Or.inl rfl) (no (fun q => by
            rcases q with ⟨q0, ⟨q1, _⟩ | ⟨q1, _⟩ | ⟨_, q1⟩⟩
            · exact absurd q1 (by decide)
            · exact absurd q1 (by decide)
            · exact g ⟨q0, q1⟩)))))
      · refine And.intro (fun q => absurd q e2) (fun _ => ?_)
        exact And.intro (Or.inl rfl) (Exists.intro 0 (And.intro rfl (And.intro (Or.inl rfl) (no (fun q => by
          rcases q with ⟨q0, ⟨q1, _⟩ | ⟨q1, _⟩ | ⟨q1, _⟩⟩
          · exact e0 q1
          · exact e1 q1
          · exact e2 q1)))))
theorem st_12 {d : Nat} {w v : Int32} {s : LMem} : qC false (d + 2) 242 [lR 33 (some 0), lI w, lI v] s (fun r _ => r = some (lI (stV w v))) := by
  refine qC_of rfl rfl ?_
  have yes : stOK w v → some (lI (1 : Int32)) = some (lI (stV w v)) := fun h => by rw [stV_1 h]
  have no : ¬ stOK w v → some (lI (0 : Int32)) = some (lI (stV w v)) := fun h => by rw [stV_0 h]
  refine qa_t1_W (cut := [39]) 100 ?_
  have t39 : stOK w v → ∀ m, qW false (d + 1) 242 0 0 39 [some (lR 33 (some 0)), some (lI w), some (lI v)] [] m (fun r _ => r = some (lI (stV w v))) := fun h m => by
    refine qa_t1_W (cut := []) 100 ?_
    refine And.intro (fun _ => ?_) (fun _ => ?_) <;> refine And.intro (fun _ => ?_) (fun _ => ?_) <;> refine And.intro (fun _ => ?_) (fun _ => ?_) <;> exact And.intro (Or.inr rfl) (yes h)
  refine h_in (fun g1 g2 => Exists.intro 1 (And.intro rfl ?_)) (fun g => Exists.intro 0 (And.intro rfl ?_))
  · refine And.intro (fun q => absurd q (by decide)) (fun _ => ?_)
    rw [i32_0] at g1
    rw [i32_2] at g2
    by_cases e0 : w = 0
    · subst e0
      refine And.intro (fun _ => ?_) (fun q => absurd rfl q)
      refine h_in (fun g1 g2 => Exists.intro 1 (And.intro rfl ?_)) (fun g => Exists.intro 0 (And.intro rfl ?_))
      · rw [i32_0] at g1
        rw [i32_99] at g2
        exact And.intro (fun q => absurd q (by decide)) (fun _ => t39 ⟨g1, Or.inl ⟨rfl, g2⟩⟩ _)
      · rw [i32_0, i32_99] at g
        exact And.intro (fun _ => And.intro (Or.inl rfl) (no (fun q => by
          rcases q with ⟨q0, ⟨_, q1⟩ | ⟨q1, _⟩ | ⟨q1, _⟩⟩
          · exact g ⟨q0, q1⟩
          · exact absurd q1 (by decide)
          · exact absurd q1 (by decide)))) (fun q => absurd rfl q)
    · refine And.intro (fun q => absurd q e0) (fun _ => ?_)
      by_cases e1 : w = 1
      · subst e1
        refine And.intro (fun _ => ?_) (fun q => absurd rfl q)
        refine h_in (fun g1 g2 => Exists.intro 1 (And.intro rfl ?_)) (fun g => Exists.intro 0 (And.intro rfl ?_))
        · rw [i32_0] at g1
          rw [i32_9] at g2
          exact And.intro (fun q => absurd q (by decide)) (fun _ => t39 ⟨g1, Or.inr (Or.inl ⟨rfl, g2⟩)⟩ _)
        · rw [i32_0, i32_9] at g
          exact And.intro (fun _ => And.intro (Or.inl rfl) (no (fun q => by
            rcases q with ⟨q0, ⟨q1, _⟩ | ⟨_, q1⟩ | ⟨q1, _⟩⟩
            · exact absurd q1 (by decide)
            · exact g ⟨q0, q1⟩
            · exact absurd q1 (by decide)))) (fun q => absurd rfl q)
      · refine And.intro (fun q => absurd q e1) (fun _ => ?_)
        have e2 : w = 2 := Int32.toInt_inj.mp (by
          have n0 : w.toInt ≠ 0 := fun q => e0 (Int32.toInt_inj.mp (by rw [q, i32_0]))
          have n1 : w.toInt ≠ 1 := fun q => e1 (Int32.toInt_inj.mp (by rw [q, i32_1]))
          rw [i32_2]
          omega)
        subst e2
        refine h_in (fun g1 g2 => Exists.intro 1 (And.intro rfl ?_)) (fun g => Exists.intro 0 (And.intro rfl ?_))
        · rw [i32_0] at g1
          rw [i32_1] at g2
          exact And.intro (fun q => absurd q (by decide)) (fun _ => t39 ⟨g1, Or.inr (Or.inr ⟨rfl, g2⟩)⟩ _)
        · rw [i32_0, i32_1] at g
          exact And.intro (fun _ => And.intro (Or.inl rfl) (no (fun q => by
            rcases q with ⟨q0, ⟨q1, _⟩ | ⟨q1, _⟩ | ⟨_, q1⟩⟩
            · exact absurd q1 (by decide)
            · exact absurd q1 (by decide)
            · exact g ⟨q0, q1⟩))) (fun q => absurd rfl q)
  · rw [i32_0, i32_2] at g
    exact And.intro (fun _ => And.intro (Or.inl rfl) (no (fun q => by
      rcases q with ⟨q0, ⟨q1, _⟩ | ⟨q1, _⟩ | ⟨q1, _⟩⟩ <;> subst q1
      · exact g (by decide)
      · exact g (by decide)
      · exact g (by decide)))) (fun q => absurd rfl q)
theorem sfv_X11_set (w v : Int32) {s : LMem} {Q : LPost} (hJ : y_J x_X s) (h : ∀ s', y_J x_X s' → (∀ i j, gI s' 65 i j = gI s 65 i j) → Q (some (lI (stV w v))) s') : qC false 1200 161 [lR 0 (some 0), lI w, lI v] s Q := by
  have h1 : qC false 1200 161 [lR 0 (some 0), lI w, lI v] s (fun _ s' => y_J x_X s' ∧ ∀ i j, gI s' 65 i j = gI s 65 i j) := sf_X11_set w v hJ (fun _ s' g1 g2 => ⟨g1, g2⟩)
  refine qC_mono (qC_and h1 (st_11 (d := 1197))) (fun r s' g => ?_)
  obtain ⟨⟨g1, g2⟩, g3⟩ := g
  have g3 : r = some (lI (stV w v)) := g3
  rw [g3]
  exact h s' g1 g2
theorem sfv_X12_set (w v : Int32) {s : LMem} {Q : LPost} (hJ : y_J x_X s) (h : ∀ s', y_J x_X s' → (∀ i j, gI s' 65 i j = gI s 65 i j) → Q (some (lI (stV w v))) s') : qC false 1200 242 [lR 33 (some 0), lI w, lI v] s Q := by
  have h1 : qC false 1200 242 [lR 33 (some 0), lI w, lI v] s (fun _ s' => y_J x_X s' ∧ ∀ i j, gI s' 65 i j = gI s 65 i j) := sf_X12_set w v hJ (fun _ s' g1 g2 => ⟨g1, g2⟩)
  refine qC_mono (qC_and h1 (st_12 (d := 1198))) (fun r s' g => ?_)
  obtain ⟨⟨g1, g2⟩, g3⟩ := g
  have g3 : r = some (lI (stV w v)) := g3
  rw [g3]
  exact h s' g1 g2
/-- a static call that is none of Math's -/
theorem qi_static {ph : Bool} {mi bc bs k pc : Nat} {x : List Nat} {v : Int32} {w : Int64} {loc : LLoc} {st : LStk} {s : LMem} (h : Nat.ble 1005 (qa_get x 0) = true) : qa_ins ph mi bc bs (.invokestatic k, x, v, w) pc loc st s = qa_inv2 x st bc bs (pc + 3) loc s := by
  have h := Nat.le_of_ble_eq_true h
  unfold qa_ins
  dsimp only
  split
  · rename_i e; omega
  · rename_i e; omega
  · rename_i e; omega
  · rename_i e; omega
  · rename_i e; omega
  · rfl
