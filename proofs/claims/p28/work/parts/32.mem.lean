/-! THE MEMORY: bounds of places, references that change, places that only hand-made contracts write; frames; facts. -/
abbrev YW : Type := Nat × Int × Int × Int × Int
def y_B (k : Nat) : List (Int × Int × Int × Int) := cond (Nat.ble 29 k) (cond (Nat.ble 46 k) (cond (Nat.ble 49 k) (cond (Nat.ble 50 k) (cond (Nat.ble 56 k) (cond (Nat.beq k 56) ([(0, 5, 0, 9)]) ([])) (cond (Nat.beq k 50) ([(272, 272, 0, 20), (277, 277, 0, 5), (278, 278, (-1), 5)]) ([]))) (cond (Nat.beq k 49) ([(272, 272, 0, 20), (277, 277, 0, 5), (278, 278, (-1), 5)]) ([]))) (cond (Nat.ble 48 k) (cond (Nat.beq k 48) ([(272, 272, 0, 20), (277, 277, 0, 5), (278, 278, (-1), 5)]) ([])) (cond (Nat.beq k 46) ([(0, 4, 0, 30)]) ([])))) (cond (Nat.ble 34 k) (cond (Nat.ble 44 k) (cond (Nat.beq k 44) ([(0, 4, 0, 20)]) ([])) (cond (Nat.beq k 34) ([(0, 199, 0, 255)]) ([]))) (cond (Nat.ble 33 k) (cond (Nat.beq k 33) ([(2, 2, 0, 200), (13, 13, 0, 6), (14, 14, 0, 6), (21, 21, 0, 4), (22, 22, 0, 4), (35, 36, 0, 1)]) ([])) (cond (Nat.beq k 29) ([(2, 2, 0, 20)]) ([]))))) (cond (Nat.ble 8 k) (cond (Nat.ble 15 k) (cond (Nat.ble 17 k) (cond (Nat.ble 21 k) (cond (Nat.beq k 21) ([(4, 4, (-1), 5), (12, 14, 0, 1)]) ([])) (cond (Nat.beq k 17) ([(5, 5, 0, 20)]) ([]))) (cond (Nat.beq k 15) ([(0, 0, 0, 4), (1, 1, 0, 6), (2, 2, 0, 4)]) ([]))) (cond (Nat.ble 13 k) (cond (Nat.beq k 13) ([(1, 1, 0, 30)]) ([])) (cond (Nat.beq k 8) ([(2, 2, 0, 200)]) ([])))) (cond (Nat.ble 4 k) (cond (Nat.ble 6 k) (cond (Nat.beq k 6) ([(3, 3, 0, 5)]) ([])) (cond (Nat.beq k 4) ([(1, 1, 0, 20)]) ([]))) (cond (Nat.ble 2 k) (cond (Nat.beq k 2) ([(0, 199, 0, 255)]) ([])) (cond (Nat.beq k 1) ([(1, 1, 0, 200), (2, 2, 0, 200)]) ([])))))
def y_P (k : Nat) : List (Int × Int) := cond (Nat.ble 41 k) (cond (Nat.ble 47 k) (cond (Nat.ble 49 k) (cond (Nat.ble 50 k) (cond (Nat.beq k 50) ([(160, 259), (272, 272), (277, 278)]) ([])) (cond (Nat.beq k 49) ([(160, 259), (272, 272), (277, 278)]) ([]))) (cond (Nat.ble 48 k) (cond (Nat.beq k 48) ([(160, 259), (272, 272), (277, 278)]) ([])) (cond (Nat.beq k 47) ([(0, 149)]) ([])))) (cond (Nat.ble 45 k) (cond (Nat.ble 46 k) (cond (Nat.beq k 46) ([(0, 4)]) ([])) (cond (Nat.beq k 45) ([(0, 499)]) ([]))) (cond (Nat.ble 44 k) (cond (Nat.beq k 44) ([(0, 4)]) ([])) (cond (Nat.beq k 41) ([(0, 419)]) ([]))))) (cond (Nat.ble 37 k) (cond (Nat.ble 39 k) (cond (Nat.ble 40 k) (cond (Nat.beq k 40) ([(0, 419)]) ([])) (cond (Nat.beq k 39) ([(0, 419)]) ([]))) (cond (Nat.ble 38 k) (cond (Nat.beq k 38) ([(0, 6)]) ([])) (cond (Nat.beq k 37) ([(0, 6)]) ([])))) (cond (Nat.ble 35 k) (cond (Nat.ble 36 k) (cond (Nat.beq k 36) ([(0, 1819)]) ([])) (cond (Nat.beq k 35) ([(0, 1819)]) ([]))) (cond (Nat.beq k 33) ([(13, 13), (21, 22), (35, 35)]) ([]))))
def y_pr (k j : Nat) : Prop := ∃ r ∈ y_P k, r.1 ≤ (j : Int) ∧ (j : Int) ≤ r.2
def y_cl (X : LMem → Prop) : Prop := ∀ s s' : LMem, (∀ k i j, y_pr k j → gI s' k i j = gI s k i j) → X s → X s'
def y_JB (s : LMem) : Prop := ∀ (k i j : Nat), ∀ r ∈ y_B k, r.1 ≤ (j : Int) → (j : Int) ≤ r.2.1 → r.2.2.1 ≤ (gI s k i j).toInt ∧ (gI s k i j).toInt ≤ r.2.2.2
def y_JR (s : LMem) : Prop := (∀ i q, gR s 17 i 4 = some q → q = 20 * i) ∧ (∀ i q, gR s 17 i 6 = some q → q ≤ 6) ∧ (∀ i q, gR s 17 i 7 = some q → q ≤ 6) ∧ (∀ i q, gR s 21 i 0 = some q → q = i + 1 ∧ q % 20 ≠ 0)
def y_J (X : LMem → Prop) (s : LMem) : Prop := y_JB s ∧ y_JR s ∧ X s
def y_iW (W : List YW) (k i j : Nat) : Prop := ∃ w ∈ W, w.1 = k ∧ (w.2.1 ≤ (i : Int) ∧ (i : Int) ≤ w.2.2.1) ∧ (w.2.2.2.1 ≤ (j : Int) ∧ (j : Int) ≤ w.2.2.2.2)
def y_Fr (W : List YW) (s s' : LMem) : Prop := ∀ k i j, ¬ y_iW W k i j → gI s' k i j = gI s k i j ∧ gL s' k i j = gL s k i j ∧ gR s' k i j = gR s k i j
theorem y_Fr_rf (W : List YW) (s : LMem) : y_Fr W s s := fun _ _ _ _ => ⟨rfl, rfl, rfl⟩
/-- a smaller list of places -/
def y_sw (w v : YW) : Bool := Nat.beq w.1 v.1 && ((decide (v.2.1 ≤ w.2.1) && decide (w.2.2.1 ≤ v.2.2.1)) && (decide (v.2.2.2.1 ≤ w.2.2.2.1) && decide (w.2.2.2.2 ≤ v.2.2.2.2)))
def y_sub2 (V W : List YW) : Bool := V.all fun w => W.any fun v => y_sw w v
theorem y_sub2_ok {V W : List YW} (h : y_sub2 V W = true) {k i j : Nat} (hi : y_iW V k i j) : y_iW W k i j := by
  obtain ⟨w, hw, h1, ⟨h2, h3⟩, h4, h5⟩ := hi
  obtain ⟨v, hv, h6⟩ := List.any_eq_true.mp (List.all_eq_true.mp h w hw)
  obtain ⟨q1, h6⟩ := qa_and h6
  obtain ⟨h6, h7⟩ := qa_and h6
  obtain ⟨q2, q3⟩ := qa_and h6
  obtain ⟨q4, q5⟩ := qa_and h7
  have q1 := qa_beq q1
  have q2 := of_decide_eq_true q2
  have q3 := of_decide_eq_true q3
  have q4 := of_decide_eq_true q4
  have q5 := of_decide_eq_true q5
  exact ⟨v, hv, by rw [← q1]; exact h1, ⟨by omega, by omega⟩, by omega, by omega⟩
theorem y_Fr_tr {V W : List YW} {s0 s s' : LMem} (h : y_sub2 V W = true) (h1 : y_Fr W s0 s) (h2 : y_Fr V s s') : y_Fr W s0 s' := fun k i j hn => by
  obtain ⟨a1, a2, a3⟩ := h1 k i j hn
  obtain ⟨b1, b2, b3⟩ := h2 k i j (fun q => hn (y_sub2_ok h q))
  exact ⟨b1.trans a1, b2.trans a2, b3.trans a3⟩
/-- one place written -/
def y_inS (W : List YW) (k : Nat) (p q : ZI) : Bool := W.any fun w => Nat.beq w.1 k && ((decide (w.2.1 ≤ p.1) && decide (p.2 ≤ w.2.2.1)) && (decide (w.2.2.2.1 ≤ q.1) && decide (q.2 ≤ w.2.2.2.2)))
theorem y_inS_ok {W : List YW} {k i j : Nat} {p q : ZI} (h : y_inS W k p q = true) (hi : p.1 ≤ (i : Int) ∧ (i : Int) ≤ p.2) (hj : q.1 ≤ (j : Int) ∧ (j : Int) ≤ q.2) : y_iW W k i j := by
  obtain ⟨w, hw, h6⟩ := List.any_eq_true.mp h
  obtain ⟨q1, h6⟩ := qa_and h6
  obtain ⟨h6, h7⟩ := qa_and h6
  obtain ⟨q2, q3⟩ := qa_and h6
  obtain ⟨q4, q5⟩ := qa_and h7
  have q1 := qa_beq q1
  have q2 := of_decide_eq_true q2
  have q3 := of_decide_eq_true q3
  have q4 := of_decide_eq_true q4
  have q5 := of_decide_eq_true q5
  exact ⟨w, hw, q1, ⟨by omega, by omega⟩, by omega, by omega⟩
theorem y_Fr_sI {W : List YW} {s0 s : LMem} {k i j : Nat} {v : Int32} (h : y_Fr W s0 s) (hw : y_iW W k i j) : y_Fr W s0 (sI s k i j v) := fun k' i' j' hn => by
  obtain ⟨a1, a2, a3⟩ := h k' i' j' hn
  refine ⟨?_, a2, a3⟩
  rw [gI_sI, if_neg (fun q => hn (by obtain ⟨rfl, rfl, rfl⟩ := q; exact hw))]
  exact a1
theorem y_Fr_sL {W : List YW} {s0 s : LMem} {k i j : Nat} {v : Int64} (h : y_Fr W s0 s) (hw : y_iW W k i j) : y_Fr W s0 (sL s k i j v) := fun k' i' j' hn => by
  obtain ⟨a1, a2, a3⟩ := h k' i' j' hn
  refine ⟨a1, ?_, a3⟩
  rw [gL_sL, if_neg (fun q => hn (by obtain ⟨rfl, rfl, rfl⟩ := q; exact hw))]
  exact a2
theorem y_Fr_sR {W : List YW} {s0 s : LMem} {k i j : Nat} {v : Option Nat} (h : y_Fr W s0 s) (hw : y_iW W k i j) : y_Fr W s0 (sR s k i j v) := fun k' i' j' hn => by
  obtain ⟨a1, a2, a3⟩ := h k' i' j' hn
  refine ⟨a1, a2, ?_⟩
  rw [gR_sR, if_neg (fun q => hn (by obtain ⟨rfl, rfl, rfl⟩ := q; exact hw))]
  exact a3
/-- bounds of a place that is read -/
def y_lBF (q : ZI) : List (Int × Int × Int × Int) → ZI
  | [] => z_top
  | r :: l => match decide (r.1 ≤ q.1) && decide (q.2 ≤ r.2.1) with | true => r.2.2 | false => y_lBF q l
def y_lB (k : Nat) (q : ZI) : ZI := y_lBF q (y_B k)
theorem y_lBF_ok {x : Int32} {j : Nat} {q : ZI} (hj : q.1 ≤ (j : Int) ∧ (j : Int) ≤ q.2) : ∀ (l : List (Int × Int × Int × Int)), (∀ r ∈ l, r.1 ≤ (j : Int) → (j : Int) ≤ r.2.1 → r.2.2.1 ≤ x.toInt ∧ x.toInt ≤ r.2.2.2) → (y_lBF q l).1 ≤ x.toInt ∧ x.toInt ≤ (y_lBF q l).2
  | [], _ => z_in_top x
  | r :: l, h => by
    unfold y_lBF
    cases e : (decide (r.1 ≤ q.1) && decide (q.2 ≤ r.2.1)) with
    | true =>
      obtain ⟨e1, e2⟩ := qa_and e
      have e1 := of_decide_eq_true e1
      have e2 := of_decide_eq_true e2
      exact h r List.mem_cons_self (by omega) (by omega)
    | false => exact y_lBF_ok hj l (fun r hr => h r (List.mem_cons_of_mem _ hr))
theorem y_lB_ok {s : LMem} {k i j : Nat} {q : ZI} (hJ : y_JB s) (hj : q.1 ≤ (j : Int) ∧ (j : Int) ≤ q.2) : (y_lB k q).1 ≤ (gI s k i j).toInt ∧ (gI s k i j).toInt ≤ (y_lB k q).2 :=
  y_lBF_ok hj _ (fun r hr => hJ k i j r hr)
/-- a value that may be written -/
def y_sB (k : Nat) (q v : ZI) : Bool := (y_B k).all fun r => (decide (q.2 < r.1) || decide (r.2.1 < q.1)) || (decide (r.2.2.1 ≤ v.1) && decide (v.2 ≤ r.2.2.2))
def y_sP (k : Nat) (q : ZI) : Bool := (y_P k).all fun r => decide (q.2 < r.1) || decide (r.2 < q.1)
theorem y_JB_sI {s : LMem} {k i j : Nat} {x : Int32} (hJ : y_JB s) (h : ∀ r ∈ y_B k, r.1 ≤ (j : Int) → (j : Int) ≤ r.2.1 → r.2.2.1 ≤ x.toInt ∧ x.toInt ≤ r.2.2.2) : y_JB (sI s k i j x) := fun k' i' j' r hr h1 h2 => by
  rw [gI_sI]
  by_cases e : k' = k ∧ i' = i ∧ j' = j
  · rw [if_pos e]
    obtain ⟨rfl, rfl, rfl⟩ := e
    exact h r hr h1 h2
  · rw [if_neg e]
    exact hJ k' i' j' r hr h1 h2
theorem y_J_sI {X : LMem → Prop} (hX : y_cl X) {s : LMem} {k i j : Nat} {x : Int32} {q v : ZI} (hJ : y_J X s) (hj : q.1 ≤ (j : Int) ∧ (j : Int) ≤ q.2) (hv : v.1 ≤ x.toInt ∧ x.toInt ≤ v.2) (h1 : y_sB k q v = true) (h2 : y_sP k q = true) : y_J X (sI s k i j x) := by
  obtain ⟨j1, j2, j3⟩ := hJ
  refine ⟨y_JB_sI j1 fun r hr g1 g2 => ?_, j2, hX s _ (fun k' i' j' hp => ?_) j3⟩
  · rcases (Bool.or_eq_true _ _).mp (List.all_eq_true.mp h1 r hr) with g | g
    · rcases (Bool.or_eq_true _ _).mp g with g | g <;> (have g := of_decide_eq_true g; omega)
    · obtain ⟨g3, g4⟩ := qa_and g
      have g3 := of_decide_eq_true g3
      have g4 := of_decide_eq_true g4
      omega
  · rw [gI_sI]
    by_cases e : k' = k ∧ i' = i ∧ j' = j
    · obtain ⟨rfl, rfl, rfl⟩ := e
      obtain ⟨r, hr, g1, g2⟩ := hp
      rcases (Bool.or_eq_true _ _).mp (List.all_eq_true.mp h2 r hr) with g | g <;> (have g := of_decide_eq_true g; omega)
    · rw [if_neg e]
/-! facts -/
def y_fo (ρ : List Int) (s : LMem) (f : YF) : Prop := ∃ i j : Nat, y_is ρ f.2.1 (i : Int) ∧ y_is ρ f.2.2.1 (j : Int) ∧ match f.2.2.2 with
  | .inl a => y_is ρ a (gI s f.1 i j).toInt
  | .inr (.inl _) => True
  | .inr (.inr r) => r.1 = qa_tk f.1 j ∧ y_rv ρ r.2.1 r.2.2.1 r.2.2.2 (gR s f.1 i j)
def y_m (ρ : List Int) (m : YM) (s : LMem) : Prop := ∀ f ∈ m, y_fo ρ s f
theorem y_fo_mono {ρ ρ' : List Int} {s : LMem} {f : YF} (hle : y_le ρ ρ') (h : y_fo ρ s f) : y_fo ρ' s f := by
  obtain ⟨i, j, h1, h2, h3⟩ := h
  refine ⟨i, j, y_is_mono hle h1, y_is_mono hle h2, ?_⟩
  obtain ⟨k, ai, aj, v⟩ := f
  rcases v with a | a | a
  · exact y_is_mono hle h3
  · trivial
  · exact ⟨h3.1, y_rv_mono hle h3.2⟩
theorem y_m_mono {ρ ρ' : List Int} {s : LMem} {m : YM} (hle : y_le ρ ρ') (h : y_m ρ m s) : y_m ρ' m s := fun f hf => y_fo_mono hle (h f hf)
def y_eqI (a b : YI) : Bool := Nat.beq a.1 b.1 && decide (a.2 = b.2)
theorem y_eqI_ok {a b : YI} (h : y_eqI a b = true) : a = b := by
  obtain ⟨h1, h2⟩ := qa_and h
  obtain ⟨a1, a2⟩ := a
  obtain ⟨b1, b2⟩ := b
  have h1 : a1 = b1 := qa_beq h1
  have h2 : a2 = b2 := of_decide_eq_true h2
  rw [h1, h2]
def y_fd (k : Nat) (i j : YI) : YM → Option YV
  | [] => none
  | f :: l => match Nat.beq f.1 k && (y_eqI f.2.1 i && y_eqI f.2.2.1 j) with | true => some f.2.2.2 | false => y_fd k i j l
theorem y_fd_ok {ρ : List Int} {s : LMem} {k : Nat} {i j : YI} {v : YV} {i' j' : Nat} (hi : y_is ρ i (i' : Int)) (hj : y_is ρ j (j' : Int)) : ∀ {m : YM}, y_m ρ m s → y_fd k i j m = some v → match v with
    | .inl a => y_is ρ a (gI s k i' j').toInt
    | .inr (.inl _) => True
    | .inr (.inr r) => r.1 = qa_tk k j' ∧ y_rv ρ r.2.1 r.2.2.1 r.2.2.2 (gR s k i' j')
  | [], _, h => by cases h
  | f :: l, hm, h => by
    unfold y_fd at h
    cases e : (Nat.beq f.1 k && (y_eqI f.2.1 i && y_eqI f.2.2.1 j)) with
    | false =>
      rw [e] at h
      exact y_fd_ok hi hj (m := l) (fun f hf => hm f (List.mem_cons_of_mem _ hf)) h
    | true =>
      rw [e] at h
      obtain ⟨e1, e2⟩ := qa_and e
      obtain ⟨e2, e3⟩ := qa_and e2
      obtain ⟨i2, j2, g1, g2, g3⟩ := hm f List.mem_cons_self
      rw [y_eqI_ok e2] at g1
      rw [y_eqI_ok e3] at g2
      have q1 : i' = i2 := Int.ofNat_inj.mp (y_is_fun hi g1)
      have q2 : j' = j2 := Int.ofNat_inj.mp (y_is_fun hj g2)
      subst q1
      subst q2
      rw [qa_beq e1] at g3
      cases h
      exact g3
/-- two values that differ -/
def y_dj (e : YE) (a b : YI) : Bool := (Nat.beq a.1 b.1 && !decide (a.2 = b.2)) || match y_bd e a, y_bd e b with
  | some p, some q => decide (p.2 < q.1) || decide (q.2 < p.1)
  | _, _ => false
theorem y_dj_ok {ρ : List Int} {e : YE} {a b : YI} {v w : Int} (hE : y_E ρ e) (ha : y_is ρ a v) (hb : y_is ρ b w) (h : y_dj e a b = true) : v ≠ w := by
  rcases (Bool.or_eq_true _ _).mp h with h | h
  · obtain ⟨h1, h2⟩ := qa_and h
    have h2 : decide (a.2 = b.2) = false := by simpa using h2
    have h2 := of_decide_eq_false h2
    obtain ⟨x, g1, g2⟩ := ha
    obtain ⟨y, g3, g4⟩ := hb
    rw [qa_beq h1] at g1
    rw [g1] at g3
    cases g3
    omega
  · cases h1 : y_bd e a with
    | none => rw [h1] at h; cases h
    | some p => cases h2 : y_bd e b with
      | none => rw [h1, h2] at h; cases h
      | some q =>
        rw [h1, h2] at h
        obtain ⟨g1, g2⟩ := y_bd_ok hE ha h1
        obtain ⟨g3, g4⟩ := y_bd_ok hE hb h2
        rcases (Bool.or_eq_true _ _).mp h with h | h <;> (have h := of_decide_eq_true h; omega)
def y_kp (e : YE) (k : Nat) (i j : YI) (m : YM) : YM := m.filter fun f => !(Nat.beq f.1 k) || (y_dj e f.2.1 i || y_dj e f.2.2.1 j)
theorem y_kp_ok {ρ : List Int} {e : YE} {k i' j' : Nat} {i j : YI} {m : YM} {s s' : LMem} (hE : y_E ρ e) (hm : y_m ρ m s) (hi : y_is ρ i (i' : Int)) (hj : y_is ρ j (j' : Int)) (hs : ∀ k2 i2 j2, ¬ (k2 = k ∧ i2 = i' ∧ j2 = j') → gI s' k2 i2 j2 = gI s k2 i2 j2 ∧ gR s' k2 i2 j2 = gR s k2 i2 j2) : y_m ρ (y_kp e k i j m) s' := fun f hf => by
  obtain ⟨h1, h2⟩ := List.mem_filter.mp hf
  obtain ⟨i2, j2, g1, g2, g3⟩ := hm f h1
  have hn : ¬ (f.1 = k ∧ i2 = i' ∧ j2 = j') := by
    rintro ⟨q1, q2, q3⟩
    rcases (Bool.or_eq_true _ _).mp h2 with h2 | h2
    · rw [q1, show Nat.beq k k = true by simp] at h2
      cases h2
    · rcases (Bool.or_eq_true _ _).mp h2 with h2 | h2
      · exact y_dj_ok hE g1 hi h2 (by rw [q2])
      · exact y_dj_ok hE g2 hj h2 (by rw [q3])
  obtain ⟨e1, e2⟩ := hs f.1 i2 j2 hn
  refine ⟨i2, j2, g1, g2, ?_⟩
  obtain ⟨kf, ai, aj, v⟩ := f
  rcases v with a | a | a
  · show y_is ρ a (gI s' kf i2 j2).toInt
    rw [e1]
    exact g3
  · trivial
  · show a.1 = qa_tk kf j2 ∧ y_rv ρ a.2.1 a.2.2.1 a.2.2.2 (gR s' kf i2 j2)
    rw [e2]
    exact g3
/-- facts outside of a list of places -/
def y_ow (e : YE) (f : YF) (w : YW) : Bool := !(Nat.beq f.1 w.1) || match y_bd e f.2.1, y_bd e f.2.2.1 with
  | some p, some q => (decide (p.2 < w.2.1) || decide (w.2.2.1 < p.1)) || (decide (q.2 < w.2.2.2.1) || decide (w.2.2.2.2 < q.1))
  | _, _ => false
def y_kw (e : YE) (W : List YW) (m : YM) : YM := m.filter fun f => W.all fun w => y_ow e f w
theorem y_kw_ok {ρ : List Int} {e : YE} {W : List YW} {m : YM} {s s' : LMem} (hE : y_E ρ e) (hm : y_m ρ m s) (hs : y_Fr W s s') : y_m ρ (y_kw e W m) s' := fun f hf => by
  obtain ⟨h1, h2⟩ := List.mem_filter.mp hf
  obtain ⟨i2, j2, g1, g2, g3⟩ := hm f h1
  have hn : ¬ y_iW W f.1 i2 j2 := by
    rintro ⟨w, hw, q1, ⟨q2, q3⟩, q4, q5⟩
    have h3 := List.all_eq_true.mp h2 w hw
    unfold y_ow at h3
    rw [q1, show Nat.beq f.1 f.1 = true by simp] at h3
    cases h4 : y_bd e f.2.1 with
    | none => rw [h4] at h3; cases h3
    | some p => cases h5 : y_bd e f.2.2.1 with
      | none => rw [h4, h5] at h3; cases h3
      | some q =>
        rw [h4, h5] at h3
        obtain ⟨u1, u2⟩ := y_bd_ok hE g1 h4
        obtain ⟨u3, u4⟩ := y_bd_ok hE g2 h5
        have h3 : ((decide (p.2 < w.2.1) || decide (w.2.2.1 < p.1)) || (decide (q.2 < w.2.2.2.1) || decide (w.2.2.2.2 < q.1))) = true := h3
        rcases (Bool.or_eq_true _ _).mp h3 with h3 | h3
        · rcases (Bool.or_eq_true _ _).mp h3 with h3 | h3 <;> (have h3 := of_decide_eq_true h3; omega)
        · rcases (Bool.or_eq_true _ _).mp h3 with h3 | h3 <;> (have h3 := of_decide_eq_true h3; omega)
  obtain ⟨e1, _, e2⟩ := hs f.1 i2 j2 hn
  refine ⟨i2, j2, g1, g2, ?_⟩
  obtain ⟨kf, ai, aj, v⟩ := f
  rcases v with a | a | a
  · show y_is ρ a (gI s' kf i2 j2).toInt
    rw [e1]
    exact g3
  · trivial
  · show a.1 = qa_tk kf j2 ∧ y_rv ρ a.2.1 a.2.2.1 a.2.2.2 (gR s' kf i2 j2)
    rw [e2]
    exact g3
