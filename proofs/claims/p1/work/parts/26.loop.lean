/-! FROM THE BOUNDS TO THE LOOP. -/
theorem z_cv_ok {x : Int32} : ∀ {l : List ZI} {lo : Int}, z_cv lo l = true → lo ≤ x.toInt → ∃ a ∈ l, z_in a x
  | a :: l, lo, h, hx => by
    obtain ⟨h1, h2⟩ := qa_and h
    have h1 := of_decide_eq_true h1
    by_cases e : x.toInt ≤ a.2
    · exact ⟨a, List.mem_cons_self, by omega, e⟩
    · rcases (Bool.or_eq_true _ _).mp h2 with h3 | h3
      · have h3 := of_decide_eq_true h3
        have := Int32.toInt_lt x
        omega
      · obtain ⟨b, hb, hi⟩ := z_cv_ok (x := x) (l := l) h3 (by omega)
        exact ⟨b, List.mem_cons_of_mem _ hb, hi⟩
theorem z_grid_ok : ∀ {g : List (List ZI)} (xs : Nat → Int32), g.all (z_cv (-2147483648)) = true → ∃ a ∈ z_grid g, ∀ j, z_in (a.getD j z_top) (xs j)
  | [], xs, _ => ⟨[], List.mem_cons_self, fun j => z_in_top _⟩
  | l :: r, xs, h => by
    obtain ⟨h1, h2⟩ := qa_and (show (z_cv (-2147483648) l && r.all (z_cv (-2147483648))) = true from h)
    obtain ⟨a, ha, hi⟩ := z_cv_ok (x := xs 0) h1 (Int32.le_toInt _)
    obtain ⟨q, hq, hj⟩ := z_grid_ok (g := r) (fun j => xs (j + 1)) h2
    refine ⟨a :: q, List.mem_flatMap.mpr ⟨a, ha, List.mem_map.mpr ⟨q, hq, rfl⟩⟩, fun j => ?_⟩
    cases j with
    | zero => exact hi
    | succ j => exact hj j
theorem z_start {sc : List ZI} {xs : Nat → Int32} (h : ∀ j, z_in (sc.getD j z_top) (xs j)) : z_m sc ([], []) (qx_0 xs (Int32.ofNat 7)) := by
  refine ⟨fun k i j => ?_, fun k i j => rfl, fun k i j b hb => ?_⟩
  · show z_in (z_base sc k i j) (if k < 60 then qx_ini k i j else qx_B xs (Int32.ofNat 7) k i j)
    unfold z_base
    cases e : Nat.blt k 60 with
    | true =>
      rw [if_pos (qa_blt' e)]
      exact z_in_c _
    | false =>
      have h9 : ¬ k < 60 := fun q => by rw [qa_blt q] at e; cases e
      rw [if_neg h9]
      dsimp only
      cases e2 : Nat.beq k 65 with
      | false => exact z_in_top _
      | true =>
        have e3 := qa_beq e2
        subst e3
        dsimp only
        rcases i with _ | _ | i
        · exact h j
        · rcases j with _ | j
          · exact ⟨show (7 : Int) ≤ (Int32.ofNat 7).toInt by decide, show (Int32.ofNat 7).toInt ≤ (7 : Int) by decide⟩
          · exact z_in_top _
        · exact z_in_top _
  · cases hb
    rfl
theorem z_case_ok {c : ZI} {g : List (List ZI)} (h : z_case c g = true) {v : Int32} (hv : z_in c v) (xs : Nat → Int32) : qa_wq false 3000 1200 315 666 6845 40 qx_loc [lI v] (qx_0 xs (Int32.ofNat 7)) (fun r _ => r = some (lI 1)) := by
  obtain ⟨h1, h2⟩ := qa_and h
  obtain ⟨a, ha, hj⟩ := z_grid_ok (fun j => xs (j + 1)) h1
  have h3 := List.all_eq_true.mp h2 a ha
  unfold z_run at h3
  cases e : qz (z_top :: a) 3000 1200 315 (z_t c) with
  | none => rw [e] at h3; cases h3
  | some os =>
    rw [e] at h3
    refine qz_ok (sc := z_top :: a) 3000 1200 315 (z_t c) os e qx_loc [lI v] _ _ ⟨rfl, rfl, rfl, rfl, z_in_c 0, trivial⟩ ⟨hv, trivial⟩ (z_start fun j => ?_) fun o ho r s hr hm => ?_
    · cases j with
      | zero => exact z_in_top _
      | succ j => exact hj j
    · have h4 := List.all_eq_true.mp h3 o ho
      unfold z_one1 at h4
      obtain ⟨o1, o2⟩ := o
      rcases o1 with _ | b | b | b
      · cases h4
      · obtain ⟨h5, h6⟩ := qa_and h4
        have h5 := of_decide_eq_true h5
        have h6 := of_decide_eq_true h6
        rcases r with _ | x | x | x
        · exact hr.elim
        · obtain ⟨p, q⟩ := hr
          have e : x.toInt = 1 := by omega
          have e2 : x = 1 := by rw [← Int32.ofInt_toInt x, e]; rfl
          rw [e2]
        · exact hr.elim
        · exact hr.elim
      · cases h4
      · cases h4
theorem z_63 (x : Int32) : 0 ≤ (x &&& 63).toInt ∧ (x &&& 63).toInt ≤ 63 := by
  have h1 : (x &&& 63).toBitVec.toNat ≤ 63 := by
    show (x.toBitVec &&& (63 : Int32).toBitVec).toNat ≤ 63
    rw [BitVec.toNat_and]
    exact Nat.and_le_right
  have h2 : (x &&& 63).toInt = ((x &&& 63).toBitVec.toNat : Int) := BitVec.toInt_eq_toNat_of_lt (by omega)
  omega
/-- every call but feed -/
theorem z_calls {v : Int32} (h0 : 0 < v.toInt) (h1 : v.toInt ≤ 63) (xs : Nat → Int32) : qa_wq false 3000 1200 315 666 6845 40 qx_loc [lI v] (qx_0 xs (Int32.ofNat 7)) (fun r _ => r = some (lI 1)) := by
  by_cases h : 42 ≤ v.toInt
  · exact z_case_ok z_do_x ⟨h, h1⟩ xs
  · rcases (show v.toInt = 1 ∨ v.toInt = 2 ∨ v.toInt = 3 ∨ v.toInt = 4 ∨ v.toInt = 5 ∨ v.toInt = 6 ∨ v.toInt = 7 ∨ v.toInt = 8 ∨ v.toInt = 9 ∨ v.toInt = 10 ∨ v.toInt = 11 ∨ v.toInt = 12 ∨ v.toInt = 13 ∨ v.toInt = 14 ∨ v.toInt = 15 ∨ v.toInt = 16 ∨ v.toInt = 17 ∨ v.toInt = 18 ∨ v.toInt = 19 ∨ v.toInt = 20 ∨ v.toInt = 21 ∨ v.toInt = 22 ∨ v.toInt = 23 ∨ v.toInt = 24 ∨ v.toInt = 25 ∨ v.toInt = 26 ∨ v.toInt = 27 ∨ v.toInt = 28 ∨ v.toInt = 29 ∨ v.toInt = 30 ∨ v.toInt = 31 ∨ v.toInt = 32 ∨ v.toInt = 33 ∨ v.toInt = 34 ∨ v.toInt = 35 ∨ v.toInt = 36 ∨ v.toInt = 37 ∨ v.toInt = 38 ∨ v.toInt = 39 ∨ v.toInt = 40 ∨ v.toInt = 41 by omega) with e | e | e | e | e | e | e | e | e | e | e | e | e | e | e | e | e | e | e | e | e | e | e | e | e | e | e | e | e | e | e | e | e | e | e | e | e | e | e | e | e
    · exact z_case_ok z_do_1 ⟨Int.le_of_eq e.symm, Int.le_of_eq e⟩ xs
    · exact z_case_ok z_do_2 ⟨Int.le_of_eq e.symm, Int.le_of_eq e⟩ xs
    · exact z_case_ok z_do_3 ⟨Int.le_of_eq e.symm, Int.le_of_eq e⟩ xs
    · exact z_case_ok z_do_4 ⟨Int.le_of_eq e.symm, Int.le_of_eq e⟩ xs
    · exact z_case_ok z_do_5 ⟨Int.le_of_eq e.symm, Int.le_of_eq e⟩ xs
    · exact z_case_ok z_do_6 ⟨Int.le_of_eq e.symm, Int.le_of_eq e⟩ xs
    · exact z_case_ok z_do_7 ⟨Int.le_of_eq e.symm, Int.le_of_eq e⟩ xs
    · exact z_case_ok z_do_8 ⟨Int.le_of_eq e.symm, Int.le_of_eq e⟩ xs
    · exact z_case_ok z_do_9 ⟨Int.le_of_eq e.symm, Int.le_of_eq e⟩ xs
    · exact z_case_ok z_do_10 ⟨Int.le_of_eq e.symm, Int.le_of_eq e⟩ xs
    · exact z_case_ok z_do_11 ⟨Int.le_of_eq e.symm, Int.le_of_eq e⟩ xs
    · exact z_case_ok z_do_12 ⟨Int.le_of_eq e.symm, Int.le_of_eq e⟩ xs
    · exact z_case_ok z_do_13 ⟨Int.le_of_eq e.symm, Int.le_of_eq e⟩ xs
    · exact z_case_ok z_do_14 ⟨Int.le_of_eq e.symm, Int.le_of_eq e⟩ xs
    · exact z_case_ok z_do_15 ⟨Int.le_of_eq e.symm, Int.le_of_eq e⟩ xs
    · exact z_case_ok z_do_16 ⟨Int.le_of_eq e.symm, Int.le_of_eq e⟩ xs
    · exact z_case_ok z_do_17 ⟨Int.le_of_eq e.symm, Int.le_of_eq e⟩ xs
    · exact z_case_ok z_do_18 ⟨Int.le_of_eq e.symm, Int.le_of_eq e⟩ xs
    · exact z_case_ok z_do_19 ⟨Int.le_of_eq e.symm, Int.le_of_eq e⟩ xs
    · exact z_case_ok z_do_20 ⟨Int.le_of_eq e.symm, Int.le_of_eq e⟩ xs
    · exact z_case_ok z_do_21 ⟨Int.le_of_eq e.symm, Int.le_of_eq e⟩ xs
    · exact z_case_ok z_do_22 ⟨Int.le_of_eq e.symm, Int.le_of_eq e⟩ xs
    · exact z_case_ok z_do_23 ⟨Int.le_of_eq e.symm, Int.le_of_eq e⟩ xs
    · exact z_case_ok z_do_24 ⟨Int.le_of_eq e.symm, Int.le_of_eq e⟩ xs
    · exact z_case_ok z_do_25 ⟨Int.le_of_eq e.symm, Int.le_of_eq e⟩ xs
    · exact z_case_ok z_do_26 ⟨Int.le_of_eq e.symm, Int.le_of_eq e⟩ xs
    · exact z_case_ok z_do_27 ⟨Int.le_of_eq e.symm, Int.le_of_eq e⟩ xs
    · exact z_case_ok z_do_28 ⟨Int.le_of_eq e.symm, Int.le_of_eq e⟩ xs
    · exact z_case_ok z_do_29 ⟨Int.le_of_eq e.symm, Int.le_of_eq e⟩ xs
    · exact z_case_ok z_do_30 ⟨Int.le_of_eq e.symm, Int.le_of_eq e⟩ xs
    · exact z_case_ok z_do_31 ⟨Int.le_of_eq e.symm, Int.le_of_eq e⟩ xs
    · exact z_case_ok z_do_32 ⟨Int.le_of_eq e.symm, Int.le_of_eq e⟩ xs
    · exact z_case_ok z_do_33 ⟨Int.le_of_eq e.symm, Int.le_of_eq e⟩ xs
    · exact z_case_ok z_do_34 ⟨Int.le_of_eq e.symm, Int.le_of_eq e⟩ xs
    · exact z_case_ok z_do_35 ⟨Int.le_of_eq e.symm, Int.le_of_eq e⟩ xs
    · exact z_case_ok z_do_36 ⟨Int.le_of_eq e.symm, Int.le_of_eq e⟩ xs
    · exact z_case_ok z_do_37 ⟨Int.le_of_eq e.symm, Int.le_of_eq e⟩ xs
    · exact z_case_ok z_do_38 ⟨Int.le_of_eq e.symm, Int.le_of_eq e⟩ xs
    · exact z_case_ok z_do_39 ⟨Int.le_of_eq e.symm, Int.le_of_eq e⟩ xs
    · exact z_case_ok z_do_40 ⟨Int.le_of_eq e.symm, Int.le_of_eq e⟩ xs
    · exact z_case_ok z_do_41 ⟨Int.le_of_eq e.symm, Int.le_of_eq e⟩ xs
theorem z_vin7 : qa_vin (0 : Int32) (Int32.ofNat 7).toNatClampNeg := fun q => by rcases q with q | q <;> exact absurd q (by decide)
/-- the first steps of the loop's round -/
theorem z_head {f : Nat} {xs : Nat → Int32} (h : qa_wq false f 1200 315 666 6845 40 qx_loc [lI (xs 0 &&& 63)] (qx_0 xs (Int32.ofNat 7)) (fun r _ => r = some (lI 1))) : qa_wq false (f + 11) 1200 315 666 6845 23 qx_loc [] (qx_0 xs (Int32.ofNat 7)) (fun r _ => r = some (lI 1)) := by
  refine And.intro (fun q => absurd (show Int32.ofNat 7 - 7 < 0 from q) (by decide)) (fun _ => ?_)
  exact And.intro z_vin7 h
theorem z_less {L : Nat} {xs : Nat → Int32} (hL : L < 7) : qa_wq false 20 1200 315 666 6845 23 qx_loc [] (qx_0 xs (Int32.ofNat L)) (fun r _ => r = some (lI 1)) := by
  refine And.intro (fun _ => ?_) (fun q => ?_)
  · exact And.intro (Or.inr rfl) rfl
  · refine absurd ?_ q
    show Int32.ofNat L - 7 < 0
    rcases (show L = 0 ∨ L = 1 ∨ L = 2 ∨ L = 3 ∨ L = 4 ∨ L = 5 ∨ L = 6 by omega) with rfl | rfl | rfl | rfl | rfl | rfl | rfl <;> decide
theorem z_loop (hfeed : ∀ xs v, v = 0 → ∃ f, qa_wq false f 1200 315 666 6845 40 qx_loc [lI v] (qx_0 xs (Int32.ofNat 7)) (fun r _ => r = some (lI 1))) : qs_loopOK := by
  intro xs L hL
  by_cases h7 : L < 7
  · exact ⟨20, z_less h7⟩
  · have e : L = 7 := by omega
    subst e
    obtain ⟨g1, g2⟩ := z_63 (xs 0)
    by_cases h0 : 0 < (xs 0 &&& 63).toInt
    · exact ⟨3000 + 11, z_head (z_calls h0 g2 xs)⟩
    · have e0 : xs 0 &&& 63 = 0 := by
        have : (xs 0 &&& 63).toInt = 0 := by omega
        rw [← Int32.ofInt_toInt (xs 0 &&& 63), this]
        rfl
      obtain ⟨f, hf⟩ := hfeed xs _ e0
      exact ⟨f + 11, z_head hf⟩
