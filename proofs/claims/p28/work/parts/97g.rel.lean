/-! BOTH TAPES ARE THE SAME, and as much is kept. -/
def RT (s : LMem) : Prop := ∃ l, l ≤ 200 ∧ gI s 1 0 1 = nI l ∧ gI s 33 0 2 = nI l ∧ bC s = bS s ∧ (∀ j, j < l → gI s 2 0 j ≠ 0) ∧ gI s 15 0 0 = gI s 33 0 21 ∧ gI s 15 0 1 = gI s 33 0 13 ∧ gI s 15 0 2 = gI s 33 0 22
def zJ (s : LMem) : Prop := y_J x_X s ∧ RT s
def rt_w (w : YW) : Bool := !(Nat.beq w.1 2) && (!(Nat.beq w.1 15) && (!(Nat.beq w.1 34) && (!(Nat.beq w.1 65) && ((!(Nat.beq w.1 1) || (decide (1 < w.2.2.2.1) || decide (w.2.2.2.2 < 1))) && (!(Nat.beq w.1 33) || [(2 : Nat), 13, 21, 22].all fun j => decide ((j : Int) < w.2.2.2.1) || decide (w.2.2.2.2 < (j : Int)))))))
theorem rt_n {w : YW} {n : Nat} (h : (!(Nat.beq w.1 n)) = true) : w.1 ≠ n := fun q => by
  rw [q, Nat.beq_refl] at h
  exact absurd h (by decide)
theorem rt_o {b c : Bool} (h : (!b || c) = true) (hb : b = true) : c = true := by
  rw [hb] at h
  exact h
theorem rt_k {W : List YW} (h : W.all rt_w = true) {s s' : LMem} (F : y_Fr W s s') : (∀ j, gI s' 2 0 j = gI s 2 0 j) ∧ (∀ j, gI s' 15 0 j = gI s 15 0 j) ∧ (∀ j, gI s' 34 0 j = gI s 34 0 j) ∧ (∀ i j, gI s' 65 i j = gI s 65 i j) ∧ gI s' 1 0 1 = gI s 1 0 1 ∧ ∀ j, j ∈ [2, 13, 21, 22] → gI s' 33 0 j = gI s 33 0 j := by
  have H : ∀ k i j, y_iW W k i j → ∃ w ∈ W, w.1 = k ∧ (w.2.2.2.1 ≤ (j : Int) ∧ (j : Int) ≤ w.2.2.2.2) ∧ rt_w w = true := fun k i j ⟨w, hw, e, _, e2⟩ => ⟨w, hw, e, e2, List.all_eq_true.mp h w hw⟩
  refine ⟨fun j => (F 2 0 j fun q => ?_).1, fun j => (F 15 0 j fun q => ?_).1, fun j => (F 34 0 j fun q => ?_).1, fun i j => (F 65 i j fun q => ?_).1, (F 1 0 1 fun q => ?_).1, fun j hj => (F 33 0 j fun q => ?_).1⟩
  · obtain ⟨w, _, e, _, r⟩ := H _ _ _ q
    exact rt_n (qa_and r).1 e
  · obtain ⟨w, _, e, _, r⟩ := H _ _ _ q
    exact rt_n (qa_and (qa_and r).2).1 e
  · obtain ⟨w, _, e, _, r⟩ := H _ _ _ q
    exact rt_n (qa_and (qa_and (qa_and r).2).2).1 e
  · obtain ⟨w, _, e, _, r⟩ := H _ _ _ q
    exact rt_n (qa_and (qa_and (qa_and (qa_and r).2).2).2).1 e
  · obtain ⟨w, _, e, ⟨e1, e2⟩, r⟩ := H _ _ _ q
    have r := (qa_and (qa_and (qa_and (qa_and (qa_and r).2).2).2).2).1
    have r := rt_o r (by rw [e]; rfl)
    rcases (Bool.or_eq_true _ _).mp r with r | r
    · have r := of_decide_eq_true r
      omega
    · have r := of_decide_eq_true r
      omega
  · obtain ⟨w, _, e, ⟨e1, e2⟩, r⟩ := H _ _ _ q
    have r := (qa_and (qa_and (qa_and (qa_and (qa_and r).2).2).2).2).2
    have r := List.all_eq_true.mp (rt_o r (by rw [e]; rfl)) j hj
    rcases (Bool.or_eq_true _ _).mp r with r | r
    · have r := of_decide_eq_true r
      omega
    · have r := of_decide_eq_true r
      omega
theorem rt_fr {W : List YW} (h : W.all rt_w = true) {s s' : LMem} (F : y_Fr W s s') (R : RT s) : RT s' := by
  obtain ⟨a1, a2, a3, a4, a5, a6⟩ := rt_k h F
  obtain ⟨l, h1, h2, h3, h4, h5, h6, h7, h8⟩ := R
  refine ⟨l, h1, a5.trans h2, (a6 2 (by decide)).trans h3, ?_, fun j hj => by rw [a1]; exact h5 j hj, ?_, ?_, ?_⟩
  · exact funext fun j => (a1 j).trans ((congrFun h4 j).trans (a3 j).symm)
  · rw [a2, a6 21 (by decide)]; exact h6
  · rw [a2, a6 13 (by decide)]; exact h7
  · rw [a2, a6 22 (by decide)]; exact h8
def lqz (s : LMem) (Q : LPost) : Prop := ∀ v s', zJ s' → (∀ i j, gI s' 65 i j = gI s 65 i j) → Q (some (lI v)) s'
theorem sf_conz {ct : YCt} (H : y_con x_X ct) (hk : (Nat.ble ct.2.2.2.2.2 1200 && ((ct.2.2.2.1.all rt_w) && ct.2.2.2.2.1.all sf_a)) = true) (hp : ct.2.2.1 = ([], [])) {As : List LV} {s : LMem} {Q : LPost} (hA : y_as ct.2.1 As) (hJ : zJ s) (h : lqz s Q) : qC false 1200 ct.1 As s Q := by
  obtain ⟨k1, k2⟩ := qa_and hk
  obtain ⟨k2, k3⟩ := qa_and k2
  refine H 1200 (Nat.le_of_ble_eq_true k1) As s Q hA hJ.1 (by rw [hp]; exact ⟨y_msnil, fun _ q => absurd q List.not_mem_nil⟩) fun r s' hr J' F' => ?_
  obtain ⟨a, ha, h1, _⟩ := hr
  have h3 := List.all_eq_true.mp k3 a ha
  obtain ⟨a1, a2⟩ := a
  rcases a1 with _ | b | b
  · cases h3
  · rcases r with _ | v
    · exact h1.elim
    · have h1 : y_sv (.inl b) v := h1
      obtain ⟨x, rfl, _, _⟩ := y_aI h1
      exact h x s' ⟨J', rt_fr k2 F' hJ.2⟩ (rt_k k2 F').2.2.2.1
  · cases h3
/-- the second call of a pair: the same answer, both tapes the same again -/
abbrev pr2 (s1 : LMem) (v : Int32) : LPost := fun r s2 => r = some (lI v) ∧ zJ s2 ∧ ∀ i j, gI s2 65 i j = gI s1 65 i j
