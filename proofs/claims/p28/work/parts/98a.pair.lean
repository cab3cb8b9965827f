/-! PAIRS of calls. -/
theorem pr_fault {p : Int32} {s : LMem} {Q : LPost} (hJ : zJ s) (h : ∀ v s1, y_J x_X s1 → (∀ i j, gI s1 65 i j = gI s 65 i j) → (∀ p', p' = p → qC false 1200 235 [lR 33 (some 0), lI p'] s1 (pr2 s1 v)) → Q (some (lI v)) s1) : qC false 1200 145 [lR 0 (some 0), lI p] s Q := by
  obtain ⟨J, R⟩ := hJ
  have R0 := R
  obtain ⟨l, h1, h2, h3, h4, h5, _⟩ := R
  have q1 := fv_11 (d := 1077) (p := p) J h2 h1 (tp_mk J h1 h5)
  have q2 := fr_con (d := 1200) (s := s) (As := [lR 0 (some 0), lI p]) (y_all x_X_cl h_all0 yk_X11_fault (List.mem_of_getElem? (i := 0) rfl)) (by decide) rfl ⟨y_rcv, z_in_top _, trivial⟩ J
  refine qC_mono (qC_and q1 q2) fun r s1 q => ?_
  obtain ⟨⟨v, rfl, O⟩, J1, F1⟩ := q
  have R1 : RT s1 := rt_fr (by decide +kernel) F1 R0
  refine h v s1 J1 (rt_k (by decide +kernel) F1).2.2.2.1 fun p' ep => ?_
  subst ep
  have R10 := R1
  obtain ⟨l', g1, g2, g3, g4, g5, _⟩ := R1
  have eC : bC s1 = bC s := funext fun j => (rt_k (by decide +kernel) F1).1 j
  have el : l' = l := by
    have := (g2.symm.trans ((rt_k (by decide +kernel) F1).2.2.2.2.1.trans h2))
    have := congrArg Int32.toInt this
    rw [nI_toInt (by omega), nI_toInt (by omega)] at this
    omega
  subst el
  have k1 := fv_12 (d := 1077) (p := p') (s := s1) J1 g3 g1
  have k2 : qC false 1200 235 [lR 33 (some 0), lI p'] s1 (fun r s2 => zJ s2 ∧ ∀ i j, gI s2 65 i j = gI s1 65 i j) := sf_X12_fault p' ⟨J1, R10⟩ fun v s' hz hx => ⟨hz, hx⟩
  refine qC_mono (qC_and k1 k2) fun r s2 q => ?_
  obtain ⟨⟨w, rfl, O2⟩, z2, x2⟩ := q
  rw [← g4, eC] at O2
  exact ⟨by rw [fvO_det O O2], z2, x2⟩
/-! end, text, feed: both sides in a row. -/
def edO (x n : Int32) (y v : Int32) : Prop := ((0 ≤ n.toInt ∧ n.toInt ≤ x.toInt) ∧ v = 1 ∧ y = n) ∨ (¬ (0 ≤ n.toInt ∧ n.toInt ≤ x.toInt) ∧ v = 0 ∧ y = x)
theorem nI_up {x : Int32} {hi : Nat} (h0 : 0 ≤ x.toInt) (h1 : x.toInt ≤ hi) (hh : hi < 2 ^ 31) : ∃ k, k ≤ hi ∧ x = nI k := ⟨x.toInt.toNat, by omega, Int32.toInt_inj.mp (by rw [nI_toInt (by omega)]; omega)⟩
section ED
variable {d : Nat} {n : Int32} {s : LMem} {Q : LPost}
theorem ed_11 : qC false (d + 2) 144 [lR 0 (some 0), lI n] s (fun r m => ∃ v, r = some (lI v) ∧ edO (gI s 1 0 1) n (gI m 1 0 1) v) := by
  have cut : qC false (d + 1) 110 [lR 1 (some 0), lI n] s (fun r m => ∃ v, r = some (lI v) ∧ edO (gI s 1 0 1) n (gI m 1 0 1) v ∧ (v = 0 ∨ v = 1)) := by
    have fin : 0 ≤ n.toInt ∧ n.toInt ≤ (gI s 1 0 1).toInt → ∃ v, some (lI (1 : Int32)) = some (lI v) ∧ edO (gI s 1 0 1) n (gI (sI s 1 0 1 n) 1 0 1) v ∧ (v = 0 ∨ v = 1) := fun c => ⟨1, rfl, Or.inl ⟨c, rfl, by rw [gI_sI, if_pos ⟨rfl, rfl, rfl⟩]⟩, Or.inr rfl⟩
    refine qC_of rfl rfl ?_
    refine qa_t1_W (cut := []) 30 ?_
    refine And.intro (fun c => ?_) (fun c => ?_)
    · have c := Int32.lt_iff_toInt_lt.mp c
      rw [i32_0'] at c
      exact And.intro (Or.inl rfl) ⟨0, rfl, Or.inr ⟨fun q => by omega, rfl, rfl⟩, Or.inl rfl⟩
    · have c : ¬ n < 0 := c
      have c : ¬ n.toInt < (0 : Int32).toInt := fun q => c (Int32.lt_iff_toInt_lt.mpr q)
      rw [i32_0'] at c
      refine And.intro (fun c2 => ?_) (fun c2 => ?_)
      · have c2 : gI s 1 0 1 < n := c2
        have c2 := Int32.lt_iff_toInt_lt.mp c2
        exact And.intro (Or.inl rfl) ⟨0, rfl, Or.inr ⟨fun q => by omega, rfl, rfl⟩, Or.inl rfl⟩
      · have c2 : ¬ gI s 1 0 1 < n := c2
        have c2 : ¬ (gI s 1 0 1).toInt < n.toInt := fun q => c2 (Int32.lt_iff_toInt_lt.mpr q)
        exact And.intro (Or.inr rfl) (fin ⟨by omega, by omega⟩)
  refine qC_of rfl rfl ?_
  refine qa_t1_W (cut := []) 30 ?_
  refine qC_mono cut fun r m q => ?_
  obtain ⟨v, e, O, b⟩ := q
  exact Exists.intro v (And.intro e (And.intro b ⟨v, rfl, O⟩))
theorem ed_12 : qC false (d + 1) 203 [lR 33 (some 0), lI n] s (fun r m => ∃ v, r = some (lI v) ∧ edO (gI s 33 0 2) n (gI m 33 0 2) v) := by
  have fin : 0 ≤ n.toInt ∧ n.toInt ≤ (gI s 33 0 2).toInt → ∃ v, some (lI (1 : Int32)) = some (lI v) ∧ edO (gI s 33 0 2) n (gI (sI s 33 0 2 n) 33 0 2) v := fun c => ⟨1, rfl, Or.inl ⟨c, rfl, by rw [gI_sI, if_pos ⟨rfl, rfl, rfl⟩]⟩⟩
  refine qC_of rfl rfl ?_
  refine qa_t1_W (cut := []) 30 ?_
  refine And.intro (fun c => ?_) (fun c => ?_)
  · have c := Int32.lt_iff_toInt_lt.mp c
    rw [i32_0'] at c
    exact And.intro (Or.inl rfl) ⟨0, rfl, Or.inr ⟨fun q => by omega, rfl, rfl⟩⟩
  · have c : ¬ n < 0 := c
    have c : ¬ n.toInt < (0 : Int32).toInt := fun q => c (Int32.lt_iff_toInt_lt.mpr q)
    rw [i32_0'] at c
    refine And.intro (fun c2 => ?_) (fun c2 => ?_)
    · have c2 : gI s 33 0 2 < n := c2
      have c2 := Int32.lt_iff_toInt_lt.mp c2
      exact And.intro (Or.inl rfl) ⟨0, rfl, Or.inr ⟨fun q => by omega, rfl, rfl⟩⟩
    · have c2 : ¬ gI s 33 0 2 < n := c2
      have c2 : ¬ (gI s 33 0 2).toInt < n.toInt := fun q => c2 (Int32.lt_iff_toInt_lt.mpr q)
      exact And.intro (Or.inr rfl) (fin ⟨by omega, by omega⟩)
theorem pr_end {p : Int32} (hJ : zJ s) (h : ∀ v s1, y_J x_X s1 → (∀ i j, gI s1 65 i j = gI s 65 i j) → (∀ p', p' = p → qC false 1200 203 [lR 33 (some 0), lI p'] s1 (pr2 s1 v)) → Q (some (lI v)) s1) : qC false 1200 144 [lR 0 (some 0), lI p] s Q := by
  obtain ⟨J, l, h1, h2, h3, h4, h5, h6, h7, h8⟩ := hJ
  have q1 := ed_11 (d := 1198) (n := p) (s := s)
  have q2 := fr_con (d := 1200) (s := s) (As := [lR 0 (some 0), lI p]) (y_all x_X_cl h_all0 yk_X11_end (List.mem_of_getElem? (i := 186) rfl)) (by decide) rfl ⟨y_rcv, z_in_top _, trivial⟩ J
  refine qC_mono (qC_and q1 q2) fun r s1 q => ?_
  obtain ⟨⟨v, rfl, O⟩, J1, F1⟩ := q
  refine h v s1 J1 (fr_K F1 65 (by decide)) fun p' ep => ?_
  subst ep
  have k1 := ed_12 (d := 1199) (n := p') (s := s1)
  have k2 := fr_con (d := 1200) (s := s1) (As := [lR 33 (some 0), lI p']) (y_all x_X_cl h_all0 yk_X12_end (List.mem_of_getElem? (i := 187) rfl)) (by decide) rfl ⟨y_rcv, z_in_top _, trivial⟩ J1
  refine qC_mono (qC_and k1 k2) fun r s2 q => ?_
  obtain ⟨⟨w, rfl, O2⟩, J2, F2⟩ := q
  have e33 : gI s1 33 0 2 = nI l := by rw [fr_K F1 33 (by decide), h3]
  rw [h2] at O
  rw [e33] at O2
  have b2 : bC s2 = bS s2 := funext fun j => by
    show gI s2 2 0 j = gI s2 34 0 j
    rw [fr_K F2 2 (by decide), fr_K F2 34 (by decide), fr_K F1 2 (by decide), fr_K F1 34 (by decide)]
    exact congrFun h4 j
  have e1 : gI s2 1 0 1 = gI s1 1 0 1 := fr_K F2 1 (by decide) 0 1
  have e15 : ∀ j, gI s2 15 0 j = gI s 15 0 j := fun j => by rw [fr_K F2 15 (by decide), fr_K F1 15 (by decide)]
  have eK : ∀ j, 2 < j → gI s2 33 0 j = gI s 33 0 j := fun j hj => by
    rw [(F2 33 0 j fun ⟨w, hw, _, _, a1, a2⟩ => by
      have hw : w ∈ [((33 : Nat), (0 : Int), (0 : Int), (2 : Int), (2 : Int))] := hw
      rw [List.mem_singleton.mp hw] at a2
      have a2 : (j : Int) ≤ 2 := a2
      omega).1, fr_K F1 33 (by decide)]
  have R2 : ∀ l', l' ≤ l → gI s1 1 0 1 = nI l' → gI s2 33 0 2 = nI l' → RT s2 := fun l' c1 c2 c3 => ⟨l', by omega, e1.trans c2, c3, b2, fun j hj => by rw [fr_K F2 2 (by decide), fr_K F1 2 (by decide)]; exact h5 j (by omega), by rw [e15, eK 21 (by decide), h6], by rw [e15, eK 13 (by decide), h7], by rw [e15, eK 22 (by decide), h8]⟩
  rcases O with ⟨c, rfl, ey⟩ | ⟨c, rfl, ey⟩
  · rcases O2 with ⟨c2, rfl, ey2⟩ | ⟨c2, rfl, ey2⟩
    · obtain ⟨k, hk, ek⟩ := nI_up (hi := l) c.1 (by have := c.2; rw [nI_toInt (by omega)] at this; exact this) (by omega)
      exact ⟨rfl, ⟨J2, R2 k hk (by rw [ey, ek]) (by rw [ey2, ek])⟩, fr_K F2 65 (by decide)⟩
    · exact absurd c c2
  · rcases O2 with ⟨c2, rfl, ey2⟩ | ⟨c2, rfl, ey2⟩
    · exact absurd c2 c
    · exact ⟨rfl, ⟨J2, R2 l (Nat.le_refl _) ey ey2⟩, fr_K F2 65 (by decide)⟩
end ED
/-! text, both sides in a row. -/
section TP
variable {s : LMem} {Q : LPost}
theorem pr_text0 (hJ : zJ s) (h : ∀ v s1, y_J x_X s1 → (∀ i j, gI s1 65 i j = gI s 65 i j) → qC false 1200 236 [lR 33 (some 0), lI 0] s1 (pr2 s1 v) → Q (some (lI v)) s1) : qC false 1200 146 [lR 0 (some 0), lI 0] s Q := by
  obtain ⟨J, l, h1, h2, h3, h4, h5, h6, h7, h8⟩ := hJ
  have q1 := tx_110 (d := 1077) (s := s) J h2 h1 (tp_mk J h1 h5)
  have q2 := fr_con (d := 1200) (s := s) (As := [lR 0 (some 0), lI 0]) (y_all x_X_cl h_all0 yk_X11_text_1 (List.mem_of_getElem? (i := 100) rfl)) (by decide) rfl ⟨y_rcv, ⟨by decide, by decide⟩, trivial⟩ J
  refine qC_mono (qC_and q1 q2) fun r s1 q => ?_
  obtain ⟨⟨v, rfl, O⟩, J1, F1⟩ := q
  refine h v s1 J1 (fr_K F1 65 (by decide)) ?_
  have e33 : ∀ j, gI s1 33 0 j = gI s 33 0 j := fun j => fr_K F1 33 (by decide) 0 j
  have e34 : bS s1 = bS s := funext fun j => fr_K F1 34 (by decide) 0 j
  have k1 := tx_120 (d := 1077) (s := s1) J1 ((e33 2).trans h3) h1
  have k2 := fr_con (d := 1200) (s := s1) (As := [lR 33 (some 0), lI 0]) h_X12_text_0 (by decide) rfl ⟨y_rcv, ⟨by decide, by decide⟩, trivial⟩ J1
  refine qC_mono (qC_and k1 k2) fun r s2 q => ?_
  obtain ⟨⟨w, rfl, O2⟩, J2, F2⟩ := q
  have x65 : ∀ i j, gI s2 65 i j = gI s1 65 i j := fr_K F2 65 (by decide +kernel)
  have b2 : bC s2 = bS s2 := funext fun j => by
    show gI s2 2 0 j = gI s2 34 0 j
    rw [fr_K F2 2 (by decide +kernel), fr_K F2 34 (by decide +kernel), fr_K F1 2 (by decide), fr_K F1 34 (by decide)]
    exact congrFun h4 j
  have n2 : ∀ j, gI s2 2 0 j = gI s 2 0 j := fun j => by rw [fr_K F2 2 (by decide +kernel), fr_K F1 2 (by decide)]
  have e1 : gI s2 1 0 1 = gI s1 1 0 1 := fr_K F2 1 (by decide +kernel) 0 1
  have e15 : ∀ j, gI s2 15 0 j = gI s1 15 0 j := fun j => fr_K F2 15 (by decide +kernel) 0 j
  have p1 : gI s2 15 0 1 = gI s2 33 0 13 := by rw [e15, fr_k F1 15 0 1 (by decide), fr_k F2 33 0 13 (by decide +kernel), e33]; exact h7
  have p2 : gI s2 15 0 2 = gI s2 33 0 22 := by rw [e15, fr_k F1 15 0 2 (by decide), fr_k F2 33 0 22 (by decide +kernel), e33]; exact h8
  have RT2 : ∀ l', l' ≤ l → gI s1 1 0 1 = nI l' → gI s2 33 0 2 = nI l' → gI s2 15 0 0 = gI s2 33 0 21 → RT s2 := fun l' c1 c2 c3 pK => ⟨l', by omega, e1.trans c2, c3, b2, fun j hj => by rw [n2]; exact h5 j (by omega), pK, p1, p2⟩
  rw [e34, ← h4] at O2
  unfold tuO at O2
  rw [e33, e33, ← h6] at O2
  rcases O with ⟨rfl, a1, ⟨q, a2⟩, a3, a4, _⟩ | ⟨rfl, a1, A⟩
  · rcases O2 with ⟨rfl, _, _, b3, b4⟩ | ⟨_, b1, _, _⟩
    · exact ⟨rfl, ⟨J2, RT2 0 (Nat.zero_le _) a3 b3 (by rw [e15, a4, b4])⟩, x65⟩
    · rcases b1 with b1 | ⟨w, b1⟩
      · exact absurd a1 (by omega)
      · cases rdS_det a2 b1
  · rcases O2 with ⟨_, b1, ⟨q, b2'⟩, _, _⟩ | ⟨rfl, _, b3, b4⟩
    · rcases a1 with a1 | ⟨w, a1⟩
      · exact absurd b1 (by omega)
      · cases rdS_det b2' a1
    · exact ⟨rfl, ⟨J2, RT2 l (Nat.le_refl _) ((fr_k A 1 0 1 (by decide)).trans h2) (b3.trans h3) (by rw [e15, fr_k A 15 0 0 (by decide), b4])⟩, x65⟩
theorem pr_text1 (hJ : zJ s) (h : ∀ v s1, y_J x_X s1 → (∀ i j, gI s1 65 i j = gI s 65 i j) → qC false 1200 236 [lR 33 (some 0), lI 1] s1 (pr2 s1 v) → Q (some (lI v)) s1) : qC false 1200 146 [lR 0 (some 0), lI 1] s Q := by
  obtain ⟨J, l, h1, h2, h3, h4, h5, h6, h7, h8⟩ := hJ
  have q1 := tx_111 (d := 1077) (s := s) J h2 h1 (tp_mk J h1 h5)
  have q2 := fr_con (d := 1200) (s := s) (As := [lR 0 (some 0), lI 1]) (y_all x_X_cl h_all0 yk_X11_text_2 (List.mem_of_getElem? (i := 1) rfl)) (by decide) rfl ⟨y_rcv, ⟨by decide, by decide⟩, trivial⟩ J
  refine qC_mono (qC_and q1 q2) fun r s1 q => ?_
  obtain ⟨⟨v, rfl, O⟩, J1, F1⟩ := q
  refine h v s1 J1 (fr_K F1 65 (by decide)) ?_
  have e33 : ∀ j, gI s1 33 0 j = gI s 33 0 j := fun j => fr_K F1 33 (by decide) 0 j
  have e34 : bS s1 = bS s := funext fun j => fr_K F1 34 (by decide) 0 j
  have k1 := tx_121 (d := 1077) (s := s1) J1 ((e33 2).trans h3) h1
  have k2 := fr_con (d := 1200) (s := s1) (As := [lR 33 (some 0), lI 1]) h_X12_text_1 (by decide) rfl ⟨y_rcv, ⟨by decide, by decide⟩, trivial⟩ J1
  refine qC_mono (qC_and k1 k2) fun r s2 q => ?_
  obtain ⟨⟨w, rfl, O2⟩, J2, F2⟩ := q
  have x65 : ∀ i j, gI s2 65 i j = gI s1 65 i j := fr_K F2 65 (by decide +kernel)
  have b2 : bC s2 = bS s2 := funext fun j => by
    show gI s2 2 0 j = gI s2 34 0 j
    rw [fr_K F2 2 (by decide +kernel), fr_K F2 34 (by decide +kernel), fr_K F1 2 (by decide), fr_K F1 34 (by decide)]
    exact congrFun h4 j
  have n2 : ∀ j, gI s2 2 0 j = gI s 2 0 j := fun j => by rw [fr_K F2 2 (by decide +kernel), fr_K F1 2 (by decide)]
  have e1 : gI s2 1 0 1 = gI s1 1 0 1 := fr_K F2 1 (by decide +kernel) 0 1
  have e15 : ∀ j, gI s2 15 0 j = gI s1 15 0 j := fun j => fr_K F2 15 (by decide +kernel) 0 j
  have p0 : gI s2 15 0 0 = gI s2 33 0 21 := by rw [e15, fr_k F1 15 0 0 (by decide), fr_k F2 33 0 21 (by decide +kernel), e33]; exact h6
  have p2 : gI s2 15 0 2 = gI s2 33 0 22 := by rw [e15, fr_k F1 15 0 2 (by decide), fr_k F2 33 0 22 (by decide +kernel), e33]; exact h8
  have RT2 : ∀ l', l' ≤ l → gI s1 1 0 1 = nI l' → gI s2 33 0 2 = nI l' → gI s2 15 0 1 = gI s2 33 0 13 → RT s2 := fun l' c1 c2 c3 pK => ⟨l', by omega, e1.trans c2, c3, b2, fun j hj => by rw [n2]; exact h5 j (by omega), p0, pK, p2⟩
  rw [e34, ← h4] at O2
  unfold tuO at O2
  rw [e33, e33, ← h7] at O2
  rcases O with ⟨rfl, a1, ⟨q, a2⟩, a3, a4, _⟩ | ⟨rfl, a1, A⟩
  · rcases O2 with ⟨rfl, _, _, b3, b4⟩ | ⟨_, b1, _, _⟩
    · exact ⟨rfl, ⟨J2, RT2 0 (Nat.zero_le _) a3 b3 (by rw [e15, a4, b4])⟩, x65⟩
    · rcases b1 with b1 | ⟨w, b1⟩
      · exact absurd a1 (by omega)
      · cases rdS_det a2 b1
  · rcases O2 with ⟨_, b1, ⟨q, b2'⟩, _, _⟩ | ⟨rfl, _, b3, b4⟩
    · rcases a1 with a1 | ⟨w, a1⟩
      · exact absurd b1 (by omega)
      · cases rdS_det b2' a1
    · exact ⟨rfl, ⟨J2, RT2 l (Nat.le_refl _) ((fr_k A 1 0 1 (by decide)).trans h2) (b3.trans h3) (by rw [e15, fr_k A 15 0 1 (by decide), b4])⟩, x65⟩
theorem pr_text2 (hJ : zJ s) (h : ∀ v s1, y_J x_X s1 → (∀ i j, gI s1 65 i j = gI s 65 i j) → qC false 1200 236 [lR 33 (some 0), lI 2] s1 (pr2 s1 v) → Q (some (lI v)) s1) : qC false 1200 146 [lR 0 (some 0), lI 2] s Q := by
  obtain ⟨J, l, h1, h2, h3, h4, h5, h6, h7, h8⟩ := hJ
  have q1 := tx_112 (d := 1077) (s := s) J h2 h1 (tp_mk J h1 h5)
  have q2 := fr_con (d := 1200) (s := s) (As := [lR 0 (some 0), lI 2]) (y_all x_X_cl h_all0 yk_X11_text_3 (List.mem_of_getElem? (i := 111) rfl)) (by decide) rfl ⟨y_rcv, ⟨by decide, by decide⟩, trivial⟩ J
  refine qC_mono (qC_and q1 q2) fun r s1 q => ?_
  obtain ⟨⟨v, rfl, O⟩, J1, F1⟩ := q
  refine h v s1 J1 (fr_K F1 65 (by decide)) ?_
  have e33 : ∀ j, gI s1 33 0 j = gI s 33 0 j := fun j => fr_K F1 33 (by decide) 0 j
  have e34 : bS s1 = bS s := funext fun j => fr_K F1 34 (by decide) 0 j
  have k1 := tx_122 (d := 1077) (s := s1) J1 ((e33 2).trans h3) h1
  have k2 := fr_con (d := 1200) (s := s1) (As := [lR 33 (some 0), lI 2]) h_X12_text_2 (by decide) rfl ⟨y_rcv, ⟨by decide, by decide⟩, trivial⟩ J1
  refine qC_mono (qC_and k1 k2) fun r s2 q => ?_
  obtain ⟨⟨w, rfl, O2⟩, J2, F2⟩ := q
  have x65 : ∀ i j, gI s2 65 i j = gI s1 65 i j := fr_K F2 65 (by decide +kernel)
  have b2 : bC s2 = bS s2 := funext fun j => by
    show gI s2 2 0 j = gI s2 34 0 j
    rw [fr_K F2 2 (by decide +kernel), fr_K F2 34 (by decide +kernel), fr_K F1 2 (by decide), fr_K F1 34 (by decide)]
    exact congrFun h4 j
  have n2 : ∀ j, gI s2 2 0 j = gI s 2 0 j := fun j => by rw [fr_K F2 2 (by decide +kernel), fr_K F1 2 (by decide)]
  have e1 : gI s2 1 0 1 = gI s1 1 0 1 := fr_K F2 1 (by decide +kernel) 0 1
  have e15 : ∀ j, gI s2 15 0 j = gI s1 15 0 j := fun j => fr_K F2 15 (by decide +kernel) 0 j
  have p0 : gI s2 15 0 0 = gI s2 33 0 21 := by rw [e15, fr_k F1 15 0 0 (by decide), fr_k F2 33 0 21 (by decide +kernel), e33]; exact h6
  have p1 : gI s2 15 0 1 = gI s2 33 0 13 := by rw [e15, fr_k F1 15 0 1 (by decide), fr_k F2 33 0 13 (by decide +kernel), e33]; exact h7
  have RT2 : ∀ l', l' ≤ l → gI s1 1 0 1 = nI l' → gI s2 33 0 2 = nI l' → gI s2 15 0 2 = gI s2 33 0 22 → RT s2 := fun l' c1 c2 c3 pK => ⟨l', by omega, e1.trans c2, c3, b2, fun j hj => by rw [n2]; exact h5 j (by omega), p0, p1, pK⟩
  rw [e34, ← h4] at O2
  unfold tuO at O2
  rw [e33, e33, ← h8] at O2
  rcases O with ⟨rfl, a1, ⟨q, a2⟩, a3, a4, _⟩ | ⟨rfl, a1, A⟩
  · rcases O2 with ⟨rfl, _, _, b3, b4⟩ | ⟨_, b1, _, _⟩
    · exact ⟨rfl, ⟨J2, RT2 0 (Nat.zero_le _) a3 b3 (by rw [e15, a4, b4])⟩, x65⟩
    · rcases b1 with b1 | ⟨w, b1⟩
      · exact absurd a1 (by omega)
      · cases rdS_det a2 b1
  · rcases O2 with ⟨_, b1, ⟨q, b2'⟩, _, _⟩ | ⟨rfl, _, b3, b4⟩
    · rcases a1 with a1 | ⟨w, a1⟩
      · exact absurd b1 (by omega)
      · cases rdS_det b2' a1
    · exact ⟨rfl, ⟨J2, RT2 l (Nat.le_refl _) ((fr_k A 1 0 1 (by decide)).trans h2) (b3.trans h3) (by rw [e15, fr_k A 15 0 2 (by decide), b4])⟩, x65⟩
theorem pr_text {p : Int32} (hJ : zJ s) (h : ∀ v s1, y_J x_X s1 → (∀ i j, gI s1 65 i j = gI s 65 i j) → (∀ p', p' = p → qC false 1200 236 [lR 33 (some 0), lI p'] s1 (pr2 s1 v)) → Q (some (lI v)) s1) : qC false 1200 146 [lR 0 (some 0), lI p] s Q := by
  by_cases c0 : p = 0
  · subst c0
    exact pr_text0 hJ fun v s1 J1 X1 c => h v s1 J1 X1 fun p' ep => by
      subst ep
      exact c
  by_cases c1 : p = 1
  · subst c1
    exact pr_text1 hJ fun v s1 J1 X1 c => h v s1 J1 X1 fun p' ep => by
      subst ep
      exact c
  by_cases c2 : p = 2
  · subst c2
    exact pr_text2 hJ fun v s1 J1 X1 c => h v s1 J1 X1 fun p' ep => by
      subst ep
      exact c
  refine qC_mono (tx_11N (d := 1077) c0 c1 c2) fun r m q => ?_
  obtain ⟨rfl, rfl⟩ := q
  refine h _ m hJ.1 (fun _ _ => rfl) fun p' ep => ?_
  subst ep
  refine qC_mono (tx_12N (d := 1077) c0 c1 c2) fun r m' q => ?_
  obtain ⟨rfl, rfl⟩ := q
  exact ⟨rfl, hJ, fun _ _ => rfl⟩
/-- feed -/
theorem pr_feed {a b e f g : Int32} (hJ : zJ s) (h : ∀ v s1, y_J x_X s1 → (∀ i j, gI s1 65 i j = gI s 65 i j) → (∀ a' b' e' f' g', a' = a → b' = b → e' = e → f' = f → g' = g → qC false 1200 202 [lR 33 (some 0), lI a', lI b', lI e', lI f', lI g'] s1 (pr2 s1 v)) → Q (some (lI v)) s1) : qC false 1200 143 [lR 0 (some 0), lI a, lI b, lI e, lI f, lI g] s Q := by
  obtain ⟨J, l, h1, h2, h3, h4, h5, h6, h7, h8⟩ := hJ
  have q1 := fd_11 (d := 1197) (s := s) (a := a) (b := b) (e := e) (f := f) (g := g) (t := (bC s, l)) h1 ⟨rfl, h2⟩
  have q2 := fr_con (d := 1200) (s := s) (As := [lR 0 (some 0), lI a, lI b, lI e, lI f, lI g]) (y_all x_X_cl h_all0 yk_X11_feed (List.mem_of_getElem? (i := 149) rfl)) (by decide) rfl ⟨y_rcv, z_in_top _, z_in_top _, z_in_top _, z_in_top _, z_in_top _, trivial⟩ J
  refine qC_mono (qC_and q1 q2) fun r s1 q => ?_
  obtain ⟨⟨v, rfl, O⟩, J1, F1⟩ := q
  refine h v s1 J1 (fr_K F1 65 (by decide)) fun a' b' e' f' g' ea eb ee ef eg => ?_
  subst ea eb ee ef eg
  have e33 : ∀ j, gI s1 33 0 j = gI s 33 0 j := fun j => fr_K F1 33 (by decide) 0 j
  have e34 : bS s1 = bC s := (funext fun j => fr_K F1 34 (by decide) 0 j).trans h4.symm
  have k1 := fd_12 (d := 1197) (s := s1) (a := a') (b := b') (e := e') (f := f') (g := g') (t := (bC s, l)) h1 ⟨e34, (e33 2).trans h3⟩
  have k2 := fr_con (d := 1200) (s := s1) (As := [lR 33 (some 0), lI a', lI b', lI e', lI f', lI g']) h_X12_feed (by decide) rfl ⟨y_rcv, z_in_top _, z_in_top _, z_in_top _, z_in_top _, z_in_top _, trivial⟩ J1
  refine qC_mono (qC_and k1 k2) fun r s2 q => ?_
  obtain ⟨⟨w, rfl, O2⟩, J2, F2⟩ := q
  have x65 : ∀ i j, gI s2 65 i j = gI s1 65 i j := fr_K F2 65 (by decide)
  have c2 : bC s2 = bC s1 := funext fun j => fr_K F2 2 (by decide) 0 j
  have e1 : gI s2 1 0 1 = gI s1 1 0 1 := fr_K F2 1 (by decide) 0 1
  have e15 : ∀ j, gI s2 15 0 j = gI s 15 0 j := fun j => by rw [fr_K F2 15 (by decide), fr_K F1 15 (by decide)]
  have RT2 : ∀ t : (Nat → Int32) × Nat, t.2 ≤ 200 → fNZ t → fC s1 t → fR s2 t → RT s2 := fun t c1 nz c3 c4 => ⟨t.2, c1, e1.trans c3.2, c4.2, c2.trans (c3.1.trans c4.1.symm), fun j hj => by
    rw [show gI s2 2 0 j = t.1 j from congrFun (c2.trans c3.1) j]
    exact nz j hj, by rw [e15, fr_k F2 33 0 21 (by decide), e33, h6], by rw [e15, fr_k F2 33 0 13 (by decide), e33, h7], by rw [e15, fr_k F2 33 0 22 (by decide), e33, h8]⟩
  have nz0 : fNZ (bC s, l) := fun j hj => h5 j hj
  rcases O with ⟨a1, rfl, a3⟩ | ⟨a1, rfl, a3⟩
  · rcases O2 with ⟨b1, rfl, b3⟩ | ⟨b1, rfl, b3⟩
    · exact ⟨rfl, ⟨J2, RT2 _ h1 nz0 a3 b3⟩, x65⟩
    · exact absurd a1 (by omega)
  · rcases O2 with ⟨b1, rfl, b3⟩ | ⟨b1, rfl, b3⟩
    · exact absurd b1 (by omega)
    · exact ⟨rfl, ⟨J2, RT2 _ (by rw [fdA_2]; exact a1) (fNZ_A nz0) a3 b3⟩, x65⟩
end TP
/-! What is kept is found: ditches, laws, rains of the class; dig. -/
section FI
variable {d : Nat} {s : LMem} {Q : LPost}
theorem h_ditchSlotN {x : Int32} (h0 : x.toInt < 0) (h : Q (some (lR 4 none)) s) : qC false (d + 1) 148 [lR 0 (some 0), lI x] s Q := by
  refine qC_of rfl rfl ?_
  refine qa_t1_W (cut := []) 40 ?_
  refine And.intro (fun _ => h) (fun q => absurd (Int32.lt_iff_toInt_lt.mpr (by rw [i32_0']; exact h0)) q)
theorem h_lawSlotN {x : Int32} (h0 : x.toInt < 0) (h : Q (some (lR 8 none)) s) : qC false (d + 1) 149 [lR 0 (some 0), lI x] s Q := by
  refine qC_of rfl rfl ?_
  refine qa_t1_W (cut := []) 40 ?_
  refine And.intro (fun _ => h) (fun q => absurd (Int32.lt_iff_toInt_lt.mpr (by rw [i32_0']; exact h0)) q)
theorem h_rainSlotN {x : Int32} (h0 : x.toInt < 0) (h : Q (some (lR 13 none)) s) : qC false (d + 1) 150 [lR 0 (some 0), lI x] s Q := by
  refine qC_of rfl rfl ?_
  refine qa_t1_W (cut := []) 40 ?_
  refine And.intro (fun _ => h) (fun q => absurd (Int32.lt_iff_toInt_lt.mpr (by rw [i32_0']; exact h0)) q)
theorem h_findDitch {x : Int32} (hJ : y_J x_X s) (h1 : 0 ≤ x.toInt → x.toInt < (gI s 15 0 0).toInt → Q (some (lR 4 (some x.toNatClampNeg))) s) (h0 : ¬ (0 ≤ x.toInt ∧ x.toInt < (gI s 15 0 0).toInt) → Q (some (lR 4 none)) s) : qC false (d + 4) 151 [lR 0 (some 0), lI x] s Q := by
  have b15 := bd15 (j := 0) (hi := 4) hJ (by decide)
  refine qC_of rfl rfl ?_
  refine qa_t1_W (cut := []) 40 ?_
  refine h_keptOf0 (Exists.intro _ (And.intro rfl ?_))
  refine And.intro (fun c => ?_) (fun c => ?_)
  · have c := Int32.lt_iff_toInt_lt.mp c
    have c : x.toInt < (gI s 15 0 0).toInt := c
    by_cases z : 0 ≤ x.toInt
    · refine h_ditchSlot z (by omega) (Or.inr (Exists.intro _ (And.intro rfl ?_)))
      exact h1 z c
    · refine h_ditchSlotN (by omega) (Or.inl (And.intro rfl ?_))
      exact h0 (fun q => z q.1)
  · have c : ¬ x < gI s 15 0 0 := c
    have c : ¬ x.toInt < (gI s 15 0 0).toInt := fun q => c (Int32.lt_iff_toInt_lt.mpr q)
    exact h0 (fun q => c q.2)
theorem h_findLaw {x : Int32} (hJ : y_J x_X s) (h1 : 0 ≤ x.toInt → x.toInt < (gI s 15 0 1).toInt → Q (some (lR 8 (some x.toNatClampNeg))) s) (h0 : ¬ (0 ≤ x.toInt ∧ x.toInt < (gI s 15 0 1).toInt) → Q (some (lR 8 none)) s) : qC false (d + 4) 152 [lR 0 (some 0), lI x] s Q := by
  have b15 := bd15 (j := 1) (hi := 6) hJ (by decide)
  refine qC_of rfl rfl ?_
  refine qa_t1_W (cut := []) 40 ?_
  refine h_keptOf1 (Exists.intro _ (And.intro rfl ?_))
  refine And.intro (fun c => ?_) (fun c => ?_)
  · have c := Int32.lt_iff_toInt_lt.mp c
    have c : x.toInt < (gI s 15 0 1).toInt := c
    by_cases z : 0 ≤ x.toInt
    · refine h_lawSlot z (by omega) (Or.inr (Exists.intro _ (And.intro rfl ?_)))
      exact h1 z c
    · refine h_lawSlotN (by omega) (Or.inl (And.intro rfl ?_))
      exact h0 (fun q => z q.1)
  · have c : ¬ x < gI s 15 0 1 := c
    have c : ¬ x.toInt < (gI s 15 0 1).toInt := fun q => c (Int32.lt_iff_toInt_lt.mpr q)
    exact h0 (fun q => c q.2)
theorem h_findRain {x : Int32} (hJ : y_J x_X s) (h1 : 0 ≤ x.toInt → x.toInt < (gI s 15 0 2).toInt → Q (some (lR 13 (some x.toNatClampNeg))) s) (h0 : ¬ (0 ≤ x.toInt ∧ x.toInt < (gI s 15 0 2).toInt) → Q (some (lR 13 none)) s) : qC false (d + 4) 153 [lR 0 (some 0), lI x] s Q := by
  have b15 := bd15 (j := 2) (hi := 4) hJ (by decide)
  refine qC_of rfl rfl ?_
  refine qa_t1_W (cut := []) 40 ?_
  refine h_keptOf2 (Exists.intro _ (And.intro rfl ?_))
  refine And.intro (fun c => ?_) (fun c => ?_)
  · have c := Int32.lt_iff_toInt_lt.mp c
    have c : x.toInt < (gI s 15 0 2).toInt := c
    by_cases z : 0 ≤ x.toInt
    · refine h_rainSlot z (by omega) (Or.inr (Exists.intro _ (And.intro rfl ?_)))
      exact h1 z c
    · refine h_rainSlotN (by omega) (Or.inl (And.intro rfl ?_))
      exact h0 (fun q => z q.1)
  · have c : ¬ x < gI s 15 0 2 := c
    have c : ¬ x.toInt < (gI s 15 0 2).toInt := fun q => c (Int32.lt_iff_toInt_lt.mpr q)
    exact h0 (fun q => c q.2)
end FI
/-! dig: what both sides answer. -/
def dgP (k0 k1 a b c : Int32) : Prop := ((0 ≤ a.toInt ∧ a.toInt < k0.toInt) ∧ (0 ≤ b.toInt ∧ b.toInt < k1.toInt)) ∧ (c = -1 ∨ (0 ≤ c.toInt ∧ c.toInt < k1.toInt))
def dgO (k0 k1 a b c v : Int32) : Prop := (dgP k0 k1 a b c ∧ v = 1) ∨ (¬ dgP k0 k1 a b c ∧ v = 0)
theorem dgO_det {k0 k1 a b c v w : Int32} (h1 : dgO k0 k1 a b c v) (h2 : dgO k0 k1 a b c w) : v = w := by
  rcases h1 with ⟨p, rfl⟩ | ⟨p, rfl⟩
  · rcases h2 with ⟨q, rfl⟩ | ⟨q, rfl⟩
    · rfl
    · exact absurd p q
  · rcases h2 with ⟨q, rfl⟩ | ⟨q, rfl⟩
    · exact absurd q p
    · rfl
section DG
variable {d : Nat} {s : LMem} {Q : LPost}
theorem dg_11 {a b c : Int32} {l : Int64} (hJ : y_J x_X s) : qC false (d + 60) 162 [lR 0 (some 0), lI a, lI b, lI c, lL l] s (fun r _ => ∃ v, r = some (lI v) ∧ dgO (gI s 15 0 0) (gI s 15 0 1) a b c v) := by
  have b0 := bd15 (j := 0) (hi := 4) hJ (by decide)
  have b1 := bd15 (j := 1) (hi := 6) hJ (by decide)
  have no : ¬ dgP (gI s 15 0 0) (gI s 15 0 1) a b c → ∃ v, some (lI (0 : Int32)) = some (lI v) ∧ dgO (gI s 15 0 0) (gI s 15 0 1) a b c v := fun h => ⟨0, rfl, Or.inr ⟨h, rfl⟩⟩
  have yes : dgP (gI s 15 0 0) (gI s 15 0 1) a b c → ∃ v, some (lI (1 : Int32)) = some (lI v) ∧ dgO (gI s 15 0 0) (gI s 15 0 1) a b c v := fun h => ⟨1, rfl, Or.inl ⟨h, rfl⟩⟩
  have tell : ∀ (i f : Nat) (g : Option Nat) (K : LPost), (i : Int) ≤ 4 → (f : Int) ≤ 6 → (∀ z, g = some z → (z : Int) ≤ 6) → (∀ m, K none m) → qC false (d + 59) 14 [lR 17 (some 0), lR 4 (some i), lR 8 (some f), lR 8 g, lL l] s K := fun i f g K hi hf hg hK => by
    have fin : ∀ (r : Option LV) (m : LMem), (∃ x ∈ [((none : Option YA), ([] : List YMS))], y_ro x.1 r ∧ y_mss m x.2) → K r m := fun r m hr => by
      obtain ⟨x, hx, h1, _⟩ := hr
      rw [List.mem_singleton.mp hx] at h1
      cases r with
      | none => exact hK m
      | some v => exact h1.elim
    cases g with
    | none => exact (y_all x_X_cl h_all0 yk_X1_digTold_1 (List.mem_of_getElem? (i := 177) rfl)) (d + 59) (by show 41 ≤ d + 59; omega) [lR 17 (some 0), lR 4 (some i), lR 8 (some f), lR 8 none, lL l] s K ⟨y_rcv, ⟨rfl, Or.inr ⟨i, rfl, ⟨Int.le_refl _, Int.le_refl _⟩, (by show (0 : Int) ≤ (i : Int); omega), hi⟩⟩, ⟨rfl, Or.inr ⟨f, rfl, ⟨Int.le_refl _, Int.le_refl _⟩, (by show (0 : Int) ≤ (f : Int); omega), hf⟩⟩, ⟨rfl, Or.inl ⟨rfl, ⟨Int.le_refl _, Int.le_refl _⟩, Int.le_refl _⟩⟩, trivial, trivial⟩ hJ ⟨y_msnil, fun _ q => absurd q List.not_mem_nil⟩ fun r m hr _ _ => fin r m hr
    | some z => exact (y_all x_X_cl h_all0 yk_X1_digTold (List.mem_of_getElem? (i := 178) rfl)) (d + 59) (by show 41 ≤ d + 59; omega) [lR 17 (some 0), lR 4 (some i), lR 8 (some f), lR 8 (some z), lL l] s K ⟨y_rcv, ⟨rfl, Or.inr ⟨i, rfl, ⟨Int.le_refl _, Int.le_refl _⟩, (by show (0 : Int) ≤ (i : Int); omega), hi⟩⟩, ⟨rfl, Or.inr ⟨f, rfl, ⟨Int.le_refl _, Int.le_refl _⟩, (by show (0 : Int) ≤ (f : Int); omega), hf⟩⟩, ⟨rfl, Or.inr ⟨z, rfl, ⟨Int.le_refl _, Int.le_refl _⟩, (by show (0 : Int) ≤ (z : Int); omega), hg z rfl⟩⟩, trivial, trivial⟩ hJ ⟨y_msnil, fun _ q => absurd q List.not_mem_nil⟩ fun r m hr _ _ => fin r m hr
  refine qC_of rfl rfl ?_
  refine qa_t1_W (cut := []) 80 ?_
  refine h_findDitch hJ (fun x1 x2 => Or.inr (Exists.intro _ (And.intro rfl ?_))) (fun xn => Or.inl (And.intro rfl ?_))
  · refine h_findLaw hJ (fun y1 y2 => Or.inr (Exists.intro _ (And.intro rfl ?_))) (fun yn => Or.inl (And.intro rfl ?_))
    · refine h_findLaw hJ (fun z1 z2 => Or.inr (Exists.intro _ (And.intro rfl ?_))) (fun zn => Or.inl (And.intro rfl ?_))
      · refine tell _ _ _ _ (cl_i x1 (by omega : a.toInt ≤ (4 : Nat))).2 (cl_i y1 (by omega : b.toInt ≤ (6 : Nat))).2 (fun z ez => ?_) (fun m => And.intro rfl (And.intro (Or.inr rfl) (yes ⟨⟨⟨x1, x2⟩, ⟨y1, y2⟩⟩, Or.inr ⟨z1, z2⟩⟩)))
        rw [← Option.some.inj ez]
        exact (cl_i z1 (by omega : c.toInt ≤ (6 : Nat))).2
      · refine And.intro (fun e => ?_) (fun e => ?_)
        · exact tell _ _ _ _ (cl_i x1 (by omega : a.toInt ≤ (4 : Nat))).2 (cl_i y1 (by omega : b.toInt ≤ (6 : Nat))).2 (fun z ez => by cases ez) (fun m => And.intro rfl (And.intro (Or.inr rfl) (yes ⟨⟨⟨x1, x2⟩, ⟨y1, y2⟩⟩, Or.inl e⟩)))
        · exact And.intro (Or.inl rfl) (no (fun q => q.2.elim e zn))
    · refine h_findLaw hJ (fun z1 z2 => Or.inr (Exists.intro _ (And.intro rfl ?_))) (fun zn => Or.inl (And.intro rfl ?_))
      · exact And.intro (Or.inl rfl) (no (fun q => yn q.1.2))
      · exact And.intro (Or.inl rfl) (no (fun q => yn q.1.2))
  · refine h_findLaw hJ (fun y1 y2 => Or.inr (Exists.intro _ (And.intro rfl ?_))) (fun yn => Or.inl (And.intro rfl ?_))
    · refine h_findLaw hJ (fun z1 z2 => Or.inr (Exists.intro _ (And.intro rfl ?_))) (fun zn => Or.inl (And.intro rfl ?_))
      · exact And.intro (Or.inl rfl) (no (fun q => xn q.1.1))
      · exact And.intro (Or.inl rfl) (no (fun q => xn q.1.1))
    · refine h_findLaw hJ (fun z1 z2 => Or.inr (Exists.intro _ (And.intro rfl ?_))) (fun zn => Or.inl (And.intro rfl ?_))
      · exact And.intro (Or.inl rfl) (no (fun q => xn q.1.1))
      · exact And.intro (Or.inl rfl) (no (fun q => xn q.1.1))
theorem h_isD2 {D : Nat} {v : Int32} (hD : gI s 33 0 21 = nI D) (hD2 : D ≤ 100) (h1 : 0 ≤ v.toInt → v.toInt < (gI s 33 0 21).toInt → Q (some (lI 1)) s) (h0 : ¬ (0 ≤ v.toInt ∧ v.toInt < (gI s 33 0 21).toInt) → Q (some (lI 0)) s) : qC false (d + 2) 237 [lR 33 (some 0), lI v] s Q := by
  have e := x_sub1 hD2
  have tD : (gI s 33 0 21).toInt = D := by rw [hD, nI_toInt (by omega)]
  rw [tD] at h1 h0
  have main : qC false (d + 1) 198 [lI v, lI 0, lI (gI s 33 0 21 - 1)] s (fun r s' => ∃ a, r = some (lI a) ∧ ((a = 0 ∨ a = 1) ∧ Q (some (lI a)) s')) := by
    rw [hD]
    refine h_in (fun g1 g2 => Exists.intro 1 (And.intro rfl (And.intro (Or.inr rfl) ?_))) (fun g => Exists.intro 0 (And.intro rfl (And.intro (Or.inl rfl) (h0 (fun q => g ⟨q.1, by rw [e]; omega⟩)))))
    have g1 : 0 ≤ v.toInt := g1
    rw [e] at g2
    exact h1 g1 (by omega)
  refine qC_of rfl rfl ?_
  refine qa_t1_W (cut := []) 20 ?_
  exact main
theorem h_isL2 {D : Nat} {v : Int32} (hD : gI s 33 0 13 = nI D) (hD2 : D ≤ 100) (h1 : 0 ≤ v.toInt → v.toInt < (gI s 33 0 13).toInt → Q (some (lI 1)) s) (h0 : ¬ (0 ≤ v.toInt ∧ v.toInt < (gI s 33 0 13).toInt) → Q (some (lI 0)) s) : qC false (d + 2) 238 [lR 33 (some 0), lI v] s Q := by
  have e := x_sub1 hD2
  have tD : (gI s 33 0 13).toInt = D := by rw [hD, nI_toInt (by omega)]
  rw [tD] at h1 h0
  have main : qC false (d + 1) 198 [lI v, lI 0, lI (gI s 33 0 13 - 1)] s (fun r s' => ∃ a, r = some (lI a) ∧ ((a = 0 ∨ a = 1) ∧ Q (some (lI a)) s')) := by
    rw [hD]
    refine h_in (fun g1 g2 => Exists.intro 1 (And.intro rfl (And.intro (Or.inr rfl) ?_))) (fun g => Exists.intro 0 (And.intro rfl (And.intro (Or.inl rfl) (h0 (fun q => g ⟨q.1, by rw [e]; omega⟩)))))
    have g1 : 0 ≤ v.toInt := g1
    rw [e] at g2
    exact h1 g1 (by omega)
  refine qC_of rfl rfl ?_
  refine qa_t1_W (cut := []) 20 ?_
  exact main
theorem h_isR2 {D : Nat} {v : Int32} (hD : gI s 33 0 22 = nI D) (hD2 : D ≤ 100) (h1 : 0 ≤ v.toInt → v.toInt < (gI s 33 0 22).toInt → Q (some (lI 1)) s) (h0 : ¬ (0 ≤ v.toInt ∧ v.toInt < (gI s 33 0 22).toInt) → Q (some (lI 0)) s) : qC false (d + 2) 239 [lR 33 (some 0), lI v] s Q := by
  have e := x_sub1 hD2
  have tD : (gI s 33 0 22).toInt = D := by rw [hD, nI_toInt (by omega)]
  rw [tD] at h1 h0
  have main : qC false (d + 1) 198 [lI v, lI 0, lI (gI s 33 0 22 - 1)] s (fun r s' => ∃ a, r = some (lI a) ∧ ((a = 0 ∨ a = 1) ∧ Q (some (lI a)) s')) := by
    rw [hD]
    refine h_in (fun g1 g2 => Exists.intro 1 (And.intro rfl (And.intro (Or.inr rfl) ?_))) (fun g => Exists.intro 0 (And.intro rfl (And.intro (Or.inl rfl) (h0 (fun q => g ⟨q.1, by rw [e]; omega⟩)))))
    have g1 : 0 ≤ v.toInt := g1
    rw [e] at g2
    exact h1 g1 (by omega)
  refine qC_of rfl rfl ?_
  refine qa_t1_W (cut := []) 20 ?_
  exact main
theorem dg_12 {a b c : Int32} {l : Int64} (hJ : y_J x_X s) : qC false (d + 60) 246 [lR 33 (some 0), lI a, lI b, lI c, lL l] s (fun r _ => ∃ v, r = some (lI v) ∧ dgO (gI s 33 0 21) (gI s 33 0 13) a b c v) := by
  obtain ⟨D, hD2, hD⟩ := y_nIof2 (N := 4) (x := gI s 33 0 21) (hJ.1 33 0 21 (21, 21, 0, 4) (by decide) (by decide) (by decide)).1 (hJ.1 33 0 21 (21, 21, 0, 4) (by decide) (by decide) (by decide)).2
  obtain ⟨L, hL2, hL⟩ := y_nIof2 (N := 6) (x := gI s 33 0 13) (hJ.1 33 0 13 (13, 13, 0, 6) (by decide) (by decide) (by decide)).1 (hJ.1 33 0 13 (13, 13, 0, 6) (by decide) (by decide) (by decide)).2
  have tD : (gI s 33 0 21).toInt = D := by rw [hD, nI_toInt (by omega)]
  have tL : (gI s 33 0 13).toInt = L := by rw [hL, nI_toInt (by omega)]
  have no : ¬ dgP (gI s 33 0 21) (gI s 33 0 13) a b c → ∃ v, some (lI (0 : Int32)) = some (lI v) ∧ dgO (gI s 33 0 21) (gI s 33 0 13) a b c v := fun h => ⟨0, rfl, Or.inr ⟨h, rfl⟩⟩
  have yes : dgP (gI s 33 0 21) (gI s 33 0 13) a b c → ∃ v, some (lI (1 : Int32)) = some (lI v) ∧ dgO (gI s 33 0 21) (gI s 33 0 13) a b c v := fun h => ⟨1, rfl, Or.inl ⟨h, rfl⟩⟩
  have go : ∀ i, a = nI i → i < D → ∀ K : LPost, (∀ m, K none m) → qC false (d + 59) 245 [lR 33 (some 0), lI a] s (fun r m1 => r = none ∧ qC false (d + 59) 244 [lR 33 (some 0), lI b, lI c, lL l] m1 K) := fun i ei hi K hK => by
    subst ei
    refine h_layOut (by omega) fun m1 k1 => ⟨rfl, ?_⟩
    exact h_begin fun m2 g2 f1 f2 => hK m2
  refine qC_of rfl rfl ?_
  refine qa_t1_W (cut := []) 60 ?_
  have run : dgP (gI s 33 0 21) (gI s 33 0 13) a b c → ∀ K : LPost, (∀ m, K none m) → qC false (d + 59) 245 [lR 33 (some 0), lI a] s (fun r m1 => r = none ∧ qC false (d + 59) 244 [lR 33 (some 0), lI b, lI c, lL l] m1 K) := fun h K hK => go a.toInt.toNat (y_nIof h.1.1.1) (by have := h.1.1; omega) K hK
  refine h_isD2 hD (by omega) (fun x1 x2 => Exists.intro 1 (And.intro rfl ?_)) (fun xn => Exists.intro 0 (And.intro rfl ?_))
  · refine And.intro (fun q => absurd q (by decide)) (fun _ => ?_)
    refine h_isL2 hL (by omega) (fun y1 y2 => Exists.intro 1 (And.intro rfl ?_)) (fun yn => Exists.intro 0 (And.intro rfl ?_))
    · refine And.intro (fun q => absurd q (by decide)) (fun _ => ?_)
      refine And.intro (fun e => ?_) (fun e => ?_)
      · have P : dgP (gI s 33 0 21) (gI s 33 0 13) a b c := ⟨⟨⟨x1, x2⟩, ⟨y1, y2⟩⟩, Or.inl e⟩
        exact run P _ (fun m => And.intro rfl (And.intro (Or.inr rfl) (And.intro (Or.inr rfl) (yes P))))
      · refine h_isL2 hL (by omega) (fun z1 z2 => Exists.intro 1 (And.intro rfl ?_)) (fun zn => Exists.intro 0 (And.intro rfl ?_))
        · have P : dgP (gI s 33 0 21) (gI s 33 0 13) a b c := ⟨⟨⟨x1, x2⟩, ⟨y1, y2⟩⟩, Or.inr ⟨z1, z2⟩⟩
          exact And.intro (fun q => absurd q (by decide)) (fun _ => run P _ (fun m => And.intro rfl (And.intro (Or.inr rfl) (And.intro (Or.inr rfl) (yes P)))))
        · exact And.intro (fun _ => And.intro (Or.inl rfl) (no (fun q => q.2.elim e zn))) (fun q => absurd rfl q)
    · exact And.intro (fun _ => And.intro (Or.inl rfl) (no (fun q => yn q.1.2))) (fun q => absurd rfl q)
  · exact And.intro (fun _ => And.intro (Or.inl rfl) (no (fun q => xn q.1.1))) (fun q => absurd rfl q)
theorem pr_dig {a b c : Int32} {l : Int64} (hJ : zJ s) (h : ∀ v s1, y_J x_X s1 → (∀ i j, gI s1 65 i j = gI s 65 i j) → (∀ a' b' c' l', a' = a → b' = b → c' = c → qC false 1200 246 [lR 33 (some 0), lI a', lI b', lI c', lL l'] s1 (pr2 s1 v)) → Q (some (lI v)) s1) : qC false 1200 162 [lR 0 (some 0), lI a, lI b, lI c, lL l] s Q := by
  have q1 := dg_11 (d := 1140) (s := s) (a := a) (b := b) (c := c) (l := l) hJ.1
  have q2 := fr_con (d := 1200) (s := s) (As := [lR 0 (some 0), lI a, lI b, lI c, lL l]) (y_all x_X_cl h_all0 yk_X11_dig (List.mem_of_getElem? (i := 122) rfl)) (by decide) rfl ⟨y_rcv, z_in_top _, z_in_top _, z_in_top _, trivial, trivial⟩ hJ.1
  refine qC_mono (qC_and q1 q2) fun r s1 q => ?_
  obtain ⟨⟨v, rfl, O⟩, J1, F1⟩ := q
  have R1 : RT s1 := rt_fr (by decide +kernel) F1 hJ.2
  refine h v s1 J1 (rt_k (by decide +kernel) F1).2.2.2.1 fun a' b' c' l' ea eb ec => ?_
  subst ea eb ec
  have k1 := dg_12 (d := 1140) (s := s1) (a := a') (b := b') (c := c') (l := l') J1
  have k2 : qC false 1200 246 [lR 33 (some 0), lI a', lI b', lI c', lL l'] s1 (fun r s2 => zJ s2 ∧ ∀ i j, gI s2 65 i j = gI s1 65 i j) := sf_X12_dig a' b' c' l' ⟨J1, R1⟩ fun v s' hz hx => ⟨hz, hx⟩
  refine qC_mono (qC_and k1 k2) fun r s2 q => ?_
  obtain ⟨⟨w, rfl, O2⟩, z2, x2⟩ := q
  obtain ⟨l1, _, _, _, _, _, e1, e2, _⟩ := R1
  rw [← e1, ← e2, (rt_k (by decide +kernel) F1).2.1, (rt_k (by decide +kernel) F1).2.1] at O2
  exact ⟨by rw [dgO_det O O2], z2, x2⟩
end DG
theorem qi_static {ph : Bool} {mi bc bs k pc : Nat} {x : List Nat} {v : Int32} {w : Int64} {loc : LLoc} {st : LStk} {s : LMem} (h : Nat.ble 1005 (qa_get x 0) = true) : qa_ins ph mi bc bs (.invokestatic k, x, v, w) pc loc st s = qa_inv2 x st bc bs (pc + 3) loc s := by
  have h := Nat.le_of_ble_eq_true h
  unfold qa_ins
  dsimp only
  split
  · rename_i e; omega
  · rename_i e; omega
  · rename_i e; omega
  · rename_i e; omega
  · rename_i e; omega
  · rfl
