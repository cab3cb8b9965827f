/-! THE REFERENCE'S READER OF LAWS: what it may write, put. -/
theorem x_run_sl {s s' : LMem} {n : Nat} (h : ∀ a, a < 260 → xI s' 35 (260 * n + a) = xI s 35 (260 * n + a) ∧ xI s' 36 (260 * n + a) = xI s 36 (260 * n + a)) : ∀ (m a k : Nat), a + m ≤ 260 → x_run s n m a k → x_run s' n m a k
  | 0, _, _, _, _ => trivial
  | m + 1, a, k, ha, hx => by
    obtain ⟨e1, e2⟩ := h a (by omega)
    unfold x_run at hx ⊢
    rw [e1, e2]
    rcases hx with ⟨h1, h2, h3⟩ | ⟨h1, h2, h3, h4⟩ | ⟨h1, h2, h3, h4⟩
    · exact Or.inl ⟨h1, h2, x_run_sl h m _ _ (by omega) h3⟩
    · exact Or.inr (Or.inl ⟨h1, h2, h3, x_run_sl h m _ _ (by omega) h4⟩)
    · exact Or.inr (Or.inr ⟨h1, h2, h3, x_run_sl h m _ _ (by omega) h4⟩)
theorem x_cl_sl {s s' : LMem} {n : Nat} (h : ∀ a, a < 260 → xI s' 35 (260 * n + a) = xI s 35 (260 * n + a) ∧ xI s' 36 (260 * n + a) = xI s 36 (260 * n + a)) (h2 : ∀ k c, (k = 39 ∨ k = 40 ∨ k = 41) → c < 60 → xI s' k (60 * n + c) = xI s k (60 * n + c)) {c : Nat} (hc : c < 60) (hx : x_cl s n c) : x_cl s' n c := by
  obtain ⟨a, b, e, g1, g2, g3, g4, g5, g6, g7, g8⟩ := hx
  refine ⟨a, b, e, ?_, ?_, ?_, g4, g5, g6, x_run_sl h _ _ _ (by omega) g7, x_run_sl h _ _ _ (by omega) g8⟩
  · rw [h2 39 c (Or.inl rfl) hc]
    exact g1
  · rw [h2 40 c (Or.inr (Or.inl rfl)) hc]
    exact g2
  · rw [h2 41 c (Or.inr (Or.inr rfl)) hc]
    exact g3
/-- a cell of a law that is not registered -/
theorem lr_J {s : LMem} {k j n : Nat} {v : Int32} (hJ : y_J x_X s) (hn : xI s 33 13 ≤ (n : Int)) (hk : ((k = 35 ∨ k = 36) ∧ 260 * n ≤ j) ∨ k = 37 ∨ (k = 38 ∧ j = n) ∨ ((k = 39 ∨ k = 40 ∨ k = 41) ∧ 60 * n ≤ j)) : y_J x_X (sI s k 0 j v) := by
  obtain ⟨j1, j2, j3⟩ := hJ
  have other : ∀ k' j', ¬ (35 ≤ k' ∧ k' ≤ 41) → gI (sI s k 0 j v) k' 0 j' = gI s k' 0 j' := fun k' j' g => by
    rw [gI_sI, if_neg (fun q => by omega)]
  have law : x_law (sI s k 0 j v) := by
    intro n' h1 h2
    have e13 : xI (sI s k 0 j v) 33 13 = xI s 33 13 := by unfold xI; rw [other 33 13 (by decide)]
    rw [e13] at h1
    obtain ⟨g1, g2, g3⟩ := j3.1 n' h1 h2
    have hlt : n' < n := by omega
    have e38 : xI (sI s k 0 j v) 38 n' = xI s 38 n' := by
      unfold xI
      rw [gI_sI, if_neg (fun q => by omega)]
    rw [e38]
    refine ⟨g1, g2, fun c h3 h4 => x_cl_sl (fun a ha => ⟨?_, ?_⟩) (fun k' c' hk' hc' => ?_) h4 (g3 c h3 h4)⟩
    · unfold xI
      rw [gI_sI, if_neg (fun q => by omega)]
    · unfold xI
      rw [gI_sI, if_neg (fun q => by omega)]
    · unfold xI
      rw [gI_sI, if_neg (fun q => by omega)]
  have nil : y_B k = [] := by
    rcases hk with ⟨rfl | rfl, _⟩ | rfl | ⟨rfl, _⟩ | ⟨rfl | rfl | rfl, _⟩ <;> rfl
  refine ⟨y_JB_sI j1 (fun r hr _ _ => by rw [nil] at hr; exact absurd hr List.not_mem_nil), j2, law, x_told_cl (x_sm_same fun k' j' hk' => other k' j' ?_) j3.2.1, x_row_cl (Or.inl rfl) (x_sm_same fun k' j' hk' => other k' j' ?_) j3.2.2.1, x_row_cl (Or.inr (Or.inl rfl)) (x_sm_same fun k' j' hk' => other k' j' ?_) j3.2.2.2.1, x_row_cl (Or.inr (Or.inr rfl)) (x_sm_same fun k' j' hk' => other k' j' ?_) j3.2.2.2.2.1, fun q => ?_⟩
  iterate 4
    · intro g
      simp only [List.mem_cons, List.not_mem_nil, or_false] at hk'
      omega
  · have e1 : xI (sI s k 0 j v) 33 35 = xI s 33 35 := by unfold xI; rw [other 33 35 (by decide)]
    have e2 : xI (sI s k 0 j v) 33 13 = xI s 33 13 := by unfold xI; rw [other 33 13 (by decide)]
    rw [e1] at q
    rw [e2]
    exact j3.2.2.2.2.2 q
abbrev lr_W : List YW := [(33, 0, 0, 3, 5), (33, 0, 0, 14, 14), (35, 0, 0, 0, 1819), (36, 0, 0, 0, 1819), (37, 0, 0, 0, 6), (38, 0, 0, 0, 6), (39, 0, 0, 0, 419), (40, 0, 0, 0, 419), (41, 0, 0, 0, 419)]
/-- what stands while a law is read into slot n: codes[n] = c -/
def lr_S (n : Nat) (s m : LMem) (c : Nat) : Prop := y_J x_X m ∧ y_Fr lr_W s m ∧ gI m 33 0 14 = nI n ∧ gI m 37 0 n = nI c
theorem lr_rd {n c : Nat} {s m m' : LMem} (h : lr_S n s m c) (h2 : rd_S m m') : lr_S n s m' c := ⟨rd_J h.1 h2, y_Fr_tr2 h.2.1 (rd_W (by decide) h2), by rw [h2.1 33 0 14 (fun q => by omega), h.2.2.1], by rw [h2.1 37 0 n (fun q => absurd q.1 (by decide)), h.2.2.2]⟩
/-- put -/
def lr_P (n c : Nat) (x y : Int32) (m m' : LMem) : Prop := (∀ k i j, ¬ (i = 0 ∧ ((k = 35 ∧ j = 260 * n + c) ∨ (k = 36 ∧ j = 260 * n + c) ∨ (k = 37 ∧ j = n))) → gI m' k i j = gI m k i j) ∧ gI m' 35 0 (260 * n + c) = x ∧ gI m' 36 0 (260 * n + c) = y
theorem h_put {d n c : Nat} {x y : Int32} {s m : LMem} {Q : LPost} (hn : n ≤ 6) (hn2 : xI s 33 13 ≤ (n : Int)) (hc : c < 260) (hS : lr_S n s m c) (h : ∀ m', lr_S n s m' (c + 1) → lr_P n c x y m m' → Q none m') : qC false (d + 1) 208 [lR 33 (some 0), lI x, lI y] m Q := by
  obtain ⟨J, F, h14, h37⟩ := hS
  have e13 : xI m 33 13 = xI s 33 13 := by
    unfold xI
    rw [(F 33 0 13 (x_nW 13 13 (by decide) (by decide) (by decide))).1]
  have en : (nI n).toNatClampNeg = n := nI_clamp (by omega)
  have i1 : (260 : Int32) * nI n + nI c = nI (260 * n + c) := by rw [show (260 : Int32) = nI 260 from rfl, nI_mul, nI_add]
  have ic : (nI (260 * n + c)).toNatClampNeg = 260 * n + c := nI_clamp (by omega)
  have v7 : qa_vin (gI m 33 0 14) 7 := by rw [h14]; exact nI_in (by omega) (by decide)
  have v1 : qa_vin ((260 : Int32) * gI m 33 0 14 + gI m 37 0 (gI m 33 0 14).toNatClampNeg) 1820 := by
    rw [h14, en, h37, i1]
    exact nI_in (by omega) (by decide)
  have fin : Q none (sI (sI (sI m 35 0 (260 * n + c) x) 36 0 (260 * n + c) y) 37 0 n (nI (c + 1))) := by
    refine h _ ⟨?_, ?_, ?_, ?_⟩ ⟨fun k i j hne => ?_, ?_, ?_⟩
    · refine lr_J (n := n) (lr_J (n := n) (lr_J (n := n) J (by rw [e13]; exact hn2) (Or.inl ⟨Or.inl rfl, by omega⟩)) ?_ (Or.inl ⟨Or.inr rfl, by omega⟩)) ?_ (Or.inr (Or.inl rfl))
      · unfold xI
        rw [gI_sI, if_neg (fun q => absurd q.1 (by decide))]
        unfold xI at e13 hn2
        rw [e13]
        exact hn2
      · unfold xI
        rw [gI_sI, if_neg (fun q => absurd q.1 (by decide)), gI_sI, if_neg (fun q => absurd q.1 (by decide))]
        unfold xI at e13 hn2
        rw [e13]
        exact hn2
    · refine y_Fr_sI (y_Fr_sI (y_Fr_sI F ⟨(35, 0, 0, 0, 1819), by decide, rfl, ⟨Int.le_refl _, Int.le_refl _⟩, ?_, ?_⟩) ⟨(36, 0, 0, 0, 1819), by decide, rfl, ⟨Int.le_refl _, Int.le_refl _⟩, ?_, ?_⟩) ⟨(37, 0, 0, 0, 6), by decide, rfl, ⟨Int.le_refl _, Int.le_refl _⟩, ?_, ?_⟩
      · show (0 : Int) ≤ ((260 * n + c : Nat) : Int); omega
      · show ((260 * n + c : Nat) : Int) ≤ 1819; omega
      · show (0 : Int) ≤ ((260 * n + c : Nat) : Int); omega
      · show ((260 * n + c : Nat) : Int) ≤ 1819; omega
      · show (0 : Int) ≤ (n : Int); omega
      · show (n : Int) ≤ 6; omega
    · rw [gI_sI, if_neg (fun q => absurd q.1 (by decide)), gI_sI, if_neg (fun q => absurd q.1 (by decide)), gI_sI, if_neg (fun q => absurd q.1 (by decide)), h14]
    · rw [gI_sI, if_pos ⟨rfl, rfl, rfl⟩]
    · rw [gI_sI, if_neg (fun q => hne ⟨q.2.1, Or.inr (Or.inr ⟨q.1, q.2.2⟩)⟩), gI_sI, if_neg (fun q => hne ⟨q.2.1, Or.inr (Or.inl ⟨q.1, q.2.2⟩)⟩), gI_sI, if_neg (fun q => hne ⟨q.2.1, Or.inl ⟨q.1, q.2.2⟩⟩)]
    · rw [gI_sI, if_neg (fun q => absurd q.1 (by decide)), gI_sI, if_neg (fun q => absurd q.1 (by decide)), gI_sI, if_pos ⟨rfl, rfl, rfl⟩]
    · rw [gI_sI, if_neg (fun q => absurd q.1 (by decide)), gI_sI, if_pos ⟨rfl, rfl, rfl⟩]
  have a1 : sI m 35 0 ((260 : Int32) * gI m 33 0 14 + gI m 37 0 (gI m 33 0 14).toNatClampNeg).toNatClampNeg x = sI m 35 0 (260 * n + c) x := by rw [h14, en, h37, i1, ic]
  have b14 : gI (sI m 35 0 (260 * n + c) x) 33 0 14 = nI n := by rw [gI_sI, if_neg (fun q => absurd q.1 (by decide)), h14]
  have b37 : gI (sI m 35 0 (260 * n + c) x) 37 0 n = nI c := by rw [gI_sI, if_neg (fun q => absurd q.1 (by decide)), h37]
  have v7b : qa_vin (gI (sI m 35 0 (260 * n + c) x) 33 0 14) 7 := by rw [b14]; exact nI_in (by omega) (by decide)
  have v1b : qa_vin ((260 : Int32) * gI (sI m 35 0 (260 * n + c) x) 33 0 14 + gI (sI m 35 0 (260 * n + c) x) 37 0 (gI (sI m 35 0 (260 * n + c) x) 33 0 14).toNatClampNeg) 1820 := by
    rw [b14, en, b37, i1]
    exact nI_in (by omega) (by decide)
  have a2 : sI (sI m 35 0 (260 * n + c) x) 36 0 ((260 : Int32) * gI (sI m 35 0 (260 * n + c) x) 33 0 14 + gI (sI m 35 0 (260 * n + c) x) 37 0 (gI (sI m 35 0 (260 * n + c) x) 33 0 14).toNatClampNeg).toNatClampNeg y = sI (sI m 35 0 (260 * n + c) x) 36 0 (260 * n + c) y := by rw [b14, en, b37, i1, ic]
  have c14 : gI (sI (sI m 35 0 (260 * n + c) x) 36 0 (260 * n + c) y) 33 0 14 = nI n := by rw [gI_sI, if_neg (fun q => absurd q.1 (by decide)), b14]
  have c37 : gI (sI (sI m 35 0 (260 * n + c) x) 36 0 (260 * n + c) y) 37 0 n = nI c := by rw [gI_sI, if_neg (fun q => absurd q.1 (by decide)), b37]
  have v7c : qa_vin (gI (sI (sI m 35 0 (260 * n + c) x) 36 0 (260 * n + c) y) 33 0 14) 7 := by rw [c14]; exact nI_in (by omega) (by decide)
  have fin2 : Q none (sI (sI (sI m 35 0 (260 * n + c) x) 36 0 (260 * n + c) y) 37 0 (gI (sI (sI m 35 0 (260 * n + c) x) 36 0 (260 * n + c) y) 33 0 14).toNatClampNeg (gI (sI (sI m 35 0 (260 * n + c) x) 36 0 (260 * n + c) y) 37 0 (gI (sI (sI m 35 0 (260 * n + c) x) 36 0 (260 * n + c) y) 33 0 14).toNatClampNeg + 1)) := by
    rw [c14, en, c37, nI_1]
    exact fin
  refine qC_of rfl rfl ?_
  rw [← a2, ← a1] at v7c fin2
  rw [← a1] at v7b v1b
  refine qa_t1_W (cut := []) 60 ?_
  exact And.intro v7 (And.intro v1 (And.intro v7b (And.intro v1b (And.intro v7c (And.intro v7c fin2)))))
