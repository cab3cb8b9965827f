/-! WHAT TEXT AND FAULT DO TO LAWS. -/
/-- all laws of the class but D are kept -/
def kT (D : Nat) (s m : LMem) : Prop := ∀ k i j, (k = 8 ∨ k = 9 ∨ k = 10) → i ≠ D → gI m k i j = gI s k i j
/-- law n of the reference is kept -/
def kM (n : Nat) (s m : LMem) : Prop := ∀ k j, (((k = 35 ∨ k = 36) ∧ 260 * n ≤ j ∧ j < 260 * n + 260) ∨ (k = 38 ∧ j = n) ∨ (39 ≤ k ∧ k ≤ 41 ∧ 60 * n ≤ j ∧ j < 60 * n + 60)) → gI m k 0 j = gI s k 0 j
theorem kT_rf {D : Nat} {s : LMem} : kT D s s := fun _ _ _ _ _ => rfl
theorem kM_rf {n : Nat} {s : LMem} : kM n s s := fun _ _ _ => rfl
theorem kT_k {D : Nat} {s m : LMem} (h : kC D s m) : kT D s m := fun k i j hk hi => h k i j (fun q => by omega)
theorem kT_w {D k i j : Nat} {x : Int32} {s m : LMem} (h : kT D s m) (hk : k = 1 ∨ k = 15) : kT D s (sI m k i j x) := fun k' i' j' g1 g2 => by
  rw [gI_sI, if_neg (fun q => by omega)]
  exact h k' i' j' g1 g2
theorem kM_c {n D : Nat} {s m : LMem} (h : ckn D s m) (hn : n ≠ D) : kM n s m := fun k j g => h k 0 j (fun q => by omega)
theorem kM_w {n j : Nat} {x : Int32} {s m : LMem} (h : kM n s m) : kM n s (sI m 33 0 j x) := fun k' j' g => by
  rw [gI_sI, if_neg (fun q => by omega)]
  exact h k' j' g
theorem cC_w {D k i j : Nat} {x : Int32} {m : LMem} {L : List Ck} (h : cC D m L) (hk : k = 1 ∨ k = 15) : cC D (sI m k i j x) L := ⟨by rw [gI_sI, if_neg (fun q => by omega)]; exact h.1, fun j' z e => by
  rw [gI_sI, if_neg (fun q => by omega), gI_sI, if_neg (fun q => by omega)]
  exact h.2 j' z e⟩
theorem cC_T {n D : Nat} {s m : LMem} {L : List Ck} (K : kT D s m) (hn : n ≠ D) (h : cC n s L) : cC n m L := ⟨by rw [K 8 n 2 (by decide) hn]; exact h.1, fun j z e => by
  rw [K 9 n j (by decide) hn, K 10 n j (by decide) hn]
  exact h.2 j z e⟩
theorem lcn_M {n : Nat} {s m : LMem} {cs : List Cz} (K : kM n s m) (h1 : (flC cs).length ≤ 200) (h2 : cs.length ≤ 60) (h : lcn n s cs) : lcn n m cs := by
  refine ⟨fun j x e => ?_, ?_, fun j t u e => ?_⟩
  · have hj := (List.getElem?_eq_some_iff.mp e).1
    rw [K 35 _ (by omega), K 36 _ (by omega)]
    exact h.1 j x e
  · rw [K 38 _ (by omega)]
    exact h.2.1
  · have hj := (List.getElem?_eq_some_iff.mp e).1
    rw [K 39 _ (by omega), K 40 _ (by omega), K 41 _ (by omega)]
    exact h.2.2 j t u e
/-- the laws that are kept: the same on both sides -/
def RLw (s : LMem) : Prop := ∀ n, n < (gI s 33 0 13).toNatClampNeg → ∃ cs, lcn n s cs ∧ (flC cs).length ≤ 200 ∧ cs.length ≤ 60 ∧ cC n s (clsC cs) ∧ lwR cs
theorem RLw_k {s m : LMem} (e13 : gI m 33 0 13 = gI s 33 0 13) (T : kT (gI s 33 0 13).toNatClampNeg s m) (M : ∀ n, n < (gI s 33 0 13).toNatClampNeg → kM n s m) (h : RLw s) : RLw m := fun n hn => by
  rw [e13] at hn
  obtain ⟨cs, h1, h2, h3, h4, h5⟩ := h n hn
  exact ⟨cs, lcn_M (M n hn) h2 h3 h1, h2, h3, cC_T T (by omega) h4, h5⟩
section TL
variable {d l : Nat} {s : LMem} {Q : LPost}
def isL (l : Nat) (s m : LMem) (v : Int32) : Prop := y_J x_X m ∧ (v = 0 ∨ v = 1) ∧ kC (gI s 15 0 1).toNatClampNeg s m ∧ (v = 1 → ∃ cs q, cC (gI s 15 0 1).toNatClampNeg m (clsC cs) ∧ LR (bC s) l (sk (bC s) l 0) cs q ∧ tc (bC s) l q = -1)
theorem h_isRead1L (hJ : y_J x_X s) (hl : gI s 1 0 1 = nI l) (hl2 : l ≤ 200) (hB : tp_B (bC s) l) (h : ∀ m v, isL l s m v → Q (some (lI v)) m) : qC false (d + 120) 147 [lR 0 (some 0), lI 1] s Q := by
  have S := tk_rw hJ hl hl2
  have b15 := bd15 (j := 1) (hi := 6) hJ (by decide)
  have e15 : gI (sI s 1 0 2 0) 15 0 1 = gI s 15 0 1 := by rw [gI_sI, if_neg (fun q => absurd q.1 (by decide))]
  have fin : ∀ dd : Nat, dd = (gI s 15 0 1).toNatClampNeg → qC false (d + 119) 62 [lR 8 (some dd), lR 1 (some 0)] (sI s 1 0 2 0) (fun r m => ∃ v, r = some (lI v) ∧ isL l s m v) := fun dd edd => by
    have k0 : kC dd s (sI s 1 0 2 0) := kC_s (Or.inl ⟨rfl, rfl, rfl⟩) kC_0
    refine c_lawV (d := d + 45) hB hl2 ⟨S, k0⟩ (fun m q cs S' e et => ⟨1, rfl, S'.1.1, Or.inr rfl, ?_, fun _ => ⟨cs, q, ?_, e, et⟩⟩) (fun m w S' => ⟨0, rfl, S'.1.1, Or.inl rfl, ?_, fun q => absurd q (by decide)⟩)
    · rw [← edd]
      exact S'.2.1
    · rw [← edd]
      exact S'.2.2
    · rw [← edd]
      exact S'.2
  refine qC_of rfl rfl ?_
  refine qa_t1_W (cut := []) 100 ?_
  refine h_rewind (And.intro rfl ?_)
  refine And.intro (fun q => absurd q (by decide)) (fun _ => ?_)
  refine And.intro (fun _ => ?_) (fun q => absurd rfl q)
  refine h_keptOf1 (Exists.intro _ (And.intro rfl ?_))
  refine h_lawSlot (by rw [e15]; exact b15.1) (by rw [e15]; omega) (Or.inr (Exists.intro _ (And.intro rfl ?_)))
  refine qC_mono (fin _ (by rw [e15]; rfl)) fun r m hr => ?_
  obtain ⟨v, er, O⟩ := hr
  refine Exists.intro v (And.intro er ?_)
  refine And.intro (fun c => ?_) (fun c => ?_)
  · have c : v = 0 := c
    subst c
    exact And.intro (Or.inl rfl) (h m 0 O)
  · have c : ¬ v = 0 := c
    have c : v = 1 := O.2.1.resolve_left c
    subst c
    exact And.intro (Or.inr rfl) (h m 1 O)
/-- what the class keeps of a text -/
def tlC (l : Nat) (s : LMem) (r : Option LV) (m : LMem) : Prop := kT (gI s 15 0 1).toNatClampNeg s m ∧ (r ≠ some (lI (-1)) → ∃ cs q, cC (gI s 15 0 1).toNatClampNeg m (clsC cs) ∧ LR (bC s) l (sk (bC s) l 0) cs q ∧ tc (bC s) l q = -1)
theorem tl_111 (hJ : y_J x_X s) (hl : gI s 1 0 1 = nI l) (hl2 : l ≤ 200) (hB : tp_B (bC s) l) : qC false (d + 123) 146 [lR 0 (some 0), lI 1] s (tlC l s) := by
  have v3 : qa_vin 1 3 := vin_of (x := 1) (n := 3) (by decide) (by decide) (by decide)
  refine qC_of rfl rfl ?_
  refine qa_t1_W (cut := [32]) 60 ?_
  refine h_isSort1 (Exists.intro _ (And.intro rfl ?_))
  refine And.intro (fun q => absurd q (by decide)) (fun _ => ?_)
  refine And.intro v3 (And.intro v3 ?_)
  refine And.intro (fun c => ?_) (fun c => ?_)
  · refine h_isRead1L hJ hl hl2 hB fun m v O => Exists.intro v (And.intro rfl ?_)
    have C := kT_k O.2.2.1
    refine And.intro (fun cv => ?_) (fun cv => ?_)
    · exact And.intro C (fun q => absurd rfl q)
    · have cv : ¬ v = 0 := cv
      have cv : v = 1 := O.2.1.resolve_left cv
      have V := O.2.2.2 cv
      have fin : ∀ x y, tlC l s (some (lI (gI (sI (sI m 1 0 1 x) 15 0 1 y) 15 0 1 - 1))) (sI (sI m 1 0 1 x) 15 0 1 y) := fun x y => ⟨kT_w (kT_w C (Or.inl rfl)) (Or.inr rfl), fun _ => by
        obtain ⟨cs, q, a, b, c⟩ := V
        exact ⟨cs, q, cC_w (cC_w a (Or.inl rfl)) (Or.inr rfl), b, c⟩⟩
      refine qa_t1_W (cut := []) 60 ?_
      refine h_cut0 O.1 (Exists.intro _ (And.intro rfl ?_))
      exact And.intro v3 (And.intro v3 (And.intro v3 (fin _ _)))
  · exact And.intro kT_rf (fun q => absurd rfl q)
theorem fl_111 (hJ : y_J x_X s) (hl : gI s 1 0 1 = nI l) (hl2 : l ≤ 200) (hB : tp_B (bC s) l) : qC false (d + 123) 145 [lR 0 (some 0), lI 1] s (fun _ m => kT (gI s 15 0 1).toNatClampNeg s m) := by
  refine qC_of rfl rfl ?_
  refine qa_t1_W (cut := []) 60 ?_
  refine h_isSort1 (Exists.intro _ (And.intro rfl ?_))
  refine And.intro (fun q => absurd q (by decide)) (fun _ => ?_)
  refine h_isRead1L hJ hl hl2 hB fun m v O => Exists.intro v (And.intro rfl ?_)
  have C := kT_k O.2.2.1
  refine And.intro (fun c => ?_) (fun c => ?_)
  · refine qC_of rfl rfl ?_
    refine qa_t1_W (cut := []) 20 ?_
    exact Exists.intro _ (And.intro rfl C)
  · exact C
/-- what the reference keeps of a text -/
def tlU (l D : Nat) (s : LMem) (r : Option LV) (m : LMem) : Prop := (∀ n, n < D → kM n s m) ∧ (r ≠ some (lI (-1)) → ∃ cs q, LR (bS s) l (sk (bS s) l 0) cs q ∧ tc (bS s) l q = -1 ∧ lcn D m cs ∧ (flC cs).length ≤ 200 ∧ cs.length ≤ 60)
theorem lcn_w {n j : Nat} {x : Int32} {m : LMem} {cs : List Cz} (h : lcn n m cs) : lcn n (sI m 33 0 j x) cs := by
  have g : ∀ k' j', k' ≠ 33 → gI (sI m 33 0 j x) k' 0 j' = gI m k' 0 j' := fun k' j' g1 => by rw [gI_sI, if_neg (fun q => g1 q.1)]
  refine ⟨fun j x e => ?_, ?_, fun j t u e => ?_⟩
  · rw [g 35 _ (by decide), g 36 _ (by decide)]
    exact h.1 j x e
  · rw [g 38 _ (by decide)]
    exact h.2.1
  · rw [g 39 _ (by decide), g 40 _ (by decide), g 41 _ (by decide)]
    exact h.2.2 j t u e
theorem tl_121 (hJ : y_J x_X s) (hl : gI s 33 0 2 = nI l) (hl2 : l ≤ 200) : qC false (d + 123) 236 [lR 33 (some 0), lI 1] s (tlU l (gI s 33 0 13).toNatClampNeg s) := by
  obtain ⟨D, hD2, hD⟩ := y_nIof2 (N := 6) (x := gI s 33 0 13) (hJ.1 33 0 13 (13, 13, 0, 6) (by decide) (by decide) (by decide)).1 (hJ.1 33 0 13 (13, 13, 0, 6) (by decide) (by decide) (by decide)).2
  have eD : (gI s 33 0 13).toNatClampNeg = D := by rw [hD, nI_clamp (by omega)]
  rw [eD]
  have outW : ∀ m, (∀ n, n < D → kM n s m) → qW false (d + 122) 236 0 0 94 [some (lR 33 (some 0)), some (lI 1)] [] m (tlU l D s) := fun m h => by
    refine qa_t1_W (cut := []) 80 ?_
    refine And.intro (fun q => absurd q (by decide)) (fun _ => ?_)
    exact And.intro h (fun q => absurd rfl q)
  refine qC_of rfl rfl ?_
  refine qa_t1_W (cut := [94]) 80 ?_
  refine And.intro (fun q => absurd q (by decide)) (fun _ => ?_)
  refine And.intro (fun _ => ?_) (fun q => absurd rfl q)
  refine And.intro (fun c => ?_) (fun c => outW s (fun _ _ => kM_rf))
  have g : qC false (d + 122) 225 [lR 33 (some 0), lI (gI s 33 0 13)] s (fun r m => ∃ v, r = some (lI v) ∧ rvV D l (sk (bS s) l 0) s s m v) := by
    rw [hD]
    exact h_readLawV (d := d + 81) (n := D) (by omega) (by unfold xI; rw [hD, nI_toInt (by omega)]; omega) hJ hl hl2
  refine qC_mono g fun r m q => ?_
  obtain ⟨v, e, _, C, V⟩ := q
  have C : ∀ n, n < D → kM n s m := fun n hn => kM_c C (by omega)
  refine Exists.intro v (And.intro e ?_)
  refine And.intro (fun ev => ?_) (fun ev => outW m C)
  have V := V ev
  have fin : ∀ x y, tlU l D s (some (lI (gI (sI (sI m 33 0 2 x) 33 0 13 y) 33 0 13 - 1))) (sI (sI m 33 0 2 x) 33 0 13 y) := fun x y => ⟨fun n hn => kM_w (kM_w (C n hn)), fun _ => by
    obtain ⟨cs, q, a, b, c, e1, e2⟩ := V
    exact ⟨cs, q, a, b, lcn_w (lcn_w c), e1, e2⟩⟩
  exact fin _ _
theorem fl_121 (hJ : y_J x_X s) (hl : gI s 33 0 2 = nI l) (hl2 : l ≤ 200) : qC false (d + 123) 235 [lR 33 (some 0), lI 1] s (fun _ m => ∀ n, n < 6 → kM n s m) := by
  have h13 := (hJ.1 33 0 13 (13, 13, 0, 6) (by decide) (by decide) (by decide)).2
  refine qC_of rfl rfl ?_
  refine qa_t1_W (cut := []) 40 ?_
  refine And.intro (fun q => absurd q (by decide)) (fun _ => ?_)
  refine And.intro (fun _ => ?_) (fun q => absurd rfl q)
  refine qC_mono (h_readLawV (d := d + 81) (n := 6) (by decide) h13 hJ hl hl2) fun r m q => ?_
  obtain ⟨v, e, _, C, V⟩ := q
  exact Exists.intro v (And.intro e (fun n hn => kM_c C (by omega)))
end TL
