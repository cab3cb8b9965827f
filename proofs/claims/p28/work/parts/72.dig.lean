/-! dig. -/
theorem h_in {d : Nat} {v lo hi : Int32} {s : LMem} {Q : LPost} (h1 : lo.toInt ≤ v.toInt → v.toInt ≤ hi.toInt → Q (some (lI 1)) s) (h0 : ¬ (lo.toInt ≤ v.toInt ∧ v.toInt ≤ hi.toInt) → Q (some (lI 0)) s) : qC false (d + 1) 198 [lI v, lI lo, lI hi] s Q := by
  refine qC_of rfl rfl ?_
  refine qa_t1_W (cut := []) 20 ?_
  refine And.intro (fun c => ?_) (fun c => ?_)
  · have c := Int32.lt_iff_toInt_lt.mp c
    exact And.intro (Or.inl rfl) (h0 (fun q => by omega))
  · have c : ¬ v.toInt < lo.toInt := fun q => c (Int32.lt_iff_toInt_lt.mpr q)
    refine And.intro (fun c2 => ?_) (fun c2 => ?_)
    · have c2 := Int32.lt_iff_toInt_lt.mp c2
      exact And.intro (Or.inl rfl) (h0 (fun q => by omega))
    · have c2 : ¬ hi.toInt < v.toInt := fun q => c2 (Int32.lt_iff_toInt_lt.mpr q)
      exact And.intro (Or.inr rfl) (h1 (by omega) (by omega))
theorem x_sub1 {D : Nat} (hD : D ≤ 100) : (nI D - 1).toInt = (D : Int) - 1 := by
  have h1 : (1 : Int32).toInt = 1 := by decide
  rw [y_subI, nI_toInt (by omega), h1]
  · rw [nI_toInt (by omega), h1]; omega
  · rw [nI_toInt (by omega), h1]; omega
theorem h_isD {d D : Nat} {v : Int32} {s : LMem} {Q : LPost} (hD : gI s 33 0 21 = nI D) (hD2 : D ≤ 100) (h1 : ∀ i, i < D → v = nI i → Q (some (lI 1)) s) (h0 : Q (some (lI 0)) s) : qC false (d + 2) 237 [lR 33 (some 0), lI v] s Q := by
  refine qC_of rfl rfl ?_
  refine qa_t1_W (cut := []) 20 ?_
  have e := x_sub1 hD2
  have main : qC false (d + 1) 198 [lI v, lI 0, lI (gI s 33 0 21 - 1)] s (fun r s' => ∃ a, r = some (lI a) ∧ ((a = 0 ∨ a = 1) ∧ Q (some (lI a)) s')) := by
    rw [hD]
    refine h_in (fun g1 g2 => Exists.intro 1 (And.intro rfl (And.intro (Or.inr rfl) ?_))) (fun _ => Exists.intro 0 (And.intro rfl (And.intro (Or.inl rfl) h0)))
    have g1 : 0 ≤ v.toInt := g1
    rw [e] at g2
    exact h1 v.toInt.toNat (by omega) (y_nIof g1)
  exact main
theorem h_isL {d D : Nat} {v : Int32} {s : LMem} {Q : LPost} (hD : gI s 33 0 13 = nI D) (hD2 : D ≤ 100) (h1 : ∀ i, i < D → v = nI i → Q (some (lI 1)) s) (h0 : Q (some (lI 0)) s) : qC false (d + 2) 238 [lR 33 (some 0), lI v] s Q := by
  refine qC_of rfl rfl ?_
  refine qa_t1_W (cut := []) 20 ?_
  have e := x_sub1 hD2
  have main : qC false (d + 1) 198 [lI v, lI 0, lI (gI s 33 0 13 - 1)] s (fun r s' => ∃ a, r = some (lI a) ∧ ((a = 0 ∨ a = 1) ∧ Q (some (lI a)) s')) := by
    rw [hD]
    refine h_in (fun g1 g2 => Exists.intro 1 (And.intro rfl (And.intro (Or.inr rfl) ?_))) (fun _ => Exists.intro 0 (And.intro rfl (And.intro (Or.inl rfl) h0)))
    have g1 : 0 ≤ v.toInt := g1
    rw [e] at g2
    exact h1 v.toInt.toNat (by omega) (y_nIof g1)
  exact main
/-- what stands behind layOut and begin -/
theorem dg_J {s m1 m2 : LMem} {dd n f : Nat} {sl : Int32} (hJ : y_J x_X s) (hdd : (dd : Int) < xI s 33 21) (hd5 : dd < 5) (hn : gI s 44 0 dd = nI n) (hn2 : n ≤ 20) (k1 : lo_K dd s m1 100) (g2 : nw_G m1 m2 (fun j => j < 279 ∧ j ≠ 272 ∧ ¬ (160 ≤ j ∧ j < 260))) (f1 : gI m2 48 0 277 = nI f) (f2 : gI m2 48 0 278 = sl) (hf : (f : Int) < xI s 33 13) (hf2 : f ≤ 5) (hs : -1 ≤ sl.toInt) (hs2 : sl.toInt < xI s 33 13) (hs3 : sl.toInt ≤ 5) : nw_G s m2 (fun j => j < 279) ∧ y_J x_X m2 := by
  obtain ⟨t1, t2, t3⟩ := hJ.2.2.2.1 dd hdd hd5
  have G2 : nw_G s m2 (fun j => j < 279) := nw_tr k1.1 g2 (fun j q => by omega) (fun j q => q.1)
  have cell : ∀ j, j = 272 ∨ (160 ≤ j ∧ j < 260) → gI m2 48 0 j = gI m1 48 0 j := fun j hj => g2.1 48 0 j (fun q => by have := q.2.2; omega)
  have L3 : gI m2 48 0 272 = nI n := by rw [cell 272 (Or.inl rfl), k1.2.1, hn]
  have L4 : gI m2 33 0 13 = gI s 33 0 13 := G2.1 33 0 13 (fun q => absurd q.1 (by decide))
  refine ⟨G2, nw_J hJ G2 ?_ ?_ ?_ ⟨fun r g1 g3 => ?_, fun _ => ?_, fun q => ?_⟩⟩
  · unfold xI
    rw [L3, nI_toInt (by omega)]
    omega
  · unfold xI
    rw [f1, nI_toInt (by omega)]
    omega
  · unfold xI
    rw [f2]
    omega
  · have hr : r < n := by
      unfold xI at g1
      rw [L3, nI_toInt (by omega)] at g1
      omega
    have t4 := t3 r (by unfold xI; rw [hn, nI_toInt (by omega)]; omega) g3
    have c : ∀ w, w = 2 ∨ w = 3 → xI m2 48 (160 + w + 5 * r) = xI s 45 (100 * dd + 5 * r + w) := fun w hw => by
      unfold xI
      rw [cell _ (Or.inr ⟨by omega, by omega⟩), show 160 + w + 5 * r = 160 + (5 * r + w) by omega, k1.2.2 (5 * r + w) (by omega), show 100 * dd + (5 * r + w) = 100 * dd + 5 * r + w by omega]
    rw [c 2 (Or.inl rfl), c 3 (Or.inr rfl)]
    exact t4
  · unfold xI at hf ⊢
    rw [L4]
    omega
  · unfold xI at hf hs2 ⊢
    rw [L4, f1, f2, nI_toInt (by omega)]
    omega
theorem dg_dug {s : LMem} (hJ : y_J x_X s) (hl : 1 ≤ xI s 33 13) : y_J x_X (sI s 33 0 35 1) := by
  have other : ∀ k j, ¬ (k = 33 ∧ j = 35) → gI (sI s 33 0 35 1) k 0 j = gI s k 0 j := fun k j hn => by
    rw [gI_sI, if_neg (fun q => hn ⟨q.1, q.2.2⟩)]
  obtain ⟨j1, j2, j3⟩ := hJ
  refine ⟨y_JB_sI j1 (by decide), j2, x_law_cl (x_sm_ne other) j3.1, x_told_cl (x_sm_ne other) j3.2.1, x_row_cl (Or.inl rfl) (x_sm_ne other) j3.2.2.1, x_row_cl (Or.inr (Or.inl rfl)) (x_sm_ne other) j3.2.2.2.1, x_row_cl (Or.inr (Or.inr rfl)) (x_sm_ne other) j3.2.2.2.2.1, fun _ => ?_⟩
  unfold xI at hl ⊢
  rw [other 33 13 (by decide)]
  exact hl
def yh_X12_dig : YCt := (246, [.inr (.inr (33, (0, 0), (0, 0))), .inl ((-2147483648), 2147483647), .inl ((-2147483648), 2147483647), .inl ((-2147483648), 2147483647), .inr (.inl ())], ([], []), [(48, 0, 0, 0, 159), (48, 0, 0, 160, 278), (33, 0, 0, 29, 30), (33, 0, 0, 35, 35)], [(some (.inl (0, 1)), [])], 40)
theorem h_X12_dig : y_con x_X yh_X12_dig := by
  intro d hd As s Q hA hJ hp hQ
  obtain ⟨v1, r1, rfl, a1, hA⟩ := y_as1 hA
  obtain ⟨v2, r2, rfl, a2, hA⟩ := y_as1 hA
  obtain ⟨v3, r3, rfl, a3, hA⟩ := y_as1 hA
  obtain ⟨v4, r4, rfl, a4, hA⟩ := y_as1 hA
  obtain ⟨v5, r5, rfl, a5, hA⟩ := y_as1 hA
  have e9 := y_as0 hA
  subst e9
  have e1 := y_this (k := 33) (i := 0) a1
  subst e1
  obtain ⟨p1, rfl, -, -⟩ := y_aI a2
  obtain ⟨p2, rfl, -, -⟩ := y_aI a3
  obtain ⟨p3, rfl, -, -⟩ := y_aI a4
  obtain ⟨p4, rfl⟩ := y_aL a5
  have hd : 40 ≤ d := hd
  obtain ⟨d, rfl⟩ : ∃ d', d = d' + 3 := ⟨d - 3, by omega⟩
  obtain ⟨D, hD2, hD⟩ := y_nIof2 (N := 4) (x := gI s 33 0 21) (hJ.1 33 0 21 (21, 21, 0, 4) (by decide) (by decide) (by decide)).1 (hJ.1 33 0 21 (21, 21, 0, 4) (by decide) (by decide) (by decide)).2
  obtain ⟨L, hL2, hL⟩ := y_nIof2 (N := 6) (x := gI s 33 0 13) (hJ.1 33 0 13 (13, 13, 0, 6) (by decide) (by decide) (by decide)).1 (hJ.1 33 0 13 (13, 13, 0, 6) (by decide) (by decide) (by decide)).2
  have no : Q (some (lI 0)) s := hQ _ s (y_post1 ⟨by decide, by decide⟩) hJ (y_Fr_rf _ _)
  have hLx : xI s 33 13 = (L : Int) := by unfold xI; rw [hL, nI_toInt (by omega)]
  have go : ∀ i f, i < D → p1 = nI i → f < L → p2 = nI f → (p3.toInt = -1 ∨ ∃ z, z < L ∧ p3 = nI z) → qC false (d + 2) 245 [lR 33 (some 0), lI p1] s (fun r m1 => r = none ∧ qC false (d + 2) 244 [lR 33 (some 0), lI p2, lI p3, lL p4] m1 (fun r m2 => r = none ∧ ((1 : Int32) = 0 ∨ (1 : Int32) = 1) ∧ (((1 : Int32) = 0 ∨ (1 : Int32) = 1) ∧ Q (some (lI 1)) (sI m2 33 0 35 1)))) := fun i f hi e1 hf e2 h3 => by
    subst e1
    subst e2
    obtain ⟨t1, t2, t3⟩ := hJ.2.2.2.1 i (by unfold xI; rw [hD, nI_toInt (by omega)]; omega) (by omega)
    obtain ⟨n, hn2, hn⟩ := y_nIof2 (N := 20) (x := gI s 44 0 i) (by unfold xI at t1; omega) (by unfold xI at t2; exact t2)
    refine h_layOut (by omega) fun m1 k1 => ⟨rfl, ?_⟩
    refine h_begin fun m2 g2 f1 f2 => ⟨rfl, Or.inr rfl, Or.inr rfl, ?_⟩
    have hs : -1 ≤ p3.toInt ∧ p3.toInt < (L : Int) := by
      rcases h3 with h3 | ⟨z, hz, h3⟩
      · omega
      · rw [h3, nI_toInt (by omega)]
        omega
    obtain ⟨G2, J2⟩ := dg_J hJ (by unfold xI; rw [hD, nI_toInt (by omega)]; omega) (by omega) hn hn2 k1 g2 f1 f2 (by omega) (by omega) hs.1 (by omega) (by omega)
    have F : y_Fr yh_X12_dig.2.2.2.1 s m2 := ag_W (by decide) (by decide) (x_iW1 (by decide)) (x_iW1 (by decide)) (fun j q => q) G2
    refine hQ _ _ (y_post1 ⟨by decide, by decide⟩) (dg_dug J2 ?_) (y_Fr_sI F (x_iW1 (by decide)))
    have L4 : gI m2 33 0 13 = gI s 33 0 13 := G2.1 33 0 13 (fun q => absurd q.1 (by decide))
    unfold xI at hLx ⊢
    rw [L4]
    omega
  refine qC_of rfl rfl ?_
  refine qa_t1_W (cut := []) 60 ?_
  refine h_isD hD (by omega) (fun i hi e1 => Exists.intro 1 (And.intro rfl ?_)) (Exists.intro 0 (And.intro rfl ?_))
  · refine And.intro (fun q => absurd q (by decide)) (fun _ => ?_)
    refine h_isL hL (by omega) (fun f hf e2 => Exists.intro 1 (And.intro rfl ?_)) (Exists.intro 0 (And.intro rfl ?_))
    · refine And.intro (fun q => absurd q (by decide)) (fun _ => ?_)
      refine And.intro (fun c => ?_) (fun c => ?_)
      · exact go i f hi e1 hf e2 (Or.inl (by rw [c]; decide))
      · refine h_isL hL (by omega) (fun z hz e3 => Exists.intro 1 (And.intro rfl ?_)) (Exists.intro 0 (And.intro rfl ?_))
        · exact And.intro (fun q => absurd q (by decide)) (fun _ => go i f hi e1 hf e2 (Or.inr ⟨z, hz, e3⟩))
        · exact And.intro (fun _ => And.intro (Or.inl rfl) no) (fun q => absurd rfl q)
    · exact And.intro (fun _ => And.intro (Or.inl rfl) no) (fun q => absurd rfl q)
  · exact And.intro (fun _ => And.intro (Or.inl rfl) no) (fun q => absurd rfl q)
