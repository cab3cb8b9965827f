/-! falls. -/
theorem x_nW {W : List YW} {k i j : Nat} (a b : Int) (h : (W.all fun w => !(Nat.beq w.1 k) || (decide (b < w.2.2.2.1) || decide (w.2.2.2.2 < a))) = true) (h1 : a ≤ (j : Int)) (h2 : (j : Int) ≤ b) : ¬ y_iW W k i j := by
  rintro ⟨w, hw, g1, g2, g3⟩
  have h := List.all_eq_true.mp h w hw
  rcases (Bool.or_eq_true _ _).mp h with h | h
  · rw [g1, show Nat.beq k k = true from Nat.beq_refl k] at h
    cases h
  · rcases (Bool.or_eq_true _ _).mp h with h | h <;> (have h := of_decide_eq_true h; omega)
theorem y_Fr_tr2 {W : List YW} {s0 s s' : LMem} (h1 : y_Fr W s0 s) (h2 : y_Fr W s s') : y_Fr W s0 s' := fun k i j hn => by
  obtain ⟨b1, b2, b3⟩ := h1 k i j hn
  obtain ⟨c1, c2, c3⟩ := h2 k i j hn
  exact ⟨c1.trans b1, c2.trans b2, c3.trans b3⟩
theorem h_sum20 : y_con x_X yk_X12_sumOf_3 := y_all x_X_cl h_all0 yk_X12_sumOf_3 (List.mem_of_getElem? (i := 230) rfl)
theorem h_sum260 : y_con x_X yk_X12_sumOf_1 := y_all x_X_cl h_all0 yk_X12_sumOf_1 (List.mem_of_getElem? (i := 228) rfl)
theorem h_isR {d D : Nat} {v : Int32} {s : LMem} {Q : LPost} (hD : gI s 33 0 22 = nI D) (hD2 : D ≤ 100) (h1 : ∀ i, i < D → v = nI i → Q (some (lI 1)) s) (h0 : Q (some (lI 0)) s) : qC false (d + 2) 239 [lR 33 (some 0), lI v] s Q := by
  refine qC_of rfl rfl ?_
  refine qa_t1_W (cut := []) 20 ?_
  have e := x_sub1 hD2
  have main : qC false (d + 1) 198 [lI v, lI 0, lI (gI s 33 0 22 - 1)] s (fun r s' => ∃ a, r = some (lI a) ∧ ((a = 0 ∨ a = 1) ∧ Q (some (lI a)) s')) := by
    rw [hD]
    refine h_in (fun g1 g2 => Exists.intro 1 (And.intro rfl (And.intro (Or.inr rfl) ?_))) (fun _ => Exists.intro 0 (And.intro rfl (And.intro (Or.inl rfl) h0)))
    have g1 : 0 ≤ v.toInt := g1
    rw [e] at g2
    exact h1 v.toInt.toNat (by omega) (y_nIof g1)
  exact main
/-- takeBack's places are harmBy's -/
theorem hb_W {k i j : Nat} (e : y_iW yh_X12_takeBack.2.2.2.1 k i j) : y_iW yh_X12_harmBy.2.2.2.1 k i j := by
  obtain ⟨w, hw, g1, g2, g3⟩ := e
  have hw : w ∈ [((33 : Nat), (0 : Int), (0 : Int), (29 : Int), (30 : Int)), (48, 0, 0, 0, 278)] := hw
  rcases List.mem_cons.mp hw with rfl | hw
  · have g1 : 33 = k := g1
    have g2 : (0 : Int) ≤ (i : Int) ∧ (i : Int) ≤ 0 := g2
    have g3 : (29 : Int) ≤ (j : Int) ∧ (j : Int) ≤ 30 := g3
    subst g1
    have hi : i = 0 := by omega
    subst hi
    rcases (show j = 29 ∨ j = 30 by omega) with rfl | rfl <;> exact x_iW1 (by decide)
  · have hw := List.mem_singleton.mp hw
    subst hw
    have g1 : 48 = k := g1
    have g2 : (0 : Int) ≤ (i : Int) ∧ (i : Int) ≤ 0 := g2
    have g3 : (0 : Int) ≤ (j : Int) ∧ (j : Int) ≤ 278 := g3
    subst g1
    have hi : i = 0 := by omega
    subst hi
    by_cases e : j < 160
    · exact ⟨(48, 0, 0, 0, 159), by decide, rfl, ⟨Int.le_refl _, Int.le_refl _⟩, by show (0 : Int) ≤ (j : Int); omega, by show (j : Int) ≤ 159; omega⟩
    · exact ⟨(48, 0, 0, 160, 278), by decide, rfl, ⟨Int.le_refl _, Int.le_refl _⟩, by show (160 : Int) ≤ (j : Int); omega, by show (j : Int) ≤ 278; omega⟩
theorem hb_tb {s m m' : LMem} (h1 : y_Fr yh_X12_harmBy.2.2.2.1 s m) (h2 : y_Fr yh_X12_takeBack.2.2.2.1 m m') : y_Fr yh_X12_harmBy.2.2.2.1 s m' := y_Fr_tr2 h1 (fun k i j hn => h2 k i j (fun e => hn (hb_W e)))
def fa_C (j : Nat) : Prop := j = 272 ∨ (160 ≤ j ∧ j < 260)
def fa_K (n : Nat) (w : Int32) (s m : LMem) (r : Nat) : Prop := nw_G s m fa_C ∧ gI m 48 0 272 = nI n ∧ ∀ r', r' < r → gI m 48 0 (162 + 5 * r') = w ∧ gI m 48 0 (163 + 5 * r') = 0
theorem fa_Ks {n r : Nat} {w a b c : Int32} {s m : LMem} (hr : r < 20) (h : fa_K n w s m r) : fa_K n w s (sI (sI (sI (sI (sI m 48 0 (160 + 5 * r) a) 48 0 (160 + 5 * r + 1) b) 48 0 (160 + 5 * r + 2) w) 48 0 (160 + 5 * r + 3) 0) 48 0 (160 + 5 * r + 4) c) (r + 1) := by
  refine ⟨nw_Gs (Or.inr ⟨by omega, by omega⟩) (nw_Gs (Or.inr ⟨by omega, by omega⟩) (nw_Gs (Or.inr ⟨by omega, by omega⟩) (nw_Gs (Or.inr ⟨by omega, by omega⟩) (nw_Gs (Or.inr ⟨by omega, by omega⟩) h.1)))), ?_, fun r' hr' => ?_⟩
  · rw [gI_sI, if_neg (fun q => absurd q.2.2 (by omega)), gI_sI, if_neg (fun q => absurd q.2.2 (by omega)), gI_sI, if_neg (fun q => absurd q.2.2 (by omega)), gI_sI, if_neg (fun q => absurd q.2.2 (by omega)), gI_sI, if_neg (fun q => absurd q.2.2 (by omega))]
    exact h.2.1
  · by_cases e : r' = r
    · subst e
      refine ⟨?_, ?_⟩
      · rw [gI_sI, if_neg (fun q => absurd q.2.2 (by omega)), gI_sI, if_neg (fun q => absurd q.2.2 (by omega)), gI_sI, if_pos ⟨rfl, rfl, by omega⟩]
      · rw [gI_sI, if_neg (fun q => absurd q.2.2 (by omega)), gI_sI, if_pos ⟨rfl, rfl, by omega⟩]
    · obtain ⟨h1, h2⟩ := h.2.2 r' (by omega)
      refine ⟨?_, ?_⟩
      · rw [gI_sI, if_neg (fun q => absurd q.2.2 (by omega)), gI_sI, if_neg (fun q => absurd q.2.2 (by omega)), gI_sI, if_neg (fun q => absurd q.2.2 (by omega)), gI_sI, if_neg (fun q => absurd q.2.2 (by omega)), gI_sI, if_neg (fun q => absurd q.2.2 (by omega))]
        exact h1
      · rw [gI_sI, if_neg (fun q => absurd q.2.2 (by omega)), gI_sI, if_neg (fun q => absurd q.2.2 (by omega)), gI_sI, if_neg (fun q => absurd q.2.2 (by omega)), gI_sI, if_neg (fun q => absurd q.2.2 (by omega)), gI_sI, if_neg (fun q => absurd q.2.2 (by omega))]
        exact h2
theorem fa_l {d bc bs n : Nat} {p2 w p4 p5 p6 : Int32} {o7 : Option LV} {p8 : Int32} {s : LMem} {Q : LPost} (hn2 : n ≤ 20) (h : ∀ m o9, fa_K n w s m n → qW false d 286 bc bs 190 [some (lR 33 (some 0)), some (lI (nI n)), some (lI p2), some (lI w), some (lI p4), some (lI p5), some (lI p6), o7, some (lI p8), o9] [] m Q) : ∀ j r m, r + j = n → fa_K n w s m r → qW false d 286 bc bs 89 [some (lR 33 (some 0)), some (lI (nI n)), some (lI p2), some (lI w), some (lI p4), some (lI p5), some (lI p6), o7, some (lI p8), some (lI (nI r))] [] m Q := by
  intro j
  induction j with
  | zero =>
    intro r m hr hm
    have hr : r = n := hr
    subst hr
    have hlt : ¬ nI r < nI r := nI_nlt (Nat.le_refl _) (by omega)
    refine qa_t1_W (cut := [190]) 10 ?_
    exact And.intro (fun q => absurd q hlt) (fun _ => h m _ hm)
  | succ j ih =>
    intro r m hr hm
    have hlt : nI r < nI n := nI_lt (by omega) (by omega)
    have v0 : qa_vin ((160 : Int32) + 5 * nI r + 0) 279 := by rw [show (0 : Int32) = nI 0 from rfl, x_i5]; exact nI_in (by omega) (by decide)
    have v1 : qa_vin ((160 : Int32) + 5 * nI r + 1) 279 := by rw [show (1 : Int32) = nI 1 from rfl, x_i5]; exact nI_in (by omega) (by decide)
    have v2 : qa_vin ((160 : Int32) + 5 * nI r + 2) 279 := by rw [show (2 : Int32) = nI 2 from rfl, x_i5]; exact nI_in (by omega) (by decide)
    have v3 : qa_vin ((160 : Int32) + 5 * nI r + 3) 279 := by rw [show (3 : Int32) = nI 3 from rfl, x_i5]; exact nI_in (by omega) (by decide)
    have v4 : qa_vin ((160 : Int32) + 5 * nI r + 4) 279 := by rw [show (4 : Int32) = nI 4 from rfl, x_i5]; exact nI_in (by omega) (by decide)
    have c0 : ((160 : Int32) + 5 * nI r + 0).toNatClampNeg = 160 + 5 * r := by rw [show (0 : Int32) = nI 0 from rfl, x_i5, nI_clamp (by omega)]; rfl
    have c1 : ((160 : Int32) + 5 * nI r + 1).toNatClampNeg = 160 + 5 * r + 1 := by rw [show (1 : Int32) = nI 1 from rfl, x_i5, nI_clamp (by omega)]
    have c2 : ((160 : Int32) + 5 * nI r + 2).toNatClampNeg = 160 + 5 * r + 2 := by rw [show (2 : Int32) = nI 2 from rfl, x_i5, nI_clamp (by omega)]
    have c3 : ((160 : Int32) + 5 * nI r + 3).toNatClampNeg = 160 + 5 * r + 3 := by rw [show (3 : Int32) = nI 3 from rfl, x_i5, nI_clamp (by omega)]
    have c4 : ((160 : Int32) + 5 * nI r + 4).toNatClampNeg = 160 + 5 * r + 4 := by rw [show (4 : Int32) = nI 4 from rfl, x_i5, nI_clamp (by omega)]
    have go : ∀ b, qW false d 286 bc bs 89 [some (lR 33 (some 0)), some (lI (nI n)), some (lI p2), some (lI w), some (lI p4), some (lI p5), some (lI p6), o7, some (lI p8), some (lI (nI r + 1))] [] (sI (sI (sI (sI (sI m 48 0 ((160 : Int32) + 5 * nI r + 0).toNatClampNeg p2) 48 0 ((160 : Int32) + 5 * nI r + 1).toNatClampNeg b) 48 0 ((160 : Int32) + 5 * nI r + 2).toNatClampNeg w) 48 0 ((160 : Int32) + 5 * nI r + 3).toNatClampNeg 0) 48 0 ((160 : Int32) + 5 * nI r + 4).toNatClampNeg 99) Q := fun b => by
      rw [c0, c1, c2, c3, c4, nI_1]
      exact ih (r + 1) _ (by omega) (fa_Ks (by omega) hm)
    refine qa_t1_W (cut := [89]) 120 ?_
    refine And.intro (fun _ => ?_) (fun q => absurd hlt q)
    exact And.intro v0 (And.intro v1 (And.intro v2 (And.intro v3 (And.intro v4 (go _)))))
theorem fa_J {n f : Nat} {w : Int32} {s m m2 : LMem} (hJ : y_J x_X s) (hn : 2 ≤ n) (hn2 : n ≤ 20) (hw : 1 ≤ w.toInt) (hw2 : w.toInt ≤ 9) (k1 : fa_K n w s m n) (g2 : nw_G m m2 (fun j => j < 279 ∧ j ≠ 272 ∧ ¬ (160 ≤ j ∧ j < 260))) (f1 : gI m2 48 0 277 = nI f) (f2 : gI m2 48 0 278 = -1) (hf : (f : Int) < xI s 33 13) (hf2 : f ≤ 5) : nw_G s m2 (fun j => j < 279) ∧ y_J x_X m2 := by
  have G2 : nw_G s m2 (fun j => j < 279) := nw_tr k1.1 g2 (fun j q => by rcases q with q | q <;> omega) (fun j q => q.1)
  have cell : ∀ j, j = 272 ∨ (160 ≤ j ∧ j < 260) → gI m2 48 0 j = gI m 48 0 j := fun j hj => g2.1 48 0 j (fun q => by have := q.2.2; omega)
  have L3 : gI m2 48 0 272 = nI n := by rw [cell 272 (Or.inl rfl), k1.2.1]
  have L4 : gI m2 33 0 13 = gI s 33 0 13 := G2.1 33 0 13 (fun q => absurd q.1 (by decide))
  have m1 : (-1 : Int32).toInt = -1 := by decide
  refine ⟨G2, nw_J hJ G2 ?_ ?_ ?_ ⟨fun r g1 g3 => ?_, fun _ => ?_, fun q => ?_⟩⟩
  · unfold xI
    rw [L3, nI_toInt (by omega)]
    omega
  · unfold xI
    rw [f1, nI_toInt (by omega)]
    omega
  · unfold xI
    rw [f2, m1]
    omega
  · have hr : r < n := by
      unfold xI at g1
      rw [L3, nI_toInt (by omega)] at g1
      omega
    obtain ⟨t1, t2⟩ := k1.2.2 r hr
    unfold xI
    rw [cell _ (Or.inr ⟨by omega, by omega⟩), cell _ (Or.inr ⟨by omega, by omega⟩), t1, t2]
    have z : (0 : Int32).toInt = 0 := by decide
    rw [z]
    omega
  · unfold xI at hf ⊢
    rw [L4]
    omega
  · unfold xI at hf ⊢
    rw [L4, f1, f2, nI_toInt (by omega), m1]
    omega
def yh_X12_falls : YCt := (286, [.inr (.inr (33, (0, 0), (0, 0))), .inl ((-2147483648), 2147483647), .inl ((-2147483648), 2147483647), .inl ((-2147483648), 2147483647), .inl ((-2147483648), 2147483647), .inl ((-2147483648), 2147483647), .inl ((-2147483648), 2147483647)], ([], []), yh_X12_harmBy.2.2.2.1, [(some (.inl ((-2147483648), 2147483647)), [])], 100)
theorem fa_o {d bc bs n f : Nat} {p2 w p5 p6 : Int32} {s : LMem} {Q : LPost} (hd : 90 ≤ d) (hn : 2 ≤ n) (hn2 : n ≤ 20) (hw : 1 ≤ w.toInt) (hw2 : w.toInt ≤ 9) (h5 : 0 ≤ p5.toInt) (h52 : p5.toInt ≤ 3) (hf : (f : Int) < xI s 33 13) (hf2 : f ≤ 5) (h : ∀ m v o8 o9, y_J x_X m → y_Fr yh_X12_harmBy.2.2.2.1 s m → qW false (d + 2) 286 bc bs 247 [some (lR 33 (some 0)), some (lI (nI n)), some (lI p2), some (lI w), some (lI (nI f)), some (lI p5), some (lI p6), some (lI v), o8, o9] [] m Q) : ∀ j k m v o9, k + j = 10 → y_J x_X m → y_Fr yh_X12_harmBy.2.2.2.1 s m → qW false (d + 2) 286 bc bs 70 [some (lR 33 (some 0)), some (lI (nI n)), some (lI p2), some (lI w), some (lI (nI f)), some (lI p5), some (lI p6), some (lI v), some (lI (nI k)), o9] [] m Q := by
  intro j
  induction j with
  | zero =>
    intro k m v o9 hk hJ hF
    have hk : k = 10 := hk
    subst hk
    refine qa_t1_W (cut := [247]) 10 ?_
    exact And.intro (fun _ => h m v _ _ hJ hF) (fun q => absurd (by decide) q)
  | succ j ih =>
    intro k m v o9 hk hJ hF
    have hlt : ¬ (9 : Int32) < nI k := nI_nlt (a := 9) (by omega) (by decide)
    have hf3 : (f : Int) < xI m 33 13 := by
      have e := (hF 33 0 13 (x_nW 13 13 (by decide) (by decide) (by decide))).1
      unfold xI at hf ⊢
      rw [e]
      exact hf
    have st := fa_l (d := d + 2) (bc := bc) (bs := bs) (p2 := p2) (w := w) (p4 := nI f) (p5 := p5) (p6 := p6) (o7 := some (lI v)) (p8 := nI k) (s := m) (Q := Q) hn2 (fun m1 o9 h1 => by
      refine qa_t1_W (cut := [70]) 80 ?_
      refine h_begin fun m2 g2 f1 f2 => And.intro rfl ?_
      obtain ⟨G2, J2⟩ := fa_J hJ hn hn2 hw hw2 h1 g2 f1 f2 hf3 hf2
      refine y_qC h_runOf (d := d + 2) (by show 41 ≤ d + 2; omega) (As := [lR 33 (some 0), lI p5]) ⟨y_rcv, ⟨h5, h52⟩, trivial⟩ J2 fun r s2 w1 w2 w3 => ?_
      have er := y_none w1
      subst er
      refine And.intro rfl ?_
      refine y_qC h_sum20 (d := d + 2) (by show 1 ≤ d + 2; omega) (As := [lR 33 (some 0), lI 20, lI 20]) ⟨y_rcv, ⟨by decide, by decide⟩, ⟨by decide, by decide⟩, trivial⟩ w2 fun r s3 z1 z2 z3 => ?_
      obtain ⟨x, rfl, -⟩ := y_int9 z1
      refine Exists.intro x (And.intro rfl ?_)
      have F1 : y_Fr yh_X12_harmBy.2.2.2.1 s m2 := y_Fr_tr2 hF (ag_W (by decide) (by decide) (x_iW1 (by decide)) (x_iW1 (by decide)) (fun j q => q) G2)
      have F2 : y_Fr yh_X12_harmBy.2.2.2.1 s s2 := y_Fr_tr (V := ek_X12_runOf.2.2.2.1) (by decide +kernel) F1 w3
      have F3 : y_Fr yh_X12_harmBy.2.2.2.1 s s3 := y_Fr_tr (V := yk_X12_sumOf_3.2.2.2.1) (by decide +kernel) F2 z3
      have go : ∀ u o, qW false (d + 2) 286 bc bs 70 [some (lR 33 (some 0)), some (lI (nI n)), some (lI p2), some (lI w), some (lI (nI f)), some (lI p5), some (lI p6), some (lI u), some (lI (nI k + 1)), o] [] s3 Q := fun u o => by
        rw [nI_1]
        exact ih (k + 1) s3 u o (by omega) z2 F3
      refine And.intro (fun _ => go _ _) (fun _ => ?_)
      refine And.intro (x_vc (by decide) (by decide)) ?_
      exact And.intro (fun _ => go _ _) (fun _ => go _ _)) n 0 (sI m 48 0 272 (nI n)) (Nat.zero_add n) ⟨nw_Gs (Or.inl rfl) nw_G0, by rw [gI_sI, if_pos ⟨rfl, rfl, rfl⟩], fun r' hr' => absurd hr' (Nat.not_lt_zero _)⟩
    refine qa_t1_W (cut := [89]) 20 ?_
    refine And.intro (fun q => absurd q hlt) (fun _ => ?_)
    exact And.intro (x_vc (by decide) (by decide)) st
theorem h_X12_falls : y_con x_X yh_X12_falls := by
  intro d hd As s Q hA hJ hp hQ
  obtain ⟨v1, r1, rfl, a1, hA⟩ := y_as1 hA
  obtain ⟨v2, r2, rfl, a2, hA⟩ := y_as1 hA
  obtain ⟨v3, r3, rfl, a3, hA⟩ := y_as1 hA
  obtain ⟨v4, r4, rfl, a4, hA⟩ := y_as1 hA
  obtain ⟨v5, r5, rfl, a5, hA⟩ := y_as1 hA
  obtain ⟨v6, r6, rfl, a6, hA⟩ := y_as1 hA
  obtain ⟨v7, r7, rfl, a7, hA⟩ := y_as1 hA
  have e9 := y_as0 hA
  subst e9
  have e1 := y_this (k := 33) (i := 0) a1
  subst e1
  obtain ⟨p1, rfl, -, -⟩ := y_aI a2
  obtain ⟨p2, rfl, -, -⟩ := y_aI a3
  obtain ⟨p3, rfl, -, -⟩ := y_aI a4
  obtain ⟨p4, rfl, -, -⟩ := y_aI a5
  obtain ⟨p5, rfl, -, -⟩ := y_aI a6
  obtain ⟨p6, rfl, -, -⟩ := y_aI a7
  have hd : 100 ≤ d := hd
  obtain ⟨d, rfl⟩ : ∃ d', d = d' + 3 := ⟨d - 3, by omega⟩
  obtain ⟨D, hD2, hD⟩ := y_nIof2 (N := 4) (x := gI s 33 0 22) (hJ.1 33 0 22 (22, 22, 0, 4) (by decide) (by decide) (by decide)).1 (hJ.1 33 0 22 (22, 22, 0, 4) (by decide) (by decide) (by decide)).2
  obtain ⟨L, hL2, hL⟩ := y_nIof2 (N := 6) (x := gI s 33 0 13) (hJ.1 33 0 13 (13, 13, 0, 6) (by decide) (by decide) (by decide)).1 (hJ.1 33 0 13 (13, 13, 0, 6) (by decide) (by decide) (by decide)).2
  have no : Q (some (lI (-1))) s := hQ _ s (y_post1 (z_in_top _)) hJ (y_Fr_rf _ _)
  have hLx : xI s 33 13 = (L : Int) := by unfold xI; rw [hL, nI_toInt (by omega)]
  have fin : ∀ n f i, 2 ≤ n → n ≤ 20 → p1 = nI n → 1 ≤ p3.toInt → p3.toInt ≤ 9 → f < L → p4 = nI f → i < D → p5 = nI i → qW false (d + 2) 286 0 0 60 [some (lR 33 (some 0)), some (lI p1), some (lI p2), some (lI p3), some (lI p4), some (lI p5), some (lI p6), none, none, none] [] s Q := fun n f i hn hn2 e1 hw hw2 hf e4 hi e5 => by
    subst e1
    subst e4
    subst e5
    refine qa_t1_W (cut := [70]) 20 ?_
    refine y_qC h_X12_putAside (d := d + 2) (by show 40 ≤ d + 2; omega) (As := [lR 33 (some 0)]) ⟨y_rcv, trivial⟩ hJ fun r s1 u1 u2 u3 => ?_
    have er := y_none u1
    subst er
    refine And.intro rfl ?_
    have F1 : y_Fr yh_X12_harmBy.2.2.2.1 s s1 := y_Fr_tr (V := yh_X12_putAside.2.2.2.1) (by decide +kernel) (y_Fr_rf _ _) u3
    have eL : (f : Int) < xI s1 33 13 := by
      have e := (F1 33 0 13 (x_nW 13 13 (by decide) (by decide) (by decide))).1
      unfold xI at hLx ⊢
      rw [e]
      omega
    refine fa_o (f := f) (by omega) hn hn2 hw hw2 (by rw [nI_toInt (by omega)]; omega) (by rw [nI_toInt (by omega)]; omega) eL (by omega) (fun m v o8 o9 hJm hFm => ?_) 10 0 s1 0 _ rfl u2 (y_Fr_rf _ _)
    refine qa_t1_W (cut := []) 20 ?_
    refine y_qC h_X12_takeBack (d := d + 2) (by show 40 ≤ d + 2; omega) (As := [lR 33 (some 0)]) ⟨y_rcv, trivial⟩ hJm fun r s3 z1 z2 z3 => ?_
    have er := y_none z1
    subst er
    refine And.intro rfl ?_
    exact hQ _ s3 (y_post1 (z_in_top _)) z2 (hb_tb (y_Fr_tr2 F1 hFm) z3)
  refine qC_of rfl rfl ?_
  refine qa_t1_W (cut := [60]) 100 ?_
  refine h_in (fun g1 g2 => Exists.intro 1 (And.intro rfl ?_)) (fun _ => Exists.intro 0 (And.intro rfl ?_))
  · refine And.intro (fun q => absurd q (by decide)) (fun _ => ?_)
    refine h_in (fun _ _ => Exists.intro 1 (And.intro rfl ?_)) (fun _ => Exists.intro 0 (And.intro rfl ?_))
    · refine And.intro (fun q => absurd q (by decide)) (fun _ => ?_)
      refine h_in (fun g3 g4 => Exists.intro 1 (And.intro rfl ?_)) (fun _ => Exists.intro 0 (And.intro rfl ?_))
      · refine And.intro (fun q => absurd q (by decide)) (fun _ => ?_)
        refine h_isL hL (by omega) (fun f hf e2 => Exists.intro 1 (And.intro rfl ?_)) (Exists.intro 0 (And.intro rfl ?_))
        · refine And.intro (fun q => absurd q (by decide)) (fun _ => ?_)
          refine h_isR hD (by omega) (fun i hi e3 => Exists.intro 1 (And.intro rfl ?_)) (Exists.intro 0 (And.intro rfl ?_))
          · refine And.intro (fun q => absurd q (by decide)) (fun _ => ?_)
            refine h_in (fun _ _ => Exists.intro 1 (And.intro rfl ?_)) (fun _ => Exists.intro 0 (And.intro rfl ?_))
            · refine And.intro (fun q => absurd q (by decide)) (fun _ => ?_)
              have g1 : (2 : Int) ≤ p1.toInt := g1
              have g2 : p1.toInt ≤ 20 := g2
              have g3 : (1 : Int) ≤ p3.toInt := g3
              have g4 : p3.toInt ≤ 9 := g4
              exact fin p1.toInt.toNat f i (by omega) (by omega) (y_nIof (by omega)) g3 g4 hf e2 hi e3
            · exact And.intro (fun _ => no) (fun q => absurd rfl q)
          · exact And.intro (fun _ => no) (fun q => absurd rfl q)
        · exact And.intro (fun _ => no) (fun q => absurd rfl q)
      · exact And.intro (fun _ => no) (fun q => absurd rfl q)
    · exact And.intro (fun _ => no) (fun q => absurd rfl q)
  · exact And.intro (fun _ => no) (fun q => absurd rfl q)
