/-! again, harmBy: beds and fields are changed. -/
def fl_C (j : Nat) : Prop := 160 ≤ j ∧ j < 260 ∧ (j % 5 = 1 ∨ j % 5 = 4)
theorem fl_row {s m : LMem} (h : nw_G s m fl_C) (hr : x_row s 48) : x_row m 48 := by
  have e : ∀ j, ¬ fl_C j → xI m 48 j = xI s 48 j := fun j hj => by unfold xI; rw [h.1 48 0 j (fun q => hj q.2.2)]
  have e2 : xI m 33 13 = xI s 33 13 := by unfold xI; rw [h.1 33 0 13 (fun q => absurd q.1 (by decide))]
  refine ⟨fun r g1 g2 => ?_, fun q => ?_, fun q => ?_⟩
  · rw [e 272 (fun q => absurd q.2.1 (by decide))] at g1
    rw [e (162 + 5 * r) (fun q => by have := q.2.2; omega), e (163 + 5 * r) (fun q => by have := q.2.2; omega)]
    exact hr.1 r g1 g2
  · rw [e 272 (fun q => absurd q.2.1 (by decide))] at q
    rw [e2]
    exact hr.2.1 q
  · rw [e2]
    rw [e 277 (fun q => absurd q.2.1 (by decide)), e 278 (fun q => absurd q.2.1 (by decide))]
    exact hr.2.2 q
theorem x_i5 (r w : Nat) : (160 : Int32) + 5 * nI r + nI w = nI (160 + 5 * r + w) := by
  rw [show (5 : Int32) = nI 5 from rfl, show (160 : Int32) = nI 160 from rfl, nI_mul, nI_add, nI_add]
theorem x_i5' (r : Nat) : (160 : Int32) + 5 * nI r = nI (160 + 5 * r) := by
  rw [show (5 : Int32) = nI 5 from rfl, show (160 : Int32) = nI 160 from rfl, nI_mul, nI_add]
theorem ag_l {d bc bs n : Nat} {p1 p2 p3 p4 p5 : Int32} {s : LMem} {Q : LPost} (hn : gI s 48 0 272 = nI n) (hn2 : n ≤ 20) (h : ∀ m o6 o7, nw_G s m fl_C → qW false d 287 bc bs 106 [some (lR 33 (some 0)), some (lI p1), some (lI p2), some (lI p3), some (lI p4), some (lI p5), o6, o7] [] m Q) : ∀ j r m o7, r + j = n → nw_G s m fl_C → qW false d 287 bc bs 8 [some (lR 33 (some 0)), some (lI p1), some (lI p2), some (lI p3), some (lI p4), some (lI p5), some (lI (nI r)), o7] [] m Q := by
  intro j
  induction j with
  | zero =>
    intro r m o7 hr hm
    have hr : r = n := hr
    subst hr
    have hlt : ¬ nI r < gI m 48 0 272 := by
      rw [hm.1 48 0 272 (fun q => absurd q.2.2.2.1 (by decide)), hn]
      exact nI_nlt (Nat.le_refl _) (by omega)
    refine qa_t1_W (cut := [106]) 10 ?_
    refine And.intro (x_vc (by decide) (by decide)) ?_
    exact And.intro (fun q => absurd q hlt) (fun _ => h m _ _ hm)
  | succ j ih =>
    intro r m o7 hr hm
    have hlt : nI r < gI m 48 0 272 := by
      rw [hm.1 48 0 272 (fun q => absurd q.2.2.2.1 (by decide)), hn]
      exact nI_lt (by omega) (by omega)
    have v1 : qa_vin ((160 : Int32) + 5 * nI r + 1) 279 := by rw [show (1 : Int32) = nI 1 from rfl, x_i5]; exact nI_in (by omega) (by decide)
    have v3 : qa_vin ((160 : Int32) + 5 * nI r + 3) 279 := by rw [show (3 : Int32) = nI 3 from rfl, x_i5]; exact nI_in (by omega) (by decide)
    have v4 : qa_vin ((160 : Int32) + 5 * nI r + 4) 279 := by rw [show (4 : Int32) = nI 4 from rfl, x_i5]; exact nI_in (by omega) (by decide)
    have go : ∀ u v, qW false d 287 bc bs 8 [some (lR 33 (some 0)), some (lI p1), some (lI p2), some (lI p3), some (lI p4), some (lI p5), some (lI (nI r + 1)), some (lI ((160 : Int32) + 5 * nI r))] [] (sI (sI m 48 0 ((160 : Int32) + 5 * nI r + 1).toNatClampNeg u) 48 0 ((160 : Int32) + 5 * nI r + 4).toNatClampNeg v) Q := fun u v => by
      have c1 : ((160 : Int32) + 5 * nI r + 1).toNatClampNeg = 160 + 5 * r + 1 := by rw [show (1 : Int32) = nI 1 from rfl, x_i5, nI_clamp (by omega)]
      have c4 : ((160 : Int32) + 5 * nI r + 4).toNatClampNeg = 160 + 5 * r + 4 := by rw [show (4 : Int32) = nI 4 from rfl, x_i5, nI_clamp (by omega)]
      rw [c1, c4, nI_1]
      exact ih (r + 1) _ _ (by omega) (nw_Gs ⟨by omega, by omega, by omega⟩ (nw_Gs ⟨by omega, by omega, by omega⟩ hm))
    refine qa_t1_W (cut := [8]) 80 ?_
    refine And.intro (x_vc (by decide) (by decide)) ?_
    refine And.intro (fun _ => ?_) (fun q => absurd hlt q)
    refine And.intro v1 (And.intro v1 (And.intro v4 (And.intro v3 ?_)))
    refine And.intro (fun _ => ?_) (fun _ => ?_)
    · exact And.intro v4 (go _ _)
    · exact And.intro v4 (go _ _)
theorem y_qC {X : LMem → Prop} {c h : Nat} {args : List YA} {W : List YW} {alts : List (Option YA × List YMS)} (H : y_con X (c, args, ([], []), W, alts, h)) {d : Nat} (hd : h ≤ d) {As : List LV} {s : LMem} {Q : LPost} (hA : y_as args As) (hJ : y_J X s) (hQ : ∀ r s', (∃ a ∈ alts, y_ro a.1 r ∧ y_mss s' a.2) → y_J X s' → y_Fr W s s' → Q r s') : qC false d c As s Q :=
  H d hd As s Q hA hJ ⟨fun _ hq => absurd hq List.not_mem_nil, fun _ hq => absurd hq List.not_mem_nil⟩ hQ
theorem y_none {s' : LMem} {r : Option LV} (h : ∃ a ∈ [((none : Option YA), ([] : List YMS))], y_ro a.1 r ∧ y_mss s' a.2) : r = none := by
  obtain ⟨a, ha, h1, _⟩ := h
  rw [List.mem_singleton.mp ha] at h1
  rcases r with _ | r
  · rfl
  · exact h1.elim
theorem y_int9 {s' : LMem} {r : Option LV} {b : ZI} (h : ∃ a ∈ [(some (.inl b : YA), ([] : List YMS))], y_ro a.1 r ∧ y_mss s' a.2) : ∃ x : Int32, r = some (lI x) ∧ b.1 ≤ x.toInt ∧ x.toInt ≤ b.2 := by
  obtain ⟨a, ha, h1, _⟩ := h
  rw [List.mem_singleton.mp ha] at h1
  rcases r with _ | r
  · exact h1.elim
  · obtain ⟨x, rfl, h2⟩ := y_aI h1
    exact ⟨x, rfl, h2⟩
theorem y_rcv {k i : Nat} : y_sv (.inr (.inr (k, (0, 0), ((i : Int), (i : Int))))) (lR k (some i)) := ⟨rfl, Or.inr ⟨i, rfl, ⟨Int.le_refl _, Int.le_refl _⟩, Int.le_refl _, Int.le_refl _⟩⟩
theorem h_runOf : y_con x_X ek_X12_runOf := e_all x_X_cl e_hand ek_X12_runOf (List.mem_of_getElem? (i := 42) rfl)
theorem ag_W {W : List YW} (hW : (48, (0 : Int), (0 : Int), (0 : Int), (159 : Int)) ∈ W) (hW2 : (48, (0 : Int), (0 : Int), (160 : Int), (278 : Int)) ∈ W) (h29 : y_iW W 33 0 29) (h30 : y_iW W 33 0 30) {s m : LMem} {C : Nat → Prop} (hC : ∀ j, C j → j < 279) (h : nw_G s m C) : y_Fr W s m := fun k i j hn => by
  refine ⟨h.1 k i j (fun q => hn ?_), h.2.1 k i j (fun q => hn ?_), h.2.2 k i j⟩
  · obtain ⟨rfl, rfl, q⟩ := q
    have q := hC j q
    by_cases e : j < 160
    · exact ⟨_, hW, rfl, ⟨Int.le_refl _, Int.le_refl _⟩, by show (0 : Int) ≤ (j : Int); omega, by show (j : Int) ≤ 159; omega⟩
    · exact ⟨_, hW2, rfl, ⟨Int.le_refl _, Int.le_refl _⟩, by show (160 : Int) ≤ (j : Int); omega, by show (j : Int) ≤ 278; omega⟩
  · obtain ⟨rfl, rfl, rfl | rfl⟩ := q
    · exact h29
    · exact h30
theorem ag_con {dd : Nat} {dl dh : Int} {W : List YW} (hdd : dd < 4) (hdl : dl = (dd : Int)) (hdh : dh = (dd : Int) + 1) (hW : (48, (0 : Int), (0 : Int), (0 : Int), (159 : Int)) ∈ W) (hW2 : (48, (0 : Int), (0 : Int), (160 : Int), (278 : Int)) ∈ W) (h29 : y_iW W 33 0 29) (h30 : y_iW W 33 0 30) (hR : y_sub2 ek_X12_runOf.2.2.2.1 W = true) : y_con x_X (287, [.inr (.inr (33, (0, 0), (0, 0))), .inl (dl, dl), .inl (0, 3), .inl (0, 270), .inl (-1, 5), .inl (0, 30)], ([(33, 0, 35, .inl (1, 1)), (33, 0, 21, .inl (dh, 4))], []), W, [(none, [])], 100) := by
  intro d hd As s Q hA hJ hp hQ
  obtain ⟨v1, r1, rfl, a1, hA⟩ := y_as1 hA
  obtain ⟨v2, r2, rfl, a2, hA⟩ := y_as1 hA
  obtain ⟨v3, r3, rfl, a3, hA⟩ := y_as1 hA
  obtain ⟨v4, r4, rfl, a4, hA⟩ := y_as1 hA
  obtain ⟨v5, r5, rfl, a5, hA⟩ := y_as1 hA
  obtain ⟨v6, r6, rfl, a6, hA⟩ := y_as1 hA
  have e9 := y_as0 hA
  subst e9
  have e1 := y_this (k := 33) (i := 0) a1
  subst e1
  obtain ⟨p1, rfl, q1, q2⟩ := y_aI a2
  obtain ⟨p2, rfl, -, -⟩ := y_aI a3
  obtain ⟨p3, rfl, -, -⟩ := y_aI a4
  obtain ⟨p4, rfl, -, -⟩ := y_aI a5
  obtain ⟨p5, rfl, -, -⟩ := y_aI a6
  have q1 : dl ≤ p1.toInt := q1
  have q2 : p1.toInt ≤ dl := q2
  have ep : p1 = nI dd := Int32.toInt_inj.mp (by rw [nI_toInt (by omega)]; omega)
  subst ep
  have hdug : (1 : Int) ≤ (gI s 33 0 35).toInt ∧ (gI s 33 0 35).toInt ≤ 1 := hp.1 _ List.mem_cons_self
  have hdit : dh ≤ (gI s 33 0 21).toInt ∧ (gI s 33 0 21).toInt ≤ 4 := hp.1 _ (List.mem_cons_of_mem _ List.mem_cons_self)
  obtain ⟨t1, t2, t3⟩ := hJ.2.2.2.1 dd (by show (dd : Int) < (gI s 33 0 21).toInt; omega) (by omega)
  have hlaws : 1 ≤ xI s 33 13 := hJ.2.2.2.2.2.2.2 (fun q => by have q : (gI s 33 0 35).toInt = 0 := q; omega)
  obtain ⟨n, hn2, hn⟩ := y_nIof2 (N := 20) (x := gI s 44 0 dd) (by show 0 ≤ (gI s 44 0 dd).toInt; unfold xI at t1; omega) (by unfold xI at t2; exact t2)
  have hd : 100 ≤ d := hd
  obtain ⟨d, rfl⟩ : ∃ d', d = d' + 2 := ⟨d - 2, by omega⟩
  refine qC_of rfl rfl ?_
  refine qa_t1_W (cut := [8]) 10 ?_
  refine h_layOut (by omega) fun m1 k1 => And.intro rfl ?_
  have hm1 : gI m1 48 0 272 = nI n := by rw [k1.2.1, hn]
  refine ag_l (n := n) hm1 hn2 (fun m o6 o7 hm => ?_) n 0 m1 none (Nat.zero_add n) nw_G0
  refine qa_t1_W (cut := []) 30 ?_
  refine And.intro (x_vc (by decide) (by decide)) (And.intro (x_vc (by decide) (by decide)) ?_)
  refine h_begin fun m2 g2 f1 f2 => And.intro rfl ?_
  have G1 : nw_G s m (fun j => j < 279) := nw_tr k1.1 hm (fun j q => by omega) (fun j q => by have := q.2.1; omega)
  have G2 : nw_G s m2 (fun j => j < 279) := nw_tr G1 g2 (fun j q => q) (fun j q => q.1)
  have cell : ∀ j, j = 272 ∨ (160 ≤ j ∧ j < 260) → gI m2 48 0 j = gI m 48 0 j := fun j hj => g2.1 48 0 j (fun q => by have := q.2.2; omega)
  have f1 : gI m2 48 0 277 = gI m 48 0 277 := f1
  have f2 : gI m2 48 0 278 = gI m 48 0 278 := f2
  have L1 : gI m2 48 0 277 = gI s 48 0 277 := by rw [f1, hm.1 48 0 277 (fun q => absurd q.2.2.2.1 (by decide)), k1.1.1 48 0 277 (fun q => by rcases q.2.2 with q | q <;> omega)]
  have L2 : gI m2 48 0 278 = gI s 48 0 278 := by rw [f2, hm.1 48 0 278 (fun q => absurd q.2.2.2.1 (by decide)), k1.1.1 48 0 278 (fun q => by rcases q.2.2 with q | q <;> omega)]
  have L3 : gI m2 48 0 272 = nI n := by rw [cell 272 (Or.inl rfl), hm.1 48 0 272 (fun q => absurd q.2.2.2.1 (by decide)), hm1]
  have L4 : gI m2 33 0 13 = gI s 33 0 13 := G2.1 33 0 13 (fun q => absurd q.1 (by decide))
  have J2 : y_J x_X m2 := by
    refine nw_J hJ G2 ?_ ?_ ?_ ⟨fun r g1 g3 => ?_, fun _ => ?_, fun q => ?_⟩
    · unfold xI
      rw [L3, nI_toInt (by omega)]
      omega
    · unfold xI
      rw [L1]
      exact hJ.1 48 0 277 (277, 277, 0, 5) (by decide) (by decide) (by decide)
    · unfold xI
      rw [L2]
      exact hJ.1 48 0 278 (278, 278, -1, 5) (by decide) (by decide) (by decide)
    · have hr : r < n := by
        unfold xI at g1
        rw [L3, nI_toInt (by omega)] at g1
        omega
      have t4 := t3 r (by unfold xI; rw [hn, nI_toInt (by omega)]; omega) g3
      have c : ∀ w, w = 2 ∨ w = 3 → xI m2 48 (160 + w + 5 * r) = xI s 45 (100 * dd + 5 * r + w) := fun w hw => by
        unfold xI
        rw [cell _ (Or.inr ⟨by omega, by omega⟩), hm.1 48 0 _ (fun q => by have := q.2.2.2.2; omega), show 160 + w + 5 * r = 160 + (5 * r + w) by omega, k1.2.2 (5 * r + w) (by omega), show 100 * dd + (5 * r + w) = 100 * dd + 5 * r + w by omega]
      rw [c 2 (Or.inl rfl), c 3 (Or.inr rfl)]
      exact t4
    · unfold xI at hlaws ⊢
      rw [L4]
      exact hlaws
    · unfold xI
      rw [L4, L1, L2]
      exact hJ.2.2.2.2.1.2.2 trivial
  refine y_qC h_runOf (d := d + 1) (by show 41 ≤ d + 1; omega) (As := [lR 33 (some 0), lI p2]) ⟨y_rcv, ?_, trivial⟩ J2 fun r s' r1 r2 r3 => ?_
  · exact a3
  · have er := y_none r1
    subst er
    exact And.intro rfl (hQ none s' (y_post1 trivial) r2 (y_Fr_tr hR (ag_W hW hW2 h29 h30 (fun j q => q) G2) r3))
theorem h_X12_again_0 : y_con x_X yh_X12_again_0 := ag_con (dd := 0) (by decide) (by decide) (by decide) (by decide) (by decide) (x_iW1 (by decide)) (x_iW1 (by decide)) (by decide +kernel)
theorem h_X12_again_1 : y_con x_X yh_X12_again_1 := ag_con (dd := 1) (by decide) (by decide) (by decide) (by decide) (by decide) (x_iW1 (by decide)) (x_iW1 (by decide)) (by decide +kernel)
theorem h_X12_again_2 : y_con x_X yh_X12_again_2 := ag_con (dd := 2) (by decide) (by decide) (by decide) (by decide) (by decide) (x_iW1 (by decide)) (x_iW1 (by decide)) (by decide +kernel)
theorem h_X12_again_3 : y_con x_X yh_X12_again_3 := ag_con (dd := 3) (by decide) (by decide) (by decide) (by decide) (by decide) (x_iW1 (by decide)) (x_iW1 (by decide)) (by decide +kernel)
/-! harmBy -/
theorem fl_J {s m : LMem} (hJ : y_J x_X s) (h : nw_G s m fl_C) : y_J x_X m := by
  have e : ∀ j, ¬ fl_C j → gI m 48 0 j = gI s 48 0 j := fun j hj => h.1 48 0 j (fun q => hj q.2.2)
  refine nw_J hJ (nw_wk h fun j q => by have := q.2.1; omega) ?_ ?_ ?_ (fl_row h hJ.2.2.2.2.1)
  · unfold xI
    rw [e 272 (fun q => absurd q.2.1 (by decide))]
    exact hJ.1 48 0 272 (272, 272, 0, 20) (by decide) (by decide) (by decide)
  · unfold xI
    rw [e 277 (fun q => absurd q.2.1 (by decide))]
    exact hJ.1 48 0 277 (277, 277, 0, 5) (by decide) (by decide) (by decide)
  · unfold xI
    rw [e 278 (fun q => absurd q.2.1 (by decide))]
    exact hJ.1 48 0 278 (278, 278, -1, 5) (by decide) (by decide) (by decide)
theorem h_harmOf1 {d o : Nat} {s : LMem} {Q : LPost} (ho : o ≤ 5) (h : ∀ v, Q (some (lI v)) s) : qC false (d + 1) 268 [lR 33 (some 0), lI (nI o)] s Q := by
  have h1 : ¬ nI o = -1 := by
    rcases (show o = 0 ∨ o = 1 ∨ o = 2 ∨ o = 3 ∨ o = 4 ∨ o = 5 by omega) with rfl | rfl | rfl | rfl | rfl | rfl <;> decide
  have hv : qa_vin ((260 : Int32) + nI o) 279 := by
    rw [show (260 : Int32) = nI 260 from rfl, nI_add]
    exact nI_in (by omega) (by decide)
  refine qC_of rfl rfl ?_
  refine qa_t1_W (cut := []) 20 ?_
  exact And.intro (fun q => absurd q h1) (fun _ => And.intro hv (h _))
theorem hb_l {d bc bs n : Nat} {p1 p2 p3 p4 p5 : Int32} {s : LMem} {Q : LPost} (hJ : y_J x_X s) (hn : gI s 48 0 272 = nI n) (hn2 : n ≤ 20) (h : ∀ m o6, nw_G s m fl_C → qW false (d + 1) 308 bc bs 68 [some (lR 33 (some 0)), some (lI p1), some (lI p2), some (lI p3), some (lI p4), some (lI p5), o6] [] m Q) : ∀ j r m, r + j = n → nw_G s m fl_C → qW false (d + 1) 308 bc bs 15 [some (lR 33 (some 0)), some (lI p1), some (lI p2), some (lI p3), some (lI p4), some (lI p5), some (lI (nI r))] [] m Q := by
  intro j
  induction j with
  | zero =>
    intro r m hr hm
    have hr : r = n := hr
    subst hr
    have hlt : ¬ nI r < gI m 48 0 272 := by
      rw [hm.1 48 0 272 (fun q => absurd q.2.2.2.1 (by decide)), hn]
      exact nI_nlt (Nat.le_refl _) (by omega)
    refine qa_t1_W (cut := [68]) 10 ?_
    refine And.intro (x_vc (by decide) (by decide)) ?_
    exact And.intro (fun q => absurd q hlt) (fun _ => h m _ hm)
  | succ j ih =>
    intro r m hr hm
    have hlt : nI r < gI m 48 0 272 := by
      rw [hm.1 48 0 272 (fun q => absurd q.2.2.2.1 (by decide)), hn]
      exact nI_lt (by omega) (by omega)
    have v4 : qa_vin ((160 : Int32) + 5 * nI r + 4) 279 := by rw [show (4 : Int32) = nI 4 from rfl, x_i5]; exact nI_in (by omega) (by decide)
    have go : ∀ v, qW false (d + 1) 308 bc bs 15 [some (lR 33 (some 0)), some (lI p1), some (lI p2), some (lI p3), some (lI p4), some (lI p5), some (lI (nI r + 1))] [] (sI m 48 0 ((160 : Int32) + 5 * nI r + 4).toNatClampNeg v) Q := fun v => by
      have c4 : ((160 : Int32) + 5 * nI r + 4).toNatClampNeg = 160 + 5 * r + 4 := by rw [show (4 : Int32) = nI 4 from rfl, x_i5, nI_clamp (by omega)]
      rw [c4, nI_1]
      exact ih (r + 1) _ (by omega) (nw_Gs ⟨by omega, by omega, by omega⟩ hm)
    refine qa_t1_W (cut := [15]) 80 ?_
    refine And.intro (x_vc (by decide) (by decide)) ?_
    refine And.intro (fun _ => ?_) (fun q => absurd hlt q)
    refine And.intro v4 ?_
    refine h_its (r := r) (w := 3) (by omega) (by decide) (Exists.intro _ (And.intro rfl ?_))
    refine And.intro (fun _ => ?_) (fun _ => ?_)
    · exact And.intro v4 (go _)
    · exact And.intro v4 (go _)
theorem h_X12_harmBy : y_con x_X yh_X12_harmBy := by
  intro d hd As s Q hA hJ hp hQ
  obtain ⟨v1, r1, rfl, a1, hA⟩ := y_as1 hA
  obtain ⟨v2, r2, rfl, a2, hA⟩ := y_as1 hA
  obtain ⟨v3, r3, rfl, a3, hA⟩ := y_as1 hA
  obtain ⟨v4, r4, rfl, a4, hA⟩ := y_as1 hA
  obtain ⟨v5, r5, rfl, a5, hA⟩ := y_as1 hA
  have e9 := y_as0 hA
  subst e9
  have e1 := y_this (k := 33) (i := 0) a1
  subst e1
  obtain ⟨p1, rfl, -, -⟩ := y_aI a2
  obtain ⟨p2, rfl, -, -⟩ := y_aI a3
  obtain ⟨p3, rfl, -, -⟩ := y_aI a4
  obtain ⟨p4, rfl, q1, q2⟩ := y_aI a5
  have q1 : 0 ≤ p4.toInt := q1
  obtain ⟨o, ho, rfl⟩ := y_nIof2 (N := 5) q1 q2
  have hd : 100 ≤ d := hd
  obtain ⟨d, rfl⟩ : ∃ d', d = d' + 3 := ⟨d - 3, by omega⟩
  refine qC_of rfl rfl ?_
  refine qa_t1_W (cut := [15]) 20 ?_
  refine y_qC h_X12_putAside (d := d + 2) (by show 40 ≤ d + 2; omega) (As := [lR 33 (some 0)]) ⟨y_rcv, trivial⟩ hJ fun r s1 u1 u2 u3 => ?_
  have er := y_none u1
  subst er
  refine And.intro rfl ?_
  refine h_harmOf1 ho fun w => Exists.intro w (And.intro rfl ?_)
  obtain ⟨n, hn2, hn⟩ := x_many u2 48 (Or.inl rfl)
  refine hb_l u2 hn hn2 (fun m o6 hm => ?_) n 0 s1 (Nat.zero_add n) nw_G0
  refine qa_t1_W (cut := []) 30 ?_
  refine y_qC h_runOf (d := d + 2) (by show 41 ≤ d + 2; omega) (As := [lR 33 (some 0), lI p1]) ⟨y_rcv, a2, trivial⟩ (fl_J u2 hm) fun r s2 w1 w2 w3 => ?_
  have er := y_none w1
  subst er
  refine And.intro rfl ?_
  refine h_harmOf1 ho fun w' => Exists.intro w' (And.intro rfl ?_)
  refine y_qC h_X12_takeBack (d := d + 2) (by show 40 ≤ d + 2; omega) (As := [lR 33 (some 0)]) ⟨y_rcv, trivial⟩ w2 fun r s3 z1 z2 z3 => ?_
  have er := y_none z1
  subst er
  refine And.intro rfl ?_
  have F1 : y_Fr yh_X12_harmBy.2.2.2.1 s s1 := y_Fr_tr (V := yh_X12_putAside.2.2.2.1) (by decide +kernel) (y_Fr_rf _ _) u3
  have F2 : y_Fr yh_X12_harmBy.2.2.2.1 s1 m := ag_W (by decide) (by decide) (x_iW1 (by decide)) (x_iW1 (by decide)) (fun j q => by have := q.2.1; omega) hm
  have F3 : y_Fr yh_X12_harmBy.2.2.2.1 s m := fun k i j hn => by
    obtain ⟨b1, b2, b3⟩ := F1 k i j hn
    obtain ⟨c1, c2, c3⟩ := F2 k i j hn
    exact ⟨c1.trans b1, c2.trans b2, c3.trans b3⟩
  have F4 : y_Fr yh_X12_harmBy.2.2.2.1 s s2 := y_Fr_tr (V := ek_X12_runOf.2.2.2.1) (by decide +kernel) F3 w3
  exact hQ (some (lI _)) s3 (y_post1 (z_in_top _)) z2 (fun k i j hn => by
    by_cases e : y_iW yh_X12_takeBack.2.2.2.1 k i j
    · refine absurd ?_ hn
      obtain ⟨w, hw, g1, g2, g3⟩ := e
      have hw : w ∈ [((33 : Nat), (0 : Int), (0 : Int), (29 : Int), (30 : Int)), (48, 0, 0, 0, 278)] := hw
      rcases List.mem_cons.mp hw with rfl | hw
      · have g1 : 33 = k := g1
        have g2 : (0 : Int) ≤ (i : Int) ∧ (i : Int) ≤ 0 := g2
        have g3 : (29 : Int) ≤ (j : Int) ∧ (j : Int) ≤ 30 := g3
        subst g1
        have hi : i = 0 := by omega
        subst hi
        rcases (show j = 29 ∨ j = 30 by omega) with rfl | rfl <;> exact x_iW1 (by decide)
      · have hw := List.mem_singleton.mp hw
        subst hw
        have g1 : 48 = k := g1
        have g2 : (0 : Int) ≤ (i : Int) ∧ (i : Int) ≤ 0 := g2
        have g3 : (0 : Int) ≤ (j : Int) ∧ (j : Int) ≤ 278 := g3
        subst g1
        have hi : i = 0 := by omega
        subst hi
        by_cases e : j < 160
        · exact ⟨(48, 0, 0, 0, 159), by decide, rfl, ⟨Int.le_refl _, Int.le_refl _⟩, by show (0 : Int) ≤ (j : Int); omega, by show (j : Int) ≤ 159; omega⟩
        · exact ⟨(48, 0, 0, 160, 278), by decide, rfl, ⟨Int.le_refl _, Int.le_refl _⟩, by show (160 : Int) ≤ (j : Int); omega, by show (j : Int) ≤ 278; omega⟩
    · obtain ⟨b1, b2, b3⟩ := F4 k i j hn
      obtain ⟨c1, c2, c3⟩ := z3 k i j e
      exact ⟨c1.trans b1, c2.trans b2, c3.trans b3⟩)
