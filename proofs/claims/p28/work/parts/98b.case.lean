/-! THE LAW'S CASES. -/
def lp_V (s : LMem) (k : Nat) : Prop := ∀ c : Nat, c < 7 → qa_vin (nI (7 * k) + nI c) (gI s 65 1 0).toNatClampNeg
theorem lp_tr {s s' : LMem} {k : Nat} (h : lp_V s k) (X : ∀ i j, gI s' 65 i j = gI s 65 i j) : lp_V s' k := fun c hc => by
  rw [X 1 0]
  exact h c hc
theorem lc_0 {k bc bs : Nat} {o5 o6 : Option LV} {s0 : LMem} {Q : LPost} (hJ0 : zV s0) (hV0 : lp_V s0 k) (hb1 : 1 ≤ bc) (hb2 : 6 ≤ bs) (next : ∀ bc' bs' o5 o6 s', bc ≤ bc' + 1 → bs ≤ bs' + 6 → zV s' → (∀ i j, gI s' 65 i j = gI s0 65 i j) → qW false 1200 314 bc' bs' 2045 [some (lR 65 (some 0)), some (lR 0 (some 0)), some (lR 33 (some 0)), some (lR 58 (some 0)), some (lI (nI (7 * k))), o5, o6] [] s' Q) : qW false 1200 314 bc bs 224 [some (lR 65 (some 0)), some (lR 0 (some 0)), some (lR 33 (some 0)), some (lR 58 (some 0)), some (lI (nI (7 * k))), o5, o6] [] s0 Q := by
  refine qa_t1_W (cut := [2045]) 120 ?_
  refine And.intro (hV0 1 (by decide)) ?_
  refine And.intro (hV0 2 (by decide)) ?_
  refine And.intro (hV0 3 (by decide)) ?_
  refine And.intro (hV0 4 (by decide)) ?_
  refine And.intro (hV0 5 (by decide)) ?_
  refine prb_feed hJ0 (fun v1 s1 hJ1 hX1 c2 => Exists.intro v1 (And.intro rfl ?_))
  have hV1 := lp_tr hV0 hX1
  refine And.intro (hV1 1 (by decide)) ?_
  refine And.intro (hV1 2 (by decide)) ?_
  refine And.intro (hV1 3 (by decide)) ?_
  refine And.intro (hV1 4 (by decide)) ?_
  refine And.intro (hV1 5 (by decide)) ?_
  refine qC_mono (c2 _ _ _ _ _ (hX1 _ _) (hX1 _ _) (hX1 _ _) (hX1 _ _) (hX1 _ _)) (fun r s2 hq => ?_)
  obtain ⟨er, hJ2, hX2⟩ := hq
  refine Exists.intro _ (And.intro er ?_)
  have hV2 := lp_tr hV1 hX2
  exact next bc bs _ _ s2 (by omega) (by omega) hJ2 (fun i j => (hX2 i j).trans (hX1 i j))
theorem lc_1 {k bc bs : Nat} {o5 o6 : Option LV} {s0 : LMem} {Q : LPost} (hJ0 : zV s0) (hV0 : lp_V s0 k) (hb1 : 1 ≤ bc) (hb2 : 6 ≤ bs) (next : ∀ bc' bs' o5 o6 s', bc ≤ bc' + 1 → bs ≤ bs' + 6 → zV s' → (∀ i j, gI s' 65 i j = gI s0 65 i j) → qW false 1200 314 bc' bs' 2045 [some (lR 65 (some 0)), some (lR 0 (some 0)), some (lR 33 (some 0)), some (lR 58 (some 0)), some (lI (nI (7 * k))), o5, o6] [] s' Q) : qW false 1200 314 bc bs 297 [some (lR 65 (some 0)), some (lR 0 (some 0)), some (lR 33 (some 0)), some (lR 58 (some 0)), some (lI (nI (7 * k))), o5, o6] [] s0 Q := by
  refine qa_t1_W (cut := [2045]) 120 ?_
  refine And.intro (hV0 1 (by decide)) ?_
  refine prb_end hJ0 (fun v1 s1 hJ1 hX1 c2 => Exists.intro v1 (And.intro rfl ?_))
  have hV1 := lp_tr hV0 hX1
  refine And.intro (hV1 1 (by decide)) ?_
  refine qC_mono (c2 _ (hX1 _ _)) (fun r s2 hq => ?_)
  obtain ⟨er, hJ2, hX2⟩ := hq
  refine Exists.intro _ (And.intro er ?_)
  have hV2 := lp_tr hV1 hX2
  exact next bc bs _ _ s2 (by omega) (by omega) hJ2 (fun i j => (hX2 i j).trans (hX1 i j))
theorem lc_2 {k bc bs : Nat} {o5 o6 : Option LV} {s0 : LMem} {Q : LPost} (hJ0 : zV s0) (hV0 : lp_V s0 k) (hb1 : 1 ≤ bc) (hb2 : 6 ≤ bs) (next : ∀ bc' bs' o5 o6 s', bc ≤ bc' + 1 → bs ≤ bs' + 6 → zV s' → (∀ i j, gI s' 65 i j = gI s0 65 i j) → qW false 1200 314 bc' bs' 2045 [some (lR 65 (some 0)), some (lR 0 (some 0)), some (lR 33 (some 0)), some (lR 58 (some 0)), some (lI (nI (7 * k))), o5, o6] [] s' Q) : qW false 1200 314 bc bs 322 [some (lR 65 (some 0)), some (lR 0 (some 0)), some (lR 33 (some 0)), some (lR 58 (some 0)), some (lI (nI (7 * k))), o5, o6] [] s0 Q := by
  refine qa_t1_W (cut := [2045]) 120 ?_
  refine And.intro (hV0 1 (by decide)) ?_
  refine prb_fault hJ0 (fun v1 s1 hJ1 hX1 c2 => Exists.intro v1 (And.intro rfl ?_))
  have hV1 := lp_tr hV0 hX1
  refine And.intro (hV1 1 (by decide)) ?_
  refine qC_mono (c2 _ (by simp only [hX1])) (fun r s2 hq => ?_)
  obtain ⟨er, hJ2, hX2⟩ := hq
  refine Exists.intro _ (And.intro er ?_)
  have hV2 := lp_tr hV1 hX2
  exact next bc bs _ _ s2 (by omega) (by omega) hJ2 (fun i j => (hX2 i j).trans (hX1 i j))
theorem lc_3 {k bc bs : Nat} {o5 o6 : Option LV} {s0 : LMem} {Q : LPost} (hJ0 : zV s0) (hV0 : lp_V s0 k) (hb1 : 1 ≤ bc) (hb2 : 6 ≤ bs) (next : ∀ bc' bs' o5 o6 s', bc ≤ bc' + 1 → bs ≤ bs' + 6 → zV s' → (∀ i j, gI s' 65 i j = gI s0 65 i j) → qW false 1200 314 bc' bs' 2045 [some (lR 65 (some 0)), some (lR 0 (some 0)), some (lR 33 (some 0)), some (lR 58 (some 0)), some (lI (nI (7 * k))), o5, o6] [] s' Q) : qW false 1200 314 bc bs 347 [some (lR 65 (some 0)), some (lR 0 (some 0)), some (lR 33 (some 0)), some (lR 58 (some 0)), some (lI (nI (7 * k))), o5, o6] [] s0 Q := by
  refine qa_t1_W (cut := [2045]) 120 ?_
  refine And.intro (hV0 1 (by decide)) ?_
  refine prb_text hJ0 (fun v1 s1 hJ1 hX1 c2 => Exists.intro v1 (And.intro rfl ?_))
  have hV1 := lp_tr hV0 hX1
  refine And.intro (hV1 1 (by decide)) ?_
  refine qC_mono (c2 _ (by simp only [hX1])) (fun r s2 hq => ?_)
  obtain ⟨er, hJ2, hX2⟩ := hq
  refine Exists.intro _ (And.intro er ?_)
  have hV2 := lp_tr hV1 hX2
  exact next bc bs _ _ s2 (by omega) (by omega) hJ2 (fun i j => (hX2 i j).trans (hX1 i j))
theorem lc_4 {k bc bs : Nat} {o5 o6 : Option LV} {s0 : LMem} {Q : LPost} (hJ0 : zV s0) (hV0 : lp_V s0 k) (hb1 : 1 ≤ bc) (hb2 : 6 ≤ bs) (next : ∀ bc' bs' o5 o6 s', bc ≤ bc' + 1 → bs ≤ bs' + 6 → zV s' → (∀ i j, gI s' 65 i j = gI s0 65 i j) → qW false 1200 314 bc' bs' 2045 [some (lR 65 (some 0)), some (lR 0 (some 0)), some (lR 33 (some 0)), some (lR 58 (some 0)), some (lI (nI (7 * k))), o5, o6] [] s' Q) : qW false 1200 314 bc bs 372 [some (lR 65 (some 0)), some (lR 0 (some 0)), some (lR 33 (some 0)), some (lR 58 (some 0)), some (lI (nI (7 * k))), o5, o6] [] s0 Q := by
  refine qa_t1_W (cut := [392]) 120 ?_
  refine And.intro (hV0 1 (by decide)) ?_
  refine And.intro (hV0 2 (by decide)) ?_
  refine And.intro (hV0 3 (by decide)) ?_
  have step : qC false 1200 1007 [lR 0 (some 0), lI (gI s0 65 0 (nI (7 * k) + 1).toNatClampNeg), lI (gI s0 65 0 (nI (7 * k) + 2).toNatClampNeg), lI (gI s0 65 0 (nI (7 * k) + 3).toNatClampNeg), lR 58 (some 0)] s0 (fun r s1 => ∃ v, r = some (lI v) ∧ qW false 1200 314 (bc - 1) (bs - 6) 395 [some (lR 65 (some 0)), some (lR 0 (some 0)), some (lR 33 (some 0)), some (lR 58 (some 0)), some (lI (nI (7 * k))), o5, o6] [lI v] s1 Q) := by
    refine sfv_reach _ _ _ hJ0 (fun v1 s1 hJ1 hX1 => Exists.intro v1 (And.intro rfl ?_))
    have hV1 := lp_tr hV0 hX1
    refine qa_t1_W (cut := [2045]) 120 ?_
    refine And.intro (hV1 1 (by decide)) ?_
    refine And.intro (hV1 2 (by decide)) ?_
    refine And.intro (hV1 3 (by decide)) ?_
    refine sfv_X12_reach _ _ _ hJ1 (fun v2 s2 hJ2 hX2 => Exists.intro _ (And.intro rfl ?_))
    have hV2 := lp_tr hV1 hX2
    exact next (bc - 1) (bs - 6) _ _ s2 (by omega) (by omega) hJ2 (fun i j => (hX2 i j).trans (hX1 i j))
  refine qW_step (e := (.invokestatic 38, [1007, 5, 0, 0, 0, 0, 1, 6], 0, 0)) rfl ?_
  rw [qi_static rfl]
  exact And.intro (And.intro hb1 hb2) step
theorem lc_5 {k bc bs : Nat} {o5 o6 : Option LV} {s0 : LMem} {Q : LPost} (hJ0 : zV s0) (hV0 : lp_V s0 k) (hb1 : 1 ≤ bc) (hb2 : 6 ≤ bs) (next : ∀ bc' bs' o5 o6 s', bc ≤ bc' + 1 → bs ≤ bs' + 6 → zV s' → (∀ i j, gI s' 65 i j = gI s0 65 i j) → qW false 1200 314 bc' bs' 2045 [some (lR 65 (some 0)), some (lR 0 (some 0)), some (lR 33 (some 0)), some (lR 58 (some 0)), some (lI (nI (7 * k))), o5, o6] [] s' Q) : qW false 1200 314 bc bs 424 [some (lR 65 (some 0)), some (lR 0 (some 0)), some (lR 33 (some 0)), some (lR 58 (some 0)), some (lI (nI (7 * k))), o5, o6] [] s0 Q := by
  refine qa_t1_W (cut := [2045]) 120 ?_
  refine And.intro (hV0 1 (by decide)) ?_
  refine And.intro (hV0 2 (by decide)) ?_
  refine sfv_X11_rain _ _ hJ0 (fun v1 s1 hJ1 hX1 => Exists.intro _ (And.intro rfl ?_))
  have hV1 := lp_tr hV0 hX1
  refine And.intro (hV1 1 (by decide)) ?_
  refine And.intro (hV1 2 (by decide)) ?_
  refine sfv_X12_rain _ _ hJ1 (fun v2 s2 hJ2 hX2 => Exists.intro _ (And.intro rfl ?_))
  have hV2 := lp_tr hV1 hX2
  exact next bc bs _ _ s2 (by omega) (by omega) hJ2 (fun i j => (hX2 i j).trans (hX1 i j))
theorem lc_6 {k bc bs : Nat} {o5 o6 : Option LV} {s0 : LMem} {Q : LPost} (hJ0 : zV s0) (hV0 : lp_V s0 k) (hb1 : 1 ≤ bc) (hb2 : 6 ≤ bs) (next : ∀ bc' bs' o5 o6 s', bc ≤ bc' + 1 → bs ≤ bs' + 6 → zV s' → (∀ i j, gI s' 65 i j = gI s0 65 i j) → qW false 1200 314 bc' bs' 2045 [some (lR 65 (some 0)), some (lR 0 (some 0)), some (lR 33 (some 0)), some (lR 58 (some 0)), some (lI (nI (7 * k))), o5, o6] [] s' Q) : qW false 1200 314 bc bs 461 [some (lR 65 (some 0)), some (lR 0 (some 0)), some (lR 33 (some 0)), some (lR 58 (some 0)), some (lI (nI (7 * k))), o5, o6] [] s0 Q := by
  refine qa_t1_W (cut := [2045]) 120 ?_
  refine And.intro (hV0 1 (by decide)) ?_
  refine And.intro (hV0 2 (by decide)) ?_
  refine prb_set hJ0 (fun v1 s1 hJ1 hX1 c2 => Exists.intro v1 (And.intro rfl ?_))
  have hV1 := lp_tr hV0 hX1
  refine And.intro (hV1 1 (by decide)) ?_
  refine And.intro (hV1 2 (by decide)) ?_
  refine qC_mono (c2 _ _ (hX1 _ _) (hX1 _ _)) (fun r s2 hq => ?_)
  obtain ⟨er, hJ2, hX2⟩ := hq
  refine Exists.intro _ (And.intro er ?_)
  have hV2 := lp_tr hV1 hX2
  exact next bc bs _ _ s2 (by omega) (by omega) hJ2 (fun i j => (hX2 i j).trans (hX1 i j))
theorem lc_7 {k bc bs : Nat} {o5 o6 : Option LV} {s0 : LMem} {Q : LPost} (hJ0 : zV s0) (hV0 : lp_V s0 k) (hb1 : 1 ≤ bc) (hb2 : 6 ≤ bs) (next : ∀ bc' bs' o5 o6 s', bc ≤ bc' + 1 → bs ≤ bs' + 6 → zV s' → (∀ i j, gI s' 65 i j = gI s0 65 i j) → qW false 1200 314 bc' bs' 2045 [some (lR 65 (some 0)), some (lR 0 (some 0)), some (lR 33 (some 0)), some (lR 58 (some 0)), some (lI (nI (7 * k))), o5, o6] [] s' Q) : qW false 1200 314 bc bs 498 [some (lR 65 (some 0)), some (lR 0 (some 0)), some (lR 33 (some 0)), some (lR 58 (some 0)), some (lI (nI (7 * k))), o5, o6] [] s0 Q := by
  refine qa_t1_W (cut := [2045]) 120 ?_
  refine And.intro (hV0 1 (by decide)) ?_
  refine And.intro (hV0 2 (by decide)) ?_
  refine And.intro (hV0 3 (by decide)) ?_
  refine And.intro (hV0 4 (by decide)) ?_
  refine And.intro (hV0 5 (by decide)) ?_
  refine prb_dig hJ0 (fun v1 s1 hJ1 hX1 c2 => Exists.intro v1 (And.intro rfl ?_))
  have hV1 := lp_tr hV0 hX1
  refine And.intro (hV1 1 (by decide)) ?_
  refine And.intro (hV1 2 (by decide)) ?_
  refine And.intro (hV1 3 (by decide)) ?_
  refine And.intro (hV1 4 (by decide)) ?_
  refine And.intro (hV1 5 (by decide)) ?_
  refine qC_mono (c2 _ _ _ _ (hX1 _ _) (hX1 _ _) (hX1 _ _) (by simp only [hX1])) (fun r s2 hq => ?_)
  obtain ⟨er, hJ2, hX2⟩ := hq
  refine Exists.intro _ (And.intro er ?_)
  have hV2 := lp_tr hV1 hX2
  exact next bc bs _ _ s2 (by omega) (by omega) hJ2 (fun i j => (hX2 i j).trans (hX1 i j))
theorem lc_8 {k bc bs : Nat} {o5 o6 : Option LV} {s0 : LMem} {Q : LPost} (hJ0 : zV s0) (hV0 : lp_V s0 k) (hb1 : 1 ≤ bc) (hb2 : 6 ≤ bs) (next : ∀ bc' bs' o5 o6 s', bc ≤ bc' + 1 → bs ≤ bs' + 6 → zV s' → (∀ i j, gI s' 65 i j = gI s0 65 i j) → qW false 1200 314 bc' bs' 2045 [some (lR 65 (some 0)), some (lR 0 (some 0)), some (lR 33 (some 0)), some (lR 58 (some 0)), some (lI (nI (7 * k))), o5, o6] [] s' Q) : qW false 1200 314 bc bs 591 [some (lR 65 (some 0)), some (lR 0 (some 0)), some (lR 33 (some 0)), some (lR 58 (some 0)), some (lI (nI (7 * k))), o5, o6] [] s0 Q := by
  refine qa_t1_W (cut := [2045]) 120 ?_
  refine And.intro (hV0 1 (by decide)) ?_
  refine prb_day hJ0 (fun v1 s1 hJ1 hX1 c2 => Exists.intro v1 (And.intro rfl ?_))
  have hV1 := lp_tr hV0 hX1
  refine And.intro (hV1 1 (by decide)) ?_
  refine qC_mono (c2 _ (hX1 _ _)) (fun r s2 hq => ?_)
  obtain ⟨er, hJ2, hX2⟩ := hq
  refine Exists.intro _ (And.intro er ?_)
  have hV2 := lp_tr hV1 hX2
  exact next bc bs _ _ s2 (by omega) (by omega) hJ2 (fun i j => (hX2 i j).trans (hX1 i j))
theorem lc_9 {k bc bs : Nat} {o5 o6 : Option LV} {s0 : LMem} {Q : LPost} (hJ0 : zV s0) (hV0 : lp_V s0 k) (hb1 : 1 ≤ bc) (hb2 : 6 ≤ bs) (next : ∀ bc' bs' o5 o6 s', bc ≤ bc' + 1 → bs ≤ bs' + 6 → zV s' → (∀ i j, gI s' 65 i j = gI s0 65 i j) → qW false 1200 314 bc' bs' 2045 [some (lR 65 (some 0)), some (lR 0 (some 0)), some (lR 33 (some 0)), some (lR 58 (some 0)), some (lI (nI (7 * k))), o5, o6] [] s' Q) : qW false 1200 314 bc bs 616 [some (lR 65 (some 0)), some (lR 0 (some 0)), some (lR 33 (some 0)), some (lR 58 (some 0)), some (lI (nI (7 * k))), o5, o6] [] s0 Q := by
  refine qa_t1_W (cut := [2045]) 120 ?_
  refine And.intro (hV0 1 (by decide)) ?_
  refine prb_run hJ0 (fun v1 s1 hJ1 hX1 c2 => Exists.intro v1 (And.intro rfl ?_))
  have hV1 := lp_tr hV0 hX1
  refine And.intro (hV1 1 (by decide)) ?_
  refine qC_mono (c2 _ (hX1 _ _)) (fun r s2 hq => ?_)
  obtain ⟨er, hJ2, hX2⟩ := hq
  refine Exists.intro _ (And.intro er ?_)
  have hV2 := lp_tr hV1 hX2
  exact next bc bs _ _ s2 (by omega) (by omega) hJ2 (fun i j => (hX2 i j).trans (hX1 i j))
theorem lc_10 {k bc bs : Nat} {o5 o6 : Option LV} {s0 : LMem} {Q : LPost} (hJ0 : zV s0) (hV0 : lp_V s0 k) (hb1 : 1 ≤ bc) (hb2 : 6 ≤ bs) (next : ∀ bc' bs' o5 o6 s', bc ≤ bc' + 1 → bs ≤ bs' + 6 → zV s' → (∀ i j, gI s' 65 i j = gI s0 65 i j) → qW false 1200 314 bc' bs' 2045 [some (lR 65 (some 0)), some (lR 0 (some 0)), some (lR 33 (some 0)), some (lR 58 (some 0)), some (lI (nI (7 * k))), o5, o6] [] s' Q) : qW false 1200 314 bc bs 641 [some (lR 65 (some 0)), some (lR 0 (some 0)), some (lR 33 (some 0)), some (lR 58 (some 0)), some (lI (nI (7 * k))), o5, o6] [] s0 Q := by
  refine qa_t1_W (cut := [2045]) 120 ?_
  refine And.intro (hV0 1 (by decide)) ?_
  refine And.intro (hV0 2 (by decide)) ?_
  refine sfv_X11_at _ _ hJ0 (fun v1 s1 hJ1 hX1 => Exists.intro _ (And.intro rfl ?_))
  have hV1 := lp_tr hV0 hX1
  refine And.intro (hV1 1 (by decide)) ?_
  refine And.intro (hV1 2 (by decide)) ?_
  refine sfv_X12_at _ _ hJ1 (fun v2 s2 hJ2 hX2 => Exists.intro _ (And.intro rfl ?_))
  have hV2 := lp_tr hV1 hX2
  exact next bc bs _ _ s2 (by omega) (by omega) hJ2 (fun i j => (hX2 i j).trans (hX1 i j))
theorem lc_11 {k bc bs : Nat} {o5 o6 : Option LV} {s0 : LMem} {Q : LPost} (hJ0 : zV s0) (hV0 : lp_V s0 k) (hb1 : 1 ≤ bc) (hb2 : 6 ≤ bs) (next : ∀ bc' bs' o5 o6 s', bc ≤ bc' + 1 → bs ≤ bs' + 6 → zV s' → (∀ i j, gI s' 65 i j = gI s0 65 i j) → qW false 1200 314 bc' bs' 2045 [some (lR 65 (some 0)), some (lR 0 (some 0)), some (lR 33 (some 0)), some (lR 58 (some 0)), some (lI (nI (7 * k))), o5, o6] [] s' Q) : qW false 1200 314 bc bs 678 [some (lR 65 (some 0)), some (lR 0 (some 0)), some (lR 33 (some 0)), some (lR 58 (some 0)), some (lI (nI (7 * k))), o5, o6] [] s0 Q := by
  refine qa_t1_W (cut := [2045]) 120 ?_
  refine And.intro (hV0 1 (by decide)) ?_
  refine sfv_X11_all _ hJ0 (fun v1 s1 hJ1 hX1 => Exists.intro _ (And.intro rfl ?_))
  have hV1 := lp_tr hV0 hX1
  refine And.intro (hV1 1 (by decide)) ?_
  refine sfv_X12_all _ hJ1 (fun v2 s2 hJ2 hX2 => Exists.intro _ (And.intro rfl ?_))
  have hV2 := lp_tr hV1 hX2
  exact next bc bs _ _ s2 (by omega) (by omega) hJ2 (fun i j => (hX2 i j).trans (hX1 i j))
theorem lc_12 {k bc bs : Nat} {o5 o6 : Option LV} {s0 : LMem} {Q : LPost} (hJ0 : zV s0) (hV0 : lp_V s0 k) (hb1 : 1 ≤ bc) (hb2 : 6 ≤ bs) (next : ∀ bc' bs' o5 o6 s', bc ≤ bc' + 1 → bs ≤ bs' + 6 → zV s' → (∀ i j, gI s' 65 i j = gI s0 65 i j) → qW false 1200 314 bc' bs' 2045 [some (lR 65 (some 0)), some (lR 0 (some 0)), some (lR 33 (some 0)), some (lR 58 (some 0)), some (lI (nI (7 * k))), o5, o6] [] s' Q) : qW false 1200 314 bc bs 703 [some (lR 65 (some 0)), some (lR 0 (some 0)), some (lR 33 (some 0)), some (lR 58 (some 0)), some (lI (nI (7 * k))), o5, o6] [] s0 Q := by
  refine qa_t1_W (cut := [2045]) 120 ?_
  refine And.intro (hV0 1 (by decide)) ?_
  refine And.intro (hV0 2 (by decide)) ?_
  refine sfv_X11_owner _ _ hJ0 (fun v1 s1 hJ1 hX1 => Exists.intro _ (And.intro rfl ?_))
  have hV1 := lp_tr hV0 hX1
  refine And.intro (hV1 1 (by decide)) ?_
  refine And.intro (hV1 2 (by decide)) ?_
  refine sfv_X12_owner _ _ hJ1 (fun v2 s2 hJ2 hX2 => Exists.intro _ (And.intro rfl ?_))
  have hV2 := lp_tr hV1 hX2
  exact next bc bs _ _ s2 (by omega) (by omega) hJ2 (fun i j => (hX2 i j).trans (hX1 i j))
theorem lc_13 {k bc bs : Nat} {o5 o6 : Option LV} {s0 : LMem} {Q : LPost} (hJ0 : zV s0) (hV0 : lp_V s0 k) (hb1 : 1 ≤ bc) (hb2 : 6 ≤ bs) (next : ∀ bc' bs' o5 o6 s', bc ≤ bc' + 1 → bs ≤ bs' + 6 → zV s' → (∀ i j, gI s' 65 i j = gI s0 65 i j) → qW false 1200 314 bc' bs' 2045 [some (lR 65 (some 0)), some (lR 0 (some 0)), some (lR 33 (some 0)), some (lR 58 (some 0)), some (lI (nI (7 * k))), o5, o6] [] s' Q) : qW false 1200 314 bc bs 740 [some (lR 65 (some 0)), some (lR 0 (some 0)), some (lR 33 (some 0)), some (lR 58 (some 0)), some (lI (nI (7 * k))), o5, o6] [] s0 Q := by
  refine qa_t1_W (cut := [2045]) 120 ?_
  refine And.intro (hV0 1 (by decide)) ?_
  refine sfv_X11_clean _ hJ0 (fun v1 s1 hJ1 hX1 => Exists.intro _ (And.intro rfl ?_))
  have hV1 := lp_tr hV0 hX1
  refine And.intro (hV1 1 (by decide)) ?_
  refine sfv_X12_clean _ hJ1 (fun v2 s2 hJ2 hX2 => Exists.intro _ (And.intro rfl ?_))
  have hV2 := lp_tr hV1 hX2
  exact next bc bs _ _ s2 (by omega) (by omega) hJ2 (fun i j => (hX2 i j).trans (hX1 i j))
theorem lc_14 {k bc bs : Nat} {o5 o6 : Option LV} {s0 : LMem} {Q : LPost} (hJ0 : zV s0) (hV0 : lp_V s0 k) (hb1 : 1 ≤ bc) (hb2 : 6 ≤ bs) (next : ∀ bc' bs' o5 o6 s', bc ≤ bc' + 1 → bs ≤ bs' + 6 → zV s' → (∀ i j, gI s' 65 i j = gI s0 65 i j) → qW false 1200 314 bc' bs' 2045 [some (lR 65 (some 0)), some (lR 0 (some 0)), some (lR 33 (some 0)), some (lR 58 (some 0)), some (lI (nI (7 * k))), o5, o6] [] s' Q) : qW false 1200 314 bc bs 765 [some (lR 65 (some 0)), some (lR 0 (some 0)), some (lR 33 (some 0)), some (lR 58 (some 0)), some (lI (nI (7 * k))), o5, o6] [] s0 Q := by
  refine qa_t1_W (cut := [2045]) 120 ?_
  refine And.intro (hV0 1 (by decide)) ?_
  refine And.intro (hV0 2 (by decide)) ?_
  refine And.intro (fun b0 => ?_) (fun b0 => ?_)
  · refine prb_shut ⟨by decide, by decide⟩ hJ0 (fun v1 s1 hJ1 hX1 c2 => Exists.intro v1 (And.intro rfl ?_))
    have hV1 := lp_tr hV0 hX1
    refine And.intro (hV1 1 (by decide)) ?_
    refine And.intro (hV1 2 (by decide)) ?_
    refine And.intro (fun b1 => ?_) (fun b1 => ?_)
    · refine qC_mono (c2 _ _ (hX1 _ _) rfl) (fun r s2 hq => ?_)
      obtain ⟨er, hJ2, hX2⟩ := hq
      refine Exists.intro _ (And.intro er ?_)
      have hV2 := lp_tr hV1 hX2
      exact next bc bs _ _ s2 (by omega) (by omega) hJ2 (fun i j => (hX2 i j).trans (hX1 i j))
    · exact absurd ((hX1 _ _).trans b0) b1
  · refine prb_shut ⟨by decide, by decide⟩ hJ0 (fun v1 s1 hJ1 hX1 c2 => Exists.intro v1 (And.intro rfl ?_))
    have hV1 := lp_tr hV0 hX1
    refine And.intro (hV1 1 (by decide)) ?_
    refine And.intro (hV1 2 (by decide)) ?_
    refine And.intro (fun b1 => ?_) (fun b1 => ?_)
    · exact absurd ((hX1 _ _).symm.trans b1) b0
    · refine qC_mono (c2 _ _ (hX1 _ _) rfl) (fun r s2 hq => ?_)
      obtain ⟨er, hJ2, hX2⟩ := hq
      refine Exists.intro _ (And.intro er ?_)
      have hV2 := lp_tr hV1 hX2
      exact next bc bs _ _ s2 (by omega) (by omega) hJ2 (fun i j => (hX2 i j).trans (hX1 i j))
theorem lc_15 {k bc bs : Nat} {o5 o6 : Option LV} {s0 : LMem} {Q : LPost} (hJ0 : zV s0) (hV0 : lp_V s0 k) (hb1 : 1 ≤ bc) (hb2 : 6 ≤ bs) (next : ∀ bc' bs' o5 o6 s', bc ≤ bc' + 1 → bs ≤ bs' + 6 → zV s' → (∀ i j, gI s' 65 i j = gI s0 65 i j) → qW false 1200 314 bc' bs' 2045 [some (lR 65 (some 0)), some (lR 0 (some 0)), some (lR 33 (some 0)), some (lR 58 (some 0)), some (lI (nI (7 * k))), o5, o6] [] s' Q) : qW false 1200 314 bc bs 818 [some (lR 65 (some 0)), some (lR 0 (some 0)), some (lR 33 (some 0)), some (lR 58 (some 0)), some (lI (nI (7 * k))), o5, o6] [] s0 Q := by
  refine qa_t1_W (cut := [2045]) 120 ?_
  refine And.intro (hV0 1 (by decide)) ?_
  refine And.intro (hV0 2 (by decide)) ?_
  refine And.intro (hV0 3 (by decide)) ?_
  refine sfv_X11_tried _ _ _ hJ0 (fun v1 s1 hJ1 hX1 => Exists.intro _ (And.intro rfl ?_))
  have hV1 := lp_tr hV0 hX1
  refine And.intro (hV1 1 (by decide)) ?_
  refine And.intro (hV1 2 (by decide)) ?_
  refine And.intro (hV1 3 (by decide)) ?_
  refine sfv_X12_tried _ _ _ hJ1 (fun v2 s2 hJ2 hX2 => Exists.intro _ (And.intro rfl ?_))
  have hV2 := lp_tr hV1 hX2
  exact next bc bs _ _ s2 (by omega) (by omega) hJ2 (fun i j => (hX2 i j).trans (hX1 i j))
theorem lc_16 {k bc bs : Nat} {o5 o6 : Option LV} {s0 : LMem} {Q : LPost} (hJ0 : zV s0) (hV0 : lp_V s0 k) (hb1 : 1 ≤ bc) (hb2 : 6 ≤ bs) (next : ∀ bc' bs' o5 o6 s', bc ≤ bc' + 1 → bs ≤ bs' + 6 → zV s' → (∀ i j, gI s' 65 i j = gI s0 65 i j) → qW false 1200 314 bc' bs' 2045 [some (lR 65 (some 0)), some (lR 0 (some 0)), some (lR 33 (some 0)), some (lR 58 (some 0)), some (lI (nI (7 * k))), o5, o6] [] s' Q) : qW false 1200 314 bc bs 867 [some (lR 65 (some 0)), some (lR 0 (some 0)), some (lR 33 (some 0)), some (lR 58 (some 0)), some (lI (nI (7 * k))), o5, o6] [] s0 Q := by
  refine qa_t1_W (cut := [2045]) 120 ?_
  refine And.intro (hV0 1 (by decide)) ?_
  refine And.intro (hV0 2 (by decide)) ?_
  refine And.intro (hV0 3 (by decide)) ?_
  refine sfv_X11_costs _ _ _ hJ0 (fun v1 s1 hJ1 hX1 => Exists.intro _ (And.intro rfl ?_))
  have hV1 := lp_tr hV0 hX1
  refine And.intro (hV1 1 (by decide)) ?_
  refine And.intro (hV1 2 (by decide)) ?_
  refine And.intro (hV1 3 (by decide)) ?_
  refine sfv_X12_costs _ _ _ hJ1 (fun v2 s2 hJ2 hX2 => Exists.intro _ (And.intro rfl ?_))
  have hV2 := lp_tr hV1 hX2
  exact next bc bs _ _ s2 (by omega) (by omega) hJ2 (fun i j => (hX2 i j).trans (hX1 i j))
theorem lc_17 {k bc bs : Nat} {o5 o6 : Option LV} {s0 : LMem} {Q : LPost} (hJ0 : zV s0) (hV0 : lp_V s0 k) (hb1 : 1 ≤ bc) (hb2 : 6 ≤ bs) (next : ∀ bc' bs' o5 o6 s', bc ≤ bc' + 1 → bs ≤ bs' + 6 → zV s' → (∀ i j, gI s' 65 i j = gI s0 65 i j) → qW false 1200 314 bc' bs' 2045 [some (lR 65 (some 0)), some (lR 0 (some 0)), some (lR 33 (some 0)), some (lR 58 (some 0)), some (lI (nI (7 * k))), o5, o6] [] s' Q) : qW false 1200 314 bc bs 916 [some (lR 65 (some 0)), some (lR 0 (some 0)), some (lR 33 (some 0)), some (lR 58 (some 0)), some (lI (nI (7 * k))), o5, o6] [] s0 Q := by
  refine qa_t1_W (cut := [2045]) 120 ?_
  refine And.intro (hV0 1 (by decide)) ?_
  refine sfv_X11_first _ hJ0 (fun v1 s1 hJ1 hX1 => Exists.intro _ (And.intro rfl ?_))
  have hV1 := lp_tr hV0 hX1
  refine And.intro (hV1 1 (by decide)) ?_
  refine sfv_X12_first _ hJ1 (fun v2 s2 hJ2 hX2 => Exists.intro _ (And.intro rfl ?_))
  have hV2 := lp_tr hV1 hX2
  exact next bc bs _ _ s2 (by omega) (by omega) hJ2 (fun i j => (hX2 i j).trans (hX1 i j))
theorem lc_18 {k bc bs : Nat} {o5 o6 : Option LV} {s0 : LMem} {Q : LPost} (hJ0 : zV s0) (hV0 : lp_V s0 k) (hb1 : 1 ≤ bc) (hb2 : 6 ≤ bs) (next : ∀ bc' bs' o5 o6 s', bc ≤ bc' + 1 → bs ≤ bs' + 6 → zV s' → (∀ i j, gI s' 65 i j = gI s0 65 i j) → qW false 1200 314 bc' bs' 2045 [some (lR 65 (some 0)), some (lR 0 (some 0)), some (lR 33 (some 0)), some (lR 58 (some 0)), some (lI (nI (7 * k))), o5, o6] [] s' Q) : qW false 1200 314 bc bs 941 [some (lR 65 (some 0)), some (lR 0 (some 0)), some (lR 33 (some 0)), some (lR 58 (some 0)), some (lI (nI (7 * k))), o5, o6] [] s0 Q := by
  refine qa_t1_W (cut := [2045]) 120 ?_
  refine And.intro (hV0 1 (by decide)) ?_
  refine And.intro (hV0 2 (by decide)) ?_
  refine sfv_X11_when _ _ hJ0 (fun v1 s1 hJ1 hX1 => Exists.intro _ (And.intro rfl ?_))
  have hV1 := lp_tr hV0 hX1
  refine And.intro (hV1 1 (by decide)) ?_
  refine And.intro (hV1 2 (by decide)) ?_
  refine sfv_X12_when _ _ hJ1 (fun v2 s2 hJ2 hX2 => Exists.intro _ (And.intro rfl ?_))
  have hV2 := lp_tr hV1 hX2
  exact next bc bs _ _ s2 (by omega) (by omega) hJ2 (fun i j => (hX2 i j).trans (hX1 i j))
theorem lc_19 {k bc bs : Nat} {o5 o6 : Option LV} {s0 : LMem} {Q : LPost} (hJ0 : zV s0) (hV0 : lp_V s0 k) (hb1 : 1 ≤ bc) (hb2 : 6 ≤ bs) (next : ∀ bc' bs' o5 o6 s', bc ≤ bc' + 1 → bs ≤ bs' + 6 → zV s' → (∀ i j, gI s' 65 i j = gI s0 65 i j) → qW false 1200 314 bc' bs' 2045 [some (lR 65 (some 0)), some (lR 0 (some 0)), some (lR 33 (some 0)), some (lR 58 (some 0)), some (lI (nI (7 * k))), o5, o6] [] s' Q) : qW false 1200 314 bc bs 978 [some (lR 65 (some 0)), some (lR 0 (some 0)), some (lR 33 (some 0)), some (lR 58 (some 0)), some (lI (nI (7 * k))), o5, o6] [] s0 Q := by
  refine qa_t1_W (cut := [2045]) 120 ?_
  refine And.intro (hV0 1 (by decide)) ?_
  refine And.intro (hV0 2 (by decide)) ?_
  refine And.intro (hV0 3 (by decide)) ?_
  refine And.intro (hV0 4 (by decide)) ?_
  refine And.intro (hV0 5 (by decide)) ?_
  refine And.intro (hV0 6 (by decide)) ?_
  refine sfv_X11_has _ _ _ _ _ _ hJ0 (fun v1 s1 hJ1 hX1 => Exists.intro _ (And.intro rfl ?_))
  have hV1 := lp_tr hV0 hX1
  refine And.intro (hV1 1 (by decide)) ?_
  refine And.intro (hV1 2 (by decide)) ?_
  refine And.intro (hV1 3 (by decide)) ?_
  refine And.intro (hV1 4 (by decide)) ?_
  refine And.intro (hV1 5 (by decide)) ?_
  refine And.intro (hV1 6 (by decide)) ?_
  refine sfv_X12_has _ _ _ _ _ _ hJ1 (fun v2 s2 hJ2 hX2 => Exists.intro _ (And.intro rfl ?_))
  have hV2 := lp_tr hV1 hX2
  exact next bc bs _ _ s2 (by omega) (by omega) hJ2 (fun i j => (hX2 i j).trans (hX1 i j))
theorem lc_20 {k bc bs : Nat} {o5 o6 : Option LV} {s0 : LMem} {Q : LPost} (hJ0 : zV s0) (hV0 : lp_V s0 k) (hb1 : 1 ≤ bc) (hb2 : 6 ≤ bs) (next : ∀ bc' bs' o5 o6 s', bc ≤ bc' + 1 → bs ≤ bs' + 6 → zV s' → (∀ i j, gI s' 65 i j = gI s0 65 i j) → qW false 1200 314 bc' bs' 2045 [some (lR 65 (some 0)), some (lR 0 (some 0)), some (lR 33 (some 0)), some (lR 58 (some 0)), some (lI (nI (7 * k))), o5, o6] [] s' Q) : qW false 1200 314 bc bs 1065 [some (lR 65 (some 0)), some (lR 0 (some 0)), some (lR 33 (some 0)), some (lR 58 (some 0)), some (lI (nI (7 * k))), o5, o6] [] s0 Q := by
  refine qa_t1_W (cut := [2045]) 120 ?_
  refine And.intro (hV0 1 (by decide)) ?_
  refine And.intro (hV0 2 (by decide)) ?_
  refine And.intro (hV0 3 (by decide)) ?_
  refine And.intro (hV0 4 (by decide)) ?_
  refine And.intro (hV0 5 (by decide)) ?_
  refine sfv_X11_rests _ _ _ _ _ hJ0 (fun v1 s1 hJ1 hX1 => Exists.intro _ (And.intro rfl ?_))
  have hV1 := lp_tr hV0 hX1
  refine And.intro (hV1 1 (by decide)) ?_
  refine And.intro (hV1 2 (by decide)) ?_
  refine And.intro (hV1 3 (by decide)) ?_
  refine And.intro (hV1 4 (by decide)) ?_
  refine And.intro (hV1 5 (by decide)) ?_
  refine sfv_X12_rests _ _ _ _ _ hJ1 (fun v2 s2 hJ2 hX2 => Exists.intro _ (And.intro rfl ?_))
  have hV2 := lp_tr hV1 hX2
  exact next bc bs _ _ s2 (by omega) (by omega) hJ2 (fun i j => (hX2 i j).trans (hX1 i j))
theorem lc_21 {k bc bs : Nat} {o5 o6 : Option LV} {s0 : LMem} {Q : LPost} (hJ0 : zV s0) (hV0 : lp_V s0 k) (hb1 : 1 ≤ bc) (hb2 : 6 ≤ bs) (next : ∀ bc' bs' o5 o6 s', bc ≤ bc' + 1 → bs ≤ bs' + 6 → zV s' → (∀ i j, gI s' 65 i j = gI s0 65 i j) → qW false 1200 314 bc' bs' 2045 [some (lR 65 (some 0)), some (lR 0 (some 0)), some (lR 33 (some 0)), some (lR 58 (some 0)), some (lI (nI (7 * k))), o5, o6] [] s' Q) : qW false 1200 314 bc bs 1138 [some (lR 65 (some 0)), some (lR 0 (some 0)), some (lR 33 (some 0)), some (lR 58 (some 0)), some (lI (nI (7 * k))), o5, o6] [] s0 Q := by
  refine qa_t1_W (cut := [2045]) 120 ?_
  refine And.intro (hV0 1 (by decide)) ?_
  refine And.intro (hV0 2 (by decide)) ?_
  refine And.intro (hV0 3 (by decide)) ?_
  refine And.intro (hV0 4 (by decide)) ?_
  refine sfv_X11_best _ _ _ _ hJ0 (fun v1 s1 hJ1 hX1 => Exists.intro _ (And.intro rfl ?_))
  have hV1 := lp_tr hV0 hX1
  refine And.intro (hV1 1 (by decide)) ?_
  refine And.intro (hV1 2 (by decide)) ?_
  refine And.intro (hV1 3 (by decide)) ?_
  refine And.intro (hV1 4 (by decide)) ?_
  refine sfv_X12_best _ _ _ _ hJ1 (fun v2 s2 hJ2 hX2 => Exists.intro _ (And.intro rfl ?_))
  have hV2 := lp_tr hV1 hX2
  exact next bc bs _ _ s2 (by omega) (by omega) hJ2 (fun i j => (hX2 i j).trans (hX1 i j))
theorem lc_22 {k bc bs : Nat} {o5 o6 : Option LV} {s0 : LMem} {Q : LPost} (hJ0 : zV s0) (hV0 : lp_V s0 k) (hb1 : 1 ≤ bc) (hb2 : 6 ≤ bs) (next : ∀ bc' bs' o5 o6 s', bc ≤ bc' + 1 → bs ≤ bs' + 6 → zV s' → (∀ i j, gI s' 65 i j = gI s0 65 i j) → qW false 1200 314 bc' bs' 2045 [some (lR 65 (some 0)), some (lR 0 (some 0)), some (lR 33 (some 0)), some (lR 58 (some 0)), some (lI (nI (7 * k))), o5, o6] [] s' Q) : qW false 1200 314 bc bs 1199 [some (lR 65 (some 0)), some (lR 0 (some 0)), some (lR 33 (some 0)), some (lR 58 (some 0)), some (lI (nI (7 * k))), o5, o6] [] s0 Q := by
  refine qa_t1_W (cut := [2045]) 120 ?_
  refine And.intro (hV0 1 (by decide)) ?_
  refine And.intro (hV0 2 (by decide)) ?_
  refine sfv_X11_staff _ _ hJ0 (fun v1 s1 hJ1 hX1 => Exists.intro _ (And.intro rfl ?_))
  have hV1 := lp_tr hV0 hX1
  refine And.intro (hV1 1 (by decide)) ?_
  refine And.intro (hV1 2 (by decide)) ?_
  refine sfv_X12_staff _ _ hJ1 (fun v2 s2 hJ2 hX2 => Exists.intro _ (And.intro rfl ?_))
  have hV2 := lp_tr hV1 hX2
  exact next bc bs _ _ s2 (by omega) (by omega) hJ2 (fun i j => (hX2 i j).trans (hX1 i j))
theorem lc_23 {k bc bs : Nat} {o5 o6 : Option LV} {s0 : LMem} {Q : LPost} (hJ0 : zV s0) (hV0 : lp_V s0 k) (hb1 : 1 ≤ bc) (hb2 : 6 ≤ bs) (next : ∀ bc' bs' o5 o6 s', bc ≤ bc' + 1 → bs ≤ bs' + 6 → zV s' → (∀ i j, gI s' 65 i j = gI s0 65 i j) → qW false 1200 314 bc' bs' 2045 [some (lR 65 (some 0)), some (lR 0 (some 0)), some (lR 33 (some 0)), some (lR 58 (some 0)), some (lI (nI (7 * k))), o5, o6] [] s' Q) : qW false 1200 314 bc bs 1236 [some (lR 65 (some 0)), some (lR 0 (some 0)), some (lR 33 (some 0)), some (lR 58 (some 0)), some (lI (nI (7 * k))), o5, o6] [] s0 Q := by
  refine qa_t1_W (cut := [2045]) 120 ?_
  refine And.intro (hV0 1 (by decide)) ?_
  refine And.intro (hV0 2 (by decide)) ?_
  refine And.intro (hV0 3 (by decide)) ?_
  refine And.intro (fun b0 => ?_) (fun b0 => ?_)
  · refine sfv_X11_where _ _ _ ⟨by decide, by decide⟩ hJ0 (fun v1 s1 hJ1 hX1 => Exists.intro _ (And.intro rfl ?_))
    have hV1 := lp_tr hV0 hX1
    refine And.intro (hV1 1 (by decide)) ?_
    refine And.intro (hV1 2 (by decide)) ?_
    refine And.intro (hV1 3 (by decide)) ?_
    refine And.intro (fun b1 => ?_) (fun b1 => ?_)
    · refine sfv_X12_where _ _ _ ⟨by decide, by decide⟩ hJ1 (fun v2 s2 hJ2 hX2 => Exists.intro _ (And.intro rfl ?_))
      have hV2 := lp_tr hV1 hX2
      exact next bc bs _ _ s2 (by omega) (by omega) hJ2 (fun i j => (hX2 i j).trans (hX1 i j))
    · refine sfv_X12_where _ _ _ ⟨by decide, by decide⟩ hJ1 (fun v2 s2 hJ2 hX2 => Exists.intro _ (And.intro rfl ?_))
      have hV2 := lp_tr hV1 hX2
      exact next bc bs _ _ s2 (by omega) (by omega) hJ2 (fun i j => (hX2 i j).trans (hX1 i j))
  · refine sfv_X11_where _ _ _ ⟨by decide, by decide⟩ hJ0 (fun v1 s1 hJ1 hX1 => Exists.intro _ (And.intro rfl ?_))
    have hV1 := lp_tr hV0 hX1
    refine And.intro (hV1 1 (by decide)) ?_
    refine And.intro (hV1 2 (by decide)) ?_
    refine And.intro (hV1 3 (by decide)) ?_
    refine And.intro (fun b1 => ?_) (fun b1 => ?_)
    · refine sfv_X12_where _ _ _ ⟨by decide, by decide⟩ hJ1 (fun v2 s2 hJ2 hX2 => Exists.intro _ (And.intro rfl ?_))
      have hV2 := lp_tr hV1 hX2
      exact next bc bs _ _ s2 (by omega) (by omega) hJ2 (fun i j => (hX2 i j).trans (hX1 i j))
    · refine sfv_X12_where _ _ _ ⟨by decide, by decide⟩ hJ1 (fun v2 s2 hJ2 hX2 => Exists.intro _ (And.intro rfl ?_))
      have hV2 := lp_tr hV1 hX2
      exact next bc bs _ _ s2 (by omega) (by omega) hJ2 (fun i j => (hX2 i j).trans (hX1 i j))
theorem lc_24 {k bc bs : Nat} {o5 o6 : Option LV} {s0 : LMem} {Q : LPost} (hJ0 : zV s0) (hV0 : lp_V s0 k) (hb1 : 1 ≤ bc) (hb2 : 6 ≤ bs) (next : ∀ bc' bs' o5 o6 s', bc ≤ bc' + 1 → bs ≤ bs' + 6 → zV s' → (∀ i j, gI s' 65 i j = gI s0 65 i j) → qW false 1200 314 bc' bs' 2045 [some (lR 65 (some 0)), some (lR 0 (some 0)), some (lR 33 (some 0)), some (lR 58 (some 0)), some (lI (nI (7 * k))), o5, o6] [] s' Q) : qW false 1200 314 bc bs 1301 [some (lR 65 (some 0)), some (lR 0 (some 0)), some (lR 33 (some 0)), some (lR 58 (some 0)), some (lI (nI (7 * k))), o5, o6] [] s0 Q := by
  refine qa_t1_W (cut := [2045]) 120 ?_
  refine And.intro (hV0 1 (by decide)) ?_
  refine And.intro (hV0 2 (by decide)) ?_
  refine sfv_X11_off _ _ hJ0 (fun v1 s1 hJ1 hX1 => Exists.intro _ (And.intro rfl ?_))
  have hV1 := lp_tr hV0 hX1
  refine And.intro (hV1 1 (by decide)) ?_
  refine And.intro (hV1 2 (by decide)) ?_
  refine sfv_X12_off _ _ hJ1 (fun v2 s2 hJ2 hX2 => Exists.intro _ (And.intro rfl ?_))
  have hV2 := lp_tr hV1 hX2
  exact next bc bs _ _ s2 (by omega) (by omega) hJ2 (fun i j => (hX2 i j).trans (hX1 i j))
theorem lc_25 {k bc bs : Nat} {o5 o6 : Option LV} {s0 : LMem} {Q : LPost} (hJ0 : zV s0) (hV0 : lp_V s0 k) (hb1 : 1 ≤ bc) (hb2 : 6 ≤ bs) (next : ∀ bc' bs' o5 o6 s', bc ≤ bc' + 1 → bs ≤ bs' + 6 → zV s' → (∀ i j, gI s' 65 i j = gI s0 65 i j) → qW false 1200 314 bc' bs' 2045 [some (lR 65 (some 0)), some (lR 0 (some 0)), some (lR 33 (some 0)), some (lR 58 (some 0)), some (lI (nI (7 * k))), o5, o6] [] s' Q) : qW false 1200 314 bc bs 1338 [some (lR 65 (some 0)), some (lR 0 (some 0)), some (lR 33 (some 0)), some (lR 58 (some 0)), some (lI (nI (7 * k))), o5, o6] [] s0 Q := by
  refine qa_t1_W (cut := [2045]) 120 ?_
  refine And.intro (hV0 1 (by decide)) ?_
  refine And.intro (hV0 2 (by decide)) ?_
  refine And.intro (hV0 3 (by decide)) ?_
  refine And.intro (hV0 4 (by decide)) ?_
  refine And.intro (hV0 5 (by decide)) ?_
  refine And.intro (hV0 6 (by decide)) ?_
  refine sfv_X11_falls _ _ _ _ _ _ hJ0 (fun v1 s1 hJ1 hX1 => Exists.intro _ (And.intro rfl ?_))
  have hV1 := lp_tr hV0 hX1
  refine And.intro (hV1 1 (by decide)) ?_
  refine And.intro (hV1 2 (by decide)) ?_
  refine And.intro (hV1 3 (by decide)) ?_
  refine And.intro (hV1 4 (by decide)) ?_
  refine And.intro (hV1 5 (by decide)) ?_
  refine And.intro (hV1 6 (by decide)) ?_
  refine sfv_X12_falls _ _ _ _ _ _ hJ1 (fun v2 s2 hJ2 hX2 => Exists.intro _ (And.intro rfl ?_))
  have hV2 := lp_tr hV1 hX2
  exact next bc bs _ _ s2 (by omega) (by omega) hJ2 (fun i j => (hX2 i j).trans (hX1 i j))
theorem lc_26 {k bc bs : Nat} {o5 o6 : Option LV} {s0 : LMem} {Q : LPost} (hJ0 : zV s0) (hV0 : lp_V s0 k) (hb1 : 1 ≤ bc) (hb2 : 6 ≤ bs) (next : ∀ bc' bs' o5 o6 s', bc ≤ bc' + 1 → bs ≤ bs' + 6 → zV s' → (∀ i j, gI s' 65 i j = gI s0 65 i j) → qW false 1200 314 bc' bs' 2045 [some (lR 65 (some 0)), some (lR 0 (some 0)), some (lR 33 (some 0)), some (lR 58 (some 0)), some (lI (nI (7 * k))), o5, o6] [] s' Q) : qW false 1200 314 bc bs 1425 [some (lR 65 (some 0)), some (lR 0 (some 0)), some (lR 33 (some 0)), some (lR 58 (some 0)), some (lI (nI (7 * k))), o5, o6] [] s0 Q := by
  refine qa_t1_W (cut := [2045]) 120 ?_
  refine And.intro (hV0 1 (by decide)) ?_
  refine And.intro (hV0 2 (by decide)) ?_
  refine And.intro (hV0 3 (by decide)) ?_
  refine prb_sands hJ0 (fun v1 s1 hJ1 hX1 c2 => Exists.intro v1 (And.intro rfl ?_))
  have hV1 := lp_tr hV0 hX1
  refine And.intro (hV1 1 (by decide)) ?_
  refine And.intro (hV1 2 (by decide)) ?_
  refine And.intro (hV1 3 (by decide)) ?_
  refine qC_mono (c2 _ _ _ (by simp only [hX1]) (hX1 _ _) (hX1 _ _)) (fun r s2 hq => ?_)
  obtain ⟨er, hJ2, hX2⟩ := hq
  refine Exists.intro _ (And.intro er ?_)
  have hV2 := lp_tr hV1 hX2
  exact And.intro (fun _ => next bc bs _ _ s2 (by omega) (by omega) hJ2 (fun i j => (hX2 i j).trans (hX1 i j))) (fun q => absurd rfl q)
theorem lc_27 {k bc bs : Nat} {o5 o6 : Option LV} {s0 : LMem} {Q : LPost} (hJ0 : zV s0) (hV0 : lp_V s0 k) (hb1 : 1 ≤ bc) (hb2 : 6 ≤ bs) (next : ∀ bc' bs' o5 o6 s', bc ≤ bc' + 1 → bs ≤ bs' + 6 → zV s' → (∀ i j, gI s' 65 i j = gI s0 65 i j) → qW false 1200 314 bc' bs' 2045 [some (lR 65 (some 0)), some (lR 0 (some 0)), some (lR 33 (some 0)), some (lR 58 (some 0)), some (lI (nI (7 * k))), o5, o6] [] s' Q) : qW false 1200 314 bc bs 1474 [some (lR 65 (some 0)), some (lR 0 (some 0)), some (lR 33 (some 0)), some (lR 58 (some 0)), some (lI (nI (7 * k))), o5, o6] [] s0 Q := by
  refine qa_t1_W (cut := [2045]) 120 ?_
  refine And.intro (hV0 1 (by decide)) ?_
  refine And.intro (hV0 2 (by decide)) ?_
  refine And.intro (hV0 3 (by decide)) ?_
  refine And.intro (hV0 4 (by decide)) ?_
  refine sfv_X11_sinks _ _ _ _ hJ0 (fun v1 s1 hJ1 hX1 => Exists.intro _ (And.intro rfl ?_))
  have hV1 := lp_tr hV0 hX1
  refine And.intro (hV1 1 (by decide)) ?_
  refine And.intro (hV1 2 (by decide)) ?_
  refine And.intro (hV1 3 (by decide)) ?_
  refine And.intro (hV1 4 (by decide)) ?_
  refine sfv_X12_sinks _ _ _ _ hJ1 (fun v2 s2 hJ2 hX2 => Exists.intro _ (And.intro rfl ?_))
  have hV2 := lp_tr hV1 hX2
  exact next bc bs _ _ s2 (by omega) (by omega) hJ2 (fun i j => (hX2 i j).trans (hX1 i j))
theorem lc_28 {k bc bs : Nat} {o5 o6 : Option LV} {s0 : LMem} {Q : LPost} (hJ0 : zV s0) (hV0 : lp_V s0 k) (hb1 : 1 ≤ bc) (hb2 : 6 ≤ bs) (next : ∀ bc' bs' o5 o6 s', bc ≤ bc' + 1 → bs ≤ bs' + 6 → zV s' → (∀ i j, gI s' 65 i j = gI s0 65 i j) → qW false 1200 314 bc' bs' 2045 [some (lR 65 (some 0)), some (lR 0 (some 0)), some (lR 33 (some 0)), some (lR 58 (some 0)), some (lI (nI (7 * k))), o5, o6] [] s' Q) : qW false 1200 314 bc bs 1535 [some (lR 65 (some 0)), some (lR 0 (some 0)), some (lR 33 (some 0)), some (lR 58 (some 0)), some (lI (nI (7 * k))), o5, o6] [] s0 Q := by
  refine qa_t1_W (cut := [2045]) 120 ?_
  refine And.intro (hV0 1 (by decide)) ?_
  refine And.intro (hV0 2 (by decide)) ?_
  refine And.intro (hV0 3 (by decide)) ?_
  refine sfv_X11_raised _ _ _ hJ0 (fun v1 s1 hJ1 hX1 => Exists.intro _ (And.intro rfl ?_))
  have hV1 := lp_tr hV0 hX1
  refine And.intro (hV1 1 (by decide)) ?_
  refine And.intro (hV1 2 (by decide)) ?_
  refine And.intro (hV1 3 (by decide)) ?_
  refine sfv_X12_raised _ _ _ hJ1 (fun v2 s2 hJ2 hX2 => Exists.intro _ (And.intro rfl ?_))
  have hV2 := lp_tr hV1 hX2
  exact next bc bs _ _ s2 (by omega) (by omega) hJ2 (fun i j => (hX2 i j).trans (hX1 i j))
theorem lc_29 {k bc bs : Nat} {o5 o6 : Option LV} {s0 : LMem} {Q : LPost} (hJ0 : zV s0) (hV0 : lp_V s0 k) (hb1 : 1 ≤ bc) (hb2 : 6 ≤ bs) (next : ∀ bc' bs' o5 o6 s', bc ≤ bc' + 1 → bs ≤ bs' + 6 → zV s' → (∀ i j, gI s' 65 i j = gI s0 65 i j) → qW false 1200 314 bc' bs' 2045 [some (lR 65 (some 0)), some (lR 0 (some 0)), some (lR 33 (some 0)), some (lR 58 (some 0)), some (lI (nI (7 * k))), o5, o6] [] s' Q) : qW false 1200 314 bc bs 1584 [some (lR 65 (some 0)), some (lR 0 (some 0)), some (lR 33 (some 0)), some (lR 58 (some 0)), some (lI (nI (7 * k))), o5, o6] [] s0 Q := by
  refine qa_t1_W (cut := [2045]) 120 ?_
  refine And.intro (hV0 1 (by decide)) ?_
  refine And.intro (hV0 2 (by decide)) ?_
  refine And.intro (hV0 3 (by decide)) ?_
  refine And.intro (hV0 4 (by decide)) ?_
  refine sfv_X11_every _ _ _ _ hJ0 (fun v1 s1 hJ1 hX1 => Exists.intro _ (And.intro rfl ?_))
  have hV1 := lp_tr hV0 hX1
  refine And.intro (hV1 1 (by decide)) ?_
  refine And.intro (hV1 2 (by decide)) ?_
  refine And.intro (hV1 3 (by decide)) ?_
  refine And.intro (hV1 4 (by decide)) ?_
  refine sfv_X12_every _ _ _ _ hJ1 (fun v2 s2 hJ2 hX2 => Exists.intro _ (And.intro rfl ?_))
  have hV2 := lp_tr hV1 hX2
  exact next bc bs _ _ s2 (by omega) (by omega) hJ2 (fun i j => (hX2 i j).trans (hX1 i j))
theorem lc_30 {k bc bs : Nat} {o5 o6 : Option LV} {s0 : LMem} {Q : LPost} (hJ0 : zV s0) (hV0 : lp_V s0 k) (hb1 : 1 ≤ bc) (hb2 : 6 ≤ bs) (next : ∀ bc' bs' o5 o6 s', bc ≤ bc' + 1 → bs ≤ bs' + 6 → zV s' → (∀ i j, gI s' 65 i j = gI s0 65 i j) → qW false 1200 314 bc' bs' 2045 [some (lR 65 (some 0)), some (lR 0 (some 0)), some (lR 33 (some 0)), some (lR 58 (some 0)), some (lI (nI (7 * k))), o5, o6] [] s' Q) : qW false 1200 314 bc bs 1645 [some (lR 65 (some 0)), some (lR 0 (some 0)), some (lR 33 (some 0)), some (lR 58 (some 0)), some (lI (nI (7 * k))), o5, o6] [] s0 Q := by
  refine qa_t1_W (cut := [2045]) 120 ?_
  refine And.intro (hV0 1 (by decide)) ?_
  refine And.intro (hV0 2 (by decide)) ?_
  refine And.intro (fun b0 => ?_) (fun b0 => ?_)
  · refine sfv_X11_order _ _ ⟨by decide, by decide⟩ hJ0 (fun v1 s1 hJ1 hX1 => Exists.intro _ (And.intro rfl ?_))
    have hV1 := lp_tr hV0 hX1
    refine And.intro (hV1 1 (by decide)) ?_
    refine And.intro (hV1 2 (by decide)) ?_
    refine And.intro (fun b1 => ?_) (fun b1 => ?_)
    · refine sfv_X12_order _ _ ⟨by decide, by decide⟩ hJ1 (fun v2 s2 hJ2 hX2 => Exists.intro _ (And.intro rfl ?_))
      have hV2 := lp_tr hV1 hX2
      exact next bc bs _ _ s2 (by omega) (by omega) hJ2 (fun i j => (hX2 i j).trans (hX1 i j))
    · refine sfv_X12_order _ _ ⟨by decide, by decide⟩ hJ1 (fun v2 s2 hJ2 hX2 => Exists.intro _ (And.intro rfl ?_))
      have hV2 := lp_tr hV1 hX2
      exact next bc bs _ _ s2 (by omega) (by omega) hJ2 (fun i j => (hX2 i j).trans (hX1 i j))
  · refine sfv_X11_order _ _ ⟨by decide, by decide⟩ hJ0 (fun v1 s1 hJ1 hX1 => Exists.intro _ (And.intro rfl ?_))
    have hV1 := lp_tr hV0 hX1
    refine And.intro (hV1 1 (by decide)) ?_
    refine And.intro (hV1 2 (by decide)) ?_
    refine And.intro (fun b1 => ?_) (fun b1 => ?_)
    · refine sfv_X12_order _ _ ⟨by decide, by decide⟩ hJ1 (fun v2 s2 hJ2 hX2 => Exists.intro _ (And.intro rfl ?_))
      have hV2 := lp_tr hV1 hX2
      exact next bc bs _ _ s2 (by omega) (by omega) hJ2 (fun i j => (hX2 i j).trans (hX1 i j))
    · refine sfv_X12_order _ _ ⟨by decide, by decide⟩ hJ1 (fun v2 s2 hJ2 hX2 => Exists.intro _ (And.intro rfl ?_))
      have hV2 := lp_tr hV1 hX2
      exact next bc bs _ _ s2 (by omega) (by omega) hJ2 (fun i j => (hX2 i j).trans (hX1 i j))
theorem lc_31 {k bc bs : Nat} {o5 o6 : Option LV} {s0 : LMem} {Q : LPost} (hJ0 : zV s0) (hV0 : lp_V s0 k) (hb1 : 1 ≤ bc) (hb2 : 6 ≤ bs) (next : ∀ bc' bs' o5 o6 s', bc ≤ bc' + 1 → bs ≤ bs' + 6 → zV s' → (∀ i j, gI s' 65 i j = gI s0 65 i j) → qW false 1200 314 bc' bs' 2045 [some (lR 65 (some 0)), some (lR 0 (some 0)), some (lR 33 (some 0)), some (lR 58 (some 0)), some (lI (nI (7 * k))), o5, o6] [] s' Q) : qW false 1200 314 bc bs 1698 [some (lR 65 (some 0)), some (lR 0 (some 0)), some (lR 33 (some 0)), some (lR 58 (some 0)), some (lI (nI (7 * k))), o5, o6] [] s0 Q := by
  refine qa_t1_W (cut := [2045]) 120 ?_
  refine And.intro (hV0 1 (by decide)) ?_
  refine sfv_X11_turn _ hJ0 (fun v1 s1 hJ1 hX1 => Exists.intro _ (And.intro rfl ?_))
  have hV1 := lp_tr hV0 hX1
  refine And.intro (hV1 1 (by decide)) ?_
  refine sfv_X12_turn _ hJ1 (fun v2 s2 hJ2 hX2 => Exists.intro _ (And.intro rfl ?_))
  have hV2 := lp_tr hV1 hX2
  exact next bc bs _ _ s2 (by omega) (by omega) hJ2 (fun i j => (hX2 i j).trans (hX1 i j))
theorem lc_32 {k bc bs : Nat} {o5 o6 : Option LV} {s0 : LMem} {Q : LPost} (hJ0 : zV s0) (hV0 : lp_V s0 k) (hb1 : 1 ≤ bc) (hb2 : 6 ≤ bs) (next : ∀ bc' bs' o5 o6 s', bc ≤ bc' + 1 → bs ≤ bs' + 6 → zV s' → (∀ i j, gI s' 65 i j = gI s0 65 i j) → qW false 1200 314 bc' bs' 2045 [some (lR 65 (some 0)), some (lR 0 (some 0)), some (lR 33 (some 0)), some (lR 58 (some 0)), some (lI (nI (7 * k))), o5, o6] [] s' Q) : qW false 1200 314 bc bs 1723 [some (lR 65 (some 0)), some (lR 0 (some 0)), some (lR 33 (some 0)), some (lR 58 (some 0)), some (lI (nI (7 * k))), o5, o6] [] s0 Q := by
  refine qa_t1_W (cut := [2045]) 120 ?_
  refine And.intro (hV0 1 (by decide)) ?_
  refine And.intro (hV0 2 (by decide)) ?_
  refine And.intro (hV0 3 (by decide)) ?_
  refine sfv_X11_whose _ _ _ hJ0 (fun v1 s1 hJ1 hX1 => Exists.intro _ (And.intro rfl ?_))
  have hV1 := lp_tr hV0 hX1
  refine And.intro (hV1 1 (by decide)) ?_
  refine And.intro (hV1 2 (by decide)) ?_
  refine And.intro (hV1 3 (by decide)) ?_
  refine sfv_X12_whose _ _ _ hJ1 (fun v2 s2 hJ2 hX2 => Exists.intro _ (And.intro rfl ?_))
  have hV2 := lp_tr hV1 hX2
  exact next bc bs _ _ s2 (by omega) (by omega) hJ2 (fun i j => (hX2 i j).trans (hX1 i j))
theorem lc_33 {k bc bs : Nat} {o5 o6 : Option LV} {s0 : LMem} {Q : LPost} (hJ0 : zV s0) (hV0 : lp_V s0 k) (hb1 : 1 ≤ bc) (hb2 : 6 ≤ bs) (next : ∀ bc' bs' o5 o6 s', bc ≤ bc' + 1 → bs ≤ bs' + 6 → zV s' → (∀ i j, gI s' 65 i j = gI s0 65 i j) → qW false 1200 314 bc' bs' 2045 [some (lR 65 (some 0)), some (lR 0 (some 0)), some (lR 33 (some 0)), some (lR 58 (some 0)), some (lI (nI (7 * k))), o5, o6] [] s' Q) : qW false 1200 314 bc bs 1772 [some (lR 65 (some 0)), some (lR 0 (some 0)), some (lR 33 (some 0)), some (lR 58 (some 0)), some (lI (nI (7 * k))), o5, o6] [] s0 Q := by
  refine qa_t1_W (cut := [2045]) 120 ?_
  refine And.intro (hV0 1 (by decide)) ?_
  refine sfv_X11_work _ hJ0 (fun v1 s1 hJ1 hX1 => Exists.intro _ (And.intro rfl ?_))
  have hV1 := lp_tr hV0 hX1
  refine And.intro (hV1 1 (by decide)) ?_
  refine sfv_X12_work _ hJ1 (fun v2 s2 hJ2 hX2 => Exists.intro _ (And.intro rfl ?_))
  have hV2 := lp_tr hV1 hX2
  exact next bc bs _ _ s2 (by omega) (by omega) hJ2 (fun i j => (hX2 i j).trans (hX1 i j))
theorem lc_34 {k bc bs : Nat} {o5 o6 : Option LV} {s0 : LMem} {Q : LPost} (hJ0 : zV s0) (hV0 : lp_V s0 k) (hb1 : 1 ≤ bc) (hb2 : 6 ≤ bs) (next : ∀ bc' bs' o5 o6 s', bc ≤ bc' + 1 → bs ≤ bs' + 6 → zV s' → (∀ i j, gI s' 65 i j = gI s0 65 i j) → qW false 1200 314 bc' bs' 2045 [some (lR 65 (some 0)), some (lR 0 (some 0)), some (lR 33 (some 0)), some (lR 58 (some 0)), some (lI (nI (7 * k))), o5, o6] [] s' Q) : qW false 1200 314 bc bs 1797 [some (lR 65 (some 0)), some (lR 0 (some 0)), some (lR 33 (some 0)), some (lR 58 (some 0)), some (lI (nI (7 * k))), o5, o6] [] s0 Q := by
  refine qa_t1_W (cut := [2045]) 120 ?_
  refine And.intro (hV0 1 (by decide)) ?_
  refine And.intro (hV0 2 (by decide)) ?_
  refine sfv_X11_notch _ _ hJ0 (fun v1 s1 hJ1 hX1 => Exists.intro _ (And.intro rfl ?_))
  have hV1 := lp_tr hV0 hX1
  refine And.intro (hV1 1 (by decide)) ?_
  refine And.intro (hV1 2 (by decide)) ?_
  refine sfv_X12_notch _ _ hJ1 (fun v2 s2 hJ2 hX2 => Exists.intro _ (And.intro rfl ?_))
  have hV2 := lp_tr hV1 hX2
  exact next bc bs _ _ s2 (by omega) (by omega) hJ2 (fun i j => (hX2 i j).trans (hX1 i j))
theorem lc_35 {k bc bs : Nat} {o5 o6 : Option LV} {s0 : LMem} {Q : LPost} (hJ0 : zV s0) (hV0 : lp_V s0 k) (hb1 : 1 ≤ bc) (hb2 : 6 ≤ bs) (next : ∀ bc' bs' o5 o6 s', bc ≤ bc' + 1 → bs ≤ bs' + 6 → zV s' → (∀ i j, gI s' 65 i j = gI s0 65 i j) → qW false 1200 314 bc' bs' 2045 [some (lR 65 (some 0)), some (lR 0 (some 0)), some (lR 33 (some 0)), some (lR 58 (some 0)), some (lI (nI (7 * k))), o5, o6] [] s' Q) : qW false 1200 314 bc bs 1834 [some (lR 65 (some 0)), some (lR 0 (some 0)), some (lR 33 (some 0)), some (lR 58 (some 0)), some (lI (nI (7 * k))), o5, o6] [] s0 Q := by
  refine qa_t1_W (cut := [2045]) 120 ?_
  refine And.intro (hV0 1 (by decide)) ?_
  refine And.intro (hV0 2 (by decide)) ?_
  refine sfv_X11_hit _ _ hJ0 (fun v1 s1 hJ1 hX1 => Exists.intro _ (And.intro rfl ?_))
  have hV1 := lp_tr hV0 hX1
  refine And.intro (hV1 1 (by decide)) ?_
  refine And.intro (hV1 2 (by decide)) ?_
  refine sfv_X12_hit _ _ hJ1 (fun v2 s2 hJ2 hX2 => Exists.intro _ (And.intro rfl ?_))
  have hV2 := lp_tr hV1 hX2
  exact next bc bs _ _ s2 (by omega) (by omega) hJ2 (fun i j => (hX2 i j).trans (hX1 i j))
theorem lc_36 {k bc bs : Nat} {o5 o6 : Option LV} {s0 : LMem} {Q : LPost} (hJ0 : zV s0) (hV0 : lp_V s0 k) (hb1 : 1 ≤ bc) (hb2 : 6 ≤ bs) (next : ∀ bc' bs' o5 o6 s', bc ≤ bc' + 1 → bs ≤ bs' + 6 → zV s' → (∀ i j, gI s' 65 i j = gI s0 65 i j) → qW false 1200 314 bc' bs' 2045 [some (lR 65 (some 0)), some (lR 0 (some 0)), some (lR 33 (some 0)), some (lR 58 (some 0)), some (lI (nI (7 * k))), o5, o6] [] s' Q) : qW false 1200 314 bc bs 1871 [some (lR 65 (some 0)), some (lR 0 (some 0)), some (lR 33 (some 0)), some (lR 58 (some 0)), some (lI (nI (7 * k))), o5, o6] [] s0 Q := by
  refine qa_t1_W (cut := [2045]) 120 ?_
  refine And.intro (hV0 1 (by decide)) ?_
  refine sfv_X11_longest _ hJ0 (fun v1 s1 hJ1 hX1 => Exists.intro _ (And.intro rfl ?_))
  have hV1 := lp_tr hV0 hX1
  refine And.intro (hV1 1 (by decide)) ?_
  refine sfv_X12_longest _ hJ1 (fun v2 s2 hJ2 hX2 => Exists.intro _ (And.intro rfl ?_))
  have hV2 := lp_tr hV1 hX2
  exact next bc bs _ _ s2 (by omega) (by omega) hJ2 (fun i j => (hX2 i j).trans (hX1 i j))
theorem lc_37 {k bc bs : Nat} {o5 o6 : Option LV} {s0 : LMem} {Q : LPost} (hJ0 : zV s0) (hV0 : lp_V s0 k) (hb1 : 1 ≤ bc) (hb2 : 6 ≤ bs) (next : ∀ bc' bs' o5 o6 s', bc ≤ bc' + 1 → bs ≤ bs' + 6 → zV s' → (∀ i j, gI s' 65 i j = gI s0 65 i j) → qW false 1200 314 bc' bs' 2045 [some (lR 65 (some 0)), some (lR 0 (some 0)), some (lR 33 (some 0)), some (lR 58 (some 0)), some (lI (nI (7 * k))), o5, o6] [] s' Q) : qW false 1200 314 bc bs 1896 [some (lR 65 (some 0)), some (lR 0 (some 0)), some (lR 33 (some 0)), some (lR 58 (some 0)), some (lI (nI (7 * k))), o5, o6] [] s0 Q := by
  refine qa_t1_W (cut := [2045]) 120 ?_
  refine And.intro (hV0 1 (by decide)) ?_
  refine And.intro (hV0 2 (by decide)) ?_
  refine And.intro (hV0 3 (by decide)) ?_
  refine And.intro (hV0 4 (by decide)) ?_
  refine sfv_X11_banks _ _ _ _ hJ0 (fun v1 s1 hJ1 hX1 => Exists.intro _ (And.intro rfl ?_))
  have hV1 := lp_tr hV0 hX1
  refine And.intro (hV1 1 (by decide)) ?_
  refine And.intro (hV1 2 (by decide)) ?_
  refine And.intro (hV1 3 (by decide)) ?_
  refine And.intro (hV1 4 (by decide)) ?_
  refine sfv_X12_banks _ _ _ _ hJ1 (fun v2 s2 hJ2 hX2 => Exists.intro _ (And.intro rfl ?_))
  have hV2 := lp_tr hV1 hX2
  exact next bc bs _ _ s2 (by omega) (by omega) hJ2 (fun i j => (hX2 i j).trans (hX1 i j))
theorem lc_38 {k bc bs : Nat} {o5 o6 : Option LV} {s0 : LMem} {Q : LPost} (hJ0 : zV s0) (hV0 : lp_V s0 k) (hb1 : 1 ≤ bc) (hb2 : 6 ≤ bs) (next : ∀ bc' bs' o5 o6 s', bc ≤ bc' + 1 → bs ≤ bs' + 6 → zV s' → (∀ i j, gI s' 65 i j = gI s0 65 i j) → qW false 1200 314 bc' bs' 2045 [some (lR 65 (some 0)), some (lR 0 (some 0)), some (lR 33 (some 0)), some (lR 58 (some 0)), some (lI (nI (7 * k))), o5, o6] [] s' Q) : qW false 1200 314 bc bs 1957 [some (lR 65 (some 0)), some (lR 0 (some 0)), some (lR 33 (some 0)), some (lR 58 (some 0)), some (lI (nI (7 * k))), o5, o6] [] s0 Q := by
  refine qa_t1_W (cut := [2045]) 120 ?_
  refine And.intro (hV0 1 (by decide)) ?_
  refine And.intro (hV0 2 (by decide)) ?_
  refine sfv_X11_rise _ _ hJ0 (fun v1 s1 hJ1 hX1 => Exists.intro _ (And.intro rfl ?_))
  have hV1 := lp_tr hV0 hX1
  refine And.intro (hV1 1 (by decide)) ?_
  refine And.intro (hV1 2 (by decide)) ?_
  refine sfv_X12_rise _ _ hJ1 (fun v2 s2 hJ2 hX2 => Exists.intro _ (And.intro rfl ?_))
  have hV2 := lp_tr hV1 hX2
  exact next bc bs _ _ s2 (by omega) (by omega) hJ2 (fun i j => (hX2 i j).trans (hX1 i j))
theorem lc_39 {k bc bs : Nat} {o5 o6 : Option LV} {s0 : LMem} {Q : LPost} (hJ0 : zV s0) (hV0 : lp_V s0 k) (hb1 : 1 ≤ bc) (hb2 : 6 ≤ bs) (next : ∀ bc' bs' o5 o6 s', bc ≤ bc' + 1 → bs ≤ bs' + 6 → zV s' → (∀ i j, gI s' 65 i j = gI s0 65 i j) → qW false 1200 314 bc' bs' 2045 [some (lR 65 (some 0)), some (lR 0 (some 0)), some (lR 33 (some 0)), some (lR 58 (some 0)), some (lI (nI (7 * k))), o5, o6] [] s' Q) : qW false 1200 314 bc bs 1994 [some (lR 65 (some 0)), some (lR 0 (some 0)), some (lR 33 (some 0)), some (lR 58 (some 0)), some (lI (nI (7 * k))), o5, o6] [] s0 Q := by
  refine qa_t1_W (cut := [2045]) 120 ?_
  refine prb_image hJ0 (fun v1 s1 hJ1 hX1 c2 => Exists.intro v1 (And.intro rfl ?_))
  have hV1 := lp_tr hV0 hX1
  refine qC_mono (c2) (fun r s2 hq => ?_)
  obtain ⟨er, hJ2, hX2⟩ := hq
  refine Exists.intro _ (And.intro er ?_)
  have hV2 := lp_tr hV1 hX2
  exact next bc bs _ _ s2 (by omega) (by omega) hJ2 (fun i j => (hX2 i j).trans (hX1 i j))
theorem lc_40 {k bc bs : Nat} {o5 o6 : Option LV} {s0 : LMem} {Q : LPost} (hJ0 : zV s0) (hV0 : lp_V s0 k) (hb1 : 1 ≤ bc) (hb2 : 6 ≤ bs) (next : ∀ bc' bs' o5 o6 s', bc ≤ bc' + 1 → bs ≤ bs' + 6 → zV s' → (∀ i j, gI s' 65 i j = gI s0 65 i j) → qW false 1200 314 bc' bs' 2045 [some (lR 65 (some 0)), some (lR 0 (some 0)), some (lR 33 (some 0)), some (lR 58 (some 0)), some (lI (nI (7 * k))), o5, o6] [] s' Q) : qW false 1200 314 bc bs 2007 [some (lR 65 (some 0)), some (lR 0 (some 0)), some (lR 33 (some 0)), some (lR 58 (some 0)), some (lI (nI (7 * k))), o5, o6] [] s0 Q := by
  refine qa_t1_W (cut := [2045]) 120 ?_
  refine prb_back hJ0 (fun v1 s1 hJ1 hX1 c2 => Exists.intro v1 (And.intro rfl ?_))
  have hV1 := lp_tr hV0 hX1
  refine qC_mono (c2) (fun r s2 hq => ?_)
  obtain ⟨er, hJ2, hX2⟩ := hq
  refine Exists.intro _ (And.intro er ?_)
  have hV2 := lp_tr hV1 hX2
  exact next bc bs _ _ s2 (by omega) (by omega) hJ2 (fun i j => (hX2 i j).trans (hX1 i j))
theorem lc_41 {k bc bs : Nat} {o5 o6 : Option LV} {s0 : LMem} {Q : LPost} (hJ0 : zV s0) (hV0 : lp_V s0 k) (hb1 : 1 ≤ bc) (hb2 : 6 ≤ bs) (next : ∀ bc' bs' o5 o6 s', bc ≤ bc' + 1 → bs ≤ bs' + 6 → zV s' → (∀ i j, gI s' 65 i j = gI s0 65 i j) → qW false 1200 314 bc' bs' 2045 [some (lR 65 (some 0)), some (lR 0 (some 0)), some (lR 33 (some 0)), some (lR 58 (some 0)), some (lI (nI (7 * k))), o5, o6] [] s' Q) : qW false 1200 314 bc bs 2020 [some (lR 65 (some 0)), some (lR 0 (some 0)), some (lR 33 (some 0)), some (lR 58 (some 0)), some (lI (nI (7 * k))), o5, o6] [] s0 Q := by
  refine qa_t1_W (cut := [2045]) 120 ?_
  refine And.intro (hV0 1 (by decide)) ?_
  refine prb_count hJ0 (fun v1 s1 hJ1 hX1 c2 => Exists.intro v1 (And.intro rfl ?_))
  have hV1 := lp_tr hV0 hX1
  refine And.intro (hV1 1 (by decide)) ?_
  refine qC_mono (c2 _ (hX1 _ _)) (fun r s2 hq => ?_)
  obtain ⟨er, hJ2, hX2⟩ := hq
  refine Exists.intro _ (And.intro er ?_)
  have hV2 := lp_tr hV1 hX2
  exact next bc bs _ _ s2 (by omega) (by omega) hJ2 (fun i j => (hX2 i j).trans (hX1 i j))
