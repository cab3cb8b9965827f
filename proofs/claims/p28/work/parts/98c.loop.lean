/-! THE LAW'S LOOP. -/
theorem lp_sw {k bc bs : Nat} {v : Int32} {o5 o6 : Option LV} {s0 : LMem} {Q : LPost} (hJ : zV s0) (hV : lp_V s0 k) (hb1 : 1 ≤ bc) (hb2 : 6 ≤ bs) (next : ∀ bc' bs' o5 o6 s', bc ≤ bc' + 1 → bs ≤ bs' + 6 → zV s' → (∀ i j, gI s' 65 i j = gI s0 65 i j) → qW false 1200 314 bc' bs' 2045 [some (lR 65 (some 0)), some (lR 0 (some 0)), some (lR 33 (some 0)), some (lR 58 (some 0)), some (lI (nI (7 * k))), o5, o6] [] s' Q) : qW false 1200 314 bc bs 40 [some (lR 65 (some 0)), some (lR 0 (some 0)), some (lR 33 (some 0)), some (lR 58 (some 0)), some (lI (nI (7 * k))), o5, o6] [lI v] s0 Q := by
  refine qa_t1_W (cut := [224, 297, 322, 347, 372, 424, 461, 498, 591, 616, 641, 678, 703, 740, 765, 818, 867, 916, 941, 978, 1065, 1138, 1199, 1236, 1301, 1338, 1425, 1474, 1535, 1584, 1645, 1698, 1723, 1772, 1797, 1834, 1871, 1896, 1957, 1994, 2007, 2020, 2045]) 5 ?_
  refine And.intro (fun _ => lc_0 hJ hV hb1 hb2 next) (fun _ => ?_)
  refine And.intro (fun _ => lc_1 hJ hV hb1 hb2 next) (fun _ => ?_)
  refine And.intro (fun _ => lc_2 hJ hV hb1 hb2 next) (fun _ => ?_)
  refine And.intro (fun _ => lc_3 hJ hV hb1 hb2 next) (fun _ => ?_)
  refine And.intro (fun _ => lc_4 hJ hV hb1 hb2 next) (fun _ => ?_)
  refine And.intro (fun _ => lc_5 hJ hV hb1 hb2 next) (fun _ => ?_)
  refine And.intro (fun _ => lc_6 hJ hV hb1 hb2 next) (fun _ => ?_)
  refine And.intro (fun _ => lc_7 hJ hV hb1 hb2 next) (fun _ => ?_)
  refine And.intro (fun _ => lc_8 hJ hV hb1 hb2 next) (fun _ => ?_)
  refine And.intro (fun _ => lc_9 hJ hV hb1 hb2 next) (fun _ => ?_)
  refine And.intro (fun _ => lc_10 hJ hV hb1 hb2 next) (fun _ => ?_)
  refine And.intro (fun _ => lc_11 hJ hV hb1 hb2 next) (fun _ => ?_)
  refine And.intro (fun _ => lc_12 hJ hV hb1 hb2 next) (fun _ => ?_)
  refine And.intro (fun _ => lc_13 hJ hV hb1 hb2 next) (fun _ => ?_)
  refine And.intro (fun _ => lc_14 hJ hV hb1 hb2 next) (fun _ => ?_)
  refine And.intro (fun _ => lc_15 hJ hV hb1 hb2 next) (fun _ => ?_)
  refine And.intro (fun _ => lc_16 hJ hV hb1 hb2 next) (fun _ => ?_)
  refine And.intro (fun _ => lc_17 hJ hV hb1 hb2 next) (fun _ => ?_)
  refine And.intro (fun _ => lc_18 hJ hV hb1 hb2 next) (fun _ => ?_)
  refine And.intro (fun _ => lc_19 hJ hV hb1 hb2 next) (fun _ => ?_)
  refine And.intro (fun _ => lc_20 hJ hV hb1 hb2 next) (fun _ => ?_)
  refine And.intro (fun _ => lc_21 hJ hV hb1 hb2 next) (fun _ => ?_)
  refine And.intro (fun _ => lc_22 hJ hV hb1 hb2 next) (fun _ => ?_)
  refine And.intro (fun _ => lc_23 hJ hV hb1 hb2 next) (fun _ => ?_)
  refine And.intro (fun _ => lc_24 hJ hV hb1 hb2 next) (fun _ => ?_)
  refine And.intro (fun _ => lc_25 hJ hV hb1 hb2 next) (fun _ => ?_)
  refine And.intro (fun _ => lc_26 hJ hV hb1 hb2 next) (fun _ => ?_)
  refine And.intro (fun _ => lc_27 hJ hV hb1 hb2 next) (fun _ => ?_)
  refine And.intro (fun _ => lc_28 hJ hV hb1 hb2 next) (fun _ => ?_)
  refine And.intro (fun _ => lc_29 hJ hV hb1 hb2 next) (fun _ => ?_)
  refine And.intro (fun _ => lc_30 hJ hV hb1 hb2 next) (fun _ => ?_)
  refine And.intro (fun _ => lc_31 hJ hV hb1 hb2 next) (fun _ => ?_)
  refine And.intro (fun _ => lc_32 hJ hV hb1 hb2 next) (fun _ => ?_)
  refine And.intro (fun _ => lc_33 hJ hV hb1 hb2 next) (fun _ => ?_)
  refine And.intro (fun _ => lc_34 hJ hV hb1 hb2 next) (fun _ => ?_)
  refine And.intro (fun _ => lc_35 hJ hV hb1 hb2 next) (fun _ => ?_)
  refine And.intro (fun _ => lc_36 hJ hV hb1 hb2 next) (fun _ => ?_)
  refine And.intro (fun _ => lc_37 hJ hV hb1 hb2 next) (fun _ => ?_)
  refine And.intro (fun _ => lc_38 hJ hV hb1 hb2 next) (fun _ => ?_)
  refine And.intro (fun _ => lc_39 hJ hV hb1 hb2 next) (fun _ => ?_)
  refine And.intro (fun _ => lc_40 hJ hV hb1 hb2 next) (fun _ => ?_)
  refine And.intro (fun _ => lc_41 hJ hV hb1 hb2 next) (fun _ => ?_)
  exact next bc bs _ _ s0 (by omega) (by omega) hJ (fun _ _ => rfl)
theorem lp_23 {L : Nat} (hL : L ≤ 3584) : ∀ f k bc bs o5 o6 s, L < f + 7 * k → L ≤ 7 * bc + 7 * k → 6 * L ≤ 7 * bs + 42 * k → 7 * k ≤ L + 7 → zV s → gI s 65 1 0 = nI L → qW false 1200 314 bc bs 23 [some (lR 65 (some 0)), some (lR 0 (some 0)), some (lR 33 (some 0)), some (lR 58 (some 0)), some (lI (nI (7 * k))), o5, o6] [] s (fun r _ => r = some (lI 1)) := by
  have t7 : (7 : Int32).toInt = 7 := by decide
  have sub : (nI L - 7).toInt = (L : Int) - 7 := by
    rw [y_subI, nI_toInt (by omega), t7]
    · rw [nI_toInt (by omega), t7]; omega
    · rw [nI_toInt (by omega), t7]; omega
  have gone : ∀ k s, 7 * k ≤ L + 7 → gI s 65 1 0 = nI L → ¬ (gI s 65 1 0 - 7 < nI (7 * k)) → 7 * k + 7 ≤ L := fun k s hk hs c => by
    rw [hs] at c
    have c : ¬ (nI L - 7).toInt < (nI (7 * k)).toInt := fun q => c (Int32.lt_iff_toInt_lt.mpr q)
    rw [sub, nI_toInt (by omega)] at c
    omega
  have tail : ∀ k bc bs o5 o6 s, L ≤ 7 * bc + 7 * k → 6 * L ≤ 7 * bs + 42 * k → 7 * k ≤ L + 7 → zV s → gI s 65 1 0 = nI L → (7 * k + 7 ≤ L → ∀ bc' bs' o5 o6 s', bc ≤ bc' + 1 → bs ≤ bs' + 6 → zV s' → (∀ i j, gI s' 65 i j = gI s 65 i j) → qW false 1200 314 bc' bs' 2045 [some (lR 65 (some 0)), some (lR 0 (some 0)), some (lR 33 (some 0)), some (lR 58 (some 0)), some (lI (nI (7 * k))), o5, o6] [] s' (fun r _ => r = some (lI 1))) → qW false 1200 314 bc bs 23 [some (lR 65 (some 0)), some (lR 0 (some 0)), some (lR 33 (some 0)), some (lR 58 (some 0)), some (lI (nI (7 * k))), o5, o6] [] s (fun r _ => r = some (lI 1)) := fun k bc bs o5 o6 s hc1 hc2 hk hJ hs next => by
    refine qa_t1_W (cut := [40]) 30 ?_
    refine And.intro (fun _ => And.intro (Or.inr rfl) rfl) (fun c => ?_)
    have c7 := gone k s hk hs c
    have hV : lp_V s k := fun c hc => by
      rw [hs, nI_add, nI_clamp (by omega)]
      exact nI_in (by omega) (by omega)
    have v0 : qa_vin (nI (7 * k)) (gI s 65 1 0).toNatClampNeg := by
      rw [hs, nI_clamp (by omega)]
      exact nI_in (by omega) (by omega)
    refine And.intro v0 ?_
    exact lp_sw hJ hV (by omega) (by omega) (next c7)
  intro f
  induction f with
  | zero =>
    intro k bc bs o5 o6 s hf hc1 hc2 hk hJ hs
    exact tail k bc bs o5 o6 s hc1 hc2 hk hJ hs (fun c => absurd hf (by omega))
  | succ f ih =>
    intro k bc bs o5 o6 s hf hc1 hc2 hk hJ hs
    refine tail k bc bs o5 o6 s hc1 hc2 hk hJ hs (fun c bc' bs' o5 o6 s' hb1 hb2 hJ' hX => ?_)
    have go : qW false 1200 314 bc' bs' 23 [some (lR 65 (some 0)), some (lR 0 (some 0)), some (lR 33 (some 0)), some (lR 58 (some 0)), some (lI (nI (7 * k) + 7)), o5, o6] [] s' (fun r _ => r = some (lI 1)) := by
      rw [show (7 : Int32) = nI 7 from rfl, nI_add, show 7 * k + 7 = 7 * (k + 1) by omega]
      exact ih (k + 1) bc' bs' o5 o6 s' (by omega) (by omega) (by omega) (by omega) hJ' ((hX 1 0).trans hs)
    refine qa_t1_W (cut := [23]) 5 ?_
    exact go
theorem y_B_0 : ((List.range 60).all fun k => (y_B k).all fun r => decide (r.2.2.1 ≤ 0) && decide (0 ≤ r.2.2.2)) = true := by decide +kernel
theorem y_B_nz : (qx_nz.all fun q => (y_B q.1).all fun r => decide ((q.2 : Int) < r.1) || decide (r.2.1 < (q.2 : Int))) = true := by decide +kernel
theorem y_B_60 {k : Nat} (h : 60 ≤ k) : y_B k = [] := by
  have h1 : ∀ c, c < 60 → Nat.beq k c = false := fun c hc => by
    cases e : Nat.beq k c with
    | false => rfl
    | true =>
      have := Nat.eq_of_beq_eq_true e
      omega
  have h2 : ∀ c, c < 60 → Nat.ble c k = true := fun c hc => Nat.ble_eq_true_of_le (by omega)
  unfold y_B
  repeat (first | rw [h2 _ (by decide)] | rw [h1 _ (by decide)] | dsimp only [cond])
theorem lp_J0 (xs : Nat → Int32) (L : Int32) : y_J x_X (qx_0 xs L) := by
  have z : ∀ k j, k < 60 → qx_ini k 0 j = 0 → xI (qx_0 xs L) k j = 0 := fun k j h1 h2 => by
    show (if k < 60 then qx_ini k 0 j else qx_B xs L k 0 j).toInt = 0
    rw [if_pos h1, h2]
    decide
  have e13 : xI (qx_0 xs L) 33 13 = 0 := z 33 13 (by decide) (by decide)
  have e21 : xI (qx_0 xs L) 33 21 = 0 := z 33 21 (by decide) (by decide)
  have row : ∀ k, (k = 48 ∨ k = 49 ∨ k = 50) → x_row (qx_0 xs L) k := fun k hk => by
    have f : ∀ j, xI (qx_0 xs L) k j = 0 := fun j => z k j (by omega) (by
      unfold qx_ini
      rw [if_pos rfl, if_neg (by omega), if_neg (by omega), if_neg (by omega), if_neg (by omega), if_neg (by omega)])
    refine ⟨fun r h1 _ => ?_, fun q => ?_, fun _ => ?_⟩
    · rw [f] at h1
      omega
    · rw [f] at q
      exact absurd rfl q
    · rw [f, f, e13]
      decide
  refine ⟨fun k i j r hr g1 g2 => ?_, ⟨fun i q hq => ?_, fun i q hq => ?_, fun i q hq => ?_, fun i q hq => ?_⟩, fun n h1 _ => ?_, fun n h1 _ => ?_, row 48 (Or.inl rfl), row 49 (Or.inr (Or.inl rfl)), row 50 (Or.inr (Or.inr rfl)), fun q => ?_⟩
  · by_cases hk : k < 60
    · show r.2.2.1 ≤ (if k < 60 then qx_ini k i j else qx_B xs L k i j).toInt ∧ (if k < 60 then qx_ini k i j else qx_B xs L k i j).toInt ≤ r.2.2.2
      rw [if_pos hk]
      by_cases e : qx_ini k i j = 0
      · have h2 := List.all_eq_true.mp (List.all_eq_true.mp y_B_0 k (List.mem_range.mpr hk)) r hr
        obtain ⟨h3, h4⟩ := qa_and h2
        have h3 := of_decide_eq_true h3
        have h4 := of_decide_eq_true h4
        rw [e]
        exact ⟨h3, h4⟩
      · have h1 := (qx_ini_nz e).2
        have h2 := List.all_eq_true.mp (List.all_eq_true.mp y_B_nz (k, j) h1) r hr
        rcases (Bool.or_eq_true _ _).mp h2 with h3 | h3
        · have h3 : (j : Int) < r.1 := of_decide_eq_true h3
          omega
        · have h3 : r.2.1 < (j : Int) := of_decide_eq_true h3
          omega
    · rw [y_B_60 (by omega)] at hr
      exact absurd hr List.not_mem_nil
  · cases hq
  · cases hq
  · cases hq
  · cases hq
  · rw [e13] at h1
    omega
  · rw [e21] at h1
    omega
  · exact absurd (z 33 35 (by decide) (by decide)) q
theorem lp_R0 (xs : Nat → Int32) (L : Int32) : RT (qx_0 xs L) := by
  have z : ∀ k j, k < 60 → qx_ini k 0 j = 0 → gI (qx_0 xs L) k 0 j = 0 := fun k j h1 h2 => by
    show (if k < 60 then qx_ini k 0 j else qx_B xs L k 0 j) = 0
    rw [if_pos h1, h2]
  have f : ∀ k j, k = 2 ∨ k = 34 ∨ k = 15 → qx_ini k 0 j = 0 := fun k j hk => by
    unfold qx_ini
    rw [if_pos rfl, if_neg (by omega), if_neg (by omega), if_neg (by omega), if_neg (by omega), if_neg (by omega)]
  refine ⟨0, Nat.zero_le _, (z 1 1 (by decide) (by decide)).trans rfl, (z 33 2 (by decide) (by decide)).trans rfl, funext fun j => (z 2 j (by decide) (f 2 j (by omega))).trans (z 34 j (by decide) (f 34 j (by omega))).symm, fun j hj => absurd hj (Nat.not_lt_zero _), ?_, ?_, ?_⟩
  · rw [z 15 0 (by decide) (by decide), z 33 21 (by decide) (by decide)]
  · rw [z 15 1 (by decide) (by decide), z 33 13 (by decide) (by decide)]
  · rw [z 15 2 (by decide) (by decide), z 33 22 (by decide) (by decide)]
theorem lp_C0 (xs : Nat → Int32) (L : Int32) : RC (qx_0 xs L) := by
  have z : ∀ k j, k < 60 → qx_ini k 0 j = 0 → gI (qx_0 xs L) k 0 j = 0 := fun k j h1 h2 => by
    show (if k < 60 then qx_ini k 0 j else qx_B xs L k 0 j) = 0
    rw [if_pos h1, h2]
  unfold RC
  rw [z 33 21 (by decide) (by decide), z 33 22 (by decide) (by decide)]
  exact ⟨fun dd hd => absurd hd (Nat.not_lt_zero _), fun r hr => absurd hr (Nat.not_lt_zero _)⟩
theorem lp_D0 (xs : Nat → Int32) (L : Int32) : RD (qx_0 xs L) := by
  have g : ∀ k j, k < 60 → gI (qx_0 xs L) k 0 j = qx_ini k 0 j := fun k j h1 => by
    show (if k < 60 then qx_ini k 0 j else qx_B xs L k 0 j) = qx_ini k 0 j
    rw [if_pos h1]
  refine ⟨fun j hj => ?_, (g 33 37 (by decide)).trans rfl, Or.inl ⟨(g 33 35 (by decide)).trans rfl, rfl, (g 17 5 (by decide)).trans rfl⟩, Or.inl ⟨(g 33 36 (by decide)).trans rfl, rfl, ?_⟩, fun q => ?_⟩
  · rcases (show j = 0 ∨ j = 1 ∨ j = 2 by omega) with rfl | rfl | rfl
    · exact (g 16 0 (by decide)).trans (g 33 23 (by decide)).symm
    · exact (g 16 1 (by decide)).trans (g 33 24 (by decide)).symm
    · exact (g 16 2 (by decide)).trans (g 33 25 (by decide)).symm
  · rfl
  · rw [g 33 36 (by decide)] at q
    exact absurd q (by decide)
theorem lp_L0 (xs : Nat → Int32) (L : Int32) : RLw (qx_0 xs L) := by
  have z : ∀ k j, k < 60 → qx_ini k 0 j = 0 → gI (qx_0 xs L) k 0 j = 0 := fun k j h1 h2 => by
    show (if k < 60 then qx_ini k 0 j else qx_B xs L k 0 j) = 0
    rw [if_pos h1, h2]
  unfold RLw
  rw [z 33 13 (by decide) (by decide)]
  exact fun n hn => absurd hn (Nat.not_lt_zero _)
theorem lp_B0 (xs : Nat → Int32) (L : Int32) : RB (qx_0 xs L) := by
  have g : ∀ k j, k < 60 → gI (qx_0 xs L) k 0 j = qx_ini k 0 j := fun k j h1 => by
    show (if k < 60 then qx_ini k 0 j else qx_B xs L k 0 j) = qx_ini k 0 j
    rw [if_pos h1]
  unfold RB RBw
  rw [g 33 21 (by decide), g 33 22 (by decide), g 33 23 (by decide), g 33 24 (by decide), g 33 25 (by decide)]
  exact ⟨fun dd hd => absurd hd (Nat.not_lt_zero _), fun r hr => absurd hr (Nat.not_lt_zero _), by decide, by decide, Or.inl (by decide)⟩
theorem lp_ok : qs_loopOK := fun xs L hL => by
  have h := lp_23 hL (L + 1) 0 666 6845 none none (qx_0 xs (Int32.ofNat L)) (by omega) (by omega) (by omega) (by omega) ⟨⟨⟨⟨⟨lp_J0 xs _, lp_R0 xs _⟩, lp_C0 xs _⟩, lp_D0 xs _⟩, lp_L0 xs _⟩, lp_B0 xs _⟩ rfl
  exact h


