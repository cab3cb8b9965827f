/-! A DAY, what is dug: both sides, by what they count. -/
section DD
variable {d : Nat} {s : LMem} {Q : LPost}
theorem h_isDug {i : Nat} (h1 : ¬ gR s 17 i 4 = none → Q (some (lI 1)) s) (h0 : gR s 17 i 4 = none → Q (some (lI 0)) s) : qC false (d + 1) 8 [lR 17 (some i)] s Q := by
  have st : ∀ bc bs o, gR s 17 i 4 = o → qW false d 8 bc bs 4 [some (lR 17 (some i))] [lR 21 o] s Q := fun bc bs o e => by
    cases o with
    | none =>
      refine qa_t1_W (cut := []) 10 ?_
      exact And.intro (Or.inl rfl) (h0 e)
    | some a =>
      refine qa_t1_W (cut := []) 10 ?_
      exact And.intro (Or.inr rfl) (h1 (fun q => by
        rw [e] at q
        cases q))
  refine qC_of rfl rfl ?_
  refine qa_t1_W (cut := [4]) 20 ?_
  exact st _ _ _ rfl
theorem h_findDug {x : Int32} (hJ : y_J x_X s) (h1 : ¬ gR s 17 0 4 = none → 0 ≤ x.toInt → x.toInt < (gI s 15 0 2).toInt → Q (some (lR 13 (some x.toNatClampNeg))) s) (h0 : ¬ (¬ gR s 17 0 4 = none ∧ 0 ≤ x.toInt ∧ x.toInt < (gI s 15 0 2).toInt) → Q (some (lR 13 none)) s) : qC false (d + 6) 154 [lR 0 (some 0), lI x] s Q := by
  refine qC_of rfl rfl ?_
  refine qa_t1_W (cut := []) 20 ?_
  refine h_isDug (fun c => Exists.intro 1 (And.intro rfl ?_)) (fun c => Exists.intro 0 (And.intro rfl ?_))
  · refine And.intro (fun q => absurd q (by decide)) (fun _ => ?_)
    refine h_findRain (d := d + 1) hJ (fun x1 x2 => Or.inr (Exists.intro _ (And.intro rfl ?_))) (fun xn => Or.inl (And.intro rfl ?_))
    · exact h1 c x1 x2
    · exact h0 (fun q => xn q.2)
  · refine And.intro (fun _ => ?_) (fun q => absurd rfl q)
    exact h0 (fun q => q.1 c)
/-- a day of the class -/
theorem dy_11 {x : Int32} (hJ : y_J x_X s) : qC false (d + 70) 163 [lR 0 (some 0), lI x] s (fun r m => ((¬ gR s 17 0 4 = none ∧ 0 ≤ x.toInt ∧ x.toInt ≤ 99) ∧ r = some (lI (gI s 17 0 10 + 1)) ∧ gI m 17 0 10 = gI s 17 0 10 + 1) ∨ (¬ (¬ gR s 17 0 4 = none ∧ 0 ≤ x.toInt ∧ x.toInt ≤ 99) ∧ r = some (lI (-1)) ∧ m = s)) := by
  refine qC_of rfl rfl ?_
  refine qa_t1_W (cut := []) 40 ?_
  refine h_isDug (fun c => Exists.intro 1 (And.intro rfl ?_)) (fun c => Exists.intro 0 (And.intro rfl ?_))
  · refine And.intro (fun q => absurd q (by decide)) (fun _ => ?_)
    refine h_isIn (fun g1 g2 => Exists.intro 1 (And.intro rfl ?_)) (fun g => Exists.intro 0 (And.intro rfl ?_))
    · refine And.intro (fun q => absurd q (by decide)) (fun _ => ?_)
      refine gd_F (d := d + 68) (by omega) hJ fun m e => And.intro rfl ?_
      refine qC_of rfl rfl ?_
      refine qa_t1_W (cut := []) 10 ?_
      exact Exists.intro _ (And.intro rfl (Or.inl ⟨⟨c, g1, g2⟩, congrArg (fun v => some (lI v)) e, e⟩))
    · exact And.intro (fun _ => Or.inr ⟨fun q => g ⟨q.2.1, q.2.2⟩, rfl, rfl⟩) (fun q => absurd rfl q)
  · refine And.intro (fun _ => Or.inr ⟨fun q => q.1 c, rfl, rfl⟩) (fun q => absurd rfl q)
/-- a day of the reference -/
theorem dy_12 {x : Int32} (hJ : y_J x_X s) : qC false (d + 70) 255 [lR 33 (some 0), lI x] s (fun r m => ((¬ gI s 33 0 35 = 0 ∧ 0 ≤ x.toInt ∧ x.toInt ≤ 99) ∧ r = some (lI (gI s 48 0 273 + 1)) ∧ gI m 48 0 273 = gI s 48 0 273 + 1) ∨ (¬ (¬ gI s 33 0 35 = 0 ∧ 0 ≤ x.toInt ∧ x.toInt ≤ 99) ∧ r = some (lI (-1)) ∧ m = s)) := by
  refine qC_of rfl rfl ?_
  refine qa_t1_W (cut := []) 40 ?_
  refine And.intro (fun c => Or.inr ⟨fun q => q.1 c, rfl, rfl⟩) (fun c => ?_)
  refine h_in (fun g1 g2 => Exists.intro 1 (And.intro rfl ?_)) (fun g => Exists.intro 0 (And.intro rfl ?_))
  · refine And.intro (fun q => absurd q (by decide)) (fun _ => ?_)
    refine do_F (d := d + 68) (by omega) hJ fun m e => And.intro rfl ?_
    refine And.intro (x_vc (by decide) (by decide)) ?_
    exact Or.inl ⟨⟨c, g1, g2⟩, congrArg (fun v => some (lI v)) e, e⟩
  · exact And.intro (fun _ => Or.inr ⟨fun q => g ⟨q.2.1, q.2.2⟩, rfl, rfl⟩) (fun q => absurd rfl q)
end DD
/-! run, image, back of the class. -/
section RN
variable {d : Nat} {s : LMem} {Q : LPost}
theorem h_onA {k r n : Nat} (hk : k < n) (hn2 : n ≤ 30) (hn : gI s 13 r 1 = nI n) (h : Q (some (lI (gI s 14 r k))) s) : qC false (d + 1) 87 [lR 13 (some r), lI (nI k)] s Q := by
  have c0 : ¬ nI k < 0 := nI_nlt (b := 0) (by omega) (by omega)
  have c1 : nI k < gI s 13 r 1 := by rw [hn]; exact nI_lt hk (by omega)
  have c2 : nI k < 30 := nI_lt (b := 30) (by omega) (by decide)
  have fin : Q (some (lI (gI s 14 r (nI k).toNatClampNeg))) s := by
    rw [nI_clamp (by omega)]
    exact h
  refine qC_of rfl rfl ?_
  refine qa_t1_W (cut := []) 40 ?_
  refine And.intro (fun q => absurd q c0) (fun _ => ?_)
  refine And.intro (fun _ => ?_) (fun q => absurd c1 q)
  refine And.intro (fun _ => ?_) (fun q => absurd c2 q)
  exact And.intro (show qa_vin (nI k) 30 from nI_in (by omega) (by decide)) fin
theorem h_days {r : Nat} (h : Q (some (lI (gI s 13 r 1))) s) : qC false (d + 1) 86 [lR 13 (some r)] s Q := by
  refine qC_of rfl rfl ?_
  refine qa_t1_W (cut := []) 10 ?_
  exact h
theorem h_goDayC : y_con x_X yk_X1_goDay := y_all x_X_cl h_all0 yk_X1_goDay (List.mem_of_getElem? (i := 116) rfl)
theorem nI_add1 (a : Int32) (k : Nat) : a + nI k + 1 = a + nI (k + 1) := by rw [Int32.add_assoc, nI_succ]
theorem gds_l {bc bs r n : Nat} (hd : 61 ≤ d) (hr : r ≤ 4) (hn2 : n ≤ 30) (hn : gI s 13 r 1 = nI n) (h : ∀ m, gI m 17 0 10 = gI s 17 0 10 + nI n → Q none m) : ∀ j k m, k + j = n → y_J x_X m → gI m 13 r 1 = nI n → gI m 17 0 10 = gI s 17 0 10 + nI k → qW false (d + 1) 20 bc bs 2 [some (lR 17 (some 0)), some (lR 13 (some r)), some (lI (nI k))] [] m Q := by
  intro j
  induction j with
  | zero =>
    intro k m hk hJ h13 h10
    have hk : k = n := hk
    subst hk
    have hlt : ¬ nI k < gI m 13 r 1 := by rw [h13]; exact nI_nlt (Nat.le_refl _) (by omega)
    refine qa_t1_W (cut := [2]) 20 ?_
    refine h_days (Exists.intro _ (And.intro rfl ?_))
    exact And.intro (fun q => absurd q hlt) (fun _ => h m h10)
  | succ j ih =>
    intro k m hk hJ h13 h10
    have hlt : nI k < gI m 13 r 1 := by rw [h13]; exact nI_lt (by omega) (by omega)
    have day : ∀ x, qC false (d + 1) 22 [lR 17 (some 0), lI x] m (fun rr m2 => rr = none ∧ qW false (d + 1) 20 bc bs 2 [some (lR 17 (some 0)), some (lR 13 (some r)), some (lI (nI k + 1))] [] m2 Q) := fun x => by
      have a : qC false (d + 1) 22 [lR 17 (some 0), lI x] m (fun rr m2 => rr = none ∧ gI m2 17 0 10 = gI m 17 0 10 + 1) := gd_F (by omega) hJ fun m2 e => ⟨rfl, e⟩
      have b := fr_con (d := d + 1) (s := m) (As := [lR 17 (some 0), lI x]) h_goDayC (by show _ ≤ d + 1; exact Nat.le_trans (show yk_X1_goDay.2.2.2.2.2 ≤ 61 by decide) (by omega)) rfl ⟨y_rcv, z_in_top _, trivial⟩ hJ
      refine qC_mono (qC_and a b) fun rr m2 q => ?_
      obtain ⟨⟨er, e10⟩, J2, F2⟩ := q
      refine ⟨er, ?_⟩
      rw [nI_1]
      refine ih (k + 1) m2 (by omega) J2 ?_ ?_
      · rw [fr_K F2 13 (by decide +kernel), h13]
      · rw [e10, h10, nI_add1]
    refine qa_t1_W (cut := [2]) 30 ?_
    refine h_days (Exists.intro _ (And.intro rfl ?_))
    refine And.intro (fun _ => ?_) (fun q => absurd hlt q)
    exact h_onA (n := n) (by omega) hn2 h13 (Exists.intro _ (And.intro rfl (day _)))
theorem rn_11 {x : Int32} (hJ : y_J x_X s) : qC false (d + 70) 164 [lR 0 (some 0), lI x] s (fun r m => ((¬ gR s 17 0 4 = none ∧ 0 ≤ x.toInt ∧ x.toInt < (gI s 15 0 2).toInt) ∧ r = some (lI (gI s 17 0 10 + gI s 13 x.toNatClampNeg 1)) ∧ gI m 17 0 10 = gI s 17 0 10 + gI s 13 x.toNatClampNeg 1) ∨ (¬ (¬ gR s 17 0 4 = none ∧ 0 ≤ x.toInt ∧ x.toInt < (gI s 15 0 2).toInt) ∧ r = some (lI (-1)) ∧ m = s)) := by
  have b15 := bd15 (j := 2) (hi := 4) hJ (by decide)
  refine qC_of rfl rfl ?_
  refine qa_t1_W (cut := []) 40 ?_
  refine h_findDug (d := d + 63) hJ (fun c x1 x2 => Or.inr (Exists.intro _ (And.intro rfl ?_))) (fun xn => Or.inl (And.intro rfl ?_))
  · obtain ⟨i, hi, ei⟩ := nI_up (hi := 3) x1 (by omega) (by decide)
    have ci : x.toNatClampNeg = i := by rw [ei, nI_clamp (by omega)]
    obtain ⟨n, hn2, hn⟩ := y_nIof2 (N := 30) (x := gI s 13 x.toNatClampNeg 1) (hJ.1 13 x.toNatClampNeg 1 (1, 1, 0, 30) (by decide) (by decide) (by decide)).1 (hJ.1 13 x.toNatClampNeg 1 (1, 1, 0, 30) (by decide) (by decide) (by decide)).2
    have days : ∀ K : LPost, (∀ m, gI m 17 0 10 = gI s 17 0 10 + gI s 13 x.toNatClampNeg 1 → K none m) → qC false (d + 69) 20 [lR 17 (some 0), lR 13 (some x.toNatClampNeg)] s K := fun K hK => by
      refine qC_of rfl rfl ?_
      refine qa_t1_W (cut := [2]) 10 ?_
      exact gds_l (d := d + 67) (r := x.toNatClampNeg) (by omega) (by omega) hn2 hn (fun m e => hK m (by rw [e, hn])) n 0 s (Nat.zero_add n) hJ hn (by rw [show nI 0 = 0 from rfl, Int32.add_zero])
    refine days _ fun m e => And.intro rfl ?_
    refine qC_of rfl rfl ?_
    refine qa_t1_W (cut := []) 10 ?_
    exact Exists.intro _ (And.intro rfl (Or.inl ⟨⟨c, x1, x2⟩, congrArg (fun v => some (lI v)) e, e⟩))
  · exact Or.inr ⟨xn, rfl, rfl⟩
/-- the DAYS of the reference -/
theorem ros_l {bc bs r n : Nat} (hd : 61 ≤ d) (hr : r ≤ 3) (hn2 : n ≤ 30) (h : ∀ m, gI m 48 0 273 = gI s 48 0 273 + nI n → Q none m) : ∀ j k m, k + j = n → y_J x_X m → gI m 46 0 r = nI n → gI m 48 0 273 = gI s 48 0 273 + nI k → qW false (d + 1) 254 bc bs 2 [some (lR 33 (some 0)), some (lI (nI r)), some (lI (nI k))] [] m Q := by
  intro j
  induction j with
  | zero =>
    intro k m hk hJ h46 h10
    have hk : k = n := hk
    subst hk
    have e5 : (nI r).toNatClampNeg = r := nI_clamp (by omega)
    have hlt : ¬ nI k < gI m 46 0 (nI r).toNatClampNeg := by rw [e5, h46]; exact nI_nlt (Nat.le_refl _) (by omega)
    refine qa_t1_W (cut := [2]) 20 ?_
    refine And.intro (show qa_vin (nI r) 5 from nI_in (by omega) (by decide)) ?_
    exact And.intro (fun q => absurd q hlt) (fun _ => h m h10)
  | succ j ih =>
    intro k m hk hJ h46 h10
    have e5 : (nI r).toNatClampNeg = r := nI_clamp (by omega)
    have hlt : nI k < gI m 46 0 (nI r).toNatClampNeg := by rw [e5, h46]; exact nI_lt (by omega) (by omega)
    have i2 : nI 30 * nI r + nI k = nI (30 * r + k) := by rw [nI_mul, nI_add]
    have v150 : qa_vin ((30 : Int32) * nI r + nI k) 150 := by
      rw [show (30 : Int32) = nI 30 from rfl, i2]
      exact nI_in (by omega) (by decide)
    have day : ∀ x, qC false (d + 1) 253 [lR 33 (some 0), lI x] m (fun rr m2 => rr = none ∧ qW false (d + 1) 254 bc bs 2 [some (lR 33 (some 0)), some (lI (nI r)), some (lI (nI k + 1))] [] m2 Q) := fun x => by
      have a : qC false (d + 1) 253 [lR 33 (some 0), lI x] m (fun rr m2 => rr = none ∧ gI m2 48 0 273 = gI m 48 0 273 + 1) := do_F (by omega) hJ fun m2 e => ⟨rfl, e⟩
      have b := fr_con (d := d + 1) (s := m) (As := [lR 33 (some 0), lI x]) h_X12_dayOf (by show 40 ≤ d + 1; omega) rfl ⟨y_rcv, z_in_top _, trivial⟩ hJ
      refine qC_mono (qC_and a b) fun rr m2 q => ?_
      obtain ⟨⟨er, e10⟩, J2, F2⟩ := q
      refine ⟨er, ?_⟩
      rw [nI_1]
      refine ih (k + 1) m2 (by omega) J2 ?_ ?_
      · rw [fr_K F2 46 (by decide +kernel), h46]
      · rw [e10, h10, nI_add1]
    refine qa_t1_W (cut := [2]) 40 ?_
    refine And.intro (show qa_vin (nI r) 5 from nI_in (by omega) (by decide)) ?_
    refine And.intro (fun _ => ?_) (fun q => absurd hlt q)
    exact And.intro v150 (day _)
theorem rn_12 {x : Int32} (hJ : y_J x_X s) : qC false (d + 70) 256 [lR 33 (some 0), lI x] s (fun r m => ((¬ gI s 33 0 35 = 0 ∧ 0 ≤ x.toInt ∧ x.toInt < (gI s 33 0 22).toInt) ∧ r = some (lI (gI s 48 0 273 + gI s 46 0 x.toNatClampNeg)) ∧ gI m 48 0 273 = gI s 48 0 273 + gI s 46 0 x.toNatClampNeg) ∨ (¬ (¬ gI s 33 0 35 = 0 ∧ 0 ≤ x.toInt ∧ x.toInt < (gI s 33 0 22).toInt) ∧ r = some (lI (-1)) ∧ m = s)) := by
  obtain ⟨D, hD2, hD⟩ := y_nIof2 (N := 4) (x := gI s 33 0 22) (hJ.1 33 0 22 (22, 22, 0, 4) (by decide) (by decide) (by decide)).1 (hJ.1 33 0 22 (22, 22, 0, 4) (by decide) (by decide) (by decide)).2
  have tD : (gI s 33 0 22).toInt = D := by rw [hD, nI_toInt (by omega)]
  refine qC_of rfl rfl ?_
  refine qa_t1_W (cut := []) 40 ?_
  refine And.intro (fun c => Or.inr ⟨fun q => q.1 c, rfl, rfl⟩) (fun c => ?_)
  refine h_isR2 (d := d + 67) hD (by omega) (fun x1 x2 => Exists.intro 1 (And.intro rfl ?_)) (fun xn => Exists.intro 0 (And.intro rfl ?_))
  · obtain ⟨i, hi, ei⟩ := nI_up (hi := 3) x1 (by omega) (by decide)
    have ci : x.toNatClampNeg = i := by rw [ei, nI_clamp (by omega)]
    obtain ⟨n, hn2, hn⟩ := y_nIof2 (N := 30) (x := gI s 46 0 x.toNatClampNeg) (hJ.1 46 0 x.toNatClampNeg (0, 4, 0, 30) (by decide) (by show (0 : Int) ≤ (x.toNatClampNeg : Int); omega) (by show (x.toNatClampNeg : Int) ≤ 4; omega)).1 (hJ.1 46 0 x.toNatClampNeg (0, 4, 0, 30) (by decide) (by show (0 : Int) ≤ (x.toNatClampNeg : Int); omega) (by show (x.toNatClampNeg : Int) ≤ 4; omega)).2
    have days : ∀ K : LPost, (∀ m, gI m 48 0 273 = gI s 48 0 273 + gI s 46 0 x.toNatClampNeg → K none m) → qC false (d + 69) 254 [lR 33 (some 0), lI x] s K := fun K hK => by
      rw [ci] at hK hn
      rw [ei]
      refine qC_of rfl rfl ?_
      refine qa_t1_W (cut := [2]) 10 ?_
      exact ros_l (d := d + 67) (r := i) (by omega) hi hn2 (fun m e => hK m (by rw [e, hn])) n 0 s (Nat.zero_add n) hJ hn (by rw [show nI 0 = 0 from rfl, Int32.add_zero])
    refine And.intro (fun q => absurd q (by decide)) (fun _ => ?_)
    refine days _ fun m e => And.intro rfl ?_
    refine And.intro (x_vc (by decide) (by decide)) ?_
    exact Or.inl ⟨⟨c, x1, x2⟩, congrArg (fun v => some (lI v)) e, e⟩
  · exact And.intro (fun _ => Or.inr ⟨fun q => xn q.2, rfl, rfl⟩) (fun q => absurd rfl q)
/-- image, back of the class -/
theorem im_11 (hJ : y_J x_X s) : qC false (d + 70) 171 [lR 0 (some 0)] s (fun r m => (¬ gR s 17 0 4 = none ∧ r = some (lI (gI s 17 0 10)) ∧ ∃ z, z ≤ 20 ∧ gI s 17 0 5 = nI z ∧ bcK 2 0 z s m) ∨ (gR s 17 0 4 = none ∧ r = some (lI (-1)) ∧ m = s)) := by
  obtain ⟨z, hz, ez⟩ := y_nIof2 (N := 20) (x := gI s 17 0 5) (hJ.1 17 0 5 (5, 5, 0, 20) (by decide) (by decide) (by decide)).1 (hJ.1 17 0 5 (5, 5, 0, 20) (by decide) (by decide) (by decide)).2
  refine qC_of rfl rfl ?_
  refine qa_t1_W (cut := []) 40 ?_
  refine h_isDug (fun c => Exists.intro 1 (And.intro rfl ?_)) (fun c => Exists.intro 0 (And.intro rfl ?_))
  · refine And.intro (fun q => absurd q (by decide)) (fun _ => ?_)
    refine bcm_20 (d := d + 68) (by omega) hJ hz ez fun m K => And.intro rfl ?_
    refine qC_of rfl rfl ?_
    refine qa_t1_W (cut := []) 10 ?_
    exact Exists.intro _ (And.intro rfl (Or.inl ⟨c, congrArg (fun v => some (lI v)) K.2.2.1, z, hz, ez, K⟩))
  · refine And.intro (fun _ => Or.inr ⟨c, rfl, rfl⟩) (fun q => absurd rfl q)
theorem bk_11 (hJ : y_J x_X s) : qC false (d + 70) 172 [lR 0 (some 0)] s (fun r m => (¬ gR s 17 2 4 = none ∧ r = some (lI (gI s 17 2 10)) ∧ ∃ z, z ≤ 20 ∧ gI s 17 2 5 = nI z ∧ bcK 0 2 z s m) ∨ (gR s 17 2 4 = none ∧ r = some (lI (-1)) ∧ m = s)) := by
  obtain ⟨z, hz, ez⟩ := y_nIof2 (N := 20) (x := gI s 17 2 5) (hJ.1 17 2 5 (5, 5, 0, 20) (by decide) (by decide) (by decide)).1 (hJ.1 17 2 5 (5, 5, 0, 20) (by decide) (by decide) (by decide)).2
  refine qC_of rfl rfl ?_
  refine qa_t1_W (cut := []) 40 ?_
  refine h_isDug (fun c => Exists.intro 1 (And.intro rfl ?_)) (fun c => Exists.intro 0 (And.intro rfl ?_))
  · refine And.intro (fun q => absurd q (by decide)) (fun _ => ?_)
    refine bcm_02 (d := d + 68) (by omega) hJ hz ez fun m K => And.intro rfl ?_
    refine qC_of rfl rfl ?_
    refine qa_t1_W (cut := []) 10 ?_
    exact Exists.intro _ (And.intro rfl (Or.inl ⟨c, congrArg (fun v => some (lI v)) K.2.2.1, z, hz, ez, K⟩))
  · refine And.intro (fun _ => Or.inr ⟨c, rfl, rfl⟩) (fun q => absurd rfl q)
end RN
/-! PAIRS: day, run, image, back, shut, count. -/
section PM
variable {s s1 s2 : LMem} {Q : LPost}
def o17p (W : List YW) (d : Nat) : Bool := [4, 5, 6, 7, 8].all fun j => w_off W 17 d j
def o48p (W : List YW) (k sd fl : Nat) : Bool := ([272, 277, 278].all fun j => w_off W k 0 j) && (w_off W 33 0 sd && w_off W 33 0 fl)
theorem o17p_ok {W : List YW} {d : Nat} (h : o17p W d = true) (F : y_Fr W s s1) : gR s1 17 d 4 = gR s 17 d 4 ∧ gI s1 17 d 5 = gI s 17 d 5 ∧ gR s1 17 d 6 = gR s 17 d 6 ∧ gR s1 17 d 7 = gR s 17 d 7 ∧ gL s1 17 d 8 = gL s 17 d 8 := by
  have g : ∀ j, j ∈ [4, 5, 6, 7, 8] → ¬ y_iW W 17 d j := fun j hj => w_off_ok (List.all_eq_true.mp h j hj)
  exact ⟨(F 17 d 4 (g 4 (by decide))).2.2, (F 17 d 5 (g 5 (by decide))).1, (F 17 d 6 (g 6 (by decide))).2.2, (F 17 d 7 (g 7 (by decide))).2.2, (F 17 d 8 (g 8 (by decide))).2.1⟩
theorem o48p_ok {W : List YW} {k sd fl : Nat} (h : o48p W k sd fl = true) (F : y_Fr W s s1) : gI s1 k 0 272 = gI s k 0 272 ∧ gI s1 k 0 277 = gI s k 0 277 ∧ gI s1 k 0 278 = gI s k 0 278 ∧ gL s1 33 0 sd = gL s 33 0 sd ∧ gI s1 33 0 fl = gI s 33 0 fl := by
  obtain ⟨h1, h2⟩ := qa_and h
  obtain ⟨h2, h3⟩ := qa_and h2
  have g : ∀ j, j ∈ [272, 277, 278] → ¬ y_iW W k 0 j := fun j hj => w_off_ok (List.all_eq_true.mp h1 j hj)
  exact ⟨(F k 0 272 (g 272 (by decide))).1, (F k 0 277 (g 277 (by decide))).1, (F k 0 278 (g 278 (by decide))).1, (F 33 0 sd (w_off_ok h2)).2.1, (F 33 0 fl (w_off_ok h3)).1⟩
/-- days go on, on both sides -/
def ddW (W1 W2 : List YW) : Bool := ((oW W1 && oW W2) && ((o17p W1 0 && o17 W2 0) && (o48 W1 48 30 35 && o48p W2 48 30 35))) && ((o17 W1 2 && o17 W2 2) && (o48 W1 50 34 36 && o48 W2 50 34 36))
theorem dd_RD {W1 W2 : List YW} (hw : ddW W1 W2 = true) (F1 : y_Fr W1 s s1) (F2 : y_Fr W2 s1 s2) (hR : RD s) (c : gI s 33 0 35 = 1 → gI s2 17 0 10 = gI s2 48 0 273) : RD s2 := by
  obtain ⟨x1, x2⟩ := qa_and hw
  obtain ⟨x1, x3⟩ := qa_and x1
  obtain ⟨a1, a2⟩ := qa_and x1
  obtain ⟨x3, x4⟩ := qa_and x3
  obtain ⟨b1, b2⟩ := qa_and x3
  obtain ⟨c1, c2⟩ := qa_and x4
  obtain ⟨x5, x6⟩ := qa_and x2
  obtain ⟨d1, d2⟩ := qa_and x5
  obtain ⟨e1, e2⟩ := qa_and x6
  obtain ⟨w1, w2, w3, w4, w5⟩ := hR
  have u1 := oW_ok a1 F1
  have u2 := oW_ok a2 F2
  have p1 := o17p_ok b1 F1
  have p2 := o17_ok b2 F2
  have q1 := o48_ok c1 F1
  have q2 := o48p_ok c2 F2
  have k2 := o48_ok e2 F2
  have k1 := o48_ok e1 F1
  refine ⟨fun j hj => ?_, ?_, ?_, DK_k (o17_ok d2 F2) k2 (DK_k (o17_ok d1 F1) k1 w4), ?_⟩
  · rw [u2.1 j hj, u2.2.1 j hj, u1.1 j hj, u1.2.1 j hj, w1 j hj]
  · rw [u2.2.2, u1.2.2, w2]
  · refine DK_n (s := s) ⟨p2.1.trans p1.1, p2.2.1.trans p1.2.1, p2.2.2.2.1.trans p1.2.2.1, p2.2.2.2.2.1.trans p1.2.2.2.1, p2.2.2.2.2.2.trans p1.2.2.2.2⟩ ⟨q2.1.trans (q1.1 272 (by decide)), q2.2.1.trans (q1.1 277 (by decide)), q2.2.2.1.trans (q1.1 278 (by decide)), q2.2.2.2.1.trans q1.2.1, q2.2.2.2.2.trans q1.2.2⟩ c w3
  · rw [k2.2.2, q2.2.2.2.2, k1.2.2, q1.2.2]
    exact w5
theorem DK_days {d k sd fl : Nat} (h : DK s d k sd fl) (hf : ¬ gI s 33 0 fl = 0) : gI s 17 d 10 = gI s k 0 273 ∧ gI s 17 d 5 = gI s k 0 272 ∧ 0 < (gI s 17 d 5).toInt ∧ gI s 33 0 fl = 1 := by
  rcases h with ⟨h0, _⟩ | ⟨h0, h1, h2, h3, _⟩
  · exact absurd h0 hf
  · exact ⟨h3, h2.1, h2.2, h0⟩
theorem prd_day {a : Int32} (hJ : zD s) (h : ∀ v s1, y_J x_X s1 → (∀ i j, gI s1 65 i j = gI s 65 i j) → (∀ a', a' = a → qC false 1200 255 [lR 33 (some 0), lI a'] s1 (prd s1 v)) → Q (some (lI v)) s1) : qC false 1200 163 [lR 0 (some 0), lI a] s Q := by
  have a0 := dy_11 (d := 1130) (x := a) (s := s) hJ.1.1.1
  have b0 := kc (s := s) (As := [lR 0 (some 0), lI a]) (y_all x_X_cl h_all0 yk_X11_day (List.mem_of_getElem? (i := 101) rfl)) (by decide +kernel) rfl ⟨y_rcv, z_in_top _, trivial⟩ hJ.1
  refine qC_mono (qC_and a0 b0) fun r s1 q => ?_
  obtain ⟨O, z1, x1, F1⟩ := q
  obtain ⟨w1, w2, w3, w4, w5⟩ := hJ.2
  have hd := DK_dug w3
  have f35 : gI s1 33 0 35 = gI s 33 0 35 := fr_k F1 33 0 35 (by decide +kernel)
  have f273 : gI s1 48 0 273 = gI s 48 0 273 := fr_K F1 48 (by decide +kernel) 0 273
  have main : ∀ v, r = some (lI v) → (((¬ gR s 17 0 4 = none ∧ 0 ≤ a.toInt ∧ a.toInt ≤ 99) ∧ v = gI s 17 0 10 + 1 ∧ gI s1 17 0 10 = gI s 17 0 10 + 1) ∨ (¬ (¬ gR s 17 0 4 = none ∧ 0 ≤ a.toInt ∧ a.toInt ≤ 99) ∧ v = -1 ∧ s1 = s)) → Q r s1 := fun v er OO => by
    clear O
    subst er
    refine h v s1 z1.1.1 x1 fun a' ea => ?_
    subst ea
    have a2 := dy_12 (d := 1130) (x := a') (s := s1) z1.1.1
    have b2 := kc (s := s1) (As := [lR 33 (some 0), lI a']) (y_all x_X_cl h_all0 yk_X12_day (List.mem_of_getElem? (i := 195) rfl)) (by decide +kernel) rfl ⟨y_rcv, z_in_top _, trivial⟩ z1
    refine qC_mono (qC_and a2 b2) fun r2 s2 q => ?_
    obtain ⟨O2, z2, x2, F2⟩ := q
    rw [f35, f273] at O2
    rcases OO with ⟨⟨P, p1⟩, rfl, e10⟩ | ⟨nP, rfl, es⟩
    · have P2 : ¬ gI s 33 0 35 = 0 := fun q => P (hd.mpr q)
      obtain ⟨k1, _⟩ := DK_days w3 P2
      rcases O2 with ⟨_, er2, e273⟩ | ⟨nP, _⟩
      · refine ⟨by rw [er2, k1], ⟨z2, dd_RD (by decide +kernel) F1 F2 hJ.2 fun _ => ?_⟩, x2⟩
        rw [fr_K F2 17 (by decide +kernel) 0 10, e10, e273, k1]
      · exact absurd ⟨P2, p1⟩ nP
    · rcases O2 with ⟨⟨P2, p1⟩, _⟩ | ⟨_, er2, es2⟩
      · exact absurd ⟨fun q => P2 (hd.mp q), p1⟩ nP
      · subst es2
        subst es
        exact ⟨er2, ⟨z2, hJ.2⟩, x2⟩
  rcases O with ⟨P, er, e⟩ | ⟨nP, er, es⟩
  · exact main _ er (Or.inl ⟨P, rfl, e⟩)
  · exact main _ er (Or.inr ⟨nP, rfl, es⟩)
theorem rain_n {a : Int32} (hJ : zK s) (h1 : 0 ≤ a.toInt) (h2 : a.toInt < (gI s 33 0 22).toInt) : gI s 13 a.toNatClampNeg 1 = gI s 46 0 a.toNatClampNeg := by
  have b22 : (gI s 33 0 22).toInt ≤ 4 := (hJ.1.1.1 33 0 22 (22, 22, 0, 4) (by decide) (by decide) (by decide)).2
  obtain ⟨i, hi, ei⟩ := nI_up (hi := 3) h1 (by omega) (by decide)
  obtain ⟨D, hD, eD⟩ := nI_up (x := gI s 33 0 22) (hi := 4) (by omega) b22 (by decide)
  refine (hJ.2.2 a.toNatClampNeg ?_).1
  rw [eD, ei, nI_clamp (by omega), nI_clamp (by omega)]
  rw [eD, ei, nI_toInt (by omega), nI_toInt (by omega)] at h2
  omega
theorem prd_run {a : Int32} (hJ : zD s) (h : ∀ v s1, y_J x_X s1 → (∀ i j, gI s1 65 i j = gI s 65 i j) → (∀ a', a' = a → qC false 1200 256 [lR 33 (some 0), lI a'] s1 (prd s1 v)) → Q (some (lI v)) s1) : qC false 1200 164 [lR 0 (some 0), lI a] s Q := by
  have a0 := rn_11 (d := 1130) (x := a) (s := s) hJ.1.1.1
  have b0 := kc (s := s) (As := [lR 0 (some 0), lI a]) (y_all x_X_cl h_all0 yk_X11_run (List.mem_of_getElem? (i := 79) rfl)) (by decide +kernel) rfl ⟨y_rcv, z_in_top _, trivial⟩ hJ.1
  refine qC_mono (qC_and a0 b0) fun r s1 q => ?_
  obtain ⟨O, z1, x1, F1⟩ := q
  obtain ⟨w1, w2, w3, w4, w5⟩ := hJ.2
  have hd := DK_dug w3
  have e22 : gI s 15 0 2 = gI s 33 0 22 := by
    obtain ⟨_, _, _, _, _, _, _, _, e⟩ := hJ.1.1.2
    exact e
  have f33 : ∀ j, gI s1 33 0 j = gI s 33 0 j := fun j => fr_K F1 33 (by decide +kernel) 0 j
  have f46 : ∀ j, gI s1 46 0 j = gI s 46 0 j := fun j => fr_K F1 46 (by decide +kernel) 0 j
  have f273 : gI s1 48 0 273 = gI s 48 0 273 := fr_K F1 48 (by decide +kernel) 0 273
  rw [e22] at O
  have main : ∀ v, r = some (lI v) → (((¬ gR s 17 0 4 = none ∧ 0 ≤ a.toInt ∧ a.toInt < (gI s 33 0 22).toInt) ∧ v = gI s 17 0 10 + gI s 13 a.toNatClampNeg 1 ∧ gI s1 17 0 10 = gI s 17 0 10 + gI s 13 a.toNatClampNeg 1) ∨ (¬ (¬ gR s 17 0 4 = none ∧ 0 ≤ a.toInt ∧ a.toInt < (gI s 33 0 22).toInt) ∧ v = -1 ∧ s1 = s)) → Q r s1 := fun v er OO => by
    clear O
    subst er
    refine h v s1 z1.1.1 x1 fun a' ea => ?_
    subst ea
    have a2 := rn_12 (d := 1130) (x := a') (s := s1) z1.1.1
    have b2 := kc (s := s1) (As := [lR 33 (some 0), lI a']) (y_all x_X_cl h_all0 yk_X12_run (List.mem_of_getElem? (i := 150) rfl)) (by decide +kernel) rfl ⟨y_rcv, z_in_top _, trivial⟩ z1
    refine qC_mono (qC_and a2 b2) fun r2 s2 q => ?_
    obtain ⟨O2, z2, x2, F2⟩ := q
    rw [f33, f33, f46, f273] at O2
    rcases OO with ⟨⟨P, p1, p2⟩, rfl, e10⟩ | ⟨nP, rfl, es⟩
    · have P2 : ¬ gI s 33 0 35 = 0 := fun q => P (hd.mpr q)
      obtain ⟨k1, _⟩ := DK_days w3 P2
      have kn := rain_n hJ.1 p1 p2
      rcases O2 with ⟨_, er2, e273⟩ | ⟨nP, _⟩
      · refine ⟨by rw [er2, k1, kn], ⟨z2, dd_RD (by decide +kernel) F1 F2 hJ.2 fun _ => ?_⟩, x2⟩
        rw [fr_K F2 17 (by decide +kernel) 0 10, e10, e273, k1, kn]
      · exact absurd ⟨P2, p1, p2⟩ nP
    · rcases O2 with ⟨⟨P2, p1⟩, _⟩ | ⟨_, er2, es2⟩
      · exact absurd ⟨fun q => P2 (hd.mp q), p1⟩ nP
      · subst es2
        subst es
        exact ⟨er2, ⟨z2, hJ.2⟩, x2⟩
  rcases O with ⟨P, er, e⟩ | ⟨nP, er, es⟩
  · exact main _ er (Or.inl ⟨P, rfl, e⟩)
  · exact main _ er (Or.inr ⟨nP, rfl, es⟩)
end PM
/-! PAIRS: image, back, shut, count. -/
section PI
variable {s s1 s2 : LMem} {Q : LPost}
/-- what one dug is, is another of the other side -/
theorem DK_c {m : LMem} {i j k k2 sd sd2 fl fl2 z : Nat} (h : DK s j k sd fl) (hf : ¬ gI s 33 0 fl = 0) (ez : gI s 17 j 5 = nI z) (hz : z ≤ 20) (K : bcK i j z s s1) (g : ∀ q, gI m 17 i q = gI s1 17 i q ∧ gL m 17 i q = gL s1 17 i q ∧ gR m 17 i q = gR s1 17 i q) (c : ∀ q, q < 279 → gI m k2 0 q = gI s k 0 q) (cs : gL m 33 0 sd2 = gL s 33 0 sd) (cf : gI m 33 0 fl2 = 1) : DK m i k2 sd2 fl2 := by
  rcases h with ⟨h0, _⟩ | ⟨h0, h1, ⟨h2, h20⟩, h3, ⟨f, h4, h4'⟩, h5, h6⟩
  · exact absurd h0 hf
  · obtain ⟨k1, k2, k3, k4, k5, k6⟩ := K
    have zp : 0 < z := by
      rw [ez, nI_toInt (by omega)] at h20
      omega
    refine Or.inr ⟨cf, ?_, ⟨?_, ?_⟩, ?_, ⟨f, ?_, ?_⟩, ?_, ?_⟩
    · rw [(g 4).2.2, k1, if_pos zp]
    · rw [(g 5).1, k2, c 272 (by decide), ← h2, ez]
    · rw [(g 5).1, k2, nI_toInt (by omega)]
      omega
    · rw [(g 10).1, k3, c 273 (by decide), h3]
    · rw [(g 6).2.2, k4, h4]
    · rw [c 277 (by decide), h4']
    · rcases h5 with ⟨a, b⟩ | ⟨y, a, b⟩
      · exact Or.inl ⟨(c 278 (by decide)).trans a, ((g 7).2.2.trans k5).trans b⟩
      · exact Or.inr ⟨y, ((g 7).2.2.trans k5).trans a, (c 278 (by decide)).trans b⟩
    · rw [(g 8).2.1, k6, h6, cs]
theorem fr_17 {W : List YW} (h : (W.all fun w => !(Nat.beq w.1 17)) = true) (F : y_Fr W s1 s2) (i : Nat) : ∀ q, gI s2 17 i q = gI s1 17 i q ∧ gL s2 17 i q = gL s1 17 i q ∧ gR s2 17 i q = gR s1 17 i q := fun q => F 17 i q (fun ⟨w, hw, e, _⟩ => by
  have r := List.all_eq_true.mp h w hw
  rw [e] at r
  exact absurd r (by decide))
theorem prd_image (hJ : zD s) (h : ∀ v s1, y_J x_X s1 → (∀ i j, gI s1 65 i j = gI s 65 i j) → (qC false 1200 311 [lR 33 (some 0)] s1 (prd s1 v)) → Q (some (lI v)) s1) : qC false 1200 171 [lR 0 (some 0)] s Q := by
  have a0 := im_11 (d := 1130) (s := s) hJ.1.1.1
  have b0 := kc (s := s) (As := [lR 0 (some 0)]) (y_all x_X_cl h_all0 yk_X11_image (List.mem_of_getElem? (i := 114) rfl)) (by decide +kernel) rfl ⟨y_rcv, trivial⟩ hJ.1
  refine qC_mono (qC_and a0 b0) fun r s1 q => ?_
  obtain ⟨O, z1, x1, F1⟩ := q
  obtain ⟨w1, w2, w3, w4, w5⟩ := hJ.2
  have hd := DK_dug w3
  have f35 : gI s1 33 0 35 = gI s 33 0 35 := fr_k F1 33 0 35 (by decide +kernel)
  have f48 : ∀ j, gI s1 48 0 j = gI s 48 0 j := fun j => fr_K F1 48 (by decide +kernel) 0 j
  have l30 : gL s1 33 0 30 = gL s 33 0 30 := (F1 33 0 30 (w_off_ok (by decide +kernel))).2.1
  have main : ∀ v, r = some (lI v) → ((¬ gR s 17 0 4 = none ∧ v = gI s 17 0 10 ∧ ∃ z, z ≤ 20 ∧ gI s 17 0 5 = nI z ∧ bcK 2 0 z s s1) ∨ (gR s 17 0 4 = none ∧ v = -1 ∧ s1 = s)) → Q r s1 := fun v er OO => by
    clear O
    subst er
    refine h v s1 z1.1.1 x1 ?_
    have a2 := im_12 (d := 1199) (s := s1)
    have b2 := kc (s := s1) (As := [lR 33 (some 0)]) h_X12_image (by decide +kernel) rfl ⟨y_rcv, trivial⟩ z1
    refine qC_mono (qC_and a2 b2) fun r2 s2 q => ?_
    obtain ⟨O2, z2, x2, F2⟩ := q
    rw [f35, f48, l30] at O2
    rcases OO with ⟨P, rfl, z, hz, ez, K⟩ | ⟨nP, rfl, es⟩
    · have P2 : ¬ gI s 33 0 35 = 0 := fun q => P (hd.mpr q)
      obtain ⟨k1, _, _, k35⟩ := DK_days w3 P2
      rcases O2 with ⟨q, _⟩ | ⟨_, er2, c50, cs, cf⟩
      · exact absurd q P2
      · refine ⟨by rw [er2, k1], ⟨z2, fun j hj => ?_, ?_, ?_, DK_c w3 P2 ez hz K (fr_17 (by decide +kernel) F2 2) (fun q hq => (c50 q hq).trans (f48 q)) cs cf, fun _ => ?_⟩, x2⟩
        · rw [(oW_ok (by decide +kernel) F2).1 j hj, (oW_ok (by decide +kernel) F2).2.1 j hj, (oW_ok (by decide +kernel) F1).1 j hj, (oW_ok (by decide +kernel) F1).2.1 j hj, w1 j hj]
        · rw [(oW_ok (by decide +kernel) F2).2.2, (oW_ok (by decide +kernel) F1).2.2, w2]
        · exact DK_k (o17_ok (by decide +kernel) F2) (o48_ok (by decide +kernel) F2) (DK_k (o17_ok (by decide +kernel) F1) (o48_ok (by decide +kernel) F1) w3)
        · rw [fr_k F2 33 0 35 (by decide +kernel), f35, k35]
    · rcases O2 with ⟨_, er2, es2⟩ | ⟨q, _⟩
      · subst es2
        subst es
        exact ⟨er2, ⟨z2, hJ.2⟩, x2⟩
      · exact absurd (hd.mp nP) q
  rcases O with ⟨P, er, e⟩ | ⟨nP, er, es⟩
  · exact main _ er (Or.inl ⟨P, rfl, e⟩)
  · exact main _ er (Or.inr ⟨nP, rfl, es⟩)
theorem prd_back (hJ : zD s) (h : ∀ v s1, y_J x_X s1 → (∀ i j, gI s1 65 i j = gI s 65 i j) → (qC false 1200 312 [lR 33 (some 0)] s1 (prd s1 v)) → Q (some (lI v)) s1) : qC false 1200 172 [lR 0 (some 0)] s Q := by
  have a0 := bk_11 (d := 1130) (s := s) hJ.1.1.1
  have b0 := kc (s := s) (As := [lR 0 (some 0)]) (y_all x_X_cl h_all0 yk_X11_back (List.mem_of_getElem? (i := 115) rfl)) (by decide +kernel) rfl ⟨y_rcv, trivial⟩ hJ.1
  refine qC_mono (qC_and a0 b0) fun r s1 q => ?_
  obtain ⟨O, z1, x1, F1⟩ := q
  obtain ⟨w1, w2, w3, w4, w5⟩ := hJ.2
  have hd := DK_dug w4
  have f36 : gI s1 33 0 36 = gI s 33 0 36 := fr_k F1 33 0 36 (by decide +kernel)
  have f35 : gI s1 33 0 35 = gI s 33 0 35 := fr_k F1 33 0 35 (by decide +kernel)
  have f50 : ∀ j, gI s1 50 0 j = gI s 50 0 j := fun j => fr_K F1 50 (by decide +kernel) 0 j
  have l34 : gL s1 33 0 34 = gL s 33 0 34 := (F1 33 0 34 (w_off_ok (by decide +kernel))).2.1
  have main : ∀ v, r = some (lI v) → ((¬ gR s 17 2 4 = none ∧ v = gI s 17 2 10 ∧ ∃ z, z ≤ 20 ∧ gI s 17 2 5 = nI z ∧ bcK 0 2 z s s1) ∨ (gR s 17 2 4 = none ∧ v = -1 ∧ s1 = s)) → Q r s1 := fun v er OO => by
    clear O
    subst er
    refine h v s1 z1.1.1 x1 ?_
    have a2 := bk_12 (d := 1199) (s := s1)
    have b2 := kc (s := s1) (As := [lR 33 (some 0)]) h_X12_back (by decide +kernel) rfl ⟨y_rcv, trivial⟩ z1
    refine qC_mono (qC_and a2 b2) fun r2 s2 q => ?_
    obtain ⟨O2, z2, x2, F2⟩ := q
    rw [f36, f50, l34] at O2
    rcases OO with ⟨P, rfl, z, hz, ez, K⟩ | ⟨nP, rfl, es⟩
    · have P2 : ¬ gI s 33 0 36 = 0 := fun q => P (hd.mpr q)
      obtain ⟨k1, _, _, k36⟩ := DK_days w4 P2
      rcases O2 with ⟨q, _⟩ | ⟨_, er2, c48, cs⟩
      · exact absurd q P2
      · have cf : gI s2 33 0 35 = 1 := by rw [fr_k F2 33 0 35 (by decide +kernel), f35, w5 k36]
        refine ⟨by rw [er2, k1], ⟨z2, fun j hj => ?_, ?_, DK_c w4 P2 ez hz K (fr_17 (by decide +kernel) F2 0) (fun q hq => (c48 q hq).trans (f50 q)) cs cf, ?_, fun _ => cf⟩, x2⟩
        · rw [(oW_ok (by decide +kernel) F2).1 j hj, (oW_ok (by decide +kernel) F2).2.1 j hj, (oW_ok (by decide +kernel) F1).1 j hj, (oW_ok (by decide +kernel) F1).2.1 j hj, w1 j hj]
        · rw [(oW_ok (by decide +kernel) F2).2.2, (oW_ok (by decide +kernel) F1).2.2, w2]
        · exact DK_k (o17_ok (by decide +kernel) F2) (o48_ok (by decide +kernel) F2) (DK_k (o17_ok (by decide +kernel) F1) (o48_ok (by decide +kernel) F1) w4)
    · rcases O2 with ⟨_, er2, es2⟩ | ⟨q, _⟩
      · subst es2
        subst es
        exact ⟨er2, ⟨z2, hJ.2⟩, x2⟩
      · exact absurd (hd.mp nP) q
  rcases O with ⟨P, er, e⟩ | ⟨nP, er, es⟩
  · exact main _ er (Or.inl ⟨P, rfl, e⟩)
  · exact main _ er (Or.inr ⟨nP, rfl, es⟩)
end PI
/-! shut, count: what both sides answer. -/
section SC
variable {d : Nat} {s : LMem} {Q : LPost}
theorem h_find {i : Nat} {x : Int32} (hJ : y_J x_X s) (h1 : 0 ≤ x.toInt → x.toInt < (gI s 17 i 5).toInt → Q (some (lR 21 (some (20 * i + x.toNatClampNeg)))) s) (h0 : ¬ (0 ≤ x.toInt ∧ x.toInt < (gI s 17 i 5).toInt) → Q (some (lR 21 none)) s) : qC false (d + 1) 11 [lR 17 (some i), lI x] s Q := by
  have b := (hJ.1 17 i 5 (5, 5, 0, 20) (by decide) (by decide) (by decide)).2
  have b : (gI s 17 i 5).toInt ≤ 20 := b
  refine qC_of rfl rfl ?_
  refine qa_t1_W (cut := []) 40 ?_
  refine And.intro (fun c => ?_) (fun c => ?_)
  · have c := Int32.lt_iff_toInt_lt.mp c
    rw [i32_0] at c
    exact h0 (fun q => by omega)
  · have c : ¬ x < 0 := c
    have c : ¬ x.toInt < (0 : Int32).toInt := fun q => c (Int32.lt_iff_toInt_lt.mpr q)
    rw [i32_0] at c
    refine And.intro (fun c2 => ?_) (fun c2 => ?_)
    · have c2 : x.toInt < (gI s 17 i 5).toInt := Int32.lt_iff_toInt_lt.mp c2
      have l20 : x < 20 := Int32.lt_iff_toInt_lt.mpr (show x.toInt < 20 by omega)
      refine And.intro (fun _ => ?_) (fun q => absurd l20 q)
      exact And.intro (show qa_vin x 20 from vin_of (by omega) (show x.toInt < ((20 : Nat) : Int) by omega) (by decide)) (h1 (by omega) c2)
    · have c2 : ¬ x < gI s 17 i 5 := c2
      have c2 : ¬ x.toInt < (gI s 17 i 5).toInt := fun q => c2 (Int32.lt_iff_toInt_lt.mpr q)
      exact h0 (fun q => c2 q.2)
theorem shut_11 {x b : Int32} (hb : (0 : Int) ≤ b.toInt ∧ b.toInt ≤ 1) (hJ : y_J x_X s) : qC false (d + 10) 169 [lR 0 (some 0), lI x, lI b] s (fun r _ => ((0 ≤ x.toInt ∧ x.toInt < (gI s 17 0 5).toInt) ∧ r = some (lI 1)) ∨ (¬ (0 ≤ x.toInt ∧ x.toInt < (gI s 17 0 5).toInt) ∧ r = some (lI 0))) := by
  have b01 : b = 0 ∨ b = 1 := by
    rcases (show b.toInt = 0 ∨ b.toInt = 1 by omega) with e | e
    · exact Or.inl (Int32.toInt_inj.mp (by rw [e, i32_0]))
    · exact Or.inr (Int32.toInt_inj.mp (by rw [e, i32_1]))
  refine qC_of rfl rfl ?_
  refine qa_t1_W (cut := []) 40 ?_
  refine h_find hJ (fun x1 x2 => Or.inr (Exists.intro _ (And.intro rfl ?_))) (fun xn => Or.inl (And.intro rfl ?_))
  · exact And.intro b01 (And.intro (Or.inr rfl) (Or.inl ⟨⟨x1, x2⟩, rfl⟩))
  · exact And.intro (Or.inl rfl) (Or.inr ⟨xn, rfl⟩)
theorem shut_12 {x b : Int32} (hJ : y_J x_X s) : qC false (d + 10) 264 [lR 33 (some 0), lI x, lI b] s (fun r _ => ((¬ gI s 33 0 35 = 0 ∧ 0 ≤ x.toInt ∧ x.toInt < (gI s 48 0 272).toInt) ∧ r = some (lI 1)) ∨ (¬ (¬ gI s 33 0 35 = 0 ∧ 0 ≤ x.toInt ∧ x.toInt < (gI s 48 0 272).toInt) ∧ r = some (lI 0))) := by
  obtain ⟨n, hn2, hn⟩ := x_many hJ 48 (Or.inl rfl)
  have e1 := x_sub1 (D := n) (by omega)
  have tn : (gI s 48 0 272).toInt = n := by rw [hn, nI_toInt (by omega)]
  have main : ∀ K : LPost, ((0 ≤ x.toInt ∧ x.toInt < (gI s 48 0 272).toInt) → K (some (lI 1)) s) → (¬ (0 ≤ x.toInt ∧ x.toInt < (gI s 48 0 272).toInt) → K (some (lI 0)) s) → qC false (d + 9) 198 [lI x, lI 0, lI (gI s 48 0 272 - 1)] s K := fun K k1 k0 => by
    rw [tn] at k1 k0
    rw [hn]
    exact h_in (fun g1 g2 => k1 ⟨g1, by rw [e1] at g2; omega⟩) (fun g => k0 (fun q => g ⟨q.1, by rw [e1]; omega⟩))
  refine qC_of rfl rfl ?_
  refine qa_t1_W (cut := []) 60 ?_
  refine And.intro (fun c => And.intro (Or.inl rfl) (Or.inr ⟨fun q => q.1 c, rfl⟩)) (fun c => ?_)
  refine And.intro (x_vc (by decide) (by decide)) ?_
  refine main _ (fun g => Exists.intro 1 (And.intro rfl ?_)) (fun g => Exists.intro 0 (And.intro rfl ?_))
  · refine And.intro (fun q => absurd q (by decide)) (fun _ => ?_)
    have v : qa_vin ((140 : Int32) + x) 279 := by
      obtain ⟨i, hi, ei⟩ := nI_up (hi := 19) g.1 (by omega) (by decide)
      rw [ei, show (140 : Int32) = nI 140 from rfl, nI_add]
      exact nI_in (by omega) (by decide)
    refine And.intro (fun _ => ?_) (fun _ => ?_)
    · exact And.intro v (And.intro (Or.inr rfl) (Or.inl ⟨⟨c, g⟩, rfl⟩))
    · exact And.intro v (And.intro (Or.inr rfl) (Or.inl ⟨⟨c, g⟩, rfl⟩))
  · exact And.intro (fun _ => And.intro (Or.inl rfl) (Or.inr ⟨fun q => g q.2, rfl⟩)) (fun q => absurd rfl q)
/-- count -/
def cnV (f : Nat → Int32) (w : Int32) : Int32 := if w = 0 then f 0 else if w = 1 then f 1 else if w = 2 then f 2 else if w = 3 then f 3 else if w = 4 then f 4 else if w = 5 then f 5 else if w = 6 then f 6 else if w = 7 then f 7 else -1000000
theorem h_isSort3 {w : Int32} (h1 : 0 ≤ w.toInt → w.toInt < 3 → Q (some (lI 1)) s) (h0 : ¬ (0 ≤ w.toInt ∧ w.toInt < 3) → Q (some (lI 0)) s) : qC false (d + 1) 155 [lR 0 (some 0), lI w] s Q := by
  refine qC_of rfl rfl ?_
  refine qa_t1_W (cut := []) 40 ?_
  have t3 : (3 : Int32).toInt = 3 := by decide
  refine And.intro (fun c => ?_) (fun c => ?_)
  · have c := Int32.lt_iff_toInt_lt.mp c
    rw [i32_0] at c
    exact And.intro (Or.inl rfl) (h0 (fun q => by omega))
  · have c : ¬ w < 0 := c
    have c : ¬ w.toInt < (0 : Int32).toInt := fun q => c (Int32.lt_iff_toInt_lt.mpr q)
    rw [i32_0] at c
    refine And.intro (fun c2 => ?_) (fun c2 => ?_)
    · have c3 : w < 3 := c2
      have c4 := Int32.lt_iff_toInt_lt.mp c3
      rw [t3] at c4
      refine And.intro (fun _ => ?_) (fun q => absurd c3 q)
      exact And.intro (Or.inr rfl) (h1 (by omega) c4)
    · have c2 : ¬ w < 3 := c2
      have c2 : ¬ w.toInt < (3 : Int32).toInt := fun q => c2 (Int32.lt_iff_toInt_lt.mpr q)
      rw [t3] at c2
      exact And.intro (Or.inl rfl) (h0 (fun q => c2 q.2))
def cn11 (s : LMem) : Nat → Int32
  | 0 => gI s 15 0 0
  | 1 => gI s 15 0 1
  | 2 => gI s 15 0 2
  | 3 => gI s 1 0 1
  | 4 => match gR s 17 0 4 with | none => -1 | some _ => gI s 17 0 5
  | 5 => gI s 16 0 0
  | 6 => gI s 16 0 1
  | _ => gI s 16 0 2
def cn12 (s : LMem) : Nat → Int32
  | 0 => gI s 33 0 21
  | 1 => gI s 33 0 13
  | 2 => gI s 33 0 22
  | 3 => gI s 33 0 2
  | 4 => if gI s 33 0 35 = 0 then -1 else gI s 48 0 272
  | 5 => gI s 33 0 23
  | 6 => gI s 33 0 24
  | _ => gI s 33 0 25
theorem cn_12 {w : Int32} : qC false (d + 3) 313 [lR 33 (some 0), lI w] s (fun r _ => r = some (lI (cnV (cn12 s) w))) := by
  refine qC_of rfl rfl ?_
  refine qa_t1_W (cut := []) 40 ?_
  unfold cnV
  refine And.intro (fun e => ?_) (fun e0 => ?_)
  · have e : w = 0 := e
    rw [if_pos e]
    rfl
  have e0 : ¬ w = 0 := e0
  rw [if_neg e0]
  refine And.intro (fun e => ?_) (fun e0 => ?_)
  · have e : w = 1 := e
    rw [if_pos e]
    rfl
  have e0 : ¬ w = 1 := e0
  rw [if_neg e0]
  refine And.intro (fun e => ?_) (fun e0 => ?_)
  · have e : w = 2 := e
    rw [if_pos e]
    rfl
  have e0 : ¬ w = 2 := e0
  rw [if_neg e0]
  refine And.intro (fun e => ?_) (fun e0 => ?_)
  · have e : w = 3 := e
    rw [if_pos e]
    rfl
  have e0 : ¬ w = 3 := e0
  rw [if_neg e0]
  refine And.intro (fun e => ?_) (fun e0 => ?_)
  · have e : w = 4 := e
    rw [if_pos e]
    refine And.intro (fun c => ?_) (fun c => ?_)
    · have c : gI s 33 0 35 = 0 := c
      show some (lI (-1)) = some (lI (if gI s 33 0 35 = 0 then -1 else gI s 48 0 272))
      rw [if_pos c]
    · have c : ¬ gI s 33 0 35 = 0 := c
      refine And.intro (x_vc (by decide) (by decide)) ?_
      show some (lI (gI s 48 0 272)) = some (lI (if gI s 33 0 35 = 0 then -1 else gI s 48 0 272))
      rw [if_neg c]
  have e0 : ¬ w = 4 := e0
  rw [if_neg e0]
  refine And.intro (fun e => ?_) (fun e0 => ?_)
  · have e : w = 5 := e
    rw [if_pos e]
    rfl
  have e0 : ¬ w = 5 := e0
  rw [if_neg e0]
  refine And.intro (fun e => ?_) (fun e0 => ?_)
  · have e : w = 6 := e
    rw [if_pos e]
    rfl
  have e0 : ¬ w = 6 := e0
  rw [if_neg e0]
  refine And.intro (fun e => ?_) (fun e0 => ?_)
  · have e : w = 7 := e
    rw [if_pos e]
    rfl
  have e0 : ¬ w = 7 := e0
  rw [if_neg e0]
  rfl
theorem cn_11 {w : Int32} : qC false (d + 5) 160 [lR 0 (some 0), lI w] s (fun r _ => r = some (lI (cnV (cn11 s) w))) := by
  have big : ¬ (0 ≤ w.toInt ∧ w.toInt < 3) → ¬ w = 0 ∧ ¬ w = 1 ∧ ¬ w = 2 := fun h => ⟨fun q => h (by rw [q]; decide), fun q => h (by rw [q]; decide), fun q => h (by rw [q]; decide)⟩
  refine qC_of rfl rfl ?_
  refine qa_t1_W (cut := []) 40 ?_
  unfold cnV
  refine h_isSort3 (fun g1 g2 => Exists.intro 1 (And.intro rfl ?_)) (fun g => Exists.intro 0 (And.intro rfl ?_))
  · refine And.intro (fun q => absurd q (by decide)) (fun _ => ?_)
    refine And.intro (show qa_vin w 3 from vin_of g1 (show w.toInt < ((3 : Nat) : Int) by omega) (by decide)) ?_
    rcases (show w.toInt = 0 ∨ w.toInt = 1 ∨ w.toInt = 2 by omega) with e | e | e
    · have e : w = 0 := Int32.toInt_inj.mp (by rw [e, i32_0])
      subst e
      rfl
    · have e : w = 1 := Int32.toInt_inj.mp (by rw [e, i32_1])
      subst e
      rfl
    · have e : w = 2 := Int32.toInt_inj.mp (by rw [e, i32_2])
      subst e
      rfl
  · obtain ⟨b0, b1, b2⟩ := big g
    refine And.intro (fun _ => ?_) (fun q => absurd rfl q)
    rw [if_neg b0, if_neg b1, if_neg b2]
    refine And.intro (fun e => ?_) (fun e0 => ?_)
    · have e : w = 3 := e
      rw [if_pos e]
      refine qC_of rfl rfl ?_
      refine qa_t1_W (cut := []) 10 ?_
      exact Exists.intro _ (And.intro rfl rfl)
    have e0 : ¬ w = 3 := e0
    rw [if_neg e0]
    refine And.intro (fun e => ?_) (fun e0 => ?_)
    · have e : w = 4 := e
      rw [if_pos e]
      refine h_isDug (fun c => Exists.intro 1 (And.intro rfl ?_)) (fun c => Exists.intro 0 (And.intro rfl ?_))
      · refine And.intro (fun q => absurd q (by decide)) (fun _ => ?_)
        refine qC_of rfl rfl ?_
        refine qa_t1_W (cut := []) 10 ?_
        refine Exists.intro _ (And.intro rfl ?_)
        show some (lI (gI s 17 0 5)) = some (lI (match gR s 17 0 4 with | none => -1 | some _ => gI s 17 0 5))
        cases eq : gR s 17 0 4 with
        | none => exact absurd eq c
        | some a => rfl
      · refine And.intro (fun _ => ?_) (fun q => absurd rfl q)
        have c : gR s 17 0 4 = none := c
        show some (lI (-1)) = some (lI (match gR s 17 0 4 with | none => -1 | some _ => gI s 17 0 5))
        rw [c]
    have e0 : ¬ w = 4 := e0
    rw [if_neg e0]
    refine And.intro (fun e => ?_) (fun e0 => ?_)
    · have e : w = 5 := e
      rw [if_pos e]
      rfl
    have e0 : ¬ w = 5 := e0
    rw [if_neg e0]
    refine And.intro (fun e => ?_) (fun e0 => ?_)
    · have e : w = 6 := e
      rw [if_pos e]
      rfl
    have e0 : ¬ w = 6 := e0
    rw [if_neg e0]
    refine And.intro (fun e => ?_) (fun e0 => ?_)
    · have e : w = 7 := e
      rw [if_pos e]
      rfl
    have e0 : ¬ w = 7 := e0
    rw [if_neg e0]
    rfl
end SC
section PO
variable {s s1 s2 : LMem} {Q : LPost}
theorem cnV_c {f g : Nat → Int32} {w : Int32} (h : ∀ j, j < 8 → f j = g j) : cnV f w = cnV g w := by
  unfold cnV
  rw [h 0 (by decide), h 1 (by decide), h 2 (by decide), h 3 (by decide), h 4 (by decide), h 5 (by decide), h 6 (by decide), h 7 (by decide)]
theorem cn_eq (hJ : zD s) : ∀ j, j < 8 → cn11 s j = cn12 s j := fun j hj => by
  obtain ⟨w1, w2, w3, w4, w5⟩ := hJ.2
  obtain ⟨l, h1, h2, h3, h4, h5, h6, h7, h8⟩ := hJ.1.1.2
  rcases (show j = 0 ∨ j = 1 ∨ j = 2 ∨ j = 3 ∨ j = 4 ∨ j = 5 ∨ j = 6 ∨ j = 7 by omega) with rfl | rfl | rfl | rfl | rfl | rfl | rfl | rfl
  · exact h6
  · exact h7
  · exact h8
  · exact h2.trans h3.symm
  · show (match gR s 17 0 4 with | none => -1 | some _ => gI s 17 0 5) = if gI s 33 0 35 = 0 then -1 else gI s 48 0 272
    rcases w3 with ⟨a0, a1, _⟩ | ⟨a0, a1, ⟨a2, _⟩, _⟩
    · rw [a1, if_pos a0]
    · rw [a1, if_neg (by rw [a0]; decide)]
      exact a2
  · exact w1 0 (by decide)
  · exact w1 1 (by decide)
  · exact w1 2 (by decide)
theorem prd_count {a : Int32} (hJ : zD s) (h : ∀ v s1, y_J x_X s1 → (∀ i j, gI s1 65 i j = gI s 65 i j) → (∀ a', a' = a → qC false 1200 313 [lR 33 (some 0), lI a'] s1 (prd s1 v)) → Q (some (lI v)) s1) : qC false 1200 160 [lR 0 (some 0), lI a] s Q := by
  have a0 := cn_11 (d := 1195) (w := a) (s := s)
  have b0 := kc (s := s) (As := [lR 0 (some 0), lI a]) (y_all x_X_cl h_all0 yk_X11_count (List.mem_of_getElem? (i := 222) rfl)) (by decide +kernel) rfl ⟨y_rcv, z_in_top _, trivial⟩ hJ.1
  refine qC_mono (qC_and a0 b0) fun r s1 q => ?_
  obtain ⟨er, z1, x1, F1⟩ := q
  subst er
  have R1 : RD s1 := RD_fr (by decide +kernel) F1 hJ.2
  refine h _ s1 z1.1.1 x1 fun a' ea => ?_
  subst ea
  have a2 := cn_12 (d := 1197) (w := a') (s := s1)
  have b2 := kc (s := s1) (As := [lR 33 (some 0), lI a']) (y_all x_X_cl h_all0 yk_X12_count (List.mem_of_getElem? (i := 223) rfl)) (by decide +kernel) rfl ⟨y_rcv, z_in_top _, trivial⟩ z1
  refine qC_mono (qC_and a2 b2) fun r2 s2 q => ?_
  obtain ⟨er2, z2, x2, F2⟩ := q
  refine ⟨?_, ⟨z2, RD_fr (by decide +kernel) F2 R1⟩, x2⟩
  have g : ∀ k i j, gI s1 k i j = gI s k i j ∧ gL s1 k i j = gL s k i j ∧ gR s1 k i j = gR s k i j := fun k i j => F1 k i j (fun ⟨w, hw, _⟩ => absurd hw List.not_mem_nil)
  have e : cnV (cn11 s) a' = cnV (cn12 s1) a' := cnV_c fun j hj => by
    rw [cn_eq hJ j hj]
    rcases (show j = 0 ∨ j = 1 ∨ j = 2 ∨ j = 3 ∨ j = 4 ∨ j = 5 ∨ j = 6 ∨ j = 7 by omega) with rfl | rfl | rfl | rfl | rfl | rfl | rfl | rfl
    · exact (g 33 0 21).1.symm
    · exact (g 33 0 13).1.symm
    · exact (g 33 0 22).1.symm
    · exact (g 33 0 2).1.symm
    · show (if gI s 33 0 35 = 0 then -1 else gI s 48 0 272) = if gI s1 33 0 35 = 0 then -1 else gI s1 48 0 272
      rw [(g 33 0 35).1, (g 48 0 272).1]
    · exact (g 33 0 23).1.symm
    · exact (g 33 0 24).1.symm
    · exact (g 33 0 25).1.symm
  rw [er2, e]
theorem prd_shut {a b : Int32} (hb : (0 : Int) ≤ b.toInt ∧ b.toInt ≤ 1) (hJ : zD s) (h : ∀ v s1, y_J x_X s1 → (∀ i j, gI s1 65 i j = gI s 65 i j) → (∀ a' b', a' = a → b' = b → qC false 1200 264 [lR 33 (some 0), lI a', lI b'] s1 (prd s1 v)) → Q (some (lI v)) s1) : qC false 1200 169 [lR 0 (some 0), lI a, lI b] s Q := by
  have a0 := shut_11 (d := 1190) (x := a) (s := s) hb hJ.1.1.1
  have b0 := kc (s := s) (As := [lR 0 (some 0), lI a, lI b]) (y_all x_X_cl h_all0 yk_X11_shut (List.mem_of_getElem? (i := 197) rfl)) (by decide +kernel) rfl ⟨y_rcv, z_in_top _, ⟨hb.1, hb.2⟩, trivial⟩ hJ.1
  refine qC_mono (qC_and a0 b0) fun r s1 q => ?_
  obtain ⟨O, z1, x1, F1⟩ := q
  obtain ⟨w1, w2, w3, w4, w5⟩ := hJ.2
  have R1 : RD s1 := RD_fr (by decide +kernel) F1 hJ.2
  have f35 : gI s1 33 0 35 = gI s 33 0 35 := fr_k F1 33 0 35 (by decide +kernel)
  have f272 : gI s1 48 0 272 = gI s 48 0 272 := fr_K F1 48 (by decide +kernel) 0 272
  have same : (0 ≤ a.toInt ∧ a.toInt < (gI s 17 0 5).toInt) ↔ (¬ gI s 33 0 35 = 0 ∧ 0 ≤ a.toInt ∧ a.toInt < (gI s 48 0 272).toInt) := by
    rcases w3 with ⟨a0, a1, a2⟩ | ⟨a0, a1, ⟨a2, _⟩, _⟩
    · rw [a2, i32_0]
      exact ⟨fun q => by omega, fun q => absurd a0 q.1⟩
    · rw [a2]
      exact ⟨fun q => ⟨by rw [a0]; decide, q⟩, fun q => q.2⟩
  have main : ∀ v, r = some (lI v) → (((0 ≤ a.toInt ∧ a.toInt < (gI s 17 0 5).toInt) ∧ v = 1) ∨ (¬ (0 ≤ a.toInt ∧ a.toInt < (gI s 17 0 5).toInt) ∧ v = 0)) → Q r s1 := fun v er OO => by
    clear O
    subst er
    refine h v s1 z1.1.1 x1 fun a' b' ea eb => ?_
    subst ea eb
    have a2 := shut_12 (d := 1190) (x := a') (b := b') (s := s1) z1.1.1
    have b2 := kc (s := s1) (As := [lR 33 (some 0), lI a', lI b']) (y_all x_X_cl h_all0 yk_X12_shut (List.mem_of_getElem? (i := 198) rfl)) (by decide +kernel) rfl ⟨y_rcv, z_in_top _, ⟨hb.1, hb.2⟩, trivial⟩ z1
    refine qC_mono (qC_and a2 b2) fun r2 s2 q => ?_
    obtain ⟨O2, z2, x2, F2⟩ := q
    rw [f35, f272] at O2
    refine ⟨?_, ⟨z2, RD_fr (by decide +kernel) F2 R1⟩, x2⟩
    rcases OO with ⟨P, rfl⟩ | ⟨nP, rfl⟩
    · rcases O2 with ⟨_, e⟩ | ⟨n, _⟩
      · exact e
      · exact absurd (same.mp P) n
    · rcases O2 with ⟨P, _⟩ | ⟨_, e⟩
      · exact absurd (same.mpr P) nP
      · exact e
  rcases O with ⟨P, er⟩ | ⟨nP, er⟩
  · exact main _ er (Or.inl ⟨P, rfl⟩)
  · exact main _ er (Or.inr ⟨nP, rfl⟩)
end PO
