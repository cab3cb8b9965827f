/-! turns: byTurns, order, layTurns, turn. -/
def owF (s : LMem) : Nat → Nat → Nat → Nat
  | 0, _, m => m
  | j + 1, r, m => owF s j (r + 1) (max m (gI s 48 0 (160 + 5 * r + 3)).toInt.toNat)
theorem owF_eq {s s' : LMem} (h : ∀ j, 160 ≤ j → j < 260 → gI s' 48 0 j = gI s 48 0 j) : ∀ j r m, r + j ≤ 20 → owF s' j r m = owF s j r m
  | 0, _, _, _ => rfl
  | j + 1, r, m, hr => by
    unfold owF
    rw [h (160 + 5 * r + 3) (by omega) (by omega)]
    exact owF_eq h j (r + 1) _ (by omega)
theorem owF_le {s : LMem} {n : Nat} (hJ : y_J x_X s) (hn : gI s 48 0 272 = nI n) (hn2 : n ≤ 20) : ∀ j r m, r + j = n → m ≤ 5 → owF s j r m ≤ 5
  | 0, _, _, _, hm => hm
  | j + 1, r, m, hr, hm => by
    unfold owF
    obtain ⟨o, ho, ho2⟩ := x_owner (r := r) hJ hn hn2 (by omega)
    refine owF_le hJ hn hn2 j (r + 1) _ (by omega) ?_
    rw [ho2, nI_toInt (by omega)]
    omega
theorem ow_l {d bc bs n : Nat} {s : LMem} {Q : LPost} (hJ : y_J x_X s) (hn : gI s 48 0 272 = nI n) (hn2 : n ≤ 20) : ∀ j r m, r + j = n → m ≤ 5 → Q (some (lI (nI (owF s j r m + 1)))) s → qW false (d + 1) 274 bc bs 4 [some (lR 33 (some 0)), some (lI (nI m)), some (lI (nI r))] [] s Q := by
  intro j
  induction j with
  | zero =>
    intro r m hr hm h
    have hr : r = n := hr
    subst hr
    have hlt : ¬ nI r < gI s 48 0 272 := by rw [hn]; exact nI_nlt (Nat.le_refl _) (by omega)
    have h1 : Q (some (lI (nI m + 1))) s := by rw [nI_1]; exact h
    refine qa_t1_W (cut := [4]) 20 ?_
    refine And.intro (x_vc (by decide) (by decide)) ?_
    exact And.intro (fun q => absurd q hlt) (fun _ => h1)
  | succ j ih =>
    intro r m hr hm h
    obtain ⟨o, ho, ho2⟩ := x_owner (r := r) hJ hn hn2 (by omega)
    have e : (gI s 48 0 (160 + 5 * r + 3)).toInt.toNat = o := by rw [ho2, nI_toInt (by omega)]; rfl
    have h : Q (some (lI (nI (owF s j (r + 1) (max m (gI s 48 0 (160 + 5 * r + 3)).toInt.toNat) + 1)))) s := h
    rw [e] at h
    have ih := ih (r + 1) (max m o) (by omega) (by omega) h
    rw [← nI_max m o (by omega) (by omega), nI_succ, ← ho2] at ih
    have hlt : nI r < gI s 48 0 272 := by rw [hn]; exact nI_lt (by omega) (by omega)
    refine qa_t1_W (cut := [4]) 40 ?_
    refine And.intro (x_vc (by decide) (by decide)) ?_
    refine And.intro (fun _ => ?_) (fun q => absurd hlt q)
    exact h_its (r := r) (w := 3) (by omega) (by decide) (Exists.intro _ (And.intro rfl ih))
theorem h_ownF {d n : Nat} {s : LMem} {Q : LPost} (hJ : y_J x_X s) (hn : gI s 48 0 272 = nI n) (hn2 : n ≤ 20) (h : Q (some (lI (nI (owF s n 0 0 + 1)))) s) : qC false (d + 2) 274 [lR 33 (some 0)] s Q := by
  refine qC_of rfl rfl ?_
  refine qa_t1_W (cut := [4]) 10 ?_
  exact ow_l (n := n) hJ hn hn2 n 0 0 (Nat.zero_add n) (by omega) h
theorem h_harmN {d : Nat} {s : LMem} {Q : LPost} (hJ : y_J x_X s) (h : ∀ v s', y_J x_X s' → y_Fr [] s s' → Q (some (lI v)) s') : qC false (d + 2) 268 [lR 33 (some 0), lI (-1)] s Q := by
  refine qC_of rfl rfl ?_
  refine qa_t1_W (cut := []) 20 ?_
  refine And.intro (fun _ => ?_) (fun q => absurd rfl q)
  refine y_qC h_sum260 (d := d + 1) (by show 1 ≤ d + 1; omega) (As := [lR 33 (some 0), lI 260, lI 6]) ⟨y_rcv, ⟨by decide, by decide⟩, ⟨by decide, by decide⟩, trivial⟩ hJ fun r s3 z1 z2 z3 => ?_
  obtain ⟨x, rfl, -⟩ := y_int9 z1
  exact Exists.intro x (And.intro rfl (h x s3 z2 z3))
theorem h_cleanOf : y_con x_X yk_X12_cleanOf := y_all x_X_cl h_all0 yk_X12_cleanOf (List.mem_of_getElem? (i := 233) rfl)
/-- who goes on which day -/
def bt_T (s : LMem) (M : Nat) : Prop := ∀ k, k < M + 1 → k < 6 → ∃ o, o ≤ 5 ∧ gI s 56 0 k = nI o
abbrev bt_W : List YW := yh_X12_dayOf.2.2.2.1
theorem bt_l {d bc bs n rr M : Nat} {o2 : Int32} {s : LMem} {Q : LPost} (hd : 50 ≤ d) (hrr : rr ≤ 3) (hn : gI s 48 0 272 = nI n) (hn2 : n ≤ 20) (hM : owF s n 0 0 = M) (hT : bt_T s M) (h : ∀ m k, y_J x_X m → y_Fr bt_W s m → qW false (d + 2) 294 bc bs 62 [some (lR 33 (some 0)), some (lI (nI rr)), some (lI o2), k] [] m Q) : ∀ j k m, k + j = 30 → y_J x_X m → y_Fr bt_W s m → qW false (d + 2) 294 bc bs 12 [some (lR 33 (some 0)), some (lI (nI rr)), some (lI o2), some (lI (nI k))] [] m Q := by
  intro j
  induction j with
  | zero =>
    intro k m hk hJ hF
    have hk : k = 30 := hk
    subst hk
    have e5 : (nI rr).toNatClampNeg = rr := nI_clamp (by omega)
    have hb := (hJ.1 46 0 rr (0, 4, 0, 30) (by decide) (by show (0 : Int) ≤ (rr : Int); omega) (by show (rr : Int) ≤ 4; omega)).2
    have hlt : ¬ nI 30 < gI m 46 0 (nI rr).toNatClampNeg := fun q => by
      rw [e5] at q
      have q := Int32.lt_iff_toInt_lt.mp q
      rw [nI_toInt (by omega)] at q
      have hb : (gI m 46 0 rr).toInt ≤ 30 := hb
      omega
    have v5 : qa_vin (nI rr) 5 := nI_in (by omega) (by decide)
    refine qa_t1_W (cut := [62]) 20 ?_
    refine And.intro v5 ?_
    exact And.intro (fun q => absurd q hlt) (fun _ => h m _ hJ hF)
  | succ j ih =>
    intro k m hk hJ hF
    have v5 : qa_vin (nI rr) 5 := nI_in (by omega) (by decide)
    have i2 : nI 30 * nI rr + nI k = nI (30 * rr + k) := by rw [nI_mul, nI_add]
    have v150 : qa_vin ((30 : Int32) * nI rr + nI k) 150 := by
      rw [show (30 : Int32) = nI 30 from rfl, i2]
      exact nI_in (by omega) (by decide)
    have row : ∀ j, 160 ≤ j → j < 260 → gI m 48 0 j = gI s 48 0 j := fun j h1 h2 => (hF 48 0 j (x_nW 160 259 (by decide) (by omega) (by omega))).1
    have hn3 : gI m 48 0 272 = nI n := by rw [(hF 48 0 272 (x_nW 272 272 (by decide) (by decide) (by decide))).1, hn]
    have hM3 : owF m n 0 0 = M := by rw [owF_eq row n 0 0 (by omega), hM]
    have hM5 : M ≤ 5 := by rw [← hM3]; exact owF_le hJ hn3 hn2 n 0 0 (Nat.zero_add n) (by omega)
    have day : ∀ m', y_J x_X m' → y_Fr bt_W s m' → ∀ x, qC false (d + 1 + 1) 253 [lR 33 (some 0), lI x] m' (fun r s' => r = none ∧ qW false (d + 2) 294 bc bs 12 [some (lR 33 (some 0)), some (lI (nI rr)), some (lI o2), some (lI (nI k + 1))] [] s' Q) := fun m' hJ' hF' x => by
      refine y_qC h_X12_dayOf (d := d + 1 + 1) (by show 40 ≤ d + 1 + 1; omega) (As := [lR 33 (some 0), lI x]) ⟨y_rcv, z_in_top x, trivial⟩ hJ' fun r s2 w1 w2 w3 => ?_
      have er := y_none w1
      subst er
      refine And.intro rfl ?_
      rw [nI_1]
      exact ih (k + 1) s2 (by omega) w2 (y_Fr_tr2 hF' w3)
    refine qa_t1_W (cut := [12, 62]) 80 ?_
    refine And.intro v5 ?_
    refine And.intro (fun _ => ?_) (fun _ => h m _ hJ hF)
    refine h_ownF hJ hn3 hn2 ?_
    rw [hM3]
    refine Exists.intro _ (And.intro rfl ?_)
    refine And.intro (fun c => ?_) (fun _ => ?_)
    · have hk6 : k < M + 1 := by
        have c := Int32.lt_iff_toInt_lt.mp c
        rw [nI_toInt (by omega), nI_toInt (by omega)] at c
        omega
      have v6 : qa_vin (nI k) 6 := nI_in (by omega) (by decide)
      obtain ⟨o, ho, ho2⟩ := hT k hk6 (by omega)
      have e2 : gI m 56 0 (nI k).toNatClampNeg = nI o := by
        rw [nI_clamp (by omega), (hF 56 0 k (x_nW 0 5 (by decide) (by omega) (by omega))).1, ho2]
      refine And.intro v6 ?_
      refine y_qC h_cleanOf (d := d + 1 + 1) (by show 2 ≤ d + 1 + 1; omega) (As := [lR 33 (some 0), lI (gI m 56 0 (nI k).toNatClampNeg)]) ⟨y_rcv, ?_, trivial⟩ hJ fun r s2 w1 w2 w3 => ?_
      · rw [e2]
        show (0 : Int) ≤ (nI o).toInt ∧ (nI o).toInt ≤ 5
        rw [nI_toInt (by omega)]
        omega
      · obtain ⟨x, rfl, -⟩ := y_int9 w1
        refine Exists.intro x (And.intro rfl ?_)
        exact And.intro v150 (day s2 w2 (y_Fr_tr (V := yk_X12_cleanOf.2.2.2.1) (by decide +kernel) hF w3) _)
    · exact And.intro v150 (day m hJ hF _)
/-- putAside, takeBack: with what they copy -/
theorem h_putF {d : Nat} {s : LMem} {Q : LPost} (hJ : y_J x_X s) (h : ∀ m, y_J x_X m → y_Fr yh_X12_putAside.2.2.2.1 s m → (∀ j, j < 279 → gI m 49 0 j = gI s 48 0 j) → Q none m) : qC false (d + 1) 265 [lR 33 (some 0)] s Q := by
  refine qC_of rfl rfl ?_
  refine qa_t1_W (cut := [2]) 10 ?_
  refine h_X12_putAside_l (fun m hm => ?_) 279 0 s rfl (x_cp_0 48 49 s)
  refine qa_t1_W (cut := []) 20 ?_
  have hJ1 := x_cp_J (by decide) (by decide) (by decide) hJ hm
  have hF1 : y_Fr yh_X12_putAside.2.2.2.1 s m := x_cp_Fr hm (by decide)
  exact h _ (y_J_sL (y_J_sL hJ1)) (y_Fr_sL (y_Fr_sL hF1 (x_iW1 (by decide))) (x_iW1 (by decide))) hm.2.1
theorem h_takeF {d : Nat} {s : LMem} {Q : LPost} (hJ : y_J x_X s) (h : ∀ m, y_J x_X m → y_Fr yh_X12_takeBack.2.2.2.1 s m → (∀ j, j < 279 → gI m 48 0 j = gI s 49 0 j) → Q none m) : qC false (d + 1) 266 [lR 33 (some 0)] s Q := by
  refine qC_of rfl rfl ?_
  refine qa_t1_W (cut := [2]) 10 ?_
  refine h_X12_takeBack_l (fun m hm => ?_) 279 0 s rfl (x_cp_0 49 48 s)
  refine qa_t1_W (cut := []) 20 ?_
  have hJ1 := x_cp_J (by decide) (by decide) (by decide) hJ hm
  have hF1 : y_Fr yh_X12_takeBack.2.2.2.1 s m := x_cp_Fr hm (by decide)
  exact h _ (y_J_sL (y_J_sL hJ1)) (y_Fr_sL (y_Fr_sL hF1 (x_iW1 (by decide))) (x_iW1 (by decide))) hm.2.1
theorem h_byTurns {d n rr M : Nat} {s : LMem} {Q : LPost} (hd : 60 ≤ d) (hJ : y_J x_X s) (hrr : rr ≤ 3) (hn : gI s 48 0 272 = nI n) (hn2 : n ≤ 20) (hM : owF s n 0 0 = M) (hT : bt_T s M) (h : ∀ v s', y_J x_X s' → y_Fr yh_X12_harmBy.2.2.2.1 s s' → (∀ j, j < 279 → gI s' 48 0 j = gI s 48 0 j) → Q (some (lI v)) s') : qC false (d + 3) 294 [lR 33 (some 0), lI (nI rr)] s Q := by
  refine qC_of rfl rfl ?_
  refine qa_t1_W (cut := [12]) 30 ?_
  refine h_putF hJ fun s1 u2 u3 u4 => ?_
  refine And.intro rfl ?_
  have F1 : y_Fr yh_X12_harmBy.2.2.2.1 s s1 := y_Fr_tr (V := yh_X12_putAside.2.2.2.1) (by decide +kernel) (y_Fr_rf _ _) u3
  refine h_harmN u2 fun v s2 J2 f2 => ?_
  refine Exists.intro v (And.intro rfl ?_)
  have F2 : y_Fr yh_X12_harmBy.2.2.2.1 s s2 := y_Fr_tr (V := []) (by decide) F1 f2
  have G : y_Fr yh_X12_putAside.2.2.2.1 s s2 := y_Fr_tr (V := []) (by decide) u3 f2
  have row : ∀ j, 160 ≤ j → j < 260 → gI s2 48 0 j = gI s 48 0 j := fun j h1 h2 => (G 48 0 j (x_nW 160 259 (by decide) (by omega) (by omega))).1
  have hn3 : gI s2 48 0 272 = nI n := by rw [(G 48 0 272 (x_nW 272 272 (by decide) (by decide) (by decide))).1, hn]
  have hM3 : owF s2 n 0 0 = M := by rw [owF_eq row n 0 0 (by omega), hM]
  have hT3 : bt_T s2 M := fun k h1 h2 => by
    rw [(G 56 0 k (x_nW 0 5 (by decide) (by omega) (by omega))).1]
    exact hT k h1 h2
  refine bt_l (by omega) hrr hn3 hn2 hM3 hT3 (fun m k Jm Fm => ?_) 30 0 s2 rfl J2 (y_Fr_rf _ _)
  have F3 : y_Fr yh_X12_harmBy.2.2.2.1 s m := y_Fr_tr (V := bt_W) (by decide +kernel) F2 Fm
  refine qa_t1_W (cut := []) 30 ?_
  refine h_harmN Jm fun v s4 J4 f4 => ?_
  refine Exists.intro v (And.intro rfl ?_)
  have F4 : y_Fr yh_X12_harmBy.2.2.2.1 s s4 := y_Fr_tr (V := []) (by decide) F3 f4
  refine h_takeF J4 fun s3 z2 z3 z4 => ?_
  refine And.intro rfl ?_
  refine h _ s3 z2 (hb_tb F4 z3) (fun j hj => ?_)
  rw [z4 j hj, (f4 49 0 j (x_nW 0 278 (by decide) (by omega) (by omega))).1, (Fm 49 0 j (x_nW 0 278 (by decide) (by omega) (by omega))).1, (f2 49 0 j (x_nW 0 278 (by decide) (by omega) (by omega))).1, u4 j hj]
/-- only turns are written -/
def tu_S (s m : LMem) : Prop := (∀ k i j, ¬ (k = 56 ∧ i = 0 ∧ j < 6) → gI m k i j = gI s k i j) ∧ (∀ k i j, gL m k i j = gL s k i j) ∧ ∀ k i j, gR m k i j = gR s k i j
theorem tu_0 {s : LMem} : tu_S s s := ⟨fun _ _ _ _ => rfl, fun _ _ _ => rfl, fun _ _ _ => rfl⟩
theorem tu_s {s m : LMem} {j : Nat} {v : Int32} (hj : j < 6) (h : tu_S s m) : tu_S s (sI m 56 0 j v) := by
  refine ⟨fun k i j' hn => ?_, h.2.1, h.2.2⟩
  rw [gI_sI, if_neg (fun q => hn (by obtain ⟨rfl, rfl, rfl⟩ := q; exact ⟨rfl, rfl, hj⟩))]
  exact h.1 k i j' hn
theorem tu_J {s : LMem} {j : Nat} {v : Int32} (h1 : 0 ≤ v.toInt) (h2 : v.toInt ≤ 9) (hJ : y_J x_X s) : y_J x_X (sI s 56 0 j v) := by
  refine y_J_w hJ (fun r hr g1 g2 => ?_) (x_npr rfl)
  have hr : r ∈ [((0 : Int), (5 : Int), (0 : Int), (9 : Int))] := hr
  rw [List.mem_singleton.mp hr]
  exact ⟨h1, h2⟩
theorem tu_W {W : List YW} {s m : LMem} (hW : (56, (0 : Int), (0 : Int), (0 : Int), (5 : Int)) ∈ W) (h : tu_S s m) : y_Fr W s m := fun k i j hn => by
  refine ⟨h.1 k i j (fun q => hn ?_), h.2.1 k i j, h.2.2 k i j⟩
  obtain ⟨rfl, rfl, q⟩ := q
  exact ⟨_, hW, rfl, ⟨Int.le_refl _, Int.le_refl _⟩, by show (0 : Int) ≤ (j : Int); omega, by show (j : Int) ≤ 5; omega⟩
theorem tu_ow {s m : LMem} {n : Nat} (hn2 : n ≤ 20) (h : tu_S s m) : owF m n 0 0 = owF s n 0 0 := owF_eq (fun j _ _ => h.1 48 0 j (fun q => absurd q.1 (by decide))) n 0 0 (by omega)
abbrev tu_WW : List YW := (56, 0, 0, 0, 5) :: yh_X12_harmBy.2.2.2.1
def yh_X12_order : YCt := (295, [.inr (.inr (33, (0, 0), (0, 0))), .inl ((-2147483648), 2147483647), .inl (0, 1)], ([], []), tu_WW, [(some (.inl ((-2147483648), 2147483647)), [])], 100)
theorem or_l {d bc bs M : Nat} {p1 p2 : Int32} {s : LMem} {Q : LPost} (hM : M ≤ 5) (h : ∀ m o, y_J x_X m → tu_S s m → bt_T m M → qW false d 295 bc bs 59 [some (lR 33 (some 0)), some (lI p1), some (lI p2), some (lI (nI (M + 1))), o] [] m Q) : ∀ j k m, k + j = M + 1 → y_J x_X m → tu_S s m → (∀ k', k' < k → ∃ o, o ≤ 5 ∧ gI m 56 0 k' = nI o) → qW false d 295 bc bs 25 [some (lR 33 (some 0)), some (lI p1), some (lI p2), some (lI (nI (M + 1))), some (lI (nI k))] [] m Q := by
  intro j
  induction j with
  | zero =>
    intro k m hk hJ hS hT
    have hk : k = M + 1 := hk
    subst hk
    refine qa_t1_W (cut := [59]) 10 ?_
    exact And.intro (fun q => absurd q (nI_nlt (Nat.le_refl _) (by omega))) (fun _ => h m _ hJ hS (fun k' q _ => hT k' q))
  | succ j ih =>
    intro k m hk hJ hS hT
    have hlt : nI k < nI (M + 1) := nI_lt (by omega) (by omega)
    have v6 : qa_vin (nI k) 6 := nI_in (by omega) (by decide)
    have e9 : (nI k).toNatClampNeg = k := nI_clamp (by omega)
    have go : ∀ o, o ≤ 5 → ∀ x, x = nI o → qW false d 295 bc bs 25 [some (lR 33 (some 0)), some (lI p1), some (lI p2), some (lI (nI (M + 1))), some (lI (nI k + 1))] [] (sI m 56 0 (nI k).toNatClampNeg x) Q := fun o ho x hx => by
      subst hx
      rw [e9, nI_1]
      refine ih (k + 1) _ (by omega) (tu_J (by rw [nI_toInt (by omega)]; omega) (by rw [nI_toInt (by omega)]; omega) hJ) (tu_s (by omega) hS) (fun k' hk' => ?_)
      rw [gI_sI]
      by_cases e : k' = k
      · rw [if_pos ⟨rfl, rfl, e⟩]
        exact ⟨o, ho, rfl⟩
      · rw [if_neg (fun q => e q.2.2)]
        exact hT k' (by omega)
    have es : nI (M + 1) - 1 - nI k = nI (M - k) := by
      apply Int32.toInt_inj.mp
      have h1 : (1 : Int32).toInt = 1 := by decide
      have z1 : (nI (M + 1) - 1).toInt = M := by
        rw [y_subI, nI_toInt (by omega), h1]
        · omega
        · rw [nI_toInt (by omega), h1]; omega
        · rw [nI_toInt (by omega), h1]; omega
      rw [y_subI, z1, nI_toInt (by omega), nI_toInt (by omega)]
      · omega
      · rw [z1, nI_toInt (by omega)]; omega
      · rw [z1, nI_toInt (by omega)]; omega
    refine qa_t1_W (cut := [25]) 40 ?_
    refine And.intro (fun _ => ?_) (fun q => absurd hlt q)
    refine And.intro (fun _ => ?_) (fun _ => ?_)
    · exact And.intro v6 (go k (by omega) _ rfl)
    · exact And.intro v6 (go (M - k) (by omega) _ es)
theorem h_X12_order : y_con x_X yh_X12_order := by
  intro d hd As s Q hA hJ hp hQ
  obtain ⟨v1, r1, rfl, a1, hA⟩ := y_as1 hA
  obtain ⟨v2, r2, rfl, a2, hA⟩ := y_as1 hA
  obtain ⟨v3, r3, rfl, a3, hA⟩ := y_as1 hA
  have e9 := y_as0 hA
  subst e9
  have e1 := y_this (k := 33) (i := 0) a1
  subst e1
  obtain ⟨p1, rfl, -, -⟩ := y_aI a2
  obtain ⟨p2, rfl, -, -⟩ := y_aI a3
  have hd : 100 ≤ d := hd
  obtain ⟨d, rfl⟩ : ∃ d', d = d' + 4 := ⟨d - 4, by omega⟩
  obtain ⟨D, hD2, hD⟩ := y_nIof2 (N := 4) (x := gI s 33 0 22) (hJ.1 33 0 22 (22, 22, 0, 4) (by decide) (by decide) (by decide)).1 (hJ.1 33 0 22 (22, 22, 0, 4) (by decide) (by decide) (by decide)).2
  obtain ⟨n, hn2, hn⟩ := x_many hJ 48 (Or.inl rfl)
  have hM5 : owF s n 0 0 ≤ 5 := owF_le hJ hn hn2 n 0 0 (Nat.zero_add n) (by omega)
  have no : Q (some (lI (-1))) s := hQ _ s (y_post1 (z_in_top _)) hJ (y_Fr_rf _ _)
  refine qC_of rfl rfl ?_
  refine qa_t1_W (cut := [25]) 60 ?_
  refine And.intro (fun _ => no) (fun _ => ?_)
  refine h_isR hD (by omega) (fun i hi e3 => Exists.intro 1 (And.intro rfl ?_)) (Exists.intro 0 (And.intro rfl ?_))
  · refine And.intro (fun q => absurd q (by decide)) (fun _ => ?_)
    refine h_ownF hJ hn hn2 ?_
    refine Exists.intro _ (And.intro rfl ?_)
    refine or_l hM5 (fun m o Jm Sm Tm => ?_) (owF s n 0 0 + 1) 0 s (Nat.zero_add _) hJ tu_0 (fun k' q => absurd q (Nat.not_lt_zero _))
    refine qa_t1_W (cut := []) 20 ?_
    subst e3
    have hn3 : gI m 48 0 272 = nI n := by rw [Sm.1 48 0 272 (fun q => absurd q.1 (by decide)), hn]
    refine h_byTurns (M := owF s n 0 0) (by omega) Jm (by omega) hn3 hn2 (tu_ow hn2 Sm) Tm (fun v s' J' F' _ => ?_)
    refine Exists.intro v (And.intro rfl ?_)
    exact hQ _ s' (y_post1 (z_in_top _)) J' (y_Fr_tr (V := yh_X12_harmBy.2.2.2.1) (by decide +kernel) (tu_W (by decide) Sm) F')
  · exact And.intro (fun _ => no) (fun q => absurd rfl q)
/-! layTurns, turn -/
theorem lt_bits : ∀ n : Fin 5, ∀ t : Fin 10, (((1 : Int32) <<< (nI n.1 &&& 31)) - 1) ||| ((1 : Int32) <<< (nI t.1 &&& 31)) = ((1 : Int32) <<< (nI n.1 &&& 31)) - 1 → t.1 < n.1 := by decide +kernel
theorem lt_l {d bc bs n : Nat} {p1 : Int32} {s : LMem} {Q : LPost} (hn : n ≤ 4) (h1 : ∀ m, y_J x_X m → tu_S s m → (∀ k, k < n → ∃ o, o < n ∧ gI m 56 0 k = nI o) → Q (some (lI 1)) m) (h0 : ∀ m, y_J x_X m → tu_S s m → Q (some (lI 0)) m) : ∀ kk m v3 v4, kk ≤ n → 0 ≤ v3.toInt → y_J x_X m → tu_S s m → (∀ k, kk ≤ k → k < n → ∃ t, t ≤ 9 ∧ gI m 56 0 k = nI t ∧ v4 ||| ((1 : Int32) <<< (nI t &&& 31)) = v4) → qW false d 296 bc bs 10 [some (lR 33 (some 0)), some (lI p1), some (lI (nI n)), some (lI v3), some (lI v4), some (lI (nI kk + -1))] [] m Q := by
  intro kk
  induction kk with
  | zero =>
    intro m v3 v4 _ h3 hJ hS hT
    refine qa_t1_W (cut := []) 40 ?_
    refine And.intro (fun _ => ?_) (fun q => absurd (by decide) q)
    refine And.intro (fun c => ?_) (fun _ => ?_)
    · refine And.intro (Or.inr rfl) (h1 m hJ hS fun k hk => ?_)
      obtain ⟨t, ht, ht2, ht3⟩ := hT k (Nat.zero_le _) hk
      refine ⟨t, ?_, ht2⟩
      rw [c] at ht3
      exact lt_bits ⟨n, by omega⟩ ⟨t, by omega⟩ ht3
    · exact And.intro (Or.inl rfl) (h0 m hJ hS)
  | succ kk ih =>
    intro m v3 v4 hk h3 hJ hS hT
    have e : nI (kk + 1) + -1 = nI kk := by
      have h1 : (1 : Int32).toInt = 1 := by decide
      rw [show nI (kk + 1) + -1 = nI (kk + 1) - 1 from (Int32.sub_eq_add_neg _ _).symm]
      apply Int32.toInt_inj.mp
      rw [y_subI, nI_toInt (by omega), h1, nI_toInt (by omega)]
      · omega
      · rw [nI_toInt (by omega), h1]; omega
      · rw [nI_toInt (by omega), h1]; omega
    rw [e]
    have hlt : ¬ nI kk < 0 := nI_nlt (b := 0) (by omega) (by omega)
    have v6 : qa_vin (nI kk) 6 := nI_in (by omega) (by decide)
    have e9 : (nI kk).toNatClampNeg = kk := nI_clamp (by omega)
    have t10 : (10 : Int32).toInt = 10 := by decide
    have hr := y_remI (x := v3) (y := 10) h3 (by decide)
    have hq := y_divI (x := v3) (y := 10) h3 (by decide)
    rw [t10] at hr hq
    obtain ⟨t, ht, et⟩ := y_nIof2 (N := 9) (x := v3 - v3 / 10 * 10) (by omega) (by omega)
    have go : qW false d 296 bc bs 10 [some (lR 33 (some 0)), some (lI p1), some (lI (nI n)), some (lI (v3 / 10)), some (lI (v4 ||| ((1 : Int32) <<< (gI (sI m 56 0 (nI kk).toNatClampNeg (v3 - v3 / 10 * 10)) 56 0 (nI kk).toNatClampNeg &&& 31)))), some (lI (nI kk + -1))] [] (sI m 56 0 (nI kk).toNatClampNeg (v3 - v3 / 10 * 10)) Q := by
      rw [e9, gI_sI, if_pos ⟨rfl, rfl, rfl⟩, et]
      refine ih _ _ _ (by omega) (by omega) (tu_J (by rw [nI_toInt (by omega)]; omega) (by rw [nI_toInt (by omega)]; omega) hJ) (tu_s (by omega) hS) (fun k h1 h2 => ?_)
      rw [gI_sI]
      by_cases e : k = kk
      · rw [if_pos ⟨rfl, rfl, e⟩]
        exact ⟨t, ht, rfl, by rw [Int32.or_assoc, Int32.or_self]⟩
      · rw [if_neg (fun q => e q.2.2)]
        obtain ⟨t', g1, g2, g3⟩ := hT k (by omega) h2
        refine ⟨t', g1, g2, ?_⟩
        rw [Int32.or_assoc, Int32.or_comm ((1 : Int32) <<< (nI t &&& 31)), ← Int32.or_assoc, g3]
    refine qa_t1_W (cut := [10]) 60 ?_
    refine And.intro (fun q => absurd q hlt) (fun _ => ?_)
    exact And.intro (by decide) (And.intro v6 (And.intro v6 (And.intro (by decide) go)))
theorem h_layTurns {d n k : Nat} {s : LMem} {Q : LPost} (hn1 : 1 ≤ n) (hn : n ≤ 4) (hk : k < 10000) (hJ : y_J x_X s) (h1 : ∀ m, y_J x_X m → tu_S s m → (∀ k, k < n → ∃ o, o < n ∧ gI m 56 0 k = nI o) → Q (some (lI 1)) m) (h0 : ∀ m, y_J x_X m → tu_S s m → Q (some (lI 0)) m) : qC false (d + 1) 296 [lR 33 (some 0), lI (nI k), lI (nI n)] s Q := by
  have st := lt_l (d := d) (bc := 0) (bs := 0) (p1 := nI k) hn h1 h0 n s (nI k) 0 (Nat.le_refl _) (by rw [nI_toInt (by omega)]; omega) hJ tu_0 (fun k q1 q2 => absurd q2 (by omega))
  rw [← Int32.sub_eq_add_neg] at st
  refine qC_of rfl rfl ?_
  exact qa_t1_W (cut := [10]) 20 st
def yh_X12_turn : YCt := (297, [.inr (.inr (33, (0, 0), (0, 0))), .inl ((-2147483648), 2147483647)], ([], []), tu_WW, [(some (.inl ((-2147483648), 2147483647)), [])], 100)
theorem tn_l {d bc bs n rr M : Nat} {s : LMem} {Q : LPost} (hd : 60 ≤ d) (hrr : rr ≤ 3) (hn : gI s 48 0 272 = nI n) (hn2 : n ≤ 20) (hM : owF s n 0 0 = M) (hM3 : M ≤ 3) (h : ∀ m v, y_J x_X m → y_Fr tu_WW s m → Q (some (lI v)) m) : ∀ j k m v3 v4 o6, k + j = 10000 → y_J x_X m → y_Fr tu_WW s m → (∀ j, j < 279 → gI m 48 0 j = gI s 48 0 j) → qW false (d + 3) 297 bc bs 38 [some (lR 33 (some 0)), some (lI (nI rr)), some (lI (nI (M + 1))), some (lI v3), some (lI v4), some (lI (nI k)), o6] [] m Q := by
  intro j
  induction j with
  | zero =>
    intro k m v3 v4 o6 hk hJ hF h48
    have hk : k = 10000 := hk
    subst hk
    have fin := h m v3 hJ hF
    refine qa_t1_W (cut := [38]) 40 ?_
    refine And.intro (fun _ => ?_) (fun _ => ?_)
    · exact And.intro (fun q => absurd q (by decide)) (fun _ => fin)
    refine And.intro (fun _ => ?_) (fun _ => ?_)
    · exact And.intro (fun q => absurd q (by decide)) (fun _ => fin)
    refine And.intro (fun _ => ?_) (fun _ => ?_)
    · exact And.intro (fun q => absurd q (by decide)) (fun _ => fin)
    · exact And.intro (fun q => absurd q (by decide)) (fun _ => fin)
  | succ j ih =>
    intro k m v3 v4 o6 hk hJ hF h48
    have fin := h m v3 hJ hF
    have hn4 : gI m 48 0 272 = nI n := by rw [h48 272 (by decide), hn]
    have hM4 : owF m n 0 0 = M := by rw [owF_eq (fun j _ _ => h48 j (by omega)) n 0 0 (by omega), hM]
    have again : ∀ m', y_J x_X m' → y_Fr tu_WW s m' → (∀ j, j < 279 → gI m' 48 0 j = gI s 48 0 j) → ∀ v3 v4 o6, qW false (d + 3) 297 bc bs 38 [some (lR 33 (some 0)), some (lI (nI rr)), some (lI (nI (M + 1))), some (lI v3), some (lI v4), some (lI (nI k + 1)), o6] [] m' Q := fun m' J' F' g v3 v4 o6 => by
      rw [nI_1]
      exact ih (k + 1) m' v3 v4 o6 (by omega) J' F' g
    have step : qC false (d + 3) 296 [lR 33 (some 0), lI (nI k), lI (nI (M + 1))] m (fun r m1 => ∃ a, r = some (lI a) ∧ ((a = 0 → qW false (d + 3) 297 bc bs 113 [some (lR 33 (some 0)), some (lI (nI rr)), some (lI (nI (M + 1))), some (lI v3), some (lI v4), some (lI (nI k)), o6] [] m1 Q) ∧ (¬ a = 0 → qW false (d + 3) 297 bc bs 87 [some (lR 33 (some 0)), some (lI (nI rr)), some (lI (nI (M + 1))), some (lI v3), some (lI v4), some (lI (nI k)), o6] [] m1 Q))) := by
      refine h_layTurns (by omega) (by omega) (by omega) hJ (fun m1 J1 S1 T1 => Exists.intro 1 (And.intro rfl (And.intro (fun q => absurd q (by decide)) (fun _ => ?_)))) (fun m1 J1 S1 => Exists.intro 0 (And.intro rfl (And.intro (fun _ => ?_) (fun q => absurd rfl q))))
      · have F1 : y_Fr tu_WW s m1 := y_Fr_tr2 hF (tu_W (by decide) S1)
        have g1 : ∀ j, j < 279 → gI m1 48 0 j = gI s 48 0 j := fun j hj => by rw [S1.1 48 0 j (fun q => absurd q.1 (by decide)), h48 j hj]
        have hn5 : gI m1 48 0 272 = nI n := by rw [g1 272 (by decide), hn]
        have hM5 : owF m1 n 0 0 = M := by rw [owF_eq (fun j _ _ => g1 j (by omega)) n 0 0 (by omega), hM]
        have hT : bt_T m1 M := fun k' q1 q2 => by
          obtain ⟨o, ho, ho2⟩ := T1 k' q1
          exact ⟨o, by omega, ho2⟩
        refine qa_t1_W (cut := [38]) 40 ?_
        refine h_byTurns (M := M) hd J1 hrr hn5 hn2 hM5 hT (fun v s' J' F' g' => ?_)
        refine Exists.intro v (And.intro rfl ?_)
        have F2 : y_Fr tu_WW s s' := y_Fr_tr (V := yh_X12_harmBy.2.2.2.1) (by decide +kernel) F1 F'
        have g2 : ∀ j, j < 279 → gI s' 48 0 j = gI s 48 0 j := fun j hj => by rw [g' j hj, g1 j hj]
        refine And.intro (fun _ => ?_) (fun _ => ?_)
        · exact again s' J' F2 g2 _ _ _
        · exact And.intro (fun _ => again s' J' F2 g2 _ _ _) (fun _ => again s' J' F2 g2 _ _ _)
      · have F1 : y_Fr tu_WW s m1 := y_Fr_tr2 hF (tu_W (by decide) S1)
        have g1 : ∀ j, j < 279 → gI m1 48 0 j = gI s 48 0 j := fun j hj => by rw [S1.1 48 0 j (fun q => absurd q.1 (by decide)), h48 j hj]
        exact qa_t1_W (cut := [38]) 10 (again m1 J1 F1 g1 _ _ _)
    refine qa_t1_W (cut := [87, 113]) 40 ?_
    refine And.intro (fun _ => ?_) (fun _ => ?_)
    · exact And.intro (fun _ => step) (fun _ => fin)
    refine And.intro (fun _ => ?_) (fun _ => ?_)
    · exact And.intro (fun _ => step) (fun _ => fin)
    refine And.intro (fun _ => ?_) (fun _ => ?_)
    · exact And.intro (fun _ => step) (fun _ => fin)
    · exact And.intro (fun _ => step) (fun _ => fin)
theorem h_X12_turn : y_con x_X yh_X12_turn := by
  intro d hd As s Q hA hJ hp hQ
  obtain ⟨v1, r1, rfl, a1, hA⟩ := y_as1 hA
  obtain ⟨v2, r2, rfl, a2, hA⟩ := y_as1 hA
  have e9 := y_as0 hA
  subst e9
  have e1 := y_this (k := 33) (i := 0) a1
  subst e1
  obtain ⟨p1, rfl, -, -⟩ := y_aI a2
  have hd : 100 ≤ d := hd
  obtain ⟨d, rfl⟩ : ∃ d', d = d' + 4 := ⟨d - 4, by omega⟩
  obtain ⟨D, hD2, hD⟩ := y_nIof2 (N := 4) (x := gI s 33 0 22) (hJ.1 33 0 22 (22, 22, 0, 4) (by decide) (by decide) (by decide)).1 (hJ.1 33 0 22 (22, 22, 0, 4) (by decide) (by decide) (by decide)).2
  obtain ⟨n, hn2, hn⟩ := x_many hJ 48 (Or.inl rfl)
  have hM5 : owF s n 0 0 ≤ 5 := owF_le hJ hn hn2 n 0 0 (Nat.zero_add n) (by omega)
  have no : Q (some (lI (-1))) s := hQ _ s (y_post1 (z_in_top _)) hJ (y_Fr_rf _ _)
  refine qC_of rfl rfl ?_
  refine qa_t1_W (cut := [38]) 60 ?_
  refine And.intro (fun _ => no) (fun _ => ?_)
  refine h_isR hD (by omega) (fun i hi e3 => Exists.intro 1 (And.intro rfl ?_)) (Exists.intro 0 (And.intro rfl ?_))
  · refine And.intro (fun q => absurd q (by decide)) (fun _ => ?_)
    refine h_ownF hJ hn hn2 ?_
    refine Exists.intro _ (And.intro rfl ?_)
    refine And.intro (fun _ => no) (fun c => ?_)
    have hM3 : owF s n 0 0 ≤ 3 := by
      rcases Nat.lt_or_ge 3 (owF s n 0 0) with q | q
      · exact absurd (nI_lt (a := 4) (b := owF s n 0 0 + 1) (by omega) (by omega)) c
      · exact q
    refine h_ownF hJ hn hn2 ?_
    refine Exists.intro _ (And.intro rfl ?_)
    subst e3
    exact tn_l (M := owF s n 0 0) (by omega) (by omega) hn hn2 rfl hM3 (fun m v Jm Fm => hQ _ m (y_post1 (z_in_top _)) Jm Fm) 10000 0 s (-1) 0 none rfl hJ (y_Fr_rf _ _) (fun _ _ => rfl)
  · exact And.intro (fun _ => no) (fun q => absurd rfl q)
