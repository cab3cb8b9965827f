/-! WHAT IS TRIED APART LEAVES WHAT STANDS: harmBy, falls, byTurns, order, turn. -/
abbrev hbW : List YW := yh_X12_again_0.2.2.2.1
theorem rq_ok {s0 s : LMem} {ct : YCt} {Q : LPost} (hJ : y_J (xR s0) s) (hQ : ∀ r s', (∃ a ∈ ct.2.2.2.2.1, y_ro a.1 r ∧ y_mss s' a.2) → y_J (xR s0) s' → y_Fr ct.2.2.2.1 s s' → Q r s') : ∀ r s', (∃ a ∈ ct.2.2.2.2.1, y_ro a.1 r ∧ y_mss s' a.2) → y_J x_X s' → y_Fr ct.2.2.2.1 s s' → RS s s' → Q r s' := fun r s' a J F R => hQ r s' a (J_xR J (RS_tr hJ.2.2.2 R)) F
theorem r_X12_harmBy (s0 : LMem) : y_con (xR s0) yh_X12_harmBy := by
  intro d hd As s Q hA hJR hp hQR
  have hJ := xR_J hJR
  have hQ := rq_ok hJR hQR
  obtain ⟨v1, r1, rfl, a1, hA⟩ := y_as1 hA
  obtain ⟨v2, r2, rfl, a2, hA⟩ := y_as1 hA
  obtain ⟨v3, r3, rfl, a3, hA⟩ := y_as1 hA
  obtain ⟨v4, r4, rfl, a4, hA⟩ := y_as1 hA
  obtain ⟨v5, r5, rfl, a5, hA⟩ := y_as1 hA
  have e9 := y_as0 hA
  subst e9
  have e1 := y_this (k := 33) (i := 0) a1
  subst e1
  obtain ⟨p1, rfl, -, -⟩ := y_aI a2
  obtain ⟨p2, rfl, -, -⟩ := y_aI a3
  obtain ⟨p3, rfl, -, -⟩ := y_aI a4
  obtain ⟨p4, rfl, q1, q2⟩ := y_aI a5
  have q1 : 0 ≤ p4.toInt := q1
  obtain ⟨o, ho, rfl⟩ := y_nIof2 (N := 5) q1 q2
  have hd : 100 ≤ d := hd
  obtain ⟨d, rfl⟩ : ∃ d', d = d' + 3 := ⟨d - 3, by omega⟩
  refine qC_of rfl rfl ?_
  refine qa_t1_W (cut := [15]) 20 ?_
  refine h_putG (d := d + 1) hJ fun s1 u2 u3 c1 c2 c3 => ?_
  refine And.intro rfl ?_
  refine h_harmOf1 ho fun w => Exists.intro w (And.intro rfl ?_)
  obtain ⟨n, hn2, hn⟩ := x_many u2 48 (Or.inl rfl)
  refine hb_l u2 hn hn2 (fun m o6 hm => ?_) n 0 s1 (Nat.zero_add n) nw_G0
  refine qa_t1_W (cut := []) 30 ?_
  refine y_qC h_runOf (d := d + 2) (by show 41 ≤ d + 2; omega) (As := [lR 33 (some 0), lI p1]) ⟨y_rcv, a2, trivial⟩ (fl_J u2 hm) fun r s2 w1 w2 w3 => ?_
  have er := y_none w1
  subst er
  refine And.intro rfl ?_
  refine h_harmOf1 ho fun w' => Exists.intro w' (And.intro rfl ?_)
  refine h_takeG (d := d + 1) w2 fun s3 z2 z3 e1 e2 e3 => ?_
  refine And.intro rfl ?_
  have F1 : y_Fr yh_X12_harmBy.2.2.2.1 s s1 := y_Fr_tr (V := yh_X12_putAside.2.2.2.1) (by decide +kernel) (y_Fr_rf _ _) u3
  have F2 : y_Fr yh_X12_harmBy.2.2.2.1 s1 m := ag_W (by decide) (by decide) (x_iW1 (by decide)) (x_iW1 (by decide)) (fun j q => by have := q.2.1; omega) hm
  have F3 : y_Fr yh_X12_harmBy.2.2.2.1 s m := fun k i j hn => by
    obtain ⟨b1, b2, b3⟩ := F1 k i j hn
    obtain ⟨c1, c2, c3⟩ := F2 k i j hn
    exact ⟨c1.trans b1, c2.trans b2, c3.trans b3⟩
  have F4 : y_Fr yh_X12_harmBy.2.2.2.1 s s2 := y_Fr_tr (V := ek_X12_runOf.2.2.2.1) (by decide +kernel) F3 w3
  have G2 : y_Fr hbW s1 m := ag_W (by decide) (by decide) (x_iW1 (by decide)) (x_iW1 (by decide)) (fun j q => by have := q.2.1; omega) hm
  have G3 : y_Fr hbW s1 s2 := y_Fr_tr (V := ek_X12_runOf.2.2.2.1) (by decide +kernel) G2 w3
  exact hQ (some (lI _)) s3 (y_post1 (z_in_top _)) z2 (hb_tb F4 z3) (sw_RS (W1 := hbW) (by decide +kernel) c1 c2 c3 G3 e1 e2 e3)
theorem frtr {W : List YW} {a b c : LMem} (h1 : y_Fr W a b) (h2 : y_Fr W b c) : y_Fr W a c := fun k i j hn => ⟨((h2 k i j hn).1).trans (h1 k i j hn).1, ((h2 k i j hn).2.1).trans (h1 k i j hn).2.1, ((h2 k i j hn).2.2).trans (h1 k i j hn).2.2⟩
theorem fa_oR {d bc bs n f : Nat} {p2 w p5 p6 : Int32} {s : LMem} {Q : LPost} (hd : 90 ≤ d) (hn : 2 ≤ n) (hn2 : n ≤ 20) (hw : 1 ≤ w.toInt) (hw2 : w.toInt ≤ 9) (h5 : 0 ≤ p5.toInt) (h52 : p5.toInt ≤ 3) (hf : (f : Int) < xI s 33 13) (hf2 : f ≤ 5) (h : ∀ m v o8 o9, y_J x_X m → y_Fr hbW s m → qW false (d + 2) 286 bc bs 247 [some (lR 33 (some 0)), some (lI (nI n)), some (lI p2), some (lI w), some (lI (nI f)), some (lI p5), some (lI p6), some (lI v), o8, o9] [] m Q) : ∀ j k m v o9, k + j = 10 → y_J x_X m → y_Fr hbW s m → qW false (d + 2) 286 bc bs 70 [some (lR 33 (some 0)), some (lI (nI n)), some (lI p2), some (lI w), some (lI (nI f)), some (lI p5), some (lI p6), some (lI v), some (lI (nI k)), o9] [] m Q := by
  intro j
  induction j with
  | zero =>
    intro k m v o9 hk hJ hF
    have hk : k = 10 := hk
    subst hk
    refine qa_t1_W (cut := [247]) 10 ?_
    exact And.intro (fun _ => h m v _ _ hJ hF) (fun q => absurd (by decide) q)
  | succ j ih =>
    intro k m v o9 hk hJ hF
    have hlt : ¬ (9 : Int32) < nI k := nI_nlt (a := 9) (by omega) (by decide)
    have hf3 : (f : Int) < xI m 33 13 := by
      have e := (hF 33 0 13 (x_nW 13 13 (by decide) (by decide) (by decide))).1
      unfold xI at hf ⊢
      rw [e]
      exact hf
    have st := fa_l (d := d + 2) (bc := bc) (bs := bs) (p2 := p2) (w := w) (p4 := nI f) (p5 := p5) (p6 := p6) (o7 := some (lI v)) (p8 := nI k) (s := m) (Q := Q) hn2 (fun m1 o9 h1 => by
      refine qa_t1_W (cut := [70]) 80 ?_
      refine h_begin fun m2 g2 f1 f2 => And.intro rfl ?_
      obtain ⟨G2, J2⟩ := fa_J hJ hn hn2 hw hw2 h1 g2 f1 f2 hf3 hf2
      refine y_qC h_runOf (d := d + 2) (by show 41 ≤ d + 2; omega) (As := [lR 33 (some 0), lI p5]) ⟨y_rcv, ⟨h5, h52⟩, trivial⟩ J2 fun r s2 w1 w2 w3 => ?_
      have er := y_none w1
      subst er
      refine And.intro rfl ?_
      refine y_qC h_sum20 (d := d + 2) (by show 1 ≤ d + 2; omega) (As := [lR 33 (some 0), lI 20, lI 20]) ⟨y_rcv, ⟨by decide, by decide⟩, ⟨by decide, by decide⟩, trivial⟩ w2 fun r s3 z1 z2 z3 => ?_
      obtain ⟨x, rfl, -⟩ := y_int9 z1
      refine Exists.intro x (And.intro rfl ?_)
      have F1 : y_Fr hbW s m2 := frtr hF (ag_W (by decide) (by decide) (x_iW1 (by decide)) (x_iW1 (by decide)) (fun j q => q) G2)
      have F2 : y_Fr hbW s s2 := y_Fr_tr (V := ek_X12_runOf.2.2.2.1) (by decide +kernel) F1 w3
      have F3 : y_Fr hbW s s3 := y_Fr_tr (V := yk_X12_sumOf_3.2.2.2.1) (by decide +kernel) F2 z3
      have go : ∀ u o, qW false (d + 2) 286 bc bs 70 [some (lR 33 (some 0)), some (lI (nI n)), some (lI p2), some (lI w), some (lI (nI f)), some (lI p5), some (lI p6), some (lI u), some (lI (nI k + 1)), o] [] s3 Q := fun u o => by
        rw [nI_1]
        exact ih (k + 1) s3 u o (by omega) z2 F3
      refine And.intro (fun _ => go _ _) (fun _ => ?_)
      refine And.intro (x_vc (by decide) (by decide)) ?_
      exact And.intro (fun _ => go _ _) (fun _ => go _ _)) n 0 (sI m 48 0 272 (nI n)) (Nat.zero_add n) ⟨nw_Gs (Or.inl rfl) nw_G0, by rw [gI_sI, if_pos ⟨rfl, rfl, rfl⟩], fun r' hr' => absurd hr' (Nat.not_lt_zero _)⟩
    refine qa_t1_W (cut := [89]) 20 ?_
    refine And.intro (fun q => absurd q hlt) (fun _ => ?_)
    exact And.intro (x_vc (by decide) (by decide)) st
theorem r_X12_falls (s0 : LMem) : y_con (xR s0) yh_X12_falls := by
  intro d hd As s Q hA hJR hp hQR
  have hJ := xR_J hJR
  have hQ := rq_ok hJR hQR
  obtain ⟨v1, r1, rfl, a1, hA⟩ := y_as1 hA
  obtain ⟨v2, r2, rfl, a2, hA⟩ := y_as1 hA
  obtain ⟨v3, r3, rfl, a3, hA⟩ := y_as1 hA
  obtain ⟨v4, r4, rfl, a4, hA⟩ := y_as1 hA
  obtain ⟨v5, r5, rfl, a5, hA⟩ := y_as1 hA
  obtain ⟨v6, r6, rfl, a6, hA⟩ := y_as1 hA
  obtain ⟨v7, r7, rfl, a7, hA⟩ := y_as1 hA
  have e9 := y_as0 hA
  subst e9
  have e1 := y_this (k := 33) (i := 0) a1
  subst e1
  obtain ⟨p1, rfl, -, -⟩ := y_aI a2
  obtain ⟨p2, rfl, -, -⟩ := y_aI a3
  obtain ⟨p3, rfl, -, -⟩ := y_aI a4
  obtain ⟨p4, rfl, -, -⟩ := y_aI a5
  obtain ⟨p5, rfl, -, -⟩ := y_aI a6
  obtain ⟨p6, rfl, -, -⟩ := y_aI a7
  have hd : 100 ≤ d := hd
  obtain ⟨d, rfl⟩ : ∃ d', d = d' + 3 := ⟨d - 3, by omega⟩
  obtain ⟨D, hD2, hD⟩ := y_nIof2 (N := 4) (x := gI s 33 0 22) (hJ.1 33 0 22 (22, 22, 0, 4) (by decide) (by decide) (by decide)).1 (hJ.1 33 0 22 (22, 22, 0, 4) (by decide) (by decide) (by decide)).2
  obtain ⟨L, hL2, hL⟩ := y_nIof2 (N := 6) (x := gI s 33 0 13) (hJ.1 33 0 13 (13, 13, 0, 6) (by decide) (by decide) (by decide)).1 (hJ.1 33 0 13 (13, 13, 0, 6) (by decide) (by decide) (by decide)).2
  have no : Q (some (lI (-1))) s := hQ _ s (y_post1 (z_in_top _)) hJ (y_Fr_rf _ _) (RS_rf _)
  have hLx : xI s 33 13 = (L : Int) := by unfold xI; rw [hL, nI_toInt (by omega)]
  have fin : ∀ n f i, 2 ≤ n → n ≤ 20 → p1 = nI n → 1 ≤ p3.toInt → p3.toInt ≤ 9 → f < L → p4 = nI f → i < D → p5 = nI i → qW false (d + 2) 286 0 0 60 [some (lR 33 (some 0)), some (lI p1), some (lI p2), some (lI p3), some (lI p4), some (lI p5), some (lI p6), none, none, none] [] s Q := fun n f i hn hn2 e1 hw hw2 hf e4 hi e5 => by
    subst e1
    subst e4
    subst e5
    refine qa_t1_W (cut := [70]) 20 ?_
    refine h_putG (d := d + 1) hJ fun s1 u2 u3 c1 c2 c3 => ?_
    refine And.intro rfl ?_
    have F1 : y_Fr yh_X12_harmBy.2.2.2.1 s s1 := y_Fr_tr (V := yh_X12_putAside.2.2.2.1) (by decide +kernel) (y_Fr_rf _ _) u3
    have eL : (f : Int) < xI s1 33 13 := by
      have e := (F1 33 0 13 (x_nW 13 13 (by decide) (by decide) (by decide))).1
      unfold xI at hLx ⊢
      rw [e]
      omega
    refine fa_oR (f := f) (by omega) hn hn2 hw hw2 (by rw [nI_toInt (by omega)]; omega) (by rw [nI_toInt (by omega)]; omega) eL (by omega) (fun m v o8 o9 hJm hFm => ?_) 10 0 s1 0 _ rfl u2 (y_Fr_rf _ _)
    refine qa_t1_W (cut := []) 20 ?_
    refine h_takeG (d := d + 1) hJm fun s3 z2 z3 e1 e2 e3 => ?_
    refine And.intro rfl ?_
    exact hQ _ s3 (y_post1 (z_in_top _)) z2 (hb_tb (y_Fr_tr (V := hbW) (by decide +kernel) F1 hFm) z3) (sw_RS (W1 := hbW) (by decide +kernel) c1 c2 c3 hFm e1 e2 e3)
  refine qC_of rfl rfl ?_
  refine qa_t1_W (cut := [60]) 100 ?_
  refine h_in (fun g1 g2 => Exists.intro 1 (And.intro rfl ?_)) (fun _ => Exists.intro 0 (And.intro rfl ?_))
  · refine And.intro (fun q => absurd q (by decide)) (fun _ => ?_)
    refine h_in (fun _ _ => Exists.intro 1 (And.intro rfl ?_)) (fun _ => Exists.intro 0 (And.intro rfl ?_))
    · refine And.intro (fun q => absurd q (by decide)) (fun _ => ?_)
      refine h_in (fun g3 g4 => Exists.intro 1 (And.intro rfl ?_)) (fun _ => Exists.intro 0 (And.intro rfl ?_))
      · refine And.intro (fun q => absurd q (by decide)) (fun _ => ?_)
        refine h_isL hL (by omega) (fun f hf e2 => Exists.intro 1 (And.intro rfl ?_)) (Exists.intro 0 (And.intro rfl ?_))
        · refine And.intro (fun q => absurd q (by decide)) (fun _ => ?_)
          refine h_isR hD (by omega) (fun i hi e3 => Exists.intro 1 (And.intro rfl ?_)) (Exists.intro 0 (And.intro rfl ?_))
          · refine And.intro (fun q => absurd q (by decide)) (fun _ => ?_)
            refine h_in (fun _ _ => Exists.intro 1 (And.intro rfl ?_)) (fun _ => Exists.intro 0 (And.intro rfl ?_))
            · refine And.intro (fun q => absurd q (by decide)) (fun _ => ?_)
              have g1 : (2 : Int) ≤ p1.toInt := g1
              have g2 : p1.toInt ≤ 20 := g2
              have g3 : (1 : Int) ≤ p3.toInt := g3
              have g4 : p3.toInt ≤ 9 := g4
              exact fin p1.toInt.toNat f i (by omega) (by omega) (y_nIof (by omega)) g3 g4 hf e2 hi e3
            · exact And.intro (fun _ => no) (fun q => absurd rfl q)
          · exact And.intro (fun _ => no) (fun q => absurd rfl q)
        · exact And.intro (fun _ => no) (fun q => absurd rfl q)
      · exact And.intro (fun _ => no) (fun q => absurd rfl q)
    · exact And.intro (fun _ => no) (fun q => absurd rfl q)
  · exact And.intro (fun _ => no) (fun q => absurd rfl q)
theorem h_byTurnsR {d n rr M : Nat} {s : LMem} {Q : LPost} (hd : 60 ≤ d) (hJ : y_J x_X s) (hrr : rr ≤ 3) (hn : gI s 48 0 272 = nI n) (hn2 : n ≤ 20) (hM : owF s n 0 0 = M) (hT : bt_T s M) (h : ∀ v s', y_J x_X s' → y_Fr yh_X12_harmBy.2.2.2.1 s s' → RS s s' → Q (some (lI v)) s') : qC false (d + 3) 294 [lR 33 (some 0), lI (nI rr)] s Q := by
  refine qC_of rfl rfl ?_
  refine qa_t1_W (cut := [12]) 30 ?_
  refine h_putG hJ fun s1 u2 u3 u4 c2 c3 => ?_
  refine And.intro rfl ?_
  have F1 : y_Fr yh_X12_harmBy.2.2.2.1 s s1 := y_Fr_tr (V := yh_X12_putAside.2.2.2.1) (by decide +kernel) (y_Fr_rf _ _) u3
  refine h_harmN u2 fun v s2 J2 f2 => ?_
  refine Exists.intro v (And.intro rfl ?_)
  have F2 : y_Fr yh_X12_harmBy.2.2.2.1 s s2 := y_Fr_tr (V := []) (by decide) F1 f2
  have G : y_Fr yh_X12_putAside.2.2.2.1 s s2 := y_Fr_tr (V := []) (by decide) u3 f2
  have row : ∀ j, 160 ≤ j → j < 260 → gI s2 48 0 j = gI s 48 0 j := fun j h1 h2 => (G 48 0 j (x_nW 160 259 (by decide) (by omega) (by omega))).1
  have hn3 : gI s2 48 0 272 = nI n := by rw [(G 48 0 272 (x_nW 272 272 (by decide) (by decide) (by decide))).1, hn]
  have hM3 : owF s2 n 0 0 = M := by rw [owF_eq row n 0 0 (by omega), hM]
  have hT3 : bt_T s2 M := fun k h1 h2 => by
    rw [(G 56 0 k (x_nW 0 5 (by decide) (by omega) (by omega))).1]
    exact hT k h1 h2
  refine bt_l (by omega) hrr hn3 hn2 hM3 hT3 (fun m k Jm Fm => ?_) 30 0 s2 rfl J2 (y_Fr_rf _ _)
  have F3 : y_Fr yh_X12_harmBy.2.2.2.1 s m := y_Fr_tr (V := bt_W) (by decide +kernel) F2 Fm
  refine qa_t1_W (cut := []) 30 ?_
  refine h_harmN Jm fun v s4 J4 f4 => ?_
  refine Exists.intro v (And.intro rfl ?_)
  have F4 : y_Fr yh_X12_harmBy.2.2.2.1 s s4 := y_Fr_tr (V := []) (by decide) F3 f4
  refine h_takeG J4 fun s3 z2 z3 z4 e2 e3 => ?_
  refine And.intro rfl ?_
  have G4 : y_Fr bt_W s1 s4 := y_Fr_tr (V := []) (by decide) (y_Fr_tr (V := bt_W) (by decide +kernel) (y_Fr_tr (V := []) (by decide) (y_Fr_rf _ _) f2) Fm) f4
  exact h _ s3 z2 (hb_tb F4 z3) (sw_RS (W1 := bt_W) (by decide +kernel) u4 c2 c3 G4 z4 e2 e3)
theorem tu_RS {s m : LMem} (h : tu_S s m) : RS s m := ⟨fun j _ => h.1 48 0 j (fun q => absurd q.1 (by decide)), h.2.1 33 0 29, h.2.1 33 0 30⟩
theorem r_X12_order (s0 : LMem) : y_con (xR s0) yh_X12_order := by
  intro d hd As s Q hA hJR hp hQR
  have hJ := xR_J hJR
  have hQ := rq_ok hJR hQR
  obtain ⟨v1, r1, rfl, a1, hA⟩ := y_as1 hA
  obtain ⟨v2, r2, rfl, a2, hA⟩ := y_as1 hA
  obtain ⟨v3, r3, rfl, a3, hA⟩ := y_as1 hA
  have e9 := y_as0 hA
  subst e9
  have e1 := y_this (k := 33) (i := 0) a1
  subst e1
  obtain ⟨p1, rfl, -, -⟩ := y_aI a2
  obtain ⟨p2, rfl, -, -⟩ := y_aI a3
  have hd : 100 ≤ d := hd
  obtain ⟨d, rfl⟩ : ∃ d', d = d' + 4 := ⟨d - 4, by omega⟩
  obtain ⟨D, hD2, hD⟩ := y_nIof2 (N := 4) (x := gI s 33 0 22) (hJ.1 33 0 22 (22, 22, 0, 4) (by decide) (by decide) (by decide)).1 (hJ.1 33 0 22 (22, 22, 0, 4) (by decide) (by decide) (by decide)).2
  obtain ⟨n, hn2, hn⟩ := x_many hJ 48 (Or.inl rfl)
  have hM5 : owF s n 0 0 ≤ 5 := owF_le hJ hn hn2 n 0 0 (Nat.zero_add n) (by omega)
  have no : Q (some (lI (-1))) s := hQ _ s (y_post1 (z_in_top _)) hJ (y_Fr_rf _ _) (RS_rf _)
  refine qC_of rfl rfl ?_
  refine qa_t1_W (cut := [25]) 60 ?_
  refine And.intro (fun _ => no) (fun _ => ?_)
  refine h_isR hD (by omega) (fun i hi e3 => Exists.intro 1 (And.intro rfl ?_)) (Exists.intro 0 (And.intro rfl ?_))
  · refine And.intro (fun q => absurd q (by decide)) (fun _ => ?_)
    refine h_ownF hJ hn hn2 ?_
    refine Exists.intro _ (And.intro rfl ?_)
    refine or_l hM5 (fun m o Jm Sm Tm => ?_) (owF s n 0 0 + 1) 0 s (Nat.zero_add _) hJ tu_0 (fun k' q => absurd q (Nat.not_lt_zero _))
    refine qa_t1_W (cut := []) 20 ?_
    subst e3
    have hn3 : gI m 48 0 272 = nI n := by rw [Sm.1 48 0 272 (fun q => absurd q.1 (by decide)), hn]
    refine h_byTurnsR (M := owF s n 0 0) (by omega) Jm (by omega) hn3 hn2 (tu_ow hn2 Sm) Tm (fun v s' J' F' R' => ?_)
    refine Exists.intro v (And.intro rfl ?_)
    exact hQ _ s' (y_post1 (z_in_top _)) J' (y_Fr_tr (V := yh_X12_harmBy.2.2.2.1) (by decide +kernel) (tu_W (by decide) Sm) F') (RS_tr (tu_RS Sm) R')
  · exact And.intro (fun _ => no) (fun q => absurd rfl q)
theorem tn_lR {d bc bs n rr M : Nat} {s : LMem} {Q : LPost} (hd : 60 ≤ d) (hrr : rr ≤ 3) (hn : gI s 48 0 272 = nI n) (hn2 : n ≤ 20) (hM : owF s n 0 0 = M) (hM3 : M ≤ 3) (h : ∀ m v, y_J x_X m → y_Fr tu_WW s m → RS s m → Q (some (lI v)) m) : ∀ j k m v3 v4 o6, k + j = 10000 → y_J x_X m → y_Fr tu_WW s m → RS s m → qW false (d + 3) 297 bc bs 38 [some (lR 33 (some 0)), some (lI (nI rr)), some (lI (nI (M + 1))), some (lI v3), some (lI v4), some (lI (nI k)), o6] [] m Q := by
  intro j
  induction j with
  | zero =>
    intro k m v3 v4 o6 hk hJ hF h48
    have hk : k = 10000 := hk
    subst hk
    have fin := h m v3 hJ hF h48
    refine qa_t1_W (cut := [38]) 40 ?_
    refine And.intro (fun _ => ?_) (fun _ => ?_)
    · exact And.intro (fun q => absurd q (by decide)) (fun _ => fin)
    refine And.intro (fun _ => ?_) (fun _ => ?_)
    · exact And.intro (fun q => absurd q (by decide)) (fun _ => fin)
    refine And.intro (fun _ => ?_) (fun _ => ?_)
    · exact And.intro (fun q => absurd q (by decide)) (fun _ => fin)
    · exact And.intro (fun q => absurd q (by decide)) (fun _ => fin)
  | succ j ih =>
    intro k m v3 v4 o6 hk hJ hF h48
    have fin := h m v3 hJ hF h48
    have hn4 : gI m 48 0 272 = nI n := by rw [h48.1 272 (by decide), hn]
    have hM4 : owF m n 0 0 = M := by rw [owF_eq (fun j _ _ => h48.1 j (by omega)) n 0 0 (by omega), hM]
    have again : ∀ m', y_J x_X m' → y_Fr tu_WW s m' → RS s m' → ∀ v3 v4 o6, qW false (d + 3) 297 bc bs 38 [some (lR 33 (some 0)), some (lI (nI rr)), some (lI (nI (M + 1))), some (lI v3), some (lI v4), some (lI (nI k + 1)), o6] [] m' Q := fun m' J' F' g v3 v4 o6 => by
      rw [nI_1]
      exact ih (k + 1) m' v3 v4 o6 (by omega) J' F' g
    have step : qC false (d + 3) 296 [lR 33 (some 0), lI (nI k), lI (nI (M + 1))] m (fun r m1 => ∃ a, r = some (lI a) ∧ ((a = 0 → qW false (d + 3) 297 bc bs 113 [some (lR 33 (some 0)), some (lI (nI rr)), some (lI (nI (M + 1))), some (lI v3), some (lI v4), some (lI (nI k)), o6] [] m1 Q) ∧ (¬ a = 0 → qW false (d + 3) 297 bc bs 87 [some (lR 33 (some 0)), some (lI (nI rr)), some (lI (nI (M + 1))), some (lI v3), some (lI v4), some (lI (nI k)), o6] [] m1 Q))) := by
      refine h_layTurns (by omega) (by omega) (by omega) hJ (fun m1 J1 S1 T1 => Exists.intro 1 (And.intro rfl (And.intro (fun q => absurd q (by decide)) (fun _ => ?_)))) (fun m1 J1 S1 => Exists.intro 0 (And.intro rfl (And.intro (fun _ => ?_) (fun q => absurd rfl q))))
      · have F1 : y_Fr tu_WW s m1 := y_Fr_tr2 hF (tu_W (by decide) S1)
        have g1 : RS s m1 := RS_tr h48 (tu_RS S1)
        have hn5 : gI m1 48 0 272 = nI n := by rw [g1.1 272 (by decide), hn]
        have hM5 : owF m1 n 0 0 = M := by rw [owF_eq (fun j _ _ => g1.1 j (by omega)) n 0 0 (by omega), hM]
        have hT : bt_T m1 M := fun k' q1 q2 => by
          obtain ⟨o, ho, ho2⟩ := T1 k' q1
          exact ⟨o, by omega, ho2⟩
        refine qa_t1_W (cut := [38]) 40 ?_
        refine h_byTurnsR (M := M) hd J1 hrr hn5 hn2 hM5 hT (fun v s' J' F' g' => ?_)
        refine Exists.intro v (And.intro rfl ?_)
        have F2 : y_Fr tu_WW s s' := y_Fr_tr (V := yh_X12_harmBy.2.2.2.1) (by decide +kernel) F1 F'
        have g2 : RS s s' := RS_tr g1 g'
        refine And.intro (fun _ => ?_) (fun _ => ?_)
        · exact again s' J' F2 g2 _ _ _
        · exact And.intro (fun _ => again s' J' F2 g2 _ _ _) (fun _ => again s' J' F2 g2 _ _ _)
      · have F1 : y_Fr tu_WW s m1 := y_Fr_tr2 hF (tu_W (by decide) S1)
        have g1 : RS s m1 := RS_tr h48 (tu_RS S1)
        exact qa_t1_W (cut := [38]) 10 (again m1 J1 F1 g1 _ _ _)
    refine qa_t1_W (cut := [87, 113]) 40 ?_
    refine And.intro (fun _ => ?_) (fun _ => ?_)
    · exact And.intro (fun _ => step) (fun _ => fin)
    refine And.intro (fun _ => ?_) (fun _ => ?_)
    · exact And.intro (fun _ => step) (fun _ => fin)
    refine And.intro (fun _ => ?_) (fun _ => ?_)
    · exact And.intro (fun _ => step) (fun _ => fin)
    · exact And.intro (fun _ => step) (fun _ => fin)
theorem r_X12_turn (s0 : LMem) : y_con (xR s0) yh_X12_turn := by
  intro d hd As s Q hA hJR hp hQR
  have hJ := xR_J hJR
  have hQ := rq_ok hJR hQR
  obtain ⟨v1, r1, rfl, a1, hA⟩ := y_as1 hA
  obtain ⟨v2, r2, rfl, a2, hA⟩ := y_as1 hA
  have e9 := y_as0 hA
  subst e9
  have e1 := y_this (k := 33) (i := 0) a1
  subst e1
  obtain ⟨p1, rfl, -, -⟩ := y_aI a2
  have hd : 100 ≤ d := hd
  obtain ⟨d, rfl⟩ : ∃ d', d = d' + 4 := ⟨d - 4, by omega⟩
  obtain ⟨D, hD2, hD⟩ := y_nIof2 (N := 4) (x := gI s 33 0 22) (hJ.1 33 0 22 (22, 22, 0, 4) (by decide) (by decide) (by decide)).1 (hJ.1 33 0 22 (22, 22, 0, 4) (by decide) (by decide) (by decide)).2
  obtain ⟨n, hn2, hn⟩ := x_many hJ 48 (Or.inl rfl)
  have hM5 : owF s n 0 0 ≤ 5 := owF_le hJ hn hn2 n 0 0 (Nat.zero_add n) (by omega)
  have no : Q (some (lI (-1))) s := hQ _ s (y_post1 (z_in_top _)) hJ (y_Fr_rf _ _) (RS_rf _)
  refine qC_of rfl rfl ?_
  refine qa_t1_W (cut := [38]) 60 ?_
  refine And.intro (fun _ => no) (fun _ => ?_)
  refine h_isR hD (by omega) (fun i hi e3 => Exists.intro 1 (And.intro rfl ?_)) (Exists.intro 0 (And.intro rfl ?_))
  · refine And.intro (fun q => absurd q (by decide)) (fun _ => ?_)
    refine h_ownF hJ hn hn2 ?_
    refine Exists.intro _ (And.intro rfl ?_)
    refine And.intro (fun _ => no) (fun c => ?_)
    have hM3 : owF s n 0 0 ≤ 3 := by
      rcases Nat.lt_or_ge 3 (owF s n 0 0) with q | q
      · exact absurd (nI_lt (a := 4) (b := owF s n 0 0 + 1) (by omega) (by omega)) c
      · exact q
    refine h_ownF hJ hn hn2 ?_
    refine Exists.intro _ (And.intro rfl ?_)
    subst e3
    exact tn_lR (M := owF s n 0 0) (by omega) (by omega) hn hn2 rfl hM3 (fun m v Jm Fm Rm => hQ _ m (y_post1 (z_in_top _)) Jm Fm Rm) 10000 0 s (-1) 0 none rfl hJ (y_Fr_rf _ _) (RS_rf _)
  · exact And.intro (fun _ => no) (fun q => absurd rfl q)
/-! when: what it tries apart leaves what stands. -/
theorem y_slsS {a : YA} {l : List (Option YA)} {L : LLoc} (h : y_sls (some a :: l) L) : ∃ v L', L = some v :: L' ∧ y_sv a v ∧ y_sls l L' := by
  rcases L with _ | ⟨_ | v, L⟩
  · exact h.elim
  · exact h.elim
  · exact ⟨v, L, rfl, h.1, h.2⟩
theorem y_slsN {l : List (Option YA)} {L : LLoc} (h : y_sls (none :: l) L) : ∃ o L', L = o :: L' ∧ y_sls l L' := by
  rcases L with _ | ⟨o, L⟩
  · exact h.elim
  · exact ⟨o, L, rfl, h⟩
theorem y_sls0 {L : LLoc} (h : y_sls [] L) : L = [] := by
  rcases L with _ | ⟨o, L⟩
  · rfl
  · exact h.elim
theorem wh_l {d bc bs : Nat} {s : LMem} {Q : LPost} (hd : 120 ≤ d) (hfin : ∀ v m, y_J x_X m → y_Fr rh_X12_when.2.2.2.1 s m → RS s m → Q (some (lI v)) m) : ∀ j k rr wt v3 v4 o6 o7 m, k + j = 30 → rr ≤ 3 → (0 : Int) ≤ wt.toInt → wt.toInt ≤ 1 → y_J x_X m → y_Fr rh_X12_when.2.2.2.1 s m → RS s m → qW false (d + 3) 273 bc bs 34 [some (lR 33 (some 0)), some (lI (nI rr)), some (lI wt), some (lI v3), some (lI v4), some (lI (nI k)), o6, o7] [] m Q := by
  intro j
  induction j with
  | zero =>
    intro k rr wt v3 v4 o6 o7 m hk hrr hw1 hw2 hJ hF hR
    have hk : k = 30 := hk
    subst hk
    have e5 : (nI rr).toNatClampNeg = rr := nI_clamp (by omega)
    have hb := (hJ.1 46 0 rr (0, 4, 0, 30) (by decide) (by show (0 : Int) ≤ (rr : Int); omega) (by show (rr : Int) ≤ 4; omega)).2
    have hlt : ¬ nI 30 < gI m 46 0 (nI rr).toNatClampNeg := fun q => by
      rw [e5] at q
      have q := Int32.lt_iff_toInt_lt.mp q
      rw [nI_toInt (by omega)] at q
      have hb : (gI m 46 0 rr).toInt ≤ 30 := hb
      omega
    have v5 : qa_vin (nI rr) 5 := nI_in (by omega) (by decide)
    refine qa_t1_W (cut := [34]) 20 ?_
    refine And.intro v5 ?_
    refine And.intro (fun q => absurd q hlt) (fun _ => ?_)
    refine And.intro (fun _ => hfin _ m hJ hF hR) (fun _ => hfin _ m hJ hF hR)
  | succ j ih =>
    intro k rr wt v3 v4 o6 o7 m hk hrr hw1 hw2 hJ hF hR
    have v5 : qa_vin (nI rr) 5 := nI_in (by omega) (by decide)
    have seg := List.all_eq_true.mp rtB_when k (List.mem_range.mpr (by omega))
    refine qa_t1_W (cut := [34, 49]) 40 ?_
    refine And.intro v5 ?_
    refine And.intro (fun _ => ?_) (fun _ => ?_)
    · refine h_putG (d := d + 2) hJ fun s1 J1 F1 c1 c2 c3 => And.intro rfl ?_
      refine y_seg_ok (y_cl_v x_X_cl rw_when) (y_all x_X_cl h_all0) seg (show 60 ≤ d + 3 by omega) (s0 := s1) (fun r s' ha _ _ => ?_) (fun c hc L2 s2 hL2 hm2 J2 F2 => ?_) (rb_when k) List.mem_cons_self _ s1 ⟨y_rcv, ⟨by rw [nI_toInt (by omega)]; omega, by rw [nI_toInt (by omega)]; show (rr : Int) ≤ 3; omega⟩, ⟨hw1, hw2⟩, z_in_top _, z_in_top _, ⟨by rw [nI_toInt (by omega)]; exact Int.le_refl _, by rw [nI_toInt (by omega)]; exact Int.le_refl _⟩, trivial⟩ (fun _ q => absurd q List.not_mem_nil) J1 (y_Fr_rf _ _)
      · obtain ⟨a, ha, _⟩ := ha
        exact absurd ha List.not_mem_nil
      · have hc := List.mem_singleton.mp hc
        subst hc
        obtain ⟨w1, L3, rfl, a1, hL2⟩ := y_slsS hL2
        obtain ⟨w2, L3, rfl, a2, hL2⟩ := y_slsS hL2
        obtain ⟨w3, L3, rfl, a3, hL2⟩ := y_slsS hL2
        obtain ⟨w4, L3, rfl, a4, hL2⟩ := y_slsS hL2
        obtain ⟨w5, L3, rfl, a5, hL2⟩ := y_slsS hL2
        obtain ⟨w6, L3, rfl, a6, hL2⟩ := y_slsS hL2
        obtain ⟨w7, L3, rfl, hL2⟩ := y_slsN hL2
        obtain ⟨w8, L3, rfl, a8, hL2⟩ := y_slsS hL2
        have e0 := y_sls0 hL2
        subst e0
        have e1 := y_this (k := 33) (i := 0) a1
        subst e1
        obtain ⟨x2, rfl, b1, b2⟩ := y_aI a2
        obtain ⟨x3, rfl, b3, b4⟩ := y_aI a3
        obtain ⟨x4, rfl, -, -⟩ := y_aI a4
        obtain ⟨x5, rfl, -, -⟩ := y_aI a5
        obtain ⟨x6, rfl, b5, b6⟩ := y_aI a6
        obtain ⟨x8, rfl, -, -⟩ := y_aI a8
        obtain ⟨r2, hr2, rfl⟩ := y_nIof2 (N := 3) b1 b2
        have ek : x6 = nI k := by
          have b5 : (k : Int) ≤ x6.toInt := b5
          have b6 : x6.toInt ≤ (k : Int) := b6
          exact Int32.toInt_inj.mp (by rw [nI_toInt (by omega)]; omega)
        subst ek
        show qW false (d + 3) 273 bc bs 119 _ [] s2 Q
        refine qa_t1_W (cut := [34]) 40 ?_
        refine h_takeG (d := d + 2) J2 fun s3 J3 F3 e1 e2 e3 => And.intro rfl ?_
        have R3 : RS s s3 := RS_tr hR (sw_RS (W1 := rw_when) (by decide +kernel) c1 c2 c3 F2 e1 e2 e3)
        have Fm : y_Fr rh_X12_when.2.2.2.1 s s3 := y_Fr_tr (V := yh_X12_takeBack.2.2.2.1) (by decide +kernel) (y_Fr_tr (V := rw_when) (by decide +kernel) (y_Fr_tr (V := yh_X12_putAside.2.2.2.1) (by decide +kernel) hF F1) F2) F3
        have go : ∀ v3 v4 o6 o7, qW false (d + 3) 273 bc bs 34 [some (lR 33 (some 0)), some (lI (nI r2)), some (lI x3), some (lI v3), some (lI v4), some (lI (nI k + 1)), o6, o7] [] s3 Q := fun v3 v4 o6 o7 => by
          rw [nI_1]
          exact ih (k + 1) r2 x3 v3 v4 o6 o7 s3 (by omega) hr2 b3 b4 J3 Fm R3
        refine And.intro (fun _ => ?_) (fun _ => ?_)
        · exact go _ _ _ _
        · exact And.intro (fun _ => go _ _ _ _) (fun _ => go _ _ _ _)
    · refine And.intro (fun _ => hfin _ m hJ hF hR) (fun _ => hfin _ m hJ hF hR)
theorem r_X12_when (s0 : LMem) : y_con (xR s0) rh_X12_when := by
  intro d hd As s Q hA hJR hp hQR
  have hJ := xR_J hJR
  have hQ := rq_ok hJR hQR
  obtain ⟨v1, r1, rfl, a1, hA⟩ := y_as1 hA
  obtain ⟨v2, r2, rfl, a2, hA⟩ := y_as1 hA
  obtain ⟨v3, r3, rfl, a3, hA⟩ := y_as1 hA
  have e9 := y_as0 hA
  subst e9
  have e1 := y_this (k := 33) (i := 0) a1
  subst e1
  obtain ⟨p1, rfl, -, -⟩ := y_aI a2
  obtain ⟨p2, rfl, -, -⟩ := y_aI a3
  have hd : 130 ≤ d := hd
  obtain ⟨d, rfl⟩ : ∃ d', d = d' + 4 := ⟨d - 4, by omega⟩
  obtain ⟨D, hD2, hD⟩ := y_nIof2 (N := 4) (x := gI s 33 0 22) (hJ.1 33 0 22 (22, 22, 0, 4) (by decide) (by decide) (by decide)).1 (hJ.1 33 0 22 (22, 22, 0, 4) (by decide) (by decide) (by decide)).2
  have no : Q (some (lI (-1))) s := hQ _ s (y_post1 (z_in_top _)) hJ (y_Fr_rf _ _) (RS_rf _)
  refine qC_of rfl rfl ?_
  refine qa_t1_W (cut := [34]) 60 ?_
  refine And.intro (fun _ => no) (fun _ => ?_)
  refine h_isR hD (by omega) (fun i hi e3 => Exists.intro 1 (And.intro rfl ?_)) (Exists.intro 0 (And.intro rfl ?_))
  · refine And.intro (fun q => absurd q (by decide)) (fun _ => ?_)
    refine h_in (fun g1 g2 => Exists.intro 1 (And.intro rfl ?_)) (fun _ => Exists.intro 0 (And.intro rfl ?_))
    · subst e3
      refine And.intro (fun q => absurd q (by decide)) (fun _ => ?_)
      exact wh_l (d := d) (by omega) (fun v m Jm Fm Rm => hQ _ m (y_post1 (z_in_top _)) Jm Fm Rm) 30 0 i p2 _ _ none none s rfl (by omega) g1 g2 hJ (y_Fr_rf _ _) (RS_rf _)
    · exact And.intro (fun _ => no) (fun q => absurd rfl q)
  · exact And.intro (fun _ => no) (fun q => absurd rfl q)
