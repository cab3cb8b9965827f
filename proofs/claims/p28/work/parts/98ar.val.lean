/-! THE ANSWERS of both sides are the same. -/
/-- all from kind 33 on is as it was -/
def up (s m : LMem) : Prop := ∀ k i j, 33 ≤ k → gI m k i j = gI s k i j ∧ gL m k i j = gL s k i j ∧ gR m k i j = gR s k i j
def up_w (W : List YW) : Bool := W.all fun w => Nat.blt w.1 33
theorem up_fr {W : List YW} {s m : LMem} (h : up_w W = true) (F : y_Fr W s m) : up s m := fun k i j hk => F k i j (fun ⟨w, hw, e, _⟩ => by
  have r := List.all_eq_true.mp h w hw
  have r : w.1 < 33 := Nat.le_of_ble_eq_true r
  omega)
/-- the same, put aside -/
def upb (s b : LMem) : Prop := (∀ k i j, 33 ≤ k → k ≠ 49 → gI b k i j = gI s k i j) ∧ gL b 33 0 30 = gL s 33 0 30
theorem upb_of {s m b : LMem} (h : up s m) (p : paF m b) : upb s b := ⟨fun k i j h1 h2 => (p.1 k i j h2).trans (h k i j h1).1, (p.2.1 33 0 30 (fun q => by omega)).trans (h 33 0 30 (by decide)).2.1⟩
theorem reL_up {e : EV} {f sl : Int32} {s b : LMem} (h : upb s b) (R : reL e f sl s) : reL e f sl b := by
  have g33 : ∀ j, gI b 33 0 j = gI s 33 0 j := fun j => h.1 33 0 j (by decide) (by decide)
  obtain ⟨⟨r2, r3, r4, r5⟩, ⟨nl, r6, r7, r8, r9, r10, r11⟩, r12⟩ := R
  refine ⟨⟨(g33 23).trans r2, (g33 24).trans r3, (g33 25).trans r4, (g33 37).trans r5⟩, ⟨nl, r6, r7, lcn_M (fun k j g => h.1 k 0 j (by omega) (by omega)) r9 r10 r8, r9, r10, r11⟩, ?_⟩
  rcases r12 with q | ⟨c2, n2, q1, q2, q3, q4, q5, q6, q7⟩
  · exact Or.inl q
  · exact Or.inr ⟨c2, n2, q1, q2, q3, lcn_M (fun k j g => h.1 k 0 j (by omega) (by omega)) q5 q6 q4, q5, q6, q7⟩
theorem clx {x : Int32} (h : 0 ≤ x.toInt) : x = nI x.toNatClampNeg ∧ (x.toNatClampNeg : Int) = x.toInt ∧ x.toNatClampNeg < 2147483648 := by
  obtain ⟨q, hq, e⟩ := nI_up (x := x) (hi := 2147483647) h (by have := Int32.toInt_lt x; omega) (by decide)
  rw [e, nI_clamp (by omega), nI_toInt (by omega)]
  exact ⟨rfl, rfl, by omega⟩
section VA
variable {s : LMem} {e : EV} {dd r nd : Nat}
theorem T5_up {b : LMem} (h : upb s b) : T5 b dd = T5 s dd := funext fun r => funext fun w => h.1 45 0 _ (by decide) (by decide)
theorem V5_up {b : LMem} (h : upb s b) : V5 b r = V5 s r := funext fun k => h.1 47 0 _ (by decide) (by decide)
theorem isA_up {m : LMem} {a b : Int32} (h : up s m) : isA m a b ↔ isA s a b := by
  unfold isA
  rw [(h 33 0 35 (by decide)).1, (h 33 0 21 (by decide)).1, (h 33 0 22 (by decide)).1]
theorem isC_A {a b : Int32} (hJ : zV s) : isC s a b ↔ isA s a b := by
  obtain ⟨l, h1, h2, h3, h4, h5, h6, h7, h8⟩ := hJ.1.1.1.1.2
  have D := DK_dug hJ.1.1.2.2.2.1
  unfold isC isA
  rw [h6, h8, D]
theorem dug_1 {a b : Int32} (hJ : zV s) (A : isA s a b) : gI s 33 0 35 = 1 := by
  have J := hJ.1.1.1.1.1
  have b0 : 0 ≤ (gI s 33 0 35).toInt := (J.1 33 0 35 (35, 36, 0, 1) (by decide) (by decide) (by decide)).1
  have b1 : (gI s 33 0 35).toInt ≤ 1 := (J.1 33 0 35 (35, 36, 0, 1) (by decide) (by decide) (by decide)).2
  have z1 : (1 : Int32).toInt = 1 := by decide
  have z0 : (0 : Int32).toInt = 0 := by decide
  have n0 : ¬ (gI s 33 0 35).toInt = 0 := fun q => A.1 (Int32.toInt_inj.mp (q.trans z0.symm))
  exact Int32.toInt_inj.mp (by rw [z1]; omega)
/-- what is asked of what is dug: ditch, rain, laws -/
theorem all_of {a b : Int32} (hJ : zV s) (A : isA s a b) : ∃ e nd, diH s a.toNatClampNeg e.2.2.2.1 ∧ raH s b.toNatClampNeg nd ∧ evG e ∧ csL e (gR s 17 0 6) (gR s 17 0 7) s ∧ reL e (gI s 48 0 277) (gI s 48 0 278) s ∧ gL s 17 0 8 = gL s 33 0 30 := by
  have ca := clx A.2.1.1
  have cb := clx A.2.2.1
  obtain ⟨n, D⟩ := ditch_of (dd := a.toNatClampNeg) hJ (by rw [ca.2.1]; exact A.2.1.2)
  obtain ⟨nd, R⟩ := rain_of (r := b.toNatClampNeg) hJ (by rw [cb.2.1]; exact A.2.2.2)
  obtain ⟨e, en, E, LC, LR, el⟩ := dug_of (n := n) hJ (dug_1 hJ A) (by have := D.2.1; omega) D.2.2.1
  subst en
  exact ⟨e, nd, D, R, E, LC, LR, el⟩
theorem ow_of (D : diH s dd e.2.2.2.1) : ∀ q, q < e.2.2.2.1 → ∃ o : Nat, o < 6 ∧ T6 s dd q 3 = nI o := fun q hq => by
  obtain ⟨t, _, _, _, ⟨o, ho, eo⟩, _⟩ := D.2.2.2.2.2 q hq
  exact ⟨o, ho, (t 3 (by decide)).trans eo⟩
/-- both answer so -/
def bothA (s : LMem) (m1 m2 : Nat) (A1 A2 : List LV) : Prop := ∃ v, qC false 1200 m1 A1 s (fun r _ => r = some (lI v)) ∧ ∀ s1, up s s1 → y_J x_X s1 → qC false 1200 m2 A2 s1 (fun r _ => r = some (lI v))
theorem si_val {a b c q : Int32} (hJ : zV s) : bothA s 189 290 [lR 0 (some 0), lI a, lI b, lI c, lI q] [lR 33 (some 0), lI a, lI b, lI c, lI q] := by
  have J := hJ.1.1.1.1.1
  by_cases P : isA s a b ∧ (1 ≤ c.toInt ∧ c.toInt ≤ 9) ∧ 0 ≤ q.toInt ∧ q.toInt ≤ 999
  · obtain ⟨e, nd, D, R, E, LC, LR, el⟩ := all_of hJ P.1
    refine ⟨fstF (snR e (V5 s b.toNatClampNeg) nd (gL s 33 0 30) (T5 s a.toNatClampNeg) c q) 30 1, ?_, fun s1 U J1 => ?_⟩
    · refine sk_11 (d := 1180) J (fun _ _ _ => ?_) (fun z => absurd ⟨(isC_A hJ).mpr P.1, P.2⟩ z)
      refine h_yearsV (d := 1191) E D.2.2.2.1 LC (ow_of D) R.2.1 R.2.2.1 (fun m _ => ⟨_, rfl, ?_⟩)
      rw [fst_c 30 1 (fun i _ _ => sn_eq D R el)]
    · have ca := (clx P.1.2.1.1).1
      have cb := (clx P.1.2.2.1).1
      refine sk_12 (d := 1189) J1 (fun _ _ _ bc bs m hm => ?_) (fun z => absurd ⟨(isA_up U).mpr P.1, P.2⟩ z)
      have B := upb_of U hm
      have g := si_l (d := 1189) (s := m) (bc := bc) (bs := bs) (dd := a.toNatClampNeg) (r := b.toNatClampNeg) (nd := nd) (by_ := c) (bound := q) (e := e) (Q := fun r _ => r = some (lI (fstF (snR e (V5 s b.toNatClampNeg) nd (gL s 33 0 30) (T5 s a.toNatClampNeg) c q) 30 1))) D.1 E ((B.1 44 0 _ (by decide) (by decide)).trans D.2.2.2.2.1) (by rw [B.1 48 0 277 (by decide) (by decide), B.1 48 0 278 (by decide) (by decide)]; exact reL_up B LR) R.1 R.2.1 ((B.1 46 0 _ (by decide) (by decide)).trans R.2.2.2.1) (fun k hk => by rw [V5_up B]; exact (R.2.2.2.2 k hk).2) (fun k hk => by
        rw [T5_up B]
        refine Gd_ag (fun q hq => (D.2.2.2.2.2 q hq).2) ?_
        have ek : (nI k * c).toInt = (k : Int) * c.toInt := by
          have e1 : (nI k).toInt = k := nI_toInt (by omega)
          have p0 : 0 ≤ (k : Int) * c.toInt := Int.mul_nonneg (by omega) (by omega)
          have p1 : (k : Int) * c.toInt ≤ 30 * 9 := Int.mul_le_mul (by omega) P.2.1.2 (by omega) (by decide)
          rw [y_mulI (by rw [e1]; omega) (by rw [e1]; omega), e1]
        have p0 : 0 ≤ (k : Int) * c.toInt := Int.mul_nonneg (by omega) (by omega)
        have p1 : (k : Int) * c.toInt ≤ 30 * 9 := Int.mul_le_mul (by omega) P.2.1.2 (by omega) (by decide)
        rw [ek]
        omega) (fun m2 o6 => by
        refine qa_t1_W (cut := []) 20 ?_
        exact h_takeV (d := 1198) (fun _ => And.intro rfl rfl)) 30 1 m rfl agI_0 (by rw [T5_up B, V5_up B, B.2])
      rw [← ca, ← cb] at g
      exact g
  · refine ⟨-1, sk_11 (d := 1180) J (fun C hc hq => absurd ⟨(isC_A hJ).mp C, hc, hq⟩ P) (fun _ => rfl), fun s1 U J1 => sk_12 (d := 1189) J1 (fun A hc hq => absurd ⟨(isA_up U).mp A, hc, hq⟩ P) (fun _ => rfl)⟩
theorem rs_val {a b c : Int32} (hJ : zV s) : bothA s 190 291 [lR 0 (some 0), lI a, lI b, lI c] [lR 33 (some 0), lI a, lI b, lI c] := by
  have J := hJ.1.1.1.1.1
  by_cases P : isA s a b ∧ 0 ≤ c.toInt ∧ c.toInt ≤ 5
  · obtain ⟨e, nd, D, R, E, LC, LR, el⟩ := all_of hJ P.1
    have cc := clx P.2.1
    have ho : c.toNatClampNeg < 6 := by have := cc.2.1; omega
    refine ⟨fstF (rsR e (V5 s b.toNatClampNeg) nd (gL s 33 0 30) (T5 s a.toNatClampNeg) c.toNatClampNeg) 31 0, ?_, fun s1 U J1 => ?_⟩
    · refine rs_11 (d := 1180) J (fun _ _ => ?_) (fun z => absurd ⟨(isC_A hJ).mpr P.1, P.2⟩ z)
      have g := h_higherV (d := 1191) (s := s) (dd := a.toNatClampNeg) (r := b.toNatClampNeg) (Q := fun r m => ∃ v, r = some (lI v) ∧ some (lI v) = some (lI (fstF (rsR e (V5 s b.toNatClampNeg) nd (gL s 33 0 30) (T5 s a.toNatClampNeg) c.toNatClampNeg) 31 0))) ho E D.2.2.2.1 LC (ow_of D) R.2.1 R.2.2.1 (fun m _ => ⟨_, rfl, by rw [fst_c 31 0 (fun i _ _ => rs_eq ho D R el)]⟩)
      rw [← cc.1] at g
      exact g
    · have ca := (clx P.1.2.1.1).1
      have cb := (clx P.1.2.2.1).1
      refine rs_12 (d := 1189) J1 (fun _ _ bc bs m hm => ?_) (fun z => absurd ⟨(isA_up U).mpr P.1, P.2⟩ z)
      have B := upb_of U hm
      have g := ra_l (d := 1189) (s := m) (bc := bc) (bs := bs) (dd := a.toNatClampNeg) (r := b.toNatClampNeg) (nd := nd) (o := c.toNatClampNeg) (e := e) (Q := fun r _ => r = some (lI (fstF (rsR e (V5 s b.toNatClampNeg) nd (gL s 33 0 30) (T5 s a.toNatClampNeg) c.toNatClampNeg) 31 0))) ho D.1 E ((B.1 44 0 _ (by decide) (by decide)).trans D.2.2.2.2.1) (by rw [B.1 48 0 277 (by decide) (by decide), B.1 48 0 278 (by decide) (by decide)]; exact reL_up B LR) R.1 R.2.1 ((B.1 46 0 _ (by decide) (by decide)).trans R.2.2.2.1) (fun k hk => by rw [V5_up B]; exact (R.2.2.2.2 k hk).2) (fun k hk => by
        rw [T5_up B]
        exact Gd_ag (fun q hq => (D.2.2.2.2.2 q hq).2) (by decide)) (fun m2 o6 => by
        refine qa_t1_W (cut := []) 20 ?_
        exact h_takeV (d := 1198) (fun _ => And.intro rfl rfl)) 31 0 m rfl agI_0 (by rw [T5_up B, V5_up B, B.2])
      rw [← ca, ← cb, ← cc.1] at g
      exact g
  · refine ⟨-1, rs_11 (d := 1180) J (fun C hc => absurd ⟨(isC_A hJ).mp C, hc⟩ P) (fun _ => rfl), fun s1 U J1 => rs_12 (d := 1189) J1 (fun A hc => absurd ⟨(isA_up U).mp A, hc⟩ P) (fun _ => rfl)⟩
/-- what the reference's sands answers, behind its loop -/
theorem sd_90 {d bc bs : Nat} {a1 a2 what : Int32} {P : PS} {o5 : Option LV} {m : LMem} {Q : LPost} (hn1 : 1 ≤ e.2.2.2.1) (hn : e.2.2.2.1 ≤ 20) (hP : psR e m P) (h : ∀ m', Q (some (lI (sdV e.2.2.2.1 P what))) m') : qW false (d + 1) 289 bc bs 90 [some (lR 33 (some 0)), some (lI a1), some (lI a2), some (lI what), some (lI (nI (mdB (vR m) (e.2.2.2.1 - 1)))), o5] [] m Q := by
  have v276 : qa_vin (276 : Int32) 279 := vin_of (x := 276) (n := 279) (by decide) (by decide) (by decide)
  have em := mdB_c hP.1 (e.2.2.2.1 - 1) (by omega)
  have le := mdB_le P.1 (e.2.2.2.1 - 1)
  rw [em]
  obtain ⟨i7, e7⟩ := fxi (r := mdB P.1 (e.2.2.2.1 - 1)) 7 20 (by omega) (by decide) rfl
  have b7 : gI m 48 0 ((20 : Int32) + nI (mdB P.1 (e.2.2.2.1 - 1))).toNatClampNeg = P.1 7 (mdB P.1 (e.2.2.2.1 - 1)) := by
    rw [e7, ← hP.1 7 _ (by decide) (by omega)]
    rfl
  have t125 : ∀ v, v = sdV e.2.2.2.1 P what → qW false (d + 1) 289 bc bs 125 [some (lR 33 (some 0)), some (lI a1), some (lI a2), some (lI what), some (lI (nI (mdB P.1 (e.2.2.2.1 - 1)))), o5] [lI v] m Q := fun v ev => by
    rw [ev]
    refine qa_t1_W (cut := []) 20 ?_
    exact h_takeV (d := d) (fun m' => And.intro rfl (h m'))
  refine qa_t1_W (cut := [125]) 40 ?_
  refine And.intro (fun c => ?_) (fun c => ?_)
  · exact t125 _ (by unfold sdV; rw [if_pos c])
  · refine And.intro (fun c1 => ?_) (fun c1 => ?_)
    · exact And.intro i7 (t125 (gI m 48 0 ((20 : Int32) + nI (mdB P.1 (e.2.2.2.1 - 1))).toNatClampNeg) (by unfold sdV; rw [if_neg c, if_pos c1, b7]))
    · exact And.intro v276 (t125 (gI m 48 0 (276 : Int32).toNatClampNeg) (by unfold sdV; rw [if_neg c, if_neg c1]; exact hP.2.1))
theorem sd_val {a b c : Int32} (hJ : zV s) : bothA s 188 289 [lR 0 (some 0), lI a, lI b, lI c] [lR 33 (some 0), lI a, lI b, lI c] := by
  have J := hJ.1.1.1.1.1
  by_cases P : isA s a b ∧ 0 ≤ c.toInt ∧ c.toInt ≤ 2
  · obtain ⟨e, nd, D, R, E, LC, LR, el⟩ := all_of hJ P.1
    have G : Gd 0 0 0 e.2.2.2.1 (agF 0 (-1) 0 (tX (T5 s a.toNatClampNeg))) := Gd_ag (fun q hq => (D.2.2.2.2.2 q hq).2) (by decide)
    refine ⟨sdV e.2.2.2.1 (pR e (V5 s b.toNatClampNeg) nd (gL s 33 0 30) (agF 0 (-1) 0 (tX (T5 s a.toNatClampNeg)))) c, ?_, fun s1 U J1 => ?_⟩
    · refine sd_11 (d := 1180) J (fun _ _ => ?_) (fun z => absurd ⟨(isC_A hJ).mpr P.1, P.2⟩ z)
      have PE := pR_c (e := e) (nd := nd) (fun j hj => (R.2.2.2.2 j hj).1) el (eqn_tr (tX_c (fun q hq => (D.2.2.2.2.2 q hq).1)) (ag_0 (fun q hq => (D.2.2.2.2.2 q hq).2)))
      refine h_sandsV (d := 1191) E D.2.2.2.1 LC (ow_of D) R.2.1 R.2.2.1 ?_ (fun m _ => ⟨_, rfl, ?_⟩)
      · have n0 := E.2.2.2.1
        have G30 := Gd_all (w := V5 s b.toNatClampNeg) (P := (agF 0 (-1) 0 (tX (T5 s a.toNatClampNeg)), (0, ((fun _ => 0), gL s 33 0 30)))) E (fun k hk => (R.2.2.2.2 k hk).2) G R.2.1
        have a7 := (G30.1 0 (by omega)).2.2.1
        rw [PE.1 7 0 (by decide) (by omega)]
        refine Int32.lt_iff_toInt_lt.mpr ?_
        rw [show (-1 : Int32).toInt = -1 by decide]
        have a7 : 0 ≤ ((pR e (V5 s b.toNatClampNeg) nd (gL s 33 0 30) (agF 0 (-1) 0 (tX (T5 s a.toNatClampNeg)))).1 7 0).toInt := a7
        omega
      · rw [sd_eq E.2.2.2.1 D R el]
    · have ca := (clx P.1.2.1.1).1
      have cb := (clx P.1.2.2.1).1
      refine sd_12 (d := 1189) J1 (fun _ _ bc bs m hm => ?_) (fun z => absurd ⟨(isA_up U).mpr P.1, P.2⟩ z)
      have B := upb_of U hm
      have g := h_agR (d := 1189) (s := m) (m := m) (dd := a.toNatClampNeg) (r := b.toNatClampNeg) (nd := nd) (e := e) (less := 0) (o := -1) (more := 0) (Q := fun r m2 => r = none ∧ qW false (1189 + 10) 289 bc bs 39 [some (lR 33 (some 0)), some (lI a), some (lI b), some (lI c), some (lI 0), some (lI 1)] [] m2 (fun r _ => r = some (lI (sdV e.2.2.2.1 (pR e (V5 s b.toNatClampNeg) nd (gL s 33 0 30) (agF 0 (-1) 0 (tX (T5 s a.toNatClampNeg)))) c)))) D.1 E ((B.1 44 0 _ (by decide) (by decide)).trans D.2.2.2.2.1) (by rw [B.1 48 0 277 (by decide) (by decide), B.1 48 0 278 (by decide) (by decide)]; exact reL_up B LR) R.1 R.2.1 ((B.1 46 0 _ (by decide) (by decide)).trans R.2.2.2.1) (fun k hk => by rw [V5_up B]; exact (R.2.2.2.2 k hk).2) (by rw [T5_up B]; exact G) agI_0 (fun m2 I2 e2 p2 => ⟨rfl, by
        rw [T5_up B, V5_up B, B.2] at p2
        have n1 := E.2.2.2.1
        exact mx_l (d := 1199) (a1 := a) (a2 := b) (what := c) E.2.2.2.2 e2 (fun o5 => sd_90 (d := 1198) n1 E.2.2.2.2 p2 (fun _ => rfl)) (e.2.2.2.1 - 1) 1 (by omega) (Nat.le_refl _)⟩)
      rw [← ca, ← cb] at g
      exact g
  · refine ⟨-1, sd_11 (d := 1180) J (fun C hc => absurd ⟨(isC_A hJ).mp C, hc⟩ P) (fun _ => rfl), fun s1 U J1 => sd_12 (d := 1189) J1 (fun A hc => absurd ⟨(isA_up U).mp A, hc⟩ P) (fun _ => rfl)⟩
theorem fa_val {n so w f rr b : Int32} (hJ : zV s) : bothA s 187 286 [lR 0 (some 0), lI n, lI so, lI w, lI f, lI rr, lI b] [lR 33 (some 0), lI n, lI so, lI w, lI f, lI rr, lI b] := by
  have J := hJ.1.1.1.1.1
  obtain ⟨l, h1, h2, h3, h4, h5, h6, h7, h8⟩ := hJ.1.1.1.1.2
  by_cases P : faP (gI s 33 0 22) (gI s 33 0 13) n so w f rr b
  · obtain ⟨pn, pso, pw, pf, pr, pb⟩ := P
    have cn := clx (show 0 ≤ n.toInt by omega)
    have cf := clx pf.1
    have cr := clx pr.1
    obtain ⟨nd, R⟩ := rain_of (r := rr.toNatClampNeg) hJ (by rw [cr.2.1]; exact pr.2)
    obtain ⟨e, en, E, LC, LR⟩ := form_of (n := n.toNatClampNeg) (nl := f.toNatClampNeg) hJ (by rw [cf.2.1]; exact pf.2) (by have := cn.2.1; omega) (by have := cn.2.1; omega)
    have eN : n = nI e.2.2.2.1 := by rw [en]; exact cn.1
    refine ⟨kpF (flR2 e (V5 s rr.toNatClampNeg) nd so w b) 10, ?_, fun s1 U J1 => ?_⟩
    · refine fa_11 (d := 1180) J (fun _ => ?_) (fun z => absurd (by rw [h8, h7]; exact ⟨pn, pso, pw, pf, pr, pb⟩) z)
      have g := h_fallsV (d := 1191) (s := s) (r := rr.toNatClampNeg) (nd := nd) (nl := f.toNatClampNeg) (soil := so) (width := w) (by_ := b) (e := e) (Q := fun r m => ∃ v, r = some (lI v) ∧ some (lI v) = some (lI (kpF (flR2 e (V5 s rr.toNatClampNeg) nd so w b) 10))) E LC R.2.1 R.2.2.1 (fun m _ => ⟨_, rfl, by rw [kpF_c 10 (fun i _ => fl_eq E.2.2.2.2 R)]⟩)
      rw [← eN] at g
      exact g
    · refine fa_12 (d := 1190) J1 (fun _ bc bs m hm => ?_) (fun z => absurd (by rw [(U 33 0 22 (by decide)).1, (U 33 0 13 (by decide)).1]; exact ⟨pn, pso, pw, pf, pr, pb⟩) z)
      have B := upb_of U hm
      have g := fav_l (d := 1190) (s := m) (bc := bc) (bs := bs) (r := rr.toNatClampNeg) (nd := nd) (nl := f.toNatClampNeg) (soil := so) (width := w) (by_ := b) (e := e) (Q := fun r _ => r = some (lI (kpF (flR2 e (V5 s rr.toNatClampNeg) nd so w b) 10))) E (reL_up B LR) R.1 R.2.1 ((B.1 46 0 _ (by decide) (by decide)).trans R.2.2.2.1) (fun k hk => by rw [V5_up B]; exact (R.2.2.2.2 k hk).2) (fun k hk => Gd_fm E.2.2.2.2 hk pso pw) (fun m2 o8 o9 => by
        rw [V5_up B]
        refine qa_t1_W (cut := []) 20 ?_
        exact h_takeV (d := 1198) (fun _ => And.intro rfl rfl)) 10 0 m none rfl rF_0
      rw [← eN, ← cf.1, ← cr.1] at g
      exact g
  · refine ⟨-1, fa_11 (d := 1180) J (fun C => absurd (by rw [h8, h7] at C; exact C) P) (fun _ => rfl), fun s1 U J1 => fa_12 (d := 1190) J1 (fun C => absurd (by rw [(U 33 0 22 (by decide)).1, (U 33 0 13 (by decide)).1] at C; exact C) P) (fun _ => rfl)⟩
end VA
theorem pair_of {s : LMem} {m1 m2 : Nat} {A1 A2 : List LV} (V : bothA s m1 m2 A1 A2) (S1 : qC false 1200 m1 A1 s (fun r m => ∃ v, r = some (lI v) ∧ zV m ∧ ∀ i j, gI m 65 i j = gI s 65 i j)) (F : qC false 1200 m1 A1 s (fun _ m => up s m)) (S2 : ∀ s1, zV s1 → qC false 1200 m2 A2 s1 (fun r m => ∃ v, r = some (lI v) ∧ zV m ∧ ∀ i j, gI m 65 i j = gI s1 65 i j)) : qC false 1200 m1 A1 s (fun r s1 => ∃ v, r = some (lI v) ∧ y_J x_X s1 ∧ (∀ i j, gI s1 65 i j = gI s 65 i j) ∧ qC false 1200 m2 A2 s1 (prb s1 v)) := by
  obtain ⟨v, V1, V2⟩ := V
  refine qC_mono (qC_and (qC_and V1 S1) F) fun r s1 q => ?_
  obtain ⟨⟨er, w, ew, z1, x1⟩, U⟩ := q
  have J1 := z1.1.1.1.1.1
  refine ⟨v, er, J1, x1, ?_⟩
  refine qC_mono (qC_and (V2 s1 U J1) (S2 s1 z1)) fun r2 s2 q => ?_
  obtain ⟨e2, w2, ew2, z2, x2⟩ := q
  exact ⟨e2, z2, x2⟩
