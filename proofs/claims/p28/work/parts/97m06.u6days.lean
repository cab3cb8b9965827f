/-! DAYS of the reference. -/
section DS
variable {d : Nat} {s : LMem} {Q : LPost} {e : EV}
theorem roP_l {bc bs r nd : Nat} {P : PS} (E : evG e) (R : reH e s) (hr : r ≤ 3) (hnd : nd ≤ 30) (h46 : gI s 46 0 r = nI nd) (hw : ∀ k, k < nd → 0 ≤ (gI s 47 0 (30 * r + k)).toInt ∧ (gI s 47 0 (30 * r + k)).toInt ≤ 99) (G : Gd 0 0 0 e.2.2.2.1 P.1) (h : ∀ m, kR (dyP e.2.2.2.1) True s m → psR e m (rnD e (fun k => gI s 47 0 (30 * r + k)) P nd) → Q none m) : ∀ j k m, k + j = nd → kR (dyP e.2.2.2.1) True s m → psR e m (rnD e (fun k => gI s 47 0 (30 * r + k)) P k) → qW false (d + 8) 254 bc bs 2 [some (lR 33 (some 0)), some (lI (nI r)), some (lI (nI k))] [] m Q := by
  intro j
  induction j with
  | zero =>
    intro k m hk hm hP
    have hk : k = nd := hk
    subst hk
    have e5 : (nI r).toNatClampNeg = r := nI_clamp (by omega)
    have hlt : ¬ nI k < gI m 46 0 (nI r).toNatClampNeg := by
      rw [e5, hm.1 46 0 r (by decide) (fun q => absurd q.1 (by decide)), h46]
      exact nI_nlt (Nat.le_refl _) (by omega)
    refine qa_t1_W (cut := [2]) 20 ?_
    refine And.intro (show qa_vin (nI r) 5 from nI_in (by omega) (by decide)) ?_
    exact And.intro (fun q => absurd q hlt) (fun _ => h m hm hP)
  | succ j ih =>
    intro k m hk hm hP
    have hn := E.2.2.2.2
    have e5 : (nI r).toNatClampNeg = r := nI_clamp (by omega)
    have hlt : nI k < gI m 46 0 (nI r).toNatClampNeg := by
      rw [e5, hm.1 46 0 r (by decide) (fun q => absurd q.1 (by decide)), h46]
      exact nI_lt (by omega) (by omega)
    have i2 : (30 : Int32) * nI r + nI k = nI (30 * r + k) := by rw [show (30 : Int32) = nI 30 from rfl, nI_mul, nI_add]
    have v150 : qa_vin ((30 : Int32) * nI r + nI k) 150 := by
      rw [i2]
      exact nI_in (by omega) (by decide)
    have ew : gI m 47 0 ((30 : Int32) * nI r + nI k).toNatClampNeg = gI s 47 0 (30 * r + k) := by
      rw [i2, nI_clamp (by omega)]
      exact hm.1 47 0 _ (by decide) (fun q => absurd q.1 (by decide))
    have Rm : reH e m := reH_k hm (dyP_no hn (by omega)) (dyP_no hn (by omega)) (dyP_no hn (by omega)) R
    have day : qC false (d + 8) 253 [lR 33 (some 0), lI (gI m 47 0 ((30 : Int32) * nI r + nI k).toNatClampNeg)] m (fun rr m2 => rr = none ∧ qW false (d + 8) 254 bc bs 2 [some (lR 33 (some 0)), some (lI (nI r)), some (lI (nI k + 1))] [] m2 Q) := by
      rw [ew]
      have Gk := Gd_days (w := fun k => gI s 47 0 (30 * r + k)) E hw G k (by omega) (by omega)
      refine h_dayOfP (d := d) E Rm (hw k (by omega)) hP Gk (by omega) (by omega) (by omega) (fun m2 k2 p2 => ⟨rfl, ?_⟩)
      rw [nI_1]
      exact ih (k + 1) m2 (by omega) (kR_tr hm k2 (fun _ q => q) (fun _ q => q) (fun q => q) (fun q => q)) p2
    refine qa_t1_W (cut := [2]) 40 ?_
    refine And.intro (show qa_vin (nI r) 5 from nI_in (by omega) (by decide)) ?_
    refine And.intro (fun _ => ?_) (fun q => absurd hlt q)
    exact And.intro v150 day
theorem h_runOfP {r nd : Nat} {P : PS} (E : evG e) (R : reH e s) (hr : r ≤ 3) (hnd : nd ≤ 30) (h46 : gI s 46 0 r = nI nd) (hw : ∀ k, k < nd → 0 ≤ (gI s 47 0 (30 * r + k)).toInt ∧ (gI s 47 0 (30 * r + k)).toInt ≤ 99) (G : Gd 0 0 0 e.2.2.2.1 P.1) (hP : psR e s P) (h : ∀ m, kR (dyP e.2.2.2.1) True s m → psR e m (rnD e (fun k => gI s 47 0 (30 * r + k)) P nd) → Q none m) : qC false (d + 9) 254 [lR 33 (some 0), lI (nI r)] s Q := by
  have main : ∀ bc bs, qW false (d + 8) 254 bc bs 2 [some (lR 33 (some 0)), some (lI (nI r)), some (lI (nI 0))] [] s Q := fun bc bs => roP_l (d := d) E R hr hnd h46 hw G h nd 0 s (Nat.zero_add _) kR_0 hP
  refine qC_of rfl rfl ?_
  refine qa_t1_W (cut := [2]) 10 ?_
  exact main _ _
end DS
/-! A DAY of the class; its DAYS. -/
/-- kept: all but what waits, rows, counts of what is dug; harm and draws where b says so -/
def kG (b : Prop) (dg : Nat) (s m : LMem) : Prop := (∀ k i j, k ≠ 11 → ¬ (k = 21 ∧ 20 * dg ≤ i ∧ i < 20 * dg + 20) → ¬ (k = 17 ∧ i = dg ∧ 10 ≤ j) → ¬ (b ∧ k = 19 ∧ i = dg) → gI m k i j = gI s k i j) ∧ (∀ k i j, ¬ (b ∧ k = 17 ∧ i = dg ∧ j = 9) → gL m k i j = gL s k i j) ∧ ∀ k i j, gR m k i j = gR s k i j
theorem kG_0 {b : Prop} {dg : Nat} {s : LMem} : kG b dg s s := ⟨fun _ _ _ _ _ _ _ => rfl, fun _ _ _ _ => rfl, fun _ _ _ => rfl⟩
theorem kG_tr {b c b' : Prop} {dg : Nat} {s m m2 : LMem} (h : kG b dg s m) (h2 : kG c dg m m2) (e1 : b → b') (e2 : c → b') : kG b' dg s m2 := ⟨fun k i j g1 g2 g3 g4 => (h2.1 k i j g1 g2 g3 (fun q => g4 ⟨e2 q.1, q.2⟩)).trans (h.1 k i j g1 g2 g3 (fun q => g4 ⟨e1 q.1, q.2⟩)), fun k i j g => (h2.2.1 k i j (fun q => g ⟨e2 q.1, q.2⟩)).trans (h.2.1 k i j (fun q => g ⟨e1 q.1, q.2⟩)), fun k i j => (h2.2.2 k i j).trans (h.2.2 k i j)⟩
theorem kG_21 {fs : List Nat} {b : Prop} {dg : Nat} {s m : LMem} (h : k21 fs dg s m) : kG b dg s m := ⟨fun k i j _ g2 _ _ => h.1 k i j (fun q => g2 ⟨q.1, q.2.1.1, q.2.1.2⟩), fun k i j _ => h.2.1 k i j, h.2.2⟩
theorem kG_2w {fs : List Nat} {b : Prop} {dg : Nat} {s m : LMem} (h : k2w fs dg s m) : kG b dg s m := ⟨fun k i j g1 g2 _ _ => h.1 k i j g1 (fun q => g2 ⟨q.1, q.2.1.1, q.2.1.2⟩), fun k i j _ => h.2.1 k i j, h.2.2⟩
theorem kG_2c {fs cs : List Nat} {b : Prop} {dg : Nat} {s m : LMem} (h : k2c fs cs dg s m) (hc : ∀ j, j ∈ cs → 10 ≤ j) : kG b dg s m := ⟨fun k i j _ g2 g3 _ => h.1 k i j (fun q => g2 ⟨q.1, q.2.1.1, q.2.1.2⟩) (fun q => g3 ⟨q.1, q.2.1, hc j q.2.2⟩), fun k i j _ => h.2.1 k i j, h.2.2⟩
theorem kG_2d {fs : List Nat} {dg : Nat} {s m : LMem} (h : k2d fs dg s m) : kG True dg s m := ⟨fun k i j g1 g2 _ _ => h.1 k i j g1 (fun q => g2 ⟨q.1, q.2.1.1, q.2.1.2⟩), fun k i j g => h.2.1 k i j (fun q => g ⟨trivial, q⟩), h.2.2⟩
theorem kG_2h {fs : List Nat} {dg : Nat} {s m : LMem} (h : k2h fs dg s m) : kG True dg s m := ⟨fun k i j _ g2 _ g4 => h.1 k i j (fun q => g2 ⟨q.1, q.2.1.1, q.2.1.2⟩) (fun q => g4 ⟨trivial, q⟩), fun k i j _ => h.2.1 k i j, h.2.2⟩
theorem chR_g {b : Prop} {dg n : Nat} {s m : LMem} (h : kG b dg s m) (c : chR dg n s) : chR dg n m := ⟨by rw [h.2.2]; exact c.1, fun r hr => by rw [h.2.2]; exact c.2 r hr⟩
theorem cC_g {b : Prop} {dg nl : Nat} {s m : LMem} {L : List Ck} (h : kG b dg s m) (c : cC nl s L) : cC nl m L := ⟨by
  rw [h.1 8 nl 2 (by decide) (fun q => absurd q.1 (by decide)) (fun q => absurd q.1 (by decide)) (fun q => absurd q.2.1 (by decide))]
  exact c.1, fun j x e => by
  rw [h.1 9 nl j (by decide) (fun q => absurd q.1 (by decide)) (fun q => absurd q.1 (by decide)) (fun q => absurd q.2.1 (by decide)), h.1 10 nl j (by decide) (fun q => absurd q.1 (by decide)) (fun q => absurd q.1 (by decide)) (fun q => absurd q.2.1 (by decide))]
  exact c.2 j x e⟩
/-- what the class's day rests on -/
def csH (e : EV) (dg : Nat) (s : LMem) : Prop := chR dg e.2.2.2.1 s ∧ (gI s 16 0 0 = e.1 ∧ gI s 16 0 1 = e.2.1 ∧ gI s 16 0 2 = e.2.2.1) ∧ (∃ nl : Nat, gR s 17 dg 6 = some nl ∧ cC nl s (clsC e.2.2.2.2.1) ∧ (clsC e.2.2.2.2.1).length ≤ 200 ∧ lwR e.2.2.2.2.1) ∧ ((e.2.2.2.2.2 = none ∧ gR s 17 dg 7 = none) ∨ ∃ c2, ∃ n2 : Nat, e.2.2.2.2.2 = some c2 ∧ gR s 17 dg 7 = some n2 ∧ cC n2 s (clsC c2) ∧ (clsC c2).length ≤ 200 ∧ lwR c2)
theorem csH_g {b : Prop} {e : EV} {dg : Nat} {s m : LMem} (h : kG b dg s m) (R : csH e dg s) : csH e dg m := by
  have g16 : ∀ j, gI m 16 0 j = gI s 16 0 j := fun j => h.1 16 0 j (by decide) (fun q => absurd q.1 (by decide)) (fun q => absurd q.1 (by decide)) (fun q => absurd q.2.1 (by decide))
  obtain ⟨c, ⟨t0, t1, t2⟩, ⟨nl, l1, l2, l3, l4⟩, q⟩ := R
  refine ⟨chR_g h c, ⟨(g16 0).trans t0, (g16 1).trans t1, (g16 2).trans t2⟩, ⟨nl, by rw [h.2.2]; exact l1, cC_g h l2, l3, l4⟩, ?_⟩
  rcases q with ⟨q1, q2⟩ | ⟨c2, n2, q1, q2, q3, q4, q5⟩
  · exact Or.inl ⟨q1, by rw [h.2.2]; exact q2⟩
  · exact Or.inr ⟨c2, n2, q1, by rw [h.2.2]; exact q2, cC_g h q3, q4, q5⟩
/-- what the class holds of a picture -/
def psC (e : EV) (dg : Nat) (m : LMem) (P : PS) : Prop := eqn e.2.2.2.1 (vX dg m) P.1 ∧ gI m 17 dg 13 = P.2.1 ∧ (∀ o, o < 6 → gI m 19 dg o = P.2.2.1 o) ∧ gL m 17 dg 9 = P.2.2.2
section GDc
variable {d dg : Nat} {s : LMem} {Q : LPost} {rain : Int32} {e : EV}
theorem gd_r {bc bs : Nat} (hn : e.2.2.2.1 ≤ 20) (hn1 : 1 ≤ e.2.2.2.1) (R : csH e dg s) : ∀ j k m S, k + j = 4 → kG False dg s m → eqn e.2.2.2.1 (vX dg m) S.1 → gI m 17 dg 13 = S.2 → (∀ m', kG False dg s m' → eqn e.2.2.2.1 (vX dg m') (rdN e rain j S).1 → gI m' 17 dg 13 = (rdN e rain j S).2 → qW false (d + 5) 22 bc bs 31 [some (lR 17 (some dg)), some (lI rain), some (lI (nI 4))] [] m' Q) → qW false (d + 5) 22 bc bs 7 [some (lR 17 (some dg)), some (lI rain), some (lI (nI k))] [] m Q := by
  intro j
  induction j with
  | zero =>
    intro k m S hk hm hX hS h
    have hk : k = 4 := hk
    subst hk
    have hlt : ¬ nI 4 < 4 := by decide
    refine qa_t1_W (cut := [7, 31]) 20 ?_
    exact And.intro (fun c => absurd c hlt) (fun _ => h m hm hX hS)
  | succ j ih =>
    intro k m S hk hm hX hS h
    have hlt : nI k < 4 := nI_lt (b := 4) (by omega) (by decide)
    obtain ⟨C, ⟨t0, t1, t2⟩, ⟨nl, l1, l2, l3, l4⟩, _⟩ := csH_g hm R
    have go : qC false (d + 5) 25 [lR 17 (some dg), lI rain] m (fun r1 m1 => r1 = none ∧ qC false (d + 5) 26 [lR 17 (some dg)] m1 (fun r2 m2 => r2 = none ∧ qC false (d + 5) 27 [lR 17 (some dg)] m2 (fun r3 m3 => r3 = none ∧ qW false (d + 5) 22 bc bs 7 [some (lR 17 (some dg)), some (lI rain), some (lI (nI k + 1))] [] m3 Q))) := by
      refine h_setFlowsV (d := d) hn C l1 l2 l3 l4 (fun m1 k1 x1 => ⟨rfl, ?_⟩)
      rw [t0] at x1
      have g1 : kG False dg s m1 := kG_tr hm (kG_2w (b := False) k1) (fun q => q) (fun q => q)
      have E1 : eqn e.2.2.2.1 (vX dg m1) (p2F e.1 e.2.2.2.1 e.2.2.2.2.1 rain S.1) := eqn_tr (fun f r _ hr => x1 f r hr) (p2_c hX)
      have c1 : gI m1 17 dg 13 = S.2 := (k1.1 17 dg 13 (by decide) (fun q => absurd q.1 (by decide))).trans hS
      refine h_moveWaterV (d := d + 4) hn hn1 (chR_g g1 R.1) (fun m2 k2 x2 _ => ⟨rfl, ?_⟩)
      have k2' : kG False dg m1 m2 := kG_2c k2 (fun j hj => by
        rw [List.mem_singleton.mp hj]
        decide)
      have g2 : kG False dg s m2 := kG_tr g1 k2' (fun q => q) (fun q => q)
      have E2 : eqn e.2.2.2.1 (vX dg m2) (p3F (p2F e.1 e.2.2.2.1 e.2.2.2.2.1 rain S.1)) := eqn_tr (fun f r _ hr => x2 f r hr) (p3_c E1)
      have c2 : gI m2 17 dg 13 = S.2 := (k2.1 17 dg 13 (fun q => absurd q.1 (by decide)) (fun q => absurd q.2.2 (by decide))).trans c1
      refine h_moveLoadV (d := d + 3) hn (chR_g g2 R.1) (fun m3 k3 x3 c3 _ => ⟨rfl, ?_⟩)
      have k3' : kG False dg m2 m3 := kG_2c k3 (fun j hj => by
        simp only [List.mem_cons, List.not_mem_nil, or_false] at hj
        omega)
      have E3 : eqn e.2.2.2.1 (vX dg m3) (rdF e rain S).1 := eqn_tr (fun f r _ hr => x3 f r hr) (p4_c E2)
      have c3' : gI m3 17 dg 13 = (rdF e rain S).2 := by
        rw [c3, c2]
        exact cuA_c E2 _ (Nat.le_refl _)
      rw [nI_1]
      exact ih (k + 1) m3 _ (by omega) (kG_tr g2 k3' (fun q => q) (fun q => q)) E3 c3' h
    refine qa_t1_W (cut := [7, 31]) 40 ?_
    exact And.intro (fun _ => go) (fun c => absurd hlt c)
theorem h_slipP {X : Nat → Nat → Int32} (hn : e.2.2.2.1 ≤ 20) (R : csH e dg s) (hX : eqn e.2.2.2.1 (vX dg s) X) (h : ∀ m, k2d [7, 11] dg s m → eqn e.2.2.2.1 (vX dg m) (slO e rain (gL s 17 dg 9) X) → gL m 17 dg 9 = slD e (gL s 17 dg 9) → Q none m) : qC false (d + 5) 28 [lR 17 (some dg), lI rain] s Q := by
  obtain ⟨C, ⟨t0, t1, t2⟩, _, q⟩ := R
  unfold slO slD at h
  rcases q with ⟨q1, q2⟩ | ⟨c2, n2, q1, q2, q3, q4, q5⟩
  · rw [q1] at h
    exact h_slipSidesV hn C (Or.inl ⟨q2, h s k2d_0 hX rfl⟩)
  · rw [q1] at h
    refine h_slipSidesV hn C (Or.inr ⟨n2, c2, q2, q3, q4, q5, fun m k x D => h m k ?_ D⟩)
    rw [t0] at x
    exact eqn_tr (fun f r _ hr => x f r hr) (p5_c hX)
theorem h_goDayP {P : PS} (hn : e.2.2.2.1 ≤ 20) (hn1 : 1 ≤ e.2.2.2.1) (R : csH e dg s) (ow : ∀ r, r < e.2.2.2.1 → ∃ o : Nat, o < 6 ∧ P.1 4 r = nI o) (hP : psC e dg s P) (h : ∀ m, kG True dg s m → psC e dg m (dyF e rain P) → Q none m) : qC false (d + 6) 22 [lR 17 (some dg), lI rain] s Q := by
  obtain ⟨hX, hc, hH, hD⟩ := hP
  have main : ∀ bc bs, qC false (d + 5) 23 [lR 17 (some dg), lI rain] s (fun r1 m1 => r1 = none ∧ qW false (d + 5) 22 bc bs 7 [some (lR 17 (some dg)), some (lI rain), some (lI 0)] [] m1 Q) := fun bc bs => by
    refine h_takeRainV (d := d + 4) hn R.1 (fun m1 k1 x1 => ⟨rfl, ?_⟩)
    rw [R.2.1.2.1] at x1
    have g1 : kG False dg s m1 := kG_21 k1
    have E1 : eqn e.2.2.2.1 (vX dg m1) (p1F rain e.2.1 P.1) := eqn_tr (fun f r _ hr => x1 f r hr) (p1_c hX)
    have c1 : gI m1 17 dg 13 = P.2.1 := (k1.1 17 dg 13 (fun q => absurd q.1 (by decide))).trans hc
    refine gd_r (d := d) (s := m1) hn hn1 (csH_g g1 R) 4 0 m1 (p1F rain e.2.1 P.1, P.2.1) (Nat.zero_add _) kG_0 E1 c1 (fun m2 k2 x2 c2 => ?_)
    have g2 : kG False dg s m2 := kG_tr g1 k2 (fun q => q) (fun q => q)
    have l2 : gL m2 17 dg 9 = P.2.2.2 := (g2.2.1 17 dg 9 (fun q => q.1)).trans hD
    have go : qC false (d + 5) 28 [lR 17 (some dg), lI rain] m2 (fun r3 m3 => r3 = none ∧ qC false (d + 5) 30 [lR 17 (some dg)] m3 (fun r4 m4 => r4 = none ∧ qC false (d + 5) 31 [lR 17 (some dg)] m4 (fun r5 m5 => r5 = none ∧ Q none (sI m5 17 dg 10 (gI m5 17 dg 10 + 1))))) := by
      refine h_slipP (d := d) hn (csH_g g2 R) x2 (fun m3 k3 x3 l3 => ⟨rfl, ?_⟩)
      rw [l2] at x3 l3
      have g3 : kG True dg s m3 := kG_tr g2 (kG_2d k3) (fun q => q.elim) (fun q => q)
      refine h_growReedsV (d := d + 4) hn (chR_g g3 R.1) (fun m4 k4 x4 => ⟨rfl, ?_⟩)
      have g4 : kG True dg s m4 := kG_tr g3 (kG_21 (b := False) k4) (fun q => q) (fun q => q.elim)
      rw [(csH_g g3 R).2.1.2.2] at x4
      have E4 : eqn e.2.2.2.1 (vX dg m4) (dyC e rain P) := eqn_tr (fun f r _ hr => x4 f r hr) (p6_c x3)
      refine h_wetFieldsV (d := d + 3) hn (chR_g g4 R.1) (fun r hr => ?_) (fun m5 k5 x5 h5 => ⟨rfl, ?_⟩)
      · obtain ⟨o, ho, eo⟩ := ow r hr
        refine ⟨o, ho, ?_⟩
        rw [E4 4 r (by decide) hr, dyC_o (Or.inl (by decide)), eo]
      · have g5 : kG True dg s m5 := kG_tr g4 (kG_2h k5) (fun q => q) (fun q => q)
        have E5 : eqn e.2.2.2.1 (vX dg m5) (dyF e rain P).1 := eqn_tr (fun f r _ hr => x5 f r hr) (p7_c E4)
        have h4 : ∀ o, gI m4 19 dg o = gI s 19 dg o := fun o => by
          rw [k4.1 19 dg o (fun q => absurd q.1 (by decide)), k3.1 19 dg o (by decide) (fun q => absurd q.1 (by decide)), g2.1 19 dg o (by decide) (fun q => absurd q.1 (by decide)) (fun q => absurd q.1 (by decide)) (fun q => q.1)]
        have c5 : gI m5 17 dg 13 = (dyF e rain P).2.1 := by
          rw [k5.1 17 dg 13 (fun q => absurd q.1 (by decide)) (fun q => absurd q.1 (by decide)), k4.1 17 dg 13 (fun q => absurd q.1 (by decide)), k3.1 17 dg 13 (by decide) (fun q => absurd q.1 (by decide))]
          exact c2
        have l5 : gL m5 17 dg 9 = (dyF e rain P).2.2.2 := by
          rw [k5.2.1, k4.2.1]
          exact l3
        have gF : kG True dg s (sI m5 17 dg 10 (gI m5 17 dg 10 + 1)) := ⟨fun k i j a1 a2 a3 a4 => by
          rw [gI_sI, if_neg (fun q => a3 ⟨q.1, q.2.1, by rw [q.2.2]; exact Nat.le_refl _⟩)]
          exact g5.1 k i j a1 a2 a3 a4, g5.2.1, g5.2.2⟩
        refine h _ gF ⟨fun f r hf hr => ?_, ?_, fun o ho => ?_, l5⟩
        · rw [← E5 f r hf hr]
          show gI (sI m5 17 dg 10 _) 21 _ f = _
          rw [gI_sI, if_neg (fun q => absurd q.1 (by decide))]
        · rw [gI_sI, if_neg (fun q => absurd q.2.2 (by decide))]
          exact c5
        · rw [gI_sI, if_neg (fun q => absurd q.1 (by decide)), h5 o ho, hmA_c E4 _ (Nat.le_refl _)]
          exact hmA_h ((h4 o).trans (hH o ho)) _
    refine qa_t1_W (cut := []) 40 ?_
    exact go
  refine qC_of rfl rfl ?_
  refine qa_t1_W (cut := [7]) 20 ?_
  exact main _ _
theorem gsP_l {bc bs r nd : Nat} {P : PS} (hn : e.2.2.2.1 ≤ 20) (hn1 : 1 ≤ e.2.2.2.1) (R : csH e dg s) (ow : ∀ r, r < e.2.2.2.1 → ∃ o : Nat, o < 6 ∧ P.1 4 r = nI o) (hnd : nd ≤ 30) (h13 : gI s 13 r 1 = nI nd) (h : ∀ m, kG True dg s m → psC e dg m (rnD e (fun k => gI s 14 r k) P nd) → Q none m) : ∀ j k m, k + j = nd → kG True dg s m → psC e dg m (rnD e (fun k => gI s 14 r k) P k) → qW false (d + 6) 20 bc bs 2 [some (lR 17 (some dg)), some (lR 13 (some r)), some (lI (nI k))] [] m Q := by
  intro j
  induction j with
  | zero =>
    intro k m hk hm hP
    have hk : k = nd := hk
    subst hk
    have e13 : gI m 13 r 1 = nI k := (hm.1 13 r 1 (by decide) (fun q => absurd q.1 (by decide)) (fun q => absurd q.1 (by decide)) (fun q => absurd q.2.1 (by decide))).trans h13
    have hlt : ¬ nI k < gI m 13 r 1 := by rw [e13]; exact nI_nlt (Nat.le_refl _) (by omega)
    refine qa_t1_W (cut := [2]) 20 ?_
    refine h_dyB (Exists.intro _ (And.intro rfl ?_))
    exact And.intro (fun q => absurd q hlt) (fun _ => h m hm hP)
  | succ j ih =>
    intro k m hk hm hP
    have e13 : gI m 13 r 1 = nI nd := (hm.1 13 r 1 (by decide) (fun q => absurd q.1 (by decide)) (fun q => absurd q.1 (by decide)) (fun q => absurd q.2.1 (by decide))).trans h13
    have e14 : gI m 14 r k = gI s 14 r k := hm.1 14 r k (by decide) (fun q => absurd q.1 (by decide)) (fun q => absurd q.1 (by decide)) (fun q => absurd q.2.1 (by decide))
    have hlt : nI k < gI m 13 r 1 := by rw [e13]; exact nI_lt (by omega) (by omega)
    have day : qC false (d + 6) 22 [lR 17 (some dg), lI (gI m 14 r k)] m (fun rr m2 => rr = none ∧ qW false (d + 6) 20 bc bs 2 [some (lR 17 (some dg)), some (lR 13 (some r)), some (lI (nI k + 1))] [] m2 Q) := by
      rw [e14]
      refine h_goDayP (d := d) hn hn1 (csH_g hm R) (fun q hq => ?_) hP (fun m2 k2 p2 => ⟨rfl, ?_⟩)
      · rw [rnD_o (Or.inl (by decide))]
        exact ow q hq
      · rw [nI_1]
        exact ih (k + 1) m2 (by omega) (kG_tr hm k2 (fun q => q) (fun q => q)) p2
    refine qa_t1_W (cut := [2]) 30 ?_
    refine h_dyB (Exists.intro _ (And.intro rfl ?_))
    refine And.intro (fun _ => ?_) (fun q => absurd hlt q)
    exact h_onB (n := nd) (by omega) hnd e13 (Exists.intro _ (And.intro rfl day))
theorem h_goDaysP {r nd : Nat} {P : PS} (hn : e.2.2.2.1 ≤ 20) (hn1 : 1 ≤ e.2.2.2.1) (R : csH e dg s) (ow : ∀ r, r < e.2.2.2.1 → ∃ o : Nat, o < 6 ∧ P.1 4 r = nI o) (hnd : nd ≤ 30) (h13 : gI s 13 r 1 = nI nd) (hP : psC e dg s P) (h : ∀ m, kG True dg s m → psC e dg m (rnD e (fun k => gI s 14 r k) P nd) → Q none m) : qC false (d + 7) 20 [lR 17 (some dg), lR 13 (some r)] s Q := by
  have main : ∀ bc bs, qW false (d + 6) 20 bc bs 2 [some (lR 17 (some dg)), some (lR 13 (some r)), some (lI (nI 0))] [] s Q := fun bc bs => gsP_l (d := d) hn hn1 R ow hnd h13 h nd 0 s (Nat.zero_add _) kG_0 hP
  refine qC_of rfl rfl ?_
  refine qa_t1_W (cut := [2]) 10 ?_
  exact main _ _
end GDc
