/-! reachOf, readDitch. -/
section DE
variable {d bc bs l dd : Nat} {s : LMem} {Q : LPost}
theorem dt_head {n q : Nat} {m : LMem} {c z : Int32} (hd5 : dd < 5) (hdd : xI s 33 21 ≤ (dd : Int)) (hn : n < 20) (hl : gI s 33 0 2 = nI l) (hl2 : l ≤ 200) (h : ∀ m, dt_E dd n l s m → Q none m) (hm : dt_S dd s m) (hq : gI m 33 0 3 = nI q) (hq2 : q < l) (h44 : gI m 44 0 dd = nI n) (hR : dt_R dd m n) : qW false (d + 3) 232 bc bs 47 [some (lR 33 (some 0)), some (lI (nI dd)), some (lI c), some (lI z), none, none, none] [] m Q := by
  have v5 : qa_vin (nI dd) 5 := nI_in (by omega) (by decide)
  have er : (nI dd).toNatClampNeg = dd := nI_clamp (by omega)
  have hr2 := rd_s (s := m) (v := gI m 33 0 3 + 1) (Or.inl rfl : (3 : Nat) = 3 ∨ (3 : Nat) = 4 ∨ (3 : Nat) = 5) rd_0
  have S2 := dt_rd hm hr2
  have R2 := dt_Rrd hr2 hR
  have a2 : gI (sI m 33 0 3 (gI m 33 0 3 + 1)) 33 0 3 = nI (q + 1) := by rw [gI_sI, if_pos ⟨rfl, rfl, rfl⟩, hq, nI_1]
  have d2 : gI (sI m 33 0 3 (gI m 33 0 3 + 1)) 44 0 dd = nI n := by rw [hr2.1 44 0 dd (fun q => absurd q.1 (by decide)), h44]
  have eB : (5 : Int32) * ((20 : Int32) * nI dd + gI (sI m 33 0 3 (gI m 33 0 3 + 1)) 44 0 (nI dd).toNatClampNeg) = nI (100 * dd + 5 * n) := by
    rw [er, d2, show (20 : Int32) = nI 20 from rfl, show (5 : Int32) = nI 5 from rfl, nI_mul, nI_add, nI_mul, show 5 * (20 * dd + n) = 100 * dd + 5 * n by omega]
  have bw : ∀ w : Nat, w < 5 → nI (100 * dd + 5 * n) + nI w = nI (100 * dd + 5 * n + w) := fun w _ => nI_add _ _
  have vi : ∀ w : Nat, w < 5 → qa_vin ((5 : Int32) * ((20 : Int32) * nI dd + gI (sI m 33 0 3 (gI m 33 0 3 + 1)) 44 0 (nI dd).toNatClampNeg) + nI w) 500 := fun w hw => by
    rw [eB, bw w hw]
    exact nI_in (by omega) (by decide)
  have cw : ∀ w : Nat, w < 5 → (nI (100 * dd + 5 * n) + nI w).toNatClampNeg = 100 * dd + 5 * n + w := fun w hw => by rw [bw w hw, nI_clamp (by omega)]
  have T : dt_I dd n l (q + 1) s (sI (sI (sI (sI (sI (sI m 33 0 3 (gI m 33 0 3 + 1)) 45 0 (100 * dd + 5 * n + 0) z) 45 0 (100 * dd + 5 * n + 1) 50) 45 0 (100 * dd + 5 * n + 2) 4) 45 0 (100 * dd + 5 * n + 3) 0) 45 0 (100 * dd + 5 * n + 4) 80) := by
    refine ⟨dt_45 hd5 hdd (dt_45 hd5 hdd (dt_45 hd5 hdd (dt_45 hd5 hdd (dt_45 hd5 hdd S2 (by omega) (by omega)) (by omega) (by omega)) (by omega) (by omega)) (by omega) (by omega)) (by omega) (by omega), ?_, by omega, ?_, Or.inr (fun r hr => ?_)⟩
    · rw [gI_sI, if_neg (fun q => absurd q.1 (by decide)), gI_sI, if_neg (fun q => absurd q.1 (by decide)), gI_sI, if_neg (fun q => absurd q.1 (by decide)), gI_sI, if_neg (fun q => absurd q.1 (by decide)), gI_sI, if_neg (fun q => absurd q.1 (by decide)), a2]
    · rw [gI_sI, if_neg (fun q => absurd q.1 (by decide)), gI_sI, if_neg (fun q => absurd q.1 (by decide)), gI_sI, if_neg (fun q => absurd q.1 (by decide)), gI_sI, if_neg (fun q => absurd q.1 (by decide)), gI_sI, if_neg (fun q => absurd q.1 (by decide)), d2]
    · by_cases e : r < n
      · exact dt_R45 (dt_R45 (dt_R45 (dt_R45 (dt_R45 R2 (by omega)) (by omega)) (by omega)) (by omega)) (by omega) r e
      · have e : r = n := by omega
        subst e
        have i4 : (4 : Int32).toInt = 4 := by decide
        have i0 : (0 : Int32).toInt = 0 := by decide
        unfold xI
        refine ⟨?_, ?_⟩
        · rw [gI_sI, if_neg (fun q => by omega), gI_sI, if_neg (fun q => by omega), gI_sI, if_pos ⟨rfl, rfl, rfl⟩, i4]
          omega
        · rw [gI_sI, if_neg (fun q => by omega), gI_sI, if_pos ⟨rfl, rfl, rfl⟩, i0]
          omega
  have go : qW false (d + 3) 232 bc bs 127 [some (lR 33 (some 0)), some (lI (nI dd)), some (lI c), some (lI z), some (lI ((5 : Int32) * ((20 : Int32) * nI dd + gI (sI m 33 0 3 (gI m 33 0 3 + 1)) 44 0 (nI dd).toNatClampNeg))), some (lI 0), none] [] (sI (sI (sI (sI (sI (sI m 33 0 3 (gI m 33 0 3 + 1)) 45 0 ((5 : Int32) * ((20 : Int32) * nI dd + gI (sI m 33 0 3 (gI m 33 0 3 + 1)) 44 0 (nI dd).toNatClampNeg) + nI 0).toNatClampNeg z) 45 0 ((5 : Int32) * ((20 : Int32) * nI dd + gI (sI m 33 0 3 (gI m 33 0 3 + 1)) 44 0 (nI dd).toNatClampNeg) + nI 1).toNatClampNeg 50) 45 0 ((5 : Int32) * ((20 : Int32) * nI dd + gI (sI m 33 0 3 (gI m 33 0 3 + 1)) 44 0 (nI dd).toNatClampNeg) + nI 2).toNatClampNeg 4) 45 0 ((5 : Int32) * ((20 : Int32) * nI dd + gI (sI m 33 0 3 (gI m 33 0 3 + 1)) 44 0 (nI dd).toNatClampNeg) + nI 3).toNatClampNeg 0) 45 0 ((5 : Int32) * ((20 : Int32) * nI dd + gI (sI m 33 0 3 (gI m 33 0 3 + 1)) 44 0 (nI dd).toNatClampNeg) + nI 4).toNatClampNeg 80) Q := by
    rw [eB, cw 0 (by decide), cw 1 (by decide), cw 2 (by decide), cw 3 (by decide), cw 4 (by decide)]
    exact dt_l hd5 hdd hn hl hl2 h _ (q + 1) _ _ _ (Nat.le_refl _) T
  refine qa_t1_W (cut := [127]) 140 ?_
  exact And.intro v5 (And.intro (vi 0 (by decide)) (And.intro (vi 1 (by decide)) (And.intro (vi 2 (by decide)) (And.intro (vi 3 (by decide)) (And.intro (vi 4 (by decide)) go)))))
theorem h_reachOf {n p : Nat} {m : LMem} (hd5 : dd < 5) (hdd : xI s 33 21 ≤ (dd : Int)) (hn : n < 20) (hl : gI s 33 0 2 = nI l) (hl2 : l ≤ 200) (hm : dt_S dd s m) (hp : gI m 33 0 3 = nI p) (hp2 : p ≤ l) (h44 : gI m 44 0 dd = nI n) (hR : dt_R dd m n) (h : ∀ m, dt_E dd n l s m → Q none m) : qC false (d + 4) 232 [lR 33 (some 0), lI (nI dd)] m Q := by
  have hl3 : gI m 33 0 2 = nI l := dt_l0 hm hl
  refine qC_of rfl rfl ?_
  refine qa_t1_W (cut := [47]) 60 ?_
  refine h_look hl3 hl2 hp (by omega) fun m1 q hr k4 k5 k3 hq hq2 _ => Exists.intro _ (And.intro rfl ?_)
  have S1 := dt_rd hm hr
  have R1 := dt_Rrd hr hR
  have e44 : gI m1 44 0 dd = nI n := by rw [hr.1 44 0 dd (fun q => absurd q.1 (by decide)), h44]
  have lt : ∀ x : Int32, x ≠ -1 → rch m l q = x → q < l := fun x hx e => by
    unfold rch at e
    by_cases g : q < l
    · exact g
    · rw [if_neg g] at e
      exact absurd e.symm hx
  refine And.intro (fun e => ?_) (fun _ => ?_)
  · exact And.intro (fun q => absurd q (by decide)) (fun _ => dt_head hd5 hdd hn hl hl2 h S1 k3 (lt _ (by decide) e) e44 R1)
  refine And.intro (fun e => ?_) (fun _ => ?_)
  · exact And.intro (fun q => absurd q (by decide)) (fun _ => dt_head hd5 hdd hn hl hl2 h S1 k3 (lt _ (by decide) e) e44 R1)
  refine And.intro (fun e => ?_) (fun _ => ?_)
  · exact And.intro (fun q => absurd q (by decide)) (fun _ => dt_head hd5 hdd hn hl hl2 h S1 k3 (lt _ (by decide) e) e44 R1)
  refine And.intro (fun _ => ?_) (fun q => absurd rfl q)
  have fin : ∀ x, x ≠ -1 → Q none (sI m1 33 0 4 x) := fun x hx => by
    have hr2 := rd_s (s := m1) (v := x) (Or.inr (Or.inl rfl) : (4 : Nat) = 3 ∨ (4 : Nat) = 4 ∨ (4 : Nat) = 5) rd_0
    refine h _ ⟨dt_rd S1 hr2, ⟨q, by omega, ?_⟩, Or.inl ?_⟩
    · rw [gI_sI, if_neg (fun q => absurd q.2.2 (by decide)), k3]
    · rw [gI_sI, if_pos ⟨rfl, rfl, rfl⟩]
      exact hx
  have nne : nI q ≠ -1 := fun g => by
    have g := congrArg Int32.toInt g
    rw [nI_toInt (by omega)] at g
    have e : (-1 : Int32).toInt = -1 := by decide
    rw [e] at g
    omega
  exact h_bad k3 (fun _ => And.intro rfl (fin _ nne)) (fun w => And.intro rfl (fin _ w))
/-- what a ditch read well leaves -/
def dt_O (dd : Nat) (v : Int32) (m : LMem) : Prop := v ≠ -1 ∨ ∃ n, 2 ≤ n ∧ n ≤ 20 ∧ gI m 44 0 dd = nI n ∧ dt_R dd m n
theorem dt_tail {n q : Nat} {m : LMem} (hd5 : dd < 5) (hn : n < 20) (hl : gI s 33 0 2 = nI l) (hl2 : l ≤ 200) (h : ∀ m v, dt_S dd s m → dt_O dd v m → Q (some (lI v)) m) (hm : dt_S dd s m) (hq : gI m 33 0 3 = nI q) (hq2 : q ≤ l) (hR : gI m 33 0 4 ≠ -1 ∨ (gI m 44 0 dd = nI (n + 1) ∧ dt_R dd m (n + 1))) : qW false (d + 4) 233 bc bs 68 [some (lR 33 (some 0)), some (lI (nI dd))] [] m Q := by
  have v5 : qa_vin (nI dd) 5 := nI_in (by omega) (by decide)
  have er : (nI dd).toNatClampNeg = dd := nI_clamp (by omega)
  have hl3 : gI m 33 0 2 = nI l := dt_l0 hm hl
  refine qa_t1_W (cut := []) 60 ?_
  refine And.intro (fun hw => ?_) (fun hw => h m _ hm (Or.inl hw))
  have hw : gI m 33 0 4 = -1 := hw
  obtain ⟨r1, r2⟩ := hR.resolve_left (fun q => q hw)
  refine h_look hl3 hl2 hq (by omega) fun m1 q1 hr k4 k5 k3 b1 b2 _ => Exists.intro _ (And.intro rfl ?_)
  have S1 := dt_rd hm hr
  have fin : ∀ x, x ≠ -1 → Q (some (lI (gI (sI m1 33 0 4 x) 33 0 4))) (sI m1 33 0 4 x) := fun x hx => by
    have hr2 := rd_s (s := m1) (v := x) (Or.inr (Or.inl rfl) : (4 : Nat) = 3 ∨ (4 : Nat) = 4 ∨ (4 : Nat) = 5) rd_0
    refine h _ _ (dt_rd S1 hr2) (Or.inl ?_)
    rw [gI_sI, if_pos ⟨rfl, rfl, rfl⟩]
    exact hx
  have nne : nI q1 ≠ -1 := fun g => by
    have g := congrArg Int32.toInt g
    rw [nI_toInt (by omega)] at g
    have e : (-1 : Int32).toInt = -1 := by decide
    rw [e] at g
    omega
  have bad : qC false (d + 4) 206 [lR 33 (some 0)] m1 (fun r m' => r = none ∧ Q (some (lI (gI m' 33 0 4))) m') := h_bad k3 (fun _ => And.intro rfl (fin _ nne)) (fun w => And.intro rfl (fin _ w))
  refine And.intro (fun _ => ?_) (fun _ => bad)
  have e44 : gI m1 44 0 (nI dd).toNatClampNeg = nI (n + 1) := by rw [er, hr.1 44 0 dd (fun q => absurd q.1 (by decide)), r1]
  refine And.intro v5 (And.intro (fun _ => bad) (fun c => ?_))
  have c : ¬ gI m1 44 0 (nI dd).toNatClampNeg < 2 := c
  rw [e44] at c
  have hn2 : 2 ≤ n + 1 := by
    rcases Nat.lt_or_ge (n + 1) 2 with q | q
    · exact absurd (nI_lt (a := n + 1) (b := 2) q (by decide)) c
    · exact q
  refine h m1 _ S1 (Or.inr ⟨n + 1, hn2, by omega, ?_, dt_Rrd hr r2⟩)
  rw [hr.1 44 0 dd (fun q => absurd q.1 (by decide)), r1]
theorem dt_loop (hd5 : dd < 5) (hdd : xI s 33 21 ≤ (dd : Int)) (hl : gI s 33 0 2 = nI l) (hl2 : l ≤ 200) (h : ∀ m v, dt_S dd s m → dt_O dd v m → Q (some (lI v)) m) : ∀ j n m, n + j = 19 → dt_E dd n l s m → qW false (d + 4) 233 bc bs 22 [some (lR 33 (some 0)), some (lI (nI dd))] [] m Q := by
  intro j
  induction j with
  | zero =>
    intro n m hn hm
    have hn : n = 19 := hn
    subst hn
    obtain ⟨g1, ⟨q, hq2, hq⟩, g3⟩ := hm
    have v5 : qa_vin (nI dd) 5 := nI_in (by omega) (by decide)
    have er : (nI dd).toNatClampNeg = dd := nI_clamp (by omega)
    have hl3 : gI m 33 0 2 = nI l := dt_l0 g1 hl
    refine qa_t1_W (cut := [22, 68]) 60 ?_
    refine And.intro (fun hw => ?_) (fun _ => dt_tail hd5 (by omega) hl hl2 h g1 hq hq2 g3)
    have hw : gI m 33 0 4 = -1 := hw
    obtain ⟨r1, r2⟩ := g3.resolve_left (fun q => q hw)
    refine h_look hl3 hl2 hq (by omega) fun m1 q1 hr k4 k5 k3 b1 b2 _ => Exists.intro _ (And.intro rfl ?_)
    have S1 := dt_rd g1 hr
    have e44 : gI m1 44 0 dd = nI (19 + 1) := by rw [hr.1 44 0 dd (fun q => absurd q.1 (by decide)), r1]
    have tail := dt_tail (d := d) (bc := bc) (bs := bs) (n := 19) hd5 (by omega) hl hl2 h S1 k3 (by omega) (Or.inr ⟨e44, dt_Rrd hr r2⟩)
    refine And.intro (fun _ => ?_) (fun _ => tail)
    refine And.intro v5 (And.intro (fun c => ?_) (fun _ => tail))
    have c : gI m1 44 0 (nI dd).toNatClampNeg < 20 := c
    rw [er, e44] at c
    exact absurd c (by decide)
  | succ j ih =>
    intro n m hn hm
    obtain ⟨g1, ⟨q, hq2, hq⟩, g3⟩ := hm
    have v5 : qa_vin (nI dd) 5 := nI_in (by omega) (by decide)
    have hl3 : gI m 33 0 2 = nI l := dt_l0 g1 hl
    refine qa_t1_W (cut := [22, 68]) 60 ?_
    refine And.intro (fun hw => ?_) (fun _ => dt_tail hd5 (by omega) hl hl2 h g1 hq hq2 g3)
    have hw : gI m 33 0 4 = -1 := hw
    obtain ⟨r1, r2⟩ := g3.resolve_left (fun q => q hw)
    refine h_look hl3 hl2 hq (by omega) fun m1 q1 hr k4 k5 k3 b1 b2 _ => Exists.intro _ (And.intro rfl ?_)
    have S1 := dt_rd g1 hr
    have e44 : gI m1 44 0 dd = nI (n + 1) := by rw [hr.1 44 0 dd (fun q => absurd q.1 (by decide)), r1]
    have tail := dt_tail (d := d) (bc := bc) (bs := bs) (n := n) hd5 (by omega) hl hl2 h S1 k3 (by omega) (Or.inr ⟨e44, dt_Rrd hr r2⟩)
    refine And.intro (fun c => ?_) (fun _ => tail)
    have hql : q1 < l := by
      have c : rch m l q1 = 44 := c
      unfold rch at c
      by_cases g : q1 < l
      · exact g
      · rw [if_neg g] at c
        exact absurd c (by decide)
    refine And.intro v5 (And.intro (fun _ => ?_) (fun _ => tail))
    have hr2 := rd_s (s := m1) (v := gI m1 33 0 3 + 1) (Or.inl rfl : (3 : Nat) = 3 ∨ (3 : Nat) = 4 ∨ (3 : Nat) = 5) rd_0
    have c3 : gI (sI m1 33 0 3 (gI m1 33 0 3 + 1)) 33 0 3 = nI (q1 + 1) := by rw [gI_sI, if_pos ⟨rfl, rfl, rfl⟩, k3, nI_1]
    have c44 : gI (sI m1 33 0 3 (gI m1 33 0 3 + 1)) 44 0 dd = nI (n + 1) := by rw [hr2.1 44 0 dd (fun q => absurd q.1 (by decide)), e44]
    exact h_reachOf (n := n + 1) hd5 hdd (by omega) hl hl2 (dt_rd S1 hr2) c3 (by omega) c44 (dt_Rrd hr2 (dt_Rrd hr r2)) fun m' hm' => And.intro rfl (ih (n + 1) m' (by omega) hm')
theorem h_readDitch (hd5 : dd < 5) (hdd : xI s 33 21 ≤ (dd : Int)) (hJ : y_J x_X s) (h : ∀ m v, dt_S dd s m → dt_O dd v m → Q (some (lI v)) m) : qC false (d + 5) 233 [lR 33 (some 0), lI (nI dd)] s Q := by
  have v5 : qa_vin (nI dd) 5 := nI_in (by omega) (by decide)
  have er : (nI dd).toNatClampNeg = dd := nI_clamp (by omega)
  obtain ⟨l, hl2, hl⟩ := y_nIof2 (N := 200) (x := gI s 33 0 2) (hJ.1 33 0 2 (2, 2, 0, 200) (by decide) (by decide) (by decide)).1 (hJ.1 33 0 2 (2, 2, 0, 200) (by decide) (by decide) (by decide)).2
  have hm : rd_S s (sI (sI s 33 0 3 0) 33 0 4 (-1)) := rd_s (Or.inr (Or.inl rfl)) (rd_s (Or.inl rfl) rd_0)
  have S0 : dt_S dd s s := ⟨hJ, y_Fr_rf _ _⟩
  have S1 : dt_S dd s (sI (sI (sI s 33 0 3 0) 33 0 4 (-1)) 44 0 dd 0) := dt_44 hd5 hdd (dt_rd S0 hm) (by decide) (by decide)
  have st : qC false (d + 4) 232 [lR 33 (some 0), lI (nI dd)] (sI (sI (sI s 33 0 3 0) 33 0 4 (-1)) 44 0 dd 0) (fun r m' => r = none ∧ qW false (d + 4) 233 0 0 22 [some (lR 33 (some 0)), some (lI (nI dd))] [] m' Q) := h_reachOf (n := 0) (p := 0) hd5 hdd (by decide) hl hl2 S1 (by rw [gI_sI, if_neg (fun q => absurd q.1 (by decide)), gI_sI, if_neg (fun q => absurd q.2.2 (by decide)), gI_sI, if_pos ⟨rfl, rfl, rfl⟩]; rfl) (by omega) (by rw [gI_sI, if_pos ⟨rfl, rfl, rfl⟩]; rfl) (fun r hr => absurd hr (Nat.not_lt_zero _)) fun m' hm' => And.intro rfl (dt_loop hd5 hdd hl hl2 h 19 0 m' rfl hm')
  have st2 : qC false (d + 4) 232 [lR 33 (some 0), lI (nI dd)] (sI (sI (sI s 33 0 3 0) 33 0 4 (-1)) 44 0 (nI dd).toNatClampNeg 0) (fun r m' => r = none ∧ qW false (d + 4) 233 0 0 22 [some (lR 33 (some 0)), some (lI (nI dd))] [] m' Q) := by
    rw [er]
    exact st
  refine qC_of rfl rfl ?_
  refine qa_t1_W (cut := [22]) 40 ?_
  exact And.intro v5 st2
end DE
