/-! WHAT DIGS in the class, by value: chain, begin, digTold, digLike, sink, raiseFields, digForm. -/
/-- kept: all but what waits and what one dug ditch is -/
def cF (i : Nat) (s m : LMem) : Prop := (∀ k a j, k ≠ 11 → ¬ (k = 21 ∧ 20 * i ≤ a ∧ a < 20 * i + 20) → ¬ ((k = 17 ∨ k = 19 ∨ k = 20) ∧ a = i) → gI m k a j = gI s k a j) ∧ (∀ k a j, ¬ (k = 17 ∧ a = i) → gL m k a j = gL s k a j) ∧ ∀ k a j, ¬ (k = 17 ∧ a = i) → ¬ (k = 21 ∧ 20 * i ≤ a ∧ a < 20 * i + 20) → gR m k a j = gR s k a j
theorem cF_0 {i : Nat} {s : LMem} : cF i s s := ⟨fun _ _ _ _ _ _ => rfl, fun _ _ _ _ => rfl, fun _ _ _ _ _ => rfl⟩
theorem cF_tr {i : Nat} {s m m2 : LMem} (h : cF i s m) (h2 : cF i m m2) : cF i s m2 := ⟨fun k a j g1 g2 g3 => (h2.1 k a j g1 g2 g3).trans (h.1 k a j g1 g2 g3), fun k a j g => (h2.2.1 k a j g).trans (h.2.1 k a j g), fun k a j g g2 => (h2.2.2 k a j g g2).trans (h.2.2 k a j g g2)⟩
theorem cF_g {b : Prop} {i : Nat} {s m : LMem} (h : kG b i s m) : cF i s m := ⟨fun k a j g1 g2 g3 => h.1 k a j g1 g2 (fun q => g3 ⟨Or.inl q.1, q.2.1⟩) (fun q => g3 ⟨Or.inr (Or.inl q.2.1), q.2.2⟩), fun k a j g => h.2.1 k a j (fun q => g ⟨q.2.1, q.2.2.1⟩), fun k a j _ _ => h.2.2 k a j⟩
theorem cF_21 {fs : List Nat} {i : Nat} {s m : LMem} (h : k21 fs i s m) : cF i s m := cF_g (b := False) (kG_21 h)
/-- what is told, as a picture -/
def tX (T : Nat → Nat → Int32) (f r : Nat) : Int32 := if f ≤ 5 then T r (f - 1) else 0
section DV
variable {d i : Nat} {s : LMem} {Q : LPost}
/-- the chain, from row n on -/
def cvK (i z : Nat) (s m : LMem) (n : Nat) : Prop := (∀ k a j, gI m k a j = gI (ch_s1 i z s) k a j) ∧ (∀ k a j, gL m k a j = gL s k a j) ∧ gR m 17 i 4 = nxR i z n ∧ (∀ k a j, ¬ (k = 17 ∧ a = i ∧ j = 4) → ¬ (k = 21 ∧ 20 * i ≤ a ∧ a < 20 * i + 20 ∧ j = 0) → gR m k a j = gR s k a j) ∧ ∀ r, n ≤ r → r < z → gR m 21 (20 * i + r) 0 = nxR i z (r + 1)
theorem cv_l {z bc bs : Nat} {mn : Int32} (hz : z ≤ 20) (h : ∀ m, cvK i z s m 0 → Q none m) : ∀ n m o3, n ≤ z → cvK i z s m n → qW false d 12 bc bs 25 [some (lR 17 (some i)), some (lI mn), some (lI (nI n - 1)), o3] [] m Q := by
  intro n
  induction n with
  | zero =>
    intro m o3 _ hm
    refine qa_t1_W (cut := [25]) 10 ?_
    exact And.intro (fun _ => h m hm) (fun q => absurd (show nI 0 - 1 < 0 by decide) q)
  | succ n ih =>
    intro m o3 hn hm
    rw [nI_pred n]
    have K : cvK i z s (sR (sR m 21 (20 * i + n) 0 (gR m 17 i 4)) 17 i 4 (some (20 * i + n))) n := by
      obtain ⟨h1, h2, h3, h4, h5⟩ := hm
      refine ⟨h1, h2, ?_, fun k a j g1 g2 => ?_, fun r g1 g2 => ?_⟩
      · rw [gR_sR, if_pos ⟨rfl, rfl, rfl⟩]
        exact (if_pos (show n < z by omega)).symm
      · rw [gR_sR, if_neg g1, gR_sR, if_neg (fun c => g2 ⟨c.1, by omega, by omega, c.2.2⟩)]
        exact h4 k a j g1 g2
      · rw [gR_sR, if_neg (fun c => absurd c.1 (by decide)), gR_sR]
        by_cases e : r = n
        · rw [if_pos ⟨rfl, by omega, rfl⟩, h3, e]
        · rw [if_neg (fun c => e (by have := c.2.1; omega))]
          exact h5 r (by omega) g2
    have ih := ih _ (some (lR 21 (some (20 * i + n)))) (by omega) K
    have hv : qa_vin (nI n) 20 := nI_in (by omega) (by decide)
    have e9 : (nI n).toNatClampNeg = n := nI_clamp (by omega)
    have ih2 : qW false d 12 bc bs 25 [some (lR 17 (some i)), some (lI mn), some (lI (nI n + -1)), some (lR 21 (some (20 * i + (nI n).toNatClampNeg)))] [] (sR (sR m 21 (20 * i + (nI n).toNatClampNeg) 0 (gR m 17 i 4)) 17 i 4 (some (20 * i + (nI n).toNatClampNeg))) Q := by
      rw [e9, nI_m1]
      exact ih
    refine qa_t1_W (cut := [25]) 40 ?_
    refine And.intro (fun q => absurd q (nI_pos (by omega))) (fun _ => ?_)
    exact And.intro hv ih2
theorem h_chainV {z : Nat} (hz : z ≤ 20) (h : ∀ m, cvK i z s m 0 → Q none m) : qC false (d + 1) 12 [lR 17 (some i), lI (nI z)] s Q := by
  have hmin : qa_min (nI z) 20 = nI z := by
    unfold qa_min
    exact if_neg (show ¬ (20 : Int32) < nI z from nI_nlt (a := 20) (b := z) hz (by decide))
  have K0 : cvK i z s (ch_s1 i z s) z := by
    refine ⟨fun _ _ _ => rfl, fun _ _ _ => rfl, ?_, fun k a j h1 _ => ?_, fun r g1 g2 => absurd g2 (by omega)⟩
    · show gR (sR _ 17 i 4 none) 17 i 4 = nxR i z z
      rw [gR_sR, if_pos ⟨rfl, rfl, rfl⟩]
      exact (if_neg (Nat.lt_irrefl z)).symm
    · show gR (sR _ 17 i 4 none) k a j = gR s k a j
      rw [gR_sR, if_neg h1]
      rfl
  have main : qW false d 12 0 0 25 [some (lR 17 (some i)), some (lI (nI z)), some (lI (nI z - 1)), none] [] (ch_s1 i z s) Q := cv_l hz h z _ _ (Nat.le_refl _) K0
  refine qC_of rfl rfl ?_
  refine qa_t1_W (cut := [25]) 30 ?_
  have main2 : qW false d 12 0 0 25 [some (lR 17 (some i)), some (lI (nI z)), some (lI (gI (sR (sI s 17 i 5 (qa_min (nI z) 20)) 17 i 4 none) 17 i 5 - 1)), none] [] (sR (sI s 17 i 5 (qa_min (nI z) 20)) 17 i 4 none) Q := by
    rw [hmin]
    have e5 : gI (sR (sI s 17 i 5 (nI z)) 17 i 4 none) 17 i 5 = nI z := by
      show gI (sI s 17 i 5 (nI z)) 17 i 5 = nI z
      rw [gI_sI, if_pos ⟨rfl, rfl, rfl⟩]
    rw [e5]
    exact main
  exact main2
/-- begin's loop: harm and spent alone -/
def bF (i : Nat) (s m : LMem) : Prop := (∀ k a j, ¬ ((k = 19 ∨ k = 20) ∧ a = i) → gI m k a j = gI s k a j) ∧ (∀ k a j, gL m k a j = gL s k a j) ∧ ∀ k a j, gR m k a j = gR s k a j
theorem bv_l {bc bs : Nat} {fl sl : LV} {l : Int64} (h : ∀ m, bF i s m → (∀ o, o < 6 → gI m 19 i o = 0) → Q none m) : ∀ j k m, k + j = 6 → bF i s m → (∀ o, o < k → gI m 19 i o = 0) → qW false d 13 bc bs 43 [some (lR 17 (some i)), some fl, some sl, some (lL l), none, some (lI (nI k))] [] m Q := by
  intro j
  induction j with
  | zero =>
    intro k m hk hm hI
    have hk : k = 6 := hk
    subst hk
    have hlt : ¬ nI 6 < 6 := by decide
    refine qa_t1_W (cut := [43]) 20 ?_
    exact And.intro (fun c => absurd c hlt) (fun _ => h m hm hI)
  | succ j ih =>
    intro k m hk hm hI
    have hlt : nI k < 6 := nI_lt (b := 6) (by omega) (by decide)
    have hv : qa_vin (nI k) 6 := nI_in (by omega) (by decide)
    have ek : (nI k).toNatClampNeg = k := nI_clamp (by omega)
    have go : qW false d 13 bc bs 43 [some (lR 17 (some i)), some fl, some sl, some (lL l), none, some (lI (nI k + 1))] [] (sI (sI m 19 i (nI k).toNatClampNeg 0) 20 i (nI k).toNatClampNeg 0) Q := by
      rw [ek, nI_1]
      refine ih (k + 1) _ (by omega) ⟨fun k' a j g => ?_, hm.2.1, hm.2.2⟩ (fun o ho => ?_)
      · rw [gI_sI, if_neg (fun q => g ⟨Or.inr q.1, q.2.1⟩), gI_sI, if_neg (fun q => g ⟨Or.inl q.1, q.2.1⟩)]
        exact hm.1 k' a j g
      · rw [gI_sI, if_neg (fun q => absurd q.1 (by decide)), gI_sI]
        by_cases e : o = k
        · rw [if_pos ⟨rfl, rfl, e⟩]
        · rw [if_neg (fun q => e q.2.2)]
          exact hI o (by omega)
    refine qa_t1_W (cut := [43]) 40 ?_
    refine And.intro (fun _ => ?_) (fun c => absurd hlt c)
    refine And.intro (fun _ => ?_) (fun c => absurd hlt c)
    exact And.intro hv (And.intro hv go)
theorem h_beginV {f g : Option Nat} {l : Int64} (h : ∀ m, bF i (bgS i f g l s) m → (∀ o, o < 6 → gI m 19 i o = 0) → Q none m) : qC false (d + 1) 13 [lR 17 (some i), lR 8 f, lR 8 g, lL l] s Q := by
  have main : ∀ bc bs, qW false d 13 bc bs 43 [some (lR 17 (some i)), some (lR 8 f), some (lR 8 g), some (lL l), none, some (lI (nI 0))] [] (bgS i f g l s) Q := fun bc bs => bv_l h 6 0 _ (Nat.zero_add _) ⟨fun _ _ _ _ => rfl, fun _ _ _ => rfl, fun _ _ _ => rfl⟩ (fun o ho => absurd ho (Nat.not_lt_zero o))
  refine qC_of rfl rfl ?_
  refine qa_t1_W (cut := [43]) 80 ?_
  exact main _ _
/-- what begin leaves of one dug -/
def bgO (i : Nat) (f g : Option Nat) (l : Int64) (s m : LMem) : Prop := (∀ k a j, ¬ ((k = 19 ∨ k = 20) ∧ a = i) → ¬ (k = 17 ∧ a = i ∧ 10 ≤ j) → gI m k a j = gI s k a j) ∧ (∀ k a j, ¬ (k = 17 ∧ a = i) → gL m k a j = gL s k a j) ∧ (∀ k a j, ¬ (k = 17 ∧ a = i ∧ (j = 6 ∨ j = 7)) → gR m k a j = gR s k a j) ∧ gR m 17 i 6 = f ∧ gR m 17 i 7 = g ∧ gL m 17 i 9 = l ∧ gI m 17 i 13 = 0 ∧ ∀ o, o < 6 → gI m 19 i o = 0
theorem bgO_of {f g : Option Nat} {l : Int64} {m : LMem} (hm : bF i (bgS i f g l s) m) (h0 : ∀ o, o < 6 → gI m 19 i o = 0) : bgO i f g l s m := by
  refine ⟨fun k a j g1 g2 => ?_, fun k a j g1 => ?_, fun k a j g1 => ?_, ?_, ?_, ?_, ?_, h0⟩
  · rw [hm.1 k a j g1]
    show gI (sI (sI (sI (sI _ 17 i 10 0) 17 i 11 0) 17 i 12 0) 17 i 13 0) k a j = gI s k a j
    rw [gI_sI, if_neg (fun q => g2 ⟨q.1, q.2.1, by omega⟩), gI_sI, if_neg (fun q => g2 ⟨q.1, q.2.1, by omega⟩), gI_sI, if_neg (fun q => g2 ⟨q.1, q.2.1, by omega⟩), gI_sI, if_neg (fun q => g2 ⟨q.1, q.2.1, by omega⟩)]
    rfl
  · rw [hm.2.1]
    show gL (sL (sL _ 17 i 8 l) 17 i 9 l) k a j = gL s k a j
    rw [gL_sL, if_neg (fun q => g1 ⟨q.1, q.2.1⟩), gL_sL, if_neg (fun q => g1 ⟨q.1, q.2.1⟩)]
    rfl
  · rw [hm.2.2]
    show gR (sR (sR s 17 i 6 f) 17 i 7 g) k a j = gR s k a j
    rw [gR_sR, if_neg (fun q => g1 ⟨q.1, q.2.1, Or.inr q.2.2⟩), gR_sR, if_neg (fun q => g1 ⟨q.1, q.2.1, Or.inl q.2.2⟩)]
  · rw [hm.2.2]
    show gR (sR (sR s 17 i 6 f) 17 i 7 g) 17 i 6 = f
    rw [gR_sR, if_neg (fun q => absurd q.2.2 (by decide)), gR_sR, if_pos ⟨rfl, rfl, rfl⟩]
  · rw [hm.2.2]
    show gR (sR (sR s 17 i 6 f) 17 i 7 g) 17 i 7 = g
    rw [gR_sR, if_pos ⟨rfl, rfl, rfl⟩]
  · rw [hm.2.1]
    show gL (sL (sL _ 17 i 8 l) 17 i 9 l) 17 i 9 = l
    rw [gL_sL, if_pos ⟨rfl, rfl, rfl⟩]
  · rw [hm.1 17 i 13 (fun q => by omega)]
    show gI (sI (sI (sI (sI _ 17 i 10 0) 17 i 11 0) 17 i 12 0) 17 i 13 0) 17 i 13 = 0
    rw [gI_sI, if_pos ⟨rfl, rfl, rfl⟩]
theorem h_beginO {f g : Option Nat} {l : Int64} (h : ∀ m, bgO i f g l s m → Q none m) : qC false (d + 1) 13 [lR 17 (some i), lR 8 f, lR 8 g, lL l] s Q := h_beginV fun m hm h0 => h m (bgO_of hm h0)
theorem h_beginZ {f : Option Nat} {l : Int64} (h : ∀ m, bgO i f none l s m → Q none m) : qC false (d + 1) 13 [lR 17 (some i), lR 8 f, lR 0 none, lL l] s Q := by
  have main : ∀ bc bs, qW false d 13 bc bs 43 [some (lR 17 (some i)), some (lR 8 f), some (lR 0 none), some (lL l), none, some (lI (nI 0))] [] (bgS i f none l s) Q := fun bc bs => bv_l (fun m hm h0 => h m (bgO_of hm h0)) 6 0 _ (Nat.zero_add _) ⟨fun _ _ _ _ => rfl, fun _ _ _ => rfl, fun _ _ _ => rfl⟩ (fun o ho => absurd ho (Nat.not_lt_zero o))
  refine qC_of rfl rfl ?_
  refine qa_t1_W (cut := [43]) 80 ?_
  exact main _ _
/-- what is dug from a table: the chain, the laws, the picture -/
def dgV (i z : Nat) (f g : Option Nat) (l : Int64) (X : Nat → Nat → Int32) (s m : LMem) : Prop := cF i s m ∧ chR i z m ∧ (gR m 17 i 6 = f ∧ gR m 17 i 7 = g ∧ gL m 17 i 9 = l) ∧ gI m 17 i 13 = 0 ∧ (∀ o, o < 6 → gI m 19 i o = 0) ∧ eqn z (vX i m) X ∧ gI m 17 i 5 = nI z
/-- chain, rows and begin together -/
theorem dgV_of {z : Nat} {f g : Option Nat} {l : Int64} {X : Nat → Nat → Int32} {m1 m2 m : LMem} (hz : z ≤ 20) (K1 : cvK i z s m1 0) (a2 : ∀ k a j, ¬ (k = 21 ∧ 20 * i ≤ a ∧ a < 20 * i + z ∧ 1 ≤ j ∧ j ≤ 14) → gI m2 k a j = gI m1 k a j) (b2 : ∀ k a j, gL m2 k a j = gL m1 k a j) (c2 : ∀ k a j, gR m2 k a j = gR m1 k a j) (x2 : eqn z (vX i m2) X) (K3 : bgO i f g l m2 m) : dgV i z f g l X s m := by
  obtain ⟨k1, k2, k3, k4, k5⟩ := K1
  obtain ⟨o1, o2, o3, o4, o5, o6, o7, o8⟩ := K3
  refine ⟨⟨fun k a j g1 g2 g3 => ?_, fun k a j g1 => ?_, fun k a j g1 g2 => ?_⟩, ⟨?_, fun r hr => ?_⟩, ⟨o4, o5, o6⟩, o7, o8, fun q r hf hr => ?_, ?_⟩
  · rw [o1 k a j (fun q => g3 ⟨Or.inr q.1, q.2⟩) (fun q => g3 ⟨Or.inl q.1, q.2.1⟩), a2 k a j (fun q => g2 ⟨q.1, q.2.1, by omega⟩), k1]
    show gI (sI s 17 i 5 (nI z)) k a j = gI s k a j
    rw [gI_sI, if_neg (fun q => g3 ⟨Or.inl q.1, q.2.1⟩)]
  · rw [o2 k a j g1, b2, k2]
  · rw [o3 k a j (fun q => g1 ⟨q.1, q.2.1⟩), c2, k4 k a j (fun q => g1 ⟨q.1, q.2.1⟩) (fun q => g2 ⟨q.1, q.2.1, q.2.2.1⟩)]
  · rw [o3 17 i 4 (fun q => by omega), c2, k3]
  · rw [o3 21 _ 0 (fun q => absurd q.1 (by decide)), c2, k5 r (Nat.zero_le _) hr]
  · show gI m 21 (20 * i + r) q = X q r
    rw [o1 21 _ q (fun c => by omega) (fun c => absurd c.1 (by decide))]
    exact x2 q r hf hr
  · rw [o1 17 i 5 (fun c => by omega) (fun c => by omega), a2 17 i 5 (fun q => absurd q.1 (by decide)), k1]
    show gI (sI s 17 i 5 (nI z)) 17 i 5 = nI z
    rw [gI_sI, if_pos ⟨rfl, rfl, rfl⟩]
theorem h_digToldV {dd z : Nat} {f g : Option Nat} {l : Int64} (hz : z ≤ 20) (hn : gI s 4 dd 1 = nI z) (h : ∀ m, dgV i z f g l (tX (fun r w => gI s 6 (20 * dd + r) w)) s m → Q none m) : qC false (d + 2) 14 [lR 17 (some i), lR 4 (some dd), lR 8 f, lR 8 g, lL l] s Q := by
  have main : ∀ bc bs, qC false (d + 1) 12 [lR 17 (some i), lI (gI s 4 dd 1)] s (fun r m1 => r = none ∧ qW false (d + 1) 14 bc bs 17 [some (lR 17 (some i)), some (lR 4 (some dd)), some (lR 8 f), some (lR 8 g), some (lL l), none, some (lI 0), some (lR 21 (gR m1 17 i 4))] [] m1 Q) := fun bc bs => by
    rw [hn]
    refine h_chainV hz fun m1 K1 => ⟨rfl, ?_⟩
    have K1' := K1
    obtain ⟨k1, k2, k3, k4, k5⟩ := K1'
    rw [k3]
    have e4 : gI m1 4 dd 1 = nI z := by
      rw [k1 4 dd 1]
      show gI (sI s 17 i 5 (nI z)) 4 dd 1 = nI z
      rw [gI_sI, if_neg (fun q => absurd q.1 (by decide)), hn]
    refine dgt_l hz e4 (fun r g1 g2 => k5 r g1 g2) (fun m2 o6 o7 K2 => ?_) z 0 m1 (Nat.zero_add z) ⟨fun _ _ _ _ => rfl, fun _ _ _ => rfl, fun _ _ _ => rfl, fun r hr => absurd hr (Nat.not_lt_zero _)⟩
    refine qa_t1_W (cut := []) 20 ?_
    refine h_beginO (d := d) fun m K3 => And.intro rfl (h m (dgV_of hz K1 K2.1 K2.2.1 K2.2.2.1 (fun q r hf hr => ?_) K3))
    obtain ⟨e1, e2⟩ := K2.2.2.2 r hr
    show gI m2 21 (20 * i + r) q = if q ≤ 5 then gI s 6 (20 * dd + r) (q - 1) else 0
    by_cases c : q ≤ 5
    · rw [if_pos c]
      have e := e1 (q - 1) (by omega)
      rw [show 1 + (q - 1) = q by omega] at e
      rw [e, k1]
      show gI (sI s 17 i 5 (nI z)) 6 _ _ = _
      rw [gI_sI, if_neg (fun q => absurd q.1 (by decide))]
    · rw [if_neg c]
      exact e2 q (by omega) hf.2
  refine qC_of rfl rfl ?_
  refine qa_t1_W (cut := [17]) 40 ?_
  exact h_rchB (Exists.intro _ (And.intro rfl (main _ _)))
theorem h_digLikeV {o dd z : Nat} (hz : z ≤ 20) (hn : gI s 4 dd 1 = nI z) (h : ∀ m, dgV i z (gR s 17 o 6) (gR s 17 o 7) (gL s 17 o 8) (tX (fun r w => gI s 6 (20 * dd + r) w)) s m → Q none m) : qC false (d + 3) 15 [lR 17 (some i), lR 17 (some o), lR 4 (some dd)] s Q := by
  refine qC_of rfl rfl ?_
  refine qa_t1_W (cut := []) 20 ?_
  exact h_digToldV (d := d) hz hn fun m K => And.intro rfl (h m K)
/-- beds and fields sink -/
def sinF (by_ : Int32) (X : Nat → Nat → Int32) (f r : Nat) : Int32 := if f = 2 then qa_max 0 (X 2 r - by_) else if f = 5 then qa_max 0 (X 5 r - by_) else X f r
theorem sk_l {n : Nat} {bc bs : Nat} {v : Int32} (hn : n ≤ 20) (C : chR i n s) (h : ∀ m, k21 [2, 5] i s m → (∀ f r, r < n → vX i m f r = sinF v (vX i s) f r) → Q none m) : ∀ j k m, k + j = n → k21 [2, 5] i s m → rwI (sinF v) i n k s m → qW false d 18 bc bs 5 [some (lR 17 (some i)), some (lI v), some (lR 21 (nxR i n k))] [] m Q := by
  intro j
  induction j with
  | zero =>
    intro k m hk hm hI
    have hk : k = n := hk
    subst hk
    have e : nxR i k k = none := if_neg (Nat.lt_irrefl k)
    rw [e]
    refine qa_t1_W (cut := [5]) 20 ?_
    exact h m hm (fun f r hr => by rw [hI f r hr, if_pos hr])
  | succ j ih =>
    intro k m hk hm hI
    have hkn : k < n := by omega
    have e : nxR i n k = some (20 * i + k) := if_pos hkn
    rw [e]
    have own : ∀ f, vX i m f k = vX i s f k := fun f => by rw [hI f k hkn, if_neg (Nat.lt_irrefl k)]
    have go : ∀ m1 m2, m1 = sI m 21 (20 * i + k) 2 (qa_max 0 (gI m 21 (20 * i + k) 2 - v)) → m2 = sI m1 21 (20 * i + k) 5 (qa_max 0 (gI m1 21 (20 * i + k) 5 - v)) → qW false d 18 bc bs 5 [some (lR 17 (some i)), some (lI v), some (lR 21 (gR m2 21 (20 * i + k) 0))] [] m2 Q := fun m1 m2 q1 q2 => by
      have k1 : k21 [2, 5] i s m1 := by rw [q1]; exact k21_s (by omega) (by decide) hm
      have k2 : k21 [2, 5] i s m2 := by rw [q2]; exact k21_s (by omega) (by decide) k1
      have nx : gR m2 21 (20 * i + k) 0 = nxR i n (k + 1) := by rw [k2.2.2]; exact C.2 k hkn
      have b2 : gI m 21 (20 * i + k) 2 = vX i s 2 k := own 2
      have b5 : gI m1 21 (20 * i + k) 5 = vX i s 5 k := by
        rw [q1, gI_sI, if_neg (fun q => absurd q.2.2 (by decide))]
        exact own 5
      rw [nx]
      refine ih (k + 1) m2 (by omega) k2 (fun f r hr => ?_)
      rw [q2, vX_s, b5, q1, vX_s, b2]
      by_cases g : r = k
      · subst g
        rw [if_pos (Nat.lt_succ_self r)]
        unfold sinF
        by_cases f5 : f = 5
        · rw [if_pos ⟨f5, rfl⟩, if_neg (by omega), if_pos f5]
        · rw [if_neg (fun q => f5 q.1)]
          by_cases f2 : f = 2
          · rw [if_pos ⟨f2, rfl⟩, if_pos f2]
          · rw [if_neg (fun q => f2 q.1), if_neg f2, if_neg f5, own f]
      · rw [if_neg (fun q => g q.2), if_neg (fun q => g q.2), hI f r hr]
        by_cases g2 : r < k
        · rw [if_pos g2, if_pos (by omega)]
        · rw [if_neg g2, if_neg (by omega)]
    refine qa_t1_W (cut := [5]) 60 ?_
    exact go _ _ rfl rfl
theorem h_sinkV {n : Nat} {v : Int32} (hn : n ≤ 20) (C : chR i n s) (h : ∀ m, k21 [2, 5] i s m → (∀ f r, r < n → vX i m f r = sinF v (vX i s) f r) → Q none m) : qC false (d + 1) 18 [lR 17 (some i), lI v] s Q := by
  have main : ∀ bc bs, qW false d 18 bc bs 5 [some (lR 17 (some i)), some (lI v), some (lR 21 (nxR i n 0))] [] s Q := fun bc bs => sk_l hn C h n 0 s (Nat.zero_add _) k21_0 (fun f r _ => by rw [if_neg (Nat.not_lt_zero r)])
  rw [← C.1] at main
  refine qC_of rfl rfl ?_
  refine qa_t1_W (cut := [5]) 10 ?_
  exact main _ _
/-- fields of one owner are raised -/
def rsF (o v : Int32) (X : Nat → Nat → Int32) (f r : Nat) : Int32 := if f = 5 then (if X 4 r = o then X 5 r + v else X 5 r) else X f r
theorem rf_27 {bc bs row : Nat} {o v : Int32} {m : LMem} (h : qW false d 19 bc bs 5 [some (lR 17 (some i)), some (lI o), some (lI v), some (lR 21 (gR m 21 row 0))] [] m Q) : qW false d 19 bc bs 27 [some (lR 17 (some i)), some (lI o), some (lI v), some (lR 21 (some row))] [] m Q := by
  refine qa_t1_W (cut := [5]) 10 ?_
  exact h
theorem rsv_l {n : Nat} {bc bs : Nat} {o v : Int32} (hn : n ≤ 20) (C : chR i n s) (h : ∀ m, k21 [5] i s m → (∀ f r, r < n → vX i m f r = rsF o v (vX i s) f r) → Q none m) : ∀ j k m, k + j = n → k21 [5] i s m → rwI (rsF o v) i n k s m → qW false d 19 bc bs 5 [some (lR 17 (some i)), some (lI o), some (lI v), some (lR 21 (nxR i n k))] [] m Q := by
  intro j
  induction j with
  | zero =>
    intro k m hk hm hI
    have hk : k = n := hk
    subst hk
    have e : nxR i k k = none := if_neg (Nat.lt_irrefl k)
    rw [e]
    refine qa_t1_W (cut := [5]) 20 ?_
    exact h m hm (fun f r hr => by rw [hI f r hr, if_pos hr])
  | succ j ih =>
    intro k m hk hm hI
    have hkn : k < n := by omega
    have e : nxR i n k = some (20 * i + k) := if_pos hkn
    rw [e]
    have own : ∀ f, vX i m f k = vX i s f k := fun f => by rw [hI f k hkn, if_neg (Nat.lt_irrefl k)]
    have done : ∀ m2, k21 [5] i s m2 → (∀ f r, r < n → vX i m2 f r = if f = 5 ∧ r = k then rsF o v (vX i s) 5 k else vX i m f r) → qW false d 19 bc bs 27 [some (lR 17 (some i)), some (lI o), some (lI v), some (lR 21 (some (20 * i + k)))] [] m2 Q := fun m2 k2 x2 => by
      refine rf_27 ?_
      have nx : gR m2 21 (20 * i + k) 0 = nxR i n (k + 1) := by rw [k2.2.2]; exact C.2 k hkn
      rw [nx]
      refine ih (k + 1) m2 (by omega) k2 (fun f r hr => ?_)
      rw [x2 f r hr]
      by_cases c : f = 5 ∧ r = k
      · rw [if_pos c, c.2, c.1, if_pos (Nat.lt_succ_self k)]
      · rw [if_neg c, hI f r hr]
        by_cases g2 : r < k
        · rw [if_pos g2, if_pos (by omega)]
        · rw [if_neg g2]
          by_cases g : r = k
          · rw [g, if_pos (Nat.lt_succ_self k)]
            unfold rsF
            rw [if_neg (fun q => c ⟨q, g⟩)]
          · rw [if_neg (by omega)]
    have b4 : gI m 21 (20 * i + k) 4 = vX i s 4 k := own 4
    have b5 : gI m 21 (20 * i + k) 5 = vX i s 5 k := own 5
    have yes : gI m 21 (20 * i + k) 4 = o → qW false d 19 bc bs 27 [some (lR 17 (some i)), some (lI o), some (lI v), some (lR 21 (some (20 * i + k)))] [] (sI m 21 (20 * i + k) 5 (gI m 21 (20 * i + k) 5 + v)) Q := fun c => by
      rw [b4] at c
      refine done _ (k21_s (by omega) (by decide) hm) (fun f r hr => ?_)
      rw [vX_s, b5]
      by_cases g : f = 5 ∧ r = k
      · rw [if_pos g, if_pos g]
        unfold rsF
        rw [if_pos rfl, if_pos c]
      · rw [if_neg g, if_neg g]
    have no : ¬ gI m 21 (20 * i + k) 4 = o → qW false d 19 bc bs 27 [some (lR 17 (some i)), some (lI o), some (lI v), some (lR 21 (some (20 * i + k)))] [] m Q := fun c => by
      rw [b4] at c
      refine done m hm (fun f r hr => ?_)
      by_cases g : f = 5 ∧ r = k
      · rw [if_pos g, g.1, g.2, own 5]
        unfold rsF
        rw [if_pos rfl, if_neg c]
      · rw [if_neg g]
    refine qa_t1_W (cut := [5, 27]) 60 ?_
    exact And.intro (fun c => yes c) (fun c => no c)
theorem h_raiseV {n : Nat} {o v : Int32} (hn : n ≤ 20) (C : chR i n s) (h : ∀ m, k21 [5] i s m → (∀ f r, r < n → vX i m f r = rsF o v (vX i s) f r) → Q none m) : qC false (d + 1) 19 [lR 17 (some i), lI o, lI v] s Q := by
  have main : ∀ bc bs, qW false d 19 bc bs 5 [some (lR 17 (some i)), some (lI o), some (lI v), some (lR 21 (nxR i n 0))] [] s Q := fun bc bs => rsv_l hn C h n 0 s (Nat.zero_add _) k21_0 (fun f r _ => by rw [if_neg (Nat.not_lt_zero r)])
  rw [← C.1] at main
  refine qC_of rfl rfl ?_
  refine qa_t1_W (cut := [5]) 10 ?_
  exact main _ _
/-- a form: rows of one soil and width, each by a fall higher than the next -/
def fmX (z : Nat) (soil width fall : Int32) (f r : Nat) : Int32 := if f = 1 then soil else if f = 2 then fall * nI (z - 1 - r) else if f = 3 then width else if f = 5 then 99 else 0
theorem dgf_l {z bc bs : Nat} {v1 soil width fall : Int32} {fo : Option Nat} (hz : z ≤ 20) (hN : ∀ r, r < z → gR s 21 (20 * i + r) 0 = nxR i z (r + 1)) (h : ∀ m o6 o7, (∀ k a j, ¬ (k = 21 ∧ 20 * i ≤ a ∧ a < 20 * i + z ∧ 1 ≤ j ∧ j ≤ 14) → gI m k a j = gI s k a j) → (∀ k a j, gL m k a j = gL s k a j) → (∀ k a j, gR m k a j = gR s k a j) → eqn z (vX i m) (fmX z soil width fall) → qW false (d + 1) 16 bc bs 56 [some (lR 17 (some i)), some (lI v1), some (lI soil), some (lI width), some (lI fall), some (lR 8 fo), o6, o7] [] m Q) : ∀ j k m bed, k + j = z → (k < z → bed = fall * nI (z - 1 - k)) → (∀ k a j, ¬ (k = 21 ∧ 20 * i ≤ a ∧ a < 20 * i + z ∧ 1 ≤ j ∧ j ≤ 14) → gI m k a j = gI s k a j) → (∀ k a j, gL m k a j = gL s k a j) → (∀ k a j, gR m k a j = gR s k a j) → (∀ f r, 1 ≤ f ∧ f ≤ 14 → r < k → vX i m f r = fmX z soil width fall f r) → qW false (d + 1) 16 bc bs 22 [some (lR 17 (some i)), some (lI v1), some (lI soil), some (lI width), some (lI fall), some (lR 8 fo), some (lI bed), some (lR 21 (nxR i z k))] [] m Q := by
  intro j
  induction j with
  | zero =>
    intro k m bed hk hb a1 a2 a3 hx
    have hk : k = z := hk
    subst hk
    have e : nxR i k k = none := if_neg (Nat.lt_irrefl k)
    rw [e]
    refine qa_t1_W (cut := [22, 56]) 20 ?_
    exact h m _ _ a1 a2 a3 hx
  | succ j ih =>
    intro k m bed hk hb a1 a2 a3 hx
    have hkz : k < z := by omega
    have e : nxR i z k = some (20 * i + k) := if_pos hkz
    rw [e]
    have nx : gR (dsS (20 * i + k) soil bed width 0 99 m) 21 (20 * i + k) 0 = nxR i z (k + 1) := (a3 21 (20 * i + k) 0).trans (hN k hkz)
    have g21 : ∀ a j, gI (dsS (20 * i + k) soil bed width 0 99 m) 21 a j = if a = 20 * i + k ∧ 1 ≤ j ∧ j ≤ 14 then (if j = 1 then soil else if j = 2 then bed else if j = 3 then width else if j = 4 then 0 else if j = 5 then 99 else 0) else gI m 21 a j := fun a j => by
      show gI (sI (sI (sI (sI (sI (sI (sI (sI (sI (sI (sI (sI (sI (sI m 21 (20 * i + k) 1 soil) 21 (20 * i + k) 2 bed) 21 (20 * i + k) 3 width) 21 (20 * i + k) 4 0) 21 (20 * i + k) 5 99) 21 (20 * i + k) 6 0) 21 (20 * i + k) 7 0) 21 (20 * i + k) 8 0) 21 (20 * i + k) 9 0) 21 (20 * i + k) 10 0) 21 (20 * i + k) 11 0) 21 (20 * i + k) 12 0) 21 (20 * i + k) 13 0) 21 (20 * i + k) 14 0) 21 a j = _
      by_cases c : a = 20 * i + k ∧ 1 ≤ j ∧ j ≤ 14
      · obtain ⟨rfl, c1, c2⟩ := c
        rw [if_pos ⟨rfl, c1, c2⟩]
        rcases (show j = 1 ∨ j = 2 ∨ j = 3 ∨ j = 4 ∨ j = 5 ∨ j = 6 ∨ j = 7 ∨ j = 8 ∨ j = 9 ∨ j = 10 ∨ j = 11 ∨ j = 12 ∨ j = 13 ∨ j = 14 by omega) with rfl | rfl | rfl | rfl | rfl | rfl | rfl | rfl | rfl | rfl | rfl | rfl | rfl | rfl <;> simp [gI_sI]
      · rw [if_neg c]
        have n : ∀ q : Nat, 1 ≤ q → q ≤ 14 → ¬ ((21 : Nat) = 21 ∧ a = 20 * i + k ∧ j = q) := fun q q1 q2 z => c ⟨z.2.1, by omega, by omega⟩
        rw [gI_sI, if_neg (n 14 (by decide) (by decide)), gI_sI, if_neg (n 13 (by decide) (by decide)), gI_sI, if_neg (n 12 (by decide) (by decide)), gI_sI, if_neg (n 11 (by decide) (by decide)), gI_sI, if_neg (n 10 (by decide) (by decide)), gI_sI, if_neg (n 9 (by decide) (by decide)), gI_sI, if_neg (n 8 (by decide) (by decide)), gI_sI, if_neg (n 7 (by decide) (by decide)), gI_sI, if_neg (n 6 (by decide) (by decide)), gI_sI, if_neg (n 5 (by decide) (by decide)), gI_sI, if_neg (n 4 (by decide) (by decide)), gI_sI, if_neg (n 3 (by decide) (by decide)), gI_sI, if_neg (n 2 (by decide) (by decide)), gI_sI, if_neg (n 1 (by decide) (by decide))]
    have gO : ∀ q a j, q ≠ 21 → gI (dsS (20 * i + k) soil bed width 0 99 m) q a j = gI m q a j := fun q a j hq => by
      have n : ∀ w : Nat, ¬ (q = 21 ∧ a = 20 * i + k ∧ j = w) := fun w z => hq z.1
      unfold dsS
      rw [gI_sI, if_neg (n 14), gI_sI, if_neg (n 13), gI_sI, if_neg (n 12), gI_sI, if_neg (n 11), gI_sI, if_neg (n 10), gI_sI, if_neg (n 9), gI_sI, if_neg (n 8), gI_sI, if_neg (n 7), gI_sI, if_neg (n 6), gI_sI, if_neg (n 5), gI_sI, if_neg (n 4), gI_sI, if_neg (n 3), gI_sI, if_neg (n 2), gI_sI, if_neg (n 1)]
    have eb : k + 1 < z → bed - fall = fall * nI (z - 1 - (k + 1)) := fun g => by
      rw [hb hkz, show z - 1 - k = (z - 1 - (k + 1)) + 1 by omega, nI_succ, Int32.mul_add, Int32.mul_one, Int32.add_sub_cancel]
    have go : qW false (d + 1) 16 bc bs 22 [some (lR 17 (some i)), some (lI v1), some (lI soil), some (lI width), some (lI fall), some (lR 8 fo), some (lI (bed - fall)), some (lR 21 (gR (dsS (20 * i + k) soil bed width 0 99 m) 21 (20 * i + k) 0))] [] (dsS (20 * i + k) soil bed width 0 99 m) Q := by
      rw [nx]
      refine ih (k + 1) _ (bed - fall) (by omega) eb (fun q a j g => ?_) (fun q a j => a2 q a j) (fun q a j => a3 q a j) (fun f r hf hr => ?_)
      · by_cases c : q = 21
        · subst c
          rw [g21, if_neg (fun z => g ⟨rfl, by omega, by omega, z.2⟩)]
          exact a1 21 a j g
        · rw [gO q a j c]
          exact a1 q a j g
      · show gI (dsS (20 * i + k) soil bed width 0 99 m) 21 (20 * i + r) f = _
        rw [g21]
        by_cases c : r = k
        · subst c
          rw [if_pos ⟨rfl, hf⟩]
          unfold fmX
          rw [hb hkz]
          by_cases f1 : f = 1
          · rw [if_pos f1, if_pos f1]
          rw [if_neg f1, if_neg f1]
          by_cases f2 : f = 2
          · rw [if_pos f2, if_pos f2]
          rw [if_neg f2, if_neg f2]
          by_cases f3 : f = 3
          · rw [if_pos f3, if_pos f3]
          rw [if_neg f3, if_neg f3]
          by_cases f5 : f = 5
          · rw [if_neg (by omega), if_pos f5]
          · rw [if_neg f5]
            by_cases f4 : f = 4
            · rw [if_pos f4]
            · rw [if_neg f4]
        · rw [if_neg (fun z => c (by have := z.1; omega))]
          exact hx f r hf (by omega)
    refine qa_t1_W (cut := [22, 56]) 40 ?_
    refine h_digAs (And.intro rfl ?_)
    exact go
theorem nI_p {z : Nat} (hz1 : 1 ≤ z) : nI z - 1 = nI (z - 1) := by
  obtain ⟨y, rfl⟩ : ∃ y, z = y + 1 := ⟨z - 1, by omega⟩
  exact nI_pred y
theorem h_digFormV {z nl : Nat} {soil width fall : Int32} (hz : z ≤ 20) (hz1 : 1 ≤ z) (h : ∀ m, dgV i z (some nl) none 0 (fmX z soil width fall) s m → Q none m) : qC false (d + 2) 16 [lR 17 (some i), lI (nI z), lI soil, lI width, lI fall, lR 8 (some nl)] s Q := by
  have main : ∀ bc bs v, v = nI z → qC false (d + 1) 12 [lR 17 (some i), lI (nI z)] s (fun r m1 => r = none ∧ qW false (d + 1) 16 bc bs 22 [some (lR 17 (some i)), some (lI (nI z)), some (lI soil), some (lI width), some (lI fall), some (lR 8 (some nl)), some (lI (fall * (gI m1 17 i 5 - 1))), some (lR 21 (gR m1 17 i 4))] [] m1 Q) := fun bc bs v _ => by
    refine h_chainV hz fun m1 K1 => ⟨rfl, ?_⟩
    have K1' := K1
    obtain ⟨k1, k2, k3, k4, k5⟩ := K1'
    have e5 : gI m1 17 i 5 = nI z := by
      rw [k1]
      show gI (sI s 17 i 5 (nI z)) 17 i 5 = nI z
      rw [gI_sI, if_pos ⟨rfl, rfl, rfl⟩]
    rw [k3, e5]
    refine dgf_l hz (fun r hr => k5 r (Nat.zero_le _) hr) (fun m2 o6 o7 b1 b2 b3 x2 => ?_) z 0 m1 _ (Nat.zero_add z) (fun _ => ?_) (fun _ _ _ _ => rfl) (fun _ _ _ => rfl) (fun _ _ _ => rfl) (fun f r _ hr => absurd hr (Nat.not_lt_zero r))
    · refine qa_t1_W (cut := []) 20 ?_
      refine h_beginZ (d := d) fun m K3 => And.intro rfl ?_
      exact h m (dgV_of hz K1 b1 b2 b3 x2 K3)
    · exact congrArg (fall * ·) (nI_p hz1)
  refine qC_of rfl rfl ?_
  refine qa_t1_W (cut := [22]) 40 ?_
  exact main _ _ _ rfl
end DV
