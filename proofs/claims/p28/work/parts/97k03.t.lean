/-! THE CLASS'S TAPE, and what else is kept; add, with what it adds. -/
abbrev Ck : Type := Int32 × Int32
/-- what the reading of law n keeps -/
def kC (n : Nat) (s m : LMem) : Prop := ∀ k i j, ¬ ((k = 1 ∧ i = 0 ∧ j = 2) ∨ (k = 8 ∧ i = n ∧ j = 2) ∨ ((k = 9 ∨ k = 10) ∧ i = n)) → gI m k i j = gI s k i j
/-- the signs of law n -/
def cC (n : Nat) (m : LMem) (L : List Ck) : Prop := gI m 8 n 2 = nI L.length ∧ ∀ j x, L[j]? = some x → gI m 9 n j = x.1 ∧ gI m 10 n j = x.2
def xV (n : Nat) (s : LMem) (L : List Ck) (m : LMem) : Prop := kC n s m ∧ cC n m L
def tk_X (X : LMem → Prop) (l : Nat) (s m : LMem) (p : Nat) : Prop := tk_S l s m p ∧ X m
/-- kept by the place -/
def pX (X : LMem → Prop) : Prop := ∀ m (v : Int32), X m → X (sI m 1 0 2 v)
theorem kC_0 {n : Nat} {s : LMem} : kC n s s := fun _ _ _ _ => rfl
theorem kC_s {n k i j : Nat} {v : Int32} {s m : LMem} (g : (k = 1 ∧ i = 0 ∧ j = 2) ∨ (k = 8 ∧ i = n ∧ j = 2) ∨ ((k = 9 ∨ k = 10) ∧ i = n)) (h : kC n s m) : kC n s (sI m k i j v) := fun k' i' j' g' => by
  rw [gI_sI, if_neg (fun q => g' (by rw [← q.1, ← q.2.1, ← q.2.2] at g; exact g))]
  exact h k' i' j' g'
theorem pX_k {n : Nat} {s : LMem} : pX (kC n s) := fun _ _ h => kC_s (Or.inl ⟨rfl, rfl, rfl⟩) h
theorem cC_pl {n : Nat} {m : LMem} {L : List Ck} {v : Int32} (c : cC n m L) : cC n (sI m 1 0 2 v) L := ⟨by rw [gI_sI, if_neg (fun q => absurd q.1 (by decide))]; exact c.1, fun j x e => by
  rw [gI_sI, if_neg (fun q => absurd q.1 (by decide)), gI_sI, if_neg (fun q => absurd q.1 (by decide))]
  exact c.2 j x e⟩
theorem pX_V {n : Nat} {s : LMem} {L : List Ck} : pX (xV n s L) := fun m v h => ⟨pX_k m v h.1, cC_pl h.2⟩
theorem tk_VF {n l p : Nat} {s m : LMem} {L : List Ck} (h : tk_X (xV n s L) l s m p) : tk_X (kC n s) l s m p := ⟨h.1, h.2.1⟩
section CTX
variable {d bc bs l p : Nat} {s m : LMem} {Q : LPost} {X : LMem → Prop}
theorem tk_plX {q : Nat} (hX : pX X) (S : tk_X X l s m p) (hl2 : l ≤ 200) (hq : q ≤ l) : tk_X X l s (sI m 1 0 2 (nI q)) q := ⟨tk_pl S.1 hl2 hq, hX _ _ S.2⟩
theorem nc_tX (hX : pX X) (hl2 : l ≤ 200) (S : tk_X X l s m p) (h : Q (some (lI (t0 (bC s) l p))) m) : qW false d 114 bc bs 50 [some (lR 1 (some 0))] [] m Q := by
  obtain ⟨⟨J, el, eb, ep, hpl⟩, hXm⟩ := S
  unfold t0 at h
  by_cases e : p < l
  · rw [if_pos e] at h
    have c1 : gI m 1 0 2 < gI m 1 0 1 := by rw [ep, el]; exact nI_lt e (by omega)
    have c2 : gI m 1 0 2 < 200 := by rw [ep]; exact nI_lt (b := 200) (by omega) (by decide)
    have hv : qa_vin (gI m 1 0 2) 200 := by rw [ep]; exact nI_in (by omega) (by decide)
    have h3 : Q (some (lI (gI m 2 0 (gI m 1 0 2).toNatClampNeg))) m := by
      rw [ep, nI_clamp (by omega), show gI m 2 0 p = bC s p from congrFun eb p]
      exact h
    refine qa_t1_W (cut := []) 30 ?_
    refine And.intro (fun _ => ?_) (fun q => absurd c1 q)
    refine And.intro (fun _ => ?_) (fun q => absurd c2 q)
    exact And.intro hv h3
  · rw [if_neg e] at h
    have c1 : ¬ gI m 1 0 2 < gI m 1 0 1 := by rw [ep, el]; exact nI_nlt (by omega) (by omega)
    refine qa_t1_W (cut := []) 30 ?_
    exact And.intro (fun q => absurd q c1) (fun _ => h)
theorem nc_lX (hX : pX X) (hl2 : l ≤ 200) {p0 : Nat} (h : ∀ m, tk_X X l s m (sk (bC s) l p0) → Q (some (lI (t0 (bC s) l (sk (bC s) l p0)))) m) : ∀ n p m, l - p < n → sk (bC s) l p = sk (bC s) l p0 → tk_X X l s m p → qW false d 114 bc bs 0 [some (lR 1 (some 0))] [] m Q := by
  intro n
  induction n with
  | zero => intro p m hp; exact absurd hp (Nat.not_lt_zero _)
  | succ n ih =>
    intro p m hp h0 S
    have S0 := S
    obtain ⟨⟨J, el, eb, ep, hpl⟩, hXm⟩ := S
    have stop : tc (bC s) l p ≠ 32 → qW false d 114 bc bs 50 [some (lR 1 (some 0))] [] m Q := fun hne => by
      have hp0 : sk (bC s) l p0 = p := by rw [← h0, sk_n hne]
      have h9 := h m (by rw [hp0]; exact S0)
      rw [hp0] at h9
      exact nc_tX hX hl2 S0 h9
    by_cases e : p < l
    · have c1 : gI m 1 0 2 < gI m 1 0 1 := by rw [ep, el]; exact nI_lt e (by omega)
      have c2 : gI m 1 0 2 < 200 := by rw [ep]; exact nI_lt (b := 200) (by omega) (by decide)
      have hv : qa_vin (gI m 1 0 2) 200 := by rw [ep]; exact nI_in (by omega) (by decide)
      have eb2 : gI m 2 0 (gI m 1 0 2).toNatClampNeg = tc (bC s) l p := by
        rw [ep, nI_clamp (by omega), show gI m 2 0 p = bC s p from congrFun eb p]
        unfold tc
        rw [if_pos e]
      refine qa_t1_W (cut := [0, 50]) 40 ?_
      refine And.intro (fun _ => ?_) (fun q => absurd c1 q)
      refine And.intro (fun _ => ?_) (fun q => absurd c2 q)
      refine And.intro hv ?_
      refine And.intro (fun e32 => ?_) (fun ne => ?_)
      · have e32 : gI m 2 0 (gI m 1 0 2).toNatClampNeg = 32 := e32
        rw [eb2] at e32
        have ih2 : qW false d 114 bc bs 0 [some (lR 1 (some 0))] [] (sI m 1 0 2 (gI m 1 0 2 + 1)) Q := by
          rw [ep, nI_1]
          exact ih (p + 1) _ (by omega) (by rw [← sk_b e32, h0]) (tk_plX hX S0 hl2 (by omega))
        exact ih2
      · have ne : ¬ gI m 2 0 (gI m 1 0 2).toNatClampNeg = 32 := ne
        rw [eb2] at ne
        exact stop ne
    · have c1 : ¬ gI m 1 0 2 < gI m 1 0 1 := by rw [ep, el]; exact nI_nlt (by omega) (by omega)
      have hne : tc (bC s) l p ≠ 32 := by
        unfold tc
        rw [if_neg e]
        decide
      refine qa_t1_W (cut := [0, 50]) 40 ?_
      exact And.intro (fun q => absurd q c1) (fun _ => stop hne)
theorem h_nextX (hX : pX X) (hl2 : l ≤ 200) (S : tk_X X l s m p) (h : ∀ m, tk_X X l s m (sk (bC s) l p) → Q (some (lI (t0 (bC s) l (sk (bC s) l p)))) m) : qC false (d + 1) 114 [lR 1 (some 0)] m Q :=
  qC_of rfl rfl (nc_lX hX hl2 h (l - p + 1) p m (by omega) rfl S)
theorem h_stepX (hX : pX X) (hl2 : l ≤ 200) (S : tk_X X l s m p) (hp : p < l) (h : ∀ m, tk_X X l s m (p + 1) → Q none m) : qC false (d + 1) 115 [lR 1 (some 0)] m Q := by
  have st : Q none (sI m 1 0 2 (gI m 1 0 2 + 1)) := by
    rw [S.1.2.2.2.1, nI_1]
    exact h _ (tk_plX hX S hl2 (by omega))
  refine qC_of rfl rfl ?_
  refine qa_t1_W (cut := []) 20 ?_
  exact st
theorem h_takesX {x : Int32} (hB : tp_B (bC s) l) (hX : pX X) (hl2 : l ≤ 200) (S : tk_X X l s m p) (hx : x ≠ 0) (hx1 : x ≠ -1) (h1 : ∀ m, tk_X X l s m (sk (bC s) l p + 1) → tc (bC s) l (sk (bC s) l p) = x → Q (some (lI 1)) m) (h0 : ∀ m, tk_X X l s m (sk (bC s) l p) → tc (bC s) l (sk (bC s) l p) ≠ x → Q (some (lI 0)) m) : qC false (d + 2) 118 [lR 1 (some 0), lI x] m Q := by
  refine qC_of rfl rfl ?_
  refine qa_t1_W (cut := []) 30 ?_
  refine h_nextX hX hl2 S fun m1 S1 => Exists.intro _ (And.intro rfl ?_)
  refine And.intro (fun e => ?_) (fun ne => ?_)
  · have e : t0 (bC s) l (sk (bC s) l p) = x := e
    have e2 := (t0_tc hB hx hx1).mp e
    have hlt := tc_lt hx1 e2
    have st : Q (some (lI 1)) (sI m1 1 0 2 (gI m1 1 0 2 + 1)) := by
      rw [S1.1.2.2.2.1, nI_1]
      exact h1 _ (tk_plX hX S1 hl2 (by omega)) e2
    exact And.intro (Or.inr rfl) st
  · have ne : ¬ t0 (bC s) l (sk (bC s) l p) = x := ne
    exact And.intro (Or.inl rfl) (h0 m1 S1 (fun c => ne ((t0_tc hB hx hx1).mpr c)))
theorem h_thruX (hB : tp_B (bC s) l) (hX : pX X) (hl2 : l ≤ 200) (S : tk_X X l s m p) (h1 : ∀ m, tk_X X l s m (sk (bC s) l p) → tc (bC s) l (sk (bC s) l p) = -1 → Q (some (lI 1)) m) (h0 : ∀ m, tk_X X l s m (sk (bC s) l p) → tc (bC s) l (sk (bC s) l p) ≠ -1 → Q (some (lI 0)) m) : qC false (d + 2) 117 [lR 1 (some 0)] m Q := by
  refine qC_of rfl rfl ?_
  refine qa_t1_W (cut := []) 30 ?_
  refine h_nextX hX hl2 S fun m1 S1 => Exists.intro _ (And.intro rfl ?_)
  refine And.intro (fun e => ?_) (fun ne => ?_)
  · exact And.intro (Or.inr rfl) (h1 m1 S1 ((t0_0 hB).mp e))
  · exact And.intro (Or.inl rfl) (h0 m1 S1 (fun c => ne ((t0_0 hB).mpr c)))
theorem nb_lX {mm : Nat} (hmm : mm ≤ 4) (hX : pX X) (hl2 : l ≤ 200) {q0 : Nat} (hno : ∀ m, tk_X X l s m (q0 + dr (bC s) l mm q0) → dgB (tc (bC s) l (q0 + dr (bC s) l mm q0)) = true → Q (some (lI (-1))) m) (h : ∀ m, tk_X X l s m (q0 + dr (bC s) l mm q0) → dgB (tc (bC s) l (q0 + dr (bC s) l mm q0)) = false → Q (some (lI (nvF (bC s) l mm q0 0))) m) : ∀ j k m v, k + j = mm → k + dr (bC s) l j (q0 + k) = dr (bC s) l mm q0 → nvF (bC s) l j (q0 + k) v = nvF (bC s) l mm q0 0 → tk_X X l s m (q0 + k) → qW false (d + 1) 119 bc bs 16 [some (lR 1 (some 0)), some (lI (nI mm)), some (lI v), some (lI (nI k))] [] m Q := by
  intro j
  induction j with
  | zero =>
    intro k m v hk hd hv S
    have hk : k = mm := hk
    subst hk
    have hd : k = dr (bC s) l k q0 := hd
    have hv : v = nvF (bC s) l k q0 0 := hv
    rw [← hd, ← hv] at h
    rw [← hd] at hno
    have S0 := S
    obtain ⟨⟨J, el, eb, ep, hpl⟩, hXm⟩ := S
    by_cases e : q0 + k < l
    · have c1 : gI m 1 0 2 < gI m 1 0 1 := by rw [ep, el]; exact nI_lt e (by omega)
      have c2 : gI m 1 0 2 < 200 := by rw [ep]; exact nI_lt (b := 200) (by omega) (by decide)
      have hvi : qa_vin (gI m 1 0 2) 200 := by rw [ep]; exact nI_in (by omega) (by decide)
      have eb2 : gI m 2 0 (gI m 1 0 2).toNatClampNeg = tc (bC s) l (q0 + k) := by
        rw [ep, nI_clamp (by omega), show gI m 2 0 (q0 + k) = bC s (q0 + k) from congrFun eb _]
        unfold tc
        rw [if_pos e]
      refine qa_t1_W (cut := [16]) 80 ?_
      refine And.intro (fun _ => ?_) (fun q => absurd c1 q)
      refine And.intro (fun _ => ?_) (fun q => absurd c2 q)
      refine And.intro hvi ?_
      refine h_dig (fun hd => Exists.intro _ (And.intro rfl ?_)) (fun hd => Exists.intro _ (And.intro rfl ?_))
      · have hd : dg (gI m 2 0 (gI m 1 0 2).toNatClampNeg) := hd
        rw [eb2] at hd
        refine And.intro (fun q => absurd q (by decide)) (fun _ => ?_)
        exact And.intro (fun _ => hno m S0 (dgB_t hd)) (fun q => absurd rfl q)
      · have hd : ¬ dg (gI m 2 0 (gI m 1 0 2).toNatClampNeg) := hd
        rw [eb2] at hd
        exact And.intro (fun _ => h m S0 (dgB_f hd)) (fun q => absurd rfl q)
    · have c1 : ¬ gI m 1 0 2 < gI m 1 0 1 := by rw [ep, el]; exact nI_nlt (by omega) (by omega)
      have hf : dgB (tc (bC s) l (q0 + k)) = false := by
        unfold tc
        rw [if_neg e]
        rfl
      refine qa_t1_W (cut := [16]) 30 ?_
      exact And.intro (fun q => absurd q c1) (fun _ => h m S0 hf)
  | succ j ih =>
    intro k m v hk hd hv S
    have S0 := S
    obtain ⟨⟨J, el, eb, ep, hpl⟩, hXm⟩ := S
    have hd : k + (if dgB (tc (bC s) l (q0 + k)) = true then dr (bC s) l j (q0 + k + 1) + 1 else 0) = dr (bC s) l mm q0 := hd
    have hv : (if dgB (tc (bC s) l (q0 + k)) = true then nvF (bC s) l j (q0 + k + 1) (v * 10 + bC s (q0 + k) - 48) else v) = nvF (bC s) l mm q0 0 := hv
    have stop : dgB (tc (bC s) l (q0 + k)) = false → Q (some (lI v)) m := fun hf => by
      rw [if_neg (by rw [hf]; decide)] at hd hv
      have hd : k = dr (bC s) l mm q0 := hd
      rw [← hd, ← hv] at h
      exact h m S0 hf
    by_cases e : q0 + k < l
    · have c1 : gI m 1 0 2 < gI m 1 0 1 := by rw [ep, el]; exact nI_lt e (by omega)
      have c2 : gI m 1 0 2 < 200 := by rw [ep]; exact nI_lt (b := 200) (by omega) (by decide)
      have hvi : qa_vin (gI m 1 0 2) 200 := by rw [ep]; exact nI_in (by omega) (by decide)
      have eb3 : gI m 2 0 (gI m 1 0 2).toNatClampNeg = bC s (q0 + k) := by
        rw [ep, nI_clamp (by omega)]
        exact congrFun eb _
      have eb2 : gI m 2 0 (gI m 1 0 2).toNatClampNeg = tc (bC s) l (q0 + k) := by
        rw [eb3]
        unfold tc
        rw [if_pos e]
      refine qa_t1_W (cut := [16]) 80 ?_
      refine And.intro (fun _ => ?_) (fun q => absurd c1 q)
      refine And.intro (fun _ => ?_) (fun q => absurd c2 q)
      refine And.intro hvi ?_
      refine h_dig (fun hg => Exists.intro _ (And.intro rfl ?_)) (fun hg => Exists.intro _ (And.intro rfl ?_))
      · have hg : dg (gI m 2 0 (gI m 1 0 2).toNatClampNeg) := hg
        rw [eb2] at hg
        have hg := dgB_t hg
        rw [if_pos hg] at hd hv
        refine And.intro (fun q => absurd q (by decide)) (fun _ => ?_)
        refine And.intro (fun q => ?_) (fun _ => ?_)
        · have q := congrArg Int32.toInt q
          rw [nI_toInt (by omega), nI_toInt (by omega)] at q
          omega
        · have ih2 : qW false (d + 1) 119 bc bs 16 [some (lR 1 (some 0)), some (lI (nI mm)), some (lI (v * 10 + gI m 2 0 (gI m 1 0 2).toNatClampNeg - 48)), some (lI (nI k + 1))] [] (sI m 1 0 2 (gI m 1 0 2 + 1)) Q := by
            rw [eb3, ep, nI_1, nI_1]
            exact ih (k + 1) _ _ (by omega) (by rw [show q0 + (k + 1) = q0 + k + 1 by omega]; omega) (by rw [show q0 + (k + 1) = q0 + k + 1 by omega]; exact hv) (tk_plX hX S0 hl2 (by omega))
          exact And.intro hvi ih2
      · have hg : ¬ dg (gI m 2 0 (gI m 1 0 2).toNatClampNeg) := hg
        rw [eb2] at hg
        exact And.intro (fun _ => stop (dgB_f hg)) (fun q => absurd rfl q)
    · have c1 : ¬ gI m 1 0 2 < gI m 1 0 1 := by rw [ep, el]; exact nI_nlt (by omega) (by omega)
      have hf : dgB (tc (bC s) l (q0 + k)) = false := by
        unfold tc
        rw [if_neg e]
        rfl
      refine qa_t1_W (cut := [16]) 30 ?_
      exact And.intro (fun q => absurd q c1) (fun _ => stop hf)
theorem h_numX {mm : Nat} (hmm : mm ≤ 4) (hX : pX X) (hl2 : l ≤ 200) (S : tk_X X l s m p) (h0 : ∀ m, tk_X X l s m (sk (bC s) l p) → dgB (tc (bC s) l (sk (bC s) l p)) = false → Q (some (lI (-1))) m) (h1 : ∀ m, tk_X X l s m (sk (bC s) l p + dr (bC s) l mm (sk (bC s) l p)) → dgB (tc (bC s) l (sk (bC s) l p)) = true → dgB (tc (bC s) l (sk (bC s) l p + dr (bC s) l mm (sk (bC s) l p))) = true → Q (some (lI (-1))) m) (h : ∀ m, tk_X X l s m (sk (bC s) l p + dr (bC s) l mm (sk (bC s) l p)) → dgB (tc (bC s) l (sk (bC s) l p)) = true → dgB (tc (bC s) l (sk (bC s) l p + dr (bC s) l mm (sk (bC s) l p))) = false → Q (some (lI (nvF (bC s) l mm (sk (bC s) l p) 0))) m) : qC false (d + 2) 119 [lR 1 (some 0), lI (nI mm)] m Q := by
  refine qC_of rfl rfl ?_
  refine qa_t1_W (cut := [16]) 30 ?_
  refine h_nextX hX hl2 S fun m1 S1 => Exists.intro _ (And.intro rfl ?_)
  refine h_dig (fun hd => Exists.intro _ (And.intro rfl ?_)) (fun hd => Exists.intro _ (And.intro rfl ?_))
  · have hd := dgB_t (t0_dg.mp hd)
    refine And.intro (fun q => absurd q (by decide)) (fun _ => ?_)
    exact nb_lX hmm hX hl2 (fun m S h2 => h1 m S hd h2) (fun m S h2 => h m S hd h2) mm 0 m1 0 (Nat.zero_add _) (by rw [Nat.zero_add, Nat.add_zero]) (by rw [Nat.add_zero]) S1
  · have hd := dgB_f (fun c => hd (t0_dg.mpr c))
    exact And.intro (fun _ => h0 m1 S1 hd) (fun q => absurd rfl q)
theorem h_addF {n : Nat} {a b : Int32} (S : tk_X (kC n s) l s m p) (h : ∀ m, tk_X (kC n s) l s m p → Q none m) : qC false (d + 1) 63 [lR 8 (some n), lI a, lI b] m Q := by
  have S0 := S
  obtain ⟨⟨J, el, eb, ep, hpl⟩, hk⟩ := S
  obtain ⟨z, hz2, hz⟩ := y_nIof2 (N := 200) (x := gI m 8 n 2) (J.1 8 n 2 (2, 2, 0, 200) (by decide) (by decide) (by decide)).1 (J.1 8 n 2 (2, 2, 0, 200) (by decide) (by decide) (by decide)).2
  by_cases e : z < 200
  · have c2 : gI m 8 n 2 < 200 := by rw [hz]; exact nI_lt (b := 200) e (by decide)
    have hv : qa_vin (gI m 8 n 2) 200 := by rw [hz]; exact nI_in (by omega) (by decide)
    have J1 : y_J x_X (sI m 9 n z a) := y_J_w J (fun r hr _ _ => absurd hr List.not_mem_nil) (x_npr rfl)
    have J2 : y_J x_X (sI (sI m 9 n z a) 10 n z b) := y_J_w J1 (fun r hr _ _ => absurd hr List.not_mem_nil) (x_npr rfl)
    have J3 : y_J x_X (sI (sI (sI m 9 n z a) 10 n z b) 8 n 2 (nI (z + 1))) := y_J_w J2 (fun r hr g1 g2 => by
      have hr : r ∈ [((2 : Int), (2 : Int), (0 : Int), (200 : Int))] := hr
      rw [List.mem_singleton.mp hr, nI_toInt (by omega)]
      show (0 : Int) ≤ ((z + 1 : Nat) : Int) ∧ ((z + 1 : Nat) : Int) ≤ 200
      omega) (x_npr rfl)
    have g : ∀ k i j, k ≠ 8 → k ≠ 9 → k ≠ 10 → gI (sI (sI (sI m 9 n z a) 10 n z b) 8 n 2 (nI (z + 1))) k i j = gI m k i j := fun k i j g1 g2 g3 => by
      rw [gI_sI, if_neg (fun q => g1 q.1), gI_sI, if_neg (fun q => g3 q.1), gI_sI, if_neg (fun q => g2 q.1)]
    have fin : Q none (sI (sI (sI m 9 n z a) 10 n z b) 8 n 2 (nI (z + 1))) := by
      refine h _ ⟨⟨J3, by rw [g 1 0 1 (by decide) (by decide) (by decide), el], ?_, by rw [g 1 0 2 (by decide) (by decide) (by decide), ep], hpl⟩, kC_s (Or.inr (Or.inl ⟨rfl, rfl, rfl⟩)) (kC_s (Or.inr (Or.inr ⟨Or.inr rfl, rfl⟩)) (kC_s (Or.inr (Or.inr ⟨Or.inl rfl, rfl⟩)) hk))⟩
      rw [← eb]
      exact funext fun j => g 2 0 j (by decide) (by decide) (by decide)
    have z1 : gI (sI m 9 n z a) 8 n 2 = nI z := by rw [gI_sI, if_neg (fun q => absurd q.1 (by decide)), hz]
    have z2 : gI (sI (sI m 9 n z a) 10 n z b) 8 n 2 = nI z := by rw [gI_sI, if_neg (fun q => absurd q.1 (by decide)), z1]
    have cz : (nI z).toNatClampNeg = z := nI_clamp (by omega)
    have fin2 : Q none (sI (sI (sI m 9 n (gI m 8 n 2).toNatClampNeg a) 10 n (gI (sI m 9 n (gI m 8 n 2).toNatClampNeg a) 8 n 2).toNatClampNeg b) 8 n 2 (gI (sI (sI m 9 n (gI m 8 n 2).toNatClampNeg a) 10 n (gI (sI m 9 n (gI m 8 n 2).toNatClampNeg a) 8 n 2).toNatClampNeg b) 8 n 2 + 1)) := by
      rw [hz, cz, z1, cz, z2, nI_1]
      exact fin
    have hv2 : qa_vin (gI (sI m 9 n (gI m 8 n 2).toNatClampNeg a) 8 n 2) 200 := by
      rw [hz, cz, z1]
      exact nI_in (by omega) (by decide)
    refine qC_of rfl rfl ?_
    refine qa_t1_W (cut := []) 60 ?_
    refine And.intro (fun _ => ?_) (fun q => absurd c2 q)
    refine And.intro (fun _ => ?_) (fun q => absurd c2 q)
    exact And.intro hv (And.intro hv2 fin2)
  · have c2 : ¬ gI m 8 n 2 < 200 := by rw [hz]; exact nI_nlt (b := 200) (by omega) (by omega)
    refine qC_of rfl rfl ?_
    refine qa_t1_W (cut := []) 60 ?_
    exact And.intro (fun q => absurd q c2) (fun _ => h m S0)
theorem h_addV {n : Nat} {L : List Ck} {a b : Int32} (hL : L.length < 200) (S : tk_X (xV n s L) l s m p) (h : ∀ m, tk_X (xV n s (L ++ [(a, b)])) l s m p → Q none m) : qC false (d + 1) 63 [lR 8 (some n), lI a, lI b] m Q := by
  have S0 := S
  obtain ⟨⟨J, el, eb, ep, hpl⟩, hk, hc1, hc2⟩ := S
  obtain ⟨z, hz0⟩ : ∃ z, z = L.length := ⟨_, rfl⟩
  have hz : gI m 8 n 2 = nI z := by rw [hz0]; exact hc1
  have hz2 : z ≤ 200 := by omega
  by_cases e : z < 200
  · have c2 : gI m 8 n 2 < 200 := by rw [hz]; exact nI_lt (b := 200) e (by decide)
    have hv : qa_vin (gI m 8 n 2) 200 := by rw [hz]; exact nI_in (by omega) (by decide)
    have J1 : y_J x_X (sI m 9 n z a) := y_J_w J (fun r hr _ _ => absurd hr List.not_mem_nil) (x_npr rfl)
    have J2 : y_J x_X (sI (sI m 9 n z a) 10 n z b) := y_J_w J1 (fun r hr _ _ => absurd hr List.not_mem_nil) (x_npr rfl)
    have J3 : y_J x_X (sI (sI (sI m 9 n z a) 10 n z b) 8 n 2 (nI (z + 1))) := y_J_w J2 (fun r hr g1 g2 => by
      have hr : r ∈ [((2 : Int), (2 : Int), (0 : Int), (200 : Int))] := hr
      rw [List.mem_singleton.mp hr, nI_toInt (by omega)]
      show (0 : Int) ≤ ((z + 1 : Nat) : Int) ∧ ((z + 1 : Nat) : Int) ≤ 200
      omega) (x_npr rfl)
    have g : ∀ k i j, k ≠ 8 → k ≠ 9 → k ≠ 10 → gI (sI (sI (sI m 9 n z a) 10 n z b) 8 n 2 (nI (z + 1))) k i j = gI m k i j := fun k i j g1 g2 g3 => by
      rw [gI_sI, if_neg (fun q => g1 q.1), gI_sI, if_neg (fun q => g3 q.1), gI_sI, if_neg (fun q => g2 q.1)]
    have fin : Q none (sI (sI (sI m 9 n z a) 10 n z b) 8 n 2 (nI (z + 1))) := by
      refine h _ ⟨⟨J3, by rw [g 1 0 1 (by decide) (by decide) (by decide), el], ?_, by rw [g 1 0 2 (by decide) (by decide) (by decide), ep], hpl⟩, kC_s (Or.inr (Or.inl ⟨rfl, rfl, rfl⟩)) (kC_s (Or.inr (Or.inr ⟨Or.inr rfl, rfl⟩)) (kC_s (Or.inr (Or.inr ⟨Or.inl rfl, rfl⟩)) hk)), ?_, fun j x ex => ?_⟩
      · rw [← eb]
        exact funext fun j => g 2 0 j (by decide) (by decide) (by decide)
      · rw [gI_sI, if_pos ⟨rfl, rfl, rfl⟩, List.length_append, hz0]
        rfl
      · by_cases k : j < L.length
        · rw [List.getElem?_append_left k] at ex
          rw [show gI (sI (sI (sI m 9 n z a) 10 n z b) 8 n 2 (nI (z + 1))) 9 n j = gI m 9 n j by rw [gI_sI, if_neg (fun q => absurd q.1 (by decide)), gI_sI, if_neg (fun q => absurd q.1 (by decide)), gI_sI, if_neg (fun q => by have := q.2.2; omega)], show gI (sI (sI (sI m 9 n z a) 10 n z b) 8 n 2 (nI (z + 1))) 10 n j = gI m 10 n j by rw [gI_sI, if_neg (fun q => absurd q.1 (by decide)), gI_sI, if_neg (fun q => by have := q.2.2; omega), gI_sI, if_neg (fun q => absurd q.1 (by decide))]]
          exact hc2 j x ex
        · rw [List.getElem?_append_right (by omega)] at ex
          by_cases k2 : j = L.length
          · rw [k2, Nat.sub_self] at ex
            cases ex
            rw [show gI (sI (sI (sI m 9 n z a) 10 n z b) 8 n 2 (nI (z + 1))) 9 n j = a by rw [gI_sI, if_neg (fun q => absurd q.1 (by decide)), gI_sI, if_neg (fun q => absurd q.1 (by decide)), gI_sI, if_pos ⟨rfl, rfl, by omega⟩], show gI (sI (sI (sI m 9 n z a) 10 n z b) 8 n 2 (nI (z + 1))) 10 n j = b by rw [gI_sI, if_neg (fun q => absurd q.1 (by decide)), gI_sI, if_pos ⟨rfl, rfl, by omega⟩]]
            exact ⟨rfl, rfl⟩
          · rw [List.getElem?_eq_none (by show 1 ≤ j - L.length; omega)] at ex
            cases ex
    have z1 : gI (sI m 9 n z a) 8 n 2 = nI z := by rw [gI_sI, if_neg (fun q => absurd q.1 (by decide)), hz]
    have z2 : gI (sI (sI m 9 n z a) 10 n z b) 8 n 2 = nI z := by rw [gI_sI, if_neg (fun q => absurd q.1 (by decide)), z1]
    have cz : (nI z).toNatClampNeg = z := nI_clamp (by omega)
    have fin2 : Q none (sI (sI (sI m 9 n (gI m 8 n 2).toNatClampNeg a) 10 n (gI (sI m 9 n (gI m 8 n 2).toNatClampNeg a) 8 n 2).toNatClampNeg b) 8 n 2 (gI (sI (sI m 9 n (gI m 8 n 2).toNatClampNeg a) 10 n (gI (sI m 9 n (gI m 8 n 2).toNatClampNeg a) 8 n 2).toNatClampNeg b) 8 n 2 + 1)) := by
      rw [hz, cz, z1, cz, z2, nI_1]
      exact fin
    have hv2 : qa_vin (gI (sI m 9 n (gI m 8 n 2).toNatClampNeg a) 8 n 2) 200 := by
      rw [hz, cz, z1]
      exact nI_in (by omega) (by decide)
    refine qC_of rfl rfl ?_
    refine qa_t1_W (cut := []) 60 ?_
    refine And.intro (fun _ => ?_) (fun q => absurd c2 q)
    refine And.intro (fun _ => ?_) (fun q => absurd c2 q)
    exact And.intro hv (And.intro hv2 fin2)
  · exact absurd hL (by omega)
end CTX
/-! THE CLASS'S READER OF LAWS leaves the tokens: atom, term, sum. -/
def lcC (i : Int32) : Int32 := if i = 0 then 100 else if i = 1 then 104 else if i = 2 then 114 else if i = 3 then 119 else if i = 4 then 109 else if i = 5 then 115 else if i = 6 then 113 else 110
def opC (c : Int32) : Int32 := if c = 2 then 43 else if c = 3 then 45 else if c = 4 then 42 else if c = 5 then 47 else if c = 6 then 61 else if c = 7 then 60 else if c = 8 then 62 else if c = 9 then 33 else if c = 10 then 38 else 124
/-- a token, as the class keeps it -/
def cT (x : Tk) : Ck := if x.1 = 0 then (48, x.2) else if x.1 = 1 then (lcC x.2, 0) else (opC x.1, 0)
theorem lcC_lt {c : Int32} (h : ltF c ≠ -1) : lcC (ltF c) = c := by
  by_cases e0 : c = 100
  · subst e0; decide
  by_cases e1 : c = 104
  · subst e1; decide
  by_cases e2 : c = 114
  · subst e2; decide
  by_cases e3 : c = 119
  · subst e3; decide
  by_cases e4 : c = 109
  · subst e4; decide
  by_cases e5 : c = 115
  · subst e5; decide
  by_cases e6 : c = 113
  · subst e6; decide
  by_cases e7 : c = 110
  · subst e7; decide
  refine absurd ?_ h
  unfold ltF
  rw [if_neg e0, if_neg e1, if_neg e2, if_neg e3, if_neg e4, if_neg e5, if_neg e6, if_neg e7]
theorem cT_num {v : Int32} : cT (0, v) = (48, v) := if_pos rfl
theorem cT_let {c : Int32} (h : ltF c ≠ -1) : cT (1, ltF c) = (c, 0) := by
  show (if (1 : Int32) = 0 then _ else if (1 : Int32) = 1 then (lcC (ltF c), (0 : Int32)) else _) = _
  rw [if_neg (by decide), if_pos rfl, lcC_lt h]
theorem nvT_eq {b : Nat → Int32} {l : Nat} : ∀ n p a, nvT b l n p a = nvF b l n p a
  | 0, _, _ => rfl
  | n + 1, p, a => by
    show (if dgB (tc b l p) = true then nvT b l n (p + 1) (10 * a + tc b l p - 48) else a) = (if dgB (tc b l p) = true then nvF b l n (p + 1) (a * 10 + b p - 48) else a)
    by_cases e : dgB (tc b l p) = true
    · have hpl : p < l := by
        have a1 := of_decide_eq_true (qa_and e).1
        rcases Nat.lt_or_ge p l with c | c
        · exact c
        · unfold tc at a1
          rw [if_neg (by omega)] at a1
          exact absurd a1 (by decide)
      rw [if_pos e, if_pos e, nvT_eq n, show tc b l p = b p by unfold tc; rw [if_pos hpl], Int32.mul_comm 10 a]
    · rw [if_neg e, if_neg e]
/-- a reader of the class: it answers 1 and leaves tokens, or it answers 0 -/
def rdD (F : Nat → List Tk → Nat → List Tk → Prop) (l n : Nat) (s : LMem) (L0 : List Ck) (M dep : Nat) (args : List LV) : Prop := ∀ T p m (R : LPost), tk_X (xV n s (L0 ++ T.map cT)) l s m p → L0.length + T.length ≤ p → (∀ m' q U, tk_X (xV n s (L0 ++ U.map cT)) l s m' q → U.length + p ≤ q + T.length → F (sk (bC s) l p) T (sk (bC s) l q) U → R (some (lI 1)) m') → (∀ m' w, tk_X (kC n s) l s m' w → R (some (lI 0)) m') → qC false dep M (lR 8 (some n) :: lR 1 (some 0) :: args) m R
section CAV
variable {d l n g : Nat} {s : LMem} {L0 : List Ck}
theorem h_addT {p : Nat} {T : List Tk} {x : Tk} {a b : Int32} {m : LMem} {Q : LPost} (ex : cT x = (a, b)) (hL : L0.length + T.length < 200) (S : tk_X (xV n s (L0 ++ T.map cT)) l s m p) (h : ∀ m, tk_X (xV n s (L0 ++ (T ++ [x]).map cT)) l s m p → Q none m) : qC false (d + 1) 63 [lR 8 (some n), lI a, lI b] m Q := by
  refine h_addV (by rw [List.length_append, List.length_map]; exact hL) S fun m S => h m ?_
  rw [List.map_append, ← List.append_assoc, show [x].map cT = [(a, b)] by show [cT x] = _; rw [ex]]
  exact S
theorem c_atomV (hB : tp_B (bC s) l) (hl2 : l ≤ 200) (hg : g ≤ 6) (hs : g < 6 → rdD (AT (bC s) l 3 (g + 1)) l n s L0 71 (d + 3) [lI (nI (g + 1))]) : rdD (AT (bC s) l 0 g) l n s L0 73 (d + 4) [lI (nI g)] := fun T p m R S hT h1 h0 => by
  have sk1 : p ≤ sk (bC s) l p := sk_ge p
  have sk2 : sk (bC s) l p ≤ max p l := sk_le p
  have sk3 : sk (bC s) l (sk (bC s) l p) = sk (bC s) l p := sk_sk p
  have hpl := S.1.2.2.2.2
  refine qC_of rfl rfl ?_
  refine qa_t1_W (cut := []) 120 ?_
  refine h_nextX pX_V hl2 S fun m1 S1 => Exists.intro _ (And.intro rfl ?_)
  generalize hq : sk (bC s) l p = q at *
  refine And.intro (fun e => ?_) (fun ne => ?_)
  · have e : t0 (bC s) l q = 91 := e
    have e := (t0_tc hB (by decide) (by decide)).mp e
    have hql := tc_lt (by decide) e
    refine And.intro (fun c => ?_) (fun c => ?_)
    · have hg6 := (nI_lt6 hg).mp c
      refine h_stepX pX_V hl2 S1 hql fun m2 S2 => And.intro rfl ?_
      have go : qC false (d + 3) 71 [lR 8 (some n), lR 1 (some 0), lI (nI g + 1)] m2 (fun r m3 => ∃ v, r = some (lI v) ∧ ((v = 0 → (((0 : Int32) = 0 ∨ (0 : Int32) = 1) ∧ R (some (lI 0)) m3)) ∧ (¬ v = 0 → qC false (d + 3) 118 [lR 1 (some 0), lI 93] m3 (fun r m4 => ∃ v, r = some (lI v) ∧ ((v = 0 → (((0 : Int32) = 0 ∨ (0 : Int32) = 1) ∧ R (some (lI 0)) m4)) ∧ (¬ v = 0 → (((1 : Int32) = 0 ∨ (1 : Int32) = 1) ∧ R (some (lI 1)) m4))))))) := by
        rw [nI_1]
        refine hs hg6 T (q + 1) m2 _ S2 (by omega) (fun m3 z U S3 hU T3 => ⟨1, rfl, fun c => absurd c (by decide), fun _ => ?_⟩) (fun m3 w S3 => ⟨0, rfl, fun _ => ⟨Or.inl rfl, h0 m3 w S3⟩, fun c => absurd rfl c⟩)
        have zz : z ≤ sk (bC s) l z := sk_ge z
        have z3 : sk (bC s) l (sk (bC s) l z) = sk (bC s) l z := sk_sk z
        refine h_takesX hB pX_V hl2 S3 (by decide) (by decide) (fun m4 S4 e93 => ⟨1, rfl, fun c => absurd c (by decide), fun _ => ⟨Or.inr rfl, h1 m4 _ U S4 (by omega) ?_⟩⟩) (fun m4 S4 e93 => ⟨0, rfl, fun _ => ⟨Or.inl rfl, h0 m4 _ (tk_VF S4)⟩, fun c => absurd rfl c⟩)
        exact ta_br e hg6 T3 e93
      exact go
    · have hg6 : 6 ≤ g := by
        rcases Nat.lt_or_ge g 6 with z | z
        · exact absurd ((nI_lt6 hg).mpr z) c
        · exact z
      exact And.intro (Or.inl rfl) (h0 m1 q (tk_VF S1))
  · have ne : ¬ t0 (bC s) l q = 91 := ne
    have ne : tc (bC s) l q ≠ 91 := fun c => ne ((t0_tc hB (by decide) (by decide)).mpr c)
    obtain ⟨r1, r2⟩ := tc_0 (b := bC s) (l := l) (p := q) hB
    have i1 : ((t0 (bC s) l q).toUInt32 % 65536).toInt32 = t0 (bC s) l q := i2c_id r1 r2
    have gd : (0 : Int32) ≤ ((t0 (bC s) l q).toUInt32 % 65536).toInt32 ∧ ((t0 (bC s) l q).toUInt32 % 65536).toInt32 < 256 := by
      rw [i1]
      exact ⟨Int32.le_iff_toInt_le.mpr (show (0 : Int32).toInt ≤ _ by rw [i32_0']; exact r1), Int32.lt_iff_toInt_lt.mpr (show _ < (256 : Int32).toInt by rw [show (256 : Int32).toInt = 256 by decide]; omega)⟩
    have ixe : qa_ix 2 ((t0 (bC s) l q).toUInt32 % 65536).toInt32 < 0 ↔ ltF (tc (bC s) l q) = -1 := by rw [i1, ix_lt, lt_t0]
    have step : qC false (d + 3) 1005 [lR 64 (some 2), lI ((t0 (bC s) l q).toUInt32 % 65536).toInt32] m1 (fun r m2 => ∃ v, r = some (lI v) ∧ v = qa_ix 2 ((t0 (bC s) l q).toUInt32 % 65536).toInt32 ∧ m2 = m1) := ⟨0, And.intro gd ⟨_, rfl, rfl, rfl⟩⟩
    refine qC_mono step (fun r m2 hr => ?_)
    obtain ⟨v, er, ev, em⟩ := hr
    subst em
    refine Exists.intro v (And.intro er ?_)
    refine And.intro (fun c => ?_) (fun c => ?_)
    · have c : v < 0 := c
      rw [ev] at c
      have hl1 := ixe.mp c
      refine h_numX (mm := 4) (by decide) pX_V hl2 S1 (fun m3 S3 hd => Exists.intro _ (And.intro rfl ?_)) (fun m3 S3 hd hd2 => Exists.intro _ (And.intro rfl ?_)) (fun m3 S3 hd hd2 => Exists.intro _ (And.intro rfl ?_))
      · rw [sk3] at S3 hd
        exact And.intro (fun _ => And.intro (Or.inl rfl) (h0 m3 q (tk_VF S3))) (fun q => absurd rfl q)
      · rw [sk3] at S3 hd hd2
        exact And.intro (fun _ => And.intro (Or.inl rfl) (h0 m3 _ (tk_VF S3))) (fun q => absurd rfl q)
      · rw [sk3] at S3 hd hd2
        refine And.intro (fun _ => ?_) (fun _ => ?_)
        · rename_i cv
          exact absurd cv (nv_ne (by decide))
        · have hdr : 1 ≤ dr (bC s) l 4 q := by
            show 1 ≤ (if dgB (tc (bC s) l q) = true then dr (bC s) l 3 (q + 1) + 1 else 0)
            rw [if_pos hd]
            omega
          have h3l := S3.1.2.2.2.2
          exact h_addT (x := (0, nvF (bC s) l 4 q 0)) (by rw [sk3]; exact cT_num) (by omega) S3 fun m4 S4 => And.intro rfl (And.intro (Or.inr rfl) (h1 m4 _ _ S4 (by rw [len_1]; omega) (by rw [← nvT_eq]; exact ta_num hd hd2)))
    · have c : ¬ v < 0 := c
      rw [ev] at c
      have hl1 : ltF (tc (bC s) l q) ≠ -1 := fun z => c (ixe.mpr z)
      have hd : dgB (tc (bC s) l q) = false := by
        cases hx : dgB (tc (bC s) l q) with
        | false => rfl
        | true =>
          exfalso
          obtain ⟨k, hk, ek⟩ := lt_cases hl1
          have a1 := of_decide_eq_true (qa_and hx).1
          have a2 := of_decide_eq_true (qa_and hx).2
          refine hl1 ?_
          unfold ltF
          have nn : ∀ z : Int32, 57 < z.toInt → tc (bC s) l q ≠ z := fun z hz e => by rw [e] at a2; omega
          rw [if_neg (nn 100 (by decide)), if_neg (nn 104 (by decide)), if_neg (nn 114 (by decide)), if_neg (nn 119 (by decide)), if_neg (nn 109 (by decide)), if_neg (nn 115 (by decide)), if_neg (nn 113 (by decide)), if_neg (nn 110 (by decide))]
      have hql : q < l := by
        rcases Nat.lt_or_ge q l with z | z
        · exact z
        · unfold tc at hl1
          rw [if_neg (by omega)] at hl1
          exact absurd (by decide) hl1
      refine h_stepX pX_V hl2 S1 hql fun m3 S3 => And.intro rfl ?_
      have ec : t0 (bC s) l q = tc (bC s) l q := by unfold t0 tc; rw [if_pos hql, if_pos hql]
      exact h_addT (x := (1, ltF (tc (bC s) l q))) (by rw [ec]; exact cT_let hl1) (by omega) S3 fun m4 S4 => And.intro rfl (And.intro (Or.inr rfl) (h1 m4 _ _ S4 (by rw [len_1]; omega) (ta_let hd hl1)))
theorem AT_ge {b : Nat → Int32} {nt p q : Nat} {T U : List Tk} (h : AT b l nt g p T q U) (hn : nt = 0 ∨ nt = 1 ∨ nt = 3) : p + 1 ≤ q := by
  obtain ⟨_, _, h⟩ := h
  exact (PT_ge h).2 hn
theorem ct_lV {bc bs : Nat} {T0 : List Tk} {p0 : Nat} {Φ : List Tk → Nat → List Tk → Prop} {R : LPost} (hB : tp_B (bC s) l) (hl2 : l ≤ 200) (ha : rdD (AT (bC s) l 0 g) l n s L0 73 (d + 4) [lI (nI g)]) (hT0 : L0.length + T0.length ≤ p0) (h1 : ∀ m' q U, tk_X (xV n s (L0 ++ U.map cT)) l s m' q → U.length + p0 ≤ q + T0.length → Φ T0 (sk (bC s) l q) U → R (some (lI 1)) m') (h0 : ∀ m' w, tk_X (kC n s) l s m' w → R (some (lI 0)) m') : ∀ f k z T m o5, l - sk (bC s) l z < f → k + 1 ≤ sk (bC s) l z → tk_X (xV n s (L0 ++ T.map cT)) l s m z → T.length + p0 ≤ z + T0.length → (∀ q U, AT (bC s) l 2 g (sk (bC s) l z) T q U → Φ T0 q U) → qW false (d + 4) 72 bc bs 10 [some (lR 8 (some n)), some (lR 1 (some 0)), some (lI (nI g)), some (lI 1), some (lI (nI k)), o5] [] m R := by
  intro f
  induction f with
  | zero => intro k z T m o5 hf; exact absurd hf (Nat.not_lt_zero _)
  | succ f ih =>
    intro k z T m o5 hf hk S hT K
    have sk2 : sk (bC s) l z ≤ max z l := sk_le z
    have sk3 : sk (bC s) l (sk (bC s) l z) = sk (bC s) l z := sk_sk z
    have hzl := S.1.2.2.2.2
    have hk2 : nI k < 200 := nI_lt (b := 200) (by omega) (by decide)
    refine qa_t1_W (cut := [10]) 80 ?_
    refine And.intro (fun q => absurd q (by decide)) (fun _ => ?_)
    refine And.intro (fun _ => ?_) (fun q => absurd hk2 q)
    refine h_nextX pX_V hl2 S fun m1 S1 => Exists.intro _ (And.intro rfl ?_)
    generalize hq : sk (bC s) l z = q at *
    have go : (tc (bC s) l q = 42 ∨ tc (bC s) l q = 47) → qC false (d + 4) 115 [lR 1 (some 0)] m1 (fun r m2 => r = none ∧ qC false (d + 4) 73 [lR 8 (some n), lR 1 (some 0), lI (nI g)] m2 (fun r m3 => ∃ v, r = some (lI v) ∧ qC false (d + 4) 63 [lR 8 (some n), lI (t0 (bC s) l q), lI 0] m3 (fun r m4 => r = none ∧ qW false (d + 4) 72 bc bs 10 [some (lR 8 (some n)), some (lR 1 (some 0)), some (lI (nI g)), some (lI v), some (lI (nI k + 1)), some (lI (t0 (bC s) l q))] [] m4 R))) := fun hc => by
      have hql : q < l := by
        rcases hc with c | c
        · exact tc_lt (by decide) c
        · exact tc_lt (by decide) c
      refine h_stepX pX_V hl2 S1 hql fun m2 S2 => And.intro rfl ?_
      have ec : t0 (bC s) l q = tc (bC s) l q := by unfold t0 tc; rw [if_pos hql, if_pos hql]
      have zq : z ≤ q := by rw [← hq]; exact sk_ge z
      refine ha T (q + 1) m2 _ S2 (by omega) (fun m3 z3 U S3 hU T3 => ⟨1, rfl, ?_⟩) (fun m3 w S3 => ⟨0, rfl, ?_⟩)
      · have h3l := S3.1.2.2.2.2
        refine h_addT (x := (opT (tc (bC s) l q), 0)) (by rw [ec]; rcases hc with c | c <;> rw [c] <;> decide) (by omega) S3 fun m4 S4 => And.intro rfl ?_
        rw [nI_1]
        have ge := AT_ge T3 (Or.inl rfl)
        have s1 : q + 1 ≤ sk (bC s) l (q + 1) := sk_ge (q + 1)
        exact ih (k + 1) z3 _ m4 _ (by omega) (by omega) S4 (by rw [len_1]; omega) (fun q U hU => K q U (ta_termL hc T3 hU))
      · refine h_addF S3 fun m4 S4 => And.intro rfl ?_
        refine qa_t1_W (cut := []) 20 ?_
        refine And.intro (fun _ => ?_) (fun q => absurd rfl q)
        exact And.intro (Or.inl rfl) (h0 m4 w S4)
    refine And.intro (fun e => go (Or.inl ((t0_tc hB (by decide) (by decide)).mp e))) (fun ne => And.intro (fun e => go (Or.inr ((t0_tc hB (by decide) (by decide)).mp e))) (fun ne2 => ?_))
    refine And.intro (Or.inr rfl) (h1 m1 q T S1 (by have : z ≤ q := (by rw [← hq]; exact sk_ge z); omega) ?_)
    rw [sk3]
    refine K _ _ (ta_termL0 (fun c => ?_))
    rcases c with c | c
    · exact ne ((t0_tc hB (by decide) (by decide)).mpr c)
    · exact ne2 ((t0_tc hB (by decide) (by decide)).mpr c)
theorem c_termV (hB : tp_B (bC s) l) (hl2 : l ≤ 200) (ha : rdD (AT (bC s) l 0 g) l n s L0 73 (d + 4) [lI (nI g)]) : rdD (AT (bC s) l 1 g) l n s L0 72 (d + 5) [lI (nI g)] := fun T p m R S hT h1 h0 => by
  refine qC_of rfl rfl ?_
  refine qa_t1_W (cut := [10]) 30 ?_
  refine ha T p m _ S hT (fun m1 q U S1 hU T1 => Exists.intro 1 (And.intro rfl ?_)) (fun m1 w S1 => Exists.intro 0 (And.intro rfl ?_))
  · have ge := AT_ge T1 (Or.inl rfl)
    exact ct_lV (Φ := AT (bC s) l 1 g (sk (bC s) l p)) hB hl2 ha hT h1 h0 (l - sk (bC s) l q + 1) 0 q U m1 _ (by omega) (by omega) S1 hU (fun q2 V hV => ta_term T1 hV)
  · refine qa_t1_W (cut := []) 20 ?_
    refine And.intro (fun _ => ?_) (fun q => absurd rfl q)
    exact And.intro (Or.inl rfl) (h0 m1 w S1)
theorem cs_lV {bc bs : Nat} {T0 : List Tk} {p0 : Nat} {Φ : List Tk → Nat → List Tk → Prop} {R : LPost} (hB : tp_B (bC s) l) (hl2 : l ≤ 200) (ha : rdD (AT (bC s) l 1 g) l n s L0 72 (d + 5) [lI (nI g)]) (hT0 : L0.length + T0.length ≤ p0) (h1 : ∀ m' q U, tk_X (xV n s (L0 ++ U.map cT)) l s m' q → U.length + p0 ≤ q + T0.length → Φ T0 (sk (bC s) l q) U → R (some (lI 1)) m') (h0 : ∀ m' w, tk_X (kC n s) l s m' w → R (some (lI 0)) m') : ∀ f k z T m o5, l - sk (bC s) l z < f → k + 1 ≤ sk (bC s) l z → tk_X (xV n s (L0 ++ T.map cT)) l s m z → T.length + p0 ≤ z + T0.length → (∀ q U, AT (bC s) l 4 g (sk (bC s) l z) T q U → Φ T0 q U) → qW false (d + 5) 71 bc bs 10 [some (lR 8 (some n)), some (lR 1 (some 0)), some (lI (nI g)), some (lI 1), some (lI (nI k)), o5] [] m R := by
  intro f
  induction f with
  | zero => intro k z T m o5 hf; exact absurd hf (Nat.not_lt_zero _)
  | succ f ih =>
    intro k z T m o5 hf hk S hT K
    have sk2 : sk (bC s) l z ≤ max z l := sk_le z
    have sk3 : sk (bC s) l (sk (bC s) l z) = sk (bC s) l z := sk_sk z
    have hzl := S.1.2.2.2.2
    have hk2 : nI k < 200 := nI_lt (b := 200) (by omega) (by decide)
    refine qa_t1_W (cut := [10]) 80 ?_
    refine And.intro (fun q => absurd q (by decide)) (fun _ => ?_)
    refine And.intro (fun _ => ?_) (fun q => absurd hk2 q)
    refine h_nextX pX_V hl2 S fun m1 S1 => Exists.intro _ (And.intro rfl ?_)
    generalize hq : sk (bC s) l z = q at *
    have go : (tc (bC s) l q = 43 ∨ tc (bC s) l q = 45) → qC false (d + 5) 115 [lR 1 (some 0)] m1 (fun r m2 => r = none ∧ qC false (d + 5) 72 [lR 8 (some n), lR 1 (some 0), lI (nI g)] m2 (fun r m3 => ∃ v, r = some (lI v) ∧ qC false (d + 5) 63 [lR 8 (some n), lI (t0 (bC s) l q), lI 0] m3 (fun r m4 => r = none ∧ qW false (d + 5) 71 bc bs 10 [some (lR 8 (some n)), some (lR 1 (some 0)), some (lI (nI g)), some (lI v), some (lI (nI k + 1)), some (lI (t0 (bC s) l q))] [] m4 R))) := fun hc => by
      have hql : q < l := by
        rcases hc with c | c
        · exact tc_lt (by decide) c
        · exact tc_lt (by decide) c
      refine h_stepX pX_V hl2 S1 hql fun m2 S2 => And.intro rfl ?_
      have ec : t0 (bC s) l q = tc (bC s) l q := by unfold t0 tc; rw [if_pos hql, if_pos hql]
      have zq : z ≤ q := by rw [← hq]; exact sk_ge z
      refine ha T (q + 1) m2 _ S2 (by omega) (fun m3 z3 U S3 hU T3 => ⟨1, rfl, ?_⟩) (fun m3 w S3 => ⟨0, rfl, ?_⟩)
      · have h3l := S3.1.2.2.2.2
        refine h_addT (x := (opT (tc (bC s) l q), 0)) (by rw [ec]; rcases hc with c | c <;> rw [c] <;> decide) (by omega) S3 fun m4 S4 => And.intro rfl ?_
        rw [nI_1]
        have ge := AT_ge T3 (Or.inr (Or.inl rfl))
        have s1 : q + 1 ≤ sk (bC s) l (q + 1) := sk_ge (q + 1)
        exact ih (k + 1) z3 _ m4 _ (by omega) (by omega) S4 (by rw [len_1]; omega) (fun q U hU => K q U (ta_sumL hc T3 hU))
      · refine h_addF S3 fun m4 S4 => And.intro rfl ?_
        refine qa_t1_W (cut := []) 20 ?_
        refine And.intro (fun _ => ?_) (fun q => absurd rfl q)
        exact And.intro (Or.inl rfl) (h0 m4 w S4)
    refine And.intro (fun e => go (Or.inl ((t0_tc hB (by decide) (by decide)).mp e))) (fun ne => And.intro (fun e => go (Or.inr ((t0_tc hB (by decide) (by decide)).mp e))) (fun ne2 => ?_))
    refine And.intro (Or.inr rfl) (h1 m1 q T S1 (by have : z ≤ q := (by rw [← hq]; exact sk_ge z); omega) ?_)
    rw [sk3]
    refine K _ _ (ta_sumL0 (fun c => ?_))
    rcases c with c | c
    · exact ne ((t0_tc hB (by decide) (by decide)).mpr c)
    · exact ne2 ((t0_tc hB (by decide) (by decide)).mpr c)
theorem c_sumV (hB : tp_B (bC s) l) (hl2 : l ≤ 200) (ha : rdD (AT (bC s) l 1 g) l n s L0 72 (d + 5) [lI (nI g)]) : rdD (AT (bC s) l 3 g) l n s L0 71 (d + 6) [lI (nI g)] := fun T p m R S hT h1 h0 => by
  refine qC_of rfl rfl ?_
  refine qa_t1_W (cut := [10]) 30 ?_
  refine ha T p m _ S hT (fun m1 q U S1 hU T1 => Exists.intro 1 (And.intro rfl ?_)) (fun m1 w S1 => Exists.intro 0 (And.intro rfl ?_))
  · have ge := AT_ge T1 (Or.inr (Or.inl rfl))
    exact cs_lV (Φ := AT (bC s) l 3 g (sk (bC s) l p)) hB hl2 ha hT h1 h0 (l - sk (bC s) l q + 1) 0 q U m1 _ (by omega) (by omega) S1 hU (fun q2 V hV => ta_sum T1 hV)
  · refine qa_t1_W (cut := []) 20 ?_
    refine And.intro (fun _ => ?_) (fun q => absurd rfl q)
    exact And.intro (Or.inl rfl) (h0 m1 w S1)
end CAV
theorem c_sumGV {l n : Nat} {s : LMem} {L0 : List Ck} (hB : tp_B (bC s) l) (hl2 : l ≤ 200) : ∀ k g, g + k = 6 → ∀ d, rdD (AT (bC s) l 3 g) l n s L0 71 (d + 3 * k + 6) [lI (nI g)] := by
  intro k
  induction k with
  | zero =>
    intro g hg d
    have a := c_atomV (L0 := L0) (d := d) (n := n) hB hl2 (show g ≤ 6 by omega) (fun q => absurd q (by omega))
    exact c_sumV hB hl2 (c_termV hB hl2 a)
  | succ k ih =>
    intro g hg d
    have a := c_atomV (L0 := L0) (d := d + 3 * k + 3) (n := n) hB hl2 (show g ≤ 6 by omega) (fun _ => ih (g + 1) (by omega) d)
    have e : d + 3 * (k + 1) + 6 = d + 3 * k + 3 + 6 := by omega
    rw [e]
    exact c_sumV hB hl2 (c_termV hB hl2 a)
