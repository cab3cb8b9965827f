/-! THE CLASS'S TAPE, by what it answers: next, step, takes, isThrough, number; add. -/
abbrev bC (s : LMem) : Nat → Int32 := fun p => gI s 2 0 p
def t0 (b : Nat → Int32) (l p : Nat) : Int32 := if p < l then b p else 0
/-- the bytes of a tape: none is 0 -/
def tp_B (b : Nat → Int32) (l : Nat) : Prop := ∀ p, p < l → 1 ≤ (b p).toInt ∧ (b p).toInt ≤ 255
/-- while the class reads: J, length, bytes as at s; place = p -/
def tk_S (l : Nat) (s m : LMem) (p : Nat) : Prop := y_J x_X m ∧ gI m 1 0 1 = nI l ∧ bC m = bC s ∧ gI m 1 0 2 = nI p ∧ p ≤ l
theorem t0_tc {b : Nat → Int32} {l p : Nat} (hB : tp_B b l) {x : Int32} (hx : x ≠ 0) (hx1 : x ≠ -1) : t0 b l p = x ↔ tc b l p = x := by
  unfold t0 tc
  by_cases e : p < l
  · rw [if_pos e, if_pos e]
  · rw [if_neg e, if_neg e]
    exact ⟨fun h => absurd h.symm hx, fun h => absurd h.symm hx1⟩
theorem t0_0 {b : Nat → Int32} {l p : Nat} (hB : tp_B b l) : t0 b l p = 0 ↔ tc b l p = -1 := by
  unfold t0 tc
  by_cases e : p < l
  · rw [if_pos e, if_pos e]
    obtain ⟨h1, h2⟩ := hB p e
    constructor
    · intro h
      rw [h] at h1
      exact absurd h1 (by decide)
    · intro h
      rw [h] at h1
      exact absurd h1 (by decide)
  · rw [if_neg e, if_neg e]
    exact ⟨fun _ => rfl, fun _ => rfl⟩
theorem t0_dg {b : Nat → Int32} {l p : Nat} : dg (t0 b l p) ↔ dg (tc b l p) := by
  unfold t0 tc
  by_cases e : p < l
  · rw [if_pos e, if_pos e]
  · rw [if_neg e, if_neg e]
    exact ⟨fun h => absurd h.1 (by decide), fun h => absurd h.1 (by decide)⟩
section CT
variable {d bc bs l p : Nat} {s m : LMem} {Q : LPost}
theorem tk_pl {q : Nat} (S : tk_S l s m p) (hl2 : l ≤ 200) (hq : q ≤ l) : tk_S l s (sI m 1 0 2 (nI q)) q := by
  obtain ⟨J, h1, h2, h3, h4⟩ := S
  refine ⟨y_J_w J (fun r hr g1 g2 => ?_) (x_npr rfl), ?_, ?_, ?_, hq⟩
  · have hr : r ∈ [((1 : Int), (1 : Int), (0 : Int), (200 : Int)), (2, 2, 0, 200)] := hr
    rcases List.mem_cons.mp hr with rfl | hr
    · exact absurd g2 (by decide)
    · rw [List.mem_singleton.mp hr, nI_toInt (by omega)]
      show (0 : Int) ≤ (q : Int) ∧ (q : Int) ≤ 200
      omega
  · rw [gI_sI, if_neg (fun q => absurd q.2.2 (by decide)), h1]
  · rw [← h2]
    exact funext fun j => by
      show gI (sI m 1 0 2 (nI q)) 2 0 j = gI m 2 0 j
      rw [gI_sI, if_neg (fun q => absurd q.1 (by decide))]
  · rw [gI_sI, if_pos ⟨rfl, rfl, rfl⟩]
theorem nc_t (hl2 : l ≤ 200) (S : tk_S l s m p) (h : Q (some (lI (t0 (bC s) l p))) m) : qW false d 114 bc bs 50 [some (lR 1 (some 0))] [] m Q := by
  obtain ⟨J, el, eb, ep, hpl⟩ := S
  unfold t0 at h
  by_cases e : p < l
  · rw [if_pos e] at h
    have c1 : gI m 1 0 2 < gI m 1 0 1 := by rw [ep, el]; exact nI_lt e (by omega)
    have c2 : gI m 1 0 2 < 200 := by rw [ep]; exact nI_lt (b := 200) (by omega) (by decide)
    have hv : qa_vin (gI m 1 0 2) 200 := by rw [ep]; exact nI_in (by omega) (by decide)
    have h3 : Q (some (lI (gI m 2 0 (gI m 1 0 2).toNatClampNeg))) m := by
      rw [ep, nI_clamp (by omega), show gI m 2 0 p = bC s p from congrFun eb p]
      exact h
    refine qa_t1_W (cut := []) 30 ?_
    refine And.intro (fun _ => ?_) (fun q => absurd c1 q)
    refine And.intro (fun _ => ?_) (fun q => absurd c2 q)
    exact And.intro hv h3
  · rw [if_neg e] at h
    have c1 : ¬ gI m 1 0 2 < gI m 1 0 1 := by rw [ep, el]; exact nI_nlt (by omega) (by omega)
    refine qa_t1_W (cut := []) 30 ?_
    exact And.intro (fun q => absurd q c1) (fun _ => h)
theorem nc_l (hl2 : l ≤ 200) {p0 : Nat} (h : ∀ m, tk_S l s m (sk (bC s) l p0) → Q (some (lI (t0 (bC s) l (sk (bC s) l p0)))) m) : ∀ n p m, l - p < n → sk (bC s) l p = sk (bC s) l p0 → tk_S l s m p → qW false d 114 bc bs 0 [some (lR 1 (some 0))] [] m Q := by
  intro n
  induction n with
  | zero => intro p m hp; exact absurd hp (Nat.not_lt_zero _)
  | succ n ih =>
    intro p m hp h0 S
    have S0 := S
    obtain ⟨J, el, eb, ep, hpl⟩ := S
    have stop : tc (bC s) l p ≠ 32 → qW false d 114 bc bs 50 [some (lR 1 (some 0))] [] m Q := fun hne => by
      have hp0 : sk (bC s) l p0 = p := by rw [← h0, sk_n hne]
      have h9 := h m (by rw [hp0]; exact S0)
      rw [hp0] at h9
      exact nc_t hl2 S0 h9
    by_cases e : p < l
    · have c1 : gI m 1 0 2 < gI m 1 0 1 := by rw [ep, el]; exact nI_lt e (by omega)
      have c2 : gI m 1 0 2 < 200 := by rw [ep]; exact nI_lt (b := 200) (by omega) (by decide)
      have hv : qa_vin (gI m 1 0 2) 200 := by rw [ep]; exact nI_in (by omega) (by decide)
      have eb2 : gI m 2 0 (gI m 1 0 2).toNatClampNeg = tc (bC s) l p := by
        rw [ep, nI_clamp (by omega), show gI m 2 0 p = bC s p from congrFun eb p]
        unfold tc
        rw [if_pos e]
      refine qa_t1_W (cut := [0, 50]) 40 ?_
      refine And.intro (fun _ => ?_) (fun q => absurd c1 q)
      refine And.intro (fun _ => ?_) (fun q => absurd c2 q)
      refine And.intro hv ?_
      refine And.intro (fun e32 => ?_) (fun ne => ?_)
      · have e32 : gI m 2 0 (gI m 1 0 2).toNatClampNeg = 32 := e32
        rw [eb2] at e32
        have ih2 : qW false d 114 bc bs 0 [some (lR 1 (some 0))] [] (sI m 1 0 2 (gI m 1 0 2 + 1)) Q := by
          rw [ep, nI_1]
          exact ih (p + 1) _ (by omega) (by rw [← sk_b e32, h0]) (tk_pl S0 hl2 (by omega))
        exact ih2
      · have ne : ¬ gI m 2 0 (gI m 1 0 2).toNatClampNeg = 32 := ne
        rw [eb2] at ne
        exact stop ne
    · have c1 : ¬ gI m 1 0 2 < gI m 1 0 1 := by rw [ep, el]; exact nI_nlt (by omega) (by omega)
      have hne : tc (bC s) l p ≠ 32 := by
        unfold tc
        rw [if_neg e]
        decide
      refine qa_t1_W (cut := [0, 50]) 40 ?_
      exact And.intro (fun q => absurd q c1) (fun _ => stop hne)
theorem h_nextC (hl2 : l ≤ 200) (S : tk_S l s m p) (h : ∀ m, tk_S l s m (sk (bC s) l p) → Q (some (lI (t0 (bC s) l (sk (bC s) l p)))) m) : qC false (d + 1) 114 [lR 1 (some 0)] m Q :=
  qC_of rfl rfl (nc_l hl2 h (l - p + 1) p m (by omega) rfl S)
theorem h_stepC (hl2 : l ≤ 200) (S : tk_S l s m p) (hp : p < l) (h : ∀ m, tk_S l s m (p + 1) → Q none m) : qC false (d + 1) 115 [lR 1 (some 0)] m Q := by
  have st : Q none (sI m 1 0 2 (gI m 1 0 2 + 1)) := by
    rw [S.2.2.2.1, nI_1]
    exact h _ (tk_pl S hl2 (by omega))
  refine qC_of rfl rfl ?_
  refine qa_t1_W (cut := []) 20 ?_
  exact st
/-- takes: the sign goes by, or the place is at what stands there -/
theorem h_takesC {x : Int32} (hB : tp_B (bC s) l) (hl2 : l ≤ 200) (S : tk_S l s m p) (hx : x ≠ 0) (hx1 : x ≠ -1) (h1 : ∀ m, tk_S l s m (sk (bC s) l p + 1) → tc (bC s) l (sk (bC s) l p) = x → Q (some (lI 1)) m) (h0 : ∀ m, tk_S l s m (sk (bC s) l p) → tc (bC s) l (sk (bC s) l p) ≠ x → Q (some (lI 0)) m) : qC false (d + 2) 118 [lR 1 (some 0), lI x] m Q := by
  refine qC_of rfl rfl ?_
  refine qa_t1_W (cut := []) 30 ?_
  refine h_nextC hl2 S fun m1 S1 => Exists.intro _ (And.intro rfl ?_)
  refine And.intro (fun e => ?_) (fun ne => ?_)
  · have e : t0 (bC s) l (sk (bC s) l p) = x := e
    have e2 := (t0_tc hB hx hx1).mp e
    have hlt := tc_lt hx1 e2
    have st : Q (some (lI 1)) (sI m1 1 0 2 (gI m1 1 0 2 + 1)) := by
      rw [S1.2.2.2.1, nI_1]
      exact h1 _ (tk_pl S1 hl2 (by omega)) e2
    exact And.intro (Or.inr rfl) st
  · have ne : ¬ t0 (bC s) l (sk (bC s) l p) = x := ne
    exact And.intro (Or.inl rfl) (h0 m1 S1 (fun c => ne ((t0_tc hB hx hx1).mpr c)))
theorem h_thruC (hB : tp_B (bC s) l) (hl2 : l ≤ 200) (S : tk_S l s m p) (h1 : ∀ m, tk_S l s m (sk (bC s) l p) → tc (bC s) l (sk (bC s) l p) = -1 → Q (some (lI 1)) m) (h0 : ∀ m, tk_S l s m (sk (bC s) l p) → tc (bC s) l (sk (bC s) l p) ≠ -1 → Q (some (lI 0)) m) : qC false (d + 2) 117 [lR 1 (some 0)] m Q := by
  refine qC_of rfl rfl ?_
  refine qa_t1_W (cut := []) 30 ?_
  refine h_nextC hl2 S fun m1 S1 => Exists.intro _ (And.intro rfl ?_)
  refine And.intro (fun e => ?_) (fun ne => ?_)
  · exact And.intro (Or.inr rfl) (h1 m1 S1 ((t0_0 hB).mp e))
  · exact And.intro (Or.inl rfl) (h0 m1 S1 (fun c => ne ((t0_0 hB).mpr c)))
/-- the value of digits -/
def nvF (b : Nat → Int32) (l : Nat) : Nat → Nat → Int32 → Int32
  | 0, _, a => a
  | n + 1, p, a => if dgB (tc b l p) = true then nvF b l n (p + 1) (a * 10 + b p - 48) else a
theorem nb_l {mm : Nat} (hmm : mm ≤ 4) (hl2 : l ≤ 200) {q0 : Nat} (hno : ∀ m, tk_S l s m (q0 + dr (bC s) l mm q0) → dgB (tc (bC s) l (q0 + dr (bC s) l mm q0)) = true → Q (some (lI (-1))) m) (h : ∀ m, tk_S l s m (q0 + dr (bC s) l mm q0) → dgB (tc (bC s) l (q0 + dr (bC s) l mm q0)) = false → Q (some (lI (nvF (bC s) l mm q0 0))) m) : ∀ j k m v, k + j = mm → k + dr (bC s) l j (q0 + k) = dr (bC s) l mm q0 → nvF (bC s) l j (q0 + k) v = nvF (bC s) l mm q0 0 → tk_S l s m (q0 + k) → qW false (d + 1) 119 bc bs 16 [some (lR 1 (some 0)), some (lI (nI mm)), some (lI v), some (lI (nI k))] [] m Q := by
  intro j
  induction j with
  | zero =>
    intro k m v hk hd hv S
    have hk : k = mm := hk
    subst hk
    have hd : k = dr (bC s) l k q0 := hd
    have hv : v = nvF (bC s) l k q0 0 := hv
    rw [← hd, ← hv] at h
    rw [← hd] at hno
    have S0 := S
    obtain ⟨J, el, eb, ep, hpl⟩ := S
    by_cases e : q0 + k < l
    · have c1 : gI m 1 0 2 < gI m 1 0 1 := by rw [ep, el]; exact nI_lt e (by omega)
      have c2 : gI m 1 0 2 < 200 := by rw [ep]; exact nI_lt (b := 200) (by omega) (by decide)
      have hvi : qa_vin (gI m 1 0 2) 200 := by rw [ep]; exact nI_in (by omega) (by decide)
      have eb2 : gI m 2 0 (gI m 1 0 2).toNatClampNeg = tc (bC s) l (q0 + k) := by
        rw [ep, nI_clamp (by omega), show gI m 2 0 (q0 + k) = bC s (q0 + k) from congrFun eb _]
        unfold tc
        rw [if_pos e]
      refine qa_t1_W (cut := [16]) 80 ?_
      refine And.intro (fun _ => ?_) (fun q => absurd c1 q)
      refine And.intro (fun _ => ?_) (fun q => absurd c2 q)
      refine And.intro hvi ?_
      refine h_dig (fun hd => Exists.intro _ (And.intro rfl ?_)) (fun hd => Exists.intro _ (And.intro rfl ?_))
      · have hd : dg (gI m 2 0 (gI m 1 0 2).toNatClampNeg) := hd
        rw [eb2] at hd
        refine And.intro (fun q => absurd q (by decide)) (fun _ => ?_)
        exact And.intro (fun _ => hno m S0 (dgB_t hd)) (fun q => absurd rfl q)
      · have hd : ¬ dg (gI m 2 0 (gI m 1 0 2).toNatClampNeg) := hd
        rw [eb2] at hd
        exact And.intro (fun _ => h m S0 (dgB_f hd)) (fun q => absurd rfl q)
    · have c1 : ¬ gI m 1 0 2 < gI m 1 0 1 := by rw [ep, el]; exact nI_nlt (by omega) (by omega)
      have hf : dgB (tc (bC s) l (q0 + k)) = false := by
        unfold tc
        rw [if_neg e]
        rfl
      refine qa_t1_W (cut := [16]) 30 ?_
      exact And.intro (fun q => absurd q c1) (fun _ => h m S0 hf)
  | succ j ih =>
    intro k m v hk hd hv S
    have S0 := S
    obtain ⟨J, el, eb, ep, hpl⟩ := S
    have hd : k + (if dgB (tc (bC s) l (q0 + k)) = true then dr (bC s) l j (q0 + k + 1) + 1 else 0) = dr (bC s) l mm q0 := hd
    have hv : (if dgB (tc (bC s) l (q0 + k)) = true then nvF (bC s) l j (q0 + k + 1) (v * 10 + bC s (q0 + k) - 48) else v) = nvF (bC s) l mm q0 0 := hv
    have stop : dgB (tc (bC s) l (q0 + k)) = false → Q (some (lI v)) m := fun hf => by
      rw [if_neg (by rw [hf]; decide)] at hd hv
      have hd : k = dr (bC s) l mm q0 := hd
      rw [← hd, ← hv] at h
      exact h m S0 hf
    by_cases e : q0 + k < l
    · have c1 : gI m 1 0 2 < gI m 1 0 1 := by rw [ep, el]; exact nI_lt e (by omega)
      have c2 : gI m 1 0 2 < 200 := by rw [ep]; exact nI_lt (b := 200) (by omega) (by decide)
      have hvi : qa_vin (gI m 1 0 2) 200 := by rw [ep]; exact nI_in (by omega) (by decide)
      have eb3 : gI m 2 0 (gI m 1 0 2).toNatClampNeg = bC s (q0 + k) := by
        rw [ep, nI_clamp (by omega)]
        exact congrFun eb _
      have eb2 : gI m 2 0 (gI m 1 0 2).toNatClampNeg = tc (bC s) l (q0 + k) := by
        rw [eb3]
        unfold tc
        rw [if_pos e]
      refine qa_t1_W (cut := [16]) 80 ?_
      refine And.intro (fun _ => ?_) (fun q => absurd c1 q)
      refine And.intro (fun _ => ?_) (fun q => absurd c2 q)
      refine And.intro hvi ?_
      refine h_dig (fun hg => Exists.intro _ (And.intro rfl ?_)) (fun hg => Exists.intro _ (And.intro rfl ?_))
      · have hg : dg (gI m 2 0 (gI m 1 0 2).toNatClampNeg) := hg
        rw [eb2] at hg
        have hg := dgB_t hg
        rw [if_pos hg] at hd hv
        refine And.intro (fun q => absurd q (by decide)) (fun _ => ?_)
        refine And.intro (fun q => ?_) (fun _ => ?_)
        · have q := congrArg Int32.toInt q
          rw [nI_toInt (by omega), nI_toInt (by omega)] at q
          omega
        · have ih2 : qW false (d + 1) 119 bc bs 16 [some (lR 1 (some 0)), some (lI (nI mm)), some (lI (v * 10 + gI m 2 0 (gI m 1 0 2).toNatClampNeg - 48)), some (lI (nI k + 1))] [] (sI m 1 0 2 (gI m 1 0 2 + 1)) Q := by
            rw [eb3, ep, nI_1, nI_1]
            exact ih (k + 1) _ _ (by omega) (by rw [show q0 + (k + 1) = q0 + k + 1 by omega]; omega) (by rw [show q0 + (k + 1) = q0 + k + 1 by omega]; exact hv) (tk_pl S0 hl2 (by omega))
          exact And.intro hvi ih2
      · have hg : ¬ dg (gI m 2 0 (gI m 1 0 2).toNatClampNeg) := hg
        rw [eb2] at hg
        exact And.intro (fun _ => stop (dgB_f hg)) (fun q => absurd rfl q)
    · have c1 : ¬ gI m 1 0 2 < gI m 1 0 1 := by rw [ep, el]; exact nI_nlt (by omega) (by omega)
      have hf : dgB (tc (bC s) l (q0 + k)) = false := by
        unfold tc
        rw [if_neg e]
        rfl
      refine qa_t1_W (cut := [16]) 30 ?_
      exact And.intro (fun q => absurd q c1) (fun _ => stop hf)
/-- number: NONE where no digit stands, or behind so many stands one more; else the value -/
theorem h_numC {mm : Nat} (hmm : mm ≤ 4) (hl2 : l ≤ 200) (S : tk_S l s m p) (h0 : ∀ m, tk_S l s m (sk (bC s) l p) → dgB (tc (bC s) l (sk (bC s) l p)) = false → Q (some (lI (-1))) m) (h1 : ∀ m, tk_S l s m (sk (bC s) l p + dr (bC s) l mm (sk (bC s) l p)) → dgB (tc (bC s) l (sk (bC s) l p)) = true → dgB (tc (bC s) l (sk (bC s) l p + dr (bC s) l mm (sk (bC s) l p))) = true → Q (some (lI (-1))) m) (h : ∀ m, tk_S l s m (sk (bC s) l p + dr (bC s) l mm (sk (bC s) l p)) → dgB (tc (bC s) l (sk (bC s) l p)) = true → dgB (tc (bC s) l (sk (bC s) l p + dr (bC s) l mm (sk (bC s) l p))) = false → Q (some (lI (nvF (bC s) l mm (sk (bC s) l p) 0))) m) : qC false (d + 2) 119 [lR 1 (some 0), lI (nI mm)] m Q := by
  refine qC_of rfl rfl ?_
  refine qa_t1_W (cut := [16]) 30 ?_
  refine h_nextC hl2 S fun m1 S1 => Exists.intro _ (And.intro rfl ?_)
  refine h_dig (fun hd => Exists.intro _ (And.intro rfl ?_)) (fun hd => Exists.intro _ (And.intro rfl ?_))
  · have hd := dgB_t (t0_dg.mp hd)
    refine And.intro (fun q => absurd q (by decide)) (fun _ => ?_)
    exact nb_l hmm hl2 (fun m S h2 => h1 m S hd h2) (fun m S h2 => h m S hd h2) mm 0 m1 0 (Nat.zero_add _) (by rw [Nat.zero_add, Nat.add_zero]) (by rw [Nat.add_zero]) S1
  · have hd := dgB_f (fun c => hd (t0_dg.mpr c))
    exact And.intro (fun _ => h0 m1 S1 hd) (fun q => absurd rfl q)
/-- add -/
theorem h_addC {n : Nat} {a b : Int32} (S : tk_S l s m p) (h : ∀ m, tk_S l s m p → Q none m) : qC false (d + 1) 63 [lR 8 (some n), lI a, lI b] m Q := by
  have S0 := S
  obtain ⟨J, el, eb, ep, hpl⟩ := S
  obtain ⟨z, hz2, hz⟩ := y_nIof2 (N := 200) (x := gI m 8 n 2) (J.1 8 n 2 (2, 2, 0, 200) (by decide) (by decide) (by decide)).1 (J.1 8 n 2 (2, 2, 0, 200) (by decide) (by decide) (by decide)).2
  by_cases e : z < 200
  · have c2 : gI m 8 n 2 < 200 := by rw [hz]; exact nI_lt (b := 200) e (by decide)
    have hv : qa_vin (gI m 8 n 2) 200 := by rw [hz]; exact nI_in (by omega) (by decide)
    have J1 : y_J x_X (sI m 9 n z a) := y_J_w J (fun r hr _ _ => absurd hr List.not_mem_nil) (x_npr rfl)
    have J2 : y_J x_X (sI (sI m 9 n z a) 10 n z b) := y_J_w J1 (fun r hr _ _ => absurd hr List.not_mem_nil) (x_npr rfl)
    have J3 : y_J x_X (sI (sI (sI m 9 n z a) 10 n z b) 8 n 2 (nI (z + 1))) := y_J_w J2 (fun r hr g1 g2 => by
      have hr : r ∈ [((2 : Int), (2 : Int), (0 : Int), (200 : Int))] := hr
      rw [List.mem_singleton.mp hr, nI_toInt (by omega)]
      show (0 : Int) ≤ ((z + 1 : Nat) : Int) ∧ ((z + 1 : Nat) : Int) ≤ 200
      omega) (x_npr rfl)
    have g : ∀ k i j, k ≠ 8 → k ≠ 9 → k ≠ 10 → gI (sI (sI (sI m 9 n z a) 10 n z b) 8 n 2 (nI (z + 1))) k i j = gI m k i j := fun k i j g1 g2 g3 => by
      rw [gI_sI, if_neg (fun q => g1 q.1), gI_sI, if_neg (fun q => g3 q.1), gI_sI, if_neg (fun q => g2 q.1)]
    have fin : Q none (sI (sI (sI m 9 n z a) 10 n z b) 8 n 2 (nI (z + 1))) := by
      refine h _ ⟨J3, by rw [g 1 0 1 (by decide) (by decide) (by decide), el], ?_, by rw [g 1 0 2 (by decide) (by decide) (by decide), ep], hpl⟩
      rw [← eb]
      exact funext fun j => g 2 0 j (by decide) (by decide) (by decide)
    have z1 : gI (sI m 9 n z a) 8 n 2 = nI z := by rw [gI_sI, if_neg (fun q => absurd q.1 (by decide)), hz]
    have z2 : gI (sI (sI m 9 n z a) 10 n z b) 8 n 2 = nI z := by rw [gI_sI, if_neg (fun q => absurd q.1 (by decide)), z1]
    have cz : (nI z).toNatClampNeg = z := nI_clamp (by omega)
    have fin2 : Q none (sI (sI (sI m 9 n (gI m 8 n 2).toNatClampNeg a) 10 n (gI (sI m 9 n (gI m 8 n 2).toNatClampNeg a) 8 n 2).toNatClampNeg b) 8 n 2 (gI (sI (sI m 9 n (gI m 8 n 2).toNatClampNeg a) 10 n (gI (sI m 9 n (gI m 8 n 2).toNatClampNeg a) 8 n 2).toNatClampNeg b) 8 n 2 + 1)) := by
      rw [hz, cz, z1, cz, z2, nI_1]
      exact fin
    have hv2 : qa_vin (gI (sI m 9 n (gI m 8 n 2).toNatClampNeg a) 8 n 2) 200 := by
      rw [hz, cz, z1]
      exact nI_in (by omega) (by decide)
    refine qC_of rfl rfl ?_
    refine qa_t1_W (cut := []) 60 ?_
    refine And.intro (fun _ => ?_) (fun q => absurd c2 q)
    refine And.intro (fun _ => ?_) (fun q => absurd c2 q)
    exact And.intro hv (And.intro hv2 fin2)
  · have c2 : ¬ gI m 8 n 2 < 200 := by rw [hz]; exact nI_nlt (b := 200) (by omega) (by omega)
    refine qC_of rfl rfl ?_
    refine qa_t1_W (cut := []) 60 ?_
    exact And.intro (fun q => absurd q c2) (fun _ => h m S0)
end CT
/-! THE CLASS'S READER OF LAWS answers as Pr: atom, term, sum. -/
theorem i2c_id {x : Int32} (h0 : 0 ≤ x.toInt) (h1 : x.toInt ≤ 255) : (x.toUInt32 % 65536).toInt32 = x := by
  obtain ⟨u1, u2⟩ := y_nat (x := x) (by omega)
  have h5 : ((x.toUInt32 % 65536).toInt32).toBitVec.toNat = x.toBitVec.toNat % 65536 := by
    show (x.toUInt32 % 65536).toNat = _
    rw [UInt32.toNat_mod]
    rfl
  have h6 : x.toBitVec.toNat % 65536 = x.toBitVec.toNat := Nat.mod_eq_of_lt (by omega)
  rw [h6] at h5
  refine Int32.toInt_inj.mp ?_
  rw [y_ofnat h5 u2, ← u1]
theorem nv_step {a k : Nat} {x : Int32} (ha : a ≤ 1000000) (hx : x = nI k) (h1 : 48 ≤ k) (h2 : k ≤ 57) : nI a * 10 + x - 48 = nI (a * 10 + (k - 48)) := by
  have e48 : (48 : Int32).toInt = 48 := by decide
  apply Int32.toInt_inj.mp
  rw [hx, show (10 : Int32) = nI 10 from rfl, nI_mul, nI_add, y_subI, nI_toInt (by omega), nI_toInt (by omega)]
  · omega
  · rw [nI_toInt (by omega)]; omega
  · rw [nI_toInt (by omega)]; omega
/-- digits make a number -/
theorem nv_nat {b : Nat → Int32} {l : Nat} : ∀ n p a, (a + 1) * 10 ^ n ≤ 1000000 → ∃ v, nvF b l n p (nI a) = nI v ∧ v < (a + 1) * 10 ^ n := by
  intro n
  induction n with
  | zero => intro p a ha; exact ⟨a, rfl, by omega⟩
  | succ n ih =>
    intro p a ha
    have e10 : 10 ^ (n + 1) = 10 ^ n * 10 := Nat.pow_succ 10 n
    have pos : 1 ≤ 10 ^ n := Nat.one_le_pow _ _ (by decide)
    by_cases e : dgB (tc b l p) = true
    · have a1 := of_decide_eq_true (qa_and e).1
      have a2 := of_decide_eq_true (qa_and e).2
      have hpl : p < l := by
        rcases Nat.lt_or_ge p l with c | c
        · exact c
        · unfold tc at a1
          rw [if_neg (by omega)] at a1
          exact absurd a1 (by decide)
      have eb : tc b l p = b p := by unfold tc; rw [if_pos hpl]
      rw [eb] at a1 a2
      obtain ⟨k, hk, ek⟩ := y_nIof2 (N := 57) (x := b p) (by omega) a2
      rw [ek, nI_toInt (by omega)] at a1
      have small : a + 1 ≤ 1000000 := by
        have : (a + 1) * 1 ≤ (a + 1) * 10 ^ (n + 1) := Nat.mul_le_mul_left _ (Nat.one_le_pow _ _ (by decide))
        omega
      obtain ⟨v, v1, v2⟩ := ih (p + 1) (a * 10 + (k - 48)) (by
        have h9 : (a * 10 + (k - 48) + 1) * 10 ^ n ≤ ((a + 1) * 10) * 10 ^ n := Nat.mul_le_mul_right _ (by omega)
        rw [Nat.mul_assoc, Nat.mul_comm 10, ← e10] at h9
        omega)
      refine ⟨v, ?_, ?_⟩
      · show (if dgB (tc b l p) = true then nvF b l n (p + 1) (nI a * 10 + b p - 48) else nI a) = _
        rw [if_pos e, nv_step (by omega) ek (by omega) hk, v1]
      · have h9 : (a * 10 + (k - 48) + 1) * 10 ^ n ≤ ((a + 1) * 10) * 10 ^ n := Nat.mul_le_mul_right _ (by omega)
        rw [Nat.mul_assoc, Nat.mul_comm 10, ← e10] at h9
        omega
    · refine ⟨a, ?_, ?_⟩
      · show (if dgB (tc b l p) = true then nvF b l n (p + 1) (nI a * 10 + b p - 48) else nI a) = _
        rw [if_neg e]
      · have : (a + 1) * 1 ≤ (a + 1) * 10 ^ (n + 1) := Nat.mul_le_mul_left _ (Nat.one_le_pow _ _ (by decide))
        omega
theorem nv_ne {b : Nat → Int32} {l n p : Nat} (hn : n ≤ 4) : nvF b l n p 0 ≠ -1 := by
  have h9 : (0 + 1) * 10 ^ n ≤ 10 ^ 4 := by
    rw [Nat.zero_add, Nat.one_mul]
    exact Nat.pow_le_pow_right (by decide) hn
  obtain ⟨v, v1, v2⟩ := nv_nat (b := b) (l := l) n p 0 (by omega)
  have v1 : nvF b l n p 0 = nI v := v1
  rw [v1]
  intro g
  have g := congrArg Int32.toInt g
  rw [nI_toInt (by omega)] at g
  have e : (-1 : Int32).toInt = -1 := by decide
  rw [e] at g
  omega
theorem i32_0' : (0 : Int32).toInt = 0 := by decide
theorem ix_lt {c : Int32} : (qa_ix 2 c < 0 ↔ ltF c = -1) := by
  by_cases e0 : c = 100
  · subst e0; decide
  by_cases e1 : c = 104
  · subst e1; decide
  by_cases e2 : c = 114
  · subst e2; decide
  by_cases e3 : c = 119
  · subst e3; decide
  by_cases e4 : c = 109
  · subst e4; decide
  by_cases e5 : c = 115
  · subst e5; decide
  by_cases e6 : c = 113
  · subst e6; decide
  by_cases e7 : c = 110
  · subst e7; decide
  have h1 : qa_ix 2 c = -1 := by
    show (if (100 : Int32) = c then (0 : Int32) else if (104 : Int32) = c then 0 + 1 else if (114 : Int32) = c then 0 + 1 + 1 else if (119 : Int32) = c then 0 + 1 + 1 + 1 else if (109 : Int32) = c then 0 + 1 + 1 + 1 + 1 else if (115 : Int32) = c then 0 + 1 + 1 + 1 + 1 + 1 else if (113 : Int32) = c then 0 + 1 + 1 + 1 + 1 + 1 + 1 else if (110 : Int32) = c then 0 + 1 + 1 + 1 + 1 + 1 + 1 + 1 else -1) = -1
    rw [if_neg (fun q => e0 q.symm), if_neg (fun q => e1 q.symm), if_neg (fun q => e2 q.symm), if_neg (fun q => e3 q.symm), if_neg (fun q => e4 q.symm), if_neg (fun q => e5 q.symm), if_neg (fun q => e6 q.symm), if_neg (fun q => e7 q.symm)]
  have h2 : ltF c = -1 := by
    unfold ltF
    rw [if_neg e0, if_neg e1, if_neg e2, if_neg e3, if_neg e4, if_neg e5, if_neg e6, if_neg e7]
  rw [h1, h2]
  decide
theorem tc_0 {b : Nat → Int32} {l p : Nat} (hB : tp_B b l) : 0 ≤ (t0 b l p).toInt ∧ (t0 b l p).toInt ≤ 255 := by
  unfold t0
  by_cases e : p < l
  · rw [if_pos e]
    obtain ⟨h1, h2⟩ := hB p e
    exact ⟨by omega, h2⟩
  · rw [if_neg e]
    exact ⟨by decide, by decide⟩
theorem lt_t0 {b : Nat → Int32} {l p : Nat} : ltF (t0 b l p) = ltF (tc b l p) := by
  unfold t0 tc
  by_cases e : p < l
  · rw [if_pos e, if_pos e]
  · rw [if_neg e, if_neg e]
    rfl
/-- a reader of the class: it answers 1 behind what it reads, or 0 at what is wrong -/
def rdC (F : Nat → Bool × Nat → Prop) (l n : Nat) (s : LMem) (M dep : Nat) (args : List LV) : Prop := ∀ p m (R : LPost), tk_S l s m p → (∀ m' q, tk_S l s m' q → F (sk (bC s) l p) (true, sk (bC s) l q) → R (some (lI 1)) m') → (∀ m' w, tk_S l s m' w → F (sk (bC s) l p) (false, w) → R (some (lI 0)) m') → qC false dep M (lR 8 (some n) :: lR 1 (some 0) :: args) m R
section CA
variable {d l n g : Nat} {s : LMem}
theorem nI_lt6 (hg : g ≤ 6) : (nI g < 6 ↔ g < 6) := by
  constructor
  · intro h
    have h := Int32.lt_iff_toInt_lt.mp h
    rw [nI_toInt (by omega)] at h
    have e : (6 : Int32).toInt = 6 := by decide
    rw [e] at h
    omega
  · intro h
    exact nI_lt (b := 6) h (by decide)
theorem c_atom (hB : tp_B (bC s) l) (hl2 : l ≤ 200) (hg : g ≤ 6) (hs : g < 6 → rdC (Pr (bC s) l 3 (g + 1)) l n s 71 (d + 3) [lI (nI (g + 1))]) : rdC (Pr (bC s) l 0 g) l n s 73 (d + 4) [lI (nI g)] := fun p m R S h1 h0 => by
  have sk1 : p ≤ sk (bC s) l p := sk_ge p
  have sk2 : sk (bC s) l p ≤ max p l := sk_le p
  have sk3 : sk (bC s) l (sk (bC s) l p) = sk (bC s) l p := sk_sk p
  have hpl := S.2.2.2.2
  refine qC_of rfl rfl ?_
  refine qa_t1_W (cut := []) 120 ?_
  refine h_nextC hl2 S fun m1 S1 => Exists.intro _ (And.intro rfl ?_)
  generalize hq : sk (bC s) l p = q at *
  refine And.intro (fun e => ?_) (fun ne => ?_)
  · have e : t0 (bC s) l q = 91 := e
    have e := (t0_tc hB (by decide) (by decide)).mp e
    have hql := tc_lt (by decide) e
    refine And.intro (fun c => ?_) (fun c => ?_)
    · have hg6 := (nI_lt6 hg).mp c
      refine h_stepC hl2 S1 hql fun m2 S2 => And.intro rfl ?_
      have go : qC false (d + 3) 71 [lR 8 (some n), lR 1 (some 0), lI (nI g + 1)] m2 (fun r m3 => ∃ v, r = some (lI v) ∧ ((v = 0 → (((0 : Int32) = 0 ∨ (0 : Int32) = 1) ∧ R (some (lI 0)) m3)) ∧ (¬ v = 0 → qC false (d + 3) 118 [lR 1 (some 0), lI 93] m3 (fun r m4 => ∃ v, r = some (lI v) ∧ ((v = 0 → (((0 : Int32) = 0 ∨ (0 : Int32) = 1) ∧ R (some (lI 0)) m4)) ∧ (¬ v = 0 → (((1 : Int32) = 0 ∨ (1 : Int32) = 1) ∧ R (some (lI 1)) m4))))))) := by
        rw [nI_1]
        refine hs hg6 (q + 1) m2 _ S2 (fun m3 z S3 T => ⟨1, rfl, fun c => absurd c (by decide), fun _ => ?_⟩) (fun m3 w S3 T => ⟨0, rfl, fun _ => ⟨Or.inl rfl, h0 m3 w S3 (pr_brf e hg6 T)⟩, fun c => absurd rfl c⟩)
        have P := pr_br e hg6 T
        have z3 : sk (bC s) l (sk (bC s) l z) = sk (bC s) l z := sk_sk z
        refine h_takesC hB hl2 S3 (by decide) (by decide) (fun m4 S4 e93 => ⟨1, rfl, fun c => absurd c (by decide), fun _ => ⟨Or.inr rfl, h1 m4 _ S4 ?_⟩⟩) (fun m4 S4 e93 => ⟨0, rfl, fun _ => ⟨Or.inl rfl, h0 m4 _ S4 ?_⟩, fun c => absurd rfl c⟩)
        · rw [if_pos e93] at P
          exact P
        · rw [if_neg e93] at P
          exact P
      exact go
    · have hg6 : 6 ≤ g := by
        rcases Nat.lt_or_ge g 6 with z | z
        · exact absurd ((nI_lt6 hg).mpr z) c
        · exact z
      exact And.intro (Or.inl rfl) (h0 m1 q S1 (pr_br6 e hg6))
  · have ne : ¬ t0 (bC s) l q = 91 := ne
    have ne : tc (bC s) l q ≠ 91 := fun c => ne ((t0_tc hB (by decide) (by decide)).mpr c)
    obtain ⟨r1, r2⟩ := tc_0 (b := bC s) (l := l) (p := q) hB
    have i1 : ((t0 (bC s) l q).toUInt32 % 65536).toInt32 = t0 (bC s) l q := i2c_id r1 r2
    have gd : (0 : Int32) ≤ ((t0 (bC s) l q).toUInt32 % 65536).toInt32 ∧ ((t0 (bC s) l q).toUInt32 % 65536).toInt32 < 256 := by
      rw [i1]
      exact ⟨Int32.le_iff_toInt_le.mpr (show (0 : Int32).toInt ≤ _ by rw [i32_0']; exact r1), Int32.lt_iff_toInt_lt.mpr (show _ < (256 : Int32).toInt by rw [show (256 : Int32).toInt = 256 by decide]; omega)⟩
    have ixe : qa_ix 2 ((t0 (bC s) l q).toUInt32 % 65536).toInt32 < 0 ↔ ltF (tc (bC s) l q) = -1 := by rw [i1, ix_lt, lt_t0]
    have step : qC false (d + 3) 1005 [lR 64 (some 2), lI ((t0 (bC s) l q).toUInt32 % 65536).toInt32] m1 (fun r m2 => ∃ v, r = some (lI v) ∧ v = qa_ix 2 ((t0 (bC s) l q).toUInt32 % 65536).toInt32 ∧ m2 = m1) := ⟨0, And.intro gd ⟨_, rfl, rfl, rfl⟩⟩
    refine qC_mono step (fun r m2 hr => ?_)
    obtain ⟨v, er, ev, em⟩ := hr
    subst em
    refine Exists.intro v (And.intro er ?_)
    refine And.intro (fun c => ?_) (fun c => ?_)
    · have c : v < 0 := c
      rw [ev] at c
      have hl1 := ixe.mp c
      refine h_numC (mm := 4) (by decide) hl2 S1 (fun m3 S3 hd => Exists.intro _ (And.intro rfl ?_)) (fun m3 S3 hd hd2 => Exists.intro _ (And.intro rfl ?_)) (fun m3 S3 hd hd2 => Exists.intro _ (And.intro rfl ?_))
      · rw [sk3] at S3 hd
        exact And.intro (fun _ => And.intro (Or.inl rfl) (h0 m3 q S3 (pr_no hd hl1 ne))) (fun q => absurd rfl q)
      · rw [sk3] at S3 hd hd2
        exact And.intro (fun _ => And.intro (Or.inl rfl) (h0 m3 _ S3 (pr_num5 hd hd2))) (fun q => absurd rfl q)
      · rw [sk3] at S3 hd hd2
        refine And.intro (fun _ => ?_) (fun _ => ?_)
        · rename_i cv
          exact absurd cv (nv_ne (by decide))
        · exact h_addC S3 fun m4 S4 => And.intro rfl (And.intro (Or.inr rfl) (h1 m4 _ S4 (pr_num hd hd2)))
    · have c : ¬ v < 0 := c
      rw [ev] at c
      have hl1 : ltF (tc (bC s) l q) ≠ -1 := fun z => c (ixe.mpr z)
      have hd : dgB (tc (bC s) l q) = false := by
        cases hx : dgB (tc (bC s) l q) with
        | false => rfl
        | true =>
          exfalso
          obtain ⟨k, hk, ek⟩ := lt_cases hl1
          have a1 := of_decide_eq_true (qa_and hx).1
          have a2 := of_decide_eq_true (qa_and hx).2
          refine hl1 ?_
          unfold ltF
          have nn : ∀ z : Int32, 57 < z.toInt → tc (bC s) l q ≠ z := fun z hz e => by rw [e] at a2; omega
          rw [if_neg (nn 100 (by decide)), if_neg (nn 104 (by decide)), if_neg (nn 114 (by decide)), if_neg (nn 119 (by decide)), if_neg (nn 109 (by decide)), if_neg (nn 115 (by decide)), if_neg (nn 113 (by decide)), if_neg (nn 110 (by decide))]
      have hql : q < l := by
        rcases Nat.lt_or_ge q l with z | z
        · exact z
        · unfold tc at hl1
          rw [if_neg (by omega)] at hl1
          exact absurd (by decide) hl1
      refine h_stepC hl2 S1 hql fun m3 S3 => And.intro rfl ?_
      exact h_addC S3 fun m4 S4 => And.intro rfl (And.intro (Or.inr rfl) (h1 m4 _ S4 (pr_let hd hl1)))
end CA
/-! THE CLASS'S READER OF LAWS: term, sum. -/
section CB
variable {d l n g : Nat} {s : LMem}
theorem ct_l {bc bs : Nat} {Φ : Bool × Nat → Prop} {R : LPost} (hB : tp_B (bC s) l) (hl2 : l ≤ 200) (ha : rdC (Pr (bC s) l 0 g) l n s 73 (d + 4) [lI (nI g)]) (h1 : ∀ m' q, tk_S l s m' q → Φ (true, sk (bC s) l q) → R (some (lI 1)) m') (h0 : ∀ m' w, tk_S l s m' w → Φ (false, w) → R (some (lI 0)) m') : ∀ f k z m o5, l - sk (bC s) l z < f → k + 1 ≤ sk (bC s) l z → tk_S l s m z → (∀ x, Pr (bC s) l 2 g (sk (bC s) l z) x → Φ x) → qW false (d + 4) 72 bc bs 10 [some (lR 8 (some n)), some (lR 1 (some 0)), some (lI (nI g)), some (lI 1), some (lI (nI k)), o5] [] m R := by
  intro f
  induction f with
  | zero => intro k z m o5 hf; exact absurd hf (Nat.not_lt_zero _)
  | succ f ih =>
    intro k z m o5 hf hk S K
    have sk2 : sk (bC s) l z ≤ max z l := sk_le z
    have sk3 : sk (bC s) l (sk (bC s) l z) = sk (bC s) l z := sk_sk z
    have hzl := S.2.2.2.2
    have hk2 : nI k < 200 := nI_lt (b := 200) (by omega) (by decide)
    refine qa_t1_W (cut := [10]) 80 ?_
    refine And.intro (fun q => absurd q (by decide)) (fun _ => ?_)
    refine And.intro (fun _ => ?_) (fun q => absurd hk2 q)
    refine h_nextC hl2 S fun m1 S1 => Exists.intro _ (And.intro rfl ?_)
    generalize hq : sk (bC s) l z = q at *
    have go : (tc (bC s) l q = 42 ∨ tc (bC s) l q = 47) → qC false (d + 4) 115 [lR 1 (some 0)] m1 (fun r m2 => r = none ∧ qC false (d + 4) 73 [lR 8 (some n), lR 1 (some 0), lI (nI g)] m2 (fun r m3 => ∃ v, r = some (lI v) ∧ qC false (d + 4) 63 [lR 8 (some n), lI (t0 (bC s) l q), lI 0] m3 (fun r m4 => r = none ∧ qW false (d + 4) 72 bc bs 10 [some (lR 8 (some n)), some (lR 1 (some 0)), some (lI (nI g)), some (lI v), some (lI (nI k + 1)), some (lI (t0 (bC s) l q))] [] m4 R))) := fun hc => by
      have hql : q < l := by
        rcases hc with c | c
        · exact tc_lt (by decide) c
        · exact tc_lt (by decide) c
      refine h_stepC hl2 S1 hql fun m2 S2 => And.intro rfl ?_
      refine ha (q + 1) m2 _ S2 (fun m3 z3 S3 T => ⟨1, rfl, ?_⟩) (fun m3 w S3 T => ⟨0, rfl, ?_⟩)
      · refine h_addC S3 fun m4 S4 => And.intro rfl ?_
        rw [nI_1]
        have ge := (Pr_ge T).2.1 (Or.inl rfl)
        have s1 : q + 1 ≤ sk (bC s) l (q + 1) := sk_ge (q + 1)
        exact ih (k + 1) z3 m4 _ (by omega) (by omega) S4 (fun x hx => K x (pr_termL hc T hx))
      · refine h_addC S3 fun m4 S4 => And.intro rfl ?_
        refine qa_t1_W (cut := []) 20 ?_
        refine And.intro (fun _ => ?_) (fun q => absurd rfl q)
        exact And.intro (Or.inl rfl) (h0 m4 w S4 (K _ (pr_termLf hc T)))
    refine And.intro (fun e => go (Or.inl ((t0_tc hB (by decide) (by decide)).mp e))) (fun ne => And.intro (fun e => go (Or.inr ((t0_tc hB (by decide) (by decide)).mp e))) (fun ne2 => ?_))
    refine And.intro (Or.inr rfl) (h1 m1 q S1 ?_)
    rw [sk3]
    refine K _ (pr_termL0 (fun c => ?_))
    rcases c with c | c
    · exact ne ((t0_tc hB (by decide) (by decide)).mpr c)
    · exact ne2 ((t0_tc hB (by decide) (by decide)).mpr c)
theorem c_term (hB : tp_B (bC s) l) (hl2 : l ≤ 200) (ha : rdC (Pr (bC s) l 0 g) l n s 73 (d + 4) [lI (nI g)]) : rdC (Pr (bC s) l 1 g) l n s 72 (d + 5) [lI (nI g)] := fun p m R S h1 h0 => by
  refine qC_of rfl rfl ?_
  refine qa_t1_W (cut := [10]) 30 ?_
  refine ha p m _ S (fun m1 q S1 T => Exists.intro 1 (And.intro rfl ?_)) (fun m1 w S1 T => Exists.intro 0 (And.intro rfl ?_))
  · have ge := (Pr_ge T).2.1 (Or.inl rfl)
    exact ct_l hB hl2 ha h1 h0 (l - sk (bC s) l q + 1) 0 q m1 _ (by omega) (by omega) S1 (fun x hx => pr_term T hx)
  · refine qa_t1_W (cut := []) 20 ?_
    refine And.intro (fun _ => ?_) (fun q => absurd rfl q)
    exact And.intro (Or.inl rfl) (h0 m1 w S1 (pr_termf T))
theorem cs_l {bc bs : Nat} {Φ : Bool × Nat → Prop} {R : LPost} (hB : tp_B (bC s) l) (hl2 : l ≤ 200) (ha : rdC (Pr (bC s) l 1 g) l n s 72 (d + 5) [lI (nI g)]) (h1 : ∀ m' q, tk_S l s m' q → Φ (true, sk (bC s) l q) → R (some (lI 1)) m') (h0 : ∀ m' w, tk_S l s m' w → Φ (false, w) → R (some (lI 0)) m') : ∀ f k z m o5, l - sk (bC s) l z < f → k + 1 ≤ sk (bC s) l z → tk_S l s m z → (∀ x, Pr (bC s) l 4 g (sk (bC s) l z) x → Φ x) → qW false (d + 5) 71 bc bs 10 [some (lR 8 (some n)), some (lR 1 (some 0)), some (lI (nI g)), some (lI 1), some (lI (nI k)), o5] [] m R := by
  intro f
  induction f with
  | zero => intro k z m o5 hf; exact absurd hf (Nat.not_lt_zero _)
  | succ f ih =>
    intro k z m o5 hf hk S K
    have sk2 : sk (bC s) l z ≤ max z l := sk_le z
    have sk3 : sk (bC s) l (sk (bC s) l z) = sk (bC s) l z := sk_sk z
    have hzl := S.2.2.2.2
    have hk2 : nI k < 200 := nI_lt (b := 200) (by omega) (by decide)
    refine qa_t1_W (cut := [10]) 80 ?_
    refine And.intro (fun q => absurd q (by decide)) (fun _ => ?_)
    refine And.intro (fun _ => ?_) (fun q => absurd hk2 q)
    refine h_nextC hl2 S fun m1 S1 => Exists.intro _ (And.intro rfl ?_)
    generalize hq : sk (bC s) l z = q at *
    have go : (tc (bC s) l q = 43 ∨ tc (bC s) l q = 45) → qC false (d + 5) 115 [lR 1 (some 0)] m1 (fun r m2 => r = none ∧ qC false (d + 5) 72 [lR 8 (some n), lR 1 (some 0), lI (nI g)] m2 (fun r m3 => ∃ v, r = some (lI v) ∧ qC false (d + 5) 63 [lR 8 (some n), lI (t0 (bC s) l q), lI 0] m3 (fun r m4 => r = none ∧ qW false (d + 5) 71 bc bs 10 [some (lR 8 (some n)), some (lR 1 (some 0)), some (lI (nI g)), some (lI v), some (lI (nI k + 1)), some (lI (t0 (bC s) l q))] [] m4 R))) := fun hc => by
      have hql : q < l := by
        rcases hc with c | c
        · exact tc_lt (by decide) c
        · exact tc_lt (by decide) c
      refine h_stepC hl2 S1 hql fun m2 S2 => And.intro rfl ?_
      refine ha (q + 1) m2 _ S2 (fun m3 z3 S3 T => ⟨1, rfl, ?_⟩) (fun m3 w S3 T => ⟨0, rfl, ?_⟩)
      · refine h_addC S3 fun m4 S4 => And.intro rfl ?_
        rw [nI_1]
        have ge := (Pr_ge T).2.1 (Or.inr (Or.inl rfl))
        have s1 : q + 1 ≤ sk (bC s) l (q + 1) := sk_ge (q + 1)
        exact ih (k + 1) z3 m4 _ (by omega) (by omega) S4 (fun x hx => K x (pr_sumL hc T hx))
      · refine h_addC S3 fun m4 S4 => And.intro rfl ?_
        refine qa_t1_W (cut := []) 20 ?_
        refine And.intro (fun _ => ?_) (fun q => absurd rfl q)
        exact And.intro (Or.inl rfl) (h0 m4 w S4 (K _ (pr_sumLf hc T)))
    refine And.intro (fun e => go (Or.inl ((t0_tc hB (by decide) (by decide)).mp e))) (fun ne => And.intro (fun e => go (Or.inr ((t0_tc hB (by decide) (by decide)).mp e))) (fun ne2 => ?_))
    refine And.intro (Or.inr rfl) (h1 m1 q S1 ?_)
    rw [sk3]
    refine K _ (pr_sumL0 (fun c => ?_))
    rcases c with c | c
    · exact ne ((t0_tc hB (by decide) (by decide)).mpr c)
    · exact ne2 ((t0_tc hB (by decide) (by decide)).mpr c)
theorem c_sum (hB : tp_B (bC s) l) (hl2 : l ≤ 200) (ha : rdC (Pr (bC s) l 1 g) l n s 72 (d + 5) [lI (nI g)]) : rdC (Pr (bC s) l 3 g) l n s 71 (d + 6) [lI (nI g)] := fun p m R S h1 h0 => by
  refine qC_of rfl rfl ?_
  refine qa_t1_W (cut := [10]) 30 ?_
  refine ha p m _ S (fun m1 q S1 T => Exists.intro 1 (And.intro rfl ?_)) (fun m1 w S1 T => Exists.intro 0 (And.intro rfl ?_))
  · have ge := (Pr_ge T).2.1 (Or.inr (Or.inl rfl))
    exact cs_l hB hl2 ha h1 h0 (l - sk (bC s) l q + 1) 0 q m1 _ (by omega) (by omega) S1 (fun x hx => pr_sum T hx)
  · refine qa_t1_W (cut := []) 20 ?_
    refine And.intro (fun _ => ?_) (fun q => absurd rfl q)
    exact And.intro (Or.inl rfl) (h0 m1 w S1 (pr_sumf T))
end CB
theorem c_sumG {l n : Nat} {s : LMem} (hB : tp_B (bC s) l) (hl2 : l ≤ 200) : ∀ k g, g + k = 6 → ∀ d, rdC (Pr (bC s) l 3 g) l n s 71 (d + 3 * k + 6) [lI (nI g)] := by
  intro k
  induction k with
  | zero =>
    intro g hg d
    have a := c_atom (d := d) (n := n) hB hl2 (show g ≤ 6 by omega) (fun q => absurd q (by omega))
    exact c_sum hB hl2 (c_term hB hl2 a)
  | succ k ih =>
    intro g hg d
    have a := c_atom (d := d + 3 * k + 3) (n := n) hB hl2 (show g ≤ 6 by omega) (fun _ => ih (g + 1) (by omega) d)
    have e : d + 3 * (k + 1) + 6 = d + 3 * k + 3 + 6 := by omega
    rw [e]
    exact c_sum hB hl2 (c_term hB hl2 a)
/-! THE CLASS'S READER OF LAWS: unit, round, truth, condition. -/
/-- a = 6: a unit; a = 5: the comparison of a unit whose first sum is read; then what goes on by & -/
def PrA (b : Nat → Int32) (l a g p : Nat) (x : Bool × Nat) : Prop := (∃ q, Pr b l a g p (true, q) ∧ Pr b l 7 g q x) ∨ (x.1 = false ∧ Pr b l a g p x)
def PrO (b : Nat → Int32) (l a g p : Nat) (x : Bool × Nat) : Prop := (∃ q, PrA b l a g p (true, q) ∧ Pr b l 8 g q x) ∨ (x.1 = false ∧ PrA b l a g p x)
theorem prO_6 {b : Nat → Int32} {l g p : Nat} {x : Bool × Nat} (h : PrO b l 6 g p x) : Pr b l 9 g p x := by
  rcases h with ⟨q, h1, h2⟩ | ⟨h0, h1⟩
  · exact pr_cond h1 h2
  · obtain ⟨x1, x2⟩ := x
    cases (show x1 = false from h0)
    exact pr_condf h1
theorem prO_5 {b : Nat → Int32} {l p : Nat} {x : Bool × Nat} (h : PrO b l 5 0 p x) : PrG b l p x := by
  rcases h with ⟨q, h1, h2⟩ | ⟨h0, h1⟩
  · rcases h1 with ⟨z, h3, h4⟩ | ⟨h3, _⟩
    · exact prG_3 h3 h4 h2
    · cases h3
  · obtain ⟨x1, x2⟩ := x
    cases (show x1 = false from h0)
    rcases h1 with ⟨z, h3, h4⟩ | ⟨_, h3⟩
    · exact prG_2 h3 h4
    · exact prG_1 h3
theorem prA_le {b : Nat → Int32} {l a g p q : Nat} (h : PrA b l a g p (true, q)) : p ≤ q := by
  rcases h with ⟨z, h1, h2⟩ | ⟨h1, _⟩
  · have := (Pr_ge h1).1
    have := (Pr_ge h2).1
    omega
  · cases h1
/-- a flag of begun: 0 or 1 -/
def bgA (b : Nat) : Nat := if b = 0 then 6 else 5
section CC
variable {d l n g : Nat} {s : LMem}
theorem h_isCmpC {c : Int32} {m : LMem} {Q : LPost} (h1 : sgn c → Q (some (lI 1)) m) (h2 : ¬ sgn c → Q (some (lI 0)) m) : qC false (d + 1) 70 [lI c] m Q := by
  refine qC_of rfl rfl ?_
  refine qa_t1_W (cut := []) 20 ?_
  refine And.intro (fun e => And.intro (Or.inr rfl) (h1 (Or.inl e))) (fun e => ?_)
  refine And.intro (fun e2 => And.intro (Or.inr rfl) (h1 (Or.inr (Or.inl e2)))) (fun e2 => ?_)
  refine And.intro (fun e3 => And.intro (Or.inr rfl) (h1 (Or.inr (Or.inr e3)))) (fun e3 => ?_)
  refine And.intro (Or.inl rfl) (h2 (fun q => ?_))
  rcases q with q | q | q
  · exact e q
  · exact e2 q
  · exact e3 q
theorem sgn_t0 {b : Nat → Int32} {p : Nat} (hB : tp_B b l) : sgn (t0 b l p) ↔ sgB (tc b l p) = true := by
  unfold sgn
  rw [t0_tc hB (by decide) (by decide), t0_tc hB (by decide) (by decide), t0_tc hB (by decide) (by decide)]
  constructor
  · exact fun h => sgB_t h
  · intro h
    rcases Classical.em (sgn (tc b l p)) with c | c
    · exact c
    · rw [sgB_f c] at h
      cases h
theorem cu_137 {bc bs i q : Nat} {v : Int32} {o3 o5 : Option LV} {R : LPost} (hv : v = 0 ∨ v = 1) (hi : i ≤ 6) (h : ∀ m', tk_S l s m' q → R (some (lI v)) m') : ∀ z k m, k + z = i → tk_S l s m q → qW false (d + 1) 68 bc bs 140 [some (lR 8 (some n)), some (lR 1 (some 0)), some (lI (nI g)), o3, some (lI (nI i)), o5, some (lI v), some (lI (nI k))] [] m R := by
  intro z
  induction z with
  | zero =>
    intro k m hk S
    have hk : k = i := hk
    subst hk
    refine qa_t1_W (cut := [140]) 30 ?_
    refine And.intro (fun _ => And.intro hv (h m S)) (fun _ => ?_)
    exact And.intro (fun q => absurd q (nI_nlt (Nat.le_refl _) (by omega))) (fun _ => And.intro hv (h m S))
  | succ z ih =>
    intro k m hk S
    refine qa_t1_W (cut := [140]) 30 ?_
    refine And.intro (fun _ => And.intro hv (h m S)) (fun _ => ?_)
    refine And.intro (fun _ => ?_) (fun q => absurd (nI_lt (by omega) (by omega)) q)
    refine h_addC S fun m4 S4 => And.intro rfl ?_
    have go : qW false (d + 1) 68 bc bs 140 [some (lR 8 (some n)), some (lR 1 (some 0)), some (lI (nI g)), o3, some (lI (nI i)), o5, some (lI v), some (lI (nI k + 1))] [] m4 R := by
      rw [nI_1]
      exact ih (k + 1) m4 (by omega) S4
    exact go
theorem h_roundC {i p : Nat} {m : LMem} {R : LPost} (hB : tp_B (bC s) l) (hl2 : l ≤ 200) (hi : i ≤ 6) (hc : i < 6 → ∀ p m (R : LPost), tk_S l s m p → (∀ m' q, tk_S l s m' q → Pr (bC s) l 9 (i + 1) (sk (bC s) l p) (true, sk (bC s) l q) → R (some (lI 1)) m') → (∀ m' w, tk_S l s m' w → Pr (bC s) l 9 (i + 1) (sk (bC s) l p) (false, w) → R (some (lI 0)) m') → qC false (d + 2) 66 [lR 8 (some n), lR 1 (some 0), lI (nI (i + 1)), lI 0] m R) (S : tk_S l s m p) (e : tc (bC s) l p = 40) (h1 : ∀ m' q, tk_S l s m' q → Pr (bC s) l 6 i p (true, sk (bC s) l q) → R (some (lI 1)) m') (h0 : ∀ m' w, tk_S l s m' w → Pr (bC s) l 6 i p (false, w) → R (some (lI 0)) m') : qC false (d + 3) 69 [lR 8 (some n), lR 1 (some 0), lI (nI i)] m R := by
  have hpl := tc_lt (by decide) e
  refine qC_of rfl rfl ?_
  refine qa_t1_W (cut := []) 60 ?_
  refine And.intro (fun c => ?_) (fun c => ?_)
  · have hi6 := (nI_lt6 hi).mp c
    refine h_stepC hl2 S hpl fun m2 S2 => And.intro rfl ?_
    have go : qC false (d + 2) 66 [lR 8 (some n), lR 1 (some 0), lI (nI i + 1), lI 0] m2 (fun r m3 => ∃ v, r = some (lI v) ∧ ((v = 0 → (((0 : Int32) = 0 ∨ (0 : Int32) = 1) ∧ R (some (lI 0)) m3)) ∧ (¬ v = 0 → qC false (d + 2) 118 [lR 1 (some 0), lI 41] m3 (fun r m4 => ∃ v, r = some (lI v) ∧ ((v = 0 → (((0 : Int32) = 0 ∨ (0 : Int32) = 1) ∧ R (some (lI 0)) m4)) ∧ (¬ v = 0 → (((1 : Int32) = 0 ∨ (1 : Int32) = 1) ∧ R (some (lI 1)) m4))))))) := by
      rw [nI_1]
      refine hc hi6 (p + 1) m2 _ S2 (fun m3 z S3 T => ⟨1, rfl, fun c => absurd c (by decide), fun _ => ?_⟩) (fun m3 w S3 T => ⟨0, rfl, fun _ => ⟨Or.inl rfl, h0 m3 w S3 (pr_rndf e hi6 T)⟩, fun c => absurd rfl c⟩)
      have P := pr_rnd e hi6 T
      refine h_takesC hB hl2 S3 (by decide) (by decide) (fun m4 S4 e93 => ⟨1, rfl, fun c => absurd c (by decide), fun _ => ⟨Or.inr rfl, h1 m4 _ S4 ?_⟩⟩) (fun m4 S4 e93 => ⟨0, rfl, fun _ => ⟨Or.inl rfl, h0 m4 _ S4 ?_⟩, fun c => absurd rfl c⟩)
      · rw [if_pos e93] at P
        exact P
      · rw [if_neg e93] at P
        exact P
    exact go
  · have hi6 : 6 ≤ i := by
      rcases Nat.lt_or_ge i 6 with z | z
      · exact absurd ((nI_lt6 hi).mpr z) c
      · exact z
    exact And.intro (Or.inl rfl) (h0 m p S (pr_rnd6 e hi6))
/-- the comparison of a unit: its first sum is read -/
theorem cu_101 {bc bs i p rnd : Nat} {Φ : Bool × Nat → Prop} {o3 o7 : Option LV} {m : LMem} {R : LPost} (hB : tp_B (bC s) l) (hl2 : l ≤ 200) (hg : g ≤ i) (hi : i ≤ 6) (hs : rdC (Pr (bC s) l 3 i) l n s 71 (d + 2) [lI (nI i)]) (S : tk_S l s m p) (K : ∀ x, Pr (bC s) l 5 i (sk (bC s) l p) x → Φ x) (h1 : ∀ m' q, tk_S l s m' q → Φ (true, sk (bC s) l q) → R (some (lI 1)) m') (h0 : ∀ m' w, tk_S l s m' w → Φ (false, w) → R (some (lI 0)) m') : qW false (d + 2) 68 bc bs 101 [some (lR 8 (some n)), some (lR 1 (some 0)), some (lI (nI g)), o3, some (lI (nI i)), some (lI (nI rnd)), some (lI 1), o7] [] m R := by
  refine qa_t1_W (cut := [140]) 60 ?_
  refine h_nextC hl2 S fun m1 S1 => Exists.intro _ (And.intro rfl ?_)
  generalize hq : sk (bC s) l p = q at *
  refine h_isCmpC (fun c => Exists.intro 1 (And.intro rfl ?_)) (fun c => Exists.intro 0 (And.intro rfl ?_))
  · refine And.intro (fun q => absurd q (by decide)) (fun _ => ?_)
    have c2 := (sgn_t0 hB).mp c
    have hql : q < l := by
      rcases Nat.lt_or_ge q l with z | z
      · exact z
      · unfold tc at c2
        rw [if_neg (by omega)] at c2
        exact absurd c2 (by decide)
    refine h_stepC hl2 S1 hql fun m2 S2 => And.intro rfl ?_
    refine hs (q + 1) m2 _ S2 (fun m3 z S3 T => Exists.intro 1 (And.intro rfl ?_)) (fun m3 w S3 T => Exists.intro 0 (And.intro rfl ?_))
    · refine h_addC S3 fun m4 S4 => And.intro rfl ?_
      exact cu_137 (d := d + 1) (Or.inr rfl) hi (fun m' S' => h1 m' z S' (K _ (pr_cmp c2 T))) (i - g) g m4 (by omega) S4
    · refine h_addC S3 fun m4 S4 => And.intro rfl ?_
      exact cu_137 (d := d + 1) (Or.inl rfl) hi (fun m' S' => h0 m' w S' (K _ (pr_cmp c2 T))) (i - g) g m4 (by omega) S4
  · refine And.intro (fun _ => ?_) (fun q => absurd rfl q)
    have c2 : sgB (tc (bC s) l q) = false := by
      cases hx : sgB (tc (bC s) l q) with
      | false => rfl
      | true => exact absurd ((sgn_t0 hB).mpr hx) c
    exact And.intro (Or.inl rfl) (h0 m1 q S1 (K _ (pr_cmp0 c2)))
/-- a unit of which nothing is read, at depth i: '!' go by -/
theorem cu_3 {bc bs : Nat} {Φ : Bool × Nat → Prop} {R : LPost} (hB : tp_B (bC s) l) (hl2 : l ≤ 200) (hs : ∀ i, i ≤ 6 → rdC (Pr (bC s) l 3 i) l n s 71 (d + 3) [lI (nI i)]) (hc : ∀ i, g ≤ i → i < 6 → ∀ p m (R : LPost), tk_S l s m p → (∀ m' q, tk_S l s m' q → Pr (bC s) l 9 (i + 1) (sk (bC s) l p) (true, sk (bC s) l q) → R (some (lI 1)) m') → (∀ m' w, tk_S l s m' w → Pr (bC s) l 9 (i + 1) (sk (bC s) l p) (false, w) → R (some (lI 0)) m') → qC false (d + 2) 66 [lR 8 (some n), lR 1 (some 0), lI (nI (i + 1)), lI 0] m R) (h1 : ∀ m' q, tk_S l s m' q → Φ (true, sk (bC s) l q) → R (some (lI 1)) m') (h0 : ∀ m' w, tk_S l s m' w → Φ (false, w) → R (some (lI 0)) m') : ∀ k i p m, i + k = 6 → g ≤ i → tk_S l s m p → (∀ x, Pr (bC s) l 6 i (sk (bC s) l p) x → Φ x) → qW false (d + 3) 68 bc bs 3 [some (lR 8 (some n)), some (lR 1 (some 0)), some (lI (nI g)), some (lI 0), some (lI (nI i)), none, none, none] [] m R := by
  intro k
  induction k with
  | zero =>
    intro i p m hi hg S K
    have sk3 : sk (bC s) l (sk (bC s) l p) = sk (bC s) l p := sk_sk p
    refine qa_t1_W (cut := [3, 101, 140]) 100 ?_
    refine And.intro (fun _ => ?_) (fun q => absurd rfl q)
    refine h_nextC hl2 S fun m1 S1 => Exists.intro _ (And.intro rfl ?_)
    generalize hq : sk (bC s) l p = q at *
    have i6 : ¬ nI i < 6 := fun c => by have := (nI_lt6 (show i ≤ 6 by omega)).mp c; omega
    refine And.intro (fun e => ?_) (fun ne => ?_)
    · have e := (t0_tc hB (by decide) (by decide)).mp e
      exact And.intro (fun c => absurd c i6) (fun _ => And.intro (Or.inl rfl) (h0 m1 q S1 (K _ (pr_not6 e (by omega)))))
    · have ne : tc (bC s) l q ≠ 33 := fun c => ne ((t0_tc hB (by decide) (by decide)).mpr c)
      refine And.intro (fun _ => ?_) (fun q => absurd rfl q)
      refine h_nextC hl2 S1 fun m2 S2 => Exists.intro _ (And.intro rfl ?_)
      rw [sk3] at S2 ⊢
      refine And.intro (fun e => ?_) (fun ne2 => ?_)
      · have e := (t0_tc hB (by decide) (by decide)).mp e
        refine And.intro (fun q => absurd q (by decide)) (fun _ => ?_)
        refine h_roundC (d := d) (i := i) hB hl2 (by omega) (fun c => absurd c (by omega)) S2 e (fun m3 z S3 T => Exists.intro 1 (And.intro rfl ?_)) (fun m3 w S3 T => Exists.intro 0 (And.intro rfl ?_))
        · refine And.intro (fun q => absurd q (by decide)) (fun _ => ?_)
          exact cu_137 (d := d + 2) (Or.inr rfl) (by omega) (fun m' S' => h1 m' z S' (K _ T)) (i - g) g m3 (by omega) S3
        · refine And.intro (fun q => absurd q (by decide)) (fun _ => ?_)
          exact cu_137 (d := d + 2) (Or.inl rfl) (by omega) (fun m' S' => h0 m' w S' (K _ T)) (i - g) g m3 (by omega) S3
      · have ne2 : tc (bC s) l q ≠ 40 := fun c => ne2 ((t0_tc hB (by decide) (by decide)).mpr c)
        refine And.intro (fun _ => ?_) (fun q => absurd rfl q)
        refine And.intro (fun _ => ?_) (fun q => absurd rfl q)
        refine hs i (by omega) q m2 _ S2 (fun m3 z S3 T => Exists.intro 1 (And.intro rfl ?_)) (fun m3 w S3 T => Exists.intro 0 (And.intro rfl ?_))
        · rw [sk3] at T
          refine And.intro (fun q => absurd q (by decide)) (fun _ => ?_)
          refine And.intro (fun _ => ?_) (fun q => absurd rfl q)
          refine And.intro (fun q => absurd q (by decide)) (fun _ => ?_)
          exact cu_101 (d := d + 1) (rnd := 0) hB hl2 hg (by omega) (hs i (by omega)) S3 (fun x hx => K x (pr_unit ne ne2 T hx)) h1 h0
        · rw [sk3] at T
          refine And.intro (fun _ => ?_) (fun q => absurd rfl q)
          refine And.intro (fun _ => ?_) (fun q => absurd rfl q)
          refine And.intro (fun _ => ?_) (fun q => absurd rfl q)
          exact cu_137 (d := d + 2) (Or.inl rfl) (by omega) (fun m' S' => h0 m' w S' (K _ (pr_unitf ne ne2 T))) (i - g) g m3 (by omega) S3
  | succ k ih =>
    intro i p m hi hg S K
    have sk3 : sk (bC s) l (sk (bC s) l p) = sk (bC s) l p := sk_sk p
    refine qa_t1_W (cut := [3, 101, 140]) 100 ?_
    refine And.intro (fun _ => ?_) (fun q => absurd rfl q)
    refine h_nextC hl2 S fun m1 S1 => Exists.intro _ (And.intro rfl ?_)
    generalize hq : sk (bC s) l p = q at *
    have i6 : nI i < 6 := (nI_lt6 (show i ≤ 6 by omega)).mpr (by omega)
    refine And.intro (fun e => ?_) (fun ne => ?_)
    · have e := (t0_tc hB (by decide) (by decide)).mp e
      refine And.intro (fun _ => ?_) (fun c => absurd i6 c)
      refine h_stepC hl2 S1 (tc_lt (by decide) e) fun m2 S2 => And.intro rfl ?_
      have go : qW false (d + 3) 68 bc bs 3 [some (lR 8 (some n)), some (lR 1 (some 0)), some (lI (nI g)), some (lI 0), some (lI (nI i + 1)), none, none, none] [] m2 R := by
        rw [nI_1]
        exact ih (i + 1) (q + 1) m2 (by omega) (by omega) S2 (fun x hx => K x (pr_not e (by omega) hx))
      exact go
    · have ne : tc (bC s) l q ≠ 33 := fun c => ne ((t0_tc hB (by decide) (by decide)).mpr c)
      refine And.intro (fun _ => ?_) (fun q => absurd rfl q)
      refine h_nextC hl2 S1 fun m2 S2 => Exists.intro _ (And.intro rfl ?_)
      rw [sk3] at S2 ⊢
      refine And.intro (fun e => ?_) (fun ne2 => ?_)
      · have e := (t0_tc hB (by decide) (by decide)).mp e
        refine And.intro (fun q => absurd q (by decide)) (fun _ => ?_)
        refine h_roundC (d := d) (i := i) hB hl2 (by omega) (fun c => hc i hg c) S2 e (fun m3 z S3 T => Exists.intro 1 (And.intro rfl ?_)) (fun m3 w S3 T => Exists.intro 0 (And.intro rfl ?_))
        · refine And.intro (fun q => absurd q (by decide)) (fun _ => ?_)
          exact cu_137 (d := d + 2) (Or.inr rfl) (by omega) (fun m' S' => h1 m' z S' (K _ T)) (i - g) g m3 (by omega) S3
        · refine And.intro (fun q => absurd q (by decide)) (fun _ => ?_)
          exact cu_137 (d := d + 2) (Or.inl rfl) (by omega) (fun m' S' => h0 m' w S' (K _ T)) (i - g) g m3 (by omega) S3
      · have ne2 : tc (bC s) l q ≠ 40 := fun c => ne2 ((t0_tc hB (by decide) (by decide)).mpr c)
        refine And.intro (fun _ => ?_) (fun q => absurd rfl q)
        refine And.intro (fun _ => ?_) (fun q => absurd rfl q)
        refine hs i (by omega) q m2 _ S2 (fun m3 z S3 T => Exists.intro 1 (And.intro rfl ?_)) (fun m3 w S3 T => Exists.intro 0 (And.intro rfl ?_))
        · rw [sk3] at T
          refine And.intro (fun q => absurd q (by decide)) (fun _ => ?_)
          refine And.intro (fun _ => ?_) (fun q => absurd rfl q)
          refine And.intro (fun q => absurd q (by decide)) (fun _ => ?_)
          exact cu_101 (d := d + 1) (rnd := 0) hB hl2 hg (by omega) (hs i (by omega)) S3 (fun x hx => K x (pr_unit ne ne2 T hx)) h1 h0
        · rw [sk3] at T
          refine And.intro (fun _ => ?_) (fun q => absurd rfl q)
          refine And.intro (fun _ => ?_) (fun q => absurd rfl q)
          refine And.intro (fun _ => ?_) (fun q => absurd rfl q)
          exact cu_137 (d := d + 2) (Or.inl rfl) (by omega) (fun m' S' => h0 m' w S' (K _ (pr_unitf ne ne2 T))) (i - g) g m3 (by omega) S3
end CC
/-! THE CLASS'S READER OF LAWS: unit, truth, condition at every depth. -/
section CE
variable {d l n g : Nat} {s : LMem}
theorem c_unit0 (hB : tp_B (bC s) l) (hl2 : l ≤ 200) (hg : g ≤ 6) (hs : ∀ i, i ≤ 6 → rdC (Pr (bC s) l 3 i) l n s 71 (d + 3) [lI (nI i)]) (hc : ∀ i, g ≤ i → i < 6 → rdC (Pr (bC s) l 9 (i + 1)) l n s 66 (d + 2) [lI (nI (i + 1)), lI 0]) : rdC (Pr (bC s) l 6 g) l n s 68 (d + 4) [lI (nI g), lI 0] := fun p m R S h1 h0 => by
  refine qC_of rfl rfl ?_
  refine qa_t1_W (cut := [3]) 20 ?_
  exact cu_3 (d := d) hB hl2 hs hc h1 h0 (6 - g) g p m (by omega) (Nat.le_refl _) S (fun x hx => hx)
theorem c_unit1 (hB : tp_B (bC s) l) (hl2 : l ≤ 200) (hg : g ≤ 6) (hs : rdC (Pr (bC s) l 3 g) l n s 71 (d + 3) [lI (nI g)]) : rdC (Pr (bC s) l 5 g) l n s 68 (d + 4) [lI (nI g), lI 1] := fun p m R S h1 h0 => by
  refine qC_of rfl rfl ?_
  refine qa_t1_W (cut := [101]) 60 ?_
  refine And.intro (fun q => absurd q (by decide)) (fun _ => ?_)
  refine And.intro (fun q => absurd q (by decide)) (fun _ => ?_)
  refine And.intro (fun _ => ?_) (fun q => absurd rfl q)
  refine And.intro (fun q => absurd q (by decide)) (fun _ => ?_)
  refine And.intro (fun _ => ?_) (fun q => absurd rfl q)
  refine And.intro (fun q => absurd q (by decide)) (fun _ => ?_)
  exact cu_101 (d := d + 1) (rnd := 0) hB hl2 (Nat.le_refl g) hg hs S (fun x hx => hx) h1 h0
theorem end200 {b : Nat → Int32} {k z : Nat} {x : Int32} (hx : x ≠ -1) (hl2 : l ≤ 200) (hk : k ≤ sk b l z) (hk2 : k ≤ 300) (c : ¬ nI k < 200) : tc b l (sk b l z) ≠ x := by
  have hk9 : 200 ≤ k := by
    rcases Nat.lt_or_ge k 200 with q | q
    · exact absurd (nI_lt (b := 200) q (by decide)) c
    · exact q
  unfold tc
  rw [if_neg (by omega)]
  exact fun q => hx q.symm
theorem ctr_l {bc bs b : Nat} {Φ : Bool × Nat → Prop} {R : LPost} (hB : tp_B (bC s) l) (hl2 : l ≤ 200) (hu : rdC (Pr (bC s) l 6 g) l n s 68 (d + 2) [lI (nI g), lI 0]) (h1 : ∀ m' q, tk_S l s m' q → Φ (true, sk (bC s) l q) → R (some (lI 1)) m') (h0 : ∀ m' w, tk_S l s m' w → Φ (false, w) → R (some (lI 0)) m') : ∀ f k z m, l - sk (bC s) l z < f → k ≤ sk (bC s) l z → tk_S l s m z → (∀ x, Pr (bC s) l 7 g (sk (bC s) l z) x → Φ x) → qW false (d + 2) 67 bc bs 15 [some (lR 8 (some n)), some (lR 1 (some 0)), some (lI (nI g)), some (lI (nI b)), some (lI (nI k))] [] m R := by
  intro f
  induction f with
  | zero => intro k z m hf; exact absurd hf (Nat.not_lt_zero _)
  | succ f ih =>
    intro k z m hf hk S K
    have sk2 : sk (bC s) l z ≤ max z l := sk_le z
    have sk3 : sk (bC s) l (sk (bC s) l z) = sk (bC s) l z := sk_sk z
    have hzl := S.2.2.2.2
    refine qa_t1_W (cut := [15]) 80 ?_
    refine And.intro (fun _ => ?_) (fun c => ?_)
    · refine h_takesC hB hl2 S (by decide) (by decide) (fun m1 S1 e => Exists.intro 1 (And.intro rfl ?_)) (fun m1 S1 e => Exists.intro 0 (And.intro rfl ?_))
      · have hql := tc_lt (by decide) e
        refine And.intro (fun q => absurd q (by decide)) (fun _ => ?_)
        refine hu _ m1 _ S1 (fun m3 z3 S3 T => Exists.intro 1 (And.intro rfl ?_)) (fun m3 w S3 T => Exists.intro 0 (And.intro rfl ?_))
        · refine And.intro (fun q => absurd q (by decide)) (fun _ => ?_)
          refine h_addC S3 fun m4 S4 => And.intro rfl ?_
          have ge := (Pr_ge T).2.1 (Or.inr (Or.inr (Or.inr (Or.inl rfl))))
          have s1 : sk (bC s) l z + 1 ≤ sk (bC s) l (sk (bC s) l z + 1) := sk_ge _
          have go : qW false (d + 2) 67 bc bs 15 [some (lR 8 (some n)), some (lR 1 (some 0)), some (lI (nI g)), some (lI (nI b)), some (lI (nI k + 1))] [] m4 R := by
            rw [nI_1]
            exact ih (k + 1) z3 m4 (by omega) (by omega) S4 (fun x hx => K x (pr_and e T hx))
          exact go
        · refine And.intro (fun _ => ?_) (fun q => absurd rfl q)
          exact And.intro (Or.inl rfl) (h0 m3 w S3 (K _ (pr_andf e T)))
      · refine And.intro (fun _ => ?_) (fun q => absurd rfl q)
        exact And.intro (Or.inr rfl) (h1 m1 _ S1 (by rw [sk3]; exact K _ (pr_and0 e)))
    · exact And.intro (Or.inr rfl) (h1 m z S (K _ (pr_and0 (end200 (by decide) hl2 hk (by omega) c))))
theorem c_truth {a b : Nat} (hB : tp_B (bC s) l) (hl2 : l ≤ 200) (ha : rdC (Pr (bC s) l a g) l n s 68 (d + 2) [lI (nI g), lI (nI b)]) (hu : rdC (Pr (bC s) l 6 g) l n s 68 (d + 2) [lI (nI g), lI 0]) : rdC (PrA (bC s) l a g) l n s 67 (d + 3) [lI (nI g), lI (nI b)] := fun p m R S h1 h0 => by
  refine qC_of rfl rfl ?_
  refine qa_t1_W (cut := [15]) 30 ?_
  refine ha p m _ S (fun m1 q S1 T => Exists.intro 1 (And.intro rfl ?_)) (fun m1 w S1 T => Exists.intro 0 (And.intro rfl ?_))
  · refine And.intro (fun q => absurd q (by decide)) (fun _ => ?_)
    exact ctr_l hB hl2 hu h1 h0 (l - sk (bC s) l q + 1) 0 q m1 (by omega) (Nat.zero_le _) S1 (fun x hx => Or.inl ⟨_, T, hx⟩)
  · refine And.intro (fun _ => ?_) (fun q => absurd rfl q)
    exact And.intro (Or.inl rfl) (h0 m1 w S1 (Or.inr ⟨rfl, T⟩))
theorem cco_l {bc bs b : Nat} {Φ : Bool × Nat → Prop} {R : LPost} (hB : tp_B (bC s) l) (hl2 : l ≤ 200) (hu : rdC (PrA (bC s) l 6 g) l n s 67 (d + 3) [lI (nI g), lI 0]) (h1 : ∀ m' q, tk_S l s m' q → Φ (true, sk (bC s) l q) → R (some (lI 1)) m') (h0 : ∀ m' w, tk_S l s m' w → Φ (false, w) → R (some (lI 0)) m') : ∀ f k z m, l - sk (bC s) l z < f → k ≤ sk (bC s) l z → tk_S l s m z → (∀ x, Pr (bC s) l 8 g (sk (bC s) l z) x → Φ x) → qW false (d + 3) 66 bc bs 15 [some (lR 8 (some n)), some (lR 1 (some 0)), some (lI (nI g)), some (lI (nI b)), some (lI (nI k))] [] m R := by
  intro f
  induction f with
  | zero => intro k z m hf; exact absurd hf (Nat.not_lt_zero _)
  | succ f ih =>
    intro k z m hf hk S K
    have sk2 : sk (bC s) l z ≤ max z l := sk_le z
    have sk3 : sk (bC s) l (sk (bC s) l z) = sk (bC s) l z := sk_sk z
    have hzl := S.2.2.2.2
    refine qa_t1_W (cut := [15]) 80 ?_
    refine And.intro (fun _ => ?_) (fun c => ?_)
    · refine h_takesC hB hl2 S (by decide) (by decide) (fun m1 S1 e => Exists.intro 1 (And.intro rfl ?_)) (fun m1 S1 e => Exists.intro 0 (And.intro rfl ?_))
      · have hql := tc_lt (by decide) e
        refine And.intro (fun q => absurd q (by decide)) (fun _ => ?_)
        refine hu _ m1 _ S1 (fun m3 z3 S3 T => Exists.intro 1 (And.intro rfl ?_)) (fun m3 w S3 T => Exists.intro 0 (And.intro rfl ?_))
        · refine And.intro (fun q => absurd q (by decide)) (fun _ => ?_)
          refine h_addC S3 fun m4 S4 => And.intro rfl ?_
          have ge := prA_le T
          have s1 : sk (bC s) l z + 1 ≤ sk (bC s) l (sk (bC s) l z + 1) := sk_ge _
          have go : qW false (d + 3) 66 bc bs 15 [some (lR 8 (some n)), some (lR 1 (some 0)), some (lI (nI g)), some (lI (nI b)), some (lI (nI k + 1))] [] m4 R := by
            rw [nI_1]
            exact ih (k + 1) z3 m4 (by omega) (by omega) S4 (fun x hx => K x (pr_or e T hx))
          exact go
        · refine And.intro (fun _ => ?_) (fun q => absurd rfl q)
          exact And.intro (Or.inl rfl) (h0 m3 w S3 (K _ (pr_orf e T)))
      · refine And.intro (fun _ => ?_) (fun q => absurd rfl q)
        exact And.intro (Or.inr rfl) (h1 m1 _ S1 (by rw [sk3]; exact K _ (pr_or0 e)))
    · exact And.intro (Or.inr rfl) (h1 m z S (K _ (pr_or0 (end200 (by decide) hl2 hk (by omega) c))))
theorem c_cond {a b : Nat} (hB : tp_B (bC s) l) (hl2 : l ≤ 200) (ha : rdC (PrA (bC s) l a g) l n s 67 (d + 3) [lI (nI g), lI (nI b)]) (hu : rdC (PrA (bC s) l 6 g) l n s 67 (d + 3) [lI (nI g), lI 0]) : rdC (PrO (bC s) l a g) l n s 66 (d + 4) [lI (nI g), lI (nI b)] := fun p m R S h1 h0 => by
  refine qC_of rfl rfl ?_
  refine qa_t1_W (cut := [15]) 30 ?_
  refine ha p m _ S (fun m1 q S1 T => Exists.intro 1 (And.intro rfl ?_)) (fun m1 w S1 T => Exists.intro 0 (And.intro rfl ?_))
  · refine And.intro (fun q => absurd q (by decide)) (fun _ => ?_)
    exact cco_l hB hl2 hu h1 h0 (l - sk (bC s) l q + 1) 0 q m1 (by omega) (Nat.zero_le _) S1 (fun x hx => Or.inl ⟨_, T, hx⟩)
  · refine And.intro (fun _ => ?_) (fun q => absurd rfl q)
    exact And.intro (Or.inl rfl) (h0 m1 w S1 (Or.inr ⟨rfl, T⟩))
end CE
section CF
variable {l n : Nat} {s : LMem}
theorem rdC_6 {g dep : Nat} (h : rdC (PrO (bC s) l 6 g) l n s 66 dep [lI (nI g), lI 0]) : rdC (Pr (bC s) l 9 g) l n s 66 dep [lI (nI g), lI 0] := fun p m R S h1 h0 => h p m R S (fun m' q S' T => h1 m' q S' (prO_6 T)) (fun m' w S' T => h0 m' w S' (prO_6 T))
theorem c_sums (hB : tp_B (bC s) l) (hl2 : l ≤ 200) : ∀ D i, 24 ≤ D → i ≤ 6 → rdC (Pr (bC s) l 3 i) l n s 71 D [lI (nI i)] := fun D i hD hi => by
  obtain ⟨e, he⟩ : ∃ e, D = e + 3 * (6 - i) + 6 := ⟨D - (3 * (6 - i) + 6), by omega⟩
  rw [he]
  exact c_sumG hB hl2 (6 - i) i (by omega) e
theorem c_cond0 {g e : Nat} (hB : tp_B (bC s) l) (hl2 : l ≤ 200) (hu : rdC (Pr (bC s) l 6 g) l n s 68 (e + 2) [lI (nI g), lI 0]) : rdC (Pr (bC s) l 9 g) l n s 66 (e + 4) [lI (nI g), lI 0] := by
  have T : rdC (PrA (bC s) l 6 g) l n s 67 (e + 3) [lI (nI g), lI (nI 0)] := c_truth hB hl2 hu hu
  exact rdC_6 (c_cond (b := 0) hB hl2 T T)
/-- unit (nothing read of it) at every depth -/
theorem c_unitG (hB : tp_B (bC s) l) (hl2 : l ≤ 200) : ∀ k g, 6 - g ≤ k → g ≤ 6 → ∀ D, 30 + 4 * (6 - g) ≤ D → rdC (Pr (bC s) l 6 g) l n s 68 D [lI (nI g), lI 0] := by
  intro k
  induction k with
  | zero =>
    intro g hk hg D hD
    obtain ⟨d, rfl⟩ : ∃ d, D = d + 4 := ⟨D - 4, by omega⟩
    exact c_unit0 hB hl2 hg (fun i hi => c_sums hB hl2 _ i (by omega) hi) (fun i h1 h2 => absurd h2 (by omega))
  | succ k ih =>
    intro g hk hg D hD
    obtain ⟨d, rfl⟩ : ∃ d, D = d + 4 := ⟨D - 4, by omega⟩
    refine c_unit0 hB hl2 hg (fun i hi => c_sums hB hl2 _ i (by omega) hi) (fun i h1 h2 => ?_)
    obtain ⟨e, rfl⟩ : ∃ e, d = e + 2 := ⟨d - 2, by omega⟩
    exact c_cond0 hB hl2 (ih (i + 1) (by omega) (by omega) (e + 2) (by omega))
theorem c_condG (hB : tp_B (bC s) l) (hl2 : l ≤ 200) (D : Nat) (hD : 60 ≤ D) : rdC (Pr (bC s) l 9 0) l n s 66 D [lI (nI 0), lI 0] := by
  obtain ⟨e, rfl⟩ : ∃ e, D = e + 4 := ⟨D - 4, by omega⟩
  exact c_cond0 hB hl2 (c_unitG hB hl2 6 0 (by omega) (by omega) (e + 2) (by omega))
/-- a condition whose first sum is read -/
theorem c_condB (hB : tp_B (bC s) l) (hl2 : l ≤ 200) (D : Nat) (hD : 60 ≤ D) : rdC (PrG (bC s) l) l n s 66 D [lI (nI 0), lI 1] := by
  obtain ⟨e, rfl⟩ : ∃ e, D = e + 6 := ⟨D - 6, by omega⟩
  have U : rdC (Pr (bC s) l 6 0) l n s 68 (e + 4) [lI (nI 0), lI 0] := c_unitG hB hl2 6 0 (by omega) (by omega) (e + 4) (by omega)
  have U1 : rdC (Pr (bC s) l 5 0) l n s 68 (e + 4) [lI (nI 0), lI (nI 1)] := c_unit1 (d := e) hB hl2 (by decide) (c_sums hB hl2 _ 0 (by omega) (by decide))
  have T : rdC (PrA (bC s) l 6 0) l n s 67 (e + 5) [lI (nI 0), lI (nI 0)] := c_truth (d := e + 2) hB hl2 U U
  have T1 : rdC (PrA (bC s) l 5 0) l n s 67 (e + 5) [lI (nI 0), lI (nI 1)] := c_truth (d := e + 2) hB hl2 U1 U
  have C := c_cond (d := e + 2) (b := 1) hB hl2 T1 T
  exact fun p m R S h1 h0 => C p m R S (fun m' q S' X => h1 m' q S' (prO_5 X)) (fun m' w S' X => h0 m' w S' (prO_5 X))
end CF
/-! clause and law of the class. -/
section CG
variable {d l n : Nat} {s : LMem}
theorem h_endAtC {p : Nat} {t : Nat} {m : LMem} {Q : LPost} (ht : t ≤ 200) (S : tk_S l s m p) (h : ∀ m, tk_S l s m p → Q none m) : qC false (d + 1) 65 [lR 8 (some n), lI (nI t)] m Q := by
  have S0 := S
  obtain ⟨J, el, eb, ep, hpl⟩ := S
  refine qC_of rfl rfl ?_
  refine qa_t1_W (cut := []) 40 ?_
  refine And.intro (fun c => ?_) (fun _ => h m S0)
  have ht2 : t < 200 := by
    have c : nI t < 200 := c
    have c := Int32.lt_iff_toInt_lt.mp c
    rw [nI_toInt (by omega)] at c
    have e : (200 : Int32).toInt = 200 := by decide
    rw [e] at c
    omega
  have hv : qa_vin (nI t) 200 := nI_in (by omega) (by decide)
  have ct : (nI t).toNatClampNeg = t := nI_clamp (by omega)
  have fin : Q none (sI m 10 n (nI t).toNatClampNeg (gI m 8 n 2)) := by
    have g : ∀ k i j, k ≠ 10 → gI (sI m 10 n (nI t).toNatClampNeg (gI m 8 n 2)) k i j = gI m k i j := fun k i j g1 => by
      rw [gI_sI, if_neg (fun q => g1 q.1)]
    refine h _ ⟨y_J_w J (fun r hr _ _ => absurd hr List.not_mem_nil) (x_npr rfl), by rw [g 1 0 1 (by decide), el], ?_, by rw [g 1 0 2 (by decide), ep], hpl⟩
    rw [← eb]
    exact funext fun j => g 2 0 j (by decide)
  exact And.intro hv fin
theorem c_size {m : LMem} {p : Nat} (S : tk_S l s m p) : ∃ z, z ≤ 200 ∧ gI m 8 n 2 = nI z := y_nIof2 (N := 200) (x := gI m 8 n 2) (S.1.1 8 n 2 (2, 2, 0, 200) (by decide) (by decide) (by decide)).1 (S.1.1 8 n 2 (2, 2, 0, 200) (by decide) (by decide) (by decide)).2
/-- behind a clause's sum: it ends -/
theorem cc_122 {bc bs q : Nat} {o2 o3 : Option LV} {m : LMem} {R : LPost} (S : tk_S l s m q) (h : ∀ m', tk_S l s m' q → R (some (lI 1)) m') : qW false (d + 1) 64 bc bs 122 [some (lR 8 (some n)), some (lR 1 (some 0)), o2, o3] [] m R := by
  refine qa_t1_W (cut := []) 20 ?_
  refine h_addC S fun m4 S4 => And.intro rfl ?_
  exact And.intro (Or.inr rfl) (h m4 S4)
/-- behind a clause's condition -/
theorem cc_83 {bc bs p : Nat} {Φ : Bool × Nat → Prop} {b2 : Int32} {o3 : Option LV} {m : LMem} {R : LPost} (hB : tp_B (bC s) l) (hl2 : l ≤ 200) (hs : rdC (Pr (bC s) l 3 0) l n s 71 (d + 2) [lI (nI 0)]) (S : tk_S l s m p) (K : ∀ x, Pr (bC s) l 12 0 (sk (bC s) l p) x → Φ x) (h1 : ∀ m' q, tk_S l s m' q → Φ (true, sk (bC s) l q) → R (some (lI 1)) m') (h0 : ∀ m' w, tk_S l s m' w → Φ (false, w) → R (some (lI 0)) m') : qW false (d + 2) 64 bc bs 83 [some (lR 8 (some n)), some (lR 1 (some 0)), some (lI b2), o3] [] m R := by
  refine qa_t1_W (cut := [122]) 60 ?_
  refine h_takesC hB hl2 S (by decide) (by decide) (fun m1 S1 e => Exists.intro 1 (And.intro rfl ?_)) (fun m1 S1 e => Exists.intro 0 (And.intro rfl ?_))
  · refine And.intro (fun q => absurd q (by decide)) (fun _ => ?_)
    obtain ⟨z, hz2, hz⟩ := c_size (n := n) S1
    refine h_addC S1 fun m2 S2 => And.intro rfl ?_
    refine hs _ m2 _ S2 (fun m3 y S3 T => Exists.intro 1 (And.intro rfl ?_)) (fun m3 w S3 T => Exists.intro 0 (And.intro rfl ?_))
    · refine And.intro (fun q => absurd q (by decide)) (fun _ => ?_)
      have go : qC false (d + 2) 65 [lR 8 (some n), lI (gI m1 8 n 2)] m3 (fun r m4 => r = none ∧ qW false (d + 2) 64 bc bs 122 [some (lR 8 (some n)), some (lR 1 (some 0)), some (lI b2), some (lI (gI m1 8 n 2))] [] m4 R) := by
        rw [hz]
        exact h_endAtC hz2 S3 fun m4 S4 => And.intro rfl (cc_122 (d := d + 1) S4 (fun m' S' => h1 m' y S' (K _ (pr_tail e T))))
      exact go
    · refine And.intro (fun _ => ?_) (fun q => absurd rfl q)
      exact And.intro (Or.inl rfl) (h0 m3 w S3 (K _ (pr_tail e T)))
  · refine And.intro (fun _ => ?_) (fun q => absurd rfl q)
    exact And.intro (Or.inl rfl) (h0 m1 _ S1 (K _ (pr_tail0 e)))
theorem cc_44 {bc bs z : Nat} {m : LMem} {Φ : Bool × Nat → Prop} {R : LPost} (hB : tp_B (bC s) l) (hl2 : l ≤ 200) (hs : rdC (Pr (bC s) l 3 0) l n s 71 (d + 2) [lI (nI 0)]) (hc0 : rdC (Pr (bC s) l 9 0) l n s 66 (d + 2) [lI (nI 0), lI 0]) (S : tk_S l s m z) (e : tc (bC s) l z = 33 ∨ tc (bC s) l z = 40) (sk3 : sk (bC s) l z = z) (K : ∀ x, PrC (bC s) l z x → Φ x) (h1 : ∀ m' q, tk_S l s m' q → Φ (true, sk (bC s) l q) → R (some (lI 1)) m') (h0 : ∀ m' w, tk_S l s m' w → Φ (false, w) → R (some (lI 0)) m') : qW false (d + 2) 64 bc bs 44 [some (lR 8 (some n)), some (lR 1 (some 0)), some (lI 0), none] [] m R := by
  refine qa_t1_W (cut := [83, 122]) 60 ?_
  refine And.intro (fun _ => ?_) (fun q => absurd rfl q)
  refine And.intro (fun _ => ?_) (fun q => absurd rfl q)
  refine hc0 z m _ S (fun m1 q S1 T => Exists.intro 1 (And.intro rfl ?_)) (fun m1 w S1 T => Exists.intro 0 (And.intro rfl ?_))
  · rw [sk3] at T
    refine And.intro (fun q => absurd q (by decide)) (fun _ => ?_)
    exact cc_83 hB hl2 hs S1 (fun x hx => K x (prC_c e T hx)) h1 h0
  · rw [sk3] at T
    refine And.intro (fun _ => ?_) (fun q => absurd rfl q)
    exact And.intro (Or.inl rfl) (h0 m1 w S1 (K _ (prC_cf e T)))
theorem c_clause (hB : tp_B (bC s) l) (hl2 : l ≤ 200) (hs : rdC (Pr (bC s) l 3 0) l n s 71 (d + 2) [lI (nI 0)]) (hc0 : rdC (Pr (bC s) l 9 0) l n s 66 (d + 2) [lI (nI 0), lI 0]) (hc1 : rdC (PrG (bC s) l) l n s 66 (d + 2) [lI (nI 0), lI 1]) : rdC (Pr (bC s) l 10 0) l n s 64 (d + 3) [] := fun p m R S h1 h0 => by
  refine qC_of rfl rfl ?_
  refine qa_t1_W (cut := [44, 83, 122]) 200 ?_
  refine h_takesC hB hl2 S (by decide) (by decide) (fun m1 S1 e => Exists.intro 1 (And.intro rfl ?_)) (fun m1 S1 e => Exists.intro 0 (And.intro rfl ?_))
  · refine And.intro (fun q => absurd q (by decide)) (fun _ => ?_)
    refine h_takesC hB hl2 S1 (by decide) (by decide) (fun m2 S2 e2 => Exists.intro 1 (And.intro rfl ?_)) (fun m2 S2 e2 => Exists.intro 0 (And.intro rfl ?_))
    · refine And.intro (fun q => absurd q (by decide)) (fun _ => ?_)
      have K : ∀ x, PrC (bC s) l (sk (bC s) l (sk (bC s) l (sk (bC s) l p + 1) + 1)) x → Pr (bC s) l 10 0 (sk (bC s) l p) x := fun x hx => pr_cl e e2 hx
      refine h_nextC hl2 S2 fun m3 S3 => Exists.intro _ (And.intro rfl ?_)
      have sk3 : sk (bC s) l (sk (bC s) l (sk (bC s) l (sk (bC s) l p + 1) + 1)) = sk (bC s) l (sk (bC s) l (sk (bC s) l p + 1) + 1) := sk_sk _
      generalize hz : sk (bC s) l (sk (bC s) l (sk (bC s) l p + 1) + 1) = z at *
      refine And.intro (fun e3 => ?_) (fun ne3 => ?_)
      · have e3 := (t0_tc hB (by decide) (by decide)).mp e3
        exact cc_44 hB hl2 hs hc0 S3 (Or.inl e3) sk3 K h1 h0
      · have ne3 : tc (bC s) l z ≠ 33 := fun c => ne3 ((t0_tc hB (by decide) (by decide)).mpr c)
        refine h_nextC hl2 S3 fun m4 S4 => Exists.intro _ (And.intro rfl ?_)
        rw [sk3] at S4 ⊢
        refine And.intro (fun e4 => ?_) (fun ne4 => ?_)
        · have e4 := (t0_tc hB (by decide) (by decide)).mp e4
          exact cc_44 hB hl2 hs hc0 S4 (Or.inr e4) sk3 K h1 h0
        · have ne4 : tc (bC s) l z ≠ 40 := fun c => ne4 ((t0_tc hB (by decide) (by decide)).mpr c)
          have nn : ¬ (tc (bC s) l z = 33 ∨ tc (bC s) l z = 40) := fun q => by
            rcases q with q | q
            · exact ne3 q
            · exact ne4 q
          refine qa_t1_W (cut := [83, 122]) 100 ?_
          refine And.intro (fun q => absurd q (by decide)) (fun _ => ?_)
          refine hs z m4 _ S4 (fun m5 y S5 T => Exists.intro 1 (And.intro rfl ?_)) (fun m5 w S5 T => Exists.intro 0 (And.intro rfl ?_))
          · rw [sk3] at T
            refine And.intro (fun q => absurd q (by decide)) (fun _ => ?_)
            refine And.intro (fun q => absurd q (by decide)) (fun _ => ?_)
            have y3 : sk (bC s) l (sk (bC s) l y) = sk (bC s) l y := sk_sk y
            refine h_nextC hl2 S5 fun m6 S6 => Exists.intro _ (And.intro rfl ?_)
            generalize hy : sk (bC s) l y = y2 at *
            refine h_isCmpC (fun c => Exists.intro 1 (And.intro rfl ?_)) (fun c => Exists.intro 0 (And.intro rfl ?_))
            · have c2 := (sgn_t0 hB).mp c
              refine And.intro (fun q => absurd q (by decide)) (fun _ => ?_)
              refine hc1 y2 m6 _ S6 (fun m7 u S7 T7 => Exists.intro 1 (And.intro rfl ?_)) (fun m7 w S7 T7 => Exists.intro 0 (And.intro rfl ?_))
              · rw [y3] at T7
                refine And.intro (fun q => absurd q (by decide)) (fun _ => ?_)
                exact cc_83 hB hl2 hs S7 (fun x hx => K x (prC_g nn T c2 T7 hx)) h1 h0
              · rw [y3] at T7
                refine And.intro (fun _ => ?_) (fun q => absurd rfl q)
                exact And.intro (Or.inl rfl) (h0 m7 w S7 (K _ (prC_gf nn T c2 T7)))
            · have c2 : sgB (tc (bC s) l y2) = false := by
                cases hx : sgB (tc (bC s) l y2) with
                | false => rfl
                | true => exact absurd ((sgn_t0 hB).mpr hx) c
              refine And.intro (fun _ => ?_) (fun q => absurd rfl q)
              exact cc_122 (d := d + 1) S6 (fun m' S' => h1 m' y2 S' (by rw [y3]; exact K _ (prC_s nn T c2)))
          · rw [sk3] at T
            refine And.intro (fun _ => ?_) (fun q => absurd rfl q)
            exact And.intro (Or.inl rfl) (h0 m5 w S5 (K _ (prC_sf nn T)))
    · refine And.intro (fun _ => ?_) (fun q => absurd rfl q)
      exact And.intro (Or.inl rfl) (h0 m2 _ S2 (pr_cl2 e e2))
  · refine And.intro (fun _ => ?_) (fun q => absurd rfl q)
    exact And.intro (Or.inl rfl) (h0 m1 _ S1 (pr_cl1 e))
/-- the loop over clauses: more = 1 at its head -/
theorem cl_loop {bc bs : Nat} {Φ : Bool × Nat → Prop} {R : LPost} (hB : tp_B (bC s) l) (hl2 : l ≤ 200) (hc : rdC (Pr (bC s) l 10 0) l n s 64 (d + 3) []) (h1 : ∀ m' q, tk_S l s m' q → Φ (true, sk (bC s) l q) → R (some (lI 1)) m') (h0 : ∀ m' w, tk_S l s m' w → Φ (false, w) → R (some (lI 0)) m') : ∀ f k z m, l - z < f → 4 * k ≤ z → z ≤ l → tk_S l s m z → (∀ x, Pr (bC s) l 11 0 (sk (bC s) l z) x → Φ x) → qW false (d + 3) 62 bc bs 9 [some (lR 8 (some n)), some (lR 1 (some 0)), some (lI 1), some (lI (nI k))] [] m R := by
  intro f
  induction f with
  | zero => intro k z m hf; exact absurd hf (Nat.not_lt_zero _)
  | succ f ih =>
    intro k z m hf hk hzl S K
    have through : ∀ (m1 : LMem) (y k : Nat), tk_S l s m1 y → sk (bC s) l y = y → tc (bC s) l y ≠ 59 → (∀ x, PrL (bC s) l y x → Φ x) → qW false (d + 3) 62 bc bs 9 [some (lR 8 (some n)), some (lR 1 (some 0)), some (lI 0), some (lI (nI k))] [] m1 R := fun m1 y k S1 y3 n59 K1 => by
      refine qa_t1_W (cut := []) 30 ?_
      refine And.intro (fun _ => ?_) (fun q => absurd rfl q)
      refine h_thruC hB hl2 S1 (fun m2 S2 e => Exists.intro 1 (And.intro rfl ?_)) (fun m2 S2 e => Exists.intro 0 (And.intro rfl ?_))
      · rw [y3] at S2 e
        exact And.intro (Or.inr rfl) (h1 m2 y S2 (by rw [y3]; exact K1 _ (prL_end e)))
      · rw [y3] at S2 e
        exact And.intro (Or.inl rfl) (h0 m2 y S2 (K1 _ (prL_bad n59 e)))
    have body : qC false (d + 3) 64 [lR 8 (some n), lR 1 (some 0)] m (fun r m1 => ∃ v, r = some (lI v) ∧ ((v = 0 → (((0 : Int32) = 0 ∨ (0 : Int32) = 1) ∧ R (some (lI 0)) m1)) ∧ (¬ v = 0 → qC false (d + 3) 118 [lR 1 (some 0), lI 59] m1 (fun r m2 => ∃ v, r = some (lI v) ∧ qW false (d + 3) 62 bc bs 9 [some (lR 8 (some n)), some (lR 1 (some 0)), some (lI v), some (lI (nI k + 1))] [] m2 R)))) := by
      refine hc z m _ S (fun m1 y S1 T => ⟨1, rfl, fun c => absurd c (by decide), fun _ => ?_⟩) (fun m1 w S1 T => ⟨0, rfl, fun _ => ⟨Or.inl rfl, h0 m1 w S1 (K _ (pr_lawf T))⟩, fun c => absurd rfl c⟩)
      rw [nI_1]
      have ge := (Pr_ge T).2.2 rfl
      have s1 : z ≤ sk (bC s) l z := sk_ge z
      have s2 : sk (bC s) l y ≤ max y l := sk_le y
      have yl := S1.2.2.2.2
      have y3 : sk (bC s) l (sk (bC s) l y) = sk (bC s) l y := sk_sk y
      refine h_takesC hB hl2 S1 (by decide) (by decide) (fun m2 S2 e => ⟨1, rfl, ?_⟩) (fun m2 S2 e => ⟨0, rfl, ?_⟩)
      · have ql := tc_lt (by decide) e
        exact ih (k + 1) _ m2 (by omega) (by omega) (by omega) S2 (fun x hx => K x (pr_lawL T (prL_59 e hx)))
      · exact through m2 _ (k + 1) S2 y3 e (fun x hx => K x (pr_lawL T hx))
    have hk2 : nI k < 200 := nI_lt (b := 200) (by omega) (by decide)
    refine qa_t1_W (cut := [9]) 60 ?_
    refine And.intro (fun q => absurd q (by decide)) (fun _ => ?_)
    refine And.intro (fun _ => body) (fun q => absurd hk2 q)
/-- Law.readFrom: 1 where the whole tape is a law, else the place is at what is wrong -/
theorem c_law {m : LMem} {R : LPost} (hB : tp_B (bC s) l) (hl2 : l ≤ 200) (S : tk_S l s m 0) (h1 : ∀ m' q, tk_S l s m' q → Pr (bC s) l 11 0 (sk (bC s) l 0) (true, sk (bC s) l q) → R (some (lI 1)) m') (h0 : ∀ m' w, tk_S l s m' w → Pr (bC s) l 11 0 (sk (bC s) l 0) (false, w) → R (some (lI 0)) m') : qC false (d + 74) 62 [lR 8 (some n), lR 1 (some 0)] m R := by
  have hs : rdC (Pr (bC s) l 3 0) l n s 71 (d + 70 + 2) [lI (nI 0)] := c_sums hB hl2 _ 0 (by omega) (by decide)
  have hc0 : rdC (Pr (bC s) l 9 0) l n s 66 (d + 70 + 2) [lI (nI 0), lI 0] := c_condG hB hl2 _ (by omega)
  have hc1 : rdC (PrG (bC s) l) l n s 66 (d + 70 + 2) [lI (nI 0), lI 1] := c_condB hB hl2 _ (by omega)
  have hc := c_clause hB hl2 hs hc0 hc1
  have S1 : tk_S l s (sI m 8 n 2 0) 0 := by
    obtain ⟨J, el, eb, ep, hpl⟩ := S
    refine ⟨y_J_w J (fun r hr g1 g2 => ?_) (x_npr rfl), by rw [gI_sI, if_neg (fun q => absurd q.1 (by decide)), el], ?_, by rw [gI_sI, if_neg (fun q => absurd q.1 (by decide)), ep], hpl⟩
    · have hr : r ∈ [((2 : Int), (2 : Int), (0 : Int), (200 : Int))] := hr
      rw [List.mem_singleton.mp hr]
      exact ⟨by decide, by decide⟩
    · rw [← eb]
      exact funext fun j => by
        show gI (sI m 8 n 2 0) 2 0 j = gI m 2 0 j
        rw [gI_sI, if_neg (fun q => absurd q.1 (by decide))]
  refine qC_of rfl rfl ?_
  refine qa_t1_W (cut := [9]) 20 ?_
  exact cl_loop (d := d + 70) hB hl2 hc h1 h0 (l + 1) 0 0 _ (by omega) (by omega) (by omega) S1 (fun x hx => hx)
end CG
