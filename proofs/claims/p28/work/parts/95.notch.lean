/-! notch of the reference: share's table, and why its search ends. -/
def wkF (s : LMem) (r : Nat) : Int32 := (gI s 48 0 (20 + r) + gI s 48 0 (40 + r) / 10) * (if gI s 48 0 (160 + 5 * r + 0) = 0 then 3 else if gI s 48 0 (160 + 5 * r + 0) = 1 then 1 else 2)
def wrF (s : LMem) : Nat → Nat → Int32 → Int32
  | _, 0, a => a
  | r, k + 1, a => wrF s (r + 1) k (a + wkF s r)
def nt_F (s m : LMem) : Prop := (∀ k i j, ¬ (k = 57 ∧ i = 0 ∧ j < 147) → gI m k i j = gI s k i j) ∧ (∀ k i j, gL m k i j = gL s k i j) ∧ ∀ k i j, gR m k i j = gR s k i j
theorem nt_0 {s : LMem} : nt_F s s := ⟨fun _ _ _ _ => rfl, fun _ _ _ => rfl, fun _ _ _ => rfl⟩
theorem nt_s {s m : LMem} {j : Nat} {v : Int32} (h : nt_F s m) (hj : j < 147) : nt_F s (sI m 57 0 j v) := by
  refine ⟨fun k i j' hn => ?_, h.2.1, h.2.2⟩
  rw [gI_sI, if_neg (fun q => hn ⟨q.1, q.2.1, by omega⟩)]
  exact h.1 k i j' hn
theorem nt_J {s m : LMem} (hJ : y_J x_X s) (h : nt_F s m) : y_J x_X m := by
  refine ⟨fun k i j r hr g1 g2 => ?_, ?_, x_X_cl s m (fun k i j hp => h.1 k i j (fun q => ?_)) hJ.2.2⟩
  · by_cases e : k = 57 ∧ i = 0 ∧ j < 147
    · obtain ⟨rfl, _, _⟩ := e
      rw [show y_B 57 = [] from rfl] at hr
      cases hr
    · rw [h.1 k i j e]
      exact hJ.1 k i j r hr g1 g2
  · obtain ⟨r1, r2, r3, r4⟩ := hJ.2.1
    exact ⟨fun i q hq => r1 i q (by rw [← h.2.2]; exact hq), fun i q hq => r2 i q (by rw [← h.2.2]; exact hq), fun i q hq => r3 i q (by rw [← h.2.2]; exact hq), fun i q hq => r4 i q (by rw [← h.2.2]; exact hq)⟩
  · obtain ⟨rfl, _, _⟩ := q
    obtain ⟨r, hr, _⟩ := hp
    rw [show y_P 57 = [] from rfl] at hr
    cases hr
theorem nt_48 {s m : LMem} (h : nt_F s m) (j : Nat) : gI m 48 0 j = gI s 48 0 j := h.1 48 0 j (fun q => absurd q.1 (by decide))
theorem wkF_nt {s m : LMem} (h : nt_F s m) (r : Nat) : wkF m r = wkF s r := by
  unfold wkF
  rw [nt_48 h, nt_48 h, nt_48 h]
theorem wrF_nt {s m : LMem} (h : nt_F s m) : ∀ k r a, wrF m r k a = wrF s r k a := by
  intro k
  induction k with
  | zero => intro r a; rfl
  | succ k ih =>
    intro r a
    show wrF m (r + 1) k (a + wkF m r) = wrF s (r + 1) k (a + wkF s r)
    rw [wkF_nt h, ih]
theorem h_workOf {d r : Nat} {s : LMem} {Q : LPost} (hr : r < 20) (h : Q (some (lI (wkF s r))) s) : qC false (d + 2) 300 [lR 33 (some 0), lI (nI r)] s Q := by
  have e1 : (20 : Int32) + nI r = nI (20 + r) := by rw [show (20 : Int32) = nI 20 from rfl, nI_add]
  have e2 : (40 : Int32) + nI r = nI (40 + r) := by rw [show (40 : Int32) = nI 40 from rfl, nI_add]
  have v1 : qa_vin ((20 : Int32) + nI r) 279 := by rw [e1]; exact nI_in (by omega) (by decide)
  have v2 : qa_vin ((40 : Int32) + nI r) 279 := by rw [e2]; exact nI_in (by omega) (by decide)
  have g1 : gI s 48 0 ((20 : Int32) + nI r).toNatClampNeg = gI s 48 0 (20 + r) := by rw [e1, nI_clamp (by omega)]
  have g2 : gI s 48 0 ((40 : Int32) + nI r).toNatClampNeg = gI s 48 0 (40 + r) := by rw [e2, nI_clamp (by omega)]
  unfold wkF at h
  rw [← g1, ← g2] at h
  refine qC_of rfl rfl ?_
  refine qa_t1_W (cut := []) 60 ?_
  refine h_its (w := 0) hr (by decide) (Exists.intro _ (And.intro rfl ?_))
  refine And.intro v1 (And.intro v2 (And.intro (by decide) ?_))
  refine And.intro (fun e => ?_) (fun e => ?_)
  · have e : gI s 48 0 (160 + 5 * r + 0) = 0 := e
    rw [if_pos e] at h
    exact h
  · have e : ¬ gI s 48 0 (160 + 5 * r + 0) = 0 := e
    rw [if_neg e] at h
    refine And.intro (fun e2 => ?_) (fun e2 => ?_)
    · have e2 : gI s 48 0 (160 + 5 * r + 0) = 1 := e2
      rw [if_pos e2] at h
      exact h
    · have e2 : ¬ gI s 48 0 (160 + 5 * r + 0) = 1 := e2
      rw [if_neg e2] at h
      exact h
theorem wr_l {d bc bs t : Nat} {p1 : Int32} {s : LMem} {Q : LPost} (ht : t ≤ 20) : ∀ k r a, r + k = t → Q (some (lI (wrF s r k a))) s → qW false (d + 2) 301 bc bs 5 [some (lR 33 (some 0)), some (lI p1), some (lI (nI t)), some (lI a), some (lI (nI r))] [] s Q := by
  intro k
  induction k with
  | zero =>
    intro r a hr h
    have hr : r = t := hr
    subst hr
    refine qa_t1_W (cut := [5]) 20 ?_
    exact And.intro (fun q => absurd q (nI_nlt (Nat.le_refl _) (by omega))) (fun _ => h)
  | succ k ih =>
    intro r a hr h
    have go : qW false (d + 2) 301 bc bs 5 [some (lR 33 (some 0)), some (lI p1), some (lI (nI t)), some (lI (a + wkF s r)), some (lI (nI r + 1))] [] s Q := by
      rw [nI_1]
      exact ih (r + 1) _ (by omega) h
    refine qa_t1_W (cut := [5]) 40 ?_
    refine And.intro (fun _ => ?_) (fun q => absurd (nI_lt (by omega) (by omega)) q)
    exact h_workOf (by omega) (Exists.intro _ (And.intro rfl go))
theorem h_workOfRow {d f t : Nat} {s : LMem} {Q : LPost} (hf : f ≤ t) (ht : t ≤ 20) (h : Q (some (lI (wrF s f (t - f) 0))) s) : qC false (d + 3) 301 [lR 33 (some 0), lI (nI f), lI (nI t)] s Q := by
  refine qC_of rfl rfl ?_
  refine qa_t1_W (cut := [5]) 20 ?_
  exact wr_l ht (t - f) f 0 (by omega) h
abbrev nT (m : LMem) (a b : Nat) : Int32 := gI m 57 0 (21 * a + b)
def sh_R (s : LMem) (n : Nat) (m : LMem) (a f : Nat) : Prop := (nT m a f = -1 ∨ 0 ≤ (nT m a f).toInt) ∧ (1 ≤ a → nT m a f ≠ -1 → ∃ t, f < t ∧ t ≤ n ∧ nT m (a - 1) t ≠ -1 ∧ qa_max (nT m (a - 1) t) (wrF s f (t - f) 0) = nT m a f) ∧ (1 ≤ a → f + a ≤ n → nT m a f ≠ -1) ∧ (a = 0 → f = n → nT m a f ≠ -1)
theorem sh_Rk {s m m' : LMem} {n a f a' f' : Nat} (hn : n ≤ 20) (hf : f ≤ 20) (he : ∀ j, j ≠ 21 * a + f → gI m' 57 0 j = gI m 57 0 j) (hlt : a' < a ∨ (a' = a ∧ f < f')) (hf' : f' ≤ 20) (h : sh_R s n m a' f') : sh_R s n m' a' f' := by
  have e1 : nT m' a' f' = nT m a' f' := he _ (by omega)
  have e2 : 1 ≤ a' → ∀ t, t ≤ 20 → nT m' (a' - 1) t = nT m (a' - 1) t := fun h1 t ht => he _ (by omega)
  obtain ⟨h1, h2, h3, h4⟩ := h
  refine ⟨by rw [e1]; exact h1, fun g1 g2 => ?_, fun g1 g2 => by rw [e1]; exact h3 g1 g2, fun g1 g2 => by rw [e1]; exact h4 g1 g2⟩
  rw [e1] at g2
  obtain ⟨t, t1, t2, t3, t4⟩ := h2 g1 g2
  exact ⟨t, t1, t2, by rw [e2 g1 t (by omega)]; exact t3, by rw [e2 g1 t (by omega), e1]; exact t4⟩
/-- the best so far of row a, from f, before t -/
def sh_B (s : LMem) (n : Nat) (m : LMem) (a f t : Nat) (b : Int32) : Prop := (b = -1 ∨ 0 ≤ b.toInt) ∧ (1 ≤ a → b ≠ -1 → ∃ t', f < t' ∧ t' < t ∧ nT m (a - 1) t' ≠ -1 ∧ qa_max (nT m (a - 1) t') (wrF s f (t' - f) 0) = b) ∧ (1 ≤ a → ∀ t', f < t' → t' < t → nT m (a - 1) t' ≠ -1 → b ≠ -1) ∧ (a = 0 → f = n → b ≠ -1)
theorem qa_max_ge {x y : Int32} (h : 0 ≤ x.toInt) : 0 ≤ (qa_max x y).toInt ∧ qa_max x y ≠ -1 := by
  have key : 0 ≤ (qa_max x y).toInt := by
    unfold qa_max
    by_cases c : x < y
    · rw [if_pos c]
      have c := Int32.lt_iff_toInt_lt.mp c
      omega
    · rw [if_neg c]
      exact h
  refine ⟨key, fun e => ?_⟩
  rw [e] at key
  exact absurd key (by decide)
section SH
variable {d bc bs n : Nat} {s : LMem} {Q : LPost}
/-- a cell of the table is laid -/
theorem sh_118 {a f : Nat} {b : Int32} {o5 o6 o7 : Option LV} {m : LMem} (hn : n ≤ 20) (ha : a ≤ 6) (hf : f ≤ n) (F : nt_F s m) (D : ∀ a', a' < a → ∀ f', f' ≤ n → sh_R s n m a' f') (E : ∀ f', f < f' → f' ≤ n → sh_R s n m a f') (B : sh_B s n m a f (n + 1) b) (next : ∀ m', nt_F s m' → (∀ a', a' < a → ∀ f', f' ≤ n → sh_R s n m' a' f') → (∀ f', f ≤ f' → f' ≤ n → sh_R s n m' a f') → qW false (d + 3) 303 bc bs 19 [some (lR 33 (some 0)), some (lI (nI n)), some (lI (nI a)), some (lI (nI f + (-1))), some (lI b), o5, o6, o7] [] m' Q) : qW false (d + 3) 303 bc bs 118 [some (lR 33 (some 0)), some (lI (nI n)), some (lI (nI a)), some (lI (nI f)), some (lI b), o5, o6, o7] [] m Q := by
  have i1 : (21 : Int32) * nI a + nI f = nI (21 * a + f) := by rw [show (21 : Int32) = nI 21 from rfl, nI_mul, nI_add]
  have v1 : qa_vin ((21 : Int32) * nI a + nI f) 147 := by rw [i1]; exact nI_in (by omega) (by decide)
  have he : ∀ j, j ≠ 21 * a + f → gI (sI m 57 0 (21 * a + f) b) 57 0 j = gI m 57 0 j := fun j hj => by rw [gI_sI, if_neg (fun q => hj q.2.2)]
  have st := next (sI m 57 0 (21 * a + f) b) (nt_s F (by omega)) (fun a' h1 f' h2 => sh_Rk hn (by omega) he (Or.inl h1) (by omega) (D a' h1 f' h2)) (fun f' h1 h2 => by
    by_cases e : f' = f
    · subst e
      have e0 : nT (sI m 57 0 (21 * a + f') b) a f' = b := by
        show gI (sI m 57 0 (21 * a + f') b) 57 0 (21 * a + f') = b
        rw [gI_sI, if_pos ⟨rfl, rfl, rfl⟩]
      have e2 : 1 ≤ a → ∀ t, t ≤ 20 → nT (sI m 57 0 (21 * a + f') b) (a - 1) t = nT m (a - 1) t := fun h1 t ht => he _ (by omega)
      obtain ⟨b1, b2, b3, b4⟩ := B
      refine ⟨by rw [e0]; exact b1, fun g1 g2 => ?_, fun g1 g2 => ?_, fun g1 g2 => by rw [e0]; exact b4 g1 g2⟩
      · rw [e0] at g2
        obtain ⟨t, t1, t2, t3, t4⟩ := b2 g1 g2
        exact ⟨t, t1, by omega, by rw [e2 g1 t (by omega)]; exact t3, by rw [e2 g1 t (by omega), e0]; exact t4⟩
      · rw [e0]
        by_cases e1 : a = 1
        · subst e1
          exact b3 g1 n (by omega) (by omega) ((D 0 (by decide) n (Nat.le_refl _)).2.2.2 rfl rfl)
        · exact b3 g1 (f' + 1) (by omega) (by omega) ((D (a - 1) (by omega) (f' + 1) (by omega)).2.2.1 (by omega) (by omega))
    · exact sh_Rk hn (by omega) he (Or.inr ⟨rfl, by omega⟩) (by omega) (E f' (by omega) h2))
  have st2 : qW false (d + 3) 303 bc bs 19 [some (lR 33 (some 0)), some (lI (nI n)), some (lI (nI a)), some (lI (nI f + (-1))), some (lI b), o5, o6, o7] [] (sI m 57 0 ((21 : Int32) * nI a + nI f).toNatClampNeg b) Q := by
    rw [i1, nI_clamp (by omega)]
    exact st
  refine qa_t1_W (cut := [19]) 30 ?_
  exact And.intro v1 st2
theorem sh_44 {a f : Nat} {m : LMem} (hn : n ≤ 20) (ha : a ≤ 6) (hf : f ≤ n) (F : nt_F s m) (D : ∀ a', a' < a → ∀ f', f' ≤ n → sh_R s n m a' f') (out : ∀ b o5 o6 o7, sh_B s n m a f (n + 1) b → qW false (d + 3) 303 bc bs 118 [some (lR 33 (some 0)), some (lI (nI n)), some (lI (nI a)), some (lI (nI f)), some (lI b), o5, o6, o7] [] m Q) : ∀ k t b o6 o7, t + k = n + 1 → f < t → sh_B s n m a f t b → qW false (d + 3) 303 bc bs 44 [some (lR 33 (some 0)), some (lI (nI n)), some (lI (nI a)), some (lI (nI f)), some (lI b), some (lI (nI t)), o6, o7] [] m Q := by
  intro k
  induction k with
  | zero =>
    intro t b o6 o7 ht hft B
    have ht : t = n + 1 := ht
    subst ht
    refine qa_t1_W (cut := [118]) 20 ?_
    exact And.intro (fun _ => out b _ o6 o7 B) (fun q => absurd (nI_lt (by omega) (by omega)) q)
  | succ k ih =>
    intro t b o6 o7 ht hft B
    refine qa_t1_W (cut := [44, 118]) 60 ?_
    refine And.intro (fun q => absurd q (nI_nlt (by omega) (by omega))) (fun _ => ?_)
    by_cases a0 : a = 0
    · subst a0
      have B2 : sh_B s n m 0 f (n + 1) b := ⟨B.1, fun q => absurd q (by decide), fun q => absurd q (by decide), B.2.2.2⟩
      exact And.intro (fun q => absurd q (by decide)) (fun _ => out b _ o6 o7 B2)
    · have hpos : (0 : Int32) < nI a := nI_lt (a := 0) (by omega) (by omega)
      have i0 : nI a - 1 = nI (a - 1) := by
        apply Int32.toInt_inj.mp
        rw [x_sub1' (by omega) (by omega), nI_toInt (by omega)]
        omega
      have i1 : (21 : Int32) * (nI a - 1) + nI t = nI (21 * (a - 1) + t) := by rw [i0, show (21 : Int32) = nI 21 from rfl, nI_mul, nI_add]
      have v1 : qa_vin ((21 : Int32) * (nI a - 1) + nI t) 147 := by rw [i1]; exact nI_in (by omega) (by decide)
      have r0 : gI m 57 0 ((21 : Int32) * (nI a - 1) + nI t).toNatClampNeg = nT m (a - 1) t := by rw [i1, nI_clamp (by omega)]
      have w0 : wrF m f (t - f) 0 = wrF s f (t - f) 0 := wrF_nt F _ _ _
      have R := D (a - 1) (by omega) t (by omega)
      have keep : nT m (a - 1) t = -1 ∨ (b ≠ -1 ∧ ¬ qa_max (nT m (a - 1) t) (wrF s f (t - f) 0) < b) → sh_B s n m a f (t + 1) b := fun hk => by
        obtain ⟨b1, b2, b3, b4⟩ := B
        refine ⟨b1, fun g1 g2 => ?_, fun g1 t' g2 g3 g4 => ?_, b4⟩
        · obtain ⟨t', y1, y2, y3, y4⟩ := b2 g1 g2
          exact ⟨t', y1, by omega, y3, y4⟩
        · by_cases e : t' = t
          · subst e
            rcases hk with hk | hk
            · exact absurd hk g4
            · exact hk.1
          · exact b3 g1 t' g2 (by omega) g4
      have take : nT m (a - 1) t ≠ -1 → sh_B s n m a f (t + 1) (qa_max (nT m (a - 1) t) (wrF s f (t - f) 0)) := fun hne => by
        have ge := qa_max_ge (y := wrF s f (t - f) 0) (R.1.resolve_left hne)
        exact ⟨Or.inr ge.1, fun _ _ => ⟨t, hft, by omega, hne, rfl⟩, fun _ _ _ _ _ => ge.2, fun q => absurd q a0⟩
      have go : ∀ x b2, sh_B s n m a f (t + 1) b2 → qW false (d + 3) 303 bc bs 44 [some (lR 33 (some 0)), some (lI (nI n)), some (lI (nI a)), some (lI (nI f)), some (lI b2), some (lI (nI t + 1)), x, some (lI (qa_max (gI m 57 0 ((21 : Int32) * (nI a - 1) + nI t).toNatClampNeg) (wrF m f (t - f) 0)))] [] m Q := fun x b2 B2 => by
        rw [nI_1]
        exact ih (t + 1) b2 _ _ (by omega) (by omega) B2
      refine And.intro (fun _ => ?_) (fun q => absurd hpos q)
      refine And.intro v1 ?_
      refine h_workOfRow (by omega) (by omega) (Exists.intro _ (And.intro rfl ?_))
      have tk : nT m (a - 1) t ≠ -1 → sh_B s n m a f (t + 1) (qa_max (gI m 57 0 ((21 : Int32) * (nI a - 1) + nI t).toNatClampNeg) (wrF m f (t - f) 0)) := fun hne => by
        rw [r0, w0]
        exact take hne
      refine And.intro (fun e => ?_) (fun e => ?_)
      · have e : gI m 57 0 ((21 : Int32) * (nI a - 1) + nI t).toNatClampNeg = -1 := e
        rw [r0] at e
        exact go _ b (keep (Or.inl e))
      · have e : ¬ gI m 57 0 ((21 : Int32) * (nI a - 1) + nI t).toNatClampNeg = -1 := e
        rw [r0] at e
        refine And.intro (fun _ => go _ _ (tk e)) (fun e2 => ?_)
        refine And.intro (fun _ => go _ _ (tk e)) (fun e3 => ?_)
        have e3 : ¬ qa_max (gI m 57 0 ((21 : Int32) * (nI a - 1) + nI t).toNatClampNeg) (wrF m f (t - f) 0) < b := e3
        rw [r0, w0] at e3
        exact go _ b (keep (Or.inr ⟨e2, e3⟩))
theorem nI_mm (f : Nat) : nI (f + 1) + (-1) = nI f := by
  rw [← nI_1, Int32.add_assoc, show (1 : Int32) + (-1) = 0 from by decide, Int32.add_zero]
theorem sh_19 {a : Nat} (hn : n ≤ 20) (ha : a ≤ 6) (out : ∀ m' o3 o4 o5 o6 o7, nt_F s m' → (∀ a', a' < a + 1 → ∀ f', f' ≤ n → sh_R s n m' a' f') → qW false (d + 3) 303 bc bs 11 [some (lR 33 (some 0)), some (lI (nI n)), some (lI (nI (a + 1))), o3, o4, o5, o6, o7] [] m' Q) : ∀ k m o4 o5 o6 o7, k ≤ n + 1 → nt_F s m → (∀ a', a' < a → ∀ f', f' ≤ n → sh_R s n m a' f') → (∀ f', k ≤ f' → f' ≤ n → sh_R s n m a f') → qW false (d + 3) 303 bc bs 19 [some (lR 33 (some 0)), some (lI (nI n)), some (lI (nI a)), some (lI (nI k + (-1))), o4, o5, o6, o7] [] m Q := by
  intro k
  induction k with
  | zero =>
    intro m o4 o5 o6 o7 hk F D E
    have go : qW false (d + 3) 303 bc bs 11 [some (lR 33 (some 0)), some (lI (nI n)), some (lI (nI a + 1)), some (lI (nI 0 + (-1))), o4, o5, o6, o7] [] m Q := by
      rw [nI_1]
      refine out m _ _ _ _ _ F (fun a' h1 f' h2 => ?_)
      by_cases e : a' = a
      · subst e
        exact E f' (Nat.zero_le _) h2
      · exact D a' (by omega) f' h2
    refine qa_t1_W (cut := [11]) 20 ?_
    exact And.intro (fun _ => go) (fun q => absurd (by decide) q)
  | succ f ih =>
    intro m o4 o5 o6 o7 hk F D E
    rw [nI_mm]
    have hnn : ¬ nI f < 0 := fun q => by
      have q := Int32.lt_iff_toInt_lt.mp q
      rw [nI_toInt (by omega)] at q
      have z : (0 : Int32).toInt = 0 := by decide
      rw [z] at q
      omega
    have fin : ∀ b, sh_B s n m a f (f + 1) b → qW false (d + 3) 303 bc bs 44 [some (lR 33 (some 0)), some (lI (nI n)), some (lI (nI a)), some (lI (nI f)), some (lI b), some (lI (nI f + 1)), o6, o7] [] m Q := fun b B => by
      rw [nI_1]
      refine sh_44 hn ha (by omega) F D (fun b o5 o6 o7 B2 => ?_) (n - f) (f + 1) b o6 o7 (by omega) (by omega) B
      exact sh_118 hn ha (by omega) F D (fun f' h1 h2 => E f' (by omega) h2) B2 (fun m' F' D' E' => ih m' _ _ _ _ (by omega) F' D' E')
    have B0 : ∀ b, (b = -1 ∨ 0 ≤ b.toInt) → (1 ≤ a → b = -1) → (a = 0 → f = n → b ≠ -1) → sh_B s n m a f (f + 1) b := fun b b1 b2 b3 => ⟨b1, fun g1 g2 => absurd (b2 g1) g2, fun _ t' g1 g2 => absurd g2 (by omega), b3⟩
    have nz : ∀ z, z ≤ 20 → nI z = 0 → z = 0 := fun z hz q => by
      have q := congrArg Int32.toInt q
      rw [nI_toInt (by omega)] at q
      have z : (0 : Int32).toInt = 0 := by decide
      rw [z] at q
      omega
    refine qa_t1_W (cut := [44]) 40 ?_
    refine And.intro (fun q => absurd q hnn) (fun _ => ?_)
    refine And.intro (fun e => ?_) (fun e => ?_)
    · have ea := nz a (by omega) e
      refine And.intro (fun e2 => ?_) (fun e2 => ?_)
      · exact fin 0 (B0 0 (Or.inr (by decide)) (fun g => by omega) (fun _ _ => by decide))
      · refine fin (-1) (B0 (-1) (Or.inl rfl) (fun _ => rfl) (fun _ g => ?_))
        subst g
        exact absurd rfl e2
    · refine fin (-1) (B0 (-1) (Or.inl rfl) (fun _ => rfl) (fun g => ?_))
      subst g
      exact absurd rfl e
theorem sh_11 (hn : n ≤ 20) (h : ∀ m', nt_F s m' → (∀ a', a' ≤ 6 → ∀ f', f' ≤ n → sh_R s n m' a' f') → Q none m') : ∀ k a m o3 o4 o5 o6 o7, a + k = 7 → nt_F s m → (∀ a', a' < a → ∀ f', f' ≤ n → sh_R s n m a' f') → qW false (d + 3) 303 bc bs 11 [some (lR 33 (some 0)), some (lI (nI n)), some (lI (nI a)), o3, o4, o5, o6, o7] [] m Q := by
  intro k
  induction k with
  | zero =>
    intro a m o3 o4 o5 o6 o7 ha F D
    have ha : a = 7 := ha
    subst ha
    refine qa_t1_W (cut := []) 20 ?_
    exact And.intro (fun _ => h m F (fun a' h1 f' h2 => D a' (by omega) f' h2)) (fun q => absurd (by decide) q)
  | succ k ih =>
    intro a m o3 o4 o5 o6 o7 ha F D
    have st := sh_19 (d := d) (bc := bc) (bs := bs) (Q := Q) (a := a) hn (by omega) (fun m' o3 o4 o5 o6 o7 F' D' => ih (a + 1) m' o3 o4 o5 o6 o7 (by omega) F' D') (n + 1) m o4 o5 o6 o7 (Nat.le_refl _) F D (fun f' h1 h2 => absurd h1 (by omega))
    rw [nI_mm] at st
    have hng : ¬ (6 : Int32) < nI a := nI_nlt (b := a) (a := 6) (by omega) (by decide)
    refine qa_t1_W (cut := [19]) 20 ?_
    exact And.intro (fun q => absurd q hng) (fun _ => st)
theorem h_share (hn : n ≤ 20) (h272 : gI s 48 0 272 = nI n) (h : ∀ m', nt_F s m' → (∀ a', a' ≤ 6 → ∀ f', f' ≤ n → sh_R s n m' a' f') → Q none m') : qC false (d + 4) 303 [lR 33 (some 0)] s Q := by
  have st : qW false (d + 3) 303 0 0 11 [some (lR 33 (some 0)), some (lI (gI s 48 0 272)), some (lI 0), none, none, none, none, none] [] s Q := by
    rw [h272]
    exact sh_11 hn h 7 0 s none none none none none rfl nt_0 (fun a' h1 => absurd h1 (Nat.not_lt_zero _))
  refine qC_of rfl rfl ?_
  refine qa_t1_W (cut := [11]) 20 ?_
  exact And.intro (nI_in (c := 272) (N := 279) (by decide) (by decide)) st
end SH
