/-! THE CLASS'S READER OF LAWS leaves the tokens: unit, truth, condition. -/
def nots (k : Nat) : List Tk := List.replicate k (9, 0)
theorem nots_s {U : List Tk} {i g : Nat} (h : g ≤ i) : (U ++ [(9, 0)]) ++ nots (i - g) = U ++ nots (i + 1 - g) := by
  rw [show i + 1 - g = (i - g) + 1 by omega, List.append_assoc]
  rfl
theorem nots_e {U : List Tk} {i g : Nat} (h : g ≤ i) : (U ++ nots (i - g)) ++ [(9, 0)] = U ++ nots (i + 1 - g) := by
  rw [show i + 1 - g = (i - g) + 1 by omega, List.append_assoc]
  unfold nots
  rw [List.replicate_succ']
theorem nots_0 {U : List Tk} {g : Nat} : U ++ nots (g - g) = U := by
  rw [Nat.sub_self]
  exact List.append_nil U
theorem len_n {U : List Tk} {k : Nat} : (U ++ nots k).length = U.length + k := by
  rw [List.length_append]
  unfold nots
  rw [List.length_replicate]
/-- what begins with a unit (a = 6) or with its comparison (a = 5) -/
def AA (b : Nat → Int32) (l a g p : Nat) (T : List Tk) (z : Nat) (U : List Tk) : Prop := ∃ q T1, AT b l a g p T q T1 ∧ AT b l 7 g q T1 z U
def AO (b : Nat → Int32) (l a g p : Nat) (T : List Tk) (z : Nat) (U : List Tk) : Prop := ∃ q T1, AA b l a g p T q T1 ∧ AT b l 8 g q T1 z U
theorem AA_6 {b : Nat → Int32} {l g p z : Nat} {T U : List Tk} (h : AA b l 6 g p T z U) : AT b l 10 g p T z U := by
  obtain ⟨q, T1, h1, h2⟩ := h
  exact ta_truth h1 h2
theorem AO_6 {b : Nat → Int32} {l g p z : Nat} {T U : List Tk} (h : AO b l 6 g p T z U) : AT b l 9 g p T z U := by
  obtain ⟨q, T1, h1, h2⟩ := h
  exact ta_cond (AA_6 h1) h2
theorem AT_le {b : Nat → Int32} {l nt p q g : Nat} {T U : List Tk} (h : AT b l nt g p T q U) : p ≤ q := by
  obtain ⟨_, _, h⟩ := h
  exact (PT_ge h).1
theorem AA_le {b : Nat → Int32} {l a g p z : Nat} {T U : List Tk} (h : AA b l a g p T z U) : p ≤ z := by
  obtain ⟨q, T1, h1, h2⟩ := h
  exact Nat.le_trans (AT_le h1) (AT_le h2)
section CCV
variable {d l n g : Nat} {s : LMem} {L0 : List Ck}
theorem cu_137V {bc bs i q : Nat} {U : List Tk} {o3 o5 : Option LV} {R : LPost} (hi : i ≤ 6) (hl2 : l ≤ 200) (hq : L0.length + U.length + (i - g) ≤ q) (h : ∀ m', tk_X (xV n s (L0 ++ (U ++ nots (i - g)).map cT)) l s m' q → R (some (lI 1)) m') : ∀ z k m, k + z = i → g ≤ k → tk_X (xV n s (L0 ++ (U ++ nots (k - g)).map cT)) l s m q → qW false (d + 1) 68 bc bs 140 [some (lR 8 (some n)), some (lR 1 (some 0)), some (lI (nI g)), o3, some (lI (nI i)), o5, some (lI 1), some (lI (nI k))] [] m R := by
  intro z
  induction z with
  | zero =>
    intro k m hk hg S
    have hk : k = i := hk
    subst hk
    refine qa_t1_W (cut := [140]) 30 ?_
    refine And.intro (fun q => absurd q (by decide)) (fun _ => ?_)
    exact And.intro (fun q => absurd q (nI_nlt (Nat.le_refl _) (by omega))) (fun _ => And.intro (Or.inr rfl) (h m S))
  | succ z ih =>
    intro k m hk hg S
    have hql := S.1.2.2.2.2
    refine qa_t1_W (cut := [140]) 30 ?_
    refine And.intro (fun q => absurd q (by decide)) (fun _ => ?_)
    refine And.intro (fun _ => ?_) (fun q => absurd (nI_lt (by omega) (by omega)) q)
    refine h_addT (x := (9, 0)) (by decide) (by rw [len_n]; omega) S fun m4 S4 => And.intro rfl ?_
    have go : qW false (d + 1) 68 bc bs 140 [some (lR 8 (some n)), some (lR 1 (some 0)), some (lI (nI g)), o3, some (lI (nI i)), o5, some (lI 1), some (lI (nI k + 1))] [] m4 R := by
      rw [nI_1]
      rw [nots_e hg] at S4
      exact ih (k + 1) m4 (by omega) (by omega) S4
    exact go
theorem cu_137F {bc bs k i q : Nat} {o3 o5 : Option LV} {m : LMem} {R : LPost} (h : ∀ m', tk_X (kC n s) l s m' q → R (some (lI 0)) m') (S : tk_X (kC n s) l s m q) : qW false (d + 1) 68 bc bs 140 [some (lR 8 (some n)), some (lR 1 (some 0)), some (lI (nI g)), o3, some (lI (nI i)), o5, some (lI 0), some (lI (nI k))] [] m R := by
  refine qa_t1_W (cut := [140]) 30 ?_
  exact And.intro (fun _ => And.intro (Or.inl rfl) (h m S)) (fun q => absurd rfl q)
theorem h_roundV {i p : Nat} {T : List Tk} {m : LMem} {R : LPost} (hB : tp_B (bC s) l) (hl2 : l ≤ 200) (hi : i ≤ 6) (hc : i < 6 → rdD (AT (bC s) l 9 (i + 1)) l n s L0 66 (d + 2) [lI (nI (i + 1)), lI 0]) (S : tk_X (xV n s (L0 ++ T.map cT)) l s m p) (hT : L0.length + T.length ≤ p) (e : tc (bC s) l p = 40) (h1 : ∀ m' q U, tk_X (xV n s (L0 ++ U.map cT)) l s m' q → U.length + p ≤ q + T.length → AT (bC s) l 6 i p T (sk (bC s) l q) U → R (some (lI 1)) m') (h0 : ∀ m' w, tk_X (kC n s) l s m' w → R (some (lI 0)) m') : qC false (d + 3) 69 [lR 8 (some n), lR 1 (some 0), lI (nI i)] m R := by
  have hpl := tc_lt (by decide) e
  refine qC_of rfl rfl ?_
  refine qa_t1_W (cut := []) 60 ?_
  refine And.intro (fun c => ?_) (fun c => ?_)
  · have hi6 := (nI_lt6 hi).mp c
    refine h_stepX pX_V hl2 S hpl fun m2 S2 => And.intro rfl ?_
    have go : qC false (d + 2) 66 [lR 8 (some n), lR 1 (some 0), lI (nI i + 1), lI 0] m2 (fun r m3 => ∃ v, r = some (lI v) ∧ ((v = 0 → (((0 : Int32) = 0 ∨ (0 : Int32) = 1) ∧ R (some (lI 0)) m3)) ∧ (¬ v = 0 → qC false (d + 2) 118 [lR 1 (some 0), lI 41] m3 (fun r m4 => ∃ v, r = some (lI v) ∧ ((v = 0 → (((0 : Int32) = 0 ∨ (0 : Int32) = 1) ∧ R (some (lI 0)) m4)) ∧ (¬ v = 0 → (((1 : Int32) = 0 ∨ (1 : Int32) = 1) ∧ R (some (lI 1)) m4))))))) := by
      rw [nI_1]
      refine hc hi6 T (p + 1) m2 _ S2 (by omega) (fun m3 z U S3 hU T3 => ⟨1, rfl, fun c => absurd c (by decide), fun _ => ?_⟩) (fun m3 w S3 => ⟨0, rfl, fun _ => ⟨Or.inl rfl, h0 m3 w S3⟩, fun c => absurd rfl c⟩)
      have zz : z ≤ sk (bC s) l z := sk_ge z
      refine h_takesX hB pX_V hl2 S3 (by decide) (by decide) (fun m4 S4 e93 => ⟨1, rfl, fun c => absurd c (by decide), fun _ => ⟨Or.inr rfl, h1 m4 _ U S4 (by omega) ?_⟩⟩) (fun m4 S4 e93 => ⟨0, rfl, fun _ => ⟨Or.inl rfl, h0 m4 _ (tk_VF S4)⟩, fun c => absurd rfl c⟩)
      exact ta_rnd e hi6 T3 e93
    exact go
  · have hi6 : 6 ≤ i := by
      rcases Nat.lt_or_ge i 6 with z | z
      · exact absurd ((nI_lt6 hi).mpr z) c
      · exact z
    exact And.intro (Or.inl rfl) (h0 m p (tk_VF S))
theorem cu_101V {bc bs i p p0 rnd : Nat} {T0 T1 : List Tk} {Φ : Nat → List Tk → Prop} {o3 o7 : Option LV} {m : LMem} {R : LPost} (hB : tp_B (bC s) l) (hl2 : l ≤ 200) (hg : g ≤ i) (hi : i ≤ 6) (hs : rdD (AT (bC s) l 3 i) l n s L0 71 (d + 2) [lI (nI i)]) (S : tk_X (xV n s (L0 ++ T1.map cT)) l s m p) (hT0 : L0.length + T0.length ≤ p0) (hT : T1.length + p0 + (i - g) ≤ p + T0.length) (K : ∀ q U, AT (bC s) l 5 i (sk (bC s) l p) T1 q U → Φ q U) (h1 : ∀ m' q U, tk_X (xV n s (L0 ++ (U ++ nots (i - g)).map cT)) l s m' q → U.length + p0 + (i - g) ≤ q + T0.length → Φ (sk (bC s) l q) U → R (some (lI 1)) m') (h0 : ∀ m' w, tk_X (kC n s) l s m' w → R (some (lI 0)) m') : qW false (d + 2) 68 bc bs 101 [some (lR 8 (some n)), some (lR 1 (some 0)), some (lI (nI g)), o3, some (lI (nI i)), some (lI (nI rnd)), some (lI 1), o7] [] m R := by
  refine qa_t1_W (cut := [140]) 60 ?_
  refine h_nextX pX_V hl2 S fun m1 S1 => Exists.intro _ (And.intro rfl ?_)
  have sp : p ≤ sk (bC s) l p := sk_ge p
  generalize hq : sk (bC s) l p = q at *
  refine h_isCmpC (fun c => Exists.intro 1 (And.intro rfl ?_)) (fun c => Exists.intro 0 (And.intro rfl ?_))
  · refine And.intro (fun q => absurd q (by decide)) (fun _ => ?_)
    have c2 := (sgn_t0 hB).mp c
    have hql : q < l := by
      rcases Nat.lt_or_ge q l with z | z
      · exact z
      · unfold tc at c2
        rw [if_neg (by omega)] at c2
        exact absurd c2 (by decide)
    refine h_stepX pX_V hl2 S1 hql fun m2 S2 => And.intro rfl ?_
    have ec : t0 (bC s) l q = tc (bC s) l q := by unfold t0 tc; rw [if_pos hql, if_pos hql]
    refine hs T1 (q + 1) m2 _ S2 (by omega) (fun m3 z U S3 hU T3 => Exists.intro 1 (And.intro rfl ?_)) (fun m3 w S3 => Exists.intro 0 (And.intro rfl ?_))
    · have h3l := S3.1.2.2.2.2
      refine h_addT (x := (opT (tc (bC s) l q), 0)) (by
        rw [ec]
        have hs3 : sgn (tc (bC s) l q) := by
          rcases Classical.em (sgn (tc (bC s) l q)) with c | c
          · exact c
          · rw [sgB_f c] at c2
            cases c2
        rcases hs3 with c | c | c <;> rw [c] <;> decide) (by omega) S3 fun m4 S4 => And.intro rfl ?_
      exact cu_137V (d := d + 1) hi hl2 (by rw [len_1]; omega) (fun m' S' => h1 m' z _ S' (by rw [len_1]; omega) (K _ _ (ta_cmp c2 T3))) (i - g) g m4 (by omega) (Nat.le_refl _) (by rw [nots_0]; exact S4)
    · refine h_addF S3 fun m4 S4 => And.intro rfl ?_
      exact cu_137F (d := d + 1) (fun m' S' => h0 m' w S') S4
  · refine And.intro (fun _ => ?_) (fun q => absurd rfl q)
    have c2 : sgB (tc (bC s) l q) = false := by
      cases hx : sgB (tc (bC s) l q) with
      | false => rfl
      | true => exact absurd ((sgn_t0 hB).mpr hx) c
    exact And.intro (Or.inl rfl) (h0 m1 q (tk_VF S1))
theorem cu_3V {bc bs p0 : Nat} {T : List Tk} {R : LPost} (hB : tp_B (bC s) l) (hl2 : l ≤ 200) (hs : ∀ i, i ≤ 6 → rdD (AT (bC s) l 3 i) l n s L0 71 (d + 3) [lI (nI i)]) (hc : ∀ i, g ≤ i → i < 6 → rdD (AT (bC s) l 9 (i + 1)) l n s L0 66 (d + 2) [lI (nI (i + 1)), lI 0]) (hT : L0.length + T.length ≤ p0) (h1 : ∀ m' q U, tk_X (xV n s (L0 ++ U.map cT)) l s m' q → U.length + p0 ≤ q + T.length → AT (bC s) l 6 g (sk (bC s) l p0) T (sk (bC s) l q) U → R (some (lI 1)) m') (h0 : ∀ m' w, tk_X (kC n s) l s m' w → R (some (lI 0)) m') : ∀ k i p m, i + k = 6 → g ≤ i → tk_X (xV n s (L0 ++ T.map cT)) l s m p → p0 + (i - g) ≤ p → (∀ q U, AT (bC s) l 6 i (sk (bC s) l p) T q U → AT (bC s) l 6 g (sk (bC s) l p0) T q (U ++ nots (i - g))) → qW false (d + 3) 68 bc bs 3 [some (lR 8 (some n)), some (lR 1 (some 0)), some (lI (nI g)), some (lI 0), some (lI (nI i)), none, none, none] [] m R := by
  intro k
  induction k with
  | zero =>
    intro i p m hi hg S hP K
    have sk3 : sk (bC s) l (sk (bC s) l p) = sk (bC s) l p := sk_sk p
    have sp : p ≤ sk (bC s) l p := sk_ge p
    generalize hz0 : sk (bC s) l p0 = z0 at *
    refine qa_t1_W (cut := [3, 101, 140]) 100 ?_
    refine And.intro (fun _ => ?_) (fun q => absurd rfl q)
    refine h_nextX pX_V hl2 S fun m1 S1 => Exists.intro _ (And.intro rfl ?_)
    generalize hq : sk (bC s) l p = q at *
    have i6 : ¬ nI i < 6 := fun c => by have := (nI_lt6 (show i ≤ 6 by omega)).mp c; omega
    refine And.intro (fun e => ?_) (fun ne => ?_)
    · have e := (t0_tc hB (by decide) (by decide)).mp e
      exact And.intro (fun c => absurd c i6) (fun _ => And.intro (Or.inl rfl) (h0 m1 q (tk_VF S1)))
    · have ne : tc (bC s) l q ≠ 33 := fun c => ne ((t0_tc hB (by decide) (by decide)).mpr c)
      refine And.intro (fun _ => ?_) (fun q => absurd rfl q)
      refine h_nextX pX_V hl2 S1 fun m2 S2 => Exists.intro _ (And.intro rfl ?_)
      rw [sk3] at S2 ⊢
      refine And.intro (fun e => ?_) (fun ne2 => ?_)
      · have e := (t0_tc hB (by decide) (by decide)).mp e
        refine And.intro (fun q => absurd q (by decide)) (fun _ => ?_)
        refine h_roundV (d := d) (i := i) hB hl2 (by omega) (fun c => absurd c (by omega)) S2 (by omega) e (fun m3 z U S3 hU T3 => Exists.intro 1 (And.intro rfl ?_)) (fun m3 w S3 => Exists.intro 0 (And.intro rfl ?_))
        · refine And.intro (fun q => absurd q (by decide)) (fun _ => ?_)
          exact cu_137V (d := d + 2) (by omega) hl2 (by omega) (fun m' S' => h1 m' z _ S' (by rw [len_n]; omega) (K _ _ T3)) (i - g) g m3 (by omega) (Nat.le_refl _) (by rw [nots_0]; exact S3)
        · refine And.intro (fun q => absurd q (by decide)) (fun _ => ?_)
          exact cu_137F (d := d + 2) (fun m' S' => h0 m' w S') S3
      · have ne2 : tc (bC s) l q ≠ 40 := fun c => ne2 ((t0_tc hB (by decide) (by decide)).mpr c)
        refine And.intro (fun _ => ?_) (fun q => absurd rfl q)
        refine And.intro (fun _ => ?_) (fun q => absurd rfl q)
        refine hs i (by omega) T q m2 _ S2 (by omega) (fun m3 z U S3 hU T3 => Exists.intro 1 (And.intro rfl ?_)) (fun m3 w S3 => Exists.intro 0 (And.intro rfl ?_))
        · rw [sk3] at T3
          refine And.intro (fun q => absurd q (by decide)) (fun _ => ?_)
          refine And.intro (fun _ => ?_) (fun q => absurd rfl q)
          refine And.intro (fun q => absurd q (by decide)) (fun _ => ?_)
          exact cu_101V (d := d + 1) (rnd := 0) (T0 := T) (p0 := p0) (Φ := fun q U => AT (bC s) l 6 g z0 T q (U ++ nots (i - g))) hB hl2 hg (by omega) (hs i (by omega)) S3 hT (by omega) (fun q2 V hV => K q2 V (ta_unit ne ne2 T3 hV)) (fun m' q2 V S' hV hK => h1 m' q2 _ S' (by rw [len_n]; omega) hK) h0
        · refine And.intro (fun _ => ?_) (fun q => absurd rfl q)
          refine And.intro (fun _ => ?_) (fun q => absurd rfl q)
          refine And.intro (fun _ => ?_) (fun q => absurd rfl q)
          exact cu_137F (d := d + 2) (fun m' S' => h0 m' w S') S3
  | succ k ih =>
    intro i p m hi hg S hP K
    have sk3 : sk (bC s) l (sk (bC s) l p) = sk (bC s) l p := sk_sk p
    have sp : p ≤ sk (bC s) l p := sk_ge p
    generalize hz0 : sk (bC s) l p0 = z0 at *
    refine qa_t1_W (cut := [3, 101, 140]) 100 ?_
    refine And.intro (fun _ => ?_) (fun q => absurd rfl q)
    refine h_nextX pX_V hl2 S fun m1 S1 => Exists.intro _ (And.intro rfl ?_)
    generalize hq : sk (bC s) l p = q at *
    have i6 : nI i < 6 := (nI_lt6 (show i ≤ 6 by omega)).mpr (by omega)
    refine And.intro (fun e => ?_) (fun ne => ?_)
    · have e := (t0_tc hB (by decide) (by decide)).mp e
      refine And.intro (fun _ => ?_) (fun c => absurd i6 c)
      refine h_stepX pX_V hl2 S1 (tc_lt (by decide) e) fun m2 S2 => And.intro rfl ?_
      have go : qW false (d + 3) 68 bc bs 3 [some (lR 8 (some n)), some (lR 1 (some 0)), some (lI (nI g)), some (lI 0), some (lI (nI i + 1)), none, none, none] [] m2 R := by
        rw [nI_1]
        exact ih (i + 1) (q + 1) m2 (by omega) (by omega) S2 (by omega) (fun q2 U hU => by
          have := K q2 (U ++ [(9, 0)]) (ta_not e (by omega) hU)
          rw [nots_s hg] at this
          exact this)
      exact go
    · have ne : tc (bC s) l q ≠ 33 := fun c => ne ((t0_tc hB (by decide) (by decide)).mpr c)
      refine And.intro (fun _ => ?_) (fun q => absurd rfl q)
      refine h_nextX pX_V hl2 S1 fun m2 S2 => Exists.intro _ (And.intro rfl ?_)
      rw [sk3] at S2 ⊢
      refine And.intro (fun e => ?_) (fun ne2 => ?_)
      · have e := (t0_tc hB (by decide) (by decide)).mp e
        refine And.intro (fun q => absurd q (by decide)) (fun _ => ?_)
        refine h_roundV (d := d) (i := i) hB hl2 (by omega) (fun c => hc i hg c) S2 (by omega) e (fun m3 z U S3 hU T3 => Exists.intro 1 (And.intro rfl ?_)) (fun m3 w S3 => Exists.intro 0 (And.intro rfl ?_))
        · refine And.intro (fun q => absurd q (by decide)) (fun _ => ?_)
          exact cu_137V (d := d + 2) (by omega) hl2 (by omega) (fun m' S' => h1 m' z _ S' (by rw [len_n]; omega) (K _ _ T3)) (i - g) g m3 (by omega) (Nat.le_refl _) (by rw [nots_0]; exact S3)
        · refine And.intro (fun q => absurd q (by decide)) (fun _ => ?_)
          exact cu_137F (d := d + 2) (fun m' S' => h0 m' w S') S3
      · have ne2 : tc (bC s) l q ≠ 40 := fun c => ne2 ((t0_tc hB (by decide) (by decide)).mpr c)
        refine And.intro (fun _ => ?_) (fun q => absurd rfl q)
        refine And.intro (fun _ => ?_) (fun q => absurd rfl q)
        refine hs i (by omega) T q m2 _ S2 (by omega) (fun m3 z U S3 hU T3 => Exists.intro 1 (And.intro rfl ?_)) (fun m3 w S3 => Exists.intro 0 (And.intro rfl ?_))
        · rw [sk3] at T3
          refine And.intro (fun q => absurd q (by decide)) (fun _ => ?_)
          refine And.intro (fun _ => ?_) (fun q => absurd rfl q)
          refine And.intro (fun q => absurd q (by decide)) (fun _ => ?_)
          exact cu_101V (d := d + 1) (rnd := 0) (T0 := T) (p0 := p0) (Φ := fun q U => AT (bC s) l 6 g z0 T q (U ++ nots (i - g))) hB hl2 hg (by omega) (hs i (by omega)) S3 hT (by omega) (fun q2 V hV => K q2 V (ta_unit ne ne2 T3 hV)) (fun m' q2 V S' hV hK => h1 m' q2 _ S' (by rw [len_n]; omega) hK) h0
        · refine And.intro (fun _ => ?_) (fun q => absurd rfl q)
          refine And.intro (fun _ => ?_) (fun q => absurd rfl q)
          refine And.intro (fun _ => ?_) (fun q => absurd rfl q)
          exact cu_137F (d := d + 2) (fun m' S' => h0 m' w S') S3
theorem c_unit0V (hB : tp_B (bC s) l) (hl2 : l ≤ 200) (hg : g ≤ 6) (hs : ∀ i, i ≤ 6 → rdD (AT (bC s) l 3 i) l n s L0 71 (d + 3) [lI (nI i)]) (hc : ∀ i, g ≤ i → i < 6 → rdD (AT (bC s) l 9 (i + 1)) l n s L0 66 (d + 2) [lI (nI (i + 1)), lI 0]) : rdD (AT (bC s) l 6 g) l n s L0 68 (d + 4) [lI (nI g), lI 0] := fun T p m R S hT h1 h0 => by
  refine qC_of rfl rfl ?_
  refine qa_t1_W (cut := [3]) 20 ?_
  exact cu_3V (d := d) hB hl2 hs hc hT h1 h0 (6 - g) g p m (by omega) (Nat.le_refl _) S (by omega) (fun q U hU => by rw [nots_0]; exact hU)
theorem c_unit1V (hB : tp_B (bC s) l) (hl2 : l ≤ 200) (hg : g ≤ 6) (hs : rdD (AT (bC s) l 3 g) l n s L0 71 (d + 3) [lI (nI g)]) : rdD (AT (bC s) l 5 g) l n s L0 68 (d + 4) [lI (nI g), lI 1] := fun T p m R S hT h1 h0 => by
  refine qC_of rfl rfl ?_
  refine qa_t1_W (cut := [101]) 60 ?_
  refine And.intro (fun q => absurd q (by decide)) (fun _ => ?_)
  refine And.intro (fun q => absurd q (by decide)) (fun _ => ?_)
  refine And.intro (fun _ => ?_) (fun q => absurd rfl q)
  refine And.intro (fun q => absurd q (by decide)) (fun _ => ?_)
  refine And.intro (fun _ => ?_) (fun q => absurd rfl q)
  refine And.intro (fun q => absurd q (by decide)) (fun _ => ?_)
  exact cu_101V (d := d + 1) (rnd := 0) (T0 := T) (T1 := T) (p0 := p) (Φ := AT (bC s) l 5 g (sk (bC s) l p) T) hB hl2 (Nat.le_refl g) hg hs S hT (by omega) (fun q U hU => hU) (fun m' q U S' hU hK => by
    rw [nots_0] at S'
    exact h1 m' q U S' (by omega) hK) h0
theorem ctr_lV {bc bs b : Nat} {p0 : Nat} {T0 : List Tk} {Φ : Nat → List Tk → Prop} {R : LPost} (hB : tp_B (bC s) l) (hl2 : l ≤ 200) (hu : rdD (AT (bC s) l 6 g) l n s L0 68 (d + 2) [lI (nI g), lI 0]) (hT0 : L0.length + T0.length ≤ p0) (h1 : ∀ m' q U, tk_X (xV n s (L0 ++ U.map cT)) l s m' q → U.length + p0 ≤ q + T0.length → Φ (sk (bC s) l q) U → R (some (lI 1)) m') (h0 : ∀ m' w, tk_X (kC n s) l s m' w → R (some (lI 0)) m') : ∀ f k z T m, l - sk (bC s) l z < f → k ≤ sk (bC s) l z → tk_X (xV n s (L0 ++ T.map cT)) l s m z → T.length + p0 ≤ z + T0.length → (∀ q U, AT (bC s) l 7 g (sk (bC s) l z) T q U → Φ q U) → qW false (d + 2) 67 bc bs 15 [some (lR 8 (some n)), some (lR 1 (some 0)), some (lI (nI g)), some (lI (nI b)), some (lI (nI k))] [] m R := by
  intro f
  induction f with
  | zero => intro k z T m hf; exact absurd hf (Nat.not_lt_zero _)
  | succ f ih =>
    intro k z T m hf hk S hT K
    have sk2 : sk (bC s) l z ≤ max z l := sk_le z
    have sz : z ≤ sk (bC s) l z := sk_ge z
    have sk3 : sk (bC s) l (sk (bC s) l z) = sk (bC s) l z := sk_sk z
    have hzl := S.1.2.2.2.2
    refine qa_t1_W (cut := [15]) 80 ?_
    refine And.intro (fun _ => ?_) (fun c => ?_)
    · refine h_takesX hB pX_V hl2 S (by decide) (by decide) (fun m1 S1 e => Exists.intro 1 (And.intro rfl ?_)) (fun m1 S1 e => Exists.intro 0 (And.intro rfl ?_))
      · have hql := tc_lt (by decide) e
        refine And.intro (fun q => absurd q (by decide)) (fun _ => ?_)
        refine hu T _ m1 _ S1 (by omega) (fun m3 z3 U S3 hU T3 => Exists.intro 1 (And.intro rfl ?_)) (fun m3 w S3 => Exists.intro 0 (And.intro rfl ?_))
        · refine And.intro (fun q => absurd q (by decide)) (fun _ => ?_)
          have h3l := S3.1.2.2.2.2
          refine h_addT (x := (10, 0)) (by decide) (by omega) S3 fun m4 S4 => And.intro rfl ?_
          have ge := AT_le T3
          have s1 : sk (bC s) l z + 1 ≤ sk (bC s) l (sk (bC s) l z + 1) := sk_ge _
          have go : qW false (d + 2) 67 bc bs 15 [some (lR 8 (some n)), some (lR 1 (some 0)), some (lI (nI g)), some (lI (nI b)), some (lI (nI k + 1))] [] m4 R := by
            rw [nI_1]
            exact ih (k + 1) z3 _ m4 (by omega) (by omega) S4 (by rw [len_1]; omega) (fun q U hU => K q U (ta_and e T3 hU))
          exact go
        · refine And.intro (fun _ => ?_) (fun q => absurd rfl q)
          exact And.intro (Or.inl rfl) (h0 m3 w S3)
      · refine And.intro (fun _ => ?_) (fun q => absurd rfl q)
        exact And.intro (Or.inr rfl) (h1 m1 _ T S1 (by omega) (by rw [sk3]; exact K _ _ (ta_and0 e)))
    · exact And.intro (Or.inr rfl) (h1 m z T S (by omega) (K _ _ (ta_and0 (end200 (by decide) hl2 hk (by omega) c))))
theorem c_truthV {a b : Nat} (hB : tp_B (bC s) l) (hl2 : l ≤ 200) (ha : rdD (AT (bC s) l a g) l n s L0 68 (d + 2) [lI (nI g), lI (nI b)]) (hu : rdD (AT (bC s) l 6 g) l n s L0 68 (d + 2) [lI (nI g), lI 0]) : rdD (AA (bC s) l a g) l n s L0 67 (d + 3) [lI (nI g), lI (nI b)] := fun T p m R S hT h1 h0 => by
  refine qC_of rfl rfl ?_
  refine qa_t1_W (cut := [15]) 30 ?_
  refine ha T p m _ S hT (fun m1 q U S1 hU T1 => Exists.intro 1 (And.intro rfl ?_)) (fun m1 w S1 => Exists.intro 0 (And.intro rfl ?_))
  · refine And.intro (fun q => absurd q (by decide)) (fun _ => ?_)
    exact ctr_lV (Φ := AA (bC s) l a g (sk (bC s) l p) T) hB hl2 hu hT h1 h0 (l - sk (bC s) l q + 1) 0 q U m1 (by omega) (Nat.zero_le _) S1 hU (fun q2 V hV => ⟨_, U, T1, hV⟩)
  · refine And.intro (fun _ => ?_) (fun q => absurd rfl q)
    exact And.intro (Or.inl rfl) (h0 m1 w S1)
theorem cco_lV {bc bs b : Nat} {p0 : Nat} {T0 : List Tk} {Φ : Nat → List Tk → Prop} {R : LPost} (hB : tp_B (bC s) l) (hl2 : l ≤ 200) (hu : rdD (AA (bC s) l 6 g) l n s L0 67 (d + 3) [lI (nI g), lI 0]) (hT0 : L0.length + T0.length ≤ p0) (h1 : ∀ m' q U, tk_X (xV n s (L0 ++ U.map cT)) l s m' q → U.length + p0 ≤ q + T0.length → Φ (sk (bC s) l q) U → R (some (lI 1)) m') (h0 : ∀ m' w, tk_X (kC n s) l s m' w → R (some (lI 0)) m') : ∀ f k z T m, l - sk (bC s) l z < f → k ≤ sk (bC s) l z → tk_X (xV n s (L0 ++ T.map cT)) l s m z → T.length + p0 ≤ z + T0.length → (∀ q U, AT (bC s) l 8 g (sk (bC s) l z) T q U → Φ q U) → qW false (d + 3) 66 bc bs 15 [some (lR 8 (some n)), some (lR 1 (some 0)), some (lI (nI g)), some (lI (nI b)), some (lI (nI k))] [] m R := by
  intro f
  induction f with
  | zero => intro k z T m hf; exact absurd hf (Nat.not_lt_zero _)
  | succ f ih =>
    intro k z T m hf hk S hT K
    have sk2 : sk (bC s) l z ≤ max z l := sk_le z
    have sz : z ≤ sk (bC s) l z := sk_ge z
    have sk3 : sk (bC s) l (sk (bC s) l z) = sk (bC s) l z := sk_sk z
    have hzl := S.1.2.2.2.2
    refine qa_t1_W (cut := [15]) 80 ?_
    refine And.intro (fun _ => ?_) (fun c => ?_)
    · refine h_takesX hB pX_V hl2 S (by decide) (by decide) (fun m1 S1 e => Exists.intro 1 (And.intro rfl ?_)) (fun m1 S1 e => Exists.intro 0 (And.intro rfl ?_))
      · have hql := tc_lt (by decide) e
        refine And.intro (fun q => absurd q (by decide)) (fun _ => ?_)
        refine hu T _ m1 _ S1 (by omega) (fun m3 z3 U S3 hU T3 => Exists.intro 1 (And.intro rfl ?_)) (fun m3 w S3 => Exists.intro 0 (And.intro rfl ?_))
        · refine And.intro (fun q => absurd q (by decide)) (fun _ => ?_)
          have h3l := S3.1.2.2.2.2
          refine h_addT (x := (11, 0)) (by decide) (by omega) S3 fun m4 S4 => And.intro rfl ?_
          have ge := AA_le T3
          have s1 : sk (bC s) l z + 1 ≤ sk (bC s) l (sk (bC s) l z + 1) := sk_ge _
          have go : qW false (d + 3) 66 bc bs 15 [some (lR 8 (some n)), some (lR 1 (some 0)), some (lI (nI g)), some (lI (nI b)), some (lI (nI k + 1))] [] m4 R := by
            rw [nI_1]
            exact ih (k + 1) z3 _ m4 (by omega) (by omega) S4 (by rw [len_1]; omega) (fun q U hU => K q U (ta_or e (AA_6 T3) hU))
          exact go
        · refine And.intro (fun _ => ?_) (fun q => absurd rfl q)
          exact And.intro (Or.inl rfl) (h0 m3 w S3)
      · refine And.intro (fun _ => ?_) (fun q => absurd rfl q)
        exact And.intro (Or.inr rfl) (h1 m1 _ T S1 (by omega) (by rw [sk3]; exact K _ _ (ta_or0 e)))
    · exact And.intro (Or.inr rfl) (h1 m z T S (by omega) (K _ _ (ta_or0 (end200 (by decide) hl2 hk (by omega) c))))
theorem c_condV {a b : Nat} (hB : tp_B (bC s) l) (hl2 : l ≤ 200) (ha : rdD (AA (bC s) l a g) l n s L0 67 (d + 3) [lI (nI g), lI (nI b)]) (hu : rdD (AA (bC s) l 6 g) l n s L0 67 (d + 3) [lI (nI g), lI 0]) : rdD (AO (bC s) l a g) l n s L0 66 (d + 4) [lI (nI g), lI (nI b)] := fun T p m R S hT h1 h0 => by
  refine qC_of rfl rfl ?_
  refine qa_t1_W (cut := [15]) 30 ?_
  refine ha T p m _ S hT (fun m1 q U S1 hU T1 => Exists.intro 1 (And.intro rfl ?_)) (fun m1 w S1 => Exists.intro 0 (And.intro rfl ?_))
  · refine And.intro (fun q => absurd q (by decide)) (fun _ => ?_)
    exact cco_lV (Φ := AO (bC s) l a g (sk (bC s) l p) T) hB hl2 hu hT h1 h0 (l - sk (bC s) l q + 1) 0 q U m1 (by omega) (Nat.zero_le _) S1 hU (fun q2 V hV => ⟨_, U, T1, hV⟩)
  · refine And.intro (fun _ => ?_) (fun q => absurd rfl q)
    exact And.intro (Or.inl rfl) (h0 m1 w S1)
end CCV
section CFV
variable {l n : Nat} {s : LMem} {L0 : List Ck}
theorem rdD_6 {g dep : Nat} (h : rdD (AO (bC s) l 6 g) l n s L0 66 dep [lI (nI g), lI 0]) : rdD (AT (bC s) l 9 g) l n s L0 66 dep [lI (nI g), lI 0] := fun T p m R S hT h1 h0 => h T p m R S hT (fun m' q U S' hU X => h1 m' q U S' hU (AO_6 X)) h0
theorem c_sumsV (hB : tp_B (bC s) l) (hl2 : l ≤ 200) : ∀ D i, 24 ≤ D → i ≤ 6 → rdD (AT (bC s) l 3 i) l n s L0 71 D [lI (nI i)] := fun D i hD hi => by
  obtain ⟨e, he⟩ : ∃ e, D = e + 3 * (6 - i) + 6 := ⟨D - (3 * (6 - i) + 6), by omega⟩
  rw [he]
  exact c_sumGV hB hl2 (6 - i) i (by omega) e
theorem c_cond0V {g e : Nat} (hB : tp_B (bC s) l) (hl2 : l ≤ 200) (hu : rdD (AT (bC s) l 6 g) l n s L0 68 (e + 2) [lI (nI g), lI 0]) : rdD (AT (bC s) l 9 g) l n s L0 66 (e + 4) [lI (nI g), lI 0] := by
  have T : rdD (AA (bC s) l 6 g) l n s L0 67 (e + 3) [lI (nI g), lI (nI 0)] := c_truthV hB hl2 hu hu
  exact rdD_6 (c_condV (b := 0) hB hl2 T T)
theorem c_unitGV (hB : tp_B (bC s) l) (hl2 : l ≤ 200) : ∀ k g, 6 - g ≤ k → g ≤ 6 → ∀ D, 30 + 4 * (6 - g) ≤ D → rdD (AT (bC s) l 6 g) l n s L0 68 D [lI (nI g), lI 0] := by
  intro k
  induction k with
  | zero =>
    intro g hk hg D hD
    obtain ⟨d, rfl⟩ : ∃ d, D = d + 4 := ⟨D - 4, by omega⟩
    exact c_unit0V hB hl2 hg (fun i hi => c_sumsV hB hl2 _ i (by omega) hi) (fun i h1 h2 => absurd h2 (by omega))
  | succ k ih =>
    intro g hk hg D hD
    obtain ⟨d, rfl⟩ : ∃ d, D = d + 4 := ⟨D - 4, by omega⟩
    refine c_unit0V hB hl2 hg (fun i hi => c_sumsV hB hl2 _ i (by omega) hi) (fun i h1 h2 => ?_)
    obtain ⟨e, rfl⟩ : ∃ e, d = e + 2 := ⟨d - 2, by omega⟩
    exact c_cond0V hB hl2 (ih (i + 1) (by omega) (by omega) (e + 2) (by omega))
theorem c_condGV (hB : tp_B (bC s) l) (hl2 : l ≤ 200) (D : Nat) (hD : 60 ≤ D) : rdD (AT (bC s) l 9 0) l n s L0 66 D [lI (nI 0), lI 0] := by
  obtain ⟨e, rfl⟩ : ∃ e, D = e + 4 := ⟨D - 4, by omega⟩
  exact c_cond0V hB hl2 (c_unitGV hB hl2 6 0 (by omega) (by omega) (e + 2) (by omega))
theorem c_condBV (hB : tp_B (bC s) l) (hl2 : l ≤ 200) (D : Nat) (hD : 60 ≤ D) : rdD (AO (bC s) l 5 0) l n s L0 66 D [lI (nI 0), lI 1] := by
  obtain ⟨e, rfl⟩ : ∃ e, D = e + 6 := ⟨D - 6, by omega⟩
  have U : rdD (AT (bC s) l 6 0) l n s L0 68 (e + 4) [lI (nI 0), lI 0] := c_unitGV hB hl2 6 0 (by omega) (by omega) (e + 4) (by omega)
  have U1 : rdD (AT (bC s) l 5 0) l n s L0 68 (e + 4) [lI (nI 0), lI (nI 1)] := c_unit1V (d := e) hB hl2 (by decide) (c_sumsV hB hl2 _ 0 (by omega) (by decide))
  have T : rdD (AA (bC s) l 6 0) l n s L0 67 (e + 5) [lI (nI 0), lI (nI 0)] := c_truthV (d := e + 2) hB hl2 U U
  have T1 : rdD (AA (bC s) l 5 0) l n s L0 67 (e + 5) [lI (nI 0), lI (nI 1)] := c_truthV (d := e + 2) hB hl2 U1 U
  exact c_condV (d := e + 2) (b := 1) hB hl2 T1 T
end CFV
