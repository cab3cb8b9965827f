/-! FALLS, SANDS, SINKS, RAISED of the reference, by value. -/
/-- put aside: aside and its longs alone -/
def paF (s m : LMem) : Prop := (∀ k i j, k ≠ 49 → gI m k i j = gI s k i j) ∧ (∀ k i j, ¬ (k = 33 ∧ i = 0 ∧ (j = 31 ∨ j = 33)) → gL m k i j = gL s k i j) ∧ ∀ k i j, gR m k i j = gR s k i j
section PAV
variable {d : Nat} {s : LMem} {Q : LPost}
theorem pav_l {bc bs : Nat} (h : ∀ m, paF s m → Q none m) : ∀ j k m, k + j = 279 → paF s m → qW false d 265 bc bs 2 [some (lR 33 (some 0)), some (lI (nI k))] [] m Q := by
  intro j
  induction j with
  | zero =>
    intro k m hk hm
    have hk : k = 279 := hk
    subst hk
    have hlt : ¬ nI 279 < 279 := by decide
    have fin : ∀ a b, Q none (sL (sL m 33 0 31 a) 33 0 33 b) := fun a b => h _ ⟨hm.1, fun k i j g => by
      rw [gL_sL, if_neg (fun q => g ⟨q.1, q.2.1, Or.inr q.2.2⟩), gL_sL, if_neg (fun q => g ⟨q.1, q.2.1, Or.inl q.2.2⟩)]
      exact hm.2.1 k i j g, hm.2.2⟩
    refine qa_t1_W (cut := [2]) 30 ?_
    exact And.intro (fun c => absurd c hlt) (fun _ => fin _ _)
  | succ j ih =>
    intro k m hk hm
    have hlt : nI k < 279 := nI_lt (b := 279) (by omega) (by decide)
    have hv : qa_vin (nI k) 279 := nI_in (by omega) (by decide)
    have go : ∀ a v, qW false d 265 bc bs 2 [some (lR 33 (some 0)), some (lI (nI k + 1))] [] (sI m 49 0 a v) Q := fun a v => by
      rw [nI_1]
      refine ih (k + 1) _ (by omega) ⟨fun k' i j' g => ?_, hm.2.1, hm.2.2⟩
      rw [gI_sI, if_neg (fun q => g q.1)]
      exact hm.1 k' i j' g
    refine qa_t1_W (cut := [2]) 30 ?_
    exact And.intro (fun _ => And.intro hv (And.intro hv (go _ _))) (fun c => absurd hlt c)
theorem h_putV (h : ∀ m, paF s m → Q none m) : qC false (d + 1) 265 [lR 33 (some 0)] s Q := by
  have main : ∀ bc bs, qW false d 265 bc bs 2 [some (lR 33 (some 0)), some (lI (nI 0))] [] s Q := fun bc bs => pav_l h 279 0 s (Nat.zero_add _) ⟨fun _ _ _ _ => rfl, fun _ _ _ _ => rfl, fun _ _ _ => rfl⟩
  refine qC_of rfl rfl ?_
  refine qa_t1_W (cut := [2]) 10 ?_
  exact main _ _
theorem tkv_l {bc bs : Nat} (h : ∀ m, Q none m) : ∀ j k m, k + j = 279 → qW false d 266 bc bs 2 [some (lR 33 (some 0)), some (lI (nI k))] [] m Q := by
  intro j
  induction j with
  | zero =>
    intro k m hk
    have hk : k = 279 := hk
    subst hk
    have hlt : ¬ nI 279 < 279 := by decide
    refine qa_t1_W (cut := [2]) 30 ?_
    exact And.intro (fun c => absurd c hlt) (fun _ => h _)
  | succ j ih =>
    intro k m hk
    have hlt : nI k < 279 := nI_lt (b := 279) (by omega) (by decide)
    have hv : qa_vin (nI k) 279 := nI_in (by omega) (by decide)
    have go : ∀ m, qW false d 266 bc bs 2 [some (lR 33 (some 0)), some (lI (nI k + 1))] [] m Q := fun m => by
      rw [nI_1]
      exact ih (k + 1) m (by omega)
    refine qa_t1_W (cut := [2]) 30 ?_
    exact And.intro (fun _ => And.intro hv (And.intro hv (go _))) (fun c => absurd hlt c)
theorem h_takeV (h : ∀ m, Q none m) : qC false (d + 1) 266 [lR 33 (some 0)] s Q := by
  have main : ∀ bc bs, qW false d 266 bc bs 2 [some (lR 33 (some 0)), some (lI (nI 0))] [] s Q := fun bc bs => tkv_l h 279 0 s (Nat.zero_add _)
  refine qC_of rfl rfl ?_
  refine qa_t1_W (cut := [2]) 10 ?_
  exact main _ _
theorem h_harmAllR (h : Q (some (lI (smZ (fun k => gI s 48 0 (260 + k)) 6))) s) : qC false (d + 2) 268 [lR 33 (some 0), lI (-1)] s Q := by
  refine qC_of rfl rfl ?_
  refine qa_t1_W (cut := []) 30 ?_
  refine And.intro (fun _ => ?_) (fun c => absurd rfl c)
  exact h_sumOfV (d := d) 260 6 (by decide) (Exists.intro _ (And.intro rfl h))
end PAV
/-! Both run alike from pictures that agree. -/
def psE (n : Nat) (P R : PS) : Prop := eqn n P.1 R.1 ∧ P.2.1 = R.2.1 ∧ (∀ o, o < 6 → P.2.2.1 o = R.2.2.1 o) ∧ P.2.2.2 = R.2.2.2
section PE
variable {e : EV} {rain : Int32}
theorem rdN_c : ∀ j (S T : (Nat → Nat → Int32) × Int32), eqn e.2.2.2.1 S.1 T.1 → S.2 = T.2 → eqn e.2.2.2.1 (rdN e rain j S).1 (rdN e rain j T).1 ∧ (rdN e rain j S).2 = (rdN e rain j T).2
  | 0, _, _, h, hc => ⟨h, hc⟩
  | j + 1, S, T, h, hc => rdN_c j (rdF e rain S) (rdF e rain T) (rdF_c h hc).1 (rdF_c h hc).2
theorem dyF_c {P R : PS} (h : psE e.2.2.2.1 P R) : psE e.2.2.2.1 (dyF e rain P) (dyF e rain R) := by
  obtain ⟨h1, h2, h3, h4⟩ := h
  have a := rdN_c (e := e) (rain := rain) 4 (p1F rain e.2.1 P.1, P.2.1) (p1F rain e.2.1 R.1, R.2.1) (p1_c h1) h2
  have b : eqn e.2.2.2.1 (dyC e rain P) (dyC e rain R) := by
    unfold dyC
    rw [h4]
    exact p6_c (slO_c a.1)
  refine ⟨p7_c b, a.2, fun o ho => ?_, ?_⟩
  · show hmA (dyC e rain P) P.2.2.1 e.2.2.2.1 o = hmA (dyC e rain R) R.2.2.1 e.2.2.2.1 o
    rw [hmA_c b _ (Nat.le_refl _)]
    exact hmA_h (h3 o ho) _
  · show slD e P.2.2.2 = slD e R.2.2.2
    rw [h4]
theorem rnD_c {w v : Nat → Int32} {P R : PS} (h : psE e.2.2.2.1 P R) : ∀ k, (∀ j, j < k → w j = v j) → psE e.2.2.2.1 (rnD e w P k) (rnD e v R k)
  | 0, _ => h
  | k + 1, hw => by
    show psE _ (dyF e (w k) (rnD e w P k)) (dyF e (v k) (rnD e v R k))
    rw [hw k (by omega)]
    exact dyF_c (rnD_c h k (fun j hj => hw j (by omega)))
theorem pR_c {w v : Nat → Int32} {nd : Nat} {l l2 : Int64} {X Y : Nat → Nat → Int32} (hw : ∀ j, j < nd → w j = v j) (hl : l = l2) (h : eqn e.2.2.2.1 X Y) : psE e.2.2.2.1 (pR e w nd l X) (pR e v nd l2 Y) := rnD_c (e := e) (P := (X, (0, ((fun _ => 0), l)))) (R := (Y, (0, ((fun _ => 0), l2)))) ⟨h, rfl, fun _ _ => rfl, hl⟩ nd hw
end PE
abbrev T5 (s : LMem) (dd : Nat) (r w : Nat) : Int32 := gI s 45 0 (100 * dd + 5 * r + w)
abbrev V5 (s : LMem) (r : Nat) (k : Nat) : Int32 := gI s 47 0 (30 * r + k)
def snR (e : EV) (w : Nat → Int32) (nd : Nat) (l : Int64) (T : Nat → Nat → Int32) (by_ bound : Int32) (k : Nat) : Bool := decide (bound < smZ (pR e w nd l (agF (nI k * by_) (-1) 0 (tX T))).2.2.1 6)
def rsR (e : EV) (w : Nat → Int32) (nd : Nat) (l : Int64) (T : Nat → Nat → Int32) (o : Nat) (k : Nat) : Bool := decide ((pR e w nd l (agF 0 (nI o) (nI k) (tX T))).2.2.1 o = 0)
section RT2
variable {d dd r nd : Nat} {s : LMem} {Q : LPost} {e : EV}
/-- what stays as again is called again and again -/
def agI (s m : LMem) : Prop := rF s m ∧ gI m 48 0 277 = gI s 48 0 277 ∧ gI m 48 0 278 = gI s 48 0 278 ∧ gL m 33 0 30 = gL s 33 0 30
theorem h_agR {less o more : Int32} {m : LMem} (hdd : dd < 5) (E : evG e) (h44 : gI s 44 0 dd = nI e.2.2.2.1) (L : reL e (gI s 48 0 277) (gI s 48 0 278) s) (hr : r ≤ 3) (hnd : nd ≤ 30) (h46 : gI s 46 0 r = nI nd) (hw : ∀ k, k < nd → 0 ≤ (V5 s r k).toInt ∧ (V5 s r k).toInt ≤ 99) (G : Gd 0 0 0 e.2.2.2.1 (agF less o more (tX (T5 s dd)))) (I : agI s m) (h : ∀ m', agI s m' → gI m' 48 0 272 = nI e.2.2.2.1 → psR e m' (pR e (V5 s r) nd (gL s 33 0 30) (agF less o more (tX (T5 s dd)))) → Q none m') : qC false (d + 10) 287 [lR 33 (some 0), lI (nI dd), lI (nI r), lI less, lI o, lI more] m Q := by
  obtain ⟨f, i7, i8, iL⟩ := I
  have g : ∀ k j, k ≠ 48 → ¬ (k = 42 ∨ k = 43 ∨ k = 51) → gI m k 0 j = gI s k 0 j := fun k j a b => f.1 k 0 j b (fun q => a q.1)
  have eT : (fun r w => gI m 45 0 (100 * dd + 5 * r + w)) = T5 s dd := funext fun r => funext fun w => g 45 _ (by decide) (by decide)
  have eV : (fun k => gI m 47 0 (30 * r + k)) = V5 s r := funext fun k => g 47 _ (by decide) (by decide)
  refine h_againV (d := d) hdd E ((g 44 dd (by decide) (by decide)).trans h44) (by rw [i7, i8]; exact reL_F f L) hr hnd ((g 46 r (by decide) (by decide)).trans h46) (fun k hk => ?_) (by rw [eT]; exact G) (fun m' f' a7 a8 aL a2 p => ?_)
  · rw [g 47 _ (by decide) (by decide)]
    exact hw k hk
  · rw [eT, eV, iL] at p
    exact h m' ⟨rF_tr f f', a7.trans i7, a8.trans i8, aL.trans iL⟩ a2 p
theorem agI_0 : agI s s := ⟨rF_0, rfl, rfl, rfl⟩
theorem si_l {bc bs : Nat} {by_ bound v : Int32} (hdd : dd < 5) (E : evG e) (h44 : gI s 44 0 dd = nI e.2.2.2.1) (L : reL e (gI s 48 0 277) (gI s 48 0 278) s) (hr : r ≤ 3) (hnd : nd ≤ 30) (h46 : gI s 46 0 r = nI nd) (hw : ∀ k, k < nd → 0 ≤ (V5 s r k).toInt ∧ (V5 s r k).toInt ≤ 99) (G : ∀ k : Nat, k ≤ 30 → Gd 0 0 0 e.2.2.2.1 (agF (nI k * by_) (-1) 0 (tX (T5 s dd)))) (h : ∀ m o6, qW false (d + 10) 290 bc bs 92 [some (lR 33 (some 0)), some (lI (nI dd)), some (lI (nI r)), some (lI by_), some (lI bound), some (lI v), o6] [] m Q) : ∀ j k m, k + j = 31 → agI s m → fstF (snR e (V5 s r) nd (gL s 33 0 30) (T5 s dd) by_ bound) j k = v → qW false (d + 10) 290 bc bs 43 [some (lR 33 (some 0)), some (lI (nI dd)), some (lI (nI r)), some (lI by_), some (lI bound), some (lI (-1)), some (lI (nI k))] [] m Q := by
  intro j
  induction j with
  | zero =>
    intro k m hk hm hv
    have hk : k = 31 := hk
    subst hk
    have hlt : (30 : Int32) < nI 31 := by decide
    have hv : -1 = v := hv
    have go := h m (some (lI (nI 31)))
    rw [← hv] at go
    refine qa_t1_W (cut := [43, 92]) 20 ?_
    exact And.intro (fun _ => go) (fun c => absurd hlt c)
  | succ j ih =>
    intro k m hk hm hv
    have hlt : ¬ (30 : Int32) < nI k := nI_nlt (a := 30) (by omega) (by decide)
    have out : ∀ m3, nI k = v → qW false (d + 10) 290 bc bs 43 [some (lR 33 (some 0)), some (lI (nI dd)), some (lI (nI r)), some (lI by_), some (lI bound), some (lI (nI k)), some (lI (nI k + 1))] [] m3 Q := fun m3 ev => by
      have go := h m3 (some (lI (nI k + 1)))
      rw [← ev] at go
      refine qa_t1_W (cut := [43, 92]) 20 ?_
      exact And.intro (fun _ => go) (fun _ => And.intro (fun c => absurd c (nI_ne1 (by omega))) (fun _ => go))
    have fin : ∀ m3, agI s m3 → psR e m3 (pR e (V5 s r) nd (gL s 33 0 30) (agF (nI k * by_) (-1) 0 (tX (T5 s dd)))) → (bound < smZ (fun o => gI m3 48 0 (260 + o)) 6 → qW false (d + 10) 290 bc bs 43 [some (lR 33 (some 0)), some (lI (nI dd)), some (lI (nI r)), some (lI by_), some (lI bound), some (lI (nI k)), some (lI (nI k + 1))] [] m3 Q) ∧ (¬ bound < smZ (fun o => gI m3 48 0 (260 + o)) 6 → qW false (d + 10) 290 bc bs 43 [some (lR 33 (some 0)), some (lI (nI dd)), some (lI (nI r)), some (lI by_), some (lI bound), some (lI (-1)), some (lI (nI k + 1))] [] m3 Q) := fun m3 f3 p3 => by
      have eh : smZ (fun o => gI m3 48 0 (260 + o)) 6 = smZ (pR e (V5 s r) nd (gL s 33 0 30) (agF (nI k * by_) (-1) 0 (tX (T5 s dd)))).2.2.1 6 := smZ_c 6 (fun o ho => p3.2.2.1 o ho)
      rw [eh]
      refine ⟨fun c => ?_, fun c => ?_⟩
      · have b : snR e (V5 s r) nd (gL s 33 0 30) (T5 s dd) by_ bound k = true := decide_eq_true c
        have hv : cond (snR e (V5 s r) nd (gL s 33 0 30) (T5 s dd) by_ bound k) (nI k) (fstF (snR e (V5 s r) nd (gL s 33 0 30) (T5 s dd) by_ bound) j (k + 1)) = v := hv
        rw [b] at hv
        exact out m3 hv
      · have b : snR e (V5 s r) nd (gL s 33 0 30) (T5 s dd) by_ bound k = false := decide_eq_false c
        have hv : cond (snR e (V5 s r) nd (gL s 33 0 30) (T5 s dd) by_ bound k) (nI k) (fstF (snR e (V5 s r) nd (gL s 33 0 30) (T5 s dd) by_ bound) j (k + 1)) = v := hv
        rw [b] at hv
        rw [nI_1]
        exact ih (k + 1) m3 (by omega) f3 hv
    refine qa_t1_W (cut := [43, 92]) 60 ?_
    refine And.intro (fun c => absurd c hlt) (fun _ => ?_)
    refine And.intro (fun _ => ?_) (fun c => absurd rfl c)
    refine h_agR (d := d) hdd E h44 L hr hnd h46 hw (G k (by omega)) hm (fun m3 f3 _ p3 => And.intro rfl ?_)
    refine h_harmAllR (d := d + 8) (Exists.intro _ (And.intro rfl ?_))
    exact And.intro (fun c => (fin m3 f3 p3).1 c) (fun c => (fin m3 f3 p3).2 c)
theorem ra_l {bc bs o : Nat} {v : Int32} (ho : o < 6) (hdd : dd < 5) (E : evG e) (h44 : gI s 44 0 dd = nI e.2.2.2.1) (L : reL e (gI s 48 0 277) (gI s 48 0 278) s) (hr : r ≤ 3) (hnd : nd ≤ 30) (h46 : gI s 46 0 r = nI nd) (hw : ∀ k, k < nd → 0 ≤ (V5 s r k).toInt ∧ (V5 s r k).toInt ≤ 99) (G : ∀ k : Nat, k ≤ 30 → Gd 0 0 0 e.2.2.2.1 (agF 0 (nI o) (nI k) (tX (T5 s dd)))) (h : ∀ m o6, qW false (d + 10) 291 bc bs 78 [some (lR 33 (some 0)), some (lI (nI dd)), some (lI (nI r)), some (lI (nI o)), some (lI v), o6] [] m Q) : ∀ j k m, k + j = 31 → agI s m → fstF (rsR e (V5 s r) nd (gL s 33 0 30) (T5 s dd) o) j k = v → qW false (d + 10) 291 bc bs 28 [some (lR 33 (some 0)), some (lI (nI dd)), some (lI (nI r)), some (lI (nI o)), some (lI (-1)), some (lI (nI k))] [] m Q := by
  intro j
  induction j with
  | zero =>
    intro k m hk hm hv
    have hk : k = 31 := hk
    subst hk
    have hlt : (30 : Int32) < nI 31 := by decide
    have hv : -1 = v := hv
    have go := h m (some (lI (nI 31)))
    rw [← hv] at go
    refine qa_t1_W (cut := [28, 78]) 20 ?_
    exact And.intro (fun _ => go) (fun c => absurd hlt c)
  | succ j ih =>
    intro k m hk hm hv
    have hlt : ¬ (30 : Int32) < nI k := nI_nlt (a := 30) (by omega) (by decide)
    have ix : (260 : Int32) + nI o = nI (260 + o) := by rw [show (260 : Int32) = nI 260 from rfl, nI_add]
    have vo : qa_vin ((260 : Int32) + nI o) 279 := by
      rw [ix]
      exact nI_in (by omega) (by decide)
    have co : ((260 : Int32) + nI o).toNatClampNeg = 260 + o := by rw [ix, nI_clamp (by omega)]
    have out : ∀ m3, nI k = v → qW false (d + 10) 291 bc bs 28 [some (lR 33 (some 0)), some (lI (nI dd)), some (lI (nI r)), some (lI (nI o)), some (lI (nI k)), some (lI (nI k + 1))] [] m3 Q := fun m3 ev => by
      have go := h m3 (some (lI (nI k + 1)))
      rw [← ev] at go
      refine qa_t1_W (cut := [28, 78]) 20 ?_
      exact And.intro (fun _ => go) (fun _ => And.intro (fun c => absurd c (nI_ne1 (by omega))) (fun _ => go))
    have fin : ∀ m3, agI s m3 → psR e m3 (pR e (V5 s r) nd (gL s 33 0 30) (agF 0 (nI o) (nI k) (tX (T5 s dd)))) → (gI m3 48 0 ((260 : Int32) + nI o).toNatClampNeg = 0 → qW false (d + 10) 291 bc bs 28 [some (lR 33 (some 0)), some (lI (nI dd)), some (lI (nI r)), some (lI (nI o)), some (lI (nI k)), some (lI (nI k + 1))] [] m3 Q) ∧ (¬ gI m3 48 0 ((260 : Int32) + nI o).toNatClampNeg = 0 → qW false (d + 10) 291 bc bs 28 [some (lR 33 (some 0)), some (lI (nI dd)), some (lI (nI r)), some (lI (nI o)), some (lI (-1)), some (lI (nI k + 1))] [] m3 Q) := fun m3 f3 p3 => by
      rw [co, p3.2.2.1 o ho]
      refine ⟨fun c => ?_, fun c => ?_⟩
      · have b : rsR e (V5 s r) nd (gL s 33 0 30) (T5 s dd) o k = true := decide_eq_true c
        have hv : cond (rsR e (V5 s r) nd (gL s 33 0 30) (T5 s dd) o k) (nI k) (fstF (rsR e (V5 s r) nd (gL s 33 0 30) (T5 s dd) o) j (k + 1)) = v := hv
        rw [b] at hv
        exact out m3 hv
      · have b : rsR e (V5 s r) nd (gL s 33 0 30) (T5 s dd) o k = false := decide_eq_false c
        have hv : cond (rsR e (V5 s r) nd (gL s 33 0 30) (T5 s dd) o k) (nI k) (fstF (rsR e (V5 s r) nd (gL s 33 0 30) (T5 s dd) o) j (k + 1)) = v := hv
        rw [b] at hv
        rw [nI_1]
        exact ih (k + 1) m3 (by omega) f3 hv
    refine qa_t1_W (cut := [28, 78]) 60 ?_
    refine And.intro (fun c => absurd c hlt) (fun _ => ?_)
    refine And.intro (fun _ => ?_) (fun c => absurd rfl c)
    refine h_agR (d := d) hdd E h44 L hr hnd h46 hw (G k (by omega)) hm (fun m3 f3 _ p3 => And.intro rfl ?_)
    exact And.intro vo (And.intro (fun c => (fin m3 f3 p3).1 c) (fun c => (fin m3 f3 p3).2 c))
/-- the muddiest of the reference -/
theorem mx_l {bc bs n : Nat} {a1 a2 what : Int32} {m : LMem} (hn : n ≤ 20) (hmn : gI m 48 0 272 = nI n) (h : ∀ o5, qW false d 289 bc bs 90 [some (lR 33 (some 0)), some (lI a1), some (lI a2), some (lI what), some (lI (nI (mdB (vR m) (n - 1)))), o5] [] m Q) : ∀ j k, k + j = n → 1 ≤ k → qW false d 289 bc bs 39 [some (lR 33 (some 0)), some (lI a1), some (lI a2), some (lI what), some (lI (nI (mdB (vR m) (k - 1)))), some (lI (nI k))] [] m Q := by
  have v272 : qa_vin (272 : Int32) 279 := vin_of (x := 272) (n := 279) (by decide) (by decide) (by decide)
  intro j
  induction j with
  | zero =>
    intro k hk _
    have hk : k = n := hk
    subst hk
    have hlt : ¬ nI k < gI m 48 0 (272 : Int32).toNatClampNeg := by
      rw [show gI m 48 0 (272 : Int32).toNatClampNeg = nI k from hmn]
      exact nI_nlt (Nat.le_refl _) (by omega)
    refine qa_t1_W (cut := [39, 90]) 20 ?_
    exact And.intro v272 (And.intro (fun c => absurd c hlt) (fun _ => h _))
  | succ j ih =>
    intro k hk hk1
    have hkn : k < n := by omega
    obtain ⟨y, rfl⟩ : ∃ y, k = y + 1 := ⟨k - 1, by omega⟩
    have hlt : nI (y + 1) < gI m 48 0 (272 : Int32).toNatClampNeg := by
      rw [show gI m 48 0 (272 : Int32).toNatClampNeg = nI n from hmn]
      exact nI_lt hkn (by omega)
    have le := mdB_le (vR m) y
    obtain ⟨i1, e1⟩ := fxi (r := y + 1) 7 20 (by omega) (by decide) rfl
    obtain ⟨i2, e2⟩ := fxi (r := mdB (vR m) y) 7 20 (by omega) (by decide) rfl
    have b1 : gI m 48 0 ((20 : Int32) + nI (y + 1)).toNatClampNeg = vR m 7 (y + 1) := by rw [e1]; rfl
    have b2 : gI m 48 0 ((20 : Int32) + nI (mdB (vR m) y)).toNatClampNeg = vR m 7 (mdB (vR m) y) := by rw [e2]; rfl
    have i := ih (y + 1 + 1) (by omega) (by omega)
    have i : qW false d 289 bc bs 39 [some (lR 33 (some 0)), some (lI a1), some (lI a2), some (lI what), some (lI (nI (if vR m 7 (mdB (vR m) y) < vR m 7 (y + 1) then y + 1 else mdB (vR m) y))), some (lI (nI (y + 1 + 1)))] [] m Q := i
    have yes : gI m 48 0 ((20 : Int32) + nI (mdB (vR m) y)).toNatClampNeg < gI m 48 0 ((20 : Int32) + nI (y + 1)).toNatClampNeg → qW false d 289 bc bs 39 [some (lR 33 (some 0)), some (lI a1), some (lI a2), some (lI what), some (lI (nI (y + 1))), some (lI (nI (y + 1) + 1))] [] m Q := fun c => by
      rw [b1, b2] at c
      rw [if_pos c] at i
      rw [nI_1]
      exact i
    have no : ¬ gI m 48 0 ((20 : Int32) + nI (mdB (vR m) y)).toNatClampNeg < gI m 48 0 ((20 : Int32) + nI (y + 1)).toNatClampNeg → qW false d 289 bc bs 39 [some (lR 33 (some 0)), some (lI a1), some (lI a2), some (lI what), some (lI (nI (mdB (vR m) y))), some (lI (nI (y + 1) + 1))] [] m Q := fun c => by
      rw [b1, b2] at c
      rw [if_neg c] at i
      rw [nI_1]
      exact i
    refine qa_t1_W (cut := [39, 90]) 60 ?_
    refine And.intro v272 ?_
    refine And.intro (fun _ => ?_) (fun c => absurd hlt c)
    exact And.intro i1 (And.intro i2 (And.intro (fun c => yes c) (fun c => no c)))
end RT2
/-! FORMS of the reference. -/
theorem i32_or0 (x : Int32) : x ||| 0 = x := Int32.or_zero
section FM
variable {d r nd : Nat} {s : LMem} {Q : LPost} {e : EV} {soil width flow rain by_ set : Int32}
theorem fo_l {bc bs n fall : Nat} {o4 o5 o6 : Int32} (hn : n ≤ 20) (h : ∀ m o9, kR (fA [1, 2, 3, 4, 5] n) False s m → (∀ q r, 1 ≤ q ∧ q ≤ 5 → r < n → vR m q r = fmX n soil width (nI fall) q r) → qW false d 286 bc bs 190 [some (lR 33 (some 0)), some (lI (nI n)), some (lI soil), some (lI width), some (lI o4), some (lI o5), some (lI o6), some (lI set), some (lI (nI fall)), o9] [] m Q) : ∀ j k m, k + j = n → kR (fA [1, 2, 3, 4, 5] n) False s m → (∀ q r, 1 ≤ q ∧ q ≤ 5 → r < k → vR m q r = fmX n soil width (nI fall) q r) → qW false d 286 bc bs 89 [some (lR 33 (some 0)), some (lI (nI n)), some (lI soil), some (lI width), some (lI o4), some (lI o5), some (lI o6), some (lI set), some (lI (nI fall)), some (lI (nI k))] [] m Q := by
  intro j
  induction j with
  | zero =>
    intro k m hk hm hI
    have hk : k = n := hk
    subst hk
    refine qa_t1_W (cut := [89, 190]) 20 ?_
    exact And.intro (fun c => absurd c (nI_nlt (Nat.le_refl _) (by omega))) (fun _ => h m _ hm hI)
  | succ j ih =>
    intro k m hk hm hI
    have hkn : k < n := by omega
    have hk20 : k < 20 := by omega
    have ix : ∀ w : Nat, w < 5 → qa_vin ((160 : Int32) + 5 * nI k + nI w) 279 ∧ ((160 : Int32) + 5 * nI k + nI w).toNatClampNeg = ro (w + 1) k := fun w hw => by
      have e1 : ro (w + 1) k = 160 + 5 * k + w := if_neg (by omega)
      rw [x_i5, e1]
      exact ⟨nI_in (by omega) (by decide), nI_clamp (by omega)⟩
    obtain ⟨v0, c0⟩ := ix 0 (by decide)
    obtain ⟨v1, c1⟩ := ix 1 (by decide)
    obtain ⟨v2, c2⟩ := ix 2 (by decide)
    obtain ⟨v3, c3⟩ := ix 3 (by decide)
    obtain ⟨v4, c4⟩ := ix 4 (by decide)
    have v0 : qa_vin ((160 : Int32) + 5 * nI k + 0) 279 := v0
    have v1 : qa_vin ((160 : Int32) + 5 * nI k + 1) 279 := v1
    have v2 : qa_vin ((160 : Int32) + 5 * nI k + 2) 279 := v2
    have v3 : qa_vin ((160 : Int32) + 5 * nI k + 3) 279 := v3
    have v4 : qa_vin ((160 : Int32) + 5 * nI k + 4) 279 := v4
    have ebed : nI fall * (nI n - 1 - nI k) = nI fall * nI (n - 1 - k) := by
      rw [nI_p (by omega)]
      refine congrArg (nI fall * ·) ?_
      obtain ⟨y, hy⟩ : ∃ y, n - 1 = y + k := ⟨n - 1 - k, by omega⟩
      rw [hy, show y + k - k = y by omega, ← nI_add, Int32.add_sub_cancel]
    have go : ∀ m1 m2 m3 m4, m1 = sI m 48 0 ((160 : Int32) + 5 * nI k + 0).toNatClampNeg soil → m2 = sI m1 48 0 ((160 : Int32) + 5 * nI k + 1).toNatClampNeg (nI fall * (nI n - 1 - nI k)) → m3 = sI m2 48 0 ((160 : Int32) + 5 * nI k + 2).toNatClampNeg width → m4 = sI m3 48 0 ((160 : Int32) + 5 * nI k + 3).toNatClampNeg 0 → qW false d 286 bc bs 89 [some (lR 33 (some 0)), some (lI (nI n)), some (lI soil), some (lI width), some (lI o4), some (lI o5), some (lI o6), some (lI set), some (lI (nI fall)), some (lI (nI k + 1))] [] (sI m4 48 0 ((160 : Int32) + 5 * nI k + 4).toNatClampNeg 99) Q := fun m1 m2 m3 m4 q1 q2 q3 q4 => by
      have q1 : m1 = sI m 48 0 (ro 1 k) soil := by rw [q1]; exact congrArg (fun x => sI m 48 0 x soil) c0
      have q2 : m2 = sI m1 48 0 (ro 2 k) (nI fall * nI (n - 1 - k)) := by rw [q2, ebed]; exact congrArg (fun x => sI m1 48 0 x _) c1
      have q3 : m3 = sI m2 48 0 (ro 3 k) width := by rw [q3]; exact congrArg (fun x => sI m2 48 0 x width) c2
      have q4 : m4 = sI m3 48 0 (ro 4 k) 0 := by rw [q4]; exact congrArg (fun x => sI m3 48 0 x 0) c3
      have c4 : ((160 : Int32) + 5 * nI k + 4).toNatClampNeg = ro 5 k := c4
      rw [c4, nI_1]
      have a : ∀ f, f ∈ [1, 2, 3, 4, 5] → fA [1, 2, 3, 4, 5] n (ro f k) := fun f hf => ⟨f, hf, k, hkn, rfl⟩
      have k1 : kR (fA [1, 2, 3, 4, 5] n) False s m1 := by rw [q1]; exact kR_s (a 1 (by decide)) hm
      have k2 : kR (fA [1, 2, 3, 4, 5] n) False s m2 := by rw [q2]; exact kR_s (a 2 (by decide)) k1
      have k3 : kR (fA [1, 2, 3, 4, 5] n) False s m3 := by rw [q3]; exact kR_s (a 3 (by decide)) k2
      have k4 : kR (fA [1, 2, 3, 4, 5] n) False s m4 := by rw [q4]; exact kR_s (a 4 (by decide)) k3
      refine ih (k + 1) _ (by omega) (kR_s (a 5 (by decide)) k4) (fun q r hq hr => ?_)
      rw [vR_s (by decide) (by omega) (by omega) hk20, q4, vR_s (by decide) (by omega) (by omega) hk20, q3, vR_s (by decide) (by omega) (by omega) hk20, q2, vR_s (by decide) (by omega) (by omega) hk20, q1, vR_s (by decide) (by omega) (by omega) hk20]
      by_cases g : r = k
      · subst g
        unfold fmX
        rcases (show q = 1 ∨ q = 2 ∨ q = 3 ∨ q = 4 ∨ q = 5 by omega) with rfl | rfl | rfl | rfl | rfl <;> simp
      · rw [if_neg (fun z => g z.2), if_neg (fun z => g z.2), if_neg (fun z => g z.2), if_neg (fun z => g z.2), if_neg (fun z => g z.2)]
        exact hI q r hq (by omega)
    refine qa_t1_W (cut := [89, 190]) 120 ?_
    refine And.intro (fun _ => ?_) (fun c => absurd (nI_lt (by omega) (by omega)) c)
    exact And.intro v0 (And.intro v1 (And.intro v2 (And.intro v3 (And.intro v4 (go _ _ _ _ rfl rfl rfl rfl)))))
def flR2 (e : EV) (w : Nat → Int32) (nd : Nat) (soil width by_ : Int32) (k : Nat) : Bool := decide (¬ by_ < smZ (fun r => if r < e.2.2.2.1 then (pR e w nd 0 (fmX e.2.2.2.1 soil width (nI k))).1 7 r else 0) 20) && decide ((pR e w nd 0 (fmX e.2.2.2.1 soil width (nI k))).2.1 = 0)
theorem fa_238 {bc bs : Nat} {n fall : Nat} {o4 o5 o6 x : Int32} {o9 : Option LV} {m : LMem} (h : qW false d 286 bc bs 70 [some (lR 33 (some 0)), some (lI (nI n)), some (lI soil), some (lI width), some (lI o4), some (lI o5), some (lI o6), some (lI (set ||| x)), some (lI (nI (fall + 1))), o9] [] m Q) : qW false d 286 bc bs 238 [some (lR 33 (some 0)), some (lI (nI n)), some (lI soil), some (lI width), some (lI o4), some (lI o5), some (lI o6), some (lI set), some (lI (nI fall)), o9] [lI x, lI set] m Q := by
  rw [← nI_1] at h
  refine qa_t1_W (cut := [70]) 20 ?_
  exact h
theorem fav_l {bc bs nl : Nat} (E : evG e) (L : reL e (nI nl) (-1) s) (hr : r ≤ 3) (hnd : nd ≤ 30) (h46 : gI s 46 0 r = nI nd) (hw : ∀ k, k < nd → 0 ≤ (V5 s r k).toInt ∧ (V5 s r k).toInt ≤ 99) (G : ∀ k : Nat, k ≤ 9 → Gd 0 0 0 e.2.2.2.1 (fmX e.2.2.2.1 soil width (nI k))) (h : ∀ m o8 o9, qW false (d + 9) 286 bc bs 247 [some (lR 33 (some 0)), some (lI (nI e.2.2.2.1)), some (lI soil), some (lI width), some (lI (nI nl)), some (lI (nI r)), some (lI by_), some (lI (kpF (flR2 e (V5 s r) nd soil width by_) 10)), o8, o9] [] m Q) : ∀ j k m o9, k + j = 10 → rF s m → qW false (d + 9) 286 bc bs 70 [some (lR 33 (some 0)), some (lI (nI e.2.2.2.1)), some (lI soil), some (lI width), some (lI (nI nl)), some (lI (nI r)), some (lI by_), some (lI (kpF (flR2 e (V5 s r) nd soil width by_) k)), some (lI (nI k)), o9] [] m Q := by
  intro j
  induction j with
  | zero =>
    intro k m o9 hk hm
    have hk : k = 10 := hk
    subst hk
    have hlt : (9 : Int32) < nI 10 := by decide
    refine qa_t1_W (cut := [70, 247]) 20 ?_
    exact And.intro (fun _ => h m _ _) (fun c => absurd hlt c)
  | succ j ih =>
    intro k m o9 hk hm
    have hn := E.2.2.2.2
    have hn1 := E.2.2.2.1
    have hlt : ¬ (9 : Int32) < nI k := nI_nlt (a := 9) (by omega) (by decide)
    have v272 : qa_vin (272 : Int32) 279 := vin_of (x := 272) (n := 279) (by decide) (by decide) (by decide)
    have v276 : qa_vin (276 : Int32) 279 := vin_of (x := 276) (n := 279) (by decide) (by decide) (by decide)
    have kf : ∀ (b : Bool), flR2 e (V5 s r) nd soil width by_ k = b → kpF (flR2 e (V5 s r) nd soil width by_) (k + 1) = cond b (kpF (flR2 e (V5 s r) nd soil width by_) k ||| ((1 : Int32) <<< (nI k &&& 31))) (kpF (flR2 e (V5 s r) nd soil width by_) k) := fun b eb => by
      rw [← eb]
      rfl
    have next : ∀ m4 o9 x, rF s m4 → kpF (flR2 e (V5 s r) nd soil width by_) k ||| x = kpF (flR2 e (V5 s r) nd soil width by_) (k + 1) → qW false (d + 9) 286 bc bs 238 [some (lR 33 (some 0)), some (lI (nI e.2.2.2.1)), some (lI soil), some (lI width), some (lI (nI nl)), some (lI (nI r)), some (lI by_), some (lI (kpF (flR2 e (V5 s r) nd soil width by_) k)), some (lI (nI k)), o9] [lI x, lI (kpF (flR2 e (V5 s r) nd soil width by_) k)] m4 Q := fun m4 o9 x f4 ex => by
      refine fa_238 ?_
      rw [ex]
      exact ih (k + 1) m4 o9 (by omega) f4
    -- behind the days
    have fin : ∀ m4 o9, rF s m4 → psR e m4 (pR e (V5 s r) nd 0 (fmX e.2.2.2.1 soil width (nI k))) → (∀ q, e.2.2.2.1 ≤ q → q < 20 → gI m4 48 0 (20 + q) = 0) → (by_ < smZ (fun q => gI m4 48 0 (20 + q)) 20 → qW false (d + 9) 286 bc bs 238 [some (lR 33 (some 0)), some (lI (nI e.2.2.2.1)), some (lI soil), some (lI width), some (lI (nI nl)), some (lI (nI r)), some (lI by_), some (lI (kpF (flR2 e (V5 s r) nd soil width by_) k)), some (lI (nI k)), o9] [lI 0, lI (kpF (flR2 e (V5 s r) nd soil width by_) k)] m4 Q) ∧ (¬ by_ < smZ (fun q => gI m4 48 0 (20 + q)) 20 → (gI m4 48 0 (276 : Int32).toNatClampNeg = 0 → qW false (d + 9) 286 bc bs 238 [some (lR 33 (some 0)), some (lI (nI e.2.2.2.1)), some (lI soil), some (lI width), some (lI (nI nl)), some (lI (nI r)), some (lI by_), some (lI (kpF (flR2 e (V5 s r) nd soil width by_) k)), some (lI (nI k)), o9] [lI ((1 : Int32) <<< (nI k &&& 31)), lI (kpF (flR2 e (V5 s r) nd soil width by_) k)] m4 Q) ∧ (¬ gI m4 48 0 (276 : Int32).toNatClampNeg = 0 → qW false (d + 9) 286 bc bs 238 [some (lR 33 (some 0)), some (lI (nI e.2.2.2.1)), some (lI soil), some (lI width), some (lI (nI nl)), some (lI (nI r)), some (lI by_), some (lI (kpF (flR2 e (V5 s r) nd soil width by_) k)), some (lI (nI k)), o9] [lI 0, lI (kpF (flR2 e (V5 s r) nd soil width by_) k)] m4 Q)) := fun m4 o9 f4 p4 z4 => by
      have em : smZ (fun q => gI m4 48 0 (20 + q)) 20 = smZ (fun q => if q < e.2.2.2.1 then (pR e (V5 s r) nd 0 (fmX e.2.2.2.1 soil width (nI k))).1 7 q else 0) 20 := smZ_c 20 (fun q hq => by
        show gI m4 48 0 (20 + q) = if q < e.2.2.2.1 then _ else 0
        by_cases c : q < e.2.2.2.1
        · rw [if_pos c, ← p4.1 7 q (by decide) c]
          unfold vR
          rw [if_neg (by decide), show ro 7 q = 20 * 1 + q from if_pos (by decide)]
        · rw [if_neg c]
          exact z4 q (by omega) hq)
      rw [em, show gI m4 48 0 (276 : Int32).toNatClampNeg = (pR e (V5 s r) nd 0 (fmX e.2.2.2.1 soil width (nI k))).2.1 from p4.2.1]
      refine ⟨fun c => next m4 o9 0 f4 ?_, fun c => ⟨fun c2 => next m4 o9 _ f4 ?_, fun c2 => next m4 o9 0 f4 ?_⟩⟩
      · rw [kf false (by
          unfold flR2
          rw [decide_eq_false (fun q => q c)]
          rfl)]
        exact i32_or0 _
      · rw [kf true (by
          unfold flR2
          rw [decide_eq_true c, decide_eq_true c2]
          rfl)]
        rfl
      · rw [kf false (by
          unfold flR2
          rw [decide_eq_true c, decide_eq_false c2]
          rfl)]
        exact i32_or0 _
    have body : ∀ m1, m1 = sI m 48 0 (272 : Int32).toNatClampNeg (nI e.2.2.2.1) → qW false (d + 9) 286 bc bs 89 [some (lR 33 (some 0)), some (lI (nI e.2.2.2.1)), some (lI soil), some (lI width), some (lI (nI nl)), some (lI (nI r)), some (lI by_), some (lI (kpF (flR2 e (V5 s r) nd soil width by_) k)), some (lI (nI k)), some (lI (nI 0))] [] m1 Q := fun m1 e1 => by
      have e1 : m1 = sI m 48 0 272 (nI e.2.2.2.1) := e1
      have f1 : rF s m1 := by
        rw [e1]
        exact rF_s hm
      have g272 : gI m1 48 0 272 = nI e.2.2.2.1 := by rw [e1, gI_sI, if_pos ⟨rfl, rfl, rfl⟩]
      refine fo_l (s := m1) (fall := k) hn (fun m2 o9 k2 x2 => ?_) e.2.2.2.1 0 m1 (Nat.zero_add _) kR_0 (fun q r _ hr => absurd hr (Nat.not_lt_zero r))
      have f2 : rF s m2 := rF_tr f1 (rF_R k2)
      have e2 : gI m2 48 0 272 = nI e.2.2.2.1 := by
        rw [k2.1 48 0 272 (by decide) (fun q => by
          have := fA_lt hn (fun f hf => by
            simp only [List.mem_cons, List.not_mem_nil, or_false] at hf
            omega) q.2.2
          omega)]
        exact g272
      have run : qC false (d + 9) 244 [lR 33 (some 0), lI (nI nl), lI (-1), lL 0] m2 (fun rr m3 => rr = none ∧ qC false (d + 9) 254 [lR 33 (some 0), lI (nI r)] m3 (fun rr m4 => rr = none ∧ rF s m4 ∧ psR e m4 (pR e (V5 s r) nd 0 (fmX e.2.2.2.1 soil width (nI k))) ∧ ∀ q, e.2.2.2.1 ≤ q → q < 20 → gI m4 48 0 (20 + q) = 0)) := by
        refine h_beginF (d := d + 8) fun m3 g z q1 q2 q3 q4 => ⟨rfl, ?_⟩
        have f3 : rF s m3 := rF_tr f2 (rF_G g)
        have e3 : gI m3 48 0 272 = nI e.2.2.2.1 := (g.1 48 0 272 (fun q => q.2.2.2.1 rfl)).trans e2
        have R3 : reH e m3 := reH_of (reL_F f3 L) e3 q1 q2
        have P3 := ps_begin (e := e) hn x2 (fun q r hq => by
          unfold fmX
          rw [if_neg (by omega), if_neg (by omega), if_neg (by omega), if_neg (by omega)]) g z q3
        have w3 : ∀ k, gI m3 47 0 k = gI s 47 0 k := fun k => f3.1 47 0 k (by decide) (fun q => absurd q.1 (by decide))
        have ew : (fun k => gI m3 47 0 (30 * r + k)) = V5 s r := funext fun k => w3 _
        refine h_runOfP (d := d) E R3 hr hnd ((f3.1 46 0 r (by decide) (fun q => absurd q.1 (by decide))).trans h46) (fun k hk => by rw [w3]; exact hw k hk) (G k (by omega)) P3 (fun m4 k4 p4 => ⟨rfl, rF_tr f3 (rF_R k4), ?_, fun q g1 g2 => ?_⟩)
        · rw [ew] at p4
          exact p4
        · have e7 : ro 7 q = 20 * 1 + q := if_pos (by decide)
          rw [k4.1 48 0 (20 + q) (by decide) (fun w => ?_)]
          · exact z (20 + q) (by omega)
          · rcases w.2.2 with ⟨f, hf, r', hr', ee⟩ | w
            · have hf : 1 ≤ f ∧ f ≤ 13 := by
                simp only [List.mem_cons, List.not_mem_nil, or_false] at hf
                omega
              have := ro_inj (f := 7) (g := f) (r := q) (q := r') (by decide) hf g2 (by omega) (by rw [e7]; exact ee)
              omega
            · omega
      refine qa_t1_W (cut := [238]) 80 ?_
      refine qC_mono run fun rr m3 q => ⟨q.1, ?_⟩
      refine qC_mono q.2 fun rr m4 q => ⟨q.1, ?_⟩
      obtain ⟨_, f4, p4, z4⟩ := q
      obtain ⟨t1, t2⟩ := fin m4 o9 f4 p4 z4
      refine h_sumOfV (d := d + 8) 20 20 (by decide) (Exists.intro _ (And.intro rfl ?_))
      refine And.intro (fun c => t1 c) (fun c => ?_)
      refine And.intro v276 ?_
      exact And.intro (fun c2 => (t2 c).1 c2) (fun c2 => (t2 c).2 c2)
    refine qa_t1_W (cut := [70, 89, 247]) 40 ?_
    refine And.intro (fun c => absurd c hlt) (fun _ => ?_)
    exact And.intro v272 (body _ rfl)
end FM
