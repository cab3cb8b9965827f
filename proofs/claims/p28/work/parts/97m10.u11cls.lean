/-! FALLS, SANDS, SINKS, RAISED of the class, by value. -/
abbrev T6 (s : LMem) (dd : Nat) (r w : Nat) : Int32 := gI s 6 (20 * dd + r) w
abbrev W5 (s : LMem) (r : Nat) (k : Nat) : Int32 := gI s 14 r k
/-- what a picture becomes by the days of a rain -/
def pR (e : EV) (w : Nat → Int32) (nd : Nat) (l : Int64) (X : Nat → Nat → Int32) : PS := rnD e w (X, (0, ((fun _ => 0), l))) nd
/-- the first so many from k on of which B holds -/
def fstF (B : Nat → Bool) : Nat → Nat → Int32
  | 0, _ => -1
  | j + 1, k => cond (B k) (nI k) (fstF B j (k + 1))
def snB (e : EV) (w : Nat → Int32) (nd : Nat) (l : Int64) (T : Nat → Nat → Int32) (by_ bound : Int32) (k : Nat) : Bool := decide (bound < smZ (pR e w nd l (sinF (by_ * nI k) (tX T))).2.2.1 6)
def rsB (e : EV) (w : Nat → Int32) (nd : Nat) (l : Int64) (T : Nat → Nat → Int32) (o : Nat) (k : Nat) : Bool := decide ((pR e w nd l (rsF (nI o) (nI k) (tX T))).2.2.1 o = 0)
/-- the muddiest of the rows up to k -/
def mdB (X : Nat → Nat → Int32) : Nat → Nat
  | 0 => 0
  | k + 1 => if X 7 (mdB X k) < X 7 (k + 1) then k + 1 else mdB X k
theorem mdB_le (X : Nat → Nat → Int32) : ∀ k, mdB X k ≤ k
  | 0 => Nat.le_refl _
  | k + 1 => by
    have i := mdB_le X k
    show (if X 7 (mdB X k) < X 7 (k + 1) then k + 1 else mdB X k) ≤ k + 1
    by_cases c : X 7 (mdB X k) < X 7 (k + 1)
    · rw [if_pos c]
      exact Nat.le_refl _
    · rw [if_neg c]
      omega
theorem mdB_c {n : Nat} {X Y : Nat → Nat → Int32} (h : eqn n X Y) : ∀ k, k < n → mdB X k = mdB Y k
  | 0, _ => rfl
  | k + 1, hk => by
    have i := mdB_c h k (by omega)
    have le := mdB_le Y k
    show (if X 7 (mdB X k) < X 7 (k + 1) then k + 1 else mdB X k) = (if Y 7 (mdB Y k) < Y 7 (k + 1) then k + 1 else mdB Y k)
    rw [i, h 7 (mdB Y k) (by decide) (by omega), h 7 (k + 1) (by decide) hk]
def sdV (n : Nat) (P : PS) (what : Int32) : Int32 := if what = 0 then nI (mdB P.1 (n - 1)) else if what = 1 then P.1 7 (mdB P.1 (n - 1)) else P.2.1
def flB (e : EV) (w : Nat → Int32) (nd : Nat) (soil width by_ : Int32) (k : Nat) : Bool := decide (¬ by_ < smZ (fun r => (pR e w nd 0 (fmX e.2.2.2.1 soil width (nI k))).1 7 r) e.2.2.2.1) && decide ((pR e w nd 0 (fmX e.2.2.2.1 soil width (nI k))).2.1 = 0)
def kpF (B : Nat → Bool) : Nat → Int32
  | 0 => 0
  | k + 1 => cond (B k) (kpF B k ||| ((1 : Int32) <<< (nI k &&& 31))) (kpF B k)
section CT
variable {d dd r nd : Nat} {s : LMem} {Q : LPost} {e : EV}
theorem h_digR {m : LMem} (hn : e.2.2.2.1 ≤ 20) (h4 : gI s 4 dd 1 = nI e.2.2.2.1) (L : csL e (gR s 17 0 6) (gR s 17 0 7) s) (F : cF 1 s m) (h : ∀ m', rdy e (gL s 17 0 8) (tX (T6 s dd)) s m' → Q none m') : qC false (d + 3) 15 [lR 17 (some 1), lR 17 (some 0), lR 4 (some dd)] m Q := by
  have eT : (fun r w => gI m 6 (20 * dd + r) w) = T6 s dd := funext fun r => funext fun w => cF_k F 6 (20 * dd + r) w (by decide)
  have e6 : gR m 17 0 6 = gR s 17 0 6 := F.2.2 17 0 6 (fun q => absurd q.2 (by decide)) (fun q => absurd q.1 (by decide))
  have e7 : gR m 17 0 7 = gR s 17 0 7 := F.2.2 17 0 7 (fun q => absurd q.2 (by decide)) (fun q => absurd q.1 (by decide))
  have e8 : gL m 17 0 8 = gL s 17 0 8 := F.2.1 17 0 8 (fun q => absurd q.2 (by decide))
  refine h_digLikeV (d := d) (i := 1) (o := 0) hn ((cF_k F 4 dd 1 (by decide)).trans h4) fun m' D => h m' ?_
  rw [e6, e7, e8, eT] at D
  have R := rdy_dig (csL_F F L) D
  exact ⟨cF_tr F R.1, R.2⟩
theorem ys_l {bc bs : Nat} {by_ bound v : Int32} (E : evG e) (h4 : gI s 4 dd 1 = nI e.2.2.2.1) (L : csL e (gR s 17 0 6) (gR s 17 0 7) s) (ow : ∀ q, q < e.2.2.2.1 → ∃ o : Nat, o < 6 ∧ T6 s dd q 3 = nI o) (hnd : nd ≤ 30) (h13 : gI s 13 r 1 = nI nd) (h : ∀ m, cF 1 s m → Q (some (lI v)) m) : ∀ j k m, k + j = 31 → cF 1 s m → fstF (snB e (W5 s r) nd (gL s 17 0 8) (T6 s dd) by_ bound) j k = v → qW false (d + 7) 137 bc bs 3 [some (lR 22 (some 0)), some (lR 4 (some dd)), some (lR 13 (some r)), some (lI by_), some (lI bound), some (lI (nI k))] [] m Q := by
  intro j
  induction j with
  | zero =>
    intro k m hk hm hv
    have hk : k = 31 := hk
    subst hk
    have hlt : (30 : Int32) < nI 31 := by decide
    have hv : -1 = v := hv
    refine qa_t1_W (cut := [3]) 20 ?_
    refine And.intro (fun _ => ?_) (fun c => absurd hlt c)
    have g := h m hm
    rw [← hv] at g
    exact g
  | succ j ih =>
    intro k m hk hm hv
    have hlt : ¬ (30 : Int32) < nI k := nI_nlt (a := 30) (by omega) (by decide)
    have fin : ∀ m3, cF 1 s m3 → psC e 1 m3 (pR e (W5 s r) nd (gL s 17 0 8) (sinF (by_ * nI k) (tX (T6 s dd)))) → (bound < smZ (fun o => gI m3 19 1 o) 6 → Q (some (lI (nI k))) m3) ∧ (¬ bound < smZ (fun o => gI m3 19 1 o) 6 → qW false (d + 7) 137 bc bs 3 [some (lR 22 (some 0)), some (lR 4 (some dd)), some (lR 13 (some r)), some (lI by_), some (lI bound), some (lI (nI k + 1))] [] m3 Q) := fun m3 f3 p3 => by
      have eh : smZ (fun o => gI m3 19 1 o) 6 = smZ (pR e (W5 s r) nd (gL s 17 0 8) (sinF (by_ * nI k) (tX (T6 s dd)))).2.2.1 6 := smZ_c 6 (fun o ho => p3.2.2.1 o ho)
      rw [eh]
      refine ⟨fun c => ?_, fun c => ?_⟩
      · have b : snB e (W5 s r) nd (gL s 17 0 8) (T6 s dd) by_ bound k = true := decide_eq_true c
        have hv : cond (snB e (W5 s r) nd (gL s 17 0 8) (T6 s dd) by_ bound k) (nI k) (fstF (snB e (W5 s r) nd (gL s 17 0 8) (T6 s dd) by_ bound) j (k + 1)) = v := hv
        rw [b] at hv
        rw [show nI k = v from hv]
        exact h m3 f3
      · have b : snB e (W5 s r) nd (gL s 17 0 8) (T6 s dd) by_ bound k = false := decide_eq_false c
        have hv : cond (snB e (W5 s r) nd (gL s 17 0 8) (T6 s dd) by_ bound k) (nI k) (fstF (snB e (W5 s r) nd (gL s 17 0 8) (T6 s dd) by_ bound) j (k + 1)) = v := hv
        rw [b] at hv
        rw [nI_1]
        exact ih (k + 1) m3 (by omega) f3 hv
    refine qa_t1_W (cut := [3]) 60 ?_
    refine And.intro (fun c => absurd c hlt) (fun _ => ?_)
    refine h_digR (d := d + 4) E.2.2.2.2 h4 L hm (fun m1 R1 => And.intro rfl ?_)
    refine h_sinkR (d := d + 6) E.2.2.2.2 R1 (fun m2 R2 => And.intro rfl ?_)
    refine h_daysR (d := d) E (fun q hq => ?_) hnd h13 R2 (fun m3 f3 _ _ p3 => And.intro rfl ?_)
    · obtain ⟨o, ho, eo⟩ := ow q hq
      exact ⟨o, ho, eo⟩
    · refine h_harmOfAllV (d := d + 6) (Exists.intro _ (And.intro rfl ?_))
      exact And.intro (fun c => (fin m3 f3 p3).1 c) (fun c => (fin m3 f3 p3).2 c)
theorem h_yearsV {by_ bound : Int32} (E : evG e) (h4 : gI s 4 dd 1 = nI e.2.2.2.1) (L : csL e (gR s 17 0 6) (gR s 17 0 7) s) (ow : ∀ q, q < e.2.2.2.1 → ∃ o : Nat, o < 6 ∧ T6 s dd q 3 = nI o) (hnd : nd ≤ 30) (h13 : gI s 13 r 1 = nI nd) (h : ∀ m, cF 1 s m → Q (some (lI (fstF (snB e (W5 s r) nd (gL s 17 0 8) (T6 s dd) by_ bound) 30 1))) m) : qC false (d + 8) 137 [lR 22 (some 0), lR 4 (some dd), lR 13 (some r), lI by_, lI bound] s Q := by
  have main : ∀ bc bs, qW false (d + 7) 137 bc bs 3 [some (lR 22 (some 0)), some (lR 4 (some dd)), some (lR 13 (some r)), some (lI by_), some (lI bound), some (lI (nI 1))] [] s Q := fun bc bs => ys_l (d := d) E h4 L ow hnd h13 h 30 1 s rfl cF_0 rfl
  refine qC_of rfl rfl ?_
  refine qa_t1_W (cut := [3]) 10 ?_
  exact main _ _
theorem hg_l {bc bs o : Nat} {v : Int32} (ho : o < 6) (E : evG e) (h4 : gI s 4 dd 1 = nI e.2.2.2.1) (L : csL e (gR s 17 0 6) (gR s 17 0 7) s) (ow : ∀ q, q < e.2.2.2.1 → ∃ o : Nat, o < 6 ∧ T6 s dd q 3 = nI o) (hnd : nd ≤ 30) (h13 : gI s 13 r 1 = nI nd) (h : ∀ m, cF 1 s m → Q (some (lI v)) m) : ∀ j k m, k + j = 31 → cF 1 s m → fstF (rsB e (W5 s r) nd (gL s 17 0 8) (T6 s dd) o) j k = v → qW false (d + 7) 136 bc bs 3 [some (lR 22 (some 0)), some (lR 4 (some dd)), some (lR 13 (some r)), some (lI (nI o)), some (lI (nI k))] [] m Q := by
  intro j
  induction j with
  | zero =>
    intro k m hk hm hv
    have hk : k = 31 := hk
    subst hk
    have hlt : (30 : Int32) < nI 31 := by decide
    have hv : -1 = v := hv
    refine qa_t1_W (cut := [3]) 20 ?_
    refine And.intro (fun _ => ?_) (fun c => absurd hlt c)
    have g := h m hm
    rw [← hv] at g
    exact g
  | succ j ih =>
    intro k m hk hm hv
    have hlt : ¬ (30 : Int32) < nI k := nI_nlt (a := 30) (by omega) (by decide)
    have fin : ∀ m3, cF 1 s m3 → psC e 1 m3 (pR e (W5 s r) nd (gL s 17 0 8) (rsF (nI o) (nI k) (tX (T6 s dd)))) → (gI m3 19 1 o = 0 → Q (some (lI (nI k))) m3) ∧ (¬ gI m3 19 1 o = 0 → qW false (d + 7) 136 bc bs 3 [some (lR 22 (some 0)), some (lR 4 (some dd)), some (lR 13 (some r)), some (lI (nI o)), some (lI (nI k + 1))] [] m3 Q) := fun m3 f3 p3 => by
      rw [p3.2.2.1 o ho]
      refine ⟨fun c => ?_, fun c => ?_⟩
      · have b : rsB e (W5 s r) nd (gL s 17 0 8) (T6 s dd) o k = true := decide_eq_true c
        have hv : cond (rsB e (W5 s r) nd (gL s 17 0 8) (T6 s dd) o k) (nI k) (fstF (rsB e (W5 s r) nd (gL s 17 0 8) (T6 s dd) o) j (k + 1)) = v := hv
        rw [b] at hv
        rw [show nI k = v from hv]
        exact h m3 f3
      · have b : rsB e (W5 s r) nd (gL s 17 0 8) (T6 s dd) o k = false := decide_eq_false c
        have hv : cond (rsB e (W5 s r) nd (gL s 17 0 8) (T6 s dd) o k) (nI k) (fstF (rsB e (W5 s r) nd (gL s 17 0 8) (T6 s dd) o) j (k + 1)) = v := hv
        rw [b] at hv
        rw [nI_1]
        exact ih (k + 1) m3 (by omega) f3 hv
    refine qa_t1_W (cut := [3]) 60 ?_
    refine And.intro (fun c => absurd c hlt) (fun _ => ?_)
    refine h_digR (d := d + 4) E.2.2.2.2 h4 L hm (fun m1 R1 => And.intro rfl ?_)
    refine h_raiseR (d := d + 6) E.2.2.2.2 R1 (fun m2 R2 => And.intro rfl ?_)
    refine h_daysR (d := d) E (fun q hq => ?_) hnd h13 R2 (fun m3 f3 _ _ p3 => And.intro rfl ?_)
    · obtain ⟨o, ho, eo⟩ := ow q hq
      exact ⟨o, ho, eo⟩
    · refine h_harmOfV (d := d + 6) ho (Exists.intro _ (And.intro rfl ?_))
      exact And.intro (fun c => (fin m3 f3 p3).1 c) (fun c => (fin m3 f3 p3).2 c)
theorem h_higherV {o : Nat} (ho : o < 6) (E : evG e) (h4 : gI s 4 dd 1 = nI e.2.2.2.1) (L : csL e (gR s 17 0 6) (gR s 17 0 7) s) (ow : ∀ q, q < e.2.2.2.1 → ∃ o : Nat, o < 6 ∧ T6 s dd q 3 = nI o) (hnd : nd ≤ 30) (h13 : gI s 13 r 1 = nI nd) (h : ∀ m, cF 1 s m → Q (some (lI (fstF (rsB e (W5 s r) nd (gL s 17 0 8) (T6 s dd) o) 31 0))) m) : qC false (d + 8) 136 [lR 22 (some 0), lR 4 (some dd), lR 13 (some r), lI (nI o)] s Q := by
  have main : ∀ bc bs, qW false (d + 7) 136 bc bs 3 [some (lR 22 (some 0)), some (lR 4 (some dd)), some (lR 13 (some r)), some (lI (nI o)), some (lI (nI 0))] [] s Q := fun bc bs => hg_l (d := d) ho E h4 L ow hnd h13 h 31 0 s rfl cF_0 rfl
  refine qC_of rfl rfl ?_
  refine qa_t1_W (cut := [3]) 10 ?_
  exact main _ _
/-- the muddiest -/
theorem mu_l {bc bs n : Nat} (hn : n ≤ 20) (hn1 : 1 ≤ n) (C : chR 1 n s) (h0 : -1 < vX 1 s 7 0) (h : Q (some (lI (nI (mdB (vX 1 s) (n - 1))))) s) : ∀ j k, k + j = n → 1 ≤ k → qW false d 47 bc bs 12 [some (lR 17 (some 1)), some (lI (vX 1 s 7 (mdB (vX 1 s) (k - 1)))), some (lI (nI (mdB (vX 1 s) (k - 1)))), some (lI (nI k)), some (lR 21 (nxR 1 n k))] [] s Q := by
  intro j
  induction j with
  | zero =>
    intro k hk _
    have hk : k = n := hk
    subst hk
    have e : nxR 1 k k = none := if_neg (Nat.lt_irrefl k)
    rw [e]
    refine qa_t1_W (cut := [12]) 20 ?_
    exact h
  | succ j ih =>
    intro k hk hk1
    have hkn : k < n := by omega
    have e : nxR 1 n k = some (20 * 1 + k) := if_pos hkn
    rw [e]
    obtain ⟨y, rfl⟩ : ∃ y, k = y + 1 := ⟨k - 1, by omega⟩
    have i := ih (y + 1 + 1) (by omega) (by omega)
    have i : qW false d 47 bc bs 12 [some (lR 17 (some 1)), some (lI (vX 1 s 7 (if vX 1 s 7 (mdB (vX 1 s) y) < vX 1 s 7 (y + 1) then y + 1 else mdB (vX 1 s) y))), some (lI (nI (if vX 1 s 7 (mdB (vX 1 s) y) < vX 1 s 7 (y + 1) then y + 1 else mdB (vX 1 s) y))), some (lI (nI (y + 1 + 1))), some (lR 21 (nxR 1 n (y + 1 + 1)))] [] s Q := i
    have nx : gR s 21 (20 * 1 + (y + 1)) 0 = nxR 1 n (y + 1 + 1) := C.2 (y + 1) hkn
    have yes : vX 1 s 7 (mdB (vX 1 s) y) < vX 1 s 7 (y + 1) → qW false d 47 bc bs 12 [some (lR 17 (some 1)), some (lI (gI s 21 (20 * 1 + (y + 1)) 7)), some (lI (nI (y + 1))), some (lI (nI (y + 1) + 1)), some (lR 21 (gR s 21 (20 * 1 + (y + 1)) 0))] [] s Q := fun c => by
      rw [nx, nI_1]
      rw [if_pos c] at i
      exact i
    have no : ¬ vX 1 s 7 (mdB (vX 1 s) y) < vX 1 s 7 (y + 1) → qW false d 47 bc bs 12 [some (lR 17 (some 1)), some (lI (vX 1 s 7 (mdB (vX 1 s) y))), some (lI (nI (mdB (vX 1 s) y))), some (lI (nI (y + 1) + 1)), some (lR 21 (gR s 21 (20 * 1 + (y + 1)) 0))] [] s Q := fun c => by
      rw [nx, nI_1]
      rw [if_neg c] at i
      exact i
    refine qa_t1_W (cut := [12]) 40 ?_
    exact And.intro (fun c => yes c) (fun c => no c)
theorem h_muddiestV {n : Nat} (hn : n ≤ 20) (hn1 : 1 ≤ n) (C : chR 1 n s) (h0 : -1 < vX 1 s 7 0) (h : Q (some (lI (nI (mdB (vX 1 s) (n - 1))))) s) : qC false (d + 1) 47 [lR 17 (some 1)] s Q := by
  have nx : gR s 21 (20 * 1 + 0) 0 = nxR 1 n 1 := C.2 0 (by omega)
  have first : ∀ bc bs, qW false d 47 bc bs 12 [some (lR 17 (some 1)), some (lI (gI s 21 (20 * 1 + 0) 7)), some (lI 0), some (lI ((0 : Int32) + 1)), some (lR 21 (gR s 21 (20 * 1 + 0) 0))] [] s Q := fun bc bs => by
    rw [nx]
    exact mu_l hn hn1 C h0 h (n - 1) 1 (by omega) (Nat.le_refl _)
  have main : ∀ bc bs, qW false d 47 bc bs 12 [some (lR 17 (some 1)), some (lI (-1)), some (lI (-1)), some (lI 0), some (lR 21 (gR s 17 1 4))] [] s Q := fun bc bs => by
    have e : gR s 17 1 4 = some (20 * 1 + 0) := C.1.trans (if_pos (by omega))
    rw [e]
    refine qa_t1_W (cut := [12]) 40 ?_
    exact And.intro (fun _ => first bc bs) (fun c => absurd h0 c)
  refine qC_of rfl rfl ?_
  refine qa_t1_W (cut := [12]) 20 ?_
  exact main _ _
theorem h_findR {n k : Nat} (h5 : gI s 17 1 5 = nI n) (hk : k < n) (hn : n ≤ 20) (h : Q (some (lR 21 (some (20 * 1 + k)))) s) : qC false (d + 1) 11 [lR 17 (some 1), lI (nI k)] s Q := by
  have c0 : ¬ nI k < 0 := nI_nlt (b := 0) (by omega) (by omega)
  have c1 : nI k < gI s 17 1 5 := by
    rw [h5]
    exact nI_lt hk (by omega)
  have c2 : nI k < 20 := nI_lt (b := 20) (by omega) (by decide)
  have hv : qa_vin (nI k) 20 := nI_in (by omega) (by decide)
  have fin : Q (some (lR 21 (some (20 * 1 + (nI k).toNatClampNeg)))) s := by
    rw [nI_clamp (by omega)]
    exact h
  refine qC_of rfl rfl ?_
  refine qa_t1_W (cut := []) 40 ?_
  refine And.intro (fun q => absurd q c0) (fun _ => ?_)
  refine And.intro (fun _ => ?_) (fun q => absurd c1 q)
  exact And.intro (fun _ => And.intro hv fin) (fun q => absurd c2 q)
theorem h_sandsV {what : Int32} (E : evG e) (h4 : gI s 4 dd 1 = nI e.2.2.2.1) (L : csL e (gR s 17 0 6) (gR s 17 0 7) s) (ow : ∀ q, q < e.2.2.2.1 → ∃ o : Nat, o < 6 ∧ T6 s dd q 3 = nI o) (hnd : nd ≤ 30) (h13 : gI s 13 r 1 = nI nd) (h0 : -1 < (pR e (W5 s r) nd (gL s 17 0 8) (tX (T6 s dd))).1 7 0) (h : ∀ m, cF 1 s m → Q (some (lI (sdV e.2.2.2.1 (pR e (W5 s r) nd (gL s 17 0 8) (tX (T6 s dd))) what))) m) : qC false (d + 8) 138 [lR 22 (some 0), lR 4 (some dd), lR 13 (some r), lI what] s Q := by
  have hn := E.2.2.2.2
  have hn1 := E.2.2.2.1
  have tail : ∀ m3, cF 1 s m3 → csH e 1 m3 → gI m3 17 1 5 = nI e.2.2.2.1 → psC e 1 m3 (pR e (W5 s r) nd (gL s 17 0 8) (tX (T6 s dd))) → ∀ k, k = mdB (vX 1 m3) (e.2.2.2.1 - 1) → k < e.2.2.2.1 ∧ (what = 0 → Q (some (lI (nI k))) m3) ∧ (¬ what = 0 → what = 1 → Q (some (lI (gI m3 21 (20 * 1 + k) 7))) m3) ∧ (¬ what = 0 → ¬ what = 1 → Q (some (lI (gI m3 17 1 13))) m3) := fun m3 f3 c3 g3 p3 k ek => by
    have ek : k = mdB (pR e (W5 s r) nd (gL s 17 0 8) (tX (T6 s dd))).1 (e.2.2.2.1 - 1) := by
      rw [ek]
      exact mdB_c p3.1 _ (by omega)
    have lk : k < e.2.2.2.1 := by
      have := mdB_le (pR e (W5 s r) nd (gL s 17 0 8) (tX (T6 s dd))).1 (e.2.2.2.1 - 1)
      omega
    have H := h m3 f3
    unfold sdV at H
    rw [← ek] at H
    refine ⟨lk, fun c => ?_, fun c c1 => ?_, fun c c1 => ?_⟩
    · rw [if_pos c] at H
      exact H
    · rw [if_neg c, if_pos c1] at H
      rw [show gI m3 21 (20 * 1 + k) 7 = (pR e (W5 s r) nd (gL s 17 0 8) (tX (T6 s dd))).1 7 k from p3.1 7 k (by decide) lk]
      exact H
    · rw [if_neg c, if_neg c1] at H
      rw [p3.2.1]
      exact H
  refine qC_of rfl rfl ?_
  refine qa_t1_W (cut := []) 60 ?_
  refine h_digR (d := d + 4) hn h4 L cF_0 (fun m1 R1 => And.intro rfl ?_)
  refine h_daysR (d := d) E (fun q hq => ?_) hnd h13 R1 (fun m3 f3 c3 g3 p3 => And.intro rfl ?_)
  · obtain ⟨o, ho, eo⟩ := ow q hq
    exact ⟨o, ho, eo⟩
  · refine h_muddiestV (d := d + 6) hn hn1 c3.1 ?_ (Exists.intro _ (And.intro rfl ?_))
    · rw [p3.1 7 0 (by decide) (by omega)]
      exact h0
    · obtain ⟨lk, t0, t1, t2⟩ := tail m3 f3 c3 g3 p3 _ rfl
      refine h_findR (d := d + 6) g3 lk hn (Or.inr (Exists.intro _ (And.intro rfl ?_)))
      refine And.intro (fun c => t0 c) (fun c => ?_)
      refine And.intro (fun c1 => t1 c c1) (fun c1 => ?_)
      exact h_wholeCutV (d := d + 6) (Exists.intro _ (And.intro rfl (t2 c c1)))
theorem toW {Q : LPost} {s : LMem} {x : Int32} (h : ∀ v, v = x → Q (some (lI v)) s) : Q (some (lI x)) s := h x rfl
/-- falls that keep -/
theorem ft_l {bc bs nl : Nat} {soil width by_ : Int32} (E : evG e) (L : csL e (some nl) none s) (hnd : nd ≤ 30) (h13 : gI s 13 r 1 = nI nd) (h : ∀ m, cF 1 s m → Q (some (lI (kpF (flB e (W5 s r) nd soil width by_) 10))) m) : ∀ j k m, k + j = 10 → cF 1 s m → qW false (d + 7) 139 bc bs 6 [some (lR 22 (some 0)), some (lI (nI e.2.2.2.1)), some (lI soil), some (lI width), some (lR 8 (some nl)), some (lR 13 (some r)), some (lI by_), some (lI (kpF (flB e (W5 s r) nd soil width by_) k)), some (lI (nI k))] [] m Q := by
  intro j
  induction j with
  | zero =>
    intro k m hk hm
    have hk : k = 10 := hk
    subst hk
    have hlt : (9 : Int32) < nI 10 := by decide
    refine qa_t1_W (cut := [6]) 20 ?_
    exact And.intro (fun _ => h m hm) (fun c => absurd hlt c)
  | succ j ih =>
    intro k m hk hm
    have hn := E.2.2.2.2
    have hn1 := E.2.2.2.1
    have hlt : ¬ (9 : Int32) < nI k := nI_nlt (a := 9) (by omega) (by decide)
    have fin : ∀ m3, cF 1 s m3 → csH e 1 m3 → psC e 1 m3 (pR e (W5 s r) nd 0 (fmX e.2.2.2.1 soil width (nI k))) → ∀ g, g = kpF (flB e (W5 s r) nd soil width by_) (k + 1) → qW false (d + 7) 139 bc bs 6 [some (lR 22 (some 0)), some (lI (nI e.2.2.2.1)), some (lI soil), some (lI width), some (lR 8 (some nl)), some (lR 13 (some r)), some (lI by_), some (lI g), some (lI (nI k + 1))] [] m3 Q := fun m3 f3 _ p3 g eg => by
      rw [eg, nI_1]
      exact ih (k + 1) m3 (by omega) f3
    have em : ∀ m3, psC e 1 m3 (pR e (W5 s r) nd 0 (fmX e.2.2.2.1 soil width (nI k))) → smZ (fun q => vX 1 m3 7 q) e.2.2.2.1 = smZ (fun q => (pR e (W5 s r) nd 0 (fmX e.2.2.2.1 soil width (nI k))).1 7 q) e.2.2.2.1 := fun m3 p3 => smZ_c _ (fun q hq => p3.1 7 q (by decide) hq)
    have kf : ∀ (b : Bool), flB e (W5 s r) nd soil width by_ k = b → kpF (flB e (W5 s r) nd soil width by_) (k + 1) = cond b (kpF (flB e (W5 s r) nd soil width by_) k ||| ((1 : Int32) <<< (nI k &&& 31))) (kpF (flB e (W5 s r) nd soil width by_) k) := fun b eb => by
      rw [← eb]
      rfl
    refine qa_t1_W (cut := [6]) 80 ?_
    refine And.intro (fun c => absurd c hlt) (fun _ => ?_)
    refine h_digFormV (d := d + 5) (i := 1) hn hn1 (fun m1 D1 => And.intro rfl ?_)
    have R1' : rdy e 0 (fmX e.2.2.2.1 soil width (nI k)) m m1 := rdy_dig (csL_F hm L) D1
    have R1 : rdy e 0 (fmX e.2.2.2.1 soil width (nI k)) s m1 := ⟨cF_tr hm R1'.1, R1'.2⟩
    refine h_daysR (d := d) E (fun q hq => ⟨0, by decide, rfl⟩) hnd h13 R1 (fun m3 f3 c3 g3 p3 => And.intro rfl ?_)
    refine h_wholeMudV (d := d + 4) hn c3.1 (toW (fun v ev => Exists.intro _ (And.intro rfl ?_)))
    have ev := ev.trans (em m3 p3)
    subst ev
    refine And.intro (fun c => ?_) (fun c => ?_)
    · refine fin m3 f3 c3 p3 _ ((kf false ?_).symm)
      unfold flB
      rw [decide_eq_false (fun q => q c)]
      rfl
    · refine h_wholeCutV (d := d + 6) (toW (fun v ev => Exists.intro _ (And.intro rfl ?_)))
      have ev := ev.trans p3.2.1
      subst ev
      refine And.intro (fun c2 => ?_) (fun c2 => ?_)
      · refine fin m3 f3 c3 p3 _ ((kf true ?_).symm)
        unfold flB
        have c2 : (pR e (W5 s r) nd 0 (fmX e.2.2.2.1 soil width (nI k))).2.1 = 0 := c2
        rw [decide_eq_true c, decide_eq_true c2]
        rfl
      · refine fin m3 f3 c3 p3 _ ((kf false ?_).symm)
        unfold flB
        have c2 : ¬ (pR e (W5 s r) nd 0 (fmX e.2.2.2.1 soil width (nI k))).2.1 = 0 := c2
        rw [decide_eq_true c, decide_eq_false c2]
        rfl
theorem h_fallsV {nl : Nat} {soil width by_ : Int32} (E : evG e) (L : csL e (some nl) none s) (hnd : nd ≤ 30) (h13 : gI s 13 r 1 = nI nd) (h : ∀ m, cF 1 s m → Q (some (lI (kpF (flB e (W5 s r) nd soil width by_) 10))) m) : qC false (d + 8) 139 [lR 22 (some 0), lI (nI e.2.2.2.1), lI soil, lI width, lR 8 (some nl), lR 13 (some r), lI by_] s Q := by
  have main : ∀ bc bs, qW false (d + 7) 139 bc bs 6 [some (lR 22 (some 0)), some (lI (nI e.2.2.2.1)), some (lI soil), some (lI width), some (lR 8 (some nl)), some (lR 13 (some r)), some (lI by_), some (lI 0), some (lI 0)] [] s Q := fun bc bs => ft_l (d := d) E L hnd h13 h 10 0 s rfl cF_0
  refine qC_of rfl rfl ?_
  refine qa_t1_W (cut := [6]) 10 ?_
  exact main _ _
end CT
