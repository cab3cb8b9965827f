/-! THE REFERENCE WORKS A LAW OUT. -/
theorem lg_e {a b : Int64} : lg_cmp a b = 0 ↔ a = b := by
  unfold lg_cmp
  by_cases g : a > b
  · rw [if_pos g]
    refine ⟨fun q => absurd q (by decide), fun q => ?_⟩
    subst q
    have g := Int64.lt_iff_toInt_lt.mp g
    omega
  · rw [if_neg g]
    by_cases e : a = b
    · rw [if_pos e]
      exact ⟨fun _ => e, fun _ => rfl⟩
    · rw [if_neg e]
      exact ⟨fun q => absurd q (by decide), fun q => absurd q e⟩
theorem lg_g {a b : Int64} : lg_cmp a b > 0 ↔ a > b := by
  unfold lg_cmp
  by_cases g : a > b
  · rw [if_pos g]
    exact ⟨fun _ => g, fun _ => by decide⟩
  · rw [if_neg g]
    by_cases e : a = b
    · rw [if_pos e]
      exact ⟨fun q => absurd q (by decide), fun q => absurd q g⟩
    · rw [if_neg e]
      exact ⟨fun q => absurd q (by decide), fun q => absurd q g⟩
theorem lg_l {a b : Int64} : lg_cmp a b < 0 ↔ a < b := by
  unfold lg_cmp
  by_cases g : a > b
  · rw [if_pos g]
    refine ⟨fun q => absurd q (by decide), fun q => ?_⟩
    have g := Int64.lt_iff_toInt_lt.mp g
    have q := Int64.lt_iff_toInt_lt.mp q
    omega
  · rw [if_neg g]
    by_cases e : a = b
    · rw [if_pos e]
      refine ⟨fun q => absurd q (by decide), fun q => ?_⟩
      subst e
      have q := Int64.lt_iff_toInt_lt.mp q
      omega
    · rw [if_neg e]
      refine ⟨fun _ => ?_, fun _ => by decide⟩
      have g : ¬ b.toInt < a.toInt := fun q => g (Int64.lt_iff_toInt_lt.mpr q)
      have e : ¬ a.toInt = b.toInt := fun q => e (Int64.toInt_inj.mp q)
      exact Int64.lt_iff_toInt_lt.mpr (by omega)
theorem bdV_mx {v : Int64} : (qa_maxL (-1000000) (qa_minL 1000000 v)).toInt32 = bdV v := by
  unfold qa_maxL qa_minL bdV
  have e1 : (1000000 : Int64).toInt = 1000000 := by decide
  have e2 : (-1000000 : Int64).toInt = -1000000 := by decide
  by_cases g : v > 1000000
  · have g' := Int64.lt_iff_toInt_lt.mp g
    have hm : (if v < 1000000 then v else (1000000 : Int64)) = 1000000 := if_neg (fun q => by
      have q := Int64.lt_iff_toInt_lt.mp q
      omega)
    rw [if_pos g, hm, if_neg (by decide)]
    decide
  · have g' : ¬ (1000000 : Int64).toInt < v.toInt := fun q => g (Int64.lt_iff_toInt_lt.mpr q)
    rw [if_neg g]
    by_cases g2 : v < -1000000
    · have g3 := Int64.lt_iff_toInt_lt.mp g2
      rw [if_pos g2, if_pos (show v < 1000000 from Int64.lt_iff_toInt_lt.mpr (by omega)), if_pos g2]
      decide
    · rw [if_neg g2]
      by_cases g4 : v < 1000000
      · rw [if_pos g4, if_neg g2]
      · have g5 : ¬ v.toInt < (1000000 : Int64).toInt := fun q => g4 (Int64.lt_iff_toInt_lt.mpr q)
        have e : v = 1000000 := Int64.toInt_inj.mp (by omega)
        subst e
        decide
theorem h_boundedV {d : Nat} {v : Int64} {s : LMem} {Q : LPost} (h : Q (some (lI (bdV v))) s) : qC false (d + 1) 226 [lL v] s Q := by
  rw [← bdV_mx] at h
  refine qC_of rfl rfl ?_
  refine qa_t1_W (cut := []) 10 ?_
  exact h
theorem wkL_2 {a b : Int64} : wkL 2 a b = bdV (a + b) := by
  unfold wkL
  rw [if_pos rfl]
theorem wkL_3 {a b : Int64} : wkL 3 a b = bdV (a - b) := by
  unfold wkL
  rw [if_neg (by decide), if_pos rfl]
theorem wkL_4 {a b : Int64} : wkL 4 a b = bdV (a * b) := by
  unfold wkL
  rw [if_neg (by decide), if_neg (by decide), if_pos rfl]
theorem wkL_5 {a b : Int64} : wkL 5 a b = (if b = 0 then 0 else bdV (a / b)) := by
  unfold wkL
  rw [if_neg (by decide), if_neg (by decide), if_neg (by decide), if_pos rfl]
theorem wkL_6 {a b : Int64} : wkL 6 a b = (if a = b then 1 else 0) := by
  unfold wkL
  rw [if_neg (by decide), if_neg (by decide), if_neg (by decide), if_neg (by decide), if_pos rfl]
theorem wkL_7 {a b : Int64} : wkL 7 a b = (if a < b then 1 else 0) := by
  unfold wkL
  rw [if_neg (by decide), if_neg (by decide), if_neg (by decide), if_neg (by decide), if_neg (by decide), if_pos rfl]
theorem wkL_8 {a b : Int64} : wkL 8 a b = (if a > b then 1 else 0) := by
  unfold wkL
  rw [if_neg (by decide), if_neg (by decide), if_neg (by decide), if_neg (by decide), if_neg (by decide), if_neg (by decide), if_pos rfl]
theorem wkL_10 {a b : Int64} : wkL 10 a b = (if a ≠ 0 ∧ b ≠ 0 then 1 else 0) := by
  unfold wkL
  rw [if_neg (by decide), if_neg (by decide), if_neg (by decide), if_neg (by decide), if_neg (by decide), if_neg (by decide), if_neg (by decide), if_pos rfl]
theorem wkL_11 {a b : Int64} : wkL 11 a b = (if a ≠ 0 ∨ b ≠ 0 then 1 else 0) := by
  unfold wkL
  rw [if_neg (by decide), if_neg (by decide), if_neg (by decide), if_neg (by decide), if_neg (by decide), if_neg (by decide), if_neg (by decide), if_neg (by decide)]
/-- codes that are joined -/
def jc (c : Int32) : Prop := jn c ∨ c = 10 ∨ c = 11
theorem h_workedV {d : Nat} {c : Int32} {a b : Int64} {s : LMem} {Q : LPost} (hc : jc c) (h : Q (some (lI (wkL c a b))) s) : qC false (d + 2) 227 [lI c, lL a, lL b] s Q := by
  have q1 : ∀ {x : Int32}, wkL c a b = x → Q (some (lI x)) s := fun e => by
    rw [e] at h
    exact h
  have hb : ∀ v, wkL c a b = bdV v → qC false (d + 1) 226 [lL v] s (fun r s' => ∃ a, r = some (lI a) ∧ Q (some (lI a)) s') := fun v e => h_boundedV (Exists.intro _ (And.intro rfl (q1 e)))
  have i1 : ∀ {P : Prop} [Decidable P], P → (if P then (1 : Int32) else 0) = 1 := fun p => if_pos p
  have i0 : ∀ {P : Prop} [Decidable P], ¬ P → (if P then (1 : Int32) else 0) = 0 := fun p => if_neg p
  clear h
  refine qC_of rfl rfl ?_
  refine qa_t1_W (cut := []) 30 ?_
  refine And.intro (fun e => hb _ (by have e : c = 2 := e; rw [e]; exact wkL_2)) (fun n2 => ?_)
  refine And.intro (fun e => hb _ (by have e : c = 3 := e; rw [e]; exact wkL_3)) (fun n3 => ?_)
  refine And.intro (fun e => hb _ (by have e : c = 4 := e; rw [e]; exact wkL_4)) (fun n4 => ?_)
  refine And.intro (fun e => And.intro (fun e5 => q1 (by have e : c = 5 := e; rw [e, wkL_5]; exact if_pos (lg_e.mp e5))) (fun e5 => And.intro (fun z => e5 (by rw [z]; decide)) (hb _ (by have e : c = 5 := e; rw [e, wkL_5]; exact if_neg (fun z => e5 (lg_e.mpr z)))))) (fun n5 => ?_)
  refine And.intro (fun e => And.intro (fun e6 => q1 (by have e : c = 6 := e; rw [e, wkL_6]; exact i1 (lg_e.mp e6))) (fun e6 => q1 (by have e : c = 6 := e; rw [e, wkL_6]; exact i0 (fun z => e6 (lg_e.mpr z))))) (fun n6 => ?_)
  refine And.intro (fun e => And.intro (fun e6 => q1 (by have e : c = 7 := e; rw [e, wkL_7]; exact i1 (lg_l.mp e6))) (fun e6 => q1 (by have e : c = 7 := e; rw [e, wkL_7]; exact i0 (fun z => e6 (lg_l.mpr z))))) (fun n7 => ?_)
  refine And.intro (fun e => And.intro (fun e6 => q1 (by have e : c = 8 := e; rw [e, wkL_8]; exact i1 (lg_g.mp e6))) (fun e6 => q1 (by have e : c = 8 := e; rw [e, wkL_8]; exact i0 (fun z => e6 (lg_g.mpr z))))) (fun n8 => ?_)
  have n2 : c ≠ 2 := n2
  have n3 : c ≠ 3 := n3
  have n4 : c ≠ 4 := n4
  have n5 : c ≠ 5 := n5
  have n6 : c ≠ 6 := n6
  have n7 : c ≠ 7 := n7
  have n8 : c ≠ 8 := n8
  have c9 : c = 10 ∨ c = 11 := by
    rcases hc with (c | c | c | c | c | c | c) | c
    · exact absurd c n2
    · exact absurd c n3
    · exact absurd c n4
    · exact absurd c n5
    · exact absurd c n6
    · exact absurd c n7
    · exact absurd c n8
    · exact c
  refine And.intro (fun e => ?_) (fun n9 => ?_)
  · have e : c = 9 := e
    subst e
    exact absurd c9 (by decide)
  refine And.intro (fun e => And.intro (fun e1 => q1 (by have e : c = 10 := e; rw [e, wkL_10]; exact i0 (fun z => z.1 (lg_e.mp e1)))) (fun e1 => And.intro (fun e2 => q1 (by have e : c = 10 := e; rw [e, wkL_10]; exact i0 (fun z => z.2 (lg_e.mp e2)))) (fun e2 => q1 (by have e : c = 10 := e; rw [e, wkL_10]; exact i1 ⟨fun z => e1 (lg_e.mpr z), fun z => e2 (lg_e.mpr z)⟩)))) (fun n10 => ?_)
  have e : c = 11 := c9.resolve_left n10
  subst e
  have q1 : ∀ {x : Int32}, (if a ≠ 0 ∨ b ≠ 0 then 1 else 0) = x → Q (some (lI x)) s := fun e => q1 (wkL_11.trans e)
  refine And.intro (fun e1 => ?_) (fun e1 => q1 (i1 (Or.inl fun z => e1 (lg_e.mpr z))))
  exact And.intro (fun e2 => q1 (i0 (fun z => by
    rcases z with z | z
    · exact z (lg_e.mp e1)
    · exact z (lg_e.mp e2)))) (fun e2 => q1 (i1 (Or.inr fun z => e2 (lg_e.mpr z))))
/-- a stack in a row of cells, its bottom at 0 -/
def stV (k i : Nat) (m : LMem) : List Int32 → Prop
  | [] => True
  | v :: r => gI m k i r.length = v ∧ stV k i m r
theorem stV_w {k i x : Nat} {v : Int32} {m : LMem} : ∀ st, st.length ≤ x → stV k i m st → stV k i (sI m k i x v) st
  | [], _, _ => trivial
  | a :: r, h, hs => ⟨by
    rw [gI_sI, if_neg (fun q => by have := q.2.2; have h : r.length + 1 ≤ x := h; omega)]
    exact hs.1, stV_w r (Nat.le_of_succ_le h) hs.2⟩
theorem stV_p {k i : Nat} {v : Int32} {m : LMem} {st : List Int32} (h : stV k i m st) : stV k i (sI m k i st.length v) (v :: st) := ⟨by rw [gI_sI, if_pos ⟨rfl, rfl, rfl⟩], stV_w st (Nat.le_refl _) h⟩
theorem stp_inv {L : Int32 → Int32} {x : Tk} {st st2 : List Int32} (h : stpO L x st = some st2) : (x.1 = 0 ∧ st.length < 30 ∧ st2 = x.2 :: st) ∨ (x.1 = 1 ∧ st.length < 30 ∧ (0 ≤ x.2.toInt ∧ x.2.toInt < 8) ∧ st2 = L x.2 :: st) ∨ (x.1 = 9 ∧ ∃ a r, st = a :: r ∧ tr a ∧ st2 = (1 - a) :: r) ∨ (x.1 ≠ 0 ∧ x.1 ≠ 1 ∧ x.1 ≠ 9 ∧ ∃ a c r, st = a :: c :: r ∧ (jn x.1 ∨ ((x.1 = 10 ∨ x.1 = 11) ∧ tr a ∧ tr c)) ∧ st2 = wkV x.1 c a :: r) := by
  unfold stpO at h
  by_cases e0 : x.1 = 0
  · rw [if_pos e0] at h
    by_cases g : st.length < 30
    · rw [if_pos g] at h
      cases h
      exact Or.inl ⟨e0, g, rfl⟩
    · rw [if_neg g] at h
      cases h
  rw [if_neg e0] at h
  by_cases e1 : x.1 = 1
  · rw [if_pos e1] at h
    by_cases g : st.length < 30 ∧ 0 ≤ x.2.toInt ∧ x.2.toInt < 8
    · rw [if_pos g] at h
      cases h
      exact Or.inr (Or.inl ⟨e1, g.1, g.2, rfl⟩)
    · rw [if_neg g] at h
      cases h
  rw [if_neg e1] at h
  cases st with
  | nil => cases h
  | cons a r =>
    have h : (if x.1 = 9 then (if tr a then some ((1 - a) :: r) else none) else match (generalizing := false) r with
        | [] => none
        | c :: r => if jn x.1 ∨ ((x.1 = 10 ∨ x.1 = 11) ∧ tr a ∧ tr c) then some (wkV x.1 c a :: r) else none) = some st2 := h
    by_cases e9 : x.1 = 9
    · rw [if_pos e9] at h
      by_cases g : tr a
      · rw [if_pos g] at h
        cases h
        exact Or.inr (Or.inr (Or.inl ⟨e9, a, r, rfl, g, rfl⟩))
      · rw [if_neg g] at h
        cases h
    · rw [if_neg e9] at h
      cases r with
      | nil => cases h
      | cons c r =>
        have h : (if jn x.1 ∨ ((x.1 = 10 ∨ x.1 = 11) ∧ tr a ∧ tr c) then some (wkV x.1 c a :: r) else none) = some st2 := h
        by_cases g : jn x.1 ∨ ((x.1 = 10 ∨ x.1 = 11) ∧ tr a ∧ tr c)
        · rw [if_pos g] at h
          cases h
          exact Or.inr (Or.inr (Or.inr ⟨e0, e1, e9, a, c, r, rfl, g, rfl⟩))
        · rw [if_neg g] at h
          cases h
theorem rn_inv {L : Int32 → Int32} {x : Tk} {T : List Tk} {st st2 : List Int32} (h : rnV L (x :: T) st = some st2) : ∃ s1, stpO L x st = some s1 ∧ rnV L T s1 = some st2 := by
  have h : (stpO L x st).bind (rnV L T) = some st2 := h
  cases e : stpO L x st with
  | none =>
    rw [e] at h
    cases h
  | some s1 =>
    rw [e] at h
    exact ⟨s1, rfl, h⟩
/-- no stack grows past so many -/
theorem rn_len {L : Int32 → Int32} : ∀ T (st st2 : List Int32), st.length ≤ 30 → rnV L T st = some st2 → st2.length ≤ 30
  | [], st, st2, h, e => by
    cases e
    exact h
  | x :: T, st, st2, h, e => by
    obtain ⟨s1, h1, h2⟩ := rn_inv e
    refine rn_len T s1 st2 ?_ h2
    rcases stp_inv h1 with ⟨_, g, e⟩ | ⟨_, g, _, e⟩ | ⟨_, a, r, e1, _, e⟩ | ⟨_, _, _, a, c, r, e1, _, e⟩
    · rw [e]; exact g
    · rw [e]; exact g
    · rw [e]; rw [e1] at h; exact h
    · rw [e]; rw [e1] at h; exact Nat.le_of_succ_le h
section WV
variable {L : Int32 → Int32} {s : LMem} {n : Nat}
theorem wv_l {d bc bs t : Nat} {f w : Int32} {Q : LPost} (hn : n < 7) (ht : t ≤ 260) (hL : ∀ i : Nat, i < 8 → gI s 42 0 i = L (nI i)) (h : ∀ m, wk_F s m → Q (some (lI w)) m) : ∀ T a st m, a + T.length = t → (∀ j x, T[j]? = some x → gI s 35 0 (260 * n + (a + j)) = x.1 ∧ gI s 36 0 (260 * n + (a + j)) = x.2) → rnV L T st = some [w] → st.length ≤ 30 → stV 43 0 m st → wk_F s m → qW false (d + 3) 228 bc bs 12 [some (lR 33 (some 0)), some (lI (nI n)), some (lI f), some (lI (nI t)), some (lI (nI st.length)), some (lI (nI (260 * n + a)))] [] m Q := by
  have e1 : (260 : Int32) * nI n + nI t = nI (260 * n + t) := by rw [show (260 : Int32) = nI 260 from rfl, nI_mul, nI_add]
  intro T
  induction T with
  | nil =>
    intro a st m ha _ hr _ hst hm
    have ha : a = t := ha
    subst ha
    have hr : some st = some [w] := hr
    cases hr
    have hw : gI m 43 0 0 = w := hst.1
    have hlt : ¬ nI (260 * n + a) < 260 * nI n + nI a := by rw [e1]; exact nI_nlt (Nat.le_refl _) (by omega)
    have fin : Q (some (lI (gI m 43 0 (0 : Int32).toNatClampNeg))) m := by
      rw [show (0 : Int32).toNatClampNeg = 0 from rfl, hw]
      exact h m hm
    refine qa_t1_W (cut := [12]) 30 ?_
    refine And.intro (fun q => absurd q hlt) (fun _ => ?_)
    exact And.intro (x_vc (by decide) (by decide)) fin
  | cons x T ih =>
    intro a st m ha hc hr hl hst hm
    have ha : a + (T.length + 1) = t := ha
    have hlt : nI (260 * n + a) < 260 * nI n + nI t := by rw [e1]; exact nI_lt (by omega) (by omega)
    have hv : qa_vin (nI (260 * n + a)) 1820 := nI_in (by omega) (by decide)
    have e9 : (nI (260 * n + a)).toNatClampNeg = 260 * n + a := nI_clamp (by omega)
    have c0 := hc 0 x rfl
    have ec : gI m 35 0 (nI (260 * n + a)).toNatClampNeg = x.1 := by rw [e9, hm.1 _ _ _ (fun q => absurd q.1 (by decide))]; exact c0.1
    have ev : gI m 36 0 (nI (260 * n + a)).toNatClampNeg = x.2 := by rw [e9, hm.1 _ _ _ (fun q => absurd q.1 (by decide))]; exact c0.2
    have hc2 : ∀ j y, T[j]? = some y → gI s 35 0 (260 * n + (a + 1 + j)) = y.1 ∧ gI s 36 0 (260 * n + (a + 1 + j)) = y.2 := fun j y e => by
      have := hc (j + 1) y e
      rw [show a + 1 + j = a + (j + 1) by omega]
      exact this
    have en : nI (260 * n + a) + 1 = nI (260 * n + (a + 1)) := nI_1 _
    obtain ⟨s1, h1, h2⟩ := rn_inv hr
    have push : ∀ u, st.length < 30 → s1 = u :: st → qW false (d + 3) 228 bc bs 12 [some (lR 33 (some 0)), some (lI (nI n)), some (lI f), some (lI (nI t)), some (lI (nI st.length + 1)), some (lI (nI (260 * n + a) + 1))] [] (sI m 43 0 (nI st.length).toNatClampNeg u) Q := fun u g e => by
      subst e
      rw [en, nI_1, nI_clamp (by omega)]
      exact ih (a + 1) (u :: st) _ (by omega) hc2 h2 g (stV_p hst) (wk_Fs (by omega) hm)
    refine qa_t1_W (cut := [12]) 60 ?_
    refine And.intro (fun _ => ?_) (fun q => absurd hlt q)
    refine And.intro hv ?_
    rcases stp_inv h1 with ⟨k0, g, e⟩ | ⟨k1, g, g2, e⟩ | ⟨k9, b, r, e1', g, e⟩ | ⟨n0, n1, n9, b, c, r, e1', g, e⟩
    · have hvh : qa_vin (nI st.length) 80 := nI_in (by omega) (by decide)
      refine And.intro (fun z0 => ?_) (fun z0 => absurd (ec.trans k0) z0)
      refine And.intro hv ?_
      refine And.intro (fun _ => ?_) (fun q => absurd z0 q)
      refine And.intro hv ?_
      have p := push (gI m 36 0 (nI (260 * n + a)).toNatClampNeg) g (by rw [e, ev])
      exact And.intro hvh p
    · have hvh : qa_vin (nI st.length) 80 := nI_in (by omega) (by decide)
      refine And.intro (fun z0 => absurd (ec.symm.trans z0) (by rw [k1]; decide)) (fun z0 => ?_)
      refine And.intro hv ?_
      refine And.intro (fun _ => ?_) (fun q => absurd (ec.trans k1) q)
      refine And.intro hv ?_
      refine And.intro (fun q => absurd q z0) (fun _ => ?_)
      refine And.intro hv ?_
      obtain ⟨i, hi, ei⟩ := y_nIof2 (N := 7) (x := x.2) g2.1 (by omega)
      have hv8 : qa_vin (gI m 36 0 (nI (260 * n + a)).toNatClampNeg) 8 := by
        rw [ev, ei]
        exact nI_in (by omega) (by decide)
      refine And.intro hv8 ?_
      have p := push (gI m 42 0 (gI m 36 0 (nI (260 * n + a)).toNatClampNeg).toNatClampNeg) g (by
        rw [e, ev, ei, nI_clamp (by omega), hm.1 42 0 i (fun q => absurd q.1 (by decide)), hL i (by omega)])
      exact And.intro hvh p
    · subst e1'
      have hl : r.length + 1 ≤ 30 := hl
      have hh : nI (b :: r).length - 1 = nI r.length := by
        show nI (r.length + 1) - 1 = _
        rw [nI_pred]
      have hvh : qa_vin (nI (b :: r).length - 1) 80 := by rw [hh]; exact nI_in (by omega) (by decide)
      refine And.intro (fun q => absurd (ec.symm.trans q) (by rw [k9]; decide)) (fun _ => ?_)
      refine And.intro hv ?_
      refine And.intro (fun q => absurd (ec.symm.trans q) (by rw [k9]; decide)) (fun _ => ?_)
      refine And.intro hv ?_
      refine And.intro (fun _ => ?_) (fun q => absurd (ec.trans k9) q)
      refine And.intro hvh ?_
      refine And.intro hvh ?_
      have hb : gI m 43 0 (nI (b :: r).length - 1).toNatClampNeg = b := by rw [hh, nI_clamp (by omega)]; exact hst.1
      have go : qW false (d + 3) 228 bc bs 12 [some (lR 33 (some 0)), some (lI (nI n)), some (lI f), some (lI (nI t)), some (lI (nI (b :: r).length)), some (lI (nI (260 * n + a) + 1))] [] (sI m 43 0 (nI (b :: r).length - 1).toNatClampNeg (1 - gI m 43 0 (nI (b :: r).length - 1).toNatClampNeg)) Q := by
        rw [hb, en, hh, nI_clamp (by omega)]
        subst e
        exact ih (a + 1) ((1 - b) :: r) _ (by omega) hc2 h2 hl (stV_p hst.2) (wk_Fs (by omega) hm)
      exact go
    · subst e1'
      have hl : r.length + 1 + 1 ≤ 30 := hl
      have hh : nI (b :: c :: r).length + -1 = nI (r.length + 1) := by
        show nI (r.length + 1 + 1) + -1 = _
        rw [nI_m1, nI_pred]
      have hh2 : nI (b :: c :: r).length + -1 - 1 = nI r.length := by
        rw [hh, nI_pred]
      have hvh : qa_vin (nI (b :: c :: r).length + -1) 80 := by rw [hh]; exact nI_in (by omega) (by decide)
      have hvh2 : qa_vin (nI (b :: c :: r).length + -1 - 1) 80 := by rw [hh2]; exact nI_in (by omega) (by decide)
      refine And.intro (fun q => absurd (ec.symm.trans q) n0) (fun _ => ?_)
      refine And.intro hv ?_
      refine And.intro (fun q => absurd (ec.symm.trans q) n1) (fun _ => ?_)
      refine And.intro hv ?_
      refine And.intro (fun q => absurd (ec.symm.trans q) n9) (fun _ => ?_)
      refine And.intro hv ?_
      refine And.intro hvh2 ?_
      refine And.intro hvh ?_
      have hb : gI m 43 0 (nI (b :: c :: r).length + -1).toNatClampNeg = b := by rw [hh, nI_clamp (by omega)]; exact hst.1
      have hc' : gI m 43 0 (nI (b :: c :: r).length + -1 - 1).toNatClampNeg = c := by rw [hh2, nI_clamp (by omega)]; exact hst.2.1
      have go : qW false (d + 3) 228 bc bs 12 [some (lR 33 (some 0)), some (lI (nI n)), some (lI f), some (lI (nI t)), some (lI (nI (b :: c :: r).length + -1)), some (lI (nI (260 * n + a) + 1))] [] (sI m 43 0 (nI (b :: c :: r).length + -1 - 1).toNatClampNeg (wkV x.1 c b)) Q := by
        rw [en, hh2, hh, nI_clamp (by omega)]
        subst e
        exact ih (a + 1) (wkV x.1 c b :: r) _ (by omega) hc2 h2 (by show r.length + 1 ≤ 30; omega) (stV_p hst.2.2) (wk_Fs (by omega) hm)
      have wk : qC false (d + 3) 227 [lI (gI m 35 0 (nI (260 * n + a)).toNatClampNeg), lL (gI m 43 0 (nI (b :: c :: r).length + -1 - 1).toNatClampNeg).toInt64, lL (gI m 43 0 (nI (b :: c :: r).length + -1).toNatClampNeg).toInt64] m (fun r' m' => ∃ u, r' = some (lI u) ∧ (qa_vin (nI (b :: c :: r).length + -1 - 1) 80 ∧ qW false (d + 3) 228 bc bs 12 [some (lR 33 (some 0)), some (lI (nI n)), some (lI f), some (lI (nI t)), some (lI (nI (b :: c :: r).length + -1)), some (lI (nI (260 * n + a) + 1))] [] (sI m' 43 0 (nI (b :: c :: r).length + -1 - 1).toNatClampNeg u) Q)) := by
        rw [hb, hc', ec]
        exact h_workedV (d := d + 1) (g.imp id (fun q => q.1)) (Exists.intro _ (And.intro rfl (And.intro hvh2 go)))
      exact wk
theorem h_workOutV {d f t : Nat} {T : List Tk} {w : Int32} {m : LMem} {Q : LPost} (hn : n < 7) (hf : f + T.length = t) (ht : t ≤ 260) (hL : ∀ i : Nat, i < 8 → gI s 42 0 i = L (nI i)) (hc : ∀ j x, T[j]? = some x → gI s 35 0 (260 * n + (f + j)) = x.1 ∧ gI s 36 0 (260 * n + (f + j)) = x.2) (hr : rnV L T [] = some [w]) (hm : wk_F s m) (h : ∀ m, wk_F s m → Q (some (lI w)) m) : qC false (d + 4) 228 [lR 33 (some 0), lI (nI n), lI (nI f), lI (nI t)] m Q := by
  have e1 : (260 : Int32) * nI n + nI f = nI (260 * n + f) := by rw [show (260 : Int32) = nI 260 from rfl, nI_mul, nI_add]
  have main := wv_l (d := d) (bc := 0) (bs := 0) (f := nI f) hn ht hL h T f [] m hf hc hr (by decide) trivial hm
  rw [← e1] at main
  refine qC_of rfl rfl ?_
  refine qa_t1_W (cut := [12]) 20 ?_
  exact main
end WV
/-! THE REFERENCE'S WORTH OF A LAW. -/
theorem flC_ap (b : List Cz) : ∀ a, flC (a ++ b) = flC a ++ flC b
  | [] => rfl
  | x :: r => by
    show x.1 ++ (x.2 ++ flC (r ++ b)) = x.1 ++ (x.2 ++ flC r) ++ flC b
    rw [flC_ap b r]
    simp only [List.append_assoc]
theorem ap_at {A T R : List Tk} {j : Nat} {x : Tk} (h : T[j]? = some x) : (A ++ (T ++ R))[A.length + j]? = some x := by
  have hj := (List.getElem?_eq_some_iff.mp h).1
  rw [List.getElem?_append_right (by omega), show A.length + j - A.length = j by omega, List.getElem?_append_left hj]
  exact h
section WO
variable {L : Int32 → Int32} {s : LMem} {n : Nat} {cs : List Cz}
theorem wr_at {c : Nat} {t u : List Tk} (e : cs[c]? = some (t, u)) : flC cs = flC (cs.take c) ++ (t ++ (u ++ flC (cs.drop (c + 1)))) := by
  have hc := (List.getElem?_eq_some_iff.mp e).1
  have ed : cs.drop c = (t, u) :: cs.drop (c + 1) := by
    rw [List.drop_eq_getElem_cons hc]
    have := (List.getElem?_eq_some_iff.mp e).2
    rw [this]
  have := congrArg flC (List.take_append_drop c cs)
  rw [flC_ap, ed] at this
  exact this.symm
theorem wv_o {d bc bs : Nat} {Q : LPost} (hn : n < 6) (hL : ∀ i : Nat, i < 8 → gI s 42 0 i = L (nI i)) (hc : lcn n s cs) (h1 : (flC cs).length ≤ 200) (h2 : cs.length ≤ 60) (hw : lwR cs) (h : ∀ m, wk_F s m → Q (some (lI (wrV L cs))) m) : ∀ j c m, c + j = cs.length → wrV L (cs.drop c) = wrV L cs → wk_F s m → qW false (d + 4) 229 bc bs 5 [some (lR 33 (some 0)), some (lI (nI n)), some (lI (nI (60 * n + c)))] [] m Q := by
  have e1 : (60 : Int32) * nI n + nI cs.length = nI (60 * n + cs.length) := by rw [show (60 : Int32) = nI 60 from rfl, nI_mul, nI_add]
  have hvn : qa_vin (nI n) 7 := nI_in (by omega) (by decide)
  have e7 : (nI n).toNatClampNeg = n := nI_clamp (by omega)
  intro j
  induction j with
  | zero =>
    intro c m hcl hv hm
    have hcl : c = cs.length := hcl
    subst hcl
    rw [List.drop_length] at hv
    have hv : (0 : Int32) = wrV L cs := hv
    rw [← hv] at h
    have hlt : ¬ nI (60 * n + cs.length) < 60 * nI n + gI m 38 0 (nI n).toNatClampNeg := by
      rw [e7, hm.1 38 0 n (fun q => absurd q.1 (by decide)), hc.2.1, e1]
      exact nI_nlt (Nat.le_refl _) (by omega)
    refine qa_t1_W (cut := [5]) 30 ?_
    refine And.intro hvn ?_
    exact And.intro (fun q => absurd q hlt) (fun _ => h m hm)
  | succ j ih =>
    intro c m hcl hv hm
    have hlt : nI (60 * n + c) < 60 * nI n + gI m 38 0 (nI n).toNatClampNeg := by
      rw [e7, hm.1 38 0 n (fun q => absurd q.1 (by decide)), hc.2.1, e1]
      exact nI_lt (by omega) (by omega)
    have hvi : qa_vin (nI (60 * n + c)) 420 := nI_in (by omega) (by decide)
    have e9 : (nI (60 * n + c)).toNatClampNeg = 60 * n + c := nI_clamp (by omega)
    obtain ⟨⟨t, u⟩, etu⟩ : ∃ x, cs[c]? = some x := ⟨_, List.getElem?_eq_getElem (show c < cs.length by omega)⟩
    have fl := wr_at etu
    obtain ⟨p9, p0, p1⟩ := hc.2.2 c t u etu
    have ed : cs.drop c = (t, u) :: cs.drop (c + 1) := by
      rw [List.drop_eq_getElem_cons (show c < cs.length by omega)]
      have := (List.getElem?_eq_some_iff.mp etu).2
      rw [this]
    obtain ⟨w1, w, w2⟩ := hw L t u (List.mem_of_getElem? etu)
    generalize hA : flC (cs.take c) = A at *
    have len : A.length + t.length + u.length ≤ 200 := by
      have := congrArg List.length fl
      rw [List.length_append, List.length_append, List.length_append] at this
      omega
    have la : (A ++ t).length = A.length + t.length := List.length_append
    have lu : (A ++ t ++ u).length = A.length + t.length + u.length := by rw [List.length_append, la]
    have val : ∀ (k x : Nat), k ≠ 43 → gI s k 0 (60 * n + c) = nI x → ∀ m, wk_F s m → gI m k 0 (nI (60 * n + c)).toNatClampNeg = nI x := fun k x hk hx m hm => by
      rw [e9, hm.1 k 0 _ (fun q => hk q.1)]
      exact hx
    have ct : ∀ j x, t[j]? = some x → gI s 35 0 (260 * n + (A.length + j)) = x.1 ∧ gI s 36 0 (260 * n + (A.length + j)) = x.2 := fun j x e => hc.1 _ x (by rw [fl]; exact ap_at e)
    have cu : ∀ j x, u[j]? = some x → gI s 35 0 (260 * n + ((A ++ t).length + j)) = x.1 ∧ gI s 36 0 (260 * n + ((A ++ t).length + j)) = x.2 := fun j x e => hc.1 _ x (by rw [fl, ← List.append_assoc]; exact ap_at e)
    have hits : ∀ m, wk_F s m → wrV L cs = w → qC false (d + 4) 228 [lR 33 (some 0), lI (nI n), lI (gI m 40 0 (nI (60 * n + c)).toNatClampNeg), lI (gI m 41 0 (nI (60 * n + c)).toNatClampNeg)] m (fun r s' => ∃ a, r = some (lI a) ∧ Q (some (lI a)) s') := fun m hm ew => by
      rw [val 40 _ (by decide) p0 m hm, val 41 _ (by decide) p1 m hm]
      rw [ew] at h
      exact h_workOutV (L := L) (by omega) (by rw [la, lu]) (by omega) hL cu w2 hm fun m hm => Exists.intro _ (And.intro rfl (h m hm))
    have ew : t = [] ∨ rnV L t [] ≠ some [0] → wrV L cs = w := fun g => by
      rw [← hv, ed]
      show (if t = [] ∨ rnV L t [] ≠ some [0] then (match rnV L u [] with | some (v :: _) => v | _ => 0) else wrV L (cs.drop (c + 1))) = w
      rw [if_pos g, w2]
    refine qa_t1_W (cut := [5]) 60 ?_
    refine And.intro hvn ?_
    refine And.intro (fun _ => ?_) (fun q => absurd hlt q)
    refine And.intro hvi ?_
    refine And.intro hvi ?_
    refine And.intro (fun e => ?_) (fun ne => ?_)
    · have e : gI m 39 0 (nI (60 * n + c)).toNatClampNeg = gI m 40 0 (nI (60 * n + c)).toNatClampNeg := e
      rw [val 39 _ (by decide) p9 m hm, val 40 _ (by decide) p0 m hm] at e
      have e := congrArg Int32.toInt e
      rw [nI_toInt (by omega), nI_toInt (by omega), la] at e
      have tn : t = [] := List.eq_nil_of_length_eq_zero (by omega)
      refine And.intro hvi ?_
      refine And.intro hvi ?_
      exact hits m hm (ew (Or.inl tn))
    · have ne : ¬ gI m 39 0 (nI (60 * n + c)).toNatClampNeg = gI m 40 0 (nI (60 * n + c)).toNatClampNeg := ne
      have tn : t ≠ [] := fun z => ne (by
        rw [val 39 _ (by decide) p9 m hm, val 40 _ (by decide) p0 m hm, la, z]
        rfl)
      obtain ⟨v, hv1⟩ := w1.resolve_left tn
      refine And.intro hvi ?_
      refine And.intro hvi ?_
      have test : qC false (d + 4) 228 [lR 33 (some 0), lI (nI n), lI (gI m 39 0 (nI (60 * n + c)).toNatClampNeg), lI (gI m 40 0 (nI (60 * n + c)).toNatClampNeg)] m (fun r s' => ∃ a, r = some (lI a) ∧ a = v ∧ wk_F s s') := by
        rw [val 39 _ (by decide) p9 m hm, val 40 _ (by decide) p0 m hm]
        exact h_workOutV (L := L) (by omega) (by rw [la]) (by omega) hL ct hv1 hm fun m hm => Exists.intro _ (And.intro rfl (And.intro rfl hm))
      refine qC_mono test fun r s' h9 => ?_
      obtain ⟨x, rfl, rfl, hm'⟩ := h9
      refine Exists.intro x (And.intro rfl ?_)
      refine And.intro (fun z => ?_) (fun z => ?_)
      · have z : x = 0 := z
        subst z
        have go : qW false (d + 4) 229 bc bs 5 [some (lR 33 (some 0)), some (lI (nI n)), some (lI (nI (60 * n + c) + 1))] [] s' Q := by
          rw [nI_1]
          refine ih (c + 1) s' (by omega) ?_ hm'
          rw [← hv, ed]
          show _ = (if t = [] ∨ rnV L t [] ≠ some [0] then _ else wrV L (cs.drop (c + 1)))
          rw [if_neg (fun q => by
            rcases q with q | q
            · exact tn q
            · exact q hv1)]
        exact go
      · have z : ¬ x = 0 := z
        refine And.intro hvi ?_
        refine And.intro hvi ?_
        exact hits s' hm' (ew (Or.inr (fun q => z (by
          rw [hv1] at q
          cases q
          rfl))))
theorem h_worthOfV {d : Nat} {Q : LPost} (hn : n < 6) (hL : ∀ i : Nat, i < 8 → gI s 42 0 i = L (nI i)) (hc : lcn n s cs) (h1 : (flC cs).length ≤ 200) (h2 : cs.length ≤ 60) (hw : lwR cs) (h : ∀ m, wk_F s m → Q (some (lI (wrV L cs))) m) : qC false (d + 5) 229 [lR 33 (some 0), lI (nI n)] s Q := by
  have main := wv_o (d := d) (bc := 0) (bs := 0) hn hL hc h1 h2 hw h cs.length 0 s (Nat.zero_add _) rfl (wk_F0 s)
  have e1 : (60 : Int32) * nI n = nI (60 * n + 0) := by rw [show (60 : Int32) = nI 60 from rfl, nI_mul]; rfl
  rw [← e1] at main
  refine qC_of rfl rfl ?_
  refine qa_t1_W (cut := [5]) 10 ?_
  exact main
end WO
