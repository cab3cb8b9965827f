/-! TRIALS of the class: dug anew, changed, days gone by. -/
/-- laws and weather of the class -/
def csL (e : EV) (f g : Option Nat) (s : LMem) : Prop := (gI s 16 0 0 = e.1 ∧ gI s 16 0 1 = e.2.1 ∧ gI s 16 0 2 = e.2.2.1) ∧ (∃ nl : Nat, f = some nl ∧ cC nl s (clsC e.2.2.2.2.1) ∧ (clsC e.2.2.2.2.1).length ≤ 200 ∧ lwR e.2.2.2.2.1) ∧ ((e.2.2.2.2.2 = none ∧ g = none) ∨ ∃ c2, ∃ n2 : Nat, e.2.2.2.2.2 = some c2 ∧ g = some n2 ∧ cC n2 s (clsC c2) ∧ (clsC c2).length ≤ 200 ∧ lwR c2)
theorem cF_k {i : Nat} {s m : LMem} (h : cF i s m) (k a j : Nat) (hk : k ≠ 11 ∧ k ≠ 21 ∧ k ≠ 17 ∧ k ≠ 19 ∧ k ≠ 20) : gI m k a j = gI s k a j := h.1 k a j hk.1 (fun q => hk.2.1 q.1) (fun q => by omega)
theorem cC_F {i nl : Nat} {s m : LMem} {L : List Ck} (h : cF i s m) (c : cC nl s L) : cC nl m L := ⟨by
  rw [cF_k h 8 nl 2 (by decide)]
  exact c.1, fun j x e => by
  rw [cF_k h 9 nl j (by decide), cF_k h 10 nl j (by decide)]
  exact c.2 j x e⟩
theorem csL_F {i : Nat} {e : EV} {f g : Option Nat} {s m : LMem} (h : cF i s m) (L : csL e f g s) : csL e f g m := by
  obtain ⟨⟨t0, t1, t2⟩, ⟨nl, l1, l2, l3, l4⟩, q⟩ := L
  refine ⟨⟨(cF_k h 16 0 0 (by decide)).trans t0, (cF_k h 16 0 1 (by decide)).trans t1, (cF_k h 16 0 2 (by decide)).trans t2⟩, ⟨nl, l1, cC_F h l2, l3, l4⟩, ?_⟩
  rcases q with q | ⟨c2, n2, q1, q2, q3, q4, q5⟩
  · exact Or.inl q
  · exact Or.inr ⟨c2, n2, q1, q2, cC_F h q3, q4, q5⟩
theorem csH_of {i : Nat} {e : EV} {f g : Option Nat} {m : LMem} (L : csL e f g m) (C : chR i e.2.2.2.1 m) (h6 : gR m 17 i 6 = f) (h7 : gR m 17 i 7 = g) : csH e i m := by
  obtain ⟨t, ⟨nl, l1, l⟩, q⟩ := L
  refine ⟨C, t, ⟨nl, h6.trans l1, l⟩, ?_⟩
  rcases q with q | ⟨c2, n2, q1, q2, q⟩
  · exact Or.inl ⟨q.1, h7.trans q.2⟩
  · exact Or.inr ⟨c2, n2, q1, h7.trans q2, q⟩
/-- dug in the trial, as a picture, and ready for days -/
def rdy (e : EV) (l : Int64) (X : Nat → Nat → Int32) (s m : LMem) : Prop := cF 1 s m ∧ csH e 1 m ∧ gI m 17 1 5 = nI e.2.2.2.1 ∧ psC e 1 m (X, (0, ((fun _ => 0), l)))
theorem rdy_dig {e : EV} {f g : Option Nat} {l : Int64} {X : Nat → Nat → Int32} {s m : LMem} (L : csL e f g s) (D : dgV 1 e.2.2.2.1 f g l X s m) : rdy e l X s m := by
  obtain ⟨d1, d2, ⟨d3, d4, d5⟩, d6, d7, d8, d9⟩ := D
  exact ⟨d1, csH_of (csL_F d1 L) d2 d3 d4, d9, d8, d6, d7, d5⟩
theorem sinF_c {n : Nat} {v : Int32} {X Y : Nat → Nat → Int32} (h : eqn n X Y) : eqn n (sinF v X) (sinF v Y) := fun f r hf hr => by
  unfold sinF
  rw [h 2 r (by decide) hr, h 5 r (by decide) hr, h f r hf hr]
theorem rsF_c {n : Nat} {o v : Int32} {X Y : Nat → Nat → Int32} (h : eqn n X Y) : eqn n (rsF o v X) (rsF o v Y) := fun f r hf hr => by
  unfold rsF
  rw [h 4 r (by decide) hr, h 5 r (by decide) hr, h f r hf hr]
/-- a change of told fields -/
theorem rdy_21 {fs : List Nat} {e : EV} {l : Int64} {X Y : Nat → Nat → Int32} {s m m' : LMem} (R : rdy e l X s m) (k : k21 fs 1 m m') (x : eqn e.2.2.2.1 (vX 1 m') Y) : rdy e l Y s m' := by
  obtain ⟨r1, r2, r3, _, p2, p3, p4⟩ := R
  refine ⟨cF_tr r1 (cF_21 k), csH_g (kG_21 (b := False) k) r2, ?_, x, ?_, fun o ho => ?_, ?_⟩
  · rw [k.1 17 1 5 (fun q => absurd q.1 (by decide))]
    exact r3
  · rw [k.1 17 1 13 (fun q => absurd q.1 (by decide))]
    exact p2
  · rw [k.1 19 1 o (fun q => absurd q.1 (by decide))]
    exact p3 o ho
  · rw [k.2.1]
    exact p4
section TL
variable {d : Nat} {s : LMem} {Q : LPost} {e : EV}
theorem h_sinkR {m : LMem} {l : Int64} {X : Nat → Nat → Int32} {v : Int32} (hn : e.2.2.2.1 ≤ 20) (R : rdy e l X s m) (h : ∀ m', rdy e l (sinF v X) s m' → Q none m') : qC false (d + 1) 18 [lR 17 (some 1), lI v] m Q :=
  h_sinkV hn R.2.1.1 fun m' k x => h m' (rdy_21 R k (eqn_tr (fun f r _ hr => x f r hr) (sinF_c R.2.2.2.1)))
theorem h_raiseR {m : LMem} {l : Int64} {X : Nat → Nat → Int32} {o v : Int32} (hn : e.2.2.2.1 ≤ 20) (R : rdy e l X s m) (h : ∀ m', rdy e l (rsF o v X) s m' → Q none m') : qC false (d + 1) 19 [lR 17 (some 1), lI o, lI v] m Q :=
  h_raiseV hn R.2.1.1 fun m' k x => h m' (rdy_21 R k (eqn_tr (fun f r _ hr => x f r hr) (rsF_c R.2.2.2.1)))
theorem h_daysR {m : LMem} {r nd : Nat} {l : Int64} {X : Nat → Nat → Int32} (E : evG e) (ow : ∀ q, q < e.2.2.2.1 → ∃ o : Nat, o < 6 ∧ X 4 q = nI o) (hnd : nd ≤ 30) (h13 : gI s 13 r 1 = nI nd) (R : rdy e l X s m) (h : ∀ m', cF 1 s m' → csH e 1 m' → gI m' 17 1 5 = nI e.2.2.2.1 → psC e 1 m' (rnD e (fun k => gI s 14 r k) (X, (0, ((fun _ => 0), l))) nd) → Q none m') : qC false (d + 7) 20 [lR 17 (some 1), lR 13 (some r)] m Q := by
  obtain ⟨r1, r2, r3, r4⟩ := R
  have ew : (fun k => gI m 14 r k) = (fun k => gI s 14 r k) := funext fun k => cF_k r1 14 r k (by decide)
  refine h_goDaysP (d := d) E.2.2.2.2 E.2.2.2.1 r2 ow hnd ((cF_k r1 13 r 1 (by decide)).trans h13) r4 (fun m' k p => ?_)
  rw [ew] at p
  refine h m' (cF_tr r1 (cF_g k)) (csH_g k r2) ?_ p
  rw [k.1 17 1 5 (by decide) (fun q => absurd q.1 (by decide)) (fun q => absurd q.2.2 (by decide)) (fun q => absurd q.2.1 (by decide))]
  exact r3
/-- HARM of all -/
theorem ha_l {bc bs : Nat} {dg : Nat} {o5 : Option LV} (h : Q (some (lI (smZ (fun o => gI s 19 dg o) 6))) s) : ∀ j k o5, k + j = 6 → qW false d 35 bc bs 13 [some (lR 17 (some dg)), some (lI (smZ (fun o => gI s 19 dg o) k)), some (lR 19 (some dg)), some (lI 6), some (lI (nI k)), o5] [] s Q := by
  intro j
  induction j with
  | zero =>
    intro k o5 hk
    have hk : k = 6 := hk
    subst hk
    have hlt : ¬ nI 6 < 6 := by decide
    refine qa_t1_W (cut := [13]) 20 ?_
    exact And.intro (fun c => absurd c hlt) (fun _ => h)
  | succ j ih =>
    intro k o5 hk
    have hlt : nI k < 6 := nI_lt (b := 6) (by omega) (by decide)
    have hv : qa_vin (nI k) 6 := nI_in (by omega) (by decide)
    have go : ∀ o5, qW false d 35 bc bs 13 [some (lR 17 (some dg)), some (lI (smZ (fun o => gI s 19 dg o) k + gI s 19 dg (nI k).toNatClampNeg)), some (lR 19 (some dg)), some (lI 6), some (lI (nI k + 1)), o5] [] s Q := fun o5 => by
      rw [nI_clamp (by omega), nI_1]
      exact ih (k + 1) o5 (by omega)
    refine qa_t1_W (cut := [13]) 30 ?_
    exact And.intro (fun _ => And.intro hv (go _)) (fun c => absurd hlt c)
theorem h_harmOfAllV {dg : Nat} (h : Q (some (lI (smZ (fun o => gI s 19 dg o) 6))) s) : qC false (d + 1) 35 [lR 17 (some dg)] s Q := by
  have main : ∀ bc bs, qW false d 35 bc bs 13 [some (lR 17 (some dg)), some (lI 0), some (lR 19 (some dg)), some (lI 6), some (lI 0), none] [] s Q := fun bc bs => ha_l (o5 := none) h 6 0 none (Nat.zero_add _)
  refine qC_of rfl rfl ?_
  refine qa_t1_W (cut := [13]) 20 ?_
  exact main _ _
theorem h_harmOfV {dg o : Nat} (ho : o < 6) (h : Q (some (lI (gI s 19 dg o))) s) : qC false (d + 1) 34 [lR 17 (some dg), lI (nI o)] s Q := by
  have c0 : ¬ nI o < 0 := nI_nlt (b := 0) (by omega) (by omega)
  have c1 : nI o < 6 := nI_lt (b := 6) ho (by decide)
  have hv : qa_vin (nI o) 6 := nI_in ho (by decide)
  have fin : Q (some (lI (gI s 19 dg (nI o).toNatClampNeg))) s := by
    rw [nI_clamp (by omega)]
    exact h
  refine qC_of rfl rfl ?_
  refine qa_t1_W (cut := []) 30 ?_
  refine And.intro (fun q => absurd q c0) (fun _ => ?_)
  exact And.intro (fun _ => And.intro hv fin) (fun q => absurd c1 q)
theorem h_wholeCutV {dg : Nat} (h : Q (some (lI (gI s 17 dg 13))) s) : qC false (d + 1) 44 [lR 17 (some dg)] s Q := by
  refine qC_of rfl rfl ?_
  refine qa_t1_W (cut := []) 10 ?_
  exact h
/-- MUD of all -/
theorem h_tells2 {row : Nat} (h : Q (some (lI (gI s 21 row 7))) s) : qC false (d + 1) 97 [lR 21 (some row), lI 2] s Q := by
  refine qC_of rfl rfl ?_
  refine qa_t1_W (cut := []) 30 ?_
  refine And.intro (fun q => absurd q (show ¬ (2 : Int32) = 0 by decide)) (fun _ => ?_)
  refine And.intro (fun q => absurd q (show ¬ (2 : Int32) = 1 by decide)) (fun _ => ?_)
  exact And.intro (fun _ => h) (fun q => absurd rfl q)
theorem wm_l {bc bs dg n : Nat} (hn : n ≤ 20) (C : chR dg n s) (h : Q (some (lI (smZ (fun r => vX dg s 7 r) n))) s) : ∀ j k, k + j = n → qW false (d + 1) 42 bc bs 7 [some (lR 17 (some dg)), some (lI 2), some (lI (smZ (fun r => vX dg s 7 r) k)), some (lR 21 (nxR dg n k))] [] s Q := by
  intro j
  induction j with
  | zero =>
    intro k hk
    have hk : k = n := hk
    subst hk
    have e : nxR dg k k = none := if_neg (Nat.lt_irrefl k)
    rw [e]
    refine qa_t1_W (cut := [7]) 20 ?_
    exact h
  | succ j ih =>
    intro k hk
    have hkn : k < n := by omega
    have e : nxR dg n k = some (20 * dg + k) := if_pos hkn
    rw [e]
    have go : qW false (d + 1) 42 bc bs 7 [some (lR 17 (some dg)), some (lI 2), some (lI (smZ (fun r => vX dg s 7 r) k + gI s 21 (20 * dg + k) 7)), some (lR 21 (gR s 21 (20 * dg + k) 0))] [] s Q := by
      rw [C.2 k hkn]
      exact ih (k + 1) (by omega)
    refine qa_t1_W (cut := [7]) 30 ?_
    exact h_tells2 (Exists.intro _ (And.intro rfl go))
theorem h_wholeMudV {dg n : Nat} (hn : n ≤ 20) (C : chR dg n s) (h : Q (some (lI (smZ (fun r => vX dg s 7 r) n))) s) : qC false (d + 3) 43 [lR 17 (some dg)] s Q := by
  have sum : ∀ K : LPost, (∀ v, v = smZ (fun r => vX dg s 7 r) n → K (some (lI v)) s) → qC false (d + 2) 42 [lR 17 (some dg), lI 2] s K := fun K hK => by
    have main : ∀ bc bs, qW false (d + 1) 42 bc bs 7 [some (lR 17 (some dg)), some (lI 2), some (lI 0), some (lR 21 (gR s 17 dg 4))] [] s K := fun bc bs => by
      rw [C.1]
      exact wm_l (d := d) hn C (hK _ rfl) n 0 (Nat.zero_add _)
    refine qC_of rfl rfl ?_
    refine qa_t1_W (cut := [7]) 20 ?_
    exact main _ _
  refine qC_of rfl rfl ?_
  refine qa_t1_W (cut := []) 20 ?_
  refine sum _ fun v ev => Exists.intro _ (And.intro rfl ?_)
  rw [ev]
  exact h
end TL
