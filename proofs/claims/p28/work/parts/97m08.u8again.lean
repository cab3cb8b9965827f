/-! AGAIN of the reference, by value; sums. -/
/-- kept: all but letters, stack, what comes, now, draws and seed -/
def rF (s m : LMem) : Prop := (∀ k i j, ¬ (k = 42 ∨ k = 43 ∨ k = 51) → ¬ (k = 48 ∧ i = 0) → gI m k i j = gI s k i j) ∧ (∀ k i j, ¬ (k = 33 ∧ i = 0 ∧ (j = 29 ∨ j = 30)) → gL m k i j = gL s k i j) ∧ ∀ k i j, gR m k i j = gR s k i j
theorem rF_0 {s : LMem} : rF s s := ⟨fun _ _ _ _ _ => rfl, fun _ _ _ _ => rfl, fun _ _ _ => rfl⟩
theorem rF_tr {s m m2 : LMem} (h : rF s m) (h2 : rF m m2) : rF s m2 := ⟨fun k i j g1 g2 => (h2.1 k i j g1 g2).trans (h.1 k i j g1 g2), fun k i j g => (h2.2.1 k i j g).trans (h.2.1 k i j g), fun k i j => (h2.2.2 k i j).trans (h.2.2 k i j)⟩
theorem rF_R {A : Nat → Prop} {b : Prop} {s m : LMem} (h : kR A b s m) : rF s m := ⟨fun k i j g1 g2 => h.1 k i j g1 (fun q => g2 ⟨q.1, q.2.1⟩), fun k i j g => h.2.1 k i j (fun q => g ⟨q.2.1, q.2.2.1, Or.inl q.2.2.2⟩), h.2.2⟩
theorem rF_G {C : Nat → Prop} {s m : LMem} (h : nw_G s m C) : rF s m := ⟨fun k i j _ g2 => h.1 k i j (fun q => g2 ⟨q.1, q.2.1⟩), fun k i j g => h.2.1 k i j g, h.2.2⟩
theorem rF_s {s m : LMem} {j : Nat} {v : Int32} (h : rF s m) : rF s (sI m 48 0 j v) := ⟨fun k i j' g1 g2 => by
  rw [gI_sI, if_neg (fun q => g2 ⟨q.1, q.2.1⟩)]
  exact h.1 k i j' g1 g2, h.2.1, h.2.2⟩
/-- laws and weather of the reference, by numbers of laws -/
def reL (e : EV) (f sl : Int32) (s : LMem) : Prop := (gI s 33 0 23 = e.1 ∧ gI s 33 0 24 = e.2.1 ∧ gI s 33 0 25 = e.2.2.1 ∧ gI s 33 0 37 = -1) ∧ (∃ nl : Nat, f = nI nl ∧ nl < 6 ∧ lcn nl s e.2.2.2.2.1 ∧ (flC e.2.2.2.2.1).length ≤ 200 ∧ e.2.2.2.2.1.length ≤ 60 ∧ lwR e.2.2.2.2.1) ∧ ((e.2.2.2.2.2 = none ∧ sl = -1) ∨ ∃ c2, ∃ n2 : Nat, e.2.2.2.2.2 = some c2 ∧ sl = nI n2 ∧ n2 < 6 ∧ lcn n2 s c2 ∧ (flC c2).length ≤ 200 ∧ c2.length ≤ 60 ∧ lwR c2)
theorem reL_F {e : EV} {f sl : Int32} {s m : LMem} (h : rF s m) (R : reL e f sl s) : reL e f sl m := by
  have g33 : ∀ j, gI m 33 0 j = gI s 33 0 j := fun j => h.1 33 0 j (by decide) (fun q => absurd q.1 (by decide))
  obtain ⟨⟨r2, r3, r4, r5⟩, ⟨nl, r6, r7, r8, r9, r10, r11⟩, r12⟩ := R
  refine ⟨⟨(g33 23).trans r2, (g33 24).trans r3, (g33 25).trans r4, (g33 37).trans r5⟩, ⟨nl, r6, r7, lcn_M (fun k j g => h.1 k 0 j (by omega) (fun q => by omega)) r9 r10 r8, r9, r10, r11⟩, ?_⟩
  rcases r12 with q | ⟨c2, n2, q1, q2, q3, q4, q5, q6, q7⟩
  · exact Or.inl q
  · exact Or.inr ⟨c2, n2, q1, q2, q3, lcn_M (fun k j g => h.1 k 0 j (by omega) (fun q => by omega)) q5 q6 q4, q5, q6, q7⟩
theorem reH_of {e : EV} {f sl : Int32} {m : LMem} (R : reL e f sl m) (h1 : gI m 48 0 272 = nI e.2.2.2.1) (h2 : gI m 48 0 277 = f) (h3 : gI m 48 0 278 = sl) : reH e m := by
  obtain ⟨⟨r2, r3, r4, r5⟩, ⟨nl, r6, r⟩, r12⟩ := R
  refine ⟨⟨h1, r2, r3, r4, r5⟩, ⟨nl, h2.trans r6, r⟩, ?_⟩
  rcases r12 with q | ⟨c2, n2, q1, q2, q⟩
  · exact Or.inl ⟨q.1, h3.trans q.2⟩
  · exact Or.inr ⟨c2, n2, q1, h3.trans q2, q⟩
def agF (less o more : Int32) (X : Nat → Nat → Int32) (f r : Nat) : Int32 := if f = 2 then qa_max 0 (X 2 r - less) else if f = 5 then qa_max 0 (X 5 r - less) + (if X 4 r = o then more else 0) else X f r
theorem agF_c {n : Nat} {less o more : Int32} {X Y : Nat → Nat → Int32} (h : eqn n X Y) : eqn n (agF less o more X) (agF less o more Y) := fun f r hf hr => by
  unfold agF
  rw [h 2 r (by decide) hr, h 5 r (by decide) hr, h 4 r (by decide) hr, h f r hf hr]
theorem agF_o {less o more : Int32} {X : Nat → Nat → Int32} {f r : Nat} (h2 : f ≠ 2) (h5 : f ≠ 5) : agF less o more X f r = X f r := by
  unfold agF
  rw [if_neg h2, if_neg h5]
section AG
variable {d n : Nat} {s : LMem} {Q : LPost} {p1 p2 less o more : Int32}
theorem agv_l {bc bs : Nat} (hn2 : n ≤ 20) (hn : gI s 48 0 272 = nI n) (h : ∀ m o6 o7, k48 [2, 5] n s m → (∀ f r, 1 ≤ f ∧ f ≤ 14 → r < n → vR m f r = agF less o more (vR s) f r) → qW false d 287 bc bs 106 [some (lR 33 (some 0)), some (lI p1), some (lI p2), some (lI less), some (lI o), some (lI more), o6, o7] [] m Q) : ∀ j k m o7, k + j = n → k48 [2, 5] n s m → rwR (agF less o more) n k s m → qW false d 287 bc bs 8 [some (lR 33 (some 0)), some (lI p1), some (lI p2), some (lI less), some (lI o), some (lI more), some (lI (nI k)), o7] [] m Q := by
  intro j
  induction j with
  | zero =>
    intro k m o7 hk hm hI
    have hk : k = n := hk
    subst hk
    have hlt : ¬ nI k < gI m 48 0 272 := by
      rw [hm.1 48 0 272 (fun q => by
        have := fA_lt hn2 (fun f hf => by
          simp only [List.mem_cons, List.not_mem_nil, or_false] at hf
          omega) (show fA [2, 5] k 272 from q.2.2)
        omega), hn]
      exact nI_nlt (Nat.le_refl _) (by omega)
    refine qa_t1_W (cut := [106]) 10 ?_
    refine And.intro (x_vc (by decide) (by decide)) ?_
    exact And.intro (fun q => absurd q hlt) (fun _ => h m _ _ hm (fun f r hf hr => by rw [hI f r hf hr, if_pos hr]))
  | succ j ih =>
    intro k m o7 hk hm hI
    have hkn : k < n := by omega
    have hk20 : k < 20 := by omega
    have hlt : nI k < gI m 48 0 272 := by
      rw [hm.1 48 0 272 (fun q => by
        have := fA_lt hn2 (fun f hf => by
          simp only [List.mem_cons, List.not_mem_nil, or_false] at hf
          omega) (show fA [2, 5] n 272 from q.2.2)
        omega), hn]
      exact nI_lt (by omega) (by omega)
    have own : ∀ f, 1 ≤ f ∧ f ≤ 14 → vR m f k = vR s f k := fun f hf => by rw [hI f k hf hkn, if_neg (Nat.lt_irrefl k)]
    have v1 : qa_vin ((160 : Int32) + 5 * nI k + 1) 279 := by rw [show (1 : Int32) = nI 1 from rfl, x_i5]; exact nI_in (by omega) (by decide)
    have v3 : qa_vin ((160 : Int32) + 5 * nI k + 3) 279 := by rw [show (3 : Int32) = nI 3 from rfl, x_i5]; exact nI_in (by omega) (by decide)
    have v4 : qa_vin ((160 : Int32) + 5 * nI k + 4) 279 := by rw [show (4 : Int32) = nI 4 from rfl, x_i5]; exact nI_in (by omega) (by decide)
    have r2 : ro 2 k = 160 + 5 * k + 1 := if_neg (by decide)
    have r4 : ro 4 k = 160 + 5 * k + 3 := if_neg (by decide)
    have r5 : ro 5 k = 160 + 5 * k + 4 := if_neg (by decide)
    have c1 : ((160 : Int32) + 5 * nI k + 1).toNatClampNeg = ro 2 k := by rw [r2, show (1 : Int32) = nI 1 from rfl, x_i5, nI_clamp (by omega)]
    have c3 : ((160 : Int32) + 5 * nI k + 3).toNatClampNeg = ro 4 k := by rw [r4, show (3 : Int32) = nI 3 from rfl, x_i5, nI_clamp (by omega)]
    have c4 : ((160 : Int32) + 5 * nI k + 4).toNatClampNeg = ro 5 k := by rw [r5, show (4 : Int32) = nI 4 from rfl, x_i5, nI_clamp (by omega)]
    have b2 : gI m 48 0 (ro 2 k) = vR s 2 k := own 2 (by decide)
    have rest : ∀ m1, m1 = sI m 48 0 ((160 : Int32) + 5 * nI k + 1).toNatClampNeg (qa_max 0 (gI m 48 0 ((160 : Int32) + 5 * nI k + 1).toNatClampNeg - less)) → (gI m1 48 0 ((160 : Int32) + 5 * nI k + 3).toNatClampNeg = vR s 4 k) ∧ ∀ w, w = (if vR s 4 k = o then more else 0) → qW false d 287 bc bs 8 [some (lR 33 (some 0)), some (lI p1), some (lI p2), some (lI less), some (lI o), some (lI more), some (lI (nI k + 1)), some (lI ((160 : Int32) + 5 * nI k))] [] (sI m1 48 0 ((160 : Int32) + 5 * nI k + 4).toNatClampNeg (qa_max 0 (gI m1 48 0 ((160 : Int32) + 5 * nI k + 4).toNatClampNeg - less) + w)) Q := fun m1 e1 => by
      rw [c1, b2] at e1
      have k1 : k48 [2, 5] n s m1 := by rw [e1]; exact k48_s hkn (by decide) hm
      have x1 : ∀ f r, 1 ≤ f ∧ f ≤ 14 → r < n → vR m1 f r = if f = 2 ∧ r = k then qa_max 0 (vR s 2 k - less) else vR m f r := fun f r hf hr => by
        rw [e1, vR_s (by decide) hf (by omega) hk20]
      have b4 : gI m1 48 0 (ro 4 k) = vR s 4 k := by
        have a := x1 4 k (by decide) hkn
        rw [if_neg (fun q => absurd q.1 (by decide)), own 4 (by decide)] at a
        exact a
      have b5 : gI m1 48 0 (ro 5 k) = vR s 5 k := by
        have a := x1 5 k (by decide) hkn
        rw [if_neg (fun q => absurd q.1 (by decide)), own 5 (by decide)] at a
        exact a
      refine ⟨by rw [c3]; exact b4, fun w ew => ?_⟩
      rw [c4, b5, nI_1]
      refine ih (k + 1) _ _ (by omega) (k48_s hkn (by decide) k1) (fun f r hf hr => ?_)
      rw [vR_s (by decide) hf (by omega) hk20, x1 f r hf hr]
      by_cases g : r = k
      · subst g
        rw [if_pos (Nat.lt_succ_self r)]
        unfold agF
        by_cases f5 : f = 5
        · rw [if_pos ⟨f5, rfl⟩, if_neg (by omega), if_pos f5, ew]
        · rw [if_neg (fun q => f5 q.1)]
          by_cases f2 : f = 2
          · rw [if_pos ⟨f2, rfl⟩, if_pos f2]
          · rw [if_neg (fun q => f2 q.1), if_neg f2, if_neg f5, own f hf]
      · rw [if_neg (fun q => g q.2), if_neg (fun q => g q.2), hI f r hf hr]
        by_cases g2 : r < k
        · rw [if_pos g2, if_pos (by omega)]
        · rw [if_neg g2, if_neg (by omega)]
    obtain ⟨q3, go⟩ := rest _ rfl
    refine qa_t1_W (cut := [8]) 80 ?_
    refine And.intro (x_vc (by decide) (by decide)) ?_
    refine And.intro (fun _ => ?_) (fun q => absurd hlt q)
    refine And.intro v1 (And.intro v1 (And.intro v4 (And.intro v3 ?_)))
    refine And.intro (fun c => ?_) (fun c => ?_)
    · exact And.intro v4 (go more (by rw [if_pos (q3.symm.trans c)]))
    · exact And.intro v4 (go 0 (by rw [if_neg (fun z => c (q3.trans z))]))
end AG
/-- layOut, with what it leaves of longs -/
def loL (dd : Nat) (s m : LMem) (k : Nat) : Prop := lo_K dd s m k ∧ ∀ k i j, gL m k i j = gL s k i j
theorem loL_l {d bc bs dd : Nat} {s : LMem} {Q : LPost} (hdd : dd < 5) (h : ∀ m, loL dd s m 100 → Q none m) : ∀ n k m, k + n = 100 → loL dd s m k → qW false d 245 bc bs 16 [some (lR 33 (some 0)), some (lI (nI dd)), some (lI (nI k))] [] m Q := by
  intro n
  induction n with
  | zero =>
    intro k m hk hm
    have hk : k = 100 := hk
    subst hk
    refine qa_t1_W (cut := [16]) 10 ?_
    exact And.intro (fun q => absurd q (by decide)) (fun _ => h m hm)
  | succ n ih =>
    intro k m hk hm
    have hv : gI m 45 0 (100 * dd + k) = gI s 45 0 (100 * dd + k) := hm.1.1.1 _ _ _ (fun q => absurd q.1 (by decide))
    have ih := ih (k + 1) (sI m 48 0 (160 + k) (gI m 45 0 (100 * dd + k))) (by omega) (by
      refine ⟨⟨nw_Gs (Or.inr ⟨by omega, by omega⟩) hm.1.1, ?_, fun j hj => ?_⟩, hm.2⟩
      · rw [gI_sI, if_neg (fun q => absurd q.2.2 (by omega))]
        exact hm.1.2.1
      · rw [gI_sI]
        by_cases e : j = k
        · rw [if_pos ⟨rfl, rfl, by omega⟩, hv, e]
        · rw [if_neg (fun q => e (by omega))]
          exact hm.1.2.2 j (by omega))
    rw [nI_succ k] at ih
    have hlt : nI k < 100 := nI_lt (b := 100) (by omega) (by decide)
    have i1 : (160 : Int32) + nI k = nI (160 + k) := by rw [show (160 : Int32) = nI 160 from rfl, nI_add]
    have i2 : (100 : Int32) * nI dd + nI k = nI (100 * dd + k) := by rw [show (100 : Int32) = nI 100 from rfl, nI_mul, nI_add]
    have hv1 : qa_vin ((160 : Int32) + nI k) 279 := by rw [i1]; exact nI_in (by omega) (by decide)
    have hv2 : qa_vin ((100 : Int32) * nI dd + nI k) 500 := by rw [i2]; exact nI_in (by omega) (by decide)
    have ih2 : qW false d 245 bc bs 16 [some (lR 33 (some 0)), some (lI (nI dd)), some (lI (nI k + 1))] [] (sI m 48 0 ((160 : Int32) + nI k).toNatClampNeg (gI m 45 0 ((100 : Int32) * nI dd + nI k).toNatClampNeg)) Q := by
      rw [i1, i2, nI_clamp (by omega), nI_clamp (by omega)]
      exact ih
    refine qa_t1_W (cut := [16]) 40 ?_
    refine And.intro (fun _ => ?_) (fun q => absurd hlt q)
    exact And.intro hv2 (And.intro hv1 ih2)
theorem h_layOutL {d dd : Nat} {s : LMem} {Q : LPost} (hdd : dd < 5) (h : ∀ m, loL dd s m 100 → Q none m) : qC false (d + 1) 245 [lR 33 (some 0), lI (nI dd)] s Q := by
  have e9 : (nI dd).toNatClampNeg = dd := nI_clamp (by omega)
  have main := loL_l (d := d) (bc := 0) (bs := 0) (s := s) (Q := Q) hdd h 100 0 (sI s 48 0 272 (gI s 44 0 dd)) rfl ⟨⟨nw_Gs (Or.inl rfl) nw_G0, by rw [gI_sI, if_pos ⟨rfl, rfl, rfl⟩], fun j hj => absurd hj (Nat.not_lt_zero _)⟩, fun _ _ _ => rfl⟩
  have main2 : qW false d 245 0 0 16 [some (lR 33 (some 0)), some (lI (nI dd)), some (lI (nI 0))] [] (sI s 48 0 272 (gI s 44 0 (nI dd).toNatClampNeg)) Q := by
    rw [e9]
    exact main
  refine qC_of rfl rfl ?_
  refine qa_t1_W (cut := [16]) 20 ?_
  have hv5 : qa_vin (nI dd) 5 := nI_in (by omega) (by decide)
  exact And.intro hv5 (And.intro (x_vc (by decide) (by decide)) main2)
section AH
variable {d : Nat} {s : LMem} {Q : LPost} {e : EV}
/-- what begin leaves, as a picture -/
theorem ps_begin {X : Nat → Nat → Int32} {l : Int64} {m2 m3 : LMem} (hn : e.2.2.2.1 ≤ 20) (hX : ∀ q r, 1 ≤ q ∧ q ≤ 5 → r < e.2.2.2.1 → vR m2 q r = X q r) (h0 : ∀ q r, 6 ≤ q → X q r = 0) (g : nw_G m2 m3 (fun j => j < 279 ∧ j ≠ 272 ∧ ¬ (160 ≤ j ∧ j < 260))) (z : ∀ j, (j < 160 ∨ (260 ≤ j ∧ j < 272) ∨ (273 ≤ j ∧ j < 277)) → gI m3 48 0 j = 0) (l1 : gL m3 33 0 29 = l) : psR e m3 (X, (0, ((fun _ => 0), l))) := by
  refine ⟨fun q r hq hr => ?_, z 276 (by omega), fun o ho => z (260 + o) (by omega), l1⟩
  show vR m3 q r = X q r
  by_cases c : q ≤ 5
  · rw [← hX q r ⟨hq.1, c⟩ hr]
    unfold vR
    have e1 : ro q r = 160 + 5 * r + (q - 1) := if_neg (by omega)
    rw [if_neg (by omega), if_neg (by omega), g.1 48 0 (ro q r) (fun w => by
      have := w.2.2.2.2
      rw [e1] at this
      omega)]
  · rw [h0 q r (by omega)]
    unfold vR
    by_cases e14 : q = 14
    · rw [if_pos e14]
    · have e1 : ro q r = 20 * (q - 6) + r := if_pos (by omega)
      rw [if_neg e14]
      exact z _ (Or.inl (by rw [e1]; omega))
theorem ag_run {r nd : Nat} {less o more : Int32} {T : Nat → Nat → Int32} {m2 : LMem} (E : evG e) (L : reL e (gI s 48 0 277) (gI s 48 0 278) s) (hr : r ≤ 3) (hnd : nd ≤ 30) (h46 : gI s 46 0 r = nI nd) (hw : ∀ k, k < nd → 0 ≤ (gI s 47 0 (30 * r + k)).toInt ∧ (gI s 47 0 (30 * r + k)).toInt ≤ 99) (G : Gd 0 0 0 e.2.2.2.1 (agF less o more T)) (hT : ∀ q r, 6 ≤ q → T q r = 0) (f2 : rF s m2) (e2722 : gI m2 48 0 272 = nI e.2.2.2.1) (X2 : ∀ q r, 1 ≤ q ∧ q ≤ 5 → r < e.2.2.2.1 → vR m2 q r = agF less o more T q r) (h : ∀ m, rF s m → gI m 48 0 277 = gI s 48 0 277 → gI m 48 0 278 = gI s 48 0 278 → gL m 33 0 30 = gL s 33 0 30 → gI m 48 0 272 = nI e.2.2.2.1 → psR e m (rnD e (fun k => gI s 47 0 (30 * r + k)) (agF less o more T, (0, ((fun _ => 0), gL s 33 0 30))) nd) → Q none m) (f sl : Int32) (l : Int64) (ef : f = gI s 48 0 277) (es : sl = gI s 48 0 278) (el : l = gL s 33 0 30) : qC false (d + 9) 244 [lR 33 (some 0), lI f, lI sl, lL l] m2 (fun rr m3 => rr = none ∧ qC false (d + 9) 254 [lR 33 (some 0), lI (nI r)] m3 (fun rr m4 => rr = none ∧ Q none m4)) := by
  have hn := E.2.2.2.2
  refine h_beginF (d := d + 8) fun m3 g z q1 q2 q3 q4 => ⟨rfl, ?_⟩
  have f3 : rF s m3 := rF_tr f2 (rF_G g)
  have e2723 : gI m3 48 0 272 = nI e.2.2.2.1 := (g.1 48 0 272 (fun q => q.2.2.2.1 rfl)).trans e2722
  have R3 : reH e m3 := reH_of (reL_F f3 L) e2723 (q1.trans ef) (q2.trans es)
  have P3 := ps_begin (e := e) hn X2 (fun q r hq => by
    rw [agF_o (by omega) (by omega)]
    exact hT q _ hq) g z (q3.trans el)
  have w3 : ∀ k, gI m3 47 0 k = gI s 47 0 k := fun k => f3.1 47 0 k (by decide) (fun q => absurd q.1 (by decide))
  have ew : (fun k => gI m3 47 0 (30 * r + k)) = (fun k => gI s 47 0 (30 * r + k)) := funext fun k => w3 _
  refine h_runOfP (d := d) E R3 hr hnd ((f3.1 46 0 r (by decide) (fun q => absurd q.1 (by decide))).trans h46) (fun k hk => by rw [w3]; exact hw k hk) G P3 (fun m4 k4 p4 => ⟨rfl, ?_⟩)
  have p4 : psR e m4 (rnD e (fun k => gI s 47 0 (30 * r + k)) (agF less o more T, (0, ((fun _ => 0), gL s 33 0 30))) nd) := Eq.mp (congrArg (fun w => psR e m4 (rnD e w (agF less o more T, (0, ((fun _ => 0), gL s 33 0 30))) nd)) ew) p4
  have g34 : ∀ j, j = 272 ∨ j = 277 ∨ j = 278 → gI m4 48 0 j = gI m3 48 0 j := fun j hj => k4.1 48 0 j (by decide) (fun q => dyP_no hn hj q.2.2)
  refine h m4 (rF_tr f3 (rF_R k4)) ?_ ?_ ?_ ?_ p4
  · rw [g34 277 (by omega), q1, ef]
  · rw [g34 278 (by omega), q2, es]
  · rw [k4.2.1 33 0 30 (fun q => absurd q.2.2.2 (by decide)), q4, el]
  · rw [g34 272 (by omega)]
    exact e2723
theorem h_againV {dd r nd : Nat} {less o more : Int32} (hdd : dd < 5) (E : evG e) (h44 : gI s 44 0 dd = nI e.2.2.2.1) (L : reL e (gI s 48 0 277) (gI s 48 0 278) s) (hr : r ≤ 3) (hnd : nd ≤ 30) (h46 : gI s 46 0 r = nI nd) (hw : ∀ k, k < nd → 0 ≤ (gI s 47 0 (30 * r + k)).toInt ∧ (gI s 47 0 (30 * r + k)).toInt ≤ 99) (G : Gd 0 0 0 e.2.2.2.1 (agF less o more (tX (fun r w => gI s 45 0 (100 * dd + 5 * r + w))))) (h : ∀ m, rF s m → gI m 48 0 277 = gI s 48 0 277 → gI m 48 0 278 = gI s 48 0 278 → gL m 33 0 30 = gL s 33 0 30 → gI m 48 0 272 = nI e.2.2.2.1 → psR e m (rnD e (fun k => gI s 47 0 (30 * r + k)) (agF less o more (tX (fun r w => gI s 45 0 (100 * dd + 5 * r + w))), (0, ((fun _ => 0), gL s 33 0 30))) nd) → Q none m) : qC false (d + 10) 287 [lR 33 (some 0), lI (nI dd), lI (nI r), lI less, lI o, lI more] s Q := by
  have hn := E.2.2.2.2
  have main : ∀ bc bs, qC false (d + 9) 245 [lR 33 (some 0), lI (nI dd)] s (fun rr m1 => rr = none ∧ qW false (d + 9) 287 bc bs 8 [some (lR 33 (some 0)), some (lI (nI dd)), some (lI (nI r)), some (lI less), some (lI o), some (lI more), some (lI 0), none] [] m1 Q) := fun bc bs => by
    refine h_layOutL (d := d + 8) hdd fun m1 K1 => ⟨rfl, ?_⟩
    obtain ⟨⟨k1, k2, k3⟩, kL⟩ := K1
    have e272 : gI m1 48 0 272 = nI e.2.2.2.1 := k2.trans h44
    have X1 : ∀ q r, 1 ≤ q ∧ q ≤ 5 → r < e.2.2.2.1 → vR m1 q r = tX (fun r w => gI s 45 0 (100 * dd + 5 * r + w)) q r := fun q r hq hr => by
      have e1 : ro q r = 160 + (5 * r + (q - 1)) := by
        have : ro q r = 160 + 5 * r + (q - 1) := if_neg (by omega)
        omega
      unfold vR tX
      rw [if_neg (by omega), if_pos hq.2, e1, k3 _ (by omega)]
      show gI s 45 0 _ = gI s 45 0 _
      rw [show 100 * dd + (5 * r + (q - 1)) = 100 * dd + 5 * r + (q - 1) by omega]
    refine agv_l (s := m1) hn e272 (fun m2 o6 o7 k2' x2 => ?_) e.2.2.2.1 0 m1 none (Nat.zero_add _) k48_0 (fun f r _ _ => by rw [if_neg (Nat.not_lt_zero r)])
    have n25 : ∀ j, 260 ≤ j → ¬ fA [2, 5] e.2.2.2.1 j := fun j hj q => by
      have := fA_lt hn (fun f hf => by
        simp only [List.mem_cons, List.not_mem_nil, or_false] at hf
        omega) q
      omega
    have g12 : ∀ j, 260 ≤ j → gI m2 48 0 j = gI m1 48 0 j := fun j hj => k2'.1 48 0 j (fun q => n25 j hj q.2.2)
    have f2 : rF s m2 := rF_tr (rF_G k1) (rF_R (kR_48 k2'))
    have e277 : gI m2 48 0 277 = gI s 48 0 277 := by rw [g12 277 (by decide), k1.1 48 0 277 (fun q => by omega)]
    have e278 : gI m2 48 0 278 = gI s 48 0 278 := by rw [g12 278 (by decide), k1.1 48 0 278 (fun q => by omega)]
    have e2722 : gI m2 48 0 272 = nI e.2.2.2.1 := by rw [g12 272 (by decide)]; exact e272
    have X2 : ∀ q r, 1 ≤ q ∧ q ≤ 5 → r < e.2.2.2.1 → vR m2 q r = agF less o more (tX (fun r w => gI s 45 0 (100 * dd + 5 * r + w))) q r := fun q r hq hr => by
      rw [x2 q r (by omega) hr]
      unfold agF
      rw [X1 2 r (by decide) hr, X1 5 r (by decide) hr, X1 4 r (by decide) hr, X1 q r hq hr]
    have seed2 : gL m2 33 0 30 = gL s 33 0 30 := by
      rw [k2'.2.1]
      exact kL 33 0 30
    have run : ∀ f sl l, f = gI s 48 0 277 → sl = gI s 48 0 278 → l = gL s 33 0 30 → qC false (d + 9) 244 [lR 33 (some 0), lI f, lI sl, lL l] m2 (fun rr m3 => rr = none ∧ qC false (d + 9) 254 [lR 33 (some 0), lI (nI r)] m3 (fun rr m4 => rr = none ∧ Q none m4)) := fun f sl l ef es el => ag_run E L hr hnd h46 hw G (fun q r hq => if_neg (by omega)) f2 e2722 X2 h f sl l ef es el
    refine qa_t1_W (cut := []) 40 ?_
    exact And.intro (x_vc (by decide) (by decide)) (And.intro (x_vc (by decide) (by decide)) (run _ _ _ e277 e278 seed2))
  refine qC_of rfl rfl ?_
  refine qa_t1_W (cut := [8]) 20 ?_
  exact main _ _
/-- sums -/
def smZ (g : Nat → Int32) : Nat → Int32
  | 0 => 0
  | k + 1 => smZ g k + g k
theorem smZ_c {g h : Nat → Int32} : ∀ k, (∀ j, j < k → g j = h j) → smZ g k = smZ h k
  | 0, _ => rfl
  | k + 1, H => by
    show smZ g k + g k = smZ h k + h k
    rw [smZ_c k (fun j hj => H j (by omega)), H k (by omega)]
theorem so_l {bc bs a b : Nat} (hab : a + b ≤ 279) (h : Q (some (lI (smZ (fun k => gI s 48 0 (a + k)) b))) s) : ∀ j k, k + j = b → qW false d 258 bc bs 5 [some (lR 33 (some 0)), some (lI (nI a)), some (lI (nI b)), some (lI (smZ (fun k => gI s 48 0 (a + k)) k)), some (lI (nI (a + k)))] [] s Q := by
  intro j
  induction j with
  | zero =>
    intro k hk
    have hk : k = b := hk
    subst hk
    have hlt : ¬ nI (a + k) < nI a + nI k := by
      rw [nI_add]
      exact nI_nlt (Nat.le_refl _) (by omega)
    refine qa_t1_W (cut := [5]) 20 ?_
    exact And.intro (fun c => absurd c hlt) (fun _ => h)
  | succ j ih =>
    intro k hk
    have hlt : nI (a + k) < nI a + nI b := by
      rw [nI_add]
      exact nI_lt (by omega) (by omega)
    have hv : qa_vin (nI (a + k)) 279 := nI_in (by omega) (by decide)
    have go : qW false d 258 bc bs 5 [some (lR 33 (some 0)), some (lI (nI a)), some (lI (nI b)), some (lI (smZ (fun k => gI s 48 0 (a + k)) k + gI s 48 0 (nI (a + k)).toNatClampNeg)), some (lI (nI (a + k) + 1))] [] s Q := by
      rw [nI_clamp (by omega), nI_1]
      exact ih (k + 1) (by omega)
    refine qa_t1_W (cut := [5]) 30 ?_
    exact And.intro (fun _ => And.intro hv go) (fun c => absurd hlt c)
theorem h_sumOfV (a b : Nat) (hab : a + b ≤ 279) (h : Q (some (lI (smZ (fun k => gI s 48 0 (a + k)) b))) s) : qC false (d + 1) 258 [lR 33 (some 0), lI (nI a), lI (nI b)] s Q := by
  have main : ∀ bc bs, qW false d 258 bc bs 5 [some (lR 33 (some 0)), some (lI (nI a)), some (lI (nI b)), some (lI 0), some (lI (nI a))] [] s Q := fun bc bs => so_l hab h b 0 (Nat.zero_add _)
  refine qC_of rfl rfl ?_
  refine qa_t1_W (cut := [5]) 20 ?_
  exact main _ _
end AH
