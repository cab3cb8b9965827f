/-! A ROUND of the reference, whole; what else a DAY does there. -/
/-- what the reference's day rests on -/
def reH (e : EV) (s : LMem) : Prop := (gI s 48 0 272 = nI e.2.2.2.1 ∧ gI s 33 0 23 = e.1 ∧ gI s 33 0 24 = e.2.1 ∧ gI s 33 0 25 = e.2.2.1 ∧ gI s 33 0 37 = -1) ∧ (∃ nl : Nat, gI s 48 0 277 = nI nl ∧ nl < 6 ∧ lcn nl s e.2.2.2.2.1 ∧ (flC e.2.2.2.2.1).length ≤ 200 ∧ e.2.2.2.2.1.length ≤ 60 ∧ lwR e.2.2.2.2.1) ∧ ((e.2.2.2.2.2 = none ∧ gI s 48 0 278 = -1) ∨ ∃ c2, ∃ n2 : Nat, e.2.2.2.2.2 = some c2 ∧ gI s 48 0 278 = nI n2 ∧ n2 < 6 ∧ lcn n2 s c2 ∧ (flC c2).length ≤ 200 ∧ c2.length ≤ 60 ∧ lwR c2)
theorem reH_k {A : Nat → Prop} {b : Prop} {e : EV} {s m : LMem} (h : kR A b s m) (a1 : ¬ A 272) (a2 : ¬ A 277) (a3 : ¬ A 278) (R : reH e s) : reH e m := by
  have g33 : ∀ j, gI m 33 0 j = gI s 33 0 j := fun j => h.1 33 0 j (by decide) (fun q => absurd q.1 (by decide))
  obtain ⟨⟨r1, r2, r3, r4, r5⟩, ⟨nl, r6, r7, r8, r9, r10, r11⟩, r12⟩ := R
  refine ⟨⟨?_, (g33 23).trans r2, (g33 24).trans r3, (g33 25).trans r4, (g33 37).trans r5⟩, ⟨nl, ?_, r7, lcn_M (fun k j g => h.1 k 0 j (by omega) (fun q => by omega)) r9 r10 r8, r9, r10, r11⟩, ?_⟩
  · rw [h.1 48 0 272 (by decide) (fun q => a1 q.2.2)]
    exact r1
  · rw [h.1 48 0 277 (by decide) (fun q => a2 q.2.2)]
    exact r6
  · rw [h.1 48 0 278 (by decide) (fun q => a3 q.2.2)]
    rcases r12 with q | ⟨c2, n2, q1, q2, q3, q4, q5, q6, q7⟩
    · exact Or.inl q
    · exact Or.inr ⟨c2, n2, q1, q2, q3, lcn_M (fun k j g => h.1 k 0 j (by omega) (fun q => by omega)) q5 q6 q4, q5, q6, q7⟩
theorem fA_lt {fs : List Nat} {n j : Nat} (hn : n ≤ 20) (hf : ∀ f, f ∈ fs → 1 ≤ f ∧ f ≤ 13) (h : fA fs n j) : j < 260 := by
  obtain ⟨g, hg, r, hr, e⟩ := h
  rw [e]
  exact ro_260 (hf g hg) (by omega)
/-- places that a round writes -/
def roA (n j : Nat) : Prop := fA [6, 7, 9, 10] n j ∨ j = 274 ∨ j = 275 ∨ j = 276
theorem roA_no {n j : Nat} (hn : n ≤ 20) (hj : j = 272 ∨ j = 277 ∨ j = 278 ∨ (260 ≤ j ∧ j < 272)) : ¬ roA n j := fun q => by
  rcases q with q | q
  · have := fA_lt hn (fun f hf => by
      simp only [List.mem_cons, List.not_mem_nil, or_false] at hf
      omega) q
    omega
  · omega
theorem fA_up {fs gs : List Nat} {n j : Nat} (h : ∀ f, f ∈ fs → f ∈ gs) (q : fA fs n j) : fA gs n j := by
  obtain ⟨g, hg, r, hr, e⟩ := q
  exact ⟨g, h g hg, r, hr, e⟩
section RO
variable {d : Nat} {s : LMem} {Q : LPost} {rain : Int32} {e : EV} {B M K : Int}
theorem h_roundP {S : (Nat → Nat → Int32) × Int32} (E : evG e) (R : reH e s) (hq : 0 ≤ rain.toInt ∧ rain.toInt ≤ 99) (hX : eqn e.2.2.2.1 (vR s) S.1) (hS : gI s 48 0 276 = S.2) (G : Gd B M K e.2.2.2.1 S.1) (hB : B ≤ 60000) (hM : M ≤ 9000) (hK : K ≤ 30) (h : ∀ m, kR (roA e.2.2.2.1) False s m → eqn e.2.2.2.1 (vR m) (rdF e rain S).1 → gI m 48 0 276 = (rdF e rain S).2 → Q none m) : qC false (d + 7) 250 [lR 33 (some 0), lI rain] s Q := by
  obtain ⟨ht, _, _, hn1, hn⟩ := E
  obtain ⟨⟨r1, r2, r3, r4, r5⟩, ⟨nl, r6, r7, r8, r9, r10, r11⟩, _⟩ := R
  have G' : Gd B M K e.2.2.2.1 (vR s) := Gd_c (eqn_sy hX) G
  have hw : ∀ q, q < e.2.2.2.1 → 0 < vR s 3 q := fun q hq2 => i0_lt.mpr (by
    have := (G'.1 q hq2).1.2.1
    omega)
  have v272 : qa_vin (272 : Int32) 279 := vin_of (x := 272) (n := 279) (by decide) (by decide) (by decide)
  have main : ∀ bc bs v, v = nI e.2.2.2.1 → qW false (d + 6) 250 bc bs 11 [some (lR 33 (some 0)), some (lI rain), some (lI v), some (lI 0), none, none, none, none] [] s Q := fun bc bs v ev => by
    rw [ev]
    refine rf_l (d := d) (s := s) (nl := nl) (cs := e.2.2.2.2.1) hn r1 r6 hw r7 r8 r9 r10 r11 (fun m1 o4 o5 o6 o7 k1 x1 => ?_) e.2.2.2.1 0 s none none none none (Nat.zero_add _) k4w_0 (fun f r _ _ => by rw [if_neg (Nat.not_lt_zero r)])
    rw [r2] at x1
    refine qa_t1_W (cut := [128]) 10 ?_
    refine rw_l (s := m1) hn (fun m2 k2 x2 => ?_) e.2.2.2.1 0 m1 (Nat.zero_add _) k48_0 (fun f r _ _ => by rw [if_neg (Nat.not_lt_zero r)])
    refine rt_179 (d := d + 4) (s := m2) hn hn1 (fun m3 k3 x3 c3 => ?_)
    have E1 : eqn e.2.2.2.1 (vR m1) (p2F e.1 e.2.2.2.1 e.2.2.2.2.1 rain S.1) := eqn_tr x1 (eqn_tr (p2_e G' hB hM hK ht hq) (p2_c hX))
    have E2 : eqn e.2.2.2.1 (vR m2) (p3F (p2F e.1 e.2.2.2.1 e.2.2.2.2.1 rain S.1)) := eqn_tr x2 (p3_c E1)
    have E3 : eqn e.2.2.2.1 (vR m3) (p4F (p3F (p2F e.1 e.2.2.2.1 e.2.2.2.2.1 rain S.1))) := eqn_tr x3 (p4_c E2)
    have n1 : ¬ fA [10] e.2.2.2.1 276 := fun q => by
      have := fA_lt hn (fun f hf => by
        rw [List.mem_singleton.mp hf]
        decide) q
      omega
    have n2 : ¬ fA [6] e.2.2.2.1 276 := fun q => by
      have := fA_lt hn (fun f hf => by
        rw [List.mem_singleton.mp hf]
        decide) q
      omega
    have c2 : gI m2 48 0 276 = S.2 := by
      rw [(kR_48 k2).1 48 0 276 (by decide) (fun q => n2 q.2.2), (kR_4w k1).1 48 0 276 (by decide) (fun q => n1 q.2.2)]
      exact hS
    refine h m3 ?_ E3 ?_
    · refine kR_tr (kR_tr (kR_4w k1) (kR_48 k2) (B := roA e.2.2.2.1) (c := False) (fun j q => Or.inl (fA_up (fun f hf => ?_) q)) (fun j q => Or.inl (fA_up (fun f hf => ?_) q)) (fun q => q) (fun q => q)) k3 (fun _ q => q) (fun j q => ?_) (fun q => q) (fun q => q)
      · rw [List.mem_singleton.mp hf]
        decide
      · rw [List.mem_singleton.mp hf]
        decide
      · rcases q with q | q
        · refine Or.inl (fA_up (fun f hf => ?_) q)
          simp only [List.mem_cons, List.not_mem_nil, or_false] at hf
          rcases hf with rfl | rfl <;> decide
        · exact Or.inr q
    · rw [c3, c2]
      exact cuA_c E2 _ (Nat.le_refl _)
  refine qC_of rfl rfl ?_
  refine qa_t1_W (cut := [11]) 20 ?_
  exact And.intro v272 (main _ _ _ r1)
/-- four rounds -/
theorem do_r {bc bs : Nat} (E : evG e) (R : reH e s) (hq : 0 ≤ rain.toInt ∧ rain.toInt ≤ 99) (hB : B ≤ 60000) (hM : M ≤ 9000) (hK : K ≤ 30) : ∀ j k m S, k + j = 4 → kR (roA e.2.2.2.1) False s m → eqn e.2.2.2.1 (vR m) S.1 → gI m 48 0 276 = S.2 → Gd B M K e.2.2.2.1 S.1 → (∀ m', kR (roA e.2.2.2.1) False s m' → eqn e.2.2.2.1 (vR m') (rdN e rain j S).1 → gI m' 48 0 276 = (rdN e rain j S).2 → qW false (d + 7) 253 bc bs 84 [some (lR 33 (some 0)), some (lI rain), some (lI (nI e.2.2.2.1)), some (lI (nI 4))] [] m' Q) → qW false (d + 7) 253 bc bs 68 [some (lR 33 (some 0)), some (lI rain), some (lI (nI e.2.2.2.1)), some (lI (nI k))] [] m Q := by
  intro j
  induction j with
  | zero =>
    intro k m S hk hm hX hS G h
    have hk : k = 4 := hk
    subst hk
    have hlt : ¬ nI 4 < 4 := by decide
    refine qa_t1_W (cut := [68, 84]) 20 ?_
    exact And.intro (fun c => absurd c hlt) (fun _ => h m hm hX hS)
  | succ j ih =>
    intro k m S hk hm hX hS G h
    have hn := E.2.2.2.2
    have hlt : nI k < 4 := nI_lt (b := 4) (by omega) (by decide)
    have Rm : reH e m := reH_k hm (roA_no hn (by omega)) (roA_no hn (by omega)) (roA_no hn (by omega)) R
    have go : qC false (d + 7) 250 [lR 33 (some 0), lI rain] m (fun rr m2 => rr = none ∧ qW false (d + 7) 253 bc bs 68 [some (lR 33 (some 0)), some (lI rain), some (lI (nI e.2.2.2.1)), some (lI (nI k + 1))] [] m2 Q) := h_roundP (d := d) E Rm hq hX hS G hB hM hK fun m2 k2 x2 c2 => ⟨rfl, by
      rw [nI_1]
      exact ih (k + 1) m2 _ (by omega) (kR_tr hm k2 (fun _ q => q) (fun _ q => q) (fun q => q) (fun q => q)) x2 c2 (Gd_rd G hB hM) h⟩
    refine qa_t1_W (cut := [68, 84]) 30 ?_
    exact And.intro (fun _ => go) (fun c => absurd hlt c)
end RO
/-! SLIPS of the reference. -/
def p5R (tide : Int32) (n : Nat) (cs : List Cz) (rain : Int32) (D : Int64) (X : Nat → Nat → Int32) (f r : Nat) : Int32 := if f = 7 then (if drF (dS D (r + 1)) < wrV (fun i => ltX X r (abv tide n X r) rain i) cs then X 7 r + 5 else X 7 r) else if f = 11 then (if drF (dS D (r + 1)) < wrV (fun i => ltX X r (abv tide n X r) rain i) cs then X 11 r + 1 else X 11 r) else X f r
theorem p5_e {B M K : Int} {n : Nat} {X : Nat → Nat → Int32} {tide rain : Int32} {cs : List Cz} {D : Int64} (G : Gd B M K n X) (hB : B ≤ 60000) (hM : M ≤ 9000) (hK : K ≤ 30) (ht : 0 ≤ tide.toInt ∧ tide.toInt ≤ 99) (hq : 0 ≤ rain.toInt ∧ rain.toInt ≤ 99) : eqn n (p5R tide n cs rain D X) (p5F tide n cs rain D X) := fun f r _ hr => by
  unfold p5R p5F
  rw [L_id G hB hM hK ht hq hr]
section SR
variable {d n nl : Nat} {s : LMem} {Q : LPost} {cs : List Cz} {rain : Int32}
theorem h_drawR (h : Q (some (lI (drF (lcg (gL s 33 0 29))))) (sL s 33 0 29 (lcg (gL s 33 0 29)))) : qC false (d + 1) 252 [lR 33 (some 0)] s Q := by
  have e : gL (sL s 33 0 29 (lcg (gL s 33 0 29))) 33 0 29 = lcg (gL s 33 0 29) := by rw [gL_sL, if_pos ⟨rfl, rfl, rfl⟩]
  have h : Q (some (lI (drF (gL (sL s 33 0 29 (lcg (gL s 33 0 29))) 33 0 29)))) (sL s 33 0 29 (lcg (gL s 33 0 29))) := by
    rw [e]
    exact h
  refine qC_of rfl rfl ?_
  refine qa_t1_W (cut := []) 30 ?_
  exact And.intro (by decide) h
theorem kR_L {A : Nat → Prop} {b : Prop} {v : Int64} {s m : LMem} (hb : b) (h : kR A b s m) : kR A b s (sL m 33 0 29 v) := ⟨h.1, fun k i j g => by
  rw [gL_sL, if_neg (fun q => g ⟨hb, q⟩)]
  exact h.2.1 k i j g, h.2.2⟩
theorem sp_121 {bc bs k : Nat} {dr v : Int32} {m : LMem} (hk : k < 20) (h1 : dr < v → ∀ m7, m7 = sI m 48 0 (ro 7 k) (gI m 48 0 (ro 7 k) + 5) → qW false d 253 bc bs 86 [some (lR 33 (some 0)), some (lI rain), some (lI (nI n)), some (lI (nI (k + 1)))] [] (sI m7 48 0 (ro 11 k) (gI m7 48 0 (ro 11 k) + 1)) Q) (h0 : ¬ dr < v → qW false d 253 bc bs 86 [some (lR 33 (some 0)), some (lI rain), some (lI (nI n)), some (lI (nI (k + 1)))] [] m Q) : qW false d 253 bc bs 121 [some (lR 33 (some 0)), some (lI rain), some (lI (nI n)), some (lI (nI k))] [lI v, lI dr] m Q := by
  obtain ⟨i7, e7⟩ := fxi (r := k) 7 20 hk (by decide) rfl
  obtain ⟨i11, e11⟩ := fxi (r := k) 11 100 hk (by decide) rfl
  have g1 : dr < v → ∀ m7, m7 = sI m 48 0 ((20 : Int32) + nI k).toNatClampNeg (gI m 48 0 ((20 : Int32) + nI k).toNatClampNeg + 5) → qW false d 253 bc bs 86 [some (lR 33 (some 0)), some (lI rain), some (lI (nI n)), some (lI (nI k + 1))] [] (sI m7 48 0 ((100 : Int32) + nI k).toNatClampNeg (gI m7 48 0 ((100 : Int32) + nI k).toNatClampNeg + 1)) Q := fun c m7 em => by
    rw [e11, nI_1]
    rw [e7] at em
    exact h1 c m7 em
  have g0 : ¬ dr < v → qW false d 253 bc bs 86 [some (lR 33 (some 0)), some (lI rain), some (lI (nI n)), some (lI (nI k + 1))] [] m Q := fun c => by
    rw [nI_1]
    exact h0 c
  refine qa_t1_W (cut := [86]) 40 ?_
  refine And.intro (fun c => ?_) (fun c => g0 c)
  exact And.intro i7 (And.intro i7 (And.intro i11 (And.intro i11 (g1 c _ rfl))))
theorem sp_l {bc bs : Nat} {D : Int64} (hn : n ≤ 20) (hmn : gI s 48 0 272 = nI n) (hlw : gI s 48 0 278 = nI nl) (hw : ∀ q, q < n → 0 < vR s 3 q) (hnl : nl < 6) (hc : lcn nl s cs) (h1 : (flC cs).length ≤ 200) (h2 : cs.length ≤ 60) (hwr : lwR cs) (h : ∀ m, kR (fA [7, 11] n) True s m → (∀ f r, 1 ≤ f ∧ f ≤ 14 → r < n → vR m f r = p5R (gI s 33 0 23) n cs rain D (vR s) f r) → gL m 33 0 29 = dS D n → qW false (d + 6) 253 bc bs 156 [some (lR 33 (some 0)), some (lI rain), some (lI (nI n)), some (lI (nI n))] [] m Q) : ∀ j k m, k + j = n → kR (fA [7, 11] n) True s m → rwR (p5R (gI s 33 0 23) n cs rain D) n k s m → gL m 33 0 29 = dS D k → qW false (d + 6) 253 bc bs 86 [some (lR 33 (some 0)), some (lI rain), some (lI (nI n)), some (lI (nI k))] [] m Q := by
  intro j
  induction j with
  | zero =>
    intro k m hk hm hI hD
    have hk : k = n := hk
    subst hk
    refine qa_t1_W (cut := [86, 156]) 20 ?_
    refine And.intro (fun c => absurd c (nI_nlt (Nat.le_refl _) (by omega))) (fun _ => ?_)
    exact h m hm (fun f r hf hr => by rw [hI f r hf hr, if_pos hr]) hD
  | succ j ih =>
    intro k m hk hm hI hD
    have hkn : k < n := by omega
    have hk20 : k < 20 := by omega
    have nj : ∀ j : Nat, 260 ≤ j → ¬ fA [7, 11] n j := fun j hj q => by
      have := fA_lt hn (fun f hf => by
        simp only [List.mem_cons, List.not_mem_nil, or_false] at hf
        omega) q
      omega
    have e272 : gI m 48 0 272 = nI n := (hm.1 48 0 272 (by decide) (fun q => nj 272 (by decide) q.2.2)).trans hmn
    have e278 : gI m 48 0 278 = nI nl := (hm.1 48 0 278 (by decide) (fun q => nj 278 (by decide) q.2.2)).trans hlw
    have e23 : gI m 33 0 23 = gI s 33 0 23 := hm.1 33 0 23 (by decide) (fun q => absurd q.1 (by decide))
    have own : ∀ f, 1 ≤ f ∧ f ≤ 14 → vR m f k = vR s f k := fun f hf => by rw [hI f k hf hkn, if_neg (Nat.lt_irrefl k)]
    have hwm : ∀ q, q < n → 0 < vR m 3 q := fun q hq => by
      rw [hI 3 q (by decide) hq]
      by_cases g : q < k
      · rw [if_pos g]
        unfold p5R
        rw [if_neg (by decide), if_neg (by decide)]
        exact hw q hq
      · rw [if_neg g]
        exact hw q hq
    have ea : abv (gI m 33 0 23) n (vR m) k = abv (gI s 33 0 23) n (vR s) k := by
      rw [e23]
      refine abv_e2 (fun f q hf hq => ?_)
      rcases hq with rfl | ⟨rfl, g⟩
      · exact own f (by omega)
      · rw [hI f (k + 1) (by omega) g, if_neg (by omega)]
    have eL : (fun i => ltX (vR m) k (abv (gI s 33 0 23) n (vR s) k) rain i) = (fun i => ltX (vR s) k (abv (gI s 33 0 23) n (vR s) k) rain i) := funext fun i => by
      unfold ltX
      rw [own 3 (by decide), own 6 (by decide), own 8 (by decide), own 7 (by decide), own 1 (by decide), own 11 (by decide)]
    have eD : lcg (gL m 33 0 29) = dS D (k + 1) := by rw [hD]; rfl
    -- the state behind the draw
    have drawn : ∀ md, md = sL m 33 0 29 (lcg (gL m 33 0 29)) → qC false (d + 6) 249 [lR 33 (some 0), lI (gI md 48 0 (278 : Int32).toNatClampNeg), lI (nI k), lI rain] md (fun rr m' => ∃ v, rr = some (lI v) ∧ qW false (d + 6) 253 bc bs 121 [some (lR 33 (some 0)), some (lI rain), some (lI (nI n)), some (lI (nI k))] [lI v, lI (drF (lcg (gL m 33 0 29)))] m' Q) := fun md em => by
      have kd : kR (fA [7, 11] n) True s md := by
        rw [em]
        exact kR_L trivial hm
      have gD : gL md 33 0 29 = dS D (k + 1) := by
        rw [em, gL_sL, if_pos ⟨rfl, rfl, rfl⟩, eD]
      have vd : ∀ f r, vR md f r = vR m f r := fun f r => by rw [em]; rfl
      have gI_d : ∀ k i j, gI md k i j = gI m k i j := fun k i j => by rw [em]; rfl
      have ed : gI md 48 0 (278 : Int32).toNatClampNeg = nI nl := by
        rw [gI_d]
        exact e278
      rw [ed]
      refine h_askedV (d := d) (cs := cs) hn hkn ((gI_d 48 0 272).trans e272) (fun q hq => by rw [vd]; exact hwm q hq) hnl (lcn_M (fun k j g => kd.1 k 0 j (by omega) (fun q => by omega)) h1 h2 hc) h1 h2 hwr fun m' hm' => Exists.intro _ (And.intro rfl ?_)
      have eV : wrV (fun i => ltX (vR md) k (abv (gI md 33 0 23) n (vR md) k) rain i) cs = wrV (fun i => ltX (vR s) k (abv (gI s 33 0 23) n (vR s) k) rain i) cs := by
        have e1 : vR md = vR m := funext fun f => funext fun r => vd f r
        rw [e1, gI_d, ea, eL]
      rw [eV, eD]
      have km : kR (fA [7, 11] n) True s m' := kR_tr kd (kR_lk (A := fA [7, 11] n) (b := True) hm') (fun _ q => q) (fun _ q => q) (fun q => q) (fun q => q)
      have vm : ∀ f r, vR m' f r = vR m f r := fun f r => (vR_lk hm' f r).trans (vd f r)
      have gm : gL m' 33 0 29 = dS D (k + 1) := (hm'.2.1 33 0 29).trans gD
      refine sp_121 hk20 (fun c m7 e7 => ?_) (fun c => ?_)
      · have k7 : kR (fA [7, 11] n) True s m7 := by
          rw [e7]
          exact kR_s ⟨7, by decide, k, hkn, rfl⟩ km
        have b7 : gI m' 48 0 (ro 7 k) = vR s 7 k := (vm 7 k).trans (own 7 (by decide))
        have v7 : ∀ f r, 1 ≤ f ∧ f ≤ 14 → r < n → vR m7 f r = if f = 7 ∧ r = k then vR s 7 k + 5 else vR m f r := fun f r hf hr => by
          rw [e7, vR_s (by decide) hf (by omega) hk20, b7, vm]
        have b11 : gI m7 48 0 (ro 11 k) = vR s 11 k := by
          have a := v7 11 k (by decide) hkn
          rw [if_neg (fun q => absurd q.1 (by decide)), own 11 (by decide)] at a
          exact a
        refine ih (k + 1) _ (by omega) (kR_s ⟨11, by decide, k, hkn, rfl⟩ k7) (fun f r hf hr => ?_) ?_
        · rw [vR_s (by decide) hf (by omega) hk20, b11, v7 f r hf hr]
          by_cases g : r = k
          · subst g
            rw [if_pos (Nat.lt_succ_self r)]
            unfold p5R
            by_cases f11 : f = 11
            · rw [if_pos ⟨f11, rfl⟩, if_neg (by omega), if_pos f11, if_pos c]
            · rw [if_neg (fun q => f11 q.1)]
              by_cases f7 : f = 7
              · rw [if_pos ⟨f7, rfl⟩, if_pos f7, if_pos c]
              · rw [if_neg (fun q => f7 q.1), if_neg f7, if_neg f11, own f hf]
          · rw [if_neg (fun q => g q.2), if_neg (fun q => g q.2), hI f r hf hr]
            by_cases g2 : r < k
            · rw [if_pos g2, if_pos (by omega)]
            · rw [if_neg g2, if_neg (by omega)]
        · show gL m7 33 0 29 = _
          rw [e7]
          exact gm
      · refine ih (k + 1) m' (by omega) km (fun f r hf hr => ?_) gm
        rw [vm, hI f r hf hr]
        by_cases g : r = k
        · subst g
          rw [if_neg (Nat.lt_irrefl r), if_pos (Nat.lt_succ_self r)]
          unfold p5R
          by_cases f7 : f = 7
          · rw [if_pos f7, if_neg c, f7]
          · rw [if_neg f7]
            by_cases f11 : f = 11
            · rw [if_pos f11, if_neg c, f11]
            · rw [if_neg f11]
        · by_cases g2 : r < k
          · rw [if_pos g2, if_pos (by omega)]
          · rw [if_neg g2, if_neg (by omega)]
    have v278 : qa_vin (278 : Int32) 279 := vin_of (x := 278) (n := 279) (by decide) (by decide) (by decide)
    refine qa_t1_W (cut := [86, 121, 156]) 60 ?_
    refine And.intro (fun _ => ?_) (fun c => absurd (nI_lt (by omega) (by omega)) c)
    refine And.intro v278 ?_
    refine And.intro (fun c => ?_) (fun _ => ?_)
    · have c : gI m 48 0 (278 : Int32).toNatClampNeg = -1 := c
      have c : gI m 48 0 278 = -1 := c
      rw [e278] at c
      exact absurd c (nI_ne1 (by omega))
    · refine h_drawR (d := d + 5) (Exists.intro _ (And.intro rfl ?_))
      exact And.intro v278 (drawn _ rfl)
end SR
