/-! WHAT BOTH SIDES WORK WITH, from what holds between calls. -/
theorem clC_len (L0 : List Ck) (t u : List Tk) : (clC L0 t u).length ≤ L0.length + (t.length + u.length) + 2 := by
  unfold clC
  by_cases e : t = []
  · rw [if_pos e]
    simp only [List.length_append, List.length_map, List.length_cons, List.length_nil]
    omega
  · rw [if_neg e]
    simp only [List.length_append, List.length_map, List.length_cons, List.length_nil]
    omega
theorem cls_len : ∀ (cs : List Cz) (L0 : List Ck), (cs.foldl (fun L x => clC L x.1 x.2) L0).length ≤ L0.length + (flC cs).length + 2 * cs.length
  | [], _ => Nat.le_refl _
  | x :: r, L0 => by
    have i := cls_len r (clC L0 x.1 x.2)
    have j := clC_len L0 x.1 x.2
    show (r.foldl (fun L x => clC L x.1 x.2) (clC L0 x.1 x.2)).length ≤ L0.length + (x.1 ++ (x.2 ++ flC r)).length + 2 * (r.length + 1)
    rw [List.length_append, List.length_append]
    omega
/-- a registered law, on both sides -/
theorem law_of {s : LMem} {n : Nat} (hJ : zV s) (hn : (n : Int) < (gI s 33 0 13).toInt) : n < 6 ∧ ∃ cs, lcn n s cs ∧ (flC cs).length ≤ 200 ∧ cs.length ≤ 60 ∧ cC n s (clsC cs) ∧ (clsC cs).length ≤ 200 ∧ lwR cs := by
  have J := hJ.1.1.1.1.1
  have b : (gI s 33 0 13).toInt ≤ 6 := (J.1 33 0 13 (13, 13, 0, 6) (by decide) (by decide) (by decide)).2
  obtain ⟨D, hD2, hD⟩ := y_nIof2 (N := 6) (x := gI s 33 0 13) (by omega) b
  have tD : (gI s 33 0 13).toInt = D := by rw [hD, nI_toInt (by omega)]
  have cD : (gI s 33 0 13).toNatClampNeg = D := by rw [hD, nI_clamp (by omega)]
  obtain ⟨cs, a1, a2, a3, a4, a5⟩ := hJ.1.2 n (by omega)
  have l := cls_len cs []
  have l : (clsC cs).length ≤ 0 + (flC cs).length + 2 * cs.length := l
  have b8 : (gI s 8 n 2).toInt ≤ 200 := (J.1 8 n 2 (2, 2, 0, 200) (by decide) (by decide) (by decide)).2
  rw [a4.1, nI_toInt (by omega)] at b8
  exact ⟨by omega, cs, a1, a2, a3, a4, by omega, a5⟩
/-- the weather, on both sides -/
theorem wea_of {s : LMem} (hJ : zV s) : (gI s 16 0 0 = gI s 33 0 23 ∧ gI s 16 0 1 = gI s 33 0 24 ∧ gI s 16 0 2 = gI s 33 0 25) ∧ gI s 33 0 37 = -1 ∧ RBw s := ⟨⟨hJ.1.1.2.1 0 (by decide), hJ.1.1.2.1 1 (by decide), hJ.1.1.2.1 2 (by decide)⟩, hJ.1.1.2.2.1, hJ.2.2.2⟩
/-- what a row is told, within bounds -/
def tbG (T : Nat → Int32) : Prop := (0 ≤ (T 0).toInt ∧ (T 0).toInt ≤ 2) ∧ (0 ≤ (T 1).toInt ∧ (T 1).toInt ≤ 99) ∧ (1 ≤ (T 2).toInt ∧ (T 2).toInt ≤ 9) ∧ (∃ o : Nat, o < 6 ∧ T 3 = nI o) ∧ 0 ≤ (T 4).toInt
/-- a rain, on both sides -/
def raH (s : LMem) (r nd : Nat) : Prop := r ≤ 3 ∧ nd ≤ 30 ∧ gI s 13 r 1 = nI nd ∧ gI s 46 0 r = nI nd ∧ ∀ k, k < nd → W5 s r k = V5 s r k ∧ 0 ≤ (V5 s r k).toInt ∧ (V5 s r k).toInt ≤ 99
/-- a ditch as told, on both sides -/
def diH (s : LMem) (dd n : Nat) : Prop := dd < 5 ∧ 2 ≤ n ∧ n ≤ 20 ∧ gI s 4 dd 1 = nI n ∧ gI s 44 0 dd = nI n ∧ ∀ q, q < n → (∀ w, w < 5 → T6 s dd q w = T5 s dd q w) ∧ tbG (T5 s dd q)
theorem rain_of {s : LMem} {r : Nat} (hJ : zV s) (hr : (r : Int) < (gI s 33 0 22).toInt) : ∃ nd, raH s r nd := by
  have J := hJ.1.1.1.1.1
  have b : (gI s 33 0 22).toInt ≤ 4 := (J.1 33 0 22 (22, 22, 0, 4) (by decide) (by decide) (by decide)).2
  obtain ⟨D, hD2, hD⟩ := y_nIof2 (N := 4) (x := gI s 33 0 22) (by omega) b
  have tD : (gI s 33 0 22).toInt = D := by rw [hD, nI_toInt (by omega)]
  have cD : (gI s 33 0 22).toNatClampNeg = D := by rw [hD, nI_clamp (by omega)]
  obtain ⟨c1, c2⟩ := hJ.1.1.1.2.2 r (by omega)
  have bb := J.1 46 0 r (0, 4, 0, 30) (by decide) (by show (0 : Int) ≤ (r : Int); omega) (by show (r : Int) ≤ 4; omega)
  obtain ⟨nd, hn, en⟩ := y_nIof2 (N := 30) (x := gI s 46 0 r) bb.1 bb.2
  refine ⟨nd, by omega, hn, c1.trans en, en, fun k hk => ?_⟩
  have lt : (k : Int) < (gI s 46 0 r).toInt := by
    rw [en, nI_toInt (by omega)]
    omega
  exact ⟨c2 k lt, hJ.2.2.1 r (by omega) k lt⟩
theorem ditch_of {s : LMem} {dd : Nat} (hJ : zV s) (hd : (dd : Int) < (gI s 33 0 21).toInt) : ∃ n, diH s dd n := by
  have J := hJ.1.1.1.1.1
  have b : (gI s 33 0 21).toInt ≤ 4 := (J.1 33 0 21 (21, 21, 0, 4) (by decide) (by decide) (by decide)).2
  obtain ⟨D, hD2, hD⟩ := y_nIof2 (N := 4) (x := gI s 33 0 21) (by omega) b
  have tD : (gI s 33 0 21).toInt = D := by rw [hD, nI_toInt (by omega)]
  have cD : (gI s 33 0 21).toNatClampNeg = D := by rw [hD, nI_clamp (by omega)]
  obtain ⟨c1, c2⟩ := hJ.1.1.1.2.1 dd (by omega)
  have bb := J.1 44 0 dd (0, 4, 0, 20) (by decide) (by show (0 : Int) ≤ (dd : Int); omega) (by show (dd : Int) ≤ 4; omega)
  obtain ⟨n, hn, en⟩ := y_nIof2 (N := 20) (x := gI s 44 0 dd) bb.1 bb.2
  have tn : (gI s 44 0 dd).toInt = n := by rw [en, nI_toInt (by omega)]
  have T := J.2.2.2.1 dd (by unfold xI; omega) (by omega)
  have T1 : (2 : Int) ≤ (gI s 44 0 dd).toInt := T.1
  refine ⟨n, by omega, by omega, hn, c1.trans en, en, fun q hq => ⟨fun w hw => (c2 q w (by omega) hw).1, ?_⟩⟩
  have lo : ∀ w, w < 5 → 0 ≤ (T5 s dd q w).toInt := fun w hw => (c2 q w (by omega) hw).2
  have hi : ∀ w, w < 5 → (T5 s dd q w).toInt ≤ hi2 w := fun w hw => hJ.2.1 dd (by omega) q w (by omega) hw
  have X := T.2.2 q (by unfold xI; omega) (by omega)
  have x2 : (1 : Int) ≤ (T5 s dd q 2).toInt := X.1.1
  have h0 : (T5 s dd q 0).toInt ≤ 2 := hi 0 (by decide)
  have h1 : (T5 s dd q 1).toInt ≤ 99 := hi 1 (by decide)
  have h2 : (T5 s dd q 2).toInt ≤ 9 := hi 2 (by decide)
  have h3 : (T5 s dd q 3).toInt ≤ 5 := hi 3 (by decide)
  obtain ⟨o, ho, eo⟩ := y_nIof2 (N := 5) (x := T5 s dd q 3) (lo 3 (by decide)) h3
  exact ⟨⟨lo 0 (by decide), h0⟩, ⟨lo 1 (by decide), h1⟩, ⟨x2, h2⟩, ⟨o, by omega, eo⟩, lo 4 (by decide)⟩
/-- what is dug, on both sides, with a number of rows -/
theorem dug_of {s : LMem} {n : Nat} (hJ : zV s) (hd : gI s 33 0 35 = 1) (h1 : 1 ≤ n) (h2 : n ≤ 20) : ∃ e : EV, e.2.2.2.1 = n ∧ evG e ∧ csL e (gR s 17 0 6) (gR s 17 0 7) s ∧ reL e (gI s 48 0 277) (gI s 48 0 278) s ∧ gL s 17 0 8 = gL s 33 0 30 := by
  have J := hJ.1.1.1.1.1
  obtain ⟨⟨t0, t1, t2⟩, cl, w1, w2, w3⟩ := wea_of hJ
  have DK0 := hJ.1.1.2.2.2.1
  rcases DK0 with ⟨q, _⟩ | ⟨_, _, _, _, ⟨f, f1, f2⟩, g, l⟩
  · rw [q] at hd
    exact absurd hd (by decide)
  · have X := J.2.2
    have l1 : 1 ≤ xI s 33 13 := X.2.2.2.2.2 (by
      unfold xI
      rw [hd]
      decide)
    have R := X.2.2.1.2.2 trivial
    have f6 : f ≤ 6 := J.2.1.2.1 0 f f1
    have fl : (f : Int) < (gI s 33 0 13).toInt := by
      have r := R.1
      have e : xI s 48 277 = f := by
        unfold xI
        rw [f2, nI_toInt (by omega)]
      have e2 : xI s 33 13 = (gI s 33 0 13).toInt := rfl
      omega
    obtain ⟨fl6, cs, a1, a2, a3, a4, a5, a6⟩ := law_of hJ fl
    rcases g with ⟨g1, g2⟩ | ⟨g, g1, g2⟩
    · refine ⟨(gI s 33 0 23, (gI s 33 0 24, (gI s 33 0 25, (n, (cs, none))))), rfl, ⟨w1, w2, w3, h1, h2⟩, ⟨⟨t0, t1, t2⟩, ⟨f, f1, a4, a5, a6⟩, Or.inl ⟨rfl, g2⟩⟩, ⟨⟨rfl, rfl, rfl, cl⟩, ⟨f, f2, fl6, a1, a2, a3, a6⟩, Or.inl ⟨rfl, g1⟩⟩, l⟩
    · have g6 : g ≤ 6 := J.2.1.2.2.1 0 g g1
      have gl : (g : Int) < (gI s 33 0 13).toInt := by
        have r := R.2
        have e : xI s 48 278 = g := by
          unfold xI
          rw [g2, nI_toInt (by omega)]
        have e2 : xI s 33 13 = (gI s 33 0 13).toInt := rfl
        omega
      obtain ⟨gl6, cs2, b1, b2, b3, b4, b5, b6⟩ := law_of hJ gl
      refine ⟨(gI s 33 0 23, (gI s 33 0 24, (gI s 33 0 25, (n, (cs, some cs2))))), rfl, ⟨w1, w2, w3, h1, h2⟩, ⟨⟨t0, t1, t2⟩, ⟨f, f1, a4, a5, a6⟩, Or.inr ⟨cs2, g, rfl, g1, b4, b5, b6⟩⟩, ⟨⟨rfl, rfl, rfl, cl⟩, ⟨f, f2, fl6, a1, a2, a3, a6⟩, Or.inr ⟨cs2, g, rfl, g2, gl6, b1, b2, b3, b6⟩⟩, l⟩
theorem form_of {s : LMem} {n nl : Nat} (hJ : zV s) (hl : (nl : Int) < (gI s 33 0 13).toInt) (h1 : 1 ≤ n) (h2 : n ≤ 20) : ∃ e : EV, e.2.2.2.1 = n ∧ evG e ∧ csL e (some nl) none s ∧ reL e (nI nl) (-1) s := by
  obtain ⟨⟨t0, t1, t2⟩, cl, w1, w2, w3⟩ := wea_of hJ
  obtain ⟨fl6, cs, a1, a2, a3, a4, a5, a6⟩ := law_of hJ hl
  exact ⟨(gI s 33 0 23, (gI s 33 0 24, (gI s 33 0 25, (n, (cs, none))))), rfl, ⟨w1, w2, w3, h1, h2⟩, ⟨⟨t0, t1, t2⟩, ⟨nl, rfl, a4, a5, a6⟩, Or.inl ⟨rfl, rfl⟩⟩, ⟨⟨rfl, rfl, rfl, cl⟩, ⟨nl, rfl, fl6, a1, a2, a3, a6⟩, Or.inl ⟨rfl, rfl⟩⟩⟩
/-! Pictures to begin with are within bounds. -/
theorem sm_0 : ∀ k, smI (fun _ => 0) k = 0
  | 0 => rfl
  | k + 1 => by
    show smI (fun _ => 0) k + 0 = 0
    rw [sm_0 k]
    rfl
theorem Gd_0 {n : Nat} {X : Nat → Nat → Int32} (h : ∀ r, r < n → stG X r) (z : ∀ f r, 6 ≤ f → X f r = 0) : Gd 0 0 0 n X := by
  have z0 : (0 : Int32).toInt = 0 := by decide
  refine ⟨fun r hr => ⟨h r hr, ?_, ?_, ?_, ?_, ?_⟩, ?_, ?_⟩
  · rw [z 6 r (by decide), z0]
    exact Int.le_refl _
  · rw [z 7 r (by decide), z0]
    exact Int.le_refl _
  · rw [z 9 r (by decide), z0]
    exact Int.le_refl _
  · rw [z 8 r (by decide), z0]
    decide
  · rw [z 11 r (by decide), z0]
    decide
  · rw [sm_cg (n := n) (h := fun _ => 0) (fun r _ => by rw [z 6 r (by decide), z0]) n (Nat.le_refl _), sm_0]
    exact Int.le_refl _
  · rw [sm_cg (n := n) (h := fun _ => 0) (fun r _ => by rw [z 7 r (by decide), z 9 r (by decide), z0]; rfl) n (Nat.le_refl _), sm_0]
    exact Int.le_refl _
theorem mx_b {z : Int32} : 0 ≤ (qa_max 0 z).toInt ∧ ((qa_max 0 z).toInt ≤ z.toInt ∨ (qa_max 0 z).toInt = 0) := by
  by_cases c : 0 < z
  · have c' := i0_lt.mp c
    rw [mx_1 c]
    exact ⟨by omega, Or.inl (Int.le_refl _)⟩
  · rw [mx_0 c]
    exact ⟨by decide, Or.inr (by decide)⟩
theorem mx_i {z : Int32} (h : 0 ≤ z.toInt) : qa_max 0 z = z := by
  by_cases c : 0 < z
  · exact mx_1 c
  · rw [mx_0 c]
    have c' : ¬ 0 < z.toInt := fun q => c (i0_lt.mpr q)
    refine Int32.toInt_inj.mp ?_
    rw [show (0 : Int32).toInt = 0 by decide]
    omega
theorem Gd_ag {n : Nat} {T : Nat → Nat → Int32} {less o more : Int32} (h : ∀ q, q < n → tbG (T q)) (hl : 0 ≤ less.toInt ∧ less.toInt ≤ 1000) : Gd 0 0 0 n (agF less o more (tX T)) := by
  refine Gd_0 (fun r hr => ?_) (fun f r hf => by rw [agF_o (by omega) (by omega)]; exact if_neg (by omega))
  obtain ⟨t0, t1, t2, t3, t4⟩ := h r hr
  have g : ∀ f, f ≠ 2 → f ≠ 5 → f ≤ 5 → agF less o more (tX T) f r = T r (f - 1) := fun f a b c => by
    rw [agF_o a b]
    exact if_pos c
  have g0 : ∀ f, 6 ≤ f → agF less o more (tX T) f r = 0 := fun f hf => by
    rw [agF_o (by omega) (by omega)]
    exact if_neg (by omega)
  refine ⟨?_, ?_, ?_, ?_, g0 13 (by decide), g0 14 (by decide)⟩
  · show 0 ≤ (qa_max 0 (T r 1 - less)).toInt ∧ (qa_max 0 (T r 1 - less)).toInt ≤ 200
    have e : (T r 1 - less).toInt = (T r 1).toInt - less.toInt := y_subI (by omega) (by omega)
    have b := mx_b (z := T r 1 - less)
    omega
  · rw [g 3 (by decide) (by decide) (by decide)]
    exact t2
  · rw [g 1 (by decide) (by decide) (by decide)]
    exact t0
  · rw [g 4 (by decide) (by decide) (by decide)]
    exact t3
theorem Gd_fm {n k : Nat} {soil width : Int32} (hn : n ≤ 20) (hk : k ≤ 9) (h1 : 0 ≤ soil.toInt ∧ soil.toInt ≤ 2) (h2 : 1 ≤ width.toInt ∧ width.toInt ≤ 9) : Gd 0 0 0 n (fmX n soil width (nI k)) := by
  refine Gd_0 (fun r hr => ⟨?_, h2, h1, ⟨0, by decide, rfl⟩, rfl, rfl⟩) (fun f r hf => ?_)
  · show 0 ≤ (nI k * nI (n - 1 - r)).toInt ∧ (nI k * nI (n - 1 - r)).toInt ≤ 200
    have a : k * (n - 1 - r) ≤ 9 * 19 := Nat.mul_le_mul hk (by omega)
    rw [nI_mul, nI_toInt (by omega)]
    omega
  · unfold fmX
    rw [if_neg (by omega), if_neg (by omega), if_neg (by omega), if_neg (by omega)]
/-! Both dig the same pictures. -/
theorem tX_c {n : Nat} {T U : Nat → Nat → Int32} (h : ∀ q, q < n → ∀ w, w < 5 → T q w = U q w) : eqn n (tX T) (tX U) := fun f r hf hr => by
  unfold tX
  by_cases c : f ≤ 5
  · rw [if_pos c, if_pos c, h r hr (f - 1) (by omega)]
  · rw [if_neg c, if_neg c]
theorem ag_sin {n : Nat} {T : Nat → Nat → Int32} {x y : Int32} (e : x = y) : eqn n (sinF x (tX T)) (agF y (-1) 0 (tX T)) := fun f r _ _ => by
  unfold sinF agF
  rw [e]
  by_cases f2 : f = 2
  · rw [if_pos f2, if_pos f2]
  rw [if_neg f2, if_neg f2]
  by_cases f5 : f = 5
  · rw [if_pos f5, if_pos f5]
    by_cases c : tX T 4 r = -1
    · rw [if_pos c, Int32.add_zero]
    · rw [if_neg c, Int32.add_zero]
  · rw [if_neg f5, if_neg f5]
theorem ag_rs {n : Nat} {T : Nat → Nat → Int32} {o v : Int32} (h : ∀ q, q < n → tbG (T q)) : eqn n (rsF o v (tX T)) (agF 0 o v (tX T)) := fun f r _ hr => by
  obtain ⟨t0, t1, t2, t3, t4⟩ := h r hr
  unfold rsF agF
  by_cases f2 : f = 2
  · have e2 : tX T 2 r = T r 1 := rfl
    rw [if_neg (by omega), if_pos f2, f2, Int32.sub_zero, e2, mx_i t1.1]
  rw [if_neg f2]
  by_cases f5 : f = 5
  · have e5 : tX T 5 r = T r 4 := rfl
    rw [if_pos f5, if_pos f5, Int32.sub_zero, e5, mx_i t4]
    by_cases c : tX T 4 r = o
    · rw [if_pos c, if_pos c]
    · rw [if_neg c, if_neg c, Int32.add_zero]
  · rw [if_neg f5, if_neg f5]
theorem ag_0 {n : Nat} {T : Nat → Nat → Int32} (h : ∀ q, q < n → tbG (T q)) : eqn n (tX T) (agF 0 (-1) 0 (tX T)) := fun f r _ hr => by
  obtain ⟨t0, t1, t2, t3, t4⟩ := h r hr
  unfold agF
  by_cases f2 : f = 2
  · have e2 : tX T 2 r = T r 1 := rfl
    rw [if_pos f2, f2, Int32.sub_zero, e2, mx_i t1.1]
  rw [if_neg f2]
  by_cases f5 : f = 5
  · have e5 : tX T 5 r = T r 4 := rfl
    rw [if_pos f5, f5, Int32.sub_zero, e5, mx_i t4]
    by_cases c : tX T 4 r = -1
    · rw [if_pos c, Int32.add_zero]
    · rw [if_neg c, Int32.add_zero]
  · rw [if_neg f5]
theorem smZ_sh {g : Nat → Int32} {n : Nat} : ∀ j, smZ (fun r => if r < n then g r else 0) (n + j) = smZ g n
  | 0 => smZ_c n (fun j hj => if_pos hj)
  | j + 1 => by
    show smZ (fun r => if r < n then g r else 0) (n + j) + (if n + j < n then g (n + j) else 0) = smZ g n
    rw [if_neg (by omega), Int32.add_zero]
    exact smZ_sh j
theorem fst_c {A B : Nat → Bool} : ∀ j k, (∀ i, k ≤ i → i < k + j → A i = B i) → fstF A j k = fstF B j k
  | 0, _, _ => rfl
  | j + 1, k, h => by
    show cond (A k) (nI k) (fstF A j (k + 1)) = cond (B k) (nI k) (fstF B j (k + 1))
    rw [h k (Nat.le_refl _) (by omega), fst_c j (k + 1) (fun i h1 h2 => h i (by omega) (by omega))]
theorem kpF_c {A B : Nat → Bool} : ∀ k, (∀ i, i < k → A i = B i) → kpF A k = kpF B k
  | 0, _ => rfl
  | k + 1, h => by
    show cond (A k) (kpF A k ||| ((1 : Int32) <<< (nI k &&& 31))) (kpF A k) = cond (B k) (kpF B k ||| ((1 : Int32) <<< (nI k &&& 31))) (kpF B k)
    rw [h k (by omega), kpF_c k (fun i hi => h i (by omega))]
/-- the answers of both sides are the same -/
theorem sn_eq {s : LMem} {e : EV} {dd r nd : Nat} {l l2 : Int64} {by_ bound : Int32} {k : Nat} (D : diH s dd e.2.2.2.1) (R : raH s r nd) (hl : l = l2) : snB e (W5 s r) nd l (T6 s dd) by_ bound k = snR e (V5 s r) nd l2 (T5 s dd) by_ bound k := by
  have P := pR_c (e := e) (nd := nd) (fun j hj => (R.2.2.2.2 j hj).1) hl (eqn_tr (sinF_c (tX_c (fun q hq => (D.2.2.2.2.2 q hq).1))) (ag_sin (Int32.mul_comm by_ (nI k))))
  unfold snB snR
  rw [smZ_c 6 (fun o ho => P.2.2.1 o ho)]
theorem rs_eq {s : LMem} {e : EV} {dd r nd o : Nat} {l l2 : Int64} {k : Nat} (ho : o < 6) (D : diH s dd e.2.2.2.1) (R : raH s r nd) (hl : l = l2) : rsB e (W5 s r) nd l (T6 s dd) o k = rsR e (V5 s r) nd l2 (T5 s dd) o k := by
  have P := pR_c (e := e) (nd := nd) (fun j hj => (R.2.2.2.2 j hj).1) hl (eqn_tr (rsF_c (o := nI o) (v := nI k) (tX_c (fun q hq => (D.2.2.2.2.2 q hq).1))) (ag_rs (fun q hq => (D.2.2.2.2.2 q hq).2)))
  unfold rsB rsR
  rw [P.2.2.1 o ho]
theorem sd_eq {s : LMem} {e : EV} {dd r nd : Nat} {l l2 : Int64} {what : Int32} (h1 : 1 ≤ e.2.2.2.1) (D : diH s dd e.2.2.2.1) (R : raH s r nd) (hl : l = l2) : sdV e.2.2.2.1 (pR e (W5 s r) nd l (tX (T6 s dd))) what = sdV e.2.2.2.1 (pR e (V5 s r) nd l2 (agF 0 (-1) 0 (tX (T5 s dd)))) what := by
  have P := pR_c (e := e) (nd := nd) (fun j hj => (R.2.2.2.2 j hj).1) hl (eqn_tr (tX_c (fun q hq => (D.2.2.2.2.2 q hq).1)) (ag_0 (fun q hq => (D.2.2.2.2.2 q hq).2)))
  have m := mdB_c P.1 (e.2.2.2.1 - 1) (by omega)
  have le := mdB_le (pR e (V5 s r) nd l2 (agF 0 (-1) 0 (tX (T5 s dd)))).1 (e.2.2.2.1 - 1)
  unfold sdV
  rw [m, P.1 7 _ (by decide) (by omega), P.2.1]
theorem fl_eq {s : LMem} {e : EV} {r nd : Nat} {soil width by_ : Int32} {k : Nat} (h2 : e.2.2.2.1 ≤ 20) (R : raH s r nd) : flB e (W5 s r) nd soil width by_ k = flR2 e (V5 s r) nd soil width by_ k := by
  have P := pR_c (e := e) (nd := nd) (l := 0) (fun j hj => (R.2.2.2.2 j hj).1) rfl (eqn_rf (n := e.2.2.2.1) (X := fmX e.2.2.2.1 soil width (nI k)))
  unfold flB flR2
  obtain ⟨j, hj⟩ : ∃ j, 20 = e.2.2.2.1 + j := ⟨20 - e.2.2.2.1, by omega⟩
  rw [hj, smZ_sh (g := fun q => (pR e (V5 s r) nd 0 (fmX e.2.2.2.1 soil width (nI k))).1 7 q), smZ_c e.2.2.2.1 (fun q hq => P.1 7 q (by decide) hq), P.2.1]
