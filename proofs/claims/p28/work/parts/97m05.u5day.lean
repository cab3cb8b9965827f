/-! REEDS and wet FIELDS of the reference; its DAY; its DAYS. -/
def p6R (summer : Int32) (X : Nat → Nat → Int32) (f r : Nat) : Int32 := if f = 8 then qa_min 99 (X 8 r + summer) else X f r
theorem p6_e {B M K : Int} {n : Nat} {X : Nat → Nat → Int32} {summer : Int32} (G : Gd B M K n X) (hs : summer = 0 ∨ summer = 1) : eqn n (p6R summer X) (p6F summer X) := fun f r _ hr => by
  obtain ⟨_, _, _, _, a8, _⟩ := G.1 r hr
  have z99 : (99 : Int32).toInt = 99 := by decide
  unfold p6R p6F
  rcases hs with rfl | rfl
  · rw [if_pos rfl, Int32.add_zero]
    have e : qa_min 99 (X 8 r) = X 8 r := by
      have b := mn_b 99 (X 8 r)
      rcases b.2.2 with q | q
      · rw [q]
        refine Int32.toInt_inj.mp ?_
        have := b.2.1
        rw [q] at this
        omega
      · exact q
    rw [e]
  · rw [if_neg (show ¬ (1 : Int32) = 0 by decide)]
section YR
variable {d n : Nat} {s : LMem} {Q : LPost} {rain : Int32}
theorem re_l {bc bs : Nat} (hn : n ≤ 20) (h : ∀ m, k48 [8] n s m → (∀ f r, 1 ≤ f ∧ f ≤ 14 → r < n → vR m f r = p6R (gI s 33 0 25) (vR s) f r) → qW false d 253 bc bs 197 [some (lR 33 (some 0)), some (lI rain), some (lI (nI n)), some (lI (nI n))] [] m Q) : ∀ j k m, k + j = n → k48 [8] n s m → rwR (p6R (gI s 33 0 25)) n k s m → qW false d 253 bc bs 158 [some (lR 33 (some 0)), some (lI rain), some (lI (nI n)), some (lI (nI k))] [] m Q := by
  intro j
  induction j with
  | zero =>
    intro k m hk hm hI
    have hk : k = n := hk
    subst hk
    refine qa_t1_W (cut := [158, 197]) 20 ?_
    refine And.intro (fun c => absurd c (nI_nlt (Nat.le_refl _) (by omega))) (fun _ => ?_)
    exact h m hm (fun f r hf hr => by rw [hI f r hf hr, if_pos hr])
  | succ j ih =>
    intro k m hk hm hI
    have hkn : k < n := by omega
    have hk20 : k < 20 := by omega
    obtain ⟨i8, e8⟩ := fxi (r := k) 8 40 hk20 (by decide) rfl
    have own : ∀ f, 1 ≤ f ∧ f ≤ 14 → vR m f k = vR s f k := fun f hf => by rw [hI f k hf hkn, if_neg (Nat.lt_irrefl k)]
    have e25 : gI m 33 0 25 = gI s 33 0 25 := hm.1 33 0 25 (fun q => absurd q.1 (by decide))
    have b8 : gI m 48 0 ((40 : Int32) + nI k).toNatClampNeg = vR s 8 k := by
      rw [e8]
      exact own 8 (by decide)
    have go : qW false d 253 bc bs 158 [some (lR 33 (some 0)), some (lI rain), some (lI (nI n)), some (lI (nI k + 1))] [] (sI m 48 0 ((40 : Int32) + nI k).toNatClampNeg (qa_min 99 (gI m 48 0 ((40 : Int32) + nI k).toNatClampNeg + gI m 33 0 25))) Q := by
      rw [b8, e8, e25, nI_1]
      refine ih (k + 1) _ (by omega) (k48_s hkn (by decide) hm) (fun f r hf hr => ?_)
      rw [vR_s (by decide) hf (by omega) hk20]
      by_cases c : f = 8 ∧ r = k
      · rw [if_pos c, c.2, if_pos (Nat.lt_succ_self k)]
        unfold p6R
        rw [if_pos c.1]
      · rw [if_neg c, hI f r hf hr]
        by_cases g2 : r < k
        · rw [if_pos g2, if_pos (by omega)]
        · rw [if_neg g2]
          by_cases g : r = k
          · rw [g, if_pos (Nat.lt_succ_self k)]
            unfold p6R
            rw [if_neg (fun q => c ⟨q, g⟩)]
          · rw [if_neg (by omega)]
    refine qa_t1_W (cut := [158, 197]) 60 ?_
    refine And.intro (fun _ => ?_) (fun c => absurd (nI_lt (by omega) (by omega)) c)
    exact And.intro i8 (And.intro i8 go)
theorem we_231 {bc bs k o : Nat} {w : Int32} {m : LMem} (hk : k < 20) (ho : o < 6) (e4 : vR m 4 k = nI o) (h : ∀ m1, m1 = sI m 48 0 (ro 12 k) w → qW false (d + 1) 253 bc bs 199 [some (lR 33 (some 0)), some (lI rain), some (lI (nI n)), some (lI (nI (k + 1)))] [] (sI m1 48 0 (260 + o) (gI m1 48 0 (260 + o) + w)) Q) : qW false (d + 1) 253 bc bs 231 [some (lR 33 (some 0)), some (lI rain), some (lI (nI n)), some (lI (nI k))] [lI w, lI ((120 : Int32) + nI k), lR 48 (some 0)] m Q := by
  obtain ⟨i12, e12⟩ := fxi (r := k) 12 120 hk (by decide) rfl
  have rest : ∀ m1, m1 = sI m 48 0 ((120 : Int32) + nI k).toNatClampNeg w → vR m1 4 k = nI o ∧ qa_vin ((260 : Int32) + vR m1 4 k) 279 ∧ qW false (d + 1) 253 bc bs 199 [some (lR 33 (some 0)), some (lI rain), some (lI (nI n)), some (lI (nI k + 1))] [] (sI m1 48 0 ((260 : Int32) + vR m1 4 k).toNatClampNeg (gI m1 48 0 ((260 : Int32) + vR m1 4 k).toNatClampNeg + gI m1 48 0 ((120 : Int32) + nI k).toNatClampNeg)) Q := fun m1 em => by
    have em2 : m1 = sI m 48 0 (ro 12 k) w := by rw [em, e12]
    have v4 : vR m1 4 k = nI o := by rw [em2, vR_s (by decide) (by decide) hk hk, if_neg (fun q => absurd q.1 (by decide)), e4]
    have w12 : gI m1 48 0 ((120 : Int32) + nI k).toNatClampNeg = w := by rw [em, gI_sI, if_pos ⟨rfl, rfl, rfl⟩]
    have ix : (260 : Int32) + nI o = nI (260 + o) := by rw [show (260 : Int32) = nI 260 from rfl, nI_add]
    refine ⟨v4, ?_, ?_⟩
    · rw [v4, ix]
      exact nI_in (by omega) (by decide)
    · rw [v4, ix, w12, nI_clamp (by omega), nI_1]
      exact h m1 em2
  obtain ⟨v4, hv, go⟩ := rest _ rfl
  refine qa_t1_W (cut := [199]) 60 ?_
  refine And.intro i12 ?_
  refine h_itsV (w := 3) hk (by decide) (Exists.intro _ (And.intro rfl ?_))
  exact And.intro hv (And.intro i12 (And.intro hv go))
/-- places of wet fields and harm -/
def weA (n j : Nat) : Prop := fA [12] n j ∨ (260 ≤ j ∧ j < 266)
theorem we_l {bc bs : Nat} (hn : n ≤ 20) (hw : ∀ q, q < n → 0 < vR s 3 q) (ow : ∀ r, r < n → ∃ o : Nat, o < 6 ∧ vR s 4 r = nI o) (h : ∀ m, kR (weA n) False s m → (∀ f r, 1 ≤ f ∧ f ≤ 14 → r < n → vR m f r = p7F (vR s) f r) → (∀ o, o < 6 → gI m 48 0 (260 + o) = hmA (vR s) (fun o => gI s 48 0 (260 + o)) n o) → qW false (d + 2) 253 bc bs 265 [some (lR 33 (some 0)), some (lI rain), some (lI (nI n)), some (lI (nI n))] [] m Q) : ∀ j k m, k + j = n → kR (weA n) False s m → rwR p7F n k s m → (∀ o, o < 6 → gI m 48 0 (260 + o) = hmA (vR s) (fun o => gI s 48 0 (260 + o)) k o) → qW false (d + 2) 253 bc bs 199 [some (lR 33 (some 0)), some (lI rain), some (lI (nI n)), some (lI (nI k))] [] m Q := by
  intro j
  induction j with
  | zero =>
    intro k m hk hm hI hH
    have hk : k = n := hk
    subst hk
    refine qa_t1_W (cut := [199, 265]) 20 ?_
    refine And.intro (fun c => absurd c (nI_nlt (Nat.le_refl _) (by omega))) (fun _ => ?_)
    exact h m hm (fun f r hf hr => by rw [hI f r hf hr, if_pos hr]) hH
  | succ j ih =>
    intro k m hk hm hI hH
    have hkn : k < n := by omega
    have hk20 : k < 20 := by omega
    have own : ∀ f, 1 ≤ f ∧ f ≤ 14 → vR m f k = vR s f k := fun f hf => by rw [hI f k hf hkn, if_neg (Nat.lt_irrefl k)]
    have le : lev (vR m) k = lev (vR s) k := by
      unfold lev
      rw [own 2 (by decide), own 7 (by decide), own 3 (by decide), own 6 (by decide)]
    obtain ⟨o, ho, eo⟩ := ow k hkn
    have e4 : vR m 4 k = nI o := (own 4 (by decide)).trans eo
    have wk : 0 < vR m 3 k := by
      rw [own 3 (by decide)]
      exact hw k hkn
    have go : ∀ w, w = wtF (vR s) k → qW false (d + 2) 253 bc bs 231 [some (lR 33 (some 0)), some (lI rain), some (lI (nI n)), some (lI (nI k))] [lI w, lI ((120 : Int32) + nI k), lR 48 (some 0)] m Q := fun w ew => by
      refine we_231 hk20 ho e4 fun m1 e1 => ?_
      have k1 : kR (weA n) False s m1 := by
        rw [e1]
        exact kR_s (Or.inl ⟨12, by decide, k, hkn, rfl⟩) hm
      refine ih (k + 1) _ (by omega) (kR_s (Or.inr ⟨by omega, by omega⟩) k1) (fun f r hf hr => ?_) (fun q hq => ?_)
      · rw [vR_c (by omega) hf (by omega), e1, vR_s (by decide) hf (by omega) hk20]
        by_cases c : f = 12 ∧ r = k
        · rw [if_pos c, c.2, if_pos (Nat.lt_succ_self k), ew]
          unfold p7F
          rw [if_pos c.1]
        · rw [if_neg c, hI f r hf hr]
          by_cases g2 : r < k
          · rw [if_pos g2, if_pos (by omega)]
          · rw [if_neg g2]
            by_cases g : r = k
            · rw [g, if_pos (Nat.lt_succ_self k)]
              unfold p7F
              rw [if_neg (fun q => c ⟨q, g⟩)]
            · rw [if_neg (by omega)]
      · have h1 : ∀ q, q < 6 → gI m1 48 0 (260 + q) = hmA (vR s) (fun o => gI s 48 0 (260 + o)) k q := fun q hq => by
          have := ro_260 (f := 12) (r := k) (by decide) hk20
          rw [e1, gI_sI, if_neg (fun z => by have := z.2.2; omega), hH q hq]
        show _ = (if vR s 5 k < lev (vR s) k ∧ vR s 4 k = nI q then hmA (vR s) (fun o => gI s 48 0 (260 + o)) k q + 1 else hmA (vR s) (fun o => gI s 48 0 (260 + o)) k q)
        rw [gI_sI]
        by_cases g : q = o
        · rw [if_pos ⟨rfl, rfl, by rw [g]⟩, h1 o ho, ew, g]
          unfold wtF
          by_cases c : vR s 5 k < lev (vR s) k
          · rw [if_pos c, if_pos ⟨c, eo⟩]
          · rw [if_neg c, if_neg (fun z => c z.1), Int32.add_zero]
        · rw [if_neg (fun z => g (by have := z.2.2; omega)), h1 q hq, if_neg (fun z => g ?_)]
          exact nI_ij (by omega) (by omega) (z.2.symm.trans eo)
    obtain ⟨i12, e12⟩ := fxi (r := k) 12 120 hk20 (by decide) rfl
    refine qa_t1_W (cut := [199, 231, 265]) 60 ?_
    refine And.intro (fun _ => ?_) (fun c => absurd (nI_lt (by omega) (by omega)) c)
    refine h_levelOfV (d := d) hk20 wk (Exists.intro _ (And.intro rfl ?_))
    refine h_itsV (d := d + 1) (w := 4) hk20 (by decide) (Exists.intro _ (And.intro rfl ?_))
    refine And.intro (fun c => ?_) (fun c => ?_)
    · have c : vR m 5 k < lev (vR m) k := c
      rw [le, own 5 (by decide)] at c
      exact go 1 (by unfold wtF; rw [if_pos c])
    · have c : ¬ vR m 5 k < lev (vR m) k := c
      rw [le, own 5 (by decide)] at c
      exact go 0 (by unfold wtF; rw [if_neg c])
end YR
/-- places that a day writes -/
def dyP (n j : Nat) : Prop := fA [6, 7, 8, 9, 10, 11, 12] n j ∨ (260 ≤ j ∧ j < 277 ∧ j ≠ 272)
theorem dyP_no {n j : Nat} (hn : n ≤ 20) (hj : j = 272 ∨ j = 277 ∨ j = 278) : ¬ dyP n j := fun q => by
  rcases q with q | q
  · have := fA_lt hn (fun f hf => by
      simp only [List.mem_cons, List.not_mem_nil, or_false] at hf
      omega) q
    omega
  · omega
/-- what the reference holds of a picture -/
def psR (e : EV) (m : LMem) (P : PS) : Prop := eqn e.2.2.2.1 (vR m) P.1 ∧ gI m 48 0 276 = P.2.1 ∧ (∀ o, o < 6 → gI m 48 0 (260 + o) = P.2.2.1 o) ∧ gL m 33 0 29 = P.2.2.2
section DY2
variable {d : Nat} {s : LMem} {Q : LPost} {rain : Int32} {e : EV} {B M K : Int}
/-- reeds, fields, and the day is counted -/
theorem do_156i {bc bs : Nat} {o3 : Option LV} {X : Nat → Nat → Int32} (E : evG e) (R : reH e s) (hX : eqn e.2.2.2.1 (vR s) X) (G : Gd B M K e.2.2.2.1 X) (h : ∀ m, kR (dyP e.2.2.2.1) False s m → eqn e.2.2.2.1 (vR m) (p7F (p6F e.2.2.1 X)) → gI m 48 0 276 = gI s 48 0 276 → (∀ o, o < 6 → gI m 48 0 (260 + o) = hmA (p6F e.2.2.1 X) (fun o => gI s 48 0 (260 + o)) e.2.2.2.1 o) → Q none m) : qW false (d + 2) 253 bc bs 156 [some (lR 33 (some 0)), some (lI rain), some (lI (nI e.2.2.2.1)), o3] [] s Q := by
  obtain ⟨_, _, hs, hn1, hn⟩ := E
  obtain ⟨⟨r1, r2, r3, r4, r5⟩, _, _⟩ := R
  have G1 : Gd B M K e.2.2.2.1 (vR s) := Gd_c (eqn_sy hX) G
  refine qa_t1_W (cut := [158]) 10 ?_
  refine re_l (s := s) hn (fun m1 k1 x1 => ?_) e.2.2.2.1 0 s (Nat.zero_add _) k48_0 (fun f r _ _ => by rw [if_neg (Nat.not_lt_zero r)])
  rw [r4] at x1
  have E1 : eqn e.2.2.2.1 (vR m1) (p6F e.2.2.1 X) := eqn_tr x1 (eqn_tr (p6_e G1 hs) (p6_c hX))
  have G2 : Gd B M K e.2.2.2.1 (vR m1) := Gd_c (eqn_sy E1) (Gd_p6 G)
  refine qa_t1_W (cut := [199]) 10 ?_
  refine we_l (s := m1) hn (fun q hq => i0_lt.mpr (by
    have := (G2.1 q hq).1.2.1
    omega)) (fun r hr => (G2.1 r hr).1.2.2.2.1) (fun m2 k2 x2 h2 => ?_) e.2.2.2.1 0 m1 (Nat.zero_add _) kR_0 (fun f r _ _ => by rw [if_neg (Nat.not_lt_zero r)]) (fun _ _ => rfl)
  have E2 : eqn e.2.2.2.1 (vR m2) (p7F (p6F e.2.2.1 X)) := eqn_tr x2 (p7_c E1)
  have v273 : qa_vin (273 : Int32) 279 := vin_of (x := 273) (n := 279) (by decide) (by decide) (by decide)
  have n8 : ∀ j, 260 ≤ j → ¬ fA [8] e.2.2.2.1 j := fun j hj q => by
    have := fA_lt hn (fun f hf => by
      rw [List.mem_singleton.mp hf]
      decide) q
    omega
  have n12 : ∀ j, 260 ≤ j → ¬ fA [12] e.2.2.2.1 j := fun j hj q => by
    have := fA_lt hn (fun f hf => by
      rw [List.mem_singleton.mp hf]
      decide) q
    omega
  have h1 : ∀ j, 260 ≤ j → gI m1 48 0 j = gI s 48 0 j := fun j hj => k1.1 48 0 j (fun q => n8 j hj q.2.2)
  have km : kR (dyP e.2.2.2.1) False s m2 := kR_tr (kR_48 k1) k2 (fun j q => Or.inl (fA_up (fun f hf => by
    rw [List.mem_singleton.mp hf]
    decide) q)) (fun j q => by
    rcases q with q | q
    · exact Or.inl (fA_up (fun f hf => by
        rw [List.mem_singleton.mp hf]
        decide) q)
    · exact Or.inr ⟨by omega, by omega, by omega⟩) (fun q => q) (fun q => q)
  have fin : ∀ y, Q none (sI m2 48 0 (273 : Int32).toNatClampNeg y) := fun y => by
    show Q none (sI m2 48 0 273 y)
    refine h _ (kR_s (Or.inr (by decide)) km) (fun f r hf hr => ?_) ?_ (fun o ho => ?_)
    · rw [vR_c (by decide) hf (by omega)]
      exact E2 f r hf hr
    · rw [gI_sI, if_neg (fun q => absurd q.2.2 (by decide)), k2.1 48 0 276 (by decide) (fun q => by
        rcases q.2.2 with q | q
        · exact n12 276 (by decide) q
        · omega), h1 276 (by decide)]
    · rw [gI_sI, if_neg (fun q => by have := q.2.2; omega), h2 o ho, hmA_c E1 _ (Nat.le_refl _)]
      exact hmA_h (H := fun o => gI m1 48 0 (260 + o)) (H2 := fun o => gI s 48 0 (260 + o)) (h1 (260 + o) (by omega)) _
  refine qa_t1_W (cut := []) 20 ?_
  exact And.intro v273 (And.intro v273 (fin _))
/-- the slips, with or without a law -/
theorem do_84 {bc bs : Nat} {o3 : Option LV} {X : Nat → Nat → Int32} (E : evG e) (R : reH e s) (hq : 0 ≤ rain.toInt ∧ rain.toInt ≤ 99) (hX : eqn e.2.2.2.1 (vR s) X) (G : Gd B M K e.2.2.2.1 X) (hB : B ≤ 60000) (hM : M ≤ 9000) (hK : K ≤ 30) (h : ∀ m i, kR (dyP e.2.2.2.1) True s m → eqn e.2.2.2.1 (vR m) (slO e rain (gL s 33 0 29) X) → (∀ j, 260 ≤ j → gI m 48 0 j = gI s 48 0 j) → gL m 33 0 29 = slD e (gL s 33 0 29) → qW false (d + 6) 253 bc bs 156 [some (lR 33 (some 0)), some (lI rain), some (lI (nI e.2.2.2.1)), some (lI (nI i))] [] m Q) : qW false (d + 6) 253 bc bs 84 [some (lR 33 (some 0)), some (lI rain), some (lI (nI e.2.2.2.1)), o3] [] s Q := by
  obtain ⟨ht, _, hs, hn1, hn⟩ := E
  obtain ⟨⟨r1, r2, r3, r4, r5⟩, _, r12⟩ := R
  have G1 : Gd B M K e.2.2.2.1 (vR s) := Gd_c (eqn_sy hX) G
  have v278 : qa_vin (278 : Int32) 279 := vin_of (x := 278) (n := 279) (by decide) (by decide) (by decide)
  unfold slO slD at h
  rcases r12 with ⟨es, q1⟩ | ⟨c2, n2, es, q1, q2, q3, q4, q5, q6⟩
  · rw [es] at h
    have fin : qW false (d + 6) 253 bc bs 156 [some (lR 33 (some 0)), some (lI rain), some (lI (nI e.2.2.2.1)), some (lI 0)] [] s Q := h s 0 kR_0 hX (fun _ _ => rfl) rfl
    have c0 : (0 : Int32) < nI e.2.2.2.1 := nI_lt (a := 0) (by omega) (by omega)
    refine qa_t1_W (cut := [156]) 30 ?_
    refine And.intro (fun _ => ?_) (fun c => absurd c0 c)
    exact And.intro v278 (And.intro (fun _ => fin) (fun c => absurd q1 c))
  · rw [es] at h
    refine qa_t1_W (cut := [86]) 10 ?_
    refine sp_l (d := d) (s := s) (nl := n2) (cs := c2) (D := gL s 33 0 29) hn r1 q1 (fun q hq2 => i0_lt.mpr (by
      have := (G1.1 q hq2).1.2.1
      omega)) q2 q3 q4 q5 q6 (fun m k x gD => ?_) e.2.2.2.1 0 s (Nat.zero_add _) kR_0 (fun f r _ _ => by rw [if_neg (Nat.not_lt_zero r)]) rfl
    rw [r2] at x
    have nj : ∀ j : Nat, 260 ≤ j → ¬ fA [7, 11] e.2.2.2.1 j := fun j hj q => by
      have := fA_lt hn (fun f hf => by
        simp only [List.mem_cons, List.not_mem_nil, or_false] at hf
        omega) q
      omega
    refine h m _ (kR_m k (fun j q => Or.inl (fA_up (fun f hf => ?_) q)) (fun q => q)) (eqn_tr x (eqn_tr (p5_e G1 hB hM hK ht hq) (p5_c hX))) (fun j hj => k.1 48 0 j (by decide) (fun q => nj j hj q.2.2)) gD
    simp only [List.mem_cons, List.not_mem_nil, or_false] at hf
    rcases hf with rfl | rfl <;> decide
/-- a DAY -/
theorem h_dayOfP {P : PS} (E : evG e) (R : reH e s) (hq : 0 ≤ rain.toInt ∧ rain.toInt ≤ 99) (hP : psR e s P) (G : Gd B M K e.2.2.2.1 P.1) (hB : B ≤ 58000) (hM : M ≤ 8800) (hK : K ≤ 30) (h : ∀ m, kR (dyP e.2.2.2.1) True s m → psR e m (dyF e rain P) → Q none m) : qC false (d + 8) 253 [lR 33 (some 0), lI rain] s Q := by
  have E0 := E
  have R0 := R
  obtain ⟨ht, esi, hs, hn1, hn⟩ := E
  obtain ⟨⟨r1, r2, r3, r4, r5⟩, _, _⟩ := R
  obtain ⟨hX, hc, hH, hD⟩ := hP
  have v272 : qa_vin (272 : Int32) 279 := vin_of (x := 272) (n := 279) (by decide) (by decide) (by decide)
  have g1 : Gd (B + 1980) (M + 180) K e.2.2.2.1 (p1F rain e.2.1 P.1) := Gd_p1 G (by omega) (by omega) hn hq esi
  have g2 : Gd (B + 1980) (M + 180) K e.2.2.2.1 (dyA e rain P).1 := Gd_rdN (by omega) (by omega) 4 _ g1
  have nf : ∀ (fs : List Nat), (∀ f, f ∈ fs → 1 ≤ f ∧ f ≤ 13) → ∀ j, 260 ≤ j → ¬ fA fs e.2.2.2.1 j := fun fs hf j hj q => by
    have := fA_lt hn hf q
    omega
  have f69 : ∀ f, f ∈ [6, 9] → 1 ≤ f ∧ f ≤ 13 := fun f hf => by
    simp only [List.mem_cons, List.not_mem_nil, or_false] at hf
    omega
  have main : ∀ bc bs v, v = nI e.2.2.2.1 → qW false (d + 7) 253 bc bs 11 [some (lR 33 (some 0)), some (lI rain), some (lI v), some (lI 0)] [] s Q := fun bc bs v ev => by
    rw [ev]
    refine r1_l (s := s) hn r5 (fun m1 k1 x1 => ?_) e.2.2.2.1 0 s (Nat.zero_add _) k48_0 (fun f r _ _ => by rw [if_neg (Nat.not_lt_zero r)])
    rw [r3] at x1
    have E1 : eqn e.2.2.2.1 (vR m1) (p1F rain e.2.1 P.1) := eqn_tr x1 (p1_c hX)
    have c1 : gI m1 48 0 276 = P.2.1 := ((kR_48 k1).1 48 0 276 (by decide) (fun q => nf _ f69 276 (by decide) q.2.2)).trans hc
    have R1 : reH e m1 := reH_k (kR_48 k1) (nf _ f69 272 (by decide)) (nf _ f69 277 (by decide)) (nf _ f69 278 (by decide)) R0
    refine qa_t1_W (cut := [68]) 10 ?_
    refine do_r (d := d) (s := m1) E0 R1 hq (show B + 1980 ≤ 60000 by omega) (show M + 180 ≤ 9000 by omega) hK 4 0 m1 (p1F rain e.2.1 P.1, P.2.1) (Nat.zero_add _) kR_0 E1 c1 g1 (fun m2 k2 x2 c2 => ?_)
    have R2 : reH e m2 := reH_k k2 (roA_no hn (by omega)) (roA_no hn (by omega)) (roA_no hn (by omega)) R1
    refine do_84 (d := d + 1) (s := m2) E0 R2 hq x2 g2 (by omega) (by omega) hK (fun m3 i k3 x3 j3 l3 => ?_)
    have R3 : reH e m3 := reH_k k3 (dyP_no hn (by omega)) (dyP_no hn (by omega)) (dyP_no hn (by omega)) R2
    have l1 : gL m1 33 0 29 = P.2.2.2 := (k1.2.1 33 0 29).trans hD
    have l2 : gL m2 33 0 29 = P.2.2.2 := (k2.2.1 33 0 29 (fun q => q.1)).trans l1
    rw [l2] at x3 l3
    have h2 : ∀ o, o < 6 → gI m3 48 0 (260 + o) = P.2.2.1 o := fun o ho => by
      rw [j3 (260 + o) (by omega), k2.1 48 0 (260 + o) (by decide) (fun q => roA_no hn (by omega) q.2.2), k1.1 48 0 (260 + o) (fun q => nf _ f69 (260 + o) (by omega) q.2.2)]
      exact hH o ho
    have g3 : Gd (B + 1980) (M + 180 + 100) (K + 1) e.2.2.2.1 (slO e rain P.2.2.2 (dyA e rain P).1) := Gd_slo g2 (by omega) hK hn _
    refine do_156i (d := d + 5) (s := m3) E0 R3 x3 g3 (fun m4 k4 x4 c4 h4 => ?_)
    refine h m4 ?_ ⟨x4, ?_, fun o ho => ?_, ?_⟩
    · refine kR_tr (kR_tr (kR_tr (kR_48 k1) k2 (B := dyP e.2.2.2.1) (c := True) (fun j q => Or.inl (fA_up (fun f hf => ?_) q)) (fun j q => ?_) (fun q => q.elim) (fun q => q.elim)) k3 (B := dyP e.2.2.2.1) (c := True) (fun _ q => q) (fun _ q => q) (fun q => q) (fun q => q)) k4 (fun _ q => q) (fun _ q => q) (fun q => q) (fun q => q.elim)
      · simp only [List.mem_cons, List.not_mem_nil, or_false] at hf
        rcases hf with rfl | rfl <;> decide
      · rcases q with q | q
        · refine Or.inl (fA_up (fun f hf => ?_) q)
          simp only [List.mem_cons, List.not_mem_nil, or_false] at hf
          rcases hf with rfl | rfl | rfl | rfl <;> decide
        · exact Or.inr ⟨by omega, by omega, by omega⟩
    · rw [c4, j3 276 (by decide)]
      exact c2
    · rw [h4 o ho]
      exact hmA_h (H := fun o => gI m3 48 0 (260 + o)) (h2 o ho) _
    · rw [k4.2.1 33 0 29 (fun q => q.1)]
      exact l3
  refine qC_of rfl rfl ?_
  refine qa_t1_W (cut := [11]) 20 ?_
  exact And.intro v272 (main _ _ _ r1)
end DY2
