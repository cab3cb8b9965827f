/-! workOut, worthOf: the codes of a law run on their stack. -/
theorem h_bounded {d : Nat} {v : Int64} {s : LMem} {Q : LPost} (h : ∀ x, Q (some (lI x)) s) : qC false (d + 1) 226 [lL v] s Q := by
  refine qC_of rfl rfl ?_
  refine qa_t1_W (cut := []) 10 ?_
  exact h _
theorem h_worked {d : Nat} {c : Int32} {a b : Int64} {s : LMem} {Q : LPost} (h : ∀ x, Q (some (lI x)) s) : qC false (d + 2) 227 [lI c, lL a, lL b] s Q := by
  refine qC_of rfl rfl ?_
  refine qa_t1_W (cut := []) 30 ?_
  have hb : ∀ v, qC false (d + 1) 226 [lL v] s (fun r s' => ∃ a, r = some (lI a) ∧ Q (some (lI a)) s') := fun v => h_bounded fun x => Exists.intro x (And.intro rfl (h x))
  refine And.intro (fun _ => hb _) (fun _ => ?_)
  refine And.intro (fun _ => hb _) (fun _ => ?_)
  refine And.intro (fun _ => hb _) (fun _ => ?_)
  refine And.intro (fun _ => And.intro (fun _ => h _) (fun q => And.intro (fun e => q (by rw [e]; decide)) (hb _))) (fun _ => ?_)
  refine And.intro (fun _ => And.intro (fun _ => h _) (fun _ => h _)) (fun _ => ?_)
  refine And.intro (fun _ => And.intro (fun _ => h _) (fun _ => h _)) (fun _ => ?_)
  refine And.intro (fun _ => And.intro (fun _ => h _) (fun _ => h _)) (fun _ => ?_)
  refine And.intro (fun _ => And.intro (fun _ => And.intro (fun _ => h _) (fun _ => h _)) (fun _ => h _)) (fun _ => ?_)
  refine And.intro (fun _ => And.intro (fun _ => h _) (fun _ => And.intro (fun _ => h _) (fun _ => h _))) (fun _ => ?_)
  exact And.intro (fun _ => And.intro (fun _ => h _) (fun _ => h _)) (fun _ => h _)
/-- only the stack is written -/
def wk_F (s m : LMem) : Prop := (∀ k i j, ¬ (k = 43 ∧ i = 0 ∧ j < 80) → gI m k i j = gI s k i j) ∧ (∀ k i j, gL m k i j = gL s k i j) ∧ ∀ k i j, gR m k i j = gR s k i j
theorem wk_F0 (s : LMem) : wk_F s s := ⟨fun _ _ _ _ => rfl, fun _ _ _ => rfl, fun _ _ _ => rfl⟩
theorem wk_Fs {s m : LMem} {j : Nat} {v : Int32} (hj : j < 80) (h : wk_F s m) : wk_F s (sI m 43 0 j v) := by
  refine ⟨fun k i j' hn => ?_, h.2.1, h.2.2⟩
  rw [gI_sI, if_neg (fun q => hn (by obtain ⟨rfl, rfl, rfl⟩ := q; exact ⟨rfl, rfl, hj⟩))]
  exact h.1 k i j' hn
theorem wk_J {s m : LMem} (hJ : y_J x_X s) (h : wk_F s m) : y_J x_X m := by
  refine ⟨fun k i j r hr g1 g2 => ?_, ?_, x_X_cl s m (fun k i j hp => h.1 k i j (fun q => ?_)) hJ.2.2⟩
  · by_cases e : k = 43 ∧ i = 0 ∧ j < 80
    · obtain ⟨rfl, _, _⟩ := e
      rw [show y_B 43 = [] from rfl] at hr
      cases hr
    · rw [h.1 k i j e]
      exact hJ.1 k i j r hr g1 g2
  · obtain ⟨r1, r2, r3, r4⟩ := hJ.2.1
    exact ⟨fun i q hq => r1 i q (by rw [← h.2.2]; exact hq), fun i q hq => r2 i q (by rw [← h.2.2]; exact hq), fun i q hq => r3 i q (by rw [← h.2.2]; exact hq), fun i q hq => r4 i q (by rw [← h.2.2]; exact hq)⟩
  · obtain ⟨rfl, _, _⟩ := q
    obtain ⟨r, hr, _⟩ := hp
    rw [show y_P 43 = [] from rfl] at hr
    cases hr
theorem wk_nz {c : Int32} {v : Int} (hv : v ≠ 0) (h : c.toInt = v) : ¬ c = 0 := fun e => by
  rw [e] at h
  exact hv h.symm
theorem wk_z {c : Int32} (h : c.toInt = 0) : c = 0 := Int32.toInt_inj.mp (show c.toInt = (0 : Int32).toInt from h)
theorem wk_e {c : Int32} {n : Nat} (hn : n < 100) (h : c.toInt = (n : Int)) : c = nI n := Int32.toInt_inj.mp (by rw [nI_toInt (by omega)]; exact h)
theorem wk_l {d bc bs n t : Nat} {f : Int32} {s : LMem} {Q : LPost} (hn : n < 7) (ht : t ≤ 260) (h : ∀ m v, wk_F s m → Q (some (lI v)) m) : ∀ j a h0 m, a + j = t → x_run s n j a h0 → wk_F s m → qW false (d + 3) 228 bc bs 12 [some (lR 33 (some 0)), some (lI (nI n)), some (lI f), some (lI (nI t)), some (lI (nI h0)), some (lI (nI (260 * n + a)))] [] m Q := by
  have e1 : (260 : Int32) * nI n + nI t = nI (260 * n + t) := by rw [show (260 : Int32) = nI 260 from rfl, nI_mul, nI_add]
  intro j
  induction j with
  | zero =>
    intro a h0 m ha _ hm
    have ha : a = t := ha
    subst ha
    have hlt : ¬ nI (260 * n + a) < 260 * nI n + nI a := by rw [e1]; exact nI_nlt (Nat.le_refl _) (by omega)
    refine qa_t1_W (cut := [12]) 30 ?_
    refine And.intro (fun q => absurd q hlt) (fun _ => ?_)
    exact And.intro (x_vc (by decide) (by decide)) (h m _ hm)
  | succ j ih =>
    intro a h0 m ha hx hm
    have hlt : nI (260 * n + a) < 260 * nI n + nI t := by rw [e1]; exact nI_lt (by omega) (by omega)
    have hv : qa_vin (nI (260 * n + a)) 1820 := nI_in (by omega) (by decide)
    have e9 : (nI (260 * n + a)).toNatClampNeg = 260 * n + a := nI_clamp (by omega)
    have ec : gI m 35 0 (nI (260 * n + a)).toNatClampNeg = gI s 35 0 (260 * n + a) := by rw [e9]; exact hm.1 _ _ _ (fun q => absurd q.1 (by decide))
    have ev : gI m 36 0 (nI (260 * n + a)).toNatClampNeg = gI s 36 0 (260 * n + a) := by rw [e9]; exact hm.1 _ _ _ (fun q => absurd q.1 (by decide))
    have en : nI (260 * n + a) + 1 = nI (260 * n + (a + 1)) := nI_1 _
    unfold x_run xI at hx
    generalize hcc : gI s 35 0 (260 * n + a) = c at hx ec
    generalize hvv : gI s 36 0 (260 * n + a) = v at hx ev
    -- what comes next
    have push : h0 < 80 → x_run s n j (a + 1) (h0 + 1) → ∀ u, qW false (d + 3) 228 bc bs 12 [some (lR 33 (some 0)), some (lI (nI n)), some (lI f), some (lI (nI t)), some (lI (nI h0 + 1)), some (lI (nI (260 * n + a) + 1))] [] (sI m 43 0 (nI h0).toNatClampNeg u) Q := fun h1 h2 u => by
      rw [en, nI_1, nI_clamp (by omega)]
      exact ih (a + 1) (h0 + 1) _ (by omega) h2 (wk_Fs h1 hm)
    refine qa_t1_W (cut := [12]) 60 ?_
    refine And.intro (fun _ => ?_) (fun q => absurd hlt q)
    refine And.intro hv ?_
    rcases hx with ⟨h1, h2, h3⟩ | ⟨h1, h2, h3, h4⟩ | ⟨h1, h2, h3, h4⟩
    · have hvh : qa_vin (nI h0) 80 := nI_in h2 (by decide)
      refine And.intro (fun c0 => ?_) (fun c0 => ?_)
      · refine And.intro hv ?_
        refine And.intro (fun _ => ?_) (fun q => absurd c0 q)
        refine And.intro hv ?_
        exact And.intro hvh (push h2 h3 _)
      · have c0' : ¬ c = 0 := fun q => c0 (ec.trans q)
        rcases h1 with h1 | ⟨h1, g1, g2⟩
        · exact absurd (wk_z h1) c0'
        · have c1 : c = 1 := wk_e (n := 1) (by decide) h1
          refine And.intro hv ?_
          refine And.intro (fun _ => ?_) (fun q => absurd (ec.trans c1) q)
          refine And.intro hv ?_
          refine And.intro (fun q => absurd q c0) (fun _ => ?_)
          refine And.intro hv ?_
          have hv8 : qa_vin (gI m 36 0 (nI (260 * n + a)).toNatClampNeg) 8 := by
            rw [ev]
            intro q
            rcases q with q | q
            · have := Int32.lt_iff_toInt_lt.mp q
              have : v.toInt < 0 := this
              omega
            · have q : 8 ≤ v.toInt.toNat := q
              omega
          refine And.intro hv8 ?_
          exact And.intro hvh (push h2 h3 _)
    · have c9 : c = 9 := wk_e (n := 9) (by decide) h1
      have c0 : ¬ gI m 35 0 (nI (260 * n + a)).toNatClampNeg = 0 := by rw [ec]; exact wk_nz (by decide) h1
      have c1 : ¬ gI m 35 0 (nI (260 * n + a)).toNatClampNeg = 1 := by rw [ec, c9]; decide
      have hh : nI h0 - 1 = nI (h0 - 1) := by
        rw [show h0 = h0 - 1 + 1 by omega, nI_pred]
        rfl
      have hvh : qa_vin (nI h0 - 1) 80 := by rw [hh]; exact nI_in (by omega) (by decide)
      refine And.intro (fun q => absurd q c0) (fun _ => ?_)
      refine And.intro hv ?_
      refine And.intro (fun q => absurd q c1) (fun _ => ?_)
      refine And.intro hv ?_
      refine And.intro (fun _ => ?_) (fun q => absurd (ec.trans c9) q)
      refine And.intro hvh ?_
      refine And.intro hvh ?_
      have go : ∀ u, qW false (d + 3) 228 bc bs 12 [some (lR 33 (some 0)), some (lI (nI n)), some (lI f), some (lI (nI t)), some (lI (nI h0)), some (lI (nI (260 * n + a) + 1))] [] (sI m 43 0 (nI h0 - 1).toNatClampNeg u) Q := fun u => by
        rw [en, hh, nI_clamp (by omega)]
        exact ih (a + 1) h0 _ (by omega) h4 (wk_Fs (by omega) hm)
      exact go _
    · have c0 : ¬ gI m 35 0 (nI (260 * n + a)).toNatClampNeg = 0 := fun q => by
        rw [ec] at q
        rw [q] at h1
        exact absurd h1.1 (by decide)
      have c1 : ¬ gI m 35 0 (nI (260 * n + a)).toNatClampNeg = 1 := fun q => by
        rw [ec] at q
        rw [q] at h1
        exact absurd h1.1 (by decide)
      have c9 : ¬ gI m 35 0 (nI (260 * n + a)).toNatClampNeg = 9 := fun q => by
        rw [ec] at q
        rw [q] at h1
        exact h1.2 (by decide)
      have hh : nI h0 + -1 = nI (h0 - 1) := by
        rw [nI_m1, show h0 = h0 - 1 + 1 by omega, nI_pred]
        rfl
      have hh2 : nI h0 + -1 - 1 = nI (h0 - 2) := by
        rw [hh, show h0 - 1 = h0 - 2 + 1 by omega, nI_pred]
      have hvh : qa_vin (nI h0 + -1) 80 := by rw [hh]; exact nI_in (by omega) (by decide)
      have hvh2 : qa_vin (nI h0 + -1 - 1) 80 := by rw [hh2]; exact nI_in (by omega) (by decide)
      refine And.intro (fun q => absurd q c0) (fun _ => ?_)
      refine And.intro hv ?_
      refine And.intro (fun q => absurd q c1) (fun _ => ?_)
      refine And.intro hv ?_
      refine And.intro (fun q => absurd q c9) (fun _ => ?_)
      refine And.intro hv ?_
      refine And.intro hvh2 ?_
      refine And.intro hvh ?_
      have go : ∀ u, qW false (d + 3) 228 bc bs 12 [some (lR 33 (some 0)), some (lI (nI n)), some (lI f), some (lI (nI t)), some (lI (nI h0 + -1)), some (lI (nI (260 * n + a) + 1))] [] (sI m 43 0 (nI h0 + -1 - 1).toNatClampNeg u) Q := fun u => by
        rw [en, hh2, hh, nI_clamp (by omega)]
        exact ih (a + 1) (h0 - 1) _ (by omega) h4 (wk_Fs (by omega) hm)
      exact h_worked fun x => Exists.intro x (And.intro rfl (And.intro hvh2 (go x)))
theorem h_workOut {d n f t : Nat} {s m : LMem} {Q : LPost} (hn : n < 7) (hf : f ≤ t) (ht : t ≤ 260) (hx : x_run s n (t - f) f 0) (hm : wk_F s m) (h : ∀ m v, wk_F s m → Q (some (lI v)) m) : qC false (d + 4) 228 [lR 33 (some 0), lI (nI n), lI (nI f), lI (nI t)] m Q := by
  have e1 : (260 : Int32) * nI n + nI f = nI (260 * n + f) := by rw [show (260 : Int32) = nI 260 from rfl, nI_mul, nI_add]
  have main := wk_l (d := d) (bc := 0) (bs := 0) (f := nI f) hn ht h (t - f) f 0 m (by omega) hx hm
  rw [← e1] at main
  refine qC_of rfl rfl ?_
  refine qa_t1_W (cut := [12]) 20 ?_
  exact main
theorem wo_l {d bc bs n : Nat} {s : LMem} {Q : LPost} (hn : n < 6) (cl : Nat) (hcl : gI s 38 0 n = nI cl) (hc60 : cl ≤ 60) (hx : ∀ c, c < cl → x_cl s n c) (h : ∀ m v, wk_F s m → Q (some (lI v)) m) : ∀ j c m, c + j = cl → wk_F s m → qW false (d + 4) 229 bc bs 5 [some (lR 33 (some 0)), some (lI (nI n)), some (lI (nI (60 * n + c)))] [] m Q := by
  have e1 : (60 : Int32) * nI n + nI cl = nI (60 * n + cl) := by rw [show (60 : Int32) = nI 60 from rfl, nI_mul, nI_add]
  have hvn : qa_vin (nI n) 7 := nI_in (by omega) (by decide)
  have e7 : (nI n).toNatClampNeg = n := nI_clamp (by omega)
  intro j
  induction j with
  | zero =>
    intro c m hc hm
    have hc : c = cl := hc
    subst hc
    have hlt : ¬ nI (60 * n + c) < 60 * nI n + gI m 38 0 (nI n).toNatClampNeg := by
      rw [e7, hm.1 38 0 n (fun q => absurd q.1 (by decide)), hcl, e1]
      exact nI_nlt (Nat.le_refl _) (by omega)
    refine qa_t1_W (cut := [5]) 30 ?_
    refine And.intro hvn ?_
    exact And.intro (fun q => absurd q hlt) (fun _ => h m _ hm)
  | succ j ih =>
    intro c m hc hm
    have hlt : nI (60 * n + c) < 60 * nI n + gI m 38 0 (nI n).toNatClampNeg := by
      rw [e7, hm.1 38 0 n (fun q => absurd q.1 (by decide)), hcl, e1]
      exact nI_lt (by omega) (by omega)
    have hv : qa_vin (nI (60 * n + c)) 420 := nI_in (by omega) (by decide)
    have e9 : (nI (60 * n + c)).toNatClampNeg = 60 * n + c := nI_clamp (by omega)
    obtain ⟨a, b, e, g1, g2, g3, g4, g5, g6, g7, g8⟩ := hx c (by omega)
    have val : ∀ (k x : Nat), k ≠ 43 → xI s k (60 * n + c) = (x : Int) → x ≤ 260 → ∀ m, wk_F s m → gI m k 0 (nI (60 * n + c)).toNatClampNeg = nI x := fun k x hk hx hx2 m hm => by
      rw [e9, hm.1 k 0 _ (fun q => hk q.1)]
      apply Int32.toInt_inj.mp
      rw [nI_toInt (by omega)]
      exact hx
    have go : ∀ m, wk_F s m → qW false (d + 4) 229 bc bs 5 [some (lR 33 (some 0)), some (lI (nI n)), some (lI (nI (60 * n + c) + 1))] [] m Q := fun m hm => by
      rw [nI_1]
      exact ih (c + 1) m (by omega) hm
    have sum : ∀ m, wk_F s m → qC false (d + 4) 228 [lR 33 (some 0), lI (nI n), lI (gI m 40 0 (nI (60 * n + c)).toNatClampNeg), lI (gI m 41 0 (nI (60 * n + c)).toNatClampNeg)] m (fun r s' => ∃ a, r = some (lI a) ∧ Q (some (lI a)) s') := fun m hm => by
      rw [val 40 b (by decide) g2 (by omega) m hm, val 41 e (by decide) g3 g6 m hm]
      exact h_workOut (by omega) g5 g6 g8 hm fun m v hm => Exists.intro v (And.intro rfl (h m v hm))
    have test : qC false (d + 4) 228 [lR 33 (some 0), lI (nI n), lI (gI m 39 0 (nI (60 * n + c)).toNatClampNeg), lI (gI m 40 0 (nI (60 * n + c)).toNatClampNeg)] m (fun r s' => ∃ a, r = some (lI a) ∧ wk_F s s') := by
      rw [val 39 a (by decide) g1 (by omega) m hm, val 40 b (by decide) g2 (by omega) m hm]
      exact h_workOut (by omega) g4 (by omega) g7 hm fun m v hm => Exists.intro v (And.intro rfl hm)
    refine qa_t1_W (cut := [5]) 60 ?_
    refine And.intro hvn ?_
    refine And.intro (fun _ => ?_) (fun q => absurd hlt q)
    refine And.intro hv ?_
    refine And.intro hv ?_
    refine And.intro (fun _ => ?_) (fun _ => ?_)
    · refine And.intro hv ?_
      refine And.intro hv ?_
      exact sum m hm
    · refine And.intro hv ?_
      refine And.intro hv ?_
      refine qC_mono test fun r s' h9 => ?_
      obtain ⟨x, rfl, hm'⟩ := h9
      refine Exists.intro x (And.intro rfl ?_)
      refine And.intro (fun _ => go s' hm') (fun _ => ?_)
      refine And.intro hv ?_
      refine And.intro hv ?_
      exact sum s' hm'
theorem h_worthOf {d n : Nat} {s : LMem} {Q : LPost} (hJ : y_J x_X s) (hn : n < 6) (hl : (n : Int) < xI s 33 13) (h : ∀ m v, wk_F s m → Q (some (lI v)) m) : qC false (d + 5) 229 [lR 33 (some 0), lI (nI n)] s Q := by
  obtain ⟨g1, g2, g3⟩ := hJ.2.2.1 n hl (by omega)
  obtain ⟨cl, hc1, hc2⟩ := y_nIof2 (N := 60) g1 g2
  have hx : ∀ c, c < cl → x_cl s n c := fun c hc => g3 c (by unfold xI; rw [hc2, nI_toInt (by omega)]; omega) (by omega)
  have main := wo_l (d := d) (bc := 0) (bs := 0) hn cl hc2 hc1 hx h cl 0 s (Nat.zero_add _) (wk_F0 s)
  have e1 : (60 : Int32) * nI n = nI (60 * n + 0) := by rw [show (60 : Int32) = nI 60 from rfl, nI_mul]; rfl
  rw [← e1] at main
  refine qC_of rfl rfl ?_
  refine qa_t1_W (cut := [5]) 10 ?_
  exact main
