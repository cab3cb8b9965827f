/-! THE CLASS WORKS A LAW OUT: within, joined, letter. -/
theorem h_withinV {d : Nat} {v : Int64} {s : LMem} {Q : LPost} (h : Q (some (lI (bdV v))) s) : qC false (d + 1) 75 [lL v] s Q := by
  unfold bdV at h
  refine qC_of rfl rfl ?_
  refine qa_t1_W (cut := []) 20 ?_
  refine And.intro (fun g => ?_) (fun g => ?_)
  · have g : v > 1000000 := lg_g.mp g
    rw [if_pos g] at h
    exact h
  · have g : ¬ v > 1000000 := fun q => g (lg_g.mpr q)
    rw [if_neg g] at h
    refine And.intro (fun g2 => ?_) (fun g2 => ?_)
    · have g2 : v < -1000000 := lg_l.mp g2
      rw [if_pos g2] at h
      exact h
    · have g2 : ¬ v < -1000000 := fun q => g2 (lg_l.mpr q)
      rw [if_neg g2] at h
      exact h
theorem opx {x : Int32} (h : jc x) : (opC x = 38 → x = 10) ∧ (opC x = 42 → x = 4) ∧ (opC x = 43 → x = 2) ∧ (opC x = 45 → x = 3) ∧ (opC x = 47 → x = 5) ∧ (opC x = 60 → x = 7) ∧ (opC x = 61 → x = 6) ∧ (opC x = 62 → x = 8) ∧ (opC x = 124 → x = 11) ∧ (opC x = 38 ∨ opC x = 42 ∨ opC x = 43 ∨ opC x = 45 ∨ opC x = 47 ∨ opC x = 60 ∨ opC x = 61 ∨ opC x = 62 ∨ opC x = 124) := by
  rcases h with (h | h | h | h | h | h | h) | h | h <;> subst h <;> decide
theorem h_joinedV {d : Nat} {x : Int32} {a b : Int64} {s : LMem} {Q : LPost} (hx : jn x ∨ ((x = 10 ∨ x = 11) ∧ (a = 0 ∨ a = 1) ∧ (b = 0 ∨ b = 1))) (h : ∀ v, bdV v = wkL x a b → Q (some (lL v)) s) : qC false (d + 1) 77 [lI (opC x), lL a, lL b] s Q := by
  obtain ⟨o1, o2, o3, o4, o5, o6, o7, o8, o9, oo⟩ := opx (hx.imp id fun q => q.1)
  have tr2 : (x = 10 ∨ x = 11) → (a = 0 ∨ a = 1) ∧ (b = 0 ∨ b = 1) := fun q => by
    rcases hx with z | z
    · exfalso
      rcases q with q | q <;> subst q <;> exact absurd z (by decide)
    · exact z.2
  have i1 : ∀ {P : Prop} [Decidable P], P → bdV 1 = (if P then (1 : Int32) else 0) := fun p => by
    rw [if_pos p]
    decide
  have i0 : ∀ {P : Prop} [Decidable P], ¬ P → bdV 0 = (if P then (1 : Int32) else 0) := fun p => by
    rw [if_neg p]
    decide
  generalize opC x = c at *
  clear hx
  refine qC_of rfl rfl ?_
  refine qa_t1_W (cut := []) 40 ?_
  refine And.intro (fun e => h _ ?_) (fun n1 => ?_)
  · have e := o1 e
    obtain ⟨ha, hb⟩ := tr2 (Or.inl e)
    subst e
    rw [wkL_10]
    rcases ha with rfl | rfl <;> rcases hb with rfl | rfl <;> decide
  refine And.intro (fun e => h _ (by have e := o2 e; subst e; rw [wkL_4])) (fun n2 => ?_)
  refine And.intro (fun e => h _ (by have e := o3 e; subst e; rw [wkL_2])) (fun n3 => ?_)
  refine And.intro (fun e => h _ (by have e := o4 e; subst e; rw [wkL_3])) (fun n4 => ?_)
  refine And.intro (fun e => ?_) (fun n5 => ?_)
  · have e := o5 e
    subst e
    refine And.intro (fun g => h _ ?_) (fun g => ?_)
    · rw [wkL_5, if_pos (lg_e.mp g)]
      decide
    · have g : b ≠ 0 := fun z => g (lg_e.mpr z)
      exact And.intro g (h _ (by rw [wkL_5, if_neg g]))
  refine And.intro (fun e => ?_) (fun n6 => ?_)
  · have e := o6 e
    subst e
    rw [wkL_7] at h
    exact And.intro (fun g => h _ (i1 (lg_l.mp g))) (fun g => h _ (i0 (fun q => g (lg_l.mpr q))))
  refine And.intro (fun e => ?_) (fun n7 => ?_)
  · have e := o7 e
    subst e
    rw [wkL_6] at h
    exact And.intro (fun g => h _ (i1 (lg_e.mp g))) (fun g => h _ (i0 (fun q => g (lg_e.mpr q))))
  refine And.intro (fun e => ?_) (fun n8 => ?_)
  · have e := o8 e
    subst e
    rw [wkL_8] at h
    exact And.intro (fun g => h _ (i1 (lg_g.mp g))) (fun g => h _ (i0 (fun q => g (lg_g.mpr q))))
  refine And.intro (fun e => h _ ?_) (fun n9 => ?_)
  · have e := o9 e
    obtain ⟨ha, hb⟩ := tr2 (Or.inr e)
    subst e
    rw [wkL_11]
    rcases ha with rfl | rfl <;> rcases hb with rfl | rfl <;> decide
  · exfalso
    rcases oo with z | z | z | z | z | z | z | z | z
    · exact n1 z
    · exact n2 z
    · exact n3 z
    · exact n4 z
    · exact n5 z
    · exact n6 z
    · exact n7 z
    · exact n8 z
    · exact n9 z
/-! THE CLASS'S WORTH OF A LAW. -/
def ltV (s : LMem) (r : Nat) (ab rain i : Int32) : Int32 := if i = 0 then ab else if i = 1 then (if 0 < gI s 21 r 3 then gI s 21 r 6 / gI s 21 r 3 else 0) else if i = 2 then gI s 21 r 8 else if i = 3 then gI s 21 r 3 else if i = 4 then gI s 21 r 7 else if i = 5 then gI s 21 r 1 else if i = 6 then rain else gI s 21 r 11
theorem h_letterV {d r i : Nat} {ab rain : Int32} {s : LMem} {Q : LPost} (hi : i < 8) (h : Q (some (lI (ltV s r ab rain (nI i)))) s) : qC false (d + 1) 76 [lI (lcC (nI i)), lR 21 (some r), lI ab, lI rain] s Q := by
  have c8 : i = 0 ∨ i = 1 ∨ i = 2 ∨ i = 3 ∨ i = 4 ∨ i = 5 ∨ i = 6 ∨ i = 7 := by omega
  rcases c8 with rfl | rfl | rfl | rfl | rfl | rfl | rfl | rfl
  · show qC false (d + 1) 76 [lI 100, lR 21 (some r), lI ab, lI rain] s Q
    refine qC_of rfl rfl ?_
    refine qa_t1_W (cut := []) 30 ?_
    refine And.intro (fun _ => ?_) (fun n => absurd rfl n)
    exact h
  · show qC false (d + 1) 76 [lI 104, lR 21 (some r), lI ab, lI rain] s Q
    refine qC_of rfl rfl ?_
    refine qa_t1_W (cut := []) 30 ?_
    refine And.intro (fun e => absurd e (by decide)) (fun _ => ?_)
    refine And.intro (fun e => absurd e (by decide)) (fun _ => ?_)
    refine And.intro (fun e => absurd e (by decide)) (fun _ => ?_)
    refine And.intro (fun e => absurd e (by decide)) (fun _ => ?_)
    refine And.intro (fun _ => ?_) (fun n => absurd rfl n)
    have h : Q (some (lI (if 0 < gI s 21 r 3 then gI s 21 r 6 / gI s 21 r 3 else 0))) s := h
    refine And.intro (fun g => ?_) (fun g => ?_)
    · have g : 0 < gI s 21 r 3 := g
      rw [if_pos g] at h
      exact And.intro (fun z => by
        have z : gI s 21 r 3 = 0 := z
        rw [z] at g
        exact absurd g (by decide)) h
    · have g : ¬ 0 < gI s 21 r 3 := g
      rw [if_neg g] at h
      exact h
  · show qC false (d + 1) 76 [lI 114, lR 21 (some r), lI ab, lI rain] s Q
    refine qC_of rfl rfl ?_
    refine qa_t1_W (cut := []) 30 ?_
    refine And.intro (fun e => absurd e (by decide)) (fun _ => ?_)
    refine And.intro (fun e => absurd e (by decide)) (fun _ => ?_)
    refine And.intro (fun e => absurd e (by decide)) (fun _ => ?_)
    refine And.intro (fun e => absurd e (by decide)) (fun _ => ?_)
    refine And.intro (fun e => absurd e (by decide)) (fun _ => ?_)
    refine And.intro (fun e => absurd e (by decide)) (fun _ => ?_)
    refine And.intro (fun e => absurd e (by decide)) (fun _ => ?_)
    refine And.intro (fun e => absurd e (by decide)) (fun _ => ?_)
    refine And.intro (fun e => absurd e (by decide)) (fun _ => ?_)
    refine And.intro (fun e => absurd e (by decide)) (fun _ => ?_)
    refine And.intro (fun e => absurd e (by decide)) (fun _ => ?_)
    refine And.intro (fun e => absurd e (by decide)) (fun _ => ?_)
    refine And.intro (fun e => absurd e (by decide)) (fun _ => ?_)
    refine And.intro (fun e => absurd e (by decide)) (fun _ => ?_)
    refine And.intro (fun _ => ?_) (fun n => absurd rfl n)
    exact h
  · show qC false (d + 1) 76 [lI 119, lR 21 (some r), lI ab, lI rain] s Q
    refine qC_of rfl rfl ?_
    refine qa_t1_W (cut := []) 30 ?_
    refine And.intro (fun e => absurd e (by decide)) (fun _ => ?_)
    refine And.intro (fun e => absurd e (by decide)) (fun _ => ?_)
    refine And.intro (fun e => absurd e (by decide)) (fun _ => ?_)
    refine And.intro (fun e => absurd e (by decide)) (fun _ => ?_)
    refine And.intro (fun e => absurd e (by decide)) (fun _ => ?_)
    refine And.intro (fun e => absurd e (by decide)) (fun _ => ?_)
    refine And.intro (fun e => absurd e (by decide)) (fun _ => ?_)
    refine And.intro (fun e => absurd e (by decide)) (fun _ => ?_)
    refine And.intro (fun e => absurd e (by decide)) (fun _ => ?_)
    refine And.intro (fun e => absurd e (by decide)) (fun _ => ?_)
    refine And.intro (fun e => absurd e (by decide)) (fun _ => ?_)
    refine And.intro (fun e => absurd e (by decide)) (fun _ => ?_)
    refine And.intro (fun e => absurd e (by decide)) (fun _ => ?_)
    refine And.intro (fun e => absurd e (by decide)) (fun _ => ?_)
    refine And.intro (fun e => absurd e (by decide)) (fun _ => ?_)
    refine And.intro (fun e => absurd e (by decide)) (fun _ => ?_)
    refine And.intro (fun e => absurd e (by decide)) (fun _ => ?_)
    refine And.intro (fun e => absurd e (by decide)) (fun _ => ?_)
    refine And.intro (fun e => absurd e (by decide)) (fun _ => ?_)
    refine And.intro (fun _ => ?_) (fun n => absurd rfl n)
    exact h
  · show qC false (d + 1) 76 [lI 109, lR 21 (some r), lI ab, lI rain] s Q
    refine qC_of rfl rfl ?_
    refine qa_t1_W (cut := []) 30 ?_
    refine And.intro (fun e => absurd e (by decide)) (fun _ => ?_)
    refine And.intro (fun e => absurd e (by decide)) (fun _ => ?_)
    refine And.intro (fun e => absurd e (by decide)) (fun _ => ?_)
    refine And.intro (fun e => absurd e (by decide)) (fun _ => ?_)
    refine And.intro (fun e => absurd e (by decide)) (fun _ => ?_)
    refine And.intro (fun e => absurd e (by decide)) (fun _ => ?_)
    refine And.intro (fun e => absurd e (by decide)) (fun _ => ?_)
    refine And.intro (fun e => absurd e (by decide)) (fun _ => ?_)
    refine And.intro (fun e => absurd e (by decide)) (fun _ => ?_)
    refine And.intro (fun _ => ?_) (fun n => absurd rfl n)
    exact h
  · show qC false (d + 1) 76 [lI 115, lR 21 (some r), lI ab, lI rain] s Q
    refine qC_of rfl rfl ?_
    refine qa_t1_W (cut := []) 30 ?_
    refine And.intro (fun e => absurd e (by decide)) (fun _ => ?_)
    refine And.intro (fun e => absurd e (by decide)) (fun _ => ?_)
    refine And.intro (fun e => absurd e (by decide)) (fun _ => ?_)
    refine And.intro (fun e => absurd e (by decide)) (fun _ => ?_)
    refine And.intro (fun e => absurd e (by decide)) (fun _ => ?_)
    refine And.intro (fun e => absurd e (by decide)) (fun _ => ?_)
    refine And.intro (fun e => absurd e (by decide)) (fun _ => ?_)
    refine And.intro (fun e => absurd e (by decide)) (fun _ => ?_)
    refine And.intro (fun e => absurd e (by decide)) (fun _ => ?_)
    refine And.intro (fun e => absurd e (by decide)) (fun _ => ?_)
    refine And.intro (fun e => absurd e (by decide)) (fun _ => ?_)
    refine And.intro (fun e => absurd e (by decide)) (fun _ => ?_)
    refine And.intro (fun e => absurd e (by decide)) (fun _ => ?_)
    refine And.intro (fun e => absurd e (by decide)) (fun _ => ?_)
    refine And.intro (fun e => absurd e (by decide)) (fun _ => ?_)
    refine And.intro (fun _ => ?_) (fun n => absurd rfl n)
    exact h
  · show qC false (d + 1) 76 [lI 113, lR 21 (some r), lI ab, lI rain] s Q
    refine qC_of rfl rfl ?_
    refine qa_t1_W (cut := []) 30 ?_
    refine And.intro (fun e => absurd e (by decide)) (fun _ => ?_)
    refine And.intro (fun e => absurd e (by decide)) (fun _ => ?_)
    refine And.intro (fun e => absurd e (by decide)) (fun _ => ?_)
    refine And.intro (fun e => absurd e (by decide)) (fun _ => ?_)
    refine And.intro (fun e => absurd e (by decide)) (fun _ => ?_)
    refine And.intro (fun e => absurd e (by decide)) (fun _ => ?_)
    refine And.intro (fun e => absurd e (by decide)) (fun _ => ?_)
    refine And.intro (fun e => absurd e (by decide)) (fun _ => ?_)
    refine And.intro (fun e => absurd e (by decide)) (fun _ => ?_)
    refine And.intro (fun e => absurd e (by decide)) (fun _ => ?_)
    refine And.intro (fun e => absurd e (by decide)) (fun _ => ?_)
    refine And.intro (fun e => absurd e (by decide)) (fun _ => ?_)
    refine And.intro (fun e => absurd e (by decide)) (fun _ => ?_)
    refine And.intro (fun _ => ?_) (fun n => absurd rfl n)
    exact h
  · show qC false (d + 1) 76 [lI 110, lR 21 (some r), lI ab, lI rain] s Q
    refine qC_of rfl rfl ?_
    refine qa_t1_W (cut := []) 30 ?_
    refine And.intro (fun e => absurd e (by decide)) (fun _ => ?_)
    refine And.intro (fun e => absurd e (by decide)) (fun _ => ?_)
    refine And.intro (fun e => absurd e (by decide)) (fun _ => ?_)
    refine And.intro (fun e => absurd e (by decide)) (fun _ => ?_)
    refine And.intro (fun e => absurd e (by decide)) (fun _ => ?_)
    refine And.intro (fun e => absurd e (by decide)) (fun _ => ?_)
    refine And.intro (fun e => absurd e (by decide)) (fun _ => ?_)
    refine And.intro (fun e => absurd e (by decide)) (fun _ => ?_)
    refine And.intro (fun e => absurd e (by decide)) (fun _ => ?_)
    refine And.intro (fun e => absurd e (by decide)) (fun _ => ?_)
    refine And.intro (fun _ => ?_) (fun n => absurd rfl n)
    exact h
/-- only what waits is written -/
def ww_F (n : Nat) (s m : LMem) : Prop := (∀ k i j, ¬ (k = 11 ∧ i = n ∧ j < 40) → gI m k i j = gI s k i j) ∧ (∀ k i j, gL m k i j = gL s k i j) ∧ ∀ k i j, gR m k i j = gR s k i j
theorem ww_0 {n : Nat} {s : LMem} : ww_F n s s := ⟨fun _ _ _ _ => rfl, fun _ _ _ => rfl, fun _ _ _ => rfl⟩
theorem ww_s {n j : Nat} {s m : LMem} {v : Int32} (hj : j < 40) (h : ww_F n s m) : ww_F n s (sI m 11 n j v) := by
  refine ⟨fun k i j' hn => ?_, h.2.1, h.2.2⟩
  rw [gI_sI, if_neg (fun q => hn (by obtain ⟨rfl, rfl, rfl⟩ := q; exact ⟨rfl, rfl, hj⟩))]
  exact h.1 k i j' hn
section WC
variable {L : Int32 → Int32} {s : LMem} {n r : Nat} {ab rain : Int32}
theorem w_266 {d bc bs i : Nat} {top over : Int32} {o7 o8 : Option LV} {m : LMem} {Q : LPost} (h : qW false (d + 2) 74 bc bs 9 [some (lR 8 (some n)), some (lR 21 (some r)), some (lI ab), some (lI rain), some (lI top), some (lI over), some (lI (nI (i + 1))), o7, o8] [] m Q) : qW false (d + 2) 74 bc bs 266 [some (lR 8 (some n)), some (lR 21 (some r)), some (lI ab), some (lI rain), some (lI top), some (lI over), some (lI (nI i)), o7, o8] [] m Q := by
  rw [← nI_1] at h
  refine qa_t1_W (cut := [9]) 10 ?_
  exact h
/-- from the loop's head on: a sign that is not passed over -/
theorem w_9 {d bc bs i sz : Nat} {top over sg : Int32} {o7 o8 : Option LV} {m : LMem} {Q : LPost} (hm : ww_F n s m) (hs : gI s 8 n 2 = nI sz) (hi : i < sz) (hz : sz ≤ 200) (ho : over < nI i) (hsg : gI s 9 n i = sg) (h59 : sg ≠ 59) (h63 : sg ≠ 63) (h : ∀ o8, o8 = some (lI (if 97 ≤ sg.toInt ∧ sg.toInt ≤ 122 then 1 else 0)) → qW false (d + 2) 74 bc bs 127 [some (lR 8 (some n)), some (lR 21 (some r)), some (lI ab), some (lI rain), some (lI top), some (lI over), some (lI (nI i)), (some (lI sg)), o8] [] m Q) : qW false (d + 2) 74 bc bs 9 [some (lR 8 (some n)), some (lR 21 (some r)), some (lI ab), some (lI rain), some (lI top), some (lI over), some (lI (nI i)), o7, o8] [] m Q := by
  have ci : (nI i).toNatClampNeg = i := nI_clamp (by omega)
  have hvi : qa_vin (nI i) 200 := nI_in (by omega) (by decide)
  have e2 : gI m 8 n 2 = nI sz := (hm.1 8 n 2 (fun q => absurd q.1 (by decide))).trans hs
  have esg : gI m 9 n (nI i).toNatClampNeg = sg := by rw [ci, hm.1 9 n i (fun q => absurd q.1 (by decide)), hsg]
  have e97 : (97 : Int32).toInt = 97 := by decide
  have e122 : (122 : Int32).toInt = 122 := by decide
  subst esg
  refine qa_t1_W (cut := [9, 127, 266]) 100 ?_
  refine And.intro (fun _ => ?_) (fun c => absurd (show nI i < gI m 8 n 2 by rw [e2]; exact nI_lt hi (by omega)) c)
  refine And.intro (fun _ => ?_) (fun c => absurd (nI_lt (b := 200) (by omega) (by decide)) c)
  refine And.intro (fun _ => ?_) (fun c => absurd (nI_lt (b := 200) (by omega) (by decide)) c)
  refine And.intro hvi ?_
  refine And.intro (fun _ => ?_) (fun c => absurd ho c)
  refine And.intro (fun c => absurd c h59) (fun _ => ?_)
  refine And.intro (fun c => absurd c h63) (fun _ => ?_)
  refine And.intro (fun c => ?_) (fun c => And.intro (fun c2 => ?_) (fun c2 => ?_))
  · have c : gI m 9 n (nI i).toNatClampNeg < 97 := c
    have c := Int32.lt_iff_toInt_lt.mp c
    exact h _ (by rw [if_neg (fun q => by omega)])
  · have c2 : 122 < gI m 9 n (nI i).toNatClampNeg := c2
    have c2 := Int32.lt_iff_toInt_lt.mp c2
    exact h _ (by rw [if_neg (fun q => by omega)])
  · have c : ¬ gI m 9 n (nI i).toNatClampNeg < 97 := c
    have c2 : ¬ 122 < gI m 9 n (nI i).toNatClampNeg := c2
    have c : ¬ (gI m 9 n (nI i).toNatClampNeg).toInt < 97 := fun q => c (Int32.lt_iff_toInt_lt.mpr (by rw [e97]; exact q))
    have c2 : ¬ 122 < (gI m 9 n (nI i).toNatClampNeg).toInt := fun q => c2 (Int32.lt_iff_toInt_lt.mpr (by rw [e122]; exact q))
    exact h _ (by rw [if_pos ⟨by omega, by omega⟩])
theorem w_127l {d bc bs i i8 top : Nat} {over : Int32} {m : LMem} {Q : LPost} (hi8 : i8 < 8) (ht : top < 30) (hm : ww_F n s m) (hLt : bdV (ltV s r ab rain (nI i8)).toInt64 = L (nI i8)) (h : ∀ m' o7 o8, m' = sI m 11 n top (L (nI i8)) → qW false (d + 2) 74 bc bs 9 [some (lR 8 (some n)), some (lR 21 (some r)), some (lI ab), some (lI rain), some (lI (nI (top + 1))), some (lI over), some (lI (nI (i + 1))), o7, o8] [] m' Q) : qW false (d + 2) 74 bc bs 127 [some (lR 8 (some n)), some (lR 21 (some r)), some (lI ab), some (lI rain), some (lI (nI top)), some (lI over), some (lI (nI i)), (some (lI (lcC (nI i8)))), (some (lI 1))] [] m Q := by
  have ct : (nI top - 0).toNatClampNeg = top := by
    rw [Int32.sub_zero]
    exact nI_clamp (by omega)
  have hvt : qa_vin (nI top - 0) 40 := by
    rw [Int32.sub_zero]
    exact nI_in (by omega) (by decide)
  have t1 : nI top - 0 + 1 = nI (top + 1) := by rw [Int32.sub_zero, nI_1]
  have fin : qW false (d + 2) 74 bc bs 266 [some (lR 8 (some n)), some (lR 21 (some r)), some (lI ab), some (lI rain), some (lI (nI top - 0 + 1)), some (lI over), some (lI (nI i)), (some (lI (lcC (nI i8)))), (some (lI 1))] [] (sI m 11 n (nI top - 0).toNatClampNeg (L (nI i8))) Q := by
    rw [t1, ct]
    exact w_266 (h _ _ _ rfl)
  refine qa_t1_W (cut := [9, 266]) 100 ?_
  refine And.intro (fun c => absurd c (by decide)) (fun _ => ?_)
  refine And.intro (fun c => ?_) (fun _ => ?_)
  · have c : nI top - 0 < 0 := c
    rw [Int32.sub_zero] at c
    have c := Int32.lt_iff_toInt_lt.mp c
    rw [nI_toInt (by omega)] at c
    exact absurd c (by show ¬ (top : Int) < 0; omega)
  refine And.intro (fun _ => ?_) (fun c => ?_)
  · refine And.intro (fun c => absurd c (by decide)) (fun _ => ?_)
    have ee : ltV m r ab rain (nI i8) = ltV s r ab rain (nI i8) := by
      unfold ltV
      rw [hm.1 21 r 3 (fun q => absurd q.1 (by decide)), hm.1 21 r 6 (fun q => absurd q.1 (by decide)), hm.1 21 r 8 (fun q => absurd q.1 (by decide)), hm.1 21 r 7 (fun q => absurd q.1 (by decide)), hm.1 21 r 1 (fun q => absurd q.1 (by decide)), hm.1 21 r 11 (fun q => absurd q.1 (by decide))]
    refine h_letterV (d := d + 1) hi8 (Exists.intro _ (And.intro rfl ?_))
    refine h_withinV (d := d + 1) (Exists.intro _ (And.intro rfl ?_))
    rw [ee, hLt]
    exact And.intro hvt fin
  · have c : ¬ nI top - 0 + 1 < 40 := c
    rw [t1] at c
    exact absurd (nI_lt (b := 40) (by omega) (by decide)) c
theorem w_127n {d bc bs i top : Nat} {over v : Int32} {m : LMem} {Q : LPost} (ht : top < 30) (hi : i < 200) (hm : ww_F n s m) (hv : gI s 10 n i = v) (h : ∀ m' o7 o8, m' = sI m 11 n top v → qW false (d + 2) 74 bc bs 9 [some (lR 8 (some n)), some (lR 21 (some r)), some (lI ab), some (lI rain), some (lI (nI (top + 1))), some (lI over), some (lI (nI (i + 1))), o7, o8] [] m' Q) : qW false (d + 2) 74 bc bs 127 [some (lR 8 (some n)), some (lR 21 (some r)), some (lI ab), some (lI rain), some (lI (nI top)), some (lI over), some (lI (nI i)), (some (lI 48)), (some (lI 0))] [] m Q := by
  have ct : (nI top - 0).toNatClampNeg = top := by
    rw [Int32.sub_zero]
    exact nI_clamp (by omega)
  have hvt : qa_vin (nI top - 0) 40 := by
    rw [Int32.sub_zero]
    exact nI_in (by omega) (by decide)
  have hvi : qa_vin (nI i) 200 := nI_in (by omega) (by decide)
  have ev : gI m 10 n (nI i).toNatClampNeg = v := by rw [nI_clamp (by omega), hm.1 10 n i (fun q => absurd q.1 (by decide)), hv]
  have t1 : nI top - 0 + 1 = nI (top + 1) := by rw [Int32.sub_zero, nI_1]
  have fin : qW false (d + 2) 74 bc bs 266 [some (lR 8 (some n)), some (lR 21 (some r)), some (lI ab), some (lI rain), some (lI (nI top - 0 + 1)), some (lI over), some (lI (nI i)), (some (lI 48)), (some (lI 0))] [] (sI m 11 n (nI top - 0).toNatClampNeg (gI m 10 n (nI i).toNatClampNeg)) Q := by
    rw [t1, ct, ev]
    exact w_266 (h _ _ _ rfl)
  refine qa_t1_W (cut := [9, 266]) 100 ?_
  refine And.intro (fun _ => ?_) (fun c => absurd rfl c)
  refine And.intro (fun _ => ?_) (fun c => absurd rfl c)
  refine And.intro (fun c => ?_) (fun _ => ?_)
  · have c : nI top - 0 < 0 := c
    rw [Int32.sub_zero] at c
    have c := Int32.lt_iff_toInt_lt.mp c
    rw [nI_toInt (by omega)] at c
    exact absurd c (by show ¬ (top : Int) < 0; omega)
  refine And.intro (fun _ => ?_) (fun c => ?_)
  · refine And.intro (fun _ => ?_) (fun c => absurd rfl c)
    refine And.intro (fun _ => ?_) (fun c => absurd rfl c)
    refine And.intro hvi ?_
    exact And.intro hvt fin
  · have c : ¬ nI top - 0 + 1 < 40 := c
    rw [t1] at c
    exact absurd (nI_lt (b := 40) (by omega) (by decide)) c
theorem h_joinedN {d : Nat} {a b : Int64} {s : LMem} {Q : LPost} (h : Q (some (lL (if a = 0 then 1 else 0))) s) : qC false (d + 1) 77 [lI 33, lL a, lL b] s Q := by
  refine qC_of rfl rfl ?_
  refine qa_t1_W (cut := []) 40 ?_
  refine And.intro (fun e => absurd e (by decide)) (fun _ => ?_)
  refine And.intro (fun e => absurd e (by decide)) (fun _ => ?_)
  refine And.intro (fun e => absurd e (by decide)) (fun _ => ?_)
  refine And.intro (fun e => absurd e (by decide)) (fun _ => ?_)
  refine And.intro (fun e => absurd e (by decide)) (fun _ => ?_)
  refine And.intro (fun e => absurd e (by decide)) (fun _ => ?_)
  refine And.intro (fun e => absurd e (by decide)) (fun _ => ?_)
  refine And.intro (fun e => absurd e (by decide)) (fun _ => ?_)
  refine And.intro (fun e => absurd e (by decide)) (fun _ => ?_)
  refine And.intro (fun e => ?_) (fun e => ?_)
  · have e : a = 0 := lg_e.mp e
    rw [if_pos e] at h
    exact h
  · have e : ¬ a = 0 := fun q => e (lg_e.mpr q)
    rw [if_neg e] at h
    exact h
theorem w_127b {d bc bs i top : Nat} {over a : Int32} {m : LMem} {Q : LPost} (ht : top < 30) (hw : gI m 11 n top = a) (ha : tr a) (h : ∀ m' o7 o8, m' = sI m 11 n top (1 - a) → qW false (d + 2) 74 bc bs 9 [some (lR 8 (some n)), some (lR 21 (some r)), some (lI ab), some (lI rain), some (lI (nI (top + 1))), some (lI over), some (lI (nI (i + 1))), o7, o8] [] m' Q) : qW false (d + 2) 74 bc bs 127 [some (lR 8 (some n)), some (lR 21 (some r)), some (lI ab), some (lI rain), some (lI (nI (top + 1))), some (lI over), some (lI (nI i)), (some (lI 33)), (some (lI 0))] [] m Q := by
  have e1 : nI (top + 1) - 1 = nI top := nI_pred top
  have ct : (nI (top + 1) - 1).toNatClampNeg = top := by
    rw [e1]
    exact nI_clamp (by omega)
  have hvt : qa_vin (nI (top + 1) - 1) 40 := by
    rw [e1]
    exact nI_in (by omega) (by decide)
  have hvt2 : qa_vin (nI (top + 1) - 1 + 1) 40 := by
    rw [e1, nI_1]
    exact nI_in (by omega) (by decide)
  have t1 : nI (top + 1) - 1 + 1 = nI (top + 1) := by rw [e1, nI_1]
  have fin : qW false (d + 2) 74 bc bs 266 [some (lR 8 (some n)), some (lR 21 (some r)), some (lI ab), some (lI rain), some (lI (nI (top + 1) - 1 + 1)), some (lI over), some (lI (nI i)), (some (lI 33)), (some (lI 0))] [] (sI m 11 n (nI (top + 1) - 1).toNatClampNeg (1 - a)) Q := by
    rw [t1, ct]
    exact w_266 (h _ _ _ rfl)
  have ew : gI m 11 n (nI (top + 1) - 1).toNatClampNeg = a := by rw [ct, hw]
  refine qa_t1_W (cut := [9, 266]) 100 ?_
  refine And.intro (fun _ => ?_) (fun c => absurd rfl c)
  refine And.intro (fun c => absurd c (by decide)) (fun _ => ?_)
  refine And.intro (fun _ => ?_) (fun c => absurd rfl c)
  refine And.intro (fun c => ?_) (fun _ => ?_)
  · have c : nI (top + 1) - 1 < 0 := c
    rw [e1] at c
    have c := Int32.lt_iff_toInt_lt.mp c
    rw [nI_toInt (by omega)] at c
    exact absurd c (by show ¬ (top : Int) < 0; omega)
  refine And.intro (fun _ => ?_) (fun c => ?_)
  · refine And.intro (fun _ => ?_) (fun c => absurd rfl c)
    refine And.intro (fun c => absurd c (by decide)) (fun _ => ?_)
    refine And.intro hvt ?_
    refine And.intro hvt2 ?_
    have j : qC false (d + 2) 77 [lI 33, lL (gI m 11 n (nI (top + 1) - 1).toNatClampNeg).toInt64, lL (gI m 11 n (nI (top + 1) - 1 + 1).toNatClampNeg).toInt64] m (fun r' m' => ∃ v, r' = some (lL v) ∧ qC false (d + 2) 75 [lL v] m' (fun r'' m'' => ∃ u, r'' = some (lI u) ∧ (qa_vin (nI (top + 1) - 1) 40 ∧ qW false (d + 2) 74 bc bs 266 [some (lR 8 (some n)), some (lR 21 (some r)), some (lI ab), some (lI rain), some (lI (nI (top + 1) - 1 + 1)), some (lI over), some (lI (nI i)), (some (lI 33)), (some (lI 0))] [] (sI m'' 11 n (nI (top + 1) - 1).toNatClampNeg u) Q))) := by
      rw [ew]
      refine h_joinedN (d := d + 1) (Exists.intro _ (And.intro rfl ?_))
      refine h_withinV (d := d + 1) (Exists.intro _ (And.intro rfl ?_))
      refine And.intro hvt ?_
      have eb : bdV (if a.toInt64 = 0 then 1 else 0) = 1 - a := by
        rcases ha with ha | ha <;> subst ha <;> decide
      rw [eb]
      exact fin
    exact j
  · have c : ¬ nI (top + 1) - 1 + 1 < 40 := c
    rw [t1] at c
    exact absurd (nI_lt (b := 40) (by omega) (by decide)) c
theorem w_127t {d bc bs i top : Nat} {over x a c : Int32} {m : LMem} {Q : LPost} (ht : top < 30) (hwc : gI m 11 n top = c) (hwa : gI m 11 n (top + 1) = a) (hx : jn x ∨ ((x = 10 ∨ x = 11) ∧ tr a ∧ tr c)) (h : ∀ m' o7 o8, m' = sI m 11 n top (wkV x c a) → qW false (d + 2) 74 bc bs 9 [some (lR 8 (some n)), some (lR 21 (some r)), some (lI ab), some (lI rain), some (lI (nI (top + 1))), some (lI over), some (lI (nI (i + 1))), o7, o8] [] m' Q) : qW false (d + 2) 74 bc bs 127 [some (lR 8 (some n)), some (lR 21 (some r)), some (lI ab), some (lI rain), some (lI (nI (top + 2))), some (lI over), some (lI (nI i)), (some (lI (opC x))), (some (lI 0))] [] m Q := by
  have n48 : opC x ≠ 48 ∧ opC x ≠ 33 := by
    rcases hx with (h | h | h | h | h | h | h) | ⟨h | h, _⟩ <;> subst h <;> decide
  have e1 : nI (top + 2) - 2 = nI top := by
    rw [show (2 : Int32) = 1 + 1 from rfl, ← Int32.sub_sub]
    rw [nI_pred (top + 1), nI_pred top]
  have ct : (nI (top + 2) - 2).toNatClampNeg = top := by
    rw [e1]
    exact nI_clamp (by omega)
  have hvt : qa_vin (nI (top + 2) - 2) 40 := by
    rw [e1]
    exact nI_in (by omega) (by decide)
  have t1 : nI (top + 2) - 2 + 1 = nI (top + 1) := by rw [e1, nI_1]
  have hvt2 : qa_vin (nI (top + 2) - 2 + 1) 40 := by
    rw [t1]
    exact nI_in (by omega) (by decide)
  have fin : qW false (d + 2) 74 bc bs 266 [some (lR 8 (some n)), some (lR 21 (some r)), some (lI ab), some (lI rain), some (lI (nI (top + 2) - 2 + 1)), some (lI over), some (lI (nI i)), (some (lI (opC x))), (some (lI 0))] [] (sI m 11 n (nI (top + 2) - 2).toNatClampNeg (wkV x c a)) Q := by
    rw [t1, ct]
    exact w_266 (h _ _ _ rfl)
  have ew : gI m 11 n (nI (top + 2) - 2).toNatClampNeg = c := by rw [ct, hwc]
  have ew2 : gI m 11 n (nI (top + 2) - 2 + 1).toNatClampNeg = a := by rw [t1, nI_clamp (by omega), hwa]
  have tr64 : ∀ {z : Int32}, tr z → z.toInt64 = 0 ∨ z.toInt64 = 1 := fun q => by
    rcases q with q | q <;> subst q
    · exact Or.inl (by decide)
    · exact Or.inr (by decide)
  refine qa_t1_W (cut := [9, 266]) 100 ?_
  refine And.intro (fun _ => ?_) (fun c => absurd rfl c)
  refine And.intro (fun c => absurd c n48.1) (fun _ => ?_)
  refine And.intro (fun c => absurd c n48.2) (fun _ => ?_)
  refine And.intro (fun c => ?_) (fun _ => ?_)
  · have c : nI (top + 2) - 2 < 0 := c
    rw [e1] at c
    have c := Int32.lt_iff_toInt_lt.mp c
    rw [nI_toInt (by omega)] at c
    exact absurd c (by show ¬ (top : Int) < 0; omega)
  refine And.intro (fun _ => ?_) (fun c => ?_)
  · refine And.intro (fun _ => ?_) (fun c => absurd rfl c)
    refine And.intro (fun c => absurd c n48.1) (fun _ => ?_)
    refine And.intro hvt ?_
    refine And.intro hvt2 ?_
    have j : qC false (d + 2) 77 [lI (opC x), lL (gI m 11 n (nI (top + 2) - 2).toNatClampNeg).toInt64, lL (gI m 11 n (nI (top + 2) - 2 + 1).toNatClampNeg).toInt64] m (fun r' m' => ∃ v, r' = some (lL v) ∧ qC false (d + 2) 75 [lL v] m' (fun r'' m'' => ∃ u, r'' = some (lI u) ∧ (qa_vin (nI (top + 2) - 2) 40 ∧ qW false (d + 2) 74 bc bs 266 [some (lR 8 (some n)), some (lR 21 (some r)), some (lI ab), some (lI rain), some (lI (nI (top + 2) - 2 + 1)), some (lI over), some (lI (nI i)), (some (lI (opC x))), (some (lI 0))] [] (sI m'' 11 n (nI (top + 2) - 2).toNatClampNeg u) Q))) := by
      rw [ew, ew2]
      refine h_joinedV (d := d + 1) (hx.imp id (fun q => ⟨q.1, tr64 q.2.2, tr64 q.2.1⟩)) fun v ev => (Exists.intro _ (And.intro rfl ?_))
      refine h_withinV (d := d + 1) (Exists.intro _ (And.intro rfl ?_))
      refine And.intro hvt ?_
      rw [ev]
      exact fin
    exact j
  · have c : ¬ nI (top + 2) - 2 + 1 < 40 := c
    rw [t1] at c
    exact absurd (nI_lt (b := 40) (by omega) (by decide)) c
end WC
