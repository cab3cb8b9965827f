/-! The faces of both sides: sands, sinks, raised, falls. -/
section TF
variable {d : Nat} {s : LMem} {Q : LPost}
theorem h_isOwn11 {v : Int32} (h1 : 0 ≤ v.toInt → v.toInt ≤ 5 → Q (some (lI 1)) s) (h0 : ¬ (0 ≤ v.toInt ∧ v.toInt ≤ 5) → Q (some (lI 0)) s) : qC false (d + 2) 158 [lI v] s Q := by
  refine qC_of rfl rfl ?_
  refine qa_t1_W (cut := []) 20 ?_
  refine h_isIn (d := d) (fun g1 g2 => Exists.intro 1 (And.intro rfl ?_)) (fun g => Exists.intro 0 (And.intro rfl ?_))
  · exact And.intro (Or.inr rfl) (h1 g1 g2)
  · exact And.intro (Or.inl rfl) (h0 g)
theorem h_isOwn12 {v : Int32} (h1 : 0 ≤ v.toInt → v.toInt ≤ 5 → Q (some (lI 1)) s) (h0 : ¬ (0 ≤ v.toInt ∧ v.toInt ≤ 5) → Q (some (lI 0)) s) : qC false (d + 2) 260 [lI v] s Q := by
  refine qC_of rfl rfl ?_
  refine qa_t1_W (cut := []) 20 ?_
  refine h_in (d := d) (fun g1 g2 => Exists.intro 1 (And.intro rfl ?_)) (fun g => Exists.intro 0 (And.intro rfl ?_))
  · exact And.intro (Or.inr rfl) (h1 g1 g2)
  · exact And.intro (Or.inl rfl) (h0 g)
/-- isAsked -/
def isA (s : LMem) (a b : Int32) : Prop := ¬ gI s 33 0 35 = 0 ∧ (0 ≤ a.toInt ∧ a.toInt < (gI s 33 0 21).toInt) ∧ 0 ≤ b.toInt ∧ b.toInt < (gI s 33 0 22).toInt
theorem h_isAskedV {a b : Int32} (J : y_J x_X s) (h1 : isA s a b → Q (some (lI 1)) s) (h0 : ¬ isA s a b → Q (some (lI 0)) s) : qC false (d + 3) 288 [lR 33 (some 0), lI a, lI b] s Q := by
  obtain ⟨D, hD2, hD⟩ := y_nIof2 (N := 4) (x := gI s 33 0 21) (J.1 33 0 21 (21, 21, 0, 4) (by decide) (by decide) (by decide)).1 (J.1 33 0 21 (21, 21, 0, 4) (by decide) (by decide) (by decide)).2
  obtain ⟨R, hR2, hR⟩ := y_nIof2 (N := 4) (x := gI s 33 0 22) (J.1 33 0 22 (22, 22, 0, 4) (by decide) (by decide) (by decide)).1 (J.1 33 0 22 (22, 22, 0, 4) (by decide) (by decide) (by decide)).2
  refine qC_of rfl rfl ?_
  refine qa_t1_W (cut := []) 40 ?_
  refine And.intro (fun c => ?_) (fun c => ?_)
  · exact And.intro (Or.inl rfl) (h0 (fun q => q.1 c))
  · refine h_isD2 (d := d) hD (by omega) (fun x1 x2 => Exists.intro 1 (And.intro rfl ?_)) (fun xn => Exists.intro 0 (And.intro rfl ?_))
    · refine And.intro (fun q => absurd q (by decide)) (fun _ => ?_)
      refine h_isR2 (d := d) hR (by omega) (fun y1 y2 => Exists.intro 1 (And.intro rfl ?_)) (fun yn => Exists.intro 0 (And.intro rfl ?_))
      · exact And.intro (fun q => absurd q (by decide)) (fun _ => And.intro (Or.inr rfl) (h1 ⟨c, ⟨x1, x2⟩, y1, y2⟩))
      · exact And.intro (fun _ => And.intro (Or.inl rfl) (h0 (fun q => yn q.2.2))) (fun q => absurd rfl q)
    · exact And.intro (fun _ => And.intro (Or.inl rfl) (h0 (fun q => xn q.2.1))) (fun q => absurd rfl q)
/-- the class's condition -/
def isC (s : LMem) (a b : Int32) : Prop := ¬ gR s 17 0 4 = none ∧ (0 ≤ a.toInt ∧ a.toInt < (gI s 15 0 0).toInt) ∧ 0 ≤ b.toInt ∧ b.toInt < (gI s 15 0 2).toInt
theorem sk_11 {a b c q : Int32} (J : y_J x_X s) (hy : isC s a b → (1 ≤ c.toInt ∧ c.toInt ≤ 9) → (0 ≤ q.toInt ∧ q.toInt ≤ 999) → qC false (d + 19) 137 [lR 22 (some 0), lR 4 (some a.toNatClampNeg), lR 13 (some b.toNatClampNeg), lI c, lI q] s (fun r m => ∃ v, r = some (lI v) ∧ Q (some (lI v)) m)) (hn : ¬ (isC s a b ∧ (1 ≤ c.toInt ∧ c.toInt ≤ 9) ∧ 0 ≤ q.toInt ∧ q.toInt ≤ 999) → Q (some (lI (-1))) s) : qC false (d + 20) 189 [lR 0 (some 0), lI a, lI b, lI c, lI q] s Q := by
  have z0 : (0 : Int32).toInt = 0 := by decide
  have z1 : (1 : Int32).toInt = 1 := by decide
  have z9 : (9 : Int32).toInt = 9 := by decide
  have z999 : (999 : Int32).toInt = 999 := by decide
  refine qC_of rfl rfl ?_
  refine qa_t1_W (cut := []) 60 ?_
  refine h_findDitch (d := d + 15) J (fun x1 x2 => Or.inr (Exists.intro _ (And.intro rfl ?_))) (fun xn => Or.inl (And.intro rfl ?_))
  · refine h_findDug (d := d + 13) J (fun c0 y1 y2 => Or.inr (Exists.intro _ (And.intro rfl ?_))) (fun yn => Or.inl (And.intro rfl ?_))
    · have C : isC s a b := ⟨c0, ⟨x1, x2⟩, y1, y2⟩
      refine h_isIn (d := d + 18) (fun g1 g2 => Exists.intro 1 (And.intro rfl ?_)) (fun g => Exists.intro 0 (And.intro rfl ?_))
      · rw [z1] at g1
        rw [z9] at g2
        refine And.intro (fun q => absurd q (by decide)) (fun _ => ?_)
        refine h_isIn (d := d + 18) (fun w1 w2 => Exists.intro 1 (And.intro rfl ?_)) (fun w => Exists.intro 0 (And.intro rfl ?_))
        · rw [z0] at w1
          rw [z999] at w2
          exact And.intro (fun q => absurd q (by decide)) (fun _ => hy C ⟨g1, g2⟩ ⟨w1, w2⟩)
        · rw [z0, z999] at w
          exact And.intro (fun _ => hn (fun z => w z.2.2)) (fun q => absurd rfl q)
      · rw [z1, z9] at g
        exact And.intro (fun _ => hn (fun z => g z.2.1)) (fun q => absurd rfl q)
    · exact hn (fun z => yn ⟨z.1.1, z.1.2.2⟩)
  · refine h_findDug (d := d + 13) J (fun c0 y1 y2 => Or.inr (Exists.intro _ (And.intro rfl ?_))) (fun yn => Or.inl (And.intro rfl ?_))
    · exact hn (fun z => xn z.1.2.1)
    · exact hn (fun z => xn z.1.2.1)
theorem sk_12 {a b c q : Int32} (J : y_J x_X s) (hy : isA s a b → (1 ≤ c.toInt ∧ c.toInt ≤ 9) → (0 ≤ q.toInt ∧ q.toInt ≤ 999) → ∀ bc bs m, paF s m → qW false (d + 10) 290 bc bs 43 [some (lR 33 (some 0)), some (lI a), some (lI b), some (lI c), some (lI q), some (lI (-1)), some (lI 1)] [] m Q) (hn : ¬ (isA s a b ∧ (1 ≤ c.toInt ∧ c.toInt ≤ 9) ∧ 0 ≤ q.toInt ∧ q.toInt ≤ 999) → Q (some (lI (-1))) s) : qC false (d + 11) 290 [lR 33 (some 0), lI a, lI b, lI c, lI q] s Q := by
  have z0 : (0 : Int32).toInt = 0 := by decide
  have z1 : (1 : Int32).toInt = 1 := by decide
  have z9 : (9 : Int32).toInt = 9 := by decide
  have z999 : (999 : Int32).toInt = 999 := by decide
  refine qC_of rfl rfl ?_
  refine qa_t1_W (cut := [43]) 60 ?_
  refine h_isAskedV (d := d + 7) J (fun A => Exists.intro 1 (And.intro rfl ?_)) (fun A => Exists.intro 0 (And.intro rfl ?_))
  · refine And.intro (fun q => absurd q (by decide)) (fun _ => ?_)
    refine h_in (d := d + 9) (fun g1 g2 => Exists.intro 1 (And.intro rfl ?_)) (fun g => Exists.intro 0 (And.intro rfl ?_))
    · rw [z1] at g1
      rw [z9] at g2
      refine And.intro (fun q => absurd q (by decide)) (fun _ => ?_)
      refine h_in (d := d + 9) (fun w1 w2 => Exists.intro 1 (And.intro rfl ?_)) (fun w => Exists.intro 0 (And.intro rfl ?_))
      · rw [z0] at w1
        rw [z999] at w2
        refine And.intro (fun q => absurd q (by decide)) (fun _ => ?_)
        exact h_putV (d := d + 9) (fun m hm => And.intro rfl (hy A ⟨g1, g2⟩ ⟨w1, w2⟩ _ _ m hm))
      · rw [z0, z999] at w
        exact And.intro (fun _ => hn (fun z => w z.2.2)) (fun q => absurd rfl q)
    · rw [z1, z9] at g
      exact And.intro (fun _ => hn (fun z => g z.2.1)) (fun q => absurd rfl q)
  · exact And.intro (fun _ => hn (fun z => A z.1)) (fun q => absurd rfl q)
theorem rs_11 {a b c : Int32} (J : y_J x_X s) (hy : isC s a b → (0 ≤ c.toInt ∧ c.toInt ≤ 5) → qC false (d + 19) 136 [lR 22 (some 0), lR 4 (some a.toNatClampNeg), lR 13 (some b.toNatClampNeg), lI c] s (fun r m => ∃ v, r = some (lI v) ∧ Q (some (lI v)) m)) (hn : ¬ (isC s a b ∧ 0 ≤ c.toInt ∧ c.toInt ≤ 5) → Q (some (lI (-1))) s) : qC false (d + 20) 190 [lR 0 (some 0), lI a, lI b, lI c] s Q := by
  refine qC_of rfl rfl ?_
  refine qa_t1_W (cut := []) 60 ?_
  refine h_findDitch (d := d + 15) J (fun x1 x2 => Or.inr (Exists.intro _ (And.intro rfl ?_))) (fun xn => Or.inl (And.intro rfl ?_))
  · refine h_findDug (d := d + 13) J (fun c0 y1 y2 => Or.inr (Exists.intro _ (And.intro rfl ?_))) (fun yn => Or.inl (And.intro rfl ?_))
    · have C : isC s a b := ⟨c0, ⟨x1, x2⟩, y1, y2⟩
      refine h_isOwn11 (d := d + 17) (fun g1 g2 => Exists.intro 1 (And.intro rfl ?_)) (fun g => Exists.intro 0 (And.intro rfl ?_))
      · exact And.intro (fun q => absurd q (by decide)) (fun _ => hy C ⟨g1, g2⟩)
      · exact And.intro (fun _ => hn (fun z => g z.2)) (fun q => absurd rfl q)
    · exact hn (fun z => yn ⟨z.1.1, z.1.2.2⟩)
  · refine h_findDug (d := d + 13) J (fun c0 y1 y2 => Or.inr (Exists.intro _ (And.intro rfl ?_))) (fun yn => Or.inl (And.intro rfl ?_))
    · exact hn (fun z => xn z.1.2.1)
    · exact hn (fun z => xn z.1.2.1)
theorem rs_12 {a b c : Int32} (J : y_J x_X s) (hy : isA s a b → (0 ≤ c.toInt ∧ c.toInt ≤ 5) → ∀ bc bs m, paF s m → qW false (d + 10) 291 bc bs 28 [some (lR 33 (some 0)), some (lI a), some (lI b), some (lI c), some (lI (-1)), some (lI 0)] [] m Q) (hn : ¬ (isA s a b ∧ 0 ≤ c.toInt ∧ c.toInt ≤ 5) → Q (some (lI (-1))) s) : qC false (d + 11) 291 [lR 33 (some 0), lI a, lI b, lI c] s Q := by
  refine qC_of rfl rfl ?_
  refine qa_t1_W (cut := [28]) 60 ?_
  refine h_isAskedV (d := d + 7) J (fun A => Exists.intro 1 (And.intro rfl ?_)) (fun A => Exists.intro 0 (And.intro rfl ?_))
  · refine And.intro (fun q => absurd q (by decide)) (fun _ => ?_)
    refine h_isOwn12 (d := d + 8) (fun g1 g2 => Exists.intro 1 (And.intro rfl ?_)) (fun g => Exists.intro 0 (And.intro rfl ?_))
    · refine And.intro (fun q => absurd q (by decide)) (fun _ => ?_)
      exact h_putV (d := d + 9) (fun m hm => And.intro rfl (hy A ⟨g1, g2⟩ _ _ m hm))
    · exact And.intro (fun _ => hn (fun z => g z.2)) (fun q => absurd rfl q)
  · exact And.intro (fun _ => hn (fun z => A z.1)) (fun q => absurd rfl q)
theorem sd_11 {a b c : Int32} (J : y_J x_X s) (hy : isC s a b → (0 ≤ c.toInt ∧ c.toInt ≤ 2) → qC false (d + 19) 138 [lR 22 (some 0), lR 4 (some a.toNatClampNeg), lR 13 (some b.toNatClampNeg), lI c] s (fun r m => ∃ v, r = some (lI v) ∧ Q (some (lI v)) m)) (hn : ¬ (isC s a b ∧ 0 ≤ c.toInt ∧ c.toInt ≤ 2) → Q (some (lI (-1))) s) : qC false (d + 20) 188 [lR 0 (some 0), lI a, lI b, lI c] s Q := by
  have z0 : (0 : Int32).toInt = 0 := by decide
  have z2 : (2 : Int32).toInt = 2 := by decide
  refine qC_of rfl rfl ?_
  refine qa_t1_W (cut := []) 60 ?_
  refine h_findDitch (d := d + 15) J (fun x1 x2 => Or.inr (Exists.intro _ (And.intro rfl ?_))) (fun xn => Or.inl (And.intro rfl ?_))
  · refine h_findDug (d := d + 13) J (fun c0 y1 y2 => Or.inr (Exists.intro _ (And.intro rfl ?_))) (fun yn => Or.inl (And.intro rfl ?_))
    · have C : isC s a b := ⟨c0, ⟨x1, x2⟩, y1, y2⟩
      refine h_isIn (d := d + 18) (fun g1 g2 => Exists.intro 1 (And.intro rfl ?_)) (fun g => Exists.intro 0 (And.intro rfl ?_))
      · rw [z0] at g1
        rw [z2] at g2
        exact And.intro (fun q => absurd q (by decide)) (fun _ => hy C ⟨g1, g2⟩)
      · rw [z0, z2] at g
        exact And.intro (fun _ => hn (fun z => g z.2)) (fun q => absurd rfl q)
    · exact hn (fun z => yn ⟨z.1.1, z.1.2.2⟩)
  · refine h_findDug (d := d + 13) J (fun c0 y1 y2 => Or.inr (Exists.intro _ (And.intro rfl ?_))) (fun yn => Or.inl (And.intro rfl ?_))
    · exact hn (fun z => xn z.1.2.1)
    · exact hn (fun z => xn z.1.2.1)
theorem sd_12 {a b c : Int32} (J : y_J x_X s) (hy : isA s a b → (0 ≤ c.toInt ∧ c.toInt ≤ 2) → ∀ bc bs m, paF s m → qC false (d + 10) 287 [lR 33 (some 0), lI a, lI b, lI 0, lI (-1), lI 0] m (fun r m2 => r = none ∧ qW false (d + 10) 289 bc bs 39 [some (lR 33 (some 0)), some (lI a), some (lI b), some (lI c), some (lI 0), some (lI 1)] [] m2 Q)) (hn : ¬ (isA s a b ∧ 0 ≤ c.toInt ∧ c.toInt ≤ 2) → Q (some (lI (-1))) s) : qC false (d + 11) 289 [lR 33 (some 0), lI a, lI b, lI c] s Q := by
  have z0 : (0 : Int32).toInt = 0 := by decide
  have z2 : (2 : Int32).toInt = 2 := by decide
  refine qC_of rfl rfl ?_
  refine qa_t1_W (cut := [39]) 60 ?_
  refine h_isAskedV (d := d + 7) J (fun A => Exists.intro 1 (And.intro rfl ?_)) (fun A => Exists.intro 0 (And.intro rfl ?_))
  · refine And.intro (fun q => absurd q (by decide)) (fun _ => ?_)
    refine h_in (d := d + 9) (fun g1 g2 => Exists.intro 1 (And.intro rfl ?_)) (fun g => Exists.intro 0 (And.intro rfl ?_))
    · rw [z0] at g1
      rw [z2] at g2
      refine And.intro (fun q => absurd q (by decide)) (fun _ => ?_)
      exact h_putV (d := d + 9) (fun m hm => And.intro rfl (hy A ⟨g1, g2⟩ _ _ m hm))
    · rw [z0, z2] at g
      exact And.intro (fun _ => hn (fun z => g z.2)) (fun q => absurd rfl q)
  · exact And.intro (fun _ => hn (fun z => A z.1)) (fun q => absurd rfl q)
/-- falls: what is asked -/
def faP (R L : Int32) (n so w f r b : Int32) : Prop := (2 ≤ n.toInt ∧ n.toInt ≤ 20) ∧ (0 ≤ so.toInt ∧ so.toInt ≤ 2) ∧ (1 ≤ w.toInt ∧ w.toInt ≤ 9) ∧ (0 ≤ f.toInt ∧ f.toInt < L.toInt) ∧ (0 ≤ r.toInt ∧ r.toInt < R.toInt) ∧ 0 ≤ b.toInt ∧ b.toInt ≤ 99
theorem fa_11 {n so w f r b : Int32} (J : y_J x_X s) (hy : faP (gI s 15 0 2) (gI s 15 0 1) n so w f r b → qC false (d + 19) 139 [lR 22 (some 0), lI n, lI so, lI w, lR 8 (some f.toNatClampNeg), lR 13 (some r.toNatClampNeg), lI b] s (fun r m => ∃ v, r = some (lI v) ∧ Q (some (lI v)) m)) (hn : ¬ faP (gI s 15 0 2) (gI s 15 0 1) n so w f r b → Q (some (lI (-1))) s) : qC false (d + 20) 187 [lR 0 (some 0), lI n, lI so, lI w, lI f, lI r, lI b] s Q := by
  have z0 : (0 : Int32).toInt = 0 := by decide
  have z1 : (1 : Int32).toInt = 1 := by decide
  have z2 : (2 : Int32).toInt = 2 := by decide
  have z9 : (9 : Int32).toInt = 9 := by decide
  have z20 : (20 : Int32).toInt = 20 := by decide
  have z99 : (99 : Int32).toInt = 99 := by decide
  refine qC_of rfl rfl ?_
  refine qa_t1_W (cut := []) 80 ?_
  refine h_findLaw (d := d + 15) J (fun x1 x2 => Or.inr (Exists.intro _ (And.intro rfl ?_))) (fun xn => Or.inl (And.intro rfl ?_))
  · refine h_findRain (d := d + 15) J (fun y1 y2 => Or.inr (Exists.intro _ (And.intro rfl ?_))) (fun yn => Or.inl (And.intro rfl ?_))
    · refine h_isIn (d := d + 18) (fun b1 b2 => Exists.intro 1 (And.intro rfl ?_)) (fun bn => Exists.intro 0 (And.intro rfl ?_))
      · rw [z0] at b1
        rw [z99] at b2
        refine And.intro (fun q => absurd q (by decide)) (fun _ => ?_)
        refine h_isIn (d := d + 18) (fun n1 n2 => Exists.intro 1 (And.intro rfl ?_)) (fun nn => Exists.intro 0 (And.intro rfl ?_))
        · rw [z2] at n1
          rw [z20] at n2
          refine And.intro (fun q => absurd q (by decide)) (fun _ => ?_)
          refine h_isIn (d := d + 18) (fun s1 s2 => Exists.intro 1 (And.intro rfl ?_)) (fun sn => Exists.intro 0 (And.intro rfl ?_))
          · rw [z0] at s1
            rw [z2] at s2
            refine And.intro (fun q => absurd q (by decide)) (fun _ => ?_)
            refine h_isIn (d := d + 18) (fun w1 w2 => Exists.intro 1 (And.intro rfl ?_)) (fun wn => Exists.intro 0 (And.intro rfl ?_))
            · rw [z1] at w1
              rw [z9] at w2
              exact And.intro (fun q => absurd q (by decide)) (fun _ => hy ⟨⟨n1, n2⟩, ⟨s1, s2⟩, ⟨w1, w2⟩, ⟨x1, x2⟩, ⟨y1, y2⟩, b1, b2⟩)
            · rw [z1, z9] at wn
              exact And.intro (fun _ => hn (fun z => wn z.2.2.1)) (fun q => absurd rfl q)
          · rw [z0, z2] at sn
            exact And.intro (fun _ => hn (fun z => sn z.2.1)) (fun q => absurd rfl q)
        · rw [z2, z20] at nn
          exact And.intro (fun _ => hn (fun z => nn z.1)) (fun q => absurd rfl q)
      · rw [z0, z99] at bn
        exact And.intro (fun _ => hn (fun z => bn z.2.2.2.2.2)) (fun q => absurd rfl q)
    · exact hn (fun z => yn z.2.2.2.2.1)
  · refine h_findRain (d := d + 15) J (fun y1 y2 => Or.inr (Exists.intro _ (And.intro rfl ?_))) (fun yn => Or.inl (And.intro rfl ?_))
    · exact hn (fun z => xn z.2.2.2.1)
    · exact hn (fun z => xn z.2.2.2.1)
theorem fa_12 {n so w f r b : Int32} (J : y_J x_X s) (hy : faP (gI s 33 0 22) (gI s 33 0 13) n so w f r b → ∀ bc bs m, paF s m → qW false (d + 9) 286 bc bs 70 [some (lR 33 (some 0)), some (lI n), some (lI so), some (lI w), some (lI f), some (lI r), some (lI b), some (lI 0), some (lI 0), none] [] m Q) (hn : ¬ faP (gI s 33 0 22) (gI s 33 0 13) n so w f r b → Q (some (lI (-1))) s) : qC false (d + 10) 286 [lR 33 (some 0), lI n, lI so, lI w, lI f, lI r, lI b] s Q := by
  obtain ⟨D, hD2, hD⟩ := y_nIof2 (N := 6) (x := gI s 33 0 13) (J.1 33 0 13 (13, 13, 0, 6) (by decide) (by decide) (by decide)).1 (J.1 33 0 13 (13, 13, 0, 6) (by decide) (by decide) (by decide)).2
  obtain ⟨R, hR2, hR⟩ := y_nIof2 (N := 4) (x := gI s 33 0 22) (J.1 33 0 22 (22, 22, 0, 4) (by decide) (by decide) (by decide)).1 (J.1 33 0 22 (22, 22, 0, 4) (by decide) (by decide) (by decide)).2
  have z0 : (0 : Int32).toInt = 0 := by decide
  have z1 : (1 : Int32).toInt = 1 := by decide
  have z2 : (2 : Int32).toInt = 2 := by decide
  have z9 : (9 : Int32).toInt = 9 := by decide
  have z20 : (20 : Int32).toInt = 20 := by decide
  have z99 : (99 : Int32).toInt = 99 := by decide
  refine qC_of rfl rfl ?_
  refine qa_t1_W (cut := [70]) 80 ?_
  refine h_in (d := d + 8) (fun n1 n2 => Exists.intro 1 (And.intro rfl ?_)) (fun nn => Exists.intro 0 (And.intro rfl ?_))
  · rw [z2] at n1
    rw [z20] at n2
    refine And.intro (fun q => absurd q (by decide)) (fun _ => ?_)
    refine h_in (d := d + 8) (fun s1 s2 => Exists.intro 1 (And.intro rfl ?_)) (fun sn => Exists.intro 0 (And.intro rfl ?_))
    · rw [z0] at s1
      rw [z2] at s2
      refine And.intro (fun q => absurd q (by decide)) (fun _ => ?_)
      refine h_in (d := d + 8) (fun w1 w2 => Exists.intro 1 (And.intro rfl ?_)) (fun wn => Exists.intro 0 (And.intro rfl ?_))
      · rw [z1] at w1
        rw [z9] at w2
        refine And.intro (fun q => absurd q (by decide)) (fun _ => ?_)
        refine h_isL2 (d := d + 7) hD (by omega) (fun x1 x2 => Exists.intro 1 (And.intro rfl ?_)) (fun xn => Exists.intro 0 (And.intro rfl ?_))
        · refine And.intro (fun q => absurd q (by decide)) (fun _ => ?_)
          refine h_isR2 (d := d + 7) hR (by omega) (fun y1 y2 => Exists.intro 1 (And.intro rfl ?_)) (fun yn => Exists.intro 0 (And.intro rfl ?_))
          · refine And.intro (fun q => absurd q (by decide)) (fun _ => ?_)
            refine h_in (d := d + 8) (fun b1 b2 => Exists.intro 1 (And.intro rfl ?_)) (fun bn => Exists.intro 0 (And.intro rfl ?_))
            · rw [z0] at b1
              rw [z99] at b2
              refine And.intro (fun q => absurd q (by decide)) (fun _ => ?_)
              exact h_putV (d := d + 8) (fun m hm => And.intro rfl (hy ⟨⟨n1, n2⟩, ⟨s1, s2⟩, ⟨w1, w2⟩, ⟨x1, x2⟩, ⟨y1, y2⟩, b1, b2⟩ _ _ m hm))
            · rw [z0, z99] at bn
              exact And.intro (fun _ => hn (fun z => bn z.2.2.2.2.2)) (fun q => absurd rfl q)
          · exact And.intro (fun _ => hn (fun z => yn z.2.2.2.2.1)) (fun q => absurd rfl q)
        · exact And.intro (fun _ => hn (fun z => xn z.2.2.2.1)) (fun q => absurd rfl q)
      · rw [z1, z9] at wn
        exact And.intro (fun _ => hn (fun z => wn z.2.2.1)) (fun q => absurd rfl q)
    · rw [z0, z2] at sn
      exact And.intro (fun _ => hn (fun z => sn z.2.1)) (fun q => absurd rfl q)
  · rw [z2, z20] at nn
    exact And.intro (fun _ => hn (fun z => nn z.1)) (fun q => absurd rfl q)
end TF
