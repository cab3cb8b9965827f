/-! set: what both sides write. -/
theorem h_isIn {d : Nat} {v lo hi : Int32} {s : LMem} {Q : LPost} (h1 : lo.toInt ≤ v.toInt → v.toInt ≤ hi.toInt → Q (some (lI 1)) s) (h0 : ¬ (lo.toInt ≤ v.toInt ∧ v.toInt ≤ hi.toInt) → Q (some (lI 0)) s) : qC false (d + 1) 157 [lI v, lI lo, lI hi] s Q := by
  refine qC_of rfl rfl ?_
  refine qa_t1_W (cut := []) 20 ?_
  refine And.intro (fun c => ?_) (fun c => ?_)
  · have c := Int32.lt_iff_toInt_lt.mp c
    exact And.intro (Or.inl rfl) (h0 (fun q => by omega))
  · have c : ¬ v.toInt < lo.toInt := fun q => c (Int32.lt_iff_toInt_lt.mpr q)
    refine And.intro (fun c2 => ?_) (fun c2 => ?_)
    · have c2 := Int32.lt_iff_toInt_lt.mp c2
      exact And.intro (Or.inl rfl) (h0 (fun q => by omega))
    · have c2 : ¬ hi.toInt < v.toInt := fun q => c2 (Int32.lt_iff_toInt_lt.mpr q)
      exact And.intro (Or.inr rfl) (h1 (by omega) (by omega))
def stOK (w v : Int32) : Prop := 0 ≤ v.toInt ∧ ((w = 0 ∧ v.toInt ≤ 99) ∨ (w = 1 ∧ v.toInt ≤ 9) ∨ (w = 2 ∧ v.toInt ≤ 1))
theorem i32_0 : (0 : Int32).toInt = 0 := by decide
theorem i32_1 : (1 : Int32).toInt = 1 := by decide
theorem i32_2 : (2 : Int32).toInt = 2 := by decide
theorem i32_9 : (9 : Int32).toInt = 9 := by decide
theorem i32_99 : (99 : Int32).toInt = 99 := by decide
theorem st_11Q {d : Nat} {w v : Int32} {s : LMem} {Q : LPost} (hy : ∀ j, j ≤ 2 → w = nI j → stOK w v → Q (some (lI 1)) (sI s 16 0 j v)) (hn : ¬ stOK w v → Q (some (lI 0)) s) : qC false (d + 3) 161 [lR 0 (some 0), lI w, lI v] s Q := by
  refine qC_of rfl rfl ?_
  refine qa_t1_W (cut := []) 20 ?_
  refine qC_of rfl rfl ?_
  refine qa_t1_W (cut := []) 100 ?_
  by_cases e0 : w = 0
  · subst e0
    refine And.intro (fun _ => ?_) (fun q => absurd rfl q)
    refine h_isIn (fun g1 g2 => Exists.intro 1 (And.intro rfl ?_)) (fun g => Exists.intro 0 (And.intro rfl ?_))
    · refine And.intro (fun q => absurd q (by decide)) (fun _ => ?_)
      rw [i32_0] at g1
      rw [i32_99] at g2
      exact And.intro (Or.inr rfl) (Exists.intro 1 (And.intro rfl (And.intro (Or.inr rfl) (hy 0 (by decide) rfl ⟨g1, Or.inl ⟨rfl, g2⟩⟩))))
    · refine And.intro (fun _ => ?_) (fun q => absurd rfl q)
      rw [i32_0, i32_99] at g
      refine And.intro (fun q => absurd q (by decide)) (fun _ => ?_)
      refine And.intro (fun q => absurd q (by decide)) (fun _ => ?_)
      exact And.intro (Or.inl rfl) (Exists.intro 0 (And.intro rfl (And.intro (Or.inl rfl) (hn (fun q => by
        rcases q with ⟨q0, ⟨_, q1⟩ | ⟨q1, _⟩ | ⟨q1, _⟩⟩
        · exact g ⟨q0, q1⟩
        · exact absurd q1 (by decide)
        · exact absurd q1 (by decide))))))
  · refine And.intro (fun q => absurd q e0) (fun _ => ?_)
    by_cases e1 : w = 1
    · subst e1
      refine And.intro (fun _ => ?_) (fun q => absurd rfl q)
      refine h_isIn (fun g1 g2 => Exists.intro 1 (And.intro rfl ?_)) (fun g => Exists.intro 0 (And.intro rfl ?_))
      · refine And.intro (fun q => absurd q (by decide)) (fun _ => ?_)
        rw [i32_0] at g1
        rw [i32_9] at g2
        exact And.intro (Or.inr rfl) (Exists.intro 1 (And.intro rfl (And.intro (Or.inr rfl) (hy 1 (by decide) rfl ⟨g1, Or.inr (Or.inl ⟨rfl, g2⟩)⟩))))
      · refine And.intro (fun _ => ?_) (fun q => absurd rfl q)
        rw [i32_0, i32_9] at g
        refine And.intro (fun q => absurd q (by decide)) (fun _ => ?_)
        exact And.intro (Or.inl rfl) (Exists.intro 0 (And.intro rfl (And.intro (Or.inl rfl) (hn (fun q => by
          rcases q with ⟨q0, ⟨q1, _⟩ | ⟨_, q1⟩ | ⟨q1, _⟩⟩
          · exact absurd q1 (by decide)
          · exact g ⟨q0, q1⟩
          · exact absurd q1 (by decide))))))
    · refine And.intro (fun q => absurd q e1) (fun _ => ?_)
      by_cases e2 : w = 2
      · subst e2
        refine And.intro (fun _ => ?_) (fun q => absurd rfl q)
        refine h_isIn (fun g1 g2 => Exists.intro 1 (And.intro rfl ?_)) (fun g => Exists.intro 0 (And.intro rfl ?_))
        · refine And.intro (fun q => absurd q (by decide)) (fun _ => ?_)
          rw [i32_0] at g1
          rw [i32_1] at g2
          exact And.intro (Or.inr rfl) (Exists.intro 1 (And.intro rfl (And.intro (Or.inr rfl) (hy 2 (by decide) rfl ⟨g1, Or.inr (Or.inr ⟨rfl, g2⟩)⟩))))
        · refine And.intro (fun _ => ?_) (fun q => absurd rfl q)
          rw [i32_0, i32_1] at g
          exact And.intro (Or.inl rfl) (Exists.intro 0 (And.intro rfl (And.intro (Or.inl rfl) (hn (fun q => by
            rcases q with ⟨q0, ⟨q1, _⟩ | ⟨q1, _⟩ | ⟨_, q1⟩⟩
            · exact absurd q1 (by decide)
            · exact absurd q1 (by decide)
            · exact g ⟨q0, q1⟩)))))
      · refine And.intro (fun q => absurd q e2) (fun _ => ?_)
        exact And.intro (Or.inl rfl) (Exists.intro 0 (And.intro rfl (And.intro (Or.inl rfl) (hn (fun q => by
          rcases q with ⟨q0, ⟨q1, _⟩ | ⟨q1, _⟩ | ⟨q1, _⟩⟩
          · exact e0 q1
          · exact e1 q1
          · exact e2 q1)))))

theorem st_12Q {d : Nat} {w v : Int32} {s : LMem} {Q : LPost} (hy : ∀ x y z, ((w = 0 → x = v) ∧ (¬ w = 0 → x = gI s 33 0 23)) → ((w = 1 → y = v) ∧ (¬ w = 1 → y = gI s 33 0 24)) → ((w = 2 → z = v) ∧ (¬ w = 2 → z = gI s 33 0 25)) → stOK w v → Q (some (lI 1)) (sI (sI (sI s 33 0 23 x) 33 0 24 y) 33 0 25 z)) (hn : ¬ stOK w v → Q (some (lI 0)) s) : qC false (d + 2) 242 [lR 33 (some 0), lI w, lI v] s Q := by
  refine qC_of rfl rfl ?_
  refine qa_t1_W (cut := [39]) 100 ?_
  have t39 : stOK w v → qW false (d + 1) 242 0 0 39 [some (lR 33 (some 0)), some (lI w), some (lI v)] [] s Q := fun h => by
    have f23 : ∀ a, gI (sI s 33 0 23 a) 33 0 24 = gI s 33 0 24 := fun a => by rw [gI_sI, if_neg (by decide)]
    have f24 : ∀ a b, gI (sI (sI s 33 0 23 a) 33 0 24 b) 33 0 25 = gI s 33 0 25 := fun a b => by rw [gI_sI, if_neg (by decide), gI_sI, if_neg (by decide)]
    refine qa_t1_W (cut := []) 100 ?_
    refine And.intro (fun c0 => ?_) (fun c0 => ?_) <;> refine And.intro (fun c1 => ?_) (fun c1 => ?_) <;> refine And.intro (fun c2 => ?_) (fun c2 => ?_) <;> exact And.intro (Or.inr rfl) (hy _ _ _ (by first | exact ⟨fun q => absurd q c0, fun _ => rfl⟩ | exact ⟨fun _ => rfl, fun q => absurd c0 q⟩) (by first | exact ⟨fun q => absurd q c1, fun _ => f23 _⟩ | exact ⟨fun _ => rfl, fun q => absurd c1 q⟩) (by first | exact ⟨fun q => absurd q c2, fun _ => f24 _ _⟩ | exact ⟨fun _ => rfl, fun q => absurd c2 q⟩) h)
  refine h_in (fun g1 g2 => Exists.intro 1 (And.intro rfl ?_)) (fun g => Exists.intro 0 (And.intro rfl ?_))
  · refine And.intro (fun q => absurd q (by decide)) (fun _ => ?_)
    rw [i32_0] at g1
    rw [i32_2] at g2
    by_cases e0 : w = 0
    · subst e0
      refine And.intro (fun _ => ?_) (fun q => absurd rfl q)
      refine h_in (fun g1 g2 => Exists.intro 1 (And.intro rfl ?_)) (fun g => Exists.intro 0 (And.intro rfl ?_))
      · rw [i32_0] at g1
        rw [i32_99] at g2
        exact And.intro (fun q => absurd q (by decide)) (fun _ => t39 ⟨g1, Or.inl ⟨rfl, g2⟩⟩)
      · rw [i32_0, i32_99] at g
        exact And.intro (fun _ => And.intro (Or.inl rfl) (hn (fun q => by
          rcases q with ⟨q0, ⟨_, q1⟩ | ⟨q1, _⟩ | ⟨q1, _⟩⟩
          · exact g ⟨q0, q1⟩
          · exact absurd q1 (by decide)
          · exact absurd q1 (by decide)))) (fun q => absurd rfl q)
    · refine And.intro (fun q => absurd q e0) (fun _ => ?_)
      by_cases e1 : w = 1
      · subst e1
        refine And.intro (fun _ => ?_) (fun q => absurd rfl q)
        refine h_in (fun g1 g2 => Exists.intro 1 (And.intro rfl ?_)) (fun g => Exists.intro 0 (And.intro rfl ?_))
        · rw [i32_0] at g1
          rw [i32_9] at g2
          exact And.intro (fun q => absurd q (by decide)) (fun _ => t39 ⟨g1, Or.inr (Or.inl ⟨rfl, g2⟩)⟩)
        · rw [i32_0, i32_9] at g
          exact And.intro (fun _ => And.intro (Or.inl rfl) (hn (fun q => by
            rcases q with ⟨q0, ⟨q1, _⟩ | ⟨_, q1⟩ | ⟨q1, _⟩⟩
            · exact absurd q1 (by decide)
            · exact g ⟨q0, q1⟩
            · exact absurd q1 (by decide)))) (fun q => absurd rfl q)
      · refine And.intro (fun q => absurd q e1) (fun _ => ?_)
        have e2 : w = 2 := Int32.toInt_inj.mp (by
          have n0 : w.toInt ≠ 0 := fun q => e0 (Int32.toInt_inj.mp (by rw [q, i32_0]))
          have n1 : w.toInt ≠ 1 := fun q => e1 (Int32.toInt_inj.mp (by rw [q, i32_1]))
          rw [i32_2]
          omega)
        subst e2
        refine h_in (fun g1 g2 => Exists.intro 1 (And.intro rfl ?_)) (fun g => Exists.intro 0 (And.intro rfl ?_))
        · rw [i32_0] at g1
          rw [i32_1] at g2
          exact And.intro (fun q => absurd q (by decide)) (fun _ => t39 ⟨g1, Or.inr (Or.inr ⟨rfl, g2⟩)⟩)
        · rw [i32_0, i32_1] at g
          exact And.intro (fun _ => And.intro (Or.inl rfl) (hn (fun q => by
            rcases q with ⟨q0, ⟨q1, _⟩ | ⟨q1, _⟩ | ⟨_, q1⟩⟩
            · exact absurd q1 (by decide)
            · exact absurd q1 (by decide)
            · exact g ⟨q0, q1⟩))) (fun q => absurd rfl q)
  · rw [i32_0, i32_2] at g
    exact And.intro (fun _ => And.intro (Or.inl rfl) (hn (fun q => by
      rcases q with ⟨q0, ⟨q1, _⟩ | ⟨q1, _⟩ | ⟨q1, _⟩⟩ <;> subst q1
      · exact g (by decide)
      · exact g (by decide)
      · exact g (by decide)))) (fun q => absurd rfl q)

def stR (old new : Nat → Int32) (w v : Int32) : Prop := (stOK w v → ∀ j, j < 3 → (w = nI j → new j = v) ∧ (¬ w = nI j → new j = old j)) ∧ (¬ stOK w v → ∀ j, j < 3 → new j = old j)
theorem stR_det {o o2 n n2 : Nat → Int32} {w v : Int32} (ho : ∀ j, j < 3 → o j = o2 j) (h1 : stR o n w v) (h2 : stR o2 n2 w v) : ∀ j, j < 3 → n j = n2 j := fun j hj => by
  by_cases c : stOK w v
  · obtain ⟨a1, a2⟩ := h1.1 c j hj
    obtain ⟨b1, b2⟩ := h2.1 c j hj
    by_cases e : w = nI j
    · rw [a1 e, b1 e]
    · rw [a2 e, b2 e, ho j hj]
  · rw [h1.2 c j hj, h2.2 c j hj, ho j hj]
theorem st_11R {d : Nat} {w v : Int32} {s : LMem} : qC false (d + 3) 161 [lR 0 (some 0), lI w, lI v] s (fun r m => ((stOK w v ∧ r = some (lI 1)) ∨ (¬ stOK w v ∧ r = some (lI 0))) ∧ stR (fun j => gI s 16 0 j) (fun j => gI m 16 0 j) w v) := by
  refine st_11Q (fun i hi ei ok => ⟨Or.inl ⟨ok, rfl⟩, fun _ j hj => ⟨fun e => ?_, fun e => ?_⟩, fun q => absurd ok q⟩) (fun nok => ⟨Or.inr ⟨nok, rfl⟩, fun q => absurd q nok, fun _ _ _ => rfl⟩)
  · have : i = j := by
      rw [ei] at e
      have := congrArg Int32.toInt e
      rw [nI_toInt (by omega), nI_toInt (by omega)] at this
      omega
    show gI (sI s 16 0 i v) 16 0 j = v
    rw [gI_sI, if_pos ⟨rfl, rfl, this.symm⟩]
  · show gI (sI s 16 0 i v) 16 0 j = gI s 16 0 j
    rw [gI_sI, if_neg (fun q => e (by rw [ei, q.2.2]))]
theorem st_12R {d : Nat} {w v : Int32} {s : LMem} : qC false (d + 2) 242 [lR 33 (some 0), lI w, lI v] s (fun r m => ((stOK w v ∧ r = some (lI 1)) ∨ (¬ stOK w v ∧ r = some (lI 0))) ∧ stR (fun j => gI s 33 0 (23 + j)) (fun j => gI m 33 0 (23 + j)) w v) := by
  refine st_12Q (fun x y z hx hy hz ok => ⟨Or.inl ⟨ok, rfl⟩, fun _ j hj => ?_, fun q => absurd ok q⟩) (fun nok => ⟨Or.inr ⟨nok, rfl⟩, fun q => absurd q nok, fun _ _ _ => rfl⟩)
  rcases (show j = 0 ∨ j = 1 ∨ j = 2 by omega) with rfl | rfl | rfl
  · show (w = 0 → gI (sI (sI (sI s 33 0 23 x) 33 0 24 y) 33 0 25 z) 33 0 23 = v) ∧ (¬ w = 0 → gI (sI (sI (sI s 33 0 23 x) 33 0 24 y) 33 0 25 z) 33 0 23 = gI s 33 0 23)
    rw [gI_sI, if_neg (by decide), gI_sI, if_neg (by decide), gI_sI, if_pos ⟨rfl, rfl, rfl⟩]
    exact hx
  · show (w = 1 → gI (sI (sI (sI s 33 0 23 x) 33 0 24 y) 33 0 25 z) 33 0 24 = v) ∧ (¬ w = 1 → gI (sI (sI (sI s 33 0 23 x) 33 0 24 y) 33 0 25 z) 33 0 24 = gI s 33 0 24)
    rw [gI_sI, if_neg (by decide), gI_sI, if_pos ⟨rfl, rfl, rfl⟩]
    exact hy
  · show (w = 2 → gI (sI (sI (sI s 33 0 23 x) 33 0 24 y) 33 0 25 z) 33 0 25 = v) ∧ (¬ w = 2 → gI (sI (sI (sI s 33 0 23 x) 33 0 24 y) 33 0 25 z) 33 0 25 = gI s 33 0 25)
    rw [gI_sI, if_pos ⟨rfl, rfl, rfl⟩]
    exact hz
/-! BOTH HAVE DUG THE SAME: whether, how many reaches, days, by which laws and seed; the same weather. -/
def DK (s : LMem) (d k sd fl : Nat) : Prop := (gI s 33 0 fl = 0 ∧ gR s 17 d 4 = none ∧ gI s 17 d 5 = 0) ∨ (gI s 33 0 fl = 1 ∧ gR s 17 d 4 = some (20 * d) ∧ (gI s 17 d 5 = gI s k 0 272 ∧ 0 < (gI s 17 d 5).toInt) ∧ gI s 17 d 10 = gI s k 0 273 ∧ (∃ f : Nat, gR s 17 d 6 = some f ∧ gI s k 0 277 = nI f) ∧ ((gI s k 0 278 = -1 ∧ gR s 17 d 7 = none) ∨ ∃ g : Nat, gR s 17 d 7 = some g ∧ gI s k 0 278 = nI g) ∧ gL s 17 d 8 = gL s 33 0 sd)
def RD (s : LMem) : Prop := (∀ j, j < 3 → gI s 16 0 j = gI s 33 0 (23 + j)) ∧ gI s 33 0 37 = -1 ∧ DK s 0 48 30 35 ∧ DK s 2 50 34 36 ∧ (gI s 33 0 36 = 1 → gI s 33 0 35 = 1)
/-- what both sides keep of what is dug -/
def K17 (d : Nat) (s m : LMem) : Prop := gR m 17 d 4 = gR s 17 d 4 ∧ gI m 17 d 5 = gI s 17 d 5 ∧ gI m 17 d 10 = gI s 17 d 10 ∧ gR m 17 d 6 = gR s 17 d 6 ∧ gR m 17 d 7 = gR s 17 d 7 ∧ gL m 17 d 8 = gL s 17 d 8
def K48 (k sd fl : Nat) (s m : LMem) : Prop := (∀ j, j ∈ [272, 273, 277, 278] → gI m k 0 j = gI s k 0 j) ∧ gL m 33 0 sd = gL s 33 0 sd ∧ gI m 33 0 fl = gI s 33 0 fl
theorem DK_k {s m : LMem} {d k sd fl : Nat} (a : K17 d s m) (b : K48 k sd fl s m) (h : DK s d k sd fl) : DK m d k sd fl := by
  obtain ⟨a1, a2, a3, a4, a5, a6⟩ := a
  obtain ⟨b1, b2, b3⟩ := b
  unfold DK
  rw [a1, a2, a3, a4, a5, a6, b2, b3, b1 272 (by decide), b1 273 (by decide), b1 277 (by decide), b1 278 (by decide)]
  exact h
def KW (s m : LMem) : Prop := (∀ j, j < 3 → gI m 16 0 j = gI s 16 0 j) ∧ (∀ j, j < 3 → gI m 33 0 (23 + j) = gI s 33 0 (23 + j)) ∧ gI m 33 0 37 = gI s 33 0 37
theorem RD_k {s m : LMem} (w : KW s m) (a : K17 0 s m) (b : K48 48 30 35 s m) (c : K17 2 s m) (e : K48 50 34 36 s m) (h : RD s) : RD m := by
  obtain ⟨h1, h2, h3, h4, h5⟩ := h
  exact ⟨fun j hj => by rw [w.1 j hj, w.2.1 j hj, h1 j hj], by rw [w.2.2, h2], DK_k a b h3, DK_k c e h4, by rw [e.2.2, b.2.2]; exact h5⟩
theorem KW_rf (s : LMem) : KW s s := ⟨fun _ _ => rfl, fun _ _ => rfl, rfl⟩
theorem K17_rf (d : Nat) (s : LMem) : K17 d s s := ⟨rfl, rfl, rfl, rfl, rfl, rfl⟩
theorem K48_rf (k sd fl : Nat) (s : LMem) : K48 k sd fl s s := ⟨fun _ _ => rfl, rfl, rfl⟩
/-- frames: a list of writes that leaves places (k, i, j .. ) alone -/
def w_off (W : List YW) (k i j : Nat) : Bool := W.all fun w => !(Nat.beq w.1 k) || ((decide ((i : Int) < w.2.1) || decide (w.2.2.1 < (i : Int))) || (decide ((j : Int) < w.2.2.2.1) || decide (w.2.2.2.2 < (j : Int))))
theorem w_off_ok {W : List YW} {k i j : Nat} (h : w_off W k i j = true) : ¬ y_iW W k i j := by
  rintro ⟨w, hw, e, ⟨e1, e2⟩, e3, e4⟩
  have r := rt_o (List.all_eq_true.mp h w hw) (by rw [e]; exact Nat.beq_refl k)
  rcases (Bool.or_eq_true _ _).mp r with r | r
  · rcases (Bool.or_eq_true _ _).mp r with r | r <;> (have r := of_decide_eq_true r; omega)
  · rcases (Bool.or_eq_true _ _).mp r with r | r <;> (have r := of_decide_eq_true r; omega)
def o17 (W : List YW) (d : Nat) : Bool := [4, 5, 6, 7, 8, 10].all fun j => w_off W 17 d j
def o48 (W : List YW) (k sd fl : Nat) : Bool := ([272, 273, 277, 278].all fun j => w_off W k 0 j) && (w_off W 33 0 sd && w_off W 33 0 fl)
def oW (W : List YW) : Bool := ([0, 1, 2].all fun j => w_off W 16 0 j) && ([23, 24, 25, 37].all fun j => w_off W 33 0 j)
theorem o17_ok {W : List YW} {d : Nat} (h : o17 W d = true) {s m : LMem} (F : y_Fr W s m) : K17 d s m := by
  have g : ∀ j, j ∈ [4, 5, 6, 7, 8, 10] → ¬ y_iW W 17 d j := fun j hj => w_off_ok (List.all_eq_true.mp h j hj)
  exact ⟨(F 17 d 4 (g 4 (by decide))).2.2, (F 17 d 5 (g 5 (by decide))).1, (F 17 d 10 (g 10 (by decide))).1, (F 17 d 6 (g 6 (by decide))).2.2, (F 17 d 7 (g 7 (by decide))).2.2, (F 17 d 8 (g 8 (by decide))).2.1⟩
theorem o48_ok {W : List YW} {k sd fl : Nat} (h : o48 W k sd fl = true) {s m : LMem} (F : y_Fr W s m) : K48 k sd fl s m := by
  obtain ⟨h1, h2⟩ := qa_and h
  obtain ⟨h2, h3⟩ := qa_and h2
  exact ⟨fun j hj => (F k 0 j (w_off_ok (List.all_eq_true.mp h1 j hj))).1, (F 33 0 sd (w_off_ok h2)).2.1, (F 33 0 fl (w_off_ok h3)).1⟩
theorem oW_ok {W : List YW} (h : oW W = true) {s m : LMem} (F : y_Fr W s m) : KW s m := by
  obtain ⟨h1, h2⟩ := qa_and h
  have a : ∀ j, j < 3 → j ∈ [0, 1, 2] := fun j hj => by
    rcases (show j = 0 ∨ j = 1 ∨ j = 2 by omega) with rfl | rfl | rfl <;> decide
  have b : ∀ j, j < 3 → 23 + j ∈ [23, 24, 25, 37] := fun j hj => by
    rcases (show j = 0 ∨ j = 1 ∨ j = 2 by omega) with rfl | rfl | rfl <;> decide
  exact ⟨fun j hj => (F 16 0 j (w_off_ok (List.all_eq_true.mp h1 j (a j hj)))).1, fun j hj => (F 33 0 (23 + j) (w_off_ok (List.all_eq_true.mp h2 _ (b j hj)))).1, (F 33 0 37 (w_off_ok (List.all_eq_true.mp h2 37 (by decide)))).1⟩
def rq_W (W : List YW) : Bool := oW W && ((o17 W 0 && o48 W 48 30 35) && (o17 W 2 && o48 W 50 34 36))
theorem RD_fr {W : List YW} (h : rq_W W = true) {s m : LMem} (F : y_Fr W s m) (R : RD s) : RD m := by
  obtain ⟨h1, h2⟩ := qa_and h
  obtain ⟨h2, h3⟩ := qa_and h2
  obtain ⟨h2, h4⟩ := qa_and h2
  obtain ⟨h3, h5⟩ := qa_and h3
  exact RD_k (oW_ok h1 F) (o17_ok h2 F) (o48_ok h4 F) (o17_ok h3 F) (o48_ok h5 F) R
/-- now is as it was (RS); the flag is not written -/
def rq_S (W : List YW) : Bool := oW W && ((o17 W 0 && w_off W 33 0 35) && (o17 W 2 && o48 W 50 34 36))
theorem RD_rs {W : List YW} (h : rq_S W = true) {s m : LMem} (F : y_Fr W s m) (S : RS s m) (R : RD s) : RD m := by
  obtain ⟨h1, h2⟩ := qa_and h
  obtain ⟨h2, h3⟩ := qa_and h2
  obtain ⟨h2, h4⟩ := qa_and h2
  obtain ⟨h3, h5⟩ := qa_and h3
  refine RD_k (oW_ok h1 F) (o17_ok h2 F) ⟨fun j hj => S.1 j ?_, S.2.2, (F 33 0 35 (w_off_ok h4)).1⟩ (o17_ok h3 F) (o48_ok h5 F) R
  simp only [List.mem_cons, List.not_mem_nil, or_false] at hj
  omega
def zD (s : LMem) : Prop := zK s ∧ RD s
def lqd (s : LMem) (Q : LPost) : Prop := ∀ v s', zD s' → (∀ i j, gI s' 65 i j = gI s 65 i j) → Q (some (lI v)) s'
/-- a safe call by its contract -/
theorem sf_cond {ct : YCt} (H : y_con x_X ct) (hk : (Nat.ble ct.2.2.2.2.2 1200 && ((ct.2.2.2.1.all rk_w && rq_W ct.2.2.2.1) && ct.2.2.2.2.1.all sf_a)) = true) (hp : ct.2.2.1 = ([], [])) {As : List LV} {s : LMem} {Q : LPost} (hA : y_as ct.2.1 As) (hJ : zD s) (h : lqd s Q) : qC false 1200 ct.1 As s Q := by
  obtain ⟨k1, k2⟩ := qa_and hk
  obtain ⟨k2, k3⟩ := qa_and k2
  obtain ⟨k2, k4⟩ := qa_and k2
  have k5 := (rk_s k2).1
  refine H 1200 (Nat.le_of_ble_eq_true k1) As s Q hA hJ.1.1.1 (by rw [hp]; exact ⟨y_msnil, fun _ q => absurd q List.not_mem_nil⟩) fun r s' hr J' F' => ?_
  obtain ⟨a, ha, h1, _⟩ := hr
  have h3 := List.all_eq_true.mp k3 a ha
  obtain ⟨a1, a2⟩ := a
  rcases a1 with _ | b | b
  · cases h3
  · rcases r with _ | v
    · exact h1.elim
    · have h1 : y_sv (.inl b) v := h1
      obtain ⟨x, rfl, _, _⟩ := y_aI h1
      exact h x s' ⟨⟨⟨J', rt_fr k5 F' hJ.1.1.2⟩, RC_fr k2 hJ.1.1.1 F' hJ.1.2⟩, RD_fr k4 F' hJ.2⟩ (rt_k k5 F').2.2.2.1
  · cases h3
/-- a safe call that tries things apart -/
theorem sf_conR {ct : YCt} (H : ∀ s0, y_con (xR s0) ct) (hk : (Nat.ble ct.2.2.2.2.2 1200 && ((ct.2.2.2.1.all rk_w && rq_S ct.2.2.2.1) && ct.2.2.2.2.1.all sf_a)) = true) (hp : ct.2.2.1 = ([], [])) {As : List LV} {s : LMem} {Q : LPost} (hA : y_as ct.2.1 As) (hJ : zD s) (h : lqd s Q) : qC false 1200 ct.1 As s Q := by
  obtain ⟨k1, k2⟩ := qa_and hk
  obtain ⟨k2, k3⟩ := qa_and k2
  obtain ⟨k2, k4⟩ := qa_and k2
  have k5 := (rk_s k2).1
  refine H s 1200 (Nat.le_of_ble_eq_true k1) As s Q hA (J_xR hJ.1.1.1 (RS_rf s)) (by rw [hp]; exact ⟨y_msnil, fun _ q => absurd q List.not_mem_nil⟩) fun r s' hr J' F' => ?_
  obtain ⟨a, ha, h1, _⟩ := hr
  have h3 := List.all_eq_true.mp k3 a ha
  obtain ⟨a1, a2⟩ := a
  rcases a1 with _ | b | b
  · cases h3
  · rcases r with _ | v
    · exact h1.elim
    · have h1 : y_sv (.inl b) v := h1
      obtain ⟨x, rfl, _, _⟩ := y_aI h1
      exact h x s' ⟨⟨⟨xR_J J', rt_fr k5 F' hJ.1.1.2⟩, RC_fr k2 hJ.1.1.1 F' hJ.1.2⟩, RD_rs k4 F' J'.2.2.2 hJ.2⟩ (rt_k k5 F').2.2.2.1
  · cases h3
/-- whose: clear is NONE before and behind it -/
def oWc (W : List YW) : Bool := ([0, 1, 2].all fun j => w_off W 16 0 j) && ([23, 24, 25].all fun j => w_off W 33 0 j)
theorem sfd_X12_whose (a0 : Int32) (a1 : Int32) (a2 : Int32) {s : LMem} {Q : LPost} (hJ : zD s) (h : lqd s Q) : qC false 1200 299 [lR 33 (some 0), lI a0, lI a1, lI a2] s Q := by
  have C := v_all (xR_cl (s0 := s) (V := []) rfl) (v_hand s) vk_X12_whose (List.mem_of_getElem? (i := 11) rfl)
  have k2 : vk_X12_whose.2.2.2.1.all rk_w = true := by decide +kernel
  have k5 := (rk_s k2).1
  refine C 1200 (by decide) [lR 33 (some 0), lI a0, lI a1, lI a2] s Q ⟨y_rcv, z_in_top _, z_in_top _, z_in_top _, trivial⟩ (J_xR hJ.1.1.1 (RS_rf s)) ⟨fun q hq => ?_, fun _ q => absurd q List.not_mem_nil⟩ fun r s' hr J' F' => ?_
  · have hq : q ∈ [((33 : Nat), (0 : Nat), (37 : Nat), (Sum.inl (-1, -1) : YA))] := hq
    rw [List.mem_singleton.mp hq]
    show (-1 : Int) ≤ (gI s 33 0 37).toInt ∧ (gI s 33 0 37).toInt ≤ -1
    rw [hJ.2.2.1]
    decide
  · obtain ⟨a, ha, h1, h2⟩ := hr
    have ha : a ∈ [((some (.inl (-2147483648, 2147483647)) : Option YA), [((33 : Nat), (0 : Nat), (37 : Nat), (Sum.inl (-1, -1) : YA))])] := ha
    rw [List.mem_singleton.mp ha] at h1 h2
    rcases r with _ | v
    · exact h1.elim
    · obtain ⟨x, rfl, _, _⟩ := y_aI (show y_sv (.inl (-2147483648, 2147483647)) v from h1)
      have c := h2 _ List.mem_cons_self
      have c1 : (-1 : Int) ≤ (gI s' 33 0 37).toInt := c.1
      have c2 : (gI s' 33 0 37).toInt ≤ (-1 : Int) := c.2
      have e37 : gI s' 33 0 37 = -1 := Int32.toInt_inj.mp (show (gI s' 33 0 37).toInt = -1 by omega)
      have S := J'.2.2.2
      have K : RD s' := by
        have g : ([0, 1, 2].all fun j => w_off vk_X12_whose.2.2.2.1 16 0 j) = true := by decide +kernel
        have g2 : ([23, 24, 25].all fun j => w_off vk_X12_whose.2.2.2.1 33 0 j) = true := by decide +kernel
        refine RD_k ⟨fun j hj => (F' 16 0 j (w_off_ok (List.all_eq_true.mp g j ?_))).1, fun j hj => (F' 33 0 (23 + j) (w_off_ok (List.all_eq_true.mp g2 _ ?_))).1, e37.trans hJ.2.2.1.symm⟩ (o17_ok (by decide +kernel) F') ⟨fun j hj => S.1 j ?_, S.2.2, (F' 33 0 35 (w_off_ok (by decide +kernel))).1⟩ (o17_ok (by decide +kernel) F') (o48_ok (by decide +kernel) F') hJ.2
        · rcases (show j = 0 ∨ j = 1 ∨ j = 2 by omega) with rfl | rfl | rfl <;> decide
        · rcases (show j = 0 ∨ j = 1 ∨ j = 2 by omega) with rfl | rfl | rfl <;> decide
        · simp only [List.mem_cons, List.not_mem_nil, or_false] at hj
          omega
      exact h x s' ⟨⟨⟨xR_J J', rt_fr k5 F' hJ.1.1.2⟩, RC_fr k2 hJ.1.1.1 F' hJ.1.2⟩, K⟩ (rt_k k5 F').2.2.2.1
/-! PAIRS of calls: both have dug the same, still. -/
abbrev prd (s1 : LMem) (v : Int32) : LPost := fun r s2 => r = some (lI v) ∧ zD s2 ∧ ∀ i j, gI s2 65 i j = gI s1 65 i j
section PDL
variable {s : LMem} {Q : LPost}
theorem rdc {d : Nat} {ct : YCt} (H : y_con x_X ct) (hd : ct.2.2.2.2.2 ≤ d) (hp : ct.2.2.1 = ([], [])) {As : List LV} (hA : y_as ct.2.1 As) (hJ : y_J x_X s) (hw : rq_W ct.2.2.2.1 = true) (R : RD s) : qC false d ct.1 As s (fun _ s' => RD s') := qC_mono (fr_con H hd hp hA hJ) fun _ _ q => RD_fr hw q.2 R
theorem prd_end {p : Int32} (hJ : zD s) (h : ∀ v s1, y_J x_X s1 → (∀ i j, gI s1 65 i j = gI s 65 i j) → (∀ p', p' = p → qC false 1200 203 [lR 33 (some 0), lI p'] s1 (prd s1 v)) → Q (some (lI v)) s1) : qC false 1200 144 [lR 0 (some 0), lI p] s Q := by
  have a0 := prk_end (p := p) (s := s) (Q := fun r s1 => ∃ v, r = some (lI v) ∧ y_J x_X s1 ∧ (∀ i j, gI s1 65 i j = gI s 65 i j) ∧ ∀ p', p' = p → qC false 1200 203 [lR 33 (some 0), lI p'] s1 (prk s1 v)) hJ.1 (fun v s1 a b c => ⟨v, rfl, a, b, c⟩)
  have b0 : qC false 1200 144 [lR 0 (some 0), lI p] s (fun _ m => RD m) := rdc (d := 1200) (As := [lR 0 (some 0), lI p]) (y_all x_X_cl h_all0 yk_X11_end (List.mem_of_getElem? (i := 186) rfl)) (by decide) rfl ⟨y_rcv, z_in_top _, trivial⟩ hJ.1.1.1 (by decide +kernel) hJ.2
  refine qC_mono (qC_and a0 b0) fun r s1 q => ?_
  obtain ⟨⟨v, rfl, J1, X1, c⟩, R1⟩ := q
  refine h v s1 J1 X1 fun p' ep => ?_
  have b2 : qC false 1200 203 [lR 33 (some 0), lI p'] s1 (fun _ m => RD m) := rdc (d := 1200) (y_all x_X_cl h_all0 yk_X12_end (List.mem_of_getElem? (i := 187) rfl)) (by decide) rfl ⟨y_rcv, z_in_top _, trivial⟩ J1 (by decide +kernel) R1
  refine qC_mono (qC_and (c _ ep) b2) fun r s2 q => ?_
  obtain ⟨⟨e, z2, x2⟩, R2⟩ := q
  exact ⟨e, ⟨z2, R2⟩, x2⟩
theorem prd_feed {a : Int32} {b : Int32} {e : Int32} {f : Int32} {g : Int32} (hJ : zD s) (h : ∀ v s1, y_J x_X s1 → (∀ i j, gI s1 65 i j = gI s 65 i j) → (∀ a' b' e' f' g', a' = a → b' = b → e' = e → f' = f → g' = g → qC false 1200 202 [lR 33 (some 0), lI a', lI b', lI e', lI f', lI g'] s1 (prd s1 v)) → Q (some (lI v)) s1) : qC false 1200 143 [lR 0 (some 0), lI a, lI b, lI e, lI f, lI g] s Q := by
  have a0 := prk_feed (a := a) (b := b) (e := e) (f := f) (g := g) (s := s) (Q := fun r s1 => ∃ v, r = some (lI v) ∧ y_J x_X s1 ∧ (∀ i j, gI s1 65 i j = gI s 65 i j) ∧ ∀ a' b' e' f' g', a' = a → b' = b → e' = e → f' = f → g' = g → qC false 1200 202 [lR 33 (some 0), lI a', lI b', lI e', lI f', lI g'] s1 (prk s1 v)) hJ.1 (fun v s1 a b c => ⟨v, rfl, a, b, c⟩)
  have b0 : qC false 1200 143 [lR 0 (some 0), lI a, lI b, lI e, lI f, lI g] s (fun _ m => RD m) := rdc (d := 1200) (As := [lR 0 (some 0), lI a, lI b, lI e, lI f, lI g]) (y_all x_X_cl h_all0 yk_X11_feed (List.mem_of_getElem? (i := 149) rfl)) (by decide) rfl ⟨y_rcv, z_in_top _, z_in_top _, z_in_top _, z_in_top _, z_in_top _, trivial⟩ hJ.1.1.1 (by decide +kernel) hJ.2
  refine qC_mono (qC_and a0 b0) fun r s1 q => ?_
  obtain ⟨⟨v, rfl, J1, X1, c⟩, R1⟩ := q
  refine h v s1 J1 X1 fun a' b' e' f' g' ea eb ee ef eg => ?_
  have b2 : qC false 1200 202 [lR 33 (some 0), lI a', lI b', lI e', lI f', lI g'] s1 (fun _ m => RD m) := rdc (d := 1200) h_X12_feed (by decide) rfl ⟨y_rcv, z_in_top _, z_in_top _, z_in_top _, z_in_top _, z_in_top _, trivial⟩ J1 (by decide +kernel) R1
  refine qC_mono (qC_and (c _ _ _ _ _ ea eb ee ef eg) b2) fun r s2 q => ?_
  obtain ⟨⟨e, z2, x2⟩, R2⟩ := q
  exact ⟨e, ⟨z2, R2⟩, x2⟩
theorem fwD {p : Int32} (hJ : y_J x_X s) (R : RD s) : qC false 1200 235 [lR 33 (some 0), lI p] s (fun _ m => RD m) := by
  by_cases e0 : p = 0
  · subst e0
    exact rdc (d := 1200) (As := [lR 33 (some 0), lI 0]) h_X12_fault_0 (by decide) rfl ⟨y_rcv, ⟨by decide, by decide⟩, trivial⟩ hJ (by decide +kernel) R
  by_cases e1 : p = 1
  · subst e1
    exact rdc (d := 1200) (As := [lR 33 (some 0), lI 1]) h_X12_fault_1 (by decide) rfl ⟨y_rcv, ⟨by decide, by decide⟩, trivial⟩ hJ (by decide +kernel) R
  by_cases e2 : p = 2
  · subst e2
    exact rdc (d := 1200) (As := [lR 33 (some 0), lI 2]) h_X12_fault_2 (by decide) rfl ⟨y_rcv, ⟨by decide, by decide⟩, trivial⟩ hJ (by decide +kernel) R
  exact h_fault_no (d := 1199) e0 e1 e2 R
theorem prd_fault {p : Int32} (hJ : zD s) (h : ∀ v s1, y_J x_X s1 → (∀ i j, gI s1 65 i j = gI s 65 i j) → (∀ p', p' = p → qC false 1200 235 [lR 33 (some 0), lI p'] s1 (prd s1 v)) → Q (some (lI v)) s1) : qC false 1200 145 [lR 0 (some 0), lI p] s Q := by
  have a0 := prk_fault (p := p) (s := s) (Q := fun r s1 => ∃ v, r = some (lI v) ∧ y_J x_X s1 ∧ (∀ i j, gI s1 65 i j = gI s 65 i j) ∧ ∀ p', p' = p → qC false 1200 235 [lR 33 (some 0), lI p'] s1 (prk s1 v)) hJ.1 (fun v s1 a b c => ⟨v, rfl, a, b, c⟩)
  have b0 : qC false 1200 145 [lR 0 (some 0), lI p] s (fun _ m => RD m) := rdc (d := 1200) (As := [lR 0 (some 0), lI p]) (y_all x_X_cl h_all0 yk_X11_fault (List.mem_of_getElem? (i := 0) rfl)) (by decide) rfl ⟨y_rcv, z_in_top _, trivial⟩ hJ.1.1.1 (by decide +kernel) hJ.2
  refine qC_mono (qC_and a0 b0) fun r s1 q => ?_
  obtain ⟨⟨v, rfl, J1, X1, c⟩, R1⟩ := q
  refine h v s1 J1 X1 fun p' ep => ?_
  have b2 : qC false 1200 235 [lR 33 (some 0), lI p'] s1 (fun _ m => RD m) := fwD J1 R1
  refine qC_mono (qC_and (c _ ep) b2) fun r s2 q => ?_
  obtain ⟨⟨e, z2, x2⟩, R2⟩ := q
  exact ⟨e, ⟨z2, R2⟩, x2⟩
theorem prd_text0 (hJ : zD s) (h : ∀ v s1, y_J x_X s1 → (∀ i j, gI s1 65 i j = gI s 65 i j) → qC false 1200 236 [lR 33 (some 0), lI 0] s1 (prd s1 v) → Q (some (lI v)) s1) : qC false 1200 146 [lR 0 (some 0), lI 0] s Q := by
  have a0 := prk_text0 (s := s) (Q := fun r s1 => ∃ v, r = some (lI v) ∧ y_J x_X s1 ∧ (∀ i j, gI s1 65 i j = gI s 65 i j) ∧ qC false 1200 236 [lR 33 (some 0), lI 0] s1 (prk s1 v)) hJ.1 (fun v s1 a b c => ⟨v, rfl, a, b, c⟩)
  have b0 : qC false 1200 146 [lR 0 (some 0), lI 0] s (fun _ m => RD m) := rdc (d := 1200) (As := [lR 0 (some 0), lI 0]) (y_all x_X_cl h_all0 yk_X11_text_1 (List.mem_of_getElem? (i := 100) rfl)) (by decide) rfl ⟨y_rcv, ⟨by decide, by decide⟩, trivial⟩ hJ.1.1.1 (by decide +kernel) hJ.2
  refine qC_mono (qC_and a0 b0) fun r s1 q => ?_
  obtain ⟨⟨v, rfl, J1, X1, c⟩, R1⟩ := q
  refine h v s1 J1 X1 ?_
  have b2 : qC false 1200 236 [lR 33 (some 0), lI 0] s1 (fun _ m => RD m) := rdc (d := 1200) (As := [lR 33 (some 0), lI 0]) h_X12_text_0 (by decide) rfl ⟨y_rcv, ⟨by decide, by decide⟩, trivial⟩ J1 (by decide +kernel) R1
  refine qC_mono (qC_and c b2) fun r s2 q => ?_
  obtain ⟨⟨e, z2, x2⟩, R2⟩ := q
  exact ⟨e, ⟨z2, R2⟩, x2⟩
theorem prd_text1 (hJ : zD s) (h : ∀ v s1, y_J x_X s1 → (∀ i j, gI s1 65 i j = gI s 65 i j) → qC false 1200 236 [lR 33 (some 0), lI 1] s1 (prd s1 v) → Q (some (lI v)) s1) : qC false 1200 146 [lR 0 (some 0), lI 1] s Q := by
  have a0 := prk_text1 (s := s) (Q := fun r s1 => ∃ v, r = some (lI v) ∧ y_J x_X s1 ∧ (∀ i j, gI s1 65 i j = gI s 65 i j) ∧ qC false 1200 236 [lR 33 (some 0), lI 1] s1 (prk s1 v)) hJ.1 (fun v s1 a b c => ⟨v, rfl, a, b, c⟩)
  have b0 : qC false 1200 146 [lR 0 (some 0), lI 1] s (fun _ m => RD m) := rdc (d := 1200) (As := [lR 0 (some 0), lI 1]) (y_all x_X_cl h_all0 yk_X11_text_2 (List.mem_of_getElem? (i := 1) rfl)) (by decide) rfl ⟨y_rcv, ⟨by decide, by decide⟩, trivial⟩ hJ.1.1.1 (by decide +kernel) hJ.2
  refine qC_mono (qC_and a0 b0) fun r s1 q => ?_
  obtain ⟨⟨v, rfl, J1, X1, c⟩, R1⟩ := q
  refine h v s1 J1 X1 ?_
  have b2 : qC false 1200 236 [lR 33 (some 0), lI 1] s1 (fun _ m => RD m) := rdc (d := 1200) (As := [lR 33 (some 0), lI 1]) h_X12_text_1 (by decide) rfl ⟨y_rcv, ⟨by decide, by decide⟩, trivial⟩ J1 (by decide +kernel) R1
  refine qC_mono (qC_and c b2) fun r s2 q => ?_
  obtain ⟨⟨e, z2, x2⟩, R2⟩ := q
  exact ⟨e, ⟨z2, R2⟩, x2⟩
theorem prd_text2 (hJ : zD s) (h : ∀ v s1, y_J x_X s1 → (∀ i j, gI s1 65 i j = gI s 65 i j) → qC false 1200 236 [lR 33 (some 0), lI 2] s1 (prd s1 v) → Q (some (lI v)) s1) : qC false 1200 146 [lR 0 (some 0), lI 2] s Q := by
  have a0 := prk_text2 (s := s) (Q := fun r s1 => ∃ v, r = some (lI v) ∧ y_J x_X s1 ∧ (∀ i j, gI s1 65 i j = gI s 65 i j) ∧ qC false 1200 236 [lR 33 (some 0), lI 2] s1 (prk s1 v)) hJ.1 (fun v s1 a b c => ⟨v, rfl, a, b, c⟩)
  have b0 : qC false 1200 146 [lR 0 (some 0), lI 2] s (fun _ m => RD m) := rdc (d := 1200) (As := [lR 0 (some 0), lI 2]) (y_all x_X_cl h_all0 yk_X11_text_3 (List.mem_of_getElem? (i := 111) rfl)) (by decide) rfl ⟨y_rcv, ⟨by decide, by decide⟩, trivial⟩ hJ.1.1.1 (by decide +kernel) hJ.2
  refine qC_mono (qC_and a0 b0) fun r s1 q => ?_
  obtain ⟨⟨v, rfl, J1, X1, c⟩, R1⟩ := q
  refine h v s1 J1 X1 ?_
  have b2 : qC false 1200 236 [lR 33 (some 0), lI 2] s1 (fun _ m => RD m) := rdc (d := 1200) (As := [lR 33 (some 0), lI 2]) h_X12_text_2 (by decide) rfl ⟨y_rcv, ⟨by decide, by decide⟩, trivial⟩ J1 (by decide +kernel) R1
  refine qC_mono (qC_and c b2) fun r s2 q => ?_
  obtain ⟨⟨e, z2, x2⟩, R2⟩ := q
  exact ⟨e, ⟨z2, R2⟩, x2⟩
theorem prd_text {p : Int32} (hJ : zD s) (h : ∀ v s1, y_J x_X s1 → (∀ i j, gI s1 65 i j = gI s 65 i j) → (∀ p', p' = p → qC false 1200 236 [lR 33 (some 0), lI p'] s1 (prd s1 v)) → Q (some (lI v)) s1) : qC false 1200 146 [lR 0 (some 0), lI p] s Q := by
  by_cases c0 : p = 0
  · subst c0
    exact prd_text0 hJ fun v s1 J1 X1 c => h v s1 J1 X1 fun p' ep => by
      subst ep
      exact c
  by_cases c1 : p = 1
  · subst c1
    exact prd_text1 hJ fun v s1 J1 X1 c => h v s1 J1 X1 fun p' ep => by
      subst ep
      exact c
  by_cases c2 : p = 2
  · subst c2
    exact prd_text2 hJ fun v s1 J1 X1 c => h v s1 J1 X1 fun p' ep => by
      subst ep
      exact c
  refine qC_mono (tx_11N (d := 1077) c0 c1 c2) fun r m q => ?_
  obtain ⟨rfl, rfl⟩ := q
  refine h _ m hJ.1.1.1 (fun _ _ => rfl) fun p' ep => ?_
  subst ep
  refine qC_mono (tx_12N (d := 1077) c0 c1 c2) fun r m' q => ?_
  obtain ⟨rfl, rfl⟩ := q
  exact ⟨rfl, hJ, fun _ _ => rfl⟩
end PDL
