/-! readLaw. -/
theorem h_open {d n : Nat} {s : LMem} {Q : LPost} (hn : n ≤ 6) (h : Q none (sI (sI (sI (sI (sI (sI s 33 0 14 (nI n)) 33 0 3 0) 33 0 4 (-1)) 33 0 5 0) 37 0 n 0) 38 0 n 0)) : qC false (d + 1) 223 [lR 33 (some 0), lI (nI n)] s Q := by
  have en : (nI n).toNatClampNeg = n := nI_clamp (by omega)
  have v7 : qa_vin (nI n) 7 := nI_in (by omega) (by decide)
  have h2 : Q none (sI (sI (sI (sI (sI (sI s 33 0 14 (nI n)) 33 0 3 0) 33 0 4 (-1)) 33 0 5 0) 37 0 (nI n).toNatClampNeg 0) 38 0 (nI n).toNatClampNeg 0) := by
    rw [en]
    exact h
  refine qC_of rfl rfl ?_
  refine qa_t1_W (cut := []) 40 ?_
  exact And.intro v7 (And.intro v7 h2)
theorem x_run_sb {s s' : LMem} {n c : Nat} (h : ∀ a, a < c → xI s' 35 (260 * n + a) = xI s 35 (260 * n + a) ∧ xI s' 36 (260 * n + a) = xI s 36 (260 * n + a)) : ∀ (m a k : Nat), a + m ≤ c → x_run s n m a k → x_run s' n m a k
  | 0, _, _, _, _ => trivial
  | m + 1, a, k, ha, hx => by
    obtain ⟨e1, e2⟩ := h a (by omega)
    unfold x_run at hx ⊢
    rw [e1, e2]
    rcases hx with ⟨h1, h2, h3⟩ | ⟨h1, h2, h3, h4⟩ | ⟨h1, h2, h3, h4⟩
    · exact Or.inl ⟨h1, h2, x_run_sb h m _ _ (by omega) h3⟩
    · exact Or.inr (Or.inl ⟨h1, h2, h3, x_run_sb h m _ _ (by omega) h4⟩)
    · exact Or.inr (Or.inr ⟨h1, h2, h3, x_run_sb h m _ _ (by omega) h4⟩)
theorem x_cl_keep {m m' : LMem} {n i c : Nat} (hx : x_cl m n i) (hc : xI m 41 (60 * n + i) ≤ (c : Int)) (h1 : ∀ k a, (k = 35 ∨ k = 36) → a < c → gI m' k 0 (260 * n + a) = gI m k 0 (260 * n + a)) (h2 : ∀ k, 39 ≤ k → k ≤ 41 → gI m' k 0 (60 * n + i) = gI m k 0 (60 * n + i)) : x_cl m' n i := by
  obtain ⟨a, b, e, g1, g2, g3, g4, g5, g6, g7, g8⟩ := hx
  have hr : ∀ z, z < c → xI m' 35 (260 * n + z) = xI m 35 (260 * n + z) ∧ xI m' 36 (260 * n + z) = xI m 36 (260 * n + z) := fun z hz => ⟨by unfold xI; rw [h1 35 z (Or.inl rfl) hz], by unfold xI; rw [h1 36 z (Or.inr rfl) hz]⟩
  refine ⟨a, b, e, ?_, ?_, ?_, g4, g5, g6, x_run_sb hr _ _ _ (by omega) g7, x_run_sb hr _ _ _ (by omega) g8⟩
  · unfold xI at g1 ⊢
    rw [h2 39 (by decide) (by decide), g1]
  · unfold xI at g2 ⊢
    rw [h2 40 (by decide) (by decide), g2]
  · unfold xI at g3 ⊢
    rw [h2 41 (by decide) (by decide), g3]
/-- what is read of a law when nothing is wrong -/
def lw_I (n j c : Nat) (m : LMem) : Prop := gI m 38 0 n = nI j ∧ ∀ i, i < j → x_cl m n i ∧ xI m 41 (60 * n + i) ≤ (c : Int)
def lw_O (n : Nat) (v : Int32) (m : LMem) : Prop := v ≠ -1 ∨ ∃ j c, j ≤ 60 ∧ lw_I n j c m
theorem lw_rd {n j c : Nat} {m m' : LMem} (h : lw_I n j c m) (r : rd_S m m') : lw_I n j c m' := by
  refine ⟨by rw [r.1 38 0 _ (fun q => by omega), h.1], fun i hi => ⟨x_cl_keep (h.2 i hi).1 (h.2 i hi).2 (fun k a _ _ => r.1 k 0 _ (fun q => by omega)) (fun k _ _ => r.1 k 0 _ (fun q => by omega)), ?_⟩⟩
  unfold xI
  rw [r.1 41 0 _ (fun q => by omega)]
  exact (h.2 i hi).2
section LW
variable {l n : Nat} {s : LMem} {Q : LPost}
theorem lw_43 {d bc bs : Nat} {p1 : Int32} {m : LMem} (hl : gI s 33 0 2 = nI l) (hl2 : l ≤ 200) (J : y_J x_X m) (F : y_Fr lr_W s m) (hO : gI m 33 0 4 = -1 → (∃ q, q ≤ 1000 ∧ gI m 33 0 3 = nI q) ∧ ∃ j c, j ≤ 60 ∧ lw_I n j c m) (h : ∀ m v, y_J x_X m → y_Fr lr_W s m → lw_O n v m → Q (some (lI v)) m) : qW false (d + 3) 225 bc bs 43 [some (lR 33 (some 0)), some (lI p1)] [] m Q := by
  have fin : ∀ m', rd_S m m' → (gI m' 33 0 4 = -1 → gI m 33 0 4 = -1) → Q (some (lI (gI m' 33 0 4))) m' := fun m' r hw => by
    refine h m' _ (rd_J J r) (y_Fr_tr2 F (rd_W (by decide) r)) ?_
    by_cases w : gI m' 33 0 4 = -1
    · obtain ⟨j, c, h1, h2⟩ := (hO (hw w)).2
      exact Or.inr ⟨j, c, h1, lw_rd h2 r⟩
    · exact Or.inl w
  refine qa_t1_W (cut := []) 20 ?_
  refine qC_of rfl rfl ?_
  refine qa_t1_W (cut := []) 40 ?_
  refine And.intro (fun w => ?_) (fun _ => Exists.intro _ (And.intro rfl (fin m rd_0 (fun w => w))))
  have w : gI m 33 0 4 = -1 := w
  obtain ⟨q, hq, h3⟩ := (hO w).1
  have hl3 : gI m 33 0 2 = nI l := by rw [(F 33 0 2 (x_nW 2 2 (by decide) (by decide) (by decide))).1, hl]
  refine h_look hl3 hl2 h3 hq fun m1 q1 r1 k4 k5 k3 g1 g2 _ => Exists.intro _ (And.intro rfl ?_)
  have fb : ∀ x, x ≠ -1 → Q (some (lI (gI (sI m1 33 0 4 x) 33 0 4))) (sI m1 33 0 4 x) := fun x hx => by
    refine fin _ (rd_s (Or.inr (Or.inl rfl)) r1) (fun z => absurd ?_ hx)
    rw [gI_sI, if_pos ⟨rfl, rfl, rfl⟩] at z
    exact z
  refine And.intro (fun _ => Exists.intro _ (And.intro rfl (fin m1 r1 (fun _ => w)))) (fun _ => ?_)
  exact h_bad k3 (fun _ => And.intro rfl (Exists.intro _ (And.intro rfl (fb _ (nI_ne1 (by omega)))))) (fun w => And.intro rfl (Exists.intro _ (And.intro rfl (fb _ w))))
theorem lw_9 {d bc bs : Nat} {p1 : Int32} (hn : n ≤ 6) (hn2 : xI s 33 13 ≤ (n : Int)) (hl : gI s 33 0 2 = nI l) (hl2 : l ≤ 200) (h : ∀ m v, y_J x_X m → y_Fr lr_W s m → lw_O n v m → Q (some (lI v)) m) : ∀ f j c q m, l - q < f → y_J x_X m → y_Fr lr_W s m → (gI m 33 0 4 = -1 → lx_P n l 0 c q s m ∧ lw_I n j c m ∧ 4 * j ≤ q + 1 ∧ 1 ≤ j) → qW false (d + 40) 225 bc bs 9 [some (lR 33 (some 0)), some (lI p1)] [] m Q := by
  intro f
  induction f with
  | zero =>
    intro j c q m hf
    exact absurd hf (Nat.not_lt_zero _)
  | succ f ih =>
    intro j c q m hf J F hS
    refine qa_t1_W (cut := [9, 43]) 60 ?_
    refine And.intro (fun w => ?_) (fun w => lw_43 (d := d + 37) (n := n) hl hl2 J F (fun z => absurd z w) h)
    have w : gI m 33 0 4 = -1 := w
    obtain ⟨P, I, hj, hj1⟩ := hS w
    obtain ⟨S0, h3, hpl, hcp, h4, h5⟩ := P
    refine h_look (lr_l S0 hl) hl2 h3 (by omega) fun m1 q1 r1 k4 k5 k3 g1 g2 _ => Exists.intro _ (And.intro rfl ?_)
    have S1 := lr_rd S0 r1
    refine And.intro (fun e => ?_) (fun _ => lw_43 (d := d + 37) (n := n) hl hl2 S1.1 S1.2.1 (fun _ => ⟨⟨q1, by omega, k3⟩, j, c, by omega, lw_rd I r1⟩) h)
    have hq3 := rch_lt (x := 59) (by decide) e
    have r2 := rd_tr r1 (rd_s (s := m1) (v := gI m1 33 0 3 + 1) (Or.inl rfl : (3 : Nat) = 3 ∨ (3 : Nat) = 4 ∨ (3 : Nat) = 5) rd_0)
    have a2 : gI (sI m1 33 0 3 (gI m1 33 0 3 + 1)) 33 0 3 = nI (q1 + 1) := by rw [gI_sI, if_pos ⟨rfl, rfl, rfl⟩, k3, nI_1]
    have w2 : gI (sI m1 33 0 3 (gI m1 33 0 3 + 1)) 33 0 4 = -1 := by rw [gI_sI, if_neg (fun q => absurd q.2.2 (by decide)), k4, h4]
    have d2 : gI (sI m1 33 0 3 (gI m1 33 0 3 + 1)) 33 0 5 = nI 0 := by rw [gI_sI, if_neg (fun q => absurd q.2.2 (by decide)), k5, h5]
    have I2 := lw_rd I r2
    refine h_clause (j := j) hn hn2 hl hl2 (by omega) ⟨lr_rd S0 r2, a2, by omega, by omega, w2, d2⟩ I2.1 fun m3 hm3 => And.intro rfl ?_
    obtain ⟨J3, F3, hO⟩ := hm3
    by_cases w3 : gI m3 33 0 4 = -1
    · obtain ⟨c3, q3, P3, y1, y2, y3, y4, y5, y6, y7⟩ := hO w3
      refine ih (j + 1) c3 q3 m3 (by omega) J3 F3 (fun _ => ⟨P3, ⟨y3, fun i hi => ?_⟩, by omega, by omega⟩)
      by_cases e : i = j
      · subst e
        refine ⟨y4, ?_⟩
        unfold xI
        rw [y5, nI_toInt (by have := P3.2.2.2.1; have := P3.2.2.1; omega)]
        exact Int.le_refl _
      · obtain ⟨z1, z2⟩ := I2.2 i (by omega)
        refine ⟨x_cl_keep z1 z2 y6 (fun k b1 b2 => y7 k _ b1 b2 (by omega)), ?_⟩
        unfold xI at z2 ⊢
        rw [y7 41 _ (by decide) (by decide) (by omega)]
        exact Int.le_trans z2 (Int.ofNat_le.mpr y2)
    · exact ih 0 0 l m3 (by omega) J3 F3 (fun z => absurd z w3)
theorem h_readLaw {d : Nat} (hn : n ≤ 6) (hn2 : xI s 33 13 ≤ (n : Int)) (hJ : y_J x_X s) (h : ∀ m v, y_J x_X m → y_Fr lr_W s m → lw_O n v m → Q (some (lI v)) m) : qC false (d + 41) 225 [lR 33 (some 0), lI (nI n)] s Q := by
  obtain ⟨l, hl2, hl⟩ := y_nIof2 (N := 200) (x := gI s 33 0 2) (hJ.1 33 0 2 (2, 2, 0, 200) (by decide) (by decide) (by decide)).1 (hJ.1 33 0 2 (2, 2, 0, 200) (by decide) (by decide) (by decide)).2
  have J1 : y_J x_X (sI s 33 0 14 (nI n)) := y_J_w hJ (fun r hr g1 g2 => by
    have hr : r ∈ [((2 : Int), (2 : Int), (0 : Int), (200 : Int)), (13, 13, 0, 6), (14, 14, 0, 6), (21, 21, 0, 4), (22, 22, 0, 4), (35, 36, 0, 1)] := hr
    simp only [List.mem_cons, List.not_mem_nil, or_false] at hr
    rcases hr with rfl | rfl | rfl | rfl | rfl | rfl
    · exact absurd g2 (by decide)
    · exact absurd g2 (by decide)
    · show (0 : Int) ≤ (nI n).toInt ∧ (nI n).toInt ≤ 6
      rw [nI_toInt (by omega)]
      omega
    all_goals exact absurd g1 (by decide)) (x_npr rfl)
  have r2 : rd_S (sI s 33 0 14 (nI n)) (sI (sI (sI (sI s 33 0 14 (nI n)) 33 0 3 0) 33 0 4 (-1)) 33 0 5 0) := rd_s (Or.inr (Or.inr rfl)) (rd_s (Or.inr (Or.inl rfl)) (rd_s (Or.inl rfl) rd_0))
  have x13 : xI (sI (sI (sI (sI s 33 0 14 (nI n)) 33 0 3 0) 33 0 4 (-1)) 33 0 5 0) 33 13 ≤ (n : Int) := by
    unfold xI at hn2 ⊢
    rw [r2.1 33 0 13 (fun q => by omega), gI_sI, if_neg (fun q => absurd q.2.2 (by decide))]
    exact hn2
  have J3 := lr_J (n := n) (k := 37) (j := n) (v := 0) (rd_J J1 r2) x13 (Or.inr (Or.inl rfl))
  have J4 := lr_J (n := n) (k := 38) (j := n) (v := 0) J3 (by
    unfold xI at x13 ⊢
    rw [gI_sI, if_neg (fun q => absurd q.1 (by decide))]
    exact x13) (Or.inr (Or.inr (Or.inl ⟨rfl, rfl⟩)))
  have F4 : y_Fr lr_W s (sI (sI (sI (sI (sI (sI s 33 0 14 (nI n)) 33 0 3 0) 33 0 4 (-1)) 33 0 5 0) 37 0 n 0) 38 0 n 0) := by
    refine y_Fr_sI (y_Fr_sI (y_Fr_tr2 (y_Fr_sI (y_Fr_rf _ _) (x_iW1 (by decide))) (rd_W (by decide) r2)) ⟨(37, 0, 0, 0, 6), by decide, rfl, ⟨Int.le_refl _, Int.le_refl _⟩, ?_, ?_⟩) ⟨(38, 0, 0, 0, 6), by decide, rfl, ⟨Int.le_refl _, Int.le_refl _⟩, ?_, ?_⟩
    · show (0 : Int) ≤ (n : Int); omega
    · show (n : Int) ≤ 6; omega
    · show (0 : Int) ≤ (n : Int); omega
    · show (n : Int) ≤ 6; omega
  have g : ∀ j, gI (sI (sI (sI (sI (sI (sI s 33 0 14 (nI n)) 33 0 3 0) 33 0 4 (-1)) 33 0 5 0) 37 0 n 0) 38 0 n 0) 33 0 j = gI (sI (sI (sI (sI s 33 0 14 (nI n)) 33 0 3 0) 33 0 4 (-1)) 33 0 5 0) 33 0 j := fun j => by
    rw [gI_sI, if_neg (fun q => absurd q.1 (by decide)), gI_sI, if_neg (fun q => absurd q.1 (by decide))]
  have P : lx_P n l 0 0 0 s (sI (sI (sI (sI (sI (sI s 33 0 14 (nI n)) 33 0 3 0) 33 0 4 (-1)) 33 0 5 0) 37 0 n 0) 38 0 n 0) := by
    refine ⟨⟨J4, F4, ?_, ?_⟩, ?_, Nat.zero_le _, Nat.le_refl _, ?_, ?_⟩
    · rw [g, r2.1 33 0 14 (fun q => by omega), gI_sI, if_pos ⟨rfl, rfl, rfl⟩]
    · rw [gI_sI, if_neg (fun q => absurd q.1 (by decide)), gI_sI, if_pos ⟨rfl, rfl, rfl⟩]
      rfl
    · rw [g, gI_sI, if_neg (fun q => absurd q.2.2 (by decide)), gI_sI, if_neg (fun q => absurd q.2.2 (by decide)), gI_sI, if_pos ⟨rfl, rfl, rfl⟩]
      rfl
    · rw [g, gI_sI, if_neg (fun q => absurd q.2.2 (by decide)), gI_sI, if_pos ⟨rfl, rfl, rfl⟩]
    · rw [g, gI_sI, if_pos ⟨rfl, rfl, rfl⟩]
      rfl
  refine qC_of rfl rfl ?_
  refine qa_t1_W (cut := [9]) 40 ?_
  refine h_open hn (And.intro rfl ?_)
  refine h_clause (j := 0) hn hn2 hl hl2 (by decide) P (by rw [gI_sI, if_pos ⟨rfl, rfl, rfl⟩]; rfl) fun m3 hm3 => And.intro rfl ?_
  obtain ⟨J3, F3, hO⟩ := hm3
  by_cases w3 : gI m3 33 0 4 = -1
  · obtain ⟨c3, q3, P3, y1, y2, y3, y4, y5, y6, y7⟩ := hO w3
    refine lw_9 hn hn2 hl hl2 h (l - q3 + 1) 1 c3 q3 m3 (by omega) J3 F3 (fun _ => ⟨P3, ⟨y3, fun i hi => ?_⟩, by omega, by omega⟩)
    have e : i = 0 := by omega
    subst e
    refine ⟨y4, ?_⟩
    unfold xI
    rw [y5, nI_toInt (by have := P3.2.2.2.1; have := P3.2.2.1; omega)]
    exact Int.le_refl _
  · exact lw_9 hn hn2 hl hl2 h 1 0 0 l m3 (by omega) J3 F3 (fun z => absurd z w3)
end LW
