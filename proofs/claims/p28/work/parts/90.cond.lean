/-! compare, unit, goOnAnd, goOnOr, condition. -/
def sgn (c : Int32) : Prop := c = 61 ∨ c = 60 ∨ c = 62
theorem h_isSign {d : Nat} {c : Int32} {s : LMem} {Q : LPost} (h1 : sgn c → Q (some (lI 1)) s) (h2 : ¬ sgn c → Q (some (lI 0)) s) : qC false (d + 1) 216 [lI c] s Q := by
  refine qC_of rfl rfl ?_
  refine qa_t1_W (cut := []) 20 ?_
  refine And.intro (fun e => And.intro (Or.inr rfl) (h1 (Or.inl e))) (fun e => ?_)
  refine And.intro (fun e2 => And.intro (Or.inr rfl) (h1 (Or.inr (Or.inl e2)))) (fun e2 => ?_)
  refine And.intro (fun e3 => And.intro (Or.inr rfl) (h1 (Or.inr (Or.inr e3)))) (fun e3 => ?_)
  refine And.intro (Or.inl rfl) (h2 (fun q => ?_))
  rcases q with q | q | q
  · exact e q
  · exact e2 q
  · exact e3 q
theorem sgn_ne {c : Int32} (h : sgn c) : c ≠ -1 := by
  rcases h with rfl | rfl | rfl <;> decide
theorem rch_lt {m : LMem} {l q : Nat} {x : Int32} (hx : x ≠ -1) (e : rch m l q = x) : q < l := by
  unfold rch at e
  by_cases g : q < l
  · exact g
  · rw [if_neg g] at e
    exact absurd e.symm hx
/-- what a reader leaves: from height h + i to h + 1 -/
def lx_G (i n l g ro c p : Nat) (s m m' : LMem) : Prop := ∃ c' q, lr_S n s m' c' ∧ gI m' 33 0 3 = nI q ∧ c ≤ c' ∧ p ≤ q ∧ c' + p ≤ q + c ∧ (∀ k j, (k = 35 ∨ k = 36) → j < c → gI m' k 0 (260 * n + j) = gI m k 0 (260 * n + j)) ∧ (∀ k j, 38 ≤ k → k ≤ 41 → gI m' k 0 j = gI m k 0 j) ∧ ((gI m' 33 0 4 = -1 ∧ q ≤ l ∧ gI m' 33 0 5 = nI g ∧ ∀ h, h + ro ≤ 80 → x_rn m' n (c' - c) c (h + i) (h + 1)) ∨ (gI m' 33 0 4 ≠ -1 ∧ q + g ≤ l + 7))
def rdr (i n l g ro : Nat) (s : LMem) (M dep : Nat) : Prop := ∀ c p m (R : LPost), lx_P n l g c p s m → (∀ m', lx_G i n l g ro c p s m m' → R none m') → qC false dep M [lR 33 (some 0)] m R
section LG
variable {i l n g ro c p : Nat} {s m0 m1 : LMem}
theorem lx_mono {ro2 : Nat} (h : ro ≤ ro2) (hx : lx_G i n l g ro c p s m0 m1) : lx_G i n l g ro2 c p s m0 m1 := by
  obtain ⟨c1, q1, t1, t2, t3, t4, t5, t6, t7, t8⟩ := hx
  refine ⟨c1, q1, t1, t2, t3, t4, t5, t6, t7, ?_⟩
  rcases t8 with ⟨u1, u2, u3, u4⟩ | t8
  · exact Or.inl ⟨u1, u2, u3, fun h hh => u4 h (by omega)⟩
  · exact Or.inr t8
theorem lx_app (hcp : c ≤ p) (h1 : lx_G i n l g ro c p s m0 m1) (w : gI m1 33 0 4 = -1) : ∃ c1 q1, lx_P n l g c1 q1 s m1 ∧ p ≤ q1 ∧ c ≤ c1 ∧ ∀ m2, lx_G 1 n l g ro c1 q1 s m1 m2 → lx_G i n l g ro c p s m0 m2 := by
  obtain ⟨c1, q1, t1, t2, t3, t4, t5, t6, t7, t8⟩ := h1
  rcases t8 with ⟨u1, u2, u3, u4⟩ | ⟨u1, _⟩
  · refine ⟨c1, q1, ⟨t1, t2, u2, by omega, w, u3⟩, t4, t3, fun m2 h2 => ?_⟩
    obtain ⟨c2, q2, v1, v2, v3, v4, v5, v6, v7, v8⟩ := h2
    refine ⟨c2, q2, v1, v2, by omega, by omega, by omega, fun k j hk hj => by rw [v6 k j hk (by omega), t6 k j hk hj], fun k j a b => by rw [v7 k j a b, t7 k j a b], ?_⟩
    rcases v8 with ⟨w1, w2, w3, w4⟩ | v8
    · refine Or.inl ⟨w1, w2, w3, fun h hh => ?_⟩
      have z1 : x_rn m2 n (c1 - c) c (h + i) (h + 1) := x_rn_same _ _ _ _ (fun j y1 y2 => ⟨by unfold xI; rw [v6 35 j (Or.inl rfl) (by omega)], by unfold xI; rw [v6 36 j (Or.inr rfl) (by omega)]⟩) (u4 h hh)
      have z2 : x_rn m2 n (c2 - c1) (c + (c1 - c)) (h + 1) (h + 1) := by
        rw [show c + (c1 - c) = c1 by omega]
        exact w4 h hh
      have z := x_rn_app _ _ _ _ _ _ z1 z2
      rw [show (c1 - c) + (c2 - c1) = c2 - c by omega] at z
      exact z
    · exact Or.inr v8
  · exact absurd w u1
theorem lx_id {q : Nat} (hm : lx_P n l g c p s m0) (hr : rd_S m0 m1) (h3 : gI m1 33 0 3 = nI q) (hq : p ≤ q) (hq2 : q ≤ l) (h4 : gI m1 33 0 4 = -1) (h5 : gI m1 33 0 5 = nI g) : lx_G 1 n l g ro c p s m0 m1 :=
  ⟨c, q, lr_rd hm.1 hr, h3, Nat.le_refl _, hq, by omega, fun k j hk hj => by rw [hr.1 k 0 _ (fun q => by omega)], fun k j g1 g2 => by rw [hr.1 k 0 _ (fun q => by omega)], Or.inl ⟨h4, hq2, h5, fun h _ => by rw [Nat.sub_self]; rfl⟩⟩
theorem lx_bad {q : Nat} (hm : lx_P n l g c p s m0) (hr : rd_S m0 m1) (h3 : gI m1 33 0 3 = nI q) (hq : p ≤ q) (hq2 : q + g ≤ l + 7) (h4 : gI m1 33 0 4 ≠ -1) : lx_G i n l g ro c p s m0 m1 :=
  ⟨c, q, lr_rd hm.1 hr, h3, Nat.le_refl _, hq, by omega, fun k j hk hj => by rw [hr.1 k 0 _ (fun q => by omega)], fun k j g1 g2 => by rw [hr.1 k 0 _ (fun q => by omega)], Or.inr ⟨h4, hq2⟩⟩
theorem lx_bin {d q : Nat} {x : Int32} {m2 : LMem} {R : LPost} (hro : 1 ≤ ro) (hn : n ≤ 6) (hn2 : xI s 33 13 ≤ (n : Int)) (hl2 : l ≤ 200) (hr : rd_S m0 m1) (hpq : p ≤ q) (hcp : c ≤ p) (H : lx_G 0 n l g ro c (q + 1) s m1 m2) (hx : 2 ≤ x.toInt) (hx9 : x ≠ 9) (h : ∀ m3 z, lx_G 1 n l g (ro + 1) c p s m0 m3 → gI m3 33 0 3 = nI z → q < z → z ≤ 1000 → R none m3) : qC false (d + 1) 208 [lR 33 (some 0), lI x, lI 0] m2 R := by
  obtain ⟨c2, q2, t1, t2, t3, t4, t5, t6, t7, t8⟩ := H
  have hc2 : c2 < 260 ∧ q2 ≤ 1000 := by
    rcases t8 with ⟨_, u2, _⟩ | ⟨_, u2⟩ <;> omega
  refine h_put (n := n) hn hn2 hc2.1 t1 fun m3 S3 P3 => ?_
  have e33 : ∀ j, gI m3 33 0 j = gI m2 33 0 j := fun j => P3.1 33 0 j (fun q => by omega)
  refine h m3 q2 ⟨c2 + 1, q2, S3, by rw [e33, t2], by omega, by omega, by omega, fun k j hk hj => by rw [P3.1 k 0 _ (fun q => by omega), t6 k j hk hj, hr.1 k 0 _ (fun q => by omega)], fun k j g1 g2 => by rw [P3.1 k 0 _ (fun q => by omega), t7 k j g1 g2, hr.1 k 0 _ (fun q => by omega)], ?_⟩ (by rw [e33, t2]) (by omega) hc2.2
  rw [e33, e33]
  rcases t8 with ⟨u1, u2, u3, u4⟩ | t8
  · refine Or.inl ⟨u1, u2, u3, fun hh g1 => ?_⟩
    have z1 : x_rn m3 n (c2 - c) c (hh + 1) (hh + 2) := x_rn_put P3 (by omega) (u4 (hh + 1) (by omega))
    have z2 : x_rn m3 n 1 (c + (c2 - c)) (hh + 2) (hh + 1) := by
      rw [show c + (c2 - c) = c2 by omega]
      exact x_rn_bin P3 hx hx9 (by omega)
    have z := x_rn_app _ _ _ _ _ _ z1 z2
    rw [show c2 - c + 1 = c2 + 1 - c by omega] at z
    exact z
  · exact Or.inr t8
end LG
section CU
variable {l n g : Nat} {s : LMem}
theorem h_compare {d c p roS : Nat} {m : LMem} {Q : LPost} (hro : 1 ≤ roS) (hn : n ≤ 6) (hn2 : xI s 33 13 ≤ (n : Int)) (hg : g ≤ 6) (hl : gI s 33 0 2 = nI l) (hl2 : l ≤ 200) (hS : rdr 0 n l g roS s 215 (d + 4)) (hm : lx_P n l g c p s m) (h : ∀ m', lx_G 1 n l g (roS + 1) c p s m m' → Q none m') : qC false (d + 5) 217 [lR 33 (some 0)] m Q := by
  have hm0 := hm
  obtain ⟨S0, h3, hpl, hcp, h4, h5⟩ := hm
  refine qC_of rfl rfl ?_
  refine qa_t1_W (cut := []) 80 ?_
  refine And.intro (fun _ => ?_) (fun w => absurd h4 w)
  refine h_look (lr_l S0 hl) hl2 h3 (by omega) fun m1 q hr k4 k5 k3 hq hq2 _ => Exists.intro _ (And.intro rfl ?_)
  refine h_isSign (fun hs => Exists.intro 1 (And.intro rfl ?_)) (fun hs => Exists.intro 0 (And.intro rfl ?_))
  · refine And.intro (fun q => absurd q (by decide)) (fun _ => ?_)
    have hq3 := rch_lt (sgn_ne hs) rfl
    have r2 := rd_tr hr (rd_s (s := m1) (v := gI m1 33 0 3 + 1) (Or.inl rfl : (3 : Nat) = 3 ∨ (3 : Nat) = 4 ∨ (3 : Nat) = 5) rd_0)
    have a2 : gI (sI m1 33 0 3 (gI m1 33 0 3 + 1)) 33 0 3 = nI (q + 1) := by rw [gI_sI, if_pos ⟨rfl, rfl, rfl⟩, k3, nI_1]
    have w2 : gI (sI m1 33 0 3 (gI m1 33 0 3 + 1)) 33 0 4 = -1 := by rw [gI_sI, if_neg (fun q => absurd q.2.2 (by decide)), k4, h4]
    have d2 : gI (sI m1 33 0 3 (gI m1 33 0 3 + 1)) 33 0 5 = nI g := by rw [gI_sI, if_neg (fun q => absurd q.2.2 (by decide)), k5, h5]
    refine hS c (q + 1) _ _ ⟨lr_rd S0 r2, a2, by omega, by omega, w2, d2⟩ fun m3 hm3 => And.intro rfl ?_
    refine And.intro (fun _ => ?_) (fun _ => And.intro (fun _ => ?_) (fun _ => ?_))
    · exact lx_bin hro hn hn2 hl2 r2 hq hcp hm3 (by decide) (by decide) fun m4 z hm4 _ _ _ => And.intro rfl (h m4 hm4)
    · exact lx_bin hro hn hn2 hl2 r2 hq hcp hm3 (by decide) (by decide) fun m4 z hm4 _ _ _ => And.intro rfl (h m4 hm4)
    · exact lx_bin hro hn hn2 hl2 r2 hq hcp hm3 (by decide) (by decide) fun m4 z hm4 _ _ _ => And.intro rfl (h m4 hm4)
  · refine And.intro (fun _ => ?_) (fun q => absurd rfl q)
    have fin : ∀ x, x ≠ -1 → Q none (sI m1 33 0 4 x) := fun x hx => by
      refine h _ (lx_bad hm0 (rd_s (Or.inr (Or.inl rfl)) hr) (q := q) ?_ hq (by omega) ?_)
      · rw [gI_sI, if_neg (fun q => absurd q.2.2 (by decide)), k3]
      · rw [gI_sI, if_pos ⟨rfl, rfl, rfl⟩]
        exact hx
    exact h_bad k3 (fun _ => And.intro rfl (fin _ (nI_ne1 (by omega)))) (fun w => And.intro rfl (fin _ w))
theorem and_x {d bc bs : Nat} {m : LMem} {Q : LPost} (w : gI m 33 0 4 ≠ -1) (h : Q none m) : qW false d 219 bc bs 0 [some (lR 33 (some 0))] [] m Q := by
  refine qa_t1_W (cut := []) 20 ?_
  exact And.intro (fun q => absurd q w) (fun _ => h)
theorem or_x {d bc bs : Nat} {m : LMem} {Q : LPost} (w : gI m 33 0 4 ≠ -1) (h : Q none m) : qW false d 220 bc bs 0 [some (lR 33 (some 0))] [] m Q := by
  refine qa_t1_W (cut := []) 20 ?_
  exact And.intro (fun q => absurd q w) (fun _ => h)
theorem h_and_x {d : Nat} {m : LMem} {Q : LPost} (w : gI m 33 0 4 ≠ -1) (h : Q none m) : qC false (d + 1) 219 [lR 33 (some 0)] m Q := qC_of rfl rfl (and_x w h)
theorem h_or_x {d : Nat} {m : LMem} {Q : LPost} (w : gI m 33 0 4 ≠ -1) (h : Q none m) : qC false (d + 1) 220 [lR 33 (some 0)] m Q := qC_of rfl rfl (or_x w h)
theorem land_l {d bc bs roU : Nat} {Q : LPost} (hro : 1 ≤ roU) (hn : n ≤ 6) (hn2 : xI s 33 13 ≤ (n : Int)) (hl : gI s 33 0 2 = nI l) (hl2 : l ≤ 200) (hU : rdr 0 n l g roU s 218 (d + 3)) : ∀ f c p m, l - p < f → lx_P n l g c p s m → (∀ m', lx_G 1 n l g (roU + 1) c p s m m' → Q none m') → qW false (d + 3) 219 bc bs 0 [some (lR 33 (some 0))] [] m Q := by
  intro f
  induction f with
  | zero =>
    intro c p m hf
    exact absurd hf (Nat.not_lt_zero _)
  | succ f ih =>
    intro c p m hf hm h
    have hm0 := hm
    obtain ⟨S0, h3, hpl, hcp, h4, h5⟩ := hm
    refine qa_t1_W (cut := [0]) 60 ?_
    refine And.intro (fun _ => ?_) (fun w => absurd h4 w)
    refine h_look (lr_l S0 hl) hl2 h3 (by omega) fun m1 q hr k4 k5 k3 hq hq2 _ => Exists.intro _ (And.intro rfl ?_)
    refine And.intro (fun e => ?_) (fun _ => h m1 (lx_id hm0 hr k3 hq (by omega) (by rw [k4, h4]) (by rw [k5, h5])))
    have hq3 := rch_lt (x := 38) (by decide) e
    have r2 := rd_tr hr (rd_s (s := m1) (v := gI m1 33 0 3 + 1) (Or.inl rfl : (3 : Nat) = 3 ∨ (3 : Nat) = 4 ∨ (3 : Nat) = 5) rd_0)
    have a2 : gI (sI m1 33 0 3 (gI m1 33 0 3 + 1)) 33 0 3 = nI (q + 1) := by rw [gI_sI, if_pos ⟨rfl, rfl, rfl⟩, k3, nI_1]
    have w2 : gI (sI m1 33 0 3 (gI m1 33 0 3 + 1)) 33 0 4 = -1 := by rw [gI_sI, if_neg (fun q => absurd q.2.2 (by decide)), k4, h4]
    have d2 : gI (sI m1 33 0 3 (gI m1 33 0 3 + 1)) 33 0 5 = nI g := by rw [gI_sI, if_neg (fun q => absurd q.2.2 (by decide)), k5, h5]
    refine hU c (q + 1) _ _ ⟨lr_rd S0 r2, a2, by omega, by omega, w2, d2⟩ fun m3 hm3 => And.intro rfl ?_
    refine lx_bin hro hn hn2 hl2 r2 hq hcp hm3 (by decide) (by decide) fun m4 z hm4 z1 z2 z3 => And.intro rfl ?_
    by_cases w : gI m4 33 0 4 = -1
    · obtain ⟨c1, q1, P1, hq1, hc1, K⟩ := lx_app hcp hm4 w
      have ez := congrArg Int32.toInt (P1.2.1.symm.trans z1)
      rw [nI_toInt (by have := P1.2.2.1; omega), nI_toInt (by omega)] at ez
      exact ih c1 q1 m4 (by omega) P1 (fun m' hm' => h m' (K m' hm'))
    · exact and_x w (h m4 hm4)
theorem h_and {d roU : Nat} (hro : 1 ≤ roU) (hn : n ≤ 6) (hn2 : xI s 33 13 ≤ (n : Int)) (hl : gI s 33 0 2 = nI l) (hl2 : l ≤ 200) (hU : rdr 0 n l g roU s 218 (d + 3)) : rdr 1 n l g (roU + 1) s 219 (d + 4) := fun c p m R hm h => qC_of rfl rfl (land_l hro hn hn2 hl hl2 hU (l - p + 1) c p m (by omega) hm h)
theorem lor_l {d bc bs roU : Nat} {Q : LPost} (hro : 1 ≤ roU) (hn : n ≤ 6) (hn2 : xI s 33 13 ≤ (n : Int)) (hl : gI s 33 0 2 = nI l) (hl2 : l ≤ 200) (hU : rdr 0 n l g roU s 218 (d + 3)) (hA : rdr 1 n l g (roU + 1) s 219 (d + 3)) : ∀ f c p m, l - p < f → lx_P n l g c p s m → (∀ m', lx_G 1 n l g (roU + 2) c p s m m' → Q none m') → qW false (d + 3) 220 bc bs 0 [some (lR 33 (some 0))] [] m Q := by
  intro f
  induction f with
  | zero =>
    intro c p m hf
    exact absurd hf (Nat.not_lt_zero _)
  | succ f ih =>
    intro c p m hf hm h
    have hm0 := hm
    obtain ⟨S0, h3, hpl, hcp, h4, h5⟩ := hm
    refine qa_t1_W (cut := [0]) 60 ?_
    refine And.intro (fun _ => ?_) (fun w => absurd h4 w)
    refine h_look (lr_l S0 hl) hl2 h3 (by omega) fun m1 q hr k4 k5 k3 hq hq2 _ => Exists.intro _ (And.intro rfl ?_)
    refine And.intro (fun e => ?_) (fun _ => h m1 (lx_id hm0 hr k3 hq (by omega) (by rw [k4, h4]) (by rw [k5, h5])))
    have hq3 := rch_lt (x := 124) (by decide) e
    have r2 := rd_tr hr (rd_s (s := m1) (v := gI m1 33 0 3 + 1) (Or.inl rfl : (3 : Nat) = 3 ∨ (3 : Nat) = 4 ∨ (3 : Nat) = 5) rd_0)
    have a2 : gI (sI m1 33 0 3 (gI m1 33 0 3 + 1)) 33 0 3 = nI (q + 1) := by rw [gI_sI, if_pos ⟨rfl, rfl, rfl⟩, k3, nI_1]
    have w2 : gI (sI m1 33 0 3 (gI m1 33 0 3 + 1)) 33 0 4 = -1 := by rw [gI_sI, if_neg (fun q => absurd q.2.2 (by decide)), k4, h4]
    have d2 : gI (sI m1 33 0 3 (gI m1 33 0 3 + 1)) 33 0 5 = nI g := by rw [gI_sI, if_neg (fun q => absurd q.2.2 (by decide)), k5, h5]
    have fin : ∀ m3, lx_G 0 n l g (roU + 1) c (q + 1) s (sI m1 33 0 3 (gI m1 33 0 3 + 1)) m3 → qC false (d + 3) 208 [lR 33 (some 0), lI 11, lI 0] m3 (fun r m4 => r = none ∧ qW false (d + 3) 220 bc bs 0 [some (lR 33 (some 0))] [] m4 Q) := fun m3 hm3 => by
      refine lx_bin (show 1 ≤ roU + 1 by omega) hn hn2 hl2 r2 hq hcp hm3 (by decide) (by decide) fun m4 z hm4 z1 z2 z3 => And.intro rfl ?_
      by_cases w : gI m4 33 0 4 = -1
      · obtain ⟨c1, q1, P1, hq1, hc1, K⟩ := lx_app hcp hm4 w
        have ez := congrArg Int32.toInt (P1.2.1.symm.trans z1)
        rw [nI_toInt (by have := P1.2.2.1; omega), nI_toInt (by omega)] at ez
        exact ih c1 q1 m4 (by omega) P1 (fun m' hm' => h m' (K m' hm'))
      · exact or_x w (h m4 hm4)
    refine hU c (q + 1) _ _ ⟨lr_rd S0 r2, a2, by omega, by omega, w2, d2⟩ fun m3 hm3 => And.intro rfl ?_
    have hm3 := lx_mono (Nat.le_succ roU) hm3
    by_cases w : gI m3 33 0 4 = -1
    · obtain ⟨c1, q1, P1, hq1, hc1, K⟩ := lx_app (by omega) hm3 w
      exact hA c1 q1 m3 _ P1 fun m4 hm4 => And.intro rfl (fin m4 (K m4 hm4))
    · exact h_and_x w (And.intro rfl (fin m3 hm3))
theorem h_or {d roU : Nat} (hro : 1 ≤ roU) (hn : n ≤ 6) (hn2 : xI s 33 13 ≤ (n : Int)) (hl : gI s 33 0 2 = nI l) (hl2 : l ≤ 200) (hU : rdr 0 n l g roU s 218 (d + 3)) (hA : rdr 1 n l g (roU + 1) s 219 (d + 3)) : rdr 1 n l g (roU + 2) s 220 (d + 4) := fun c p m R hm h => qC_of rfl rfl (lor_l hro hn hn2 hl hl2 hU hA (l - p + 1) c p m (by omega) hm h)
theorem h_condition {K roU : Nat} (hro : 1 ≤ roU) (hn : n ≤ 6) (hn2 : xI s 33 13 ≤ (n : Int)) (hl : gI s 33 0 2 = nI l) (hl2 : l ≤ 200) (hU : ∀ d, rdr 0 n l g roU s 218 (d + K + 3)) (d : Nat) : rdr 0 n l g (roU + 2) s 221 (d + K + 6) := fun c p m R hm h => by
  have hcp := hm.2.2.2.1
  have U5 : rdr 0 n l g roU s 218 (d + K + 5) := by
    rw [show d + K + 5 = d + 2 + K + 3 by omega]
    exact hU (d + 2)
  have U4 : rdr 0 n l g roU s 218 (d + K + 1 + 3) := by
    rw [show d + K + 1 + 3 = d + 1 + K + 3 by omega]
    exact hU (d + 1)
  have A5 : rdr 1 n l g (roU + 1) s 219 (d + K + 5) := h_and (d := d + K + 1) hro hn hn2 hl hl2 U4
  have A4 : rdr 1 n l g (roU + 1) s 219 (d + K + 1 + 3) := h_and (d := d + K) hro hn hn2 hl hl2 (hU d)
  have O5 : rdr 1 n l g (roU + 2) s 220 (d + K + 5) := h_or (d := d + K + 1) hro hn hn2 hl hl2 U4 A4
  refine qC_of rfl rfl ?_
  refine qa_t1_W (cut := []) 40 ?_
  refine U5 c p m _ hm fun m1 hm1 => And.intro rfl ?_
  have hm1 := lx_mono (Nat.le_succ roU) hm1
  have ors : ∀ m2, lx_G 0 n l g (roU + 2) c p s m m2 → qC false (d + K + 5) 220 [lR 33 (some 0)] m2 (fun r m3 => r = none ∧ R none m3) := fun m2 hm2 => by
    by_cases w : gI m2 33 0 4 = -1
    · obtain ⟨c1, q1, P1, hq1, hc1, K⟩ := lx_app hcp hm2 w
      exact O5 c1 q1 m2 _ P1 fun m3 hm3 => And.intro rfl (h m3 (K m3 hm3))
    · exact h_or_x w (And.intro rfl (h m2 hm2))
  by_cases w : gI m1 33 0 4 = -1
  · obtain ⟨c1, q1, P1, hq1, hc1, K⟩ := lx_app hcp hm1 w
    exact A5 c1 q1 m1 _ P1 fun m2 hm2 => And.intro rfl (ors m2 (lx_mono (Nat.le_succ _) (K m2 hm2)))
  · exact h_and_x w (And.intro rfl (ors m1 (lx_mono (Nat.le_succ _) hm1)))
theorem h_unit {d c p roS roU ro : Nat} {m : LMem} {Q : LPost} (hn : n ≤ 6) (hn2 : xI s 33 13 ≤ (n : Int)) (hg : g ≤ 6) (hl : gI s 33 0 2 = nI l) (hl2 : l ≤ 200) (hroS : 1 ≤ roS) (hro : roS + 1 ≤ ro) (hro2 : roU + 2 ≤ ro) (hS5 : rdr 0 n l g roS s 215 (d + 5)) (hS4 : rdr 0 n l g roS s 215 (d + 4)) (hU : g < 6 → rdr 0 n l (g + 1) roU s 218 (d + 5)) (hC : g < 6 → rdr 0 n l (g + 1) (roU + 2) s 221 (d + 5)) (hm : lx_P n l g c p s m) (h : ∀ m', lx_G 0 n l g ro c p s m m' → Q none m') : qC false (d + 6) 218 [lR 33 (some 0)] m Q := by
  have hm0 := hm
  obtain ⟨S0, h3, hpl, hcp, h4, h5⟩ := hm
  refine qC_of rfl rfl ?_
  refine qa_t1_W (cut := []) 100 ?_
  refine h_look (lr_l S0 hl) hl2 h3 (by omega) fun m1 q hr k4 k5 k3 hq hq2 _ => Exists.intro _ (And.intro rfl ?_)
  have g6 : ∀ m2 : LMem, gI m2 33 0 4 = -1 → (gI m2 33 0 4 = gI m1 33 0 4 ∧ nI g ≠ 6 ∨ gI m2 33 0 4 ≠ -1) → g < 6 := fun m2 w w2 => by
    rcases w2 with ⟨_, w2⟩ | w2
    · rcases Nat.lt_or_ge g 6 with z | z
      · exact z
      · exact absurd (by rw [show g = 6 by omega]; rfl) w2
    · exact absurd w w2
  refine And.intro (fun e => ?_) (fun _ => And.intro (fun e => ?_) (fun _ => ?_))
  · have hq3 := rch_lt (x := 33) (by decide) e
    refine h_opens k3 (by omega) (by rw [k5, h5]) fun m2 r2 a2 b2 w2 => And.intro rfl ?_
    have r2 := rd_tr hr r2
    refine And.intro (fun w => ?_) (fun w => h m2 (lx_bad hm0 r2 a2 (by omega) (by omega) w))
    have w : gI m2 33 0 4 = -1 := w
    refine hU (g6 m2 w w2) c (q + 1) m2 _ ⟨lr_rd S0 r2, a2, by omega, by omega, w, b2⟩ fun m3 hm3 => And.intro rfl ?_
    obtain ⟨c3, q3, t1, t2, t3, t4, t5, t6, t7, t8⟩ := hm3
    have hc3 : c3 < 260 := by
      rcases t8 with ⟨_, u2, _⟩ | ⟨_, u2⟩ <;> omega
    refine h_put (n := n) hn hn2 hc3 t1 fun m4 S4 P4 => And.intro rfl ?_
    have e33 : ∀ j, gI m4 33 0 j = gI m3 33 0 j := fun j => P4.1 33 0 j (fun q => by omega)
    have r5 := rd_s (s := m4) (v := gI m4 33 0 5 - 1) (Or.inr (Or.inr rfl) : (5 : Nat) = 3 ∨ (5 : Nat) = 4 ∨ (5 : Nat) = 5) rd_0
    have f3 : gI (sI m4 33 0 5 (gI m4 33 0 5 - 1)) 33 0 3 = nI q3 := by rw [gI_sI, if_neg (fun q => absurd q.2.2 (by decide)), e33, t2]
    have f4 : gI (sI m4 33 0 5 (gI m4 33 0 5 - 1)) 33 0 4 = gI m3 33 0 4 := by rw [gI_sI, if_neg (fun q => absurd q.2.2 (by decide)), e33]
    have f5 : gI (sI m4 33 0 5 (gI m4 33 0 5 - 1)) 33 0 5 = gI m3 33 0 5 - 1 := by rw [gI_sI, if_pos ⟨rfl, rfl, rfl⟩, e33]
    suffices G : lx_G 0 n l g ro c p s m (sI m4 33 0 5 (gI m4 33 0 5 - 1)) from h _ G
    refine ⟨c3 + 1, q3, lr_rd S4 r5, f3, by omega, by omega, by omega, fun k j hk hj => by rw [r5.1 k 0 _ (fun q => by omega), P4.1 k 0 _ (fun q => by omega), t6 k j hk hj, r2.1 k 0 _ (fun q => by omega)], fun k j g1 g2 => by rw [r5.1 k 0 _ (fun q => by omega), P4.1 k 0 _ (fun q => by omega), t7 k j g1 g2, r2.1 k 0 _ (fun q => by omega)], ?_⟩
    rw [f4]
    rcases t8 with ⟨u1, u2, u3, u4⟩ | ⟨u1, u2⟩
    · refine Or.inl ⟨u1, u2, ?_, fun hh g1 => ?_⟩
      · rw [f5, u3]
        apply Int32.toInt_inj.mp
        rw [x_sub1' (by omega) (by omega), nI_toInt (by omega)]
        omega
      · have z1 : x_rn m4 n (c3 - c) c hh (hh + 1) := x_rn_put P4 (by omega) (u4 hh (by omega))
        have z2 : x_rn m4 n 1 (c + (c3 - c)) (hh + 1) (hh + 1) := by
          rw [show c + (c3 - c) = c3 by omega]
          exact x_rn_not P4 (by omega) (by omega)
        have z := x_rn_app _ _ _ _ _ _ z1 z2
        rw [show c3 - c + 1 = c3 + 1 - c by omega] at z
        exact x_rn_same _ _ _ _ (fun j _ _ => ⟨by unfold xI; rw [r5.1 35 0 _ (fun q => absurd q.1 (by decide))], by unfold xI; rw [r5.1 36 0 _ (fun q => absurd q.1 (by decide))]⟩) z
    · exact Or.inr ⟨u1, by omega⟩
  · have hq3 := rch_lt (x := 40) (by decide) e
    refine h_opens k3 (by omega) (by rw [k5, h5]) fun m2 r2 a2 b2 w2 => And.intro rfl ?_
    have r2 := rd_tr hr r2
    refine And.intro (fun w => ?_) (fun w => h m2 (lx_bad hm0 r2 a2 (by omega) (by omega) w))
    have w : gI m2 33 0 4 = -1 := w
    refine hC (g6 m2 w w2) c (q + 1) m2 _ ⟨lr_rd S0 r2, a2, by omega, by omega, w, b2⟩ fun m3 hm3 => And.intro rfl ?_
    obtain ⟨c3, q3, t1, t2, t3, t4, t5, t6, t7, t8⟩ := hm3
    have hq4 : q3 ≤ 1000 := by
      rcases t8 with ⟨_, u2, _⟩ | ⟨_, u2⟩ <;> omega
    refine h_closes (by decide) (lr_l t1 hl) hl2 t2 hq4 fun m4 q4 r4 a4 z1 z2 b4 w4 w5 => And.intro rfl (h m4 ?_)
    refine ⟨c3, q4 + 1, lr_rd t1 r4, a4, t3, by omega, by omega, fun k j hk hj => ?_, fun k j g1 g2 => ?_, ?_⟩
    · rw [r4.1 k 0 _ (fun q => by omega), t6 k j hk hj, r2.1 k 0 _ (fun q => by omega)]
    · rw [r4.1 k 0 _ (fun q => by omega), t7 k j g1 g2, r2.1 k 0 _ (fun q => by omega)]
    · rcases t8 with ⟨u1, u2, u3, u4⟩ | ⟨u1, u2⟩
      · by_cases w6 : gI m4 33 0 4 = -1
        · refine Or.inl ⟨w6, by have := w5 w6; omega, ?_, fun hh g1 => ?_⟩
          · rw [b4, u3]
            apply Int32.toInt_inj.mp
            rw [x_sub1' (by omega) (by omega), nI_toInt (by omega)]
            omega
          · exact x_rn_same _ _ _ _ (fun j _ _ => ⟨by unfold xI; rw [r4.1 35 0 _ (fun q => absurd q.1 (by decide))], by unfold xI; rw [r4.1 36 0 _ (fun q => absurd q.1 (by decide))]⟩) (u4 hh (by omega))
        · exact Or.inr ⟨w6, by omega⟩
      · refine Or.inr ⟨?_, by omega⟩
        rcases w4 with w4 | w4
        · rw [w4]
          exact u1
        · exact w4
  · have w1 : gI m1 33 0 4 = -1 := by rw [k4, h4]
    have P1 : lx_P n l g c q s m1 := ⟨lr_rd S0 hr, k3, by omega, by omega, w1, by rw [k5, h5]⟩
    refine hS5 c q m1 _ P1 fun m3 hm3 => And.intro rfl ?_
    have back : ∀ m', lx_G 0 n l g ro c q s m1 m' → lx_G 0 n l g ro c p s m m' := fun m' hm' => by
      obtain ⟨c3, q3, t1, t2, t3, t4, t5, t6, t7, t8⟩ := hm'
      exact ⟨c3, q3, t1, t2, t3, by omega, by omega, fun k j hk hj => by rw [t6 k j hk hj, hr.1 k 0 _ (fun q => by omega)], fun k j g1 g2 => by rw [t7 k j g1 g2, hr.1 k 0 _ (fun q => by omega)], t8⟩
    have hm3 := lx_mono (show roS ≤ ro by omega) hm3
    refine And.intro (fun w => ?_) (fun _ => h m3 (back m3 hm3))
    obtain ⟨c1, q1, P3, hq1, hc1, K⟩ := lx_app (by omega) hm3 w
    exact h_compare hroS hn hn2 hg hl hl2 hS4 P3 fun m4 hm4 => And.intro rfl (h m4 (back m4 (K m4 (lx_mono hro hm4))))
/-- unit and condition at every depth -/
theorem h_unitG (hn : n ≤ 6) (hn2 : xI s 33 13 ≤ (n : Int)) (hl : gI s 33 0 2 = nI l) (hl2 : l ≤ 200) : ∀ k g, g + k = 6 → ∀ d, rdr 0 n l g (2 * k + 4) s 218 (d + (4 * k + 6) + 3) := by
  intro k
  induction k with
  | zero =>
    intro g hg d c p m R hm h
    have S5 : rdr 0 n l g 3 s 215 (d + 3 + 5) := fun c p m R h1 h2 => h_sumG hn hn2 hl hl2 0 g hg (d + 1) c p m R h1 h2
    have S4 : rdr 0 n l g 3 s 215 (d + 3 + 4) := fun c p m R h1 h2 => h_sumG hn hn2 hl hl2 0 g hg d c p m R h1 h2
    exact h_unit (d := d + 3) (roS := 3) (roU := 2) hn hn2 (by omega) hl hl2 (by decide) (by decide) (by decide) S5 S4 (fun q => absurd q (by omega)) (fun q => absurd q (by omega)) hm h
  | succ k ih =>
    intro g hg d c p m R hm h
    have S5 : rdr 0 n l g (2 * (k + 1) + 1 + 1 + 1) s 215 (d + (4 * k + 7) + 5) := fun c p m R h1 h2 => by
      rw [show d + (4 * k + 7) + 5 = (d + k + 2) + 3 * (k + 1) + 7 by omega]
      exact h_sumG hn hn2 hl hl2 (k + 1) g hg (d + k + 2) c p m R h1 h2
    have S4 : rdr 0 n l g (2 * (k + 1) + 1 + 1 + 1) s 215 (d + (4 * k + 7) + 4) := fun c p m R h1 h2 => by
      rw [show d + (4 * k + 7) + 4 = (d + k + 1) + 3 * (k + 1) + 7 by omega]
      exact h_sumG hn hn2 hl hl2 (k + 1) g hg (d + k + 1) c p m R h1 h2
    have U : ∀ d, rdr 0 n l (g + 1) (2 * k + 4) s 218 (d + (4 * k + 6) + 3) := ih (g + 1) (by omega)
    have U5 : rdr 0 n l (g + 1) (2 * k + 4) s 218 (d + (4 * k + 7) + 5) := by
      rw [show d + (4 * k + 7) + 5 = (d + 3) + (4 * k + 6) + 3 by omega]
      exact U (d + 3)
    have C5 : rdr 0 n l (g + 1) (2 * k + 4 + 2) s 221 (d + (4 * k + 7) + 5) := by
      rw [show d + (4 * k + 7) + 5 = d + (4 * k + 6) + 6 by omega]
      exact h_condition (by omega) hn hn2 hl hl2 U d
    rw [show d + (4 * (k + 1) + 6) + 3 = d + (4 * k + 7) + 6 by omega]
    exact h_unit (d := d + (4 * k + 7)) (roS := 2 * (k + 1) + 1 + 1 + 1) (roU := 2 * k + 4) hn hn2 (by omega) hl hl2 (by omega) (by omega) (by omega) S5 S4 (fun _ => U5) (fun _ => C5) hm h
end CU
