/-! clause. -/
/-- while clause j is read, begun at codes = c -/
def cb (n j c : Nat) (m0 m : LMem) : Prop := gI m 38 0 n = nI j ∧ gI m 39 0 (60 * n + j) = nI c ∧ (∀ k i, (k = 35 ∨ k = 36) → i < c → gI m k 0 (260 * n + i) = gI m0 k 0 (260 * n + i)) ∧ (∀ k i, 39 ≤ k → k ≤ 41 → i ≠ 60 * n + j → gI m k 0 i = gI m0 k 0 i)
theorem cb_rd {n j c : Nat} {m0 m m' : LMem} (h : cb n j c m0 m) (r : rd_S m m') : cb n j c m0 m' := by
  obtain ⟨h1, h2, h3, h4⟩ := h
  exact ⟨by rw [r.1 38 0 _ (fun q => by omega), h1], by rw [r.1 39 0 _ (fun q => by omega), h2], fun k i hk hi => by rw [r.1 k 0 _ (fun q => by omega), h3 k i hk hi], fun k i g1 g2 g3 => by rw [r.1 k 0 _ (fun q => by omega), h4 k i g1 g2 g3]⟩
theorem cb_G {i l g ro n j c c1 p : Nat} {s m0 m m' : LMem} (h : cb n j c m0 m) (hc : c ≤ c1) (H : lx_G i n l g ro c1 p s m m') : cb n j c m0 m' := by
  obtain ⟨h1, h2, h3, h4⟩ := h
  obtain ⟨c2, q2, t1, t2, t3, t4, t5, t6, t7, t8⟩ := H
  exact ⟨by rw [t7 38 _ (by omega) (by omega), h1], by rw [t7 39 _ (by omega) (by omega), h2], fun k i hk hi => by rw [t6 k i hk (by omega), h3 k i hk hi], fun k i g1 g2 g3 => by rw [t7 k i (by omega) g2, h4 k i g1 g2 g3]⟩
/-- what a clause leaves -/
def cl_O (n l j c p : Nat) (s m0 m' : LMem) : Prop := y_J x_X m' ∧ y_Fr lr_W s m' ∧ (gI m' 33 0 4 = -1 → ∃ c' q, lx_P n l 0 c' q s m' ∧ p + 3 ≤ q ∧ c ≤ c' ∧ gI m' 38 0 n = nI (j + 1) ∧ x_cl m' n j ∧ gI m' 41 0 (60 * n + j) = nI c' ∧ (∀ k i, (k = 35 ∨ k = 36) → i < c → gI m' k 0 (260 * n + i) = gI m0 k 0 (260 * n + i)) ∧ (∀ k i, 39 ≤ k → k ≤ 41 → i ≠ 60 * n + j → gI m' k 0 i = gI m0 k 0 i))
theorem cl_no {n l j c p c1 : Nat} {s m0 m m' : LMem} (S : lr_S n s m c1) (r : rd_S m m') (w : gI m' 33 0 4 ≠ -1) : cl_O n l j c p s m0 m' := ⟨(lr_rd S r).1, (lr_rd S r).2.1, fun q => absurd q w⟩
theorem lr_c {n j c1 k : Nat} {v : Int32} {s m : LMem} (hn : n ≤ 6) (hn2 : xI s 33 13 ≤ (n : Int)) (hj : j ≤ 59) (hk : k = 39 ∨ k = 40 ∨ k = 41) (S : lr_S n s m c1) : lr_S n s (sI m k 0 (60 * n + j) v) c1 := by
  obtain ⟨J, F, h14, h37⟩ := S
  have e13 : xI m 33 13 = xI s 33 13 := by
    unfold xI
    rw [(F 33 0 13 (x_nW 13 13 (by decide) (by decide) (by decide))).1]
  have mem : (k, (0 : Int), (0 : Int), (0 : Int), (419 : Int)) ∈ lr_W := by
    rcases hk with rfl | rfl | rfl <;> decide
  refine ⟨lr_J (n := n) J (by rw [e13]; exact hn2) (Or.inr (Or.inr (Or.inr ⟨hk, by omega⟩))), y_Fr_sI F ⟨_, mem, rfl, ⟨Int.le_refl _, Int.le_refl _⟩, ?_, ?_⟩, ?_, ?_⟩
  · show (0 : Int) ≤ ((60 * n + j : Nat) : Int); omega
  · show ((60 * n + j : Nat) : Int) ≤ 419; omega
  · rw [gI_sI, if_neg (fun q => by omega), h14]
  · rw [gI_sI, if_neg (fun q => by omega), h37]
section CL
variable {l n : Nat} {s : LMem}
theorem cl_250 {d bc bs j c c1 b p q : Nat} {o : Option LV} {m0 m M : LMem} {Q : LPost} (hn : n ≤ 6) (hn2 : xI s 33 13 ≤ (n : Int)) (hj : j ≤ 59) (hc1 : c1 < 260) (eM : M = m) (S : lr_S n s m c1) (B : cb n j c m0 m) (hb : gI m 40 0 (60 * n + j) = nI b) (W : gI m 33 0 4 = -1 → gI m 33 0 3 = nI q ∧ q ≤ l ∧ gI m 33 0 5 = nI 0 ∧ c1 ≤ q ∧ p + 3 ≤ q ∧ c ≤ b ∧ b ≤ c1 ∧ x_run m n (b - c) c 0 ∧ x_run m n (c1 - b) b 0) (h : ∀ m', cl_O n l j c p s m0 m' → Q none m') : qW false d 222 bc bs 250 [some (lR 33 (some 0)), some (lI (nI (60 * n + j))), o] [] M Q := by
  subst eM
  have S0 := S
  obtain ⟨J, F, h14, h37⟩ := S
  obtain ⟨B1, B2, B3, B4⟩ := B
  have e13 : xI M 33 13 = xI s 33 13 := by
    unfold xI
    rw [(F 33 0 13 (x_nW 13 13 (by decide) (by decide) (by decide))).1]
  have en : (nI n).toNatClampNeg = n := nI_clamp (by omega)
  have ek : (nI (60 * n + j)).toNatClampNeg = 60 * n + j := nI_clamp (by omega)
  have v7 : qa_vin (gI M 33 0 14) 7 := by rw [h14]; exact nI_in (by omega) (by decide)
  have vk : qa_vin (nI (60 * n + j)) 420 := nI_in (by omega) (by decide)
  have S1 : lr_S n s (sI M 41 0 (60 * n + j) (nI c1)) c1 := lr_c hn hn2 hj (Or.inr (Or.inr rfl)) S0
  have J2 : y_J x_X (sI (sI M 41 0 (60 * n + j) (nI c1)) 38 0 n (nI (j + 1))) := by
    refine lr_J (n := n) S1.1 ?_ (Or.inr (Or.inr (Or.inl ⟨rfl, rfl⟩)))
    unfold xI
    rw [gI_sI, if_neg (fun q => absurd q.1 (by decide))]
    unfold xI at e13 hn2
    rw [e13]
    exact hn2
  have F2 : y_Fr lr_W s (sI (sI M 41 0 (60 * n + j) (nI c1)) 38 0 n (nI (j + 1))) := y_Fr_sI S1.2.1 ⟨(38, 0, 0, 0, 6), by decide, rfl, ⟨Int.le_refl _, Int.le_refl _⟩, by show (0 : Int) ≤ (n : Int); omega, by show (n : Int) ≤ 6; omega⟩
  have g : ∀ k' j', ¬ (k' = 41 ∧ j' = 60 * n + j) → ¬ (k' = 38 ∧ j' = n) → gI (sI (sI M 41 0 (60 * n + j) (nI c1)) 38 0 n (nI (j + 1))) k' 0 j' = gI M k' 0 j' := fun k' j' g1 g2 => by
    rw [gI_sI, if_neg (fun q => g2 ⟨q.1, q.2.2⟩), gI_sI, if_neg (fun q => g1 ⟨q.1, q.2.2⟩)]
  have g41 : gI (sI (sI M 41 0 (60 * n + j) (nI c1)) 38 0 n (nI (j + 1))) 41 0 (60 * n + j) = nI c1 := by
    rw [gI_sI, if_neg (fun q => absurd q.1 (by decide)), gI_sI, if_pos ⟨rfl, rfl, rfl⟩]
  have g38 : gI (sI (sI M 41 0 (60 * n + j) (nI c1)) 38 0 n (nI (j + 1))) 38 0 n = nI (j + 1) := by rw [gI_sI, if_pos ⟨rfl, rfl, rfl⟩]
  have fin : Q none (sI (sI M 41 0 (60 * n + j) (nI c1)) 38 0 n (nI (j + 1))) := by
    refine h _ ⟨J2, F2, fun w => ?_⟩
    rw [g 33 4 (fun q => absurd q.1 (by decide)) (fun q => absurd q.1 (by decide))] at w
    obtain ⟨w1, w2, w3, w4, w5, w6, w7, w8, w9⟩ := W w
    refine ⟨c1, q, ⟨⟨J2, F2, ?_, ?_⟩, ?_, w2, w4, ?_, ?_⟩, w5, by omega, g38, ⟨c, b, c1, ?_, ?_, ?_, w6, w7, by omega, ?_, ?_⟩, g41, fun k i hk hi => ?_, fun k i y1 y2 y3 => ?_⟩
    · rw [g 33 14 (fun q => absurd q.1 (by decide)) (fun q => absurd q.1 (by decide)), h14]
    · rw [g 37 n (fun q => absurd q.1 (by decide)) (fun q => absurd q.1 (by decide)), h37]
    · rw [g 33 3 (fun q => absurd q.1 (by decide)) (fun q => absurd q.1 (by decide)), w1]
    · rw [g 33 4 (fun q => absurd q.1 (by decide)) (fun q => absurd q.1 (by decide)), w]
    · rw [g 33 5 (fun q => absurd q.1 (by decide)) (fun q => absurd q.1 (by decide)), w3]
    · unfold xI
      rw [g 39 _ (fun q => absurd q.1 (by decide)) (fun q => absurd q.1 (by decide)), B2, nI_toInt (by omega)]
    · unfold xI
      rw [g 40 _ (fun q => absurd q.1 (by decide)) (fun q => absurd q.1 (by decide)), hb, nI_toInt (by omega)]
    · unfold xI
      rw [g41, nI_toInt (by omega)]
    · refine x_run_sl (s := M) (fun a _ => ⟨?_, ?_⟩) _ _ _ (by omega) w8
      · unfold xI; rw [g 35 _ (fun q => absurd q.1 (by decide)) (fun q => absurd q.1 (by decide))]
      · unfold xI; rw [g 36 _ (fun q => absurd q.1 (by decide)) (fun q => absurd q.1 (by decide))]
    · refine x_run_sl (s := M) (fun a _ => ⟨?_, ?_⟩) _ _ _ (by omega) w9
      · unfold xI; rw [g 35 _ (fun q => absurd q.1 (by decide)) (fun q => absurd q.1 (by decide))]
      · unfold xI; rw [g 36 _ (fun q => absurd q.1 (by decide)) (fun q => absurd q.1 (by decide))]
    · rw [g k _ (fun q => by omega) (fun q => by omega), B3 k i hk hi]
    · rw [g k _ (fun q => by omega) (fun q => by omega), B4 k i y1 y2 y3]
  have a1 : sI M 41 0 (nI (60 * n + j)).toNatClampNeg (gI M 37 0 (gI M 33 0 14).toNatClampNeg) = sI M 41 0 (60 * n + j) (nI c1) := by rw [h14, en, h37, ek]
  have b14 : gI (sI M 41 0 (60 * n + j) (nI c1)) 33 0 14 = nI n := S1.2.2.1
  have b38 : gI (sI M 41 0 (60 * n + j) (nI c1)) 38 0 n = nI j := by rw [gI_sI, if_neg (fun q => absurd q.1 (by decide)), B1]
  have v7b : qa_vin (gI (sI M 41 0 (60 * n + j) (nI c1)) 33 0 14) 7 := by rw [b14]; exact nI_in (by omega) (by decide)
  have fin2 : Q none (sI (sI M 41 0 (60 * n + j) (nI c1)) 38 0 (gI (sI M 41 0 (60 * n + j) (nI c1)) 33 0 14).toNatClampNeg (gI (sI M 41 0 (60 * n + j) (nI c1)) 38 0 (gI (sI M 41 0 (60 * n + j) (nI c1)) 33 0 14).toNatClampNeg + 1)) := by
    rw [b14, en, b38, nI_1]
    exact fin
  rw [← a1] at v7b fin2
  refine qa_t1_W (cut := []) 60 ?_
  exact And.intro v7 (And.intro vk (And.intro v7b (And.intro v7b fin2)))
theorem cl_246 {d bc bs j c c1 p q : Nat} {o : Option LV} {m0 m M : LMem} {Q : LPost} (hn : n ≤ 6) (hn2 : xI s 33 13 ≤ (n : Int)) (hj : j ≤ 59) (hl2 : l ≤ 200) (RS : rdr 0 n l 0 15 s 215 d) (eM : M = m) (P : lx_P n l 0 c1 q s m) (B : cb n j c m0 m) (hb : gI m 40 0 (60 * n + j) = nI c1) (X : x_rn m n (c1 - c) c 0 1) (hc : c ≤ c1) (hpq : p + 3 ≤ q) (h : ∀ m', cl_O n l j c p s m0 m' → Q none m') : qW false d 222 bc bs 246 [some (lR 33 (some 0)), some (lI (nI (60 * n + j))), o] [] M Q := by
  subst eM
  refine qa_t1_W (cut := [250]) 20 ?_
  refine RS c1 q M _ P fun m6 hm6 => And.intro rfl ?_
  have B6 := cb_G B hc hm6
  have hcq := P.2.2.2.1
  obtain ⟨c2, q2, t1, t2, t3, t4, t5, t6, t7, t8⟩ := hm6
  have hc2 : c2 < 260 := by
    rcases t8 with ⟨_, u2, _⟩ | ⟨_, u2⟩ <;> omega
  refine cl_250 (c1 := c2) (b := c1) (q := q2) hn hn2 hj hc2 rfl t1 B6 (by rw [t7 40 _ (by omega) (by omega), hb]) (fun w => ?_) h
  rcases t8 with ⟨u1, u2, u3, u4⟩ | ⟨u1, _⟩
  · refine ⟨t2, u2, u3, by omega, by omega, hc, t3, ?_, ?_⟩
    · exact x_rn_run _ _ _ _ (x_rn_same _ _ _ _ (fun i y1 y2 => ⟨by unfold xI; rw [t6 35 i (Or.inl rfl) (by omega)], by unfold xI; rw [t6 36 i (Or.inr rfl) (by omega)]⟩) X)
    · exact x_rn_run _ _ _ _ (u4 0 (by omega))
  · exact absurd w u1
theorem cl_195 {d bc bs j c p p1 ro : Nat} {t : Int32} {m0 mb m M : LMem} {Q : LPost} (hn : n ≤ 6) (hn2 : xI s 33 13 ≤ (n : Int)) (hj : j ≤ 59) (hl : gI s 33 0 2 = nI l) (hl2 : l ≤ 200) (RS : rdr 0 n l 0 15 s 215 (d + 3)) (ht : t = 0 ∨ t = 1) (eM : M = sI m 40 0 (60 * n + j) (nI c)) (G : lx_G 0 n l 0 ro c p1 s mb m) (B : cb n j c m0 m) (hro : ro ≤ 80) (hp1 : p + 2 ≤ p1) (hcp : c ≤ p1) (h : ∀ m', cl_O n l j c p s m0 m' → Q none m') : qW false (d + 3) 222 bc bs 195 [some (lR 33 (some 0)), some (lI (nI (60 * n + j))), some (lI t)] [] M Q := by
  have en : (nI n).toNatClampNeg = n := nI_clamp (by omega)
  have ek : (nI (60 * n + j)).toNatClampNeg = 60 * n + j := nI_clamp (by omega)
  have vk : qa_vin (nI (60 * n + j)) 420 := nI_in (by omega) (by decide)
  obtain ⟨c1, q1, t1, t2, t3, t4, t5, t6, t7, t8⟩ := G
  have hc1 : c1 < 260 := by
    rcases t8 with ⟨_, u2, _⟩ | ⟨_, u2⟩ <;> omega
  have S1 : lr_S n s M c1 := by
    rw [eM]
    exact lr_c hn hn2 hj (Or.inr (Or.inl rfl)) t1
  have g : ∀ k' j', ¬ (k' = 40 ∧ j' = 60 * n + j) → gI M k' 0 j' = gI m k' 0 j' := fun k' j' g1 => by
    rw [eM, gI_sI, if_neg (fun q => g1 ⟨q.1, q.2.2⟩)]
  have g40 : gI M 40 0 (60 * n + j) = nI c := by rw [eM, gI_sI, if_pos ⟨rfl, rfl, rfl⟩]
  have B1 : cb n j c m0 M := ⟨by rw [g 38 _ (fun q => by omega), B.1], by rw [g 39 _ (fun q => by omega), B.2.1], fun k i hk hi => by rw [g k _ (fun q => by omega), B.2.2.1 k i hk hi], fun k i y1 y2 y3 => by rw [g k _ (fun q => by omega), B.2.2.2 k i y1 y2 y3]⟩
  have e4 : gI M 33 0 4 = gI m 33 0 4 := g 33 4 (fun q => by omega)
  have seg : gI m 33 0 4 = -1 → q1 ≤ l ∧ gI m 33 0 5 = nI 0 ∧ x_rn M n (c1 - c) c 0 1 ∧ c + 1 ≤ c1 := fun w => by
    rcases t8 with ⟨u1, u2, u3, u4⟩ | ⟨u1, _⟩
    · have z : x_rn m n (c1 - c) c 0 1 := u4 0 (by omega)
      refine ⟨u2, u3, x_rn_same _ _ _ _ (fun i _ _ => ⟨by unfold xI; rw [g 35 _ (fun q => by omega)], by unfold xI; rw [g 36 _ (fun q => by omega)]⟩) z, ?_⟩
      rcases Nat.lt_or_ge c c1 with y | y
      · exact y
      · rw [show c1 - c = 0 by omega] at z
        have z : (0 : Nat) = 1 := z
        omega
    · exact absurd w u1
  have end0 : ∀ o, qW false (d + 3) 222 bc bs 250 [some (lR 33 (some 0)), some (lI (nI (60 * n + j))), o] [] M Q := fun o => by
    refine cl_250 (c1 := c1) (b := c) (q := q1) hn hn2 hj hc1 rfl S1 B1 g40 (fun w => ?_) h
    rw [e4] at w
    obtain ⟨y1, y2, y3, y4⟩ := seg w
    refine ⟨by rw [g 33 3 (fun q => by omega), t2], y1, by rw [g 33 5 (fun q => by omega), y2], by omega, by omega, Nat.le_refl _, t3, ?_, x_rn_run _ _ _ _ y3⟩
    rw [Nat.sub_self]
    trivial
  rcases ht with rfl | rfl
  · refine qa_t1_W (cut := [250]) 20 ?_
    exact And.intro (fun _ => end0 _) (fun q => absurd rfl q)
  · refine qa_t1_W (cut := [246, 250]) 60 ?_
    refine And.intro (fun q => absurd q (by decide)) (fun _ => ?_)
    refine And.intro (fun w => ?_) (fun _ => end0 _)
    have w : gI M 33 0 4 = -1 := w
    obtain ⟨y1, y2, y3, y4⟩ := seg (e4.symm.trans w)
    have h3 : gI M 33 0 3 = nI q1 := by rw [g 33 3 (fun q => by omega), t2]
    refine h_look (lr_l S1 hl) hl2 h3 (by omega) fun m3 q3 hr k4 k5 k3 hq hq2 _ => Exists.intro _ (And.intro rfl ?_)
    refine And.intro (fun e => ?_) (fun _ => ?_)
    · have hq3 := rch_lt (x := 63) (by decide) e
      have r4 := rd_tr hr (rd_s (s := m3) (v := gI m3 33 0 3 + 1) (Or.inl rfl : (3 : Nat) = 3 ∨ (3 : Nat) = 4 ∨ (3 : Nat) = 5) rd_0)
      have S4 := lr_rd S1 r4
      have v7 : qa_vin (gI (sI m3 33 0 3 (gI m3 33 0 3 + 1)) 33 0 14) 7 := by rw [S4.2.2.1]; exact nI_in (by omega) (by decide)
      have a5 : sI (sI m3 33 0 3 (gI m3 33 0 3 + 1)) 40 0 (nI (60 * n + j)).toNatClampNeg (gI (sI m3 33 0 3 (gI m3 33 0 3 + 1)) 37 0 (gI (sI m3 33 0 3 (gI m3 33 0 3 + 1)) 33 0 14).toNatClampNeg) = sI (sI m3 33 0 3 (gI m3 33 0 3 + 1)) 40 0 (60 * n + j) (nI c1) := by rw [S4.2.2.1, en, S4.2.2.2, ek]
      have g5 : ∀ k' j', ¬ (k' = 40 ∧ j' = 60 * n + j) → gI (sI (sI m3 33 0 3 (gI m3 33 0 3 + 1)) 40 0 (60 * n + j) (nI c1)) k' 0 j' = gI (sI m3 33 0 3 (gI m3 33 0 3 + 1)) k' 0 j' := fun k' j' g1 => by
        rw [gI_sI, if_neg (fun q => g1 ⟨q.1, q.2.2⟩)]
      have B4 := cb_rd B1 r4
      refine And.intro v7 (And.intro vk ?_)
      refine cl_246 (c1 := c1) (q := q3 + 1) hn hn2 hj hl2 RS a5 ⟨lr_c hn hn2 hj (Or.inr (Or.inl rfl)) S4, ?_, by omega, by omega, ?_, ?_⟩ ⟨by rw [g5 38 _ (fun q => by omega), B4.1], by rw [g5 39 _ (fun q => by omega), B4.2.1], fun k i hk hi => by rw [g5 k _ (fun q => by omega), B4.2.2.1 k i hk hi], fun k i y1 y2 y3 => by rw [g5 k _ (fun q => by omega), B4.2.2.2 k i y1 y2 y3]⟩ (by rw [gI_sI, if_pos ⟨rfl, rfl, rfl⟩]) ?_ t3 (by omega) h
      · rw [g5 33 3 (fun q => by omega), gI_sI, if_pos ⟨rfl, rfl, rfl⟩, k3, nI_1]
      · rw [g5 33 4 (fun q => by omega), gI_sI, if_neg (fun q => absurd q.2.2 (by decide)), k4, w]
      · rw [g5 33 5 (fun q => by omega), gI_sI, if_neg (fun q => absurd q.2.2 (by decide)), k5, g 33 5 (fun q => by omega), y2]
      · exact x_rn_same _ _ _ _ (fun i _ _ => ⟨by unfold xI; rw [g5 35 _ (fun q => by omega), r4.1 35 0 _ (fun q => absurd q.1 (by decide))], by unfold xI; rw [g5 36 _ (fun q => by omega), r4.1 36 0 _ (fun q => absurd q.1 (by decide))]⟩) y3
    · have fin : ∀ x, x ≠ -1 → Q none (sI m3 33 0 4 x) := fun x hx => by
        refine h _ (cl_no S1 (rd_s (Or.inr (Or.inl rfl)) hr) ?_)
        rw [gI_sI, if_pos ⟨rfl, rfl, rfl⟩]
        exact hx
      exact h_bad k3 (fun _ => And.intro rfl (fin _ (nI_ne1 (by omega)))) (fun w => And.intro rfl (fin _ w))
theorem cl_183 {d bc bs j c p p1 ro : Nat} {t : Int32} {m0 mb m : LMem} {Q : LPost} (hn : n ≤ 6) (hn2 : xI s 33 13 ≤ (n : Int)) (hj : j ≤ 59) (hl : gI s 33 0 2 = nI l) (hl2 : l ≤ 200) (RS : rdr 0 n l 0 15 s 215 (d + 3)) (ht : t = 0 ∨ t = 1) (B : cb n j c m0 mb) (G : lx_G 0 n l 0 ro c p1 s mb m) (hro : ro ≤ 80) (hp1 : p + 2 ≤ p1) (hcp : c ≤ p1) (h : ∀ m', cl_O n l j c p s m0 m' → Q none m') : qW false (d + 3) 222 bc bs 183 [some (lR 33 (some 0)), some (lI (nI (60 * n + j))), some (lI t)] [] m Q := by
  have vk : qa_vin (nI (60 * n + j)) 420 := nI_in (by omega) (by decide)
  have ek : (nI (60 * n + j)).toNatClampNeg = 60 * n + j := nI_clamp (by omega)
  have Bm := cb_G B (Nat.le_refl _) G
  have a1 : sI m 40 0 (nI (60 * n + j)).toNatClampNeg (gI m 39 0 (nI (60 * n + j)).toNatClampNeg) = sI m 40 0 (60 * n + j) (nI c) := by rw [ek, Bm.2.1]
  refine qa_t1_W (cut := [195]) 20 ?_
  exact And.intro vk (And.intro vk (cl_195 hn hn2 hj hl hl2 RS ht a1 G Bm hro hp1 hcp h))
end CL
