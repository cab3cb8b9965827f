/-! term, sum. -/
def lx_A (n c0 p0 c q : Nat) (s m0 m : LMem) : Prop := lr_S n s m c ∧ gI m 33 0 3 = nI q ∧ c0 ≤ c ∧ p0 ≤ q ∧ c + p0 ≤ q + c0 ∧ (∀ k j, (k = 35 ∨ k = 36) → j < c0 → gI m k 0 (260 * n + j) = gI m0 k 0 (260 * n + j)) ∧ (∀ k j, 38 ≤ k → k ≤ 41 → gI m k 0 j = gI m0 k 0 j)
section TS
variable {d l n g : Nat} {s : LMem} {Q : LPost}
theorem term_x {o : Nat} {m : LMem} {bc bs : Nat} (h : Q none m) : qW false (d + o) 214 bc bs 21 [some (lR 33 (some 0)), some (lI (-1))] [] m Q := by
  refine qa_t1_W (cut := []) 30 ?_
  refine And.intro (fun q => absurd q (by decide)) (fun _ => ?_)
  exact And.intro (fun q => absurd q (by decide)) (fun _ => h)
theorem term_l {bc bs roA c0 p0 : Nat} {m0 : LMem} (hn : n ≤ 6) (hn2 : xI s 33 13 ≤ (n : Int)) (hg : g ≤ 6) (hro : 1 ≤ roA) (hl : gI s 33 0 2 = nI l) (hl2 : l ≤ 200) (hcp : c0 ≤ p0)
    (ha : ∀ c p m (R : LPost), lx_P n l g c p s m → (∀ m', lx_Q n l g roA c p s m m' → R none m') → qC false (d + 5) 213 [lR 33 (some 0)] m R)
    (h : ∀ m', lx_Q n l g (roA + 1) c0 p0 s m0 m' → Q none m') : ∀ f c q m, l - q ≤ f → lx_A n c0 p0 c q s m0 m → gI m 33 0 4 = -1 → q ≤ l → gI m 33 0 5 = nI g → (∀ h, h + (roA + 1) ≤ 80 → x_rn m n (c - c0) c0 h (h + 1)) → qW false (d + 5) 214 bc bs 21 [some (lR 33 (some 0)), some (lI (rch m l q))] [] m Q := by
  intro f
  induction f with
  | zero =>
    intro c q m hf hA hw hq h5 hs
    have e : rch m l q = -1 := by unfold rch; rw [if_neg (by omega)]
    rw [e]
    exact term_x (h m ⟨c, q, hA.1, hA.2.1, hA.2.2.1, hA.2.2.2.1, hA.2.2.2.2.1, hA.2.2.2.2.2.1, hA.2.2.2.2.2.2, Or.inl ⟨hw, hq, h5, hs⟩⟩)
  | succ f ih =>
    intro c q m hf hA hw hq h5 hs
    have fin := h m ⟨c, q, hA.1, hA.2.1, hA.2.2.1, hA.2.2.2.1, hA.2.2.2.2.1, hA.2.2.2.2.2.1, hA.2.2.2.2.2.2, Or.inl ⟨hw, hq, h5, hs⟩⟩
    obtain ⟨S, h3, b1, b2, b3, b4, b5⟩ := hA
    have lt : ∀ x : Int32, x ≠ -1 → rch m l q = x → q < l := fun x hx e => by
      unfold rch at e
      by_cases g : q < l
      · exact g
      · rw [if_neg g] at e
        exact absurd e.symm hx
    have r2 := rd_s (s := m) (v := gI m 33 0 3 + 1) (Or.inl rfl : (3 : Nat) = 3 ∨ (3 : Nat) = 4 ∨ (3 : Nat) = 5) rd_0
    have a2 : gI (sI m 33 0 3 (gI m 33 0 3 + 1)) 33 0 3 = nI (q + 1) := by rw [gI_sI, if_pos ⟨rfl, rfl, rfl⟩, h3, nI_1]
    have w2 : gI (sI m 33 0 3 (gI m 33 0 3 + 1)) 33 0 4 = -1 := by rw [gI_sI, if_neg (fun q => absurd q.2.2 (by decide)), hw]
    have d2 : gI (sI m 33 0 3 (gI m 33 0 3 + 1)) 33 0 5 = nI g := by rw [gI_sI, if_neg (fun q => absurd q.2.2 (by decide)), h5]
    have S2 := lr_rd S r2
    have go : q < l → qC false (d + 5) 213 [lR 33 (some 0)] (sI m 33 0 3 (gI m 33 0 3 + 1)) (fun r m3 => r = none ∧ ∀ x : Int32, 2 ≤ x.toInt → x ≠ 9 → qC false (d + 5) 208 [lR 33 (some 0), lI x, lI 0] m3 (fun r m4 => r = none ∧ qW false (d + 5) 214 bc bs 63 [some (lR 33 (some 0)), some (lI (rch m l q))] [] m4 Q)) := fun hql => by
      refine ha c (q + 1) _ _ ⟨S2, a2, by omega, by omega, w2, d2⟩ fun m3 hm3 => And.intro rfl fun x hx hx9 => ?_
      obtain ⟨c3, q3, t1, t2, t3, t4, t5, t6, t7, t8⟩ := hm3
      have hc3 : c3 < 260 := by
        rcases t8 with ⟨_, u2, _⟩ | ⟨_, u2⟩ <;> omega
      refine h_put (n := n) hn hn2 hc3 t1 fun m4 S4 P4 => And.intro rfl ?_
      have e33 : ∀ j, gI m4 33 0 j = gI m3 33 0 j := fun j => P4.1 33 0 j (fun q => by omega)
      have A4 : lx_A n c0 p0 (c3 + 1) q3 s m0 m4 := ⟨S4, by rw [e33, t2], by omega, by omega, by omega, fun k j hk hj => by rw [P4.1 k 0 _ (fun q => by omega), t6 k j hk (by omega), r2.1 k 0 _ (fun q => by omega), b4 k j hk hj], fun k j g1 g2 => by rw [P4.1 k 0 _ (fun q => by omega), t7 k j g1 g2, r2.1 k 0 _ (fun q => by omega), b5 k j g1 g2]⟩
      refine qa_t1_W (cut := [21]) 40 ?_
      refine And.intro (fun w => ?_) (fun w => ?_)
      · have w : gI m4 33 0 4 = -1 := w
        rcases t8 with ⟨u1, u2, u3, u4⟩ | ⟨u1, _⟩
        · refine h_look (lr_l S4 hl) hl2 A4.2.1 (by omega) fun m5 q5 r5 k4 k5 k3 v1 v2 _ => Exists.intro _ (And.intro rfl ?_)
          rw [← rch_eq r5]
          refine ih (c3 + 1) q5 m5 (by omega) ⟨lr_rd S4 r5, k3, A4.2.2.1, by omega, by have := A4.2.2.2.2.1; omega, fun k j hk hj => by rw [r5.1 k 0 _ (fun q => by omega), A4.2.2.2.2.2.1 k j hk hj], fun k j g1 g2 => by rw [r5.1 k 0 _ (fun q => by omega), A4.2.2.2.2.2.2 k j g1 g2]⟩ (by rw [k4, w]) (by omega) (by rw [k5, e33, u3]) (fun hh g1 => ?_)
          refine x_rn_same _ _ _ _ (fun j _ _ => ⟨by unfold xI; rw [r5.1 35 0 _ (fun q => absurd q.1 (by decide))], by unfold xI; rw [r5.1 36 0 _ (fun q => absurd q.1 (by decide))]⟩) (s := m4) ?_
          have z1 : x_rn m4 n (c - c0) c0 hh (hh + 1) := x_rn_put P4 (by omega) (x_rn_same _ _ _ _ (fun j y1 y2 => ⟨by unfold xI; rw [t6 35 j (Or.inl rfl) (by omega), r2.1 35 0 _ (fun q => absurd q.1 (by decide))], by unfold xI; rw [t6 36 j (Or.inr rfl) (by omega), r2.1 36 0 _ (fun q => absurd q.1 (by decide))]⟩) (hs hh g1))
          have z2 : x_rn m4 n (c3 - c) (c0 + (c - c0)) (hh + 1) (hh + 2) := by
            rw [show c0 + (c - c0) = c by omega]
            exact x_rn_put P4 (by omega) (u4 (hh + 1) (by omega))
          have z3 : x_rn m4 n 1 (c0 + ((c - c0) + (c3 - c))) (hh + 2) (hh + 1) := by
            rw [show c0 + ((c - c0) + (c3 - c)) = c3 by omega]
            exact x_rn_bin P4 hx hx9 (by omega)
          have z4 := x_rn_app _ _ _ _ _ _ (x_rn_app _ _ _ _ _ _ z1 z2) z3
          rw [show (c - c0) + (c3 - c) + 1 = c3 + 1 - c0 by omega] at z4
          exact z4
        · exact absurd (by rw [← e33, w]) u1
      · have w : ¬ gI m4 33 0 4 = -1 := w
        refine term_x (h m4 ⟨c3 + 1, q3, A4.1, A4.2.1, A4.2.2.1, A4.2.2.2.1, A4.2.2.2.2.1, A4.2.2.2.2.2.1, A4.2.2.2.2.2.2, Or.inr ⟨w, ?_⟩⟩)
        rcases t8 with ⟨_, u2, _⟩ | ⟨_, u2⟩ <;> omega
    refine qa_t1_W (cut := [63]) 60 ?_
    refine And.intro (fun e => ?_) (fun ne => ?_)
    · refine qC_mono (go (lt 42 (by decide) e)) (fun r m3 k => ?_)
      exact And.intro k.1 (And.intro (fun _ => k.2 4 (by decide) (by decide)) (fun q => absurd e q))
    · refine And.intro (fun e => ?_) (fun _ => fin)
      refine qC_mono (go (lt 47 (by decide) e)) (fun r m3 k => ?_)
      exact And.intro k.1 (And.intro (fun q => absurd q ne) (fun _ => k.2 5 (by decide) (by decide)))
theorem sum_x {o : Nat} {m : LMem} {bc bs : Nat} (h : Q none m) : qW false (d + o) 215 bc bs 21 [some (lR 33 (some 0)), some (lI (-1))] [] m Q := by
  refine qa_t1_W (cut := []) 30 ?_
  refine And.intro (fun q => absurd q (by decide)) (fun _ => ?_)
  exact And.intro (fun q => absurd q (by decide)) (fun _ => h)
theorem sum_l {bc bs roA c0 p0 : Nat} {m0 : LMem} (hn : n ≤ 6) (hn2 : xI s 33 13 ≤ (n : Int)) (hg : g ≤ 6) (hro : 1 ≤ roA) (hl : gI s 33 0 2 = nI l) (hl2 : l ≤ 200) (hcp : c0 ≤ p0)
    (ha : ∀ c p m (R : LPost), lx_P n l g c p s m → (∀ m', lx_Q n l g roA c p s m m' → R none m') → qC false (d + 6) 214 [lR 33 (some 0)] m R)
    (h : ∀ m', lx_Q n l g (roA + 1) c0 p0 s m0 m' → Q none m') : ∀ f c q m, l - q ≤ f → lx_A n c0 p0 c q s m0 m → gI m 33 0 4 = -1 → q ≤ l → gI m 33 0 5 = nI g → (∀ h, h + (roA + 1) ≤ 80 → x_rn m n (c - c0) c0 h (h + 1)) → qW false (d + 6) 215 bc bs 21 [some (lR 33 (some 0)), some (lI (rch m l q))] [] m Q := by
  intro f
  induction f with
  | zero =>
    intro c q m hf hA hw hq h5 hs
    have e : rch m l q = -1 := by unfold rch; rw [if_neg (by omega)]
    rw [e]
    exact sum_x (h m ⟨c, q, hA.1, hA.2.1, hA.2.2.1, hA.2.2.2.1, hA.2.2.2.2.1, hA.2.2.2.2.2.1, hA.2.2.2.2.2.2, Or.inl ⟨hw, hq, h5, hs⟩⟩)
  | succ f ih =>
    intro c q m hf hA hw hq h5 hs
    have fin := h m ⟨c, q, hA.1, hA.2.1, hA.2.2.1, hA.2.2.2.1, hA.2.2.2.2.1, hA.2.2.2.2.2.1, hA.2.2.2.2.2.2, Or.inl ⟨hw, hq, h5, hs⟩⟩
    obtain ⟨S, h3, b1, b2, b3, b4, b5⟩ := hA
    have lt : ∀ x : Int32, x ≠ -1 → rch m l q = x → q < l := fun x hx e => by
      unfold rch at e
      by_cases g : q < l
      · exact g
      · rw [if_neg g] at e
        exact absurd e.symm hx
    have r2 := rd_s (s := m) (v := gI m 33 0 3 + 1) (Or.inl rfl : (3 : Nat) = 3 ∨ (3 : Nat) = 4 ∨ (3 : Nat) = 5) rd_0
    have a2 : gI (sI m 33 0 3 (gI m 33 0 3 + 1)) 33 0 3 = nI (q + 1) := by rw [gI_sI, if_pos ⟨rfl, rfl, rfl⟩, h3, nI_1]
    have w2 : gI (sI m 33 0 3 (gI m 33 0 3 + 1)) 33 0 4 = -1 := by rw [gI_sI, if_neg (fun q => absurd q.2.2 (by decide)), hw]
    have d2 : gI (sI m 33 0 3 (gI m 33 0 3 + 1)) 33 0 5 = nI g := by rw [gI_sI, if_neg (fun q => absurd q.2.2 (by decide)), h5]
    have S2 := lr_rd S r2
    have go : q < l → qC false (d + 6) 214 [lR 33 (some 0)] (sI m 33 0 3 (gI m 33 0 3 + 1)) (fun r m3 => r = none ∧ ∀ x : Int32, 2 ≤ x.toInt → x ≠ 9 → qC false (d + 6) 208 [lR 33 (some 0), lI x, lI 0] m3 (fun r m4 => r = none ∧ qW false (d + 6) 215 bc bs 63 [some (lR 33 (some 0)), some (lI (rch m l q))] [] m4 Q)) := fun hql => by
      refine ha c (q + 1) _ _ ⟨S2, a2, by omega, by omega, w2, d2⟩ fun m3 hm3 => And.intro rfl fun x hx hx9 => ?_
      obtain ⟨c3, q3, t1, t2, t3, t4, t5, t6, t7, t8⟩ := hm3
      have hc3 : c3 < 260 := by
        rcases t8 with ⟨_, u2, _⟩ | ⟨_, u2⟩ <;> omega
      refine h_put (n := n) hn hn2 hc3 t1 fun m4 S4 P4 => And.intro rfl ?_
      have e33 : ∀ j, gI m4 33 0 j = gI m3 33 0 j := fun j => P4.1 33 0 j (fun q => by omega)
      have A4 : lx_A n c0 p0 (c3 + 1) q3 s m0 m4 := ⟨S4, by rw [e33, t2], by omega, by omega, by omega, fun k j hk hj => by rw [P4.1 k 0 _ (fun q => by omega), t6 k j hk (by omega), r2.1 k 0 _ (fun q => by omega), b4 k j hk hj], fun k j g1 g2 => by rw [P4.1 k 0 _ (fun q => by omega), t7 k j g1 g2, r2.1 k 0 _ (fun q => by omega), b5 k j g1 g2]⟩
      refine qa_t1_W (cut := [21]) 40 ?_
      refine And.intro (fun w => ?_) (fun w => ?_)
      · have w : gI m4 33 0 4 = -1 := w
        rcases t8 with ⟨u1, u2, u3, u4⟩ | ⟨u1, _⟩
        · refine h_look (lr_l S4 hl) hl2 A4.2.1 (by omega) fun m5 q5 r5 k4 k5 k3 v1 v2 _ => Exists.intro _ (And.intro rfl ?_)
          rw [← rch_eq r5]
          refine ih (c3 + 1) q5 m5 (by omega) ⟨lr_rd S4 r5, k3, A4.2.2.1, by omega, by have := A4.2.2.2.2.1; omega, fun k j hk hj => by rw [r5.1 k 0 _ (fun q => by omega), A4.2.2.2.2.2.1 k j hk hj], fun k j g1 g2 => by rw [r5.1 k 0 _ (fun q => by omega), A4.2.2.2.2.2.2 k j g1 g2]⟩ (by rw [k4, w]) (by omega) (by rw [k5, e33, u3]) (fun hh g1 => ?_)
          refine x_rn_same _ _ _ _ (fun j _ _ => ⟨by unfold xI; rw [r5.1 35 0 _ (fun q => absurd q.1 (by decide))], by unfold xI; rw [r5.1 36 0 _ (fun q => absurd q.1 (by decide))]⟩) (s := m4) ?_
          have z1 : x_rn m4 n (c - c0) c0 hh (hh + 1) := x_rn_put P4 (by omega) (x_rn_same _ _ _ _ (fun j y1 y2 => ⟨by unfold xI; rw [t6 35 j (Or.inl rfl) (by omega), r2.1 35 0 _ (fun q => absurd q.1 (by decide))], by unfold xI; rw [t6 36 j (Or.inr rfl) (by omega), r2.1 36 0 _ (fun q => absurd q.1 (by decide))]⟩) (hs hh g1))
          have z2 : x_rn m4 n (c3 - c) (c0 + (c - c0)) (hh + 1) (hh + 2) := by
            rw [show c0 + (c - c0) = c by omega]
            exact x_rn_put P4 (by omega) (u4 (hh + 1) (by omega))
          have z3 : x_rn m4 n 1 (c0 + ((c - c0) + (c3 - c))) (hh + 2) (hh + 1) := by
            rw [show c0 + ((c - c0) + (c3 - c)) = c3 by omega]
            exact x_rn_bin P4 hx hx9 (by omega)
          have z4 := x_rn_app _ _ _ _ _ _ (x_rn_app _ _ _ _ _ _ z1 z2) z3
          rw [show (c - c0) + (c3 - c) + 1 = c3 + 1 - c0 by omega] at z4
          exact z4
        · exact absurd (by rw [← e33, w]) u1
      · have w : ¬ gI m4 33 0 4 = -1 := w
        refine sum_x (h m4 ⟨c3 + 1, q3, A4.1, A4.2.1, A4.2.2.1, A4.2.2.2.1, A4.2.2.2.2.1, A4.2.2.2.2.2.1, A4.2.2.2.2.2.2, Or.inr ⟨w, ?_⟩⟩)
        rcases t8 with ⟨_, u2, _⟩ | ⟨_, u2⟩ <;> omega
    refine qa_t1_W (cut := [63]) 60 ?_
    refine And.intro (fun e => ?_) (fun ne => ?_)
    · refine qC_mono (go (lt 43 (by decide) e)) (fun r m3 k => ?_)
      exact And.intro k.1 (And.intro (fun _ => k.2 2 (by decide) (by decide)) (fun q => absurd e q))
    · refine And.intro (fun e => ?_) (fun _ => fin)
      refine qC_mono (go (lt 45 (by decide) e)) (fun r m3 k => ?_)
      exact And.intro k.1 (And.intro (fun q => absurd q ne) (fun _ => k.2 3 (by decide) (by decide)))
end TS
