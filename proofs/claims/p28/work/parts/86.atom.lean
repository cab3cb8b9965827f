/-! atom. -/
/-- what a reader at deep = g leaves, from m to m'; ro: the room that its stack wants -/
def lx_Q (n l g ro c p : Nat) (s m m' : LMem) : Prop := ∃ c' q, lr_S n s m' c' ∧ gI m' 33 0 3 = nI q ∧ c ≤ c' ∧ p ≤ q ∧ c' + p ≤ q + c ∧ (∀ k j, (k = 35 ∨ k = 36) → j < c → gI m' k 0 (260 * n + j) = gI m k 0 (260 * n + j)) ∧ (∀ k j, 38 ≤ k → k ≤ 41 → gI m' k 0 j = gI m k 0 j) ∧ ((gI m' 33 0 4 = -1 ∧ q ≤ l ∧ gI m' 33 0 5 = nI g ∧ ∀ h, h + ro ≤ 80 → x_rn m' n (c' - c) c h (h + 1)) ∨ (gI m' 33 0 4 ≠ -1 ∧ q + g ≤ l + 7))
/-- where a reader starts -/
def lx_P (n l g c p : Nat) (s m : LMem) : Prop := lr_S n s m c ∧ gI m 33 0 3 = nI p ∧ p ≤ l ∧ c ≤ p ∧ gI m 33 0 4 = -1 ∧ gI m 33 0 5 = nI g
theorem lr_l {n c l : Nat} {s m : LMem} (h : lr_S n s m c) (hl : gI s 33 0 2 = nI l) : gI m 33 0 2 = nI l := by rw [(h.2.1 33 0 2 (x_nW 2 2 (by decide) (by decide) (by decide))).1, hl]
section AT
variable {d l n g : Nat} {s : LMem} {Q : LPost}
/-- a put behind what only moved `at` -/
theorem at_put {ro c p q : Nat} {x y : Int32} {m m1 m2 : LMem} (hro : 1 ≤ ro) (hg : g ≤ 6) (hm : lr_S n s m c) (hr : rd_S m m1) (h3 : gI m1 33 0 3 = nI q) (hq : p + 1 ≤ q) (hq2 : q ≤ l) (h5 : gI m1 33 0 5 = nI g) (S2 : lr_S n s m2 (c + 1)) (P2 : lr_P n c x y m1 m2) (hx : ∀ h, h < 80 → x_rn m2 n 1 c h (h + 1)) : lx_Q n l g ro c p s m m2 := by
  have e33 : ∀ j, gI m2 33 0 j = gI m1 33 0 j := fun j => P2.1 33 0 j (fun q => by omega)
  refine ⟨c + 1, q, S2, by rw [e33, h3], by omega, by omega, by omega, fun k j hk hj => ?_, fun k j h1 h2 => ?_, ?_⟩
  · rw [P2.1 k 0 _ (fun q => by omega), hr.1 k 0 _ (fun q => by omega)]
  · rw [P2.1 k 0 _ (fun q => by omega), hr.1 k 0 _ (fun q => by omega)]
  · by_cases w : gI m2 33 0 4 = -1
    · refine Or.inl ⟨w, hq2, by rw [e33, h5], fun h hh => ?_⟩
      rw [show c + 1 - c = 1 by omega]
      exact hx h (by omega)
    · exact Or.inr ⟨w, by omega⟩
theorem h_atom {ro ro2 c p : Nat} {m : LMem} (hro : 1 ≤ ro) (hro2 : ro2 ≤ ro) (hn : n ≤ 6) (hn2 : xI s 33 13 ≤ (n : Int)) (hg : g ≤ 6) (hl : gI s 33 0 2 = nI l) (hl2 : l ≤ 200) (hm : lx_P n l g c p s m)
    (hs : g < 6 → ∀ c p m (R : LPost), lx_P n l (g + 1) c p s m → (∀ m', lx_Q n l (g + 1) ro2 c p s m m' → R none m') → qC false (d + 4) 215 [lR 33 (some 0)] m R)
    (h : ∀ m', lx_Q n l g ro c p s m m' → Q none m') : qC false (d + 5) 213 [lR 33 (some 0)] m Q := by
  obtain ⟨S0, h3, hpl, hcp, h4, h5⟩ := hm
  refine qC_of rfl rfl ?_
  refine qa_t1_W (cut := []) 120 ?_
  refine h_look (lr_l S0 hl) hl2 h3 (by omega) fun m1 q hr k4 k5 k3 hq hq2 _ => Exists.intro _ (And.intro rfl ?_)
  have S1 := lr_rd S0 hr
  have hql : q ≤ l := by omega
  refine h_dig12 (fun hd => Exists.intro 1 (And.intro rfl ?_)) (fun hd => Exists.intro 0 (And.intro rfl ?_))
  · refine And.intro (fun q => absurd q (by decide)) (fun _ => ?_)
    refine h_plain (lr_l S1 hl) hl2 k3 (by omega) fun m2 q2 v O hdg => Exists.intro v (And.intro rfl ?_)
    obtain ⟨o1, o2, o3, o4, o5, o6⟩ := O
    have hq3 := hdg (by rw [rch_eq hr]; exact hd)
    have S2 := lr_rd S1 o1
    refine h_put hn hn2 (by omega) S2 fun m3 S3 P3 => And.intro rfl (h m3 ?_)
    exact at_put hro hg S0 (rd_tr hr o1) o2 (by omega) (by omega) (by rw [o5, k5, h5]) S3 P3 (fun hh g1 => x_rn_num P3 g1)
  · refine And.intro (fun _ => ?_) (fun q => absurd rfl q)
    refine h_letterOf (Exists.intro _ (And.intro rfl ?_))
    have lt : ∀ x : Int32, x ≠ -1 → rch m l q = x → q < l := fun x hx e => by
      unfold rch at e
      by_cases g : q < l
      · exact g
      · rw [if_neg g] at e
        exact absurd e.symm hx
    refine And.intro (fun _ => ?_) (fun hne => ?_)
    · refine And.intro (fun e => ?_) (fun _ => ?_)
      · have hq3 := lt 91 (by decide) e
        refine h_opens k3 (by omega) (by rw [k5, h5]) fun m2 r2 a2 b2 w2 => And.intro rfl ?_
        have S2 := lr_rd S1 r2
        have done : gI m2 33 0 4 ≠ -1 → Q none m2 := fun w => h m2 ⟨c, q + 1, S2, a2, Nat.le_refl _, by omega, by omega, fun k j hk hj => by rw [r2.1 k 0 _ (fun q => by omega), hr.1 k 0 _ (fun q => by omega)], fun k j g1 g2 => by rw [r2.1 k 0 _ (fun q => by omega), hr.1 k 0 _ (fun q => by omega)], Or.inr ⟨w, by omega⟩⟩
        refine And.intro (fun w => ?_) (fun w => done w)
        have w : gI m2 33 0 4 = -1 := w
        have hg6 : g < 6 := by
          rcases w2 with ⟨_, w2⟩ | w2
          · rcases Nat.lt_or_ge g 6 with z | z
            · exact z
            · exact absurd (by rw [show g = 6 by omega]; rfl) w2
          · exact absurd w w2
        refine hs hg6 c (q + 1) m2 _ ⟨S2, a2, by omega, by omega, w, b2⟩ fun m3 hm3 => And.intro rfl ?_
        obtain ⟨c3, q3, t1, t2, t3, t4, t5, t6, t7, t8⟩ := hm3
        refine h_closes (by decide) (lr_l t1 hl) hl2 t2 (by omega) fun m4 q4 r4 a4 z1 z2 b4 w4 w5 => And.intro rfl (h m4 ?_)
        refine ⟨c3, q4 + 1, lr_rd t1 r4, a4, t3, by omega, by omega, fun k j hk hj => ?_, fun k j g1 g2 => ?_, ?_⟩
        · rw [r4.1 k 0 _ (fun q => by omega), t6 k j hk hj, r2.1 k 0 _ (fun q => by omega), hr.1 k 0 _ (fun q => by omega)]
        · rw [r4.1 k 0 _ (fun q => by omega), t7 k j g1 g2, r2.1 k 0 _ (fun q => by omega), hr.1 k 0 _ (fun q => by omega)]
        · rcases t8 with ⟨u1, u2, u3, u4⟩ | ⟨u1, u2⟩
          · by_cases w6 : gI m4 33 0 4 = -1
            · refine Or.inl ⟨w6, by have := w5 w6; omega, ?_, fun hh g1 => ?_⟩
              · rw [b4, u3]
                apply Int32.toInt_inj.mp
                rw [x_sub1' (by omega) (by omega), nI_toInt (by omega)]
                omega
              · exact x_rn_same _ _ _ _ (fun j _ _ => ⟨by unfold xI; rw [r4.1 35 0 _ (fun q => absurd q.1 (by decide))], by unfold xI; rw [r4.1 36 0 _ (fun q => absurd q.1 (by decide))]⟩) (u4 hh (by omega))
            · exact Or.inr ⟨w6, by omega⟩
          · refine Or.inr ⟨?_, by omega⟩
            rcases w4 with w4 | w4
            · rw [w4]
              exact u1
            · exact w4
      · have fin : ∀ x, x ≠ -1 → Q none (sI m1 33 0 4 x) := fun x hx => by
          have r2 := rd_s (s := m1) (v := x) (Or.inr (Or.inl rfl) : (4 : Nat) = 3 ∨ (4 : Nat) = 4 ∨ (4 : Nat) = 5) rd_0
          refine h _ ⟨c, q, lr_rd S1 r2, ?_, Nat.le_refl _, by omega, by omega, fun k j hk hj => by rw [r2.1 k 0 _ (fun q => by omega), hr.1 k 0 _ (fun q => by omega)], fun k j g1 g2 => by rw [r2.1 k 0 _ (fun q => by omega), hr.1 k 0 _ (fun q => by omega)], Or.inr ⟨?_, by omega⟩⟩
          · rw [gI_sI, if_neg (fun q => absurd q.2.2 (by decide)), k3]
          · rw [gI_sI, if_pos ⟨rfl, rfl, rfl⟩]
            exact hx
        exact h_bad k3 (fun _ => And.intro rfl (fin _ (nI_ne1 (by omega)))) (fun w => And.intro rfl (fin _ w))
    · have hne : ltF (rch m l q) ≠ -1 := hne
      obtain ⟨k, hk, ek⟩ := lt_cases hne
      have hq3 : q < l := by
        unfold rch at hne
        by_cases g : q < l
        · exact g
        · rw [if_neg g] at hne
          exact absurd (by decide) hne
      have r2 := rd_s (s := m1) (v := gI m1 33 0 3 + 1) (Or.inl rfl : (3 : Nat) = 3 ∨ (3 : Nat) = 4 ∨ (3 : Nat) = 5) rd_0
      have a2 : gI (sI m1 33 0 3 (gI m1 33 0 3 + 1)) 33 0 3 = nI (q + 1) := by rw [gI_sI, if_pos ⟨rfl, rfl, rfl⟩, k3, nI_1]
      have b2 : gI (sI m1 33 0 3 (gI m1 33 0 3 + 1)) 33 0 5 = nI g := by rw [gI_sI, if_neg (fun q => absurd q.2.2 (by decide)), k5, h5]
      refine h_letterOf (Exists.intro _ (And.intro rfl ?_))
      refine h_put hn hn2 (by omega) (lr_rd S1 r2) fun m3 S3 P3 => And.intro rfl (h m3 ?_)
      refine at_put hro hg S0 (rd_tr hr r2) a2 (by omega) (by omega) b2 S3 P3 (fun hh g1 => ?_)
      rw [ek] at P3
      exact x_rn_let P3 hk g1
end AT
