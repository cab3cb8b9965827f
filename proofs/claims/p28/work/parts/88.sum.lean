/-! term, sum: from their starts. -/
section TS2
variable {d l n g : Nat} {s : LMem} {Q : LPost}
theorem h_term {roA c0 p0 : Nat} {m0 : LMem} (hn : n ≤ 6) (hn2 : xI s 33 13 ≤ (n : Int)) (hg : g ≤ 6) (hro : 1 ≤ roA) (hl : gI s 33 0 2 = nI l) (hl2 : l ≤ 200)
    (ha : ∀ c p m (R : LPost), lx_P n l g c p s m → (∀ m', lx_Q n l g roA c p s m m' → R none m') → qC false (d + 5) 213 [lR 33 (some 0)] m R)
    (hm : lx_P n l g c0 p0 s m0) (h : ∀ m', lx_Q n l g (roA + 1) c0 p0 s m0 m' → Q none m') : qC false (d + 5 + 1) 214 [lR 33 (some 0)] m0 Q := by
  have hcp : c0 ≤ p0 := hm.2.2.2.1
  refine qC_of rfl rfl ?_
  refine qa_t1_W (cut := [21]) 60 ?_
  refine ha c0 p0 m0 _ hm fun m1 hm1 => And.intro rfl ?_
  obtain ⟨c1, q1, t1, t2, t3, t4, t5, t6, t7, t8⟩ := hm1
  refine And.intro (fun w => ?_) (fun w => ?_)
  · have w : gI m1 33 0 4 = -1 := w
    rcases t8 with ⟨u1, u2, u3, u4⟩ | ⟨u1, _⟩
    · refine h_look (lr_l t1 hl) hl2 t2 (by omega) fun m5 q5 r5 k4 k5 k3 v1 v2 _ => Exists.intro _ (And.intro rfl ?_)
      rw [← rch_eq r5]
      refine term_l hn hn2 hg hro hl hl2 hcp ha h (l - q5) c1 q5 m5 (Nat.le_refl _) ⟨lr_rd t1 r5, k3, t3, by omega, by omega, fun k j hk hj => by rw [r5.1 k 0 _ (fun q => by omega), t6 k j hk hj], fun k j g1 g2 => by rw [r5.1 k 0 _ (fun q => by omega), t7 k j g1 g2]⟩ (by rw [k4, w]) (by omega) (by rw [k5, u3]) (fun hh g1 => ?_)
      exact x_rn_same _ _ _ _ (fun j _ _ => ⟨by unfold xI; rw [r5.1 35 0 _ (fun q => absurd q.1 (by decide))], by unfold xI; rw [r5.1 36 0 _ (fun q => absurd q.1 (by decide))]⟩) (u4 hh (by omega))
    · exact absurd w u1
  · have w : ¬ gI m1 33 0 4 = -1 := w
    refine term_x (h m1 ⟨c1, q1, t1, t2, t3, t4, t5, t6, t7, Or.inr ⟨w, ?_⟩⟩)
    rcases t8 with ⟨u1, _⟩ | ⟨_, u2⟩
    · exact absurd u1 w
    · exact u2
theorem h_sum {roA c0 p0 : Nat} {m0 : LMem} (hn : n ≤ 6) (hn2 : xI s 33 13 ≤ (n : Int)) (hg : g ≤ 6) (hro : 1 ≤ roA) (hl : gI s 33 0 2 = nI l) (hl2 : l ≤ 200)
    (ha : ∀ c p m (R : LPost), lx_P n l g c p s m → (∀ m', lx_Q n l g roA c p s m m' → R none m') → qC false (d + 6) 214 [lR 33 (some 0)] m R)
    (hm : lx_P n l g c0 p0 s m0) (h : ∀ m', lx_Q n l g (roA + 1) c0 p0 s m0 m' → Q none m') : qC false (d + 6 + 1) 215 [lR 33 (some 0)] m0 Q := by
  have hcp : c0 ≤ p0 := hm.2.2.2.1
  refine qC_of rfl rfl ?_
  refine qa_t1_W (cut := [21]) 60 ?_
  refine ha c0 p0 m0 _ hm fun m1 hm1 => And.intro rfl ?_
  obtain ⟨c1, q1, t1, t2, t3, t4, t5, t6, t7, t8⟩ := hm1
  refine And.intro (fun w => ?_) (fun w => ?_)
  · have w : gI m1 33 0 4 = -1 := w
    rcases t8 with ⟨u1, u2, u3, u4⟩ | ⟨u1, _⟩
    · refine h_look (lr_l t1 hl) hl2 t2 (by omega) fun m5 q5 r5 k4 k5 k3 v1 v2 _ => Exists.intro _ (And.intro rfl ?_)
      rw [← rch_eq r5]
      refine sum_l hn hn2 hg hro hl hl2 hcp ha h (l - q5) c1 q5 m5 (Nat.le_refl _) ⟨lr_rd t1 r5, k3, t3, by omega, by omega, fun k j hk hj => by rw [r5.1 k 0 _ (fun q => by omega), t6 k j hk hj], fun k j g1 g2 => by rw [r5.1 k 0 _ (fun q => by omega), t7 k j g1 g2]⟩ (by rw [k4, w]) (by omega) (by rw [k5, u3]) (fun hh g1 => ?_)
      exact x_rn_same _ _ _ _ (fun j _ _ => ⟨by unfold xI; rw [r5.1 35 0 _ (fun q => absurd q.1 (by decide))], by unfold xI; rw [r5.1 36 0 _ (fun q => absurd q.1 (by decide))]⟩) (u4 hh (by omega))
    · exact absurd w u1
  · have w : ¬ gI m1 33 0 4 = -1 := w
    refine sum_x (h m1 ⟨c1, q1, t1, t2, t3, t4, t5, t6, t7, Or.inr ⟨w, ?_⟩⟩)
    rcases t8 with ⟨u1, _⟩ | ⟨_, u2⟩
    · exact absurd u1 w
    · exact u2
end TS2
