/-! opens, closes. -/
section OC
variable {d l : Nat} {s : LMem} {Q : LPost}
theorem nI_ne1 {q : Nat} (hq : q ≤ 2000) : nI q ≠ -1 := fun g => by
  have g := congrArg Int32.toInt g
  rw [nI_toInt (by omega)] at g
  have e : (-1 : Int32).toInt = -1 := by decide
  rw [e] at g
  omega
theorem h_opens {p g : Nat} (hp : gI s 33 0 3 = nI p) (hp2 : p ≤ 1000) (hg : gI s 33 0 5 = nI g) (h : ∀ m, rd_S s m → gI m 33 0 3 = nI (p + 1) → gI m 33 0 5 = nI (g + 1) → (gI m 33 0 4 = gI s 33 0 4 ∧ nI g ≠ 6 ∨ gI m 33 0 4 ≠ -1) → Q none m) : qC false (d + 2) 210 [lR 33 (some 0)] s Q := by
  have fin : ∀ m, rd_S s m → gI m 33 0 3 = nI p → gI m 33 0 5 = nI g → (gI m 33 0 4 = gI s 33 0 4 ∧ nI g ≠ 6 ∨ gI m 33 0 4 ≠ -1) → Q none (sI (sI m 33 0 5 (gI m 33 0 5 + 1)) 33 0 3 (gI (sI m 33 0 5 (gI m 33 0 5 + 1)) 33 0 3 + 1)) := fun m hm h3 h5 h4 => by
    refine h _ (rd_s (Or.inl rfl) (rd_s (Or.inr (Or.inr rfl)) hm)) ?_ ?_ ?_
    · rw [gI_sI, if_pos ⟨rfl, rfl, rfl⟩, gI_sI, if_neg (fun q => absurd q.2.2 (by decide)), h3, nI_1]
    · rw [gI_sI, if_neg (fun q => absurd q.2.2 (by decide)), gI_sI, if_pos ⟨rfl, rfl, rfl⟩, h5, nI_1]
    · rw [gI_sI, if_neg (fun q => absurd q.2.2 (by decide)), gI_sI, if_neg (fun q => absurd q.2.2 (by decide))]
      exact h4
  have fb : ∀ x, x ≠ -1 → Q none (sI (sI (sI s 33 0 4 x) 33 0 5 (gI (sI s 33 0 4 x) 33 0 5 + 1)) 33 0 3 (gI (sI (sI s 33 0 4 x) 33 0 5 (gI (sI s 33 0 4 x) 33 0 5 + 1)) 33 0 3 + 1)) := fun x hx => by
    refine fin _ (rd_s (Or.inr (Or.inl rfl)) rd_0) ?_ ?_ (Or.inr ?_)
    · rw [gI_sI, if_neg (fun q => absurd q.2.2 (by decide)), hp]
    · rw [gI_sI, if_neg (fun q => absurd q.2.2 (by decide)), hg]
    · rw [gI_sI, if_pos ⟨rfl, rfl, rfl⟩]
      exact hx
  refine qC_of rfl rfl ?_
  refine qa_t1_W (cut := []) 40 ?_
  refine And.intro (fun _ => ?_) (fun e => ?_)
  · exact h_bad hp (fun _ => And.intro rfl (fb _ (nI_ne1 (by omega)))) (fun w => And.intro rfl (fb _ w))
  · exact fin s rd_0 hp hg (Or.inl ⟨rfl, fun q => e (by
      show gI s 33 0 5 = 6
      rw [hg, q])⟩)
theorem h_closes {p : Nat} {c : Int32} (hc : c ≠ -1) (hl : gI s 33 0 2 = nI l) (hl2 : l ≤ 200) (hp : gI s 33 0 3 = nI p) (hp2 : p ≤ 1000) (h : ∀ m q, rd_S s m → gI m 33 0 3 = nI (q + 1) → p ≤ q → q ≤ max p l → gI m 33 0 5 = gI s 33 0 5 - 1 → (gI m 33 0 4 = gI s 33 0 4 ∨ gI m 33 0 4 ≠ -1) → (gI m 33 0 4 = -1 → q < l) → Q none m) : qC false (d + 3) 211 [lR 33 (some 0), lI c] s Q := by
  have fin : ∀ m q, rd_S s m → gI m 33 0 3 = nI q → p ≤ q → q ≤ max p l → gI m 33 0 5 = gI s 33 0 5 → (gI m 33 0 4 = gI s 33 0 4 ∨ gI m 33 0 4 ≠ -1) → (gI m 33 0 4 = -1 → q < l) → Q none (sI (sI m 33 0 3 (gI m 33 0 3 + 1)) 33 0 5 (gI (sI m 33 0 3 (gI m 33 0 3 + 1)) 33 0 5 - 1)) := fun m q hm h3 g1 g2 h5 h4 h6 => by
    refine h _ q (rd_s (Or.inr (Or.inr rfl)) (rd_s (Or.inl rfl) hm)) ?_ g1 g2 ?_ ?_ ?_
    · rw [gI_sI, if_neg (fun q => absurd q.2.2 (by decide)), gI_sI, if_pos ⟨rfl, rfl, rfl⟩, h3, nI_1]
    · rw [gI_sI, if_pos ⟨rfl, rfl, rfl⟩, gI_sI, if_neg (fun q => absurd q.2.2 (by decide)), h5]
    · rw [gI_sI, if_neg (fun q => absurd q.2.2 (by decide)), gI_sI, if_neg (fun q => absurd q.2.2 (by decide))]
      exact h4
    · rw [gI_sI, if_neg (fun q => absurd q.2.2 (by decide)), gI_sI, if_neg (fun q => absurd q.2.2 (by decide))]
      exact h6
  refine qC_of rfl rfl ?_
  refine qa_t1_W (cut := []) 60 ?_
  refine And.intro (fun w => ?_) (fun w => ?_)
  · have w : gI s 33 0 4 = -1 := w
    refine h_look hl hl2 hp hp2 fun m1 q hm k4 k5 k3 hq hq2 _ => Exists.intro _ (And.intro rfl ?_)
    refine And.intro (fun e => ?_) (fun _ => ?_)
    · refine fin m1 q hm k3 hq hq2 k5 (Or.inl k4) (fun _ => ?_)
      have e : rch s l q = c := e
      unfold rch at e
      by_cases g : q < l
      · exact g
      · rw [if_neg g] at e
        exact absurd e.symm hc
    · have fb : ∀ x, x ≠ -1 → Q none (sI (sI (sI m1 33 0 4 x) 33 0 3 (gI (sI m1 33 0 4 x) 33 0 3 + 1)) 33 0 5 (gI (sI (sI m1 33 0 4 x) 33 0 3 (gI (sI m1 33 0 4 x) 33 0 3 + 1)) 33 0 5 - 1)) := fun x hx => by
        have e4 : gI (sI m1 33 0 4 x) 33 0 4 = x := by rw [gI_sI, if_pos ⟨rfl, rfl, rfl⟩]
        refine fin _ q (rd_s (Or.inr (Or.inl rfl)) hm) ?_ hq hq2 ?_ (Or.inr (by rw [e4]; exact hx)) (fun z => absurd (e4.symm.trans z) hx)
        · rw [gI_sI, if_neg (fun q => absurd q.2.2 (by decide)), k3]
        · rw [gI_sI, if_neg (fun q => absurd q.2.2 (by decide)), k5]
      exact h_bad k3 (fun _ => And.intro rfl (fb _ (nI_ne1 (by omega)))) (fun w => And.intro rfl (fb _ w))
  · have w : ¬ gI s 33 0 4 = -1 := w
    exact fin s p rd_0 hp (Nat.le_refl _) (by omega) rfl (Or.inl rfl) (fun z => absurd z w)
end OC
