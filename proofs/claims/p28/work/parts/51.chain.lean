/-! Dug.chain. -/
theorem y_nIof {x : Int32} (h : 0 ≤ x.toInt) : x = nI x.toInt.toNat := by
  apply Int32.toInt_inj.mp
  have := y_hi x
  rw [nI_toInt (by omega)]
  omega
theorem y_nIof2 {x : Int32} {N : Nat} (h : 0 ≤ x.toInt) (h2 : x.toInt ≤ (N : Int)) : ∃ n, n ≤ N ∧ x = nI n := ⟨x.toInt.toNat, by omega, y_nIof h⟩
theorem nI_m1 (n : Nat) : nI n + -1 = nI n - 1 := (Int32.sub_eq_add_neg (nI n) 1).symm
def ch_s1 (i z : Nat) (s : LMem) : LMem := sR (sI s 17 i 5 (nI z)) 17 i 4 none
def ch_K (i z : Nat) (s m : LMem) (n : Nat) : Prop := (∀ k a j, gI m k a j = gI (ch_s1 i z s) k a j) ∧ (∀ k a j, gL m k a j = gL s k a j) ∧ (gR m 17 i 4 = if n < z then some (20 * i + n) else none) ∧
  (∀ k a j, ¬ (k = 17 ∧ a = i ∧ j = 4) → ¬ (k = 21 ∧ 20 * i ≤ a ∧ a < 20 * i + 20 ∧ j = 0) → gR m k a j = gR s k a j) ∧ ∀ a q, gR m 21 a 0 = some q → q = a + 1 ∧ q % 20 ≠ 0
theorem ch_K0 {i z : Nat} {s : LMem} (hJ : y_J x_X s) : ch_K i z s (ch_s1 i z s) z := by
  refine ⟨fun _ _ _ => rfl, fun _ _ _ => rfl, ?_, fun k a j h1 _ => ?_, fun a q h => ?_⟩
  · rw [if_neg (Nat.lt_irrefl z)]
    show gR (sR _ 17 i 4 none) 17 i 4 = none
    rw [gR_sR, if_pos ⟨rfl, rfl, rfl⟩]
  · show gR (sR _ 17 i 4 none) k a j = gR s k a j
    rw [gR_sR, if_neg h1]
    rfl
  · have h : gR (sR (sI s 17 i 5 (nI z)) 17 i 4 none) 21 a 0 = some q := h
    rw [gR_sR, if_neg (fun c => absurd c.1 (by decide))] at h
    exact hJ.2.1.2.2.2 a q h
theorem ch_Ks {i z n : Nat} {s m : LMem} (hz : z ≤ 20) (hn : n < z) (h : ch_K i z s m (n + 1)) : ch_K i z s (sR (sR m 21 (20 * i + n) 0 (gR m 17 i 4)) 17 i 4 (some (20 * i + n))) n := by
  obtain ⟨h1, h2, h3, h4, h5⟩ := h
  refine ⟨h1, h2, ?_, fun k a j g1 g2 => ?_, fun a q g => ?_⟩
  · rw [gR_sR, if_pos ⟨rfl, rfl, rfl⟩, if_pos hn]
  · rw [gR_sR, if_neg g1, gR_sR, if_neg (fun c => g2 ⟨c.1, by omega, by omega, c.2.2⟩)]
    exact h4 k a j g1 g2
  · rw [gR_sR, if_neg (fun c => absurd c.1 (by decide)), gR_sR] at g
    split at g
    · rename_i c
      rw [h3] at g
      split at g
      · cases g
        exact ⟨by omega, by omega⟩
      · cases g
    · exact h5 a q g
theorem ch_l {d i z bc bs : Nat} {s : LMem} {mn : Int32} {Q : LPost} (hi : i ≤ 2) (hz : z ≤ 20) (h : ∀ m, ch_K i z s m 0 → Q none m) : ∀ n m o3, n ≤ z → ch_K i z s m n → qW false d 12 bc bs 25 [some (lR 17 (some i)), some (lI mn), some (lI (nI n - 1)), o3] [] m Q := by
  intro n
  induction n with
  | zero =>
    intro m o3 _ hm
    refine qa_t1_W (cut := [25]) 10 ?_
    exact And.intro (fun _ => h m hm) (fun q => absurd (show nI 0 - 1 < 0 by decide) q)
  | succ n ih =>
    intro m o3 hn hm
    rw [nI_pred n]
    have ih := ih _ (some (lR 21 (some (20 * i + n)))) (by omega) (ch_Ks hz (by omega) hm)
    have hv : qa_vin (nI n) 20 := nI_in (by omega) (by decide)
    have e9 : (nI n).toNatClampNeg = n := nI_clamp (by omega)
    have ih2 : qW false d 12 bc bs 25 [some (lR 17 (some i)), some (lI mn), some (lI (nI n + -1)), some (lR 21 (some (20 * i + (nI n).toNatClampNeg)))] [] (sR (sR m 21 (20 * i + (nI n).toNatClampNeg) 0 (gR m 17 i 4)) 17 i 4 (some (20 * i + (nI n).toNatClampNeg))) Q := by
      rw [e9, nI_m1]
      exact ih
    refine qa_t1_W (cut := [25]) 40 ?_
    refine And.intro (fun q => absurd q (nI_pos (by omega))) (fun _ => ?_)
    exact And.intro hv ih2
theorem ch_con {i : Nat} (hi : i ≤ 2) {W : List YW} {h : Nat} (hh : 0 < h) (hW : ∀ a j, (a = i ∧ (j = 4 ∨ j = 5)) → y_iW W 17 a j) (hW2 : ∀ a, 20 * i ≤ a → a < 20 * i + 20 → y_iW W 21 a 0) : y_con x_X (12, [.inr (.inr (17, (0, 0), ((i : Int), (i : Int)))), .inl (0, 20)], ([], []), W, [(none, [])], h) := by
  intro d hd As s Q hA hJ _ hQ
  obtain ⟨v1, r1, rfl, a1, hA⟩ := y_as1 hA
  obtain ⟨v2, r2, rfl, a2, hA⟩ := y_as1 hA
  have e9 := y_as0 hA
  subst e9
  have e1 := y_this (k := 17) (i := i) a1
  subst e1
  obtain ⟨x, rfl, x1, x2⟩ := y_aI a2
  have x1 : 0 ≤ x.toInt := x1
  have x2 : x.toInt ≤ ((20 : Nat) : Int) := x2
  obtain ⟨z, hz, rfl⟩ := y_nIof2 x1 x2
  have hd : h ≤ d := hd
  obtain ⟨d, rfl⟩ : ∃ d', d = d' + 1 := ⟨d - 1, by omega⟩
  refine qC_of rfl rfl ?_
  have hmin : qa_min (nI z) 20 = nI z := by
    unfold qa_min
    exact if_neg (show ¬ (20 : Int32) < nI z from nI_nlt (a := 20) (b := z) hz (by decide))
  have main : qW false d 12 0 0 25 [some (lR 17 (some i)), some (lI (nI z)), some (lI (nI z - 1)), none] [] (ch_s1 i z s) Q := by
    refine ch_l hi hz (fun m hm => ?_) z _ _ (Nat.le_refl _) (ch_K0 hJ)
    obtain ⟨h1, h2, h3, h4, h5⟩ := hm
    have hJ1 : y_J x_X (sI s 17 i 5 (nI z)) := by
      refine y_J_w hJ (fun r hr g1 g2 => ?_) (x_npr (by decide))
      have hr : r ∈ [((5 : Int), (5 : Int), (0 : Int), (20 : Int))] := hr
      have hr := List.mem_singleton.mp hr
      subst hr
      show (0 : Int) ≤ (nI z).toInt ∧ (nI z).toInt ≤ 20
      rw [nI_toInt (by omega)]
      omega
    have hJ2 : y_J x_X m := by
      refine ⟨fun k a j r hr g1 g2 => ?_, ⟨fun a q hq => ?_, fun a q hq => ?_, fun a q hq => ?_, h5⟩, x_X_cl (sI s 17 i 5 (nI z)) m (fun k a j _ => h1 k a j) hJ1.2.2⟩
      · rw [h1]
        exact hJ1.1 k a j r hr g1 g2
      · by_cases e : a = i
        · subst e
          rw [h3] at hq
          split at hq
          · cases hq
            omega
          · cases hq
        · rw [h4 17 a 4 (fun c => e c.2.1) (fun c => absurd c.1 (by decide))] at hq
          exact hJ.2.1.1 a q hq
      · rw [h4 17 a 6 (fun c => absurd c.2.2 (by decide)) (fun c => absurd c.1 (by decide))] at hq
        exact hJ.2.1.2.1 a q hq
      · rw [h4 17 a 7 (fun c => absurd c.2.2 (by decide)) (fun c => absurd c.1 (by decide))] at hq
        exact hJ.2.1.2.2.1 a q hq
    refine hQ none m (y_post1 trivial) hJ2 (fun k a j hn => ⟨?_, h2 k a j, ?_⟩)
    · rw [h1]
      show gI (sI s 17 i 5 (nI z)) k a j = gI s k a j
      rw [gI_sI, if_neg (fun c => hn (by obtain ⟨rfl, rfl, rfl⟩ := c; exact hW _ _ ⟨rfl, Or.inr rfl⟩))]
    · exact h4 k a j (fun c => hn (by obtain ⟨rfl, rfl, rfl⟩ := c; exact hW _ _ ⟨rfl, Or.inl rfl⟩)) (fun c => hn (by obtain ⟨rfl, c1, c2, rfl⟩ := c; exact hW2 _ c1 c2))
  refine qa_t1_W (cut := [25]) 30 ?_
  have main2 : qW false d 12 0 0 25 [some (lR 17 (some i)), some (lI (nI z)), some (lI (gI (sR (sI s 17 i 5 (qa_min (nI z) 20)) 17 i 4 none) 17 i 5 - 1)), none] [] (sR (sI s 17 i 5 (qa_min (nI z) 20)) 17 i 4 none) Q := by
    rw [hmin]
    have e5 : gI (sR (sI s 17 i 5 (nI z)) 17 i 4 none) 17 i 5 = nI z := by
      show gI (sI s 17 i 5 (nI z)) 17 i 5 = nI z
      rw [gI_sI, if_pos ⟨rfl, rfl, rfl⟩]
    rw [e5]
    exact main
  exact main2
theorem h_X1_chain_0 : y_con x_X yh_X1_chain_0 := ch_con (i := 0) (by decide) (by decide) (fun a j q => by rcases q with ⟨rfl, rfl | rfl⟩ <;> exact x_iW1 (by decide)) (fun a h1 h2 => ⟨(21, 0, 19, 0, 0), by decide, rfl, ⟨by show (0 : Int) ≤ (a : Int); omega, by show (a : Int) ≤ 19; omega⟩, by decide, by decide⟩)
theorem h_X1_chain_1 : y_con x_X yh_X1_chain_1 := ch_con (i := 1) (by decide) (by decide) (fun a j q => by rcases q with ⟨rfl, rfl | rfl⟩ <;> exact x_iW1 (by decide)) (fun a h1 h2 => ⟨(21, 20, 39, 0, 0), by decide, rfl, ⟨by show (20 : Int) ≤ (a : Int); omega, by show (a : Int) ≤ 39; omega⟩, by decide, by decide⟩)
theorem h_X1_chain_2 : y_con x_X yh_X1_chain_2 := ch_con (i := 2) (by decide) (by decide) (fun a j q => by rcases q with ⟨rfl, rfl | rfl⟩ <;> exact x_iW1 (by decide)) (fun a h1 h2 => ⟨(21, 40, 59, 0, 0), by decide, rfl, ⟨by show (40 : Int) ≤ (a : Int); omega, by show (a : Int) ≤ 59; omega⟩, by decide, by decide⟩)
