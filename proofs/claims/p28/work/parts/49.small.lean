/-! CONTRACTS by hand: small ones. -/
theorem h_X3_joined : y_con x_X yh_X3_joined := by
  intro d hd As s Q hA hJ _ hQ
  obtain ⟨v1, r1, rfl, a1, hA⟩ := y_as1 hA
  obtain ⟨v2, r2, rfl, a2, hA⟩ := y_as1 hA
  obtain ⟨v3, r3, rfl, a3, hA⟩ := y_as1 hA
  have e9 := y_as0 hA
  subst e9
  obtain ⟨x, rfl, -, -⟩ := y_aI a1
  obtain ⟨b, rfl⟩ := y_aL a2
  obtain ⟨c, rfl⟩ := y_aL a3
  have hd : 40 ≤ d := hd
  obtain ⟨d, rfl⟩ : ∃ d', d = d' + 1 := ⟨d - 1, by omega⟩
  have fin : ∀ v, Q (some (lL v)) s := fun v => hQ _ s (y_post1 trivial) hJ (y_Fr_rf _ _)
  refine qC_of rfl rfl ?_
  refine qa_t1_W (cut := []) 30 ?_
  refine And.intro (fun _ => fin _) (fun _ => ?_)
  refine And.intro (fun _ => fin _) (fun _ => ?_)
  refine And.intro (fun _ => fin _) (fun _ => ?_)
  refine And.intro (fun _ => fin _) (fun _ => ?_)
  refine And.intro (fun _ => And.intro (fun _ => fin _) (fun h => And.intro (fun e => h (by rw [e]; decide)) (fin _))) (fun _ => ?_)
  refine And.intro (fun _ => And.intro (fun _ => fin _) (fun _ => fin _)) (fun _ => ?_)
  refine And.intro (fun _ => And.intro (fun _ => fin _) (fun _ => fin _)) (fun _ => ?_)
  refine And.intro (fun _ => And.intro (fun _ => fin _) (fun _ => fin _)) (fun _ => ?_)
  refine And.intro (fun _ => fin _) (fun _ => ?_)
  exact And.intro (fun _ => fin _) (fun _ => fin _)
/-! copies of a ditch that stands -/
def x_cp (a b : Nat) (s m : LMem) (k : Nat) : Prop := (∀ k' i j, ¬ (k' = b ∧ i = 0 ∧ j < k) → gI m k' i j = gI s k' i j) ∧ (∀ j, j < k → gI m b 0 j = gI s a 0 j) ∧ (∀ k' i j, gL m k' i j = gL s k' i j) ∧ ∀ k' i j, gR m k' i j = gR s k' i j
theorem x_cp_0 (a b : Nat) (s : LMem) : x_cp a b s s 0 := ⟨fun _ _ _ _ => rfl, fun _ h => absurd h (Nat.not_lt_zero _), fun _ _ _ => rfl, fun _ _ _ => rfl⟩
theorem x_cp_s {a b k : Nat} {s m : LMem} (hab : a ≠ b) (h : x_cp a b s m k) : x_cp a b s (sI m b 0 k (gI m a 0 k)) (k + 1) := by
  obtain ⟨h1, h2, h3, h4⟩ := h
  refine ⟨fun k' i j hn => ?_, fun j hj => ?_, h3, h4⟩
  · rw [gI_sI, if_neg (fun q => hn ⟨q.1, q.2.1, by omega⟩)]
    exact h1 k' i j (fun q => hn ⟨q.1, q.2.1, by omega⟩)
  · rw [gI_sI]
    by_cases e : j = k
    · rw [if_pos ⟨rfl, rfl, e⟩, h1 a 0 k (fun q => hab q.1), e]
    · rw [if_neg (fun q => e q.2.2)]
      exact h2 j (by omega)
theorem x_sm_same {K : List Nat} {s s' : LMem} (h : ∀ k j, k ∈ K → gI s' k 0 j = gI s k 0 j) : x_sm K s s' := fun k j hk _ _ => h k j hk
theorem x_cp_J {a b : Nat} {s m : LMem} (ha : a = 48 ∨ a = 49 ∨ a = 50) (hb : b = 48 ∨ b = 49 ∨ b = 50) (hab : a ≠ b) (hJ : y_J x_X s) (h : x_cp a b s m 279) : y_J x_X m := by
  obtain ⟨h1, h2, h3, h4⟩ := h
  obtain ⟨j1, j2, j3⟩ := hJ
  have hB : y_B b = y_B a := by rcases ha with rfl | rfl | rfl <;> rcases hb with rfl | rfl | rfl <;> rfl
  have other : ∀ k j, k ≠ b → gI m k 0 j = gI s k 0 j := fun k j hk => h1 k 0 j (fun q => hk q.1)
  have hrow : ∀ c, (c = 48 ∨ c = 49 ∨ c = 50) → x_row s c → x_row m c := fun c hc hx => by
    by_cases e : c = b
    · subst e
      have ra : x_row s a := by rcases ha with rfl | rfl | rfl; exact j3.2.2.1; exact j3.2.2.2.1; exact j3.2.2.2.2.1
      have e0 : xI m 33 13 = xI s 33 13 := by unfold xI; rw [other 33 13 (by omega)]
      have e1 : ∀ j, j < 279 → xI m c j = xI s a j := fun j hj => by unfold xI; rw [h2 j hj]
      refine ⟨fun r g1 g2 => ?_, fun q => ?_, fun q => ?_⟩
      · rw [e1 272 (by decide)] at g1
        rw [e1 _ (by omega), e1 _ (by omega)]
        exact ra.1 r g1 g2
      · rw [e1 272 (by decide)] at q
        rw [e0]
        exact ra.2.1 q
      · rw [e0]
        rw [e1 277 (by decide), e1 278 (by decide)]
        exact ra.2.2 q
    · refine x_row_cl hc (x_sm_same fun k j hk => other k j ?_) hx
      rcases List.mem_cons.mp hk with rfl | hk
      · omega
      · have hk := List.mem_singleton.mp hk
        omega
  refine ⟨fun k i j r hr g1 g2 => ?_, ?_, x_law_cl (x_sm_same fun k j hk => other k j ?_) j3.1, x_told_cl (x_sm_same fun k j hk => other k j ?_) j3.2.1, hrow 48 (Or.inl rfl) j3.2.2.1, hrow 49 (Or.inr (Or.inl rfl)) j3.2.2.2.1, hrow 50 (Or.inr (Or.inr rfl)) j3.2.2.2.2.1, fun q => ?_⟩
  · by_cases e : k = b ∧ i = 0 ∧ j < 279
    · obtain ⟨rfl, rfl, e⟩ := e
      rw [h2 j e]
      rw [hB] at hr
      exact j1 a 0 j r hr g1 g2
    · rw [h1 k i j e]
      exact j1 k i j r hr g1 g2
  · obtain ⟨r1, r2, r3, r4⟩ := j2
    exact ⟨fun i q hq => r1 i q (by rw [← h4]; exact hq), fun i q hq => r2 i q (by rw [← h4]; exact hq), fun i q hq => r3 i q (by rw [← h4]; exact hq), fun i q hq => r4 i q (by rw [← h4]; exact hq)⟩
  · rintro rfl
    rcases hb with rfl | rfl | rfl <;> revert hk <;> decide
  · rintro rfl
    rcases hb with rfl | rfl | rfl <;> revert hk <;> decide
  · have e1 : xI m 33 35 = xI s 33 35 := by unfold xI; rw [other 33 35 (by omega)]
    have e2 : xI m 33 13 = xI s 33 13 := by unfold xI; rw [other 33 13 (by omega)]
    rw [e1] at q
    rw [e2]
    exact j3.2.2.2.2.2 q
theorem y_J_sL {s : LMem} {k i j : Nat} {x : Int64} (hJ : y_J x_X s) : y_J x_X (sL s k i j x) := ⟨hJ.1, hJ.2.1, x_X_cl s _ (fun _ _ _ _ => rfl) hJ.2.2⟩
theorem x_nv {k : Nat} (h : k < 279) : (nI k).toNatClampNeg = k := by
  show (Int32.ofNat k).toInt.toNat = k
  rw [Int32.toInt_ofNat_of_lt (by omega)]
  rfl
theorem x_cp_Fr {a b : Nat} {s m : LMem} {W : List YW} (h : x_cp a b s m 279) (hW : (b, (0 : Int), (0 : Int), (0 : Int), (278 : Int)) ∈ W) : y_Fr W s m := fun k i j hn => by
  refine ⟨h.1 k i j (fun q => hn ?_), h.2.2.1 k i j, h.2.2.2 k i j⟩
  obtain ⟨rfl, rfl, q⟩ := q
  exact ⟨_, hW, rfl, ⟨Int.le_refl _, Int.le_refl _⟩, by show (0 : Int) ≤ (j : Int); omega, by show (j : Int) ≤ 278; omega⟩
