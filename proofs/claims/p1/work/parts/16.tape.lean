/-! Level 2: the class's Tape. -/
theorem qn_lt {a b : Nat} (ha : a < 2 ^ 31) (hb : b < 2 ^ 31) : nI a < nI b ↔ a < b := by
  rw [Int32.lt_iff_toInt_lt, nI_toInt ha, nI_toInt hb]; omega
theorem qn_clamp {a : Nat} (ha : a < 2 ^ 31) : (nI a).toNatClampNeg = a := nI_clamp ha
theorem qn_vin {a n : Nat} (h : a < n) (hn : n < 2 ^ 31) : qa_vin (nI a) n := vp_in_nI h (by omega)
theorem sI_sI (s : LMem) (k i j : Nat) (a b : Int32) : sI (sI s k i j a) k i j b = sI s k i j b := by
  unfold sI
  refine Prod.ext ?_ rfl
  funext k' i' j'
  dsimp only
  split <;> rfl
theorem sI_self (s : LMem) (k i j : Nat) : sI s k i j (gI s k i j) = s := by
  unfold sI
  refine Prod.ext ?_ rfl
  funext k' i' j'
  dsimp only
  split
  · rename_i h; obtain ⟨rfl, rfl, rfl⟩ := h; rfl
  · rfl
theorem gI_ne {s : LMem} {k i j : Nat} {v : Int32} {k' i' j' : Nat} (h : ¬ (k' = k ∧ i' = i ∧ j' = j)) : gI (sI s k i j v) k' i' j' = gI s k' i' j' := by rw [gI_sI, if_neg h]
theorem gI_eq (s : LMem) (k i j : Nat) (v : Int32) : gI (sI s k i j v) k i j = v := by rw [gI_sI, if_pos ⟨rfl, rfl, rfl⟩]
/-- the place behind blanks -/
def qs_skip (tb : Nat → Int32) (n : Nat) : Nat → Nat → Nat
  | 0, p => p
  | f + 1, p => if p < n ∧ tb p = 32 then qs_skip tb n f (p + 1) else p
def qs_at (tb : Nat → Int32) (n p : Nat) : Int32 := if p < n then tb p else 0
theorem sp_next0 {d n : Nat} (hn : n ≤ 200) : ∀ (k p : Nat) (s : LMem), n - p ≤ k → p ≤ n → gI s 1 0 1 = nI n → gI s 1 0 2 = nI p →
    qW false d 111 0 0 0 [some (lR 1 (some 0))] [] s (qKI fun a s' => s' = sI s 1 0 2 (nI (qs_skip (gI s 2 0) n k p)) ∧ a = qs_at (gI s 2 0) n (qs_skip (gI s 2 0) n k p)) := by
  intro k
  induction k with
  | zero =>
    intro p s hk hp h1 h2
    have e : p = n := by omega
    subst e
    have hx : ¬ gI s 1 0 2 < gI s 1 0 1 := by rw [h1, h2, qn_lt (by omega) (by omega)]; omega
    refine tL_X8_next_0 ⟨fun h => absurd h hx, fun _ => ⟨fun h => absurd h hx, fun _ => ?_⟩⟩
    refine ⟨_, rfl, ?_, ?_⟩
    · unfold qs_skip; rw [← h2, sI_self]
    · unfold qs_skip qs_at; rw [if_neg (Nat.lt_irrefl p)]
  | succ k ih =>
    intro p s hk hp h1 h2
    by_cases hlt : p < n
    · have hx : gI s 1 0 2 < gI s 1 0 1 := by rw [h1, h2, qn_lt (by omega) (by omega)]; exact hlt
      have hy : gI s 1 0 2 < (200 : Int32) := by rw [h2]; exact (qn_lt (b := 200) (by omega) (by omega)).mpr (by omega)
      have hc : (gI s 1 0 2).toNatClampNeg = p := by rw [h2, qn_clamp (by omega)]
      have hv : qa_vin (gI s 1 0 2) 200 := by rw [h2]; exact qn_vin (by omega) (by omega)
      refine tL_X8_next_0 ⟨fun _ => ⟨fun _ => ⟨hv, ⟨fun hb => ?_, fun hb => ⟨fun _ => ⟨fun _ => ⟨hv, ?_⟩, fun q => absurd hy q⟩, fun q => absurd hx q⟩⟩⟩, fun q => absurd hy q⟩, fun q => absurd hx q⟩
      · rw [hc] at hb
        refine qW_mono (ih (p + 1) _ (by omega) (by omega) ?_ ?_) ?_
        · rw [gI_ne (by decide)]; exact h1
        · rw [gI_eq, h2, show (1 : Int32) = nI 1 from rfl]; exact nI_1 p
        · rintro r s' ⟨a, rfl, e1, e2⟩
          have hf : gI (sI s 1 0 2 (gI s 1 0 2 + 1)) 2 0 = gI s 2 0 := by funext j; exact gI_ne (by omega)
          have hsk : qs_skip (gI s 2 0) n (k + 1) p = qs_skip (gI s 2 0) n k (p + 1) := by
            show (if p < n ∧ gI s 2 0 p = 32 then qs_skip (gI s 2 0) n k (p + 1) else p) = _
            rw [if_pos ⟨hlt, hb⟩]
          refine ⟨a, rfl, ?_, ?_⟩
          · rw [e1, hf, sI_sI, hsk]
          · rw [e2, hf, hsk]
      · rw [hc] at hb ⊢
        refine ⟨_, rfl, ?_, ?_⟩
        · unfold qs_skip; rw [if_neg (fun q => hb q.2), ← h2, sI_self]
        · unfold qs_skip; rw [if_neg (fun q => hb q.2)]; unfold qs_at; rw [if_pos hlt]
    · have e : p = n := by omega
      subst e
      have hx : ¬ gI s 1 0 2 < gI s 1 0 1 := by rw [h1, h2, qn_lt (by omega) (by omega)]; omega
      refine tL_X8_next_0 ⟨fun h => absurd h hx, fun _ => ⟨fun h => absurd h hx, fun _ => ?_⟩⟩
      refine ⟨_, rfl, ?_, ?_⟩
      · unfold qs_skip; rw [if_neg (fun q => hlt q.1), ← h2, sI_self]
      · unfold qs_skip; rw [if_neg (fun q => hlt q.1)]; unfold qs_at; rw [if_neg hlt]
