/-! Cells made: while the constructors run (ph = true). -/
theorem qa_nms_len : qa_nms.length = 334 := by decide +kernel
theorem qa_nm_big {n : Nat} (h : (qa_nm n).1 < 60) : n < 334 := by
  rcases Nat.lt_or_ge n 334 with h9 | h9
  · exact h9
  · have h8 : qa_nth qa_nms n = none := by rw [qa_nth_get]; exact List.getElem?_eq_none (by rw [qa_nms_len]; exact h9)
    unfold qa_nm at h
    rw [h8] at h
    exact absurd h (by decide)
theorem qa_nm_inj {a b : Nat} (ha : a < 334) (hb : b < 334) (h : qa_nm a = qa_nm b) : a = b := by
  have h1 := (qa_nm_all a ha).1
  have h2 := (qa_nm_all b hb).1
  rw [h] at h1
  exact h1.symm.trans h2
theorem gI_sN (s : LMem) (k i k' i' j' : Nat) : gI (sN s k i) k' i' j' = if k' = k ∧ i' = i then 0 else gI s k' i' j' := rfl
theorem gL_sN (s : LMem) (k i k' i' j' : Nat) : gL (sN s k i) k' i' j' = if k' = k ∧ i' = i then 0 else gL s k' i' j' := rfl
theorem gR_sN (s : LMem) (k i k' i' j' : Nat) : gR (sN s k i) k' i' j' = if k' = k ∧ i' = i then none else gR s k' i' j' := rfl
theorem gN_sN (s : LMem) (k i : Nat) : gN (sN s k i) = gN s + 1 := rfl
theorem gI_sNs (k k' i' j' : Nat) : ∀ (n i : Nat) (s : LMem), gI (sNs s k i n) k' i' j' = if k' = k ∧ i ≤ i' ∧ i' < i + n then 0 else gI s k' i' j'
  | 0, i, s => by rw [if_neg (by omega)]; rfl
  | n + 1, i, s => by
    show gI (sNs (sN s k i) k (i + 1) n) k' i' j' = _
    rw [gI_sNs k k' i' j' n (i + 1) (sN s k i), gI_sN]
    by_cases h : k' = k ∧ i + 1 ≤ i' ∧ i' < i + 1 + n
    · rw [if_pos h, if_pos (by omega)]
    · rw [if_neg h]
      by_cases h2 : k' = k ∧ i' = i
      · rw [if_pos h2, if_pos (by omega)]
      · rw [if_neg h2, if_neg (by omega)]
theorem gL_sNs (k k' i' j' : Nat) : ∀ (n i : Nat) (s : LMem), gL (sNs s k i n) k' i' j' = if k' = k ∧ i ≤ i' ∧ i' < i + n then 0 else gL s k' i' j'
  | 0, i, s => by rw [if_neg (by omega)]; rfl
  | n + 1, i, s => by
    show gL (sNs (sN s k i) k (i + 1) n) k' i' j' = _
    rw [gL_sNs k k' i' j' n (i + 1) (sN s k i), gL_sN]
    by_cases h : k' = k ∧ i + 1 ≤ i' ∧ i' < i + 1 + n
    · rw [if_pos h, if_pos (by omega)]
    · rw [if_neg h]
      by_cases h2 : k' = k ∧ i' = i
      · rw [if_pos h2, if_pos (by omega)]
      · rw [if_neg h2, if_neg (by omega)]
theorem gR_sNs (k k' i' j' : Nat) : ∀ (n i : Nat) (s : LMem), gR (sNs s k i n) k' i' j' = if k' = k ∧ i ≤ i' ∧ i' < i + n then none else gR s k' i' j'
  | 0, i, s => by rw [if_neg (by omega)]; rfl
  | n + 1, i, s => by
    show gR (sNs (sN s k i) k (i + 1) n) k' i' j' = _
    rw [gR_sNs k k' i' j' n (i + 1) (sN s k i), gR_sN]
    by_cases h : k' = k ∧ i + 1 ≤ i' ∧ i' < i + 1 + n
    · rw [if_pos h, if_pos (by omega)]
    · rw [if_neg h]
      by_cases h2 : k' = k ∧ i' = i
      · rw [if_pos h2, if_pos (by omega)]
      · rw [if_neg h2, if_neg (by omega)]
theorem gN_sNs (k : Nat) : ∀ (n i : Nat) (s : LMem), gN (sNs s k i n) = gN s + n
  | 0, _, _ => rfl
  | n + 1, i, s => by
    show gN (sNs (sN s k i) k (i + 1) n) = _
    rw [gN_sNs k n (i + 1) (sN s k i), gN_sN]
    omega
theorem gR_sRs (k i0 k' i' j' : Nat) : ∀ (n j i : Nat) (s : LMem), gR (sRs s k i0 j i n) k' i' j' = if k' = k ∧ i' = i0 ∧ j ≤ j' ∧ j' < j + n then some (i + (j' - j)) else gR s k' i' j'
  | 0, j, i, s => by rw [if_neg (by omega)]; rfl
  | n + 1, j, i, s => by
    show gR (sRs (sR s k i0 j (some i)) k i0 (j + 1) (i + 1) n) k' i' j' = _
    rw [gR_sRs k i0 k' i' j' n (j + 1) (i + 1) _, gR_sR]
    by_cases h : k' = k ∧ i' = i0 ∧ j + 1 ≤ j' ∧ j' < j + 1 + n
    · rw [if_pos h, if_pos (by omega)]
      exact congrArg some (by omega)
    · rw [if_neg h]
      by_cases h2 : k' = k ∧ i' = i0 ∧ j' = j
      · rw [if_pos h2, if_pos (by omega)]
        exact congrArg some (by omega)
      · rw [if_neg h2, if_neg (by omega)]
theorem gI_sRs (k i0 : Nat) : ∀ (n j i : Nat) (s : LMem) (k' i' j' : Nat), gI (sRs s k i0 j i n) k' i' j' = gI s k' i' j'
  | 0, _, _, _, _, _, _ => rfl
  | n + 1, j, i, s, k', i', j' => gI_sRs k i0 n (j + 1) (i + 1) (sR s k i0 j (some i)) k' i' j'
theorem gL_sRs (k i0 : Nat) : ∀ (n j i : Nat) (s : LMem) (k' i' j' : Nat), gL (sRs s k i0 j i n) k' i' j' = gL s k' i' j'
  | 0, _, _, _, _, _, _ => rfl
  | n + 1, j, i, s, k', i', j' => gL_sRs k i0 n (j + 1) (i + 1) (sR s k i0 j (some i)) k' i' j'
theorem gN_sRs (k i0 : Nat) : ∀ (n j i : Nat) (s : LMem), gN (sRs s k i0 j i n) = gN s
  | 0, _, _, _ => rfl
  | n + 1, j, i, s => gN_sRs k i0 n (j + 1) (i + 1) (sR s k i0 j (some i))
section QNEW
variable {z : qa_S}
/-- the heap has grown by n cells -/
theorem qa_Rel_grow {w w' : LMem} {H H1 : Heap} {n : Nat} (hR : qa_Rel z true w H) (hN : gN w' = gN w + n) (hle : gN w' ≤ 334) (hsz : H1.size = H.size + n) (hold : ∀ x, x < H.size → H1[x]? = H[x]?)
    (hce : ∀ j, j < gN w → qa_ce z true w' (qa_nm j).1 (qa_nm j).2 = qa_ce z true w (qa_nm j).1 (qa_nm j).2)
    (hnew : ∀ j, j < n → va_at z.1 vwCl (H.size + j, qa_ce z true w' (qa_nm (gN w + j)).1 (qa_nm (gN w + j)).2) H1)
    (hok : qa_ok true w') (hscr : ∀ i j, gI w' 65 i j = gI w 65 i j) : qa_Rel z true w' H1 := by
  obtain ⟨h1, h2, h3, h4, h5, h6, h7⟩ := hR
  have hH := h4 rfl
  refine ⟨hle, ?_, by omega, fun _ => by omega, hok, fun j hj => by rw [hscr]; exact h6 j hj, by rw [hscr]; exact h7⟩
  intro k q hq
  unfold qa_wl at hq
  rw [List.getElem?_map] at hq
  by_cases hk : k < gN w'
  · rw [List.getElem?_range hk] at hq
    cases hq
    show va_at z.1 vwCl (z.2.2.1 + k, qa_ce z true w' (qa_nm k).1 (qa_nm k).2) H1
    by_cases hk2 : k < gN w
    · rw [hce k hk2]
      have h8 : (qa_wl z true w)[k]? = some (z.2.2.1 + k, qa_ce z true w (qa_nm k).1 (qa_nm k).2) := by
        unfold qa_wl
        rw [List.getElem?_map, List.getElem?_range hk2]
        rfl
      exact (h2 k _ h8).kept (hold _ (h2 k _ h8).lt)
    · obtain ⟨j, rfl⟩ : ∃ j, k = gN w + j := ⟨k - gN w, by omega⟩
      have h9 := hnew j (by omega)
      rw [show z.2.2.1 + (gN w + j) = H.size + j by omega]
      exact h9
  · rw [List.getElem?_eq_none (by rw [List.length_range]; omega)] at hq
    cases hq
theorem qa_ce_sN {w : LMem} {k i k' i' : Nat} (h : ¬ (k' = k ∧ i' = i)) : qa_ce z true (sN w k i) k' i' = qa_ce z true w k' i' :=
  qa_ce_ext (fun j => by rw [gI_sN, if_neg h]) (fun j => by rw [gL_sN, if_neg h]) (fun j => by rw [gR_sN, if_neg h])
theorem qa_vd_grow {w : LMem} {k i k' i' n : Nat} (hk' : k' < 60) (hv : qa_pos k' i' < n + 1 ∧ qa_nm (qa_pos k' i') = (k', i')) (hnm : qa_nm n = (k, i)) (e : ¬ (k' = k ∧ i' = i)) : qa_pos k' i' < n := by
  obtain ⟨a, b⟩ := hv
  rcases Nat.lt_or_ge (qa_pos k' i') n with h9 | h9
  · exact h9
  · have h8 : qa_pos k' i' = n := by omega
    rw [h8, hnm] at b
    cases b
    exact absurd ⟨rfl, rfl⟩ e
theorem qa_ok_sN {w : LMem} {k i : Nat} (hnm : qa_nm (gN w) = (k, i)) (h : qa_ok true w) : qa_ok true (sN w k i) := by
  intro k' i' j r hk' hv hi hr
  have hr : gR (sN w k i) k' i' j = some r := hr
  by_cases e : k' = k ∧ i' = i
  · rw [gR_sN, if_pos e] at hr
    cases hr
  · rw [gR_sN, if_neg e] at hr
    exact qa_vd_le (Nat.le_succ _) (h k' i' j r hk' ⟨fun q => ⟨qa_vd_grow (w := w) hk' (hv.1 q) hnm e, (hv.1 q).2⟩, hv.2⟩ hi hr)
/-- the value of a place of a fresh object -/
def qa_zv (k j : Nat) : LV := match qa_tg k j with
  | 0 => lI 0
  | 1 => lI 0
  | 2 => lL 0
  | _ => lR (qa_tk k j) none
theorem qa_tg4 (n : Nat) : n = 0 ∨ n = 1 ∨ n = 2 ∨ ∃ t, n = t + 3 := by
  rcases (show n = 0 ∨ n = 1 ∨ n = 2 ∨ 3 ≤ n by omega) with e | e | e | e
  · exact Or.inl e
  · exact Or.inr (Or.inl e)
  · exact Or.inr (Or.inr (Or.inl e))
  · exact Or.inr (Or.inr (Or.inr ⟨n - 3, by omega⟩))
theorem qa_dv {k j : Nat} (hk : k < 60) (ho : qa_oc k < 13) (hj : j < qa_nf k) : defaultValue (qa_cty (qa_oc k) j) = qa_val z (qa_zv k j) := by
  have h := (qa_kd9 k hk ho).2 j hj
  unfold qa_zv
  rcases qa_tg4 (qa_tg k j) with e | e | e | ⟨t, e⟩
  · rw [e] at h ⊢
    rw [of_decide_eq_true h]
    rfl
  · rw [e] at h ⊢
    rw [of_decide_eq_true h]
    rfl
  · rw [e] at h ⊢
    rw [of_decide_eq_true h]
    rfl
  · rw [e] at h ⊢
    have h : qa_isRT (qa_cty (qa_oc k) j) = true := h
    show defaultValue (qa_cty (qa_oc k) j) = .null
    cases hc : qa_cty (qa_oc k) j <;> rw [hc] at h <;> first | rfl | cases h
theorem qa_rdV_sN {w : LMem} {k i j : Nat} : qa_rdV true (sN w k i) k i j = qa_zv k j := by
  unfold qa_rdV qa_zv
  rcases qa_tg4 (qa_tg k j) with e | e | e | ⟨t, e⟩
  · rw [e]
    show lI (gI (sN w k i) k i j) = lI 0
    rw [gI_sN, if_pos ⟨rfl, rfl⟩]
  · rw [e]
    show lI (gI (sN w k i) k i j) = lI 0
    rw [gI_sN, if_pos ⟨rfl, rfl⟩]
  · rw [e]
    show lL (gL (sN w k i) k i j) = lL 0
    rw [gL_sN, if_pos ⟨rfl, rfl⟩]
  · rw [e]
    show lR (qa_tk k j) (gR (sN w k i) k i j) = lR (qa_tk k j) none
    rw [gR_sN, if_pos ⟨rfl, rfl⟩]
theorem qa_ce_newO {w : LMem} {k i : Nat} (ho : qa_oc k < 13) : qa_ce z true (sN w k i) k i = .inr (qa_oc k, (List.range (qa_nf k)).map fun j => qa_val z (qa_zv k j)) := by
  rw [qa_ce_O ho]
  simp only [qa_rdV_sN]
theorem qa_pn_O {o i k : Nat} (h : qa_p3 qa_pn o i k = true) (ho : qa_oc k < 13) : Cond.classLink (qa_own o) i (qa_own (qa_oc k)) ∈ qa_W ∧ Cond.instantiable (qa_own (qa_oc k)) (qa_cn (qa_oc k)) ∈ qa_W ∧ Cond.initialized (qa_own (qa_oc k)) ∈ qa_W := by
  obtain ⟨⟨o', i', k'⟩, hq, h2⟩ := List.any_eq_true.mp h
  obtain ⟨e1, h2⟩ := qa_and h2
  obtain ⟨e2, e3⟩ := qa_and h2
  cases qa_beq e1; cases qa_beq e2; cases qa_beq e3
  have h3 := List.all_eq_true.mp qa_pn9 _ hq
  dsimp only at h3
  rw [qa_blt ho] at h3
  dsimp only at h3
  obtain ⟨a, h3⟩ := qa_and h3
  obtain ⟨b, c⟩ := qa_and h3
  exact ⟨qa_mW a, qa_mW b, qa_mW c⟩
theorem qa_pn_A {o i k : Nat} (h : qa_p3 qa_pn o i k = true) (ho : ¬ qa_oc k < 13) (ht : qa_ti k ≠ 6) : Cond.classLink (qa_own o) i (qa_own (qa_oc (qa_tk k 0))) ∈ qa_W := by
  obtain ⟨⟨o', i', k'⟩, hq, h2⟩ := List.any_eq_true.mp h
  obtain ⟨e1, h2⟩ := qa_and h2
  obtain ⟨e2, e3⟩ := qa_and h2
  cases qa_beq e1; cases qa_beq e2; cases qa_beq e3
  have h3 := List.all_eq_true.mp qa_pn9 _ hq
  dsimp only at h3
  rw [qa_blf ho] at h3
  dsimp only at h3
  split at h3
  · rename_i e
    exact absurd e ht
  · exact qa_mW h3
theorem qa_pn_M {o i k : Nat} (h : qa_p3 qa_pn o i k = true) (ho : ¬ qa_oc k < 13) (ht : qa_ti k = 6) : Cond.classLink (qa_own o) i "[[I" ∈ qa_W := by
  obtain ⟨⟨o', i', k'⟩, hq, h2⟩ := List.any_eq_true.mp h
  obtain ⟨e1, h2⟩ := qa_and h2
  obtain ⟨e2, e3⟩ := qa_and h2
  cases qa_beq e1; cases qa_beq e2; cases qa_beq e3
  have h3 := List.all_eq_true.mp qa_pn9 _ hq
  dsimp only at h3
  rw [qa_blf ho] at h3
  dsimp only at h3
  split at h3
  · exact qa_mW h3
  · rename_i e
    exact absurd ht e
theorem qa_acI : Cond.arrayClass .int ∈ qa_W ∧ Cond.arrayClass .long ∈ qa_W := ⟨qa_mW (by decide +kernel), qa_mW (by decide +kernel)⟩
theorem qa_len9 : ∀ k, k < 60 → (qa_ea k = 0 ∨ qa_ea k = 2 ∨ qa_ea k = 3 → 0 < qa_len k ∧ ¬ qa_oc k < 13) ∧ qa_len k ≤ 2000 ∧ (qa_ea k = 3 → (qa_oc (qa_tk k 0) < 13 → qa_ti k ≠ 6 ∧ 2 ≤ qa_ti k) ∧ (¬ qa_oc (qa_tk k 0) < 13 → qa_ti k = 6 ∧ qa_ti (qa_tk k 0) = 0)) := by decide +kernel
theorem qa_nneg {a : Int32} {n : Nat} (h : a.toNatClampNeg = n) (hn : 0 < n) : ¬ a < 0 := by
  intro h9
  have h8 : a.toInt < 0 := by simpa using Int32.lt_iff_toInt_lt.mp h9
  have h7 : a.toNatClampNeg = a.toInt.toNat := rfl
  omega
/-- an array class's number is the one that stands in the frame's table -/
theorem qa_cA {U : State} {t : Nat} {cA : ClassId} (ht : t < 7) (hK : va_K z.1 vwCl (qa_tys z) U) (h : U.vm.findClass ("[" ++ (qa_aty t).toString) = some cA) : cA = z.2.1 t := by
  have h1 := (hK.2 t _ (qa_tys_get ht)).2
  rcases (show t = 0 ∨ t = 1 ∨ t = 2 ∨ t = 3 ∨ t = 4 ∨ t = 5 ∨ t = 6 by omega) with rfl | rfl | rfl | rfl | rfl | rfl | rfl
  · exact Option.some.inj (h.symm.trans h1)
  · exact Option.some.inj (h.symm.trans h1)
  · obtain ⟨_, _, _, _, _, h1⟩ := h1
    exact Option.some.inj (h.symm.trans h1)
  · obtain ⟨_, _, _, _, _, h1⟩ := h1
    exact Option.some.inj (h.symm.trans h1)
  · obtain ⟨_, _, _, _, _, h1⟩ := h1
    exact Option.some.inj (h.symm.trans h1)
  · obtain ⟨_, _, _, _, _, h1⟩ := h1
    exact Option.some.inj (h.symm.trans h1)
  · exact Option.some.inj (h.symm.trans h1)
end QNEW
section QSTEP2
variable {p : Program} {l : Launch} {e : Env} {R : Room} {s : State} {m : MethodId} {args : Array Value} {below : List Frame} {meth : Method} {c : Code} {QF : State → Prop} {z : qa_S} {ph : Bool} {mi mc ms n0 : Nat}
variable {X : Nat → Nat → Nat → LLoc → LStk → LMem → Prop} {C : Nat → List LV → LMem → LPost → Prop} {Q : LPost}
/-- what stands behind one new cell -/
theorem qa_new1 {k i n bc bs cells slots pc : Nat} {loc : LLoc} {st : LStk} {w : LMem} {H H1 : Heap} {locs : List Loc} {ls : Array Slot} (hF : qa_F z true mi p R s m args meth c mc ms n0) (hnm : qa_nm (gN w) = (k, i)) (hk : k < 60) (hR : qa_Rel z true w H) (hS : va_S (qa_A z) s.heap H locs) (hL : qa_lo z w (qa_mL mi) ls loc) (hV : qa_sv w st) (h1 : cells + bc = mc) (h2 : slots + bs = ms) (h3 : n0 ≤ gN w) (h4 : n0 + cells = gN w) (hb1 : 1 ≤ bc) (hb2 : n ≤ bs)
    (z1 : H1.size = H.size + 1) (o1 : ∀ q, q < H.size → H1[q]? = H[q]?) (hat : va_at z.1 vwCl (H.size, qa_ce z true (sN w k i) k i) H1)
    (hG : qa_G z true mi mc ms n0 p l e R s m args below meth c QF (bc - 1) (bs - n) pc loc (lR k (some i) :: st) (sN w k i)) :
    W p l e R s m args below meth c H1 locs (cells + 1) (slots + n) QF (F0 m pc ls (.ref H.size :: st.map (qa_val z))) := by
  have hH := hR.2.2.2.1 rfl
  have hn : gN w < 334 := qa_nm_big (by rw [hnm]; exact hk)
  have hp : qa_pos k i = gN w := by
    have h9 := (qa_nm_all (gN w) hn).1
    rw [hnm] at h9
    exact h9
  have hR1 : qa_Rel z true (sN w k i) H1 := by
    refine qa_Rel_grow (n := 1) hR (gN_sN w k i) (by rw [gN_sN]; omega) z1 o1 (fun j hj => ?_) (fun j hj => ?_) (qa_ok_sN hnm hR.2.2.2.2.1) (fun i' j' => by rw [gI_sN, if_neg (fun q => by omega)])
    · refine qa_ce_sN (fun q => ?_)
      have h9 : qa_nm j = qa_nm (gN w) := by
        rw [hnm]
        exact Prod.ext q.1 q.2
      exact absurd (qa_nm_inj (by omega) hn h9) (by omega)
    · rw [show j = 0 by omega, Nat.add_zero, Nat.add_zero, hnm]
      exact hat
  have hst : ((lR k (some i) :: st).map (qa_val z)) = .ref H.size :: st.map (qa_val z) := by
    simp only [List.map_cons, qa_val, Option.map_some, va_rf, qa_rho_lt hk, hp, hH]
  rw [← hst]
  refine hG H1 locs (cells + 1) (slots + n) ls hR1 ⟨Nat.le_trans hS.1 (by omega), fun x g1 g2 => (o1 x (Nat.lt_of_lt_of_le g1 hS.1)).trans (hS.2.1 x g1 g2), hS.2.2⟩ (qa_lo_le (Nat.le_succ _) hL) ⟨⟨fun _ => ⟨by rw [hp, gN_sN]; omega, by rw [hp]; exact hnm⟩, fun q => absurd hk q⟩, qa_sv_le (Nat.le_succ _) hV⟩ (by omega) (by omega) (by rw [gN_sN]; omega) (fun _ => by rw [gN_sN]; omega)
theorem qa_stp_new (hF : qa_F z ph mi p R s m args meth c mc ms n0) {x : List Nat} {v : Int32} {u : Int64} {n : Nat} {bc bs pc : Nat} {loc : LLoc} {st : LStk} {w : LMem} (hc : qa_chk mi pc (.new n, x, v, u) = true)
    (hX : ∀ bc bs pc loc st w, X bc bs pc loc st w → qa_G z ph mi mc ms n0 p l e R s m args below meth c QF bc bs pc loc st w)
    (h : qa_sem X C Q (qa_ins ph mi bc bs (.new n, x, v, u) pc loc st w)) : qa_G z ph mi mc ms n0 p l e R s m args below meth c QF bc bs pc loc st w := by
  obtain ⟨hx, hb, hml, hown, hts, hnm, hK, hSF, hb0, hsz, hmc, hms, hfr, hlo9⟩ := id hF
  intro H locs cells slots ls hR hS hL hV h1 h2 h3 h4
  obtain ⟨hd0, hc⟩ := qa_and hc
  have hdg := of_decide_eq_true hd0
  obtain ⟨c1, hc⟩ := qa_and hc
  obtain ⟨c2, hc⟩ := qa_and hc
  obtain ⟨c3, c4⟩ := qa_and hc
  have h : qa_sem X C Q (qa_new ph (qa_get x 0) (qa_get x 1) bc bs (pc + 3) loc st w) := h
  unfold qa_new at h
  obtain ⟨he9, hq9⟩ := qe_if h
  obtain ⟨hph, hkn⟩ := qa_and he9
  clear h he9
  subst hph
  obtain ⟨⟨hb1, hb2⟩, hfin⟩ := hq9
  have hk := qa_blt' c1
  have ho := qa_blt' c3
  have hkn := qa_beq hkn
  have hnf := (qa_kd9 _ hk ho).1
  have hnm2 : qa_nm (gN w) = (qa_get x 0, (qa_nm (gN w)).2) := Prod.ext hkn rfl
  obtain ⟨w1, w2, w3⟩ := qa_pn_O c4 ho
  have hKn := hK.1 _ _ (qa_cl_get _ ho)
  rw [qa_beq c2] at hb2 hfin
  rw [hnf] at hb2 hfin
  refine W.newcK hx hb hown (hts _ w1) (hts _ w2) (hts _ w3) rfl hdg (by omega) (by omega) hKn.2.1 rfl fun H1 kC hkC e1 z1 o1 => ?_
  refine qa_new1 hF hnm2 hk hR hS hL hV h1 h2 h3 (h4 rfl) hb1 hb2 z1 o1 ?_ (hX _ _ _ _ _ _ hfin)
  rw [qa_ce_newO ho]
  refine ⟨_, qa_cl_get _ ho, (u_born (qa_cty (qa_oc (qa_get x 0))) hts (qa_cl_in ho) hKn hkC e1 (qa_cl_ty _ ho)).to fun j hj => ?_⟩
  have hj : j < qa_nf (qa_get x 0) := by rw [hnf]; exact hj
  rw [qa_dv (z := z) hk ho hj]
  unfold vp_V
  simp [hj]
theorem qa_stp_newarray (hF : qa_F z ph mi p R s m args meth c mc ms n0) {x : List Nat} {v : Int32} {u : Int64} {t : ArrayType} {bc bs pc : Nat} {loc : LLoc} {st : LStk} {w : LMem} (hc : qa_chk mi pc (.newarray t, x, v, u) = true)
    (hX : ∀ bc bs pc loc st w, X bc bs pc loc st w → qa_G z ph mi mc ms n0 p l e R s m args below meth c QF bc bs pc loc st w)
    (h : qa_sem X C Q (qa_ins ph mi bc bs (.newarray t, x, v, u) pc loc st w)) : qa_G z ph mi mc ms n0 p l e R s m args below meth c QF bc bs pc loc st w := by
  obtain ⟨hx, hb, hml, hown, hts, hnm, hK, hSF, hb0, hsz, hmc, hms, hfr, hlo9⟩ := id hF
  intro H locs cells slots ls hR hS hL hV h1 h2 h3 h4
  obtain ⟨hd0, hc⟩ := qa_and hc
  have hdg := of_decide_eq_true hd0
  obtain ⟨c1, c2⟩ := qa_and hc
  have hk := qa_blt' c1
  obtain ⟨a, r, rfl, hz9⟩ := qe_s1I h
  have h := hz9
  obtain ⟨ha, h⟩ := qe_if h
  have ha := qa_beq ha
  have h : qa_sem X C Q (qa_new ph (qa_get x 0) (qa_len (qa_get x 0)) bc bs (pc + 2) loc r w) := h
  unfold qa_new at h
  obtain ⟨he9, hq9⟩ := qe_if h
  obtain ⟨hph, hkn⟩ := qa_and he9
  clear h he9
  subst hph
  obtain ⟨⟨hb1, hb2⟩, hfin⟩ := hq9
  have hkn := qa_beq hkn
  have hnm2 : qa_nm (gN w) = (qa_get x 0, (qa_nm (gN w)).2) := Prod.ext hkn rfl
  have hl9 := qa_len9 _ hk
  have hti := qa_ti9 _ hk
  cases hea : qa_ea (qa_get x 0) with
  | zero =>
    rw [hea] at c2
    have ht : t = .int := of_decide_eq_true c2
    subst ht
    have hl := hl9.1 (Or.inl hea)
    refine va_newaK (atype := .int) hx hb (hts _ qa_acI.1) rfl hdg rfl (qa_nneg ha hl.1) ha (by show _ * 4 ≤ _; omega) (by omega) (by omega) rfl fun H1 cA e1 z1 o1 hAr hNm => ?_
    refine qa_new1 hF hnm2 hk hR hS hL hV.2 h1 h2 h3 (h4 rfl) hb1 hb2 z1 o1 ?_ (hX _ _ _ _ _ _ hfin)
    have hcA : cA = z.2.1 (qa_ti (qa_get x 0)) := qa_cA hti.1 hK (by rw [hti.2.1 hea]; exact hNm)
    have hfe : (fun j => gI (sN w (qa_get x 0) (qa_nm (gN w)).2) (qa_get x 0) (qa_nm (gN w)).2 j) = fun _ => 0 := by
      funext j
      rw [gI_sN, if_pos ⟨rfl, rfl⟩]
    rw [qa_ce_I hk hea, hfe, ← hcA]
    exact e1
  | succ q1 => cases q1 with
    | zero => rw [hea] at c2; cases c2
    | succ q2 => cases q2 with
      | zero =>
        rw [hea] at c2
        have ht : t = .long := of_decide_eq_true c2
        subst ht
        have hl := hl9.1 (Or.inr (Or.inl hea))
        refine va_newaK (atype := .long) hx hb (hts _ qa_acI.2) rfl hdg rfl (qa_nneg ha hl.1) ha (by show _ * 8 ≤ _; omega) (by omega) (by omega) rfl fun H1 cA e1 z1 o1 hAr hNm => ?_
        refine qa_new1 hF hnm2 hk hR hS hL hV.2 h1 h2 h3 (h4 rfl) hb1 hb2 z1 o1 ?_ (hX _ _ _ _ _ _ hfin)
        have hcA : cA = z.2.1 (qa_ti (qa_get x 0)) := qa_cA hti.1 hK (by rw [hti.2.2.1 hea]; exact hNm)
        have hfe : (fun j => gL (sN w (qa_get x 0) (qa_nm (gN w)).2) (qa_get x 0) (qa_nm (gN w)).2 j) = fun _ => 0 := by
          funext j
          rw [gL_sN, if_pos ⟨rfl, rfl⟩]
        rw [qa_ce_L hk hea, hfe, ← hcA]
        exact e1
      | succ q3 => rw [hea] at c2; cases c2
theorem qa_stp_anewarray (hF : qa_F z ph mi p R s m args meth c mc ms n0) {x : List Nat} {v : Int32} {u : Int64} {n : Nat} {bc bs pc : Nat} {loc : LLoc} {st : LStk} {w : LMem} (hc : qa_chk mi pc (.anewarray n, x, v, u) = true)
    (hX : ∀ bc bs pc loc st w, X bc bs pc loc st w → qa_G z ph mi mc ms n0 p l e R s m args below meth c QF bc bs pc loc st w)
    (h : qa_sem X C Q (qa_ins ph mi bc bs (.anewarray n, x, v, u) pc loc st w)) : qa_G z ph mi mc ms n0 p l e R s m args below meth c QF bc bs pc loc st w := by
  obtain ⟨hx, hb, hml, hown, hts, hnm, hK, hSF, hb0, hsz, hmc, hms, hfr, hlo9⟩ := id hF
  intro H locs cells slots ls hR hS hL hV h1 h2 h3 h4
  obtain ⟨hd0, hc⟩ := qa_and hc
  have hdg := of_decide_eq_true hd0
  obtain ⟨c1, hc⟩ := qa_and hc
  obtain ⟨c2, c3⟩ := qa_and hc
  have hk := qa_blt' c1
  have hea := qa_beq c2
  obtain ⟨a, r, rfl, hz9⟩ := qe_s1I h
  have h := hz9
  obtain ⟨ha, h⟩ := qe_if h
  obtain ⟨ha, hoc⟩ := qa_and ha
  have ha := qa_beq ha
  have hoc := qa_blt' hoc
  have h : qa_sem X C Q (qa_new ph (qa_get x 0) (qa_len (qa_get x 0)) bc bs (pc + 3) loc r w) := h
  unfold qa_new at h
  obtain ⟨he9, hq9⟩ := qe_if h
  obtain ⟨hph, hkn⟩ := qa_and he9
  clear h he9
  subst hph
  obtain ⟨⟨hb1, hb2⟩, hfin⟩ := hq9
  have hkn := qa_beq hkn
  have hnm2 : qa_nm (gN w) = (qa_get x 0, (qa_nm (gN w)).2) := Prod.ext hkn rfl
  have hl9 := qa_len9 _ hk
  have hti := qa_ti9 _ hk
  have hl := hl9.1 (Or.inr (Or.inr hea))
  have ht := (hl9.2.2 hea).1 hoc
  have hty := (hti.2.2.2 hea).2.1 hoc
  have hover : (Cond.arrayOver (.object (qa_own (qa_oc (qa_tk (qa_get x 0) 0))))).before args s = true := by
    rw [← hty]
    exact hSF.2.2.2.2.2.2.2.2 _ ht.2 hti.1
  refine W.anew hx hb hown (hts _ (qa_pn_A c3 hl.2 ht.1)) hover rfl hdg rfl (qa_nneg ha hl.1) (by rw [ha]; omega) (by omega) (by rw [ha]; omega) fun cA kA comp f1 f2 f3 f4 => ?_
  rw [ha]
  refine qa_new1 hF hnm2 hk hR hS hL hV.2 h1 h2 h3 (h4 rfl) hb1 hb2 (by rw [Array.size_push]) (fun q hq => by rw [Array.getElem?_push, if_neg (Nat.ne_of_lt hq)]) ?_ (hX _ _ _ _ _ _ hfin)
  have hcA : cA = z.2.1 (qa_ti (qa_get x 0)) := qa_cA hti.1 hK (by rw [hty]; exact f1)
  have hfe : (fun j => (qa_rdR true (sN w (qa_get x 0) (qa_nm (gN w)).2) (qa_get x 0) (qa_nm (gN w)).2 j).map (qa_rho z (qa_tk (qa_get x 0) 0))) = fun _ => none := by
    funext j
    show (gR (sN w (qa_get x 0) (qa_nm (gN w)).2) (qa_get x 0) (qa_nm (gN w)).2 j).map _ = none
    rw [gR_sN, if_pos ⟨rfl, rfl⟩]
    rfl
  rw [qa_ce_R hk hea, hfe, ← hcA]
  show (H.push { cls := cA, slots := Array.replicate (qa_len (qa_get x 0)) .null, vm := .none })[H.size]? = some (arrV cA (qa_len (qa_get x 0)) (fun _ => .null))
  rw [Array.getElem?_push_size, arrV_new]
theorem qa_stp_aastore (hF : qa_F z ph mi p R s m args meth c mc ms n0) {x : List Nat} {v : Int32} {u : Int64} {bc bs pc : Nat} {loc : LLoc} {st : LStk} {w : LMem} (hc : qa_chk mi pc (.aastore, x, v, u) = true)
    (hX : ∀ bc bs pc loc st w, X bc bs pc loc st w → qa_G z ph mi mc ms n0 p l e R s m args below meth c QF bc bs pc loc st w)
    (h : qa_sem X C Q (qa_ins ph mi bc bs (.aastore, x, v, u) pc loc st w)) : qa_G z ph mi mc ms n0 p l e R s m args below meth c QF bc bs pc loc st w := by
  obtain ⟨hx, hb, hml, hown, hts, hnm, hK, hSF, hb0, hsz, hmc, hms, hfr, hlo9⟩ := id hF
  intro H locs cells slots ls hR hS hL hV h1 h2 h3 h4
  obtain ⟨hd0, hc⟩ := qa_and hc
  have hdg := of_decide_eq_true hd0
  obtain ⟨k', o', a, k, o, r, rfl, hz9⟩ := qe_sRIR h
  have h : qa_sem X C Q (qa_if (ph && (Nat.blt k 60 && (Nat.beq (qa_ea k) 3 && (Nat.beq (qa_tk k 0) k' && Nat.blt (qa_oc k') 13)))) w (qa_gg (qa_ga (qa_both (qa_gn o) (qa_gn o')) (qa_vin a (qa_len k))) bc bs (pc + 1) loc r (sR w k (o.getD 0) a.toNatClampNeg o'))) := hz9
  obtain ⟨he9, hq9⟩ := qe_if h
  obtain ⟨hph, he⟩ := qa_and he9
  clear h he9
  subst hph
  obtain ⟨he1, he⟩ := qa_and he
  obtain ⟨he2, he⟩ := qa_and he
  obtain ⟨he3, he4⟩ := qa_and he
  have hk := qa_blt' he1
  have hea := qa_beq he2
  have htk := qa_beq he3
  have hoc := qa_blt' he4
  obtain ⟨hg, h⟩ := qe_gg hq9
  obtain ⟨hg, hin, -⟩ := qe_ga hg
  obtain ⟨hg1, hg2, -⟩ := qe_both hg
  obtain ⟨i, rfl⟩ := qe_gn1 hg1
  obtain ⟨i', rfl⟩ := qe_gn1 hg2
  have hvd : qa_vd w k i := hV.2.2.1
  have hvd' : qa_vd w k' i' := hV.1
  have hk' : k' < 60 := Decidable.byContradiction fun q => by
    have h9 := (hvd'.2 q).1
    have h8 : k' = 60 ∨ k' = 61 ∨ k' = 62 ∨ k' = 63 ∨ k' = 64 ∨ k' = 65 := by omega
    rcases h8 with rfl | rfl | rfl | rfl | rfl | rfl <;> exact absurd hoc (by decide)
  have ha := qa_wl_get (z := z) (ph := true) hk hvd
  rw [qa_ce_R hk hea] at ha
  have ha' := qa_wl_get (z := z) (ph := true) hk' hvd'
  rw [qa_ce_O hoc] at ha'
  have ht := qa_tys_get (z := z) (qa_ti9 k hk).1
  rw [((qa_ti9 k hk).2.2.2 hea).2.1 (by rw [htk]; exact hoc), htk] at ht
  have hst : (F0 m pc ls ((lR k' (some i') :: lI a :: lR k (some i) :: r).map (qa_val z))) = F0 m pc ls (.ref (qa_rho z k' i') :: .int a :: .ref (qa_rho z k i) :: r.map (qa_val z)) := by
    simp [qa_val, va_rf]
  rw [hst]
  refine va_astq hx hb hK hR.2.1 (qa_wl_D hR.1) hS _ _ _ _ ha ht ha' (qa_cl_get _ hoc) hin hdg (fun H1 locs1 hP1 hD1 hS1 => ?_)
  refine qa_sizeW (fun hsz1 => ?_)
  have hlt : a.toNatClampNeg < qa_len k := Nat.not_le.mp fun q => hin (Or.inr q)
  have hce : qa_ce z true (sR w k i a.toNatClampNeg (some i')) k i = .inl (z.2.1 (qa_ti k), qa_len k, .inr (.inr (.inr (.inr (va_up (fun j => (qa_rdR true w k i j).map (qa_rho z (qa_tk k 0))) a.toNatClampNeg (some (qa_rho z k' i'))))))) := by
    have hf9 : (fun j => (qa_rdR true (sR w k i a.toNatClampNeg (some i')) k i j).map (qa_rho z (qa_tk k 0))) = va_up (fun j => (qa_rdR true w k i j).map (qa_rho z (qa_tk k 0))) a.toNatClampNeg (some (qa_rho z k' i')) := by
      funext j
      show (gR (sR w k i a.toNatClampNeg (some i')) k i j).map _ = _
      rw [gR_sR]
      by_cases e : j = a.toNatClampNeg
      · subst e
        simp [va_up, htk]
      · simp [va_up, e, qa_rdR]
    rw [qa_ce_R hk hea, hf9]
  have hlow : z.2.2.1 + gN w ≤ H1.size := by
    have hP2 := hP1
    rw [qa_wl_set (s' := sR w k i a.toNatClampNeg (some i')) hk hvd hR.1 rfl (fun k' i' h9 => qa_ce_sR h9) hce] at hP2
    exact qa_lower (w := sR w k i a.toNatClampNeg (some i')) (Nat.le_trans hb0 hS1.1) hP2
  exact hX _ _ _ _ _ _ h H1 locs1 cells slots ls (qa_Rel_sR hR hk hvd (fun r9 hr9 => by
      cases hr9
      have h9 : qa_tk2 k a.toNatClampNeg = k' := by
        unfold qa_tk2
        rw [qa_blf ((qa_len9 k hk).1 (Or.inr (Or.inr hea))).2]
        exact htk
      rw [h9]
      exact hvd') hce hP1 hlow (fun q => by have := hsz q; have := h4 q; omega)) hS1 (qa_lo_le (s := w) (s' := sR w k i a.toNatClampNeg (some i')) (Nat.le_refl (gN w)) hL) (qa_sv_le (s := w) (s' := sR w k i a.toNatClampNeg (some i')) (Nat.le_refl (gN w)) hV.2.2.2) h1 h2 h3 h4
end QSTEP2
