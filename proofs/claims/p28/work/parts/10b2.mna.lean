/-! An array of arrays is made. -/
section QMNA
variable {p : Program} {l : Launch} {e : Env} {R : Room} {s : State} {m : MethodId} {args : Array Value} {below : List Frame} {meth : Method} {c : Code} {H : Heap} {locs : List Loc} {cells slots : Nat} {QF : State → Prop} {z : qa_S} {ph : Bool} {mi mc ms n0 : Nat}
variable {X : Nat → Nat → Nat → LLoc → LStk → LMem → Prop} {C : Nat → List LV → LMem → LPost → Prop} {Q : LPost}
theorem qa_outer (c : ClassId) (N h0 : Nat) : ∀ i : Nat, Jvm.Free.Multi.outerC c N h0 i = arrV c N (fun j => va_rf (if j < i then some (h0 + 1 + j) else none))
  | 0 => by
    show ({ cls := c, slots := Array.replicate N .null, vm := .none } : Cell) = _
    rw [arrV_new]
    refine congrArg (arrV c N) (funext fun j => ?_)
    simp [va_rf]
  | i + 1 => by
    show (Jvm.Free.Multi.outerC c N h0 i).setSlot i (.ref (h0 + 1 + i)) = _
    rw [qa_outer c N h0 i, arrV_store]
    refine congrArg (arrV c N) (funext fun j => ?_)
    by_cases e : j = i
    · subst e
      simp [updV, va_rf]
    · by_cases h : j < i
      · simp [updV, e, h, Nat.lt_succ_of_lt h]
      · simp [updV, e, h, show ¬ j < i + 1 by omega]
theorem qa_mnaW {cc : ByteArray} (hexec : p.tables.exec = Jvm.exec) (hb : c.code = cc) {own : String} {index : Nat} (hown : s.vm.findClass own = some m.cls) (hclink : (Cond.classLink own index ("[" ++ (FieldType.array .int).toString)).before args s = true)
    (hover : (Cond.arrayOver (.array .int)).before args s = true) (harr : (Cond.arrayClass .int).before args s = true) {n k : Int32} {N K pc : Nat} {ls : Array Slot} {rest : List Value} (hn : ¬ n < 0) (hk : ¬ k < 0) (hN : n.toNatClampNeg = N) (hM : k.toNatClampNeg = K)
    (hb1 : N * 4 ≤ 536870912) (hb2 : K * 4 ≤ 536870912) (hcells : cells + (1 + N) ≤ R.cells) (hslots : slots + (N + N * K) ≤ R.slots) (hdg : decode cc pc = .ok (.multianewarray index 2, 4))
    (kk : ∀ (H1 : Heap) (cA comp : ClassId), s.vm.findClass ("[" ++ (FieldType.array .int).toString) = some cA → s.vm.findClass (FieldType.array .int).toString = some comp → H1.size = H.size + 1 + N → (∀ x : Nat, x < H.size → H1[x]? = H[x]?) →
      H1[H.size]? = some (arrV cA N (fun j => va_rf (if j < N then some (H.size + 1 + j) else none))) → (∀ j, j < N → H1[H.size + 1 + j]? = some (arrV comp K (fun _ => .int 0))) →
      W p l e R s m args below meth c H1 locs (cells + 1 + N) (slots + N + N * K) QF (F0 m (pc + 4) ls (.ref H.size :: rest))) : W p l e R s m args below meth c H locs cells slots QF (F0 m pc ls (.int k :: .int n :: rest)) := by
  subst hN
  subst hM
  intro T hT Xs
  obtain ⟨vm₁, cA, comp, -, fA, fC, hO, -, X', step⟩ := Xs.multianewarray2F hexec hown hclink hover harr (g := F0 m pc ls (.int k :: .int n :: rest)) rfl (by rw [hb]; exact hdg) rfl hn hk hb1 hb2 (by omega) rfl rfl hcells hslots
  have hTh : (T.setVm vm₁).heap = H := hT
  obtain ⟨f1, f2, -, -⟩ := Jvm.Free.Multi.fill_facts (T.setVm vm₁) cA comp n.toNatClampNeg k.toNatClampNeg (defaultValue .int) n.toNatClampNeg
  have f3 := fun (x : Nat) (hx : x < H.size) => Jvm.Free.Multi.fill_old (T.setVm vm₁) cA comp n.toNatClampNeg k.toNatClampNeg (defaultValue .int) (a := x) (by rw [hTh]; exact hx) n.toNatClampNeg
  have f4 := Jvm.Free.Multi.fill_inner (T.setVm vm₁) cA comp n.toNatClampNeg k.toNatClampNeg (defaultValue .int) n.toNatClampNeg
  rw [hTh] at f1 f2
  simp only [hTh] at f3 f4
  rw [qa_outer] at f2
  obtain ⟨t, a1, b1⟩ := kk _ cA comp fA fC f1 f3 f2 (fun j hj => by
    rw [f4 j hj]
    show some ({ cls := comp, slots := Array.replicate k.toNatClampNeg (.int 0), vm := .none } : Cell) = _
    rw [arrV_new]) _ rfl X'
  refine ⟨t, step t ?_, b1⟩
  rw [hT]
  exact a1
theorem qa_row_use (k : Nat) : ∀ (n m i : Nat), qa_row k m i n = true → ∀ j, j < n → qa_nm (m + j) = (k, i + j)
  | 0, _, _, _, j, hj => absurd hj (Nat.not_lt_zero j)
  | n + 1, m, i, h, j, hj => by
    obtain ⟨h1, h⟩ := qa_and h
    obtain ⟨h2, h3⟩ := qa_and h
    match j with
    | 0 => exact Prod.ext (qa_beq h1) (qa_beq h2)
    | j + 1 =>
      have h4 := qa_row_use k n (m + 1) (i + 1) h3 j (by omega)
      rw [show m + (j + 1) = m + 1 + j by omega, show i + (j + 1) = i + 1 + j by omega]
      exact h4
/-- the memory behind -/
def qa_mm (w : LMem) (k i k2 i2 n : Nat) : LMem := sRs (sNs (sN w k i) k2 i2 n) k i 0 i2 n
theorem gN_mm (w : LMem) (k i k2 i2 n : Nat) : gN (qa_mm w k i k2 i2 n) = gN w + (1 + n) := by
  unfold qa_mm
  rw [gN_sRs, gN_sNs, gN_sN]
  omega
theorem gR_mm {w : LMem} {k i k2 i2 n : Nat} (hne : k ≠ k2) (k' i' j : Nat) : gR (qa_mm w k i k2 i2 n) k' i' j = if k' = k ∧ i' = i then (if j < n then some (i2 + j) else none) else if k' = k2 ∧ i2 ≤ i' ∧ i' < i2 + n then none else gR w k' i' j := by
  unfold qa_mm
  rw [gR_sRs, gR_sNs, gR_sN]
  by_cases h : k' = k ∧ i' = i
  · obtain ⟨rfl, rfl⟩ := h
    by_cases h2 : j < n
    · simp [h2]
    · simp [h2, hne]
  · have h3 : ¬ (k' = k ∧ i' = i ∧ 0 ≤ j ∧ j < 0 + n) := fun q => h ⟨q.1, q.2.1⟩
    by_cases h2 : k' = k2 ∧ i2 ≤ i' ∧ i' < i2 + n
    · rw [if_neg h3, if_pos h2, if_neg h, if_pos h2]
    · rw [if_neg h3, if_neg h2, if_neg h, if_neg h, if_neg h2]
theorem gI_mm {w : LMem} {k i k2 i2 n : Nat} (k' i' j : Nat) : gI (qa_mm w k i k2 i2 n) k' i' j = if k' = k2 ∧ i2 ≤ i' ∧ i' < i2 + n then 0 else if k' = k ∧ i' = i then 0 else gI w k' i' j := by
  unfold qa_mm
  rw [gI_sRs, gI_sNs, gI_sN]
theorem gL_mm {w : LMem} {k i k2 i2 n : Nat} (k' i' j : Nat) : gL (qa_mm w k i k2 i2 n) k' i' j = if k' = k2 ∧ i2 ≤ i' ∧ i' < i2 + n then 0 else if k' = k ∧ i' = i then 0 else gL w k' i' j := by
  unfold qa_mm
  rw [gL_sRs, gL_sNs, gL_sN]
theorem qa_stp_mna (hF : qa_F z ph mi p R s m args meth c mc ms n0) {x : List Nat} {v : Int32} {u : Int64} {n n2 : Nat} {bc bs pc : Nat} {loc : LLoc} {st : LStk} {w : LMem} (hc : qa_chk mi pc (.multianewarray n n2, x, v, u) = true)
    (hX : ∀ bc bs pc loc st w, X bc bs pc loc st w → qa_G z ph mi mc ms n0 p l e R s m args below meth c QF bc bs pc loc st w)
    (h : qa_sem X C Q (qa_ins ph mi bc bs (.multianewarray n n2, x, v, u) pc loc st w)) : qa_G z ph mi mc ms n0 p l e R s m args below meth c QF bc bs pc loc st w := by
  obtain ⟨hx, hb, hml, hown, hts, hnm, hK, hSF, hb0, hsz, hmc, hms, hfr, hlo9⟩ := id hF
  intro H locs cells slots ls hR hS hL hV h1 h2 h3 h4
  obtain ⟨hd0, hc⟩ := qa_and hc
  have hdg := of_decide_eq_true hd0
  obtain ⟨c0, hc⟩ := qa_and hc
  obtain ⟨c1, hc⟩ := qa_and hc
  obtain ⟨c2, hc⟩ := qa_and hc
  obtain ⟨c3, hc⟩ := qa_and hc
  obtain ⟨c4, hc⟩ := qa_and hc
  obtain ⟨c5, c6⟩ := qa_and hc
  obtain rfl := qa_beq c0
  have hk := qa_blt' c1
  have hk2 := qa_blt' c2
  have hea := qa_beq c3
  have htk := qa_beq c4
  have hea2 := qa_beq c5
  obtain ⟨a, b, r, rfl, hz9⟩ := qe_s2I h
  have h := hz9
  obtain ⟨ha0, hz8⟩ := qe_if h
  clear h hz9
  have h := hz8
  clear hz8
  obtain ⟨ha1, hb1⟩ := qa_and ha0
  have ha := qa_beq ha1
  have hb9 := qa_beq hb1
  clear ha0 ha1 hb1
  have h : qa_sem X C Q (qa_mna ph (qa_get x 0) (qa_get x 1) bc bs (pc + 4) loc r w) := h
  unfold qa_mna at h
  obtain ⟨he9, hq9⟩ := qe_if h
  obtain ⟨hph, he⟩ := qa_and he9
  clear h he9
  subst hph
  obtain ⟨hkn, hrow⟩ := qa_and he
  obtain ⟨⟨hb1, hb2⟩, hfin⟩ := hq9
  have hkn := qa_beq hkn
  generalize hkk : qa_get x 0 = k at *
  generalize hkk2 : qa_get x 1 = k2 at *
  generalize hii : (qa_nm (gN w)).2 = i at *
  generalize hii2 : (qa_nm (gN w + 1)).2 = i2 at *
  have hnm2 : qa_nm (gN w) = (k, i) := Prod.ext hkn hii
  have hrow := qa_row_use k2 (qa_len k) (gN w + 1) i2 hrow
  have hl9 := qa_len9 _ hk
  have hl92 := qa_len9 _ hk2
  have hl := hl9.1 (Or.inr (Or.inr hea))
  have hl2 := hl92.1 (Or.inl hea2)
  have hti := qa_ti9 _ hk
  have hti2 := qa_ti9 _ hk2
  have ht := (hl9.2.2 hea).2 (by rw [htk]; exact hl2.2)
  rw [htk] at ht
  have hne : k ≠ k2 := fun q => by rw [q] at hea; rw [hea] at hea2; cases hea2
  have hH := hR.2.2.2.1 rfl
  have hover : (Cond.arrayOver (.array .int)).before args s = true := hSF.2.2.2.2.2.2.2.2 6 (by omega) (by omega)
  have hn1 : gN w < 334 := qa_nm_big (by rw [hnm2]; exact hk)
  have hp : qa_pos k i = gN w := by
    have h9 := (qa_nm_all (gN w) hn1).1
    rw [hnm2] at h9
    exact h9
  have hrp : ∀ j, j < qa_len k → gN w + 1 + j < 334 ∧ qa_pos k2 (i2 + j) = gN w + 1 + j := fun j hj => by
    have g1 := hrow j hj
    have g2 : gN w + 1 + j < 334 := qa_nm_big (by rw [g1]; exact hk2)
    have g3 := (qa_nm_all _ g2).1
    rw [g1] at g3
    exact ⟨g2, g3⟩
  have hst0 : (F0 m pc ls ((lI a :: lI b :: r).map (qa_val z))) = F0 m pc ls (.int a :: .int b :: r.map (qa_val z)) := rfl
  rw [hst0]
  refine qa_mnaW hx hb hown (hts _ (qa_pn_M c6 hl.2 ht.1)) hover (hts _ qa_acI.1) (qa_nneg ha hl.1) (qa_nneg hb9 hl2.1) ha hb9 (by omega) (by omega) (by omega) (by omega) hdg (fun H1 cA comp fA fC z1 o1 e1 e2 => ?_)
  have hcA : cA = z.2.1 6 := qa_cA (by omega) hK fA
  have hcC : comp = z.2.1 0 := qa_cA (t := 0) (by omega) hK fC
  have hR1 : qa_Rel z true (qa_mm w k i k2 i2 (qa_len k)) H1 := by
    have hle : gN w + (1 + qa_len k) ≤ 334 := by
      have := (hrp (qa_len k - 1) (by omega)).1
      omega
    refine qa_Rel_grow (n := 1 + qa_len k) hR (gN_mm _ _ _ _ _ _) (by rw [gN_mm]; exact hle) (by omega) o1 (fun j hj => ?_) (fun j hj => ?_) ?_ (fun i' j' => by rw [gI_mm, if_neg (fun q => by omega), if_neg (fun q => by omega)])
    · have hq1 : ¬ ((qa_nm j).1 = k ∧ (qa_nm j).2 = i) := fun q => by
        have h9 : qa_nm j = qa_nm (gN w) := by rw [hnm2]; exact Prod.ext q.1 q.2
        exact absurd (qa_nm_inj (by omega) hn1 h9) (by omega)
      have hq2 : ¬ ((qa_nm j).1 = k2 ∧ i2 ≤ (qa_nm j).2 ∧ (qa_nm j).2 < i2 + qa_len k) := fun q => by
        have h8 := hrow ((qa_nm j).2 - i2) (by omega)
        have h9 : qa_nm j = qa_nm (gN w + 1 + ((qa_nm j).2 - i2)) := by
          rw [h8]
          exact Prod.ext q.1 (by show (qa_nm j).2 = i2 + ((qa_nm j).2 - i2); omega)
        exact absurd (qa_nm_inj (by omega) (hrp _ (by omega)).1 h9) (by omega)
      exact qa_ce_ext (fun j' => by rw [gI_mm, if_neg hq2, if_neg hq1]) (fun j' => by rw [gL_mm, if_neg hq2, if_neg hq1]) (fun j' => by rw [gR_mm hne, if_neg hq1, if_neg hq2])
    · cases j with
      | zero =>
        rw [Nat.add_zero, Nat.add_zero, hnm2]
        show va_at z.1 vwCl (H.size, qa_ce z true _ k i) H1
        rw [qa_ce_R hk hea]
        show H1[H.size]? = some (arrV (z.2.1 (qa_ti k)) (qa_len k) (fun j => va_rf ((gR (qa_mm w k i k2 i2 (qa_len k)) k i j).map (qa_rho z (qa_tk k 0)))))
        rw [e1, ht.1, ← hcA]
        refine congrArg (fun f => some (arrV cA (qa_len k) f)) (funext fun j => ?_)
        rw [gR_mm hne, if_pos (And.intro rfl rfl : k = k ∧ i = i)]
        by_cases h9 : j < qa_len k
        · rw [if_pos h9, if_pos h9, Option.map_some, htk, qa_rho_lt hk2, (hrp j h9).2]
          exact congrArg (fun q => va_rf (some q)) (by omega)
        · rw [if_neg h9, if_neg h9]
          rfl
      | succ j =>
        rw [show gN w + (j + 1) = gN w + 1 + j by omega, hrow j (by omega), show H.size + (j + 1) = H.size + 1 + j by omega]
        show va_at z.1 vwCl (H.size + 1 + j, qa_ce z true _ k2 (i2 + j)) H1
        rw [qa_ce_I hk2 hea2]
        show H1[H.size + 1 + j]? = some (arrV (z.2.1 (qa_ti k2)) (qa_len k2) (fun j' => .int (gI (qa_mm w k i k2 i2 (qa_len k)) k2 (i2 + j) j')))
        rw [e2 j (by omega), ht.2, ← hcC]
        refine congrArg (fun f => some (arrV comp (qa_len k2) f)) (funext fun j' => ?_)
        rw [gI_mm, if_pos (by omega)]
    · intro k' i' j r9 hk' hv hi hr
      have hr : gR (qa_mm w k i k2 i2 (qa_len k)) k' i' j = some r9 := hr
      rw [gR_mm hne] at hr
      by_cases e : k' = k ∧ i' = i
      · rw [if_pos e] at hr
        by_cases h9 : j < qa_len k
        · rw [if_pos h9] at hr
          cases hr
          have h8 : qa_tk2 k' j = k2 := by
            unfold qa_tk2
            rw [e.1, qa_blf hl.2]
            exact htk
          rw [h8]
          exact ⟨fun _ => ⟨by rw [(hrp j h9).2, gN_mm]; omega, by rw [(hrp j h9).2]; exact hrow j h9⟩, fun q => absurd hk2 q⟩
        · rw [if_neg h9] at hr
          cases hr
      · rw [if_neg e] at hr
        by_cases e2 : k' = k2 ∧ i2 ≤ i' ∧ i' < i2 + qa_len k
        · rw [if_pos e2] at hr
          cases hr
        · rw [if_neg e2] at hr
          refine qa_vd_le (by rw [gN_mm]; omega) (hR.2.2.2.2.1 k' i' j r9 hk' ⟨fun _ => ?_, hv.2⟩ hi hr)
          obtain ⟨g1, g2⟩ := hv.1 hk'
          rw [gN_mm] at g1
          refine ⟨?_, g2⟩
          rcases Nat.lt_or_ge (qa_pos k' i') (gN w) with h9 | h9
          · exact h9
          · rcases Nat.eq_or_lt_of_le h9 with h8 | h8
            · rw [← h8, hnm2] at g2
              cases g2
              exact absurd ⟨rfl, rfl⟩ e
            · have g3 := hrow (qa_pos k' i' - (gN w + 1)) (by omega)
              rw [show gN w + 1 + (qa_pos k' i' - (gN w + 1)) = qa_pos k' i' by omega, g2] at g3
              obtain ⟨q1, q2⟩ := Prod.mk.inj g3
              exact absurd ⟨q1, by omega, by omega⟩ e2
  have hst : ((lR k (some i) :: r).map (qa_val z)) = .ref H.size :: r.map (qa_val z) := by
    simp only [List.map_cons, qa_val, Option.map_some, va_rf, qa_rho_lt hk, hp, hH]
  rw [← hst]
  refine hX _ _ _ _ _ _ hfin H1 locs (cells + 1 + qa_len k) (slots + qa_len k + qa_len k * qa_len k2) ls hR1 ⟨Nat.le_trans hS.1 (by omega), fun x g1 g2 => (o1 x (Nat.lt_of_lt_of_le g1 hS.1)).trans (hS.2.1 x g1 g2), hS.2.2⟩ (qa_lo_le (by show gN w ≤ gN (qa_mm w k i k2 i2 (qa_len k)); rw [gN_mm]; omega) hL) ⟨⟨fun _ => ⟨by rw [hp]; show _ < gN (qa_mm w k i k2 i2 (qa_len k)); rw [gN_mm]; omega, by rw [hp]; exact hnm2⟩, fun q => absurd hk q⟩, qa_sv_le (by show gN w ≤ gN (qa_mm w k i k2 i2 (qa_len k)); rw [gN_mm]; omega) hV.2.2⟩ (by omega) (by omega) (by show n0 ≤ gN (qa_mm w k i k2 i2 (qa_len k)); rw [gN_mm]; omega) (fun _ => by have := h4 rfl; show n0 + (cells + 1 + qa_len k) = gN (qa_mm w k i k2 i2 (qa_len k)); rw [gN_mm]; omega)
end QMNA
