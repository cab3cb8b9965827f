/-! The light memory and the heap. -/
def qa_posF : List (Nat × Nat) → Nat → Nat → Nat → Nat
  | [], _, _, n => n
  | q :: l, k, i, n => match Nat.beq q.1 k && Nat.beq q.2 i with | true => n | false => qa_posF l k i (n + 1)
def qa_pos (k i : Nat) : Nat := qa_posF qa_nms k i 0
theorem qa_nm_all : ∀ n, n < 334 → qa_pos (qa_nm n).1 (qa_nm n).2 = n ∧ (qa_nm n).1 < 60 := by decide +kernel
theorem qa_oc_ea : ∀ k, k < 60 → (qa_oc k < 13 ∧ qa_ea k = 9) ∨ (¬ qa_oc k < 13 ∧ (qa_ea k = 0 ∨ qa_ea k = 2 ∨ qa_ea k = 3) ∧ qa_nf k = 0) ∨ qa_oc k = 99 ∧ qa_ea k = 9 := by decide +kernel
abbrev qa_S : Type := va_G × (Nat → ClassId) × Nat × (Nat → Nat → Nat) × Nat × (Nat → Int32)
section QR
/-! z: the classes, the array classes, the first new address, the addresses of what was there, the script -/
variable (z : qa_S) (ph : Bool)
def qa_rho (k i : Nat) : Nat := match Nat.blt k 60 with | true => z.2.2.1 + qa_pos k i | false => z.2.2.2.1 k i
def qa_val : LV → Value
  | Sum.inl x => .int x
  | Sum.inr (Sum.inl x) => .long x
  | Sum.inr (Sum.inr (k, o)) => va_rf (o.map (qa_rho z k))
def qa_ce (s : LMem) (k i : Nat) : va_E := match Nat.blt (qa_oc k) 13 with
  | true => .inr (qa_oc k, (List.range (qa_nf k)).map fun j => qa_val z (qa_rdV ph s k i j))
  | false => .inl (z.2.1 (qa_ti k), qa_len k, match qa_ea k with
    | 0 => .inl fun j => gI s k i j
    | 2 => .inr (.inl fun j => gL s k i j)
    | _ => .inr (.inr (.inr (.inr fun j => (qa_rdR ph s k i j).map (qa_rho z (qa_tk k 0))))))
def qa_wl (s : LMem) : va_W := (List.range (gN s)).map fun n => (z.2.2.1 + n, qa_ce z ph s (qa_nm n).1 (qa_nm n).2)
end QR
def qa_vd (s : LMem) (k i : Nat) : Prop := (k < 60 → qa_pos k i < gN s ∧ qa_nm (qa_pos k i) = (k, i)) ∧ (¬ k < 60 → k < 66 ∧ (i = 0 ∨ (k = 64 ∧ i < 3)))
def qa_vv (s : LMem) : LV → Prop
  | Sum.inr (Sum.inr (k, some i)) => qa_vd s k i
  | _ => True
def qa_tk2 (k j : Nat) : Nat := match Nat.blt (qa_oc k) 13 with | true => qa_tk k j | false => qa_tk k 0
def qa_isR (k j : Nat) : Prop := (qa_oc k < 13 ∧ j < qa_nf k ∧ 3 ≤ qa_tg k j) ∨ (¬ qa_oc k < 13 ∧ qa_ea k = 3 ∧ j < qa_len k)
def qa_ok (ph : Bool) (s : LMem) : Prop := ∀ k i j r, k < 60 → qa_vd s k i → qa_isR k j → qa_rdR ph s k i j = some r → qa_vd s (qa_tk2 k j) r
def qa_Rel (z : qa_S) (ph : Bool) (s : LMem) (H : Heap) : Prop :=
  gN s ≤ 334 ∧ va_P z.1 vwCl (qa_wl z ph s) H ∧ z.2.2.1 + gN s ≤ H.size ∧ (ph = true → H.size = z.2.2.1 + gN s) ∧ qa_ok ph s ∧ (∀ j, j < z.2.2.2.2.1 → gI s 65 0 j = z.2.2.2.2.2 j) ∧ gI s 65 1 0 = Int32.ofNat z.2.2.2.2.1
abbrev qa_A (z : qa_S) : Nat → Prop := fun q => z.2.2.1 ≤ q
theorem qa_blt {a b : Nat} (h : a < b) : Nat.blt a b = true := Nat.ble_eq_true_of_le h
theorem qa_blf {a b : Nat} (h : ¬ a < b) : Nat.blt a b = false := by
  cases h9 : Nat.blt a b with
  | false => rfl
  | true => exact absurd (Nat.le_of_ble_eq_true h9) h
theorem qa_blt' {a b : Nat} (h : Nat.blt a b = true) : a < b := Nat.le_of_ble_eq_true h
theorem qa_beq {a b : Nat} (h : Nat.beq a b = true) : a = b := by simpa using h
theorem qa_and {a b : Bool} (h : (a && b) = true) : a = true ∧ b = true := by simpa using h
section QR2
variable {z : qa_S} {ph : Bool} {s s' : LMem} {H : Heap}
theorem qa_rho_lt {k i : Nat} (h : k < 60) : qa_rho z k i = z.2.2.1 + qa_pos k i := by simp [qa_rho, qa_blt h]
theorem qa_rho_ge {k i : Nat} (h : ¬ k < 60) : qa_rho z k i = z.2.2.2.1 k i := by simp [qa_rho, qa_blf h]
theorem qa_wl_get {k i : Nat} (hk : k < 60) (hv : qa_vd s k i) : (qa_wl z ph s)[qa_pos k i]? = some (qa_rho z k i, qa_ce z ph s k i) := by
  obtain ⟨h1, h2⟩ := hv.1 hk
  unfold qa_wl
  rw [List.getElem?_map, List.getElem?_range h1, qa_rho_lt hk]
  simp only [Option.map_some, h2]
theorem qa_wl_D (hn : gN s ≤ 334) : va_D (qa_A z) (qa_wl z ph s) := by
  have key : ∀ (k : Nat) (q : Nat × va_E), (qa_wl z ph s)[k]? = some q → k < gN s ∧ q.1 = z.2.2.1 + k := by
    intro k q h
    unfold qa_wl at h
    rw [List.getElem?_map] at h
    by_cases hk : k < gN s
    · rw [List.getElem?_range hk] at h
      cases h
      exact ⟨hk, rfl⟩
    · rw [List.getElem?_eq_none (by rw [List.length_range]; omega)] at h
      cases h
  refine ⟨fun i j p q hi hj h => ?_, fun k q h => ?_⟩
  · obtain ⟨-, h1⟩ := key i p hi
    obtain ⟨-, h2⟩ := key j q hj
    omega
  · show z.2.2.1 ≤ q.1
    obtain ⟨-, h1⟩ := key k q h
    omega
theorem qa_ce_ext {k i : Nat} (h1 : ∀ j, gI s' k i j = gI s k i j) (h2 : ∀ j, gL s' k i j = gL s k i j) (h3 : ∀ j, gR s' k i j = gR s k i j) : qa_ce z ph s' k i = qa_ce z ph s k i := by
  have hr : ∀ j, qa_rdR ph s' k i j = qa_rdR ph s k i j := by
    intro j
    unfold qa_rdR
    cases ph with
    | true => exact h3 j
    | false =>
      simp only
      unfold qa_srf
      split <;> first | exact h3 j | rfl
  have hv : ∀ j, qa_rdV ph s' k i j = qa_rdV ph s k i j := by
    intro j
    unfold qa_rdV
    split
    · rw [h1]
    · rw [h1]
    · rw [h2]
    · rw [hr]
  unfold qa_ce
  cases Nat.blt (qa_oc k) 13 with
  | true => simp only [hv]
  | false =>
    simp only
    split
    · simp only [h1]
    · simp only [h2]
    · simp only [hr]
theorem qa_wl_set {k i : Nat} (hk : k < 60) (hv : qa_vd s k i) (hn : gN s ≤ 334) (hN : gN s' = gN s) (h : ∀ k' i', ¬ (k' = k ∧ i' = i) → qa_ce z ph s' k' i' = qa_ce z ph s k' i') {e : va_E} (he : qa_ce z ph s' k i = e) :
    (qa_wl z ph s).set (qa_pos k i) (qa_rho z k i, e) = qa_wl z ph s' := by
  obtain ⟨h1, h2⟩ := hv.1 hk
  subst he
  apply List.ext_getElem?
  intro n
  by_cases e : n = qa_pos k i
  · subst e
    rw [List.getElem?_set_self (by unfold qa_wl; simp [h1])]
    rw [qa_wl_get hk ⟨fun _ => ⟨by rw [hN]; exact h1, h2⟩, fun h9 => absurd hk h9⟩]
  · rw [List.getElem?_set_ne (fun q => e q.symm)]
    unfold qa_wl
    rw [hN, List.getElem?_map, List.getElem?_map]
    by_cases hl : n < gN s
    · rw [List.getElem?_range hl]
      simp only [Option.map_some]
      rw [h]
      rintro ⟨q1, q2⟩
      have q3 := (qa_nm_all n (by omega)).1
      rw [q1, q2] at q3
      exact e q3.symm
    · rw [List.getElem?_eq_none (by rw [List.length_range]; omega)]
      rfl
theorem qa_vd_N (h : gN s' = gN s) {k i : Nat} (hv : qa_vd s k i) : qa_vd s' k i := ⟨fun hk => by rw [h]; exact hv.1 hk, hv.2⟩
theorem qa_vd_le (h : gN s ≤ gN s') {k i : Nat} (hv : qa_vd s k i) : qa_vd s' k i := ⟨fun hk => ⟨Nat.lt_of_lt_of_le (hv.1 hk).1 h, (hv.1 hk).2⟩, hv.2⟩
theorem qa_vv_le (h : gN s ≤ gN s') {v : LV} (hv : qa_vv s v) : qa_vv s' v := by
  rcases v with x | x | ⟨k, _ | i⟩ <;> first | trivial | exact qa_vd_le h hv
theorem gI_sI (s : LMem) (k i j : Nat) (v : Int32) (k' i' j' : Nat) : gI (sI s k i j v) k' i' j' = if k' = k ∧ i' = i ∧ j' = j then v else gI s k' i' j' := rfl
theorem gL_sL (s : LMem) (k i j : Nat) (v : Int64) (k' i' j' : Nat) : gL (sL s k i j v) k' i' j' = if k' = k ∧ i' = i ∧ j' = j then v else gL s k' i' j' := rfl
theorem gR_sR (s : LMem) (k i j : Nat) (v : Option Nat) (k' i' j' : Nat) : gR (sR s k i j v) k' i' j' = if k' = k ∧ i' = i ∧ j' = j then v else gR s k' i' j' := rfl
/-- reading an object's place out of its cell -/
theorem qa_fs_get {k i j : Nat} (hj : j < qa_nf k) : ((List.range (qa_nf k)).map fun j => qa_val z (qa_rdV ph s k i j))[j]? = some (qa_val z (qa_rdV ph s k i j)) := by
  rw [List.getElem?_map, List.getElem?_range hj]
  rfl
theorem qa_fs_set {k i j : Nat} (h : ∀ j', j' ≠ j → qa_rdV ph s' k i j' = qa_rdV ph s k i j') {v : Value} (hv : qa_val z (qa_rdV ph s' k i j) = v) :
    ((List.range (qa_nf k)).map fun j => qa_val z (qa_rdV ph s k i j)).set j v = (List.range (qa_nf k)).map fun j => qa_val z (qa_rdV ph s' k i j) := by
  subst hv
  apply List.ext_getElem?
  intro n
  by_cases hn : n < qa_nf k
  · by_cases e : n = j
    · subst e
      rw [List.getElem?_set_self (by simpa using hn), List.getElem?_map, List.getElem?_range hn]
      rfl
    · rw [List.getElem?_set_ne (fun q => e q.symm), List.getElem?_map, List.getElem?_map, List.getElem?_range hn]
      simp only [Option.map_some]
      rw [h n e]
  · rw [List.getElem?_eq_none (by simp; omega), List.getElem?_eq_none (by simp; omega)]
theorem qa_rdR_ne {k i j : Nat} {k' i' j' : Nat} (h : gR s' k' i' j' = gR s k' i' j') : qa_rdR ph s' k' i' j' = qa_rdR ph s k' i' j' := by
  unfold qa_rdR
  cases ph with
  | true => exact h
  | false =>
    simp only
    unfold qa_srf
    split <;> first | exact h | rfl
theorem qa_rdV_ne {k' i' j' : Nat} (h1 : gI s' k' i' j' = gI s k' i' j') (h2 : gL s' k' i' j' = gL s k' i' j') (h3 : gR s' k' i' j' = gR s k' i' j') : qa_rdV ph s' k' i' j' = qa_rdV ph s k' i' j' := by
  unfold qa_rdV
  split
  · rw [h1]
  · rw [h1]
  · rw [h2]
  · rw [qa_rdR_ne (k := 0) (i := 0) (j := 0) h3]
theorem qa_ok_R (hN : gN s' = gN s) (hR : ∀ k i j, gR s' k i j = gR s k i j) (h : qa_ok ph s) : qa_ok ph s' := by
  intro k i j r hk hv hi hr
  exact qa_vd_N hN (h k i j r hk (qa_vd_N hN.symm hv) hi (by rw [← hr]; exact (qa_rdR_ne (k := 0) (i := 0) (j := 0) (hR k i j)).symm))
/-- an int comes into place j of cell (k, i): only that cell changes -/
theorem qa_ce_sI {k i j : Nat} {v : Int32} {k' i' : Nat} (h : ¬ (k' = k ∧ i' = i)) : qa_ce z ph (sI s k i j v) k' i' = qa_ce z ph s k' i' :=
  qa_ce_ext (fun j' => by rw [gI_sI, if_neg (fun q => h ⟨q.1, q.2.1⟩)]) (fun _ => rfl) (fun _ => rfl)
theorem qa_ce_sL {k i j : Nat} {v : Int64} {k' i' : Nat} (h : ¬ (k' = k ∧ i' = i)) : qa_ce z ph (sL s k i j v) k' i' = qa_ce z ph s k' i' :=
  qa_ce_ext (fun _ => rfl) (fun j' => by rw [gL_sL, if_neg (fun q => h ⟨q.1, q.2.1⟩)]) (fun _ => rfl)
theorem qa_ce_sR {k i j : Nat} {v : Option Nat} {k' i' : Nat} (h : ¬ (k' = k ∧ i' = i)) : qa_ce z ph (sR s k i j v) k' i' = qa_ce z ph s k' i' :=
  qa_ce_ext (fun _ => rfl) (fun _ => rfl) (fun j' => by rw [gR_sR, if_neg (fun q => h ⟨q.1, q.2.1⟩)])
/-- the script's place is no cell's -/
theorem qa_scr_sI {k i j : Nat} {v : Int32} (hk : k < 60) (i' j' : Nat) : gI (sI s k i j v) 65 i' j' = gI s 65 i' j' := by
  rw [gI_sI, if_neg (fun q => by omega)]
theorem qa_Rel_sI {k i j : Nat} {v : Int32} {H1 : Heap} (h : qa_Rel z ph s H) (hk : k < 60) (hv : qa_vd s k i) {e : va_E} (he : qa_ce z ph (sI s k i j v) k i = e) (hP : va_P z.1 vwCl ((qa_wl z ph s).set (qa_pos k i) (qa_rho z k i, e)) H1) (hz : z.2.2.1 + gN s ≤ H1.size) (hz2 : ph = true → H1.size = z.2.2.1 + gN s) : qa_Rel z ph (sI s k i j v) H1 := by
  obtain ⟨h1, h2, h3, h4, h5, h6, h7⟩ := h
  refine ⟨h1, ?_, hz, hz2, qa_ok_R rfl (fun _ _ _ => rfl) h5, fun j' hj => by rw [qa_scr_sI hk]; exact h6 j' hj, by rw [qa_scr_sI hk]; exact h7⟩
  rw [qa_wl_set (s' := sI s k i j v) hk hv h1 rfl (fun k' i' h9 => qa_ce_sI h9) he] at hP
  exact hP
theorem qa_Rel_sL {k i j : Nat} {v : Int64} {H1 : Heap} (h : qa_Rel z ph s H) (hk : k < 60) (hv : qa_vd s k i) {e : va_E} (he : qa_ce z ph (sL s k i j v) k i = e) (hP : va_P z.1 vwCl ((qa_wl z ph s).set (qa_pos k i) (qa_rho z k i, e)) H1) (hz : z.2.2.1 + gN s ≤ H1.size) (hz2 : ph = true → H1.size = z.2.2.1 + gN s) : qa_Rel z ph (sL s k i j v) H1 := by
  obtain ⟨h1, h2, h3, h4, h5, h6, h7⟩ := h
  refine ⟨h1, ?_, hz, hz2, qa_ok_R rfl (fun _ _ _ => rfl) h5, h6, h7⟩
  rw [qa_wl_set (s' := sL s k i j v) hk hv h1 rfl (fun k' i' h9 => qa_ce_sL h9) he] at hP
  exact hP
theorem qa_Rel_sR {k i j : Nat} {v : Option Nat} {H1 : Heap} (h : qa_Rel z ph s H) (hk : k < 60) (hv : qa_vd s k i) (hg : ∀ r, v = some r → qa_vd s (qa_tk2 k j) r) {e : va_E} (he : qa_ce z ph (sR s k i j v) k i = e) (hP : va_P z.1 vwCl ((qa_wl z ph s).set (qa_pos k i) (qa_rho z k i, e)) H1) (hz : z.2.2.1 + gN s ≤ H1.size) (hz2 : ph = true → H1.size = z.2.2.1 + gN s) : qa_Rel z ph (sR s k i j v) H1 := by
  obtain ⟨h1, h2, h3, h4, h5, h6, h7⟩ := h
  refine ⟨h1, ?_, hz, hz2, ?_, h6, h7⟩
  · rw [qa_wl_set (s' := sR s k i j v) hk hv h1 rfl (fun k' i' h9 => qa_ce_sR h9) he] at hP
    exact hP
  · intro k' i' j' r hk' hv' hi' hr
    refine qa_vd_N (s := s) rfl ?_
    by_cases e : k' = k ∧ i' = i ∧ j' = j
    · obtain ⟨rfl, rfl, rfl⟩ := e
      by_cases q : qa_rdR ph (sR s k' i' j' v) k' i' j' = v
      · exact hg r (q.symm.trans hr)
      · refine h5 k' i' j' r hk' hv' hi' ?_
        rw [← hr]
        unfold qa_rdR at q ⊢
        cases ph with
        | true => exact absurd (by simp [gR_sR]) q
        | false =>
          simp only at q ⊢
          unfold qa_srf at q ⊢
          split
          · rename_i e0
            simp only [e0] at q
            exact absurd (by simp [gR_sR]) q
          all_goals rfl
    · refine h5 k' i' j' r hk' hv' hi' ?_
      rw [← hr]
      exact (qa_rdR_ne (k := 0) (i := 0) (j := 0) (by rw [gR_sR, if_neg e])).symm
end QR2
