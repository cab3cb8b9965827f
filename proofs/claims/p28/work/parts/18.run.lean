/-! The constructors, run. -/
def qx : Nat → Nat → Nat → Nat → Nat → Nat → LLoc → LStk → CS → Option (Nat × Nat × LLoc × LStk × CS)
  | 0 => fun _ _ _ _ _ _ _ _ => none
  | f + 1 => fun d mi bc bs pc loc st c => match (Nat.beq mi 314 && Nat.beq pc 23) with
    | true => some (bc, bs, loc, st, c)
    | false => match qa_ft mi pc with
      | none => none
      | some e => match qx_1 bc bs e pc loc st c with
        | none => none
        | some (.inl (bc', bs', pc', loc', st', c')) => qx f d mi bc' bs' pc' loc' st' c'
        | some (.inr (.inl (c1, a, bc', bs', pc', loc', r, _))) => (match (generalizing := false) d with
          | 0 => none
          | d' + 1 => match (Nat.blt c1 314 && Nat.ble (qa_exp a).length (qa_mL c1)) with
            | true => (match qx f d' c1 (qa_cst c1).1 (qa_cst c1).2 0 (qa_mk a (qa_mL c1)) [] c with
              | some (_, _, _, _, c'') => qx f d mi bc' bs' pc' loc' r c''
              | none => none)
            | false => none)
        | some (.inr (.inr ())) => (match Nat.beq mi 314 with | true => none | false => some (bc, bs, loc, st, c))
/-- the law's own frame, up to its loop -/
def qa_ws (K : Nat → Nat → LLoc → LStk → LMem → Prop) : Nat → Nat → Nat → Nat → Nat → LLoc → LStk → LMem → Prop
  | 0 => fun _ _ _ _ _ _ _ => False
  | f + 1 => fun d bc bs pc loc st s => match Nat.beq pc 23 with
    | true => K bc bs loc st s
    | false => match qa_ft 314 pc with
      | none => False
      | some e => qa_sem (fun bc bs pc loc st s => qa_ws K f d bc bs pc loc st s) (fun c args s Q' => qa_cm true (qa_wq true f) d c args s Q') (fun _ _ => False) (qa_ins true 314 bc bs e pc loc st s)
section QXR
variable {B : Nat → Nat → Nat → Int32}
theorem qx_cm {f d c1 : Nat} {a : List LV} {s : LMem} {Q : LPost} (h1 : (Nat.blt c1 314 && Nat.ble (qa_exp a).length (qa_mL c1)) = true) (h : qa_wq true f d c1 (qa_cst c1).1 (qa_cst c1).2 0 (qa_mk a (qa_mL c1)) [] s Q) : qa_cm true (qa_wq true f) (d + 1) c1 a s Q := by
  obtain ⟨g1, g2⟩ := qa_and h1
  have g1 := qa_blt' g1
  have hb9 : Nat.ble 1000 c1 = false := qa_blf (a := 999) (b := c1) (by omega)
  unfold qa_cm
  rw [hb9, g2]
  exact h
theorem qx_ok1 (hB : ∀ k i j, k < 60 → B k i j = 0) : ∀ (f d mi bc bs pc : Nat) (loc : LLoc) (st : LStk) (c : CS) (bc' bs' : Nat) (loc' : LLoc) (st' : LStk) (c' : CS), mi ≠ 314 → qx f d mi bc bs pc loc st c = some (bc', bs', loc', st', c') → ∀ Q : LPost, Q none (qx_M B c') → qa_wq true f d mi bc bs pc loc st (qx_M B c) Q := by
  intro f
  induction f with
  | zero => intro d mi bc bs pc loc st c bc' bs' loc' st' c' hmi h; cases h
  | succ f ih =>
    intro d mi bc bs pc loc st c bc' bs' loc' st' c' hmi h Q hQ
    have hm : Nat.beq mi 314 = false := by
      cases h9 : Nat.beq mi 314 with
      | false => rfl
      | true => exact absurd (qa_beq h9) hmi
    have h : (match (Nat.beq mi 314 && Nat.beq pc 23) with
    | true => some (bc, bs, loc, st, c)
    | false => match qa_ft mi pc with
      | none => none
      | some e => match qx_1 bc bs e pc loc st c with
        | none => none
        | some (.inl (bc', bs', pc', loc', st', c')) => qx f d mi bc' bs' pc' loc' st' c'
        | some (.inr (.inl (c1, a, bc', bs', pc', loc', r, _))) => (match (generalizing := false) d with
          | 0 => none
          | d' + 1 => match (Nat.blt c1 314 && Nat.ble (qa_exp a).length (qa_mL c1)) with
            | true => (match qx f d' c1 (qa_cst c1).1 (qa_cst c1).2 0 (qa_mk a (qa_mL c1)) [] c with
              | some (_, _, _, _, c'') => qx f d mi bc' bs' pc' loc' r c''
              | none => none)
            | false => none)
        | some (.inr (.inr ())) => (match Nat.beq mi 314 with | true => none | false => some (bc, bs, loc, st, c))) = some (bc', bs', loc', st', c') := h
    rw [hm] at h
    have h : (match qa_ft mi pc with
      | none => none
      | some e => match qx_1 bc bs e pc loc st c with
        | none => none
        | some (.inl (bc', bs', pc', loc', st', c')) => qx f d mi bc' bs' pc' loc' st' c'
        | some (.inr (.inl (c1, a, bc', bs', pc', loc', r, _))) => (match (generalizing := false) d with
          | 0 => none
          | d' + 1 => match (Nat.blt c1 314 && Nat.ble (qa_exp a).length (qa_mL c1)) with
            | true => (match qx f d' c1 (qa_cst c1).1 (qa_cst c1).2 0 (qa_mk a (qa_mL c1)) [] c with
              | some (_, _, _, _, c'') => qx f d mi bc' bs' pc' loc' r c''
              | none => none)
            | false => none)
        | some (.inr (.inr ())) => some (bc, bs, loc, st, c)) = some (bc', bs', loc', st', c') := h
    show (match qa_ft mi pc with
      | none => False
      | some e => qa_sem (fun bc bs pc loc st s => qa_wq true f d mi bc bs pc loc st s Q) (fun c args s Q' => qa_cm true (qa_wq true f) d c args s Q') Q (qa_ins true mi bc bs e pc loc st (qx_M B c)))
    cases he : qa_ft mi pc with
    | none => rw [he] at h; cases h
    | some e =>
      rw [he] at h
      dsimp only at h
      cases h1 : qx_1 bc bs e pc loc st c with
      | none => rw [h1] at h; cases h
      | some y =>
        rw [h1] at h
        refine qx_1_ok hB h1 ?_
        rcases y with ⟨bc1, bs1, pc1, loc1, st1, c1⟩ | ⟨c1, a, bc1, bs1, pc1, loc1, r, k9⟩ | ⟨⟩
        · exact ih d mi bc1 bs1 pc1 loc1 st1 c1 bc' bs' loc' st' c' hmi h Q hQ
        · cases d with
          | zero => cases h
          | succ d =>
            dsimp only at h
            cases h2 : (Nat.blt c1 314 && Nat.ble (qa_exp a).length (qa_mL c1)) with
            | false => rw [h2] at h; cases h
            | true =>
              rw [h2] at h
              dsimp only at h
              cases h3 : qx f d c1 (qa_cst c1).1 (qa_cst c1).2 0 (qa_mk a (qa_mL c1)) [] c with
              | none => rw [h3] at h; cases h
              | some q =>
                rw [h3] at h
                obtain ⟨u1, u2, u3, u4, c2⟩ := q
                have hlt := qa_blt' (qa_and h2).1
                exact qx_cm h2 (ih d c1 _ _ 0 _ [] c u1 u2 u3 u4 c2 (by omega) h3 _ ⟨rfl, ih (d + 1) mi bc1 bs1 pc1 loc1 r c2 bc' bs' loc' st' c' hmi h Q hQ⟩)
        · cases h
          exact hQ
theorem qx_ok2 (hB : ∀ k i j, k < 60 → B k i j = 0) {K : Nat → Nat → LLoc → LStk → LMem → Prop} : ∀ (f d bc bs pc : Nat) (loc : LLoc) (st : LStk) (c : CS) (bc' bs' : Nat) (loc' : LLoc) (st' : LStk) (c' : CS), qx f d 314 bc bs pc loc st c = some (bc', bs', loc', st', c') → K bc' bs' loc' st' (qx_M B c') → qa_ws K f d bc bs pc loc st (qx_M B c) := by
  intro f
  induction f with
  | zero => intro d bc bs pc loc st c bc' bs' loc' st' c' h; cases h
  | succ f ih =>
    intro d bc bs pc loc st c bc' bs' loc' st' c' h hK
    have hm : (Nat.beq 314 314) = true := rfl
    have h : (match Nat.beq pc 23 with
    | true => some (bc, bs, loc, st, c)
    | false => match qa_ft 314 pc with
      | none => none
      | some e => match qx_1 bc bs e pc loc st c with
        | none => none
        | some (.inl (bc', bs', pc', loc', st', c')) => qx f d 314 bc' bs' pc' loc' st' c'
        | some (.inr (.inl (c1, a, bc', bs', pc', loc', r, _))) => (match (generalizing := false) d with
          | 0 => none
          | d' + 1 => match (Nat.blt c1 314 && Nat.ble (qa_exp a).length (qa_mL c1)) with
            | true => (match qx f d' c1 (qa_cst c1).1 (qa_cst c1).2 0 (qa_mk a (qa_mL c1)) [] c with
              | some (_, _, _, _, c'') => qx f d 314 bc' bs' pc' loc' r c''
              | none => none)
            | false => none)
        | some (.inr (.inr ())) => none) = some (bc', bs', loc', st', c') := h
    show (match Nat.beq pc 23 with
      | true => K bc bs loc st (qx_M B c)
      | false => match qa_ft 314 pc with
        | none => False
        | some e => qa_sem (fun bc bs pc loc st s => qa_ws K f d bc bs pc loc st s) (fun c args s Q' => qa_cm true (qa_wq true f) d c args s Q') (fun _ _ => False) (qa_ins true 314 bc bs e pc loc st (qx_M B c)))
    cases hp : Nat.beq pc 23 with
    | true =>
      rw [hp] at h
      cases h
      exact hK
    | false =>
      rw [hp] at h
      dsimp only at h ⊢
      cases he : qa_ft 314 pc with
      | none => rw [he] at h; cases h
      | some e =>
        rw [he] at h
        dsimp only at h
        cases h1 : qx_1 bc bs e pc loc st c with
        | none => rw [h1] at h; cases h
        | some y =>
          rw [h1] at h
          refine qx_1_ok hB h1 ?_
          rcases y with ⟨bc1, bs1, pc1, loc1, st1, c1⟩ | ⟨c1, a, bc1, bs1, pc1, loc1, r, k9⟩ | ⟨⟩
          · exact ih d bc1 bs1 pc1 loc1 st1 c1 bc' bs' loc' st' c' h hK
          · cases d with
            | zero => cases h
            | succ d =>
              dsimp only at h
              cases h2 : (Nat.blt c1 314 && Nat.ble (qa_exp a).length (qa_mL c1)) with
              | false => rw [h2] at h; cases h
              | true =>
                rw [h2] at h
                dsimp only at h
                cases h3 : qx f d c1 (qa_cst c1).1 (qa_cst c1).2 0 (qa_mk a (qa_mL c1)) [] c with
                | none => rw [h3] at h; cases h
                | some q =>
                  rw [h3] at h
                  obtain ⟨u1, u2, u3, u4, c2⟩ := q
                  have hlt := qa_blt' (qa_and h2).1
                  exact qx_cm h2 (qx_ok1 hB f d c1 _ _ 0 _ [] c u1 u2 u3 u4 c2 (by omega) h3 _ ⟨rfl, ih (d + 1) bc1 bs1 pc1 loc1 r c2 bc' bs' loc' st' c' h hK⟩)
          · cases h
end QXR
/-- what stands behind the constructors -/
def qx_ini (k i j : Nat) : Int32 := if i = 0 then (if k = 16 ∧ j = 1 then 1 else if k = 28 ∧ j < 20 then -1 else if k = 33 ∧ j = 24 then 1 else if k = 33 ∧ j = 37 then -1 else if k = 55 ∧ j < 20 then -1 else 0) else 0
def qx_nz : List (Nat × Nat) := (16, 1) :: (33, 24) :: (33, 37) :: ((List.range 20).map (fun j => (28, j)) ++ (List.range 20).map (fun j => (55, j)))
theorem qx_ini_nz {k i j : Nat} (h : qx_ini k i j ≠ 0) : i = 0 ∧ (k, j) ∈ qx_nz := by
  unfold qx_ini at h
  by_cases hi : i = 0
  · refine ⟨hi, ?_⟩
    rw [if_pos hi] at h
    by_cases h1 : k = 16 ∧ j = 1
    · rw [h1.1, h1.2]; exact List.mem_cons_self
    · rw [if_neg h1] at h
      by_cases h2 : k = 28 ∧ j < 20
      · rw [h2.1]
        exact List.mem_cons_of_mem _ (List.mem_cons_of_mem _ (List.mem_cons_of_mem _ (List.mem_append_left _ (List.mem_map.mpr ⟨j, List.mem_range.mpr h2.2, rfl⟩))))
      · rw [if_neg h2] at h
        by_cases h3 : k = 33 ∧ j = 24
        · rw [h3.1, h3.2]; exact List.mem_cons_of_mem _ List.mem_cons_self
        · rw [if_neg h3] at h
          by_cases h4 : k = 33 ∧ j = 37
          · rw [h4.1, h4.2]; exact List.mem_cons_of_mem _ (List.mem_cons_of_mem _ List.mem_cons_self)
          · rw [if_neg h4] at h
            by_cases h5 : k = 55 ∧ j < 20
            · rw [h5.1]
              exact List.mem_cons_of_mem _ (List.mem_cons_of_mem _ (List.mem_cons_of_mem _ (List.mem_append_right _ (List.mem_map.mpr ⟨j, List.mem_range.mpr h5.2, rfl⟩))))
            · rw [if_neg h5] at h
              exact absurd rfl h
  · rw [if_neg hi] at h
    exact absurd rfl h
def qx_Z : LMem := (fun _ _ _ => 0, fun _ _ _ => 0, fun _ _ _ => none, 334)
def qx_chkI (l : List CE) : Bool := (l.all fun e => match e.2.2.2 with
    | .inl _ => Nat.blt e.1 60 && decide (qx_I (fun _ _ _ => 0) l e.1 e.2.1 e.2.2.1 = qx_ini e.1 e.2.1 e.2.2.1)
    | .inr _ => true) && qx_nz.all fun p => decide (qx_I (fun _ _ _ => 0) l p.1 0 p.2 = qx_ini p.1 0 p.2)
/-- how many places of references -/
def qx_rn (k : Nat) : Nat := match Nat.blt (qa_oc k) 13 with
  | true => qa_nf k
  | false => (match qa_ea k with | 3 => qa_len k | _ => 0)
def qx_isR (k j : Nat) : Bool := match Nat.blt (qa_oc k) 13 with | true => Nat.ble 3 (qa_tg k j) | false => true
def qx_chkR (l : List CE) : Bool := (List.range 334).all fun n => (List.range (qx_rn (qa_nm n).1)).all fun j => !(qx_isR (qa_nm n).1 j) || (decide (qx_R l (qa_nm n).1 (qa_nm n).2 j = qa_srf (qa_fm (qa_nm n).1 j) qx_Z (qa_nm n).1 (qa_nm n).2 j))
def qx_chkO : Bool := (List.range 334).all fun n => (List.range (qx_rn (qa_nm n).1)).all fun j => !(qx_isR (qa_nm n).1 j) || (match qa_srf (qa_fm (qa_nm n).1 j) qx_Z (qa_nm n).1 (qa_nm n).2 j with
    | none => true
    | some r => Nat.blt (qa_tk2 (qa_nm n).1 j) 60 && (Nat.blt (qa_pos (qa_tk2 (qa_nm n).1 j) r) 334 && decide (qa_nm (qa_pos (qa_tk2 (qa_nm n).1 j) r) = (qa_tk2 (qa_nm n).1 j, r))))
set_option maxRecDepth 20000 in
theorem qx_chkO_ok : qx_chkO = true := by decide +kernel
theorem qx_I_none {B : Nat → Nat → Nat → Int32} {k i j : Nat} : ∀ (l : List CE), (∀ e ∈ l, (∃ v, e.2.2.2 = .inl v) → qx_eq e k i j = false) → qx_I B l k i j = B k i j
  | [], _ => rfl
  | (k', i', j', .inl v) :: l, h => by
    unfold qx_I
    rw [h _ List.mem_cons_self ⟨v, rfl⟩]
    exact qx_I_none l (fun e he => h e (List.mem_cons_of_mem _ he))
  | (k', i', j', .inr o) :: l, h => qx_I_none l (fun e he => h e (List.mem_cons_of_mem _ he))
theorem qx_I_B {B B' : Nat → Nat → Nat → Int32} {k i j : Nat} (h : B k i j = B' k i j) : ∀ (l : List CE), qx_I B l k i j = qx_I B' l k i j
  | [] => h
  | (k', i', j', .inl v) :: l => by
    unfold qx_I
    rw [qx_I_B h l]
  | (k', i', j', .inr o) :: l => qx_I_B h l
theorem qx_I_all {B : Nat → Nat → Nat → Int32} (hB : ∀ k i j, k < 60 → B k i j = 0) {l : List CE} (h : qx_chkI l = true) (k i j : Nat) : qx_I B l k i j = if k < 60 then qx_ini k i j else B k i j := by
  obtain ⟨h1, h2⟩ := qa_and h
  have h1 := List.all_eq_true.mp h1
  have h2 := List.all_eq_true.mp h2
  by_cases hm : ∃ e ∈ l, (∃ v, e.2.2.2 = .inl v) ∧ qx_eq e k i j = true
  · obtain ⟨e, he, ⟨v, hv⟩, hq⟩ := hm
    obtain ⟨q1, q2, q3⟩ := (qx_eq_iff e k i j).mp hq
    have h3 := h1 e he
    rw [hv] at h3
    obtain ⟨h4, h5⟩ := qa_and h3
    have h5 := of_decide_eq_true h5
    have h4 := qa_blt' h4
    rw [← q1, ← q2, ← q3] at h5
    rw [← q1] at h4
    rw [if_pos h4, qx_I_B (B' := fun _ _ _ => 0) (hB k i j h4) l]
    exact h5
  · have hn : ∀ e ∈ l, (∃ v, e.2.2.2 = .inl v) → qx_eq e k i j = false := fun e he hv => by
      cases h9 : qx_eq e k i j with
      | false => rfl
      | true => exact absurd ⟨e, he, hv, h9⟩ hm
    rw [qx_I_none l hn]
    by_cases hk : k < 60
    · rw [if_pos hk, hB k i j hk]
      by_cases h9 : qx_ini k i j = 0
      · exact h9.symm
      · obtain ⟨hi, hz⟩ := qx_ini_nz h9
        have h3 := of_decide_eq_true (h2 _ hz)
        dsimp only at h3
        rw [← hi] at h3
        rw [← h3, qx_I_none l hn]
    · rw [if_neg hk]
/-- the script's base -/
def qx_B (xs : Nat → Int32) (L : Int32) (k i j : Nat) : Int32 := if k = 65 then (if i = 0 then xs j else if i = 1 ∧ j = 0 then L else 0) else 0
theorem qx_B0 (xs : Nat → Int32) (L : Int32) : ∀ k i j, k < 60 → qx_B xs L k i j = 0 := by
  intro k i j h
  unfold qx_B
  rw [if_neg (by omega)]
/-- THE MEMORY WITH WHICH THE LOOP BEGINS -/
def qx_0 (xs : Nat → Int32) (L : Int32) : LMem := (fun k i j => if k < 60 then qx_ini k i j else qx_B xs L k i j, fun _ _ _ => 0, fun _ _ _ => none, 334)
theorem arrV_congr {c : ClassId} {N : Nat} {f g : Nat → Value} (h : ∀ j, j < N → f j = g j) : arrV c N f = arrV c N g := by
  unfold arrV
  refine congrArg (fun q => ({ cls := c, slots := q, vm := .none } : Cell)) ?_
  apply Array.ext
  · simp
  · intro i h1 h2
    simp only [Array.getElem_ofFn]
    exact h i (by simpa using h1)
theorem qx_kd : ∀ n, n < 334 → (qa_nm n).1 < 60 ∧ (qa_oc (qa_nm n).1 < 13 ∨ (¬ qa_oc (qa_nm n).1 < 13 ∧ (qa_ea (qa_nm n).1 = 0 ∨ qa_ea (qa_nm n).1 = 2 ∨ qa_ea (qa_nm n).1 = 3))) := by decide +kernel
section QXS
variable {z : qa_S} {xs : Nat → Int32} {L : Int32} {l : List CE} {H : Heap}
theorem qx_rd {n j : Nat} (hn : n < 334) (h : qx_chkR l = true) (hj : j < qx_rn (qa_nm n).1) (hr : qx_isR (qa_nm n).1 j = true) : qx_R l (qa_nm n).1 (qa_nm n).2 j = qa_rdR false (qx_0 xs L) (qa_nm n).1 (qa_nm n).2 j := by
  have h1 := List.all_eq_true.mp (List.all_eq_true.mp h n (List.mem_range.mpr hn)) j (List.mem_range.mpr hj)
  rw [hr] at h1
  have h2 := of_decide_eq_true (by simpa using h1)
  rw [h2]
  unfold qa_rdR qa_srf
  dsimp only
  split <;> rfl
theorem qx_at (hI : qx_chkI l = true) (hRf : qx_chkR l = true) {n a : Nat} (hn : n < 334) (h : va_at z.1 vwCl (a, qa_ce z true (qx_M (qx_B xs L) (l, 334)) (qa_nm n).1 (qa_nm n).2) H) : va_at z.1 vwCl (a, qa_ce z false (qx_0 xs L) (qa_nm n).1 (qa_nm n).2) H := by
  obtain ⟨hk, hcs⟩ := qx_kd n hn
  have hgI : ∀ j, gI (qx_M (qx_B xs L) (l, 334)) (qa_nm n).1 (qa_nm n).2 j = gI (qx_0 xs L) (qa_nm n).1 (qa_nm n).2 j := fun j => qx_I_all (qx_B0 xs L) hI _ _ _
  rcases hcs with ho | ⟨ho, hea | hea | hea⟩
  · have e : qa_ce z true (qx_M (qx_B xs L) (l, 334)) (qa_nm n).1 (qa_nm n).2 = qa_ce z false (qx_0 xs L) (qa_nm n).1 (qa_nm n).2 := by
      rw [qa_ce_O ho, qa_ce_O ho]
      refine congrArg (fun q => Sum.inr (qa_oc (qa_nm n).1, q)) (List.map_congr_left fun j hj => congrArg (qa_val z) ?_)
      have hj := List.mem_range.mp hj
      rcases (show qa_tg (qa_nm n).1 j = 0 ∨ qa_tg (qa_nm n).1 j = 1 ∨ qa_tg (qa_nm n).1 j = 2 ∨ 3 ≤ qa_tg (qa_nm n).1 j by omega) with e | e | e | e
      · rw [qa_rdV_0 (Or.inl e), qa_rdV_0 (Or.inl e), hgI]
      · rw [qa_rdV_0 (Or.inr e), qa_rdV_0 (Or.inr e), hgI]
      · rw [qa_rdV_2 e, qa_rdV_2 e]
        rfl
      · rw [qa_rdV_3 e, qa_rdV_3 e]
        refine congrArg (lR _) ?_
        refine qx_rd (xs := xs) (L := L) hn hRf ?_ ?_
        · unfold qx_rn
          rw [qa_blt ho]
          exact hj
        · unfold qx_isR
          rw [qa_blt ho]
          exact Nat.ble_eq_true_of_le e
    rw [← e]
    exact h
  · rw [qa_ce_I hk hea] at h ⊢
    rw [show (fun j => gI (qx_0 xs L) (qa_nm n).1 (qa_nm n).2 j) = fun j => gI (qx_M (qx_B xs L) (l, 334)) (qa_nm n).1 (qa_nm n).2 j from funext fun j => (hgI j).symm]
    exact h
  · rw [qa_ce_L hk hea] at h ⊢
    exact h
  · rw [qa_ce_R hk hea] at h ⊢
    have h : H[a]? = some (arrV (z.2.1 (qa_ti (qa_nm n).1)) (qa_len (qa_nm n).1) (fun j => va_rf ((qa_rdR true (qx_M (qx_B xs L) (l, 334)) (qa_nm n).1 (qa_nm n).2 j).map (qa_rho z (qa_tk (qa_nm n).1 0))))) := h
    show H[a]? = some (arrV (z.2.1 (qa_ti (qa_nm n).1)) (qa_len (qa_nm n).1) (fun j => va_rf ((qa_rdR false (qx_0 xs L) (qa_nm n).1 (qa_nm n).2 j).map (qa_rho z (qa_tk (qa_nm n).1 0)))))
    rw [h]
    refine congrArg some (arrV_congr fun j hj => ?_)
    have h9 : qa_rdR true (qx_M (qx_B xs L) (l, 334)) (qa_nm n).1 (qa_nm n).2 j = qa_rdR false (qx_0 xs L) (qa_nm n).1 (qa_nm n).2 j := by
      refine qx_rd (xs := xs) (L := L) hn hRf ?_ ?_
      · unfold qx_rn
        rw [qa_blf ho, hea]
        exact hj
      · unfold qx_isR
        rw [qa_blf ho]
    rw [h9]
theorem qx_switch (hI : qx_chkI l = true) (hRf : qx_chkR l = true) (hR : qa_Rel z true (qx_M (qx_B xs L) (l, 334)) H) : qa_Rel z false (qx_0 xs L) H := by
  obtain ⟨h1, h2, h3, h4, h5, h6, h7⟩ := hR
  refine ⟨Nat.le_refl _, ?_, h3, (fun q => by cases q), ?_, ?_, ?_⟩
  · intro k q hq
    unfold qa_wl at hq
    rw [List.getElem?_map, show gN (qx_0 xs L) = 334 from rfl] at hq
    by_cases hk : k < 334
    · rw [List.getElem?_range hk] at hq
      cases hq
      refine qx_at hI hRf hk ?_
      refine h2 k _ ?_
      unfold qa_wl
      rw [List.getElem?_map, show gN (qx_M (qx_B xs L) (l, 334)) = 334 from rfl, List.getElem?_range hk]
      rfl
    · rw [List.getElem?_eq_none (by rw [List.length_range]; exact Nat.not_lt.mp hk)] at hq
      cases hq
  · intro k i j r hk hv hi hr
    obtain ⟨g1, g2⟩ := hv.1 hk
    have g1 : qa_pos k i < 334 := g1
    generalize hn : qa_pos k i = n at g1 g2
    have gk : (qa_nm n).1 = k := by rw [g2]
    have gi : (qa_nm n).2 = i := by rw [g2]
    have hj : j < qx_rn k := by
      unfold qx_rn
      rcases hi with ⟨a, b, -⟩ | ⟨a, b, c⟩
      · rw [qa_blt a]; exact b
      · rw [qa_blf a, b]; exact c
    have hr9 : qx_isR k j = true := by
      unfold qx_isR
      rcases hi with ⟨a, -, c⟩ | ⟨a, -, -⟩
      · rw [qa_blt a]; exact Nat.ble_eq_true_of_le c
      · rw [qa_blf a]
    have h8 := List.all_eq_true.mp (List.all_eq_true.mp qx_chkO_ok n (List.mem_range.mpr g1)) j (List.mem_range.mpr (by rw [gk]; exact hj))
    rw [gk, gi, hr9] at h8
    have h9 : qa_srf (qa_fm k j) qx_Z k i j = some r := by
      rw [← hr]
      unfold qa_rdR qa_srf
      dsimp only
      split <;> rfl
    rw [h9] at h8
    have h8 : (Nat.blt (qa_tk2 k j) 60 && (Nat.blt (qa_pos (qa_tk2 k j) r) 334 && decide (qa_nm (qa_pos (qa_tk2 k j) r) = (qa_tk2 k j, r)))) = true := h8
    obtain ⟨e1, e2⟩ := qa_and h8
    obtain ⟨e2, e3⟩ := qa_and e2
    exact ⟨fun _ => ⟨qa_blt' e2, of_decide_eq_true e3⟩, fun q => absurd (qa_blt' e1) q⟩
  · intro j hj
    rw [← h6 j hj]
    exact (qx_I_all (qx_B0 xs L) hI 65 0 j).symm
  · rw [← h7]
    exact (qx_I_all (qx_B0 xs L) hI 65 1 0).symm
end QXS
/-- the law's locals at its loop -/
def qx_loc : LLoc := [some (lR 65 (some 0)), some (lR 0 (some 0)), some (lR 33 (some 0)), some (lR 58 (some 0)), some (lI 0), none, none]
def qx_done : Bool := match qx 6000 1200 314 1000 20000 0 (qa_mk [lR 65 (some 0)] 7) [] ([], 0) with
  | some (bc, bs, loc, st, (l, n)) => Nat.beq bc 666 && (Nat.beq bs 6845 && (decide (loc = qx_loc) && ((match st with | [] => true | _ => false) && (Nat.beq n 334 && (qx_chkI l && qx_chkR l)))))
  | none => false
set_option maxRecDepth 100000 in
theorem qx_done_ok : qx_done = true := by decide +kernel
theorem qx_law {K : Nat → Nat → LLoc → LStk → LMem → Prop} {xs : Nat → Int32} {L : Int32} (hK : ∀ l, qx_chkI l = true → qx_chkR l = true → K 666 6845 qx_loc [] (qx_M (qx_B xs L) (l, 334))) : qa_ws K 6000 1200 1000 20000 0 (qa_mk [lR 65 (some 0)] 7) [] (qx_M (qx_B xs L) ([], 0)) := by
  have h := qx_done_ok
  unfold qx_done at h
  cases hq : qx 6000 1200 314 1000 20000 0 (qa_mk [lR 65 (some 0)] 7) [] ([], 0) with
  | none => rw [hq] at h; cases h
  | some q =>
    rw [hq] at h
    obtain ⟨bc, bs, loc, st, l, n⟩ := q
    dsimp only at h
    obtain ⟨g1, h⟩ := qa_and h
    obtain ⟨g2, h⟩ := qa_and h
    obtain ⟨g3, h⟩ := qa_and h
    obtain ⟨g4, h⟩ := qa_and h
    obtain ⟨g5, h⟩ := qa_and h
    obtain ⟨g6, g7⟩ := qa_and h
    have g1 := qa_beq g1
    have g2 := qa_beq g2
    have g3 := of_decide_eq_true g3
    have g5 := qa_beq g5
    subst g1 g2 g3 g5
    cases st with
    | cons a r => cases g4
    | nil => exact qx_ok2 (qx_B0 xs L) _ _ _ _ _ _ _ _ _ _ _ _ _ hq (hK l g6 g7)
