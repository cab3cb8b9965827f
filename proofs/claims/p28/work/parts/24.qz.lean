/-! ALL WAYS OF A RUN, BY BOUNDS. -/
def z_all {α β : Type} (F : α → Option (List β)) : List α → Option (List β)
  | [] => some []
  | a :: l => match F a with
    | none => none
    | some x => match z_all F l with
      | none => none
      | some y => some (x ++ y)
theorem z_all_mem {α β : Type} {F : α → Option (List β)} : ∀ {l : List α} {os : List β}, z_all F l = some os → ∀ a ∈ l, ∃ x, F a = some x ∧ ∀ o ∈ x, o ∈ os
  | a :: l, os, h, b, hb => by
    have h : (match F a with
      | none => none
      | some x => match z_all F l with
        | none => none
        | some y => some (x ++ y)) = some os := h
    cases e : F a with
    | none => rw [e] at h; cases h
    | some x =>
      rw [e] at h
      dsimp only at h
      cases e2 : z_all F l with
      | none => rw [e2] at h; cases h
      | some y =>
        rw [e2] at h
        cases h
        rcases List.mem_cons.mp hb with rfl | hb
        · exact ⟨x, e, fun o ho => List.mem_append_left _ ho⟩
        · obtain ⟨x2, h3, h4⟩ := z_all_mem e2 b hb
          exact ⟨x2, h3, fun o ho => List.mem_append_right _ (h4 o ho)⟩
abbrev ZO : Type := Option ZV × ZM
def z_kk (rt k : Nat) (r : Option ZV) : Option ZStk := match rt with
  | 0 => (match r with | some (.inl a) => some [.inl a] | _ => none)
  | 1 => (match r with | some (.inl a) => some [.inl a] | _ => none)
  | 2 => (match r with | some (.inr (.inl a)) => some [.inr (.inl a)] | _ => none)
  | 3 => (match r with | some (.inr (.inr (k', o))) => cond (Nat.beq k' k) (some [.inr (.inr (k, o))]) none | _ => none)
  | _ => (match r with | none => some [] | some _ => none)
/-- calls by what they do -/
def z_intr (sc : List ZI) (c : Nat) (args : List ZV) (m : ZM) : Option (List ZO) := match Nat.beq c 1005 with
  | true => (match args with | [.inr (.inr (k, some t)), .inl a] => cond (Nat.beq k 64 && (decide (0 ≤ a.1) && decide (a.2 < 256))) (some [(some (.inl (z_op1 (qa_ix t) a)), m)]) none | _ => none)
  | false => (match Nat.beq c 1006 with
    | true => (match args with | [.inr (.inr (k, some t))] => cond (Nat.beq k 64) (some [(some (.inl (z_c (qa_sl t))), m)]) none | _ => none)
    | false => (match Nat.beq c 1007 with
      | true => (match args with | [.inr (.inr (k, some i)), .inl _, .inl _, .inl _, .inr (.inr (k2, some i2))] => cond (decide ((z_get sc m 15 0 0).2 ≤ 0) && ((Nat.beq k 0 && Nat.beq i 0) && (Nat.beq k2 58 && Nat.beq i2 0))) (some [(some (.inl (z_c 1)), m)]) none | _ => none)
      | false => none))
def z_cm (sc : List ZI) (W : Nat → Nat → ZT → Option (List ZO)) (d c : Nat) (args : List ZV) (m : ZM) : Option (List ZO) := match Nat.ble 1000 c with
  | true => z_intr sc c args m
  | false => (match Nat.ble (z_exp args).length (qa_mL c) with
    | false => none
    | true => (match d with | 0 => none | d + 1 => W d c ((qa_cst c).1, (qa_cst c).2, 0, z_mk args (qa_mL c), [], m)))
def qz (sc : List ZI) : Nat → Nat → Nat → ZT → Option (List ZO)
  | 0 => fun _ _ _ => none
  | f + 1 => fun d mi t => match qa_ft mi t.2.2.1 with
    | none => none
    | some e => match qz_1 sc mi t.1 t.2.1 e t.2.2.1 t.2.2.2.1 t.2.2.2.2.1 t.2.2.2.2.2 with
      | none => none
      | some (.inl ts) => z_all (qz sc f d mi) ts
      | some (.inr (.inl (c, rt, k, args, bc, bs, pc, loc, rest, m))) => (match z_cm sc (qz sc f) d c args m with
        | none => none
        | some os => z_all (fun o => match z_kk rt k o.1 with | none => none | some v => qz sc f d mi (bc, bs, pc, loc, v ++ rest, o.2)) os)
      | some (.inr (.inr o)) => some [o]
def z_post (sc : List ZI) (os : List ZO) (Q : LPost) : Prop := ∀ o ∈ os, ∀ r s, z_o o.1 r → z_m sc o.2 s → Q r s
theorem z_len_exp : ∀ {l : List ZV} {S : List LV}, z_s l S → (z_exp l).length = (qa_exp S).length := fun h => z_l_len (z_exp_ok h)
theorem z_kk_ok {sc : List ZI} {rt k : Nat} {r : Option ZV} {v : ZStk} {r' : Option LV} {s : LMem} {rest : ZStk} {R : LStk} {K : LStk → LMem → Prop} (h : z_kk rt k r = some v) (hr : z_o r r') (hR : z_s rest R) (hK : ∀ S, z_s (v ++ rest) S → K S s) : qa_kk rt k K R r' s := by
  rcases rt with _ | _ | _ | _ | rt
  · rcases r with _ | a | a | a
    · cases h
    · rcases r' with _ | x | x | x
      · exact hr.elim
      · cases h
        exact ⟨x, rfl, hK (lI x :: R) ⟨hr, hR⟩⟩
      · exact hr.elim
      · exact hr.elim
    · cases h
    · cases h
  · rcases r with _ | a | a | a
    · cases h
    · rcases r' with _ | x | x | x
      · exact hr.elim
      · cases h
        exact ⟨x, rfl, hK (lI x :: R) ⟨hr, hR⟩⟩
      · exact hr.elim
      · exact hr.elim
    · cases h
    · cases h
  · rcases r with _ | a | a | a
    · cases h
    · cases h
    · rcases r' with _ | x | x | x
      · exact hr.elim
      · exact hr.elim
      · cases h
        exact ⟨x, rfl, hK (lL x :: R) ⟨hr, hR⟩⟩
      · exact hr.elim
    · cases h
  · rcases r with _ | a | a | ⟨k', o⟩
    · cases h
    · cases h
    · cases h
    · rcases r' with _ | x | x | x
      · exact hr.elim
      · exact hr.elim
      · exact hr.elim
      · have e : (k', o) = x := hr
        subst e
        have h : cond (Nat.beq k' k) (some [(Sum.inr (Sum.inr (k, o)) : ZV)]) none = some v := h
        cases hb : Nat.beq k' k with
        | false => rw [hb] at h; cases h
        | true =>
          rw [hb] at h
          cases h
          have e := qa_beq hb
          rw [e]
          cases o with
          | none => exact Or.inl ⟨rfl, hK (lR k none :: R) ⟨rfl, hR⟩⟩
          | some i => exact Or.inr ⟨i, rfl, hK (lR k (some i) :: R) ⟨rfl, hR⟩⟩
  · rcases r with _ | a
    · rcases r' with _ | x
      · cases h
        exact ⟨rfl, hK R hR⟩
      · exact hr.elim
    · cases h
def z_W (sc : List ZI) (W : Nat → Nat → ZT → Option (List ZO)) (W' : Nat → Nat → Nat → Nat → Nat → LLoc → LStk → LMem → LPost → Prop) : Prop := ∀ d mi t os, W d mi t = some os → ∀ L S s Q, z_l t.2.2.2.1 L → z_s t.2.2.2.2.1 S → z_m sc t.2.2.2.2.2 s → z_post sc os Q → W' d mi t.1 t.2.1 t.2.2.1 L S s Q
theorem z_none_ok {sc : List ZI} {m : ZM} {s : LMem} {zn : Option (List ZO)} {os : List ZO} {v : ZV} {u : LV} {Q : LPost} {b : Bool} (h : cond b (some [(some v, m)]) none = some os) (hv : z_v v u) (hm : z_m sc m s) (hQ : z_post sc os Q) : b = true ∧ Q (some u) s := by
  cases b with
  | false => cases h
  | true =>
    cases h
    exact ⟨rfl, hQ _ List.mem_cons_self (some u) s hv hm⟩
theorem z_intr_ok {sc : List ZI} {c : Nat} {args : List ZV} {m : ZM} {os : List ZO} (h : z_intr sc c args m = some os) {As : List LV} {s : LMem} {Q : LPost} (ha : z_s args As) (hm : z_m sc m s) (hQ : z_post sc os Q) : qa_intr c As s Q := by
  unfold z_intr at h
  cases e5 : Nat.beq c 1005 with
  | true =>
    rw [e5] at h
    have e := qa_beq e5
    subst e
    dsimp only at h
    split at h
    · rename_i k t a
      match As, ha with
      | [.inr (.inr q), .inl x], ⟨hq, hx, _⟩ =>
        have e : (k, some t) = q := hq
        subst e
        obtain ⟨h1, h2⟩ := z_none_ok (zn := none) h (u := lI (qa_ix t x)) (z_op1_ok (f := qa_ix t) hx) hm hQ
        obtain ⟨h1, h3⟩ := qa_and h1
        obtain ⟨h3, h4⟩ := qa_and h3
        have e := qa_beq h1
        subst e
        have h3 := of_decide_eq_true h3
        have h4 := of_decide_eq_true h4
        obtain ⟨p, q⟩ := hx
        exact ⟨⟨Int32.le_iff_toInt_le.mpr (show (0 : Int) ≤ x.toInt by omega), Int32.lt_iff_toInt_lt.mpr (show x.toInt < (256 : Int) by omega)⟩, h2⟩
    · cases h
  | false =>
    rw [e5] at h
    cases e6 : Nat.beq c 1006 with
    | true =>
      rw [e6] at h
      have e := qa_beq e6
      subst e
      dsimp only at h
      split at h
      · rename_i k t
        match As, ha with
        | [.inr (.inr q)], ⟨hq, _⟩ =>
          have e : (k, some t) = q := hq
          subst e
          obtain ⟨h1, h2⟩ := z_none_ok (zn := none) h (u := lI (qa_sl t)) (z_in_c _) hm hQ
          have e := qa_beq h1
          subst e
          exact h2
      · cases h
    | false =>
      rw [e6] at h
      cases e7 : Nat.beq c 1007 with
      | true =>
        rw [e7] at h
        have e := qa_beq e7
        subst e
        dsimp only at h
        split at h
        · rename_i k i a1 a2 a3 k2 i2
          match As, ha with
          | [.inr (.inr q), .inl d, .inl r, .inl x, .inr (.inr q2)], ⟨hq, _, _, _, hq2, _⟩ =>
            have e : (k, some i) = q := hq
            subst e
            have e : (k2, some i2) = q2 := hq2
            subst e
            obtain ⟨h1, h2⟩ := z_none_ok (zn := none) h (u := lI 1) (z_in_c _) hm hQ
            obtain ⟨h0, h1⟩ := qa_and h1
            obtain ⟨h1, h3⟩ := qa_and h1
            obtain ⟨h1, h4⟩ := qa_and h1
            obtain ⟨h3, h5⟩ := qa_and h3
            have e := qa_beq h1
            subst e
            have e := qa_beq h3
            subst e
            have e := qa_beq h4
            subst e
            have e := qa_beq h5
            subst e
            have h0 := of_decide_eq_true h0
            refine And.intro (fun q => ?_) (fun _ => h2)
            obtain ⟨⟨q1, q2, q3⟩, -⟩ := q
            have g1 : (0 : Int) ≤ d.toInt := Int32.le_iff_toInt_le.mp q1
            have g2 := Int32.lt_iff_toInt_lt.mp q3
            have g3 := (hm.1 15 0 0).2
            omega
        · cases h
      | false => rw [e7] at h; cases h
theorem z_cm_ok {sc : List ZI} {W : Nat → Nat → ZT → Option (List ZO)} {W' : Nat → Nat → Nat → Nat → Nat → LLoc → LStk → LMem → LPost → Prop} (hW : z_W sc W W') {d c : Nat} {args : List ZV} {m : ZM} {os : List ZO} (h : z_cm sc W d c args m = some os) {As : List LV} {s : LMem} {Q : LPost} (ha : z_s args As) (hm : z_m sc m s) (hQ : z_post sc os Q) : qa_cm false W' d c As s Q := by
  unfold z_cm at h
  unfold qa_cm
  cases e : Nat.ble 1000 c with
  | true =>
    rw [e] at h
    exact z_intr_ok h ha hm hQ
  | false =>
    rw [e] at h
    dsimp only at h ⊢
    rw [← z_len_exp ha]
    cases e2 : Nat.ble (z_exp args).length (qa_mL c) with
    | false => rw [e2] at h; cases h
    | true =>
      rw [e2] at h
      cases d with
      | zero => cases h
      | succ d => exact hW d c _ os h (qa_mk As (qa_mL c)) [] s Q (z_mk_ok ha _) trivial hm hQ
theorem qz_ok {sc : List ZI} : ∀ f, z_W sc (qz sc f) (qa_wq false f) := by
  intro f
  induction f with
  | zero => intro d mi t os h; cases h
  | succ f ih =>
    intro d mi t os h L S s Q hl hs hm hQ
    obtain ⟨bc, bs, pc, loc, st, m⟩ := t
    have h : (match qa_ft mi pc with
      | none => none
      | some e => match qz_1 sc mi bc bs e pc loc st m with
        | none => none
        | some (.inl ts) => z_all (qz sc f d mi) ts
        | some (.inr (.inl (c, rt, k, args, bc, bs, pc, loc, rest, m))) => (match z_cm sc (qz sc f) d c args m with
          | none => none
          | some os => z_all (fun o => match z_kk rt k o.1 with | none => none | some v => qz sc f d mi (bc, bs, pc, loc, v ++ rest, o.2)) os)
        | some (.inr (.inr o)) => some [o]) = some os := h
    show (match qa_ft mi pc with
      | none => False
      | some e => qa_sem (fun bc bs pc loc st s => qa_wq false f d mi bc bs pc loc st s Q) (fun c args s Q' => qa_cm false (qa_wq false f) d c args s Q') Q (qa_ins false mi bc bs e pc L S s))
    cases e : qa_ft mi pc with
    | none => rw [e] at h; cases h
    | some en =>
      rw [e] at h
      dsimp only at h ⊢
      cases e1 : qz_1 sc mi bc bs en pc loc st m with
      | none => rw [e1] at h; cases h
      | some zn =>
        rw [e1] at h
        have hr := qz_1_ok hl hs hm e1
        generalize qa_ins false mi bc bs en pc L S s = nx at hr ⊢
        rcases zn with ts | ⟨c, rt, k, args, bc', bs', pc', loc', rest, m'⟩ | o
        · dsimp only at h
          refine hr _ _ _ fun t ht L S s h1 h2 h3 => ?_
          obtain ⟨x, h4, h5⟩ := z_all_mem h t ht
          exact ih d mi t x h4 L S s Q h1 h2 h3 (fun o ho => hQ o (h5 o ho))
        · dsimp only at h
          cases e2 : z_cm sc (qz sc f) d c args m' with
          | none => rw [e2] at h; cases h
          | some os2 =>
            rw [e2] at h
            dsimp only at h
            obtain ⟨g, act⟩ := nx
            obtain ⟨hg, A, L', S', s', rfl, h1, h2, h3, h4⟩ := hr
            refine z_gd hg ?_
            show qa_cm false (qa_wq false f) d c A s' (qa_kk rt k (fun st s' => qa_wq false f d mi bc' bs' pc' L' st s' Q) S')
            refine z_cm_ok ih e2 h1 h4 fun o ho r s2 h5 h6 => ?_
            obtain ⟨x, h7, h8⟩ := z_all_mem h o ho
            cases e3 : z_kk rt k o.1 with
            | none => rw [e3] at h7; cases h7
            | some v =>
              rw [e3] at h7
              exact z_kk_ok (sc := sc) e3 h5 h3 fun S2 h9 => ih d mi _ x h7 L' S2 s2 Q h2 h9 h6 (fun o ho => hQ o (h8 o ho))
        · dsimp only at h
          cases h
          obtain ⟨g, act⟩ := nx
          obtain ⟨hg, r, s', rfl, h1, h2⟩ := hr
          exact z_gd hg (hQ o List.mem_cons_self r s' h1 h2)
