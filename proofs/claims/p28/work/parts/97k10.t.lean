/-! THE CLASS'S WORTH OF A LAW: the whole loop. -/
theorem cT_0 {x : Tk} (h : x.1 = 0) : cT x = (48, x.2) := by
  unfold cT
  rw [if_pos h]
theorem cT_1 {x : Tk} (h : x.1 = 1) : cT x = (lcC x.2, 0) := by
  unfold cT
  rw [if_neg (by rw [h]; decide), if_pos h]
theorem cT_o {x : Tk} (h0 : x.1 ≠ 0) (h1 : x.1 ≠ 1) : cT x = (opC x.1, 0) := by
  unfold cT
  rw [if_neg h0, if_neg h1]
section WS
variable {L : Int32 → Int32} {s : LMem} {n r : Nat} {ab rain : Int32}
/-- what the loop wants to know, all along -/
def wsH (L : Int32 → Int32) (s : LMem) (n r sz : Nat) (ab rain : Int32) : Prop := gI s 8 n 2 = nI sz ∧ sz ≤ 200 ∧ ∀ i : Nat, i < 8 → bdV (ltV s r ab rain (nI i)).toInt64 = L (nI i)
theorem w_tok {d bc bs i sz : Nat} {over : Int32} {x : Tk} {st st1 : List Int32} {o7 o8 : Option LV} {m : LMem} {Q : LPost} (H : wsH L s n r sz ab rain) (hi : i < sz) (hc : gI s 9 n i = (cT x).1 ∧ gI s 10 n i = (cT x).2) (hst : stpO L x st = some st1) (hl : st.length ≤ 30) (hS : stV 11 n m st) (hm : ww_F n s m) (ho : over < nI i) (h : ∀ m' o7 o8, stV 11 n m' st1 → ww_F n s m' → qW false (d + 2) 74 bc bs 9 [some (lR 8 (some n)), some (lR 21 (some r)), some (lI ab), some (lI rain), some (lI (nI st1.length)), some (lI over), some (lI (nI (i + 1))), o7, o8] [] m' Q) : qW false (d + 2) 74 bc bs 9 [some (lR 8 (some n)), some (lR 21 (some r)), some (lI ab), some (lI rain), some (lI (nI st.length)), some (lI over), some (lI (nI i)), o7, o8] [] m Q := by
  obtain ⟨hs, hz, hLt⟩ := H
  rcases stp_inv hst with ⟨k0, g, e⟩ | ⟨k1, g, g2, e⟩ | ⟨k9, b, q, e1, g, e⟩ | ⟨n0, n1, n9, b, c, q, e1, g, e⟩
  · rw [cT_0 k0] at hc
    subst e
    refine w_9 (sg := 48) hm hs hi hz ho hc.1 (by decide) (by decide) fun o8 eo => ?_
    rw [eo]
    exact w_127n g (by omega) hm hc.2 fun m' o7 o8 em => h m' o7 o8 (by rw [em]; exact stV_p hS) (by rw [em]; exact ww_s (by omega) hm)
  · rw [cT_1 k1] at hc
    subst e
    obtain ⟨i8, hi8, ei⟩ := y_nIof2 (N := 7) (x := x.2) g2.1 (by omega)
    rw [ei] at hc h
    have lc : lcC (nI i8) ≠ 59 ∧ lcC (nI i8) ≠ 63 ∧ (97 ≤ (lcC (nI i8)).toInt ∧ (lcC (nI i8)).toInt ≤ 122) := by
      have c8 : i8 = 0 ∨ i8 = 1 ∨ i8 = 2 ∨ i8 = 3 ∨ i8 = 4 ∨ i8 = 5 ∨ i8 = 6 ∨ i8 = 7 := by omega
      rcases c8 with rfl | rfl | rfl | rfl | rfl | rfl | rfl | rfl <;> decide
    refine w_9 hm hs hi hz ho hc.1 lc.1 lc.2.1 fun o8 eo => ?_
    rw [eo, if_pos lc.2.2]
    exact w_127l (by omega) g hm (hLt i8 (by omega)) fun m' o7 o8 em => h m' o7 o8 (by rw [em]; exact stV_p hS) (by rw [em]; exact ww_s (by omega) hm)
  · rw [cT_o (by rw [k9]; decide) (by rw [k9]; decide), k9] at hc
    subst e e1
    have hl : q.length + 1 ≤ 30 := hl
    refine w_9 (sg := 33) hm hs hi hz ho hc.1 (by decide) (by decide) fun o8 eo => ?_
    rw [eo]
    exact w_127b (top := q.length) (by omega) hS.1 g fun m' o7 o8 em => h m' o7 o8 (by rw [em]; exact stV_p hS.2) (by rw [em]; exact ww_s (by omega) hm)
  · rw [cT_o n0 n1] at hc
    subst e e1
    have hl : q.length + 1 + 1 ≤ 30 := hl
    have no : opC x.1 ≠ 59 ∧ opC x.1 ≠ 63 ∧ ¬ (97 ≤ (opC x.1).toInt ∧ (opC x.1).toInt ≤ 122) := by
      generalize x.1 = y at g
      rcases g with (h | h | h | h | h | h | h) | ⟨h | h, _⟩ <;> subst h <;> decide
    refine w_9 hm hs hi hz ho hc.1 no.1 no.2.1 fun o8 eo => ?_
    rw [eo, if_neg no.2.2]
    exact w_127t (top := q.length) (by omega) hS.2.1 hS.1 g fun m' o7 o8 em => h m' o7 o8 (by rw [em]; exact stV_p hS.2.2) (by rw [em]; exact ww_s (by omega) hm)
/-- a segment of tokens -/
theorem w_seg {d bc bs sz : Nat} {over : Int32} {Q : LPost} (H : wsH L s n r sz ab rain) {st2 : List Int32} : ∀ T i st m o7 o8, i + T.length ≤ sz → (∀ j x, T[j]? = some x → gI s 9 n (i + j) = (cT x).1 ∧ gI s 10 n (i + j) = (cT x).2) → rnV L T st = some st2 → st.length ≤ 30 → stV 11 n m st → ww_F n s m → (∀ a, i ≤ a → a < i + T.length → over < nI a) → (∀ m' o7 o8, stV 11 n m' st2 → ww_F n s m' → qW false (d + 2) 74 bc bs 9 [some (lR 8 (some n)), some (lR 21 (some r)), some (lI ab), some (lI rain), some (lI (nI st2.length)), some (lI over), some (lI (nI (i + T.length))), o7, o8] [] m' Q) → qW false (d + 2) 74 bc bs 9 [some (lR 8 (some n)), some (lR 21 (some r)), some (lI ab), some (lI rain), some (lI (nI st.length)), some (lI over), some (lI (nI i)), o7, o8] [] m Q := by
  intro T
  induction T with
  | nil =>
    intro i st m o7 o8 _ _ hr _ hS hm _ h
    have hr : some st = some st2 := hr
    cases hr
    exact h m o7 o8 hS hm
  | cons x T ih =>
    intro i st m o7 o8 hi hc hr hl hS hm ho h
    have hi : i + (T.length + 1) ≤ sz := hi
    obtain ⟨s1, h1, h2⟩ := rn_inv hr
    have l1 : s1.length ≤ 30 := rn_len [x] st s1 hl (rnV_1 h1)
    refine w_tok H (by omega) (hc 0 x rfl) h1 hl hS hm (ho i (Nat.le_refl _) (by show i < i + (T.length + 1); omega)) fun m' o7 o8 hS' hm' => ?_
    refine ih (i + 1) s1 m' o7 o8 (by omega) (fun j y e => ?_) h2 l1 hS' hm' (fun a a1 a2 => ho a (by omega) (by show a < i + (T.length + 1); omega)) (fun m2 o7 o8 a b => ?_)
    · have := hc (j + 1) y e
      rw [show i + 1 + j = i + (j + 1) by omega]
      exact this
    · rw [show i + 1 + T.length = i + (x :: T).length by show i + 1 + T.length = i + (T.length + 1); omega]
      exact h m2 o7 o8 a b
/-- signs that are passed over -/
theorem w_skip {d bc bs sz e : Nat} {top : Int32} {m : LMem} {Q : LPost} (H : wsH L s n r sz ab rain) (hm : ww_F n s m) (he : e < sz) (h : ∀ o7 o8, qW false (d + 2) 74 bc bs 9 [some (lR 8 (some n)), some (lR 21 (some r)), some (lI ab), some (lI rain), some (lI top), some (lI (nI e)), some (lI (nI (e + 1))), o7, o8] [] m Q) : ∀ k i o7 o8, i + k = e + 1 → qW false (d + 2) 74 bc bs 9 [some (lR 8 (some n)), some (lR 21 (some r)), some (lI ab), some (lI rain), some (lI top), some (lI (nI e)), some (lI (nI i)), o7, o8] [] m Q := by
  obtain ⟨hs, hz, _⟩ := H
  intro k
  induction k with
  | zero =>
    intro i o7 o8 hi
    have hi : i = e + 1 := hi
    subst hi
    exact h o7 o8
  | succ k ih =>
    intro i o7 o8 hi
    have hvi : qa_vin (nI i) 200 := nI_in (by omega) (by decide)
    have e2 : gI m 8 n 2 = nI sz := (hm.1 8 n 2 (fun q => absurd q.1 (by decide))).trans hs
    refine qa_t1_W (cut := [9, 127, 266]) 100 ?_
    refine And.intro (fun _ => ?_) (fun c => absurd (show nI i < gI m 8 n 2 by rw [e2]; exact nI_lt (by omega) (by omega)) c)
    refine And.intro (fun _ => ?_) (fun c => absurd (nI_lt (b := 200) (by omega) (by decide)) c)
    refine And.intro (fun _ => ?_) (fun c => absurd (nI_lt (b := 200) (by omega) (by decide)) c)
    refine And.intro hvi ?_
    refine And.intro (fun c => absurd c (nI_nlt (by omega) (by omega))) (fun _ => ?_)
    exact w_266 (ih (i + 1) _ _ (by omega))
/-- behind a sum -/
theorem w_end {d bc bs i sz : Nat} {over top : Int32} {v : Int32} {o7 o8 : Option LV} {m : LMem} {Q : LPost} (H : wsH L s n r sz ab rain) (hi : i < sz) (hc : gI s 9 n i = 59) (hm : ww_F n s m) (ho : over < nI i) (hS : stV 11 n m [v]) (h : Q (some (lI v)) m) : qW false (d + 2) 74 bc bs 9 [some (lR 8 (some n)), some (lR 21 (some r)), some (lI ab), some (lI rain), some (lI top), some (lI over), some (lI (nI i)), o7, o8] [] m Q := by
  obtain ⟨hs, hz, _⟩ := H
  have hvi : qa_vin (nI i) 200 := nI_in (by omega) (by decide)
  have e2 : gI m 8 n 2 = nI sz := (hm.1 8 n 2 (fun q => absurd q.1 (by decide))).trans hs
  have esg : gI m 9 n (nI i).toNatClampNeg = 59 := by rw [nI_clamp (by omega), hm.1 9 n i (fun q => absurd q.1 (by decide)), hc]
  have h0 : gI m 11 n (0 : Int32).toNatClampNeg = v := hS.1
  have fin : Q (some (lI (gI m 11 n (0 : Int32).toNatClampNeg))) m := by
    rw [h0]
    exact h
  refine qa_t1_W (cut := [9, 127, 266]) 100 ?_
  refine And.intro (fun _ => ?_) (fun c => absurd (show nI i < gI m 8 n 2 by rw [e2]; exact nI_lt hi (by omega)) c)
  refine And.intro (fun _ => ?_) (fun c => absurd (nI_lt (b := 200) (by omega) (by decide)) c)
  refine And.intro (fun _ => ?_) (fun c => absurd (nI_lt (b := 200) (by omega) (by decide)) c)
  refine And.intro hvi ?_
  refine And.intro (fun _ => ?_) (fun c => absurd ho c)
  refine And.intro (fun _ => ?_) (fun c => absurd esg c)
  exact And.intro (x_vc (by decide) (by decide)) fin
/-- behind a condition -/
theorem w_q {d bc bs i sz : Nat} {over top : Int32} {v z : Int32} {o7 o8 : Option LV} {m : LMem} {Q : LPost} (H : wsH L s n r sz ab rain) (hi : i < sz) (hc : gI s 9 n i = 63 ∧ gI s 10 n i = z) (hm : ww_F n s m) (ho : over < nI i) (hS : stV 11 n m [v]) (h0 : v = 0 → ∀ o7 o8, qW false (d + 2) 74 bc bs 9 [some (lR 8 (some n)), some (lR 21 (some r)), some (lI ab), some (lI rain), some (lI (nI 0)), some (lI z), some (lI (nI (i + 1))), o7, o8] [] m Q) (h1 : v ≠ 0 → ∀ o7 o8, qW false (d + 2) 74 bc bs 9 [some (lR 8 (some n)), some (lR 21 (some r)), some (lI ab), some (lI rain), some (lI (nI 0)), some (lI (-1)), some (lI (nI (i + 1))), o7, o8] [] m Q) : qW false (d + 2) 74 bc bs 9 [some (lR 8 (some n)), some (lR 21 (some r)), some (lI ab), some (lI rain), some (lI top), some (lI over), some (lI (nI i)), o7, o8] [] m Q := by
  obtain ⟨hs, hz, _⟩ := H
  have hvi : qa_vin (nI i) 200 := nI_in (by omega) (by decide)
  have e2 : gI m 8 n 2 = nI sz := (hm.1 8 n 2 (fun q => absurd q.1 (by decide))).trans hs
  have esg : gI m 9 n (nI i).toNatClampNeg = 63 := by rw [nI_clamp (by omega), hm.1 9 n i (fun q => absurd q.1 (by decide)), hc.1]
  have ez : gI m 10 n (nI i).toNatClampNeg = z := by rw [nI_clamp (by omega), hm.1 10 n i (fun q => absurd q.1 (by decide)), hc.2]
  have hw : gI m 11 n (0 : Int32).toNatClampNeg = v := hS.1
  refine qa_t1_W (cut := [9, 127, 266]) 100 ?_
  refine And.intro (fun _ => ?_) (fun c => absurd (show nI i < gI m 8 n 2 by rw [e2]; exact nI_lt hi (by omega)) c)
  refine And.intro (fun _ => ?_) (fun c => absurd (nI_lt (b := 200) (by omega) (by decide)) c)
  refine And.intro (fun _ => ?_) (fun c => absurd (nI_lt (b := 200) (by omega) (by decide)) c)
  refine And.intro hvi ?_
  refine And.intro (fun _ => ?_) (fun c => absurd ho c)
  refine And.intro (fun c => absurd (esg.symm.trans c) (by decide)) (fun _ => ?_)
  refine And.intro (fun _ => ?_) (fun c => absurd esg c)
  refine And.intro (x_vc (by decide) (by decide)) ?_
  refine And.intro (fun c => ?_) (fun c => ?_)
  · have c : v = 0 := hw.symm.trans c
    have go : qW false (d + 2) 74 bc bs 266 [some (lR 8 (some n)), some (lR 21 (some r)), some (lI ab), some (lI rain), some (lI 0), some (lI (gI m 10 n (nI i).toNatClampNeg)), some (lI (nI i)), (some (lI (gI m 9 n (nI i).toNatClampNeg))), o8] [] m Q := by
      rw [ez]
      exact w_266 (h0 c _ _)
    exact And.intro hvi go
  · have c : v ≠ 0 := fun q => c (hw.trans q)
    exact w_266 (h1 c _ _)
/-- behind all signs -/
theorem w_out {d bc bs sz : Nat} {over top : Int32} {o7 o8 : Option LV} {m : LMem} {Q : LPost} (H : wsH L s n r sz ab rain) (hm : ww_F n s m) (h : Q (some (lI 0)) m) : qW false (d + 2) 74 bc bs 9 [some (lR 8 (some n)), some (lR 21 (some r)), some (lI ab), some (lI rain), some (lI top), some (lI over), some (lI (nI sz)), o7, o8] [] m Q := by
  obtain ⟨hs, hz, _⟩ := H
  have e2 : gI m 8 n 2 = nI sz := (hm.1 8 n 2 (fun q => absurd q.1 (by decide))).trans hs
  refine qa_t1_W (cut := [9, 127, 266]) 100 ?_
  refine And.intro (fun c => ?_) (fun _ => h)
  have c : nI sz < gI m 8 n 2 := c
  rw [e2] at c
  exact absurd c (nI_nlt (Nat.le_refl _) (by omega))
theorem clC_pre (L0 : List Ck) (t u : List Tk) : ∃ R, clC L0 t u = L0 ++ R := by
  unfold clC
  by_cases e : t = []
  · rw [if_pos e]
    exact ⟨u.map cT ++ [(59, 0)], List.append_assoc _ _ _⟩
  · rw [if_neg e]
    exact ⟨_, by rw [List.append_assoc, List.append_assoc]⟩
theorem cls_pre : ∀ (b : List Cz) (A : List Ck), ∃ R, b.foldl (fun L x => clC L x.1 x.2) A = A ++ R
  | [], A => ⟨[], (List.append_nil A).symm⟩
  | x :: b, A => by
    obtain ⟨R, e⟩ := clC_pre A x.1 x.2
    obtain ⟨R2, e2⟩ := cls_pre b (clC A x.1 x.2)
    refine ⟨R ++ R2, ?_⟩
    show b.foldl (fun L x => clC L x.1 x.2) (clC A x.1 x.2) = _
    rw [e2, e, List.append_assoc]
/-- a law's signs, clause by clause -/
theorem cls_at {cs : List Cz} {c : Nat} {t u : List Tk} (e : cs[c]? = some (t, u)) : ∃ R, clsC cs = clC (clsC (cs.take c)) t u ++ R ∧ clsC (cs.take (c + 1)) = clC (clsC (cs.take c)) t u := by
  have hc := (List.getElem?_eq_some_iff.mp e).1
  have et : cs.take (c + 1) = cs.take c ++ [(t, u)] := by
    rw [List.take_add_one, e]
    rfl
  have e1 : clsC (cs.take (c + 1)) = clC (clsC (cs.take c)) t u := by rw [et, clsC_app]
  obtain ⟨R, e2⟩ := cls_pre (cs.drop (c + 1)) (clsC (cs.take (c + 1)))
  refine ⟨R, ?_, e1⟩
  have e3 : clsC cs = (cs.drop (c + 1)).foldl (fun L x => clC L x.1 x.2) (clsC (cs.take (c + 1))) := by
    unfold clsC
    rw [← List.foldl_append, List.take_append_drop]
  rw [e3, e2, e1]
theorem ap_at2 {α : Type} {A B : List α} {j : Nat} {x : α} (h : B[j]? = some x) : (A ++ B)[A.length + j]? = some x := by
  rw [List.getElem?_append_right (by omega), show A.length + j - A.length = j by omega]
  exact h
theorem ap_l {α : Type} {A B : List α} {j : Nat} {x : α} (h : A[j]? = some x) : (A ++ B)[j]? = some x := by
  rw [List.getElem?_append_left (List.getElem?_eq_some_iff.mp h).1]
  exact h
theorem mp_at {T : List Tk} {j : Nat} {x : Tk} (h : T[j]? = some x) : (T.map cT)[j]? = some (cT x) := by
  rw [List.getElem?_map, h]
  rfl
theorem w_law {d bc bs : Nat} {cs : List Cz} {Q : LPost} (H : wsH L s n r (clsC cs).length ab rain) (hc : cC n s (clsC cs)) (hw : lwR cs) (h : ∀ m, ww_F n s m → Q (some (lI (wrV L cs))) m) : ∀ j c m over o7 o8, c + j = cs.length → wrV L (cs.drop c) = wrV L cs → ww_F n s m → (∀ a, (clsC (cs.take c)).length ≤ a → a < 300 → over < nI a) → qW false (d + 2) 74 bc bs 9 [some (lR 8 (some n)), some (lR 21 (some r)), some (lI ab), some (lI rain), some (lI (nI 0)), some (lI over), some (lI (nI (clsC (cs.take c)).length)), o7, o8] [] m Q := by
  have hz := H.2.1
  intro j
  induction j with
  | zero =>
    intro c m over o7 o8 hcl hv hm ho
    have hcl : c = cs.length := hcl
    subst hcl
    rw [List.drop_length] at hv
    have hv : (0 : Int32) = wrV L cs := hv
    rw [List.take_length]
    exact w_out H hm (by rw [hv]; exact h m hm)
  | succ j ih =>
    intro c m over o7 o8 hcl hv hm ho
    obtain ⟨⟨t, u⟩, etu⟩ : ∃ x, cs[c]? = some x := ⟨_, List.getElem?_eq_getElem (show c < cs.length by omega)⟩
    obtain ⟨R, fl, tk1⟩ := cls_at etu
    have ed : cs.drop c = (t, u) :: cs.drop (c + 1) := by
      rw [List.drop_eq_getElem_cons (show c < cs.length by omega)]
      have := (List.getElem?_eq_some_iff.mp etu).2
      rw [this]
    obtain ⟨w1, w, w2⟩ := hw L t u (List.mem_of_getElem? etu)
    have next := ih (c + 1)
    rw [tk1] at next
    generalize hA : clsC (cs.take c) = A at *
    have ew : t = [] ∨ rnV L t [] ≠ some [0] → wrV L cs = w := fun g => by
      rw [← hv, ed]
      show (if t = [] ∨ rnV L t [] ≠ some [0] then (match rnV L u [] with | some (v :: _) => v | _ => 0) else wrV L (cs.drop (c + 1))) = w
      rw [if_pos g, w2]
    by_cases tn : t = []
    · have el : clC A t u = (A ++ u.map cT) ++ [(59, 0)] := if_pos tn
      rw [el] at fl next
      have len : A.length + u.length + 1 ≤ (clsC cs).length := by
        rw [fl, List.length_append, len_1k, List.length_append, List.length_map]
        omega
      have cu : ∀ j x, u[j]? = some x → gI s 9 n (A.length + j) = (cT x).1 ∧ gI s 10 n (A.length + j) = (cT x).2 := fun j x e => hc.2 _ (cT x) (by rw [fl, List.append_assoc, List.append_assoc]; exact ap_at2 (ap_l (mp_at e)))
      have ce := hc.2 (A.length + u.length) (59, 0) (by
        rw [fl]
        refine ap_l ?_
        have : (A ++ u.map cT).length = A.length + u.length := by rw [List.length_append, List.length_map]
        rw [← this]
        exact ap_at2 (j := 0) rfl)
      refine w_seg H (st2 := [w]) u A.length [] m o7 o8 (by omega) cu w2 (by decide) trivial hm (fun a a1 a2 => ho a a1 (by omega)) fun m' o7 o8 hS' hm' => ?_
      exact w_end H (by omega) ce.1 hm' (ho _ (by omega) (by omega)) hS' (by rw [← ew (Or.inl tn)]; exact h m' hm')
    · have el : clC A t u = ((A ++ t.map cT) ++ (63, nI (A.length + t.length + 1 + u.length)) :: u.map cT) ++ [(59, 0)] := if_neg tn
      rw [el] at fl next
      obtain ⟨v, hv1⟩ := w1.resolve_left tn
      have lat : (A ++ t.map cT).length = A.length + t.length := by rw [List.length_append, List.length_map]
      have lal : ((A ++ t.map cT) ++ ((63, nI (A.length + t.length + 1 + u.length)) : Ck) :: u.map cT).length = A.length + t.length + 1 + u.length := by
        rw [List.length_append, lat, List.length_cons, List.length_map]
        omega
      have len : A.length + t.length + 1 + u.length + 1 ≤ (clsC cs).length := by
        rw [fl, List.length_append, len_1k, lal]
        omega
      have ct : ∀ j x, t[j]? = some x → gI s 9 n (A.length + j) = (cT x).1 ∧ gI s 10 n (A.length + j) = (cT x).2 := fun j x e => hc.2 _ (cT x) (by rw [fl, List.append_assoc, List.append_assoc, List.append_assoc]; exact ap_at2 (ap_l (mp_at e)))
      have cq := hc.2 (A.length + t.length) (63, nI (A.length + t.length + 1 + u.length)) (by
        rw [fl, List.append_assoc, List.append_assoc (A ++ t.map cT), ← lat]
        exact ap_at2 (j := 0) rfl)
      have cu : ∀ j x, u[j]? = some x → gI s 9 n (A.length + t.length + 1 + j) = (cT x).1 ∧ gI s 10 n (A.length + t.length + 1 + j) = (cT x).2 := fun j x e => hc.2 _ (cT x) (by
        rw [fl, List.append_assoc, List.append_assoc (A ++ t.map cT)]
        have e0 : (((63, nI (A.length + t.length + 1 + u.length)) : Ck) :: u.map cT)[j + 1]? = some (cT x) := mp_at e
        have e1 := ap_at2 (A := A ++ t.map cT) (ap_l (B := [((59, 0) : Ck)] ++ R) e0)
        rw [lat, show A.length + t.length + (j + 1) = A.length + t.length + 1 + j by omega] at e1
        exact e1)
      have ce := hc.2 (A.length + t.length + 1 + u.length) (59, 0) (by
        rw [fl]
        refine ap_l ?_
        have e1 := ap_at2 (A := (A ++ t.map cT) ++ ((63, nI (A.length + t.length + 1 + u.length)) : Ck) :: u.map cT) (B := [((59, 0) : Ck)]) (j := 0) rfl
        rw [lal] at e1
        exact e1)
      refine w_seg H (st2 := [v]) t A.length [] m o7 o8 (by omega) ct hv1 (by decide) trivial hm (fun a a1 a2 => ho a a1 (by omega)) fun m' o7 o8 hS' hm' => ?_
      refine w_q H (by omega) cq hm' (ho _ (by omega) (by omega)) hS' (fun z o7 o8 => ?_) (fun z o7 o8 => ?_)
      · refine w_skip H hm' (e := A.length + t.length + 1 + u.length) (by omega) (fun o7 o8 => ?_) (u.length + 1) _ o7 o8 (by omega)
        have nx := next m' (nI (A.length + t.length + 1 + u.length)) o7 o8 (by omega) (by
          rw [← hv, ed]
          show _ = (if t = [] ∨ rnV L t [] ≠ some [0] then _ else wrV L (cs.drop (c + 1)))
          rw [if_neg (fun q => by
            rcases q with q | q
            · exact tn q
            · exact q (by rw [hv1, z]))]) hm' (fun a a1 a2 => nI_lt (by rw [len_1k, lal] at a1; omega) (by omega))
        rw [len_1k, lal] at nx
        exact nx
      · refine w_seg H (st2 := [w]) u (A.length + t.length + 1) [] m' o7 o8 (by omega) cu w2 (by decide) trivial hm' (fun a a1 a2 => ?_) fun m2 o7 o8 hS2 hm2 => ?_
        · refine Int32.lt_iff_toInt_lt.mpr ?_
          rw [nI_toInt (by omega)]
          show (-1 : Int) < _
          omega
        · have hn : rnV L t [] ≠ some [0] := fun q => z (by
            rw [hv1] at q
            cases q
            rfl)
          refine w_end H (by omega) ce.1 hm2 ?_ hS2 (by rw [← ew (Or.inr hn)]; exact h m2 hm2)
          refine Int32.lt_iff_toInt_lt.mpr ?_
          rw [nI_toInt (by omega)]
          show (-1 : Int) < _
          omega
theorem h_worthV {d : Nat} {cs : List Cz} {Q : LPost} (H : wsH L s n r (clsC cs).length ab rain) (hc : cC n s (clsC cs)) (hw : lwR cs) (h : ∀ m, ww_F n s m → Q (some (lI (wrV L cs))) m) : qC false (d + 3) 74 [lR 8 (some n), lR 21 (some r), lI ab, lI rain] s Q := by
  have main := w_law (d := d) (bc := 0) (bs := 0) H hc hw h cs.length 0 s (-1) none none (Nat.zero_add _) rfl ww_0 (fun a _ a2 => by
    refine Int32.lt_iff_toInt_lt.mpr ?_
    rw [nI_toInt (by omega)]
    show (-1 : Int) < _
    omega)
  refine qC_of rfl rfl ?_
  refine qa_t1_W (cut := [9]) 20 ?_
  exact main
end WS
