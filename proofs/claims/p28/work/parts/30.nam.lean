/-! RUNS BY NAMES WITH BOUNDS. A value is a name and an offset; a name stands for one Int, known by bounds. -/
abbrev YI : Type := Nat × Int
abbrev YR : Type := Nat × YI × YI × Int
abbrev YV : Type := YI ⊕ (Option Int64 ⊕ YR)
abbrev YE : Type := Nat × List ZI
abbrev YLoc : Type := List (Option YV)
abbrev YStk : Type := List YV
abbrev YF : Type := Nat × YI × YI × YV
abbrev YM : Type := List YF
abbrev yI (a : YI) : YV := .inl a
abbrev yL (a : Option Int64) : YV := .inr (.inl a)
abbrev yR (k : Nat) (z a : YI) (h : Int) : YV := .inr (.inr (k, z, a, h))
def yc (v : Int) : YI := (0, v)
def y_le (ρ ρ' : List Int) : Prop := ∀ (n : Nat) (v : Int), ρ[n]? = some v → ρ'[n]? = some v
theorem y_le_rf (ρ : List Int) : y_le ρ ρ := fun _ _ h => h
theorem y_le_tr {a b c : List Int} (h1 : y_le a b) (h2 : y_le b c) : y_le a c := fun n v h => h2 n v (h1 n v h)
def y_is (ρ : List Int) (a : YI) (v : Int) : Prop := ∃ w, ρ[a.1]? = some w ∧ v = w + a.2
theorem y_is_mono {ρ ρ' : List Int} {a : YI} {v : Int} (h : y_le ρ ρ') (ha : y_is ρ a v) : y_is ρ' a v := by
  obtain ⟨w, h1, h2⟩ := ha
  exact ⟨w, h _ _ h1, h2⟩
theorem y_is_fun {ρ : List Int} {a : YI} {v u : Int} (h1 : y_is ρ a v) (h2 : y_is ρ a u) : v = u := by
  obtain ⟨w, h1, e1⟩ := h1
  obtain ⟨x, h2, e2⟩ := h2
  rw [h1] at h2
  cases h2
  rw [e1, e2]
def y_lk (e : YE) (n : Nat) : Option ZI := match Nat.blt n e.1 with | true => qa_nth e.2 (e.1 - 1 - n) | false => none
def y_E (ρ : List Int) (e : YE) : Prop := ρ.length = e.1 ∧ ρ[0]? = some 0 ∧ ∀ n b, y_lk e n = some b → ∃ v, ρ[n]? = some v ∧ b.1 ≤ v ∧ v ≤ b.2
def y_bd (e : YE) (a : YI) : Option ZI := match y_lk e a.1 with | some b => some (b.1 + a.2, b.2 + a.2) | none => none
theorem y_bd_ok {ρ : List Int} {e : YE} {a : YI} {v : Int} {b : ZI} (hE : y_E ρ e) (ha : y_is ρ a v) (h : y_bd e a = some b) : b.1 ≤ v ∧ v ≤ b.2 := by
  unfold y_bd at h
  cases hl : y_lk e a.1 with
  | none => rw [hl] at h; cases h
  | some q =>
    rw [hl] at h
    cases h
    obtain ⟨w, h1, h2, h3⟩ := hE.2.2 _ _ hl
    obtain ⟨w', h4, rfl⟩ := ha
    rw [h1] at h4
    cases h4
    exact ⟨Int.add_le_add_right h2 _, Int.add_le_add_right h3 _⟩
theorem y_is_c {ρ : List Int} {e : YE} (hE : y_E ρ e) (v : Int) : y_is ρ (yc v) v := ⟨0, hE.2.1, (Int.zero_add v).symm⟩
def y_push (e : YE) (b : ZI) : YE := (e.1 + 1, b :: e.2)
theorem y_push_ok {ρ : List Int} {e : YE} {b : ZI} {v : Int} (hE : y_E ρ e) (hb : b.1 ≤ v ∧ v ≤ b.2) : y_E (ρ ++ [v]) (y_push e b) ∧ y_le ρ (ρ ++ [v]) ∧ y_is (ρ ++ [v]) (e.1, 0) v := by
  obtain ⟨h1, h2, h3⟩ := hE
  have hle : y_le ρ (ρ ++ [v]) := fun n w h => by
    have hn : n < ρ.length := (List.getElem?_eq_some_iff.mp h).1
    rw [List.getElem?_append_left hn]
    exact h
  have hlast : (ρ ++ [v])[e.1]? = some v := by
    rw [← h1, List.getElem?_append_right (Nat.le_refl _), Nat.sub_self]
    rfl
  refine ⟨⟨?_, hle _ _ h2, fun n q hq => ?_⟩, hle, ⟨v, hlast, (Int.add_zero v).symm⟩⟩
  · show (ρ ++ [v]).length = e.1 + 1
    rw [List.length_append, h1]
    rfl
  · unfold y_lk at hq
    cases hn : Nat.blt n (y_push e b).1 with
    | false => rw [hn] at hq; cases hq
    | true =>
      rw [hn] at hq
      have hq : qa_nth (b :: e.2) (e.1 + 1 - 1 - n) = some q := hq
      have hn : n < e.1 + 1 := qa_blt' hn
      by_cases en : n = e.1
      · subst en
        rw [show e.1 + 1 - 1 - e.1 = 0 by omega] at hq
        cases hq
        exact ⟨v, hlast, hb⟩
      · rw [show e.1 + 1 - 1 - n = (e.1 - 1 - n) + 1 by omega] at hq
        have hq : qa_nth e.2 (e.1 - 1 - n) = some q := hq
        have hl : y_lk e n = some q := by
          unfold y_lk
          rw [qa_blt (show n < e.1 by omega)]
          exact hq
        obtain ⟨w, h4, h5⟩ := h3 n q hl
        exact ⟨w, hle _ _ h4, h5⟩
def y_set : List ZI → Nat → ZI → List ZI
  | [], _, _ => []
  | _ :: l, 0, b => b :: l
  | a :: l, n + 1, b => a :: y_set l n b
theorem y_set_nth : ∀ (l : List ZI) (p : Nat) (b : ZI) (q : Nat) (c : ZI), qa_nth (y_set l p b) q = some c → (q = p ∧ c = b) ∨ (q ≠ p ∧ qa_nth l q = some c)
  | [], _, _, _, _, h => by cases h
  | _ :: l, 0, b, 0, c, h => by cases h; exact Or.inl ⟨rfl, rfl⟩
  | _ :: l, 0, b, q + 1, c, h => Or.inr ⟨Nat.succ_ne_zero q, h⟩
  | a :: l, p + 1, b, 0, c, h => Or.inr ⟨(Nat.succ_ne_zero p).symm, h⟩
  | a :: l, p + 1, b, q + 1, c, h => by
    rcases y_set_nth l p b q c h with ⟨h1, h2⟩ | ⟨h1, h2⟩
    · exact Or.inl ⟨by rw [h1], h2⟩
    · exact Or.inr ⟨by omega, h2⟩
def y_cut (e : YE) (n : Nat) (b : ZI) : YE := (e.1, y_set e.2 (e.1 - 1 - n) b)
theorem y_cut_ok {ρ : List Int} {e : YE} {n : Nat} {b : ZI} {v : Int} (hE : y_E ρ e) (hn : ρ[n]? = some v) (hb : b.1 ≤ v ∧ v ≤ b.2) : y_E ρ (y_cut e n b) := by
  obtain ⟨h1, h2, h3⟩ := hE
  have hn1 : n < e.1 := by
    rw [← h1]
    exact (List.getElem?_eq_some_iff.mp hn).1
  refine ⟨h1, h2, fun m c hc => ?_⟩
  unfold y_lk at hc
  cases hm : Nat.blt m (y_cut e n b).1 with
  | false => rw [hm] at hc; cases hc
  | true =>
    rw [hm] at hc
    have hm : m < e.1 := qa_blt' hm
    rcases y_set_nth _ _ _ _ _ hc with ⟨h4, rfl⟩ | ⟨h4, h5⟩
    · have h4 : e.1 - 1 - m = e.1 - 1 - n := h4
      have : m = n := by omega
      subst this
      exact ⟨v, hn, hb⟩
    · refine h3 m c ?_
      unfold y_lk
      rw [qa_blt hm]
      exact h5
/-- not above, not below -/
def y_up (e : YE) (a : YI) (u : Int) : Option YE := match y_lk e a.1 with
  | none => some e
  | some b => match decide (u - a.2 < b.1) with
    | true => none
    | false => match decide (u - a.2 < b.2) with
      | true => some (y_cut e a.1 (b.1, u - a.2))
      | false => some e
def y_dn (e : YE) (a : YI) (l : Int) : Option YE := match y_lk e a.1 with
  | none => some e
  | some b => match decide (b.2 < l - a.2) with
    | true => none
    | false => match decide (b.1 < l - a.2) with
      | true => some (y_cut e a.1 (l - a.2, b.2))
      | false => some e
theorem y_up_ok {ρ : List Int} {e : YE} {a : YI} {u v : Int} (hE : y_E ρ e) (ha : y_is ρ a v) (h : v ≤ u) : ∃ e', y_up e a u = some e' ∧ y_E ρ e' := by
  unfold y_up
  cases hl : y_lk e a.1 with
  | none => exact ⟨e, rfl, hE⟩
  | some b =>
    obtain ⟨w, h1, h2, h3⟩ := hE.2.2 _ _ hl
    obtain ⟨w', h4, rfl⟩ := ha
    rw [h1] at h4
    cases h4
    dsimp only
    rw [decide_eq_false (show ¬ u - a.2 < b.1 by omega)]
    dsimp only
    by_cases hd : u - a.2 < b.2
    · rw [decide_eq_true hd]
      exact ⟨_, rfl, y_cut_ok hE h1 ⟨h2, show w ≤ u - a.2 by omega⟩⟩
    · rw [decide_eq_false hd]
      exact ⟨_, rfl, hE⟩
theorem y_dn_ok {ρ : List Int} {e : YE} {a : YI} {u v : Int} (hE : y_E ρ e) (ha : y_is ρ a v) (h : u ≤ v) : ∃ e', y_dn e a u = some e' ∧ y_E ρ e' := by
  unfold y_dn
  cases hl : y_lk e a.1 with
  | none => exact ⟨e, rfl, hE⟩
  | some b =>
    obtain ⟨w, h1, h2, h3⟩ := hE.2.2 _ _ hl
    obtain ⟨w', h4, rfl⟩ := ha
    rw [h1] at h4
    cases h4
    dsimp only
    rw [decide_eq_false (show ¬ b.2 < u - a.2 by omega)]
    dsimp only
    by_cases hd : b.1 < u - a.2
    · rw [decide_eq_true hd]
      exact ⟨_, rfl, y_cut_ok hE h1 ⟨show u - a.2 ≤ w by omega, h3⟩⟩
    · rw [decide_eq_false hd]
      exact ⟨_, rfl, hE⟩
/-! values -/
def y_rv (ρ : List Int) (z a : YI) (h : Int) (o : Option Nat) : Prop := (y_is ρ z 1 ∧ o = none) ∨ (y_is ρ z 0 ∧ ∃ i : Nat, o = some i ∧ y_is ρ a (i : Int) ∧ (i : Int) ≤ h)
def y_v (ρ : List Int) : YV → LV → Prop
  | .inl a, .inl x => y_is ρ a x.toInt
  | .inr (.inl a), .inr (.inl x) => z_L a x
  | .inr (.inr r), .inr (.inr q) => r.1 = q.1 ∧ y_rv ρ r.2.1 r.2.2.1 r.2.2.2 q.2
  | _, _ => False
def y_s (ρ : List Int) : YStk → LStk → Prop
  | [], [] => True
  | a :: l, v :: r => y_v ρ a v ∧ y_s ρ l r
  | _, _ => False
def y_l (ρ : List Int) : YLoc → LLoc → Prop
  | [], [] => True
  | none :: l, _ :: r => y_l ρ l r
  | some a :: l, some v :: r => y_v ρ a v ∧ y_l ρ l r
  | _, _ => False
section
variable {ρ ρ' : List Int}
theorem y_rv_mono {z a : YI} {h : Int} {o : Option Nat} (hle : y_le ρ ρ') (hv : y_rv ρ z a h o) : y_rv ρ' z a h o := by
  rcases hv with ⟨h1, h2⟩ | ⟨h1, i, h2, h3, h4⟩
  · exact Or.inl ⟨y_is_mono hle h1, h2⟩
  · exact Or.inr ⟨y_is_mono hle h1, i, h2, y_is_mono hle h3, h4⟩
theorem y_v_mono {a : YV} {v : LV} (hle : y_le ρ ρ') (h : y_v ρ a v) : y_v ρ' a v := by
  rcases a with a | a | a <;> rcases v with v | v | v <;> first | exact h.elim | skip
  · exact y_is_mono hle h
  · exact h
  · exact ⟨h.1, y_rv_mono hle h.2⟩
theorem y_s_mono (hle : y_le ρ ρ') : ∀ {l : YStk} {S : LStk}, y_s ρ l S → y_s ρ' l S
  | [], [], _ => trivial
  | [], _ :: _, h => h.elim
  | _ :: _, [], h => h.elim
  | _ :: l, _ :: S, h => ⟨y_v_mono hle h.1, y_s_mono hle (l := l) (S := S) h.2⟩
theorem y_l_mono (hle : y_le ρ ρ') : ∀ {l : YLoc} {L : LLoc}, y_l ρ l L → y_l ρ' l L
  | [], [], _ => trivial
  | [], _ :: _, h => h.elim
  | none :: _, [], h => h.elim
  | some _ :: _, [], h => h.elim
  | none :: l, _ :: L, h => y_l_mono hle (l := l) (L := L) h
  | some _ :: l, none :: L, h => h.elim
  | some _ :: l, some _ :: L, h => ⟨y_v_mono hle h.1, y_l_mono hle (l := l) (L := L) h.2⟩
def y_nth : YLoc → Nat → Option YV
  | [], _ => none
  | a :: _, 0 => a
  | _ :: l, n + 1 => y_nth l n
theorem y_nth_ok : ∀ {l : YLoc} {L : LLoc} {n : Nat} {a : YV}, y_l ρ l L → y_nth l n = some a → ∃ v, qa_nth L n = some (some v) ∧ y_v ρ a v
  | none :: l, [], _, _, h, _ => h.elim
  | some _ :: l, [], _, _, h, _ => h.elim
  | none :: l, v :: L, 0, a, _, h => by cases h
  | some b :: l, none :: L, _, _, h, _ => h.elim
  | some b :: l, some v :: L, 0, a, h, e => by
    cases e
    exact ⟨v, rfl, h.1⟩
  | none :: l, v :: L, n + 1, a, h, e => y_nth_ok (l := l) (L := L) h e
  | some b :: l, some v :: L, n + 1, a, h, e => y_nth_ok (l := l) (L := L) h.2 e
def y_st1 : YLoc → Nat → YV → YLoc
  | [], _, _ => []
  | _ :: l, 0, v => some v :: l
  | a :: l, n + 1, v => (match n with | 0 => (match a with | some (.inr (.inl _)) => none | a => a) | _ + 1 => a) :: y_st1 l n v
theorem y_st1_ok : ∀ {l : YLoc} {L : LLoc} {n : Nat} {a : YV} {v : LV}, y_l ρ l L → y_v ρ a v → y_l ρ (y_st1 l n a) (qa_st1 L n v)
  | [], [], _, _, _, h, _ => h
  | [], _ :: _, _, _, _, h, _ => h.elim
  | none :: _, [], _, _, _, h, _ => h.elim
  | some _ :: _, [], _, _, _, h, _ => h.elim
  | none :: l, u :: L, 0, a, v, h, hv => ⟨hv, h⟩
  | some _ :: l, none :: L, _, _, _, h, _ => h.elim
  | some b :: l, some u :: L, 0, a, v, h, hv => ⟨hv, h.2⟩
  | none :: l, u :: L, 1, a, v, h, hv => y_st1_ok (l := l) (L := L) (n := 0) h hv
  | none :: l, u :: L, n + 2, a, v, h, hv => y_st1_ok (l := l) (L := L) (n := n + 1) h hv
  | some b :: l, some u :: L, 1, a, v, h, hv => by
    have ih := y_st1_ok (l := l) (L := L) (n := 0) h.2 hv
    rcases b with b | b | b
    · rcases u with u | u | u
      · exact ⟨h.1, ih⟩
      · exact h.1.elim
      · exact h.1.elim
    · rcases u with u | u | u
      · exact h.1.elim
      · exact ih
      · exact h.1.elim
    · rcases u with u | u | u
      · exact h.1.elim
      · exact h.1.elim
      · exact ⟨h.1, ih⟩
  | some b :: l, some u :: L, n + 2, a, v, h, hv => ⟨h.1, y_st1_ok (l := l) (L := L) (n := n + 1) h.2 hv⟩
def y_clr : YLoc → Nat → YLoc
  | [], _ => []
  | _ :: l, 0 => none :: l
  | a :: l, n + 1 => a :: y_clr l n
theorem y_clr_ok : ∀ {l : YLoc} {L : LLoc} {n : Nat}, y_l ρ l L → y_l ρ (y_clr l n) (qa_clr L n)
  | [], [], _, h => h
  | [], _ :: _, _, h => h.elim
  | none :: _, [], _, h => h.elim
  | some _ :: _, [], _, h => h.elim
  | none :: l, u :: L, 0, h => h
  | some _ :: l, none :: L, _, h => h.elim
  | some b :: l, some u :: L, 0, h => h.2
  | none :: l, u :: L, n + 1, h => y_clr_ok (l := l) (L := L) h
  | some b :: l, some u :: L, n + 1, h => ⟨h.1, y_clr_ok (l := l) (L := L) h.2⟩
def y_isL : YV → Bool
  | .inr (.inl _) => true
  | _ => false
theorem y_isL_eq {a : YV} {v : LV} (h : y_v ρ a v) : y_isL a = qa_isL v := by
  rcases a with a | a | a <;> rcases v with v | v | v <;> first | rfl | exact h.elim
def y_cat (l : YStk) : Nat := (l.map fun v => match y_isL v with | true => 2 | false => 1).sum
theorem y_cat_eq : ∀ {l : YStk} {S : LStk}, y_s ρ l S → y_cat l = qa_cat S
  | [], [], _ => rfl
  | [], _ :: _, h => h.elim
  | _ :: _, [], h => h.elim
  | a :: l, v :: S, h => by
    have ih := y_cat_eq (l := l) (S := S) h.2
    unfold y_cat qa_cat at ih ⊢
    simp only [List.map_cons, List.sum_cons]
    rw [ih, y_isL_eq h.1]
    cases qa_isL v <;> rfl
def y_split : Nat → YStk → List YV → Option (List YV × YStk)
  | 0, r, acc => some (acc, r)
  | _ + 1, [], _ => none
  | n + 1, v :: r, acc => y_split n r (v :: acc)
theorem y_split_ok : ∀ {n : Nat} {l : YStk} {S : LStk} {acc : List YV} {Acc : List LV} {al : List YV} {r : YStk}, y_s ρ l S → y_s ρ acc Acc → y_split n l acc = some (al, r) → ∃ Al Rr, qa_split n S Acc = some (Al, Rr) ∧ y_s ρ al Al ∧ y_s ρ r Rr
  | 0, l, S, acc, Acc, al, r, h, ha, e => by
    cases e
    exact ⟨Acc, S, rfl, ha, h⟩
  | n + 1, [], _, _, _, _, _, _, _, e => by cases e
  | n + 1, _ :: _, [], _, _, _, _, h, _, _ => h.elim
  | n + 1, v :: l, u :: S, acc, Acc, al, r, h, ha, e => y_split_ok (n := n) (l := l) (S := S) (acc := v :: acc) (Acc := u :: Acc) h.2 ⟨h.1, ha⟩ e
def y_exp : List YV → YLoc
  | [] => []
  | v :: l => match y_isL v with | true => some v :: none :: y_exp l | false => some v :: y_exp l
theorem y_exp_ok : ∀ {l : List YV} {S : List LV}, y_s ρ l S → y_l ρ (y_exp l) (qa_exp S)
  | [], [], _ => trivial
  | [], _ :: _, h => h.elim
  | _ :: _, [], h => h.elim
  | a :: l, v :: S, h => by
    have ih := y_exp_ok (l := l) (S := S) h.2
    unfold y_exp qa_exp
    rw [y_isL_eq h.1]
    cases qa_isL v with
    | true => exact ⟨h.1, ih⟩
    | false => exact ⟨h.1, ih⟩
theorem y_l_len : ∀ {l : YLoc} {L : LLoc}, y_l ρ l L → l.length = L.length
  | [], [], _ => rfl
  | [], _ :: _, h => h.elim
  | none :: _, [], h => h.elim
  | some _ :: _, [], h => h.elim
  | none :: l, u :: L, h => congrArg (· + 1) (y_l_len (l := l) (L := L) h)
  | some _ :: l, none :: L, h => h.elim
  | some _ :: l, some _ :: L, h => congrArg (· + 1) (y_l_len (l := l) (L := L) h.2)
theorem y_l_app : ∀ {l : YLoc} {L : LLoc} {l2 : YLoc} {L2 : LLoc}, y_l ρ l L → y_l ρ l2 L2 → y_l ρ (l ++ l2) (L ++ L2)
  | [], [], _, _, _, h2 => h2
  | [], _ :: _, _, _, h, _ => h.elim
  | none :: _, [], _, _, h, _ => h.elim
  | some _ :: _, [], _, _, h, _ => h.elim
  | none :: l, u :: L, _, _, h, h2 => y_l_app (l := l) (L := L) h h2
  | some _ :: l, none :: L, _, _, h, _ => h.elim
  | some _ :: l, some _ :: L, _, _, h, h2 => ⟨h.1, y_l_app (l := l) (L := L) h.2 h2⟩
theorem y_l_rep : ∀ n, y_l ρ (List.replicate n none) (List.replicate n none)
  | 0 => trivial
  | n + 1 => y_l_rep n
def y_mk (args : List YV) (n : Nat) : YLoc := y_exp args ++ List.replicate (n - (y_exp args).length) none
theorem y_mk_ok {l : List YV} {S : List LV} (h : y_s ρ l S) (n : Nat) : y_l ρ (y_mk l n) (qa_mk S n) := by
  unfold y_mk qa_mk
  rw [y_l_len (y_exp_ok h)]
  exact y_l_app (y_exp_ok h) (y_l_rep _)
end
