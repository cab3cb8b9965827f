/-! RUNS WITH INTS KNOWN BY BOUNDS: all ways at once. -/
abbrev ZI : Type := Int × Int
abbrev ZV : Type := ZI ⊕ (Option Int64 ⊕ (Nat × Option Nat))
abbrev ZLoc : Type := List (Option ZV)
abbrev ZStk : Type := List ZV
abbrev ZM : Type := List (Nat × Nat × Nat × ZI) × List (Nat × Nat × Nat × Option Int64)
def z_top : ZI := (-2147483648, 2147483647)
def z_in (a : ZI) (x : Int32) : Prop := a.1 ≤ x.toInt ∧ x.toInt ≤ a.2
def z_c (x : Int32) : ZI := (x.toInt, x.toInt)
theorem z_in_c (x : Int32) : z_in (z_c x) x := ⟨Int.le_refl _, Int.le_refl _⟩
theorem z_in_top (x : Int32) : z_in z_top x := ⟨Int32.le_toInt x, by have := Int32.toInt_lt x; show x.toInt ≤ 2147483647; omega⟩
def z_one (a : ZI) : Bool := decide (a.1 = a.2)
theorem z_one_eq {a : ZI} {x : Int32} (h : z_one a = true) (hx : z_in a x) : x = Int32.ofInt a.1 := by
  have h1 := of_decide_eq_true h
  have h2 : x.toInt = a.1 := by
    obtain ⟨p, q⟩ := hx
    omega
  rw [← h2]
  exact (Int32.ofInt_toInt x).symm
def z_L (a : Option Int64) (x : Int64) : Prop := ∀ b, a = some b → b = x
def z_v : ZV → LV → Prop
  | .inl a, .inl x => z_in a x
  | .inr (.inl a), .inr (.inl x) => z_L a x
  | .inr (.inr r), .inr (.inr q) => r = q
  | _, _ => False
def z_s : ZStk → LStk → Prop
  | [], [] => True
  | a :: l, v :: r => z_v a v ∧ z_s l r
  | _, _ => False
def z_l : ZLoc → LLoc → Prop
  | [], [] => True
  | none :: l, _ :: r => z_l l r
  | some a :: l, some v :: r => z_v a v ∧ z_l l r
  | _, _ => False
/-- the memory at first: what stands behind the constructors, the script's ints by bounds -/
def z_base (sc : List ZI) (k i j : Nat) : ZI := match Nat.blt k 60 with
  | true => z_c (qx_ini k i j)
  | false => match Nat.beq k 65 with
    | true => (match i with
      | 0 => sc.getD j z_top
      | 1 => (match j with | 0 => (7, 7) | _ => z_top)
      | _ => z_top)
    | false => z_top
def z_at (e : Nat × Nat × Nat) (k i j : Nat) : Bool := Nat.beq k e.1 && (Nat.beq i e.2.1 && Nat.beq j e.2.2)
theorem z_at_iff {k' i' j' k i j : Nat} : z_at (k', i', j') k i j = true ↔ k = k' ∧ i = i' ∧ j = j' := by
  unfold z_at
  simp
def z_gI (sc : List ZI) : List (Nat × Nat × Nat × ZI) → Nat → Nat → Nat → ZI
  | [], k, i, j => z_base sc k i j
  | (k', i', j', a) :: l, k, i, j => match z_at (k', i', j') k i j with | true => a | false => z_gI sc l k i j
def z_gL : List (Nat × Nat × Nat × Option Int64) → Nat → Nat → Nat → Option Int64
  | [], _, _, _ => some 0
  | (k', i', j', a) :: l, k, i, j => match z_at (k', i', j') k i j with | true => a | false => z_gL l k i j
def z_get (sc : List ZI) (m : ZM) (k i j : Nat) : ZI := z_gI sc m.1 k i j
def z_getL (m : ZM) (k i j : Nat) : Option Int64 := z_gL m.2 k i j
def z_m (sc : List ZI) (m : ZM) (w : LMem) : Prop := (∀ k i j, z_in (z_get sc m k i j) (gI w k i j)) ∧ (∀ k i j, gR w k i j = none) ∧ ∀ k i j, z_L (z_getL m k i j) (gL w k i j)
theorem z_m_sI {sc : List ZI} {m : ZM} {w : LMem} {k i j : Nat} {a : ZI} {x : Int32} (h : z_m sc m w) (ha : z_in a x) : z_m sc ((k, i, j, a) :: m.1, m.2) (sI w k i j x) := by
  refine ⟨fun k' i' j' => ?_, h.2.1, h.2.2⟩
  rw [gI_sI]
  show z_in (match z_at (k, i, j) k' i' j' with | true => a | false => z_gI sc m.1 k' i' j') _
  by_cases e : k' = k ∧ i' = i ∧ j' = j
  · rw [if_pos e, z_at_iff.mpr e]
    exact ha
  · rw [if_neg e]
    cases hb : z_at (k, i, j) k' i' j' with
    | true => exact absurd (z_at_iff.mp hb) e
    | false => exact h.1 k' i' j'
theorem z_m_sL {sc : List ZI} {m : ZM} {w : LMem} {k i j : Nat} {a : Option Int64} {x : Int64} (h : z_m sc m w) (ha : z_L a x) : z_m sc (m.1, (k, i, j, a) :: m.2) (sL w k i j x) := by
  refine ⟨h.1, h.2.1, fun k' i' j' => ?_⟩
  rw [gL_sL]
  show z_L (match z_at (k, i, j) k' i' j' with | true => a | false => z_gL m.2 k' i' j') _
  by_cases e : k' = k ∧ i' = i ∧ j' = j
  · rw [if_pos e, z_at_iff.mpr e]
    exact ha
  · rw [if_neg e]
    cases hb : z_at (k, i, j) k' i' j' with
    | true => exact absurd (z_at_iff.mp hb) e
    | false => exact h.2.2 k' i' j'
/-- a reference in place j -/
def z_R (k i j : Nat) : Option Nat := qa_srf (qa_fm k j) qx_Z k i j
theorem z_R_eq {sc : List ZI} {m : ZM} {w : LMem} (h : z_m sc m w) (k i j : Nat) : qa_rdR false w k i j = z_R k i j := by
  unfold qa_rdR z_R qa_srf
  dsimp only
  split <;> first | exact h.2.1 _ _ _ | rfl
/-- what may be of a compare -/
def z_lt (a b : ZI) : Bool := decide (a.1 < b.2)
def z_ge (a b : ZI) : Bool := decide (b.1 ≤ a.2)
def z_eq (a b : ZI) : Bool := decide (a.1 ≤ b.2) && decide (b.1 ≤ a.2)
def z_ne (a b : ZI) : Bool := !(z_one a && (z_one b && decide (a.1 = b.1)))
theorem z_lt_ok {a b : ZI} {x y : Int32} (hx : z_in a x) (hy : z_in b y) (h : x < y) : z_lt a b = true := by
  have := Int32.lt_iff_toInt_lt.mp h
  obtain ⟨p, q⟩ := hx
  obtain ⟨r, t⟩ := hy
  exact decide_eq_true (by omega)
theorem z_ge_ok {a b : ZI} {x y : Int32} (hx : z_in a x) (hy : z_in b y) (h : ¬ x < y) : z_ge a b = true := by
  have : ¬ x.toInt < y.toInt := fun q => h (Int32.lt_iff_toInt_lt.mpr q)
  obtain ⟨p, q⟩ := hx
  obtain ⟨r, t⟩ := hy
  exact decide_eq_true (by omega)
theorem z_eq_ok {a b : ZI} {x y : Int32} (hx : z_in a x) (hy : z_in b y) (h : x = y) : z_eq a b = true := by
  subst h
  obtain ⟨p, q⟩ := hx
  obtain ⟨r, t⟩ := hy
  unfold z_eq
  rw [decide_eq_true (show a.1 ≤ b.2 by omega), decide_eq_true (show b.1 ≤ a.2 by omega)]
  rfl
theorem z_ne_ok {a b : ZI} {x y : Int32} (hx : z_in a x) (hy : z_in b y) (h : ¬ x = y) : z_ne a b = true := by
  unfold z_ne
  cases hb : (z_one a && (z_one b && decide (a.1 = b.1))) with
  | false => rfl
  | true =>
    obtain ⟨q1, q2⟩ := qa_and hb
    obtain ⟨q2, q3⟩ := qa_and q2
    have e1 := z_one_eq q1 hx
    have e2 := z_one_eq q2 hy
    rw [of_decide_eq_true q3] at e1
    exact absurd (e1.trans e2.symm) h
def z_if (b : Bool) (t : Nat) : List Nat := cond b [t] []
def z_cnd (c : ClassFile.Cond) (a b : ZI) (t n : Nat) : List Nat := match c with
  | .eq => z_if (z_eq a b) t ++ z_if (z_ne a b) n
  | .ne => z_if (z_eq a b) n ++ z_if (z_ne a b) t
  | .lt => z_if (z_lt a b) t ++ z_if (z_ge a b) n
  | .ge => z_if (z_lt a b) n ++ z_if (z_ge a b) t
  | .gt => z_if (z_lt b a) t ++ z_if (z_ge b a) n
  | .le => z_if (z_lt b a) n ++ z_if (z_ge b a) t
theorem z_if1 {b : Bool} {t : Nat} {l : List Nat} (h : b = true) : t ∈ z_if b t ++ l := by
  rw [h]
  exact List.mem_cons_self
theorem z_if2 {b : Bool} {t : Nat} {l : List Nat} (h : b = true) : t ∈ l ++ z_if b t := by
  rw [h]
  exact List.mem_append_right _ List.mem_cons_self
theorem z_cnd_ok {K : Nat → Prop} {c : ClassFile.Cond} {a b : ZI} {x y : Int32} {t n : Nat} (hx : z_in a x) (hy : z_in b y) (h : ∀ q ∈ z_cnd c a b t n, K q) : qa_jmp K (qa_cnd c x y t n).1 (qa_cnd c x y t n).2 := by
  cases c
  · exact ⟨fun e => h _ (z_if1 (z_eq_ok hx hy e)), fun e => h _ (z_if2 (z_ne_ok hx hy e))⟩
  · exact ⟨fun e => h _ (z_if1 (z_eq_ok hx hy e)), fun e => h _ (z_if2 (z_ne_ok hx hy e))⟩
  · exact ⟨fun e => h _ (z_if1 (z_lt_ok hx hy e)), fun e => h _ (z_if2 (z_ge_ok hx hy e))⟩
  · exact ⟨fun e => h _ (z_if1 (z_lt_ok hx hy e)), fun e => h _ (z_if2 (z_ge_ok hx hy e))⟩
  · exact ⟨fun e => h _ (z_if1 (z_lt_ok hy hx e)), fun e => h _ (z_if2 (z_ge_ok hy hx e))⟩
  · exact ⟨fun e => h _ (z_if1 (z_lt_ok hy hx e)), fun e => h _ (z_if2 (z_ge_ok hy hx e))⟩
def z_sw (a : ZI) : List (Int32 × Nat) → Nat → List Nat
  | [], d => [d]
  | (k, t) :: l, d => z_if (z_eq a (z_c k)) t ++ cond (z_ne a (z_c k)) (z_sw a l d) []
theorem z_sw_ok {K : Nat → Prop} {a : ZI} {x : Int32} {d : Nat} (hx : z_in a x) : ∀ (l : List (Int32 × Nat)), (∀ q ∈ z_sw a l d, K q) → qa_jmp K (qa_swl x l) d
  | [], h => h d List.mem_cons_self
  | (k, t) :: l, h => by
    refine ⟨fun e => h _ (z_if1 (z_eq_ok hx (z_in_c k) e)), fun e => z_sw_ok hx l (fun q hq => h q ?_)⟩
    unfold z_sw
    rw [z_ne_ok hx (z_in_c k) e]
    exact List.mem_append_right _ hq
/-- two ints -/
def z_op (f : Int32 → Int32 → Int32) (a b : ZI) : ZI := cond (z_one a && z_one b) (z_c (f (Int32.ofInt a.1) (Int32.ofInt b.1))) z_top
theorem z_op_ok {f : Int32 → Int32 → Int32} {a b : ZI} {x y : Int32} (hx : z_in a x) (hy : z_in b y) : z_in (z_op f a b) (f x y) := by
  unfold z_op
  cases hb : (z_one a && z_one b) with
  | false => exact z_in_top _
  | true =>
    obtain ⟨q1, q2⟩ := qa_and hb
    rw [z_one_eq q1 hx, z_one_eq q2 hy]
    exact z_in_c _
def z_op1 (f : Int32 → Int32) (a : ZI) : ZI := cond (z_one a) (z_c (f (Int32.ofInt a.1))) z_top
theorem z_op1_ok {f : Int32 → Int32} {a : ZI} {x : Int32} (hx : z_in a x) : z_in (z_op1 f a) (f x) := by
  unfold z_op1
  cases hb : z_one a with
  | false => exact z_in_top _
  | true =>
    rw [z_one_eq hb hx]
    exact z_in_c _
def z_nth : ZLoc → Nat → Option ZV
  | [], _ => none
  | a :: _, 0 => a
  | _ :: l, n + 1 => z_nth l n
theorem z_nth_ok : ∀ {l : ZLoc} {L : LLoc} {n : Nat} {a : ZV}, z_l l L → z_nth l n = some a → ∃ v, qa_nth L n = some (some v) ∧ z_v a v
  | none :: l, [], _, _, h, _ => h.elim
  | some _ :: l, [], _, _, h, _ => h.elim
  | none :: l, v :: L, 0, a, _, h => by cases h
  | some b :: l, none :: L, _, _, h, _ => h.elim
  | some b :: l, some v :: L, 0, a, h, e => by
    cases e
    exact ⟨v, rfl, h.1⟩
  | none :: l, v :: L, n + 1, a, h, e => z_nth_ok (l := l) (L := L) h e
  | some b :: l, some v :: L, n + 1, a, h, e => z_nth_ok (l := l) (L := L) h.2 e
def z_st1 : ZLoc → Nat → ZV → ZLoc
  | [], _, _ => []
  | _ :: l, 0, v => some v :: l
  | a :: l, n + 1, v => (match n with | 0 => (match a with | some (.inr (.inl _)) => none | a => a) | _ + 1 => a) :: z_st1 l n v
theorem z_st1_ok : ∀ {l : ZLoc} {L : LLoc} {n : Nat} {a : ZV} {v : LV}, z_l l L → z_v a v → z_l (z_st1 l n a) (qa_st1 L n v)
  | [], [], _, _, _, h, _ => h
  | [], _ :: _, _, _, _, h, _ => h.elim
  | none :: _, [], _, _, _, h, _ => h.elim
  | some _ :: _, [], _, _, _, h, _ => h.elim
  | none :: l, u :: L, 0, a, v, h, hv => ⟨hv, h⟩
  | some _ :: l, none :: L, _, _, _, h, _ => h.elim
  | some b :: l, some u :: L, 0, a, v, h, hv => ⟨hv, h.2⟩
  | none :: l, u :: L, 1, a, v, h, hv => z_st1_ok (l := l) (L := L) (n := 0) h hv
  | none :: l, u :: L, n + 2, a, v, h, hv => z_st1_ok (l := l) (L := L) (n := n + 1) h hv
  | some b :: l, some u :: L, 1, a, v, h, hv => by
    have ih := z_st1_ok (l := l) (L := L) (n := 0) h.2 hv
    rcases b with b | b | b
    · rcases u with u | u | u
      · exact ⟨h.1, ih⟩
      · exact h.1.elim
      · exact h.1.elim
    · rcases u with u | u | u
      · exact h.1.elim
      · exact ih
      · exact h.1.elim
    · rcases u with u | u | u
      · exact h.1.elim
      · exact h.1.elim
      · exact ⟨h.1, ih⟩
  | some b :: l, some u :: L, n + 2, a, v, h, hv => ⟨h.1, z_st1_ok (l := l) (L := L) (n := n + 1) h.2 hv⟩
def z_clr : ZLoc → Nat → ZLoc
  | [], _ => []
  | _ :: l, 0 => none :: l
  | a :: l, n + 1 => a :: z_clr l n
theorem z_clr_ok : ∀ {l : ZLoc} {L : LLoc} {n : Nat}, z_l l L → z_l (z_clr l n) (qa_clr L n)
  | [], [], _, h => h
  | [], _ :: _, _, h => h.elim
  | none :: _, [], _, h => h.elim
  | some _ :: _, [], _, h => h.elim
  | none :: l, u :: L, 0, h => h
  | some _ :: l, none :: L, _, h => h.elim
  | some b :: l, some u :: L, 0, h => h.2
  | none :: l, u :: L, n + 1, h => z_clr_ok (l := l) (L := L) h
  | some b :: l, some u :: L, n + 1, h => ⟨h.1, z_clr_ok (l := l) (L := L) h.2⟩
def z_isL : ZV → Bool
  | .inr (.inl _) => true
  | _ => false
theorem z_isL_eq {a : ZV} {v : LV} (h : z_v a v) : z_isL a = qa_isL v := by
  rcases a with a | a | a <;> rcases v with v | v | v <;> first | rfl | exact h.elim
def z_cat (l : ZStk) : Nat := (l.map fun v => match z_isL v with | true => 2 | false => 1).sum
theorem z_cat_eq : ∀ {l : ZStk} {S : LStk}, z_s l S → z_cat l = qa_cat S
  | [], [], _ => rfl
  | [], _ :: _, h => h.elim
  | _ :: _, [], h => h.elim
  | a :: l, v :: S, h => by
    have ih := z_cat_eq (l := l) (S := S) h.2
    unfold z_cat qa_cat at ih ⊢
    simp only [List.map_cons, List.sum_cons]
    rw [ih, z_isL_eq h.1]
    cases qa_isL v <;> rfl
def z_split : Nat → ZStk → List ZV → Option (List ZV × ZStk)
  | 0, r, acc => some (acc, r)
  | _ + 1, [], _ => none
  | n + 1, v :: r, acc => z_split n r (v :: acc)
theorem z_split_ok : ∀ {n : Nat} {l : ZStk} {S : LStk} {acc : List ZV} {Acc : List LV} {al : List ZV} {r : ZStk}, z_s l S → z_s acc Acc → z_split n l acc = some (al, r) → ∃ Al Rr, qa_split n S Acc = some (Al, Rr) ∧ z_s al Al ∧ z_s r Rr
  | 0, l, S, acc, Acc, al, r, h, ha, e => by
    cases e
    exact ⟨Acc, S, rfl, ha, h⟩
  | n + 1, [], _, _, _, _, _, _, _, e => by cases e
  | n + 1, _ :: _, [], _, _, _, _, h, _, _ => h.elim
  | n + 1, v :: l, u :: S, acc, Acc, al, r, h, ha, e => z_split_ok (n := n) (l := l) (S := S) (acc := v :: acc) (Acc := u :: Acc) h.2 ⟨h.1, ha⟩ e
def z_exp : List ZV → ZLoc
  | [] => []
  | v :: l => match z_isL v with | true => some v :: none :: z_exp l | false => some v :: z_exp l
theorem z_exp_ok : ∀ {l : List ZV} {S : List LV}, z_s l S → z_l (z_exp l) (qa_exp S)
  | [], [], _ => trivial
  | [], _ :: _, h => h.elim
  | _ :: _, [], h => h.elim
  | a :: l, v :: S, h => by
    have ih := z_exp_ok (l := l) (S := S) h.2
    unfold z_exp qa_exp
    rw [z_isL_eq h.1]
    cases qa_isL v with
    | true => exact ⟨h.1, ih⟩
    | false => exact ⟨h.1, ih⟩
theorem z_l_len : ∀ {l : ZLoc} {L : LLoc}, z_l l L → l.length = L.length
  | [], [], _ => rfl
  | [], _ :: _, h => h.elim
  | none :: _, [], h => h.elim
  | some _ :: _, [], h => h.elim
  | none :: l, u :: L, h => congrArg (· + 1) (z_l_len (l := l) (L := L) h)
  | some _ :: l, none :: L, h => h.elim
  | some _ :: l, some _ :: L, h => congrArg (· + 1) (z_l_len (l := l) (L := L) h.2)
theorem z_l_app : ∀ {l : ZLoc} {L : LLoc} {l2 : ZLoc} {L2 : LLoc}, z_l l L → z_l l2 L2 → z_l (l ++ l2) (L ++ L2)
  | [], [], _, _, _, h2 => h2
  | [], _ :: _, _, _, h, _ => h.elim
  | none :: _, [], _, _, h, _ => h.elim
  | some _ :: _, [], _, _, h, _ => h.elim
  | none :: l, u :: L, _, _, h, h2 => z_l_app (l := l) (L := L) h h2
  | some _ :: l, none :: L, _, _, h, _ => h.elim
  | some _ :: l, some _ :: L, _, _, h, h2 => ⟨h.1, z_l_app (l := l) (L := L) h.2 h2⟩
theorem z_l_rep : ∀ n, z_l (List.replicate n none) (List.replicate n none)
  | 0 => trivial
  | n + 1 => z_l_rep n
def z_mk (args : List ZV) (n : Nat) : ZLoc := z_exp args ++ List.replicate (n - (z_exp args).length) none
theorem z_mk_ok {l : List ZV} {S : List LV} (h : z_s l S) (n : Nat) : z_l (z_mk l n) (qa_mk S n) := by
  unfold z_mk qa_mk
  rw [z_l_len (z_exp_ok h)]
  exact z_l_app (z_exp_ok h) (z_l_rep _)
