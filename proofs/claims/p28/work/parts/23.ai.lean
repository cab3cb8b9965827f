/-! ONE STEP, BY BOUNDS. -/
abbrev ZT : Type := Nat × Nat × Nat × ZLoc × ZStk × ZM
abbrev ZN : Type := List ZT ⊕ ((Nat × Nat × Nat × List ZV × Nat × Nat × Nat × ZLoc × ZStk × ZM) ⊕ (Option ZV × ZM))
abbrev zI (a : ZI) : ZV := .inl a
abbrev zL (a : Option Int64) : ZV := .inr (.inl a)
abbrev zR (k : Nat) (o : Option Nat) : ZV := .inr (.inr (k, o))
def z_o : Option ZV → Option LV → Prop
  | none, none => True
  | some a, some v => z_v a v
  | _, _ => False
def z_rel (sc : List ZI) : ZN → LNx → Prop
  | .inl ts, nx => ∀ (X : Nat → Nat → Nat → LLoc → LStk → LMem → Prop) (C : Nat → List LV → LMem → LPost → Prop) (Q : LPost), (∀ t ∈ ts, ∀ L S s, z_l t.2.2.2.1 L → z_s t.2.2.2.2.1 S → z_m sc t.2.2.2.2.2 s → X t.1 t.2.1 t.2.2.1 L S s) → qa_sem X C Q nx
  | .inr (.inl t), nx => qa_gd nx.1 True ∧ ∃ A L S s, nx.2 = .inr (.inr (.inl (t.1, t.2.1, t.2.2.1, A, t.2.2.2.2.1, t.2.2.2.2.2.1, t.2.2.2.2.2.2.1, L, S, s))) ∧ z_s t.2.2.2.1 A ∧ z_l t.2.2.2.2.2.2.2.1 L ∧ z_s t.2.2.2.2.2.2.2.2.1 S ∧ z_m sc t.2.2.2.2.2.2.2.2.2 s
  | .inr (.inr o), nx => qa_gd nx.1 True ∧ ∃ r s, nx.2 = .inr (.inr (.inr (r, s))) ∧ z_o o.1 r ∧ z_m sc o.2 s
theorem z_gd {g : Option Prop} {P : Prop} (hg : qa_gd g True) (h : P) : qa_gd g P := by
  cases g with
  | none => exact h
  | some g => exact ⟨hg.1, h⟩
theorem z_g1 {p : Prop} (h : p) : qa_gd (some p) True := ⟨h, trivial⟩
theorem z_g0 : qa_gd none True := trivial
theorem z_both {a b : Option Prop} (h1 : qa_gd a True) (h2 : qa_gd b True) : qa_gd (qa_both a b) True := by
  cases a with
  | none => exact h2
  | some a => cases b with
    | none => exact h1
    | some b => exact ⟨⟨h1.1, h2.1⟩, trivial⟩
theorem z_ga {g : Option Prop} {p : Prop} (h1 : qa_gd g True) (h2 : p) : qa_gd (qa_ga g p) True := by
  cases g with
  | none => exact ⟨h2, trivial⟩
  | some a => exact ⟨⟨h1.1, h2⟩, trivial⟩
def z_ck (b : Bool) (x : Option ZN) : Option ZN := cond b x none
theorem z_ck_ok {b : Bool} {x : Option ZN} {zn : ZN} (h : z_ck b x = some zn) : b = true ∧ x = some zn := by
  cases b with
  | true => exact ⟨rfl, h⟩
  | false => cases h
def z_go (bc bs pc : Nat) (loc : ZLoc) (st : ZStk) (m : ZM) : Option ZN := some (.inl [(bc, bs, pc, loc, st, m)])
def z_br (l : List Nat) (bc bs : Nat) (loc : ZLoc) (st : ZStk) (m : ZM) : Option ZN := some (.inl (l.map fun pc => (bc, bs, pc, loc, st, m)))
section ZS
variable {sc : List ZI} {loc : ZLoc} {L : LLoc} {st r : ZStk} {S R : LStk} {m : ZM} {s : LMem} {zn : ZN} {bc bs pc : Nat}
theorem z_gg_ok {g : Option Prop} (h : z_go bc bs pc loc st m = some zn) (hg : qa_gd g True) (hl : z_l loc L) (hs : z_s st S) (hm : z_m sc m s) : z_rel sc zn (qa_gg g bc bs pc L S s) := by
  cases h
  intro X C Q hX
  exact z_gd hg (hX _ List.mem_cons_self _ _ _ hl hs hm)
theorem z_go_ok (h : z_go bc bs pc loc st m = some zn) (hl : z_l loc L) (hs : z_s st S) (hm : z_m sc m s) : z_rel sc zn (qa_go bc bs pc L S s) := z_gg_ok (g := none) h trivial hl hs hm
theorem z_br_ok {c : List (Prop × Nat) × Nat} {l : List Nat} (h : z_br l bc bs loc st m = some zn) (hc : ∀ K : Nat → Prop, (∀ q ∈ l, K q) → qa_jmp K c.1 c.2) (hl : z_l loc L) (hs : z_s st S) (hm : z_m sc m s) : z_rel sc zn (qa_br c bc bs L S s) := by
  cases h
  intro X C Q hX
  exact hc (fun pc => X bc bs pc L S s) (fun q hq => hX (bc, bs, q, loc, st, m) (List.mem_map.mpr ⟨q, hq, rfl⟩) _ _ _ hl hs hm)
theorem z_nl_ok {o : Option Nat} {t d : Nat} (hl : z_l loc L) (hs : z_s st S) (hm : z_m sc m s) (h : z_go bc bs (match o with | none => t | some _ => d) loc st m = some zn) : z_rel sc zn (qa_nl o t d bc bs L S s) := by
  cases h
  intro X C Q hX
  have := hX _ List.mem_cons_self _ _ _ hl hs hm
  cases o with
  | none => exact this
  | some i => exact this
def z1I (st : ZStk) (K : ZI → ZStk → Option ZN) : Option ZN := match st with | .inl a :: r => K a r | _ => none
def z1L (st : ZStk) (K : Option Int64 → ZStk → Option ZN) : Option ZN := match st with | .inr (.inl a) :: r => K a r | _ => none
def z1R (st : ZStk) (K : Nat → Option Nat → ZStk → Option ZN) : Option ZN := match st with | .inr (.inr (k, o)) :: r => K k o r | _ => none
theorem z1I_ok {K : ZI → ZStk → Option ZN} {K' : Int32 → LStk → LNx} (hS : z_s st S) (h : z1I st K = some zn) (hK : ∀ a x r R, z_in a x → z_s r R → K a r = some zn → z_rel sc zn (K' x R)) : z_rel sc zn (qa_s1I s S K') := by
  rcases st with _ | ⟨a | a | a, r⟩
  · cases h
  · rcases S with _ | ⟨v | v | v, R⟩
    · exact hS.elim
    · exact hK a v r R hS.1 hS.2 h
    · exact hS.1.elim
    · exact hS.1.elim
  · cases h
  · cases h
theorem z1L_ok {K : Option Int64 → ZStk → Option ZN} {K' : Int64 → LStk → LNx} (hS : z_s st S) (h : z1L st K = some zn) (hK : ∀ a x r R, z_L a x → z_s r R → K a r = some zn → z_rel sc zn (K' x R)) : z_rel sc zn (qa_s1L s S K') := by
  rcases st with _ | ⟨a | a | a, r⟩
  · cases h
  · cases h
  · rcases S with _ | ⟨v | v | v, R⟩
    · exact hS.elim
    · exact hS.1.elim
    · exact hK a v r R hS.1 hS.2 h
    · exact hS.1.elim
  · cases h
theorem z1R_ok {K : Nat → Option Nat → ZStk → Option ZN} {K' : Nat → Option Nat → LStk → LNx} (hS : z_s st S) (h : z1R st K = some zn) (hK : ∀ k o r R, z_s r R → K k o r = some zn → z_rel sc zn (K' k o R)) : z_rel sc zn (qa_s1R s S K') := by
  rcases st with _ | ⟨a | a | ⟨k, o⟩, r⟩
  · cases h
  · cases h
  · cases h
  · rcases S with _ | ⟨v | v | v, R⟩
    · exact hS.elim
    · exact hS.1.elim
    · exact hS.1.elim
    · have e : (k, o) = v := hS.1
      subst e
      exact hK k o r R hS.2 h
theorem z_s2I_eq {K : Int32 → Int32 → LStk → LNx} : qa_s2I s S K = qa_s1I s S fun b r => qa_s1I s r fun a r => K b a r := by
  rcases S with _ | ⟨_ | _ | _, _ | ⟨_ | _ | _, R⟩⟩ <;> rfl
theorem z_s2L_eq {K : Int64 → Int64 → LStk → LNx} : qa_s2L s S K = qa_s1L s S fun b r => qa_s1L s r fun a r => K b a r := by
  rcases S with _ | ⟨_ | _ | _, _ | ⟨_ | _ | _, R⟩⟩ <;> rfl
theorem z_sIL_eq {K : Int32 → Int64 → LStk → LNx} : qa_sIL s S K = qa_s1I s S fun b r => qa_s1L s r fun a r => K b a r := by
  rcases S with _ | ⟨_ | _ | _, _ | ⟨_ | _ | _, R⟩⟩ <;> rfl
theorem z_sIR_eq {K : Int32 → Nat → Option Nat → LStk → LNx} : qa_sIR s S K = qa_s1I s S fun b r => qa_s1R s r fun k o r => K b k o r := by
  rcases S with _ | ⟨_ | _ | _, _ | ⟨_ | _ | _, R⟩⟩ <;> rfl
theorem z_sLR_eq {K : Int64 → Nat → Option Nat → LStk → LNx} : qa_sLR s S K = qa_s1L s S fun b r => qa_s1R s r fun k o r => K b k o r := by
  rcases S with _ | ⟨_ | _ | _, _ | ⟨_ | _ | _, R⟩⟩ <;> rfl
theorem z_sIIR_eq {K : Int32 → Int32 → Nat → Option Nat → LStk → LNx} : qa_sIIR s S K = qa_s1I s S fun x r => qa_s1I s r fun b r => qa_s1R s r fun k o r => K x b k o r := by
  rcases S with _ | ⟨_ | _ | _, _ | ⟨_ | _ | _, _ | ⟨_ | _ | _, R⟩⟩⟩ <;> rfl
theorem z_sLIR_eq {K : Int64 → Int32 → Nat → Option Nat → LStk → LNx} : qa_sLIR s S K = qa_s1L s S fun x r => qa_s1I s r fun b r => qa_s1R s r fun k o r => K x b k o r := by
  rcases S with _ | ⟨_ | _ | _, _ | ⟨_ | _ | _, _ | ⟨_ | _ | _, R⟩⟩⟩ <;> rfl
def zldI (loc : ZLoc) (n : Nat) (K : ZI → Option ZN) : Option ZN := match z_nth loc n with | some (.inl a) => K a | _ => none
def zldL (loc : ZLoc) (n : Nat) (K : Option Int64 → Option ZN) : Option ZN := match z_nth loc n with | some (.inr (.inl a)) => K a | _ => none
def zldR (loc : ZLoc) (n : Nat) (K : Nat → Option Nat → Option ZN) : Option ZN := match z_nth loc n with | some (.inr (.inr (k, o))) => K k o | _ => none
theorem zldI_ok {n : Nat} {K : ZI → Option ZN} {K' : Int32 → LNx} (hl : z_l loc L) (h : zldI loc n K = some zn) (hK : ∀ a x, z_in a x → K a = some zn → z_rel sc zn (K' x)) : z_rel sc zn (qa_ldI s L n K') := by
  unfold zldI at h
  cases e : z_nth loc n with
  | none => rw [e] at h; cases h
  | some a =>
    obtain ⟨v, e2, hv⟩ := z_nth_ok hl e
    rw [e] at h
    unfold qa_ldI
    rw [e2]
    rcases a with a | a | a
    · rcases v with v | v | v
      · exact hK a v hv h
      · exact hv.elim
      · exact hv.elim
    · cases h
    · cases h
theorem zldL_ok {n : Nat} {K : Option Int64 → Option ZN} {K' : Int64 → LNx} (hl : z_l loc L) (h : zldL loc n K = some zn) (hK : ∀ a x, z_L a x → K a = some zn → z_rel sc zn (K' x)) : z_rel sc zn (qa_ldL s L n K') := by
  unfold zldL at h
  cases e : z_nth loc n with
  | none => rw [e] at h; cases h
  | some a =>
    obtain ⟨v, e2, hv⟩ := z_nth_ok hl e
    rw [e] at h
    unfold qa_ldL
    rw [e2]
    rcases a with a | a | a
    · cases h
    · rcases v with v | v | v
      · exact hv.elim
      · exact hK a v hv h
      · exact hv.elim
    · cases h
theorem zldR_ok {n : Nat} {K : Nat → Option Nat → Option ZN} {K' : Nat → Option Nat → LNx} (hl : z_l loc L) (h : zldR loc n K = some zn) (hK : ∀ k o, K k o = some zn → z_rel sc zn (K' k o)) : z_rel sc zn (qa_ldR s L n K') := by
  unfold zldR at h
  cases e : z_nth loc n with
  | none => rw [e] at h; cases h
  | some a =>
    obtain ⟨v, e2, hv⟩ := z_nth_ok hl e
    rw [e] at h
    unfold qa_ldR
    rw [e2]
    rcases a with a | a | ⟨k, o⟩
    · cases h
    · cases h
    · rcases v with v | v | v
      · exact hv.elim
      · exact hv.elim
      · have e : (k, o) = v := hv
        subst e
        exact hK k o h
/-- longs -/
def z_opL (f : Int64 → Int64 → Int64) (a b : Option Int64) : Option Int64 := match a, b with | some a, some b => some (f a b) | _, _ => none
theorem z_opL_ok {f : Int64 → Int64 → Int64} {a b : Option Int64} {x y : Int64} (hx : z_L a x) (hy : z_L b y) : z_L (z_opL f a b) (f x y) := by
  intro c hc
  cases a with
  | none => cases hc
  | some a => cases b with
    | none => cases hc
    | some b =>
      cases hc
      rw [hx a rfl, hy b rfl]
def z_nzL (b : Option Int64) : Bool := match b with | some b => !decide (b = 0) | none => false
theorem z_nzL_ok {b : Option Int64} {y : Int64} (hy : z_L b y) (h : z_nzL b = true) : ¬ y = 0 := by
  cases b with
  | none => cases h
  | some b =>
    rw [← hy b rfl]
    intro e
    have h : (!decide (b = 0)) = true := h
    rw [decide_eq_true e] at h
    cases h
def z_shL (f : Int64 → Int32 → Int64) (a : Option Int64) (b : ZI) : Option Int64 := match a with | some a => cond (z_one b) (some (f a (Int32.ofInt b.1))) none | none => none
theorem z_shL_ok {f : Int64 → Int32 → Int64} {a : Option Int64} {b : ZI} {x : Int64} {y : Int32} (hx : z_L a x) (hy : z_in b y) : z_L (z_shL f a b) (f x y) := by
  intro c hc
  cases a with
  | none => cases hc
  | some a =>
    cases hb : z_one b with
    | false => unfold z_shL at hc; rw [hb] at hc; cases hc
    | true =>
      unfold z_shL at hc
      rw [hb] at hc
      cases hc
      rw [hx a rfl, z_one_eq hb hy]
def z_cmpL (f : Int64 → Int64 → Int32) (a b : Option Int64) : ZI := match a, b with | some a, some b => z_c (f a b) | _, _ => z_top
theorem z_cmpL_ok {f : Int64 → Int64 → Int32} {a b : Option Int64} {x y : Int64} (hx : z_L a x) (hy : z_L b y) : z_in (z_cmpL f a b) (f x y) := by
  cases a with
  | none => exact z_in_top _
  | some a => cases b with
    | none => exact z_in_top _
    | some b =>
      rw [← hx a rfl, ← hy b rfl]
      exact z_in_c _
def z_i2l (a : ZI) : Option Int64 := cond (z_one a) (some (Int32.ofInt a.1).toInt64) none
theorem z_i2l_ok {a : ZI} {x : Int32} (hx : z_in a x) : z_L (z_i2l a) x.toInt64 := by
  intro c hc
  unfold z_i2l at hc
  cases hb : z_one a with
  | false => rw [hb] at hc; cases hc
  | true =>
    rw [hb] at hc
    cases hc
    rw [z_one_eq hb hx]
def z_l2i (a : Option Int64) : ZI := match a with | some a => z_c a.toInt32 | none => z_top
theorem z_l2i_ok {a : Option Int64} {x : Int64} (hx : z_L a x) : z_in (z_l2i a) x.toInt32 := by
  cases a with
  | none => exact z_in_top _
  | some a =>
    rw [← hx a rfl]
    exact z_in_c _
def z_nz (b : ZI) : Bool := decide (0 < b.1) || decide (b.2 < 0)
theorem z_nz_ok {b : ZI} {y : Int32} (hy : z_in b y) (h : z_nz b = true) : ¬ y = 0 := by
  rintro rfl
  obtain ⟨p, q⟩ := hy
  have p : b.1 ≤ 0 := p
  have q : 0 ≤ b.2 := q
  rcases Bool.or_eq_true _ _ |>.mp h with h | h <;> (have := of_decide_eq_true h; omega)
/-- places of arrays -/
def z_vin (a : ZI) (n : Nat) : Bool := decide (0 ≤ a.1) && decide (a.2 < (n : Int))
theorem z_vin_ok {a : ZI} {x : Int32} {n : Nat} (hx : z_in a x) (h : z_vin a n = true) : qa_vin x n := by
  obtain ⟨h1, h2⟩ := qa_and h
  have h1 := of_decide_eq_true h1
  have h2 := of_decide_eq_true h2
  obtain ⟨p, q⟩ := hx
  rintro (h | h)
  · have : x.toInt < 0 := Int32.lt_iff_toInt_lt.mp h
    omega
  · have : n ≤ x.toInt.toNat := h
    omega
def z_ix (a : ZI) : Nat := (Int32.ofInt a.1).toNatClampNeg
theorem z_ix_eq {a : ZI} {x : Int32} (h : z_one a = true) (hx : z_in a x) : x.toNatClampNeg = z_ix a := by
  unfold z_ix
  rw [← z_one_eq h hx]
def z_ld (sc : List ZI) (m : ZM) (k i : Nat) (a : ZI) : ZI := cond (z_one a) (z_get sc m k i (z_ix a)) z_top
theorem z_ld_ok {k i : Nat} {a : ZI} {x : Int32} (hm : z_m sc m s) (hx : z_in a x) : z_in (z_ld sc m k i a) (gI s k i x.toNatClampNeg) := by
  unfold z_ld
  cases hb : z_one a with
  | false => exact z_in_top _
  | true =>
    rw [z_ix_eq hb hx]
    exact hm.1 _ _ _
def z_lds (k : Nat) (a : ZI) : ZI := cond (z_one a) (z_c (qa_stc k (z_ix a))) z_top
theorem z_lds_ok {k : Nat} {a : ZI} {x : Int32} (hx : z_in a x) : z_in (z_lds k a) (qa_stc k x.toNatClampNeg) := by
  unfold z_lds
  cases hb : z_one a with
  | false => exact z_in_top _
  | true =>
    rw [z_ix_eq hb hx]
    exact z_in_c _
def z_ldL (m : ZM) (k i : Nat) (a : ZI) : Option Int64 := cond (z_one a) (z_getL m k i (z_ix a)) none
theorem z_ldL_ok {k i : Nat} {a : ZI} {x : Int32} (hm : z_m sc m s) (hx : z_in a x) : z_L (z_ldL m k i a) (gL s k i x.toNatClampNeg) := by
  unfold z_ldL
  cases hb : z_one a with
  | false => exact fun c hc => by cases hc
  | true =>
    rw [z_ix_eq hb hx]
    exact hm.2.2 _ _ _
def z_rdV (sc : List ZI) (m : ZM) (k i j : Nat) : ZV := match qa_tg k j with
  | 0 => zI (z_get sc m k i j)
  | 1 => zI (z_get sc m k i j)
  | 2 => zL (z_getL m k i j)
  | _ => zR (qa_tk k j) (z_R k i j)
theorem z_rdV_ok {k i j : Nat} (hm : z_m sc m s) : z_v (z_rdV sc m k i j) (qa_rdV false s k i j) := by
  unfold z_rdV qa_rdV
  rw [z_R_eq hm]
  rcases qa_tg k j with _ | _ | _ | t
  · exact hm.1 _ _ _
  · exact hm.1 _ _ _
  · exact hm.2.2 _ _ _
  · exact rfl
def z_len (sc : List ZI) (m : ZM) : Option Nat := cond (z_one (z_get sc m 65 1 0)) (some (z_ix (z_get sc m 65 1 0))) none
/-- calls -/
def z_pay (cc cs bc bs : Nat) (K : Nat → Nat → Option ZN) : Option ZN := match Nat.beq cc 0 with
  | true => K bc bs
  | false => z_ck (Nat.ble cc bc && Nat.ble cs bs) (K (bc - cc) (bs - cs))
def z_call (virt rk c rt k cc cs : Nat) (al : List ZV × ZStk) (bc bs pc : Nat) (loc : ZLoc) (m : ZM) : Option ZN :=
  z_ck (Nat.ble (z_cat al.2) 8) (z_pay cc cs bc bs fun bc' bs' => match virt with
    | 0 => some (.inr (.inl (c, rt, k, al.1, bc', bs', pc, loc, al.2, m)))
    | _ => (match al.1 with
      | .inr (.inr (k', some o)) :: l => z_ck (Nat.beq k' rk) (some (.inr (.inl (c, rt, k, zR rk (some o) :: l, bc', bs', pc, loc, al.2, m))))
      | _ => none))
def z_inv2 (x : List Nat) (st : ZStk) (bc bs pc : Nat) (loc : ZLoc) (m : ZM) : Option ZN := match x with
  | [c, na, virt, rk, rt, k, cc, cs] => (match z_split na st [] with
      | some al => z_call virt rk c rt k cc cs al bc bs pc loc m
      | none => none)
  | _ => none
theorem z_if_rel {b : Bool} {nx : LNx} (h1 : b = true) (h : z_rel sc zn nx) : z_rel sc zn (qa_if b s nx) := by
  rw [h1]
  exact h
theorem z_pay_ok {cc cs : Nat} {K : Nat → Nat → Option ZN} {K' : Option Prop → Nat → Nat → LNx} (h : z_pay cc cs bc bs K = some zn) (hK : ∀ g bc bs, qa_gd g True → K bc bs = some zn → z_rel sc zn (K' g bc bs)) : z_rel sc zn (qa_pay cc cs bc bs K') := by
  unfold z_pay at h
  unfold qa_pay
  cases e : Nat.beq cc 0 with
  | true =>
    rw [e] at h
    exact hK none _ _ trivial h
  | false =>
    rw [e] at h
    obtain ⟨h1, h2⟩ := z_ck_ok h
    obtain ⟨h3, h4⟩ := qa_and h1
    exact hK _ _ _ ⟨⟨Nat.le_of_ble_eq_true h3, Nat.le_of_ble_eq_true h4⟩, trivial⟩ h2
theorem z_call_ok {virt rk c rt k cc cs : Nat} {al : List ZV × ZStk} {Al : List LV × LStk} (ha : z_s al.1 Al.1) (hr : z_s al.2 Al.2) (hl : z_l loc L) (hm : z_m sc m s) (h : z_call virt rk c rt k cc cs al bc bs pc loc m = some zn) : z_rel sc zn (qa_call virt rk c rt k cc cs Al bc bs pc L s) := by
  obtain ⟨h1, h2⟩ := z_ck_ok h
  rw [z_cat_eq hr] at h1
  refine z_if_rel h1 (z_pay_ok h2 fun g bc' bs' hg h3 => ?_)
  cases virt with
  | zero =>
    cases h3
    exact ⟨hg, Al.1, L, Al.2, s, rfl, ha, hl, hr, hm⟩
  | succ v =>
    obtain ⟨al1, al2⟩ := al
    obtain ⟨Al1, Al2⟩ := Al
    rcases al1 with _ | ⟨a | a | ⟨k', o⟩, l⟩
    · cases h3
    · cases h3
    · cases h3
    · cases o with
      | none => cases h3
      | some o =>
        rcases Al1 with _ | ⟨u | u | u, R1⟩
        · exact ha.elim
        · exact ha.1.elim
        · exact ha.1.elim
        · have e : (k', some o) = u := ha.1
          subst e
          obtain ⟨h4, h5⟩ := z_ck_ok h3
          refine z_if_rel h4 ?_
          cases h5
          exact ⟨z_both hg trivial, lR rk (some o) :: R1, L, Al2, s, rfl, ⟨rfl, ha.2⟩, hl, hr, hm⟩
theorem z_inv2_ok {x : List Nat} (hl : z_l loc L) (hs : z_s st S) (hm : z_m sc m s) (h : z_inv2 x st bc bs pc loc m = some zn) : z_rel sc zn (qa_inv2 x S bc bs pc L s) := by
  rcases x with _ | ⟨c, _ | ⟨na, _ | ⟨virt, _ | ⟨rk, _ | ⟨rt, _ | ⟨k, _ | ⟨cc, _ | ⟨cs, _ | ⟨y, x⟩⟩⟩⟩⟩⟩⟩⟩⟩
  iterate 8 cases h
  · have h : (match z_split na st [] with | some al => z_call virt rk c rt k cc cs al bc bs pc loc m | none => none) = some zn := h
    cases e : z_split na st [] with
    | none => rw [e] at h; cases h
    | some al =>
      rw [e] at h
      obtain ⟨Al, Rr, e2, h2, h3⟩ := z_split_ok (acc := []) (Acc := []) hs trivial e
      show z_rel sc zn (match qa_split na S [] with | some al => qa_call virt rk c rt k cc cs al bc bs pc L s | none => qa_no s)
      rw [e2]
      exact z_call_ok (Al := (Al, Rr)) h2 h3 hl hm h
  · cases h
end ZS
def z_bl (a : ZI) : Bool := decide (0 ≤ a.1) && decide (a.2 ≤ 1)
theorem z_bl_ok {a : ZI} {x : Int32} (hx : z_in a x) (h : z_bl a = true) : x = 0 ∨ x = 1 := by
  obtain ⟨h1, h2⟩ := qa_and h
  have h1 := of_decide_eq_true h1
  have h2 := of_decide_eq_true h2
  obtain ⟨p, q⟩ := hx
  rcases (show x.toInt = 0 ∨ x.toInt = 1 by omega) with e | e
  · exact Or.inl (by rw [← Int32.ofInt_toInt x, e]; rfl)
  · exact Or.inr (by rw [← Int32.ofInt_toInt x, e]; rfl)
/-- static calls: the five of Math; the others -/
def z_mth (st : ZStk) (f : Int32 → Int32 → Int32) (bc bs pc : Nat) (loc : ZLoc) (m : ZM) : Option ZN := z1I st fun b r => z1I r fun a r => z_ck (Nat.ble (z_cat r) 8) (z_go bc bs (pc + 3) loc (zI (z_op f a b) :: r) m)
def z_mthL (st : ZStk) (f : Int64 → Int64 → Int64) (bc bs pc : Nat) (loc : ZLoc) (m : ZM) : Option ZN := z1L st fun b r => z1L r fun a r => z_ck (Nat.ble (z_cat r) 8) (z_go bc bs (pc + 3) loc (zL (z_opL f a b) :: r) m)
def z_stat (x : List Nat) (st : ZStk) (bc bs pc : Nat) (loc : ZLoc) (m : ZM) : Option ZN := match Nat.ble 1000 (qa_get x 0) && Nat.ble (qa_get x 0) 1004 with
  | true => (match qa_get x 0 - 1000 with
    | 0 => z_mth st qa_max bc bs pc loc m
    | 1 => z_mth st qa_min bc bs pc loc m
    | 2 => z1I st fun a r => z_ck (Nat.ble (z_cat r) 8) (z_go bc bs (pc + 3) loc (zI (z_op1 qa_abs a) :: r) m)
    | 3 => z_mthL st qa_maxL bc bs pc loc m
    | _ => z_mthL st qa_minL bc bs pc loc m)
  | false => z_inv2 x st bc bs (pc + 3) loc m
section ZS2
variable {sc : List ZI} {loc : ZLoc} {L : LLoc} {st r : ZStk} {S R : LStk} {m : ZM} {s : LMem} {zn : ZN} {bc bs pc : Nat}
theorem z_mth_ok {f : Int32 → Int32 → Int32} (hl : z_l loc L) (hs : z_s st S) (hm : z_m sc m s) (h : z_mth st f bc bs pc loc m = some zn) : z_rel sc zn (qa_s2I s S fun b a r => qa_if (Nat.ble (qa_cat r) 8) s (qa_go bc bs (pc + 3) L (lI (f a b) :: r) s)) := by
  rw [z_s2I_eq]
  exact z1I_ok hs h fun b y r R hb hr h => z1I_ok hr h fun a x r R ha hr h => z_if_rel (by rw [← z_cat_eq hr]; exact (z_ck_ok h).1) (z_go_ok (z_ck_ok h).2 hl ⟨z_op_ok ha hb, hr⟩ hm)
theorem z_mthL_ok {f : Int64 → Int64 → Int64} (hl : z_l loc L) (hs : z_s st S) (hm : z_m sc m s) (h : z_mthL st f bc bs pc loc m = some zn) : z_rel sc zn (qa_s2L s S fun b a r => qa_if (Nat.ble (qa_cat r) 8) s (qa_go bc bs (pc + 3) L (lL (f a b) :: r) s)) := by
  rw [z_s2L_eq]
  exact z1L_ok hs h fun b y r R hb hr h => z1L_ok hr h fun a x r R ha hr h => z_if_rel (by rw [← z_cat_eq hr]; exact (z_ck_ok h).1) (z_go_ok (z_ck_ok h).2 hl ⟨z_opL_ok ha hb, hr⟩ hm)
theorem z_stat_ok {mi i : Nat} {x : List Nat} {v : Int32} {w : Int64} (hl : z_l loc L) (hs : z_s st S) (hm : z_m sc m s) (h : z_stat x st bc bs pc loc m = some zn) : z_rel sc zn (qa_ins false mi bc bs (.invokestatic i, x, v, w) pc L S s) := by
  unfold z_stat at h
  unfold qa_ins
  dsimp only
  split
  · rename_i e
    rw [e] at h
    exact z_mth_ok (f := qa_max) hl hs hm h
  · rename_i e
    rw [e] at h
    exact z_mth_ok (f := qa_min) hl hs hm h
  · rename_i e
    rw [e] at h
    have h : z1I st (fun a r => z_ck (Nat.ble (z_cat r) 8) (z_go bc bs (pc + 3) loc (zI (z_op1 qa_abs a) :: r) m)) = some zn := h
    exact z1I_ok hs h fun a x r R ha hr h => z_if_rel (by rw [← z_cat_eq hr]; exact (z_ck_ok h).1) (z_go_ok (z_ck_ok h).2 hl ⟨z_op1_ok ha, hr⟩ hm)
  · rename_i e
    rw [e] at h
    exact z_mthL_ok (f := qa_maxL) hl hs hm h
  · rename_i e
    rw [e] at h
    exact z_mthL_ok (f := qa_minL) hl hs hm h
  · rename_i e0 e1 e2 e3 e4
    cases hb : (Nat.ble 1000 (qa_get x 0) && Nat.ble (qa_get x 0) 1004) with
    | true =>
      obtain ⟨q1, q2⟩ := qa_and hb
      have q1 := Nat.le_of_ble_eq_true q1
      have q2 := Nat.le_of_ble_eq_true q2
      exfalso
      rcases (show qa_get x 0 = 1000 ∨ qa_get x 0 = 1001 ∨ qa_get x 0 = 1002 ∨ qa_get x 0 = 1003 ∨ qa_get x 0 = 1004 by omega) with e | e | e | e | e
      · exact e0 e
      · exact e1 e
      · exact e2 e
      · exact e3 e
      · exact e4 e
    | false =>
      rw [hb] at h
      exact z_inv2_ok hl hs hm h
end ZS2
def qz_1 (sc : List ZI) (mi bc bs : Nat) (e : LEnt) (pc : Nat) (loc : ZLoc) (st : ZStk) (m : ZM) : Option ZN := match e with
  | (ins, x, v, w) => match ins with
  | .aconst_null => z_go bc bs (pc + 1) loc (zR 0 none :: st) m
  | .iconst _ => z_go bc bs (pc + 1) loc (zI (z_c v) :: st) m
  | .bipush _ => z_go bc bs (pc + 2) loc (zI (z_c v) :: st) m
  | .sipush _ => z_go bc bs (pc + 3) loc (zI (z_c v) :: st) m
  | .ldc _ => (match x with | [] => z_go bc bs (pc + 2) loc (zI (z_c v) :: st) m | t :: _ => z_go bc bs (pc + 2) loc (zR 64 (some t) :: st) m)
  | .ldc_w _ => z_go bc bs (pc + 3) loc (zI (z_c v) :: st) m
  | .lconst _ => z_go bc bs (pc + 1) loc (zL (some w) :: st) m
  | .ldc2_w _ => z_go bc bs (pc + 3) loc (zL (some w) :: st) m
  | .iload_n n => zldI loc n.val fun a => z_go bc bs (pc + 1) loc (zI a :: st) m
  | .iload n => zldI loc n fun a => z_go bc bs (pc + 2) loc (zI a :: st) m
  | .lload_n n => zldL loc n.val fun a => z_go bc bs (pc + 1) loc (zL a :: st) m
  | .lload n => zldL loc n fun a => z_go bc bs (pc + 2) loc (zL a :: st) m
  | .aload_n n => zldR loc n.val fun k o => z_go bc bs (pc + 1) loc (zR k o :: st) m
  | .aload n => zldR loc n fun k o => z_go bc bs (pc + 2) loc (zR k o :: st) m
  | .istore_n n => z1I st fun a r => z_go bc bs (pc + 1) (z_st1 loc n.val (zI a)) r m
  | .istore n => z1I st fun a r => z_go bc bs (pc + 2) (z_st1 loc n (zI a)) r m
  | .lstore_n n => z1L st fun a r => z_go bc bs (pc + 1) (z_clr (z_st1 loc n.val (zL a)) (n.val + 1)) r m
  | .lstore n => z1L st fun a r => z_go bc bs (pc + 2) (z_clr (z_st1 loc n (zL a)) (n + 1)) r m
  | .astore_n n => z1R st fun k o r => z_go bc bs (pc + 1) (z_st1 loc n.val (zR k o)) r m
  | .astore n => z1R st fun k o r => z_go bc bs (pc + 2) (z_st1 loc n (zR k o)) r m
  | .iinc n _ => zldI loc n fun a => z_go bc bs (pc + 3) (z_st1 loc n (zI (z_op1 (fun a => a + v) a))) st m
  | .iadd => z1I st fun b r => z1I r fun a r => z_go bc bs (pc + 1) loc (zI (z_op (fun a b => a + b) a b) :: r) m
  | .isub => z1I st fun b r => z1I r fun a r => z_go bc bs (pc + 1) loc (zI (z_op (fun a b => a - b) a b) :: r) m
  | .imul => z1I st fun b r => z1I r fun a r => z_go bc bs (pc + 1) loc (zI (z_op (fun a b => a * b) a b) :: r) m
  | .ishl => z1I st fun b r => z1I r fun a r => z_go bc bs (pc + 1) loc (zI (z_op (fun a b => a <<< (b &&& 31)) a b) :: r) m
  | .ishr => z1I st fun b r => z1I r fun a r => z_go bc bs (pc + 1) loc (zI (z_op (fun a b => a >>> (b &&& 31)) a b) :: r) m
  | .iushr => z1I st fun b r => z1I r fun a r => z_go bc bs (pc + 1) loc (zI (z_op (fun a b => (a.toUInt32 >>> (b.toUInt32 &&& Int32.toUInt32 31)).toInt32) a b) :: r) m
  | .iand => z1I st fun b r => z1I r fun a r => z_go bc bs (pc + 1) loc (zI (z_op (fun a b => a &&& b) a b) :: r) m
  | .ior => z1I st fun b r => z1I r fun a r => z_go bc bs (pc + 1) loc (zI (z_op (fun a b => a ||| b) a b) :: r) m
  | .ixor => z1I st fun b r => z1I r fun a r => z_go bc bs (pc + 1) loc (zI (z_op (fun a b => a ^^^ b) a b) :: r) m
  | .idiv => z1I st fun b r => z1I r fun a r => z_ck (z_nz b) (z_go bc bs (pc + 1) loc (zI (z_op (fun a b => a / b) a b) :: r) m)
  | .irem => z1I st fun b r => z1I r fun a r => z_ck (z_nz b) (z_go bc bs (pc + 1) loc (zI (z_op (fun a b => a - a / b * b) a b) :: r) m)
  | .ineg => z1I st fun a r => z_go bc bs (pc + 1) loc (zI (z_op1 (fun a => -a) a) :: r) m
  | .ladd => z1L st fun b r => z1L r fun a r => z_go bc bs (pc + 1) loc (zL (z_opL (fun a b => a + b) a b) :: r) m
  | .lsub => z1L st fun b r => z1L r fun a r => z_go bc bs (pc + 1) loc (zL (z_opL (fun a b => a - b) a b) :: r) m
  | .lmul => z1L st fun b r => z1L r fun a r => z_go bc bs (pc + 1) loc (zL (z_opL (fun a b => a * b) a b) :: r) m
  | .land => z1L st fun b r => z1L r fun a r => z_go bc bs (pc + 1) loc (zL (z_opL (fun a b => a &&& b) a b) :: r) m
  | .lor => z1L st fun b r => z1L r fun a r => z_go bc bs (pc + 1) loc (zL (z_opL (fun a b => a ||| b) a b) :: r) m
  | .ldiv => z1L st fun b r => z1L r fun a r => z_ck (z_nzL b) (z_go bc bs (pc + 1) loc (zL (z_opL (fun a b => a / b) a b) :: r) m)
  | .lrem => z1L st fun b r => z1L r fun a r => z_ck (z_nzL b) (z_go bc bs (pc + 1) loc (zL (z_opL (fun a b => a - a / b * b) a b) :: r) m)
  | .lshl => z1I st fun b r => z1L r fun a r => z_go bc bs (pc + 1) loc (zL (z_shL (fun a b => a <<< (b.toInt64 &&& 63)) a b) :: r) m
  | .lushr => z1I st fun b r => z1L r fun a r => z_go bc bs (pc + 1) loc (zL (z_shL (fun a b => (a.toUInt64 >>> (b.toInt64.toUInt64 &&& Int64.toUInt64 63)).toInt64) a b) :: r) m
  | .lcmp => z1L st fun b r => z1L r fun a r => z_go bc bs (pc + 1) loc (zI (z_cmpL lg_cmp a b) :: r) m
  | .i2l => z1I st fun a r => z_go bc bs (pc + 1) loc (zL (z_i2l a) :: r) m
  | .l2i => z1L st fun a r => z_go bc bs (pc + 1) loc (zI (z_l2i a) :: r) m
  | .i2c => z1I st fun a r => z_go bc bs (pc + 1) loc (zI (z_op1 (fun a => (a.toUInt32 % 65536).toInt32) a) :: r) m
  | .dup => (match st with | u :: r => z_ck (!z_isL u) (z_go bc bs (pc + 1) loc (u :: u :: r) m) | _ => none)
  | .pop => (match st with | u :: r => z_ck (!z_isL u) (z_go bc bs (pc + 1) loc r m) | _ => none)
  | .dup2 => (match st with | u :: u2 :: r => z_ck (!z_isL u && !z_isL u2) (z_go bc bs (pc + 1) loc (u :: u2 :: u :: u2 :: r) m) | _ => none)
  | .goto _ => z_go bc bs (qa_get x 0) loc st m
  | .ifCond c _ => z1I st fun a r => z_br (z_cnd c a (z_c 0) (qa_get x 0) (pc + 3)) bc bs loc r m
  | .if_icmp c _ => z1I st fun b r => z1I r fun a r => z_br (z_cnd c a b (qa_get x 0) (pc + 3)) bc bs loc r m
  | .ifnull _ => z1R st fun _ o r => z_go bc bs (match o with | none => qa_get x 0 | some _ => pc + 3) loc r m
  | .ifnonnull _ => z1R st fun _ o r => z_go bc bs (match o with | none => pc + 3 | some _ => qa_get x 0) loc r m
  | .tableswitch _ _ _ _ => z1I st fun a r => z_br (z_sw a (qa_swt mi pc).1 (qa_swt mi pc).2) bc bs loc r m
  | .lookupswitch _ _ => z1I st fun a r => z_br (z_sw a (qa_swt mi pc).1 (qa_swt mi pc).2) bc bs loc r m
  | .iaload => z1I st fun a r => z1R r fun k o r => (match o with | none => none | some i => (match Nat.blt k 60 with
      | true => z_ck (Nat.beq (qa_ea k) 0 && z_vin a (qa_len k)) (z_go bc bs (pc + 1) loc (zI (z_ld sc m k i a) :: r) m)
      | false => (match Nat.beq k 65 with
        | true => (match z_len sc m with | none => none | some n => z_ck (z_vin a n) (z_go bc bs (pc + 1) loc (zI (z_ld sc m 65 0 a) :: r) m))
        | false => z_ck (Nat.blt k 64 && z_vin a (qa_len k)) (z_go bc bs (pc + 1) loc (zI (z_lds k a) :: r) m))))
  | .laload => z1I st fun a r => z1R r fun k o r => (match o with | none => none | some i => z_ck ((Nat.blt k 60 && Nat.beq (qa_ea k) 2) && z_vin a (qa_len k)) (z_go bc bs (pc + 1) loc (zL (z_ldL m k i a) :: r) m))
  | .aaload => z1I st fun a r => z1R r fun k o r => (match o with | none => none | some i => z_ck ((Nat.blt k 60 && Nat.beq (qa_ea k) 3) && (z_one a && z_vin a (qa_len k))) (z_go bc bs (pc + 1) loc (zR (qa_tk k 0) (z_R k i (z_ix a)) :: r) m))
  | .iastore => z1I st fun u r => z1I r fun a r => z1R r fun k o r => (match o with | none => none | some i => z_ck ((Nat.blt k 60 && Nat.beq (qa_ea k) 0) && (z_one a && z_vin a (qa_len k))) (z_go bc bs (pc + 1) loc r ((k, i, z_ix a, u) :: m.1, m.2)))
  | .lastore => z1L st fun u r => z1I r fun a r => z1R r fun k o r => (match o with | none => none | some i => z_ck ((Nat.blt k 60 && Nat.beq (qa_ea k) 2) && (z_one a && z_vin a (qa_len k))) (z_go bc bs (pc + 1) loc r (m.1, (k, i, z_ix a, u) :: m.2)))
  | .arraylength => z1R st fun k o r => (match o with | none => none | some _ => (match Nat.beq k 65 with
      | true => z_go bc bs (pc + 1) loc (zI (z_get sc m 65 1 0) :: r) m
      | false => z_ck (Nat.blt k 64 && Nat.blt (qa_ea k) 9) (z_go bc bs (pc + 1) loc (zI (z_c (qa_leI k)) :: r) m)))
  | .getfield _ => z1R st fun k o r => (match o with | none => none | some i => z_ck (Nat.beq k (qa_get x 0)) (z_go bc bs (pc + 3) loc (z_rdV sc m k i (qa_get x 1) :: r) m))
  | .putfield _ => (match qa_tg (qa_get x 0) (qa_get x 1) with
      | 0 => z1I st fun a r => z1R r fun k o r => (match o with | none => none | some i => z_ck (Nat.beq k (qa_get x 0)) (z_go bc bs (pc + 3) loc r ((k, i, qa_get x 1, a) :: m.1, m.2)))
      | 1 => z1I st fun a r => z1R r fun k o r => (match o with | none => none | some i => z_ck (Nat.beq k (qa_get x 0) && z_bl a) (z_go bc bs (pc + 3) loc r ((k, i, qa_get x 1, a) :: m.1, m.2)))
      | 2 => z1L st fun a r => z1R r fun k o r => (match o with | none => none | some i => z_ck (Nat.beq k (qa_get x 0)) (z_go bc bs (pc + 3) loc r (m.1, (k, i, qa_get x 1, a) :: m.2)))
      | _ => none)
  | .getstatic _ => z_go bc bs (pc + 3) loc (zR (qa_get x 0) (some 0) :: st) m
  | .invokevirtual _ => z_inv2 x st bc bs (pc + 3) loc m
  | .invokestatic _ => z_stat x st bc bs pc loc m
  | .ireturn => (match st with | [.inl a] => (match qa_get x 0 with | 0 => some (.inr (.inr (some (zI a), m))) | _ => z_ck (z_bl a) (some (.inr (.inr (some (zI a), m))))) | _ => none)
  | .lreturn => (match st with | [.inr (.inl a)] => some (.inr (.inr (some (zL a), m))) | _ => none)
  | .areturn => (match st with | [.inr (.inr (k, o))] => z_ck (Nat.beq k (qa_get x 0) || qa_nul o) (some (.inr (.inr (some (zR (qa_get x 0) o), m)))) | _ => none)
  | .return_ => (match st with | [] => some (.inr (.inr (none, m))) | _ => none)
  | _ => none
set_option maxHeartbeats 4000000 in
theorem qz_1_ok {sc : List ZI} {mi bc bs pc : Nat} {e : LEnt} {loc : ZLoc} {L : LLoc} {st : ZStk} {S : LStk} {m : ZM} {s : LMem} {zn : ZN} (hl : z_l loc L) (hs : z_s st S) (hm : z_m sc m s) (h : qz_1 sc mi bc bs e pc loc st m = some zn) : z_rel sc zn (qa_ins false mi bc bs e pc L S s) := by
  obtain ⟨ins, x, v, w⟩ := e
  cases ins with
  | aconst_null =>
    exact z_go_ok h hl ⟨rfl, hs⟩ hm
  | iconst y0 =>
    exact z_go_ok h hl ⟨z_in_c v, hs⟩ hm
  | bipush y0 =>
    exact z_go_ok h hl ⟨z_in_c v, hs⟩ hm
  | sipush y0 =>
    exact z_go_ok h hl ⟨z_in_c v, hs⟩ hm
  | ldc y0 =>
    cases x with
    | nil => exact z_go_ok h hl ⟨z_in_c v, hs⟩ hm
    | cons t x => exact z_go_ok h hl ⟨rfl, hs⟩ hm
  | ldc_w y0 =>
    exact z_go_ok h hl ⟨z_in_c v, hs⟩ hm
  | lconst y0 =>
    exact z_go_ok h hl ⟨fun _ e => (Option.some.inj e).symm, hs⟩ hm
  | ldc2_w y0 =>
    exact z_go_ok h hl ⟨fun _ e => (Option.some.inj e).symm, hs⟩ hm
  | iload_n n =>
    exact zldI_ok hl h fun a x ha h => z_go_ok h hl ⟨ha, hs⟩ hm
  | iload n =>
    exact zldI_ok hl h fun a x ha h => z_go_ok h hl ⟨ha, hs⟩ hm
  | lload_n n =>
    exact zldL_ok hl h fun a x ha h => z_go_ok h hl ⟨ha, hs⟩ hm
  | lload n =>
    exact zldL_ok hl h fun a x ha h => z_go_ok h hl ⟨ha, hs⟩ hm
  | aload_n n =>
    exact zldR_ok hl h fun k o h => z_go_ok h hl ⟨rfl, hs⟩ hm
  | aload n =>
    exact zldR_ok hl h fun k o h => z_go_ok h hl ⟨rfl, hs⟩ hm
  | istore_n n =>
    exact z1I_ok hs h fun a x r R ha hr h => z_go_ok h (z_st1_ok (a := zI a) (v := lI x) hl ha) hr hm
  | istore n =>
    exact z1I_ok hs h fun a x r R ha hr h => z_go_ok h (z_st1_ok (a := zI a) (v := lI x) hl ha) hr hm
  | lstore_n n =>
    exact z1L_ok hs h fun a x r R ha hr h => z_go_ok h (z_clr_ok (z_st1_ok (a := zL a) (v := lL x) hl ha)) hr hm
  | lstore n =>
    exact z1L_ok hs h fun a x r R ha hr h => z_go_ok h (z_clr_ok (z_st1_ok (a := zL a) (v := lL x) hl ha)) hr hm
  | astore_n n =>
    exact z1R_ok hs h fun k o r R hr h => z_go_ok h (z_st1_ok (a := zR k o) (v := lR k o) hl rfl) hr hm
  | astore n =>
    exact z1R_ok hs h fun k o r R hr h => z_go_ok h (z_st1_ok (a := zR k o) (v := lR k o) hl rfl) hr hm
  | iinc n y1 =>
    exact zldI_ok hl h fun a x ha h => z_go_ok h (z_st1_ok (a := zI (z_op1 (fun a => a + v) a)) (v := lI (x + v)) hl (z_op1_ok (f := fun a => a + v) ha)) hs hm
  | iadd =>
    show z_rel sc zn (qa_s2I s S _)
    rw [z_s2I_eq]
    exact z1I_ok hs h fun b y r R hb hr h => z1I_ok hr h fun a x r R ha hr h => z_go_ok h hl ⟨z_op_ok (f := fun a b => a + b) ha hb, hr⟩ hm
  | isub =>
    show z_rel sc zn (qa_s2I s S _)
    rw [z_s2I_eq]
    exact z1I_ok hs h fun b y r R hb hr h => z1I_ok hr h fun a x r R ha hr h => z_go_ok h hl ⟨z_op_ok (f := fun a b => a - b) ha hb, hr⟩ hm
  | imul =>
    show z_rel sc zn (qa_s2I s S _)
    rw [z_s2I_eq]
    exact z1I_ok hs h fun b y r R hb hr h => z1I_ok hr h fun a x r R ha hr h => z_go_ok h hl ⟨z_op_ok (f := fun a b => a * b) ha hb, hr⟩ hm
  | ishl =>
    show z_rel sc zn (qa_s2I s S _)
    rw [z_s2I_eq]
    exact z1I_ok hs h fun b y r R hb hr h => z1I_ok hr h fun a x r R ha hr h => z_go_ok h hl ⟨z_op_ok (f := fun a b => a <<< (b &&& 31)) ha hb, hr⟩ hm
  | ishr =>
    show z_rel sc zn (qa_s2I s S _)
    rw [z_s2I_eq]
    exact z1I_ok hs h fun b y r R hb hr h => z1I_ok hr h fun a x r R ha hr h => z_go_ok h hl ⟨z_op_ok (f := fun a b => a >>> (b &&& 31)) ha hb, hr⟩ hm
  | iushr =>
    show z_rel sc zn (qa_s2I s S _)
    rw [z_s2I_eq]
    exact z1I_ok hs h fun b y r R hb hr h => z1I_ok hr h fun a x r R ha hr h => z_go_ok h hl ⟨z_op_ok (f := fun a b => (a.toUInt32 >>> (b.toUInt32 &&& Int32.toUInt32 31)).toInt32) ha hb, hr⟩ hm
  | iand =>
    show z_rel sc zn (qa_s2I s S _)
    rw [z_s2I_eq]
    exact z1I_ok hs h fun b y r R hb hr h => z1I_ok hr h fun a x r R ha hr h => z_go_ok h hl ⟨z_op_ok (f := fun a b => a &&& b) ha hb, hr⟩ hm
  | ior =>
    show z_rel sc zn (qa_s2I s S _)
    rw [z_s2I_eq]
    exact z1I_ok hs h fun b y r R hb hr h => z1I_ok hr h fun a x r R ha hr h => z_go_ok h hl ⟨z_op_ok (f := fun a b => a ||| b) ha hb, hr⟩ hm
  | ixor =>
    show z_rel sc zn (qa_s2I s S _)
    rw [z_s2I_eq]
    exact z1I_ok hs h fun b y r R hb hr h => z1I_ok hr h fun a x r R ha hr h => z_go_ok h hl ⟨z_op_ok (f := fun a b => a ^^^ b) ha hb, hr⟩ hm
  | idiv =>
    show z_rel sc zn (qa_s2I s S _)
    rw [z_s2I_eq]
    exact z1I_ok hs h fun b y r R hb hr h => z1I_ok hr h fun a x r R ha hr h => z_gg_ok (z_ck_ok h).2 (z_g1 (z_nz_ok hb (z_ck_ok h).1)) hl ⟨z_op_ok (f := fun a b => a / b) ha hb, hr⟩ hm
  | irem =>
    show z_rel sc zn (qa_s2I s S _)
    rw [z_s2I_eq]
    exact z1I_ok hs h fun b y r R hb hr h => z1I_ok hr h fun a x r R ha hr h => z_gg_ok (z_ck_ok h).2 (z_g1 (z_nz_ok hb (z_ck_ok h).1)) hl ⟨z_op_ok (f := fun a b => a - a / b * b) ha hb, hr⟩ hm
  | ineg =>
    exact z1I_ok hs h fun a x r R ha hr h => z_go_ok h hl ⟨z_op1_ok (f := fun a => -a) ha, hr⟩ hm
  | ladd =>
    show z_rel sc zn (qa_s2L s S _)
    rw [z_s2L_eq]
    exact z1L_ok hs h fun b y r R hb hr h => z1L_ok hr h fun a x r R ha hr h => z_go_ok h hl ⟨z_opL_ok (f := fun a b => a + b) ha hb, hr⟩ hm
  | lsub =>
    show z_rel sc zn (qa_s2L s S _)
    rw [z_s2L_eq]
    exact z1L_ok hs h fun b y r R hb hr h => z1L_ok hr h fun a x r R ha hr h => z_go_ok h hl ⟨z_opL_ok (f := fun a b => a - b) ha hb, hr⟩ hm
  | lmul =>
    show z_rel sc zn (qa_s2L s S _)
    rw [z_s2L_eq]
    exact z1L_ok hs h fun b y r R hb hr h => z1L_ok hr h fun a x r R ha hr h => z_go_ok h hl ⟨z_opL_ok (f := fun a b => a * b) ha hb, hr⟩ hm
  | land =>
    show z_rel sc zn (qa_s2L s S _)
    rw [z_s2L_eq]
    exact z1L_ok hs h fun b y r R hb hr h => z1L_ok hr h fun a x r R ha hr h => z_go_ok h hl ⟨z_opL_ok (f := fun a b => a &&& b) ha hb, hr⟩ hm
  | lor =>
    show z_rel sc zn (qa_s2L s S _)
    rw [z_s2L_eq]
    exact z1L_ok hs h fun b y r R hb hr h => z1L_ok hr h fun a x r R ha hr h => z_go_ok h hl ⟨z_opL_ok (f := fun a b => a ||| b) ha hb, hr⟩ hm
  | ldiv =>
    show z_rel sc zn (qa_s2L s S _)
    rw [z_s2L_eq]
    exact z1L_ok hs h fun b y r R hb hr h => z1L_ok hr h fun a x r R ha hr h => z_gg_ok (z_ck_ok h).2 (z_g1 (z_nzL_ok hb (z_ck_ok h).1)) hl ⟨z_opL_ok (f := fun a b => a / b) ha hb, hr⟩ hm
  | lrem =>
    show z_rel sc zn (qa_s2L s S _)
    rw [z_s2L_eq]
    exact z1L_ok hs h fun b y r R hb hr h => z1L_ok hr h fun a x r R ha hr h => z_gg_ok (z_ck_ok h).2 (z_g1 (z_nzL_ok hb (z_ck_ok h).1)) hl ⟨z_opL_ok (f := fun a b => a - a / b * b) ha hb, hr⟩ hm
  | lshl =>
    show z_rel sc zn (qa_sIL s S _)
    rw [z_sIL_eq]
    exact z1I_ok hs h fun b y r R hb hr h => z1L_ok hr h fun a x r R ha hr h => z_go_ok h hl ⟨z_shL_ok (f := fun a b => a <<< (b.toInt64 &&& 63)) ha hb, hr⟩ hm
  | lushr =>
    show z_rel sc zn (qa_sIL s S _)
    rw [z_sIL_eq]
    exact z1I_ok hs h fun b y r R hb hr h => z1L_ok hr h fun a x r R ha hr h => z_go_ok h hl ⟨z_shL_ok (f := fun a b => (a.toUInt64 >>> (b.toInt64.toUInt64 &&& Int64.toUInt64 63)).toInt64) ha hb, hr⟩ hm
  | lcmp =>
    show z_rel sc zn (qa_s2L s S _)
    rw [z_s2L_eq]
    exact z1L_ok hs h fun b y r R hb hr h => z1L_ok hr h fun a x r R ha hr h => z_go_ok h hl ⟨z_cmpL_ok ha hb, hr⟩ hm
  | i2l =>
    exact z1I_ok hs h fun a x r R ha hr h => z_go_ok h hl ⟨z_i2l_ok ha, hr⟩ hm
  | l2i =>
    exact z1L_ok hs h fun a x r R ha hr h => z_go_ok h hl ⟨z_l2i_ok ha, hr⟩ hm
  | i2c =>
    exact z1I_ok hs h fun a x r R ha hr h => z_go_ok h hl ⟨z_op1_ok (f := fun a => (a.toUInt32 % 65536).toInt32) ha, hr⟩ hm
  | dup =>
    rcases st with _ | ⟨a, r⟩
    · cases h
    · rcases S with _ | ⟨u, R⟩
      · exact hs.elim
      · obtain ⟨h1, h2⟩ := z_ck_ok h
        exact z_if_rel (by rw [← z_isL_eq hs.1]; exact h1) (z_go_ok h2 hl ⟨hs.1, hs.1, hs.2⟩ hm)
  | pop =>
    rcases st with _ | ⟨a, r⟩
    · cases h
    · rcases S with _ | ⟨u, R⟩
      · exact hs.elim
      · obtain ⟨h1, h2⟩ := z_ck_ok h
        exact z_if_rel (by rw [← z_isL_eq hs.1]; exact h1) (z_go_ok h2 hl hs.2 hm)
  | dup2 =>
    rcases st with _ | ⟨a, _ | ⟨a2, r⟩⟩
    · cases h
    · cases h
    · rcases S with _ | ⟨u, _ | ⟨u2, R⟩⟩
      · exact hs.elim
      · exact hs.2.elim
      · obtain ⟨h1, h2⟩ := z_ck_ok h
        exact z_if_rel (by rw [← z_isL_eq hs.1, ← z_isL_eq hs.2.1]; exact h1) (z_go_ok h2 hl ⟨hs.1, hs.2.1, hs.1, hs.2.1, hs.2.2⟩ hm)
  | goto y0 =>
    exact z_go_ok h hl hs hm
  | ifCond c y1 =>
    exact z1I_ok hs h fun a x r R ha hr h => z_br_ok h (fun K hK => z_cnd_ok ha (z_in_c 0) hK) hl hr hm
  | if_icmp c y1 =>
    show z_rel sc zn (qa_s2I s S _)
    rw [z_s2I_eq]
    exact z1I_ok hs h fun b y r R hb hr h => z1I_ok hr h fun a x r R ha hr h => z_br_ok h (fun K hK => z_cnd_ok ha hb hK) hl hr hm
  | ifnull y0 =>
    exact z1R_ok hs h fun k o r R hr h => z_nl_ok hl hr hm h
  | ifnonnull y0 =>
    exact z1R_ok hs h fun k o r R hr h => z_nl_ok hl hr hm h
  | tableswitch y0 y1 y2 y3 =>
    exact z1I_ok hs h fun a x r R ha hr h => z_br_ok h (fun K hK => z_sw_ok ha _ hK) hl hr hm
  | lookupswitch y0 y1 =>
    exact z1I_ok hs h fun a x r R ha hr h => z_br_ok h (fun K hK => z_sw_ok ha _ hK) hl hr hm
  | iaload =>
    show z_rel sc zn (qa_sIR s S _)
    rw [z_sIR_eq]
    refine z1I_ok hs h fun a x r R ha hr h => z1R_ok hr h fun k o r R hr h => ?_
    cases o with
    | none => cases h
    | some i =>
      dsimp only at h ⊢
      cases e : Nat.blt k 60 with
      | true =>
        rw [e] at h
        obtain ⟨h1, h2⟩ := z_ck_ok h
        obtain ⟨h3, h4⟩ := qa_and h1
        exact z_if_rel h3 (z_gg_ok h2 (z_ga (g := qa_gn (some i)) trivial (z_vin_ok ha h4)) hl ⟨z_ld_ok hm ha, hr⟩ hm)
      | false =>
        rw [e] at h
        cases e2 : Nat.beq k 65 with
        | true =>
          rw [e2] at h
          dsimp only at h ⊢
          cases e3 : z_len sc m with
          | none => rw [e3] at h; cases h
          | some n =>
            rw [e3] at h
            obtain ⟨h1, h2⟩ := z_ck_ok h
            have e4 : (gI s 65 1 0).toNatClampNeg = n := by
              unfold z_len at e3
              cases hb : z_one (z_get sc m 65 1 0) with
              | false => rw [hb] at e3; cases e3
              | true =>
                rw [hb] at e3
                cases e3
                exact z_ix_eq hb (hm.1 _ _ _)
            rw [e4]
            exact z_gg_ok h2 (z_ga (g := qa_gn (some i)) trivial (z_vin_ok ha h1)) hl ⟨z_ld_ok hm ha, hr⟩ hm
        | false =>
          rw [e2] at h
          obtain ⟨h1, h2⟩ := z_ck_ok h
          obtain ⟨h3, h4⟩ := qa_and h1
          exact z_if_rel h3 (z_gg_ok h2 (z_ga (g := qa_gn (some i)) trivial (z_vin_ok ha h4)) hl ⟨z_lds_ok ha, hr⟩ hm)
  | laload =>
    show z_rel sc zn (qa_sIR s S _)
    rw [z_sIR_eq]
    refine z1I_ok hs h fun a x r R ha hr h => z1R_ok hr h fun k o r R hr h => ?_
    cases o with
    | none => cases h
    | some i =>
      obtain ⟨h1, h2⟩ := z_ck_ok h
      obtain ⟨h3, h4⟩ := qa_and h1
      exact z_if_rel h3 (z_gg_ok h2 (z_ga (g := qa_gn (some i)) trivial (z_vin_ok ha h4)) hl ⟨z_ldL_ok hm ha, hr⟩ hm)
  | aaload =>
    show z_rel sc zn (qa_sIR s S _)
    rw [z_sIR_eq]
    refine z1I_ok hs h fun a x r R ha hr h => z1R_ok hr h fun k o r R hr h => ?_
    cases o with
    | none => cases h
    | some i =>
      obtain ⟨h1, h2⟩ := z_ck_ok h
      obtain ⟨h3, h4⟩ := qa_and h1
      obtain ⟨h4, h5⟩ := qa_and h4
      exact z_if_rel h3 (z_gg_ok h2 (z_ga (g := qa_gn (some i)) trivial (z_vin_ok ha h5)) hl ⟨by rw [z_R_eq hm, z_ix_eq h4 ha]; exact rfl, hr⟩ hm)
  | iastore =>
    show z_rel sc zn (qa_sIIR s S _)
    rw [z_sIIR_eq]
    refine z1I_ok hs h fun u y r R hu hr h => z1I_ok hr h fun a x r R ha hr h => z1R_ok hr h fun k o r R hr h => ?_
    cases o with
    | none => cases h
    | some i =>
      obtain ⟨h1, h2⟩ := z_ck_ok h
      obtain ⟨h3, h4⟩ := qa_and h1
      obtain ⟨h4, h5⟩ := qa_and h4
      refine z_if_rel h3 (z_gg_ok h2 (z_ga (g := qa_gn (some i)) trivial (z_vin_ok ha h5)) hl hr ?_)
      rw [z_ix_eq h4 ha]
      exact z_m_sI hm hu
  | lastore =>
    show z_rel sc zn (qa_sLIR s S _)
    rw [z_sLIR_eq]
    refine z1L_ok hs h fun u y r R hu hr h => z1I_ok hr h fun a x r R ha hr h => z1R_ok hr h fun k o r R hr h => ?_
    cases o with
    | none => cases h
    | some i =>
      obtain ⟨h1, h2⟩ := z_ck_ok h
      obtain ⟨h3, h4⟩ := qa_and h1
      obtain ⟨h4, h5⟩ := qa_and h4
      refine z_if_rel h3 (z_gg_ok h2 (z_ga (g := qa_gn (some i)) trivial (z_vin_ok ha h5)) hl hr ?_)
      rw [z_ix_eq h4 ha]
      exact z_m_sL hm hu
  | arraylength =>
    refine z1R_ok hs h fun k o r R hr h => ?_
    cases o with
    | none => cases h
    | some i =>
      dsimp only at h ⊢
      cases e : Nat.beq k 65 with
      | true =>
        rw [e] at h
        exact z_gg_ok (g := qa_gn (some i)) h trivial hl ⟨hm.1 _ _ _, hr⟩ hm
      | false =>
        rw [e] at h
        obtain ⟨h1, h2⟩ := z_ck_ok h
        exact z_if_rel h1 (z_gg_ok (g := qa_gn (some i)) h2 trivial hl ⟨z_in_c _, hr⟩ hm)
  | getfield y0 =>
    refine z1R_ok hs h fun k o r R hr h => ?_
    cases o with
    | none => cases h
    | some i =>
      obtain ⟨h1, h2⟩ := z_ck_ok h
      exact z_if_rel h1 (z_gg_ok (g := qa_gn (some i)) h2 trivial hl ⟨z_rdV_ok hm, hr⟩ hm)
  | putfield y0 =>
    have h : (match qa_tg (qa_get x 0) (qa_get x 1) with
      | 0 => z1I st fun a r => z1R r fun k o r => (match o with | none => none | some i => z_ck (Nat.beq k (qa_get x 0)) (z_go bc bs (pc + 3) loc r ((k, i, qa_get x 1, a) :: m.1, m.2)))
      | 1 => z1I st fun a r => z1R r fun k o r => (match o with | none => none | some i => z_ck (Nat.beq k (qa_get x 0) && z_bl a) (z_go bc bs (pc + 3) loc r ((k, i, qa_get x 1, a) :: m.1, m.2)))
      | 2 => z1L st fun a r => z1R r fun k o r => (match o with | none => none | some i => z_ck (Nat.beq k (qa_get x 0)) (z_go bc bs (pc + 3) loc r (m.1, (k, i, qa_get x 1, a) :: m.2)))
      | _ => none) = some zn := h
    show z_rel sc zn (match qa_tg (qa_get x 0) (qa_get x 1) with
      | 0 => qa_sIR s S fun a k o r => qa_if (Nat.beq k (qa_get x 0)) s (qa_gg (qa_gn o) bc bs (pc + 3) L r (sI s k (o.getD 0) (qa_get x 1) a))
      | 1 => qa_sIR s S fun a k o r => qa_if (Nat.beq k (qa_get x 0)) s (qa_gg (qa_ga (qa_gn o) (a = 0 ∨ a = 1)) bc bs (pc + 3) L r (sI s k (o.getD 0) (qa_get x 1) a))
      | 2 => qa_sLR s S fun a k o r => qa_if (Nat.beq k (qa_get x 0)) s (qa_gg (qa_gn o) bc bs (pc + 3) L r (sL s k (o.getD 0) (qa_get x 1) a))
      | _ => _)
    generalize qa_tg (qa_get x 0) (qa_get x 1) = tg at h ⊢
    rcases tg with _ | _ | _ | t
    · show z_rel sc zn (qa_sIR s S _)
      rw [z_sIR_eq]
      refine z1I_ok hs h fun a x r R ha hr h => z1R_ok hr h fun k o r R hr h => ?_
      cases o with
      | none => cases h
      | some i =>
        obtain ⟨h1, h2⟩ := z_ck_ok h
        exact z_if_rel h1 (z_gg_ok (g := qa_gn (some i)) h2 trivial hl hr (z_m_sI hm ha))
    · show z_rel sc zn (qa_sIR s S _)
      rw [z_sIR_eq]
      refine z1I_ok hs h fun a x r R ha hr h => z1R_ok hr h fun k o r R hr h => ?_
      cases o with
      | none => cases h
      | some i =>
        obtain ⟨h1, h2⟩ := z_ck_ok h
        obtain ⟨h1, h3⟩ := qa_and h1
        exact z_if_rel h1 (z_gg_ok h2 (z_ga (g := qa_gn (some i)) trivial (z_bl_ok ha h3)) hl hr (z_m_sI hm ha))
    · show z_rel sc zn (qa_sLR s S _)
      rw [z_sLR_eq]
      refine z1L_ok hs h fun a x r R ha hr h => z1R_ok hr h fun k o r R hr h => ?_
      cases o with
      | none => cases h
      | some i =>
        obtain ⟨h1, h2⟩ := z_ck_ok h
        exact z_if_rel h1 (z_gg_ok (g := qa_gn (some i)) h2 trivial hl hr (z_m_sL hm ha))
    · cases h
  | getstatic y0 =>
    exact z_go_ok h hl ⟨rfl, hs⟩ hm
  | invokevirtual y0 =>
    exact z_inv2_ok hl hs hm h
  | invokestatic y0 =>
    exact z_stat_ok hl hs hm h
  | ireturn =>
    rcases st with _ | ⟨a | a | a, _ | ⟨a2, r⟩⟩
    · cases h
    · rcases S with _ | ⟨u | u | u, _ | ⟨u2, R⟩⟩
      · exact hs.elim
      · have h : (match qa_get x 0 with | 0 => some (Sum.inr (Sum.inr (some (zI a), m))) | _ => z_ck (z_bl a) (some (.inr (.inr (some (zI a), m))))) = some zn := h
        show z_rel sc zn (match qa_get x 0 with | 0 => qa_rt false bc bs none (some (lI u)) s | _ => qa_rt false bc bs (some (u = 0 ∨ u = 1)) (some (lI u)) s)
        generalize qa_get x 0 = g at h ⊢
        rcases g with _ | g
        · cases h
          exact ⟨trivial, some (lI u), s, rfl, hs.1, hm⟩
        · obtain ⟨h1, h2⟩ := z_ck_ok h
          cases h2
          exact ⟨⟨z_bl_ok hs.1 h1, trivial⟩, some (lI u), s, rfl, hs.1, hm⟩
      · exact hs.2.elim
      · exact hs.1.elim
      · exact hs.1.elim
      · exact hs.1.elim
      · exact hs.1.elim
    all_goals cases h
  | lreturn =>
    rcases st with _ | ⟨a | a | a, _ | ⟨a2, r⟩⟩
    · cases h
    · cases h
    · cases h
    · rcases S with _ | ⟨u | u | u, _ | ⟨u2, R⟩⟩
      · exact hs.elim
      · exact hs.1.elim
      · exact hs.1.elim
      · cases h
        exact ⟨trivial, some (lL u), s, rfl, hs.1, hm⟩
      · exact hs.2.elim
      · exact hs.1.elim
      · exact hs.1.elim
    all_goals cases h
  | areturn =>
    rcases st with _ | ⟨a | a | ⟨k, o⟩, _ | ⟨a2, r⟩⟩
    · cases h
    · cases h
    · cases h
    · cases h
    · cases h
    · rcases S with _ | ⟨u | u | u, _ | ⟨u2, R⟩⟩
      · exact hs.elim
      · exact hs.1.elim
      · exact hs.1.elim
      · exact hs.1.elim
      · exact hs.1.elim
      · have e : (k, o) = u := hs.1
        subst e
        obtain ⟨h1, h2⟩ := z_ck_ok h
        refine z_if_rel h1 ?_
        cases h2
        exact ⟨trivial, _, s, rfl, rfl, hm⟩
      · exact hs.2.elim
    · cases h
  | return_ =>
    rcases st with _ | ⟨a, r⟩
    · rcases S with _ | ⟨u, R⟩
      · cases h
        exact ⟨trivial, none, s, rfl, trivial, hm⟩
      · exact hs.elim
    · cases h
  | _ => exact absurd h (fun q => by cases q)
