/-! ONE STEP, BY NAMES. -/
abbrev YT : Type := Nat × YE × YLoc × YStk × YM
abbrev YC : Type := Nat × Nat × Nat × List YV × Nat × YE × YLoc × YStk × YM
abbrev YN : Type := List YT ⊕ (YC ⊕ (Option YV × YE × YM))
def y_o (ρ : List Int) : Option YV → Option LV → Prop
  | none, none => True
  | some a, some v => y_v ρ a v
  | _, _ => False
def y_K (X : LMem → Prop) (W : List YW) (s0 : LMem) (ρ : List Int) (m : YM) (s : LMem) : Prop := y_m ρ m s ∧ y_J X s ∧ y_Fr W s0 s
def y_rel (X : LMem → Prop) (W : List YW) (s0 : LMem) (bc bs : Nat) (ρ : List Int) : YN → LNx → Prop
  | .inl ts, nx => ∀ (X' : Nat → Nat → Nat → LLoc → LStk → LMem → Prop) (C : Nat → List LV → LMem → LPost → Prop) (Q : LPost), (∀ t ∈ ts, ∀ ρ' L S s, y_le ρ ρ' → y_E ρ' t.2.1 → y_l ρ' t.2.2.1 L → y_s ρ' t.2.2.2.1 S → y_K X W s0 ρ' t.2.2.2.2 s → X' bc bs t.1 L S s) → qa_sem X' C Q nx
  | .inr (.inl t), nx => qa_gd nx.1 True ∧ ∃ A L S s, nx.2 = .inr (.inr (.inl (t.1, t.2.1, t.2.2.1, A, bc, bs, t.2.2.2.2.1, L, S, s))) ∧ y_E ρ t.2.2.2.2.2.1 ∧ y_s ρ t.2.2.2.1 A ∧ y_l ρ t.2.2.2.2.2.2.1 L ∧ y_s ρ t.2.2.2.2.2.2.2.1 S ∧ y_K X W s0 ρ t.2.2.2.2.2.2.2.2 s
  | .inr (.inr o), nx => qa_gd nx.1 True ∧ ∃ r s, nx.2 = .inr (.inr (.inr (r, s))) ∧ y_E ρ o.2.1 ∧ y_o ρ o.1 r ∧ y_K X W s0 ρ o.2.2 s
def y_cc (b : Bool) (x : Option YN) : Option YN := match b with | true => x | false => none
theorem y_cc_ok {b : Bool} {x : Option YN} {zn : YN} (h : y_cc b x = some zn) : b = true ∧ x = some zn := by
  cases b with
  | true => exact ⟨rfl, h⟩
  | false => cases h
def y_go (pc : Nat) (e : YE) (loc : YLoc) (st : YStk) (m : YM) : Option YN := some (.inl [(pc, e, loc, st, m)])
def y_ps (q : YQ) (pc : Nat) (e : YE) (loc : YLoc) (st : YStk) (m : YM) : Option YN := y_go pc (y_nm q e).2 loc (yI (y_nm q e).1 :: st) m
def y_br (l : List (Nat × YE)) (loc : YLoc) (st : YStk) (m : YM) : Option YN := some (.inl (l.map fun q => (q.1, q.2, loc, st, m)))
section YS
variable {X : LMem → Prop} {W : List YW} {s0 : LMem} {bc bs : Nat} {ρ : List Int} {e : YE} {loc : YLoc} {L : LLoc} {st r : YStk} {S R : LStk} {m : YM} {s : LMem} {zn : YN} {pc : Nat}
theorem y_K_mono {ρ' : List Int} (hle : y_le ρ ρ') (h : y_K X W s0 ρ m s) : y_K X W s0 ρ' m s := ⟨y_m_mono hle h.1, h.2⟩
theorem y_gg_ok {g : Option Prop} {ρ' : List Int} (h : y_go pc e loc st m = some zn) (hg : qa_gd g True) (hle : y_le ρ ρ') (hE : y_E ρ' e) (hl : y_l ρ' loc L) (hs : y_s ρ' st S) (hm : y_K X W s0 ρ' m s) : y_rel X W s0 bc bs ρ zn (qa_gg g bc bs pc L S s) := by
  cases h
  intro X' C Q hX
  exact z_gd hg (hX _ List.mem_cons_self ρ' _ _ _ hle hE hl hs hm)
theorem y_go_ok (h : y_go pc e loc st m = some zn) (hE : y_E ρ e) (hl : y_l ρ loc L) (hs : y_s ρ st S) (hm : y_K X W s0 ρ m s) : y_rel X W s0 bc bs ρ zn (qa_go bc bs pc L S s) := y_gg_ok (g := none) h trivial (y_le_rf ρ) hE hl hs hm
theorem y_psg_ok {g : Option Prop} {q : YQ} {x : Int32} (h : y_ps q pc e loc st m = some zn) (hg : qa_gd g True) (hE : y_E ρ e) (hq : y_q ρ q x.toInt) (hl : y_l ρ loc L) (hs : y_s ρ st S) (hm : y_K X W s0 ρ m s) : y_rel X W s0 bc bs ρ zn (qa_gg g bc bs pc L (lI x :: S) s) := by
  obtain ⟨ρ', h1, h2, h3⟩ := y_nm_ok hE hq
  exact y_gg_ok h hg h1 h2 (y_l_mono h1 hl) ⟨h3, y_s_mono h1 hs⟩ (y_K_mono h1 hm)
theorem y_ps_ok {q : YQ} {x : Int32} (h : y_ps q pc e loc st m = some zn) (hE : y_E ρ e) (hq : y_q ρ q x.toInt) (hl : y_l ρ loc L) (hs : y_s ρ st S) (hm : y_K X W s0 ρ m s) : y_rel X W s0 bc bs ρ zn (qa_go bc bs pc L (lI x :: S) s) := y_psg_ok (g := none) h trivial hE hq hl hs hm
theorem y_br_ok {c : List (Prop × Nat) × Nat} {l : List (Nat × YE)} (h : y_br l loc st m = some zn) (hc : ∀ K : Nat → Prop, (∀ q ∈ l, y_E ρ q.2 → K q.1) → qa_jmp K c.1 c.2) (hl : y_l ρ loc L) (hs : y_s ρ st S) (hm : y_K X W s0 ρ m s) : y_rel X W s0 bc bs ρ zn (qa_br c bc bs L S s) := by
  cases h
  intro X' C Q hX
  exact hc (fun pc => X' bc bs pc L S s) (fun q hq hE => hX (q.1, q.2, loc, st, m) (List.mem_map.mpr ⟨q, hq, rfl⟩) ρ _ _ _ (y_le_rf ρ) hE hl hs hm)
def y1I (st : YStk) (K : YI → YStk → Option YN) : Option YN := match st with | .inl a :: r => K a r | _ => none
def y1L (st : YStk) (K : Option Int64 → YStk → Option YN) : Option YN := match st with | .inr (.inl a) :: r => K a r | _ => none
def y1R (st : YStk) (K : YR → YStk → Option YN) : Option YN := match st with | .inr (.inr q) :: r => K q r | _ => none
theorem y1I_ok {K : YI → YStk → Option YN} {K' : Int32 → LStk → LNx} (hS : y_s ρ st S) (h : y1I st K = some zn) (hK : ∀ a x r R, y_is ρ a x.toInt → y_s ρ r R → K a r = some zn → y_rel X W s0 bc bs ρ zn (K' x R)) : y_rel X W s0 bc bs ρ zn (qa_s1I s S K') := by
  rcases st with _ | ⟨a | a | a, r⟩
  · cases h
  · rcases S with _ | ⟨v | v | v, R⟩
    · exact hS.elim
    · exact hK a v r R hS.1 hS.2 h
    · exact hS.1.elim
    · exact hS.1.elim
  · cases h
  · cases h
theorem y1L_ok {K : Option Int64 → YStk → Option YN} {K' : Int64 → LStk → LNx} (hS : y_s ρ st S) (h : y1L st K = some zn) (hK : ∀ a x r R, z_L a x → y_s ρ r R → K a r = some zn → y_rel X W s0 bc bs ρ zn (K' x R)) : y_rel X W s0 bc bs ρ zn (qa_s1L s S K') := by
  rcases st with _ | ⟨a | a | a, r⟩
  · cases h
  · cases h
  · rcases S with _ | ⟨v | v | v, R⟩
    · exact hS.elim
    · exact hS.1.elim
    · exact hK a v r R hS.1 hS.2 h
    · exact hS.1.elim
  · cases h
theorem y1R_ok {K : YR → YStk → Option YN} {K' : Nat → Option Nat → LStk → LNx} (hS : y_s ρ st S) (h : y1R st K = some zn) (hK : ∀ (q : YR) o r R, y_rv ρ q.2.1 q.2.2.1 q.2.2.2 o → y_s ρ r R → K q r = some zn → y_rel X W s0 bc bs ρ zn (K' q.1 o R)) : y_rel X W s0 bc bs ρ zn (qa_s1R s S K') := by
  rcases st with _ | ⟨a | a | q, r⟩
  · cases h
  · cases h
  · cases h
  · rcases S with _ | ⟨v | v | ⟨k, o⟩, R⟩
    · exact hS.elim
    · exact hS.1.elim
    · exact hS.1.elim
    · obtain ⟨⟨e1, h1⟩, h2⟩ := hS
      have e1 : q.1 = k := e1
      subst e1
      exact hK q o r R h1 h2 h
def yldI (loc : YLoc) (n : Nat) (K : YI → Option YN) : Option YN := match y_nth loc n with | some (.inl a) => K a | _ => none
def yldL (loc : YLoc) (n : Nat) (K : Option Int64 → Option YN) : Option YN := match y_nth loc n with | some (.inr (.inl a)) => K a | _ => none
def yldR (loc : YLoc) (n : Nat) (K : YR → Option YN) : Option YN := match y_nth loc n with | some (.inr (.inr q)) => K q | _ => none
theorem yldI_ok {n : Nat} {K : YI → Option YN} {K' : Int32 → LNx} (hl : y_l ρ loc L) (h : yldI loc n K = some zn) (hK : ∀ a x, y_is ρ a x.toInt → K a = some zn → y_rel X W s0 bc bs ρ zn (K' x)) : y_rel X W s0 bc bs ρ zn (qa_ldI s L n K') := by
  unfold yldI at h
  cases e : y_nth loc n with
  | none => rw [e] at h; cases h
  | some a =>
    obtain ⟨v, e2, hv⟩ := y_nth_ok hl e
    rw [e] at h
    unfold qa_ldI
    rw [e2]
    rcases a with a | a | a
    · rcases v with v | v | v
      · exact hK a v hv h
      · exact hv.elim
      · exact hv.elim
    · cases h
    · cases h
theorem yldL_ok {n : Nat} {K : Option Int64 → Option YN} {K' : Int64 → LNx} (hl : y_l ρ loc L) (h : yldL loc n K = some zn) (hK : ∀ a x, z_L a x → K a = some zn → y_rel X W s0 bc bs ρ zn (K' x)) : y_rel X W s0 bc bs ρ zn (qa_ldL s L n K') := by
  unfold yldL at h
  cases e : y_nth loc n with
  | none => rw [e] at h; cases h
  | some a =>
    obtain ⟨v, e2, hv⟩ := y_nth_ok hl e
    rw [e] at h
    unfold qa_ldL
    rw [e2]
    rcases a with a | a | a
    · cases h
    · rcases v with v | v | v
      · exact hv.elim
      · exact hK a v hv h
      · exact hv.elim
    · cases h
theorem yldR_ok {n : Nat} {K : YR → Option YN} {K' : Nat → Option Nat → LNx} (hl : y_l ρ loc L) (h : yldR loc n K = some zn) (hK : ∀ (q : YR) o, y_rv ρ q.2.1 q.2.2.1 q.2.2.2 o → K q = some zn → y_rel X W s0 bc bs ρ zn (K' q.1 o)) : y_rel X W s0 bc bs ρ zn (qa_ldR s L n K') := by
  unfold yldR at h
  cases e : y_nth loc n with
  | none => rw [e] at h; cases h
  | some a =>
    obtain ⟨v, e2, hv⟩ := y_nth_ok hl e
    rw [e] at h
    unfold qa_ldR
    rw [e2]
    rcases a with a | a | q
    · cases h
    · cases h
    · rcases v with v | v | ⟨k, o⟩
      · exact hv.elim
      · exact hv.elim
      · obtain ⟨e1, h1⟩ := hv
        have e1 : q.1 = k := e1
        subst e1
        exact hK q o h1 h
/-- not null -/
def y_nn (e : YE) (z : YI) : Bool := match y_bd e z with | some b => decide (b.2 ≤ 0) | none => false
theorem y_nn_ok {z a : YI} {h : Int} {o : Option Nat} (hE : y_E ρ e) (hv : y_rv ρ z a h o) (hn : y_nn e z = true) : ∃ i : Nat, o = some i ∧ y_is ρ a (i : Int) ∧ (i : Int) ≤ h := by
  rcases hv with ⟨h1, h2⟩ | ⟨h1, h2⟩
  · unfold y_nn at hn
    cases e1 : y_bd e z with
    | none => rw [e1] at hn; cases hn
    | some b =>
      rw [e1] at hn
      have hn : decide (b.2 ≤ 0) = true := hn
      have hn := of_decide_eq_true hn
      obtain ⟨g1, g2⟩ := y_bd_ok hE h1 e1
      omega
  · exact h2
/-- surely null -/
def y_sn (e : YE) (z : YI) : Bool := match y_bd e z with | some b => decide (1 ≤ b.1) | none => false
theorem y_sn_ok {z a : YI} {h : Int} {o : Option Nat} (hE : y_E ρ e) (hv : y_rv ρ z a h o) (hn : y_sn e z = true) : o = none := by
  rcases hv with ⟨h1, h2⟩ | ⟨h1, h2⟩
  · exact h2
  · unfold y_sn at hn
    cases e1 : y_bd e z with
    | none => rw [e1] at hn; cases hn
    | some b =>
      rw [e1] at hn
      have hn : decide (1 ≤ b.1) = true := hn
      have hn := of_decide_eq_true hn
      obtain ⟨g1, g2⟩ := y_bd_ok hE h1 e1
      omega
theorem y_rv_c {a : YI} {h : Int} {i : Nat} (hE : y_E ρ e) (h1 : y_is ρ a (i : Int)) (h2 : (i : Int) ≤ h) : y_rv ρ (yc 0) a h (some i) := Or.inr ⟨y_is_c hE 0, i, rfl, h1, h2⟩
/-- an int is read -/
def y_gI (e : YE) (m : YM) (k : Nat) (i j : YI) (K : YV → YE → YM → Option YN) : Option YN := match y_fd k i j m with
  | some (.inl a) => K (yI a) e m
  | _ => (match y_bd e j with
    | some q => K (yI (e.1, 0)) (y_push e (y_lB k q)) ((k, i, j, yI (e.1, 0)) :: m)
    | none => none)
theorem y_gI_ok {k i' j' : Nat} {i j : YI} {K : YV → YE → YM → Option YN} {nx : LNx} (h : y_gI e m k i j K = some zn) (hE : y_E ρ e) (hi : y_is ρ i (i' : Int)) (hj : y_is ρ j (j' : Int)) (hm : y_K X W s0 ρ m s)
    (hK : ∀ ρ' v e' m', y_le ρ ρ' → y_E ρ' e' → y_v ρ' v (lI (gI s k i' j')) → y_K X W s0 ρ' m' s → K v e' m' = some zn → y_rel X W s0 bc bs ρ zn nx) : y_rel X W s0 bc bs ρ zn nx := by
  have main : ∀ q, y_bd e j = some q → K (yI (e.1, 0)) (y_push e (y_lB k q)) ((k, i, j, yI (e.1, 0)) :: m) = some zn → y_rel X W s0 bc bs ρ zn nx := fun q hq h => by
    obtain ⟨h1, h2, h3⟩ := y_push_ok hE (y_lB_ok (i := i') (k := k) hm.2.1.1 (y_bd_ok hE hj hq))
    refine hK _ (yI (e.1, 0)) _ _ h2 h1 h3 ⟨fun f hf => ?_, hm.2⟩ h
    rcases List.mem_cons.mp hf with rfl | hf
    · exact ⟨i', j', y_is_mono h2 hi, y_is_mono h2 hj, h3⟩
    · exact y_fo_mono h2 (hm.1 f hf)
  have side : ∀ {o}, (match y_bd e j with
    | some q => K (yI (e.1, 0)) (y_push e (y_lB k q)) ((k, i, j, yI (e.1, 0)) :: m)
    | none => none) = o → o = some zn → y_rel X W s0 bc bs ρ zn nx := fun {o} h1 h2 => by
    cases hb : y_bd e j with
    | none => rw [hb] at h1; subst h1; cases h2
    | some q => rw [hb] at h1; subst h1; exact main q hb h2
  unfold y_gI at h
  cases hf : y_fd k i j m with
  | none => rw [hf] at h; exact side rfl h
  | some v =>
    rw [hf] at h
    rcases v with a | a | a
    · exact hK ρ (yI a) _ _ (y_le_rf ρ) hE (y_fd_ok hi hj hm.1 hf) hm h
    · exact side rfl h
    · exact side rfl h
/-- a reference in an object's place -/
def y_hi20 (p : ZI) : Int := match decide (p.1 / 20 = p.2 / 20) with | true => 20 * (p.2 / 20) + 19 | false => p.2 + 1
def y_dR (e : YE) (m : YM) (k : Nat) (i : YI) (j : Nat) (K : YV → YE → YM → Option YN) : Option YN := match y_bd e i with
  | none => none
  | some p => (match Nat.beq k 21 && Nat.beq j 0 with
    | true => K (yR 21 (e.1, 0) (i.1, i.2 + 1) (y_hi20 p)) (y_push e (0, 1)) ((k, i, yc j, yR 21 (e.1, 0) (i.1, i.2 + 1) (y_hi20 p)) :: m)
    | false => (match Nat.beq k 17 && Nat.beq j 4 with
      | true => (match Nat.beq i.1 0 with
        | true => K (yR 21 (e.1, 0) (yc (20 * i.2)) (20 * i.2)) (y_push e (0, 1)) ((k, i, yc j, yR 21 (e.1, 0) (yc (20 * i.2)) (20 * i.2)) :: m)
        | false => K (yR 21 (e.1, 0) (e.1 + 1, 0) (20 * p.2)) (y_push (y_push e (0, 1)) (20 * p.1, 20 * p.2)) ((k, i, yc j, yR 21 (e.1, 0) (e.1 + 1, 0) (20 * p.2)) :: m))
      | false => (match Nat.beq k 17 && (Nat.beq j 6 || Nat.beq j 7) with
        | true => K (yR 8 (e.1, 0) (e.1 + 1, 0) 6) (y_push (y_push e (0, 1)) (0, 6)) ((k, i, yc j, yR 8 (e.1, 0) (e.1 + 1, 0) 6) :: m)
        | false => none)))
def y_oR (e : YE) (m : YM) (k : Nat) (i : YI) (j : Nat) (K : YV → YE → YM → Option YN) : Option YN := match qa_fm k j with
  | 0 => (match y_fd k i (yc j) m with
    | some (.inr (.inr q)) => K (.inr (.inr q)) e m
    | _ => y_dR e m k i j K)
  | 1 => (match y_bd e i with | some p => K (yR (qa_tk k j) (yc 0) i p.2) e m | none => none)
  | 2 => K (yR (qa_tk k j) (yc 0) (yc 0) 0) e m
  | 3 => K (yR (qa_tk k j) (yc 0) (yc 1) 1) e m
  | 4 => K (yR (qa_tk k j) (yc 0) (yc 2) 2) e m
  | _ => none
theorem y_20 {i : Nat} {p : ZI} (h1 : p.1 ≤ (i : Int)) (h2 : (i : Int) ≤ p.2) (h3 : (i + 1) % 20 ≠ 0) : ((i + 1 : Nat) : Int) ≤ y_hi20 p := by
  unfold y_hi20
  cases hd : decide (p.1 / 20 = p.2 / 20) with
  | true =>
    have hd := of_decide_eq_true hd
    show ((i + 1 : Nat) : Int) ≤ 20 * (p.2 / 20) + 19
    omega
  | false =>
    show ((i + 1 : Nat) : Int) ≤ p.2 + 1
    omega
theorem y_dR_ok {k i' j : Nat} {i : YI} {K : YV → YE → YM → Option YN} {nx : LNx} (h : y_dR e m k i j K = some zn) (hE : y_E ρ e) (hi : y_is ρ i (i' : Int)) (hm : y_K X W s0 ρ m s)
    (hK : ∀ ρ' v e' m', y_le ρ ρ' → y_E ρ' e' → y_v ρ' v (lR (qa_tk k j) (gR s k i' j)) → y_K X W s0 ρ' m' s → K v e' m' = some zn → y_rel X W s0 bc bs ρ zn nx) : y_rel X W s0 bc bs ρ zn nx := by
  unfold y_dR at h
  cases hb : y_bd e i with
  | none => rw [hb] at h; cases h
  | some p =>
    rw [hb] at h
    dsimp only at h
    obtain ⟨p1, p2⟩ := y_bd_ok hE hi hb
    have fin : ∀ {ρ' : List Int} (k9 : Nat) (z9 a9 : YI) (h9 : Int) {e' : YE} {o : Option Nat}, gR s k i' j = o → y_le ρ ρ' → y_E ρ' e' → k9 = qa_tk k j → y_rv ρ' z9 a9 h9 o → K (yR k9 z9 a9 h9) e' ((k, i, yc j, yR k9 z9 a9 h9) :: m) = some zn → y_rel X W s0 bc bs ρ zn nx := fun {ρ'} k9 z9 a9 h9 {e' o} g0 g1 g2 g3 g4 g5 => by
      rw [← g0] at g4
      refine hK ρ' (yR k9 z9 a9 h9) _ _ g1 g2 ⟨g3, g4⟩ ⟨fun f hf => ?_, hm.2⟩ g5
      rcases List.mem_cons.mp hf with rfl | hf
      · exact ⟨i', j, y_is_mono g1 hi, y_is_c g2 (j : Int), g3, g4⟩
      · exact y_fo_mono g1 (hm.1 f hf)
    have hnul : ∀ {v : Int}, (v = 1 ∨ v = 0) → (0 : Int) ≤ v ∧ v ≤ 1 := by intro v hv; omega
    cases e1 : (Nat.beq k 21 && Nat.beq j 0) with
    | true =>
      rw [e1] at h
      obtain ⟨q1, q2⟩ := qa_and e1
      have q1 := qa_beq q1
      have q2 := qa_beq q2
      subst q1
      subst q2
      cases hg : gR s 21 i' 0 with
      | none =>
        obtain ⟨h1, h2, h3⟩ := y_push_ok (v := 1) hE (b := (0, 1)) (by decide)
        exact fin _ _ _ _ hg h2 h1 rfl (Or.inl ⟨h3, rfl⟩) h
      | some t =>
        obtain ⟨h1, h2, h3⟩ := y_push_ok (v := 0) hE (b := (0, 1)) (by decide)
        obtain ⟨g1, g2⟩ := hm.2.1.2.1.2.2.2 i' t hg
        refine fin _ _ _ _ hg h2 h1 rfl (Or.inr ⟨h3, t, rfl, ?_, ?_⟩) h
        · obtain ⟨w, w1, w2⟩ := hi
          refine ⟨w, h2 _ _ w1, ?_⟩
          show (t : Int) = w + (i.2 + 1)
          omega
        · rw [g1] at g2 ⊢
          exact y_20 p1 p2 g2
    | false =>
      rw [e1] at h
      dsimp only at h
      cases e2 : (Nat.beq k 17 && Nat.beq j 4) with
      | true =>
        rw [e2] at h
        dsimp only at h
        obtain ⟨q1, q2⟩ := qa_and e2
        have q1 := qa_beq q1
        have q2 := qa_beq q2
        subst q1
        subst q2
        cases e3 : Nat.beq i.1 0 with
        | true =>
          rw [e3] at h
          have hi2 := y_is_0 hE hi e3
          cases hg : gR s 17 i' 4 with
          | none =>
            obtain ⟨h1, h2, h3⟩ := y_push_ok (v := 1) hE (b := (0, 1)) (by decide)
            exact fin _ _ _ _ hg h2 h1 rfl (Or.inl ⟨h3, rfl⟩) h
          | some t =>
            obtain ⟨h1, h2, h3⟩ := y_push_ok (v := 0) hE (b := (0, 1)) (by decide)
            have g1 := hm.2.1.2.1.1 i' t hg
            refine fin _ _ _ _ hg h2 h1 rfl (Or.inr ⟨h3, t, rfl, ?_, by show (t : Int) ≤ 20 * i.2; omega⟩) h
            have : (t : Int) = 20 * i.2 := by omega
            rw [this]
            exact y_is_c h1 _
        | false =>
          rw [e3] at h
          cases hg : gR s 17 i' 4 with
          | none =>
            obtain ⟨h1, h2, h3⟩ := y_push_ok (v := 1) hE (b := (0, 1)) (by decide)
            obtain ⟨h4, h5, h6⟩ := y_push_ok (v := 20 * (i' : Int)) h1 (b := (20 * p.1, 20 * p.2)) ⟨by show 20 * p.1 ≤ 20 * (i' : Int); omega, by show 20 * (i' : Int) ≤ 20 * p.2; omega⟩
            exact fin _ _ _ _ hg (y_le_tr h2 h5) h4 rfl (Or.inl ⟨y_is_mono h5 h3, rfl⟩) h
          | some t =>
            obtain ⟨h1, h2, h3⟩ := y_push_ok (v := 0) hE (b := (0, 1)) (by decide)
            have g1 := hm.2.1.2.1.1 i' t hg
            obtain ⟨h4, h5, h6⟩ := y_push_ok (v := (t : Int)) h1 (b := (20 * p.1, 20 * p.2)) ⟨by show 20 * p.1 ≤ (t : Int); omega, by show (t : Int) ≤ 20 * p.2; omega⟩
            exact fin _ _ _ _ hg (y_le_tr h2 h5) h4 rfl (Or.inr ⟨y_is_mono h5 h3, t, rfl, h6, by show (t : Int) ≤ 20 * p.2; omega⟩) h
      | false =>
        rw [e2] at h
        dsimp only at h
        cases e3 : (Nat.beq k 17 && (Nat.beq j 6 || Nat.beq j 7)) with
        | false => rw [e3] at h; cases h
        | true =>
          rw [e3] at h
          dsimp only at h
          obtain ⟨q1, q2⟩ := qa_and e3
          have q1 := qa_beq q1
          subst q1
          have ht : qa_tk 17 j = 8 := by
            rcases (Bool.or_eq_true _ _).mp q2 with q2 | q2 <;> (have q2 := qa_beq q2; subst q2; rfl)
          have hb6 : ∀ t, gR s 17 i' j = some t → t ≤ 6 := by
            rcases (Bool.or_eq_true _ _).mp q2 with q2 | q2
            · have q2 := qa_beq q2
              subst q2
              exact hm.2.1.2.1.2.1 i'
            · have q2 := qa_beq q2
              subst q2
              exact hm.2.1.2.1.2.2.1 i'
          cases hg : gR s 17 i' j with
          | none =>
            obtain ⟨h1, h2, h3⟩ := y_push_ok (v := 1) hE (b := (0, 1)) (by decide)
            obtain ⟨h4, h5, h6⟩ := y_push_ok (v := 0) h1 (b := (0, 6)) (by decide)
            exact fin _ _ _ _ hg (y_le_tr h2 h5) h4 ht.symm (Or.inl ⟨y_is_mono h5 h3, rfl⟩) h
          | some t =>
            have g1 := hb6 t hg
            obtain ⟨h1, h2, h3⟩ := y_push_ok (v := 0) hE (b := (0, 1)) (by decide)
            obtain ⟨h4, h5, h6⟩ := y_push_ok (v := (t : Int)) h1 (b := (0, 6)) ⟨by show (0 : Int) ≤ (t : Int); omega, by show (t : Int) ≤ 6; omega⟩
            exact fin _ _ _ _ hg (y_le_tr h2 h5) h4 ht.symm (Or.inr ⟨y_is_mono h5 h3, t, rfl, h6, by show (t : Int) ≤ 6; omega⟩) h
theorem y_oR_ok {k i' j : Nat} {i : YI} {K : YV → YE → YM → Option YN} {nx : LNx} (h : y_oR e m k i j K = some zn) (hE : y_E ρ e) (hi : y_is ρ i (i' : Int)) (hm : y_K X W s0 ρ m s)
    (hK : ∀ ρ' v e' m', y_le ρ ρ' → y_E ρ' e' → y_v ρ' v (lR (qa_tk k j) (qa_rdR false s k i' j)) → y_K X W s0 ρ' m' s → K v e' m' = some zn → y_rel X W s0 bc bs ρ zn nx) : y_rel X W s0 bc bs ρ zn nx := by
  unfold y_oR at h
  unfold qa_rdR at hK
  rcases hf : qa_fm k j with _ | _ | _ | _ | _ | n
  · rw [hf] at h hK
    have dyn : y_dR e m k i j K = some zn → y_rel X W s0 bc bs ρ zn nx := fun h => y_dR_ok h hE hi hm hK
    try dsimp only at h
    cases hq : y_fd k i (yc j) m with
    | none => rw [hq] at h; exact dyn h
    | some v =>
      rw [hq] at h
      rcases v with a | a | q
      · exact dyn h
      · exact dyn h
      · exact hK ρ (.inr (.inr q)) _ _ (y_le_rf ρ) hE (y_fd_ok hi (y_is_c hE (j : Int)) hm.1 hq) hm h
  · rw [hf] at h hK
    try dsimp only at h
    cases hb : y_bd e i with
    | none => rw [hb] at h; cases h
    | some p =>
      rw [hb] at h
      exact hK ρ (yR (qa_tk k j) (yc 0) i p.2) _ _ (y_le_rf ρ) hE ⟨rfl, y_rv_c hE hi (y_bd_ok hE hi hb).2⟩ hm h
  · rw [hf] at h hK
    exact hK ρ (yR (qa_tk k j) (yc 0) (yc 0) 0) _ _ (y_le_rf ρ) hE ⟨rfl, y_rv_c (i := 0) hE (y_is_c hE 0) (Int.le_refl 0)⟩ hm h
  · rw [hf] at h hK
    exact hK ρ (yR (qa_tk k j) (yc 0) (yc 1) 1) _ _ (y_le_rf ρ) hE ⟨rfl, y_rv_c (i := 1) hE (y_is_c hE 1) (Int.le_refl 1)⟩ hm h
  · rw [hf] at h hK
    exact hK ρ (yR (qa_tk k j) (yc 0) (yc 2) 2) _ _ (y_le_rf ρ) hE ⟨rfl, y_rv_c (i := 2) hE (y_is_c hE 2) (Int.le_refl 2)⟩ hm h
  · rw [hf] at h
    cases h
/-- a place of an object -/
def y_rdV (e : YE) (m : YM) (k : Nat) (i : YI) (j : Nat) (K : YV → YE → YM → Option YN) : Option YN := match qa_tg k j with
  | 0 => y_gI e m k i (yc j) K
  | 1 => y_gI e m k i (yc j) K
  | 2 => K (yL none) e m
  | _ => y_oR e m k i j K
theorem y_rdV_ok {k i' j : Nat} {i : YI} {K : YV → YE → YM → Option YN} {nx : LNx} (h : y_rdV e m k i j K = some zn) (hE : y_E ρ e) (hi : y_is ρ i (i' : Int)) (hm : y_K X W s0 ρ m s)
    (hK : ∀ ρ' v e' m', y_le ρ ρ' → y_E ρ' e' → y_v ρ' v (qa_rdV false s k i' j) → y_K X W s0 ρ' m' s → K v e' m' = some zn → y_rel X W s0 bc bs ρ zn nx) : y_rel X W s0 bc bs ρ zn nx := by
  unfold y_rdV at h
  unfold qa_rdV at hK
  rcases ht : qa_tg k j with _ | _ | _ | t
  · rw [ht] at h hK
    exact y_gI_ok h hE hi (y_is_c hE (j : Int)) hm hK
  · rw [ht] at h hK
    exact y_gI_ok h hE hi (y_is_c hE (j : Int)) hm hK
  · rw [ht] at h hK
    exact hK ρ (yL none) _ _ (y_le_rf ρ) hE (fun b hb => by cases hb) hm h
  · rw [ht] at h hK
    exact y_oR_ok h hE hi hm hK
/-- rows of references -/
def y_af (k : Nat) : Nat := match k with | 3 => 5 | 5 => 6 | 7 => 5 | 12 => 5 | 18 => 6 | 25 => 5 | 31 => 5 | _ => 0
theorem y_af_ok {k j : Nat} (h : Nat.beq (y_af k) 0 = false) : qa_fm k j = y_af k := by
  unfold y_af at h ⊢
  split at h <;> first | rfl | cases h
def y_aR (e : YE) (k : Nat) (i j : YI) (K : YV → YE → Option YN) : Option YN := match y_af k with
  | 5 => (match y_bd e j with | some q => K (yR (qa_tk k 0) (yc 0) j q.2) e | none => none)
  | 6 => (match y_bd e i, y_bd e j with
    | some p, some q => (match Nat.beq i.1 0 with
      | true => K (yR (qa_tk k 0) (yc 0) (j.1, j.2 + 20 * i.2) (20 * i.2 + q.2)) e
      | false => K (yR (qa_tk k 0) (yc 0) (e.1, 0) (20 * p.2 + q.2)) (y_push e (20 * p.1 + q.1, 20 * p.2 + q.2)))
    | _, _ => none)
  | _ => none
theorem y_aR_ok {k i' j' : Nat} {i j : YI} {K : YV → YE → Option YN} {nx : LNx} (h : y_aR e k i j K = some zn) (hE : y_E ρ e) (hi : y_is ρ i (i' : Int)) (hj : y_is ρ j (j' : Int))
    (hK : ∀ ρ' v e', y_le ρ ρ' → y_E ρ' e' → y_v ρ' v (lR (qa_tk k 0) (qa_rdR false s k i' j')) → K v e' = some zn → y_rel X W s0 bc bs ρ zn nx) : y_rel X W s0 bc bs ρ zn nx := by
  unfold y_aR at h
  unfold qa_rdR at hK
  dsimp only at hK
  have h0 : Nat.beq (y_af k) 0 = false := by
    cases hz : Nat.beq (y_af k) 0 with
    | false => rfl
    | true => rw [qa_beq hz] at h; cases h
  rw [y_af_ok h0] at hK
  rcases ha : y_af k with _ | _ | _ | _ | _ | _ | _ | n
  · rw [ha] at h; cases h
  · rw [ha] at h; cases h
  · rw [ha] at h; cases h
  · rw [ha] at h; cases h
  · rw [ha] at h; cases h
  · rw [ha] at h hK
    try dsimp only at h
    cases hb : y_bd e j with
    | none => rw [hb] at h; cases h
    | some q =>
      rw [hb] at h
      exact hK ρ (yR (qa_tk k 0) (yc 0) j q.2) _ (y_le_rf ρ) hE ⟨rfl, y_rv_c hE hj (y_bd_ok hE hj hb).2⟩ h
  · rw [ha] at h hK
    try dsimp only at h
    cases hb : y_bd e i with
    | none => rw [hb] at h; cases h
    | some p => cases hb2 : y_bd e j with
      | none => rw [hb, hb2] at h; cases h
      | some q =>
        rw [hb, hb2] at h
        try dsimp only at h
        obtain ⟨p1, p2⟩ := y_bd_ok hE hi hb
        obtain ⟨q1, q2⟩ := y_bd_ok hE hj hb2
        cases e1 : Nat.beq i.1 0 with
        | true =>
          rw [e1] at h
          have hi2 := y_is_0 hE hi e1
          refine hK ρ (yR (qa_tk k 0) (yc 0) (j.1, j.2 + 20 * i.2) (20 * i.2 + q.2)) _ (y_le_rf ρ) hE ⟨rfl, y_rv_c (i := 20 * i' + j') hE ?_ ?_⟩ h
          · obtain ⟨w, w1, w2⟩ := hj
            refine ⟨w, w1, ?_⟩
            show ((20 * i' + j' : Nat) : Int) = w + (j.2 + 20 * i.2)
            omega
          · show ((20 * i' + j' : Nat) : Int) ≤ 20 * i.2 + q.2
            omega
        | false =>
          rw [e1] at h
          obtain ⟨h1, h2, h3⟩ := y_push_ok (v := ((20 * i' + j' : Nat) : Int)) hE (b := (20 * p.1 + q.1, 20 * p.2 + q.2)) ⟨by show 20 * p.1 + q.1 ≤ _; omega, by show _ ≤ 20 * p.2 + q.2; omega⟩
          refine hK _ (yR (qa_tk k 0) (yc 0) (e.1, 0) (20 * p.2 + q.2)) _ h2 h1 ⟨rfl, y_rv_c (i := 20 * i' + j') h1 h3 ?_⟩ h
          show ((20 * i' + j' : Nat) : Int) ≤ 20 * p.2 + q.2
          omega
  · rw [ha] at h; cases h
/-- an int is written -/
def y_stI (W : List YW) (e : YE) (m : YM) (k : Nat) (i j a : YI) (K : YM → Option YN) : Option YN := match y_bd e i, y_bd e j, y_bd e a with
  | some p, some q, some v => y_cc (y_inS W k p q && (y_sB k q v && y_sP k q)) (K ((k, i, j, yI a) :: y_kp e k i j m))
  | _, _, _ => none
theorem y_stI_ok (hX : y_cl X) {k i' j' : Nat} {i j a : YI} {x : Int32} {K : YM → Option YN} {nx : LNx} (h : y_stI W e m k i j a K = some zn) (hE : y_E ρ e) (hi : y_is ρ i (i' : Int)) (hj : y_is ρ j (j' : Int)) (ha : y_is ρ a x.toInt) (hm : y_K X W s0 ρ m s)
    (hK : ∀ m', y_K X W s0 ρ m' (sI s k i' j' x) → K m' = some zn → y_rel X W s0 bc bs ρ zn nx) : y_rel X W s0 bc bs ρ zn nx := by
  unfold y_stI at h
  cases h1 : y_bd e i with
  | none => rw [h1] at h; cases h
  | some p => cases h2 : y_bd e j with
    | none => rw [h1, h2] at h; cases h
    | some q => cases h3 : y_bd e a with
      | none => rw [h1, h2, h3] at h; cases h
      | some v =>
        rw [h1, h2, h3] at h
        obtain ⟨h4, h5⟩ := y_cc_ok h
        obtain ⟨h6, h7⟩ := qa_and h4
        obtain ⟨h7, h8⟩ := qa_and h7
        have bj := y_bd_ok hE hj h2
        refine hK _ ⟨fun f hf => ?_, y_J_sI hX hm.2.1 bj (y_bd_ok hE ha h3) h7 h8, y_Fr_sI hm.2.2 (y_inS_ok h6 (y_bd_ok hE hi h1) bj)⟩ h5
        rcases List.mem_cons.mp hf with rfl | hf
        · refine ⟨i', j', hi, hj, ?_⟩
          show y_is ρ a (gI (sI s k i' j' x) k i' j').toInt
          rw [gI_sI, if_pos ⟨rfl, rfl, rfl⟩]
          exact ha
        · refine y_kp_ok (s := s) (s' := sI s k i' j' x) hE hm.1 hi hj (fun k2 i2 j2 hn => ⟨?_, rfl⟩) f hf
          rw [gI_sI, if_neg hn]
/-- a long is written -/
def y_stL (W : List YW) (e : YE) (k : Nat) (i : YI) (j : Nat) (K : Option YN) : Option YN := match y_bd e i with
  | some p => y_cc (y_inS W k p ((j : Int), (j : Int))) K
  | none => none
theorem y_stL_ok {k i' j : Nat} {i : YI} {x : Int64} {K : Option YN} {nx : LNx} (h : y_stL W e k i j K = some zn) (hE : y_E ρ e) (hi : y_is ρ i (i' : Int)) (hm : y_K X W s0 ρ m s) (hX : y_cl X)
    (hK : y_K X W s0 ρ m (sL s k i' j x) → K = some zn → y_rel X W s0 bc bs ρ zn nx) : y_rel X W s0 bc bs ρ zn nx := by
  unfold y_stL at h
  cases h1 : y_bd e i with
  | none => rw [h1] at h; cases h
  | some p =>
    rw [h1] at h
    obtain ⟨h4, h5⟩ := y_cc_ok h
    exact hK ⟨hm.1, ⟨hm.2.1.1, hm.2.1.2.1, hX s _ (fun _ _ _ _ => rfl) hm.2.1.2.2⟩, y_Fr_sL hm.2.2 (y_inS_ok h4 (y_bd_ok hE hi h1) ⟨Int.le_refl _, Int.le_refl _⟩)⟩ h5
/-- a law is written -/
def y_stR (W : List YW) (e : YE) (m : YM) (k : Nat) (i : YI) (j : Nat) (v : YR) (K : YM → Option YN) : Option YN := match y_bd e i with
  | some p => y_cc ((Nat.beq k 17 && (Nat.beq j 6 || Nat.beq j 7)) && (y_inS W k p ((j : Int), (j : Int)) && ((Nat.beq v.1 8 && decide (v.2.2.2 ≤ 6)) || y_sn e v.2.1))) (K (y_kp e k i (yc j) m))
  | none => none
theorem y_stR_ok {k i' j : Nat} {i : YI} {v : YR} {o : Option Nat} {K : YM → Option YN} {nx : LNx} (h : y_stR W e m k i j v K = some zn) (hE : y_E ρ e) (hi : y_is ρ i (i' : Int)) (hv : y_rv ρ v.2.1 v.2.2.1 v.2.2.2 o) (hm : y_K X W s0 ρ m s) (hX : y_cl X)
    (hK : ∀ m', (Nat.beq v.1 (qa_tk k j) || qa_nul o) = true → Nat.beq (qa_fm k j) 0 = true → y_K X W s0 ρ m' (sR s k i' j o) → K m' = some zn → y_rel X W s0 bc bs ρ zn nx) : y_rel X W s0 bc bs ρ zn nx := by
  unfold y_stR at h
  cases h1 : y_bd e i with
  | none => rw [h1] at h; cases h
  | some p =>
    rw [h1] at h
    obtain ⟨h4, h5⟩ := y_cc_ok h
    obtain ⟨h6, h7⟩ := qa_and h4
    obtain ⟨h7, h8⟩ := qa_and h7
    obtain ⟨q1, q2⟩ := qa_and h6
    have q1 := qa_beq q1
    subst q1
    have htk : qa_tk 17 j = 8 ∧ qa_fm 17 j = 0 ∧ j ≠ 4 := by
      rcases (Bool.or_eq_true _ _).mp q2 with q2 | q2 <;> (have q2 := qa_beq q2; subst q2; exact ⟨rfl, rfl, by decide⟩)
    obtain ⟨t1, t2, t3⟩ := htk
    have ho : (Nat.beq v.1 8 || qa_nul o) = true ∧ ∀ t, o = some t → t ≤ 6 := by
      rcases (Bool.or_eq_true _ _).mp h8 with h8 | h8
      · obtain ⟨g1, g2⟩ := qa_and h8
        have g2 := of_decide_eq_true g2
        refine ⟨by rw [g1]; rfl, fun t ht => ?_⟩
        rcases hv with ⟨_, u2⟩ | ⟨_, t2, u2, _, u4⟩
        · rw [u2] at ht; cases ht
        · rw [u2] at ht
          cases ht
          omega
      · have := y_sn_ok hE hv h8
        subst this
        exact ⟨by simp [qa_nul], fun t ht => by cases ht⟩
    refine hK _ (by rw [t1]; exact ho.1) (by rw [t2]; rfl) ⟨?_, ⟨hm.2.1.1, ?_, hX s _ (fun _ _ _ _ => rfl) hm.2.1.2.2⟩, y_Fr_sR hm.2.2 (y_inS_ok h7 (y_bd_ok hE hi h1) ⟨Int.le_refl _, Int.le_refl _⟩)⟩ h5
    · exact y_kp_ok (s := s) hE hm.1 hi (y_is_c hE (j : Int)) (fun k2 i2 j2 hn => ⟨rfl, by rw [gR_sR, if_neg hn]⟩)
    · obtain ⟨r1, r2, r3, r4⟩ := hm.2.1.2.1
      refine ⟨fun i2 q hq => ?_, fun i2 q hq => ?_, fun i2 q hq => ?_, fun i2 q hq => ?_⟩
      · rw [gR_sR, if_neg (fun c => t3 c.2.2.symm)] at hq
        exact r1 i2 q hq
      · rw [gR_sR] at hq
        split at hq
        · exact ho.2 q hq
        · exact r2 i2 q hq
      · rw [gR_sR] at hq
        split at hq
        · exact ho.2 q hq
        · exact r3 i2 q hq
      · rw [gR_sR, if_neg (fun c => absurd c.1 (by decide))] at hq
        exact r4 i2 q hq
end YS
