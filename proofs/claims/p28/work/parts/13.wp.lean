/-! Level 2: what the light machine comes to, without fuel; trees of steps. -/
theorem qs_jmp {K K' : Nat → Prop} (h : ∀ t, K t → K' t) : ∀ {l : List (Prop × Nat)} {d : Nat}, qa_jmp K l d → qa_jmp K' l d
  | [], _, h1 => h _ h1
  | _ :: _, _, h1 => ⟨fun q => h _ (h1.1 q), fun q => qs_jmp h (h1.2 q)⟩
theorem qs_kk {rt k : Nat} {K K' : LStk → LMem → Prop} {rest : LStk} {r : Option LV} {s : LMem} (h : ∀ st s, K st s → K' st s) (h1 : qa_kk rt k K rest r s) : qa_kk rt k K' rest r s := by
  rcases rt with _ | _ | _ | _ | rt
  · obtain ⟨a, e, h1⟩ := h1; exact Exists.intro a (And.intro e (h _ _ h1))
  · obtain ⟨a, e, h1⟩ := h1; exact Exists.intro a (And.intro e (h _ _ h1))
  · obtain ⟨a, e, h1⟩ := h1; exact Exists.intro a (And.intro e (h _ _ h1))
  · rcases h1 with ⟨e, h1⟩ | ⟨i, e, h1⟩
    · exact Or.inl (And.intro e (h _ _ h1))
    · exact Or.inr (Exists.intro i (And.intro e (h _ _ h1)))
  · obtain ⟨e, h1⟩ := h1; exact And.intro e (h _ _ h1)
theorem qs_gd {g : Option Prop} {A B : Prop} (h : A → B) (h1 : qa_gd g A) : qa_gd g B := by
  cases g with
  | none => exact h h1
  | some g => exact ⟨h1.1, h h1.2⟩
theorem qs_mono {X X' : Nat → Nat → Nat → LLoc → LStk → LMem → Prop} {C C' : Nat → List LV → LMem → LPost → Prop} {Q Q' : LPost} {nx : LNx} (hX : ∀ bc bs pc loc st s, X bc bs pc loc st s → X' bc bs pc loc st s)
    (hC : ∀ c a s (P P' : LPost), (∀ r s, P r s → P' r s) → C c a s P → C' c a s P') (hQ : ∀ r s, Q r s → Q' r s) (h : qa_sem X C Q nx) : qa_sem X' C' Q' nx := by
  obtain ⟨g, act⟩ := nx
  refine qs_gd (fun h => ?_) h
  rcases act with ⟨l, d, bc, bs, loc, st, s⟩ | ⟨o, t, d, bc, bs, loc, st, s⟩ | ⟨c, rt, rk, a, bc, bs, pc, loc, rest, s⟩ | ⟨r, s⟩
  · exact qs_jmp (fun t => hX _ _ _ _ _ _) h
  · cases o with
    | none => exact hX _ _ _ _ _ _ h
    | some i => exact hX _ _ _ _ _ _ h
  · exact hC _ _ _ _ _ (fun r s h => qs_kk (fun st s => hX _ _ _ _ _ _) h) h
  · exact hQ _ _ h
/-- an outcome: one answer and one memory decide -/
def qs_Out (P : LPost → Prop) : Prop := ∀ Q, P Q → ∃ r s, Q r s ∧ ∀ Q' : LPost, Q' r s → P Q'
theorem qs_kk_out {rt k : Nat} {K : LPost → LStk → LMem → Prop} {rest : LStk} {r : Option LV} {s : LMem} (hK : ∀ st s, qs_Out (fun Q => K Q st s)) {Q : LPost} (h : qa_kk rt k (K Q) rest r s) : ∃ r1 s1, Q r1 s1 ∧ ∀ Q' : LPost, Q' r1 s1 → qa_kk rt k (K Q') rest r s := by
  rcases rt with _ | _ | _ | _ | rt
  · obtain ⟨a, e, h⟩ := h
    obtain ⟨r1, s1, h1, h2⟩ := hK _ _ Q h
    exact ⟨r1, s1, h1, fun Q' q => Exists.intro a (And.intro e (h2 Q' q))⟩
  · obtain ⟨a, e, h⟩ := h
    obtain ⟨r1, s1, h1, h2⟩ := hK _ _ Q h
    exact ⟨r1, s1, h1, fun Q' q => Exists.intro a (And.intro e (h2 Q' q))⟩
  · obtain ⟨a, e, h⟩ := h
    obtain ⟨r1, s1, h1, h2⟩ := hK _ _ Q h
    exact ⟨r1, s1, h1, fun Q' q => Exists.intro a (And.intro e (h2 Q' q))⟩
  · rcases h with ⟨e, h⟩ | ⟨i, e, h⟩
    · obtain ⟨r1, s1, h1, h2⟩ := hK _ _ Q h
      exact ⟨r1, s1, h1, fun Q' q => Or.inl (And.intro e (h2 Q' q))⟩
    · obtain ⟨r1, s1, h1, h2⟩ := hK _ _ Q h
      exact ⟨r1, s1, h1, fun Q' q => Or.inr (Exists.intro i (And.intro e (h2 Q' q)))⟩
  · obtain ⟨e, h⟩ := h
    obtain ⟨r1, s1, h1, h2⟩ := hK _ _ Q h
    exact ⟨r1, s1, h1, fun Q' q => And.intro e (h2 Q' q)⟩
theorem qs_jmp_out {K : LPost → Nat → Prop} (hK : ∀ t, qs_Out (fun Q => K Q t)) {Q : LPost} : ∀ {l : List (Prop × Nat)} {d : Nat}, qa_jmp (K Q) l d → ∃ r s, Q r s ∧ ∀ Q' : LPost, Q' r s → qa_jmp (K Q') l d
  | [], _, h => hK _ Q h
  | (c, t) :: l, d, h => by
    by_cases e : c
    · obtain ⟨r, s, h1, h2⟩ := hK _ Q (h.1 e)
      exact ⟨r, s, h1, fun Q' q => ⟨fun _ => h2 Q' q, fun q2 => absurd e q2⟩⟩
    · obtain ⟨r, s, h1, h2⟩ := qs_jmp_out hK (h.2 e)
      exact ⟨r, s, h1, fun Q' q => ⟨fun q2 => absurd q2 e, fun _ => h2 Q' q⟩⟩
theorem qs_gd_out {g : Option Prop} {P : LPost → Prop} (h : qs_Out P) : qs_Out (fun Q => qa_gd g (P Q)) := by
  intro Q h1
  cases g with
  | none => exact h Q h1
  | some g =>
    obtain ⟨r, s, h2, h3⟩ := h Q h1.2
    exact ⟨r, s, h2, fun Q' q => And.intro h1.1 (h3 Q' q)⟩
theorem qs_out {X : LPost → Nat → Nat → Nat → LLoc → LStk → LMem → Prop} {C : Nat → List LV → LMem → LPost → Prop} {nx : LNx} (hX : ∀ bc bs pc loc st s, qs_Out (fun Q => X Q bc bs pc loc st s)) (hC : ∀ c a s, qs_Out (C c a s)) : qs_Out (fun Q => qa_sem (X Q) C Q nx) := by
  obtain ⟨g, act⟩ := nx
  refine qs_gd_out (g := g) ?_
  rcases act with ⟨l, d, bc, bs, loc, st, s⟩ | ⟨o, t, d, bc, bs, loc, st, s⟩ | ⟨c, rt, rk, a, bc, bs, pc, loc, rest, s⟩ | ⟨r, s⟩
  · intro Q h
    exact qs_jmp_out (K := fun Q pc => X Q bc bs pc loc st s) (fun t => hX _ _ _ _ _ _) h
  · cases o with
    | none => exact hX bc bs t loc st s
    | some i => exact hX bc bs d loc st s
  · intro Q h
    obtain ⟨r1, s1, h1, h2⟩ := hC _ _ _ _ h
    obtain ⟨r, s2, h3, h4⟩ := qs_kk_out (K := fun Q st s' => X Q bc bs pc loc st s') (fun st s => hX _ _ _ _ _ _) h1
    exact ⟨r, s2, h3, fun Q' q => h2 _ (h4 Q' q)⟩
  · intro Q h
    exact ⟨r, s, h, fun Q' q => q⟩
theorem qs_intr_out (c : Nat) (a : List LV) (s : LMem) : qs_Out (qa_intr c a s) := by
  intro Q h
  unfold qa_intr at h
  split at h
  · split at h
    · exact ⟨_, _, h.2, fun Q' q => And.intro h.1 q⟩
    · exact h.elim
  · split at h
    · exact ⟨_, _, h, fun Q' q => q⟩
    · exact h.elim
  · unfold qa_reach at h
    split at h
    · rename_i d r w
      by_cases e : qa_rOK s d r w
      · exact ⟨_, _, h.1 e, fun Q' q => And.intro (fun _ => q) (fun q2 => absurd e q2)⟩
      · exact ⟨_, _, h.2 e, fun Q' q => And.intro (fun q2 => absurd q2 e) (fun _ => q)⟩
    · exact h.elim
  · exact h.elim
theorem qs_cm_out {ph : Bool} {f : Nat} (h0 : ∀ d mi bc bs pc loc st s, qs_Out (qa_wq ph f d mi bc bs pc loc st s)) (d c : Nat) (a : List LV) (s : LMem) : qs_Out (qa_cm ph (qa_wq ph f) d c a s) := by
  unfold qa_cm
  cases Nat.ble 1000 c with
  | true =>
    cases ph with
    | true => exact fun Q h => h.elim
    | false => exact qs_intr_out c a s
  | false =>
    cases Nat.ble (qa_exp a).length (qa_mL c) with
    | false => exact fun Q h => h.elim
    | true => cases d with
      | zero => exact fun Q h => h.elim
      | succ d => exact h0 _ _ _ _ _ _ _ _
theorem qs_wq_out {ph : Bool} : ∀ (f d mi bc bs pc : Nat) (loc : LLoc) (st : LStk) (s : LMem), qs_Out (qa_wq ph f d mi bc bs pc loc st s) := by
  intro f
  induction f with
  | zero => intro d mi bc bs pc loc st s Q h; exact h.elim
  | succ f ih =>
    intro d mi bc bs pc loc st s
    show qs_Out (fun Q => match qa_ft mi pc with
      | none => False
      | some e => qa_sem (fun bc bs pc loc st s => qa_wq ph f d mi bc bs pc loc st s Q) (fun c args s Q' => qa_cm ph (qa_wq ph f) d c args s Q') Q (qa_ins ph mi bc bs e pc loc st s))
    cases qa_ft mi pc with
    | none => exact fun Q h => h.elim
    | some e => exact qs_out (X := fun Q bc bs pc loc st s => qa_wq ph f d mi bc bs pc loc st s Q) (fun bc bs pc loc st s => ih _ _ _ _ _ _ _ _) (fun c a s => qs_cm_out ih d c a s)
theorem qs_Qmono {P : LPost → Prop} (h : qs_Out P) {Q Q' : LPost} (hq : ∀ r s, Q r s → Q' r s) (h1 : P Q) : P Q' := by
  obtain ⟨r, s, h2, h3⟩ := h Q h1
  exact h3 Q' (hq r s h2)
theorem qs_cm_mono {ph : Bool} {W W' : Nat → Nat → Nat → Nat → Nat → LLoc → LStk → LMem → LPost → Prop} (hW : ∀ d mi bc bs pc loc st s Q, W d mi bc bs pc loc st s Q → W' d mi bc bs pc loc st s Q) {d c : Nat} {a : List LV} {s : LMem} {Q : LPost} (h : qa_cm ph W d c a s Q) : qa_cm ph W' d c a s Q := by
  unfold qa_cm at h ⊢
  cases hb : Nat.ble 1000 c with
  | true => rw [hb] at h; exact h
  | false =>
    rw [hb] at h
    cases hl : Nat.ble (qa_exp a).length (qa_mL c) with
    | false => rw [hl] at h; exact h.elim
    | true =>
      rw [hl] at h
      cases d with
      | zero => exact h.elim
      | succ d => exact hW _ _ _ _ _ _ _ _ _ h
theorem qs_fuel {ph : Bool} : ∀ (f d mi bc bs pc : Nat) (loc : LLoc) (st : LStk) (s : LMem) (Q : LPost), qa_wq ph f d mi bc bs pc loc st s Q → qa_wq ph (f + 1) d mi bc bs pc loc st s Q := by
  intro f
  induction f with
  | zero => intro d mi bc bs pc loc st s Q h; exact h.elim
  | succ f ih =>
    intro d mi bc bs pc loc st s Q h
    have h : (match qa_ft mi pc with
      | none => False
      | some e => qa_sem (fun bc bs pc loc st s => qa_wq ph f d mi bc bs pc loc st s Q) (fun c args s Q' => qa_cm ph (qa_wq ph f) d c args s Q') Q (qa_ins ph mi bc bs e pc loc st s)) := h
    show (match qa_ft mi pc with
      | none => False
      | some e => qa_sem (fun bc bs pc loc st s => qa_wq ph (f + 1) d mi bc bs pc loc st s Q) (fun c args s Q' => qa_cm ph (qa_wq ph (f + 1)) d c args s Q') Q (qa_ins ph mi bc bs e pc loc st s))
    cases he : qa_ft mi pc with
    | none => rw [he] at h; exact h.elim
    | some e =>
      rw [he] at h
      exact qs_mono (fun bc bs pc loc st s => ih _ _ _ _ _ _ _ _ _) (fun c a s P P' hp h9 => qs_cm_mono ih (qs_Qmono (qs_cm_out (qs_wq_out f) d c a s) hp h9)) (fun _ _ q => q) h
theorem qs_fuel_le {ph : Bool} {f g d mi bc bs pc : Nat} {loc : LLoc} {st : LStk} {s : LMem} {Q : LPost} (h : f ≤ g) (h1 : qa_wq ph f d mi bc bs pc loc st s Q) : qa_wq ph g d mi bc bs pc loc st s Q := by
  induction h with
  | refl => exact h1
  | step _ ih => exact qs_fuel _ _ _ _ _ _ _ _ _ _ ih
/-- WHAT A BODY COMES TO; what a call comes to -/
def qW (ph : Bool) (d mi bc bs pc : Nat) (loc : LLoc) (st : LStk) (s : LMem) (Q : LPost) : Prop := ∃ f, qa_wq ph f d mi bc bs pc loc st s Q
def qC (ph : Bool) (d c : Nat) (a : List LV) (s : LMem) (Q : LPost) : Prop := ∃ f, qa_cm ph (qa_wq ph f) d c a s Q
theorem qC_mono {ph : Bool} {d c : Nat} {a : List LV} {s : LMem} {Q Q' : LPost} (h : qC ph d c a s Q) (hq : ∀ r s, Q r s → Q' r s) : qC ph d c a s Q' := by
  obtain ⟨f, h⟩ := h
  exact ⟨f, qs_Qmono (qs_cm_out (qs_wq_out f) d c a s) hq h⟩
theorem qW_mono {ph : Bool} {d mi bc bs pc : Nat} {loc : LLoc} {st : LStk} {s : LMem} {Q Q' : LPost} (h : qW ph d mi bc bs pc loc st s Q) (hq : ∀ r s, Q r s → Q' r s) : qW ph d mi bc bs pc loc st s Q' := by
  obtain ⟨f, h⟩ := h
  exact ⟨f, qs_Qmono (qs_wq_out f _ _ _ _ _ _ _ _) hq h⟩
theorem qs_jmp_ex {K : Nat → Nat → Prop} : ∀ {l : List (Prop × Nat)} {d : Nat}, qa_jmp (fun t => ∃ n, K n t) l d → ∃ n, qa_jmp (K n) l d
  | [], _, h => h
  | (c, t) :: l, d, h => by
    by_cases e : c
    · obtain ⟨n, h1⟩ := h.1 e
      exact ⟨n, fun _ => h1, fun q => absurd e q⟩
    · obtain ⟨n, h1⟩ := qs_jmp_ex (h.2 e)
      exact ⟨n, fun q => absurd q e, fun _ => h1⟩
theorem qs_kk_ex {rt k : Nat} {K : Nat → LStk → LMem → Prop} {rest : LStk} {r : Option LV} {s : LMem} (h : qa_kk rt k (fun st s => ∃ n, K n st s) rest r s) : ∃ n, qa_kk rt k (K n) rest r s := by
  rcases rt with _ | _ | _ | _ | rt
  · obtain ⟨a, e, n, h⟩ := h; exact ⟨n, Exists.intro a (And.intro e h)⟩
  · obtain ⟨a, e, n, h⟩ := h; exact ⟨n, Exists.intro a (And.intro e h)⟩
  · obtain ⟨a, e, n, h⟩ := h; exact ⟨n, Exists.intro a (And.intro e h)⟩
  · rcases h with ⟨e, n, h⟩ | ⟨i, e, n, h⟩
    · exact ⟨n, Or.inl (And.intro e h)⟩
    · exact ⟨n, Or.inr (Exists.intro i (And.intro e h))⟩
  · obtain ⟨e, n, h⟩ := h; exact ⟨n, And.intro e h⟩
/-- a step -/
theorem qW_step {ph : Bool} {d mi bc bs pc : Nat} {loc : LLoc} {st : LStk} {s : LMem} {Q : LPost} {e : LEnt} (he : qa_ft mi pc = some e)
    (h : qa_sem (fun bc bs pc loc st s => qW ph d mi bc bs pc loc st s Q) (qC ph d) Q (qa_ins ph mi bc bs e pc loc st s)) : qW ph d mi bc bs pc loc st s Q := by
  suffices h9 : ∃ f, qa_sem (fun bc bs pc loc st s => qa_wq ph f d mi bc bs pc loc st s Q) (fun c args s Q' => qa_cm ph (qa_wq ph f) d c args s Q') Q (qa_ins ph mi bc bs e pc loc st s) by
    obtain ⟨f, h9⟩ := h9
    refine ⟨f + 1, ?_⟩
    show (match qa_ft mi pc with
      | none => False
      | some e => qa_sem (fun bc bs pc loc st s => qa_wq ph f d mi bc bs pc loc st s Q) (fun c args s Q' => qa_cm ph (qa_wq ph f) d c args s Q') Q (qa_ins ph mi bc bs e pc loc st s))
    rw [he]
    exact h9
  generalize qa_ins ph mi bc bs e pc loc st s = nx at h
  obtain ⟨g, act⟩ := nx
  have gd : ∀ {P : Nat → Prop} {A : Prop}, (A → ∃ f, P f) → qa_gd g A → ∃ f, qa_gd g (P f) := by
    intro P A k h
    cases g with
    | none => exact k h
    | some g =>
      obtain ⟨f, h2⟩ := k h.2
      exact ⟨f, h.1, h2⟩
  refine gd (fun h => ?_) h
  rcases act with ⟨l, d9, bc, bs, loc, st, s⟩ | ⟨o, t, d9, bc, bs, loc, st, s⟩ | ⟨c, rt, rk, a, bc, bs, pc, loc, rest, s⟩ | ⟨r, s⟩
  · exact qs_jmp_ex (K := fun f pc => qa_wq ph f d mi bc bs pc loc st s Q) h
  · cases o with
    | none => exact h
    | some i => exact h
  · obtain ⟨f1, h1⟩ := h
    obtain ⟨r1, s1, h2, h3⟩ := qs_cm_out (qs_wq_out f1) d c a s _ h1
    obtain ⟨f2, h4⟩ := qs_kk_ex (K := fun f st s' => qa_wq ph f d mi bc bs pc loc st s' Q) h2
    refine ⟨f1 + f2, qs_cm_mono (fun _ _ _ _ _ _ _ _ _ => qs_fuel_le (Nat.le_add_right f1 f2)) (h3 _ (qs_kk (fun st s => qs_fuel_le (Nat.le_add_left f2 f1)) h4))⟩
  · exact ⟨0, h⟩
/-! Trees: so many steps at once, up to the places of a list. -/
def qa_cut : List Nat → Nat → Bool
  | [], _ => false
  | c :: l, n => match Nat.beq n c with | true => true | false => qa_cut l n
def qa_tr (ph : Bool) (d : Nat) (cut : List Nat) (mi : Nat) (Q : LPost) : Nat → Nat → Nat → Nat → LLoc → LStk → LMem → Prop
  | 0 => fun bc bs pc loc st s => qW ph d mi bc bs pc loc st s Q
  | f + 1 => fun bc bs pc loc st s => match qa_cut cut pc with
    | true => qW ph d mi bc bs pc loc st s Q
    | false => match qa_ft mi pc with
      | none => False
      | some e => qa_sem (qa_tr ph d cut mi Q f) (qC ph d) Q (qa_ins ph mi bc bs e pc loc st s)
/-- the first step is taken also at a place of the list -/
def qa_t1 (ph : Bool) (d : Nat) (cut : List Nat) (mi : Nat) (Q : LPost) (f bc bs pc : Nat) (loc : LLoc) (st : LStk) (s : LMem) : Prop := match qa_ft mi pc with
  | none => False
  | some e => qa_sem (qa_tr ph d cut mi Q f) (qC ph d) Q (qa_ins ph mi bc bs e pc loc st s)
theorem qa_tr_W {ph : Bool} {d : Nat} {cut : List Nat} {mi : Nat} {Q : LPost} : ∀ (f bc bs pc : Nat) (loc : LLoc) (st : LStk) (s : LMem), qa_tr ph d cut mi Q f bc bs pc loc st s → qW ph d mi bc bs pc loc st s Q := by
  intro f
  induction f with
  | zero => intro bc bs pc loc st s h; exact h
  | succ f ih =>
    intro bc bs pc loc st s h
    have h : (match qa_cut cut pc with
      | true => qW ph d mi bc bs pc loc st s Q
      | false => match qa_ft mi pc with
        | none => False
        | some e => qa_sem (qa_tr ph d cut mi Q f) (qC ph d) Q (qa_ins ph mi bc bs e pc loc st s)) := h
    cases hc : qa_cut cut pc with
    | true => rw [hc] at h; exact h
    | false =>
      rw [hc] at h
      cases he : qa_ft mi pc with
      | none => rw [he] at h; exact h.elim
      | some e =>
        rw [he] at h
        exact qW_step he (qs_mono ih (fun c a s P P' hp h9 => qC_mono h9 hp) (fun _ _ q => q) h)
theorem qa_t1_W {ph : Bool} {d : Nat} {cut : List Nat} {mi : Nat} {Q : LPost} (f : Nat) {bc bs pc : Nat} {loc : LLoc} {st : LStk} {s : LMem} (h : qa_t1 ph d cut mi Q f bc bs pc loc st s) : qW ph d mi bc bs pc loc st s Q := by
  unfold qa_t1 at h
  cases he : qa_ft mi pc with
  | none => rw [he] at h; exact h.elim
  | some e =>
    rw [he] at h
    exact qW_step he (qs_mono (qa_tr_W f) (fun c a s P P' hp h9 => qC_mono h9 hp) (fun _ _ q => q) h)
/-- a call of a method of the light machine -/
theorem qC_of {ph : Bool} {d c : Nat} {a : List LV} {s : LMem} {Q : LPost} (hc : Nat.ble 1000 c = false) (hl : Nat.ble (qa_exp a).length (qa_mL c) = true) (h : qW ph d c (qa_cst c).1 (qa_cst c).2 0 (qa_mk a (qa_mL c)) [] s Q) : qC ph (d + 1) c a s Q := by
  obtain ⟨f, h⟩ := h
  refine ⟨f, ?_⟩
  unfold qa_cm
  rw [hc, hl]
  exact h
/-- what a call answers: an int, nothing .. -/
def qKI (K : Int32 → LMem → Prop) : LPost := fun r s => ∃ a, r = some (lI a) ∧ K a s
def qKL (K : Int64 → LMem → Prop) : LPost := fun r s => ∃ a, r = some (lL a) ∧ K a s
def qKV (K : LMem → Prop) : LPost := fun r s => r = none ∧ K s
