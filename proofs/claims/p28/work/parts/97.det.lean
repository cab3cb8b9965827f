/-! TWO RUNS ARE ONE: what two posts say holds together. -/
def qs_Det (P : LPost → Prop) : Prop := ∀ Q1 Q2 : LPost, P Q1 → P Q2 → P (fun r s => Q1 r s ∧ Q2 r s)
theorem qs_kk_det {rt k : Nat} {K1 K2 K : LStk → LMem → Prop} {rest : LStk} {r : Option LV} {s : LMem} (hK : ∀ st s, K1 st s → K2 st s → K st s) (h1 : qa_kk rt k K1 rest r s) (h2 : qa_kk rt k K2 rest r s) : qa_kk rt k K rest r s := by
  rcases rt with _ | _ | _ | _ | rt
  · obtain ⟨a, e, h1⟩ := h1
    obtain ⟨b, e2, h2⟩ := h2
    rw [e] at e2
    cases e2
    exact Exists.intro a (And.intro e (hK _ _ h1 h2))
  · obtain ⟨a, e, h1⟩ := h1
    obtain ⟨b, e2, h2⟩ := h2
    rw [e] at e2
    cases e2
    exact Exists.intro a (And.intro e (hK _ _ h1 h2))
  · obtain ⟨a, e, h1⟩ := h1
    obtain ⟨b, e2, h2⟩ := h2
    rw [e] at e2
    cases e2
    exact Exists.intro a (And.intro e (hK _ _ h1 h2))
  · rcases h1 with ⟨e, h1⟩ | ⟨i, e, h1⟩
    · rcases h2 with ⟨e2, h2⟩ | ⟨i, e2, h2⟩
      · exact Or.inl (And.intro e (hK _ _ h1 h2))
      · rw [e] at e2
        cases e2
    · rcases h2 with ⟨e2, h2⟩ | ⟨j, e2, h2⟩
      · rw [e] at e2
        cases e2
      · rw [e] at e2
        cases e2
        exact Or.inr (Exists.intro i (And.intro e (hK _ _ h1 h2)))
  · exact And.intro h1.1 (hK _ _ h1.2 h2.2)
theorem qs_jmp_det {K1 K2 K : Nat → Prop} (hK : ∀ t, K1 t → K2 t → K t) : ∀ {l : List (Prop × Nat)} {d : Nat}, qa_jmp K1 l d → qa_jmp K2 l d → qa_jmp K l d
  | [], _, h1, h2 => hK _ h1 h2
  | _ :: _, _, h1, h2 => ⟨fun q => hK _ (h1.1 q) (h2.1 q), fun q => qs_jmp_det hK (h1.2 q) (h2.2 q)⟩
theorem qs_gd_det {g : Option Prop} {A B C : Prop} (h : A → B → C) (h1 : qa_gd g A) (h2 : qa_gd g B) : qa_gd g C := by
  cases g with
  | none => exact h h1 h2
  | some g => exact ⟨h1.1, h h1.2 h2.2⟩
theorem qs_det {X : LPost → Nat → Nat → Nat → LLoc → LStk → LMem → Prop} {C : Nat → List LV → LMem → LPost → Prop} {nx : LNx} (hX : ∀ bc bs pc loc st s, qs_Det (fun Q => X Q bc bs pc loc st s)) (hC : ∀ c a s, qs_Det (C c a s)) (hM : ∀ c a s (P P' : LPost), (∀ r s, P r s → P' r s) → C c a s P → C c a s P') : qs_Det (fun Q => qa_sem (X Q) C Q nx) := by
  intro Q1 Q2 h1 h2
  obtain ⟨g, act⟩ := nx
  refine qs_gd_det (fun h1 h2 => ?_) h1 h2
  rcases act with ⟨l, d, bc, bs, loc, st, s⟩ | ⟨o, t, d, bc, bs, loc, st, s⟩ | ⟨c, rt, rk, a, bc, bs, pc, loc, rest, s⟩ | ⟨r, s⟩
  · exact qs_jmp_det (fun t g1 g2 => hX _ _ _ _ _ _ Q1 Q2 g1 g2) h1 h2
  · cases o with
    | none => exact hX _ _ _ _ _ _ Q1 Q2 h1 h2
    | some i => exact hX _ _ _ _ _ _ Q1 Q2 h1 h2
  · exact hM _ _ _ _ _ (fun r s g => qs_kk_det (fun st s g1 g2 => hX _ _ _ _ _ _ Q1 Q2 g1 g2) g.1 g.2) (hC _ _ _ _ _ h1 h2)
  · exact ⟨h1, h2⟩
theorem qs_intr_det (c : Nat) (a : List LV) (s : LMem) : qs_Det (qa_intr c a s) := by
  intro Q1 Q2 h1 h2
  unfold qa_intr at h1 h2 ⊢
  split at h1
  · split at h1
    · exact ⟨h1.1, h1.2, h2.2⟩
    · exact h1.elim
  · split at h1
    · exact ⟨h1, h2⟩
    · exact h1.elim
  · unfold qa_reach at h1 h2 ⊢
    split at h1
    · exact ⟨fun e => ⟨h1.1 e, h2.1 e⟩, fun e => ⟨h1.2 e, h2.2 e⟩⟩
    · exact h1.elim
  · exact h1.elim
theorem qs_cm_det {f : Nat} (h0 : ∀ d mi bc bs pc loc st s, qs_Det (qa_wq false f d mi bc bs pc loc st s)) (d c : Nat) (a : List LV) (s : LMem) : qs_Det (qa_cm false (qa_wq false f) d c a s) := by
  unfold qa_cm
  cases Nat.ble 1000 c with
  | true => exact qs_intr_det c a s
  | false =>
    cases Nat.ble (qa_exp a).length (qa_mL c) with
    | false => exact fun _ _ h _ => h.elim
    | true => cases d with
      | zero => exact fun _ _ h _ => h.elim
      | succ d => exact h0 _ _ _ _ _ _ _ _
theorem qs_wq_det : ∀ (f d mi bc bs pc : Nat) (loc : LLoc) (st : LStk) (s : LMem), qs_Det (qa_wq false f d mi bc bs pc loc st s) := by
  intro f
  induction f with
  | zero => intro d mi bc bs pc loc st s _ _ h; exact h.elim
  | succ f ih =>
    intro d mi bc bs pc loc st s
    show qs_Det (fun Q => match qa_ft mi pc with
      | none => False
      | some e => qa_sem (fun bc bs pc loc st s => qa_wq false f d mi bc bs pc loc st s Q) (fun c args s Q' => qa_cm false (qa_wq false f) d c args s Q') Q (qa_ins false mi bc bs e pc loc st s))
    cases qa_ft mi pc with
    | none => exact fun _ _ h _ => h.elim
    | some e => exact qs_det (X := fun Q bc bs pc loc st s => qa_wq false f d mi bc bs pc loc st s Q) (fun bc bs pc loc st s => ih _ _ _ _ _ _ _ _) (fun c a s => qs_cm_det ih d c a s) (fun c a s P P' hp h9 => qs_Qmono (qs_cm_out (qs_wq_out f) d c a s) hp h9)
theorem qa_cm_fuel {f g d c : Nat} {a : List LV} {s : LMem} {Q : LPost} (h : f ≤ g) (h1 : qa_cm false (qa_wq false f) d c a s Q) : qa_cm false (qa_wq false g) d c a s Q :=
  qs_cm_mono (fun _ _ _ _ _ _ _ _ _ q => qs_fuel_le h q) h1
theorem qC_and {d c : Nat} {a : List LV} {s : LMem} {Q1 Q2 : LPost} (h1 : qC false d c a s Q1) (h2 : qC false d c a s Q2) : qC false d c a s (fun r s => Q1 r s ∧ Q2 r s) := by
  obtain ⟨f1, h1⟩ := h1
  obtain ⟨f2, h2⟩ := h2
  exact ⟨max f1 f2, qs_cm_det (qs_wq_det _) d c a s Q1 Q2 (qa_cm_fuel (Nat.le_max_left _ _) h1) (qa_cm_fuel (Nat.le_max_right _ _) h2)⟩
/-! SAFE CALLS: every int comes back, J and the script stay. -/
def lq (s : LMem) (Q : LPost) : Prop := ∀ v s', y_J x_X s' → (∀ i j, gI s' 65 i j = gI s 65 i j) → Q (some (lI v)) s'
def sf_a (a : Option YA × List YMS) : Bool := match a.1 with
  | some (.inl _) => true
  | _ => false
theorem sf_con {ct : YCt} (H : y_con x_X ct) (hk : (Nat.ble ct.2.2.2.2.2 1200 && ((ct.2.2.2.1.all fun w => !(Nat.beq w.1 65)) && ct.2.2.2.2.1.all sf_a)) = true) (hp : ct.2.2.1 = ([], [])) {As : List LV} {s : LMem} {Q : LPost} (hA : y_as ct.2.1 As) (hJ : y_J x_X s) (h : lq s Q) : qC false 1200 ct.1 As s Q := by
  obtain ⟨k1, k2⟩ := qa_and hk
  obtain ⟨k2, k3⟩ := qa_and k2
  refine H 1200 (Nat.le_of_ble_eq_true k1) As s Q hA hJ (by rw [hp]; exact ⟨y_msnil, fun _ q => absurd q List.not_mem_nil⟩) fun r s' hr J' F' => ?_
  obtain ⟨a, ha, h1, _⟩ := hr
  have h3 := List.all_eq_true.mp k3 a ha
  obtain ⟨a1, a2⟩ := a
  rcases a1 with _ | b | b
  · cases h3
  · rcases r with _ | v
    · exact h1.elim
    · have h1 : y_sv (.inl b) v := h1
      obtain ⟨x, rfl, _, _⟩ := y_aI h1
      refine h x s' J' fun i j => (F' 65 i j fun q => ?_).1
      obtain ⟨w, hw, q1, _⟩ := q
      have h4 := List.all_eq_true.mp k2 w hw
      rw [q1] at h4
      cases h4
  · cases h3
