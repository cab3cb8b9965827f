/-! ALL WAYS OF A METHOD UP TO ITS CUTS; contracts. -/
abbrev YA : Type := ZI ⊕ (Unit ⊕ (Nat × ZI × ZI))
/-- what stands in a place of the memory -/
abbrev YMS : Type := Nat × Nat × Nat × YA
/-- an argument that is what stands in a place -/
abbrev YEq : Type := Nat × Nat × Nat × Nat
abbrev YCt : Type := Nat × List YA × (List YMS × List YEq) × List YW × List (Option YA × List YMS) × Nat
abbrev YO : Type := (Option YV ⊕ (Nat × YLoc × YStk)) × YE × YM
/-- what a value must be -/
def y_sv : YA → LV → Prop
  | .inl b, .inl x => b.1 ≤ x.toInt ∧ x.toInt ≤ b.2
  | .inr (.inl _), .inr (.inl _) => True
  | .inr (.inr t), .inr (.inr q) => t.1 = q.1 ∧ ((q.2 = none ∧ (t.2.1.1 ≤ 1 ∧ 1 ≤ t.2.1.2) ∧ t.2.2.1 ≤ t.2.2.2) ∨ ∃ i : Nat, q.2 = some i ∧ (t.2.1.1 ≤ 0 ∧ 0 ≤ t.2.1.2) ∧ t.2.2.1 ≤ (i : Int) ∧ (i : Int) ≤ t.2.2.2)
  | _, _ => False
def y_as : List YA → List LV → Prop
  | [], [] => True
  | a :: l, v :: r => y_sv a v ∧ y_as l r
  | _, _ => False
def y_sls : List (Option YA) → LLoc → Prop
  | [], [] => True
  | none :: l, _ :: r => y_sls l r
  | some a :: l, some v :: r => y_sv a v ∧ y_sls l r
  | _, _ => False
def y_ro : Option YA → Option LV → Prop
  | none, none => True
  | some a, some v => y_sv a v
  | _, _ => False
def y_msv (s : LMem) (q : YMS) : Prop := match q.2.2.2 with
  | .inl b => b.1 ≤ (gI s q.1 q.2.1 q.2.2.1).toInt ∧ (gI s q.1 q.2.1 q.2.2.1).toInt ≤ b.2
  | .inr (.inl _) => True
  | .inr (.inr t) => y_sv (.inr (.inr t)) (lR (qa_tk q.1 q.2.2.1) (gR s q.1 q.2.1 q.2.2.1))
def y_mss (s : LMem) (l : List YMS) : Prop := ∀ q ∈ l, y_msv s q
def y_eqs (s : LMem) (As : List LV) (l : List YEq) : Prop := ∀ q ∈ l, ∃ x : Int32, As[q.1]? = some (lI x) ∧ x = gI s q.2.1 q.2.2.1 q.2.2.2
/-- A CONTRACT: the method (its number), its arguments, what must stand in the memory, the places that it may write, its answers (one of these: the answer, what stands in the memory then), its depth -/
def y_con (X : LMem → Prop) (ct : YCt) : Prop := ∀ (d : Nat), ct.2.2.2.2.2 ≤ d → ∀ (As : List LV) (s : LMem) (Q : LPost), y_as ct.2.1 As → y_J X s → (y_mss s ct.2.2.1.1 ∧ y_eqs s As ct.2.2.1.2) → (∀ r s', (∃ a ∈ ct.2.2.2.2.1, y_ro a.1 r ∧ y_mss s' a.2) → y_J X s' → y_Fr ct.2.2.2.1 s s' → Q r s') → qC false d ct.1 As s Q
/-! checks of values against specs -/
def y_wi (p b : ZI) : Bool := decide (b.1 ≤ p.1) && decide (p.2 ≤ b.2)
def y_sp (e : YE) : YA → YV → Bool
  | .inl b, .inl a => (match y_bd e a with | some p => y_wi p b | none => false)
  | .inr (.inl _), .inr (.inl _) => true
  | .inr (.inr t), .inr (.inr q) => Nat.beq t.1 q.1 && ((match y_bd e q.2.1 with | some p => y_wi p t.2.1 | none => false) && (decide (t.2.2.1 ≤ t.2.2.2) && (y_sn e q.2.1 || (match y_bd e q.2.2.1 with | some p => decide (t.2.2.1 ≤ p.1) && (decide (p.2 ≤ t.2.2.2) || decide (q.2.2.2 ≤ t.2.2.2)) | none => false))))
  | _, _ => false
def y_sps (e : YE) : List YA → List YV → Bool
  | [], [] => true
  | a :: l, v :: r => y_sp e a v && y_sps e l r
  | _, _ => false
def y_slc (e : YE) : List (Option YA) → YLoc → Bool
  | [], [] => true
  | none :: l, _ :: r => y_slc e l r
  | some a :: l, some v :: r => y_sp e a v && y_slc e l r
  | _, _ => false
def y_rok (e : YE) : Option YA → Option YV → Bool
  | none, none => true
  | some a, some v => y_sp e a v
  | _, _ => false
section
variable {ρ : List Int} {e : YE}
theorem y_wi_ok {p b : ZI} {x : Int} (h : y_wi p b = true) (hx : p.1 ≤ x ∧ x ≤ p.2) : b.1 ≤ x ∧ x ≤ b.2 := by
  obtain ⟨h1, h2⟩ := qa_and h
  have h1 := of_decide_eq_true h1
  have h2 := of_decide_eq_true h2
  omega
theorem y_sp_ok (hE : y_E ρ e) {a : YA} {v : YV} {u : LV} (hv : y_v ρ v u) (h : y_sp e a v = true) : y_sv a u := by
  rcases a with b | _ | t
  · rcases v with a | a | a
    · rcases u with x | x | x
      · have h : (match y_bd e a with | some p => y_wi p b | none => false) = true := h
        cases h1 : y_bd e a with
        | none => rw [h1] at h; cases h
        | some p =>
          rw [h1] at h
          exact y_wi_ok h (y_bd_ok hE hv h1)
      · exact hv.elim
      · exact hv.elim
    · cases h
    · cases h
  · rcases v with a | a | a
    · cases h
    · rcases u with x | x | x
      · exact hv.elim
      · trivial
      · exact hv.elim
    · cases h
  · rcases v with a | a | q
    · cases h
    · cases h
    · rcases u with x | x | x
      · exact hv.elim
      · exact hv.elim
      · obtain ⟨v1, v2⟩ := hv
        obtain ⟨h1, h2⟩ := qa_and h
        obtain ⟨h2, h3⟩ := qa_and h2
        obtain ⟨h3, h4⟩ := qa_and h3
        have h3 := of_decide_eq_true h3
        refine ⟨(qa_beq h1).trans v1, ?_⟩
        have hz : ∀ w, y_is ρ q.2.1 w → t.2.1.1 ≤ w ∧ w ≤ t.2.1.2 := fun w hw => by
          cases h5 : y_bd e q.2.1 with
          | none => rw [h5] at h2; cases h2
          | some p =>
            rw [h5] at h2
            exact y_wi_ok h2 (y_bd_ok hE hw h5)
        rcases v2 with ⟨w1, w2⟩ | ⟨w1, i, w2, w3, w4⟩
        · exact Or.inl ⟨w2, hz 1 w1, h3⟩
        · refine Or.inr ⟨i, w2, hz 0 w1, ?_⟩
          rcases (Bool.or_eq_true _ _).mp h4 with h4 | h4
          · have := y_sn_ok (a := q.2.2.1) (h := q.2.2.2) hE (Or.inr ⟨w1, i, w2, w3, w4⟩) h4
            rw [w2] at this
            cases this
          · cases h5 : y_bd e q.2.2.1 with
            | none => rw [h5] at h4; cases h4
            | some p =>
              rw [h5] at h4
              obtain ⟨g1, g2⟩ := y_bd_ok hE w3 h5
              obtain ⟨h6, h7⟩ := qa_and h4
              have h6 := of_decide_eq_true h6
              rcases (Bool.or_eq_true _ _).mp h7 with h7 | h7 <;> (have h7 := of_decide_eq_true h7; omega)
theorem y_sps_ok (hE : y_E ρ e) : ∀ {l : List YA} {r : List YV} {R : List LV}, y_s ρ r R → y_sps e l r = true → y_as l R
  | [], [], [], _, _ => trivial
  | [], [], _ :: _, h, _ => h.elim
  | [], _ :: _, _, _, h => by cases h
  | _ :: _, [], _, _, h => by cases h
  | _ :: _, _ :: _, [], h, _ => h.elim
  | a :: l, v :: r, u :: R, hs, h => by
    obtain ⟨h1, h2⟩ := qa_and (show (y_sp e a v && y_sps e l r) = true from h)
    exact ⟨y_sp_ok hE hs.1 h1, y_sps_ok hE (l := l) (r := r) hs.2 h2⟩
theorem y_slc_ok (hE : y_E ρ e) : ∀ {l : List (Option YA)} {r : YLoc} {R : LLoc}, y_l ρ r R → y_slc e l r = true → y_sls l R
  | [], [], [], _, _ => trivial
  | [], [], _ :: _, h, _ => h.elim
  | [], _ :: _, _, _, h => by cases h
  | none :: _, [], _, _, h => by cases h
  | some _ :: _, [], _, _, h => by cases h
  | none :: l, none :: r, [], h, _ => h.elim
  | none :: l, some _ :: r, [], h, _ => h.elim
  | none :: l, none :: r, _ :: R, hs, h => y_slc_ok hE (l := l) (r := r) (R := R) hs h
  | none :: l, some _ :: r, none :: R, hs, h => hs.elim
  | none :: l, some _ :: r, some _ :: R, hs, h => y_slc_ok hE (l := l) (r := r) (R := R) hs.2 h
  | some a :: l, none :: r, _, _, h => by cases h
  | some a :: l, some v :: r, [], hs, _ => hs.elim
  | some a :: l, some v :: r, none :: R, hs, _ => hs.elim
  | some a :: l, some v :: r, some u :: R, hs, h => by
    obtain ⟨h1, h2⟩ := qa_and (show (y_sp e a v && y_slc e l r) = true from h)
    exact ⟨y_sp_ok hE hs.1 h1, y_slc_ok hE (l := l) (r := r) hs.2 h2⟩
theorem y_rok_ok (hE : y_E ρ e) {a : Option YA} {v : Option YV} {u : Option LV} (hv : y_o ρ v u) (h : y_rok e a v = true) : y_ro a u := by
  rcases a with _ | a
  · rcases v with _ | v
    · rcases u with _ | u
      · trivial
      · exact hv.elim
    · cases h
  · rcases v with _ | v
    · cases h
    · rcases u with _ | u
      · exact hv.elim
      · exact y_sp_ok hE hv h
/-! a state out of specs -/
def y_nb (e : YE) (b : ZI) : YI × YE := match decide (b.1 = b.2) with | true => (yc b.1, e) | false => ((e.1, 0), y_push e b)
theorem y_nb_ok {b : ZI} {v : Int} (hE : y_E ρ e) (hb : b.1 ≤ v ∧ v ≤ b.2) : ∃ ρ', y_le ρ ρ' ∧ y_E ρ' (y_nb e b).2 ∧ y_is ρ' (y_nb e b).1 v := by
  unfold y_nb
  cases hd : decide (b.1 = b.2) with
  | true =>
    have hd := of_decide_eq_true hd
    have e1 : v = b.1 := by omega
    refine ⟨ρ, y_le_rf ρ, hE, ?_⟩
    rw [e1]
    exact y_is_c hE _
  | false =>
    obtain ⟨h1, h2, h3⟩ := y_push_ok hE hb
    exact ⟨_, h2, h1, h3⟩
def y_in1 (e : YE) : YA → YV × YE
  | .inl b => (yI (y_nb e b).1, (y_nb e b).2)
  | .inr (.inl _) => (yL none, e)
  | .inr (.inr t) => (yR t.1 (y_nb e t.2.1).1 (y_nb (y_nb e t.2.1).2 t.2.2).1 t.2.2.2, (y_nb (y_nb e t.2.1).2 t.2.2).2)
theorem y_in1_ok (hE : y_E ρ e) {a : YA} {u : LV} (h : y_sv a u) : ∃ ρ', y_le ρ ρ' ∧ y_E ρ' (y_in1 e a).2 ∧ y_v ρ' (y_in1 e a).1 u := by
  rcases a with b | _ | t
  · rcases u with x | x | x
    · obtain ⟨ρ', h1, h2, h3⟩ := y_nb_ok hE h
      exact ⟨ρ', h1, h2, h3⟩
    · exact h.elim
    · exact h.elim
  · rcases u with x | x | x
    · exact h.elim
    · exact ⟨ρ, y_le_rf ρ, hE, fun _ q => nomatch q⟩
    · exact h.elim
  · rcases u with x | x | x
    · exact h.elim
    · exact h.elim
    · obtain ⟨h1, ⟨h2, h3, h4⟩ | ⟨i, h2, h3, h4⟩⟩ := h
      · obtain ⟨ρ1, a1, a2, a3⟩ := y_nb_ok hE h3
        obtain ⟨ρ2, b1, b2, b3⟩ := y_nb_ok (v := t.2.2.1) a2 (b := t.2.2) ⟨Int.le_refl _, h4⟩
        exact ⟨ρ2, y_le_tr a1 b1, b2, h1, Or.inl ⟨y_is_mono b1 a3, h2⟩⟩
      · obtain ⟨ρ1, a1, a2, a3⟩ := y_nb_ok hE h3
        obtain ⟨ρ2, b1, b2, b3⟩ := y_nb_ok (v := (i : Int)) a2 (b := t.2.2) h4
        exact ⟨ρ2, y_le_tr a1 b1, b2, h1, Or.inr ⟨y_is_mono b1 a3, i, h2, b3, h4.2⟩⟩
def y_insA (e : YE) : List YA → List YV × YE
  | [] => ([], e)
  | a :: l => ((y_in1 e a).1 :: (y_insA (y_in1 e a).2 l).1, (y_insA (y_in1 e a).2 l).2)
theorem y_insA_ok : ∀ {l : List YA} {R : List LV} {ρ : List Int} {e : YE}, y_E ρ e → y_as l R → ∃ ρ', y_le ρ ρ' ∧ y_E ρ' (y_insA e l).2 ∧ y_s ρ' (y_insA e l).1 R
  | [], [], ρ, _, hE, _ => ⟨ρ, y_le_rf ρ, hE, trivial⟩
  | [], _ :: _, _, _, _, h => h.elim
  | _ :: _, [], _, _, _, h => h.elim
  | a :: l, u :: R, ρ, e, hE, h => by
    obtain ⟨ρ1, h1, h2, h3⟩ := y_in1_ok hE h.1
    obtain ⟨ρ2, h4, h5, h6⟩ := y_insA_ok (l := l) h2 h.2
    exact ⟨ρ2, y_le_tr h1 h4, h5, y_v_mono h4 h3, h6⟩
def y_insL (e : YE) : List (Option YA) → YLoc × YE
  | [] => ([], e)
  | none :: l => (none :: (y_insL e l).1, (y_insL e l).2)
  | some a :: l => (some (y_in1 e a).1 :: (y_insL (y_in1 e a).2 l).1, (y_insL (y_in1 e a).2 l).2)
theorem y_insL_ok : ∀ {l : List (Option YA)} {R : LLoc} {ρ : List Int} {e : YE}, y_E ρ e → y_sls l R → ∃ ρ', y_le ρ ρ' ∧ y_E ρ' (y_insL e l).2 ∧ y_l ρ' (y_insL e l).1 R
  | [], [], ρ, _, hE, _ => ⟨ρ, y_le_rf ρ, hE, trivial⟩
  | [], _ :: _, _, _, _, h => h.elim
  | none :: _, [], _, _, _, h => h.elim
  | some _ :: _, [], _, _, _, h => h.elim
  | some _ :: _, none :: _, _, _, _, h => h.elim
  | none :: l, u :: R, ρ, e, hE, h => by
    obtain ⟨ρ1, h1, h2, h3⟩ := y_insL_ok (l := l) (R := R) hE h
    exact ⟨ρ1, h1, h2, h3⟩
  | some a :: l, some u :: R, ρ, e, hE, h => by
    obtain ⟨ρ1, h1, h2, h3⟩ := y_in1_ok hE h.1
    obtain ⟨ρ2, h4, h5, h6⟩ := y_insL_ok (l := l) h2 h.2
    exact ⟨ρ2, y_le_tr h1 h4, h5, y_v_mono h4 h3, h6⟩
/-- a place of the memory is as it must be -/
def y_mc (e : YE) (m : YM) (q : YMS) : Bool := match y_fd q.1 (yc (q.2.1 : Int)) (yc (q.2.2.1 : Int)) m with
  | some v => y_sp e q.2.2.2 v
  | none => (match q.2.2.2 with | .inl b => y_wi (y_lB q.1 ((q.2.2.1 : Int), (q.2.2.1 : Int))) b | _ => false)
def y_mcs (e : YE) (m : YM) (l : List YMS) : Bool := l.all (y_mc e m)
theorem y_mc_ok (hE : y_E ρ e) {m : YM} {s : LMem} {q : YMS} (hm : y_m ρ m s) (hJ : y_JB s) (h : y_mc e m q = true) : y_msv s q := by
  unfold y_mc at h
  obtain ⟨k, i, j, a⟩ := q
  dsimp only at h
  cases hf : y_fd k (yc (i : Int)) (yc (j : Int)) m with
  | none =>
    rw [hf] at h
    rcases a with b | a | a
    · exact y_wi_ok h (y_lB_ok hJ ⟨Int.le_refl _, Int.le_refl _⟩)
    · cases h
    · cases h
  | some v =>
    rw [hf] at h
    have h9 := y_fd_ok (y_is_c hE (i : Int)) (y_is_c hE (j : Int)) hm hf
    rcases a with b | a | a
    · rcases v with v | v | v
      · exact y_sp_ok (a := .inl b) (v := yI v) (u := lI (gI s k i j)) hE h9 h
      · cases h
      · cases h
    · trivial
    · rcases v with v | v | v
      · cases h
      · cases h
      · exact y_sp_ok (a := .inr (.inr a)) (v := .inr (.inr v)) (u := lR (qa_tk k j) (gR s k i j)) hE h9 h
theorem y_mcs_ok (hE : y_E ρ e) {m : YM} {s : LMem} {l : List YMS} (hm : y_m ρ m s) (hJ : y_JB s) (h : y_mcs e m l = true) : y_mss s l := fun q hq => y_mc_ok hE hm hJ (List.all_eq_true.mp h q hq)
def y_im (e : YE) (m : YM) : List YMS → YE × YM
  | [] => (e, m)
  | q :: l => y_im (y_in1 e q.2.2.2).2 ((q.1, yc (q.2.1 : Int), yc (q.2.2.1 : Int), (y_in1 e q.2.2.2).1) :: m) l
theorem y_im_ok : ∀ {l : List YMS} {ρ : List Int} {e : YE} {m : YM} {s : LMem}, y_E ρ e → y_m ρ m s → y_mss s l → ∃ ρ', y_le ρ ρ' ∧ y_E ρ' (y_im e m l).1 ∧ y_m ρ' (y_im e m l).2 s
  | [], ρ, _, _, _, hE, hm, _ => ⟨ρ, y_le_rf ρ, hE, hm⟩
  | (k, i, j, a) :: l, ρ, e, m, s, hE, hm, h => by
    have h0 : y_msv s (k, i, j, a) := h _ List.mem_cons_self
    have hl : y_mss s l := fun q hq => h q (List.mem_cons_of_mem _ hq)
    have main : ∃ ρ1, y_le ρ ρ1 ∧ y_E ρ1 (y_in1 e a).2 ∧ y_fo ρ1 s (k, yc (i : Int), yc (j : Int), (y_in1 e a).1) := by
      rcases a with b | a | a
      · obtain ⟨ρ1, h1, h2, h3⟩ := y_in1_ok (a := .inl b) (u := lI (gI s k i j)) hE h0
        exact ⟨ρ1, h1, h2, i, j, y_is_c h2 _, y_is_c h2 _, h3⟩
      · exact ⟨ρ, y_le_rf ρ, hE, i, j, y_is_c hE _, y_is_c hE _, trivial⟩
      · obtain ⟨ρ1, h1, h2, h3⟩ := y_in1_ok (a := .inr (.inr a)) (u := lR (qa_tk k j) (gR s k i j)) hE h0
        exact ⟨ρ1, h1, h2, i, j, y_is_c h2 _, y_is_c h2 _, h3⟩
    obtain ⟨ρ1, h1, h2, h3⟩ := main
    obtain ⟨ρ2, h4, h5, h6⟩ := y_im_ok (l := l) (s := s) (m := (k, yc (i : Int), yc (j : Int), (y_in1 e a).1) :: m) h2 (fun f hf => by
      rcases List.mem_cons.mp hf with rfl | hf
      · exact h3
      · exact y_fo_mono h1 (hm f hf)) hl
    exact ⟨ρ2, y_le_tr h1 h4, h5, h6⟩
end
def y_e0 : YE := (1, [(0, 0)])
theorem y_e0_ok : y_E [0] y_e0 := by
  refine ⟨rfl, rfl, fun n b h => ?_⟩
  unfold y_lk at h
  cases hn : Nat.blt n y_e0.1 with
  | false => rw [hn] at h; cases h
  | true =>
    have hn2 : n < 1 := qa_blt' hn
    have : n = 0 := by omega
    subst this
    cases h
    exact ⟨0, rfl, Int.le_refl _, Int.le_refl _⟩
/-- arguments that are what stands in a place -/
def y_eqc (m : YM) (args : List YV) (l : List YEq) : Bool := l.all fun q => match args[q.1]?, y_fd q.2.1 (yc (q.2.2.1 : Int)) (yc (q.2.2.2 : Int)) m with
  | some (.inl a), some (.inl b) => y_eqI a b
  | _, _ => false
theorem y_s_get {ρ : List Int} : ∀ {l : List YV} {R : List LV} {i : Nat} {a : YI}, y_s ρ l R → l[i]? = some (.inl a) → ∃ x : Int32, R[i]? = some (lI x) ∧ y_is ρ a x.toInt
  | [], _, _, _, _, h => by simp at h
  | _ :: _, [], _, _, h, _ => h.elim
  | v :: l, u :: R, 0, a, h, e => by
    have e : v = .inl a := by simpa using e
    subst e
    rcases u with x | x | x
    · exact ⟨x, rfl, h.1⟩
    · exact h.1.elim
    · exact h.1.elim
  | v :: l, u :: R, i + 1, a, h, e => by
    obtain ⟨x, h1, h2⟩ := y_s_get (l := l) (R := R) (i := i) h.2 (by simpa using e)
    exact ⟨x, by simpa using h1, h2⟩
theorem y_eqc_ok {ρ : List Int} {e : YE} {m : YM} {s : LMem} {args : List YV} {As : List LV} {l : List YEq} (hE : y_E ρ e) (ha : y_s ρ args As) (hm : y_m ρ m s) (h : y_eqc m args l = true) : y_eqs s As l := by
  intro q hq
  have h1 := List.all_eq_true.mp h q hq
  obtain ⟨i, k, a, b⟩ := q
  dsimp only at h1 ⊢
  cases h2 : args[i]? with
  | none => rw [h2] at h1; cases h1
  | some v =>
    rcases v with v | v | v
    · cases h3 : y_fd k (yc (a : Int)) (yc (b : Int)) m with
      | none => rw [h2, h3] at h1; cases h1
      | some w =>
        rcases w with w | w | w
        · rw [h2, h3] at h1
          have h4 := y_eqI_ok h1
          subst h4
          obtain ⟨x, h5, h6⟩ := y_s_get ha h2
          have h7 := y_fd_ok (y_is_c hE (a : Int)) (y_is_c hE (b : Int)) hm h3
          exact ⟨x, h5, Int32.toInt_inj.mp (y_is_fun h6 h7)⟩
        · rw [h2, h3] at h1; cases h1
        · rw [h2, h3] at h1; cases h1
    · rw [h2] at h1; cases h1
    · rw [h2] at h1; cases h1
def y_ef (vs : List YV) (m : YM) : List YEq → YM
  | [] => m
  | q :: l => match vs[q.1]? with
    | some (.inl a) => (q.2.1, yc (q.2.2.1 : Int), yc (q.2.2.2 : Int), yI a) :: y_ef vs m l
    | _ => y_ef vs m l
theorem y_ef_ok {ρ : List Int} {e : YE} {m : YM} {s : LMem} {vs : List YV} {As : List LV} (hE : y_E ρ e) (ha : y_s ρ vs As) (hm : y_m ρ m s) : ∀ {l : List YEq}, y_eqs s As l → y_m ρ (y_ef vs m l) s
  | [], _ => hm
  | (i, k, a, b) :: l, h => by
    have ih := y_ef_ok (l := l) hE ha hm (fun q hq => h q (List.mem_cons_of_mem _ hq))
    unfold y_ef
    split
    · rename_i v hv
      obtain ⟨x, h5, h6⟩ := y_s_get ha hv
      obtain ⟨y, h7, h8⟩ := h _ List.mem_cons_self
      have h7 : As[i]? = some (lI y) := h7
      rw [h5] at h7
      cases h7
      intro f hf
      rcases List.mem_cons.mp hf with rfl | hf
      · refine ⟨a, b, y_is_c hE _, y_is_c hE _, ?_⟩
        have h8 : x = gI s k a b := h8
        show y_is ρ v (gI s k a b).toInt
        rw [← h8]
        exact h6
      · exact ih f hf
    · exact ih
/-! the runs -/
def y_fdc (c : Nat) (e : YE) (m : YM) (args : List YV) : List YCt → Option YCt
  | [] => none
  | t :: l => match Nat.beq t.1 c with | true => (match y_sps e t.2.1 args && (y_mcs e m t.2.2.1.1 && y_eqc m args t.2.2.1.2) with | true => some t | false => y_fdc c e m args l) | false => y_fdc c e m args l
theorem y_fdc_ok {c : Nat} {e : YE} {m : YM} {args : List YV} {t : YCt} : ∀ {l : List YCt}, y_fdc c e m args l = some t → t ∈ l ∧ t.1 = c ∧ (y_sps e t.2.1 args && (y_mcs e m t.2.2.1.1 && y_eqc m args t.2.2.1.2)) = true
  | [], h => by cases h
  | u :: l, h => by
    unfold y_fdc at h
    cases h1 : Nat.beq u.1 c with
    | false =>
      rw [h1] at h
      obtain ⟨g1, g2⟩ := y_fdc_ok (l := l) h
      exact ⟨List.mem_cons_of_mem _ g1, g2⟩
    | true =>
      rw [h1] at h
      dsimp only at h
      cases h2 : (y_sps e u.2.1 args && (y_mcs e m u.2.2.1.1 && y_eqc m args u.2.2.1.2)) with
      | false =>
        rw [h2] at h
        obtain ⟨g1, g2⟩ := y_fdc_ok (l := l) h
        exact ⟨List.mem_cons_of_mem _ g1, g2⟩
      | true =>
        rw [h2] at h
        cases h
        exact ⟨List.mem_cons_self, qa_beq h1, h2⟩
def y_kk (rt k : Nat) (v : Option YV) : Option YStk := match rt with
  | 0 => (match v with | some (.inl a) => some [yI a] | _ => none)
  | 1 => (match v with | some (.inl a) => some [yI a] | _ => none)
  | 2 => (match v with | some (.inr (.inl a)) => some [yL a] | _ => none)
  | 3 => (match v with | some (.inr (.inr q)) => (match Nat.beq q.1 k with | true => some [.inr (.inr q)] | false => none) | _ => none)
  | _ => (match v with | none => some [] | _ => none)
theorem y_kk_ok {rt k : Nat} {v : Option YV} {st rest : YStk} {ρ ρ' : List Int} {R : LStk} {r : Option LV} {K : LStk → LMem → Prop} {s : LMem} (h : y_kk rt k v = some st) (hv : y_o ρ' v r) (hle : y_le ρ ρ') (hr : y_s ρ rest R) (hK : ∀ S, y_s ρ' (st ++ rest) S → K S s) : qa_kk rt k K R r s := by
  have hr := y_s_mono hle hr
  rcases rt with _ | _ | _ | _ | rt
  · rcases v with _ | a | a | a
    · cases h
    · cases h
      rcases r with _ | x | x | x
      · exact hv.elim
      · exact Exists.intro x (And.intro rfl (hK _ ⟨hv, hr⟩))
      · exact hv.elim
      · exact hv.elim
    · cases h
    · cases h
  · rcases v with _ | a | a | a
    · cases h
    · cases h
      rcases r with _ | x | x | x
      · exact hv.elim
      · exact Exists.intro x (And.intro rfl (hK _ ⟨hv, hr⟩))
      · exact hv.elim
      · exact hv.elim
    · cases h
    · cases h
  · rcases v with _ | a | a | a
    · cases h
    · cases h
    · cases h
      rcases r with _ | x | x | x
      · exact hv.elim
      · exact hv.elim
      · exact Exists.intro x (And.intro rfl (hK _ ⟨hv, hr⟩))
      · exact hv.elim
    · cases h
  · rcases v with _ | a | a | q
    · cases h
    · cases h
    · cases h
    · have h : (match Nat.beq q.1 k with | true => some [.inr (.inr q)] | false => none) = some st := h
      cases hb : Nat.beq q.1 k with
      | false => rw [hb] at h; cases h
      | true =>
        rw [hb] at h
        cases h
        have hb := qa_beq hb
        rcases r with _ | x | x | ⟨k', o⟩
        · exact hv.elim
        · exact hv.elim
        · exact hv.elim
        · obtain ⟨v1, v2⟩ := hv
          have v1 : q.1 = k' := v1
          have e9 : k' = k := v1.symm.trans hb
          subst e9
          cases o with
          | none => exact Or.inl (And.intro rfl (hK _ ⟨⟨v1, v2⟩, hr⟩))
          | some i => exact Or.inr (Exists.intro i (And.intro rfl (hK _ ⟨⟨v1, v2⟩, hr⟩)))
  · rcases v with _ | a
    · cases h
      rcases r with _ | x
      · exact And.intro rfl (hK _ hr)
      · exact hv.elim
    · cases h
/-- a contract that is used -/
def y_us1 (e : YE) (m : YM) (a : Option YA × List YMS) : YO := match a.1 with
  | none => (.inl none, y_im e m a.2)
  | some b => (.inl (some (y_in1 e b).1), y_im (y_in1 e b).2 m a.2)
def y_use (e : YE) (m : YM) (ct : YCt) : List YO := ct.2.2.2.2.1.map (y_us1 e (y_kw e ct.2.2.2.1 m))
/-- the JDK's own calls: String.indexOf, length -/
def y_ixl (t : Nat) (a : YI) : List Int := match Nat.beq a.1 0 with
  | true => [(qa_ix t (Int32.ofInt a.2)).toInt]
  | false => -1 :: (List.range (qa_sl t).toInt.toNat).map (fun k : Nat => (k : Int))
theorem y_ix_b (t : Nat) (x : Int32) : -1 ≤ (qa_ix t x).toInt ∧ (qa_ix t x).toInt ≤ (qa_sl t).toInt - 1 := by
  have hf : ∀ (l : List Int32) (k : Nat), k + l.length ≤ 100 → -1 ≤ (qa_ixF x l (Int32.ofNat k)).toInt ∧ (qa_ixF x l (Int32.ofNat k)).toInt ≤ (k : Int) + l.length - 1 := by
    intro l
    induction l with
    | nil =>
      intro k hk
      refine ⟨by show (-1 : Int) ≤ (-1 : Int32).toInt; decide, ?_⟩
      show (-1 : Int32).toInt ≤ (k : Int) + 0 - 1
      have : (-1 : Int32).toInt = -1 := by decide
      omega
    | cons b l ih =>
      intro k hk
      have hk : k + (l.length + 1) ≤ 100 := hk
      unfold qa_ixF
      have hl : ((b :: l).length : Int) = l.length + 1 := rfl
      split
      · rw [Int32.toInt_ofNat_of_lt (by omega), hl]
        omega
      · have := ih (k + 1) (by omega)
        rw [show Int32.ofNat k + 1 = Int32.ofNat (k + 1) from (Int32.ofNat_add k 1).symm, hl]
        omega
  unfold qa_ix
  have h := hf (qa_str t) 0 (by unfold qa_str; split <;> decide)
  refine ⟨h.1, ?_⟩
  have h2 : ((0 : Nat) : Int) + (qa_str t).length - 1 = (qa_sl t).toInt - 1 := by unfold qa_str qa_sl; split <;> rfl
  rw [← h2]
  exact h.2
theorem y_ixl_ok {ρ : List Int} {e : YE} {t : Nat} {a : YI} {x : Int32} (hE : y_E ρ e) (ha : y_is ρ a x.toInt) : (qa_ix t x).toInt ∈ y_ixl t a := by
  unfold y_ixl
  cases h0 : Nat.beq a.1 0 with
  | true =>
    have hx2 := y_is_0 hE ha h0
    rw [← hx2, Int32.ofInt_toInt]
    exact List.mem_cons_self
  | false =>
    obtain ⟨h1, h2⟩ := y_ix_b t x
    by_cases h3 : (qa_ix t x).toInt = -1
    · rw [h3]
      exact List.mem_cons_self
    · refine List.mem_cons_of_mem _ (List.mem_map.mpr ⟨(qa_ix t x).toInt.toNat, List.mem_range.mpr (by omega), by omega⟩)
def y_int (c : Nat) (e : YE) (m : YM) (args : List YV) : Option (List YO) := match Nat.beq c 1005 with
  | true => (match args with
    | [.inr (.inr q), .inl a] => (match (Nat.beq q.1 64 && (y_nn e q.2.1 && Nat.beq q.2.2.1.1 0)) && (match y_bd e a with | some p => decide (0 ≤ p.1) && decide (p.2 ≤ 255) | none => false) with
      | true => some ((y_ixl q.2.2.1.2.toNat a).map fun v => (.inl (some (yI (yc v))), e, m))
      | false => none)
    | _ => none)
  | false => (match Nat.beq c 1006 with
    | true => (match args with
      | [.inr (.inr q)] => (match Nat.beq q.1 64 && (y_nn e q.2.1 && Nat.beq q.2.2.1.1 0) with
        | true => some [(.inl (some (yI (yc (qa_sl q.2.2.1.2.toNat).toInt))), e, m)]
        | false => none)
      | _ => none)
    | false => none)
theorem y_int_ok {c : Nat} {e : YE} {m : YM} {args : List YV} {os : List YO} (h : y_int c e m args = some os) {ρ : List Int} {As : List LV} {s : LMem} {Q : LPost} {X : LMem → Prop} {W : List YW} {s0 : LMem} (hE : y_E ρ e) (ha : y_s ρ args As) (hm : y_K X W s0 ρ m s)
    (hQ : ∀ o ∈ os, ∀ ρ', y_le ρ ρ' → y_E ρ' o.2.1 → ∀ s', y_K X W s0 ρ' o.2.2 s' → ∀ v, o.1 = .inl v → ∀ r, y_o ρ' v r → Q r s') : qa_intr c As s Q := by
  unfold y_int at h
  cases e5 : Nat.beq c 1005 with
  | true =>
    rw [e5] at h
    have e := qa_beq e5
    subst e
    dsimp only at h
    split at h
    · rename_i q a
      match As, ha with
      | [.inr (.inr (k, o)), .inl x], ⟨⟨hq, hq2⟩, hx, _⟩ =>
        have hq : q.1 = k := hq
        subst hq
        split at h
        · rename_i hb
          cases h
          obtain ⟨b1, b2⟩ := qa_and hb
          obtain ⟨b1, b3⟩ := qa_and b1
          obtain ⟨b3, b4⟩ := qa_and b3
          obtain ⟨i, rfl, g1, g2⟩ := y_nn_ok hE hq2 b3
          have hi := y_is_0 hE g1 b4
          have hk := qa_beq b1
          have ht : q.2.2.1.2.toNat = i := by omega
          rw [ht] at hQ
          rw [hk]
          cases hbd : y_bd e a with
          | none => rw [hbd] at b2; cases b2
          | some p =>
            rw [hbd] at b2
            obtain ⟨c1, c2⟩ := qa_and b2
            have c1 := of_decide_eq_true c1
            have c2 := of_decide_eq_true c2
            obtain ⟨u1, u2⟩ := y_bd_ok hE hx hbd
            have hv := y_ixl_ok (t := i) hE hx
            exact ⟨⟨Int32.le_iff_toInt_le.mpr (show (0 : Int) ≤ x.toInt by omega), Int32.lt_iff_toInt_lt.mpr (show x.toInt < (256 : Int) by omega)⟩, hQ _ (List.mem_map.mpr ⟨_, hv, rfl⟩) ρ (y_le_rf ρ) hE s hm _ rfl (some (lI (qa_ix i x))) (y_is_c hE _)⟩
        · cases h
    · cases h
  | false =>
    rw [e5] at h
    dsimp only at h
    cases e6 : Nat.beq c 1006 with
    | false => rw [e6] at h; cases h
    | true =>
      rw [e6] at h
      have e := qa_beq e6
      subst e
      dsimp only at h
      split at h
      · rename_i q
        match As, ha with
        | [.inr (.inr (k, o))], ⟨⟨hq, hq2⟩, _⟩ =>
          have hq : q.1 = k := hq
          subst hq
          split at h
          · rename_i hb
            cases h
            obtain ⟨b1, b3⟩ := qa_and hb
            obtain ⟨b3, b4⟩ := qa_and b3
            obtain ⟨i, rfl, g1, g2⟩ := y_nn_ok hE hq2 b3
            have hi := y_is_0 hE g1 b4
            have hk := qa_beq b1
            have ht : q.2.2.1.2.toNat = i := by omega
            rw [ht] at hQ
            rw [hk]
            exact hQ _ List.mem_cons_self ρ (y_le_rf ρ) hE s hm _ rfl (some (lI (qa_sl i))) (y_is_c hE _)
          · cases h
      · cases h
theorem qC_intr {d c : Nat} {a : List LV} {s : LMem} {Q : LPost} (hc : Nat.ble 1000 c = true) (h : qa_intr c a s Q) : qC false d c a s Q := by
  refine ⟨0, ?_⟩
  unfold qa_cm
  rw [hc]
  exact h
def y_cm (CT : List YCt) (W : List YW) (Y : Nat → List Nat → Nat → YT → Option (List YO)) (D : Nat) (t : YC) : Option (List YO) := match Nat.ble 1000 t.1 with
  | true => y_int t.1 t.2.2.2.2.2.1 t.2.2.2.2.2.2.2.2 t.2.2.2.1
  | false => match y_fdc t.1 t.2.2.2.2.2.1 t.2.2.2.2.2.2.2.2 t.2.2.2.1 CT with
  | some ct => (match Nat.ble ct.2.2.2.2.2 D && y_sub2 ct.2.2.2.1 W with | true => some (y_use t.2.2.2.2.2.1 t.2.2.2.2.2.2.2.2 ct) | false => none)
  | none => (match Nat.blt t.1 1000 && Nat.ble (y_exp t.2.2.2.1).length (qa_mL t.1) with
    | true => (match D with | 0 => none | D + 1 => Y D [] t.1 (0, t.2.2.2.2.2.1, y_mk t.2.2.2.1 (qa_mL t.1), [], t.2.2.2.2.2.2.2.2))
    | false => none)
def y_bod (CT : List YCt) (W : List YW) (Y : Nat → List Nat → Nat → YT → Option (List YO)) (D : Nat) (cuts : List Nat) (mi : Nat) (t : YT) : Option (List YO) := match qa_ft mi t.1 with
  | none => none
  | some en => (match qy_1 W mi en t.1 t.2.1 t.2.2.1 t.2.2.2.1 t.2.2.2.2 with
    | none => none
    | some (.inl ts) => z_all (Y D cuts mi) ts
    | some (.inr (.inl c)) => (match y_cm CT W Y D c with
      | none => none
      | some os => z_all (fun o => match o.1 with
        | .inl v => (match y_kk c.2.1 c.2.2.1 v with | some st => Y D cuts mi (c.2.2.2.2.1, o.2.1, c.2.2.2.2.2.2.1, st ++ c.2.2.2.2.2.2.2.1, o.2.2) | none => none)
        | .inr _ => none) os)
    | some (.inr (.inr o)) => some [(.inl o.1, o.2.1, o.2.2)])
def yz (CT : List YCt) (W : List YW) : Nat → Nat → List Nat → Nat → YT → Option (List YO)
  | 0 => fun _ _ _ _ => none
  | f + 1 => fun D cuts mi t => match qa_cut cuts t.1 with
    | true => some [(.inr (t.1, t.2.2.1, t.2.2.2.1), t.2.1, t.2.2.2.2)]
    | false => y_bod CT W (yz CT W f) D cuts mi t
section YZ
variable {X : LMem → Prop} {W : List YW} {s0 : LMem} {CT : List YCt}
/-- what is wanted behind an outcome -/
def y_aft (X : LMem → Prop) (W : List YW) (s0 : LMem) (d mi bc bs : Nat) (Q : LPost) (ρ : List Int) (o : YO) : Prop := ∀ ρ', y_le ρ ρ' → y_E ρ' o.2.1 → ∀ s', y_K X W s0 ρ' o.2.2 s' → match o.1 with
  | .inl v => ∀ r, y_o ρ' v r → Q r s'
  | .inr q => ∀ L S, y_l ρ' q.2.1 L → y_s ρ' q.2.2 S → qW false d mi bc bs q.1 L S s' Q
def y_Yok (X : LMem → Prop) (W : List YW) (s0 : LMem) (Y : Nat → List Nat → Nat → YT → Option (List YO)) : Prop := ∀ D cuts mi t os, Y D cuts mi t = some os → ∀ d, D ≤ d → ∀ (bc bs : Nat) (ρ : List Int) (L : LLoc) (S : LStk) (s : LMem) (Q : LPost), y_E ρ t.2.1 → y_l ρ t.2.2.1 L → y_s ρ t.2.2.2.1 S → y_K X W s0 ρ t.2.2.2.2 s → (∀ o ∈ os, y_aft X W s0 d mi bc bs Q ρ o) → qW false d mi bc bs t.1 L S s Q
theorem y_cm_ok (hCT : ∀ ct ∈ CT, y_con X ct) {Y : Nat → List Nat → Nat → YT → Option (List YO)} (hY : y_Yok X W s0 Y) {D d : Nat} (hd : D ≤ d) {t : YC} {os : List YO} (h : y_cm CT W Y D t = some os) {ρ : List Int} {As : List LV} {s : LMem} {Q : LPost} (hE : y_E ρ t.2.2.2.2.2.1) (ha : y_s ρ t.2.2.2.1 As) (hm : y_K X W s0 ρ t.2.2.2.2.2.2.2.2 s)
    (hQ : ∀ o ∈ os, ∀ ρ', y_le ρ ρ' → y_E ρ' o.2.1 → ∀ s', y_K X W s0 ρ' o.2.2 s' → ∀ v, o.1 = .inl v → ∀ r, y_o ρ' v r → Q r s') (hno : ∀ o ∈ os, ∃ v, o.1 = .inl v) : qC false d t.1 As s Q := by
  unfold y_cm at h
  cases h10 : Nat.ble 1000 t.1 with
  | true =>
    rw [h10] at h
    exact qC_intr h10 (y_int_ok h hE ha hm hQ)
  | false =>
  rw [h10] at h
  dsimp only at h
  cases hf : y_fdc t.1 t.2.2.2.2.2.1 t.2.2.2.2.2.2.2.2 t.2.2.2.1 CT with
  | some ct =>
    rw [hf] at h
    dsimp only at h
    obtain ⟨g1, g2, g3⟩ := y_fdc_ok hf
    obtain ⟨g3, g4⟩ := qa_and g3
    obtain ⟨g4, g5⟩ := qa_and g4
    cases hb : (Nat.ble ct.2.2.2.2.2 D && y_sub2 ct.2.2.2.1 W) with
    | false => rw [hb] at h; cases h
    | true =>
      rw [hb] at h
      cases h
      obtain ⟨b1, b2⟩ := qa_and hb
      rw [← g2]
      refine hCT ct g1 d (Nat.le_trans (Nat.le_of_ble_eq_true b1) hd) As s Q (y_sps_ok hE ha g3) hm.2.1 ⟨y_mcs_ok hE hm.1 hm.2.1.1 g4, y_eqc_ok hE ha hm.1 g5⟩ fun r s' r1 r2 r3 => ?_
      obtain ⟨a, ha1, ha2, ha3⟩ := r1
      have k1 : y_m ρ (y_kw t.2.2.2.2.2.1 ct.2.2.2.1 t.2.2.2.2.2.2.2.2) s' := y_kw_ok hE hm.1 r3
      have hmem : y_us1 t.2.2.2.2.2.1 (y_kw t.2.2.2.2.2.1 ct.2.2.2.1 t.2.2.2.2.2.2.2.2) a ∈ y_use t.2.2.2.2.2.1 t.2.2.2.2.2.2.2.2 ct := List.mem_map.mpr ⟨a, ha1, rfl⟩
      obtain ⟨a1, a2⟩ := a
      rcases a1 with _ | b
      · rcases r with _ | r
        · obtain ⟨ρ', w1, w2, w3⟩ := y_im_ok hE k1 ha3
          exact hQ _ hmem ρ' w1 w2 s' ⟨w3, r2, y_Fr_tr b2 hm.2.2 r3⟩ none rfl none trivial
        · exact ha2.elim
      · rcases r with _ | r
        · exact ha2.elim
        · obtain ⟨ρ1, u1, u2, u3⟩ := y_in1_ok hE ha2
          obtain ⟨ρ', w1, w2, w3⟩ := y_im_ok u2 (y_m_mono u1 k1) ha3
          exact hQ _ hmem ρ' (y_le_tr u1 w1) w2 s' ⟨w3, r2, y_Fr_tr b2 hm.2.2 r3⟩ _ rfl (some r) (y_v_mono w1 u3)
  | none =>
    rw [hf] at h
    dsimp only at h
    cases hb : (Nat.blt t.1 1000 && Nat.ble (y_exp t.2.2.2.1).length (qa_mL t.1)) with
    | false => rw [hb] at h; cases h
    | true =>
      rw [hb] at h
      dsimp only at h
      obtain ⟨b1, b2⟩ := qa_and hb
      cases D with
      | zero => cases h
      | succ D =>
        obtain ⟨d', rfl⟩ : ∃ d', d = d' + 1 := ⟨d - 1, by omega⟩
        have hc : Nat.ble 1000 t.1 = false := by
          cases hc : Nat.ble 1000 t.1 with
          | false => rfl
          | true =>
            have := Nat.le_of_ble_eq_true hc
            have := qa_blt' b1
            omega
        rw [y_l_len (y_exp_ok ha)] at b2
        refine qC_of hc b2 ?_
        refine hY D [] t.1 _ os h d' (by omega) _ _ ρ _ _ s Q hE (y_mk_ok ha _) trivial hm fun o ho ρ' u1 u2 s' u3 => ?_
        obtain ⟨v, hv⟩ := hno o ho
        have h9 := hQ o ho ρ' u1 u2 s' u3 v hv
        rw [hv]
        exact h9
theorem y_bod_ok (hX : y_cl X) (hCT : ∀ ct ∈ CT, y_con X ct) {Y : Nat → List Nat → Nat → YT → Option (List YO)} (hY : y_Yok X W s0 Y) : y_Yok X W s0 (y_bod CT W Y) := by
  intro D cuts mi t os h d hd bc bs ρ L S s Q hE hl hs hm hQ
  unfold y_bod at h
  cases he : qa_ft mi t.1 with
  | none => rw [he] at h; cases h
  | some en =>
    rw [he] at h
    dsimp only at h
    refine qW_step he ?_
    cases h1 : qy_1 W mi en t.1 t.2.1 t.2.2.1 t.2.2.2.1 t.2.2.2.2 with
    | none => rw [h1] at h; cases h
    | some zn =>
      rw [h1] at h
      have hr := qy_1_ok (bc := bc) (bs := bs) hX hE hl hs hm h1
      generalize qa_ins false mi bc bs en t.1 L S s = nx at hr ⊢
      rcases zn with ts | c | o
      · dsimp only at h
        refine hr _ _ _ fun t' ht ρ' L' S' s' u0 u1 u2 u3 u4 => ?_
        obtain ⟨x, h4, h5⟩ := z_all_mem h t' ht
        exact hY D cuts mi t' x h4 d hd bc bs ρ' L' S' s' Q u1 u2 u3 u4 (fun o ho ρ2 w0 w1 s2 w2 => hQ o (h5 o ho) ρ2 (y_le_tr u0 w0) w1 s2 w2)
      · dsimp only at h
        cases h2 : y_cm CT W Y D c with
        | none => rw [h2] at h; cases h
        | some os2 =>
          rw [h2] at h
          dsimp only at h
          obtain ⟨g, act⟩ := nx
          obtain ⟨hg, A, L', S', s', rfl, u1, u2, u3, u4, u5⟩ := hr
          refine z_gd hg ?_
          show qC false d c.1 A s' (qa_kk c.2.1 c.2.2.1 (fun st s' => qW false d mi bc bs c.2.2.2.2.1 L' st s' Q) S')
          refine y_cm_ok hCT hY hd h2 u1 u2 u5 (fun o ho ρ' w0 w1 s2 w2 v hv r w3 => ?_) (fun o ho => ?_)
          · obtain ⟨x, h7, h8⟩ := z_all_mem h o ho
            rw [hv] at h7
            dsimp only at h7
            cases h9 : y_kk c.2.1 c.2.2.1 v with
            | none => rw [h9] at h7; cases h7
            | some st =>
              rw [h9] at h7
              exact y_kk_ok h9 w3 w0 u4 fun S2 w4 => hY D cuts mi _ x h7 d hd bc bs ρ' L' S2 s2 Q w1 (y_l_mono w0 u3) w4 w2 (fun o ho ρ2 v0 v1 s3 v2 => hQ o (h8 o ho) ρ2 (y_le_tr w0 v0) v1 s3 v2)
          · obtain ⟨x, h7, h8⟩ := z_all_mem h o ho
            obtain ⟨o1, o2⟩ := o
            rcases o1 with v | q
            · exact ⟨v, rfl⟩
            · cases h7
      · dsimp only at h
        cases h
        obtain ⟨g, act⟩ := nx
        obtain ⟨hg, r, s', rfl, u1, u2, u3⟩ := hr
        exact z_gd hg (hQ _ List.mem_cons_self ρ (y_le_rf ρ) u1 s' u3 r u2)
theorem yz_ok (hX : y_cl X) (hCT : ∀ ct ∈ CT, y_con X ct) : ∀ f, y_Yok X W s0 (yz CT W f) := by
  intro f
  induction f with
  | zero => intro D cuts mi t os h; cases h
  | succ f ih =>
    intro D cuts mi t os h d hd bc bs ρ L S s Q hE hl hs hm hQ
    have h : (match qa_cut cuts t.1 with
      | true => some [(.inr (t.1, t.2.2.1, t.2.2.2.1), t.2.1, t.2.2.2.2)]
      | false => y_bod CT W (yz CT W f) D cuts mi t) = some os := h
    cases hc : qa_cut cuts t.1 with
    | true =>
      rw [hc] at h
      cases h
      exact hQ _ List.mem_cons_self ρ (y_le_rf ρ) hE s hm L S hl hs
    | false =>
      rw [hc] at h
      exact y_bod_ok hX hCT ih D cuts mi t os h d hd bc bs ρ L S s Q hE hl hs hm hQ
end YZ
